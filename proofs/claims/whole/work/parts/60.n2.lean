theorem up_R (R : List Nat) (q : Nat) : va_up (fun k => R[k]?) R.length (some q) = fun k => (R ++ [q])[k]? := by
  funext j
  by_cases e : j = R.length
  · subst e; rw [va_up_self, List.getElem?_append_right (Nat.le_refl _), Nat.sub_self]; rfl
  · rw [va_up_ne _ _ e]
    by_cases h : j < R.length
    · rw [List.getElem?_append_left h]
    · rw [List.getElem?_append_right (by omega), List.getElem?_eq_none (by omega), List.getElem?_eq_none (by simp; omega)]
theorem in_R {R : List Nat} {N : Nat} (h : R.length < N) (hN : N < 1000) : vp_in (nI R.length) N := vp_in_nI h (by omega)
theorem prow_ge {c n : Nat} (hn : n < 801) {d : Nat} (h : 801 ≤ c * c + d * d) : prow c n (d + 1) = prow c n d := by
  rw [prow, if_neg (by omega), Nat.add_zero]
theorem prs_no {f : Nat → Int32} {c d : Nat} (hf : ∀ n, n < 801 → f n = nI (pall n c + prow c n d)) (h : 801 ≤ c * c + d * d) : ∀ n, n < 801 → f n = nI (pall n c + prow c n (d + 1)) := fun n hn => by
  rw [prow_ge hn h]; exact hf n hn
theorem prs_up {f : Nat → Int32} {c d w : Nat} {v : Int32} (hf : ∀ n, n < 801 → f n = nI (pall n c + prow c n d)) (hs : c * c + d * d < 801) (hw : pwt c * pwt d = w) (hv : v = f (c * c + d * d) + nI w) : ∀ n, n < 801 → upd f (c * c + d * d) v n = nI (pall n c + prow c n (d + 1)) := fun n hn => by
  by_cases e : n = c * c + d * d
  · subst e
    rw [pk_us, hv, hf _ hs, prow, if_pos rfl, nI_add, hw, Nat.add_assoc]
  · rw [pk_un e, prow, if_neg (fun q => e q.symm), Nat.add_zero]; exact hf n hn
theorem pwt_0 {c : Nat} (h : nI c = 0) (hc : c ≤ 28) : pwt c = 1 := if_pos ((nI_eq (a := c) (b := 0) (by omega) (by decide)).mp h)
theorem pwt_n {c : Nat} (h : ¬ nI c = 0) : pwt c = 2 := if_neg (fun q => h (by rw [q]; rfl))
theorem sqc {c : Nat} (h : c ≤ 28) : c * c ≤ 784 := Nat.mul_le_mul h h
set_option maxHeartbeats 8000000 in
set_option maxRecDepth 100000 in
theorem c_X4_init (l : Launch) (G : GG) (A : Nat → Prop) (L : List Nat) (F : FM) (o : Nat) (e0 : pt L F o (.inr (4, [.null, .null, .null, .int 0]))) : NT l yX4_init wsX4_init { frames := 2, cells := 15, slots := 68, locals := 32 } G A L o F (fun L2 F2 => ∃ (fr pq lf : Nat) (R : List Nat), L2 = L ++ [fr, pq, lf] ++ R ∧ R.length = 12 ∧ (∀ a, a ∈ L → a ≠ o → F2 a = F a) ∧ F2 o = .inr (4, [.ref fr, .ref pq, .ref lf, .int 0]) ∧ F2 fr = eRQ G 12 (fun k => R[k]?) ∧ F2 pq = eq4 (0, 0, 0, 0) ∧ F2 lf = eq4 (0, 0, 0, 0) ∧ ∀ a, a ∈ R → F2 a = eq4 (0, 0, 0, 0)) 15 68 := by
  refine NT.ofW (cc := cX4_init) (maxL := 2) (plainFor_of_name (by decide)) rfl rfl (by decide) ?_
  intro p e s m below meth c ls hx hb hr hml hown hts hlk hin hC hw hl
  have hown : s.vm.findClass RX4 = some m.cls := hown
  have hE := hC.1
  have hA := hC.2.2.2
  have kp : ∀ a, a ∈ L → a ≠ o → F a = F a := fun _ _ _ => rfl
  have lk_11 := hts (.fieldLink RX4 11 "FourParts$Way" "factors" "[LFourParts$Quad;") (by decide +kernel)
  have hinX4 : ∀ w ∈ u_ws RX4 TX4 4, w ∈ wsX4_init := by decide +kernel
  have hinX1 : ∀ w ∈ u_ws RX1 TX1 4, w ∈ wsX4_init := by decide +kernel
  have lk_18 := hts (.fieldLink RX4 18 "FourParts$Way" "prime" "LFourParts$Quad;") (by decide +kernel)
  have lk_22 := hts (.fieldLink RX4 22 "FourParts$Way" "left" "LFourParts$Quad;") (by decide +kernel)
  have lk_25 := hts (.fieldLink RX4 25 "FourParts$Way" "count" "I") (by decide +kernel)
  refine lv_aload_n hx hb dX4_init_0 rfl (lv_at hl 0 rfl) ?_
  refine W.objInit hx hb hown (hts (.methodLink RX4 3 objectInit) (by decide +kernel)) (hts (.instanceMethod objectInit) (by decide +kernel)) (hts (.code objectInit ⟨#[0xb1]⟩ 1 none) (by decide +kernel)) rfl (by rw [hml]; exact hl.1) rfl dX4_init_1 (Nat.le_of_ble_eq_true rfl) (Nat.le_of_ble_eq_true rfl) ?_
  refine W.eq (g2 := F0 m 4 ls []) rfl ?_
  refine lv_aload_n hx hb dX4_init_4 rfl (lv_at hl 0 rfl) ?_
  refine lv_bipush (v := 12) hx hb dX4_init_5 (by decide) ?_
  refine h_newQ hx hb hE.1 hw hA hown (hts (.classLink RX4 9 RX1) (by decide +kernel)) hC.2.2.1.1 12 rfl (by decide) (by first | decide | (show _ ≤ 15; omega)) (by first | decide | (show _ ≤ 68; omega)) dX4_init_7 (fun fr H hfr hw => ?_)
  obtain ⟨FF1, hFF1⟩ : ∃ Fx : FM, Fx = va_up F fr (eRQ G 12 (fun _ => none)) := ⟨_, rfl⟩
  rw [← hFF1] at hw
  have f_o : pt (L ++ [fr]) FF1 o (.inr (4, [.null, .null, .null, .int 0])) := by rw [hFF1]; exact (pt_push e0 hfr)
  have f_fr : pt (L ++ [fr]) FF1 fr (eRQ G 12 (fun _ => none)) := by rw [hFF1]; exact pt_new
  have kp : ∀ a, a ∈ L → a ≠ o → FF1 a = F a := by rw [hFF1]; exact fun a ha hne => (va_up_ne _ _ (nem ha hfr)).trans (kp a ha hne)
  refine h_putF hx hb hE.1 hw hts hinX4 tyX4 tyX4_ok nmX4 hown (ci := 4) rfl 0 (by decide) lk_11 (fun _ h9 => h9) rfl hin rfl f_o (ty := .array (.object "FourParts$Quad")) (by decide +kernel) rfl rfl (Nat.le_of_ble_eq_true rfl) (fs2 := [.ref fr, .null, .null, .int 0]) rfl dX4_init_10 (fun H locs hw => ?_)
  obtain ⟨FF2, hFF2⟩ : ∃ Fx : FM, Fx = va_up FF1 o (.inr (4, [.ref fr, .null, .null, .int 0])) := ⟨_, rfl⟩
  rw [← hFF2] at hw
  have f_fr : pt (L ++ [fr]) FF2 fr (eRQ G 12 (fun _ => none)) := by rw [hFF2]; exact (pt_ne f_fr (pt_ap f_fr f_o (fun h9 => absurd (show (1123 : Nat) = 4 from congrArg tg h9) (by decide))))
  have f_o : pt (L ++ [fr]) FF2 o (.inr (4, [.ref fr, .null, .null, .int 0])) := by rw [hFF2]; exact (pt_up f_o)
  have kp : ∀ a, a ∈ L → a ≠ o → FF2 a = F a := by rw [hFF2]; exact fun a ha hne => (va_up_ne _ _ hne).trans (kp a ha hne)
  refine lv_aload_n hx hb dX4_init_13 rfl (lv_at hl 0 rfl) ?_
  refine h_new hx hb hE.1 hw hA hts hinX1 tyX1 tyX1_ok hown (hts (.classLink RX4 9 RX1) (by decide +kernel)) (hts (.instantiable RX1 4) (by decide +kernel)) (hts (.initialized RX1) (by decide +kernel)) (ci := 1) rfl (fs := [.long 0, .long 0, .long 0, .long 0]) (fun j hj => by rcases (show j = 0 ∨ j = 1 ∨ j = 2 ∨ j = 3 by omega) with rfl | rfl | rfl | rfl <;> rfl) (by first | decide | (show _ ≤ 15; omega)) (by first | decide | (show _ ≤ 68; omega)) dX4_init_14 (fun pq H hpq hw => ?_)
  obtain ⟨FF3, hFF3⟩ : ∃ Fx : FM, Fx = va_up FF2 pq (.inr (1, [.long 0, .long 0, .long 0, .long 0])) := ⟨_, rfl⟩
  rw [← hFF3] at hw
  have f_fr : pt ((L ++ [fr]) ++ [pq]) FF3 fr (eRQ G 12 (fun _ => none)) := by rw [hFF3]; exact (pt_push f_fr hpq)
  have f_o : pt ((L ++ [fr]) ++ [pq]) FF3 o (.inr (4, [.ref fr, .null, .null, .int 0])) := by rw [hFF3]; exact (pt_push f_o hpq)
  have f_pq : pt ((L ++ [fr]) ++ [pq]) FF3 pq (.inr (1, [.long 0, .long 0, .long 0, .long 0])) := by rw [hFF3]; exact pt_new
  have kp : ∀ a, a ∈ L → a ≠ o → FF3 a = F a := by rw [hFF3]; exact fun a ha hne => (va_up_ne _ _ (nem (List.mem_append_left _ ha) hpq)).trans (kp a ha hne)
  refine lv_dup hx hb dX4_init_17 rfl ?_
  refine h_callHN [.ref pq, .ref o] ⟨hx, hb, hml, hown, hts⟩ hE hw (c_X1_init l G A ((L ++ [fr]) ++ [pq]) FF3 pq) ⟨va_cnB 0 hts gX4_init_X1_init_n17 rfl rfl rfl hC.2.1.2.2.1 (hts (.initialized RX1) (by decide +kernel)) (by decide +kernel) ⟨Nat.le_of_ble_eq_true rfl, Nat.le_of_ble_eq_true rfl⟩, rfl, (hts (.instanceMethod yX1_init) (by decide +kernel))⟩ hl.1 (Nat.le_of_ble_eq_true rfl) dX4_init_18 ⟨(by first | decide | (show _ ≤ 15; omega)), (by first | decide | (show _ ≤ 68; omega))⟩ (fun H locs hw => ?_)
  refine h_putF hx hb hE.1 hw hts hinX4 tyX4 tyX4_ok nmX4 hown (ci := 4) rfl 1 (by decide) lk_18 (fun _ h9 => h9) rfl hin rfl f_o (ty := .object "FourParts$Quad") (by decide +kernel) rfl rfl (Nat.le_of_ble_eq_true rfl) (fs2 := [.ref fr, .ref pq, .null, .int 0]) rfl dX4_init_21 (fun H locs hw => ?_)
  obtain ⟨FF4, hFF4⟩ : ∃ Fx : FM, Fx = va_up FF3 o (.inr (4, [.ref fr, .ref pq, .null, .int 0])) := ⟨_, rfl⟩
  rw [← hFF4] at hw
  have f_fr : pt ((L ++ [fr]) ++ [pq]) FF4 fr (eRQ G 12 (fun _ => none)) := by rw [hFF4]; exact (pt_ne f_fr (pt_ap f_fr f_o (fun h9 => absurd (show (1123 : Nat) = 4 from congrArg tg h9) (by decide))))
  have f_pq : pt ((L ++ [fr]) ++ [pq]) FF4 pq (.inr (1, [.long 0, .long 0, .long 0, .long 0])) := by rw [hFF4]; exact (pt_ne f_pq (pt_ap f_pq f_o (fun h9 => absurd (show (1 : Nat) = 4 from congrArg tg h9) (by decide))))
  have f_o : pt ((L ++ [fr]) ++ [pq]) FF4 o (.inr (4, [.ref fr, .ref pq, .null, .int 0])) := by rw [hFF4]; exact (pt_up f_o)
  have kp : ∀ a, a ∈ L → a ≠ o → FF4 a = F a := by rw [hFF4]; exact fun a ha hne => (va_up_ne _ _ hne).trans (kp a ha hne)
  refine lv_aload_n hx hb dX4_init_24 rfl (lv_at hl 0 rfl) ?_
  refine h_new hx hb hE.1 hw hA hts hinX1 tyX1 tyX1_ok hown (hts (.classLink RX4 9 RX1) (by decide +kernel)) (hts (.instantiable RX1 4) (by decide +kernel)) (hts (.initialized RX1) (by decide +kernel)) (ci := 1) rfl (fs := [.long 0, .long 0, .long 0, .long 0]) (fun j hj => by rcases (show j = 0 ∨ j = 1 ∨ j = 2 ∨ j = 3 by omega) with rfl | rfl | rfl | rfl <;> rfl) (by first | decide | (show _ ≤ 15; omega)) (by first | decide | (show _ ≤ 68; omega)) dX4_init_25 (fun lf H hlf hw => ?_)
  obtain ⟨FF5, hFF5⟩ : ∃ Fx : FM, Fx = va_up FF4 lf (.inr (1, [.long 0, .long 0, .long 0, .long 0])) := ⟨_, rfl⟩
  rw [← hFF5] at hw
  have f_fr : pt (((L ++ [fr]) ++ [pq]) ++ [lf]) FF5 fr (eRQ G 12 (fun _ => none)) := by rw [hFF5]; exact (pt_push f_fr hlf)
  have f_pq : pt (((L ++ [fr]) ++ [pq]) ++ [lf]) FF5 pq (.inr (1, [.long 0, .long 0, .long 0, .long 0])) := by rw [hFF5]; exact (pt_push f_pq hlf)
  have f_o : pt (((L ++ [fr]) ++ [pq]) ++ [lf]) FF5 o (.inr (4, [.ref fr, .ref pq, .null, .int 0])) := by rw [hFF5]; exact (pt_push f_o hlf)
  have f_lf : pt (((L ++ [fr]) ++ [pq]) ++ [lf]) FF5 lf (.inr (1, [.long 0, .long 0, .long 0, .long 0])) := by rw [hFF5]; exact pt_new
  have kp : ∀ a, a ∈ L → a ≠ o → FF5 a = F a := by rw [hFF5]; exact fun a ha hne => (va_up_ne _ _ (nem (List.mem_append_left _ (List.mem_append_left _ ha)) hlf)).trans (kp a ha hne)
  refine lv_dup hx hb dX4_init_28 rfl ?_
  refine h_callHN [.ref lf, .ref o] ⟨hx, hb, hml, hown, hts⟩ hE hw (c_X1_init l G A (((L ++ [fr]) ++ [pq]) ++ [lf]) FF5 lf) ⟨va_cnB 0 hts gX4_init_X1_init_n17 rfl rfl rfl hC.2.1.2.2.1 (hts (.initialized RX1) (by decide +kernel)) (by decide +kernel) ⟨Nat.le_of_ble_eq_true rfl, Nat.le_of_ble_eq_true rfl⟩, rfl, (hts (.instanceMethod yX1_init) (by decide +kernel))⟩ hl.1 (Nat.le_of_ble_eq_true rfl) dX4_init_29 ⟨(by first | decide | (show _ ≤ 15; omega)), (by first | decide | (show _ ≤ 68; omega))⟩ (fun H locs hw => ?_)
  refine h_putF hx hb hE.1 hw hts hinX4 tyX4 tyX4_ok nmX4 hown (ci := 4) rfl 2 (by decide) lk_22 (fun _ h9 => h9) rfl hin rfl f_o (ty := .object "FourParts$Quad") (by decide +kernel) rfl rfl (Nat.le_of_ble_eq_true rfl) (fs2 := [.ref fr, .ref pq, .ref lf, .int 0]) rfl dX4_init_32 (fun H locs hw => ?_)
  obtain ⟨FF6, hFF6⟩ : ∃ Fx : FM, Fx = va_up FF5 o (.inr (4, [.ref fr, .ref pq, .ref lf, .int 0])) := ⟨_, rfl⟩
  rw [← hFF6] at hw
  have f_fr : pt (((L ++ [fr]) ++ [pq]) ++ [lf]) FF6 fr (eRQ G 12 (fun _ => none)) := by rw [hFF6]; exact (pt_ne f_fr (pt_ap f_fr f_o (fun h9 => absurd (show (1123 : Nat) = 4 from congrArg tg h9) (by decide))))
  have f_pq : pt (((L ++ [fr]) ++ [pq]) ++ [lf]) FF6 pq (.inr (1, [.long 0, .long 0, .long 0, .long 0])) := by rw [hFF6]; exact (pt_ne f_pq (pt_ap f_pq f_o (fun h9 => absurd (show (1 : Nat) = 4 from congrArg tg h9) (by decide))))
  have f_lf : pt (((L ++ [fr]) ++ [pq]) ++ [lf]) FF6 lf (.inr (1, [.long 0, .long 0, .long 0, .long 0])) := by rw [hFF6]; exact (pt_ne f_lf (pt_ap f_lf f_o (fun h9 => absurd (show (1 : Nat) = 4 from congrArg tg h9) (by decide))))
  have f_o : pt (((L ++ [fr]) ++ [pq]) ++ [lf]) FF6 o (.inr (4, [.ref fr, .ref pq, .ref lf, .int 0])) := by rw [hFF6]; exact (pt_up f_o)
  have kp : ∀ a, a ∈ L → a ≠ o → FF6 a = F a := by rw [hFF6]; exact fun a ha hne => (va_up_ne _ _ hne).trans (kp a ha hne)
  refine lv_aload_n hx hb dX4_init_35 rfl (lv_at hl 0 rfl) ?_
  refine lv_iconst (v := 0) hx hb dX4_init_36 (by decide) ?_
  refine h_put hx hb hE hw hts hinX4 tyX4 tyX4_ok nmX4 hown (ci := 4) rfl 3 (by decide) lk_25 (fun _ h9 => h9) rfl f_o (ty := .int) rfl rfl rfl (Nat.le_of_ble_eq_true rfl) (fs2 := [.ref fr, .ref pq, .ref lf, .int 0]) rfl dX4_init_37 (fun H locs hw => ?_)
  obtain ⟨FF7, hFF7⟩ : ∃ Fx : FM, Fx = va_up FF6 o (.inr (4, [.ref fr, .ref pq, .ref lf, .int 0])) := ⟨_, rfl⟩
  rw [← hFF7] at hw
  have f_fr : pt (((L ++ [fr]) ++ [pq]) ++ [lf]) FF7 fr (eRQ G 12 (fun _ => none)) := by rw [hFF7]; exact (pt_ne f_fr (pt_ap f_fr f_o (fun h9 => absurd (show (1123 : Nat) = 4 from congrArg tg h9) (by decide))))
  have f_pq : pt (((L ++ [fr]) ++ [pq]) ++ [lf]) FF7 pq (.inr (1, [.long 0, .long 0, .long 0, .long 0])) := by rw [hFF7]; exact (pt_ne f_pq (pt_ap f_pq f_o (fun h9 => absurd (show (1 : Nat) = 4 from congrArg tg h9) (by decide))))
  have f_lf : pt (((L ++ [fr]) ++ [pq]) ++ [lf]) FF7 lf (.inr (1, [.long 0, .long 0, .long 0, .long 0])) := by rw [hFF7]; exact (pt_ne f_lf (pt_ap f_lf f_o (fun h9 => absurd (show (1 : Nat) = 4 from congrArg tg h9) (by decide))))
  have f_o : pt (((L ++ [fr]) ++ [pq]) ++ [lf]) FF7 o (.inr (4, [.ref fr, .ref pq, .ref lf, .int 0])) := by rw [hFF7]; exact (pt_up f_o)
  have kp : ∀ a, a ∈ L → a ≠ o → FF7 a = F a := by rw [hFF7]; exact fun a ha hne => (va_up_ne _ _ hne).trans (kp a ha hne)
  refine lv_iconst (v := 0) hx hb dX4_init_40 (by decide) ?_
  refine lv_istore_n (lv' := [(1, .int 0), (0, .ref o)]) hx hb dX4_init_41 rfl hl (by decide) rfl (fun ls hl => ?_)
  have m_o : o ∈ (((L ++ [fr]) ++ [pq]) ++ [lf]) := f_o.1
  have m_fr : fr ∈ (((L ++ [fr]) ++ [pq]) ++ [lf]) := f_fr.1
  have m_pq : pq ∈ (((L ++ [fr]) ++ [pq]) ++ [lf]) := f_pq.1
  have m_lf : lf ∈ (((L ++ [fr]) ++ [pq]) ++ [lf]) := f_lf.1
  have hkp := kp
  have loop : ∀ (d : Nat) (R : List Nat) (F1 : FM) (H : Heap) (locs : List Loc) (ls : Array Slot), d + R.length = 12 → wo G A s.heap ((((L ++ [fr]) ++ [pq]) ++ [lf]) ++ R) F1 H locs → F1 o = .inr (4, [.ref fr, .ref pq, .ref lf, .int 0]) → F1 fr = eRQ G 12 (fun k => R[k]?) → F1 pq = eq4 (0, 0, 0, 0) → F1 lf = eq4 (0, 0, 0, 0) → (∀ a, a ∈ R → F1 a = eq4 (0, 0, 0, 0)) → (∀ a, a ∈ L → a ≠ o → F1 a = F a) → lv_has ls 2 [(0, .ref o), (1, .int (nI R.length))] → W p l e { frames := 2, cells := 15, slots := 68, locals := 32 } s m ([Value.ref o].toArray) below meth c H locs (3 + R.length) (20 + 4 * R.length) (MQ below (QN G A (fun L2 F2 => ∃ (fr pq lf : Nat) (R : List Nat), L2 = L ++ [fr, pq, lf] ++ R ∧ R.length = 12 ∧ (∀ a, a ∈ L → a ≠ o → F2 a = F a) ∧ F2 o = .inr (4, [.ref fr, .ref pq, .ref lf, .int 0]) ∧ F2 fr = eRQ G 12 (fun k => R[k]?) ∧ F2 pq = eq4 (0, 0, 0, 0) ∧ F2 lf = eq4 (0, 0, 0, 0) ∧ ∀ a, a ∈ R → F2 a = eq4 (0, 0, 0, 0))) ([Value.ref o].toArray) s 15 68 A) (F0 m 42 ls []) := by
    intro d
    induction d with
    | zero =>
      intro R F1 H locs ls hd hw ho hf hp hlf2 hR hk hl
      have f_o : pt ((((L ++ [fr]) ++ [pq]) ++ [lf]) ++ R) F1 o (.inr (4, [.ref fr, .ref pq, .ref lf, .int 0])) := ⟨List.mem_append_left _ m_o, ho⟩
      have f_fr : pt ((((L ++ [fr]) ++ [pq]) ++ [lf]) ++ R) F1 fr (eRQ G 12 (fun k => R[k]?)) := ⟨List.mem_append_left _ m_fr, hf⟩
      have f_pq : pt ((((L ++ [fr]) ++ [pq]) ++ [lf]) ++ R) F1 pq (.inr (1, [.long 0, .long 0, .long 0, .long 0])) := ⟨List.mem_append_left _ m_pq, hp⟩
      have f_lf : pt ((((L ++ [fr]) ++ [pq]) ++ [lf]) ++ R) F1 lf (.inr (1, [.long 0, .long 0, .long 0, .long 0])) := ⟨List.mem_append_left _ m_lf, hlf2⟩
      refine lv_iload_n hx hb dX4_init_42 rfl (lv_at hl 1 rfl) ?_
      refine lv_aload_n hx hb dX4_init_43 rfl (lv_at hl 0 rfl) ?_
      refine h_get hx hb hE hw hts hinX4 hown (ci := 4) rfl 0 (by decide) lk_11 (fun _ h9 => h9) f_o rfl dX4_init_44 ?_
      refine h_ilen hx hb hE hw 2 rfl f_fr (v := 12) rfl dX4_init_47 ?_
      refine lv_icmp_ge (tgt := 70) hx hb dX4_init_48 (by decide) (fun c_48 => ?_) (fun c_48 => ?_)
      · skip
        exact h_vretN hx hb hlk hr hw dX4_init_70 ⟨fr, pq, lf, R, by simp only [List.append_assoc, List.cons_append, List.nil_append], by omega, hk, ho, hf, hp, hlf2, hR⟩ (by first | decide | omega) (by first | decide | omega)
      · skip
        exact absurd (nI_le (a := 12) (show 12 ≤ R.length by omega) (by omega)) c_48
    | succ d ih =>
      intro R F1 H locs ls hd hw ho hf hp hlf2 hR hk hl
      have f_o : pt ((((L ++ [fr]) ++ [pq]) ++ [lf]) ++ R) F1 o (.inr (4, [.ref fr, .ref pq, .ref lf, .int 0])) := ⟨List.mem_append_left _ m_o, ho⟩
      have f_fr : pt ((((L ++ [fr]) ++ [pq]) ++ [lf]) ++ R) F1 fr (eRQ G 12 (fun k => R[k]?)) := ⟨List.mem_append_left _ m_fr, hf⟩
      have f_pq : pt ((((L ++ [fr]) ++ [pq]) ++ [lf]) ++ R) F1 pq (.inr (1, [.long 0, .long 0, .long 0, .long 0])) := ⟨List.mem_append_left _ m_pq, hp⟩
      have f_lf : pt ((((L ++ [fr]) ++ [pq]) ++ [lf]) ++ R) F1 lf (.inr (1, [.long 0, .long 0, .long 0, .long 0])) := ⟨List.mem_append_left _ m_lf, hlf2⟩
      refine lv_iload_n hx hb dX4_init_42 rfl (lv_at hl 1 rfl) ?_
      refine lv_aload_n hx hb dX4_init_43 rfl (lv_at hl 0 rfl) ?_
      refine h_get hx hb hE hw hts hinX4 hown (ci := 4) rfl 0 (by decide) lk_11 (fun _ h9 => h9) f_o rfl dX4_init_44 ?_
      refine h_ilen hx hb hE hw 2 rfl f_fr (v := 12) rfl dX4_init_47 ?_
      refine lv_icmp_ge (tgt := 70) hx hb dX4_init_48 (by decide) (fun c_48 => ?_) (fun c_48 => ?_)
      · skip
        exact absurd c_48 (nI_ge (a := R.length) (b := 12) (by omega) (by decide))
      · skip
        refine lv_aload_n hx hb dX4_init_51 rfl (lv_at hl 0 rfl) ?_
        refine h_get hx hb hE hw hts hinX4 hown (ci := 4) rfl 0 (by decide) lk_11 (fun _ h9 => h9) f_o rfl dX4_init_52 ?_
        refine lv_iload_n hx hb dX4_init_55 rfl (lv_at hl 1 rfl) ?_
        refine h_new hx hb hE.1 hw hA hts hinX1 tyX1 tyX1_ok hown (hts (.classLink RX4 9 RX1) (by decide +kernel)) (hts (.instantiable RX1 4) (by decide +kernel)) (hts (.initialized RX1) (by decide +kernel)) (ci := 1) rfl (fs := [.long 0, .long 0, .long 0, .long 0]) (fun j hj => by rcases (show j = 0 ∨ j = 1 ∨ j = 2 ∨ j = 3 by omega) with rfl | rfl | rfl | rfl <;> rfl) (by first | decide | (show _ ≤ 15; omega)) (by first | decide | (show _ ≤ 68; omega)) dX4_init_56 (fun q9 H hq9 hw => ?_)
        obtain ⟨FF8, hFF8⟩ : ∃ Fx : FM, Fx = va_up F1 q9 (.inr (1, [.long 0, .long 0, .long 0, .long 0])) := ⟨_, rfl⟩
        rw [← hFF8] at hw
        have f_o : pt (((((L ++ [fr]) ++ [pq]) ++ [lf]) ++ R) ++ [q9]) FF8 o (.inr (4, [.ref fr, .ref pq, .ref lf, .int 0])) := by rw [hFF8]; exact (pt_push f_o hq9)
        have f_fr : pt (((((L ++ [fr]) ++ [pq]) ++ [lf]) ++ R) ++ [q9]) FF8 fr (eRQ G 12 (fun k => R[k]?)) := by rw [hFF8]; exact (pt_push f_fr hq9)
        have f_pq : pt (((((L ++ [fr]) ++ [pq]) ++ [lf]) ++ R) ++ [q9]) FF8 pq (.inr (1, [.long 0, .long 0, .long 0, .long 0])) := by rw [hFF8]; exact (pt_push f_pq hq9)
        have f_lf : pt (((((L ++ [fr]) ++ [pq]) ++ [lf]) ++ R) ++ [q9]) FF8 lf (.inr (1, [.long 0, .long 0, .long 0, .long 0])) := by rw [hFF8]; exact (pt_push f_lf hq9)
        have f_q9 : pt (((((L ++ [fr]) ++ [pq]) ++ [lf]) ++ R) ++ [q9]) FF8 q9 (.inr (1, [.long 0, .long 0, .long 0, .long 0])) := by rw [hFF8]; exact pt_new
        refine lv_dup hx hb dX4_init_59 rfl ?_
        refine h_callHN [.ref q9, .int (nI R.length), .ref fr] ⟨hx, hb, hml, hown, hts⟩ hE hw (c_X1_init l G A (((((L ++ [fr]) ++ [pq]) ++ [lf]) ++ R) ++ [q9]) FF8 q9) ⟨va_cnB 0 hts gX4_init_X1_init_n17 rfl rfl rfl hC.2.1.2.2.1 (hts (.initialized RX1) (by decide +kernel)) (by decide +kernel) ⟨Nat.le_of_ble_eq_true rfl, Nat.le_of_ble_eq_true rfl⟩, rfl, (hts (.instanceMethod yX1_init) (by decide +kernel))⟩ hl.1 (Nat.le_of_ble_eq_true rfl) dX4_init_60 ⟨(by first | decide | (show _ ≤ 15; omega)), (by first | decide | (show _ ≤ 68; omega))⟩ (fun H locs hw => ?_)
        refine h_qast hx hb hE.1 hw f_fr f_q9 (in_R (by omega) (by decide)) (g := (fun k => (R ++ [q9])[k]?)) (by rw [nI_clamp (by omega)]; exact up_R R q9) dX4_init_63 (fun H locs hw => ?_)
        obtain ⟨FF9, hFF9⟩ : ∃ Fx : FM, Fx = va_up FF8 fr (eRQ G 12 (fun k => (R ++ [q9])[k]?)) := ⟨_, rfl⟩
        rw [← hFF9] at hw
        have f_o : pt (((((L ++ [fr]) ++ [pq]) ++ [lf]) ++ R) ++ [q9]) FF9 o (.inr (4, [.ref fr, .ref pq, .ref lf, .int 0])) := by rw [hFF9]; exact (pt_ne f_o (pt_ap f_o f_fr (fun h9 => absurd (show (4 : Nat) = 1123 from congrArg tg h9) (by decide))))
        have f_pq : pt (((((L ++ [fr]) ++ [pq]) ++ [lf]) ++ R) ++ [q9]) FF9 pq (.inr (1, [.long 0, .long 0, .long 0, .long 0])) := by rw [hFF9]; exact (pt_ne f_pq (pt_ap f_pq f_fr (fun h9 => absurd (show (1 : Nat) = 1123 from congrArg tg h9) (by decide))))
        have f_lf : pt (((((L ++ [fr]) ++ [pq]) ++ [lf]) ++ R) ++ [q9]) FF9 lf (.inr (1, [.long 0, .long 0, .long 0, .long 0])) := by rw [hFF9]; exact (pt_ne f_lf (pt_ap f_lf f_fr (fun h9 => absurd (show (1 : Nat) = 1123 from congrArg tg h9) (by decide))))
        have f_q9 : pt (((((L ++ [fr]) ++ [pq]) ++ [lf]) ++ R) ++ [q9]) FF9 q9 (.inr (1, [.long 0, .long 0, .long 0, .long 0])) := by rw [hFF9]; exact (pt_ne f_q9 (pt_ap f_q9 f_fr (fun h9 => absurd (show (1 : Nat) = 1123 from congrArg tg h9) (by decide))))
        have f_fr : pt (((((L ++ [fr]) ++ [pq]) ++ [lf]) ++ R) ++ [q9]) FF9 fr (eRQ G 12 (fun k => (R ++ [q9])[k]?)) := by rw [hFF9]; exact (pt_up f_fr)
        obtain ⟨i9, ei9⟩ : ∃ y : Int32, y = (nI R.length) + 1 := ⟨_, rfl⟩
        refine lv_iinc (v := i9) (lv' := [(1, .int i9), (0, .ref o)]) hx hb dX4_init_64 hl (k := 1) rfl (by rw [ei9, show Int32.ofInt (1) = 1 from by decide]) (by decide) rfl (fun ls hl => ?_)
        refine lv_goto (tgt := 42) hx hb dX4_init_67 (by decide) ?_
        refine W.widen (k := 3 + (R ++ [q9]).length) (n := 20 + 4 * (R ++ [q9]).length) (by rw [List.length_append]; simp; omega) (by rw [List.length_append]; simp; omega) ?_
        refine ih (R ++ [q9]) _ _ _ ls (by rw [List.length_append]; simp; omega) (by rw [← List.append_assoc]; exact hw) f_o.2 f_fr.2 f_pq.2 f_lf.2 (fun a ha => ?_) (fun a ha hne => ?_) (lv_sub (l' := [(0, .ref o), (1, .int (nI (R ++ [q9]).length))]) hl [1, 0] (by rw [show nI (R ++ [q9]).length = i9 from by rw [ei9, List.length_append, nI_1]; rfl]; rfl))
        · rcases List.mem_append.mp ha with w | w
          · have ha1 := hR a w
            rw [hFF9, va_up_ne _ _ (fun v => by rw [v, hf] at ha1; cases ha1), hFF8, va_up_ne _ _ (nem (List.mem_append_right _ w) hq9)]; exact ha1
          · rw [List.mem_singleton.mp w]; exact f_q9.2
        · rw [hFF9, va_up_ne _ _ (nem ha hfr), hFF8, va_up_ne _ _ (nem (List.mem_append_left _ (List.mem_append_left _ (List.mem_append_left _ (List.mem_append_left _ ha)))) hq9)]; exact hk a ha hne
  exact loop 12 [] _ _ _ ls rfl (by rw [List.append_nil]; exact hw) f_o.2 f_fr.2 f_pq.2 f_lf.2 (fun a ha => absurd ha List.not_mem_nil) hkp (lv_sub (l' := [(0, .ref o), (1, .int (nI ([] : List Nat).length))]) hl [1, 0] rfl)

set_option maxHeartbeats 8000000 in
set_option maxRecDepth 100000 in
theorem c_X0_init (l : Launch) (G : GG) (A : Nat → Prop) (L : List Nat) (F : FM) (o : Nat) (e0 : pt L F o (.inr (0, [.null]))) : NT l yX0_init wsX0_init { frames := 1, cells := 1, slots := 801, locals := 12 } G A L o F (fun L2 F2 => ∃ (q1 : Nat) (f : Nat → Int32), L2 = L ++ [q1] ∧ (∀ a, a ∈ L → a ≠ o → F2 a = F a) ∧ F2 o = .inr (0, [.ref q1]) ∧ F2 q1 = eI G 801 f ∧ ∀ n, n < 801 → f n = prs n) 1 801 := by
  refine NT.ofW (cc := cX0_init) (maxL := 4) (plainFor_of_name (by decide)) rfl rfl (by decide) ?_
  intro p e s m below meth c ls hx hb hr hml hown hts hlk hin hC hw hl
  have hown : s.vm.findClass RX0 = some m.cls := hown
  have hE := hC.1
  have hA := hC.2.2.2
  have kp : ∀ a, a ∈ L → a ≠ o → F a = F a := fun _ _ _ => rfl
  have lk_9 := hts (.fieldLink RX0 9 "FourParts$Norms" "pairs" "[I") (by decide +kernel)
  have hinX0 : ∀ w ∈ u_ws RX0 TX0 1, w ∈ wsX0_init := by decide +kernel
  refine lv_aload_n hx hb dX0_init_0 rfl (lv_at hl 0 rfl) ?_
  refine W.objInit hx hb hown (hts (.methodLink RX0 3 objectInit) (by decide +kernel)) (hts (.instanceMethod objectInit) (by decide +kernel)) (hts (.code objectInit ⟨#[0xb1]⟩ 1 none) (by decide +kernel)) rfl (by rw [hml]; exact hl.1) rfl dX0_init_1 (Nat.le_of_ble_eq_true rfl) (Nat.le_of_ble_eq_true rfl) ?_
  refine W.eq (g2 := F0 m 4 ls []) rfl ?_
  refine lv_aload_n hx hb dX0_init_4 rfl (lv_at hl 0 rfl) ?_
  refine lv_sipush (v := 801) hx hb dX0_init_5 (by decide) ?_
  refine h_newI hx hb hE.1 hw hA (hts (.arrayClass .int) (by decide +kernel)) 801 rfl (by decide) (by first | decide | (show _ ≤ 1; omega)) (by first | decide | (show _ ≤ 801; omega)) dX0_init_8 (fun q1 H hq1 hw => ?_)
  obtain ⟨FF1, hFF1⟩ : ∃ Fx : FM, Fx = va_up F q1 (eI G 801 (fun _ => 0)) := ⟨_, rfl⟩
  rw [← hFF1] at hw
  have f_o : pt (L ++ [q1]) FF1 o (.inr (0, [.null])) := by rw [hFF1]; exact (pt_push e0 hq1)
  have f_q1 : pt (L ++ [q1]) FF1 q1 (eI G 801 (fun _ => 0)) := by rw [hFF1]; exact pt_new
  have kp : ∀ a, a ∈ L → a ≠ o → FF1 a = F a := by rw [hFF1]; exact fun a ha hne => (va_up_ne _ _ (nem ha hq1)).trans (kp a ha hne)
  refine h_putF hx hb hE.1 hw hts hinX0 tyX0 tyX0_ok nmX0 hown (ci := 0) rfl 0 (by decide) lk_9 (fun _ h9 => h9) rfl hin rfl f_o (ty := .array .int) (by decide +kernel) rfl rfl (Nat.le_of_ble_eq_true rfl) (fs2 := [.ref q1]) rfl dX0_init_10 (fun H locs hw => ?_)
  obtain ⟨FF2, hFF2⟩ : ∃ Fx : FM, Fx = va_up FF1 o (.inr (0, [.ref q1])) := ⟨_, rfl⟩
  rw [← hFF2] at hw
  have f_q1 : pt (L ++ [q1]) FF2 q1 (eI G 801 (fun _ => 0)) := by rw [hFF2]; exact (pt_ne f_q1 (pt_ap f_q1 f_o (fun h9 => absurd (show (9011 : Nat) = 0 from congrArg tg h9) (by decide))))
  have f_o : pt (L ++ [q1]) FF2 o (.inr (0, [.ref q1])) := by rw [hFF2]; exact (pt_up f_o)
  have kp : ∀ a, a ∈ L → a ≠ o → FF2 a = F a := by rw [hFF2]; exact fun a ha hne => (va_up_ne _ _ hne).trans (kp a ha hne)
  refine lv_iconst (v := 0) hx hb dX0_init_13 (by decide) ?_
  refine lv_istore_n (lv' := [(1, .int 0), (0, .ref o)]) hx hb dX0_init_14 rfl hl (by decide) rfl (fun ls hl => ?_)
  have m_o : o ∈ (L ++ [q1]) := f_o.1
  have m_q1 : q1 ∈ (L ++ [q1]) := f_q1.1
  have hkp := kp
  have lpO : ∀ (d cN : Nat) (f : Nat → Int32) (F1 : FM) (H : Heap) (locs : List Loc) (ls : Array Slot), d + cN = 29 → wo G A s.heap (L ++ [q1]) F1 H locs → F1 o = .inr (0, [.ref q1]) → F1 q1 = eI G 801 f → (∀ n, n < 801 → f n = nI (pall n cN)) → (∀ a, a ∈ L → a ≠ o → F1 a = F a) → lv_has ls 4 [(0, .ref o), (1, .int (nI cN))] → W p l e { frames := 1, cells := 1, slots := 801, locals := 12 } s m ([Value.ref o].toArray) below meth c H locs 1 801 (MQ below (QN G A (fun L2 F2 => ∃ (q1 : Nat) (f : Nat → Int32), L2 = L ++ [q1] ∧ (∀ a, a ∈ L → a ≠ o → F2 a = F a) ∧ F2 o = .inr (0, [.ref q1]) ∧ F2 q1 = eI G 801 f ∧ ∀ n, n < 801 → f n = prs n)) ([Value.ref o].toArray) s 1 801 A) (F0 m 15 ls []) := by
    intro d
    induction d with
    | zero =>
      intro cN f F1 H locs ls hd hw ho hf hp hk hl
      obtain rfl : cN = 29 := by omega
      have f_o : pt (L ++ [q1]) F1 o (.inr (0, [.ref q1])) := ⟨m_o, ho⟩
      have f_q1 : pt (L ++ [q1]) F1 q1 (eI G 801 f) := ⟨m_q1, hf⟩
      refine lv_iload_n hx hb dX0_init_15 rfl (lv_at hl 1 rfl) ?_
      refine lv_bipush (v := 28) hx hb dX0_init_16 (by decide) ?_
      refine lv_icmp_gt (tgt := 86) hx hb dX0_init_18 (by decide) (fun c_18 => ?_) (fun c_18 => ?_)
      · skip
        exact h_vretN hx hb hlk hr hw dX0_init_86 ⟨q1, f, rfl, hk, ho, hf, hp⟩ (by first | decide | omega) (by first | decide | omega)
      · skip
        exact absurd (show (28 : Int32) < nI 29 from nI_lt (a := 28) (b := 29) (by decide) (by decide)) c_18
    | succ d ihO =>
      intro cN f F1 H locs ls hd hw ho hf hp hk hl
      have hc2 := sqc (c := cN) (by omega)
      have lpI : ∀ (d2 dN : Nat) (f : Nat → Int32) (F1 : FM) (H : Heap) (locs : List Loc) (ls : Array Slot), d2 + dN = 29 → wo G A s.heap (L ++ [q1]) F1 H locs → F1 o = .inr (0, [.ref q1]) → F1 q1 = eI G 801 f → (∀ n, n < 801 → f n = nI (pall n cN + prow cN n dN)) → (∀ a, a ∈ L → a ≠ o → F1 a = F a) → lv_has ls 4 [(0, .ref o), (1, .int (nI cN)), (2, .int (nI dN))] → W p l e { frames := 1, cells := 1, slots := 801, locals := 12 } s m ([Value.ref o].toArray) below meth c H locs 1 801 (MQ below (QN G A (fun L2 F2 => ∃ (q1 : Nat) (f : Nat → Int32), L2 = L ++ [q1] ∧ (∀ a, a ∈ L → a ≠ o → F2 a = F a) ∧ F2 o = .inr (0, [.ref q1]) ∧ F2 q1 = eI G 801 f ∧ ∀ n, n < 801 → f n = prs n)) ([Value.ref o].toArray) s 1 801 A) (F0 m 23 ls []) := by
        intro d2
        induction d2 with
        | zero =>
          intro dN f F1 H locs ls hd2 hw ho hf hp hk hl
          obtain rfl : dN = 29 := by omega
          have f_o : pt (L ++ [q1]) F1 o (.inr (0, [.ref q1])) := ⟨m_o, ho⟩
          have f_q1 : pt (L ++ [q1]) F1 q1 (eI G 801 f) := ⟨m_q1, hf⟩
          refine lv_iload_n hx hb dX0_init_23 rfl (lv_at hl 2 rfl) ?_
          refine lv_bipush (v := 28) hx hb dX0_init_24 (by decide) ?_
          refine lv_icmp_gt (tgt := 80) hx hb dX0_init_26 (by decide) (fun c_26 => ?_) (fun c_26 => ?_)
          · skip
            obtain ⟨i9, ei9⟩ : ∃ y : Int32, y = (nI cN) + 1 := ⟨_, rfl⟩
            refine lv_iinc (v := i9) (lv' := [(1, .int i9), (0, .ref o), (2, .int (nI 29))]) hx hb dX0_init_80 hl (k := 1) rfl (by rw [ei9, show Int32.ofInt (1) = 1 from by decide]) (by decide) rfl (fun ls hl => ?_)
            refine lv_goto (tgt := 15) hx hb dX0_init_83 (by decide) ?_
            exact ihO (cN + 1) f _ _ _ ls (by omega) hw ho hf hp hk (lv_sub (l' := [(0, .ref o), (1, .int (nI (cN + 1)))]) hl [1, 0] (by rw [show nI (cN + 1) = i9 from by rw [ei9, nI_1]]; rfl))
          · skip
            exact absurd (show (28 : Int32) < nI 29 from nI_lt (a := 28) (b := 29) (by decide) (by decide)) c_26
        | succ d2 ihI =>
          intro dN f F1 H locs ls hd2 hw ho hf hp hk hl
          have hd3 := sqc (c := dN) (by omega)
          have f_o : pt (L ++ [q1]) F1 o (.inr (0, [.ref q1])) := ⟨m_o, ho⟩
          have f_q1 : pt (L ++ [q1]) F1 q1 (eI G 801 f) := ⟨m_q1, hf⟩
          refine lv_iload_n hx hb dX0_init_23 rfl (lv_at hl 2 rfl) ?_
          refine lv_bipush (v := 28) hx hb dX0_init_24 (by decide) ?_
          refine lv_icmp_gt (tgt := 80) hx hb dX0_init_26 (by decide) (fun c_26 => ?_) (fun c_26 => ?_)
          · skip
            exact absurd c_26 (nI_nlt (a := 28) (b := dN) (by omega) (by decide))
          · skip
            refine lv_iload_n hx hb dX0_init_29 rfl (lv_at hl 1 rfl) ?_
            refine lv_iload_n hx hb dX0_init_30 rfl (lv_at hl 1 rfl) ?_
            refine h_imulN hx hb cN cN dX0_init_31 ?_
            refine lv_iload_n hx hb dX0_init_32 rfl (lv_at hl 2 rfl) ?_
            refine lv_iload_n hx hb dX0_init_33 rfl (lv_at hl 2 rfl) ?_
            refine h_imulN hx hb dN dN dX0_init_34 ?_
            refine h_iaddN hx hb (cN * cN) (dN * dN) dX0_init_35 ?_
            refine lv_istore_n (lv' := [(3, .int (nI ((cN * cN) + (dN * dN)))), (0, .ref o), (1, .int (nI cN)), (2, .int (nI dN))]) hx hb dX0_init_36 rfl hl (by decide) rfl (fun ls hl => ?_)
            refine lv_iload_n hx hb dX0_init_37 rfl (lv_at hl 0 rfl) ?_
            refine lv_aload_n hx hb dX0_init_38 rfl (lv_at hl 1 rfl) ?_
            refine h_get hx hb hE hw hts hinX0 hown (ci := 0) rfl 0 (by decide) lk_9 (fun _ h9 => h9) f_o rfl dX0_init_39 ?_
            refine h_ilen hx hb hE hw 0 rfl f_q1 (v := 801) rfl dX0_init_42 ?_
            refine lv_icmp_ge (tgt := 74) hx hb dX0_init_43 (by decide) (fun c_43 => ?_) (fun c_43 => ?_)
            · skip
              have hge : 801 ≤ (cN * cN) + (dN * dN) := (nI_leI (a := 801) (by decide) (by omega)).mp c_43
              obtain ⟨i9, ei9⟩ : ∃ y : Int32, y = (nI dN) + 1 := ⟨_, rfl⟩
              refine lv_iinc (v := i9) (lv' := [(2, .int i9), (3, .int (nI ((cN * cN) + (dN * dN)))), (0, .ref o), (1, .int (nI cN))]) hx hb dX0_init_74 hl (k := 3) rfl (by rw [ei9, show Int32.ofInt (1) = 1 from by decide]) (by decide) rfl (fun ls hl => ?_)
              refine lv_goto (tgt := 23) hx hb dX0_init_77 (by decide) ?_
              exact ihI (dN + 1) f _ _ _ ls (by omega) hw ho hf (prs_no hp hge) hk (lv_sub (l' := [(0, .ref o), (1, .int (nI cN)), (2, .int (nI (dN + 1)))]) hl [2, 3, 0] (by rw [← nI_1, ← ei9]; rfl))
            · skip
              have hlt : (cN * cN) + (dN * dN) < 801 := Nat.not_le.mp (fun q => c_43 (nI_le (a := 801) q (by omega)))
              refine lv_aload_n hx hb dX0_init_46 rfl (lv_at hl 1 rfl) ?_
              refine h_get hx hb hE hw hts hinX0 hown (ci := 0) rfl 0 (by decide) lk_9 (fun _ h9 => h9) f_o rfl dX0_init_47 ?_
              refine lv_iload_n hx hb dX0_init_50 rfl (lv_at hl 0 rfl) ?_
              refine lv_dup2_11 hx hb dX0_init_51 rfl rfl ?_
              refine h_iald hx hb hE hw f_q1 (vp_in_nI (n := ((cN * cN) + (dN * dN))) (N := 801) (by omega) (by decide)) (v := f ((cN * cN) + (dN * dN))) (by rw [nI_clamp (by omega)]) dX0_init_52 ?_
              refine lv_iload_n hx hb dX0_init_53 rfl (lv_at hl 2 rfl) ?_
              refine lv_if_ne (tgt := 61) hx hb dX0_init_54 (by decide) (fun c_54 => ?_) (fun c_54 => ?_)
              · skip
                refine lv_iconst (v := 2) hx hb dX0_init_61 (by decide) ?_
                refine lv_iload_n hx hb dX0_init_62 rfl (lv_at hl 3 rfl) ?_
                refine lv_if_ne (tgt := 70) hx hb dX0_init_63 (by decide) (fun c_63 => ?_) (fun c_63 => ?_)
                · skip
                  refine lv_iconst (v := 2) hx hb dX0_init_70 (by decide) ?_
                  refine lv_imul hx hb dX0_init_71 ?_
                  refine W.eq (g2 := F0 m 72 ls [.int 4, .int (f ((cN * cN) + (dN * dN))), .int (nI ((cN * cN) + (dN * dN))), .ref q1]) rfl ?_
                  refine lv_iadd hx hb dX0_init_72 ?_
                  refine h_iast hx hb hE hw f_q1 (vp_in_nI (n := ((cN * cN) + (dN * dN))) (N := 801) (by omega) (by decide)) (g := upd f ((cN * cN) + (dN * dN)) ((f ((cN * cN) + (dN * dN))) + 4)) (by rw [nI_clamp (by omega)]) dX0_init_73 (fun H locs hw => ?_)
                  obtain ⟨FF3, hFF3⟩ : ∃ Fx : FM, Fx = va_up F1 q1 (eI G 801 (upd f ((cN * cN) + (dN * dN)) ((f ((cN * cN) + (dN * dN))) + 4))) := ⟨_, rfl⟩
                  rw [← hFF3] at hw
                  have f_o : pt (L ++ [q1]) FF3 o (.inr (0, [.ref q1])) := by rw [hFF3]; exact (pt_ne f_o (pt_ap f_o f_q1 (fun h9 => absurd (show (0 : Nat) = 9011 from congrArg tg h9) (by decide))))
                  have f_q1 : pt (L ++ [q1]) FF3 q1 (eI G 801 (upd f ((cN * cN) + (dN * dN)) ((f ((cN * cN) + (dN * dN))) + 4))) := by rw [hFF3]; exact (pt_up f_q1)
                  obtain ⟨i9, ei9⟩ : ∃ y : Int32, y = (nI dN) + 1 := ⟨_, rfl⟩
                  refine lv_iinc (v := i9) (lv' := [(2, .int i9), (3, .int (nI ((cN * cN) + (dN * dN)))), (0, .ref o), (1, .int (nI cN))]) hx hb dX0_init_74 hl (k := 3) rfl (by rw [ei9, show Int32.ofInt (1) = 1 from by decide]) (by decide) rfl (fun ls hl => ?_)
                  refine lv_goto (tgt := 23) hx hb dX0_init_77 (by decide) ?_
                  exact ihI (dN + 1) _ _ _ _ ls (by omega) hw f_o.2 f_q1.2 (prs_up hp hlt (by rw [pwt_n c_54, pwt_n c_63]) rfl) (fun a ha hne => by rw [hFF3, va_up_ne _ _ (nem ha hq1)]; exact hk a ha hne) (lv_sub (l' := [(0, .ref o), (1, .int (nI cN)), (2, .int (nI (dN + 1)))]) hl [2, 3, 0] (by rw [← nI_1, ← ei9]; rfl))
                · skip
                  refine lv_iconst (v := 1) hx hb dX0_init_66 (by decide) ?_
                  refine lv_goto (tgt := 71) hx hb dX0_init_67 (by decide) ?_
                  refine lv_imul hx hb dX0_init_71 ?_
                  refine W.eq (g2 := F0 m 72 ls [.int 2, .int (f ((cN * cN) + (dN * dN))), .int (nI ((cN * cN) + (dN * dN))), .ref q1]) rfl ?_
                  refine lv_iadd hx hb dX0_init_72 ?_
                  refine h_iast hx hb hE hw f_q1 (vp_in_nI (n := ((cN * cN) + (dN * dN))) (N := 801) (by omega) (by decide)) (g := upd f ((cN * cN) + (dN * dN)) ((f ((cN * cN) + (dN * dN))) + 2)) (by rw [nI_clamp (by omega)]) dX0_init_73 (fun H locs hw => ?_)
                  obtain ⟨FF4, hFF4⟩ : ∃ Fx : FM, Fx = va_up F1 q1 (eI G 801 (upd f ((cN * cN) + (dN * dN)) ((f ((cN * cN) + (dN * dN))) + 2))) := ⟨_, rfl⟩
                  rw [← hFF4] at hw
                  have f_o : pt (L ++ [q1]) FF4 o (.inr (0, [.ref q1])) := by rw [hFF4]; exact (pt_ne f_o (pt_ap f_o f_q1 (fun h9 => absurd (show (0 : Nat) = 9011 from congrArg tg h9) (by decide))))
                  have f_q1 : pt (L ++ [q1]) FF4 q1 (eI G 801 (upd f ((cN * cN) + (dN * dN)) ((f ((cN * cN) + (dN * dN))) + 2))) := by rw [hFF4]; exact (pt_up f_q1)
                  obtain ⟨i9, ei9⟩ : ∃ y : Int32, y = (nI dN) + 1 := ⟨_, rfl⟩
                  refine lv_iinc (v := i9) (lv' := [(2, .int i9), (3, .int (nI ((cN * cN) + (dN * dN)))), (0, .ref o), (1, .int (nI cN))]) hx hb dX0_init_74 hl (k := 3) rfl (by rw [ei9, show Int32.ofInt (1) = 1 from by decide]) (by decide) rfl (fun ls hl => ?_)
                  refine lv_goto (tgt := 23) hx hb dX0_init_77 (by decide) ?_
                  exact ihI (dN + 1) _ _ _ _ ls (by omega) hw f_o.2 f_q1.2 (prs_up hp hlt (by rw [pwt_n c_54, pwt_0 c_63 (by omega)]) rfl) (fun a ha hne => by rw [hFF4, va_up_ne _ _ (nem ha hq1)]; exact hk a ha hne) (lv_sub (l' := [(0, .ref o), (1, .int (nI cN)), (2, .int (nI (dN + 1)))]) hl [2, 3, 0] (by rw [← nI_1, ← ei9]; rfl))
              · skip
                refine lv_iconst (v := 1) hx hb dX0_init_57 (by decide) ?_
                refine lv_goto (tgt := 62) hx hb dX0_init_58 (by decide) ?_
                refine lv_iload_n hx hb dX0_init_62 rfl (lv_at hl 3 rfl) ?_
                refine lv_if_ne (tgt := 70) hx hb dX0_init_63 (by decide) (fun c_63 => ?_) (fun c_63 => ?_)
                · skip
                  refine lv_iconst (v := 2) hx hb dX0_init_70 (by decide) ?_
                  refine lv_imul hx hb dX0_init_71 ?_
                  refine W.eq (g2 := F0 m 72 ls [.int 2, .int (f ((cN * cN) + (dN * dN))), .int (nI ((cN * cN) + (dN * dN))), .ref q1]) rfl ?_
                  refine lv_iadd hx hb dX0_init_72 ?_
                  refine h_iast hx hb hE hw f_q1 (vp_in_nI (n := ((cN * cN) + (dN * dN))) (N := 801) (by omega) (by decide)) (g := upd f ((cN * cN) + (dN * dN)) ((f ((cN * cN) + (dN * dN))) + 2)) (by rw [nI_clamp (by omega)]) dX0_init_73 (fun H locs hw => ?_)
                  obtain ⟨FF5, hFF5⟩ : ∃ Fx : FM, Fx = va_up F1 q1 (eI G 801 (upd f ((cN * cN) + (dN * dN)) ((f ((cN * cN) + (dN * dN))) + 2))) := ⟨_, rfl⟩
                  rw [← hFF5] at hw
                  have f_o : pt (L ++ [q1]) FF5 o (.inr (0, [.ref q1])) := by rw [hFF5]; exact (pt_ne f_o (pt_ap f_o f_q1 (fun h9 => absurd (show (0 : Nat) = 9011 from congrArg tg h9) (by decide))))
                  have f_q1 : pt (L ++ [q1]) FF5 q1 (eI G 801 (upd f ((cN * cN) + (dN * dN)) ((f ((cN * cN) + (dN * dN))) + 2))) := by rw [hFF5]; exact (pt_up f_q1)
                  obtain ⟨i9, ei9⟩ : ∃ y : Int32, y = (nI dN) + 1 := ⟨_, rfl⟩
                  refine lv_iinc (v := i9) (lv' := [(2, .int i9), (3, .int (nI ((cN * cN) + (dN * dN)))), (0, .ref o), (1, .int (nI cN))]) hx hb dX0_init_74 hl (k := 3) rfl (by rw [ei9, show Int32.ofInt (1) = 1 from by decide]) (by decide) rfl (fun ls hl => ?_)
                  refine lv_goto (tgt := 23) hx hb dX0_init_77 (by decide) ?_
                  exact ihI (dN + 1) _ _ _ _ ls (by omega) hw f_o.2 f_q1.2 (prs_up hp hlt (by rw [pwt_0 c_54 (by omega), pwt_n c_63]) rfl) (fun a ha hne => by rw [hFF5, va_up_ne _ _ (nem ha hq1)]; exact hk a ha hne) (lv_sub (l' := [(0, .ref o), (1, .int (nI cN)), (2, .int (nI (dN + 1)))]) hl [2, 3, 0] (by rw [← nI_1, ← ei9]; rfl))
                · skip
                  refine lv_iconst (v := 1) hx hb dX0_init_66 (by decide) ?_
                  refine lv_goto (tgt := 71) hx hb dX0_init_67 (by decide) ?_
                  refine lv_imul hx hb dX0_init_71 ?_
                  refine W.eq (g2 := F0 m 72 ls [.int 1, .int (f ((cN * cN) + (dN * dN))), .int (nI ((cN * cN) + (dN * dN))), .ref q1]) rfl ?_
                  refine lv_iadd hx hb dX0_init_72 ?_
                  refine h_iast hx hb hE hw f_q1 (vp_in_nI (n := ((cN * cN) + (dN * dN))) (N := 801) (by omega) (by decide)) (g := upd f ((cN * cN) + (dN * dN)) ((f ((cN * cN) + (dN * dN))) + 1)) (by rw [nI_clamp (by omega)]) dX0_init_73 (fun H locs hw => ?_)
                  obtain ⟨FF6, hFF6⟩ : ∃ Fx : FM, Fx = va_up F1 q1 (eI G 801 (upd f ((cN * cN) + (dN * dN)) ((f ((cN * cN) + (dN * dN))) + 1))) := ⟨_, rfl⟩
                  rw [← hFF6] at hw
                  have f_o : pt (L ++ [q1]) FF6 o (.inr (0, [.ref q1])) := by rw [hFF6]; exact (pt_ne f_o (pt_ap f_o f_q1 (fun h9 => absurd (show (0 : Nat) = 9011 from congrArg tg h9) (by decide))))
                  have f_q1 : pt (L ++ [q1]) FF6 q1 (eI G 801 (upd f ((cN * cN) + (dN * dN)) ((f ((cN * cN) + (dN * dN))) + 1))) := by rw [hFF6]; exact (pt_up f_q1)
                  obtain ⟨i9, ei9⟩ : ∃ y : Int32, y = (nI dN) + 1 := ⟨_, rfl⟩
                  refine lv_iinc (v := i9) (lv' := [(2, .int i9), (3, .int (nI ((cN * cN) + (dN * dN)))), (0, .ref o), (1, .int (nI cN))]) hx hb dX0_init_74 hl (k := 3) rfl (by rw [ei9, show Int32.ofInt (1) = 1 from by decide]) (by decide) rfl (fun ls hl => ?_)
                  refine lv_goto (tgt := 23) hx hb dX0_init_77 (by decide) ?_
                  exact ihI (dN + 1) _ _ _ _ ls (by omega) hw f_o.2 f_q1.2 (prs_up hp hlt (by rw [pwt_0 c_54 (by omega), pwt_0 c_63 (by omega)]) rfl) (fun a ha hne => by rw [hFF6, va_up_ne _ _ (nem ha hq1)]; exact hk a ha hne) (lv_sub (l' := [(0, .ref o), (1, .int (nI cN)), (2, .int (nI (dN + 1)))]) hl [2, 3, 0] (by rw [← nI_1, ← ei9]; rfl))
      have f_o : pt (L ++ [q1]) F1 o (.inr (0, [.ref q1])) := ⟨m_o, ho⟩
      have f_q1 : pt (L ++ [q1]) F1 q1 (eI G 801 f) := ⟨m_q1, hf⟩
      refine lv_iload_n hx hb dX0_init_15 rfl (lv_at hl 1 rfl) ?_
      refine lv_bipush (v := 28) hx hb dX0_init_16 (by decide) ?_
      refine lv_icmp_gt (tgt := 86) hx hb dX0_init_18 (by decide) (fun c_18 => ?_) (fun c_18 => ?_)
      · skip
        exact absurd c_18 (nI_nlt (a := 28) (b := cN) (by omega) (by decide))
      · skip
        refine lv_iconst (v := 0) hx hb dX0_init_21 (by decide) ?_
        refine lv_istore_n (lv' := [(2, .int 0), (0, .ref o), (1, .int (nI cN))]) hx hb dX0_init_22 rfl hl (by decide) rfl (fun ls hl => ?_)
        exact lpI 29 0 f _ _ _ ls rfl hw ho hf (fun n hn => by rw [prow, Nat.add_zero]; exact hp n hn) hk (lv_sub (l' := [(0, .ref o), (1, .int (nI cN)), (2, .int (nI 0))]) hl [1, 2, 0] rfl)
  exact lpO 29 0 _ _ _ _ ls rfl hw f_o.2 f_q1.2 (fun n hn => rfl) hkp (lv_sub (l' := [(0, .ref o), (1, .int (nI 0))]) hl [1, 0] rfl)
