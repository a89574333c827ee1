/-! The law's own world: the class's cells, the reference's cells, side by side -/
theorem wd_kept {G : GG} {A : Nat → Prop} {L : List Nat} {F : FM} {H H1 : Heap} (h : wd G A L F H) (hk : ∀ a, a ∈ L → H1[a]? = H[a]?) : wd G A L F H1 := by
  refine ⟨h.1.kept (fun k x hx => ?_), h.2⟩
  simp only [va_pl, List.getElem?_map] at hx
  cases hl : L[k]? with
  | none => rw [hl] at hx; cases hx
  | some a =>
    rw [hl] at hx
    have := Option.some.inj hx
    subst this
    exact hk a (List.mem_of_getElem? hl)
theorem wd_lt {G : GG} {A : Nat → Prop} {L : List Nat} {F : FM} {H : Heap} (h : wd G A L F H) {a : Nat} (ha : a ∈ L) : a < H.size := by
  obtain ⟨k, hk⟩ := pl_at F ha
  exact (h.1 k _ hk).lt
theorem wd_A {G : GG} {A : Nat → Prop} {L : List Nat} {F : FM} {H : Heap} (h : wd G A L F H) {a : Nat} (ha : a ∈ L) : A a := by
  obtain ⟨k, hk⟩ := pl_at F ha
  exact h.2.2 k _ hk
theorem wd_in {G : GG} {A : Nat → Prop} {L : List Nat} {F : FM} {H : Heap} (h : wd G A L F H) : wd G (fun q => q ∈ L) L F H := by
  refine ⟨h.1, h.2.1, fun k q hq => ?_⟩
  simp only [va_pl, List.getElem?_map] at hq
  cases hl : L[k]? with
  | none => rw [hl] at hq; cases hq
  | some a =>
    rw [hl] at hq
    have := Option.some.inj hq
    subst this
    exact List.mem_of_getElem? hl
theorem en.narrow {G : GG} {A B : Nat → Prop} {U : State} (h : en G A U) (hAB : ∀ q, B q → A q) : en G B U := by
  obtain ⟨h1, ⟨t, h2, h3⟩, ⟨t2, h4, h5⟩, h6⟩ := h
  exact ⟨h1, ⟨t, h2.narrow hAB, h3.narrow hAB⟩, ⟨t2, h4.narrow hAB, h5.narrow hAB⟩, h6⟩
def LWS (G : GG) (s : State) (ad ma : Nat → Nat) (Sc Sm : SS) (H : Heap) (locs : List Loc) : Prop := (∃ Fc : FM, CR G ad Sc Fc ∧ wd G (fun q => q ∈ CL ad) (CL ad) Fc H) ∧ (∃ Fm : FM, MR G ma Sm Fm ∧ wd G (fun q => q ∈ ML ma) (ML ma) Fm H) ∧ va_S (fun q => s.heap.size ≤ q) s.heap H locs ∧ (∀ q, q ∈ CL ad → s.heap.size ≤ q) ∧ (∀ q, q ∈ ML ma → s.heap.size ≤ q) ∧ ∀ q, q ∈ CL ad → q ∉ ML ma
section LAWR
variable {p : Program} {l : Launch} {e : Env} {R : Room} {s : State} {m : MethodId} {args : Array Value} {below : List Frame} {meth : Method} {c : Code} {H : Heap} {locs : List Loc} {cells slots mc ms : Nat} {Q : State → Prop} {pc : Nat} {ls : Array Slot} {rest st0 st1 : List Value} {cc : ByteArray} {G : GG} {A0 A1 : Nat → Prop} {L : List Nat} {F : FM} {P : FM → Prop} {V : Option Value} {ad ma : Nat → Nat} {Sc Sm S2 : SS}
theorem h_goL {a0 : Array Value} (hr : va_Run p l e R s m args below meth c H locs cells slots 0 0 (F0 m pc ls st0) rest (QP G A1 L V P a0) A1) (hS : va_S A0 s.heap H locs) (hA : ∀ q, A1 q → A0 q) (h1 : V.toList ++ rest = st1)
    (kk : ∀ (F2 : FM) (H1 : Heap) (locs1 : List Loc), P F2 → wd G A1 L F2 H1 → (∀ q, q < H.size → ¬ A1 q → H1[q]? = H[q]?) → va_S A0 s.heap H1 locs1 → W p l e R s m args below meth c H1 locs1 cells slots Q (F0 m (pc + 3) ls st1)) : W p l e R s m args below meth c H locs cells slots Q (F0 m pc ls st0) := by
  subst h1
  intro T hT X
  obtain ⟨v, st₀, t, T', L1, h0, X', hL, e1, e2, ⟨⟨hv, F2, hP, hwd⟩, hz, hk⟩, st⟩ := hr T hT X
  cases hv
  rw [h0] at hz hk
  obtain ⟨t2, a1, b1⟩ := kk F2 T'.heap (locs ++ L1) hP (by rw [e1]; exact hwd) (fun q h1 h2 => by rw [e1]; exact hk q h1 h2) ⟨Nat.le_trans hS.1 (by rw [e1]; exact hz), fun q h1 h2 => by rw [e1, hk q (Nat.lt_of_lt_of_le h1 hS.1) (fun w => h2 (hA q w))]; exact hS.2.1 q h1 h2, fun q hq => by
      rcases List.mem_append.mp hq with h | h
      · exact hS.2.2 q h
      · exact hA _ (hL q h)⟩ T' rfl X'
  exact ⟨t2, st t2 a1, b1⟩
theorem h_goLN {a0 : Array Value} {PN : List Nat → FM → Prop} (hr : va_Run p l e R s m args below meth c H locs cells slots mc ms (F0 m pc ls st0) rest (QN G A1 PN a0) A1) (hS : va_S A0 s.heap H locs) (hA : ∀ q, A1 q → A0 q)
    (kk : ∀ (L2 : List Nat) (F2 : FM) (H1 : Heap) (locs1 : List Loc), PN L2 F2 → wd G A1 L2 F2 H1 → (∀ q, q < H.size → ¬ A1 q → H1[q]? = H[q]?) → va_S A0 s.heap H1 locs1 → W p l e R s m args below meth c H1 locs1 (cells + mc) (slots + ms) Q (F0 m (pc + 3) ls rest)) : W p l e R s m args below meth c H locs cells slots Q (F0 m pc ls st0) := by
  intro T hT X
  obtain ⟨v, st₀, t, T', L1, h0, X', hL, e1, e2, ⟨⟨hv, L2, F2, hP, hwd⟩, hz, hk⟩, st⟩ := hr T hT X
  cases hv
  rw [h0] at hz hk
  obtain ⟨t2, a1, b1⟩ := kk L2 F2 T'.heap (locs ++ L1) hP (by rw [e1]; exact hwd) (fun q h1 h2 => by rw [e1]; exact hk q h1 h2) ⟨Nat.le_trans hS.1 (by rw [e1]; exact hz), fun q h1 h2 => by rw [e1, hk q (Nat.lt_of_lt_of_le h1 hS.1) (fun w => h2 (hA q w))]; exact hS.2.1 q h1 h2, fun q hq => by
      rcases List.mem_append.mp hq with h | h
      · exact hS.2.2 q h
      · exact hA _ (hL q h)⟩ T' rfl X'
  exact ⟨t2, st t2 a1, b1⟩
theorem h_preL {av : List Value} (hE : en G A0 s) (hS : va_S A0 s.heap H locs) (hA : ∀ q, A1 q → A0 q) (hw : wd G A1 L F H) : FrameBlind (va_Pc av (fun U => wd G A1 L F U.heap ∧ en G A1 U)) ∧ ∀ U : State, U.heap = H → s.WarmedH U.vm → va_Pc av (fun U => wd G A1 L F U.heap ∧ en G A1 U) av.toArray U := by
  refine ⟨fun a U g mk q => ?_, fun U hU hW => ?_⟩
  · obtain ⟨q0, q1, q2⟩ := q
    exact ⟨q0, q1, en.call (s := U) (U := U.calling g mk a) q2 rfl rfl⟩
  · exact ⟨rfl, by rw [hU]; exact hw, (hE.move (fun q h1 h2 => by rw [hU]; exact hS.2.1 q h1 h2) hW).narrow hA⟩
theorem h_lawC {nL maxL n index : Nat} {Ts ws : List Cond} {own : String} {y : MethodName} {bytes : ByteArray} {ret : Option FieldType} {rm : Room} (As rest : List Value) (S : CallFix p m c cc nL s args Ts own) (hE : en G (fun q => s.heap.size ≤ q) s) (hw : LWS G s ad ma Sc Sm H locs) (hM : ∀ Fc : FM, CR G ad Sc Fc → PT l y ws rm G (fun q => q ∈ CL ad) (CL ad) (.ref (ad 51) :: As) Fc V (CR G ad S2)) (cw : CallW R s args own RX5 index y bytes maxL ret ws rm 0 0 n) (hn : As.length = n) (hsize : ls.size = nL) (hst : st0 = As.reverse ++ .ref (ad 51) :: rest) (hrm : (rest.map fun v => v.category).sum ≤ 8) (hdg : decode cc pc = .ok (.invokevirtual index, 3)) (hf : cells ≤ R.cells ∧ slots ≤ R.slots) (h1 : V.toList ++ rest = st1)
    (kk : ∀ (H1 : Heap) (locs1 : List Loc), LWS G s ad ma S2 Sm H1 locs1 → W p l e R s m args below meth c H1 locs1 cells slots Q (F0 m (pc + 3) ls st1)) : W p l e R s m args below meth c H locs cells slots Q (F0 m pc ls st0) := by
  obtain ⟨⟨Fc, hC, hwc⟩, ⟨Fm, hMr, hwm⟩, hS, h5, h6, hd⟩ := hw
  obtain ⟨q2, hCW, hq⟩ := id hC
  have hfp := hCW.fp
  obtain ⟨i, hi⟩ := pl_at Fc hfp.1
  rw [hfp.2] at hi
  obtain ⟨h2, h3⟩ := h_preL (av := .ref (ad 51) :: As) (A1 := fun q => q ∈ CL ad) hE hS h5 hwc
  have hrec := va_recv (ci := 5) (q := (RX5, TX5, 6)) hE.1 hwc.1 rfl hi
  exact h_goL (va_runV (As := As) (rest := rest) S (hM Fc hC) cw ⟨h2, hrec, h3⟩ rfl hn hsize hst (lv_room hrm) hdg hf) hS h5 h1 (fun F2 H1 locs1 hP hwd hk hS1 => kk H1 locs1 ⟨⟨F2, hP, hwd⟩, ⟨Fm, hMr, wd_kept hwm (fun a ha => hk a (wd_lt hwm ha) (fun w => hd a w ha))⟩, hS1, h5, h6, hd⟩)
theorem h_lawM {nL maxL n index : Nat} {Ts ws : List Cond} {own : String} {y : MethodName} {bytes : ByteArray} {ret : Option FieldType} {rm : Room} (As rest : List Value) (S : CallFix p m c cc nL s args Ts own) (hE : en G (fun q => s.heap.size ≤ q) s) (hw : LWS G s ad ma Sc Sm H locs) (hM : ∀ Fm : FM, MR G ma Sm Fm → PT l y ws rm G (fun q => q ∈ ML ma) (ML ma) (.ref (ma 0) :: As) Fm V (MR G ma S2)) (cw : CallW R s args own RX6 index y bytes maxL ret ws rm 0 0 n) (hn : As.length = n) (hsize : ls.size = nL) (hst : st0 = As.reverse ++ .ref (ma 0) :: rest) (hrm : (rest.map fun v => v.category).sum ≤ 8) (hdg : decode cc pc = .ok (.invokevirtual index, 3)) (hf : cells ≤ R.cells ∧ slots ≤ R.slots) (h1 : V.toList ++ rest = st1)
    (kk : ∀ (H1 : Heap) (locs1 : List Loc), LWS G s ad ma Sc S2 H1 locs1 → W p l e R s m args below meth c H1 locs1 cells slots Q (F0 m (pc + 3) ls st1)) : W p l e R s m args below meth c H locs cells slots Q (F0 m pc ls st0) := by
  obtain ⟨⟨Fc, hC, hwc⟩, ⟨Fm, hMr, hwm⟩, hS, h5, h6, hd⟩ := hw
  obtain ⟨M, hMW, hrel⟩ := id hMr
  have hfp := hMW.ob
  obtain ⟨i, hi⟩ := pl_at Fm hfp.1
  rw [hfp.2] at hi
  obtain ⟨h2, h3⟩ := h_preL (av := .ref (ma 0) :: As) (A1 := fun q => q ∈ ML ma) hE hS h6 hwm
  have hrec := va_recv (ci := 6) (q := (RX6, TX6, 18)) hE.1 hwm.1 rfl hi
  exact h_goL (va_runV (As := As) (rest := rest) S (hM Fm hMr) cw ⟨h2, hrec, h3⟩ rfl hn hsize hst (lv_room hrm) hdg hf) hS h6 h1 (fun F2 H1 locs1 hP hwd hk hS1 => kk H1 locs1 ⟨⟨Fc, hC, wd_kept hwc (fun a ha => hk a (wd_lt hwc ha) (hd a ha))⟩, ⟨F2, hP, hwd⟩, hS1, h5, h6, hd⟩)
theorem h_sld (hexec : p.tables.exec = Jvm.exec) (hb : c.code = cc) {b N : Nat} {xs : Nat → Int32} (hX : va_X b N xs s s.heap) (hbl : b < s.heap.size) (hS : va_S (fun q => s.heap.size ≤ q) s.heap H locs) {i : Nat} (hi : i < N) (hN : N ≤ 3072) (hdg : decode cc pc = .ok (.iaload, 1))
    (kk : W p l e R s m args below meth c H locs cells slots Q (F0 m (pc + 1) ls (.int (xs i) :: rest))) : W p l e R s m args below meth c H locs cells slots Q (F0 m pc ls (.int (nI i) :: .ref b :: rest)) := by
  refine va_sld hexec hb hX hbl (fun w => absurd hbl (Nat.not_lt.mpr w)) hS (vp_in_nI hi (by omega)) hdg ?_
  rw [nI_clamp (by omega)]
  exact kk
end LAWR
theorem lt6 {N i : Nat} (hN : N ≤ 3072) (hi : i ≤ 4000) : nI N - 6 < nI i ↔ (N : Int) - 6 < i := by
  rw [Int32.lt_iff_toInt_lt, show (nI N - 6).toInt = (N : Int) - 6 from pk_sub_toInt (b := 6) (by omega) (by decide), nI_toInt (by omega)]
