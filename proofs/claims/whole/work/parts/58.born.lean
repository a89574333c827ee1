/-! Making cells: the list of addresses grows -/
section BORN
variable {p : Program} {l : Launch} {e : Env} {R : Room} {s : State} {m : MethodId} {args : Array Value} {below : List Frame} {meth : Method} {c : Code} {H : Heap} {locs : List Loc} {cells slots : Nat} {Q : State → Prop} {pc : Nat} {ls : Array Slot} {rest st0 st1 : List Value} {cc : ByteArray} {G : GG} {A : Nat → Prop} {H0 : Heap} {L : List Nat} {F : FM} {a : Nat}
theorem wo_push {q : Nat} {x : va_E} (hP : va_P G.1 vwCl (va_pl L F ++ [(q, x)]) H) (hD : va_D A (va_pl L F ++ [(q, x)])) (hS : va_S A H0 H locs) : q ∉ L ∧ wo G A H0 (L ++ [q]) (va_up F q x) H locs := by
  have hn : q ∉ L := fun hq => by
    obtain ⟨k, hk⟩ := pl_at F hq
    have hlt : k < (va_pl L F).length := (List.getElem?_eq_some_iff.mp hk).1
    have h1 : (va_pl L F ++ [(q, x)])[k]? = some (q, F q) := by rw [List.getElem?_append_left hlt]; exact hk
    have h2 : (va_pl L F ++ [(q, x)])[(va_pl L F).length]? = some (q, x) := by rw [List.getElem?_append_right (Nat.le_refl _), Nat.sub_self]; rfl
    have := hD.1 _ _ _ _ h1 h2 rfl
    omega
  refine ⟨hn, ⟨?_, ?_⟩, hS⟩
  · rw [← va_pl_push hn]; exact hP
  · rw [← va_pl_push hn]; exact hD
theorem nem {L : List Nat} {b q : Nat} (h : b ∈ L) (hq : q ∉ L) : b ≠ q := fun w => by rw [w] at h; exact hq h
theorem pt_push {b q : Nat} {x y : va_E} (h : pt L F b x) (hq : q ∉ L) : pt (L ++ [q]) (va_up F q y) b x := ⟨List.mem_append_left _ h.1, (va_up_ne F y (nem h.1 hq)).trans h.2⟩
theorem pt_new {q : Nat} {y : va_E} : pt (L ++ [q]) (va_up F q y) q y := ⟨List.mem_append_right _ List.mem_cons_self, va_up_self F q y⟩
theorem h_new (hexec : p.tables.exec = Jvm.exec) (hb : c.code = cc) (hK : va_K G.1 vwCl (gty G) s) (hw : wo G A H0 L F H locs) (hA : ∀ q, H0.size ≤ q → A q) {own C : String} {T : u_T} {N ci index : Nat} {Ts : List Cond} (hts : ∀ w ∈ Ts, w.before args s = true) (hin : ∀ w ∈ u_ws C T N, w ∈ Ts) (ty : Nat → FieldType) (hty : ∀ k, k < N → parseFieldDescriptor (T k).2.2.1 = some (ty k)) (hown : s.vm.findClass own = some m.cls) (hcl : (Cond.classLink own index C).before args s = true) (hinst : (Cond.instantiable C N).before args s = true) (hini : (Cond.initialized C).before args s = true) (hc : vwCl[ci]? = some (C, T, N)) {fs : List Value} (hfs : ∀ j, j < N → defaultValue (ty j) = vp_V fs j) (hcells : cells + 1 ≤ R.cells) (hslots : slots + N ≤ R.slots) (hdg : decode cc pc = .ok (.new index, 3))
    (kk : ∀ (q : Nat) (H1 : Heap), q ∉ L → wo G A H0 (L ++ [q]) (va_up F q (.inr (ci, fs))) H1 locs → W p l e R s m args below meth c H1 locs (cells + 1) (slots + N) Q (F0 m (pc + 3) ls (.ref q :: rest))) : W p l e R s m args below meth c H locs cells slots Q (F0 m pc ls rest) :=
  va_new (D := G.1) (tys := gty G) hexec hb hts hin ty hty hown hcl hinst hini hK hw.1.1 hw.1.2 hw.2 hA hc hfs hcells hslots hdg (fun q H1 h1 h2 h3 => kk q H1 (wo_push h1 h2 h3).1 (wo_push h1 h2 h3).2)
theorem h_newI (hexec : p.tables.exec = Jvm.exec) (hb : c.code = cc) (hK : va_K G.1 vwCl (gty G) s) (hw : wo G A H0 L F H locs) (hA : ∀ q, H0.size ≤ q → A q) (harr : (Cond.arrayClass .int).before args s = true) {n : Int32} (N : Nat) (hn : n = nI N) (hN : N ≤ 1000) (hcells : cells + 1 ≤ R.cells) (hslots : slots + N ≤ R.slots) (hdg : decode cc pc = .ok (.newarray .int, 2))
    (kk : ∀ (q : Nat) (H1 : Heap), q ∉ L → wo G A H0 (L ++ [q]) (va_up F q (eI G N (fun _ => 0))) H1 locs → W p l e R s m args below meth c H1 locs (cells + 1) (slots + N) Q (F0 m (pc + 2) ls (.ref q :: rest))) : W p l e R s m args below meth c H locs cells slots Q (F0 m pc ls (.int n :: rest)) := by
  subst hn
  refine va_newa (D := G.1) (tys := gty G) (atype := .int) (ty := .int) (a0 := (N, .inl (fun _ => 0))) hexec hb harr rfl hK hw.1.1 hw.1.2 hw.2 hA (fun cA => by rw [vp_cell_i]; rfl) (nI_pos (by omega)) (nI_clamp (by omega)) (by show N * 4 ≤ 536870912; omega) hcells hslots hdg (fun q cA H1 hK2 h1 h2 h3 => ?_)
  have e1 : s.vm.findClass _ = some cA := (hK2.2 4 _ rfl).2
  have e2 : s.vm.findClass _ = some G.2.1 := (hK.2 0 _ rfl).2
  have e3 : cA = G.2.1 := Option.some.inj (e1.symm.trans e2)
  subst e3
  exact kk q H1 (wo_push h1 h2 h3).1 (wo_push h1 h2 h3).2
theorem h_newJ (hexec : p.tables.exec = Jvm.exec) (hb : c.code = cc) (hK : va_K G.1 vwCl (gty G) s) (hw : wo G A H0 L F H locs) (hA : ∀ q, H0.size ≤ q → A q) (harr : (Cond.arrayClass .long).before args s = true) {n : Int32} (N : Nat) (hn : n = nI N) (hN : N ≤ 1000) (hcells : cells + 1 ≤ R.cells) (hslots : slots + N ≤ R.slots) (hdg : decode cc pc = .ok (.newarray .long, 2))
    (kk : ∀ (q : Nat) (H1 : Heap), q ∉ L → wo G A H0 (L ++ [q]) (va_up F q (eJ G N (fun _ => 0))) H1 locs → W p l e R s m args below meth c H1 locs (cells + 1) (slots + N) Q (F0 m (pc + 2) ls (.ref q :: rest))) : W p l e R s m args below meth c H locs cells slots Q (F0 m pc ls (.int n :: rest)) := by
  subst hn
  refine va_newa (D := G.1) (tys := gty G) (atype := .long) (ty := .long) (a0 := (N, .inr (.inl (fun _ => 0)))) hexec hb harr rfl hK hw.1.1 hw.1.2 hw.2 hA (fun cA => by rw [vp_cell_l]; rfl) (nI_pos (by omega)) (nI_clamp (by omega)) (by show N * 8 ≤ 536870912; omega) hcells hslots hdg (fun q cA H1 hK2 h1 h2 h3 => ?_)
  have e1 : s.vm.findClass _ = some cA := (hK2.2 4 _ rfl).2
  have e2 : s.vm.findClass _ = some G.2.2.1 := (hK.2 1 _ rfl).2
  have e3 : cA = G.2.2.1 := Option.some.inj (e1.symm.trans e2)
  subst e3
  exact kk q H1 (wo_push h1 h2 h3).1 (wo_push h1 h2 h3).2
theorem h_newQ (hexec : p.tables.exec = Jvm.exec) (hb : c.code = cc) (hK : va_K G.1 vwCl (gty G) s) (hw : wo G A H0 L F H locs) (hA : ∀ q, H0.size ≤ q → A q) {own : String} {index : Nat} (hown : s.vm.findClass own = some m.cls) (hclink : (Cond.classLink own index RX1).before args s = true) (hover : va_AO RX1 s) {n : Int32} (N : Nat) (hn : n = nI N) (hN : N ≤ 1000) (hcells : cells + 1 ≤ R.cells) (hslots : slots + N ≤ R.slots) (hdg : decode cc pc = .ok (.anewarray index, 3))
    (kk : ∀ (q : Nat) (H1 : Heap), q ∉ L → wo G A H0 (L ++ [q]) (va_up F q (eRQ G N (fun _ => none))) H1 locs → W p l e R s m args below meth c H1 locs (cells + 1) (slots + N) Q (F0 m (pc + 3) ls (.ref q :: rest))) : W p l e R s m args below meth c H locs cells slots Q (F0 m pc ls (.int n :: rest)) := by
  subst hn
  refine va_newq (D := G.1) (tys := gty G) hexec hb hown hclink hover hK hw.1.1 hw.1.2 hw.2 hA (nI_pos (by omega)) (nI_clamp (by omega)) (by omega) hcells hslots hdg (fun q cA H1 hK2 h1 h2 h3 => ?_)
  obtain ⟨kA, comp, -, -, -, e1⟩ := (hK2.2 4 _ rfl).2
  obtain ⟨kB, comp2, -, -, -, e2⟩ := (hK.2 2 _ rfl).2
  have e3 : cA = G.2.2.2.1 := Option.some.inj (e1.symm.trans e2)
  subst e3
  exact kk q H1 (wo_push h1 h2 h3).1 (wo_push h1 h2 h3).2
theorem h_newS (hexec : p.tables.exec = Jvm.exec) (hb : c.code = cc) (hK : va_K G.1 vwCl (gty G) s) (hw : wo G A H0 L F H locs) (hA : ∀ q, H0.size ≤ q → A q) {own : String} {index : Nat} (hown : s.vm.findClass own = some m.cls) (hclink : (Cond.classLink own index RX3).before args s = true) (hover : va_AO RX3 s) {n : Int32} (N : Nat) (hn : n = nI N) (hN : N ≤ 1000) (hcells : cells + 1 ≤ R.cells) (hslots : slots + N ≤ R.slots) (hdg : decode cc pc = .ok (.anewarray index, 3))
    (kk : ∀ (q : Nat) (H1 : Heap), q ∉ L → wo G A H0 (L ++ [q]) (va_up F q (eRS G N (fun _ => none))) H1 locs → W p l e R s m args below meth c H1 locs (cells + 1) (slots + N) Q (F0 m (pc + 3) ls (.ref q :: rest))) : W p l e R s m args below meth c H locs cells slots Q (F0 m pc ls (.int n :: rest)) := by
  subst hn
  refine va_newq (D := G.1) (tys := gty G) hexec hb hown hclink hover hK hw.1.1 hw.1.2 hw.2 hA (nI_pos (by omega)) (nI_clamp (by omega)) (by omega) hcells hslots hdg (fun q cA H1 hK2 h1 h2 h3 => ?_)
  obtain ⟨kA, comp, -, -, -, e1⟩ := (hK2.2 4 _ rfl).2
  obtain ⟨kB, comp2, -, -, -, e2⟩ := (hK.2 3 _ rfl).2
  have e3 : cA = G.2.2.2.2 := Option.some.inj (e1.symm.trans e2)
  subst e3
  exact kk q H1 (wo_push h1 h2 h3).1 (wo_push h1 h2 h3).2
theorem h_putF (hexec : p.tables.exec = Jvm.exec) (hb : c.code = cc) (hK : va_K G.1 vwCl (gty G) s) (hw : wo G A H0 L F H locs) {own ref C : String} {T : u_T} {N ci index : Nat} {Ts : List Cond} (hts : ∀ w ∈ Ts, w.before args s = true) (hin : ∀ w ∈ u_ws C T N, w ∈ Ts) (ty0 : Nat → FieldType) (hty : ∀ k, k < N → parseFieldDescriptor (T k).2.2.1 = some (ty0 k)) (hnm : ∀ a, a < N → ∀ b, b < N → a ≠ b → (T a).2.1 ≠ (T b).2.1) (hown : s.vm.findClass own = some m.cls) (hc : vwCl[ci]? = some (C, T, N)) (k : Nat) (hk : k < N) (hlink : (Cond.fieldLink own index ref (T k).2.1 (T k).2.2.1).before args s = true) (hsame : ∀ x, s.fieldFound? (T k).1 (T k).2.1 (T k).2.2.1 = some x → s.fieldFound? ref (T k).2.1 (T k).2.2.1 = some x) (hfin : (T k).2.2.2 = true) (hin2 : meth.name = "<init>") (hdecl : (T k).1 = own) {fs : List Value} (he : pt L F a (.inr (ci, fs))) {ty : FieldType} {v : Value} (hd : parseFieldDescriptor (T k).2.2.1 = some ty) (hn : narrow ty v = v) (hfit : fits ty v = true) (hl : k < fs.length) {fs2 : List Value} (hf2 : fs.set k v = fs2)
    (hdg : decode cc pc = .ok (.putfield index, 3)) (kk : ∀ (H1 : Heap) (locs1 : List Loc), wo G A H0 L (va_up F a (.inr (ci, fs2))) H1 locs1 → W p l e R s m args below meth c H1 locs1 cells slots Q (F0 m (pc + 3) ls rest)) : W p l e R s m args below meth c H locs cells slots Q (F0 m pc ls (v :: .ref a :: rest)) := by
  subst hf2
  obtain ⟨i, hi0⟩ := pl_at F he.1
  have hi := hi0
  rw [he.2] at hi
  refine va_putF (D := G.1) (tys := gty G) hexec hb hts hin ty0 hty hnm hown hK hw.1.1 hw.1.2 hw.2 i hi hc k hk hlink hsame hfin hin2 hdecl hd hn hfit hl hdg (fun H1 locs1 h1 h2 h3 => kk H1 locs1 ⟨⟨?_, ?_⟩, h3⟩)
  · rw [← pl_set hw.1.2 he.1 hi0]; exact h1
  · rw [← pl_set hw.1.2 he.1 hi0]; exact h2
theorem h_qast (hexec : p.tables.exec = Jvm.exec) (hb : c.code = cc) (hK : va_K G.1 vwCl (gty G) s) (hw : wo G A H0 L F H locs) {n v : Nat} {f : Nat → Option Nat} {vs : List Value} (he : pt L F a (eRQ G n f)) (hv : pt L F v (.inr (1, vs))) {i : Int32} (hin : vp_in i n) {g : Nat → Option Nat} (hg : va_up f i.toNatClampNeg (some v) = g) (hdg : decode cc pc = .ok (.aastore, 1))
    (kk : ∀ (H1 : Heap) (locs1 : List Loc), wo G A H0 L (va_up F a (eRQ G n g)) H1 locs1 → W p l e R s m args below meth c H1 locs1 cells slots Q (F0 m (pc + 1) ls rest)) : W p l e R s m args below meth c H locs cells slots Q (F0 m pc ls (.ref v :: .int i :: .ref a :: rest)) := by
  subst hg
  obtain ⟨k, hk0⟩ := pl_at F he.1
  have hk := hk0
  rw [he.2] at hk
  obtain ⟨k2, hk2⟩ := pl_at F hv.1
  rw [hv.2] at hk2
  refine va_astq (D := G.1) (tys := gty G) (ci := 1) (r := (RX1, TX1, 4)) hexec hb hK hw.1.1 hw.1.2 hw.2 k 2 k2 hk rfl hk2 rfl hin hdg (fun H1 locs1 h1 h2 h3 => kk H1 locs1 ⟨⟨?_, ?_⟩, h3⟩)
  · rw [← pl_set hw.1.2 he.1 hk0]; exact h1
  · rw [← pl_set hw.1.2 he.1 hk0]; exact h2
theorem h_sast (hexec : p.tables.exec = Jvm.exec) (hb : c.code = cc) (hK : va_K G.1 vwCl (gty G) s) (hw : wo G A H0 L F H locs) {n v : Nat} {f : Nat → Option Nat} {vs : List Value} (he : pt L F a (eRS G n f)) (hv : pt L F v (.inr (3, vs))) {i : Int32} (hin : vp_in i n) {g : Nat → Option Nat} (hg : va_up f i.toNatClampNeg (some v) = g) (hdg : decode cc pc = .ok (.aastore, 1))
    (kk : ∀ (H1 : Heap) (locs1 : List Loc), wo G A H0 L (va_up F a (eRS G n g)) H1 locs1 → W p l e R s m args below meth c H1 locs1 cells slots Q (F0 m (pc + 1) ls rest)) : W p l e R s m args below meth c H locs cells slots Q (F0 m pc ls (.ref v :: .int i :: .ref a :: rest)) := by
  subst hg
  obtain ⟨k, hk0⟩ := pl_at F he.1
  have hk := hk0
  rw [he.2] at hk
  obtain ⟨k2, hk2⟩ := pl_at F hv.1
  rw [hv.2] at hk2
  refine va_astq (D := G.1) (tys := gty G) (ci := 3) (r := (RX3, TX3, 3)) hexec hb hK hw.1.1 hw.1.2 hw.2 k 3 k2 hk rfl hk2 rfl hin hdg (fun H1 locs1 h1 h2 h3 => kk H1 locs1 ⟨⟨?_, ?_⟩, h3⟩)
  · rw [← pl_set hw.1.2 he.1 hk0]; exact h1
  · rw [← pl_set hw.1.2 he.1 hk0]; exact h2
end BORN
/-! What a constructor needs of the tables beside its own words -/
abbrev nw1 : Cond := .methodLinkNest RX5 23 yX2_init RX5
abbrev nw2 : Cond := .methodLinkNest RX2 11 yX1_init RX5
abbrev nw3 : Cond := .methodLinkNest RX4 17 yX1_init RX5
abbrev nw4 : Cond := .methodLinkNest RX5 42 yX1_init RX5
abbrev nw5 : Cond := .methodLinkNest RX5 47 yX3_init RX5
def ec (G : GG) (A : Nat → Prop) (U : State) : Prop := en G A U ∧ (va_Nw nw1 U ∧ va_Nw nw2 U ∧ va_Nw nw3 U ∧ va_Nw nw4 U ∧ va_Nw nw5 U) ∧ (va_AO RX1 U ∧ va_AO RX3 U) ∧ ∀ q, U.heap.size ≤ q → A q
theorem ec.move {G : GG} {A : Nat → Prop} {s U : State} (h : ec G A s) (hk : ∀ a : Nat, a < s.heap.size → ¬ A a → U.heap[a]? = s.heap[a]?) (hz : s.heap.size ≤ U.heap.size) (hW : s.WarmedH U.vm) : ec G A U := by
  obtain ⟨h1, ⟨a1, a2, a3, a4, a5⟩, ⟨b1, b2⟩, h4⟩ := h
  exact ⟨h1.move hk hW, ⟨va_Nw.warmM hW a1, va_Nw.warmM hW a2, va_Nw.warmM hW a3, va_Nw.warmM hW a4, va_Nw.warmM hW a5⟩, ⟨b1.moved hW.alike, b2.moved hW.alike⟩, fun q hq => h4 q (Nat.le_trans hz hq)⟩
theorem ec.call {G : GG} {A : Nat → Prop} {s U : State} (h : ec G A s) (hh : U.heap = s.heap) (hv : s.vm = U.vm) : ec G A U := by
  obtain ⟨h1, ⟨a1, a2, a3, a4, a5⟩, ⟨b1, b2⟩, h4⟩ := h
  have hvm : s.vm.Alike U.vm := by rw [hv]; exact Vm.Alike.refl U.vm
  exact ⟨h1.call hh hv, ⟨va_Nw.same rfl hv a1, va_Nw.same rfl hv a2, va_Nw.same rfl hv a3, va_Nw.same rfl hv a4, va_Nw.same rfl hv a5⟩, ⟨b1.moved hvm, b2.moved hvm⟩, fun q hq => h4 q (by rw [hh] at hq; exact hq)⟩
abbrev QN (G : GG) (A : Nat → Prop) (P : List Nat → FM → Prop) : Array Value → State → Outcome → State → Prop := fun _ st oc t => (oc = .returned none ∧ ∃ (L2 : List Nat) (F2 : FM), P L2 F2 ∧ wd G A L2 F2 t.heap) ∧ va_F A st t
/-- a constructor of the object at o: from the world (L, F) it comes to one of which P holds; at most mc cells of ms slots are new -/
def NT (l : Launch) (y : MethodName) (ws : List Cond) (rm : Room) (G : GG) (A : Nat → Prop) (L : List Nat) (o : Nat) (F : FM) (P : List Nat → FM → Prop) (mc ms : Nat) : Prop :=
  Met l y ws rm (va_Pc [.ref o] (fun U => wd G A L F U.heap ∧ ec G A U)) (QN G A P) mc ms A
theorem NT.ofW {l : Launch} {y : MethodName} {ws ws' : List Cond} {rm : Room} {G : GG} {A : Nat → Prop} {L : List Nat} {o : Nat} {F : FM} {P : List Nat → FM → Prop} {mc ms : Nat} {cc : ByteArray} {maxL : Nat} (hy : plainFor y = true) (hyn : y.name = "<init>") (hw : ws = Cond.code y cc maxL none :: ws') (hlen : 1 ≤ maxL)
    (body : ∀ (p : Program) (e : Env) (s : State) (m : MethodId) (below : List Frame) (meth : Method) (c : Code) (ls : Array Slot), p.tables.exec = Jvm.exec → c.code = cc → meth.sig.returnType = none → c.maxLocals = maxL → s.vm.findClass y.cls = some m.cls → (∀ w ∈ ws, w.before [Value.ref o].toArray s = true) → meth.locks = false → meth.name = "<init>" → ec G A s → wo G A s.heap L F s.heap [] → lv_has ls maxL [(0, .ref o)] →
      W p l e rm s m [Value.ref o].toArray below meth c s.heap [] 0 0 (MQ below (QN G A P) [Value.ref o].toArray s mc ms A) (F0 m 0 ls [])) : NT l y ws rm G A L o F P mc ms := by
  refine va_MetF (cc := cc) (maxL := maxL) (ret := none) hy hw ?_
  intro p e s m args below meth c s₁ B hml hv
  obtain ⟨rfl, hwd, hE⟩ := hv
  rw [lg_entry_eq]
  exact body p e s m below meth c _ B.exec B.bytes B.returns hml (findClass_of_methodNamed B.named) (atoms_spec (ws := ws) B.pre) B.notSynchronized ((name_of_methodNamed B.named B.method).1.trans hyn) hE ⟨hwd, va_S.rf⟩ (lv_entry [.ref o] hlen)
section BORC
variable {p : Program} {l : Launch} {e : Env} {R : Room} {s : State} {m : MethodId} {args : Array Value} {below : List Frame} {meth : Method} {c : Code} {H : Heap} {locs : List Loc} {cells slots mc ms : Nat} {Q : State → Prop} {pc : Nat} {ls : Array Slot} {rest st0 : List Value} {cc : ByteArray} {G : GG} {A : Nat → Prop} {L : List Nat} {F : FM} {P : List Nat → FM → Prop} {b : Nat}
theorem h_goN {a0 : Array Value} (hr : va_Run p l e R s m args below meth c H locs cells slots mc ms (F0 m pc ls st0) rest (QN G A P a0) A) (hS : va_S A s.heap H locs)
    (kk : ∀ (L2 : List Nat) (F2 : FM) (H1 : Heap) (locs1 : List Loc), P L2 F2 → wo G A s.heap L2 F2 H1 locs1 → W p l e R s m args below meth c H1 locs1 (cells + mc) (slots + ms) Q (F0 m (pc + 3) ls rest)) : W p l e R s m args below meth c H locs cells slots Q (F0 m pc ls st0) := by
  intro T hT X
  obtain ⟨v, st₀, t, T', L1, h0, X', hL, e1, e2, ⟨⟨hv, L2, F2, hP, hwd⟩, hz, hk⟩, st⟩ := hr T hT X
  cases hv
  rw [h0] at hz hk
  obtain ⟨t2, a1, b1⟩ := kk L2 F2 T'.heap (locs ++ L1) hP ⟨by rw [e1]; exact hwd, Nat.le_trans hS.1 (by rw [e1]; exact hz), fun q h1 h2 => by rw [e1, hk q (Nat.lt_of_lt_of_le h1 hS.1) h2]; exact hS.2.1 q h1 h2, fun q hq => by
      rcases List.mem_append.mp hq with h | h
      · exact hS.2.2 q h
      · exact hL q h⟩ T' rfl X'
  exact ⟨t2, st t2 a1, b1⟩
theorem h_preN (hE : ec G A s) (hw : wo G A s.heap L F H locs) : FrameBlind (va_Pc [.ref b] (fun U => wd G A L F U.heap ∧ ec G A U)) ∧ ∀ U : State, U.heap = H → s.WarmedH U.vm → va_Pc [.ref b] (fun U => wd G A L F U.heap ∧ ec G A U) [Value.ref b].toArray U := by
  refine ⟨fun a U g mk q => ?_, fun U hU hW => ?_⟩
  · obtain ⟨q0, q1, q2⟩ := q
    exact ⟨q0, q1, ec.call (s := U) (U := U.calling g mk a) q2 rfl rfl⟩
  · exact ⟨rfl, by rw [hU]; exact hw.1, hE.move (fun q h1 h2 => by rw [hU]; exact hw.2.2.1 q h1 h2) (by rw [hU]; exact hw.2.1) hW⟩
theorem h_callNI {nL maxL index : Nat} {Ts ws : List Cond} {own : String} {y : MethodName} {bytes : ByteArray} {rm : Room} (rest : List Value) (S : CallFix p m c cc nL s args Ts own) (hE : ec G A s) (hw : wo G A s.heap L F H locs) (hM : NT l y ws rm G A L b F P mc ms) (cw : CallB R s args own index y bytes maxL none ws rm mc ms 0 ∧ y.name = "<init>" ∧ (Cond.instanceMethod y).before args s = true) (hsize : ls.size = nL) (hrm : (rest.map fun v => v.category).sum ≤ 8) (hdg : decode cc pc = .ok (.invokespecial index, 3)) (hf : cells + mc ≤ R.cells ∧ slots + ms ≤ R.slots)
    (kk : ∀ (L2 : List Nat) (F2 : FM) (H1 : Heap) (locs1 : List Loc), P L2 F2 → wo G A s.heap L2 F2 H1 locs1 → W p l e R s m args below meth c H1 locs1 (cells + mc) (slots + ms) Q (F0 m (pc + 3) ls rest)) : W p l e R s m args below meth c H locs cells slots Q (F0 m pc ls (.ref b :: rest)) := by
  obtain ⟨h2, h3⟩ := h_preN (b := b) hE hw
  exact h_goN (va_runI (b := b) (As := []) (rest := rest) S hM cw ⟨h2, h3⟩ rfl rfl hsize rfl (lv_room hrm) hdg hf) hw.2 kk
theorem h_callNN {nL maxL index : Nat} {Ts ws : List Cond} {own host : String} {y : MethodName} {bytes : ByteArray} {rm : Room} (rest : List Value) (S : CallFix p m c cc nL s args Ts own) (hE : ec G A s) (hw : wo G A s.heap L F H locs) (hM : NT l y ws rm G A L b F P mc ms) (cw : va_CN R s args own index y host bytes maxL none ws rm mc ms 0 ∧ y.name = "<init>" ∧ (Cond.instanceMethod y).before args s = true) (hsize : ls.size = nL) (hrm : (rest.map fun v => v.category).sum ≤ 8) (hdg : decode cc pc = .ok (.invokespecial index, 3)) (hf : cells + mc ≤ R.cells ∧ slots + ms ≤ R.slots)
    (kk : ∀ (L2 : List Nat) (F2 : FM) (H1 : Heap) (locs1 : List Loc), P L2 F2 → wo G A s.heap L2 F2 H1 locs1 → W p l e R s m args below meth c H1 locs1 (cells + mc) (slots + ms) Q (F0 m (pc + 3) ls rest)) : W p l e R s m args below meth c H locs cells slots Q (F0 m pc ls (.ref b :: rest)) := by
  obtain ⟨h2, h3⟩ := h_preN (b := b) hE hw
  exact h_goN (va_runIN (b := b) (As := []) (rest := rest) S hM cw ⟨h2, h3⟩ rfl rfl hsize rfl (lv_room hrm) hdg hf) hw.2 kk
theorem h_callHN {nL maxL index : Nat} {Ts ws : List Cond} {own host : String} {y : MethodName} {bytes : ByteArray} {rm : Room} {F2 : FM} (rest : List Value) (S : CallFix p m c cc nL s args Ts own) (hE : en G A s) (hw : wo G A s.heap L F H locs) (hM : HT l y ws rm G A L [.ref b] F none F2) (cw : va_CN R s args own index y host bytes maxL none ws rm 0 0 0 ∧ y.name = "<init>" ∧ (Cond.instanceMethod y).before args s = true) (hsize : ls.size = nL) (hrm : (rest.map fun v => v.category).sum ≤ 8) (hdg : decode cc pc = .ok (.invokespecial index, 3)) (hf : cells ≤ R.cells ∧ slots ≤ R.slots)
    (kk : ∀ (H1 : Heap) (locs1 : List Loc), wo G A s.heap L F2 H1 locs1 → W p l e R s m args below meth c H1 locs1 cells slots Q (F0 m (pc + 3) ls rest)) : W p l e R s m args below meth c H locs cells slots Q (F0 m pc ls (.ref b :: rest)) := by
  obtain ⟨h2, h3⟩ := h_pre (av := [.ref b]) hE hw
  exact h_go (va_runIN (b := b) (As := []) (rest := rest) S hM cw ⟨h2, h3⟩ rfl rfl hsize rfl (lv_room hrm) hdg hf) hw.2 rfl kk
theorem h_vretN (hexec : p.tables.exec = Jvm.exec) (hb : c.code = cc) (hlocks : meth.locks = false) (hr : meth.sig.returnType = none) (hw : wo G A s.heap L F H locs) (hdg : decode cc pc = .ok (.return_, 1)) (hP : P L F) (h1 : cells ≤ mc) (h2 : slots ≤ ms) : W p l e R s m args below meth c H locs cells slots (MQ below (QN G A P) args s mc ms A) (F0 m pc ls []) :=
  W.widen h1 h2 (W.vret hexec hb hr (fun t ht _ => ⟨⟨rfl, L, F, hP, by rw [ht]; exact hw.1⟩, hw.2.F ht⟩) hw.2.2.2 hdg hlocks)
end BORC
/-- the addresses of a world are apart -/
theorem wd_nd {G : GG} {A : Nat → Prop} {L : List Nat} {F : FM} {H : Heap} (h : wd G A L F H) : L.Nodup := by
  rw [List.nodup_iff_pairwise_ne, List.pairwise_iff_getElem]
  intro i j hi hj hij he
  have h1 : (va_pl L F)[i]? = some (L[i], F L[i]) := by simp [va_pl, List.getElem?_eq_getElem hi]
  have h2 : (va_pl L F)[j]? = some (L[j], F L[j]) := by simp [va_pl, List.getElem?_eq_getElem hj]
  have := h.2.1 i j _ _ h1 h2 he
  omega
theorem wd_sub {G : GG} {A : Nat → Prop} {L L2 : List Nat} {F : FM} {H : Heap} (h : wd G A L F H) (hs : ∀ a, a ∈ L2 → a ∈ L) (hn : L2.Nodup) : wd G A L2 F H := by
  have key : ∀ (k : Nat) (q : Nat × va_E), (va_pl L2 F)[k]? = some q → ∃ a, L2[k]? = some a ∧ q = (a, F a) := fun k q hq => by
    simp only [va_pl, List.getElem?_map] at hq
    cases hl : L2[k]? with
    | none => rw [hl] at hq; cases hq
    | some a => rw [hl] at hq; exact ⟨a, rfl, (Option.some.inj hq).symm⟩
  refine ⟨fun k q hq => ?_, fun i j x y hx hy hxy => ?_, fun k q hq => ?_⟩
  · obtain ⟨a, h1, rfl⟩ := key k q hq
    obtain ⟨i, hi⟩ := pl_at F (hs a (List.mem_of_getElem? h1))
    exact h.1 i _ hi
  · obtain ⟨a, h1, rfl⟩ := key i x hx
    obtain ⟨b, h2, rfl⟩ := key j y hy
    have hab : a = b := hxy
    subst hab
    have hi := (List.getElem?_eq_some_iff.mp h1).1
    have hj := (List.getElem?_eq_some_iff.mp h2).1
    have g1 : L2[i] = a := (List.getElem?_eq_some_iff.mp h1).2
    have g2 : L2[j] = a := (List.getElem?_eq_some_iff.mp h2).2
    have hpw := List.pairwise_iff_getElem.mp (List.nodup_iff_pairwise_ne.mp hn)
    rcases Nat.lt_trichotomy i j with w | w | w
    · exact absurd (g1.trans g2.symm) (hpw i j hi hj w)
    · exact w
    · exact absurd (g2.trans g1.symm) (hpw j i hj hi w)
  · obtain ⟨a, h1, rfl⟩ := key k q hq
    obtain ⟨i, hi⟩ := pl_at F (hs a (List.mem_of_getElem? h1))
    exact h.2.2 i _ hi
theorem wd_perm {G : GG} {A : Nat → Prop} {L L2 : List Nat} {F : FM} {H : Heap} (h : wd G A L F H) (hp : L.Perm L2) : wd G A L2 F H := wd_sub h (fun a ha => hp.mem_iff.mpr ha) (hp.nodup_iff.mp (wd_nd h))
/-- the map may say otherwise where no address is -/
theorem wd_map {G : GG} {A : Nat → Prop} {L : List Nat} {F F2 : FM} {H : Heap} (h : wd G A L F H) (he : ∀ a, a ∈ L → F2 a = F a) : wd G A L F2 H := by
  have e : va_pl L F2 = va_pl L F := by
    unfold va_pl
    exact List.map_congr_left (fun a ha => by rw [he a ha])
  unfold wd
  rw [e]; exact h
