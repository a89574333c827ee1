/-! The world of this claim: a list L of addresses, and what lies at each (F). -/
/-- the classes' numbers; the classes of int[], long[], Quad[], Sheet[] -/
abbrev GG : Type := va_G × (ClassId × ClassId × ClassId × ClassId)
abbrev gty (G : GG) : List (ClassId × FieldType) := [(G.2.1, .int), (G.2.2.1, .long), (G.2.2.2.1, .object RX1), (G.2.2.2.2, .object RX3)]
abbrev FM : Type := Nat → va_E
def wd (G : GG) (A : Nat → Prop) (L : List Nat) (F : FM) (H : Heap) : Prop := va_P G.1 vwCl (va_pl L F) H ∧ va_D A (va_pl L F)
def wo (G : GG) (A : Nat → Prop) (H0 : Heap) (L : List Nat) (F : FM) (H : Heap) (locs : List Loc) : Prop := wd G A L F H ∧ va_S A H0 H locs
def pt (L : List Nat) (F : FM) (a : Nat) (e : va_E) : Prop := a ∈ L ∧ F a = e
theorem pt_up {L : List Nat} {F : FM} {a : Nat} {e e0 : va_E} (h : pt L F a e0) : pt L (va_up F a e) a e := ⟨h.1, va_up_self F a e⟩
theorem pt_ne {L : List Nat} {F : FM} {a b : Nat} {e eb : va_E} (h : pt L F b eb) (n : b ≠ a) : pt L (va_up F a e) b eb := ⟨h.1, (va_up_ne F e n).trans h.2⟩
theorem pt_eq {L : List Nat} {F : FM} {a : Nat} {e e2 : va_E} (h : pt L F a e) (h2 : e = e2) : pt L F a e2 := h2 ▸ h
theorem pt_ap {L : List Nat} {F : FM} {a b : Nat} {e eb : va_E} (h : pt L F a e) (h2 : pt L F b eb) (n : e ≠ eb) : a ≠ b := fun q => n (by rw [← h.2, ← h2.2, q])
theorem up_up (F : FM) (a : Nat) (e e2 : va_E) : va_up (va_up F a e) a e2 = va_up F a e2 := bx_uu F a e e2
theorem up_sw (F : FM) {a b : Nat} (h : a ≠ b) (e e2 : va_E) : va_up (va_up F a e) b e2 = va_up (va_up F b e2) a e := by
  funext j
  by_cases h1 : j = a
  · by_cases h2 : j = b
    · exact absurd (h1.symm.trans h2) h
    · rw [va_up_ne _ _ h2, h1, va_up_self, va_up_self]
  · by_cases h2 : j = b
    · rw [h2, va_up_self, va_up_ne _ _ (fun q => h q.symm), va_up_self]
    · rw [va_up_ne _ _ h2, va_up_ne _ _ h1, va_up_ne _ _ h1, va_up_ne _ _ h2]
theorem up_id {L : List Nat} {F : FM} {a : Nat} {e : va_E} (h : pt L F a e) : va_up F a e = F := by
  funext j
  by_cases h1 : j = a
  · rw [h1, va_up_self, h.2]
  · rw [va_up_ne F e h1]
/-- what lies in the fields and arrays -/
abbrev eQ (a b c d : Int64) : va_E := .inr (1, [.long a, .long b, .long c, .long d])
abbrev eI (G : GG) (n : Nat) (f : Nat → Int32) : va_E := .inl (G.2.1, n, .inl f)
abbrev eJ (G : GG) (n : Nat) (f : Nat → Int64) : va_E := .inl (G.2.2.1, n, .inr (.inl f))
abbrev eRQ (G : GG) (n : Nat) (f : Nat → Option Nat) : va_E := .inl (G.2.2.2.1, n, .inr (.inr (.inr (.inr f))))
abbrev eRS (G : GG) (n : Nat) (f : Nat → Option Nat) : va_E := .inl (G.2.2.2.2, n, .inr (.inr (.inr (.inr f))))
abbrev eSh (ar : Nat) (sz kd : Int32) : va_E := .inr (3, [.ref ar, .int sz, .int kd])
/-- the statics: the units' parts, the signs -/
def uPt : List Int32 := [2, 0, 0, 0, 1, 1, 1, 1, 1, 1, 1, -1, 1, 1, -1, 1, 1, 1, -1, -1, 1, -1, 1, 1, 1, -1, 1, -1, 1, -1, -1, 1, 1, -1, -1, -1, 0, 2, 0, 0, 0, 0, 2, 0, 0, 0, 0, 2, 0, 0, 0, -2, 0, 0, -2, 0, 0, -2, 0, 0, -1, 1, 1, 1, -1, 1, 1, -1, -1, 1, -1, 1, -1, 1, -1, -1, -1, -1, 1, 1, -1, -1, 1, -1, -1, -1, -1, 1, -1, -1, -1, -1, -2, 0, 0, 0]
def uSg : List Int32 := [0, 1, -1, -1, 0, -1, 1, -1, 0, 0, 1, -1, 0, -1, 1]
def uU (j : Nat) : Value := .int (uPt.getD j 0)
def uS (j : Nat) : Value := .int (uSg.getD j 0)
abbrev nwU : Cond := .fieldLinkNest "FourParts$Quad" 34 "FourParts" "UNIT_PARTS" "[I" "FourParts"
def en (G : GG) (A : Nat → Prop) (U : State) : Prop := va_K G.1 vwCl (gty G) U ∧ (∃ t : Nat, va_Z "FourParts" "UNIT_PARTS" "[I" (.ref t) A U U.heap ∧ va_T .int t 96 uU A U U.heap) ∧ (∃ t : Nat, va_Z "FourParts$Norms" "SIGNS" "[I" (.ref t) A U U.heap ∧ va_T .int t 15 uS A U U.heap) ∧ va_Nw nwU U
theorem en.move {G : GG} {A : Nat → Prop} {s U : State} (h : en G A s) (hk : ∀ a : Nat, a < s.heap.size → ¬ A a → U.heap[a]? = s.heap[a]?) (hW : s.WarmedH U.vm) : en G A U := by
  obtain ⟨h1, ⟨t, h2, h3⟩, ⟨t2, h4, h5⟩, h6⟩ := h
  exact ⟨va_K.moved hW.alike h1, ⟨t, (h2.kept hk).moved hW.alike, (h3.kept hk).moved hW.alike⟩, ⟨t2, (h4.kept hk).moved hW.alike, (h5.kept hk).moved hW.alike⟩, va_Nw.warmF hW h6⟩
theorem en.call {G : GG} {A : Nat → Prop} {s U : State} (h : en G A s) (hh : U.heap = s.heap) (hv : s.vm = U.vm) : en G A U := by
  obtain ⟨h1, ⟨t, h2, h3⟩, ⟨t2, h4, h5⟩, h6⟩ := h
  have hvm : s.vm.Alike U.vm := by rw [hv]; exact Vm.Alike.refl U.vm
  rw [← hh] at h2 h3 h4 h5
  exact ⟨va_K.moved hvm h1, ⟨t, h2.moved hvm, h3.moved hvm⟩, ⟨t2, h4.moved hvm, h5.moved hvm⟩, va_Nw.same rfl hv h6⟩
/-- a method that makes nothing: from the world F with these arguments it returns V, and the world is F2 -/
def HT (l : Launch) (y : MethodName) (ws : List Cond) (rm : Room) (G : GG) (A : Nat → Prop) (L : List Nat) (av : List Value) (F : FM) (V : Option Value) (F2 : FM) : Prop :=
  Met l y ws rm (va_Pc av (fun U => wd G A L F U.heap ∧ en G A U)) (fun _ st oc t => (oc = .returned V ∧ wd G A L F2 t.heap) ∧ va_F A st t) 0 0 A
theorem HT.to {l : Launch} {y : MethodName} {ws : List Cond} {rm : Room} {G : GG} {A : Nat → Prop} {L : List Nat} {av : List Value} {F F2 F3 : FM} {V V2 : Option Value} (h : HT l y ws rm G A L av F V F2) (h1 : V = V2) (h2 : F2 = F3) : HT l y ws rm G A L av F V2 F3 := by
  subst h1; subst h2; exact h
section WOR
variable {p : Program} {l : Launch} {e : Env} {R : Room} {s : State} {m : MethodId} {args : Array Value} {below : List Frame} {meth : Method} {c : Code} {H : Heap} {locs : List Loc} {cells slots : Nat} {Q : State → Prop} {pc : Nat} {ls : Array Slot} {rest : List Value} {cc : ByteArray} {G : GG} {A : Nat → Prop} {H0 : Heap} {L : List Nat} {F : FM} {a : Nat}
theorem pl_at (F : FM) (h : a ∈ L) : ∃ k : Nat, (va_pl L F)[k]? = some (a, F a) := va_pl_get (X := []) h
theorem pl_set {k : Nat} {x : va_E} (hD : va_D A (va_pl L F)) (h : a ∈ L) (hk : (va_pl L F)[k]? = some (a, F a)) : (va_pl L F).set k (a, x) = va_pl L (va_up F a x) := va_pl_set (X := []) hD h hk
theorem h_get (hexec : p.tables.exec = Jvm.exec) (hb : c.code = cc) (hE : en G A s) (hw : wo G A H0 L F H locs) {own ref C : String} {T : u_T} {N ci index : Nat} {Ts : List Cond} (hts : ∀ w ∈ Ts, w.before args s = true) (hin : ∀ w ∈ u_ws C T N, w ∈ Ts) (hown : s.vm.findClass own = some m.cls) (hc : vwCl[ci]? = some (C, T, N)) (k : Nat) (hk : k < N) (hlink : (Cond.fieldLink own index ref (T k).2.1 (T k).2.2.1).before args s = true) (hsame : ∀ x, s.fieldFound? (T k).1 (T k).2.1 (T k).2.2.1 = some x → s.fieldFound? ref (T k).2.1 (T k).2.2.1 = some x) {fs : List Value} (he : pt L F a (.inr (ci, fs))) {v : Value} (hv : fs[k]? = some v) (hdg : decode cc pc = .ok (.getfield index, 3))
    (kk : W p l e R s m args below meth c H locs cells slots Q (F0 m (pc + 3) ls (v :: rest))) : W p l e R s m args below meth c H locs cells slots Q (F0 m pc ls (.ref a :: rest)) := by
  obtain ⟨i, hi⟩ := pl_at F he.1
  rw [he.2] at hi
  exact va_get (D := G.1) (tys := gty G) hexec hb hts hin hown hE.1 hw.1.1 i hi hc k hk hlink hsame hv hdg kk
theorem h_put (hexec : p.tables.exec = Jvm.exec) (hb : c.code = cc) (hE : en G A s) (hw : wo G A H0 L F H locs) {own ref C : String} {T : u_T} {N ci index : Nat} {Ts : List Cond} (hts : ∀ w ∈ Ts, w.before args s = true) (hin : ∀ w ∈ u_ws C T N, w ∈ Ts) (ty0 : Nat → FieldType) (hty : ∀ k, k < N → parseFieldDescriptor (T k).2.2.1 = some (ty0 k)) (hnm : ∀ a, a < N → ∀ b, b < N → a ≠ b → (T a).2.1 ≠ (T b).2.1) (hown : s.vm.findClass own = some m.cls) (hc : vwCl[ci]? = some (C, T, N)) (k : Nat) (hk : k < N) (hlink : (Cond.fieldLink own index ref (T k).2.1 (T k).2.2.1).before args s = true) (hsame : ∀ x, s.fieldFound? (T k).1 (T k).2.1 (T k).2.2.1 = some x → s.fieldFound? ref (T k).2.1 (T k).2.2.1 = some x) (hfin : (T k).2.2.2 = false) {fs : List Value} (he : pt L F a (.inr (ci, fs))) {ty : FieldType} {v : Value} (hd : parseFieldDescriptor (T k).2.2.1 = some ty) (hn : narrow ty v = v) (hfit : fits ty v = true) (hl : k < fs.length) {fs2 : List Value} (hf2 : fs.set k v = fs2)
    (hdg : decode cc pc = .ok (.putfield index, 3)) (kk : ∀ (H1 : Heap) (locs1 : List Loc), wo G A H0 L (va_up F a (.inr (ci, fs2))) H1 locs1 → W p l e R s m args below meth c H1 locs1 cells slots Q (F0 m (pc + 3) ls rest)) : W p l e R s m args below meth c H locs cells slots Q (F0 m pc ls (v :: .ref a :: rest)) := by
  subst hf2
  obtain ⟨i, hi0⟩ := pl_at F he.1
  have hi := hi0
  rw [he.2] at hi
  refine va_put (D := G.1) (tys := gty G) hexec hb hts hin ty0 hty hnm hown hE.1 hw.1.1 hw.1.2 hw.2 i hi hc k hk hlink hsame hfin hd hn hfit hl hdg (fun H1 locs1 h1 h2 h3 => kk H1 locs1 ⟨⟨?_, ?_⟩, h3⟩)
  · rw [← pl_set hw.1.2 he.1 hi0]; exact h1
  · rw [← pl_set hw.1.2 he.1 hi0]; exact h2
theorem h_iald (hexec : p.tables.exec = Jvm.exec) (hb : c.code = cc) (hE : en G A s) (hw : wo G A H0 L F H locs) {n : Nat} {f : Nat → Int32} (he : pt L F a (eI G n f)) {i : Int32} (hin : vp_in i n) {v : Int32} (hv : f i.toNatClampNeg = v) (hdg : decode cc pc = .ok (.iaload, 1))
    (kk : W p l e R s m args below meth c H locs cells slots Q (F0 m (pc + 1) ls (.int v :: rest))) : W p l e R s m args below meth c H locs cells slots Q (F0 m pc ls (.int i :: .ref a :: rest)) := by
  subst hv
  obtain ⟨k, hk⟩ := pl_at F he.1
  rw [he.2] at hk
  exact va_iald (D := G.1) (tys := gty G) hexec hb hE.1 hw.1.1 k 0 hk rfl hin hdg kk
theorem h_lald (hexec : p.tables.exec = Jvm.exec) (hb : c.code = cc) (hE : en G A s) (hw : wo G A H0 L F H locs) {n : Nat} {f : Nat → Int64} (he : pt L F a (eJ G n f)) {i : Int32} (hin : vp_in i n) {v : Int64} (hv : f i.toNatClampNeg = v) (hdg : decode cc pc = .ok (.laload, 1))
    (kk : W p l e R s m args below meth c H locs cells slots Q (F0 m (pc + 1) ls (.long v :: rest))) : W p l e R s m args below meth c H locs cells slots Q (F0 m pc ls (.int i :: .ref a :: rest)) := by
  subst hv
  obtain ⟨k, hk⟩ := pl_at F he.1
  rw [he.2] at hk
  exact va_lald (D := G.1) (tys := gty G) hexec hb hE.1 hw.1.1 k 1 hk rfl hin hdg kk
theorem h_qald (hexec : p.tables.exec = Jvm.exec) (hb : c.code = cc) (hE : en G A s) (hw : wo G A H0 L F H locs) {n : Nat} {f : Nat → Option Nat} (he : pt L F a (eRQ G n f)) {i : Int32} (hin : vp_in i n) {v : Nat} (hv : f i.toNatClampNeg = some v) (hdg : decode cc pc = .ok (.aaload, 1))
    (kk : W p l e R s m args below meth c H locs cells slots Q (F0 m (pc + 1) ls (.ref v :: rest))) : W p l e R s m args below meth c H locs cells slots Q (F0 m pc ls (.int i :: .ref a :: rest)) := by
  obtain ⟨k, hk⟩ := pl_at F he.1
  rw [he.2] at hk
  refine va_aldq (D := G.1) (tys := gty G) hexec hb hE.1 hw.1.1 k 2 hk rfl hin hdg ?_
  rw [hv]
  exact kk
theorem h_sald (hexec : p.tables.exec = Jvm.exec) (hb : c.code = cc) (hE : en G A s) (hw : wo G A H0 L F H locs) {n : Nat} {f : Nat → Option Nat} (he : pt L F a (eRS G n f)) {i : Int32} (hin : vp_in i n) {v : Nat} (hv : f i.toNatClampNeg = some v) (hdg : decode cc pc = .ok (.aaload, 1))
    (kk : W p l e R s m args below meth c H locs cells slots Q (F0 m (pc + 1) ls (.ref v :: rest))) : W p l e R s m args below meth c H locs cells slots Q (F0 m pc ls (.int i :: .ref a :: rest)) := by
  obtain ⟨k, hk⟩ := pl_at F he.1
  rw [he.2] at hk
  refine va_aldq (D := G.1) (tys := gty G) hexec hb hE.1 hw.1.1 k 3 hk rfl hin hdg ?_
  rw [hv]
  exact kk
theorem h_iast (hexec : p.tables.exec = Jvm.exec) (hb : c.code = cc) (hE : en G A s) (hw : wo G A H0 L F H locs) {n : Nat} {f : Nat → Int32} (he : pt L F a (eI G n f)) {i : Int32} {x : Int32} (hin : vp_in i n) {g : Nat → Int32} (hg : upd f i.toNatClampNeg x = g) (hdg : decode cc pc = .ok (.iastore, 1))
    (kk : ∀ (H1 : Heap) (locs1 : List Loc), wo G A H0 L (va_up F a (eI G n g)) H1 locs1 → W p l e R s m args below meth c H1 locs1 cells slots Q (F0 m (pc + 1) ls rest)) : W p l e R s m args below meth c H locs cells slots Q (F0 m pc ls (.int x :: .int i :: .ref a :: rest)) := by
  subst hg
  obtain ⟨k, hk0⟩ := pl_at F he.1
  have hk := hk0
  rw [he.2] at hk
  refine va_iast (D := G.1) (tys := gty G) hexec hb hE.1 hw.1.1 hw.1.2 hw.2 k 0 hk rfl hin hdg (fun H1 locs1 h1 h2 h3 => kk H1 locs1 ⟨⟨?_, ?_⟩, h3⟩)
  · rw [← pl_set hw.1.2 he.1 hk0]; exact h1
  · rw [← pl_set hw.1.2 he.1 hk0]; exact h2
theorem h_last (hexec : p.tables.exec = Jvm.exec) (hb : c.code = cc) (hE : en G A s) (hw : wo G A H0 L F H locs) {n : Nat} {f : Nat → Int64} (he : pt L F a (eJ G n f)) {i : Int32} {x : Int64} (hin : vp_in i n) {g : Nat → Int64} (hg : vp_updL f i.toNatClampNeg x = g) (hdg : decode cc pc = .ok (.lastore, 1))
    (kk : ∀ (H1 : Heap) (locs1 : List Loc), wo G A H0 L (va_up F a (eJ G n g)) H1 locs1 → W p l e R s m args below meth c H1 locs1 cells slots Q (F0 m (pc + 1) ls rest)) : W p l e R s m args below meth c H locs cells slots Q (F0 m pc ls (.long x :: .int i :: .ref a :: rest)) := by
  subst hg
  obtain ⟨k, hk0⟩ := pl_at F he.1
  have hk := hk0
  rw [he.2] at hk
  refine va_last (D := G.1) (tys := gty G) hexec hb hE.1 hw.1.1 hw.1.2 hw.2 k 1 hk rfl hin hdg (fun H1 locs1 h1 h2 h3 => kk H1 locs1 ⟨⟨?_, ?_⟩, h3⟩)
  · rw [← pl_set hw.1.2 he.1 hk0]; exact h1
  · rw [← pl_set hw.1.2 he.1 hk0]; exact h2
theorem h_ilen (hexec : p.tables.exec = Jvm.exec) (hb : c.code = cc) (hE : en G A s) (hw : wo G A H0 L F H locs) {x : vp_A} {cA : ClassId} {ty : FieldType} (t0 : Nat) (ht : (gty G)[t0]? = some (cA, ty)) (he : pt L F a (.inl (cA, x))) {v : Int32} (hv : Int32.ofNat x.1 = v) (hdg : decode cc pc = .ok (.arraylength, 1))
    (kk : W p l e R s m args below meth c H locs cells slots Q (F0 m (pc + 1) ls (.int v :: rest))) : W p l e R s m args below meth c H locs cells slots Q (F0 m pc ls (.ref a :: rest)) := by
  obtain ⟨k, hk⟩ := pl_at F he.1
  rw [he.2] at hk
  exact va_alen (D := G.1) (tys := gty G) hexec hb hE.1 hw.1.1 k t0 hk ht hv hdg kk
/-- the world's words of an array may be said otherwise, where its places hold the same -/
theorem wd_same {e1 e2 : va_E} {H : Heap} (hw : wd G A L (va_up F a e1) H) (he : ∀ H2, va_at G.1 vwCl (a, e1) H2 → va_at G.1 vwCl (a, e2) H2) : wd G A L (va_up F a e2) H := by
  have key : ∀ (k : Nat) (q : Nat × va_E), (va_pl L (va_up F a e2))[k]? = some q → ∃ q0 : Nat × va_E, (va_pl L (va_up F a e1))[k]? = some q0 ∧ q0.1 = q.1 ∧ (q = q0 ∨ (q0 = (a, e1) ∧ q = (a, e2))) := by
    intro k q hq
    simp only [va_pl, List.getElem?_map] at hq ⊢
    cases hl : L[k]? with
    | none => rw [hl] at hq; cases hq
    | some b =>
      rw [hl] at hq
      have hq := Option.some.inj hq
      subst hq
      refine ⟨_, rfl, rfl, ?_⟩
      by_cases hb : b = a
      · subst hb
        exact Or.inr ⟨by show (b, va_up F b e1 b) = (b, e1); rw [va_up_self], by show (b, va_up F b e2 b) = (b, e2); rw [va_up_self]⟩
      · exact Or.inl (by show (b, va_up F a e2 b) = (b, va_up F a e1 b); rw [va_up_ne F e1 hb, va_up_ne F e2 hb])
  refine ⟨fun k q hq => ?_, fun i j x y hx hy hxy => ?_, fun k q hq => ?_⟩
  · obtain ⟨q0, h1, h2, h3⟩ := key k q hq
    rcases h3 with h3 | ⟨h3, h4⟩
    · rw [h3]; exact hw.1 k q0 h1
    · subst h3; subst h4; exact he H (hw.1 k _ h1)
  · obtain ⟨x0, h1, h2, -⟩ := key i x hx
    obtain ⟨y0, h3, h4, -⟩ := key j y hy
    exact hw.2.1 i j x0 y0 h1 h3 (by rw [h2, h4, hxy])
  · obtain ⟨q0, h1, h2, -⟩ := key k q hq
    rw [← h2]; exact hw.2.2 k q0 h1
/-- a world seen from a callee, or from its own start -/
theorem wd_self {sz : Nat} {H : Heap} {B : Nat → Prop} (h : wd G B L F H) (hB : ∀ q, B q → A q) : wd G A L F H := ⟨h.1, h.2.weaken (fun _ q _ hq => hB q.1 hq)⟩
end WOR
abbrev QH (G : GG) (A : Nat → Prop) (L : List Nat) (V : Option Value) (F2 : FM) : Array Value → State → Outcome → State → Prop := fun _ st oc t => (oc = .returned V ∧ wd G A L F2 t.heap) ∧ va_F A st t
/-- a method's contract out of a walk of its body -/
theorem HT.ofW {l : Launch} {y : MethodName} {ws ws' : List Cond} {rm : Room} {G : GG} {A : Nat → Prop} {L : List Nat} {av : List Value} {F F2 : FM} {V : Option Value} {cc : ByteArray} {maxL : Nat} {ret : Option FieldType} (hy : plainFor y = true) (hw : ws = Cond.code y cc maxL ret :: ws') (hlen : (lg_sl av).length ≤ maxL)
    (body : ∀ (p : Program) (e : Env) (s : State) (m : MethodId) (below : List Frame) (meth : Method) (c : Code) (ls : Array Slot), p.tables.exec = Jvm.exec → c.code = cc → meth.sig.returnType = ret → c.maxLocals = maxL → s.vm.findClass y.cls = some m.cls → (∀ w ∈ ws, w.before av.toArray s = true) → meth.locks = false → en G A s → wo G A s.heap L F s.heap [] → lv_has ls maxL (lv_args 0 av) →
      W p l e rm s m av.toArray below meth c s.heap [] 0 0 (MQ below (QH G A L V F2) av.toArray s 0 0 A) (F0 m 0 ls [])) : HT l y ws rm G A L av F V F2 := by
  refine va_MetF (cc := cc) (maxL := maxL) (ret := ret) hy hw ?_
  intro p e s m args below meth c s₁ B hml hv
  obtain ⟨rfl, hwd, hE⟩ := hv
  rw [lg_entry_eq]
  exact body p e s m below meth c _ B.exec B.bytes B.returns hml (findClass_of_methodNamed B.named) (atoms_spec (ws := ws) B.pre) B.notSynchronized hE ⟨hwd, va_S.rf⟩ (lv_entry av hlen)
section WOC
variable {p : Program} {l : Launch} {e : Env} {R : Room} {s : State} {m : MethodId} {args : Array Value} {below : List Frame} {meth : Method} {c : Code} {H : Heap} {locs : List Loc} {cells slots : Nat} {Q : State → Prop} {pc : Nat} {ls : Array Slot} {rest st0 st1 : List Value} {cc : ByteArray} {G : GG} {A : Nat → Prop} {H0 : Heap} {L : List Nat} {F F2 : FM} {a : Nat} {V : Option Value}
theorem h_go {a0 : Array Value} (hr : va_Run p l e R s m args below meth c H locs cells slots 0 0 (F0 m pc ls st0) rest (QH G A L V F2 a0) A) (hS : va_S A s.heap H locs) (h1 : V.toList ++ rest = st1)
    (kk : ∀ (H1 : Heap) (locs1 : List Loc), wo G A s.heap L F2 H1 locs1 → W p l e R s m args below meth c H1 locs1 cells slots Q (F0 m (pc + 3) ls st1)) : W p l e R s m args below meth c H locs cells slots Q (F0 m pc ls st0) := by
  subst h1
  intro T hT X
  obtain ⟨v, st₀, t, T', L1, h0, X', hL, e1, e2, ⟨⟨hv, hwd⟩, hz, hk⟩, st⟩ := hr T hT X
  cases hv
  rw [h0] at hz hk
  obtain ⟨t2, a1, b1⟩ := kk T'.heap (locs ++ L1) ⟨by rw [e1]; exact hwd, Nat.le_trans hS.1 (by rw [e1]; exact hz), fun q h1 h2 => by rw [e1, hk q (Nat.lt_of_lt_of_le h1 hS.1) h2]; exact hS.2.1 q h1 h2, fun q hq => by
      rcases List.mem_append.mp hq with h | h
      · exact hS.2.2 q h
      · exact hL q h⟩ T' rfl X'
  exact ⟨t2, st t2 a1, b1⟩
theorem h_pre {av : List Value} (hE : en G A s) (hw : wo G A s.heap L F H locs) : FrameBlind (va_Pc av (fun U => wd G A L F U.heap ∧ en G A U)) ∧ ∀ U : State, U.heap = H → s.WarmedH U.vm → va_Pc av (fun U => wd G A L F U.heap ∧ en G A U) av.toArray U := by
  refine ⟨fun a U g mk q => ?_, fun U hU hW => ?_⟩
  · obtain ⟨q0, q1, q2⟩ := q
    exact ⟨q0, q1, en.call (s := U) (U := U.calling g mk a) q2 rfl rfl⟩
  · exact ⟨rfl, by rw [hU]; exact hw.1, hE.move (fun q h1 h2 => by rw [hU]; exact hw.2.2.1 q h1 h2) hW⟩
theorem h_callV {nL maxL n index ci : Nat} {Ts ws : List Cond} {own C : String} {y : MethodName} {bytes : ByteArray} {ret : Option FieldType} {rm : Room} {b : Nat} {fs : List Value} {q : vw_C} (As rest : List Value) (S : CallFix p m c cc nL s args Ts own) (hE : en G A s) (hw : wo G A s.heap L F H locs) (hM : HT l y ws rm G A L (.ref b :: As) F V F2) (cw : CallW R s args own C index y bytes maxL ret ws rm 0 0 n) (hp : pt L F b (.inr (ci, fs))) (hc : vwCl[ci]? = some q) (hC : q.1 = C) (hn : As.length = n) (hsize : ls.size = nL) (hst : st0 = As.reverse ++ .ref b :: rest) (hrm : (rest.map fun v => v.category).sum ≤ 8) (hdg : decode cc pc = .ok (.invokevirtual index, 3)) (hf : cells ≤ R.cells ∧ slots ≤ R.slots) (h1 : V.toList ++ rest = st1)
    (kk : ∀ (H1 : Heap) (locs1 : List Loc), wo G A s.heap L F2 H1 locs1 → W p l e R s m args below meth c H1 locs1 cells slots Q (F0 m (pc + 3) ls st1)) : W p l e R s m args below meth c H locs cells slots Q (F0 m pc ls st0) := by
  obtain ⟨i, hi⟩ := pl_at F hp.1
  rw [hp.2] at hi
  obtain ⟨h2, h3⟩ := h_pre (av := .ref b :: As) hE hw
  have hrec := va_recv hE.1 hw.1.1 hc hi
  rw [hC] at hrec
  exact h_go (va_runV (As := As) (rest := rest) S hM cw ⟨h2, hrec, h3⟩ rfl hn hsize hst (lv_room hrm) hdg hf) hw.2 h1 kk
theorem h_callS {nL maxL n index : Nat} {Ts ws : List Cond} {own : String} {y : MethodName} {bytes : ByteArray} {ret : Option FieldType} {rm : Room} (As rest : List Value) (S : CallFix p m c cc nL s args Ts own) (hE : en G A s) (hw : wo G A s.heap L F H locs) (hM : HT l y ws rm G A L As F V F2) (cw : CallB R s args own index y bytes maxL ret ws rm 0 0 n ∧ (Cond.static y).before args s = true) (hn : As.length = n) (hsize : ls.size = nL) (hst : st0 = As.reverse ++ rest) (hrm : (rest.map fun v => v.category).sum ≤ 8) (hdg : decode cc pc = .ok (.invokestatic index, 3)) (hf : cells ≤ R.cells ∧ slots ≤ R.slots) (h1 : V.toList ++ rest = st1)
    (kk : ∀ (H1 : Heap) (locs1 : List Loc), wo G A s.heap L F2 H1 locs1 → W p l e R s m args below meth c H1 locs1 cells slots Q (F0 m (pc + 3) ls st1)) : W p l e R s m args below meth c H locs cells slots Q (F0 m pc ls st0) := by
  obtain ⟨h2, h3⟩ := h_pre (av := As) hE hw
  exact h_go (va_runS (As := As) (rest := rest) S hM cw ⟨h2, h3⟩ rfl hn hsize hst (lv_room hrm) hdg hf) hw.2 h1 kk
theorem h_iret {v : Int32} (hexec : p.tables.exec = Jvm.exec) (hb : c.code = cc) (hlocks : meth.locks = false) (hr : meth.sig.returnType = some .int) (hw : wo G A s.heap L F H locs) (hdg : decode cc pc = .ok (.ireturn, 1)) (hV : some (.int v) = V) (hF : F = F2) : W p l e R s m args below meth c H locs 0 0 (MQ below (QH G A L V F2) args s 0 0 A) (F0 m pc ls [.int v]) := by
  subst hV; subst hF
  exact W.iret hexec hb hr (fun t ht _ => ⟨⟨rfl, by rw [ht]; exact hw.1⟩, hw.2.F ht⟩) hw.2.2.2 hdg hlocks
theorem h_zret {v : Int32} (hexec : p.tables.exec = Jvm.exec) (hb : c.code = cc) (hlocks : meth.locks = false) (hr : meth.sig.returnType = some .boolean) (hw : wo G A s.heap L F H locs) (hdg : decode cc pc = .ok (.ireturn, 1)) (hn : narrow .boolean (.int v) = .int v) (hV : some (.int v) = V) (hF : F = F2) : W p l e R s m args below meth c H locs 0 0 (MQ below (QH G A L V F2) args s 0 0 A) (F0 m pc ls [.int v]) := by
  subst hV; subst hF
  exact W.zret hexec hb hr hn (fun t ht _ => ⟨⟨rfl, by rw [ht]; exact hw.1⟩, hw.2.F ht⟩) hw.2.2.2 hdg hlocks
theorem h_lret {v : Int64} (hexec : p.tables.exec = Jvm.exec) (hb : c.code = cc) (hlocks : meth.locks = false) (hr : meth.sig.returnType = some .long) (hw : wo G A s.heap L F H locs) (hdg : decode cc pc = .ok (.lreturn, 1)) (hV : some (.long v) = V) (hF : F = F2) : W p l e R s m args below meth c H locs 0 0 (MQ below (QH G A L V F2) args s 0 0 A) (F0 m pc ls [.long v]) := by
  subst hV; subst hF
  exact W.lret hexec hb hr (fun t ht _ => ⟨⟨rfl, by rw [ht]; exact hw.1⟩, hw.2.F ht⟩) hw.2.2.2 hdg hlocks
theorem h_vret (hexec : p.tables.exec = Jvm.exec) (hb : c.code = cc) (hlocks : meth.locks = false) (hr : meth.sig.returnType = none) (hw : wo G A s.heap L F H locs) (hdg : decode cc pc = .ok (.return_, 1)) (hV : none = V) (hF : F = F2) : W p l e R s m args below meth c H locs 0 0 (MQ below (QH G A L V F2) args s 0 0 A) (F0 m pc ls []) := by
  subst hV; subst hF
  exact W.vret hexec hb hr (fun t ht _ => ⟨⟨rfl, by rw [ht]; exact hw.1⟩, hw.2.F ht⟩) hw.2.2.2 hdg hlocks
theorem h_aret {v : Value} {C : String} (hexec : p.tables.exec = Jvm.exec) (hb : c.code = cc) (hlocks : meth.locks = false) (hr : meth.sig.returnType = some (.object C)) (hw : wo G A s.heap L F H locs) (hdg : decode cc pc = .ok (.areturn, 1)) (hv : v = .null ∨ ∃ a, v = .ref a) (hV : some v = V) (hF : F = F2) : W p l e R s m args below meth c H locs 0 0 (MQ below (QH G A L V F2) args s 0 0 A) (F0 m pc ls [v]) := by
  subst hV; subst hF
  exact W.aret hexec hb hr (Or.inl ⟨C, rfl⟩) hv (fun t ht _ => ⟨⟨rfl, by rw [ht]; exact hw.1⟩, hw.2.F ht⟩) hw.2.2.2 hdg hlocks
end WOC
section WOS
variable {p : Program} {l : Launch} {e : Env} {R : Room} {s : State} {m : MethodId} {args : Array Value} {below : List Frame} {meth : Method} {c : Code} {H : Heap} {locs : List Loc} {cells slots : Nat} {Q : State → Prop} {pc : Nat} {ls : Array Slot} {rest : List Value} {cc : ByteArray} {G : GG} {A : Nat → Prop} {L : List Nat} {F : FM}
/-- a world's array may be said otherwise -/
theorem wo_same {H0 : Heap} {a : Nat} {e1 e2 : va_E} (hw : wo G A H0 L (va_up F a e1) H locs) (he : ∀ H2, va_at G.1 vwCl (a, e1) H2 → va_at G.1 vwCl (a, e2) H2) : wo G A H0 L (va_up F a e2) H locs := ⟨wd_same hw.1 he, hw.2⟩
end WOS
section WOL
variable {p : Program} {l : Launch} {e : Env} {R : Room} {s : State} {m : MethodId} {args : Array Value} {below : List Frame} {meth : Method} {c : Code} {H : Heap} {locs : List Loc} {cells slots : Nat} {Q : State → Prop} {pc : Nat} {ls : Array Slot} {rest : List Value} {cc : ByteArray}
theorem h_lc_lt (hexec : p.tables.exec = Jvm.exec) (hb : c.code = cc) {x y : Int64} {off : Int} {tgt : Nat} (hd : decode cc pc = .ok (.lcmp, 1)) (hd2 : decode cc (pc + 1) = .ok (.ifCond .lt off, 3)) (ht : ((pc + 1 : Nat) : Int) + off = (tgt : Int))
    (kt : x < y → W p l e R s m args below meth c H locs cells slots Q (F0 m tgt ls rest)) (kf : ¬ x < y → W p l e R s m args below meth c H locs cells slots Q (F0 m (pc + 1 + 3) ls rest)) : W p l e R s m args below meth c H locs cells slots Q (F0 m pc ls (.long y :: .long x :: rest)) :=
  W.lcmp hexec hb hd (lv_if_lt hexec hb hd2 ht (fun h => kt ((lg_cmp_lt x y).mp h)) (fun h => kf (fun q => h ((lg_cmp_lt x y).mpr q))))
theorem h_lc_le (hexec : p.tables.exec = Jvm.exec) (hb : c.code = cc) {x y : Int64} {off : Int} {tgt : Nat} (hd : decode cc pc = .ok (.lcmp, 1)) (hd2 : decode cc (pc + 1) = .ok (.ifCond .le off, 3)) (ht : ((pc + 1 : Nat) : Int) + off = (tgt : Int))
    (kt : x ≤ y → W p l e R s m args below meth c H locs cells slots Q (F0 m tgt ls rest)) (kf : ¬ x ≤ y → W p l e R s m args below meth c H locs cells slots Q (F0 m (pc + 1 + 3) ls rest)) : W p l e R s m args below meth c H locs cells slots Q (F0 m pc ls (.long y :: .long x :: rest)) :=
  W.lcmp hexec hb hd (lv_if_le hexec hb hd2 ht (fun h => kt ((lg_cmp_le x y).mp h)) (fun h => kf (fun q => h ((lg_cmp_le x y).mpr q))))
theorem h_lc_gt (hexec : p.tables.exec = Jvm.exec) (hb : c.code = cc) {x y : Int64} {off : Int} {tgt : Nat} (hd : decode cc pc = .ok (.lcmp, 1)) (hd2 : decode cc (pc + 1) = .ok (.ifCond .gt off, 3)) (ht : ((pc + 1 : Nat) : Int) + off = (tgt : Int))
    (kt : y < x → W p l e R s m args below meth c H locs cells slots Q (F0 m tgt ls rest)) (kf : ¬ y < x → W p l e R s m args below meth c H locs cells slots Q (F0 m (pc + 1 + 3) ls rest)) : W p l e R s m args below meth c H locs cells slots Q (F0 m pc ls (.long y :: .long x :: rest)) :=
  W.lcmp hexec hb hd (lv_if_gt hexec hb hd2 ht (fun h => kt ((lg_cmp_gt x y).mp h)) (fun h => kf (fun q => h ((lg_cmp_gt x y).mpr q))))
theorem h_lc_ge (hexec : p.tables.exec = Jvm.exec) (hb : c.code = cc) {x y : Int64} {off : Int} {tgt : Nat} (hd : decode cc pc = .ok (.lcmp, 1)) (hd2 : decode cc (pc + 1) = .ok (.ifCond .ge off, 3)) (ht : ((pc + 1 : Nat) : Int) + off = (tgt : Int))
    (kt : y ≤ x → W p l e R s m args below meth c H locs cells slots Q (F0 m tgt ls rest)) (kf : ¬ y ≤ x → W p l e R s m args below meth c H locs cells slots Q (F0 m (pc + 1 + 3) ls rest)) : W p l e R s m args below meth c H locs cells slots Q (F0 m pc ls (.long y :: .long x :: rest)) :=
  W.lcmp hexec hb hd (lv_if_ge hexec hb hd2 ht (fun h => kt ((lg_cmp_ge x y).mp h)) (fun h => kf (fun q => h ((lg_cmp_ge x y).mpr q))))
theorem h_lc_eq (hexec : p.tables.exec = Jvm.exec) (hb : c.code = cc) {x y : Int64} {off : Int} {tgt : Nat} (hd : decode cc pc = .ok (.lcmp, 1)) (hd2 : decode cc (pc + 1) = .ok (.ifCond .eq off, 3)) (ht : ((pc + 1 : Nat) : Int) + off = (tgt : Int))
    (kt : x = y → W p l e R s m args below meth c H locs cells slots Q (F0 m tgt ls rest)) (kf : ¬ x = y → W p l e R s m args below meth c H locs cells slots Q (F0 m (pc + 1 + 3) ls rest)) : W p l e R s m args below meth c H locs cells slots Q (F0 m pc ls (.long y :: .long x :: rest)) :=
  W.lcmp hexec hb hd (lv_if_eq hexec hb hd2 ht (fun h => kt ((lg_cmp_eq x y).mp h)) (fun h => kf (fun q => h ((lg_cmp_eq x y).mpr q))))
theorem h_lc_ne (hexec : p.tables.exec = Jvm.exec) (hb : c.code = cc) {x y : Int64} {off : Int} {tgt : Nat} (hd : decode cc pc = .ok (.lcmp, 1)) (hd2 : decode cc (pc + 1) = .ok (.ifCond .ne off, 3)) (ht : ((pc + 1 : Nat) : Int) + off = (tgt : Int))
    (kt : ¬ x = y → W p l e R s m args below meth c H locs cells slots Q (F0 m tgt ls rest)) (kf : x = y → W p l e R s m args below meth c H locs cells slots Q (F0 m (pc + 1 + 3) ls rest)) : W p l e R s m args below meth c H locs cells slots Q (F0 m pc ls (.long y :: .long x :: rest)) :=
  W.lcmp hexec hb hd (lv_if_ne hexec hb hd2 ht (fun h => kt (fun q => h ((lg_cmp_eq x y).mpr q))) (fun h => kf (by first | exact (lg_cmp_eq x y).mp h | exact (lg_cmp_eq x y).mp (Classical.not_not.mp h))))
end WOL
