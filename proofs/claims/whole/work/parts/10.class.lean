/-! contracts that say of the world behind them what P says -/
abbrev QP (G : GG) (A : Nat → Prop) (L : List Nat) (V : Option Value) (P : FM → Prop) : Array Value → State → Outcome → State → Prop := fun _ st oc t => (oc = .returned V ∧ ∃ F2 : FM, P F2 ∧ wd G A L F2 t.heap) ∧ va_F A st t
def PT (l : Launch) (y : MethodName) (ws : List Cond) (rm : Room) (G : GG) (A : Nat → Prop) (L : List Nat) (av : List Value) (F : FM) (V : Option Value) (P : FM → Prop) : Prop :=
  Met l y ws rm (va_Pc av (fun U => wd G A L F U.heap ∧ en G A U)) (QP G A L V P) 0 0 A
theorem PT.ofW {l : Launch} {y : MethodName} {ws ws' : List Cond} {rm : Room} {G : GG} {A : Nat → Prop} {L : List Nat} {av : List Value} {F : FM} {P : FM → Prop} {V : Option Value} {cc : ByteArray} {maxL : Nat} {ret : Option FieldType} (hy : plainFor y = true) (hw : ws = Cond.code y cc maxL ret :: ws') (hlen : (lg_sl av).length ≤ maxL)
    (body : ∀ (p : Program) (e : Env) (s : State) (m : MethodId) (below : List Frame) (meth : Method) (c : Code) (ls : Array Slot), p.tables.exec = Jvm.exec → c.code = cc → meth.sig.returnType = ret → c.maxLocals = maxL → s.vm.findClass y.cls = some m.cls → (∀ w ∈ ws, w.before av.toArray s = true) → meth.locks = false → en G A s → wo G A s.heap L F s.heap [] → lv_has ls maxL (lv_args 0 av) →
      W p l e rm s m av.toArray below meth c s.heap [] 0 0 (MQ below (QP G A L V P) av.toArray s 0 0 A) (F0 m 0 ls [])) : PT l y ws rm G A L av F V P := by
  refine va_MetF (cc := cc) (maxL := maxL) (ret := ret) hy hw ?_
  intro p e s m args below meth c s₁ B hml hv
  obtain ⟨rfl, hwd, hE⟩ := hv
  rw [lg_entry_eq]
  exact body p e s m below meth c _ B.exec B.bytes B.returns hml (findClass_of_methodNamed B.named) (atoms_spec (ws := ws) B.pre) B.notSynchronized hE ⟨hwd, va_S.rf⟩ (lv_entry av hlen)
section PTC
variable {p : Program} {l : Launch} {e : Env} {R : Room} {s : State} {m : MethodId} {args : Array Value} {below : List Frame} {meth : Method} {c : Code} {H : Heap} {locs : List Loc} {cells slots : Nat} {Q : State → Prop} {pc : Nat} {ls : Array Slot} {rest st0 st1 : List Value} {cc : ByteArray} {G : GG} {A : Nat → Prop} {H0 : Heap} {L : List Nat} {F : FM} {P : FM → Prop} {a : Nat} {V : Option Value}
theorem h_goP {a0 : Array Value} (hr : va_Run p l e R s m args below meth c H locs cells slots 0 0 (F0 m pc ls st0) rest (QP G A L V P a0) A) (hS : va_S A s.heap H locs) (h1 : V.toList ++ rest = st1)
    (kk : ∀ (F2 : FM) (H1 : Heap) (locs1 : List Loc), P F2 → wo G A s.heap L F2 H1 locs1 → W p l e R s m args below meth c H1 locs1 cells slots Q (F0 m (pc + 3) ls st1)) : W p l e R s m args below meth c H locs cells slots Q (F0 m pc ls st0) := by
  subst h1
  intro T hT X
  obtain ⟨v, st₀, t, T', L1, h0, X', hL, e1, e2, ⟨⟨hv, F2, hP, hwd⟩, hz, hk⟩, st⟩ := hr T hT X
  cases hv
  rw [h0] at hz hk
  obtain ⟨t2, a1, b1⟩ := kk F2 T'.heap (locs ++ L1) hP ⟨by rw [e1]; exact hwd, Nat.le_trans hS.1 (by rw [e1]; exact hz), fun q h1 h2 => by rw [e1, hk q (Nat.lt_of_lt_of_le h1 hS.1) h2]; exact hS.2.1 q h1 h2, fun q hq => by
      rcases List.mem_append.mp hq with h | h
      · exact hS.2.2 q h
      · exact hL q h⟩ T' rfl X'
  exact ⟨t2, st t2 a1, b1⟩
theorem h_callVP {nL maxL n index ci : Nat} {Ts ws : List Cond} {own C : String} {y : MethodName} {bytes : ByteArray} {ret : Option FieldType} {rm : Room} {b : Nat} {fs : List Value} {q : vw_C} (As rest : List Value) (S : CallFix p m c cc nL s args Ts own) (hE : en G A s) (hw : wo G A s.heap L F H locs) (hM : PT l y ws rm G A L (.ref b :: As) F V P) (cw : CallW R s args own C index y bytes maxL ret ws rm 0 0 n) (hp : pt L F b (.inr (ci, fs))) (hc : vwCl[ci]? = some q) (hC : q.1 = C) (hn : As.length = n) (hsize : ls.size = nL) (hst : st0 = As.reverse ++ .ref b :: rest) (hrm : (rest.map fun v => v.category).sum ≤ 8) (hdg : decode cc pc = .ok (.invokevirtual index, 3)) (hf : cells ≤ R.cells ∧ slots ≤ R.slots) (h1 : V.toList ++ rest = st1)
    (kk : ∀ (F2 : FM) (H1 : Heap) (locs1 : List Loc), P F2 → wo G A s.heap L F2 H1 locs1 → W p l e R s m args below meth c H1 locs1 cells slots Q (F0 m (pc + 3) ls st1)) : W p l e R s m args below meth c H locs cells slots Q (F0 m pc ls st0) := by
  obtain ⟨i, hi⟩ := pl_at F hp.1
  rw [hp.2] at hi
  obtain ⟨h2, h3⟩ := h_pre (av := .ref b :: As) hE hw
  have hrec := va_recv hE.1 hw.1.1 hc hi
  rw [hC] at hrec
  exact h_goP (va_runV (As := As) (rest := rest) S hM cw ⟨h2, hrec, h3⟩ rfl hn hsize hst (lv_room hrm) hdg hf) hw.2 h1 kk
theorem h_callSP {nL maxL n index : Nat} {Ts ws : List Cond} {own : String} {y : MethodName} {bytes : ByteArray} {ret : Option FieldType} {rm : Room} (As rest : List Value) (S : CallFix p m c cc nL s args Ts own) (hE : en G A s) (hw : wo G A s.heap L F H locs) (hM : PT l y ws rm G A L As F V P) (cw : CallB R s args own index y bytes maxL ret ws rm 0 0 n ∧ (Cond.static y).before args s = true) (hn : As.length = n) (hsize : ls.size = nL) (hst : st0 = As.reverse ++ rest) (hrm : (rest.map fun v => v.category).sum ≤ 8) (hdg : decode cc pc = .ok (.invokestatic index, 3)) (hf : cells ≤ R.cells ∧ slots ≤ R.slots) (h1 : V.toList ++ rest = st1)
    (kk : ∀ (F2 : FM) (H1 : Heap) (locs1 : List Loc), P F2 → wo G A s.heap L F2 H1 locs1 → W p l e R s m args below meth c H1 locs1 cells slots Q (F0 m (pc + 3) ls st1)) : W p l e R s m args below meth c H locs cells slots Q (F0 m pc ls st0) := by
  obtain ⟨h2, h3⟩ := h_pre (av := As) hE hw
  exact h_goP (va_runS (As := As) (rest := rest) S hM cw ⟨h2, h3⟩ rfl hn hsize hst (lv_room hrm) hdg hf) hw.2 h1 kk
theorem h_iretP {v : Int32} (hexec : p.tables.exec = Jvm.exec) (hb : c.code = cc) (hlocks : meth.locks = false) (hr : meth.sig.returnType = some .int) (hw : wo G A s.heap L F H locs) (hdg : decode cc pc = .ok (.ireturn, 1)) (hV : some (.int v) = V) (hP : P F) : W p l e R s m args below meth c H locs 0 0 (MQ below (QP G A L V P) args s 0 0 A) (F0 m pc ls [.int v]) := by
  subst hV
  exact W.iret hexec hb hr (fun t ht _ => ⟨⟨rfl, F, hP, by rw [ht]; exact hw.1⟩, hw.2.F ht⟩) hw.2.2.2 hdg hlocks
theorem h_zretP {v : Int32} (hexec : p.tables.exec = Jvm.exec) (hb : c.code = cc) (hlocks : meth.locks = false) (hr : meth.sig.returnType = some .boolean) (hw : wo G A s.heap L F H locs) (hdg : decode cc pc = .ok (.ireturn, 1)) (hn : narrow .boolean (.int v) = .int v) (hV : some (.int v) = V) (hP : P F) : W p l e R s m args below meth c H locs 0 0 (MQ below (QP G A L V P) args s 0 0 A) (F0 m pc ls [.int v]) := by
  subst hV
  exact W.zret hexec hb hr hn (fun t ht _ => ⟨⟨rfl, F, hP, by rw [ht]; exact hw.1⟩, hw.2.F ht⟩) hw.2.2.2 hdg hlocks
theorem h_lretP {v : Int64} (hexec : p.tables.exec = Jvm.exec) (hb : c.code = cc) (hlocks : meth.locks = false) (hr : meth.sig.returnType = some .long) (hw : wo G A s.heap L F H locs) (hdg : decode cc pc = .ok (.lreturn, 1)) (hV : some (.long v) = V) (hP : P F) : W p l e R s m args below meth c H locs 0 0 (MQ below (QP G A L V P) args s 0 0 A) (F0 m pc ls [.long v]) := by
  subst hV
  exact W.lret hexec hb hr (fun t ht _ => ⟨⟨rfl, F, hP, by rw [ht]; exact hw.1⟩, hw.2.F ht⟩) hw.2.2.2 hdg hlocks
theorem h_vretP (hexec : p.tables.exec = Jvm.exec) (hb : c.code = cc) (hlocks : meth.locks = false) (hr : meth.sig.returnType = none) (hw : wo G A s.heap L F H locs) (hdg : decode cc pc = .ok (.return_, 1)) (hV : none = V) (hP : P F) : W p l e R s m args below meth c H locs 0 0 (MQ below (QP G A L V P) args s 0 0 A) (F0 m pc ls []) := by
  subst hV
  exact W.vret hexec hb hr (fun t ht _ => ⟨⟨rfl, F, hP, by rw [ht]; exact hw.1⟩, hw.2.F ht⟩) hw.2.2.2 hdg hlocks
end PTC
/-! The class's own world: 59 cells. 0 to 15 the registers, 16 to 27 the factors, 28 the result, 29 to 36 the reckoner's (quotient, rest, common, upper, lower, ratio, halves, rival), 37 prime, 38 left; 39 to 44 the sheets, 45 to 50 their places, 51 the object, 52 its registers' row, 53 its sheets' row, 54 the reckoner, 55 the norms, 56 the way, 57 the pairs, 58 the factors' row. -/
abbrev CS : Type := (Nat → Q4) × (Nat → Int32) × (Nat → Int32) × (Nat → Nat → Int64) × Int32
def upq {α : Type} (q : Nat → α) (k : Nat) (v : α) : Nat → α := fun j => if j = k then v else q j
theorem upq_s {α : Type} (q : Nat → α) (k : Nat) (v : α) : upq q k v k = v := if_pos rfl
theorem upq_n {α : Type} (q : Nat → α) {k j : Nat} (v : α) (h : j ≠ k) : upq q k v j = q j := if_neg h
/-- how many pairs of doubled parts have this sum of squares -/
def pwt (c : Nat) : Nat := if c = 0 then 1 else 2
def prow (c n : Nat) : Nat → Nat
  | 0 => 0
  | d + 1 => prow c n d + (if c * c + d * d = n then pwt c * pwt d else 0)
def pall (n : Nat) : Nat → Nat
  | 0 => 0
  | c + 1 => pall n c + prow c n 29
def prs (n : Nat) : Int32 := nI (pall n 29)
def cE (G : GG) (ad : Nat → Nat) (S : CS) (i : Nat) : va_E :=
  if i < 39 then eq4 (S.1 i)
  else if i < 45 then eSh (ad (i + 6)) (S.2.2.1 (i - 39)) (S.2.1 (i - 39))
  else if i < 51 then eJ G 16 (S.2.2.2.1 (i - 45))
  else if i = 51 then .inr (5, [.ref (ad 52), .ref (ad 53), .ref (ad 54), .ref (ad 55), .ref (ad 56), .ref (ad 28)])
  else if i = 52 then eRQ G 16 (fun k => some (ad k))
  else if i = 53 then eRS G 6 (fun k => some (ad (39 + k)))
  else if i = 54 then .inr (2, [.ref (ad 29), .ref (ad 30), .ref (ad 31), .ref (ad 32), .ref (ad 33), .ref (ad 34), .ref (ad 35), .ref (ad 36)])
  else if i = 55 then .inr (0, [.ref (ad 57)])
  else if i = 56 then .inr (4, [.ref (ad 58), .ref (ad 37), .ref (ad 38), .int S.2.2.2.2])
  else if i = 57 then eI G 801 prs
  else eRQ G 12 (fun k => some (ad (16 + k)))
abbrev CL (ad : Nat → Nat) : List Nat := (List.range 59).map ad
def CW (G : GG) (ad : Nat → Nat) (S : CS) (F : FM) : Prop := (∀ i j : Nat, i < 59 → j < 59 → ad i = ad j → i = j) ∧ ∀ i : Nat, i < 59 → F (ad i) = cE G ad S i
section CWR
variable {G : GG} {ad : Nat → Nat} {S : CS} {F : FM}
theorem CW.ne (h : CW G ad S F) {i j : Nat} (hi : i < 59) (hj : j < 59) (n : i ≠ j) : ad i ≠ ad j := fun q => n (h.1 i j hi hj q)
theorem CW.at (h : CW G ad S F) (i : Nat) (hi : i < 59) : pt (CL ad) F (ad i) (cE G ad S i) := ⟨List.mem_map.mpr ⟨i, List.mem_range.mpr hi, rfl⟩, h.2 i hi⟩
theorem CW.q (h : CW G ad S F) {i : Nat} (hi : i < 39) : pt (CL ad) F (ad i) (eq4 (S.1 i)) := pt_eq (h.at i (by omega)) (by unfold cE; rw [if_pos hi])
theorem CW.sh (h : CW G ad S F) {k : Nat} (hk : k < 6) : pt (CL ad) F (ad (39 + k)) (eSh (ad (45 + k)) (S.2.2.1 k) (S.2.1 k)) := pt_eq (h.at (39 + k) (by omega)) (by
  unfold cE
  rw [if_neg (by omega), if_pos (by omega), show 39 + k + 6 = 45 + k by omega, show 39 + k - 39 = k by omega])
theorem CW.pl (h : CW G ad S F) {k : Nat} (hk : k < 6) : pt (CL ad) F (ad (45 + k)) (eJ G 16 (S.2.2.2.1 k)) := pt_eq (h.at (45 + k) (by omega)) (by
  unfold cE
  rw [if_neg (by omega), if_neg (by omega), if_pos (by omega), show 45 + k - 45 = k by omega])
theorem CW.sh2 (h : CW G ad S F) {k : Nat} (hk : k < 6) {z kd : Int32} (hz : S.2.2.1 k = z) (hd : S.2.1 k = kd) : pt (CL ad) F (ad (39 + k)) (eSh (ad (45 + k)) z kd) := by
  subst hz; subst hd; exact h.sh hk
theorem CW.wy2 (h : CW G ad S F) {n : Int32} (hn : S.2.2.2.2 = n) : pt (CL ad) F (ad 56) (.inr (4, [.ref (ad 58), .ref (ad 37), .ref (ad 38), .int n])) := by
  subst hn; exact h.at 56 (by decide)
theorem CW.fp (h : CW G ad S F) : pt (CL ad) F (ad 51) (.inr (5, [.ref (ad 52), .ref (ad 53), .ref (ad 54), .ref (ad 55), .ref (ad 56), .ref (ad 28)])) := h.at 51 (by decide)
theorem CW.rg (h : CW G ad S F) : pt (CL ad) F (ad 52) (eRQ G 16 (fun k => some (ad k))) := h.at 52 (by decide)
theorem CW.ss (h : CW G ad S F) : pt (CL ad) F (ad 53) (eRS G 6 (fun k => some (ad (39 + k)))) := h.at 53 (by decide)
theorem CW.rk (h : CW G ad S F) : pt (CL ad) F (ad 54) (.inr (2, [.ref (ad 29), .ref (ad 30), .ref (ad 31), .ref (ad 32), .ref (ad 33), .ref (ad 34), .ref (ad 35), .ref (ad 36)])) := h.at 54 (by decide)
theorem CW.nm (h : CW G ad S F) : pt (CL ad) F (ad 55) (.inr (0, [.ref (ad 57)])) := h.at 55 (by decide)
theorem CW.wy (h : CW G ad S F) : pt (CL ad) F (ad 56) (.inr (4, [.ref (ad 58), .ref (ad 37), .ref (ad 38), .int S.2.2.2.2])) := h.at 56 (by decide)
theorem CW.pr (h : CW G ad S F) : pt (CL ad) F (ad 57) (eI G 801 prs) := h.at 57 (by decide)
theorem CW.fc (h : CW G ad S F) : pt (CL ad) F (ad 58) (eRQ G 12 (fun k => some (ad (16 + k)))) := h.at 58 (by decide)
theorem CW.setq (h : CW G ad S F) {i : Nat} (hi : i < 39) (v : Q4) : CW G ad (upq S.1 i v, S.2) (va_up F (ad i) (eq4 v)) := by
  refine ⟨h.1, fun j hj => ?_⟩
  by_cases hji : j = i
  · subst hji
    rw [va_up_self]; unfold cE; rw [if_pos hi]
    show _ = eq4 (upq S.1 j v j)
    rw [upq_s]
  · rw [va_up_ne _ _ (h.ne hj (by omega) hji), h.2 j hj]
    unfold cE
    by_cases h39 : j < 39
    · rw [if_pos h39, if_pos h39]
      show _ = eq4 (upq S.1 i v j)
      rw [upq_n _ _ hji]
    · rw [if_neg h39, if_neg h39]
theorem CW.setp (h : CW G ad S F) {k : Nat} (hk : k < 6) (g : Nat → Int64) : CW G ad (S.1, S.2.1, S.2.2.1, upq S.2.2.2.1 k g, S.2.2.2.2) (va_up F (ad (45 + k)) (eJ G 16 g)) := by
  refine ⟨h.1, fun j hj => ?_⟩
  by_cases hji : j = 45 + k
  · subst hji
    rw [va_up_self]; unfold cE; rw [if_neg (by omega), if_neg (by omega), if_pos (by omega), show 45 + k - 45 = k by omega]
    show _ = eJ G 16 (upq S.2.2.2.1 k g k)
    rw [upq_s]
  · rw [va_up_ne _ _ (h.ne hj (by omega) hji), h.2 j hj]
    unfold cE
    by_cases h1 : j < 39
    · rw [if_pos h1, if_pos h1]
    · by_cases h2 : j < 45
      · rw [if_neg h1, if_neg h1, if_pos h2, if_pos h2]
      · by_cases h3 : j < 51
        · rw [if_neg h1, if_neg h1, if_neg h2, if_neg h2, if_pos h3, if_pos h3]
          show _ = eJ G 16 (upq S.2.2.2.1 k g (j - 45))
          rw [upq_n _ _ (by omega)]
        · rw [if_neg h1, if_neg h1, if_neg h2, if_neg h2, if_neg h3, if_neg h3]
theorem CW.sets (h : CW G ad S F) {k : Nat} (hk : k < 6) (sz kd : Int32) : CW G ad (S.1, upq S.2.1 k kd, upq S.2.2.1 k sz, S.2.2.2) (va_up F (ad (39 + k)) (eSh (ad (45 + k)) sz kd)) := by
  refine ⟨h.1, fun j hj => ?_⟩
  by_cases hji : j = 39 + k
  · subst hji
    rw [va_up_self]; unfold cE; rw [if_neg (by omega), if_pos (by omega), show 39 + k - 39 = k by omega, show 39 + k + 6 = 45 + k by omega]
    show _ = eSh (ad (45 + k)) (upq S.2.2.1 k sz k) (upq S.2.1 k kd k)
    rw [upq_s, upq_s]
  · rw [va_up_ne _ _ (h.ne hj (by omega) hji), h.2 j hj]
    unfold cE
    by_cases h1 : j < 39
    · rw [if_pos h1, if_pos h1]
    · by_cases h2 : j < 45
      · rw [if_neg h1, if_neg h1, if_pos h2, if_pos h2]
        show _ = eSh _ (upq S.2.2.1 k sz (j - 39)) (upq S.2.1 k kd (j - 39))
        rw [upq_n _ _ (by omega), upq_n _ _ (by omega)]
      · rw [if_neg h1, if_neg h1, if_neg h2, if_neg h2]
theorem CW.setc (h : CW G ad S F) (n : Int32) : CW G ad (S.1, S.2.1, S.2.2.1, S.2.2.2.1, n) (va_up F (ad 56) (.inr (4, [.ref (ad 58), .ref (ad 37), .ref (ad 38), .int n]))) := by
  refine ⟨h.1, fun j hj => ?_⟩
  by_cases hji : j = 56
  · subst hji
    rw [va_up_self]; rfl
  · rw [va_up_ne _ _ (h.ne hj (by omega) hji), h.2 j hj]
    unfold cE
    by_cases h1 : j < 39
    · rw [if_pos h1, if_pos h1]
    · by_cases h2 : j < 45
      · rw [if_neg h1, if_neg h1, if_pos h2, if_pos h2]
      · by_cases h3 : j < 51
        · rw [if_neg h1, if_neg h1, if_neg h2, if_neg h2, if_pos h3, if_pos h3]
        · rw [if_neg h1, if_neg h1, if_neg h2, if_neg h2, if_neg h3, if_neg h3]
          simp only [hji, if_false]
end CWR
