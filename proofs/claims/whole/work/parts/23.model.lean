/-! The reference's own world: 17 cells. 0 the object, 1 kind, 2 size, 3 sheets, 4 registers, 5 units, 6 factor, 7 middle, 8 to 16 x, y, z, rest, best, quotient, w, turnedOver, left. -/
def q4f (x : Q4) (k : Nat) : Int64 := if k = 0 then x.1 else if k = 1 then x.2.1 else if k = 2 then x.2.2.1 else x.2.2.2
abbrev eJ4 (G : GG) (x : Q4) : va_E := eJ G 4 (q4f x)
/-- kinds, sizes, sheets, registers, factors' parts, middle, the nine rows of four (8 to 16), how many factors -/
abbrev MS : Type := (Nat → Int32) × (Nat → Int32) × (Nat → Int64) × (Nat → Int32) × (Nat → Int64) × (Nat → Int64) × (Nat → Q4) × Int32
def uni (k : Nat) : Int32 := uPt.getD k 0
def mE (G : GG) (ma : Nat → Nat) (M : MS) (i : Nat) : va_E :=
  if 8 ≤ i then eJ4 G (M.2.2.2.2.2.2.1 i)
  else if i = 0 then .inr (6, [.ref (ma 1), .ref (ma 2), .ref (ma 3), .ref (ma 4), .ref (ma 5), .int M.2.2.2.2.2.2.2, .ref (ma 6), .ref (ma 7), .ref (ma 8), .ref (ma 9), .ref (ma 10), .ref (ma 11), .ref (ma 12), .ref (ma 13), .ref (ma 14), .ref (ma 15), .ref (ma 16), .int 0])
  else if i = 1 then eI G 6 M.1
  else if i = 2 then eI G 6 M.2.1
  else if i = 3 then eJ G 96 M.2.2.1
  else if i = 4 then eI G 64 M.2.2.2.1
  else if i = 5 then eI G 96 uni
  else if i = 6 then eJ G 48 M.2.2.2.2.1
  else eJ G 16 M.2.2.2.2.2.1
abbrev ML (ma : Nat → Nat) : List Nat := (List.range 17).map ma
def MW (G : GG) (ma : Nat → Nat) (M : MS) (F : FM) : Prop := (∀ i j : Nat, i < 17 → j < 17 → ma i = ma j → i = j) ∧ ∀ i : Nat, i < 17 → F (ma i) = mE G ma M i
section MWR
variable {G : GG} {ma : Nat → Nat} {M : MS} {F : FM}
theorem MW.ne (h : MW G ma M F) {i j : Nat} (hi : i < 17) (hj : j < 17) (n : i ≠ j) : ma i ≠ ma j := fun q => n (h.1 i j hi hj q)
theorem MW.at (h : MW G ma M F) (i : Nat) (hi : i < 17) : pt (ML ma) F (ma i) (mE G ma M i) := ⟨List.mem_map.mpr ⟨i, List.mem_range.mpr hi, rfl⟩, h.2 i hi⟩
theorem MW.ob (h : MW G ma M F) : pt (ML ma) F (ma 0) (.inr (6, [.ref (ma 1), .ref (ma 2), .ref (ma 3), .ref (ma 4), .ref (ma 5), .int M.2.2.2.2.2.2.2, .ref (ma 6), .ref (ma 7), .ref (ma 8), .ref (ma 9), .ref (ma 10), .ref (ma 11), .ref (ma 12), .ref (ma 13), .ref (ma 14), .ref (ma 15), .ref (ma 16), .int 0])) := h.at 0 (by decide)
theorem MW.kd (h : MW G ma M F) : pt (ML ma) F (ma 1) (eI G 6 M.1) := h.at 1 (by decide)
theorem MW.sz (h : MW G ma M F) : pt (ML ma) F (ma 2) (eI G 6 M.2.1) := h.at 2 (by decide)
theorem MW.sh (h : MW G ma M F) : pt (ML ma) F (ma 3) (eJ G 96 M.2.2.1) := h.at 3 (by decide)
theorem MW.rg (h : MW G ma M F) : pt (ML ma) F (ma 4) (eI G 64 M.2.2.2.1) := h.at 4 (by decide)
theorem MW.un (h : MW G ma M F) : pt (ML ma) F (ma 5) (eI G 96 uni) := h.at 5 (by decide)
theorem MW.fc (h : MW G ma M F) : pt (ML ma) F (ma 6) (eJ G 48 M.2.2.2.2.1) := h.at 6 (by decide)
theorem MW.md (h : MW G ma M F) : pt (ML ma) F (ma 7) (eJ G 16 M.2.2.2.2.2.1) := h.at 7 (by decide)
theorem MW.v (h : MW G ma M F) {i : Nat} (hi : 8 ≤ i) (hi2 : i < 17) : pt (ML ma) F (ma i) (eJ4 G (M.2.2.2.2.2.2.1 i)) := pt_eq (h.at i hi2) (by unfold mE; rw [if_pos hi])
theorem MW.setv (h : MW G ma M F) {i : Nat} (hi : 8 ≤ i) (hi2 : i < 17) (x : Q4) : MW G ma (M.1, M.2.1, M.2.2.1, M.2.2.2.1, M.2.2.2.2.1, M.2.2.2.2.2.1, upq M.2.2.2.2.2.2.1 i x, M.2.2.2.2.2.2.2) (va_up F (ma i) (eJ4 G x)) := by
  refine ⟨h.1, fun j hj => ?_⟩
  by_cases e : j = i
  · subst e
    rw [va_up_self]; unfold mE; rw [if_pos hi]
    show _ = eJ4 G (upq M.2.2.2.2.2.2.1 j x j)
    rw [upq_s]
  · rw [va_up_ne _ _ (h.ne hj hi2 e), h.2 j hj]
    unfold mE
    by_cases h8 : 8 ≤ j
    · rw [if_pos h8, if_pos h8]
      show _ = eJ4 G (upq M.2.2.2.2.2.2.1 i x j)
      rw [upq_n _ _ e]
    · rw [if_neg h8, if_neg h8]
end MWR
theorem st4_0 (x : Q4) (v : Int64) : ∀ k, k < 4 → vp_updL (q4f x) 0 v k = q4f (v, x.2.1, x.2.2.1, x.2.2.2) k := by
  intro k hk
  rcases (show k = 0 ∨ k = 1 ∨ k = 2 ∨ k = 3 by omega) with rfl | rfl | rfl | rfl <;> rfl
theorem st4_1 (x : Q4) (v : Int64) : ∀ k, k < 4 → vp_updL (q4f x) 1 v k = q4f (x.1, v, x.2.2.1, x.2.2.2) k := by
  intro k hk
  rcases (show k = 0 ∨ k = 1 ∨ k = 2 ∨ k = 3 by omega) with rfl | rfl | rfl | rfl <;> rfl
theorem st4_2 (x : Q4) (v : Int64) : ∀ k, k < 4 → vp_updL (q4f x) 2 v k = q4f (x.1, x.2.1, v, x.2.2.2) k := by
  intro k hk
  rcases (show k = 0 ∨ k = 1 ∨ k = 2 ∨ k = 3 by omega) with rfl | rfl | rfl | rfl <;> rfl
theorem st4_3 (x : Q4) (v : Int64) : ∀ k, k < 4 → vp_updL (q4f x) 3 v k = q4f (x.1, x.2.1, x.2.2.1, v) k := by
  intro k hk
  rcases (show k = 0 ∨ k = 1 ∨ k = 2 ∨ k = 3 by omega) with rfl | rfl | rfl | rfl <;> rfl
section NATR
variable {p : Program} {l : Launch} {e : Env} {R : Room} {s : State} {m : MethodId} {args : Array Value} {below : List Frame} {meth : Method} {c : Code} {H : Heap} {locs : List Loc} {cells slots : Nat} {Q : State → Prop} {pc : Nat} {ls : Array Slot} {rest : List Value} {cc : ByteArray}
theorem h_iaddN (hexec : p.tables.exec = Jvm.exec) (hb : c.code = cc) (a b : Nat) (hdg : decode cc pc = .ok (.iadd, 1)) (k : W p l e R s m args below meth c H locs cells slots Q (F0 m (pc + 1) ls (.int (nI (a + b)) :: rest))) : W p l e R s m args below meth c H locs cells slots Q (F0 m pc ls (.int (nI b) :: .int (nI a) :: rest)) :=
  lv_iadd hexec hb hdg (by rw [nI_add]; exact k)
theorem h_imulN (hexec : p.tables.exec = Jvm.exec) (hb : c.code = cc) (a b : Nat) (hdg : decode cc pc = .ok (.imul, 1)) (k : W p l e R s m args below meth c H locs cells slots Q (F0 m (pc + 1) ls (.int (nI (a * b)) :: rest))) : W p l e R s m args below meth c H locs cells slots Q (F0 m pc ls (.int (nI b) :: .int (nI a) :: rest)) :=
  lv_imul hexec hb hdg (by rw [pk_mul]; exact k)
end NATR
