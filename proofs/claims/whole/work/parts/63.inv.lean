/-! What holds of every state that a run of calls comes to -/
def inv (S : SS) : Prop := (∀ k, k < 6 → S.2.2.1 k ≤ 16) ∧ (∀ k, k < 6 → S.2.1 k = -1 ∨ 0 ≤ S.2.1 k) ∧ S.2.2.2.2 ≤ 12 ∧ (∀ k, k < 16 → rok (S.1 k)) ∧ ∀ k, k < S.2.2.2.2 → zok (tz (S.1 (16 + k)))
theorem ix_lt {n j : Nat} {r : Int32} (h : ix n r = some j) (hn : n < 2 ^ 31) : j < n ∧ r = nI j := by
  rcases ix_cases n hn r with w | ⟨i, hi, rfl⟩
  · rw [ix_none w] at h; cases h
  · rw [ix_in hi hn] at h
    cases h
    exact ⟨hi, rfl⟩
theorem inv_rg {S : SS} (h : inv S) {k : Nat} {x : Q4} (hk : k < 16) (hx : ¬ qhigh x) (hz : zok (tz x)) : inv (sRg S k x) := by
  obtain ⟨h1, h2, h3, h4, h5⟩ := h
  refine ⟨h1, h2, h3, fun j hj => ?_, fun j hj => ?_⟩
  · by_cases e : j = k
    · subst e
      show rok (upq S.1 j x j)
      rw [upq_s]; exact ⟨low_z.mp hx, hz⟩
    · show rok (upq S.1 k x j)
      rw [upq_n _ _ e]; exact h4 j hj
  · show zok (tz (upq S.1 k x (16 + j)))
    rw [upq_n _ _ (by omega)]; exact h5 j hj
theorem inv_pl {S : SS} (h : inv S) {j : Nat} {g : Nat → Int64} : inv (sPl S j g) := h
theorem inv_sh {S : SS} (h : inv S) {j n : Nat} {k : Int32} (hk : k = -1 ∨ 0 ≤ k) (hn : n ≤ 16) : inv (sSh S j k n) := by
  obtain ⟨h1, h2, h3, h4, h5⟩ := h
  refine ⟨fun i hi => ?_, fun i hi => ?_, h3, h4, h5⟩
  · show upq S.2.2.1 j n i ≤ 16
    by_cases e : i = j
    · subst e; rw [upq_s]; exact hn
    · rw [upq_n _ _ e]; exact h1 i hi
  · show upq S.2.1 j k i = -1 ∨ 0 ≤ upq S.2.1 j k i
    by_cases e : i = j
    · subst e; rw [upq_s]; exact hk
    · rw [upq_n _ _ e]; exact h2 i hi
theorem inv_cif {p : Prop} {α : Type} {a b : α × SS} (h1 : p → inv a.2) (h2 : ¬ p → inv b.2) : inv (cif p a b).2 := by
  by_cases h : p
  · rw [cif_t h]; exact h1 h
  · rw [cif_f h]; exact h2 h
theorem inv_hld {S : SS} (h : inv S) {a : Nat} {x : Q4} (ha : a < 16) (hz : zok (tz x)) : inv (hld S a x).2 := inv_cif (fun _ => h) (fun w => inv_rg h ha w hz)
theorem inv_hldN {S : SS} (h : inv S) {a : Nat} {x : Q4} (ha : a < 16) (hz : zok (tz x)) : inv (hldN S a x).2 := inv_cif (fun _ => h) (fun w => inv_rg h ha w hz)
theorem inv_sheet {S : SS} (h : inv S) (r k n : Int32) : inv (sp_sheet S r k n).2 := by
  unfold sp_sheet
  cases hx : ix 6 r with
  | none => exact h
  | some j =>
    refine inv_cif (fun _ => h) (fun c1 => inv_cif (fun c2 => inv_cif (fun c3 => inv_sh h (Or.inl rfl) (by decide)) (fun c3 => inv_cif (fun c4 => inv_cif (fun c5 => ?_) (fun _ => h)) (fun _ => h))) (fun _ => h))
    refine inv_sh h (Or.inr ?_) ?_
    · rw [Int32.le_iff_toInt_le, show (0 : Int32).toInt = 0 from by decide]
      rw [Int32.lt_iff_toInt_lt, show (-1 : Int32).toInt = -1 from by decide] at c1
      have : k.toInt ≠ -1 := fun w => c3 (by apply Int32.toInt_inj.mp; rw [w]; decide)
      omega
    · obtain ⟨i, hi, rfl⟩ := nI_of (Int32.not_lt.mpr c5)
      rw [nI_clamp hi]
      rw [Int32.le_iff_toInt_le, nI_toInt hi, show (16 : Int32).toInt = 16 from by decide] at c4
      omega
theorem inv_put {S : SS} (h : inv S) (r i : Int32) (v : Int64) : inv (sp_put S r i v).2 := by
  unfold sp_put
  cases hx : ix 6 r with
  | none => exact h
  | some j =>
    refine inv_cif (fun _ => h) (fun _ => ?_)
    cases rch (S.2.2.1 j) i 1 with
    | none => exact h
    | some t => exact inv_pl h
theorem inv_copy {S : SS} (h : inv S) (r i t j n : Int32) : inv (sp_copy S r i t j n).2 := by
  unfold sp_copy
  cases hx : ix 6 r with
  | none => exact h
  | some a =>
    cases hy : ix 6 t with
    | none => exact h
    | some b =>
      refine inv_cif (fun _ => h) (fun _ => inv_cif (fun _ => h) (fun _ => inv_cif (fun _ => ?_) (fun _ => h)))
      cases rch (S.2.2.1 a) i n with
      | none => exact h
      | some x =>
        dsimp only
        cases rch (S.2.2.1 b) j n with
        | none => exact h
        | some y => exact inv_pl h
theorem inv_read {S : SS} (h : inv S) (s r i : Int32) : inv (sp_read S s r i).2 := by
  unfold sp_read
  cases hx : ix 16 s with
  | none => exact h
  | some a =>
    cases hy : ix 6 r with
    | none => exact h
    | some b =>
      refine inv_cif (fun _ => h) (fun _ => ?_)
      cases rch (S.2.2.1 b) i 4 with
      | none => exact h
      | some t => exact inv_cif (fun c1 => inv_cif (fun _ => h) (fun c2 => inv_rg h (ix_lt hx (by decide)).1 c2 (qone_z.mp c1))) (fun _ => h)
theorem inv_write {S : SS} (h : inv S) (s r i : Int32) : inv (sp_write S s r i).2 := by
  unfold sp_write
  cases hx : ix 16 s with
  | none => exact h
  | some a =>
    cases hy : ix 6 r with
    | none => exact h
    | some b =>
      refine inv_cif (fun _ => h) (fun _ => ?_)
      cases rch (S.2.2.1 b) i 4 with
      | none => exact h
      | some t => exact inv_pl h
theorem inv_set {S : SS} (h : inv S) (s a b c d : Int32) : inv (sp_set S s a b c d).2 := by
  unfold sp_set
  cases hx : ix 16 s with
  | none => exact h
  | some j => exact inv_cif (fun c1 => inv_hld h (ix_lt hx (by decide)).1 (qone_z.mp c1)) (fun _ => h)
theorem inv_part {S : SS} (h : inv S) (s w : Int32) : inv (sp_part S s w).2 := by
  unfold sp_part
  cases ix 16 s with
  | none => exact h
  | some j => exact h
theorem add_z4 {x y : Q4} {A B : Int} (hx : zb A (tz x)) (hy : zb B (tz y)) (hAB : A + B < 9223372036854775808) : tz (qadd x y) = zadd (tz x) (tz y) := by
  obtain ⟨x0, x1, x2, x3⟩ := hx
  obtain ⟨y0, y1, y2, y3⟩ := hy
  unfold tz at x0 x1 x2 x3 y0 y1 y2 y3
  dsimp only at x0 x1 x2 x3 y0 y1 y2 y3
  unfold tz qadd zadd
  dsimp only
  rw [addL (by omega) (by omega), addL (by omega) (by omega), addL (by omega) (by omega), addL (by omega) (by omega)]
theorem inv_work {S : SS} (h : inv S) (s w t u : Int32) : inv (sp_work S s w t u).2 := by
  unfold sp_work
  cases hx : ix 16 s with
  | none => exact h
  | some a =>
    have ha := (ix_lt hx (by decide)).1
    cases hy : ix 16 t with
    | none => exact h
    | some b =>
      have hb := h.2.2.2.1 b (ix_lt hy (by decide)).1
      refine inv_cif (fun _ => inv_hld h ha ?_) (fun _ => ?_)
      · rw [tz_mir hb.1 (by decide)]; exact zmir_ok hb.2
      cases hz : ix 16 u with
      | none => exact h
      | some c =>
        have hc := h.2.2.2.1 c (ix_lt hz (by decide)).1
        refine inv_cif (fun _ => inv_hld h ha ?_) (fun _ => inv_cif (fun _ => inv_hld h ha ?_) (fun _ => inv_cif (fun _ => inv_hld h ha ?_) (fun _ => h)))
        · rw [add_z4 hb.1 hc.1 (by decide)]; exact zadd_ok hb.2 hc.2
        · rw [sub_z4 hb.1 hc.1 (by decide)]; exact zsub_ok hb.2 hc.2
        · rw [qmul_z hb.1 hc.1 (by decide) hb.2 hc.2]; exact (zn_par hb.2 hc.2).2.2.2.2
theorem inv_unit {S : SS} (h : inv S) (s t u sd : Int32) : inv (sp_unit S s t u sd).2 := by
  unfold sp_unit
  cases hx : ix 16 s with
  | none => exact h
  | some a =>
    cases hy : ix 16 t with
    | none => exact h
    | some b =>
      have hb := h.2.2.2.1 b (ix_lt hy (by decide)).1
      cases hz : ix 24 u with
      | none => exact h
      | some c => exact inv_cif (fun _ => inv_hld h (ix_lt hx (by decide)).1 (like_z (ix_lt hz (by decide)).1 hb.2 hb.b8).2.1) (fun _ => h)
theorem inv_divide {S : SS} (h : inv S) (s r t u sd : Int32) : inv (sp_divide S s r t u sd).2 := by
  unfold sp_divide
  cases hs : ix 16 s with
  | none => exact h
  | some a =>
    cases hr : ix 16 r with
    | none => exact h
    | some b =>
      cases ht : ix 16 t with
      | none => exact h
      | some c =>
        cases hu : ix 16 u with
        | none => exact h
        | some d =>
          have hc := h.2.2.2.1 c (ix_lt ht (by decide)).1
          have hd := h.2.2.2.1 d (ix_lt hu (by decide)).1
          refine inv_cif (fun _ => h) (fun _ => inv_cif (fun _ => inv_cif (fun _ => h) (fun c1 => inv_cif (fun _ => h) (fun c2 => inv_cif (fun _ => h) (fun c3 => ?_)))) (fun _ => h))
          obtain ⟨-, -, k1, -, k2, -⟩ := stp (sd := sd) hc.2 hd.2 hc.b8 hd.sq (fun w => c1 (hd.n0.mpr w))
          exact inv_rg (inv_rg h (ix_lt hs (by decide)).1 c2 (by rw [k2]; exact zquo_ok _ _ _)) (ix_lt hr (by decide)).1 c3 k1
theorem divi_ok {sd : Int32} {x y : Q4} (hx : rok x) (hy : rok y) : zok (tz (divi sd x y)) := by
  obtain ⟨k1, k2⟩ := dvl_ok (sd := sd) 100 x y hx.2 hy.2 hx.b8 hy.sq
  have h1 := hx.sq
  have h2 := hy.sq
  exact (grl_ok (sd := osd sd) k1 (zb_mono (zb_of (show zsq (tz (dvl sd 100 x y)) ≤ 1600000000 by omega)) (by decide)) (Nat.le_refl 24)).1
theorem inv_divisor {S : SS} (h : inv S) (s t u sd : Int32) : inv (sp_divisor S s t u sd).2 := by
  unfold sp_divisor
  cases hs : ix 16 s with
  | none => exact h
  | some a =>
    cases ht : ix 16 t with
    | none => exact h
    | some b =>
      cases hu : ix 16 u with
      | none => exact h
      | some c =>
        have hb := h.2.2.2.1 b (ix_lt ht (by decide)).1
        have hc := h.2.2.2.1 c (ix_lt hu (by decide)).1
        have ha := (ix_lt hs (by decide)).1
        exact inv_cif (fun _ => inv_cif (fun _ => inv_cif (fun _ => h) (fun _ => inv_hldN h ha (divi_ok hb hc))) (fun _ => inv_hldN h ha (divi_ok hb hc))) (fun _ => h)
theorem inv_like {S : SS} (h : inv S) (s t sd : Int32) : inv (sp_like S s t sd).2 := by
  unfold sp_like
  cases ix 16 s with
  | none => exact h
  | some a =>
    cases ix 16 t with
    | none => exact h
    | some b => exact inv_cif (fun _ => h) (fun _ => h)
theorem rch_lt {z : Nat} {i n : Int32} {t : Nat × Nat} (h : rch z i n = some t) : t.1 + t.2 ≤ z := by
  unfold rch at h
  by_cases h1 : i < 0
  · rw [if_pos h1] at h; cases h
  · rw [if_neg h1] at h
    by_cases h2 : n < 0
    · rw [if_pos h2] at h; cases h
    · rw [if_neg h2] at h
      by_cases h3 : i.toNatClampNeg + n.toNatClampNeg ≤ z
      · rw [if_pos h3] at h; cases h; exact h3
      · rw [if_neg h3] at h; cases h
theorem rch_n {z : Nat} {i n : Int32} {t : Nat × Nat} (h : rch z i n = some t) : n = nI t.2 ∧ t.2 < 2 ^ 31 := by
  unfold rch at h
  by_cases h1 : i < 0
  · rw [if_pos h1] at h; cases h
  · rw [if_neg h1] at h
    by_cases h2 : n < 0
    · rw [if_pos h2] at h; cases h
    · rw [if_neg h2] at h
      by_cases h3 : i.toNatClampNeg + n.toNatClampNeg ≤ z
      · rw [if_pos h3] at h; cases h
        obtain ⟨j, hj, rfl⟩ := nI_of h2
        dsimp only
        rw [nI_clamp hj]; exact ⟨rfl, hj⟩
      · rw [if_neg h3] at h; cases h
theorem inv_way {S : SS} (h : inv S) (s r i n : Int32) : inv (sp_way S s r i n).2 := by
  unfold sp_way
  cases hs : ix 16 s with
  | none => exact h
  | some a =>
    cases hr : ix 6 r with
    | none => exact h
    | some b =>
      have ha := h.2.2.2.1 a (ix_lt hs (by decide)).1
      have hb := (ix_lt hr (by decide)).1
      refine inv_cif (fun _ => h) (fun c0 => inv_cif (fun c1 => inv_cif (fun _ => h) (fun _ => inv_cif (fun _ => ?_) (fun _ => h))) (fun _ => h))
      cases hc : rch (S.2.2.1 b) i n with
      | none => exact h
      | some t =>
        refine inv_cif (fun c2 => inv_cif (fun c3 => ?_) (fun _ => h)) (fun _ => h)
        obtain ⟨k1, k2, k3, k4, k5⟩ := h
        have ht := rch_lt hc
        obtain ⟨hn, hn2⟩ := rch_n hc
        have hz := k1 b hb
        have h12 : t.2 ≤ 12 := le12 (by omega) (by rw [← hn]; exact c1)
        have hw := wok_of ha c2 c3
        refine ⟨k1, k2, h12, fun j hj => ?_, fun j hj => ?_⟩
        · show rok (wayq S.1 (S.1 a) (fun k => S.2.2.2.1 b (t.1 + k)) t.2 j)
          unfold wayq
          rw [if_neg (by omega)]; exact k4 j hj
        · have hj : j < t.2 := hj
          show zok (tz (wayq S.1 (S.1 a) (fun k => S.2.2.2.1 b (t.1 + k)) t.2 (16 + j)))
          unfold wayq
          rw [if_pos (by omega), show 16 + j - 16 = j by omega]
          by_cases e : j + 1 < t.2
          · rw [if_pos e]; exact (wf_ok hw (by omega)).1
          · rw [if_neg e]; exact (wl_ok hw _ (by omega)).1
theorem inv_factor {S : SS} (h : inv S) (s k : Int32) : inv (sp_factor S s k).2 := by
  unfold sp_factor
  cases hs : ix 16 s with
  | none => exact h
  | some a =>
    cases hk : ix S.2.2.2.2 k with
    | none => exact h
    | some j =>
      have h12 := h.2.2.1
      exact inv_hldN h (ix_lt hs (by decide)).1 (h.2.2.2.2 j (ix_lt hk (by omega)).1)
theorem inv_many {S : SS} (h : inv S) (n w : Int32) : inv (sp_many S n w).2 := inv_cif (fun _ => h) (fun _ => h)
theorem inv_listed {S : SS} (h : inv S) (s n i : Int32) : inv (sp_listed S s n i).2 := by
  unfold sp_listed
  cases hs : ix 16 s with
  | none => exact h
  | some a =>
    refine inv_cif (fun c1 => inv_cif (fun _ => ?_) (fun _ => h)) (fun _ => h)
    cases hx : (fA n.toNatClampNeg 57)[i.toNatClampNeg]? with
    | none => exact h
    | some t =>
      have hN : n.toNatClampNeg ≤ 200 := by
        rw [Int32.lt_iff_toInt_lt, Int32.lt_iff_toInt_lt, show (1 : Int32).toInt = 1 from by decide, show (200 : Int32).toInt = 200 from by decide] at c1
        unfold Int32.toNatClampNeg
        omega
      obtain ⟨h1, h2⟩ := (mem_fA57 hN).mp (List.mem_of_getElem? hx)
      have hb := zb_28 hN h1
      exact inv_rg h (ix_lt hs (by decide)).1 (q4i_nh hb) (by rw [q4i_tz hb]; exact h2)
theorem inv_turn {S : SS} (h : inv S) (s i j : Int32) : inv (sp_turn S s i j).2 := by
  unfold sp_turn
  cases ix 16 s with
  | none => exact h
  | some a => exact inv_cif (fun _ => inv_cif (fun _ => inv_cif (fun _ => h) (fun _ => h)) (fun _ => h)) (fun _ => h)
theorem inv_turned {S : SS} (h : inv S) (s x y w i : Int32) : inv (sp_turned S s x y w i).2 := by
  unfold sp_turned
  cases ix 16 s with
  | none => exact h
  | some a => exact inv_cif (fun _ => inv_cif (fun _ => inv_cif (fun _ => inv_cif (fun _ => h) (fun _ => h)) (fun _ => h)) (fun _ => h)) (fun _ => h)
/-- the state at the start -/
def SS0 : SS := (fun _ => (0, 0, 0, 0), fun _ => -1, fun _ => 0, fun _ _ => 0, 0)
theorem rok_0 : rok ((0, 0, 0, 0) : Q4) := ⟨⟨by decide, by decide, by decide, by decide⟩, ⟨by decide, by decide, by decide⟩⟩
theorem inv_0 : inv SS0 := ⟨fun _ _ => Nat.zero_le 16, fun _ _ => Or.inl rfl, Nat.zero_le 12, fun _ _ => rok_0, fun k hk => absurd hk (Nat.not_lt_zero k)⟩
