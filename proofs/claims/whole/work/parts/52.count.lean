/-! How many there are: sums of products of counts of pairs -/
def sm (f : Nat → Nat) : Nat → Nat
  | 0 => 0
  | k + 1 => sm f k + f k
theorem sm_add (f g : Nat → Nat) : ∀ n, sm (fun s => f s + g s) n = sm f n + sm g n
  | 0 => rfl
  | n + 1 => by rw [sm, sm, sm, sm_add f g n]; omega
theorem sm_0 : ∀ n, sm (fun _ => 0) n = 0
  | 0 => rfl
  | n + 1 => by rw [sm, sm_0 n]
theorem sm_eq {f g : Nat → Nat} : ∀ n, (∀ k, k < n → f k = g k) → sm f n = sm g n
  | 0, _ => rfl
  | n + 1, h => by rw [sm, sm, sm_eq n (fun k hk => h k (by omega)), h n (by omega)]
theorem sm_one {F : Nat → Nat} {v : Nat} : ∀ n, sm (fun s => if v = s then F s else 0) n = if v < n then F v else 0
  | 0 => rfl
  | n + 1 => by
    rw [sm, sm_one n]
    by_cases h : v = n
    · subst h
      rw [if_neg (Nat.lt_irrefl v), if_pos rfl, if_pos (by omega), Nat.zero_add]
    · rw [if_neg h]
      by_cases h2 : v < n
      · rw [if_pos h2, if_pos (by omega), Nat.add_zero]
      · rw [if_neg h2, if_neg (by omega)]
theorem sC_eq {f g : Int → Nat} : ∀ k, (∀ a, f a = g a) → sC f k = sC g k
  | 0, _ => rfl
  | k + 1, h => by rw [sC, sC, sC_eq k h, h]
theorem sC_sm (g : Int → Nat → Nat) (n : Nat) : ∀ k, sC (fun a => sm (g a) n) k = sm (fun s => sC (fun a => g a s) k) n
  | 0 => by
    have : (fun s => sC (fun a => g a s) 0) = fun _ => 0 := rfl
    rw [this, sm_0]; rfl
  | k + 1 => by
    rw [sC, sC_sm g n k, ← sm_add]; rfl
theorem sC_mul (g : Int → Nat) (K : Nat) : ∀ k, sC (fun a => g a * K) k = sC g k * K
  | 0 => by rw [sC, sC, Nat.zero_mul]
  | k + 1 => by rw [sC, sC, sC_mul g K k, Nat.add_mul]
def hh (m : Int) : Nat := (bC m 57).length
theorem hh_n {m : Int} (h : m < 0) : hh m = 0 := by unfold hh; rw [bC_neg h]; rfl
theorem hh_p (m : Nat) : hh (m : Int) = pall m 29 := len_pairs m
noncomputable def kA (N M : Nat) : List Z4 := dwn (fun a => dwn (fun b => cif ((a * a + b * b) % (M : Int) = 0) ((bC (4 * (N : Int) - a * a - b * b) 57).map (fun t => ((a, b, t.1, t.2) : Z4))) []) 28 57) 28 57
theorem mem_kA {N M : Nat} (hN : N ≤ 200) {t : Z4} : t ∈ kA N M ↔ zsq t = 4 * (N : Int) ∧ (t.1 * t.1 + t.2.1 * t.2.1) % (M : Int) = 0 := by
  unfold kA
  rw [show t ∈ dwn (fun a => dwn (fun b => cif ((a * a + b * b) % (M : Int) = 0) ((bC (4 * (N : Int) - a * a - b * b) 57).map (fun t => ((a, b, t.1, t.2) : Z4))) []) 28 57) 28 57 ↔ _ from mem_dw (m := 28)]
  constructor
  · rintro ⟨a, h1, h2, h3⟩
    obtain ⟨b, h4, h5, h6⟩ := (mem_dw (m := 28)).mp h3
    obtain ⟨h7, h8⟩ := mem_cif.mp h6
    obtain ⟨e1, e2, -, -, e5⟩ := mem_bCm.mp h8
    rw [e1, e2]
    refine ⟨?_, h7⟩
    unfold zsq; rw [e1, e2]; omega
  · rintro ⟨h1, h2⟩
    have s0 := sqnn t.1
    have s1 := sqnn t.2.1
    have s2 := sqnn t.2.2.1
    have s3 := sqnn t.2.2.2
    have h1' := h1
    unfold zsq at h1'
    have b0 := b28 (x := t.1) (by omega)
    have b1 := b28 (x := t.2.1) (by omega)
    have b2 := b28 (x := t.2.2.1) (by omega)
    have b3 := b28 (x := t.2.2.2) (by omega)
    exact ⟨t.1, by omega, by omega, (mem_dw (m := 28)).mpr ⟨t.2.1, by omega, by omega, mem_cif.mpr ⟨h2, mem_bCm.mpr ⟨rfl, rfl, b2, b3, by omega⟩⟩⟩⟩
theorem pw_kA {N M : Nat} : (kA N M).Pairwise zgr := by
  unfold kA
  have k1 : ∀ a b : Int, ∀ t ∈ cif ((a * a + b * b) % (M : Int) = 0) ((bC (4 * (N : Int) - a * a - b * b) 57).map (fun t => ((a, b, t.1, t.2) : Z4))) [], t.1 = a ∧ t.2.1 = b := fun a b t ht => by
    obtain ⟨-, h8⟩ := mem_cif.mp ht
    obtain ⟨e1, e2, -⟩ := mem_bCm.mp h8
    exact ⟨e1, e2⟩
  refine pw_dwn (fun a => pw_dwn (fun b => pw_cif pw_bCm) (fun x y hxy t ht u hu => ?_) 57) (fun x y hxy t ht u hu => ?_) 57
  · obtain ⟨e1, e2⟩ := k1 a x t ht
    obtain ⟨f1, f2⟩ := k1 a y u hu
    unfold zgr; omega
  · obtain ⟨i, -, ht⟩ := (mem_dwn 57).mp ht
    obtain ⟨j, -, hu⟩ := (mem_dwn 57).mp hu
    have e := (k1 _ _ t ht).1
    have f := (k1 _ _ u hu).1
    unfold zgr; omega
theorem len_kA {N M : Nat} : (kA N M).length = sm (fun s => if s % M = 0 then pall s 29 * pall (4 * N - s) 29 else 0) (4 * N + 1) := by
  unfold kA
  rw [len_dwn]
  have step : ∀ a b : Int, (cif ((a * a + b * b) % (M : Int) = 0) ((bC (4 * (N : Int) - a * a - b * b) 57).map (fun t => ((a, b, t.1, t.2) : Z4))) []).length = sm (fun s => eE (s : Int) a b * (if s % M = 0 then pall (4 * N - s) 29 else 0)) (4 * N + 1) := fun a b => by
    have s0 := sqnn a
    have s1 := sqnn b
    obtain ⟨v, hv⟩ : ∃ v : Nat, a * a + b * b = (v : Int) := ⟨(a * a + b * b).toNat, by omega⟩
    have e : (fun s : Nat => eE (s : Int) a b * (if s % M = 0 then pall (4 * N - s) 29 else 0)) = fun s => if v = s then (if s % M = 0 then pall (4 * N - s) 29 else 0) else 0 := by
      funext s
      unfold eE
      rw [hv]
      by_cases h : v = s
      · rw [if_pos h, if_pos (by rw [h]), Nat.one_mul]
      · rw [if_neg h, if_neg (by omega), Nat.zero_mul]
    rw [e, sm_one]
    have hm : (a * a + b * b) % (M : Int) = 0 ↔ v % M = 0 := by
      rw [hv]
      constructor
      · intro h; exact_mod_cast h
      · intro h; exact_mod_cast h
    have hL : 4 * (N : Int) - a * a - b * b = 4 * (N : Int) - v := by omega
    by_cases h1 : v % M = 0
    · rw [cif_t (hm.mpr h1), if_pos h1, List.length_map, hL]
      by_cases h2 : v < 4 * N + 1
      · rw [if_pos h2, show 4 * (N : Int) - v = ((4 * N - v : Nat) : Int) by omega]
        exact hh_p _
      · rw [if_neg h2]
        exact hh_n (by omega)
    · rw [cif_f (fun w => h1 (hm.mp w)), if_neg h1]
      by_cases h2 : v < 4 * N + 1
      · rw [if_pos h2]; rfl
      · rw [if_neg h2]; rfl
  have e1 : ∀ a : Int, (dwn (fun b => cif ((a * a + b * b) % (M : Int) = 0) ((bC (4 * (N : Int) - a * a - b * b) 57).map (fun t => ((a, b, t.1, t.2) : Z4))) []) 28 57).length = sm (fun s => sC (eE (s : Int) a) 57 * (if s % M = 0 then pall (4 * N - s) 29 else 0)) (4 * N + 1) := fun a => by
    rw [len_dwn, sC_eq 57 (step a), sC_sm]
    exact sm_eq _ (fun s _ => sC_mul _ _ 57)
  rw [sC_eq 57 e1, sC_sm]
  refine sm_eq _ (fun s _ => ?_)
  rw [sC_mul, ← len_bC, len_pairs]
  by_cases h : s % M = 0
  · rw [if_pos h, if_pos h]
  · rw [if_neg h, if_neg h, Nat.mul_zero]
def tbl (s : Nat) : Nat := (46897912583274516180331670628868692419478143660594735216686333277869360127449089631710204989436561671723238838775771134608696323041133869283947336977282820955270084344369779671895027184882380177057484483946626772633712026876427646994438970770513871616000293831991091093416522193260869513941320338517852571261367869949164934866485417330046454686520034962879806278434369062810827994266083599924028245772559467691189660225783128301830241938348267258223365202811139966947671137853034506149722755447932015487237129808633339131905612853303804262364696587117255750965792935406487275417160444635074167532744826697278630678768363641511919294483766973907695280856514888584692003756187735337727426326088047339930608286096971608962973785748834449693684941963945754422130162247913290935876784328671120866005118416710160419921730108800317482234103632831936979986536465103914697531890206828529246003274886081527099784970058892002230468086776829537961237051721184149040442608769908385711352205586957652353236019622099376829825318423624563078486488609949166646671276455965935345596426435653761433310032366816659009177164074896816943991860776953596193587175518752758981996347868401577539991190962445364075013688210218303465517761294723805958345554714308522883550415706159135536548884582737409045223823114826226987241542013560287452490647988023205534056067202834331803761785919787979217155555635111680170418345863221959635867076465901453385080237043600373001726629036757176190057649515777383252598721500606762848097223766256555445388029163262357247274054769177025123351116589392308811516960949745104188103641869703934893449337346416114414332947351085895821709664070258001383048243157779028268726080511937539462304981394547923532595715395603600502665351431082839942768643205808335593185300129869365008498584990809033571234452543629737843829015760804201410249516356690269326899825331956508805747376316904708412247078918778885902373975945206313518081 >>> (8 * s)) % 256
theorem tbl_0 : ∀ k : Nat, k < 81 → pall (2 * (0 + k)) 29 = tbl (2 * (0 + k)) := by decide +kernel
theorem tbl_1 : ∀ k : Nat, k < 81 → pall (2 * (81 + k)) 29 = tbl (2 * (81 + k)) := by decide +kernel
theorem tbl_2 : ∀ k : Nat, k < 81 → pall (2 * (162 + k)) 29 = tbl (2 * (162 + k)) := by decide +kernel
theorem tbl_3 : ∀ k : Nat, k < 81 → pall (2 * (243 + k)) 29 = tbl (2 * (243 + k)) := by decide +kernel
theorem tbl_4 : ∀ k : Nat, k < 77 → pall (2 * (324 + k)) 29 = tbl (2 * (324 + k)) := by decide +kernel
theorem tbl_ok {s : Nat} (h : s % 2 = 0) (h2 : s ≤ 800) : pall s 29 = tbl s := by
  obtain ⟨t, rfl⟩ : ∃ t, s = 2 * t := ⟨s / 2, by omega⟩
  rcases (show t < 81 ∨ (81 ≤ t ∧ t < 162) ∨ (162 ≤ t ∧ t < 243) ∨ (243 ≤ t ∧ t < 324) ∨ (324 ≤ t ∧ t < 401) by omega) with q | q | q | q | q
  · have := tbl_0 (t - 0) (by omega)
    rw [show 0 + (t - 0) = t by omega] at this; exact this
  · have := tbl_1 (t - 81) (by omega)
    rw [show 81 + (t - 81) = t by omega] at this; exact this
  · have := tbl_2 (t - 162) (by omega)
    rw [show 162 + (t - 162) = t by omega] at this; exact this
  · have := tbl_3 (t - 243) (by omega)
    rw [show 243 + (t - 243) = t by omega] at this; exact this
  · have := tbl_4 (t - 324) (by omega)
    rw [show 324 + (t - 324) = t by omega] at this; exact this
def smT (M N : Nat) : Nat := sm (fun s => if s % M = 0 then tbl s * tbl (4 * N - s) else 0) (4 * N + 1)
theorem len_T {N M : Nat} (hN : N ≤ 200) (hM : M = 2 ∨ M = 4) : (kA N M).length = smT M N := by
  rw [len_kA]
  refine sm_eq _ (fun s hs => ?_)
  by_cases h : s % M = 0
  · have h2 : s % 2 = 0 := by rcases hM with rfl | rfl <;> omega
    rw [if_pos h, if_pos h, tbl_ok h2 (by omega), tbl_ok (by omega) (by omega)]
  · rw [if_neg h, if_neg h]
theorem smt_0 : ∀ k : Nat, k < 25 → smT 2 (1 + k) = mAll (1 + k) ∧ smT 4 (1 + k) = mWhole (1 + k) := by decide +kernel
theorem smt_1 : ∀ k : Nat, k < 25 → smT 2 (26 + k) = mAll (26 + k) ∧ smT 4 (26 + k) = mWhole (26 + k) := by decide +kernel
theorem smt_2 : ∀ k : Nat, k < 25 → smT 2 (51 + k) = mAll (51 + k) ∧ smT 4 (51 + k) = mWhole (51 + k) := by decide +kernel
theorem smt_3 : ∀ k : Nat, k < 25 → smT 2 (76 + k) = mAll (76 + k) ∧ smT 4 (76 + k) = mWhole (76 + k) := by decide +kernel
theorem smt_4 : ∀ k : Nat, k < 25 → smT 2 (101 + k) = mAll (101 + k) ∧ smT 4 (101 + k) = mWhole (101 + k) := by decide +kernel
theorem smt_5 : ∀ k : Nat, k < 25 → smT 2 (126 + k) = mAll (126 + k) ∧ smT 4 (126 + k) = mWhole (126 + k) := by decide +kernel
theorem smt_6 : ∀ k : Nat, k < 25 → smT 2 (151 + k) = mAll (151 + k) ∧ smT 4 (151 + k) = mWhole (151 + k) := by decide +kernel
theorem smt_7 : ∀ k : Nat, k < 25 → smT 2 (176 + k) = mAll (176 + k) ∧ smT 4 (176 + k) = mWhole (176 + k) := by decide +kernel
theorem smt_ok {N : Nat} (h1 : 1 ≤ N) (h2 : N ≤ 200) : smT 2 N = mAll N ∧ smT 4 N = mWhole N := by
  rcases (show N < 26 ∨ (26 ≤ N ∧ N < 51) ∨ (51 ≤ N ∧ N < 76) ∨ (76 ≤ N ∧ N < 101) ∨ (101 ≤ N ∧ N < 126) ∨ (126 ≤ N ∧ N < 151) ∨ (151 ≤ N ∧ N < 176) ∨ (176 ≤ N ∧ N < 201) by omega) with q | q | q | q | q | q | q | q
  · have := smt_0 (N - 1) (by omega)
    rw [show 1 + (N - 1) = N by omega] at this; exact this
  · have := smt_1 (N - 26) (by omega)
    rw [show 26 + (N - 26) = N by omega] at this; exact this
  · have := smt_2 (N - 51) (by omega)
    rw [show 51 + (N - 51) = N by omega] at this; exact this
  · have := smt_3 (N - 76) (by omega)
    rw [show 76 + (N - 76) = N by omega] at this; exact this
  · have := smt_4 (N - 101) (by omega)
    rw [show 101 + (N - 101) = N by omega] at this; exact this
  · have := smt_5 (N - 126) (by omega)
    rw [show 126 + (N - 126) = N by omega] at this; exact this
  · have := smt_6 (N - 151) (by omega)
    rw [show 151 + (N - 151) = N by omega] at this; exact this
  · have := smt_7 (N - 176) (by omega)
    rw [show 176 + (N - 176) = N by omega] at this; exact this
theorem all_len {N : Nat} (h1 : 1 ≤ N) (h2 : N ≤ 200) : (rA N 0).length = mAll N := by
  have e : rA N 0 = kA N 2 := by
    refine pw_uniq _ _ pw_rA pw_kA (fun t => ?_)
    rw [mem_rA, mem_kA h2]
    unfold selw selP
    constructor
    · rintro ⟨h, h3, -⟩; exact ⟨h, (zok_2 h).mp h3⟩
    · rintro ⟨h, h3⟩; exact ⟨h, (zok_2 h).mpr h3, Or.inl rfl⟩
  rw [e, len_T h2 (Or.inl rfl), (smt_ok h1 h2).1]
theorem whole_len {N : Nat} (h1 : 1 ≤ N) (h2 : N ≤ 200) : (rA N 1).length = mWhole N := by
  have e : rA N 1 = kA N 4 := by
    refine pw_uniq _ _ pw_rA pw_kA (fun t => ?_)
    rw [mem_rA, mem_kA h2]
    unfold selw selP
    constructor
    · rintro ⟨h, h3, h4⟩
      refine ⟨h, (zok_4 h).mp ⟨h3, ?_⟩⟩
      rcases h4 with q | q | q
      · exact absurd q (by decide)
      · exact q.2
      · exact absurd q.1 (by decide)
    · rintro ⟨h, h3⟩
      obtain ⟨a1, a2⟩ := (zok_4 h).mpr h3
      exact ⟨h, a1, Or.inr (Or.inl ⟨rfl, a2⟩)⟩
  rw [e, len_T h2 (Or.inr rfl), (smt_ok h1 h2).2]
