theorem c_hasInt {d : Nat} {Fg : Nat → Prop} {h0 : hp} {V : kV} {bc bs : Nat} {Q : Option sV → kV → Prop} {a : Nat} {o : zO} {x : Int32} (ho : kO V a = some o) (hl : o.2.2.length ≤ 24) (hQ : Q (some (sI (if (zdec x o.2.2.length).isSome = true then 1 else 0))) V) : cM (d + 1) Fg h0 4 [sR (some a), sI x] V bc bs Q := by
  refine cM_of (ls := [sR (some a), sI x]) rfl (Nat.le_of_ble_eq_true rfl) rfl ?_
  cases hz : zdec x (o.2.2.length) with
  | none =>
    simp only [hz] at hQ
    have fin : ∀ v0 v1, cWP d Fg h0 4 Q 17 [v0, v1] [] V bc bs := fun v0 v1 => bX1_hasInt_17 (bX1_hasInt_18 (Or.inl rfl) hQ)
    by_cases h0 : x < 0
    · exact bX1_hasInt_0 (fun _ => fin _ _) (fun z => absurd h0 z)
    · refine bX1_hasInt_0 (fun z => absurd z h0) (fun _ => ?_)
      have h1 := (zdec_none hz).resolve_left h0
      exact bX1_hasInt_4 ho (fun _ => fin _ _) (fun z => absurd h1 z)
  | some i =>
    simp only [hz] at hQ
    have hn : (o.2.2.length) < 2 ^ 31 := by omega
    obtain ⟨il, rfl⟩ := zdec_some hn hz
    refine bX1_hasInt_0 (fun z => absurd z (nI_pos (by omega))) (fun _ => ?_)
    refine bX1_hasInt_4 ho (fun z => absurd z (nI_ge il hn)) (fun _ => ?_)
    refine bX1_hasInt_13 (bX1_hasInt_18 (Or.inr rfl) ?_)
    exact hQ
theorem c_hasInput {d : Nat} {Fg : Nat → Prop} {h0 : hp} {V : kV} {bc bs : Nat} {Q : Option sV → kV → Prop} {a n : Nat} {x : Int32} (hc : kC V a = 4) (hl : kI V 304 a = nI n) (h6 : n ≤ 6) (hQ : Q (some (sI (if (zdec x n).isSome = true then 1 else 0))) V) : cM (d + 1) Fg h0 24 [sR (some a), sI x] V bc bs Q := by
  refine cM_of (ls := [sR (some a), sI x]) rfl (Nat.le_of_ble_eq_true rfl) rfl ?_
  cases hz : zdec x (n) with
  | none =>
    simp only [hz] at hQ
    have fin : ∀ v0 v1, cWP d Fg h0 24 Q 16 [v0, v1] [] V bc bs := fun v0 v1 => bX3_hasInput_16 (bX3_hasInput_17 (Or.inl rfl) hQ)
    by_cases h0 : x < 0
    · exact bX3_hasInput_0 (fun _ => fin _ _) (fun z => absurd h0 z)
    · refine bX3_hasInput_0 (fun z => absurd z h0) (fun _ => ?_)
      have h1 := (zdec_none hz).resolve_left h0
      exact bX3_hasInput_4 hc (fun _ => fin _ _) (fun z => absurd (by rw [hl]; exact h1) z)
  | some i =>
    simp only [hz] at hQ
    have hn : (n) < 2 ^ 31 := by omega
    obtain ⟨il, rfl⟩ := zdec_some hn hz
    refine bX3_hasInput_0 (fun z => absurd z (nI_pos (by omega))) (fun _ => ?_)
    refine bX3_hasInput_4 hc (fun z => absurd (by rw [hl] at z; exact z) (nI_ge il hn)) (fun _ => ?_)
    refine bX3_hasInput_12 (bX3_hasInput_17 (Or.inr rfl) ?_)
    exact hQ
theorem c_traceAt {d : Nat} {Fg : Nat → Prop} {h0 : hp} {V : kV} {bc bs : Nat} {Q : Option sV → kV → Prop} {a n : Nat} {x : Int32} (hc : kC V a = 4) (hl : kI V 305 a = nI n) (h6 : n ≤ 5) (hQ : Q (some (sR (match zdec x n with | some k => kB V 306 a k | none => none))) V) : cM (d + 1) Fg h0 25 [sR (some a), sI x] V bc bs Q := by
  refine cM_of (ls := [sR (some a), sI x]) rfl (Nat.le_of_ble_eq_true rfl) rfl ?_
  cases hz : zdec x (n) with
  | none =>
    simp only [hz] at hQ
    have fin : ∀ v0 v1, cWP d Fg h0 25 Q 21 [v0, v1] [] V bc bs := fun v0 v1 => bX3_traceAt_21 (bX3_traceAt_22 hQ)
    by_cases h0 : x < 0
    · exact bX3_traceAt_0 (fun _ => fin _ _) (fun z => absurd h0 z)
    · refine bX3_traceAt_0 (fun z => absurd z h0) (fun _ => ?_)
      have h1 := (zdec_none hz).resolve_left h0
      exact bX3_traceAt_4 hc (fun _ => fin _ _) (fun z => absurd (by rw [hl]; exact h1) z)
  | some i =>
    simp only [hz] at hQ
    have hn : (n) < 2 ^ 31 := by omega
    obtain ⟨il, rfl⟩ := zdec_some hn hz
    refine bX3_traceAt_0 (fun z => absurd z (nI_pos (by omega))) (fun _ => ?_)
    refine bX3_traceAt_4 hc (fun z => absurd (by rw [hl] at z; exact z) (nI_ge il hn)) (fun _ => ?_)
    refine bX3_traceAt_12 hc (vin i rfl (by omega) (by decide)) (bX3_traceAt_22 ?_)
    rw [nix i rfl (by omega)]
    exact hQ
theorem c_nameAt {d : Nat} {Fg : Nat → Prop} {h0 : hp} {V : kV} {bc bs : Nat} {Q : Option sV → kV → Prop} {a n : Nat} {x : Int32} (hc : kC V a = 6) (hl : kI V 500 a = nI n) (h6 : n ≤ 25) (hQ : Q (some (sI (match zdec x n with | some k => kA V 502 a k | none => -1))) V) : cM (d + 1) Fg h0 39 [sR (some a), sI x] V bc bs Q := by
  refine cM_of (ls := [sR (some a), sI x]) rfl (Nat.le_of_ble_eq_true rfl) rfl ?_
  cases hz : zdec x (n) with
  | none =>
    simp only [hz] at hQ
    have fin : ∀ v0 v1, cWP d Fg h0 39 Q 21 [v0, v1] [] V bc bs := fun v0 v1 => bX5_nameAt_21 (bX5_nameAt_22 hQ)
    by_cases h0 : x < 0
    · exact bX5_nameAt_0 (fun _ => fin _ _) (fun z => absurd h0 z)
    · refine bX5_nameAt_0 (fun z => absurd z h0) (fun _ => ?_)
      have h1 := (zdec_none hz).resolve_left h0
      exact bX5_nameAt_4 hc (fun _ => fin _ _) (fun z => absurd (by rw [hl]; exact h1) z)
  | some i =>
    simp only [hz] at hQ
    have hn : (n) < 2 ^ 31 := by omega
    obtain ⟨il, rfl⟩ := zdec_some hn hz
    refine bX5_nameAt_0 (fun z => absurd z (nI_pos (by omega))) (fun _ => ?_)
    refine bX5_nameAt_4 hc (fun z => absurd (by rw [hl] at z; exact z) (nI_ge il hn)) (fun _ => ?_)
    refine bX5_nameAt_12 hc (vin i rfl (by omega) (by decide)) (bX5_nameAt_22 ?_)
    rw [nix i rfl (by omega)]
    exact hQ
theorem c_outcomeAt {d : Nat} {Fg : Nat → Prop} {h0 : hp} {V : kV} {bc bs : Nat} {Q : Option sV → kV → Prop} {a n : Nat} {x : Int32} (hc : kC V a = 6) (hl : kI V 500 a = nI n) (h6 : n ≤ 25) (hQ : Q (some (sR (match zdec x n with | some k => kB V 503 a k | none => none))) V) : cM (d + 1) Fg h0 40 [sR (some a), sI x] V bc bs Q := by
  refine cM_of (ls := [sR (some a), sI x]) rfl (Nat.le_of_ble_eq_true rfl) rfl ?_
  cases hz : zdec x (n) with
  | none =>
    simp only [hz] at hQ
    have fin : ∀ v0 v1, cWP d Fg h0 40 Q 21 [v0, v1] [] V bc bs := fun v0 v1 => bX5_outcomeAt_21 (bX5_outcomeAt_22 hQ)
    by_cases h0 : x < 0
    · exact bX5_outcomeAt_0 (fun _ => fin _ _) (fun z => absurd h0 z)
    · refine bX5_outcomeAt_0 (fun z => absurd z h0) (fun _ => ?_)
      have h1 := (zdec_none hz).resolve_left h0
      exact bX5_outcomeAt_4 hc (fun _ => fin _ _) (fun z => absurd (by rw [hl]; exact h1) z)
  | some i =>
    simp only [hz] at hQ
    have hn : (n) < 2 ^ 31 := by omega
    obtain ⟨il, rfl⟩ := zdec_some hn hz
    refine bX5_outcomeAt_0 (fun z => absurd z (nI_pos (by omega))) (fun _ => ?_)
    refine bX5_outcomeAt_4 hc (fun z => absurd (by rw [hl] at z; exact z) (nI_ge il hn)) (fun _ => ?_)
    refine bX5_outcomeAt_12 hc (vin i rfl (by omega) (by decide)) (bX5_outcomeAt_22 ?_)
    rw [nix i rfl (by omega)]
    exact hQ
theorem c_sourceAt {d : Nat} {Fg : Nat → Prop} {h0 : hp} {V : kV} {bc bs : Nat} {Q : Option sV → kV → Prop} {a : Nat} {x : Int32} (hc : kC V a = 5) (hQ : Q (some (sR (match zdec x 16 with | some k => kB V 400 a k | none => none))) V) : cM (d + 1) Fg h0 32 [sR (some a), sI x] V bc bs Q := by
  refine cM_of (ls := [sR (some a), sI x]) rfl (Nat.le_of_ble_eq_true rfl) rfl ?_
  cases hz : zdec x (16) with
  | none =>
    simp only [hz] at hQ
    have fin : ∀ v0 v1, cWP d Fg h0 32 Q 19 [v0, v1] [] V bc bs := fun v0 v1 => bX4_sourceAt_19 (bX4_sourceAt_20 hQ)
    by_cases h0 : x < 0
    · exact bX4_sourceAt_0 (fun _ => fin _ _) (fun z => absurd h0 z)
    · refine bX4_sourceAt_0 (fun z => absurd z h0) (fun _ => ?_)
      have h1 := (zdec_none hz).resolve_left h0
      exact bX4_sourceAt_4 (fun _ => fin _ _) (fun z => absurd h1 z)
  | some i =>
    simp only [hz] at hQ
    have hn : (16) < 2 ^ 31 := by decide
    obtain ⟨il, rfl⟩ := zdec_some hn hz
    refine bX4_sourceAt_0 (fun z => absurd z (nI_pos (by omega))) (fun _ => ?_)
    refine bX4_sourceAt_4 (fun z => absurd z (nI_ge il hn)) (fun _ => ?_)
    refine bX4_sourceAt_10 hc (vin i rfl (by omega) (by decide)) (bX4_sourceAt_20 ?_)
    rw [nix i rfl (by omega)]
    exact hQ
theorem c_ruleAt0 {d : Nat} {Fg : Nat → Prop} {h0 : hp} {V : kV} {bc bs : Nat} {Q : Option sV → kV → Prop} {a n : Nat} {x : Int32} (hc : kC V a = 5) (hl : kI V 402 a = nI n) (h6 : n ≤ 24) (hQ : Q (some (sR (match zdec x n with | some k => kB V 401 a k | none => none))) V) : cM (d + 1) Fg h0 34 [sR (some a), sI x] V bc bs Q := by
  refine cM_of (ls := [sR (some a), sI x]) rfl (Nat.le_of_ble_eq_true rfl) rfl ?_
  cases hz : zdec x (n) with
  | none =>
    simp only [hz] at hQ
    have fin : ∀ v0 v1, cWP d Fg h0 34 Q 21 [v0, v1] [] V bc bs := fun v0 v1 => bX4_ruleAt_21 (bX4_ruleAt_22 hQ)
    by_cases h0 : x < 0
    · exact bX4_ruleAt_0 (fun _ => fin _ _) (fun z => absurd h0 z)
    · refine bX4_ruleAt_0 (fun z => absurd z h0) (fun _ => ?_)
      have h1 := (zdec_none hz).resolve_left h0
      exact bX4_ruleAt_4 hc (fun _ => fin _ _) (fun z => absurd (by rw [hl]; exact h1) z)
  | some i =>
    simp only [hz] at hQ
    have hn : (n) < 2 ^ 31 := by omega
    obtain ⟨il, rfl⟩ := zdec_some hn hz
    refine bX4_ruleAt_0 (fun z => absurd z (nI_pos (by omega))) (fun _ => ?_)
    refine bX4_ruleAt_4 hc (fun z => absurd (by rw [hl] at z; exact z) (nI_ge il hn)) (fun _ => ?_)
    refine bX4_ruleAt_12 hc (vin i rfl (by omega) (by decide)) (bX4_ruleAt_22 ?_)
    rw [nix i rfl (by omega)]
    exact hQ
theorem c_ruleAt {d : Nat} {Fg : Nat → Prop} {h0 : hp} {V : kV} {bc bs : Nat} {Q : Option sV → kV → Prop} {D : cD} {E : zE} {x : Int32} (h : cSh D E V) (hE : e_n E ≤ 24) (hQ : Q (some (sR (match zdec x (e_n E) with | some k => some (dA D k) | none => none))) V) : cM (d + 1) Fg h0 34 [sR (some (dS D)), sI x] V bc bs Q := by
  refine c_ruleAt0 h.1 h.2.1 hE ?_
  cases hz : zdec x (e_n E) with
  | none => simp only [hz] at hQ; exact hQ
  | some k =>
    simp only [hz] at hQ
    have hk := (zdec_some (by omega) hz).1
    have := h.2.2.2.2 k (by omega)
    rw [if_pos hk] at this
    dsimp only
    rw [this]
    exact hQ
theorem c_isName {d : Nat} {Fg : Nat → Prop} {h0 : hp} {V : kV} {bc bs : Nat} {Q : Option sV → kV → Prop} {x : Int32} (hQ : Q (some (sI (if (zdec x 40).isSome = true then 1 else 0))) V) : cM (d + 1) Fg h0 69 [sI x] V bc bs Q := by
  refine cM_of (ls := [sI x]) rfl (Nat.le_of_ble_eq_true rfl) rfl ?_
  cases hz : zdec x 40 with
  | none =>
    simp only [hz] at hQ
    have fin : ∀ v0, cWP d Fg h0 69 Q 14 [v0] [] V bc bs := fun v0 => bX6_isName_14 (bX6_isName_15 (Or.inl rfl) hQ)
    by_cases h0 : x < 0
    · exact bX6_isName_0 (fun _ => fin _) (fun z => absurd h0 z)
    · refine bX6_isName_0 (fun z => absurd z h0) (fun _ => ?_)
      exact bX6_isName_4 (fun _ => fin _) (fun z => absurd ((zdec_none hz).resolve_left h0) z)
  | some i =>
    simp only [hz] at hQ
    obtain ⟨il, rfl⟩ := zdec_some (by decide) hz
    refine bX6_isName_0 (fun z => absurd z (nI_pos (by omega))) (fun _ => ?_)
    refine bX6_isName_4 (fun z => absurd z (nI_ge il (by decide))) (fun _ => ?_)
    exact bX6_isName_10 (bX6_isName_15 (Or.inr rfl) hQ)
theorem c_isKind {d : Nat} {Fg : Nat → Prop} {h0 : hp} {V : kV} {bc bs : Nat} {Q : Option sV → kV → Prop} {x : Int32} (hQ : Q (some (sI (if x < 1 ∨ 6 < x then 0 else 1))) V) : cM (d + 1) Fg h0 68 [sI x] V bc bs Q := by
  refine cM_of (ls := [sI x]) rfl (Nat.le_of_ble_eq_true rfl) rfl ?_
  refine bX6_isKind_0 (fun z => ?_) (fun z => ?_)
  · rw [if_pos (Or.inl z)] at hQ
    exact bX6_isKind_15 (bX6_isKind_16 (Or.inl rfl) hQ)
  · refine bX6_isKind_5 (fun y => ?_) (fun y => ?_)
    · rw [if_pos (Or.inr y)] at hQ
      exact bX6_isKind_15 (bX6_isKind_16 (Or.inl rfl) hQ)
    · rw [if_neg (fun h => h.elim z y)] at hQ
      exact bX6_isKind_11 (bX6_isKind_16 (Or.inr rfl) hQ)
theorem c_isIn {d : Nat} {Fg : Nat → Prop} {h0 : hp} {V : kV} {bc bs : Nat} {Q : Option sV → kV → Prop} {x y : Int32} (hQ : Q (some (sI (if (x >>> (y &&& 31)) &&& 1 = 0 then 0 else 1))) V) : cM (d + 1) Fg h0 70 [sI x, sI y] V bc bs Q := by
  refine cM_of (ls := [sI x, sI y]) rfl (Nat.le_of_ble_eq_true rfl) rfl ?_
  refine bX6_isIn_0 (fun z => ?_) (fun z => ?_)
  · rw [if_pos z] at hQ
    exact bX6_isIn_12 (bX6_isIn_13 (Or.inl rfl) hQ)
  · rw [if_neg z] at hQ
    exact bX6_isIn_8 (bX6_isIn_13 (Or.inr rfl) hQ)
theorem c_isFailure {d : Nat} {Fg : Nat → Prop} {h0 : hp} {V : kV} {bc bs : Nat} {Q : Option sV → kV → Prop} {a : Nat} {o : zO} (ho : kO V a = some o) (hQ : Q (some (sI (if o.1 = 0 then 0 else 1))) V) : cM (d + 1) Fg h0 3 [sR (some a)] V bc bs Q := by
  refine cM_of (ls := [sR (some a)]) rfl (Nat.le_of_ble_eq_true rfl) rfl ?_
  refine bX1_isFailure_0 ho (fun z => ?_) (fun z => ?_)
  · rw [if_pos z] at hQ
    exact bX1_isFailure_11 (bX1_isFailure_12 (Or.inl rfl) hQ)
  · rw [if_neg z] at hQ
    exact bX1_isFailure_7 (bX1_isFailure_12 (Or.inr rfl) hQ)
theorem c_intAt {d : Nat} {Fg : Nat → Prop} {h0 : hp} {V : kV} {bc bs : Nat} {Q : Option sV → kV → Prop} {a : Nat} {o : zO} {x : Int32} (ho : kO V a = some o) (hl : o.2.2.length ≤ 24) (hQ : Q (some (sI (match zdec x o.2.2.length with | some i => o.2.2.getD i 0 | none => 0))) V) : cM (d + 2) Fg h0 5 [sR (some a), sI x] V bc bs Q := by
  refine cM_of (ls := [sR (some a), sI x]) rfl (Nat.le_of_ble_eq_true rfl) rfl ?_
  refine bX1_intAt_0 (bc1 := 0) (bs1 := 0) (P := fun v V2 => v = some (sI (if (zdec x o.2.2.length).isSome = true then 1 else 0)) ∧ V2 = V) ho (c_hasInt ho hl ⟨rfl, rfl⟩) (Nat.zero_le _) (Nat.zero_le _) ?_
  rintro v V2 ⟨rfl, rfl⟩
  cases hz : zdec x o.2.2.length with
  | none =>
    simp only [hz] at hQ
    exact bX1_intAt_5 (fun _ => bX1_intAt_17 (bX1_intAt_18 hQ)) (fun z => absurd rfl z)
  | some i =>
    simp only [hz] at hQ
    obtain ⟨il, rfl⟩ := zdec_some (by omega) hz
    refine bX1_intAt_5 (fun z => absurd z (by simp)) (fun _ => bX1_intAt_8 ho (vin i rfl il (by omega)) (bX1_intAt_18 ?_))
    rw [nix i rfl (by omega)]
    exact hQ
theorem c_Oinit {d : Nat} {Fg : Nat → Prop} {h0 : hp} {V : kV} {bc bs : Nat} {Q : Option sV → kV → Prop} {y b n : Nat} {g : Nat → Int32} {o : zO} (hy : kC V y = 2) (hb : kW V b = some (n, g)) (hn : n = o.2.2.length) (hg : ∀ j, j < o.2.2.length → g j = o.2.2.getD j 0) (hQ : Q none (uDone V y o b)) : cM (d + 1) Fg h0 2 [sR (some y), sI o.1, sI o.2.1, sR (some b)] V bc bs Q := by
  refine cM_of (ls := [sR (some y), sI o.1, sI o.2.1, sR (some b)]) rfl (Nat.le_of_ble_eq_true rfl) rfl ?_
  have K : cWP d Fg h0 2 (fun r V2 => V2 = uR (uI (uI V 100 y o.1) 101 y o.2.1) 102 y (some b) ∧ r = none) 4 [sR (some y), sI o.1, sI o.2.1, sR (some b)] [] V bc bs := bX1_init_4 hy ⟨rfl, rfl⟩
  refine bX1_init_0 ?_
  intro h R
  refine sWP_mono ?_ (K h R)
  rintro r h2 ⟨V2, R2, rfl, rfl⟩
  refine ⟨_, R2.freeze (y := y) (b := b) (o := o) (p := (n, g)) hy ?_ ?_ ?_ hb hn hg, hQ⟩
  · show (if 100 = 101 ∧ y = y then o.2.1 else if 100 = 100 ∧ y = y then o.1 else kI V 100 y) = o.1
    rw [if_neg (fun z => absurd z.1 (by decide)), if_pos ⟨rfl, rfl⟩]
  · show (if 101 = 101 ∧ y = y then o.2.1 else if 101 = 100 ∧ y = y then o.1 else kI V 101 y) = o.2.1
    rw [if_pos ⟨rfl, rfl⟩]
  · show (if 102 = 102 ∧ y = y then some b else kR V 102 y) = some b
    rw [if_pos ⟨rfl, rfl⟩]
theorem c_failureOf {d : Nat} {Fg : Nat → Prop} {h0 : hp} {V : kV} {bc bs : Nat} {Q : Option sV → kV → Prop} {k n : Int32} (hbc : 2 ≤ bc) (hbs : 3 ≤ bs) (hQ : ∀ a V2, vex [] V V2 → kO V2 a = some (k, n, []) → Q (some (sR (some a))) V2) : cM (d + 2) Fg h0 71 [sI k, sI n] V bc bs Q := by
  refine cM_of (ls := [sI k, sI n]) rfl (Nat.le_of_ble_eq_true rfl) rfl ?_
  refine bX6_failureOf_0 (by omega) (by omega) (fun y hy => ?_)
  refine bX6_failureOf_3 (N := 0) (by decide) (by decide) (by omega) (by omega) (by omega) (fun b hb => ?_)
  refine bX6_failureOf_9 (bc1 := 0) (bs1 := 0) (P := fun v V2 => v = none ∧ V2 = uDone (uW (uN V y 2) b (some (0, fun _ => 0))) y (k, n, []) b) (c_Oinit (o := (k, n, [])) (va_up_self _ _ _) (va_up_self _ _ _) rfl (fun j hj => absurd hj (by simp)) ⟨rfl, rfl⟩) (Nat.zero_le _) (Nat.zero_le _) ?_
  rintro v V2 ⟨rfl, rfl⟩
  obtain ⟨h1, h2⟩ := vex.done (o := (k, n, [])) (b := b) hy (vex.w b (some (0, fun _ => 0)))
  exact bX6_failureOf_12 (hQ _ _ h1 h2)
theorem c_addRead {d : Nat} {Fg : Nat → Prop} {h0 : hp} {V : kV} {bc bs : Nat} {Q : Option sV → kV → Prop} {t nm : Nat} {gs : List zR} {r : Option Nat} {o : zO} (ht : cTr V t gs) (hl : gs.length < 25) (hr : cO V r o) (hQ : ∀ V2, vex [500, 502, 503] V V2 → (∀ u, u ≠ t → ∀ f, kI V2 f u = kI V f u ∧ kR V2 f u = kR V f u ∧ kA V2 f u = kA V f u ∧ kB V2 f u = kB V f u) → cTr V2 t (gs ++ [(nm, o)]) → Q none V2) : cM (d + 1) Fg h0 38 [sR (some t), sI (nI nm), sR r] V bc bs Q := by
  obtain ⟨h1, h2, h3⟩ := ht
  obtain ⟨a, rfl, ha⟩ := hr
  refine cM_of (ls := [sR (some t), sI (nI nm), sR (some a)]) rfl (Nat.le_of_ble_eq_true rfl) rfl ?_
  refine bX5_addRead_0 h1 (fun z => absurd z (by rw [h2]; exact nI_ge hl (by decide))) (fun _ => ?_)
  refine bX5_addRead_9 h1 (vin gs.length h2 hl (by decide)) (fun b hb => by cases hb; exact ⟨o, ha⟩) (bX5_addRead_39 (hQ _ ?_ ?_ ?_))
  · exact ((vex.a 502 t _ _).tr (L := [502, 503]) (vex.b 503 t _ _) (fun f hf z => hf (by rw [List.mem_singleton.mp z]; decide)) (fun f hf z => hf (by rw [List.mem_singleton.mp z]; decide))).tr (vex.i 500 t _) (fun f hf z => hf (by rcases List.mem_cons.mp z with z | z; rw [z]; decide; rw [List.mem_singleton.mp z]; decide)) (fun f hf z => hf (by rw [List.mem_singleton.mp z]; decide))
  · intro u hu f
    exact ⟨if_neg (fun z => hu z.2), rfl, if_neg (fun z => hu z.2), if_neg (fun z => hu z.2)⟩
  · rw [nix gs.length h2 (by omega)]
    refine ⟨h1, ?_, fun i hi => ?_⟩
    · rw [kI_uI, if_pos ⟨rfl, rfl⟩, h2, List.length_append, nI_1]
      rfl
    · rw [List.length_append, List.length_singleton] at hi
      show (if 502 = 502 ∧ t = t then upd (kA V 502 t) gs.length (nI nm) else kA V 502 t) i = _ ∧ cO V ((if 503 = 503 ∧ t = t then va_up (kB V 503 t) gs.length (some a) else kB V 503 t) i) _
      rw [if_pos ⟨rfl, rfl⟩, if_pos ⟨rfl, rfl⟩]
      by_cases e : i = gs.length
      · subst e
        rw [List.getD_eq_getElem?_getD, List.getElem?_append_right (Nat.le_refl _), Nat.sub_self, va_up_self]
        exact ⟨if_pos rfl, a, rfl, ha⟩
      · rw [List.getD_eq_getElem?_getD, List.getElem?_append_left (by omega), ← List.getD_eq_getElem?_getD, va_up_ne _ _ e]
        exact ⟨(if_neg e).trans (h3 i (by omega)).1, (h3 i (by omega)).2⟩
