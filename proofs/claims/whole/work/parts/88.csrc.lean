theorem zdec_of {x : Int32} {n : Nat} (hn : n < 2 ^ 31) (h0 : 0 ≤ x.toInt) (h1 : x.toInt < n) : ∃ k, zdec x n = some k ∧ x.toInt = k ∧ x = nI k ∧ k < n := by
  cases hz : zdec x n with
  | none =>
    rcases zdec_none hz with h | h
    · have := Int32.lt_iff_toInt_lt.mp h
      have e : (0 : Int32).toInt = 0 := rfl
      omega
    · have := Int32.le_iff_toInt_le.mp h
      rw [nI_toInt hn] at this
      omega
  | some k =>
    obtain ⟨h2, rfl⟩ := zdec_some hn hz
    exact ⟨k, rfl, nI_toInt (by omega), rfl, h2⟩
theorem nI_sub {a b : Nat} (h : b ≤ a) : nI a - nI b = nI (a - b) := by
  have : nI a = nI (a - b) + nI b := by rw [nI_add]; congr 1; omega
  rw [this, Int32.add_sub_cancel]
theorem i_neg (x : Int32) : x < 0 ↔ x.toInt < 0 := Int32.lt_iff_toInt_lt
theorem c_hasStretch {d : Nat} {Fg : Nat → Prop} {h0 : hp} {V : kV} {bc bs : Nat} {Q : Option sV → kV → Prop} {a : Nat} {o : zO} {f n : Int32} (ho : kO V a = some o) (hl : o.2.2.length ≤ 24) (hQ : Q (some (sI (if 0 ≤ f.toInt ∧ 0 ≤ n.toInt ∧ f.toInt + n.toInt ≤ o.2.2.length then 1 else 0))) V) : cM (d + 1) Fg h0 6 [sR (some a), sI f, sI n] V bc bs Q := by
  refine cM_of (ls := [sR (some a), sI f, sI n]) rfl (Nat.le_of_ble_eq_true rfl) rfl ?_
  have no : ¬ (0 ≤ f.toInt ∧ 0 ≤ n.toInt ∧ f.toInt + n.toInt ≤ o.2.2.length) → ∀ v0 v1 v2, cWP d Fg h0 6 Q 32 [v0, v1, v2] [] V bc bs := fun h v0 v1 v2 => by
    rw [if_neg h] at hQ
    exact bX1_hasStretch_32 (bX1_hasStretch_33 (Or.inl rfl) hQ)
  refine bX1_hasStretch_0 (fun z => no (fun h => by rw [i_neg] at z; omega) _ _ _) (fun z1 => ?_)
  refine bX1_hasStretch_4 (fun z => no (fun h => by rw [i_neg] at z; omega) _ _ _) (fun z2 => ?_)
  rw [i_neg] at z1 z2
  refine bX1_hasStretch_8 ho (fun z => no (fun h => ?_) _ _ _) (fun z3 => ?_)
  · rw [Int32.lt_iff_toInt_lt, nI_toInt (by omega)] at z
    omega
  · rw [Int32.lt_iff_toInt_lt, nI_toInt (by omega)] at z3
    obtain ⟨k, -, k1, rfl, k2⟩ := zdec_of (x := f) (n := o.2.2.length + 1) (by omega) (by omega) (by omega)
    refine bX1_hasStretch_17 ho (fun z => no (fun h => ?_) _ _ _) (fun z4 => ?_)
    · rw [nI_sub (by omega), Int32.lt_iff_toInt_lt, nI_toInt (by omega)] at z
      omega
    · rw [nI_sub (by omega), Int32.lt_iff_toInt_lt, nI_toInt (by omega)] at z4
      rw [if_pos (by omega)] at hQ
      exact bX1_hasStretch_28 (bX1_hasStretch_33 (Or.inr rfl) hQ)
section
variable {D : cD} {A : zB}
theorem c_addk {d : Nat} {Fg : Nat → Prop} {h0 : hp} {V : kV} (h : cRs D A V) (k : Nat) (hk : k < 5) (hd : 1 ≤ d) : cM d Fg h0 1 [sR (some (dF D)), sI (nI k)] V 0 0 (fun v V2 => ∃ D2, v = some (sI (b_find A k).1) ∧ dX D2 = dX D ∧ cRs D2 (b_find A k).2 V2) := cM_le hd (c_add (d := 0) k rfl hk h (fun V2 D2 e h2 => ⟨D2, rfl, e, h2⟩))
theorem c_srcn {d : Nat} {Fg : Nat → Prop} {h0 : hp} {V : kV} {s : Int32} (h : cRs D A V) (hz : zdec s 16 = none) (hd : 1 ≤ d) : cM d Fg h0 32 [sR (some (dS D)), sI s] V 0 0 (fun v W => v = some (sR none) ∧ W = V) := cM_le hd (c_src (d := 0) h (fun _ => ⟨rfl, rfl⟩) (fun s' a e _ => by rw [hz] at e; cases e))
theorem c_srcs {d : Nat} {Fg : Nat → Prop} {h0 : hp} {V : kV} {s : Int32} {s' : Nat} (h : cRs D A V) (hz : zdec s 16 = some s') (hd : 1 ≤ d) : cM d Fg h0 32 [sR (some (dS D)), sI s] V 0 0 (fun v W => (∃ a, v = some (sR (some a)) ∧ kO V a = some (zsrc (b_e A) s')) ∧ W = V) := cM_le hd (c_src (d := 0) h (fun e => by rw [hz] at e; cases e) (fun s2 a e ha => by rw [hz] at e; cases e; exact ⟨⟨a, rfl, ha⟩, rfl⟩))
theorem c_fails {d : Nat} {Fg : Nat → Prop} {h0 : hp} {V : kV} {s a : Nat} (ha : kO V a = some (zsrc (b_e A) s)) (hd : 1 ≤ d) : cM d Fg h0 3 [sR (some a)] V 0 0 (fun v V2 => v = some (sI (if (e_s (b_e A) s).isSome = true then 0 else 1)) ∧ V2 = V) := cM_le hd (c_isFailure (d := 0) ha ⟨by
  unfold zsrc
  cases e_s (b_e A) s with
  | none => rfl
  | some l => rfl, rfl⟩)
theorem c_set {d : Nat} {Fg : Nat → Prop} {h0 : hp} {V : kV} {bc bs : Nat} {Q : Option sV → kV → Prop} {s i v : Int32} (hA : zBok A) (h : cRs D A V) (hbc : 300 ≤ bc) (hbs : 3000 ≤ bs) (hQ : cQ D (o_set A s i v) Q) : cM (d + 9) Fg h0 46 [sR (some (dX D)), sI s, sI i, sI v] V bc bs Q := by
  obtain ⟨x7, -, -, x0, x1, x2⟩ := h.1
  refine cM_of (ls := [sR (some (dX D)), sI s, sI i, sI v, sU, sU]) rfl (Nat.le_of_ble_eq_true rfl) rfl ?_
  unfold o_set at hQ
  cases hz : zdec s 16 with
  | none =>
    simp only [hz] at hQ
    refine bX6_set_0 (bc1 := 0) (bs1 := 0) x2 x7 h.2.1.1 (c_srcn h hz (by omega)) (Nat.zero_le _) (Nat.zero_le _) ?_
    rintro _ W ⟨rfl, rfl⟩
    refine bX6_set_8 (fun z => absurd rfl z) (fun _ => ?_)
    refine bX6_set_15 (bc1 := 0) (bs1 := 0) x0 x7 h.1.2.1 (c_addk h 2 (by decide) (by omega)) (Nat.zero_le _) (Nat.zero_le _) ?_
    rintro _ V2 ⟨D2, rfl, e, h2⟩
    exact bX6_set_23 (hQ _ D2 e h2)
  | some s' =>
    simp only [hz] at hQ
    have s16 := (zdec_some (by decide) hz).1
    have hs := (zdec_some (by decide) hz).2
    refine bX6_set_0 (bc1 := 0) (bs1 := 0) x2 x7 h.2.1.1 (c_srcs h hz (by omega)) (Nat.zero_le _) (Nat.zero_le _) ?_
    rintro _ W ⟨⟨a, rfl, ha⟩, rfl⟩
    refine bX6_set_8 (fun _ => ?_) (fun z => by cases z)
    refine bX6_set_24 (bc1 := 0) (bs1 := 0) ha (c_fails ha (by omega)) (Nat.zero_le _) (Nat.zero_le _) ?_
    rintro _ V2 ⟨rfl, rfl⟩
    cases hl : e_s (b_e A) s' with
    | none =>
      simp only [hl] at hQ
      refine bX6_set_29 (fun z => by cases z) (fun _ => ?_)
      refine bX6_set_32 (bc1 := 0) (bs1 := 0) x0 x7 h.1.2.1 (c_addk h 1 (by decide) (by omega)) (Nat.zero_le _) (Nat.zero_le _) ?_
      rintro _ V2 ⟨D2, rfl, e, h2⟩
      exact bX6_set_40 (hQ _ D2 e h2)
    | some l =>
      simp only [hl] at hQ
      have l16 := hA.1.2.1 s' l hl
      rw [(zsrc_fail _ _).2 l hl] at ha
      refine bX6_set_29 (fun _ => ?_) (fun z => absurd rfl z)
      refine bX6_set_41 (bc1 := 0) (bs1 := 0) (P := fun v W => v = some (sI (if (zdec i l.length).isSome = true then 1 else 0)) ∧ W = V2) ha (cM_le (by omega) (c_hasInt (d := 0) ha (by show l.length ≤ 24; omega) ⟨rfl, rfl⟩)) (Nat.zero_le _) (Nat.zero_le _) ?_
      rintro _ V3 ⟨rfl, rfl⟩
      cases hi : zdec i l.length with
      | none =>
        simp only [hi] at hQ
        refine bX6_set_47 (fun z => absurd rfl z) (fun _ => ?_)
        refine bX6_set_50 (bc1 := 0) (bs1 := 0) x0 x7 h.1.2.1 (c_addk h 2 (by decide) (by omega)) (Nat.zero_le _) (Nat.zero_le _) ?_
        rintro _ V2 ⟨D2, rfl, e, h2⟩
        exact bX6_set_58 (hQ _ D2 e h2)
      | some i' =>
        simp only [hi] at hQ
        obtain ⟨il, rfl⟩ := zdec_some (by omega) hi
        refine bX6_set_47 (fun _ => ?_) (fun z => by cases z)
        refine bX6_set_59 ha (by omega) (by show l.length ≤ _; omega) (fun y g hy hg => ?_)
        refine bX6_set_67 (bc1 := 1) (bs1 := 3) (P := fun v0 V2 => v0 = none ∧ cRs D (b_src A s' (some (l.set i' v))) V2) (n_z0 := l.length) (g_z0 := g) (va_up_self _ _ _) (vin i' rfl il (by omega)) x2 x7 h.2.1.1 ?_ (by omega) (by show 3 ≤ bs - 0 - 0 - 0 - l.length; omega) ?_
        · rw [hs, nix i' rfl (by omega)]
          refine cM_le (by omega) (c_putRow (d := 0) (l := l.set i' v) ((h.le (vex.w y _)).le (vex.w y _)) s16 (va_up_self _ _ _) (by rw [List.length_set]) (fun j hj => ?_) (Nat.le_refl _) (Nat.le_refl _) (fun V2 h2 => ⟨rfl, h2⟩))
          rw [List.length_set] at hj
          unfold upd
          rw [List.getD_eq_getElem?_getD]
          by_cases e : j = i'
          · rw [if_pos e, e, List.getElem?_set_self il]; rfl
          · rw [if_neg e, List.getElem?_set_ne (fun z => e z.symm), ← List.getD_eq_getElem?_getD]
            exact hg j hj
        rintro _ V4 ⟨rfl, h4⟩
        exact bX6_set_87 (hQ _ D rfl h4)
theorem c_miss {d : Nat} {Fg : Nat → Prop} {h0 : hp} {V : kV} {bc bs : Nat} {Q : Option sV → kV → Prop} {s : Int32} (h : cRs D A V) (hbc : 300 ≤ bc) (hbs : 3000 ≤ bs) (hQ : cQ D (o_miss A s) Q) : cM (d + 9) Fg h0 47 [sR (some (dX D)), sI s] V bc bs Q := by
  obtain ⟨x7, -, -, x0, x1, x2⟩ := h.1
  refine cM_of (ls := [sR (some (dX D)), sI s, sU]) rfl (Nat.le_of_ble_eq_true rfl) rfl ?_
  unfold o_miss at hQ
  cases hz : zdec s 16 with
  | none =>
    simp only [hz] at hQ
    refine bX6_miss_0 (bc1 := 0) (bs1 := 0) x2 x7 h.2.1.1 (c_srcn h hz (by omega)) (Nat.zero_le _) (Nat.zero_le _) ?_
    rintro _ W ⟨rfl, rfl⟩
    exact bX6_miss_8 (fun z => absurd rfl z) (fun _ => bX6_miss_13 (hQ _ D rfl h))
  | some s' =>
    simp only [hz] at hQ
    obtain ⟨s16, rfl⟩ := zdec_some (by decide) hz
    refine bX6_miss_0 (bc1 := 0) (bs1 := 0) x2 x7 h.2.1.1 (c_srcs h hz (by omega)) (Nat.zero_le _) (Nat.zero_le _) ?_
    rintro _ W ⟨⟨a, rfl, ha⟩, rfl⟩
    refine bX6_miss_8 (fun _ => ?_) (fun z => by cases z)
    refine bX6_miss_15 (bc1 := 0) (bs1 := 0) ha (c_fails ha (by omega)) (Nat.zero_le _) (Nat.zero_le _) ?_
    rintro _ V2 ⟨rfl, rfl⟩
    cases hl : e_s (b_e A) s' with
    | none =>
      simp only [hl] at hQ
      exact bX6_miss_19 (fun z => by cases z) (fun _ => bX6_miss_22 (hQ _ D rfl h))
    | some l =>
      simp only [hl] at hQ
      have c50 : kC V2 (dS D) ≠ 0 := by rw [h.2.1.1]; decide
      refine bX6_miss_19 (fun _ => ?_) (fun z => absurd rfl z)
      refine bX6_miss_24 (bc1 := 2) (bs1 := 3) (P := fun v V3 => ∃ b, v = some (sR (some b)) ∧ vex [] V2 V3 ∧ kO V3 b = some (1, nI s', [])) x2 x7 h.2.1.1 (cM_le (by omega) (c_failureOf (d := 0) (Nat.le_refl _) (Nat.le_refl _) (fun b V3 u1 u2 => ⟨b, rfl, u1, u2⟩))) (by omega) (by omega) ?_
      rintro _ V3 ⟨b, rfl, u1, u2⟩
      rw [← (u1.1 _ c50).2 400]
      refine bX6_miss_37 (vin s' rfl s16 (by decide)) (fun x hx => by cases hx; exact ⟨_, u2⟩) ((u1.1 _ c50).1.trans h.2.1.1) ?_
      rw [nix s' rfl (by omega)]
      exact hQ _ D rfl ((h.le u1).src (o := none) s16 u2)
theorem c_copy {d : Nat} {Fg : Nat → Prop} {h0 : hp} {V : kV} {bc bs : Nat} {Q : Option sV → kV → Prop} {s a t b n : Int32} (hA : zBok A) (h : cRs D A V) (hbc : 300 ≤ bc) (hbs : 3000 ≤ bs) (hQ : cQ D (o_copy A s a t b n) Q) : cM (d + 9) Fg h0 48 [sR (some (dX D)), sI s, sI a, sI t, sI b, sI n] V bc bs Q := by
  obtain ⟨x7, -, -, x0, x1, x2⟩ := h.1
  refine cM_of (ls := [sR (some (dX D)), sI s, sI a, sI t, sI b, sI n, sU, sU, sU]) rfl (Nat.le_of_ble_eq_true rfl) rfl ?_
  unfold o_copy at hQ
  -- the second source
  have second : ∀ (r6 : Option Nat), (zdec t 16 = none → cQ D (-1, A) Q) → (r6 = none → cQ D (-1, A) Q) → (∀ t' a7, r6 ≠ none → zdec t 16 = some t' → kO V a7 = some (zsrc (b_e A) t') → cWP (d + 8) Fg h0 48 Q 32 [sR (some (dX D)), sI s, sI a, sI t, sI b, sI n, sR r6, sR (some a7), sU] [] V bc bs) → cWP (d + 8) Fg h0 48 Q 8 [sR (some (dX D)), sI s, sI a, sI t, sI b, sI n, sU, sU, sU] [sR r6] V bc bs := by
    intro r6 q1 q2 q3
    cases ht : zdec t 16 with
    | none =>
      refine bX6_copy_8 (bc1 := 0) (bs1 := 0) x2 x7 h.2.1.1 (c_srcn h ht (by omega)) (Nat.zero_le _) (Nat.zero_le _) ?_
      rintro _ W ⟨rfl, rfl⟩
      exact bX6_copy_18 (fun _ => bX6_copy_30 (q1 ht _ D rfl h)) (fun _ => bX6_copy_25 (fun z => absurd rfl z) (fun _ => bX6_copy_30 (q1 ht _ D rfl h)))
    | some t' =>
      refine bX6_copy_8 (bc1 := 0) (bs1 := 0) x2 x7 h.2.1.1 (c_srcs h ht (by omega)) (Nat.zero_le _) (Nat.zero_le _) ?_
      rintro _ W ⟨⟨a7, rfl, ha⟩, rfl⟩
      exact bX6_copy_18 (fun z => bX6_copy_30 (q2 z _ D rfl h)) (fun z => bX6_copy_25 (fun _ => q3 t' a7 z ht ha) (fun z => by cases z))
  cases hs : zdec s 16 with
  | none =>
    simp only [hs] at hQ
    refine bX6_copy_0 (bc1 := 0) (bs1 := 0) x2 x7 h.2.1.1 (c_srcn h hs (by omega)) (Nat.zero_le _) (Nat.zero_le _) ?_
    rintro _ W ⟨rfl, rfl⟩
    exact second none (fun _ => hQ) (fun _ => hQ) (fun t' a7 z => absurd rfl z)
  | some s' =>
    simp only [hs] at hQ
    refine bX6_copy_0 (bc1 := 0) (bs1 := 0) x2 x7 h.2.1.1 (c_srcs h hs (by omega)) (Nat.zero_le _) (Nat.zero_le _) ?_
    rintro _ W ⟨⟨a6, rfl, ha6⟩, rfl⟩
    refine second (some a6) (fun ht => by simp only [ht] at hQ; exact hQ) (fun z => by cases z) (fun t' a7 _ ht ha7 => ?_)
    simp only [ht] at hQ
    have t16 := (zdec_some (by decide) ht).1
    have htn := (zdec_some (by decide) ht).2
    have bad : ∀ (v6 v7 v8 : sV), cQ D (b_find A 1) Q → cWP (d + 8) Fg h0 48 Q 48 [sR (some (dX D)), sI s, sI a, sI t, sI b, sI n, v6, v7, v8] [] W bc bs := fun v6 v7 v8 q => by
      refine bX6_copy_48 (bc1 := 0) (bs1 := 0) x0 x7 h.1.2.1 (c_addk h 1 (by decide) (by omega)) (Nat.zero_le _) (Nat.zero_le _) ?_
      rintro _ V2 ⟨D2, rfl, e, h2⟩
      exact bX6_copy_56 (q _ D2 e h2)
    have bad4 : ∀ (v6 v7 v8 : sV), cQ D (b_find A 4) Q → cWP (d + 8) Fg h0 48 Q 80 [sR (some (dX D)), sI s, sI a, sI t, sI b, sI n, v6, v7, v8] [] W bc bs := fun v6 v7 v8 q => by
      refine bX6_copy_80 (bc1 := 0) (bs1 := 0) x0 x7 h.1.2.1 (c_addk h 4 (by decide) (by omega)) (Nat.zero_le _) (Nat.zero_le _) ?_
      rintro _ V2 ⟨D2, rfl, e, h2⟩
      exact bX6_copy_88 (q _ D2 e h2)
    refine bX6_copy_32 (bc1 := 0) (bs1 := 0) ha6 (c_fails ha6 (by omega)) (Nat.zero_le _) (Nat.zero_le _) ?_
    rintro _ V2 ⟨rfl, rfl⟩
    cases hl : e_s (b_e A) s' with
    | none =>
      simp only [hl] at hQ
      exact bX6_copy_37 (fun _ => bad _ _ _ hQ) (fun z => by cases z)
    | some l =>
      simp only [hl] at hQ
      refine bX6_copy_37 (fun z => absurd rfl z) (fun _ => ?_)
      refine bX6_copy_40 (bc1 := 0) (bs1 := 0) ha7 (c_fails ha7 (by omega)) (Nat.zero_le _) (Nat.zero_le _) ?_
      rintro _ V3 ⟨rfl, rfl⟩
      cases hl2 : e_s (b_e A) t' with
      | none =>
        simp only [hl2] at hQ
        exact bX6_copy_45 (fun z => by cases z) (fun _ => bad _ _ _ hQ)
      | some l2 =>
        simp only [hl2] at hQ
        have l16 := hA.1.2.1 s' l hl
        have l216 := hA.1.2.1 t' l2 hl2
        rw [(zsrc_fail _ _).2 l hl] at ha6
        rw [(zsrc_fail _ _).2 l2 hl2] at ha7
        refine bX6_copy_45 (fun _ => ?_) (fun z => absurd rfl z)
        have no : ¬ ((0 ≤ a.toInt ∧ 0 ≤ n.toInt ∧ a.toInt + n.toInt ≤ l.length) ∧ (0 ≤ b.toInt ∧ 0 ≤ n.toInt ∧ b.toInt + n.toInt ≤ l2.length)) → cQ D (b_find A 4) Q := fun hno => by
          cases q1 : zdec a (l.length + 1) with
          | none => simp only [q1] at hQ; exact hQ
          | some a' =>
            cases q2 : zdec b (l2.length + 1) with
            | none => simp only [q1, q2] at hQ; exact hQ
            | some b' =>
              cases q3 : zdec n 17 with
              | none => simp only [q1, q2, q3] at hQ; exact hQ
              | some n' =>
                simp only [q1, q2, q3] at hQ
                obtain ⟨e1, rfl⟩ := zdec_some (by omega) q1
                obtain ⟨e2, rfl⟩ := zdec_some (by omega) q2
                obtain ⟨e3, rfl⟩ := zdec_some (by decide) q3
                rw [if_neg (fun z => hno ?_)] at hQ
                · exact hQ
                · rw [nI_toInt (by omega), nI_toInt (by omega), nI_toInt (by omega)]
                  omega
        refine bX6_copy_57 (bc1 := 0) (bs1 := 0) (P := fun v W => v = some (sI (if 0 ≤ a.toInt ∧ 0 ≤ n.toInt ∧ a.toInt + n.toInt ≤ l.length then 1 else 0)) ∧ W = V3) ha6 (cM_le (by omega) (c_hasStretch (d := 0) ha6 (by show l.length ≤ 24; omega) ⟨rfl, rfl⟩)) (Nat.zero_le _) (Nat.zero_le _) ?_
        rintro _ V4 ⟨rfl, rfl⟩
        by_cases p1 : 0 ≤ a.toInt ∧ 0 ≤ n.toInt ∧ a.toInt + n.toInt ≤ l.length
        · rw [if_pos p1]
          refine bX6_copy_65 (fun z => by cases z) (fun _ => ?_)
          refine bX6_copy_68 (bc1 := 0) (bs1 := 0) (P := fun v W => v = some (sI (if 0 ≤ b.toInt ∧ 0 ≤ n.toInt ∧ b.toInt + n.toInt ≤ l2.length then 1 else 0)) ∧ W = V4) ha7 (cM_le (by omega) (c_hasStretch (d := 0) ha7 (by show l2.length ≤ 24; omega) ⟨rfl, rfl⟩)) (Nat.zero_le _) (Nat.zero_le _) ?_
          rintro _ V5 ⟨rfl, rfl⟩
          by_cases p2 : 0 ≤ b.toInt ∧ 0 ≤ n.toInt ∧ b.toInt + n.toInt ≤ l2.length
          · rw [if_pos p2]
            refine bX6_copy_77 (fun _ => ?_) (fun z => by cases z)
            obtain ⟨a', z1, -, rfl, ya⟩ := zdec_of (x := a) (n := l.length + 1) (by omega) (by omega) (by omega)
            obtain ⟨b', z2, -, rfl, yb⟩ := zdec_of (x := b) (n := l2.length + 1) (by omega) (by omega) (by omega)
            obtain ⟨n', z3, -, rfl, yn⟩ := zdec_of (x := n) (n := 17) (by omega) (by omega) (by omega)
            rw [nI_toInt (by omega), nI_toInt (by omega)] at p1 p2
            simp only [z1, z2, z3] at hQ
            rw [if_pos (by omega)] at hQ
            refine bX6_copy_89 ha7 (by omega) (by show l2.length ≤ _; omega) (fun y g hy hg => ?_)
            refine bX6_copy_97 (o_a6 := (0, 0, l)) (n_z0 := l2.length) (g_z0 := g) (va_up_self _ _ _) ha6 (nI_pos (by omega)) (nI_pos (by omega)) (nI_pos (by omega)) (by rw [nI_clamp (by omega), nI_clamp (by omega)]; show a' + n' ≤ l.length; omega) (by rw [nI_clamp (by omega), nI_clamp (by omega)]; omega) (fun f hf => ?_)
            rw [nI_clamp (show a' < 2 ^ 31 by omega), nI_clamp (show b' < 2 ^ 31 by omega), nI_clamp (show n' < 2 ^ 31 by omega)]
            show cWP (d + 8) Fg h0 48 Q 117 _ [] (uW (uW V5 y (some (l2.length, g))) y (some (l2.length, va_cpy f g a' b' n'))) _ _
            rw [uWW]
            refine bX6_copy_117 (bc1 := 1) (bs1 := 3) (P := fun v V2 => v = none ∧ cRs D (b_src A t' (some (l2.take b' ++ (l.drop a').take n' ++ l2.drop (b' + n')))) V2) x2 x7 h.2.1.1 ?_ (by omega) (by show 3 ≤ bs - 0 - 0 - 0 - 0 - 0 - 0 - l2.length; omega) ?_
            · rw [htn]
              refine cM_le (by omega) (c_putRow (d := 0) (l := l2.take b' ++ (l.drop a').take n' ++ l2.drop (b' + n')) (h.le (vex.w y _)) t16 (va_up_self _ _ _) (by rw [zput_len (by omega) (by omega)]) (fun j hj => ?_) (Nat.le_refl _) (Nat.le_refl _) (fun V2 h2 => ⟨rfl, h2⟩))
              rw [zput_len (by omega) (by omega)] at hj
              rw [zput_getD (by omega) (by omega)]
              by_cases e : b' ≤ j ∧ j < b' + n'
              · rw [if_pos e, pk_cpy_in e.1 e.2]
                exact hf _ (by show a' + (j - b') < l.length; omega)
              · rw [if_neg e, pk_cpy_out (by omega)]
                exact hg j hj
            rintro _ V6 ⟨rfl, h6⟩
            exact bX6_copy_127 (hQ _ D rfl h6)
          · rw [if_neg p2]
            exact bX6_copy_77 (fun z => absurd rfl z) (fun _ => bad4 _ _ _ (no (fun q => p2 q.2)))
        · rw [if_neg p1]
          exact bX6_copy_65 (fun _ => bad4 _ _ _ (no (fun q => p1 q.1))) (fun z => absurd rfl z)
end
