/-! the constructors of the class -/
theorem CS.same {Fg : Nat → Prop} {h0 h h2 : hp} {V : kV} (H : CS Fg h0 V h) (hs : ∀ a, kD V a ∨ Fg a → hsame h h2 a) : CS Fg h0 V h2 := by
  obtain ⟨c1, c2, c3, c4, c5, c6, c7, c8⟩ := id H
  refine ⟨fun a ha => ?_, fun a f ha => ?_, fun a f ha hf => ?_, fun f a hl => ?_, c5, fun a o ho => ?_, fun a p hp => ?_, fun a ha => ?_⟩
  · rw [(hs a (.inl (.inl ha))).1]; exact c1 a ha
  · rw [(hs a (.inl (.inl (by omega)))).2.1]; exact c2 a f ha
  · rw [(hs a (.inl (.inl (by omega)))).2.2.1]; exact c3 a f ha hf
  · have e1 := hs a (.inl (.inl (by have := hl.1; omega)))
    have e2 := hs (kr V f a) (.inl (.inr (.inr (.inr (.inl ⟨f, a, hl, rfl⟩)))))
    rw [e1.2.2.1, e2.1, e2.2.2.2.1, e2.2.2.2.2.1, e2.2.2.2.2.2]
    exact c4 f a hl
  · have e1 := hs a (.inl (.inr (.inl ⟨o, ho⟩)))
    have e2 := hs (kw V a) (.inl (.inr (.inr (.inr (.inr ⟨a, o, ho, rfl⟩)))))
    rw [e1.1, e1.2.1, e1.2.1, e1.2.2.1, e2.1, e2.2.2.2.1, e2.2.2.2.2.1]
    exact c6 a o ho
  · have e1 := hs a (.inl (.inr (.inr (.inl ⟨p, hp⟩))))
    rw [e1.1, e1.2.2.2.1, e1.2.2.2.2.1]
    exact c7 a p hp
  · obtain ⟨d1, d2, d3⟩ := c8 a ha
    have s := hs a (.inr ha)
    exact ⟨d1, ⟨s.1.trans d2.1, fun f => (s.2.1 f).trans (d2.2.1 f), fun f => (s.2.2.1 f).trans (d2.2.2.1 f), s.2.2.2.1.trans d2.2.2.2.1, s.2.2.2.2.1.trans d2.2.2.2.2.1, s.2.2.2.2.2.trans d2.2.2.2.2.2⟩, d3⟩
theorem CS.lv {Fg : Nat → Prop} {h0 h : hp} {V : kV} (H : CS Fg h0 V h) {a : Nat} (ha : kD V a ∨ Fg a) : gk h a ≠ 0 := by
  rcases ha with ha | ha
  · exact H.live ha
  · obtain ⟨d1, d2, d3⟩ := H.2.2.2.2.2.2.2 a ha
    rw [d2.1]
    exact d1
theorem CS.addF {Fg : Nat → Prop} {h0 h : hp} {V : kV} (H : CS Fg h0 V h) {y : Nat} (hy : gk h y ≠ 0) (hd : ¬ kD V y) : CS (fun a => Fg a ∨ a = y) h V h := by
  obtain ⟨c1, c2, c3, c4, c5, c6, c7, c8⟩ := id H
  refine ⟨c1, c2, c3, c4, c5, c6, c7, fun a ha => ?_⟩
  rcases ha with ha | rfl
  · exact ⟨H.lv (.inr ha), hsame.rf, (c8 a ha).2.2⟩
  · exact ⟨hy, hsame.rf, hd⟩
theorem hsame.tr {a b c : hp} {x : Nat} (h1 : hsame a b x) (h2 : hsame b c x) : hsame a c x := ⟨h2.1.trans h1.1, fun f => (h2.2.1 f).trans (h1.2.1 f), fun f => (h2.2.2.1 f).trans (h1.2.2.1 f), h2.2.2.2.1.trans h1.2.2.2.1, h2.2.2.2.2.1.trans h1.2.2.2.2.1, h2.2.2.2.2.2.trans h1.2.2.2.2.2⟩
theorem CS.backF {Fg : Nat → Prop} {h0 h h2 : hp} {V V2 : kV} (H : CS Fg h0 V h) {y : Nat} (H2 : CS (fun a => Fg a ∨ a = y) h V2 h2) : CS Fg h0 V2 h2 ∧ hsame h h2 y ∧ ¬ kD V2 y := by
  obtain ⟨c1, c2, c3, c4, c5, c6, c7, c8⟩ := id H2
  obtain ⟨e1, e2, e3⟩ := c8 y (.inr rfl)
  refine ⟨⟨c1, c2, c3, c4, c5, c6, c7, fun a ha => ?_⟩, e2, e3⟩
  obtain ⟨d1, d2, d3⟩ := H.2.2.2.2.2.2.2 a ha
  obtain ⟨f1, f2, f3⟩ := c8 a (.inl ha)
  exact ⟨d1, d2.tr f2, f3⟩
theorem vex.byy {V W : kV} {y : Nat} (h : vex [] V W) (hy : kC V y = 0) (f j : Nat) (x : Option Nat) : vex [] V (uB W f y j x) := ⟨h.1, h.2.1, fun g a ha hg => ⟨(h.2.2 g a ha hg).1, (h.2.2 g a ha hg).2.1, (h.2.2 g a ha hg).2.2.1, (if_neg (fun z => ha (by rw [z.2]; exact hy))).trans (h.2.2 g a ha hg).2.2.2⟩⟩
theorem c_Finit {d : Nat} {Fg : Nat → Prop} {h0 hb : hp} {V : kV} {y : Nat} {Q : Option sV → kV → Prop} (R : CS Fg h0 V hb) (hy : gk hb y = 0) (hQ : ∀ rr, Q none (uX V y 1 rr)) : sCall (d + 1) 0 [sR (some y)] (nw hb y 1 0) 1 5 (fun r h' => ∃ V', CS Fg h0 V' h' ∧ Q r V') := by
  refine ⟨rfl, (Nat.le_of_ble_eq_true rfl), ?_⟩
  show sWP (sCall d) none 0 _ 0 [sR (some y)] [] (nw hb y 1 0) 1 5
  have r0 := cRaw.start (c := 0) hy
  refine w_aload_n mb0 dX0_init_0 1 rfl rfl ?_
  refine w_object (st := []) mb0 dX0_init_1 4 rfl lo0_3 (Nat.le_of_ble_eq_true rfl) ?_
  refine w_aload_n mb0 dX0_init_4 5 rfl rfl ?_
  refine w_iconst mb0 dX0_init_5 6 rfl 5 (by decide) ?_
  refine w_newi mb0 dX0_init_6 8 rfl 5 (by decide) (by decide) (by decide) (by decide) (by decide) (fun b1 hb1 => ?_)
  obtain ⟨r1, g1⟩ := r0.arr (f := 1) (k := 20) (n := 5) rfl rfl rfl hb1
  refine w_putr mb0 dX0_init_8 11 rfl 1 lp0_9 (Or.inr ⟨_, rfl⟩) rfl g1 ?_
  refine w_vret mb0 dX0_init_11 rfl ?_
  have h1 : ∀ f, f / 100 = 0 → cL f ≠ 0 → f = 1 := fun f hf hz => by
    unfold cL at hz
    split at hz <;> first | omega | exact absurd rfl hz
  exact ⟨_, R.raw r1 (by decide) (by decide) (fun f hf hz => ⟨b1, by rw [h1 f hf hz]; rfl⟩) (fun f hf hz => by rw [va_up_ne _ _ (fun e => by rw [e] at hz; cases hz)]), hQ _⟩
/-- what a shelf is when it comes -/
def cSnew (V : kV) (y : Nat) : Prop := kC V y = 5 ∧ kI V 402 y = 0 ∧ (∀ s, s < 16 → cO V (kB V 400 y s) (1, nI s, [])) ∧ (∀ r, r < 24 → cO V (kB V 403 y r) (4, nI (16 + r), [])) ∧ ∀ r, kB V 401 y r = none
theorem c_Sinit {d : Nat} {Fg : Nat → Prop} {h0 hb : hp} {V : kV} {y : Nat} {Q : Option sV → kV → Prop} (R : CS Fg h0 V hb) (hy : gk hb y = 0) (hQ : ∀ V2, vex [] V V2 → cSnew V2 y → Q none V2) : sCall (d + 3) 31 [sR (some y)] (nw hb y 5 0) 83 184 (fun r h' => ∃ V', CS Fg h0 V' h' ∧ Q r V') := by
  refine ⟨rfl, (Nat.le_of_ble_eq_true rfl), ?_⟩
  show sWP (sCall (d + 2)) none 31 _ 0 [sR (some y), sU] [] (nw hb y 5 0) 83 184
  have r0 := cRaw.start (c := 4) hy
  refine w_aload_n mb31 dX4_init_0 1 rfl rfl ?_
  refine w_object (st := []) mb31 dX4_init_1 4 rfl lo4_3 (Nat.le_of_ble_eq_true rfl) ?_
  refine w_aload_n mb31 dX4_init_4 5 rfl rfl ?_
  refine w_bipush mb31 dX4_init_5 7 rfl 16 (by decide) ?_
  refine w_newq mb31 dX4_init_7 10 rfl 22 16 (by decide) ln4_9 (by decide) (by decide) (by decide) (by decide) (by decide) (fun b1 hb1 => ?_)
  obtain ⟨r1, g1⟩ := r0.arr (f := 400) (k := 22) (n := 16) rfl rfl rfl hb1
  refine w_putr mb31 dX4_init_10 13 rfl 400 lp4_11 (Or.inr ⟨_, rfl⟩) rfl g1 ?_
  refine w_aload_n mb31 dX4_init_13 14 rfl rfl ?_
  refine w_bipush mb31 dX4_init_14 16 rfl 24 (by decide) ?_
  refine w_newq mb31 dX4_init_16 19 rfl 23 24 (by decide) ln4_17 (by decide) (by decide) (by decide) (by decide) (by decide) (fun b2 hb2 => ?_)
  obtain ⟨r2, g2⟩ := r1.arr (f := 401) (k := 23) (n := 24) rfl rfl rfl hb2
  refine w_putr mb31 dX4_init_19 22 rfl 401 lp4_19 (Or.inr ⟨_, rfl⟩) rfl g2 ?_
  refine w_aload_n mb31 dX4_init_22 23 rfl rfl ?_
  refine w_bipush mb31 dX4_init_23 25 rfl 24 (by decide) ?_
  refine w_newq mb31 dX4_init_25 28 rfl 22 24 (by decide) ln4_9 (by decide) (by decide) (by decide) (by decide) (by decide) (fun b3 hb3 => ?_)
  obtain ⟨r3, g3⟩ := r2.arr (f := 403) (k := 22) (n := 24) rfl rfl rfl hb3
  refine w_putr mb31 dX4_init_28 31 rfl 403 lp4_23 (Or.inr ⟨_, rfl⟩) rfl g3 ?_
  have fy := (R.fresh hy).1
  have cy : kC V y = 0 := Classical.byContradiction (fun z => fy (.inl z))
  have h4 : ∀ f, f / 100 = 4 → cL f ≠ 0 → f = 400 ∨ f = 401 ∨ f = 403 := fun f hf hz => by
    unfold cL at hz
    split at hz <;> first | omega | exact absurd rfl hz
  have R1 := R.raw r3 (by decide) (by decide) (fun f hf hz => by
    rcases h4 f hf hz with rfl | rfl | rfl
    · exact ⟨b1, rfl⟩
    · exact ⟨b2, rfl⟩
    · exact ⟨b3, rfl⟩) (fun f hf hz => by
    rw [va_up_ne _ _ (fun e => by rw [e] at hz; cases hz), va_up_ne _ _ (fun e => by rw [e] at hz; cases hz), va_up_ne _ _ (fun e => by rw [e] at hz; cases hz)])
  generalize (fun f => (va_up (va_up (va_up (fun _ => none) 400 (some b1)) 401 (some b2)) 403 (some b3) f).getD 0) = rr at R1
  have x1 : vex [] V (uX V y 5 rr) := vex.x fy
  have K : cWP (d + 2) Fg h0 31 Q 31 [sR (some y), sU] [] (uX V y 5 rr) 80 120 := by
    refine bX4_init_31 ?_
    -- the second loop
    have loop2 : ∀ (e i : Nat) (W : kV) (bc bs : Nat), i + e = 24 → vex [] V W → kC W y = 5 → kI W 402 y = 0 → (∀ s, s < 16 → cO W (kB W 400 y s) (1, nI s, [])) → (∀ r, kB W 401 y r = none) → (∀ r, r < i → cO W (kB W 403 y r) (4, nI (16 + r), [])) → 2 * e ≤ bc → 3 * e ≤ bs → cWP (d + 2) Fg h0 31 Q 58 [sR (some y), sI (nI i)] [] W bc bs := by
      intro e
      induction e with
      | zero =>
        intro i W bc bs hi v w1 w2 w3 w4 w5 _ _
        rw [show i = 24 by omega] at w5 ⊢
        exact bX4_init_58 (fun _ => bX4_init_84 (hQ W v ⟨w1, w2, w3, w5, w4⟩)) (fun z => absurd (show nI 24 ≤ nI 24 from nI_le (Nat.le_refl _) (by decide)) z)
      | succ e ih =>
        intro i W bc bs hi v w1 w2 w3 w4 w5 c1 c2
        have w10 : kC W y ≠ 0 := by rw [w1]; decide
        refine bX4_init_58 (fun z => absurd (show nI 24 ≤ nI i from z) (nI_ge (by omega) (by decide))) (fun _ => ?_)
        refine bX4_init_64 (bc1 := 2) (bs1 := 3) (P := fun v V2 => ∃ a, v = some (sR (some a)) ∧ vex [] W V2 ∧ kO V2 a = some (4, nI (16 + i), [])) w1 (by rw [show (16 : Int32) = nI 16 from rfl, nI_add]; exact c_failureOf (Nat.le_refl _) (Nat.le_refl _) (fun a V2 u1 u2 => ⟨a, rfl, u1, u2⟩)) (by omega) (by omega) ?_
        rintro _ V2 ⟨a, rfl, u1, u2⟩
        have w12 : kC V2 y = 5 := (u1.1 y w10).1.trans w1
        rw [← (u1.1 y w10).2 403]
        refine bX4_init_77 (vin i rfl (by omega) (by decide)) (fun b hb => by cases hb; exact ⟨_, u2⟩) w12 ?_
        rw [nix i rfl (by omega), nI_1]
        refine ih (i + 1) _ _ _ (by omega) ((v.tr u1 (fun _ h => h) (fun _ h => h)).byy cy 403 i (some a)) w12 ((u1.2.2 402 y w10 List.not_mem_nil).1.trans w2) (fun s hs => ?_) (fun r => ?_) (fun r hr => ?_) (by omega) (by omega)
        · show cO V2 (kB V2 400 y s) _
          rw [(u1.2.2 400 y w10 List.not_mem_nil).2.2.2]
          exact (w3 s hs).cg u1
        · show kB V2 401 y r = none
          rw [(u1.2.2 401 y w10 List.not_mem_nil).2.2.2]
          exact w4 r
        · show cO V2 ((if 403 = 403 ∧ y = y then va_up (kB V2 403 y) i (some a) else kB V2 403 y) r) _
          rw [if_pos ⟨rfl, rfl⟩]
          by_cases er : r = i
          · rw [er, va_up_self]
            exact ⟨a, rfl, u2⟩
          · rw [va_up_ne _ _ er, (u1.2.2 403 y w10 List.not_mem_nil).2.2.2]
            exact (w5 r (by omega)).cg u1
    have loop1 : ∀ (e i : Nat) (W : kV) (bc bs : Nat), i + e = 16 → vex [] V W → kC W y = 5 → kI W 402 y = 0 → (∀ s, s < i → cO W (kB W 400 y s) (1, nI s, [])) → (∀ r, kB W 401 y r = none) → 2 * e + 48 ≤ bc → 3 * e + 72 ≤ bs → cWP (d + 2) Fg h0 31 Q 33 [sR (some y), sI (nI i)] [] W bc bs := by
      intro e
      induction e with
      | zero =>
        intro i W bc bs hi v w1 w2 w3 w4 c1 c2
        rw [show i = 16 by omega] at w3 ⊢
        refine bX4_init_33 (fun _ => bX4_init_56 ?_) (fun z => absurd (show nI 16 ≤ nI 16 from nI_le (Nat.le_refl _) (by decide)) z)
        exact loop2 24 0 W bc bs (by omega) v w1 w2 w3 w4 (fun r hr => absurd hr (by omega)) (by omega) (by omega)
      | succ e ih =>
        intro i W bc bs hi v w1 w2 w3 w4 c1 c2
        have w10 : kC W y ≠ 0 := by rw [w1]; decide
        refine bX4_init_33 (fun z => absurd (show nI 16 ≤ nI i from z) (nI_ge (by omega) (by decide))) (fun _ => ?_)
        refine bX4_init_39 (bc1 := 2) (bs1 := 3) (P := fun v V2 => ∃ a, v = some (sR (some a)) ∧ vex [] W V2 ∧ kO V2 a = some (1, nI i, [])) w1 (c_failureOf (Nat.le_refl _) (Nat.le_refl _) (fun a V2 u1 u2 => ⟨a, rfl, u1, u2⟩)) (by omega) (by omega) ?_
        rintro _ V2 ⟨a, rfl, u1, u2⟩
        have w12 : kC V2 y = 5 := (u1.1 y w10).1.trans w1
        rw [← (u1.1 y w10).2 400]
        refine bX4_init_49 (vin i rfl (by omega) (by decide)) (fun b hb => by cases hb; exact ⟨_, u2⟩) w12 ?_
        rw [nix i rfl (by omega), nI_1]
        refine ih (i + 1) _ _ _ (by omega) ((v.tr u1 (fun _ h => h) (fun _ h => h)).byy cy 400 i (some a)) w12 ((u1.2.2 402 y w10 List.not_mem_nil).1.trans w2) (fun s hs => ?_) (fun r => ?_) (by omega) (by omega)
        · show cO V2 ((if 400 = 400 ∧ y = y then va_up (kB V2 400 y) i (some a) else kB V2 400 y) s) _
          rw [if_pos ⟨rfl, rfl⟩]
          by_cases er : s = i
          · rw [er, va_up_self]
            exact ⟨a, rfl, u2⟩
          · rw [va_up_ne _ _ er, (u1.2.2 400 y w10 List.not_mem_nil).2.2.2]
            exact (w3 s (by omega)).cg u1
        · show kB V2 401 y r = none
          rw [(u1.2.2 401 y w10 List.not_mem_nil).2.2.2]
          exact w4 r
    exact loop1 16 0 (uX V y 5 rr) 80 120 (by omega) x1 (va_up_self _ _ _) (if_pos rfl) (fun s hs => absurd hs (by omega)) (fun r => by show (if y = y then (fun _ => none) else kB V 401 y) r = none; rw [if_pos rfl]) (by omega) (by omega)
  exact K _ R1
theorem wr_swap {h : hp} {y q k n : Nat} {s t : Option Nat} (hq : q ≠ y) : wr (nw (wr h 200 y s) q k n) 203 y t = wr (wr (nw h q k n) 203 y t) 200 y s := by
  have e : ∀ g b, (if g = 203 ∧ b = y then t else if b = q then none else if g = 200 ∧ b = y then s else h.2.2.1 g b) = (if g = 200 ∧ b = y then s else if g = 203 ∧ b = y then t else if b = q then none else h.2.2.1 g b) := fun g b => by
    by_cases e1 : g = 203 ∧ b = y
    · rw [if_pos e1, if_neg (fun z => by rw [e1.1] at z; exact absurd z.1 (by decide)), if_pos e1]
    · rw [if_neg e1, if_neg e1]
      by_cases e2 : b = q
      · rw [if_pos e2, if_pos e2, if_neg (fun z => hq (e2.symm.trans z.2))]
      · rw [if_neg e2, if_neg e2]
  unfold wr nw
  refine Prod.ext rfl (Prod.ext rfl (Prod.ext ?_ rfl))
  funext g b
  exact e g b
/-- what the rounds are when they come -/
def cOnew (V : kV) (y : Nat) : Prop := kC V y = 3 ∧ (∀ f, kI V f y = 0) ∧ kR V 201 y = none ∧ ∃ z, kR V 200 y = some z ∧ cSnew V z
theorem c_Oinit2 {d : Nat} {Fg : Nat → Prop} {h0 hb : hp} {V : kV} {y : Nat} {Q : Option sV → kV → Prop} (R : CS Fg h0 V hb) (hy : gk hb y = 0) (hQ : ∀ V2, vex [] V V2 → cOnew V2 y → Q none V2) : sCall (d + 4) 8 [sR (some y)] (nw hb y 3 0) 85 212 (fun r h' => ∃ V', CS Fg h0 V' h' ∧ Q r V') := by
  refine ⟨rfl, (Nat.le_of_ble_eq_true rfl), ?_⟩
  show sWP (sCall (d + 3)) none 8 _ 0 [sR (some y)] [] (nw hb y 3 0) 85 212
  obtain ⟨fy, gy⟩ := R.fresh hy
  have cy : kC V y = 0 := Classical.byContradiction (fun z => fy (.inl z))
  have R0 : CS Fg h0 V (nw hb y 3 0) := R.same (fun a ha => hsame.rf.nw (fun e => by rw [e] at ha; exact R.lv ha hy))
  have ky : gk (nw hb y 3 0) y = 3 := by rw [gk_nw, if_pos rfl]
  refine w_aload_n mb8 dX2_init_0 1 rfl rfl ?_
  refine w_object (st := []) mb8 dX2_init_1 4 rfl lo2_3 (Nat.le_of_ble_eq_true rfl) ?_
  refine w_aload_n mb8 dX2_init_4 5 rfl rfl ?_
  refine w_new mb8 dX2_init_5 8 rfl 5 4 4 rfl ln2_9 rfl (by decide) (by decide) (fun z hz => ?_)
  refine w_dup mb8 dX2_init_8 9 rfl rfl ?_
  have RF := R0.addF (by rw [ky]; decide) fy
  refine w_special (a := z) (st := [sR (some z), sR (some y)]) mb8 dX2_init_9 12 rfl 31 0 [] _ rfl rfl rfl lc2_11 (Nat.le_of_ble_eq_true rfl) (c_Sinit (d := d) (Q := fun v V2 => v = none ∧ vex [] V V2 ∧ cSnew V2 z) RF hz (fun V2 w1 w2 => ⟨rfl, w1, w2⟩)) (by decide) (by decide) ?_
  rintro _ h3 ⟨V2, R2, rfl, w1, w2⟩
  obtain ⟨R3, s3, d3⟩ := R0.backF R2
  have g3 : gk h3 y = 3 := s3.1.trans ky
  refine w_putr mb8 dX2_init_12 15 rfl 200 lp2_12 (Or.inl ⟨_, rfl⟩) rfl g3 ?_
  refine w_aload_n mb8 dX2_init_15 16 rfl rfl ?_
  refine w_bipush mb8 dX2_init_16 18 rfl 24 (by decide) ?_
  refine w_newi mb8 dX2_init_18 20 rfl 24 (by decide) (by decide) (by decide) (by decide) (by decide) (fun q hq => ?_)
  have hq : gk h3 q = 0 := hq
  have qy : q ≠ y := fun e => by rw [e, g3] at hq; cases hq
  refine w_putr mb8 dX2_init_20 23 rfl 203 lp2_18 (Or.inr ⟨_, rfl⟩) rfl (by rw [gk_nw, if_neg (Ne.symm qy)]; exact g3) ?_
  refine w_vret mb8 dX2_init_23 rfl ?_
  -- the heap without y
  have hb3 : ∃ hb3 : hp, gk hb3 y = 0 ∧ ∀ a, a ≠ y → hsame hb3 h3 a := by
    refine ⟨((fun a => if a = y then 0 else gk h3 a), h3.2), if_pos rfl, fun a ha => ⟨?_, fun _ => rfl, fun _ => rfl, rfl, rfl, rfl⟩⟩
    show gk h3 a = if a = y then 0 else gk h3 a
    rw [if_neg ha]
  obtain ⟨hb3, k1, k2⟩ := hb3
  have ya : ∀ a, kD V2 a ∨ Fg a → a ≠ y := fun a ha e => by
    rw [e] at ha
    rcases ha with ha | ha
    · exact d3 ha
    · exact gy ha
  have Rb : CS Fg h0 V2 hb3 := R3.same (fun a ha => by
    obtain ⟨q1, q2, q3, q4, q5, q6⟩ := k2 a (ya a ha)
    exact ⟨q1.symm, fun f => (q2 f).symm, fun f => (q3 f).symm, q4.symm, q5.symm, q6.symm⟩)
  have r0 : cRaw hb3 h3 y 2 (fun _ => none) := by
    refine ⟨k1, g3, fun a ha => k2 a (fun e => ha (by rw [e]; exact k1)), fun f => ?_, fun f => ?_, (fun f b h => by cases h), (fun f g b h => by cases h)⟩
    · rw [s3.2.1 f, gi_nw, if_pos rfl]
    · rw [s3.2.2.1 f, gr_nw, if_pos rfl]
  obtain ⟨r1, -⟩ := r0.arr (f := 203) (k := 20) (n := 24) rfl rfl rfl hq
  have h2 : ∀ f, f / 100 = 2 → cL f ≠ 0 → f = 203 := fun f hf hz => by
    unfold cL at hz
    split at hz <;> first | omega | exact absurd rfl hz
  have R4 := Rb.raw r1 (by decide) (by decide) (fun f hf hz => ⟨q, by rw [h2 f hf hz]; rfl⟩) (fun f hf hz => by rw [va_up_ne _ _ (fun e => by rw [e] at hz; cases hz)])
  generalize (fun f => (va_up (fun _ => none) 203 (some q) f).getD 0) = rr at R4
  have cy2 : kC (uX V2 y 3 rr) y = 3 := va_up_self _ _ _
  have R5 := R4.sr (f := 200) (a := y) cy2 rfl (some z)
  rw [← wr_swap qy] at R5
  have x2 : vex [] V (uX V2 y 3 rr) := w1.tr (vex.x d3) (fun _ h => h) (fun _ h => h)
  refine ⟨_, R5, hQ _ (x2.ry cy 200 (some z)) ⟨cy2, fun f => if_pos rfl, ?_, z, ?_, ?_⟩⟩
  · show (if 201 = 200 ∧ y = y then some z else if y = y then none else kR V2 201 y) = none
    rw [if_neg (fun q => absurd q.1 (by decide)), if_pos rfl]
  · rw [kR_uR, if_pos ⟨rfl, rfl⟩]
  · obtain ⟨a1, a2, a3, a4, a5⟩ := w2
    have vz : vex [200] V2 (uR (uX V2 y 3 rr) 200 y (some z)) := (vex.x (c := 3) (rr := rr) d3).tr (vex.r 200 y (some z)) (fun _ h => List.not_mem_nil) (fun _ h => h)
    have cz : kC V2 z ≠ 0 := by rw [a1]; decide
    refine ⟨(vz.1 z cz).1.trans a1, (vz.2.2 402 z cz (by decide)).1.trans a2, fun s hs => ?_, fun r hr => ?_, fun r => ?_⟩
    · rw [(vz.2.2 400 z cz (by decide)).2.2.2]; exact (a3 s hs).cg vz
    · rw [(vz.2.2 403 z cz (by decide)).2.2.2]; exact (a4 r hr).cg vz
    · rw [(vz.2.2 401 z cz (by decide)).2.2.2]; exact a5 r
/-- the document's state at the beginning -/
def zA0 : zB := ((fun _ => none, 0, fun _ => 0, fun _ => false, fun _ => [], false), (fun _ => [], fun _ => none, fun _ => none, [], [], 0, fun _ _ => -1), 0, none, 0, 0, fun _ => 0)
theorem zBok_0 : zBok zA0 := by
  refine ⟨⟨by decide, fun s l h => (by cases h), fun r => Nat.zero_le _, fun r nm h => (by cases h)⟩, fun r => ⟨Nat.zero_le _, fun t h => (by cases h)⟩, fun _ => rfl, fun _ => rfl, rfl, ⟨by decide, fun x h => (by cases h)⟩, fun r _ => ⟨rfl, rfl, fun _ => rfl⟩, fun p h => (by cases h)⟩
theorem c_Xinit {d : Nat} {Fg : Nat → Prop} {h0 h : hp} {V : kV} {x : Nat} {rr : Nat → Nat} {Q : Option sV → kV → Prop} (hx : ¬ kD V x) (R : CS Fg h0 (uX V x 7 rr) h) (hQ : ∀ V2 D, dX D = x → cRs D zA0 V2 → Q none V2) : sCall (d + 5) 44 [sR (some x)] h 88 229 (fun r h' => ∃ V', CS Fg h0 V' h' ∧ Q r V') := by
  refine ⟨rfl, (Nat.le_of_ble_eq_true rfl), ?_⟩
  show sWP (sCall (d + 4)) none 44 _ 0 [sR (some x)] [] h 88 229
  have c7 : kC (uX V x 7 rr) x = 7 := va_up_self _ _ _
  generalize uX V x 7 rr = V0 at *
  have c70 : kC V0 x ≠ 0 := by rw [c7]; decide
  refine w_aload_n mb44 dX6_init_0 1 rfl rfl ?_
  refine w_object (st := []) mb44 dX6_init_1 4 rfl lo6_3 (Nat.le_of_ble_eq_true rfl) ?_
  refine w_aload_n mb44 dX6_init_4 5 rfl rfl ?_
  refine w_new mb44 dX6_init_5 8 rfl 1 0 2 rfl ln6_9 rfl (by decide) (by decide) (fun f hf => ?_)
  have ff := (R.fresh hf).1
  refine w_dup mb44 dX6_init_8 9 rfl rfl ?_
  refine w_special (a := f) (st := [sR (some f), sR (some x)]) mb44 dX6_init_9 12 rfl 0 0 [] _ rfl rfl rfl lc6_11 (Nat.le_of_ble_eq_true rfl) (c_Finit (d := d + 3) (Q := fun v V2 => v = none ∧ ∃ rr, V2 = uX V0 f 1 rr) R hf (fun rr => ⟨rfl, rr, rfl⟩)) (by decide) (by decide) ?_
  rintro _ h1 ⟨V1, R1, rfl, rr1, rfl⟩
  have v1 := vex.x (V := V0) (y := f) (c := 1) (rr := rr1) ff
  have c71 : kC (uX V0 f 1 rr1) x = 7 := (v1.1 x c70).1.trans c7
  refine y_putr mb44 dX6_init_12 15 rfl R1 600 lp6_12 (Or.inl ⟨_, rfl⟩) rfl rfl rfl c71 (fun h2 R2 => ?_)
  refine w_aload_n mb44 dX6_init_15 16 rfl rfl ?_
  refine w_new mb44 dX6_init_16 19 rfl 3 2 10 rfl ln6_16 rfl (by decide) (by decide) (fun o ho => ?_)
  refine w_dup mb44 dX6_init_19 20 rfl rfl ?_
  refine w_special (a := o) (st := [sR (some o), sR (some x)]) mb44 dX6_init_20 23 rfl 8 0 [] _ rfl rfl rfl lc6_18 (Nat.le_of_ble_eq_true rfl) (c_Oinit2 (d := d) (Q := fun v V2 => v = none ∧ vex [] (uR (uX V0 f 1 rr1) 600 x (some f)) V2 ∧ cOnew V2 o) R2 ho (fun V2 w1 w2 => ⟨rfl, w1, w2⟩)) (by decide) (by decide) ?_
  rintro _ h3 ⟨V3, R3, rfl, w1, w2⟩
  obtain ⟨o1, o2, o3, z, o4, o5⟩ := w2
  have c71' : kC (uR (uX V0 f 1 rr1) 600 x (some f)) x ≠ 0 := by rw [show kC (uR (uX V0 f 1 rr1) 600 x (some f)) x = 7 from c71]; decide
  have c73 : kC V3 x = 7 := (w1.1 x c71').1.trans c71
  refine y_putr mb44 dX6_init_23 26 rfl R3 601 lp6_19 (Or.inl ⟨_, rfl⟩) rfl rfl rfl c73 (fun h4 R4 => ?_)
  refine w_aload_n mb44 dX6_init_26 27 rfl rfl ?_
  refine w_aload_n mb44 dX6_init_27 28 rfl rfl ?_
  refine y_getr mb44 dX6_init_28 31 rfl R4 601 lf6_19 rfl rfl rfl rfl c73 (r := some o) (by rw [kR_uR, if_pos ⟨rfl, rfl⟩]) ?_
  refine y_getr mb44 dX6_init_31 34 rfl R4 200 lf6_23 rfl rfl rfl rfl o1 (r := some z) o4 ?_
  refine y_putr mb44 dX6_init_34 37 rfl R4 602 lp6_27 (Or.inl ⟨_, rfl⟩) rfl rfl rfl c73 (fun h5 R5 => ?_)
  refine w_vret mb44 dX6_init_37 rfl ⟨_, R5, hQ _ (x, f, o, z, fun _ => 0, none, 0, 0, 0, fun _ => 0) rfl ?_⟩
  have cf1 : kC (uX V0 f 1 rr1) f = 1 := va_up_self _ _ _
  have cf2 : kC (uR (uX V0 f 1 rr1) 600 x (some f)) f ≠ 0 := by rw [show kC (uR (uX V0 f 1 rr1) 600 x (some f)) f = 1 from cf1]; decide
  have v5 : vex [601, 602] V3 (uR (uR V3 601 x (some o)) 602 x (some z)) := (vex.r 601 x (some o)).tr (vex.r 602 x (some z)) (vexm (by decide)) (vexm (by decide))
  have cf3 : kC V3 f = 1 := (w1.1 f cf2).1.trans cf1
  have fI : ∀ g, kI V3 g f = 0 := fun g => by
    rw [(w1.2.2 g f cf2 List.not_mem_nil).1]
    show (if f = f then 0 else kI V0 g f) = 0
    rw [if_pos rfl]
  have fA : ∀ g j, kA V3 g f j = 0 := fun g j => by
    rw [(w1.2.2 g f cf2 List.not_mem_nil).2.2.1]
    show (if f = f then (fun _ => 0) else kA V0 g f) j = 0
    rw [if_pos rfl]
  obtain ⟨s1, s2, s3, s4, s5⟩ := o5
  refine ⟨⟨c73, cf3, o1, ?_, ?_, ?_⟩, ⟨s1, s2, s3, s4, fun r hr => ?_⟩, ⟨o4, ⟨o2 204, fun j hj => absurd hj (by show ¬ j < 0; omega)⟩, o2 205, ?_, o2 209, o2 206⟩, ⟨o3, ?_⟩, fun r hr => absurd hr (by show ¬ r < 0; omega), fun r r' k k' t hr => absurd hr (by show ¬ r < 0; omega), ⟨fI 0, fun k _ => fA 1 k⟩, fun r hr => absurd hr (by show ¬ r < 0; omega)⟩
  · show (if 600 = 602 ∧ x = x then some z else if 600 = 601 ∧ x = x then some o else kR V3 600 x) = some f
    rw [if_neg (fun q => absurd q.1 (by decide)), if_neg (fun q => absurd q.1 (by decide)), (w1.2.2 600 x c71' List.not_mem_nil).2.1, kR_uR, if_pos ⟨rfl, rfl⟩]
  · show (if 601 = 602 ∧ x = x then some z else if 601 = 601 ∧ x = x then some o else kR V3 601 x) = some o
    rw [if_neg (fun q => absurd q.1 (by decide)), if_pos ⟨rfl, rfl⟩]
  · rw [kR_uR, if_pos ⟨rfl, rfl⟩]
  · show kB V3 401 z r = if r < 0 then _ else none
    rw [if_neg (by omega)]
    exact s5 r
  · show kI V3 207 o = 0 + nI 0
    rw [o2 207]
    rfl
  · intro k hk
    show (kI V3 202 o >>> (nI k &&& 31)) &&& 1 = 0 ↔ k ∉ []
    rw [o2 202, b_one (by omega), b_0]
    simp
