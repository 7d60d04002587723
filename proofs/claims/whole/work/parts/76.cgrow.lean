/-- an object with its arrays has come -/
def uX (V : kV) (y c : Nat) (rr : Nat → Nat) : kV := (va_up (kC V) y c, (fun g b => if b = y then 0 else kI V g b), (fun g b => if b = y then none else kR V g b), (fun g b => if b = y then rr g else kr V g b), (fun g b => if b = y then (fun _ => 0) else kA V g b), (fun g b => if b = y then (fun _ => none) else kB V g b), V.2.2.2.2.2.2)
theorem CS.grow {Fg : Nat → Prop} {h0 h h2 : hp} {V : kV} (H : CS Fg h0 V h) {y c : Nat} {rr : Nat → Nat} (hy : gk h y = 0) (hc : c + 1 ≤ 7) (hc1 : c ≠ 1) (ho : ∀ a, gk h a ≠ 0 → hsame h h2 a) (h1 : gk h2 y = c + 1) (h2i : ∀ f, gi h2 f y = 0) (h2r : ∀ f, f / 100 = c → cL f = 0 → gr h2 f y = none) (h2a : ∀ f, f / 100 = c → cL f ≠ 0 → gk h (rr f) = 0 ∧ rr f ≠ y ∧ gr h2 f y = some (rr f) ∧ gk h2 (rr f) = cK f ∧ gl h2 (rr f) = cL f ∧ ga h2 (rr f) = (fun _ => 0) ∧ gq h2 (rr f) = (fun _ => none)) (hd : ∀ f g, f / 100 = c → g / 100 = c → cL f ≠ 0 → cL g ≠ 0 → rr f = rr g → f = g) : CS Fg h0 (uX V y (c + 1) rr) h2 := by
  obtain ⟨fy, gy⟩ := H.fresh hy
  have live : ∀ a, kD V a → hsame h h2 a := fun a ha => ho a (H.live ha)
  have hC : ∀ a, a ≠ y → kC (uX V y (c + 1) rr) a = kC V a := fun a ha => va_up_ne _ _ ha
  have hCy : kC (uX V y (c + 1) rr) y = c + 1 := va_up_self _ _ _
  have hkl : ∀ f a, kl (uX V y (c + 1) rr) f a → (a ≠ y ∧ kl V f a ∧ kr (uX V y (c + 1) rr) f a = kr V f a) ∨ (a = y ∧ f / 100 = c ∧ cL f ≠ 0 ∧ kr (uX V y (c + 1) rr) f a = rr f) := fun f a hl => by
    by_cases e : a = y
    · right
      have h1 := hl.1
      rw [e, hCy] at h1
      exact ⟨e, by omega, hl.2, if_pos e⟩
    · left
      exact ⟨e, ⟨by rw [← hC a e]; exact hl.1, hl.2⟩, if_neg e⟩
  obtain ⟨c1, c2, c3, c4, c5, c6, c7, c8⟩ := id H
  have n1 : ∀ a, kC V a ≠ 0 → a ≠ y := fun a ha e => fy (.inl (by rw [← e]; exact ha))
  have fr : ∀ f, f / 100 = c → cL f ≠ 0 → ¬ kD V (rr f) := fun f h1 h2 => (H.fresh (h2a f h1 h2).1).1
  refine ⟨fun a ha => ?_, fun a f ha => ?_, fun a f ha hf => ?_, fun f a hl => ?_, fun f a g b hl hl' he => ?_, fun a o ho => ?_, fun a p hp => ?_, fun a ha => ?_⟩
  · by_cases e : a = y
    · subst e
      rw [h1, hCy]
      exact ⟨rfl, hc⟩
    · rw [hC a e] at ha ⊢
      rw [(live a (.inl ha)).1]
      exact c1 a ha
  · show gi h2 f a = if a = y then 0 else kI V f a
    by_cases e : a = y
    · rw [if_pos e, e]
      exact h2i f
    · rw [hC a e] at ha
      rw [if_neg e, (live a (.inl (by omega))).2.1]
      exact c2 a f ha
  · show gr h2 f a = if a = y then none else kR V f a
    by_cases e : a = y
    · rw [if_pos e]
      rw [e, hCy] at ha
      rw [e]
      exact h2r f (by omega) hf
    · rw [hC a e] at ha
      rw [if_neg e, (live a (.inl (by omega))).2.2.1]
      exact c3 a f ha hf
  · rcases hkl f a hl with ⟨e, hl2, er⟩ | ⟨e, e1, e2, er⟩
    · rw [er]
      show gr h2 f a = some (kr V f a) ∧ gk h2 (kr V f a) = cK f ∧ gl h2 (kr V f a) = cL f ∧ ga h2 (kr V f a) = (if a = y then (fun _ => 0) else kA V f a) ∧ gq h2 (kr V f a) = (if a = y then (fun _ => none) else kB V f a)
      have s1 := live a (.inl (by have := hl2.1; omega))
      have s2 := live (kr V f a) (.inr (.inr (.inr (.inl ⟨f, a, hl2, rfl⟩))))
      rw [if_neg e, if_neg e, s1.2.2.1, s2.1, s2.2.2.2.1, s2.2.2.2.2.1, s2.2.2.2.2.2]
      exact c4 f a hl2
    · rw [er]
      show gr h2 f a = some (rr f) ∧ gk h2 (rr f) = cK f ∧ gl h2 (rr f) = cL f ∧ ga h2 (rr f) = (if a = y then (fun _ => 0) else kA V f a) ∧ gq h2 (rr f) = (if a = y then (fun _ => none) else kB V f a)
      rw [if_pos e, if_pos e, e]
      exact (h2a f e1 e2).2.2
  · rcases hkl f a hl with ⟨e, hl2, er⟩ | ⟨e, e1, e2, er⟩ <;> rcases hkl g b hl' with ⟨e', hl2', er'⟩ | ⟨e', e1', e2', er'⟩
    · rw [er, er'] at he
      exact c5 f a g b hl2 hl2' he
    · rw [er, er'] at he
      exact absurd (.inr (.inr (.inr (.inl ⟨f, a, hl2, he.symm⟩)))) (fr g e1' e2')
    · rw [er, er'] at he
      exact absurd (.inr (.inr (.inr (.inl ⟨g, b, hl2', he⟩)))) (fr f e1 e2)
    · rw [er, er'] at he
      exact ⟨hd f g e1 e1' e2 e2' he, e.trans e'.symm⟩
  · have ho : kO V a = some o := ho
    have ea : a ≠ y := fun e => fy (.inr (.inl ⟨o, by rw [← e]; exact ho⟩))
    obtain ⟨d1, d2, d3, d4, d5, d6, d7, d8, d9, d10⟩ := c6 a o ho
    have s1 := live a (.inr (.inl ⟨o, ho⟩))
    have s2 := live (kw V a) (.inr (.inr (.inr (.inr ⟨a, o, ho, rfl⟩))))
    refine ⟨(hC a ea).trans d1, by rw [s1.1]; exact d2, by rw [s1.2.1]; exact d3, by rw [s1.2.1]; exact d4, by rw [s1.2.2.1]; exact d5, ?_, ?_, fun j hj => ?_, d9, fun f b hl => ?_⟩
    · show gk h2 (kw V a) = 20
      rw [s2.1]; exact d6
    · show gl h2 (kw V a) = _
      rw [s2.2.2.2.1]; exact d7
    · show ga h2 (kw V a) j = _
      rw [s2.2.2.2.2.1]; exact d8 j hj
    · rcases hkl f b hl with ⟨e, hl2, er⟩ | ⟨e, e1, e2, er⟩
      · rw [er]; exact d10 f b hl2
      · rw [er]
        intro z
        exact fr f e1 e2 (.inr (.inr (.inr (.inr ⟨a, o, ho, z.symm⟩))))
  · have hp : kW V a = some p := hp
    obtain ⟨d1, d2, d3, d4⟩ := c7 a p hp
    have s := live a (.inr (.inr (.inl ⟨p, hp⟩)))
    refine ⟨by rw [s.1]; exact d1, by rw [s.2.2.2.1]; exact d2, by rw [s.2.2.2.2.1]; exact d3, fun f b hl => ?_⟩
    rcases hkl f b hl with ⟨e, hl2, er⟩ | ⟨e, e1, e2, er⟩
    · rw [er]; exact d4 f b hl2
    · rw [er]
      intro z
      exact fr f e1 e2 (.inr (.inr (.inl ⟨p, by rw [← z]; exact hp⟩)))
  · obtain ⟨d1, d2, d3⟩ := c8 a ha
    have hne : a ≠ y := fun e => gy (by rw [← e]; exact ha)
    have s := ho a (by rw [d2.1]; exact d1)
    refine ⟨d1, ⟨s.1.trans d2.1, fun f => (s.2.1 f).trans (d2.2.1 f), fun f => (s.2.2.1 f).trans (d2.2.2.1 f), s.2.2.2.1.trans d2.2.2.2.1, s.2.2.2.2.1.trans d2.2.2.2.2.1, s.2.2.2.2.2.trans d2.2.2.2.2.2⟩, fun z => d3 ?_⟩
    rcases z with z | z | z | ⟨f, b, hl, z⟩ | z
    · exact .inl (by rw [← hC a hne]; exact z)
    · exact .inr (.inl z)
    · exact .inr (.inr (.inl z))
    · rcases hkl f b hl with ⟨e, hl2, er⟩ | ⟨e, e1, e2, er⟩
      · exact .inr (.inr (.inr (.inl ⟨f, b, hl2, by rw [← er]; exact z⟩)))
      · rw [er] at z
        have := (h2a f e1 e2).1
        rw [← z] at this
        rw [d2.1] at this
        exact absurd this d1
    · exact .inr (.inr (.inr (.inr z)))
theorem vex.x {V : kV} {y c : Nat} {rr : Nat → Nat} (hy : ¬ kD V y) : vex [] V (uX V y c rr) := by
  have n1 : ∀ a, kC V a ≠ 0 → a ≠ y := fun a ha e => hy (.inl (by rw [← e]; exact ha))
  refine ⟨fun a ha => ⟨va_up_ne _ _ (n1 a ha), fun f => if_neg (n1 a ha)⟩, fun _ _ h => h, fun f a ha _ => ⟨if_neg (n1 a ha), if_neg (n1 a ha), if_neg (n1 a ha), if_neg (n1 a ha)⟩⟩
theorem hsame.rf {h : hp} {a : Nat} : hsame h h a := ⟨rfl, fun _ => rfl, fun _ => rfl, rfl, rfl, rfl⟩
/-- the constructor of a trace -/
theorem c_Tinit {d : Nat} {h : hp} {y : Nat} {Q : Option sV → hp → Prop} (hy : gk h y = 6) (hQ : ∀ b1 b2, gk h b1 = 0 → gk h b2 = 0 → b1 ≠ b2 → Q none (wr (nw (wr (nw h b1 20 25) 502 y (some b1)) b2 22 25) 503 y (some b2))) : sCall (d + 1) 37 [sR (some y)] h 2 50 Q := by
  refine ⟨rfl, (Nat.le_of_ble_eq_true rfl), ?_⟩
  show sWP (sCall d) none 37 Q 0 [sR (some y)] [] h 2 50
  refine w_aload_n mb37 dX5_init_0 1 rfl rfl ?_
  refine w_object (st := []) mb37 dX5_init_1 4 rfl lo5_3 (Nat.le_of_ble_eq_true rfl) ?_
  refine w_aload_n mb37 dX5_init_4 5 rfl rfl ?_
  refine w_bipush mb37 dX5_init_5 7 rfl 25 (by decide) ?_
  refine w_newi mb37 dX5_init_7 9 rfl 25 (by decide) (by decide) (by decide) (by decide) (by decide) (fun b1 hb1 => ?_)
  have y1 : y ≠ b1 := fun e => by rw [e, hb1] at hy; cases hy
  refine w_putr mb37 dX5_init_9 12 rfl 502 lp5_9 (Or.inr ⟨_, rfl⟩) rfl (by rw [gk_nw, if_neg y1]; exact hy) ?_
  refine w_aload_n mb37 dX5_init_12 13 rfl rfl ?_
  refine w_bipush mb37 dX5_init_13 15 rfl 25 (by decide) ?_
  refine w_newq mb37 dX5_init_15 18 rfl 22 25 (by decide) ln5_15 (by decide) (by decide) (by decide) (by decide) (by decide) (fun b2 hb2 => ?_)
  rw [gk_wr, gk_nw] at hb2
  have hb21 : b1 ≠ b2 := fun e => by rw [if_pos e.symm] at hb2; cases hb2
  rw [if_neg hb21.symm] at hb2
  have y2 : y ≠ b2 := fun e => by rw [e, hb2] at hy; cases hy
  refine w_putr mb37 dX5_init_18 21 rfl 503 lp5_17 (Or.inr ⟨_, rfl⟩) rfl (by rw [gk_nw, if_neg y2, gk_wr, gk_nw, if_neg y1]; exact hy) ?_
  refine w_vret mb37 dX5_init_21 rfl ?_
  exact hQ b1 b2 hb1 hb2 hb21
/-- the spare trace is there -/
theorem c_spare_some {d : Nat} {Fg : Nat → Prop} {h0 : hp} {V : kV} {bc bs : Nat} {Q : Option sV → kV → Prop} {a n t : Nat} (hc : kC V a = 4) (hl : kI V 305 a = nI n) (hn : n < 5) (ht : kB V 306 a n = some t) (hQ : Q (some (sR (some t))) V) : cM (d + 1) Fg h0 27 [sR (some a)] V bc bs Q := by
  refine cM_of (ls := [sR (some a), sU]) rfl (Nat.le_of_ble_eq_true rfl) rfl ?_
  refine bX3_spareTrace_0 hc (vin n hl hn (by decide)) (fun _ => ?_) (fun z => ?_)
  · rw [nix n hl (by omega), ht]
    exact bX3_spareTrace_32 hQ
  · rw [nix n hl (by omega), ht] at z
    cases z
/-- the spare trace is there, or comes -/
theorem c_spare {d : Nat} {Fg : Nat → Prop} {h0 : hp} {V : kV} {bc bs : Nat} {Q : Option sV → kV → Prop} {a n : Nat} (hc : kC V a = 4) (hl : kI V 305 a = nI n) (hn : n < 5) (ha : ∀ k t, k < 5 → kB V 306 a k = some t → kC V t = 6) (hbc : 3 ≤ bc) (hbs : 54 ≤ bs) (hQ1 : ∀ t, kB V 306 a n = some t → Q (some (sR (some t))) V) (hQ2 : ∀ t rr, kB V 306 a n = none → ¬ kD V t → Q (some (sR (some t))) (uB (uX V t 6 rr) 306 a n (some t))) : cM (d + 2) Fg h0 27 [sR (some a)] V bc bs Q := by
  refine cM_of (ls := [sR (some a), sU]) rfl (Nat.le_of_ble_eq_true rfl) rfl ?_
  refine bX3_spareTrace_0 hc (vin n hl hn (by decide)) (fun z => ?_) (fun z => ?_)
  · rw [nix n hl (by omega)] at z ⊢
    cases ht : kB V 306 a n with
    | none => exact absurd ht z
    | some t => exact bX3_spareTrace_32 (hQ1 t ht)
  · rw [nix n hl (by omega)] at z ⊢
    intro h R
    refine w_new mb27 dX3_spareTrace_14 17 rfl 6 5 4 rfl ln3_15 rfl (by omega) (by omega) (fun t ht => ?_)
    have R0 := R
    have ft := (R.fresh ht).1
    refine w_dup mb27 dX3_spareTrace_17 18 rfl rfl ?_
    have at1 : a ≠ t := fun e => ft (.inl (by rw [← e, hc]; decide))
    refine w_special (a := t) (st := [sR (some t)]) mb27 dX3_spareTrace_18 21 rfl 37 0 [] _ rfl rfl rfl lc3_58 (Nat.le_of_ble_eq_true rfl) (c_Tinit (Q := fun r h2 => r = none ∧ ∃ rr, CS Fg h0 (uX V t 6 rr) h2) (by rw [gk_nw, if_pos rfl]) (fun b1 b2 hb1 hb2 hne => ⟨rfl, fun f => if f = 502 then b1 else b2, ?_⟩)) (by omega) (by omega) ?_
    · rw [gk_nw] at hb1 hb2
      have e1 : b1 ≠ t := fun e => by rw [if_pos e] at hb1; cases hb1
      have e2 : b2 ≠ t := fun e => by rw [if_pos e] at hb2; cases hb2
      rw [if_neg e1] at hb1
      rw [if_neg e2] at hb2
      refine R.grow (c := 5) ht (by decide) (by decide) (fun x hx => ?_) ?_ (fun f => ?_) (fun f hf hz => ?_) (fun f hf hz => ?_) (fun f g hf hg hzf hzg e => ?_)
      · have x1 : x ≠ t := fun e => hx (by rw [e]; exact ht)
        have x2 : x ≠ b1 := fun e => hx (by rw [e]; exact hb1)
        have x3 : x ≠ b2 := fun e => hx (by rw [e]; exact hb2)
        exact ((((hsame.rf.nw x1).nw x2).wr x1).nw x3).wr x1
      · rw [gk_wr, gk_nw, if_neg (Ne.symm e2), gk_wr, gk_nw, if_neg (Ne.symm e1), gk_nw, if_pos rfl]
      · rw [gi_wr, gi_nw, if_neg (Ne.symm e2), gi_wr, gi_nw, if_neg (Ne.symm e1), gi_nw, if_pos rfl]
      · have h2 : f ≠ 502 := fun e => by rw [e] at hz; cases hz
        have h3 : f ≠ 503 := fun e => by rw [e] at hz; cases hz
        rw [gr_wr, if_neg (fun z => h3 z.1), gr_nw, if_neg (Ne.symm e2), gr_wr, if_neg (fun z => h2 z.1), gr_nw, if_neg (Ne.symm e1), gr_nw, if_pos rfl]
      · have hf2 : f = 502 ∨ f = 503 := by
          unfold cL at hz
          split at hz <;> first | omega | exact absurd rfl hz
        rcases hf2 with rfl | rfl
        · rw [if_pos rfl]
          refine ⟨hb1, e1, ?_, ?_, ?_, ?_, ?_⟩
          · rw [gr_wr, if_neg (fun z => absurd z.1 (by decide)), gr_nw, if_neg (Ne.symm e2), gr_wr, if_pos ⟨rfl, rfl⟩]
          · rw [gk_wr, gk_nw, if_neg hne, gk_wr, gk_nw, if_pos rfl]; rfl
          · rw [gl_wr, gl_nw, if_neg hne, gl_wr, gl_nw, if_pos rfl]; rfl
          · rw [ga_wr, ga_nw, if_neg hne, ga_wr, ga_nw, if_pos rfl]
          · rw [gq_wr, gq_nw, if_neg hne, gq_wr, gq_nw, if_pos rfl]
        · rw [if_neg (by decide)]
          refine ⟨hb2, e2, ?_, ?_, ?_, ?_, ?_⟩
          · rw [gr_wr, if_pos ⟨rfl, rfl⟩]
          · rw [gk_wr, gk_nw, if_pos rfl]; rfl
          · rw [gl_wr, gl_nw, if_pos rfl]; rfl
          · rw [ga_wr, ga_nw, if_pos rfl]
          · rw [gq_wr, gq_nw, if_pos rfl]
      · have hh : ∀ f, f / 100 = 5 → cL f ≠ 0 → f = 502 ∨ f = 503 := fun f hf hz => by
          unfold cL at hz
          split at hz <;> first | omega | exact absurd rfl hz
        rcases hh f hf hzf with rfl | rfl <;> rcases hh g hg hzg with rfl | rfl
        · rfl
        · rw [if_pos rfl, if_neg (by decide)] at e; exact absurd e hne
        · rw [if_neg (by decide), if_pos rfl] at e; exact absurd e.symm hne
        · rfl
    · rintro r h2 ⟨rfl, rr, R2⟩
      have hx := vex.x (V := V) (y := t) (c := 6) (rr := rr) ft
      have ca : kC V a ≠ 0 := by rw [hc]; decide
      have K : cWP (d + 1) Fg h0 27 Q 21 [sR (some a), sR (kB V 306 a n)] [sR (some t)] (uX V t 6 rr) (bc - 1 - 2) (bs - 4 - 50) := by
        have el : kI (uX V t 6 rr) 305 a = nI n := (hx.2.2 305 a ca List.not_mem_nil).1.trans hl
        refine bX3_spareTrace_21 ((hx.1 a ca).1.trans hc) (vin n el hn (by decide)) (fun b hb => by cases hb; exact va_up_self _ _ _) ?_
        rw [nix n el (by omega)]
        exact bX3_spareTrace_32 (hQ2 t rr z ft)
      exact K h2 R2
