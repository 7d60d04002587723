/-- an object that is being made, over the heap hb; ar: its arrays -/
def cRaw (hb h : hp) (y c : Nat) (ar : Nat → Option Nat) : Prop := gk hb y = 0 ∧ gk h y = c + 1 ∧ (∀ a, gk hb a ≠ 0 → hsame hb h a) ∧ (∀ f, gi h f y = 0) ∧ (∀ f, gr h f y = ar f) ∧ (∀ f b, ar f = some b → gk hb b = 0 ∧ b ≠ y ∧ gk h b = cK f ∧ gl h b = cL f ∧ ga h b = (fun _ => 0) ∧ gq h b = fun _ => none) ∧ ∀ f g b, ar f = some b → ar g = some b → f = g
theorem cRaw.start {hb : hp} {y c : Nat} (hy : gk hb y = 0) : cRaw hb (nw hb y (c + 1) 0) y c (fun _ => none) := by
  refine ⟨hy, by rw [gk_nw, if_pos rfl], fun a ha => hsame.rf.nw (fun e => ha (by rw [e]; exact hy)), fun f => by rw [gi_nw, if_pos rfl], fun f => by rw [gr_nw, if_pos rfl], (fun f b h => by cases h), (fun f g b h => by cases h)⟩
theorem cRaw.arr {hb h : hp} {y c q f k n : Nat} {ar : Nat → Option Nat} (H : cRaw hb h y c ar) (hf : ar f = none) (hk : cK f = k) (hn : cL f = n) (hq : gk h q = 0) : cRaw hb (wr (nw h q k n) f y (some q)) y c (va_up ar f (some q)) ∧ gk (nw h q k n) y = c + 1 := by
  subst hk hn
  obtain ⟨h1, h2, h3, h4, h5, h6, h7⟩ := H
  have qy : y ≠ q := fun e => by rw [e, hq] at h2; omega
  have k20 := cK_ge f
  have qn : ∀ g b, ar g = some b → b ≠ q := fun g b hb e => by
    have := (h6 g b hb).2.2.1
    rw [e, hq] at this
    have := cK_ge g
    omega
  have qb : gk hb q = 0 := Classical.byContradiction (fun z => by
    have := (h3 q z).1
    rw [hq] at this
    exact z this.symm)
  refine ⟨⟨h1, by rw [gk_wr, gk_nw, if_neg qy]; exact h2, fun a ha => ?_, fun g => ?_, fun g => ?_, fun g b hb => ?_, fun g g' b hb hb' => ?_⟩, by rw [gk_nw, if_neg qy]; exact h2⟩
  · exact ((h3 a ha).nw (fun e => ha (by rw [e]; exact qb))).wr (fun e => ha (by rw [e]; exact h1))
  · rw [gi_wr, gi_nw, if_neg qy]
    exact h4 g
  · rw [gr_wr, gr_nw, if_neg qy, h5 g]
    unfold va_up
    by_cases e : g = f
    · rw [if_pos ⟨e, rfl⟩, if_pos e]
    · rw [if_neg (fun z => e z.1), if_neg e]
  · by_cases e : g = f
    · subst e
      rw [va_up_self] at hb
      cases hb
      exact ⟨qb, Ne.symm qy, by rw [gk_wr, gk_nw, if_pos rfl], by rw [gl_wr, gl_nw, if_pos rfl], by rw [ga_wr, ga_nw, if_pos rfl], by rw [gq_wr, gq_nw, if_pos rfl]⟩
    · rw [va_up_ne _ _ e] at hb
      have ne := qn g b hb
      obtain ⟨a1, a2, a3, a4, a5, a6⟩ := h6 g b hb
      exact ⟨a1, a2, by rw [gk_wr, gk_nw, if_neg ne]; exact a3, by rw [gl_wr, gl_nw, if_neg ne]; exact a4, by rw [ga_wr, ga_nw, if_neg ne]; exact a5, by rw [gq_wr, gq_nw, if_neg ne]; exact a6⟩
  · by_cases e : g = f <;> by_cases e' : g' = f
    · exact e.trans e'.symm
    · rw [e, va_up_self] at hb
      cases hb
      rw [va_up_ne _ _ e'] at hb'
      exact absurd rfl (qn g' _ hb')
    · rw [e', va_up_self] at hb'
      cases hb'
      rw [va_up_ne _ _ e] at hb
      exact absurd rfl (qn g _ hb)
    · rw [va_up_ne _ _ e] at hb
      rw [va_up_ne _ _ e'] at hb'
      exact h7 g g' b hb hb'
theorem CS.raw {Fg : Nat → Prop} {h0 hb h : hp} {V : kV} {y c : Nat} {ar : Nat → Option Nat} (R : CS Fg h0 V hb) (H : cRaw hb h y c ar) (hc : c + 1 ≤ 7) (hc1 : c ≠ 1) (ha : ∀ f, f / 100 = c → cL f ≠ 0 → ∃ b, ar f = some b) (hn : ∀ f, f / 100 = c → cL f = 0 → ar f = none) : CS Fg h0 (uX V y (c + 1) (fun f => (ar f).getD 0)) h := by
  obtain ⟨h1, h2, h3, h4, h5, h6, h7⟩ := H
  refine R.grow h1 hc hc1 h3 h2 h4 (fun f hf hz => (h5 f).trans (hn f hf hz)) (fun f hf hz => ?_) (fun f g hf hg hzf hzg e => ?_)
  · obtain ⟨b, hb⟩ := ha f hf hz
    obtain ⟨a1, a2, a3, a4, a5, a6⟩ := h6 f b hb
    rw [hb]
    exact ⟨a1, a2, (h5 f).trans hb, a3, a4, a5, a6⟩
  · obtain ⟨b, hb⟩ := ha f hf hzf
    obtain ⟨b', hb'⟩ := ha g hg hzg
    rw [hb, hb'] at e
    have e : b = b' := e
    subst e
    exact h7 f g b hb hb'
theorem cL_3 {f : Nat} (hf : f / 100 = 3) (hz : cL f ≠ 0) : f = 303 ∨ f = 306 ∨ f = 307 := by
  unfold cL at hz
  split at hz <;> first | omega | exact absurd rfl hz
theorem vex.iy {V W : kV} {y : Nat} (h : vex [] V W) (hy : kC V y = 0) (f : Nat) (x : Int32) : vex [] V (uI W f y x) := ⟨h.1, h.2.1, fun g a ha hg => ⟨(if_neg (fun z => ha (by rw [z.2]; exact hy))).trans (h.2.2 g a ha hg).1, (h.2.2 g a ha hg).2⟩⟩
theorem vex.ry {V W : kV} {y : Nat} (h : vex [] V W) (hy : kC V y = 0) (f : Nat) (x : Option Nat) : vex [] V (uR W f y x) := ⟨h.1, h.2.1, fun g a ha hg => ⟨(h.2.2 g a ha hg).1, (if_neg (fun z => ha (by rw [z.2]; exact hy))).trans (h.2.2 g a ha hg).2.1, (h.2.2 g a ha hg).2.2⟩⟩
/-- what a rule is when it comes -/
def cRnew (V : kV) (y : Nat) (n k t : Int32) : Prop := kC V y = 4 ∧ kI V 300 y = n ∧ kI V 301 y = k ∧ kI V 302 y = t ∧ kI V 304 y = 0 ∧ kI V 305 y = 0 ∧ kI V 311 y = 0 ∧ cO V (kR V 312 y) (2, n, []) ∧ cO V (kR V 313 y) (3, n, []) ∧ (∀ j, j < 4 → kA V 307 y j = -1) ∧ ∀ j, kB V 306 y j = none
theorem c_Rinit {d : Nat} {Fg : Nat → Prop} {h0 hb : hp} {V : kV} {y : Nat} {n k t : Int32} {bc bs : Nat} {Q : Option sV → kV → Prop} (R : CS Fg h0 V hb) (hy : gk hb y = 0) (ht : t = 0 ∨ t = 1) (hbc : 7 ≤ bc) (hbs : 21 ≤ bs) (hQ : ∀ V2, vex [307] V V2 → (∀ u, kC V u ≠ 0 → kA V2 307 u = kA V 307 u) → cRnew V2 y n k t → Q none V2) : sCall (d + 3) 23 [sR (some y), sI n, sI k, sI t] (nw hb y 4 0) bc bs (fun r h' => ∃ V', CS Fg h0 V' h' ∧ Q r V') := by
  refine ⟨rfl, (Nat.le_of_ble_eq_true rfl), ?_⟩
  show sWP (sCall (d + 2)) none 23 _ 0 [sR (some y), sI n, sI k, sI t] [] (nw hb y 4 0) bc bs
  have r0 := cRaw.start (c := 3) hy
  refine w_aload_n mb23 dX3_init_0 1 rfl rfl ?_
  refine w_object (st := []) mb23 dX3_init_1 4 rfl lo3_3 (Nat.le_of_ble_eq_true rfl) ?_
  refine w_aload_n mb23 dX3_init_4 5 rfl rfl ?_
  refine w_bipush mb23 dX3_init_5 7 rfl 6 (by decide) ?_
  refine w_newi mb23 dX3_init_7 9 rfl 6 (by decide) (by decide) (by decide) (by omega) (by omega) (fun b1 hb1 => ?_)
  obtain ⟨r1, g1⟩ := r0.arr (f := 303) (k := 20) (n := 6) rfl rfl rfl hb1
  refine w_putr mb23 dX3_init_9 12 rfl 303 lp3_9 (Or.inr ⟨_, rfl⟩) rfl g1 ?_
  refine w_aload_n mb23 dX3_init_12 13 rfl rfl ?_
  refine w_iconst mb23 dX3_init_13 14 rfl 5 (by decide) ?_
  refine w_newq mb23 dX3_init_14 17 rfl 24 5 (by decide) ln3_15 (by decide) (by decide) (by decide) (by omega) (by omega) (fun b2 hb2 => ?_)
  obtain ⟨r2, g2⟩ := r1.arr (f := 306) (k := 24) (n := 5) rfl rfl rfl hb2
  refine w_putr mb23 dX3_init_17 20 rfl 306 lp3_17 (Or.inr ⟨_, rfl⟩) rfl g2 ?_
  refine w_aload_n mb23 dX3_init_20 21 rfl rfl ?_
  refine w_iconst mb23 dX3_init_21 22 rfl 4 (by decide) ?_
  refine w_newi mb23 dX3_init_22 24 rfl 4 (by decide) (by decide) (by decide) (by omega) (by omega) (fun b3 hb3 => ?_)
  obtain ⟨r3, g3⟩ := r2.arr (f := 307) (k := 20) (n := 4) rfl rfl rfl hb3
  refine w_putr mb23 dX3_init_24 27 rfl 307 lp3_21 (Or.inr ⟨_, rfl⟩) rfl g3 ?_
  have fy := (R.fresh hy).1
  have cy : kC V y = 0 := Classical.byContradiction (fun z => fy (.inl z))
  have R1 := R.raw r3 (by decide) (by decide) (fun f hf hz => by
    rcases cL_3 hf hz with rfl | rfl | rfl
    · exact ⟨b1, rfl⟩
    · exact ⟨b2, rfl⟩
    · exact ⟨b3, rfl⟩) (fun f hf hz => by
    rw [va_up_ne _ _ (fun e => by rw [e] at hz; cases hz), va_up_ne _ _ (fun e => by rw [e] at hz; cases hz), va_up_ne _ _ (fun e => by rw [e] at hz; cases hz)])
  generalize (fun f => (va_up (va_up (va_up (fun _ => none) 303 (some b1)) 306 (some b2)) 307 (some b3) f).getD 0) = rr at R1
  have x1 : vex [] V (uX V y 4 rr) := vex.x fy
  have K : cWP (d + 2) Fg h0 23 Q 27 [sR (some y), sI n, sI k, sI t] [] (uX V y 4 rr) (bc - 1 - 1 - 1) (bs - 6 - 5 - 4) := by
    have c4 : kC (uX V y 4 rr) y = 4 := va_up_self _ _ _
    have x2 : vex [] V (uI (uI (uI (uX V y 4 rr) 300 y n) 301 y k) 302 y t) := ((x1.iy cy 300 n).iy cy 301 k).iy cy 302 t
    refine bX3_init_27 (bc1 := 2) (bs1 := 3) (P := fun v V2 => ∃ a, v = some (sR (some a)) ∧ vex [] (uI (uI (uI (uX V y 4 rr) 300 y n) 301 y k) 302 y t) V2 ∧ kO V2 a = some (2, n, [])) c4 ht (c_failureOf (Nat.le_refl _) (Nat.le_refl _) (fun a V2 u1 u2 => ⟨a, rfl, u1, u2⟩)) (by omega) (by omega) ?_
    rintro _ V2 ⟨a, rfl, u1, u2⟩
    generalize hV1 : uI (uI (uI (uX V y 4 rr) 300 y n) 301 y k) 302 y t = V1 at *
    have c41 : kC V1 y = 4 := by rw [← hV1]; exact c4
    have c410 : kC V1 y ≠ 0 := by rw [c41]; decide
    have c42 : kC V2 y = 4 := (u1.1 y c410).1.trans c41
    have x3 : vex [] V (uR V2 312 y (some a)) := (x2.tr u1 (fun _ h => h) (fun _ h => h)).ry cy 312 (some a)
    refine bX3_init_48 (bc1 := 2) (bs1 := 3) (P := fun v V3 => ∃ b, v = some (sR (some b)) ∧ vex [] (uR V2 312 y (some a)) V3 ∧ kO V3 b = some (3, n, [])) c42 (c_failureOf (Nat.le_refl _) (Nat.le_refl _) (fun a V2 u1 u2 => ⟨a, rfl, u1, u2⟩)) (by omega) (by omega) ?_
    rintro _ V3 ⟨b, rfl, w1, w2⟩
    have c420 : kC (uR V2 312 y (some a)) y ≠ 0 := by rw [show kC (uR V2 312 y (some a)) y = 4 from c42]; decide
    have c43 : kC V3 y = 4 := (w1.1 y c420).1.trans c42
    have x4 : vex [] V (uR V3 313 y (some b)) := (x3.tr w1 (fun _ h => h) (fun _ h => h)).ry cy 313 (some b)
    refine bX3_init_57 (bc1 := 0) (bs1 := 0) (P := fun v V4 => v = none ∧ vex [307] (uR V3 313 y (some b)) V4 ∧ (∀ u, u ≠ y → kA V4 307 u = kA V3 307 u) ∧ ∀ j, j < 4 → kA V4 307 y j = -1) c43 c43 (cM_le (by omega) (c_fill (d := 0) (V := uR V3 313 y (some b)) c43 (fun V4 z1 z2 z3 => ⟨rfl, z1, z2, z3⟩))) (Nat.zero_le _) (Nat.zero_le _) ?_
    rintro _ V4 ⟨rfl, z1, z2, z3⟩
    have c430 : kC (uR V3 313 y (some b)) y ≠ 0 := by rw [show kC (uR V3 313 y (some b)) y = 4 from c43]; decide
    have c44 : kC V4 y = 4 := (z1.1 y c430).1.trans c43
    -- fields of y, back to V1
    have fi : ∀ f, f ≠ 307 → kI V4 f y = kI V1 f y := fun f hf => ((z1.2.2 f y c430 (by simp [hf])).1.trans (w1.2.2 f y c420 List.not_mem_nil).1).trans (u1.2.2 f y c410 List.not_mem_nil).1
    have k1 : ∀ f, kI V1 f y = if f = 302 then t else if f = 301 then k else if f = 300 then n else 0 := fun f => by
      rw [← hV1]
      show (if f = 302 ∧ y = y then t else if f = 301 ∧ y = y then k else if f = 300 ∧ y = y then n else if y = y then 0 else kI V f y) = _
      simp only [and_true, if_true]
    have r313 : kR V4 313 y = some b := by
      rw [(z1.2.2 313 y c430 (by decide)).2.1, kR_uR, if_pos ⟨rfl, rfl⟩]
    have r312 : kR V4 312 y = some a := by
      rw [(z1.2.2 312 y c430 (by decide)).2.1]
      show kR V3 312 y = some a
      rw [(w1.2.2 312 y c420 List.not_mem_nil).2.1, kR_uR, if_pos ⟨rfl, rfl⟩]
    have b306 : ∀ j, kB V4 306 y j = none := fun j => by
      rw [(z1.2.2 306 y c430 (by decide)).2.2.2]
      show kB V3 306 y j = none
      rw [(w1.2.2 306 y c420 List.not_mem_nil).2.2.2]
      show kB V2 306 y j = none
      rw [(u1.2.2 306 y c410 List.not_mem_nil).2.2.2, ← hV1]
      show (if y = y then (fun _ => none) else kB V 306 y) j = none
      rw [if_pos rfl]
    refine bX3_init_68 (hQ V4 (x4.tr z1 (fun _ h => List.not_mem_nil) (fun _ h => h)) (fun u hu => ?_) ⟨c44, ?_, ?_, ?_, ?_, ?_, ?_, ?_, ?_, z3, b306⟩)
    · rw [z2 u (fun e => hu (by rw [e]; exact cy))]
      exact (x4.2.2 307 u hu List.not_mem_nil).2.2.1
    · rw [fi 300 (by decide), k1]; rfl
    · rw [fi 301 (by decide), k1]; rfl
    · rw [fi 302 (by decide), k1]; rfl
    · rw [fi 304 (by decide), k1]; rfl
    · rw [fi 305 (by decide), k1]; rfl
    · rw [fi 311 (by decide), k1]; rfl
    · exact ⟨a, r312, z1.2.1 _ _ (w1.2.1 _ _ u2)⟩
    · exact ⟨b, r313, z1.2.1 _ _ w2⟩
  exact K _ R1
