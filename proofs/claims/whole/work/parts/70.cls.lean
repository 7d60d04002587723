/-! THE CLASS's state: objects by class (kC), their ints (kI), references (kR), arrays (kr where, kA ints, kB references), outcomes that never change (kO, kw their rows), rows under way (kW) -/
abbrev kV : Type := (Nat → Nat) × (Nat → Nat → Int32) × (Nat → Nat → Option Nat) × (Nat → Nat → Nat) × (Nat → Nat → Nat → Int32) × (Nat → Nat → Nat → Option Nat) × (Nat → Option zO) × (Nat → Nat) × (Nat → Option (Nat × (Nat → Int32)))
abbrev kC (V : kV) : Nat → Nat := V.1
abbrev kI (V : kV) : Nat → Nat → Int32 := V.2.1
abbrev kR (V : kV) : Nat → Nat → Option Nat := V.2.2.1
abbrev kr (V : kV) : Nat → Nat → Nat := V.2.2.2.1
abbrev kA (V : kV) : Nat → Nat → Nat → Int32 := V.2.2.2.2.1
abbrev kB (V : kV) : Nat → Nat → Nat → Option Nat := V.2.2.2.2.2.1
abbrev kO (V : kV) : Nat → Option zO := V.2.2.2.2.2.2.1
abbrev kw (V : kV) : Nat → Nat := V.2.2.2.2.2.2.2.1
abbrev kW (V : kV) : Nat → Option (Nat × (Nat → Int32)) := V.2.2.2.2.2.2.2.2
def cL (f : Nat) : Nat := match f with
  | 1 => 5
  | 203 => 24
  | 303 => 6
  | 306 => 5
  | 307 => 4
  | 400 => 16
  | 401 => 24
  | 403 => 24
  | 502 => 25
  | 503 => 25
  | _ => 0
def cK (f : Nat) : Nat := match f with
  | 306 => 24
  | 400 => 22
  | 401 => 23
  | 403 => 22
  | 503 => 22
  | _ => 20
def kl (V : kV) (f a : Nat) : Prop := kC V a = f / 100 + 1 ∧ cL f ≠ 0
def uI (V : kV) (f a : Nat) (x : Int32) : kV := (kC V, (fun g b => if g = f ∧ b = a then x else kI V g b), V.2.2)
def uR (V : kV) (f a : Nat) (x : Option Nat) : kV := (kC V, kI V, (fun g b => if g = f ∧ b = a then x else kR V g b), V.2.2.2)
def uF (V : kV) (f a : Nat) (F : Nat → Int32) : kV := (kC V, kI V, kR V, kr V, (fun g b => if g = f ∧ b = a then F else kA V g b), V.2.2.2.2.2)
def uA (V : kV) (f a j : Nat) (x : Int32) : kV := uF V f a (upd (kA V f a) j x)
def uB (V : kV) (f a j : Nat) (x : Option Nat) : kV := (kC V, kI V, kR V, kr V, kA V, (fun g b => if g = f ∧ b = a then va_up (kB V f a) j x else kB V g b), V.2.2.2.2.2.2)
def uW (V : kV) (b : Nat) (o : Option (Nat × (Nat → Int32))) : kV := (kC V, kI V, kR V, kr V, kA V, kB V, kO V, kw V, va_up (kW V) b o)
/-- an object comes: all its fields are as they begin -/
def uN (V : kV) (y c : Nat) : kV := (va_up (kC V) y c, (fun g b => if b = y then 0 else kI V g b), (fun g b => if b = y then none else kR V g b), V.2.2.2)
/-- an outcome is done -/
def uO (V : kV) (y : Nat) (o : zO) (b : Nat) : kV := (va_up (kC V) y 0, kI V, kR V, kr V, kA V, kB V, va_up (kO V) y (some o), va_up (kw V) y b, va_up (kW V) b none)
def kD (V : kV) (a : Nat) : Prop := kC V a ≠ 0 ∨ (∃ o, kO V a = some o) ∨ (∃ p, kW V a = some p) ∨ (∃ f b, kl V f b ∧ a = kr V f b) ∨ ∃ b o, kO V b = some o ∧ a = kw V b
def CS (Fg : Nat → Prop) (h0 : hp) (V : kV) (h : hp) : Prop :=
  (∀ a, kC V a ≠ 0 → gk h a = kC V a ∧ kC V a ≤ 7) ∧ (∀ a f, kC V a = f / 100 + 1 → gi h f a = kI V f a) ∧ (∀ a f, kC V a = f / 100 + 1 → cL f = 0 → gr h f a = kR V f a) ∧ (∀ f a, kl V f a → gr h f a = some (kr V f a) ∧ gk h (kr V f a) = cK f ∧ gl h (kr V f a) = cL f ∧ ga h (kr V f a) = kA V f a ∧ gq h (kr V f a) = kB V f a) ∧ (∀ f a g b, kl V f a → kl V g b → kr V f a = kr V g b → f = g ∧ a = b) ∧ (∀ a o, kO V a = some o → kC V a = 0 ∧ gk h a = 2 ∧ gi h 100 a = o.1 ∧ gi h 101 a = o.2.1 ∧ gr h 102 a = some (kw V a) ∧ gk h (kw V a) = 20 ∧ gl h (kw V a) = o.2.2.length ∧ (∀ j, j < o.2.2.length → ga h (kw V a) j = o.2.2.getD j 0) ∧ kW V (kw V a) = none ∧ ∀ f b, kl V f b → kw V a ≠ kr V f b) ∧ (∀ b p, kW V b = some p → gk h b = 20 ∧ gl h b = p.1 ∧ ga h b = p.2 ∧ ∀ f a, kl V f a → b ≠ kr V f a) ∧ ∀ a, Fg a → gk h0 a ≠ 0 ∧ hsame h0 h a ∧ ¬ kD V a
theorem cK_ge (f : Nat) : 20 ≤ cK f := by
  unfold cK
  split <;> omega
section
variable {Fg : Nat → Prop} {h0 h : hp} {V : kV}
theorem CS.k (H : CS Fg h0 V h) {a c : Nat} (hc : kC V a = c + 1) : gk h a = c + 1 := by rw [(H.1 a (by omega)).1, hc]
theorem CS.live (H : CS Fg h0 V h) {a : Nat} (hd : kD V a) : gk h a ≠ 0 := by
  rcases hd with h | ⟨o, h⟩ | ⟨p, h⟩ | ⟨f, b, h, rfl⟩ | ⟨b, o, h, rfl⟩
  · rw [(H.1 a h).1]; exact h
  · rw [(H.2.2.2.2.2.1 a o h).2.1]; decide
  · rw [(H.2.2.2.2.2.2.1 a p h).1]; decide
  · rw [(H.2.2.2.1 f b h).2.1]; have := cK_ge f; omega
  · rw [(H.2.2.2.2.2.1 b o h).2.2.2.2.2.1]; decide
theorem CS.fresh (H : CS Fg h0 V h) {y : Nat} (hy : gk h y = 0) : ¬ kD V y ∧ ¬ Fg y := ⟨fun z => H.live z hy, fun z => by
  obtain ⟨h1, h2, -⟩ := H.2.2.2.2.2.2.2 y z
  rw [h2.1] at hy
  exact h1 hy⟩
/-- an array of a field is no row, and no object -/
theorem CS.arr (H : CS Fg h0 V h) {f a : Nat} (hl : kl V f a) : kC V (kr V f a) = 0 ∧ kO V (kr V f a) = none ∧ kW V (kr V f a) = none := by
  have hk := (H.2.2.2.1 f a hl).2.1
  have h20 := cK_ge f
  refine ⟨?_, ?_, ?_⟩
  · apply Classical.byContradiction
    intro z
    have := H.1 _ z
    omega
  · cases ho : kO V (kr V f a) with
    | none => rfl
    | some o => have := (H.2.2.2.2.2.1 _ o ho).2.1; omega
  · cases ho : kW V (kr V f a) with
    | none => rfl
    | some p => exact absurd rfl ((H.2.2.2.2.2.2.1 _ p ho).2.2.2 f a hl)
theorem hsame.wr {h0 h : hp} {a b f : Nat} {v : Option Nat} (H : hsame h0 h a) (hb : a ≠ b) : hsame h0 (wr h f b v) a := ⟨H.1, H.2.1, fun g => by rw [gr_wr, if_neg (fun z => hb z.2)]; exact H.2.2.1 g, H.2.2.2.1, H.2.2.2.2.1, H.2.2.2.2.2⟩
theorem hsame.wq {h0 h : hp} {a b j : Nat} {v : Option Nat} (H : hsame h0 h a) (hb : a ≠ b) : hsame h0 (wq h b j v) a := ⟨H.1, H.2.1, H.2.2.1, H.2.2.2.1, H.2.2.2.2.1, by rw [gq_wq, if_neg hb]; exact H.2.2.2.2.2⟩
theorem hsame.nw {h0 h : hp} {a y k n : Nat} (H : hsame h0 h a) (hb : a ≠ y) : hsame h0 (nw h y k n) a := ⟨by rw [gk_nw, if_neg hb]; exact H.1, fun g => by rw [gi_nw, if_neg hb]; exact H.2.1 g, fun g => by rw [gr_nw, if_neg hb]; exact H.2.2.1 g, by rw [gl_nw, if_neg hb]; exact H.2.2.2.1, by rw [ga_nw, if_neg hb]; exact H.2.2.2.2.1, by rw [gq_nw, if_neg hb]; exact H.2.2.2.2.2⟩
theorem CS.si (H : CS Fg h0 V h) {f a : Nat} (hc : kC V a = f / 100 + 1) (x : Int32) : CS Fg h0 (uI V f a x) (wi h f a x) := by
  obtain ⟨c1, c2, c3, c4, c5, c6, c7, c8⟩ := id H
  refine ⟨c1, fun b g hb => ?_, c3, c4, c5, fun b o ho => ?_, c7, fun b hb => ?_⟩
  · rw [gi_wi]
    show _ = if g = f ∧ b = a then x else kI V g b
    rw [c2 b g hb]
  · obtain ⟨d1, d2, d3, d4, d5⟩ := c6 b o ho
    have hne : b ≠ a := fun e => by rw [e] at d1; omega
    exact ⟨d1, d2, by rw [gi_wi, if_neg (fun z => hne z.2)]; exact d3, by rw [gi_wi, if_neg (fun z => hne z.2)]; exact d4, d5⟩
  · obtain ⟨d1, d2, d3⟩ := c8 b hb
    exact ⟨d1, d2.wi (fun e => d3 (.inl (by rw [e]; omega))), d3⟩
theorem CS.sr (H : CS Fg h0 V h) {f a : Nat} (hc : kC V a = f / 100 + 1) (hf : cL f = 0) (x : Option Nat) : CS Fg h0 (uR V f a x) (wr h f a x) := by
  obtain ⟨c1, c2, c3, c4, c5, c6, c7, c8⟩ := id H
  refine ⟨c1, c2, fun b g hb hg => ?_, fun g b hl => ?_, c5, fun b o ho => ?_, c7, fun b hb => ?_⟩
  · rw [gr_wr]
    show _ = if g = f ∧ b = a then x else kR V g b
    rw [c3 b g hb hg]
  · obtain ⟨d1, d2⟩ := c4 g b hl
    refine ⟨?_, d2⟩
    rw [gr_wr, if_neg (fun z => hl.2 (by rw [z.1]; exact hf))]
    exact d1
  · obtain ⟨d1, d2, d3, d4, d5, d6⟩ := c6 b o ho
    have hne : b ≠ a := fun e => by rw [e] at d1; omega
    exact ⟨d1, d2, d3, d4, by rw [gr_wr, if_neg (fun z => hne z.2)]; exact d5, d6⟩
  · obtain ⟨d1, d2, d3⟩ := c8 b hb
    exact ⟨d1, d2.wr (fun e => d3 (.inl (by rw [e]; omega))), d3⟩
theorem CS.sF (H : CS Fg h0 V h) {f a : Nat} (hl : kl V f a) (F : Nat → Int32) : CS Fg h0 (uF V f a F) (wA h (kr V f a) F) := by
  obtain ⟨c1, c2, c3, c4, c5, c6, c7, c8⟩ := id H
  refine ⟨c1, c2, c3, fun g b hb => ?_, c5, fun b o ho => ?_, fun b p hp => ?_, fun b hb => ?_⟩
  · obtain ⟨d1, d2, d3, d4, d5⟩ := c4 g b hb
    refine ⟨d1, d2, d3, ?_, d5⟩
    show ga (wA h (kr V f a) F) (kr V g b) = if g = f ∧ b = a then F else kA V g b
    rw [ga_wA]
    by_cases e : g = f ∧ b = a
    · rw [if_pos e, e.1, e.2, if_pos rfl]
    · rw [if_neg e, if_neg (fun z => e (c5 _ _ _ _ hb hl z))]
      exact d4
  · obtain ⟨d1, d2, d3, d4, d5, d6, d7, d8, d9, d10⟩ := c6 b o ho
    refine ⟨d1, d2, d3, d4, d5, d6, d7, fun j hj => ?_, d9, d10⟩
    show ga (wA h (kr V f a) F) (kw V b) j = _
    rw [ga_wA, if_neg (d10 f a hl)]
    exact d8 j hj
  · obtain ⟨d1, d2, d3, d4⟩ := c7 b p hp
    exact ⟨d1, d2, by rw [ga_wA, if_neg (d4 f a hl)]; exact d3, d4⟩
  · obtain ⟨d1, d2, d3⟩ := c8 b hb
    exact ⟨d1, d2.wA (fun e => d3 (.inr (.inr (.inr (.inl ⟨f, a, hl, e⟩))))), d3⟩
theorem CS.sa (H : CS Fg h0 V h) {f a : Nat} (hl : kl V f a) (j : Nat) (x : Int32) : CS Fg h0 (uA V f a j x) (wa h (kr V f a) j x) := by
  have := H.sF hl (upd (kA V f a) j x)
  rw [← (H.2.2.2.1 f a hl).2.2.2.1] at this
  unfold uA
  rw [← (H.2.2.2.1 f a hl).2.2.2.1]
  exact this
theorem CS.sq (H : CS Fg h0 V h) {f a : Nat} (hl : kl V f a) (j : Nat) (x : Option Nat) : CS Fg h0 (uB V f a j x) (wq h (kr V f a) j x) := by
  obtain ⟨c1, c2, c3, c4, c5, c6, c7, c8⟩ := id H
  refine ⟨c1, c2, c3, fun g b hb => ?_, c5, c6, c7, fun b hb => ?_⟩
  · obtain ⟨d1, d2, d3, d4, d5⟩ := c4 g b hb
    refine ⟨d1, d2, d3, d4, ?_⟩
    show gq (wq h (kr V f a) j x) (kr V g b) = if g = f ∧ b = a then va_up (kB V f a) j x else kB V g b
    rw [gq_wq]
    by_cases e : g = f ∧ b = a
    · rw [if_pos e, e.1, e.2, if_pos rfl, (c4 f a hl).2.2.2.2]
    · rw [if_neg e, if_neg (fun z => e (c5 _ _ _ _ hb hl z))]
      exact d5
  · obtain ⟨d1, d2, d3⟩ := c8 b hb
    exact ⟨d1, d2.wq (fun e => d3 (.inr (.inr (.inr (.inl ⟨f, a, hl, e⟩))))), d3⟩
theorem CS.sW (H : CS Fg h0 V h) {b n : Nat} {g : Nat → Int32} (hb : kW V b = some (n, g)) (F : Nat → Int32) : CS Fg h0 (uW V b (some (n, F))) (wA h b F) := by
  obtain ⟨c1, c2, c3, c4, c5, c6, c7, c8⟩ := id H
  obtain ⟨b1, b2, b3, b4⟩ := c7 b _ hb
  have hW : ∀ x, x ≠ b → kW (uW V b (some (n, F))) x = kW V x := fun x hx => va_up_ne _ _ hx
  refine ⟨c1, c2, c3, fun g' a hl => ?_, c5, fun a o ho => ?_, fun a p hp => ?_, fun a ha => ?_⟩
  · obtain ⟨d1, d2, d3, d4, d5⟩ := c4 g' a hl
    refine ⟨d1, d2, d3, ?_, d5⟩
    show ga (wA h b F) (kr V g' a) = kA V g' a
    rw [ga_wA, if_neg (fun e => b4 g' a hl e.symm)]
    exact d4
  · obtain ⟨d1, d2, d3, d4, d5, d6, d7, d8, d9, d10⟩ := c6 a o ho
    have hne : kw V a ≠ b := fun e => by rw [e, hb] at d9; cases d9
    refine ⟨d1, d2, d3, d4, d5, d6, d7, fun j hj => ?_, ?_, d10⟩
    · show ga (wA h b F) (kw V a) j = _
      rw [ga_wA, if_neg hne]
      exact d8 j hj
    · exact (hW _ hne).trans d9
  · by_cases e : a = b
    · subst e
      have hp : va_up (kW V) a (some (n, F)) a = some p := hp
      rw [va_up_self] at hp
      cases hp
      exact ⟨b1, b2, by rw [ga_wA, if_pos rfl], b4⟩
    · rw [hW a e] at hp
      obtain ⟨d1, d2, d3, d4⟩ := c7 a p hp
      exact ⟨d1, d2, by rw [ga_wA, if_neg e]; exact d3, d4⟩
  · obtain ⟨d1, d2, d3⟩ := c8 a ha
    have hne : a ≠ b := fun e => d3 (.inr (.inr (.inl ⟨_, by rw [e]; exact hb⟩)))
    refine ⟨d1, d2.wA hne, fun z => d3 ?_⟩
    rcases z with z | z | ⟨p, z⟩ | z
    · exact .inl z
    · exact .inr (.inl z)
    · exact .inr (.inr (.inl ⟨p, by rw [← hW a hne]; exact z⟩))
    · exact .inr (.inr (.inr z))
theorem CS.nwW (H : CS Fg h0 V h) {y : Nat} (hy : gk h y = 0) (n : Nat) : CS Fg h0 (uW V y (some (n, fun _ => 0))) (nw h y 20 n) := by
  obtain ⟨fy, gy⟩ := H.fresh hy
  obtain ⟨c1, c2, c3, c4, c5, c6, c7, c8⟩ := id H
  have n1 : ∀ a, kC V a ≠ 0 → a ≠ y := fun a ha e => fy (.inl (by rw [← e]; exact ha))
  have n2 : ∀ f a, kl V f a → kr V f a ≠ y := fun f a hl e => fy (.inr (.inr (.inr (.inl ⟨f, a, hl, e.symm⟩))))
  have n3 : ∀ a o, kO V a = some o → a ≠ y ∧ kw V a ≠ y := fun a o ho => ⟨fun e => fy (.inr (.inl ⟨o, by rw [← e]; exact ho⟩)), fun e => fy (.inr (.inr (.inr (.inr ⟨a, o, ho, e.symm⟩))))⟩
  refine ⟨fun a ha => ?_, fun a f ha => ?_, fun a f ha hf => ?_, fun f a hl => ?_, c5, fun a o ho => ?_, fun a p hp => ?_, fun a ha => ?_⟩
  · rw [gk_nw, if_neg (n1 a ha)]; exact c1 a ha
  · have ha : kC V a = f / 100 + 1 := ha
    rw [gi_nw, if_neg (n1 a (by omega))]; exact c2 a f ha
  · have ha : kC V a = f / 100 + 1 := ha
    rw [gr_nw, if_neg (n1 a (by omega))]; exact c3 a f ha hf
  · have hl : kl V f a := hl
    have e1 := n2 f a hl
    have e2 : a ≠ y := n1 a (by have := hl.1; omega)
    show gr (nw h y 20 n) f a = some (kr V f a) ∧ gk (nw h y 20 n) (kr V f a) = cK f ∧ gl (nw h y 20 n) (kr V f a) = cL f ∧ ga (nw h y 20 n) (kr V f a) = kA V f a ∧ gq (nw h y 20 n) (kr V f a) = kB V f a
    rw [gr_nw, if_neg e2, gk_nw, if_neg e1, gl_nw, if_neg e1, ga_nw, if_neg e1, gq_nw, if_neg e1]
    exact c4 f a hl
  · obtain ⟨d1, d2, d3, d4, d5, d6, d7, d8, d9, d10⟩ := c6 a o ho
    obtain ⟨e1, e2⟩ := n3 a o ho
    refine ⟨d1, by rw [gk_nw, if_neg e1]; exact d2, by rw [gi_nw, if_neg e1]; exact d3, by rw [gi_nw, if_neg e1]; exact d4, by rw [gr_nw, if_neg e1]; exact d5, ?_, ?_, fun j hj => ?_, (va_up_ne _ _ e2).trans d9, d10⟩
    · show gk (nw h y 20 n) (kw V a) = 20
      rw [gk_nw, if_neg e2]; exact d6
    · show gl (nw h y 20 n) (kw V a) = _
      rw [gl_nw, if_neg e2]; exact d7
    · show ga (nw h y 20 n) (kw V a) j = _
      rw [ga_nw, if_neg e2]; exact d8 j hj
  · by_cases e : a = y
    · subst e
      have hp : va_up (kW V) a (some (n, fun _ => 0)) a = some p := hp
      rw [va_up_self] at hp
      cases hp
      exact ⟨by rw [gk_nw, if_pos rfl], by rw [gl_nw, if_pos rfl], by rw [ga_nw, if_pos rfl], fun f b hl z => n2 f b hl z.symm⟩
    · have hp : va_up (kW V) y (some (n, fun _ => 0)) a = some p := hp
      rw [va_up_ne _ _ e] at hp
      obtain ⟨d1, d2, d3, d4⟩ := c7 a p hp
      exact ⟨by rw [gk_nw, if_neg e]; exact d1, by rw [gl_nw, if_neg e]; exact d2, by rw [ga_nw, if_neg e]; exact d3, d4⟩
  · obtain ⟨d1, d2, d3⟩ := c8 a ha
    have hne : a ≠ y := fun e => gy (by rw [← e]; exact ha)
    refine ⟨d1, d2.nw hne, fun z => d3 ?_⟩
    rcases z with z | z | ⟨p, z⟩ | z
    · exact .inl z
    · exact .inr (.inl z)
    · have z : va_up (kW V) y (some (n, fun _ => 0)) a = some p := z
      rw [va_up_ne _ _ hne] at z
      exact .inr (.inr (.inl ⟨p, z⟩))
    · exact .inr (.inr (.inr z))
theorem CS.nwO (H : CS Fg h0 V h) {y : Nat} (hy : gk h y = 0) : CS Fg h0 (uN V y 2) (nw h y 2 0) := by
  obtain ⟨fy, gy⟩ := H.fresh hy
  obtain ⟨c1, c2, c3, c4, c5, c6, c7, c8⟩ := id H
  have hC : ∀ a, a ≠ y → kC (uN V y 2) a = kC V a := fun a ha => va_up_ne _ _ ha
  have hCy : kC (uN V y 2) y = 2 := va_up_self _ _ _
  have hkl : ∀ f a, kl (uN V y 2) f a → kl V f a ∧ a ≠ y := fun f a hl => by
    have hne : a ≠ y := fun e => by
      have h1 := hl.1
      rw [e, hCy] at h1
      have h2 := hl.2
      have h3 : f / 100 = 1 := by omega
      apply h2
      unfold cL
      split <;> first | omega | rfl
    exact ⟨⟨by rw [← hC a hne]; exact hl.1, hl.2⟩, hne⟩
  have n2 : ∀ f a, kl V f a → kr V f a ≠ y := fun f a hl e => fy (.inr (.inr (.inr (.inl ⟨f, a, hl, e.symm⟩))))
  have n3 : ∀ a o, kO V a = some o → a ≠ y ∧ kw V a ≠ y := fun a o ho => ⟨fun e => fy (.inr (.inl ⟨o, by rw [← e]; exact ho⟩)), fun e => fy (.inr (.inr (.inr (.inr ⟨a, o, ho, e.symm⟩))))⟩
  refine ⟨fun a ha => ?_, fun a f ha => ?_, fun a f ha hf => ?_, fun f a hl => ?_, fun f a g b hl hl' => c5 f a g b (hkl f a hl).1 (hkl g b hl').1, fun a o ho => ?_, fun a p hp => ?_, fun a ha => ?_⟩
  · by_cases e : a = y
    · subst e
      rw [gk_nw, if_pos rfl, hCy]
      exact ⟨rfl, by decide⟩
    · rw [gk_nw, if_neg e, hC a e]
      exact c1 a (by rw [← hC a e]; exact ha)
  · show gi (nw h y 2 0) f a = if a = y then 0 else kI V f a
    rw [gi_nw]
    by_cases e : a = y
    · rw [if_pos e, if_pos e]
    · rw [if_neg e, if_neg e]
      exact c2 a f (by rw [← hC a e]; exact ha)
  · show gr (nw h y 2 0) f a = if a = y then none else kR V f a
    rw [gr_nw]
    by_cases e : a = y
    · rw [if_pos e, if_pos e]
    · rw [if_neg e, if_neg e]
      exact c3 a f (by rw [← hC a e]; exact ha) hf
  · obtain ⟨hl, e2⟩ := hkl f a hl
    have e1 := n2 f a hl
    show gr (nw h y 2 0) f a = some (kr V f a) ∧ gk (nw h y 2 0) (kr V f a) = cK f ∧ gl (nw h y 2 0) (kr V f a) = cL f ∧ ga (nw h y 2 0) (kr V f a) = kA V f a ∧ gq (nw h y 2 0) (kr V f a) = kB V f a
    rw [gr_nw, if_neg e2, gk_nw, if_neg e1, gl_nw, if_neg e1, ga_nw, if_neg e1, gq_nw, if_neg e1]
    exact c4 f a hl
  · obtain ⟨d1, d2, d3, d4, d5, d6, d7, d8, d9, d10⟩ := c6 a o ho
    obtain ⟨e1, e2⟩ := n3 a o ho
    refine ⟨(hC a e1).trans d1, by rw [gk_nw, if_neg e1]; exact d2, by rw [gi_nw, if_neg e1]; exact d3, by rw [gi_nw, if_neg e1]; exact d4, by rw [gr_nw, if_neg e1]; exact d5, ?_, ?_, fun j hj => ?_, d9, fun f b hl => d10 f b (hkl f b hl).1⟩
    · show gk (nw h y 2 0) (kw V a) = 20
      rw [gk_nw, if_neg e2]; exact d6
    · show gl (nw h y 2 0) (kw V a) = _
      rw [gl_nw, if_neg e2]; exact d7
    · show ga (nw h y 2 0) (kw V a) j = _
      rw [ga_nw, if_neg e2]; exact d8 j hj
  · have e : a ≠ y := fun e => fy (.inr (.inr (.inl ⟨p, by rw [← e]; exact hp⟩)))
    obtain ⟨d1, d2, d3, d4⟩ := c7 a p hp
    exact ⟨by rw [gk_nw, if_neg e]; exact d1, by rw [gl_nw, if_neg e]; exact d2, by rw [ga_nw, if_neg e]; exact d3, fun f b hl => d4 f b (hkl f b hl).1⟩
  · obtain ⟨d1, d2, d3⟩ := c8 a ha
    have hne : a ≠ y := fun e => gy (by rw [← e]; exact ha)
    refine ⟨d1, d2.nw hne, fun z => d3 ?_⟩
    rcases z with z | z | z | ⟨f, b, hl, z⟩ | z
    · exact .inl (by rw [← hC a hne]; exact z)
    · exact .inr (.inl z)
    · exact .inr (.inr (.inl z))
    · exact .inr (.inr (.inr (.inl ⟨f, b, (hkl f b hl).1, z⟩)))
    · exact .inr (.inr (.inr (.inr z)))
/-- an outcome is done: nothing changes but what we say of it -/
theorem CS.freeze (H : CS Fg h0 V h) {y b : Nat} {o : zO} {p : Nat × (Nat → Int32)} (hy : kC V y = 2) (h1 : kI V 100 y = o.1) (h2 : kI V 101 y = o.2.1) (h3 : kR V 102 y = some b) (hb : kW V b = some p) (hn : p.1 = o.2.2.length) (hg : ∀ j, j < o.2.2.length → p.2 j = o.2.2.getD j 0) : CS Fg h0 (uO V y o b) h := by
  obtain ⟨c1, c2, c3, c4, c5, c6, c7, c8⟩ := id H
  obtain ⟨b1, b2, b3, b4⟩ := c7 b p hb
  have hu : ∀ a q, kO V a = some q → kw V a ≠ b := fun a q hq e => by
    have := (c6 a q hq).2.2.2.2.2.2.2.2.1
    rw [e, hb] at this
    cases this
  have ky := (c1 y (by omega)).1
  have hC : ∀ a, a ≠ y → kC (uO V y o b) a = kC V a := fun a ha => va_up_ne _ _ ha
  have hCy : kC (uO V y o b) y = 0 := va_up_self _ _ _
  have hkl : ∀ f a, kl (uO V y o b) f a → kl V f a := fun f a hl => by
    have hne : a ≠ y := fun e => by
      have h1 := hl.1
      rw [e, hCy] at h1
      omega
    exact ⟨by rw [← hC a hne]; exact hl.1, hl.2⟩
  have hne : ∀ a f, kC (uO V y o b) a = f / 100 + 1 → a ≠ y := fun a f ha e => by
    rw [e, hCy] at ha
    omega
  refine ⟨fun a ha => ?_, fun a f ha => ?_, fun a f ha hf => ?_, fun f a hl => c4 f a (hkl f a hl), fun f a g b hl hl' => c5 f a g b (hkl f a hl) (hkl g b hl'), fun a q hq => ?_, fun a q hq => ?_, fun a ha => ?_⟩
  · have e : a ≠ y := fun e => ha (by rw [e]; exact hCy)
    rw [hC a e]
    exact c1 a (by rw [← hC a e]; exact ha)
  · have e := hne a f ha
    exact c2 a f (by rw [← hC a e]; exact ha)
  · have e := hne a f ha
    exact c3 a f (by rw [← hC a e]; exact ha) hf
  · have hq : va_up (kO V) y (some o) a = some q := hq
    by_cases e : a = y
    · subst e
      rw [va_up_self] at hq
      cases hq
      have hwy : kw (uO V a o b) a = b := va_up_self _ _ _
      rw [hwy]
      refine ⟨hCy, by rw [ky, hy], by rw [c2 a 100 hy]; exact h1, by rw [c2 a 101 hy]; exact h2, by rw [c3 a 102 hy rfl]; exact h3, b1, by rw [b2]; exact hn, fun j hj => by rw [b3]; exact hg j hj, va_up_self _ _ _, fun f c hl => b4 f c (hkl f c hl)⟩
    · rw [va_up_ne _ _ e] at hq
      obtain ⟨d1, d2, d3, d4, d5, d6, d7, d8, d9, d10⟩ := c6 a q hq
      have hwa : kw (uO V y o b) a = kw V a := va_up_ne _ _ e
      rw [hwa]
      refine ⟨(hC a e).trans d1, d2, d3, d4, d5, d6, d7, d8, ?_, fun f c hl => d10 f c (hkl f c hl)⟩
      show va_up (kW V) b none (kw V a) = none
      rw [va_up_ne _ _ (hu a q hq)]
      exact d9
  · have hq : va_up (kW V) b none a = some q := hq
    have e : a ≠ b := fun e => by rw [e, va_up_self] at hq; cases hq
    rw [va_up_ne _ _ e] at hq
    obtain ⟨d1, d2, d3, d4⟩ := c7 a q hq
    exact ⟨d1, d2, d3, fun f c hl => d4 f c (hkl f c hl)⟩
  · obtain ⟨d1, d2, d3⟩ := c8 a ha
    refine ⟨d1, d2, fun z => d3 ?_⟩
    rcases z with z | ⟨q, z⟩ | ⟨q, z⟩ | ⟨f, c, hl, z⟩ | ⟨c, q, hq, z⟩
    · have e : a ≠ y := fun e => z (by rw [e]; exact hCy)
      exact .inl (by rw [← hC a e]; exact z)
    · have z : va_up (kO V) y (some o) a = some q := z
      by_cases e : a = y
      · exact .inl (by rw [e]; omega)
      · rw [va_up_ne _ _ e] at z
        exact .inr (.inl ⟨q, z⟩)
    · have z : va_up (kW V) b none a = some q := z
      have e : a ≠ b := fun e => by rw [e, va_up_self] at z; cases z
      rw [va_up_ne _ _ e] at z
      exact .inr (.inr (.inl ⟨q, z⟩))
    · exact .inr (.inr (.inr (.inl ⟨f, c, hkl f c hl, z⟩)))
    · have hq : va_up (kO V) y (some o) c = some q := hq
      by_cases e : c = y
      · subst e
        have z : a = va_up (kw V) c b c := z
        rw [va_up_self] at z
        exact .inr (.inr (.inl ⟨p, by rw [z]; exact hb⟩))
      · rw [va_up_ne _ _ e] at hq
        have z : a = va_up (kw V) y b c := z
        rw [va_up_ne _ _ e] at z
        exact .inr (.inr (.inr (.inr ⟨c, q, hq, z⟩)))
/-- the rest of the heap may change -/
theorem CS.cg {h' : hp} (H : CS Fg h0 V h) (hs : ∀ a, ¬ Fg a → gk h a ≠ 0 → hsame h h' a) (hf : ∀ a, Fg a → gk h' a ≠ 0) : CS Fg h' V h' := by
  have hd : ∀ a, kD V a → hsame h h' a := fun a ha => hs a (fun z => (H.2.2.2.2.2.2.2 a z).2.2 ha) (H.live ha)
  obtain ⟨c1, c2, c3, c4, c5, c6, c7, c8⟩ := id H
  refine ⟨fun a ha => ?_, fun a f ha => ?_, fun a f ha hf => ?_, fun f a hl => ?_, c5, fun a o ho => ?_, fun a p hp => ?_, fun a ha => ⟨hf a ha, ⟨rfl, fun _ => rfl, fun _ => rfl, rfl, rfl, rfl⟩, (c8 a ha).2.2⟩⟩
  · rw [(hd a (.inl ha)).1]; exact c1 a ha
  · rw [(hd a (.inl (by omega))).2.1]; exact c2 a f ha
  · rw [(hd a (.inl (by omega))).2.2.1]; exact c3 a f ha hf
  · have e1 := hd a (.inl (by have := hl.1; omega))
    have e2 := hd (kr V f a) (.inr (.inr (.inr (.inl ⟨f, a, hl, rfl⟩))))
    rw [e1.2.2.1, e2.1, e2.2.2.2.1, e2.2.2.2.2.1, e2.2.2.2.2.2]
    exact c4 f a hl
  · have e1 := hd a (.inr (.inl ⟨o, ho⟩))
    have e2 := hd (kw V a) (.inr (.inr (.inr (.inr ⟨a, o, ho, rfl⟩))))
    rw [e1.1, e1.2.1, e1.2.1, e1.2.2.1, e2.1, e2.2.2.2.1, e2.2.2.2.2.1]
    exact c6 a o ho
  · have e1 := hd a (.inr (.inr (.inl ⟨p, hp⟩)))
    rw [e1.1, e1.2.2.2.1, e1.2.2.2.2.1]
    exact c7 a p hp
end
