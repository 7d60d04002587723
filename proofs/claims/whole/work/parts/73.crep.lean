/-! HOW THE CLASS HOLDS the state of a round -/
/-- V2 is V but for the fields of L; outcomes may have come -/
def vex (L : List Nat) (V V2 : kV) : Prop := (∀ a, kC V a ≠ 0 → kC V2 a = kC V a ∧ ∀ f, kr V2 f a = kr V f a) ∧ (∀ a o, kO V a = some o → kO V2 a = some o) ∧ ∀ f a, kC V a ≠ 0 → f ∉ L → kI V2 f a = kI V f a ∧ kR V2 f a = kR V f a ∧ kA V2 f a = kA V f a ∧ kB V2 f a = kB V f a
theorem vex.rf {L : List Nat} {V : kV} : vex L V V := ⟨fun _ _ => ⟨rfl, fun _ => rfl⟩, fun _ _ h => h, fun _ _ _ _ => ⟨rfl, rfl, rfl, rfl⟩⟩
theorem vex.tr {L L1 L2 : List Nat} {V V1 V2 : kV} (h1 : vex L1 V V1) (h2 : vex L2 V1 V2) (hl1 : ∀ f, f ∉ L → f ∉ L1) (hl2 : ∀ f, f ∉ L → f ∉ L2) : vex L V V2 := by
  have hc : ∀ a, kC V a ≠ 0 → kC V1 a ≠ 0 := fun a ha => by rw [(h1.1 a ha).1]; exact ha
  refine ⟨fun a ha => ⟨(h2.1 a (hc a ha)).1.trans (h1.1 a ha).1, fun f => ((h2.1 a (hc a ha)).2 f).trans ((h1.1 a ha).2 f)⟩, fun a o ho => h2.2.1 a o (h1.2.1 a o ho), fun f a ha hf => ?_⟩
  obtain ⟨a1, a2, a3, a4⟩ := h1.2.2 f a ha (hl1 f hf)
  obtain ⟨b1, b2, b3, b4⟩ := h2.2.2 f a (hc a ha) (hl2 f hf)
  exact ⟨b1.trans a1, b2.trans a2, b3.trans a3, b4.trans a4⟩
theorem vex.up {L L2 : List Nat} {V V2 : kV} (h : vex L V V2) (hl : ∀ f, f ∉ L2 → f ∉ L) : vex L2 V V2 := ⟨h.1, h.2.1, fun f a ha hf => h.2.2 f a ha (hl f hf)⟩
theorem vex.i {V : kV} (f a : Nat) (x : Int32) : vex [f] V (uI V f a x) := ⟨fun _ _ => ⟨rfl, fun _ => rfl⟩, fun _ _ h => h, fun g b _ hg => ⟨if_neg (fun z => hg (by rw [z.1]; exact List.mem_singleton.mpr rfl)), rfl, rfl, rfl⟩⟩
theorem vex.r {V : kV} (f a : Nat) (x : Option Nat) : vex [f] V (uR V f a x) := ⟨fun _ _ => ⟨rfl, fun _ => rfl⟩, fun _ _ h => h, fun g b _ hg => ⟨rfl, if_neg (fun z => hg (by rw [z.1]; exact List.mem_singleton.mpr rfl)), rfl, rfl⟩⟩
theorem vex.a {V : kV} (f a j : Nat) (x : Int32) : vex [f] V (uA V f a j x) := ⟨fun _ _ => ⟨rfl, fun _ => rfl⟩, fun _ _ h => h, fun g b _ hg => ⟨rfl, rfl, if_neg (fun z => hg (by rw [z.1]; exact List.mem_singleton.mpr rfl)), rfl⟩⟩
theorem vex.b {V : kV} (f a j : Nat) (x : Option Nat) : vex [f] V (uB V f a j x) := ⟨fun _ _ => ⟨rfl, fun _ => rfl⟩, fun _ _ h => h, fun g b _ hg => ⟨rfl, rfl, rfl, if_neg (fun z => hg (by rw [z.1]; exact List.mem_singleton.mpr rfl))⟩⟩
theorem vex.w {V : kV} (b : Nat) (p : Option (Nat × (Nat → Int32))) : vex [] V (uW V b p) := ⟨fun _ _ => ⟨rfl, fun _ => rfl⟩, fun _ _ h => h, fun g b _ hg => ⟨rfl, rfl, rfl, rfl⟩⟩
theorem kI_uI {V : kV} {f a g b : Nat} {x : Int32} : kI (uI V f a x) g b = if g = f ∧ b = a then x else kI V g b := rfl
theorem kR_uR {V : kV} {f a g b : Nat} {x : Option Nat} : kR (uR V f a x) g b = if g = f ∧ b = a then x else kR V g b := rfl
theorem kA_uA {V : kV} {f a g b j : Nat} {x : Int32} : kA (uA V f a j x) g b = if g = f ∧ b = a then upd (kA V f a) j x else kA V g b := rfl
theorem kB_uB {V : kV} {f a g b j : Nat} {x : Option Nat} : kB (uB V f a j x) g b = if g = f ∧ b = a then va_up (kB V f a) j x else kB V g b := rfl
/-- an outcome that has come and is done -/
def uDone (V : kV) (y : Nat) (o : zO) (b : Nat) : kV := uO (uR (uI (uI V 100 y o.1) 101 y o.2.1) 102 y (some b)) y o b
theorem vex.done {V V1 : kV} {y b : Nat} {o : zO} (hy : ¬ kD V y) (h : vex [] (uN V y 2) V1) : vex [] V (uDone V1 y o b) ∧ kO (uDone V1 y o b) y = some o := by
  have n1 : ∀ a, kC V a ≠ 0 → a ≠ y := fun a ha e => hy (.inl (by rw [← e]; exact ha))
  have hc : ∀ a, kC V a ≠ 0 → kC (uN V y 2) a ≠ 0 := fun a ha => by
    show va_up (kC V) y 2 a ≠ 0
    rw [va_up_ne _ _ (n1 a ha)]
    exact ha
  refine ⟨⟨fun a ha => ⟨?_, fun f => ?_⟩, fun a p hp => ?_, fun f a ha hf => ?_⟩, va_up_self _ _ _⟩
  · show va_up (kC V1) y 0 a = kC V a
    rw [va_up_ne _ _ (n1 a ha), (h.1 a (hc a ha)).1]
    show va_up (kC V) y 2 a = kC V a
    rw [va_up_ne _ _ (n1 a ha)]
  · exact (h.1 a (hc a ha)).2 f
  · have e : a ≠ y := fun e => hy (.inr (.inl ⟨p, by rw [← e]; exact hp⟩))
    show va_up (kO V1) y (some o) a = some p
    rw [va_up_ne _ _ e]
    exact h.2.1 a p hp
  · have e := n1 a ha
    obtain ⟨b1, b2, b3, b4⟩ := h.2.2 f a (hc a ha) hf
    refine ⟨?_, ?_, b3, b4⟩
    · show (if f = 101 ∧ a = y then _ else if f = 100 ∧ a = y then _ else kI V1 f a) = kI V f a
      rw [if_neg (fun z => e z.2), if_neg (fun z => e z.2), b1]
      exact if_neg e
    · show (if f = 102 ∧ a = y then _ else kR V1 f a) = kR V f a
      rw [if_neg (fun z => e z.2), b2]
      exact if_neg e
abbrev cD : Type := Nat × Nat × Nat × Nat × (Nat → Nat) × (Option Nat × Int32 × Int32 × Int32 × (Nat → Int32))
abbrev dX (D : cD) : Nat := D.1
abbrev dF (D : cD) : Nat := D.2.1
abbrev dO (D : cD) : Nat := D.2.2.1
abbrev dS (D : cD) : Nat := D.2.2.2.1
abbrev dA (D : cD) : Nat → Nat := D.2.2.2.2.1
abbrev dT (D : cD) : Option Nat × Int32 × Int32 × Int32 × (Nat → Int32) := D.2.2.2.2.2
/-- a reference to an outcome -/
def cO (V : kV) (r : Option Nat) (o : zO) : Prop := ∃ a, r = some a ∧ kO V a = some o
theorem cO.cg {L : List Nat} {V V2 : kV} {r : Option Nat} {o : zO} (h : cO V r o) (hx : vex L V V2) : cO V2 r o := by
  obtain ⟨a, h1, h2⟩ := h
  exact ⟨a, h1, hx.2.1 a o h2⟩
def cTr (V : kV) (t : Nat) (gs : List zR) : Prop := kC V t = 6 ∧ kI V 500 t = nI gs.length ∧ ∀ i, i < gs.length → kA V 502 t i = nI (gs.getD i zr0).1 ∧ cO V (kB V 503 t i) (gs.getD i zr0).2
theorem cTr.cg {L : List Nat} {V V2 : kV} {t : Nat} {gs : List zR} (h : cTr V t gs) (hx : vex L V V2) (hl : ∀ f ∈ [500, 502, 503], f ∉ L) : cTr V2 t gs := by
  obtain ⟨h1, h2, h3⟩ := h
  have hc : kC V t ≠ 0 := by rw [h1]; decide
  refine ⟨(hx.1 t hc).1.trans h1, by rw [(hx.2.2 500 t hc (hl _ (by decide))).1]; exact h2, fun i hi => ?_⟩
  rw [(hx.2.2 502 t hc (hl _ (by decide))).2.2.1, (hx.2.2 503 t hc (hl _ (by decide))).2.2.2]
  exact ⟨(h3 i hi).1, (h3 i hi).2.cg hx⟩
def cX (D : cD) (V : kV) : Prop := (kC V (dX D) = 7 ∧ kC V (dF D) = 1 ∧ kC V (dO D) = 3 ∧ kR V 600 (dX D) = some (dF D) ∧ kR V 601 (dX D) = some (dO D) ∧ kR V 602 (dX D) = some (dS D)) ∧ kR V 201 (dO D) = (dT D).1 ∧ kI V 202 (dO D) = (dT D).2.1 ∧ kI V 206 (dO D) = (dT D).2.2.1 ∧ kI V 0 (dF D) = (dT D).2.2.2.1 ∧ kA V 1 (dF D) = (dT D).2.2.2.2
theorem cX.cg {L : List Nat} {V V2 : kV} {D : cD} (h : cX D V) (hx : vex L V V2) (hl : ∀ f ∈ [600, 601, 602, 201, 202, 206, 0, 1], f ∉ L) : cX D V2 := by
  obtain ⟨⟨h1, h2, h3, h4, h5, h6⟩, h7, h8, h9, h10, h11⟩ := h
  have c1 : kC V (dX D) ≠ 0 := by rw [h1]; decide
  have c2 : kC V (dF D) ≠ 0 := by rw [h2]; decide
  have c3 : kC V (dO D) ≠ 0 := by rw [h3]; decide
  refine ⟨⟨(hx.1 _ c1).1.trans h1, (hx.1 _ c2).1.trans h2, (hx.1 _ c3).1.trans h3, ?_, ?_, ?_⟩, ?_, ?_, ?_, ?_, ?_⟩
  · rw [(hx.2.2 600 _ c1 (hl _ (by decide))).2.1]; exact h4
  · rw [(hx.2.2 601 _ c1 (hl _ (by decide))).2.1]; exact h5
  · rw [(hx.2.2 602 _ c1 (hl _ (by decide))).2.1]; exact h6
  · rw [(hx.2.2 201 _ c3 (hl _ (by decide))).2.1]; exact h7
  · rw [(hx.2.2 202 _ c3 (hl _ (by decide))).1]; exact h8
  · rw [(hx.2.2 206 _ c3 (hl _ (by decide))).1]; exact h9
  · rw [(hx.2.2 0 _ c2 (hl _ (by decide))).1]; exact h10
  · rw [(hx.2.2 1 _ c2 (hl _ (by decide))).2.2.1]; exact h11
def cSh (D : cD) (E : zE) (V : kV) : Prop := kC V (dS D) = 5 ∧ kI V 402 (dS D) = nI (e_n E) ∧ (∀ s, s < 16 → cO V (kB V 400 (dS D) s) (zsrc E s)) ∧ (∀ r, r < 24 → cO V (kB V 403 (dS D) r) (4, nI (16 + r), [])) ∧ ∀ r, r < 24 → kB V 401 (dS D) r = if r < e_n E then some (dA D r) else none
theorem cSh.cg {L : List Nat} {V V2 : kV} {D : cD} {E : zE} (h : cSh D E V) (hx : vex L V V2) (hl : ∀ f ∈ [400, 401, 402, 403], f ∉ L) : cSh D E V2 := by
  obtain ⟨h1, h2, h3, h4, h5⟩ := h
  have c1 : kC V (dS D) ≠ 0 := by rw [h1]; decide
  refine ⟨(hx.1 _ c1).1.trans h1, by rw [(hx.2.2 402 _ c1 (hl _ (by decide))).1]; exact h2, fun s hs => ?_, fun r hr => ?_, fun r hr => ?_⟩
  · rw [(hx.2.2 400 _ c1 (hl _ (by decide))).2.2.2]; exact (h3 s hs).cg hx
  · rw [(hx.2.2 403 _ c1 (hl _ (by decide))).2.2.2]; exact (h4 r hr).cg hx
  · rw [(hx.2.2 401 _ c1 (hl _ (by decide))).2.2.2]; exact h5 r hr
def cRd (D : cD) (E : zE) (R : zQ) (lk w0 : Int32) (V : kV) : Prop := kC V (dO D) = 3 ∧ kR V 200 (dO D) = some (dS D) ∧ (kI V 204 (dO D) = nI (q_w R).length ∧ ∀ j, j < (q_w R).length → kA V 203 (dO D) j = nI ((q_w R).getD j 0)) ∧ kI V 205 (dO D) = q_l R + lk ∧ kI V 207 (dO D) = w0 + nI (q_w R).length ∧ kI V 208 (dO D) = (if e_f E = true then 1 else 0) ∧ kI V 209 (dO D) = nI (q_s R).length
theorem cRd.cg {L : List Nat} {V V2 : kV} {D : cD} {E : zE} {R : zQ} {lk w0 : Int32} (h : cRd D E R lk w0 V) (hx : vex L V V2) (hl : ∀ f ∈ [200, 203, 204, 205, 207, 208, 209], f ∉ L) : cRd D E R lk w0 V2 := by
  obtain ⟨h1, h2, ⟨h3, h4⟩, h5, h6, h7, h8⟩ := h
  have c1 : kC V (dO D) ≠ 0 := by rw [h1]; decide
  refine ⟨(hx.1 _ c1).1.trans h1, ?_, ⟨?_, fun j hj => ?_⟩, ?_, ?_, ?_, ?_⟩
  · rw [(hx.2.2 200 _ c1 (hl _ (by decide))).2.1]; exact h2
  · rw [(hx.2.2 204 _ c1 (hl _ (by decide))).1]; exact h3
  · rw [(hx.2.2 203 _ c1 (hl _ (by decide))).2.2.1]; exact h4 j hj
  · rw [(hx.2.2 205 _ c1 (hl _ (by decide))).1]; exact h5
  · rw [(hx.2.2 207 _ c1 (hl _ (by decide))).1]; exact h6
  · rw [(hx.2.2 208 _ c1 (hl _ (by decide))).1]; exact h7
  · rw [(hx.2.2 209 _ c1 (hl _ (by decide))).1]; exact h8
/-- what a rule is -/
def cRu (D : cD) (E : zE) (V : kV) (r : Nat) : Prop := kC V (dA D r) = 4 ∧ kI V 300 (dA D r) = nI r ∧ kI V 301 (dA D r) = e_k E r ∧ kI V 302 (dA D r) = (if e_t E r = true then 1 else 0) ∧ kI V 304 (dA D r) = nI (e_i E r).length ∧ (∀ j, j < (e_i E r).length → kA V 303 (dA D r) j = nI ((e_i E r).getD j 0)) ∧ cO V (kR V 312 (dA D r)) (2, nI r, []) ∧ cO V (kR V 313 (dA D r)) (3, nI r, [])
theorem cRu.cg {L : List Nat} {V V2 : kV} {D : cD} {E : zE} {r : Nat} (h : cRu D E V r) (hx : vex L V V2) (hl : ∀ f ∈ [300, 301, 302, 303, 304, 312, 313], f ∉ L) : cRu D E V2 r := by
  obtain ⟨h1, h2, h3, h4, h5, h6, h7, h8⟩ := h
  have c1 : kC V (dA D r) ≠ 0 := by rw [h1]; decide
  refine ⟨(hx.1 _ c1).1.trans h1, ?_, ?_, ?_, ?_, fun j hj => ?_, ?_, ?_⟩
  · rw [(hx.2.2 300 _ c1 (hl _ (by decide))).1]; exact h2
  · rw [(hx.2.2 301 _ c1 (hl _ (by decide))).1]; exact h3
  · rw [(hx.2.2 302 _ c1 (hl _ (by decide))).1]; exact h4
  · rw [(hx.2.2 304 _ c1 (hl _ (by decide))).1]; exact h5
  · rw [(hx.2.2 303 _ c1 (hl _ (by decide))).2.2.1]; exact h6 j hj
  · rw [(hx.2.2 312 _ c1 (hl _ (by decide))).2.1]; exact h7.cg hx
  · rw [(hx.2.2 313 _ c1 (hl _ (by decide))).2.1]; exact h8.cg hx
/-- a trace at a place of a rule's row -/
def cTk (V : kV) (a k : Nat) (t : zT) : Prop := ∃ y, kB V 306 a k = some y ∧ cTr V y t.1 ∧ cO V (kR V 501 y) t.2
/-- its traces; behind them, while it is open, the one that is written -/
def cTs (D : cD) (R : zQ) (sp : Nat → Option (List zR)) (V : kV) (r : Nat) : Prop := kI V 305 (dA D r) = nI (q_t R r).length ∧ (∀ k, k < (q_t R r).length → cTk V (dA D r) k ((q_t R r).getD k zt0)) ∧ (∀ k t, k < 5 → kB V 306 (dA D r) k = some t → kC V t = 6) ∧ (r ∈ q_s R → ∀ gs, sp r = some gs → ∃ t, kB V 306 (dA D r) (q_t R r).length = some t ∧ cTr V t gs)
theorem cTk.cg {L : List Nat} {V V2 : kV} {a k : Nat} {t : zT} (hc : kC V a ≠ 0) (h : cTk V a k t) (hx : vex L V V2) (hl : ∀ f ∈ [306, 500, 501, 502, 503], f ∉ L) : cTk V2 a k t := by
  obtain ⟨y, h1, h2, h3⟩ := h
  have cy : kC V y ≠ 0 := by rw [h2.1]; decide
  refine ⟨y, by rw [(hx.2.2 306 _ hc (hl _ (by decide))).2.2.2]; exact h1, h2.cg hx (fun f hf => hl f (by revert f; decide)), ?_⟩
  rw [(hx.2.2 501 _ cy (hl _ (by decide))).2.1]
  exact h3.cg hx
theorem cTs.cg {L : List Nat} {V V2 : kV} {D : cD} {R : zQ} {sp : Nat → Option (List zR)} {r : Nat} (hc : kC V (dA D r) ≠ 0) (h : cTs D R sp V r) (hx : vex L V V2) (hl : ∀ f ∈ [305, 306, 500, 501, 502, 503], f ∉ L) : cTs D R sp V2 r := by
  obtain ⟨h1, h2, h3, h4⟩ := h
  have e6 := (hx.2.2 306 _ hc (hl _ (by decide))).2.2.2
  refine ⟨by rw [(hx.2.2 305 _ hc (hl _ (by decide))).1]; exact h1, fun k hk => (h2 k hk).cg hc hx (fun f hf => hl f (by revert f; decide)), fun k t hk ht => ?_, fun hr gs hg => ?_⟩
  · rw [e6] at ht
    have := h3 k t hk ht
    rw [(hx.1 t (by rw [this]; decide)).1]
    exact this
  · obtain ⟨t, h5, h6⟩ := h4 hr gs hg
    exact ⟨t, by rw [e6]; exact h5, h6.cg hx (fun f hf => hl f (by revert f; decide))⟩
/-- the place among the open ones, from 1 on; 0 if it isn't open -/
def zpos : List Nat → Nat → Nat
  | [], _ => 0
  | a :: l, r => if a = r then l.length + 1 else zpos l r
/-- how it stands in the round -/
def cRo (D : cD) (R : zQ) (V : kV) (r : Nat) : Prop := (∀ k, k < 4 → kA V 307 (dA D r) k = q_z R r k) ∧ ((q_m R r = none → kR V 308 (dA D r) = none) ∧ ∀ o, q_m R r = some o → cO V (kR V 308 (dA D r)) o) ∧ ((q_r R r = none → kR V 309 (dA D r) = none) ∧ ∀ l, q_r R r = some l → cO V (kR V 309 (dA D r)) (zring l) ∧ rB l (kI V 310 (dA D r))) ∧ kI V 311 (dA D r) = nI (zpos (q_s R) r)
theorem cRo.cg {L : List Nat} {V V2 : kV} {D : cD} {R : zQ} {r : Nat} (c1 : kC V (dA D r) ≠ 0) (h : cRo D R V r) (hx : vex L V V2) (hl : ∀ f ∈ [307, 308, 309, 310, 311], f ∉ L) : cRo D R V2 r := by
  obtain ⟨h1, ⟨h2, h3⟩, ⟨h4, h5⟩, h6⟩ := h
  unfold cRo
  rw [(hx.2.2 307 _ c1 (hl _ (by decide))).2.2.1, (hx.2.2 308 _ c1 (hl _ (by decide))).2.1, (hx.2.2 309 _ c1 (hl _ (by decide))).2.1, (hx.2.2 310 _ c1 (hl _ (by decide))).1, (hx.2.2 311 _ c1 (hl _ (by decide))).1]
  exact ⟨h1, ⟨h2, fun o ho => (h3 o ho).cg hx⟩, ⟨h4, fun l hl => ⟨(h5 l hl).1.cg hx, (h5 l hl).2⟩⟩, h6⟩
/-- no trace is at two places -/
def cTi (D : cD) (n : Nat) (V : kV) : Prop := ∀ r r' k k' t, r < n → r' < n → k < 5 → k' < 5 → kB V 306 (dA D r) k = some t → kB V 306 (dA D r') k' = some t → r = r' ∧ k = k'
theorem cTi.cg {L : List Nat} {V V2 : kV} {D : cD} {n : Nat} (hc : ∀ r, r < n → kC V (dA D r) ≠ 0) (h : cTi D n V) (hx : vex L V V2) (hl : 306 ∉ L) : cTi D n V2 := by
  intro r r' k k' t h1 h2 h3 h4 h5 h6
  rw [(hx.2.2 306 _ (hc r h1) hl).2.2.2] at h5
  rw [(hx.2.2 306 _ (hc r' h2) hl).2.2.2] at h6
  exact h r r' k k' t h1 h2 h3 h4 h5 h6
def crep (D : cD) (E : zE) (R : zQ) (sp : Nat → Option (List zR)) (lk w0 : Int32) (V : kV) : Prop := cX D V ∧ cSh D E V ∧ cRd D E R lk w0 V ∧ (∀ r, r < e_n E → cRu D E V r ∧ cTs D R sp V r ∧ cRo D R V r) ∧ cTi D (e_n E) V
section
variable {D : cD} {E : zE} {R : zQ} {sp : Nat → Option (List zR)} {lk w0 : Int32} {V V2 : kV}
theorem crep.kc (h : crep D E R sp lk w0 V) {r : Nat} (hr : r < e_n E) : kC V (dA D r) = 4 := (h.2.2.2.1 r hr).1.1
theorem crep.k0 (h : crep D E R sp lk w0 V) {r : Nat} (hr : r < e_n E) : kC V (dA D r) ≠ 0 := by rw [h.kc hr]; decide
theorem crep.inj (hE : e_n E ≤ 24) (h : crep D E R sp lk w0 V) {r s : Nat} (hr : r < e_n E) (hs : s < e_n E) (e : dA D r = dA D s) : r = s := by
  have h1 := (h.2.2.2.1 r hr).1.2.1
  have h2 := (h.2.2.2.1 s hs).1.2.1
  rw [e, h2] at h1
  exact ((nI_eq (by omega) (by omega)).mp h1).symm
theorem crep.le (h : crep D E R sp lk w0 V) (hx : vex [] V V2) : crep D E R sp lk w0 V2 := by
  have n : ∀ (l : List Nat), ∀ f ∈ l, f ∉ ([] : List Nat) := fun _ _ _ => List.not_mem_nil
  exact ⟨h.1.cg hx (n _), h.2.1.cg hx (n _), h.2.2.1.cg hx (n _), fun r hr => ⟨(h.2.2.2.1 r hr).1.cg hx (n _), (h.2.2.2.1 r hr).2.1.cg (h.k0 hr) hx (n _), (h.2.2.2.1 r hr).2.2.cg (h.k0 hr) hx (n _)⟩, h.2.2.2.2.cg (fun r hr => h.k0 hr) hx List.not_mem_nil⟩
/-- what is written for an open rule may be forgotten -/
theorem crep.spl (h : crep D E R sp lk w0 V) {sp2 : Nat → Option (List zR)} (hs : ∀ r ∈ q_s R, sp2 r = none ∨ sp2 r = sp r) : crep D E R sp2 lk w0 V := by
  refine ⟨h.1, h.2.1, h.2.2.1, fun r hr => ⟨(h.2.2.2.1 r hr).1, ?_, (h.2.2.2.1 r hr).2.2⟩, h.2.2.2.2⟩
  obtain ⟨h1, h2, h3, h4⟩ := (h.2.2.2.1 r hr).2.1
  refine ⟨h1, h2, h3, fun hm gs hg => ?_⟩
  rcases hs r hm with e | e
  · rw [e] at hg; cases hg
  · exact h4 hm gs (by rw [← e]; exact hg)
theorem crep.looked (h : crep D E R sp lk w0 V) {x : Int32} (hx : x = kI V 205 (dO D) + 1) : crep D E R sp (lk + 1) w0 (uI V 205 (dO D) x) := by
  have v := vex.i (V := V) 205 (dO D) x
  refine ⟨h.1.cg v (by decide), h.2.1.cg v (by decide), ?_, fun r hr => ⟨(h.2.2.2.1 r hr).1.cg v (by decide), (h.2.2.2.1 r hr).2.1.cg (h.k0 hr) v (by decide), (h.2.2.2.1 r hr).2.2.cg (h.k0 hr) v (by decide)⟩, h.2.2.2.2.cg (fun r hr => h.k0 hr) v (by decide)⟩
  obtain ⟨h1, h2, ⟨h3, h4⟩, h5, h6, h7, h8⟩ := h.2.2.1
  refine ⟨h1, h2, ⟨h3, h4⟩, ?_, h6, h7, h8⟩
  rw [kI_uI, if_pos ⟨rfl, rfl⟩, hx, h5, Int32.add_assoc]
theorem crep.stale (hE : e_n E ≤ 24) (h : crep D E R sp lk w0 V) {r k : Nat} {x : Int32} (hr : r < e_n E) : crep D E (q_stale R r k x) sp lk w0 (uA V 307 (dA D r) k x) := by
  have v := vex.a (V := V) 307 (dA D r) k x
  refine ⟨h.1.cg v (by decide), h.2.1.cg v (by decide), h.2.2.1.cg v (by decide), fun s hs => ⟨(h.2.2.2.1 s hs).1.cg v (by decide), (h.2.2.2.1 s hs).2.1.cg (h.k0 hs) v (by decide), ?_⟩, h.2.2.2.2.cg (fun r hr => h.k0 hr) v (by decide)⟩
  obtain ⟨h1, h2, h3, h4⟩ := (h.2.2.2.1 s hs).2.2
  refine ⟨fun j hj => ?_, h2, h3, h4⟩
  rw [kA_uA]
  show _ = va_up (q_z R) r (va_up (q_z R r) k x) s j
  by_cases e : s = r
  · subst e
    rw [if_pos ⟨rfl, rfl⟩, va_up_self]
    unfold upd va_up
    split
    · rfl
    · exact h1 j hj
  · rw [if_neg (fun z => e (h.inj hE hs hr z.2)), va_up_ne _ _ e]
    exact h1 j hj
theorem crep.push (hE : e_n E ≤ 24) (h : crep D E R sp lk w0 V) {r : Nat} (hr : r < e_n E) (hn : r ∉ q_s R) : crep D E (q_push R r) (va_up sp r none) lk w0 (uI (uI V 209 (dO D) (nI ((q_s R).length + 1))) 311 (dA D r) (nI ((q_s R).length + 1))) := by
  have v : vex [209, 311] V (uI (uI V 209 (dO D) (nI ((q_s R).length + 1))) 311 (dA D r) (nI ((q_s R).length + 1))) := (vex.i 209 (dO D) _).tr (vex.i 311 (dA D r) _) (fun f hf => fun z => hf (by rw [List.mem_singleton.mp z]; decide)) (fun f hf => fun z => hf (by rw [List.mem_singleton.mp z]; decide))
  refine ⟨h.1.cg v (by decide), h.2.1.cg v (by decide), ?_, fun s hs => ⟨(h.2.2.2.1 s hs).1.cg v (by decide), ?_, ?_⟩, h.2.2.2.2.cg (fun r hr => h.k0 hr) v (by decide)⟩
  · obtain ⟨h1, h2, ⟨h3, h4⟩, h5, h6, h7, h8⟩ := h.2.2.1
    refine ⟨h1, h2, ⟨h3, h4⟩, h5, h6, h7, ?_⟩
    show (if 209 = 209 ∧ dO D = dO D then nI ((q_s R).length + 1) else _) = _
    rw [if_pos ⟨rfl, rfl⟩]
    rfl
  · obtain ⟨h1, h2, h3, h4⟩ := (h.2.2.2.1 s hs).2.1.cg (h.k0 hs) v (by decide)
    refine ⟨h1, h2, h3, fun hm gs hg => ?_⟩
    by_cases e : s = r
    · rw [e, va_up_self] at hg; cases hg
    · rw [va_up_ne _ _ e] at hg
      refine h4 ?_ gs hg
      rcases List.mem_cons.mp hm with e' | e'
      · exact absurd e' e
      · exact e'
  · obtain ⟨h1, h2, h3, h4⟩ := (h.2.2.2.1 s hs).2.2
    refine ⟨h1, h2, h3, ?_⟩
    rw [kI_uI]
    show _ = nI (if r = s then (q_s R).length + 1 else zpos (q_s R) s)
    by_cases e : s = r
    · subst e
      rw [if_pos ⟨rfl, rfl⟩, if_pos rfl]
    · rw [if_neg (fun z => e (h.inj hE hs hr z.2)), if_neg (fun z => e z.symm)]
      exact h4
theorem crep.close (hE : e_n E ≤ 24) (h : crep D E R sp lk w0 V) {r a n : Nat} {s : List Nat} {o : zO} (hr : r < e_n E) (hs : q_s R = r :: s) (hnd : (q_s R).Nodup) (ha : kO V a = some o) : crep D E (q_close R r o) sp lk w0 (uI (uI (uR V 308 (dA D r) (some a)) 311 (dA D r) 0) 209 (dO D) (nI s.length)) := by
  have v : vex [308, 311, 209] V (uI (uI (uR V 308 (dA D r) (some a)) 311 (dA D r) 0) 209 (dO D) (nI s.length)) := ((vex.r 308 (dA D r) _).tr (L := [308, 311]) (vex.i 311 (dA D r) _) (fun f hf => fun z => hf (by rw [List.mem_singleton.mp z]; decide)) (fun f hf => fun z => hf (by rw [List.mem_singleton.mp z]; decide))).tr (vex.i 209 (dO D) _) (fun f hf => fun z => hf (by rcases List.mem_cons.mp z with z | z; rw [z]; decide; rw [List.mem_singleton.mp z]; decide)) (fun f hf => fun z => hf (by rw [List.mem_singleton.mp z]; decide))
  have hq : q_s (q_close R r o) = s := by
    show (q_s R).tail = s
    rw [hs]
    rfl
  have hrs : r ∉ s := by
    rw [hs] at hnd
    exact (List.nodup_cons.mp hnd).1
  have hp : ∀ x, x ≠ r → zpos (q_s R) x = zpos s x := fun x hx => by
    rw [hs]
    exact if_neg (fun z => hx z.symm)
  have hp0 : ∀ (l : List Nat), r ∉ l → zpos l r = 0 := by
    intro l
    induction l with
    | nil => intro _; rfl
    | cons b l ih =>
      intro hb
      show (if b = r then l.length + 1 else zpos l r) = 0
      rw [if_neg (fun z => hb (by rw [z]; exact List.mem_cons_self))]
      exact ih (fun z => hb (List.mem_cons_of_mem _ z))
  refine ⟨h.1.cg v (by decide), h.2.1.cg v (by decide), ?_, fun x hx => ⟨(h.2.2.2.1 x hx).1.cg v (by decide), ?_, ?_⟩, h.2.2.2.2.cg (fun r hr => h.k0 hr) v (by decide)⟩
  · obtain ⟨h1, h2, ⟨h3, h4⟩, h5, h6, h7, h8⟩ := h.2.2.1
    refine ⟨h1, h2, ⟨h3, h4⟩, h5, h6, h7, ?_⟩
    rw [hq, kI_uI, if_pos ⟨rfl, rfl⟩]
  · obtain ⟨h1, h2, h3, h4⟩ := (h.2.2.2.1 x hx).2.1.cg (h.k0 hx) v (by decide)
    exact ⟨h1, h2, h3, fun hm gs hg => h4 (by rw [hq] at hm; rw [hs]; exact List.mem_cons_of_mem _ hm) gs hg⟩
  · obtain ⟨h1, ⟨h2, h3⟩, ⟨h4, h5⟩, h6⟩ := (h.2.2.2.1 x hx).2.2
    refine ⟨h1, ?_, ⟨h4, h5⟩, ?_⟩
    · show (va_up (q_m R) r (some o) x = none → (if 308 = 308 ∧ dA D x = dA D r then some a else kR V 308 (dA D x)) = none) ∧ ∀ p, va_up (q_m R) r (some o) x = some p → cO V (if 308 = 308 ∧ dA D x = dA D r then some a else kR V 308 (dA D x)) p
      by_cases e : x = r
      · subst e
        rw [va_up_self, if_pos ⟨rfl, rfl⟩]
        exact ⟨(fun z => by cases z), fun p hp => (by cases hp; exact ⟨a, rfl, ha⟩)⟩
      · rw [va_up_ne _ _ e, if_neg (fun z => e (h.inj hE hx hr z.2))]
        exact ⟨h2, h3⟩
    · rw [hq]
      show (if 311 = 311 ∧ dA D x = dA D r then 0 else kI V 311 (dA D x)) = nI (zpos s x)
      by_cases e : x = r
      · subst e
        rw [if_pos ⟨rfl, rfl⟩, hp0 s hrs]
        rfl
      · rw [if_neg (fun z => e (h.inj hE hx hr z.2)), ← hp x e]
        exact h6
theorem crep.note (h : crep D E R sp lk w0 V) {r : Nat} (hl : (q_w R).length < 24) : crep D E (q_note R r) sp lk w0 (uI (uA (uI V 207 (dO D) (kI V 207 (dO D) + 1)) 203 (dO D) (q_w R).length (nI r)) 204 (dO D) (nI ((q_w R).length + 1))) := by
  have v : vex [207, 203, 204] V (uI (uA (uI V 207 (dO D) (kI V 207 (dO D) + 1)) 203 (dO D) (q_w R).length (nI r)) 204 (dO D) (nI ((q_w R).length + 1))) := ((vex.i 207 (dO D) _).tr (L := [207, 203]) (vex.a 203 (dO D) _ _) (fun f hf => fun z => hf (by rw [List.mem_singleton.mp z]; decide)) (fun f hf => fun z => hf (by rw [List.mem_singleton.mp z]; decide))).tr (vex.i 204 (dO D) _) (fun f hf => fun z => hf (by rcases List.mem_cons.mp z with z | z; rw [z]; decide; rw [List.mem_singleton.mp z]; decide)) (fun f hf => fun z => hf (by rw [List.mem_singleton.mp z]; decide))
  refine ⟨h.1.cg v (by decide), h.2.1.cg v (by decide), ?_, fun x hx => ⟨(h.2.2.2.1 x hx).1.cg v (by decide), (h.2.2.2.1 x hx).2.1.cg (h.k0 hx) v (by decide), (h.2.2.2.1 x hx).2.2.cg (h.k0 hx) v (by decide)⟩, h.2.2.2.2.cg (fun r hr => h.k0 hr) v (by decide)⟩
  obtain ⟨h1, h2, ⟨h3, h4⟩, h5, h6, h7, h8⟩ := h.2.2.1
  have hn : (q_w (q_note R r)).length = (q_w R).length + 1 := by
    show (q_w R ++ [r]).length = _
    rw [List.length_append]
    rfl
  refine ⟨h1, h2, ⟨by rw [hn, kI_uI, if_pos ⟨rfl, rfl⟩], fun j hj => ?_⟩, h5, ?_, h7, h8⟩
  · rw [hn] at hj
    show (if 203 = 203 ∧ dO D = dO D then upd (kA V 203 (dO D)) (q_w R).length (nI r) else kA V 203 (dO D)) j = nI ((q_w R ++ [r]).getD j 0)
    rw [if_pos ⟨rfl, rfl⟩]
    unfold upd
    split
    · next e =>
      subst e
      rw [List.getD_eq_getElem?_getD, List.getElem?_append_right (Nat.le_refl _), Nat.sub_self]
      rfl
    · next e =>
      rw [List.getD_eq_getElem?_getD, List.getElem?_append_left (by omega), ← List.getD_eq_getElem?_getD]
      exact h4 j (by omega)
  · rw [hn]
    show (if 207 = 207 ∧ dO D = dO D then kI V 207 (dO D) + 1 else kI V 207 (dO D)) = _
    rw [if_pos ⟨rfl, rfl⟩, h6, Int32.add_assoc, nI_1]
end
