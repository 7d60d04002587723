/-! THE CLASS between calls -/
def cBs (D : cD) (V : kV) : Prop := kC V (dX D) = 7 ∧ kC V (dF D) = 1 ∧ kC V (dO D) = 3 ∧ kR V 600 (dX D) = some (dF D) ∧ kR V 601 (dX D) = some (dO D) ∧ kR V 602 (dX D) = some (dS D)
def cR0 (D : cD) (A : zB) (V : kV) : Prop := kR V 200 (dO D) = some (dS D) ∧ (kI V 204 (dO D) = nI (q_w (b_q A)).length ∧ ∀ j, j < (q_w (b_q A)).length → kA V 203 (dO D) j = nI ((q_w (b_q A)).getD j 0)) ∧ kI V 205 (dO D) = q_l (b_q A) ∧ kI V 207 (dO D) = b_w A + nI (q_w (b_q A)).length ∧ kI V 209 (dO D) = 0 ∧ kI V 206 (dO D) = b_m A
def cLs (D : cD) (L : Option (zO × List Nat)) (V : kV) : Prop := match L with
  | none => kR V 201 (dO D) = none ∧ rB0 [] (kI V 202 (dO D))
  | some p => cO V (kR V 201 (dO D)) p.1 ∧ rB0 p.2 (kI V 202 (dO D))
def cRl (D : cD) (E : zE) (R : zQ) (V : kV) (r : Nat) : Prop := cRu D E V r ∧ cTs D R (fun _ => none) V r ∧ (∀ k, k < 4 → kA V 307 (dA D r) k = q_z R r k) ∧ kI V 311 (dA D r) = 0
def cFi (D : cD) (A : zB) (V : kV) : Prop := kI V 0 (dF D) = b_t A ∧ ∀ k, k < 5 → kA V 1 (dF D) k = b_f A k
def cRs (D : cD) (A : zB) (V : kV) : Prop := cBs D V ∧ cSh D (b_e A) V ∧ cR0 D A V ∧ cLs D (b_l A) V ∧ (∀ r, r < e_n (b_e A) → cRl D (b_e A) (b_q A) V r) ∧ cTi D (e_n (b_e A)) V ∧ cFi D A V ∧ ∀ r, r < e_n (b_e A) → 1 ≤ e_k (b_e A) r ∧ e_k (b_e A) r ≤ 6
section
variable {L : List Nat} {D : cD} {A : zB} {V V2 : kV}
theorem cBs.cg (h : cBs D V) (hx : vex L V V2) (hl : ∀ f ∈ [600, 601, 602], f ∉ L) : cBs D V2 := by
  obtain ⟨h1, h2, h3, h4, h5, h6⟩ := h
  have c1 : kC V (dX D) ≠ 0 := by rw [h1]; decide
  have c2 : kC V (dF D) ≠ 0 := by rw [h2]; decide
  have c3 : kC V (dO D) ≠ 0 := by rw [h3]; decide
  refine ⟨(hx.1 _ c1).1.trans h1, (hx.1 _ c2).1.trans h2, (hx.1 _ c3).1.trans h3, ?_, ?_, ?_⟩
  · rw [(hx.2.2 600 _ c1 (hl _ (by decide))).2.1]; exact h4
  · rw [(hx.2.2 601 _ c1 (hl _ (by decide))).2.1]; exact h5
  · rw [(hx.2.2 602 _ c1 (hl _ (by decide))).2.1]; exact h6
theorem cR0.cg (c1 : kC V (dO D) ≠ 0) (h : cR0 D A V) (hx : vex L V V2) (hl : ∀ f ∈ [200, 203, 204, 205, 206, 207, 209], f ∉ L) : cR0 D A V2 := by
  obtain ⟨h2, ⟨h3, h4⟩, h5, h6, h7, h8⟩ := h
  refine ⟨?_, ⟨?_, fun j hj => ?_⟩, ?_, ?_, ?_, ?_⟩
  · rw [(hx.2.2 200 _ c1 (hl _ (by decide))).2.1]; exact h2
  · rw [(hx.2.2 204 _ c1 (hl _ (by decide))).1]; exact h3
  · rw [(hx.2.2 203 _ c1 (hl _ (by decide))).2.2.1]; exact h4 j hj
  · rw [(hx.2.2 205 _ c1 (hl _ (by decide))).1]; exact h5
  · rw [(hx.2.2 207 _ c1 (hl _ (by decide))).1]; exact h6
  · rw [(hx.2.2 209 _ c1 (hl _ (by decide))).1]; exact h7
  · rw [(hx.2.2 206 _ c1 (hl _ (by decide))).1]; exact h8
theorem cLs.cg {M : Option (zO × List Nat)} (c1 : kC V (dO D) ≠ 0) (h : cLs D M V) (hx : vex L V V2) (hl : ∀ f ∈ [201, 202], f ∉ L) : cLs D M V2 := by
  have e1 := (hx.2.2 201 _ c1 (hl _ (by decide))).2.1
  have e2 := (hx.2.2 202 _ c1 (hl _ (by decide))).1
  cases M with
  | none => exact ⟨by rw [e1]; exact h.1, by rw [e2]; exact h.2⟩
  | some p => exact ⟨by rw [e1]; exact h.1.cg hx, by rw [e2]; exact h.2⟩
theorem cRl.cg {E : zE} {R : zQ} {r : Nat} (h : cRl D E R V r) (hx : vex L V V2) (hl : ∀ f ∈ [300, 301, 302, 303, 304, 305, 306, 307, 311, 312, 313, 500, 501, 502, 503], f ∉ L) : cRl D E R V2 r := by
  obtain ⟨h1, h2, h3, h4⟩ := h
  have c1 : kC V (dA D r) ≠ 0 := by rw [h1.1]; decide
  refine ⟨h1.cg hx (fun f hf => hl f (by simp only [List.mem_cons, List.not_mem_nil, or_false] at hf ⊢; omega)), h2.cg c1 hx (fun f hf => hl f (by simp only [List.mem_cons, List.not_mem_nil, or_false] at hf ⊢; omega)), ?_, ?_⟩
  · rw [(hx.2.2 307 _ c1 (hl _ (by decide))).2.2.1]; exact h3
  · rw [(hx.2.2 311 _ c1 (hl _ (by decide))).1]; exact h4
theorem cFi.cg (c1 : kC V (dF D) ≠ 0) (h : cFi D A V) (hx : vex L V V2) (hl : ∀ f ∈ [0, 1], f ∉ L) : cFi D A V2 := by
  refine ⟨?_, ?_⟩
  · rw [(hx.2.2 0 _ c1 (hl _ (by decide))).1]; exact h.1
  · rw [(hx.2.2 1 _ c1 (hl _ (by decide))).2.2.1]; exact h.2
theorem cRs.o0 (h : cRs D A V) : kC V (dO D) ≠ 0 := by rw [h.1.2.2.1]; decide
theorem cRs.f0 (h : cRs D A V) : kC V (dF D) ≠ 0 := by rw [h.1.2.1]; decide
theorem cRs.k0 (h : cRs D A V) {r : Nat} (hr : r < e_n (b_e A)) : kC V (dA D r) ≠ 0 := by rw [(h.2.2.2.2.1 r hr).1.1]; decide
theorem cRs.kc (h : cRs D A V) {r : Nat} (hr : r < e_n (b_e A)) : kC V (dA D r) = 4 := (h.2.2.2.2.1 r hr).1.1
theorem cRs.inj (hE : e_n (b_e A) ≤ 24) (h : cRs D A V) {r s : Nat} (hr : r < e_n (b_e A)) (hs : s < e_n (b_e A)) (e : dA D r = dA D s) : r = s := by
  have h1 := (h.2.2.2.2.1 r hr).1.2.1
  have h2 := (h.2.2.2.2.1 s hs).1.2.1
  rw [e, h2] at h1
  exact ((nI_eq (by omega) (by omega)).mp h1).symm
theorem cRs.le (h : cRs D A V) (hx : vex [] V V2) : cRs D A V2 := by
  have n : ∀ (l : List Nat), ∀ f ∈ l, f ∉ ([] : List Nat) := fun _ _ _ => List.not_mem_nil
  exact ⟨h.1.cg hx (n _), h.2.1.cg hx (n _), h.2.2.1.cg h.o0 hx (n _), h.2.2.2.1.cg h.o0 hx (n _), fun r hr => (h.2.2.2.2.1 r hr).cg hx (n _), h.2.2.2.2.2.1.cg (fun r hr => h.k0 hr) hx List.not_mem_nil, h.2.2.2.2.2.2.1.cg h.f0 hx (n _), h.2.2.2.2.2.2.2⟩
/-- a finding -/
theorem cRs.find (h : cRs D A V) {k : Nat} (hk : k < 5) : cRs D (b_find A k).2 (uA (uI V 0 (dF D) (nI k)) 1 (dF D) k (kA V 1 (dF D) k + 1)) := by
  have v : vex [0, 1] V (uA (uI V 0 (dF D) (nI k)) 1 (dF D) k (kA V 1 (dF D) k + 1)) := (vex.i 0 (dF D) _).tr (vex.a 1 (dF D) _ _) (fun f hf z => hf (by rw [List.mem_singleton.mp z]; decide)) (fun f hf z => hf (by rw [List.mem_singleton.mp z]; decide))
  refine ⟨h.1.cg v (by decide), h.2.1.cg v (by decide), h.2.2.1.cg h.o0 v (by decide), h.2.2.2.1.cg h.o0 v (by decide), fun r hr => (h.2.2.2.2.1 r hr).cg v (by decide), h.2.2.2.2.2.1.cg (fun r hr => h.k0 hr) v (by decide), ⟨?_, fun j hj => ?_⟩, h.2.2.2.2.2.2.2⟩
  · show (if 0 = 0 ∧ dF D = dF D then nI k else _) = nI k
    rw [if_pos ⟨rfl, rfl⟩]
  · rw [kA_uA, if_pos ⟨rfl, rfl⟩]
    show upd (kA V 1 (dF D)) k (kA V 1 (dF D) k + 1) j = va_up (b_f A) k (b_f A k + 1) j
    unfold upd va_up
    by_cases e : j = k
    · rw [if_pos e, if_pos e, h.2.2.2.2.2.2.1.2 k hk]
    · rw [if_neg e, if_neg e]
      exact h.2.2.2.2.2.2.1.2 j hj
/-- a source is another one -/
theorem cRs.src (h : cRs D A V) {s a : Nat} {o : Option (List Int32)} (hs : s < 16) (ha : kO V a = some (match o with | some l => (0, 0, l) | none => (1, nI s, []))) : cRs D (b_src A s o) (uB V 400 (dS D) s (some a)) := by
  have v := vex.b (V := V) 400 (dS D) s (some a)
  have e1 : e_n (b_e (b_src A s o)) = e_n (b_e A) := rfl
  refine ⟨h.1.cg v (by decide), ?_, h.2.2.1.cg h.o0 v (by decide), h.2.2.2.1.cg h.o0 v (by decide), fun r hr => (h.2.2.2.2.1 r hr).cg v (by decide), h.2.2.2.2.2.1.cg (fun r hr => h.k0 hr) v (by decide), h.2.2.2.2.2.2.1.cg h.f0 v (by decide), h.2.2.2.2.2.2.2⟩
  obtain ⟨h1, h2, h3, h4, h5⟩ := h.2.1
  refine ⟨h1, h2, fun x hx => ?_, h4, h5⟩
  rw [kB_uB, if_pos ⟨rfl, rfl⟩]
  show cO V (va_up (kB V 400 (dS D)) s (some a) x) (zsrc (b_e (b_src A s o)) x)
  by_cases e : x = s
  · subst e
    rw [va_up_self]
    refine ⟨a, rfl, ?_⟩
    rw [ha]
    unfold zsrc
    rw [show e_s (b_e (b_src A x o)) x = o from va_up_self _ _ _]
    cases o <;> rfl
  · rw [va_up_ne _ _ e]
    have := h3 x hx
    unfold zsrc at this ⊢
    rw [show e_s (b_e (b_src A s o)) x = e_s (b_e A) x from va_up_ne _ _ e]
    exact this
end
section
variable {D : cD} {A : zB}
/-- what a call of the class must come to -/
def cQ (D : cD) (p : Int32 × zB) (Q : Option sV → kV → Prop) : Prop := ∀ V2 D2, dX D2 = dX D → cRs D2 p.2 V2 → Q (some (sI p.1)) V2
theorem c_add {d : Nat} {Fg : Nat → Prop} {h0 : hp} {V : kV} {bc bs : Nat} {Q : Option sV → kV → Prop} {x : Int32} (k : Nat) (hx : x = nI k) (hk : k < 5) (h : cRs D A V) (hQ : cQ D (b_find A k) Q) : cM (d + 1) Fg h0 1 [sR (some (dF D)), sI x] V bc bs Q := by
  subst hx
  refine cM_of (ls := [sR (some (dF D)), sI (nI k)]) rfl (Nat.le_of_ble_eq_true rfl) rfl ?_
  refine bX0_add_0 h.1.2.1 (vin k rfl hk (by decide)) ?_
  rw [nix k rfl (by omega)]
  exact hQ _ D rfl (h.find hk)
theorem c_src {d : Nat} {Fg : Nat → Prop} {h0 : hp} {V : kV} {bc bs : Nat} {Q : Option sV → kV → Prop} {x : Int32} (h : cRs D A V) (hQ1 : zdec x 16 = none → Q (some (sR none)) V) (hQ2 : ∀ s a, zdec x 16 = some s → kO V a = some (zsrc (b_e A) s) → Q (some (sR (some a))) V) : cM (d + 1) Fg h0 32 [sR (some (dS D)), sI x] V bc bs Q := by
  refine c_sourceAt h.2.1.1 ?_
  cases hz : zdec x 16 with
  | none => exact hQ1 hz
  | some s =>
    obtain ⟨a, a1, a2⟩ := h.2.1.2.2.1 s (zdec_some (by decide) hz).1
    dsimp only
    rw [a1]
    exact hQ2 s a hz a2
theorem zsrc_fail (E : zE) (s : Nat) : ((zsrc E s).1 = 0 ↔ ∃ l, e_s E s = some l) ∧ ∀ l, e_s E s = some l → zsrc E s = (0, 0, l) := by
  unfold zsrc
  cases e_s E s with
  | none => exact ⟨⟨fun h => absurd (show (1 : Int32) = 0 from h) (by decide), fun ⟨l, h⟩ => by cases h⟩, fun l h => by cases h⟩
  | some l => exact ⟨⟨fun _ => ⟨l, rfl⟩, fun _ => rfl⟩, fun l' h => by cases h; rfl⟩
theorem c_putRow {d : Nat} {Fg : Nat → Prop} {h0 : hp} {V : kV} {bc bs : Nat} {Q : Option sV → kV → Prop} {s b n : Nat} {g : Nat → Int32} {l : List Int32} (h : cRs D A V) (hs : s < 16) (hb : kW V b = some (n, g)) (hn : n = l.length) (hg : ∀ j, j < l.length → g j = l.getD j 0) (hbc : 1 ≤ bc) (hbs : 3 ≤ bs) (hQ : ∀ V2, cRs D (b_src A s (some l)) V2 → Q none V2) : cM (d + 2) Fg h0 33 [sR (some (dS D)), sI (nI s), sR (some b)] V bc bs Q := by
  refine cM_of (ls := [sR (some (dS D)), sI (nI s), sR (some b)]) rfl (Nat.le_of_ble_eq_true rfl) rfl ?_
  have c5 := h.2.1.1
  have c50 : kC V (dS D) ≠ 0 := by rw [c5]; decide
  refine bX4_putRow_0 c5 hbc hbs (fun y hy => ?_)
  refine bX4_putRow_8 (bc1 := 0) (bs1 := 0) (P := fun v W => v = none ∧ W = uDone (uN V y 2) y (0, 0, l) b) (c_Oinit (o := (0, 0, l)) (va_up_self _ _ _) hb hn hg ⟨rfl, rfl⟩) (Nat.zero_le _) (Nat.zero_le _) ?_
  rintro v W ⟨rfl, rfl⟩
  obtain ⟨u1, u2⟩ := vex.done (o := (0, 0, l)) (b := b) hy vex.rf
  rw [← (u1.1 _ c50).2 400]
  refine bX4_putRow_15 (vin s rfl hs (by decide)) (fun x hx => by cases hx; exact ⟨_, u2⟩) ((u1.1 _ c50).1.trans c5) ?_
  rw [nix s rfl (by omega)]
  exact hQ _ ((h.le u1).src (o := some l) hs u2)
theorem c_source {d : Nat} {Fg : Nat → Prop} {h0 : hp} {V : kV} {bc bs : Nat} {Q : Option sV → kV → Prop} {s n : Int32} (h : cRs D A V) (hbc : 300 ≤ bc) (hbs : 3000 ≤ bs) (hQ : cQ D (o_source A s n) Q) : cM (d + 9) Fg h0 45 [sR (some (dX D)), sI s, sI n] V bc bs Q := by
  obtain ⟨x7, -, -, x0, x1, x2⟩ := h.1
  refine cM_of (ls := [sR (some (dX D)), sI s, sI n]) rfl (Nat.le_of_ble_eq_true rfl) rfl ?_
  unfold o_source at hQ
  cases hz : zdec s 16 with
  | none =>
    simp only [hz] at hQ
    refine bX6_source_0 (bc1 := 0) (bs1 := 0) (P := fun v W => v = some (sR none) ∧ W = V) x2 x7 h.2.1.1 (cM_le (by omega) (c_src (d := 0) h (fun _ => ⟨rfl, rfl⟩) (fun s' a e _ => by rw [hz] at e; cases e))) (Nat.zero_le _) (Nat.zero_le _) ?_
    rintro v W ⟨rfl, rfl⟩
    exact bX6_source_8 (fun z => absurd rfl z) (fun _ => bX6_source_11 (hQ _ D rfl h))
  | some s' =>
    simp only [hz] at hQ
    obtain ⟨s16, rfl⟩ := zdec_some (by decide) hz
    refine bX6_source_0 (bc1 := 0) (bs1 := 0) (P := fun v W => (∃ a, v = some (sR (some a))) ∧ W = V) x2 x7 h.2.1.1 (cM_le (by omega) (c_src (d := 0) h (fun e => by rw [hz] at e; cases e) (fun s' a e _ => ⟨⟨a, rfl⟩, rfl⟩))) (Nat.zero_le _) (Nat.zero_le _) ?_
    rintro v W ⟨⟨a, rfl⟩, rfl⟩
    refine bX6_source_8 (fun _ => ?_) (fun z => by cases z)
    refine bX6_source_13 (fun z => ?_) (fun z => ?_)
    · rw [if_neg (by simpa using z)] at hQ
      cases hn : zdec n 17 with
      | none =>
        simp only [hn] at hQ
        have h17 : nI 17 ≤ n := (zdec_none hn).resolve_left (by simpa using z)
        exact bX6_source_26 (fun y => absurd (show nI 17 ≤ nI 16 from Int32.le_trans h17 y) (by decide)) (fun _ => bX6_source_32 (hQ _ D rfl h))
      | some n' =>
        simp only [hn] at hQ
        obtain ⟨n17, rfl⟩ := zdec_some (by decide) hn
        refine bX6_source_26 (fun _ => ?_) (fun y => absurd (by rw [nI16]; exact nI_le (by omega) (by omega)) y)
        refine bX6_source_34 (N := n') x7 (nI_pos (by omega)) (nI_clamp (by omega)) (by omega) (by omega) (by omega) (fun y hy => ?_)
        rw [x2]
        refine bX6_source_42 (bc1 := 1) (bs1 := 3) (P := fun v V2 => v = none ∧ cRs D (b_src A s' (some (List.replicate n' 0))) V2) h.2.1.1 (cM_le (by omega) (c_putRow (d := 0) (l := List.replicate n' 0) (h.le (vex.w y _)) s16 (va_up_self _ _ _) (by rw [List.length_replicate]) (fun j hj => ?_) (Nat.le_refl _) (Nat.le_refl _) (fun V2 h2 => ⟨rfl, h2⟩))) (by omega) (by omega) ?_
        · rw [List.length_replicate] at hj
          rw [List.getD_eq_getElem?_getD, List.getElem?_replicate, if_pos hj]
          rfl
        rintro v V2 ⟨rfl, h2⟩
        exact bX6_source_45 (hQ _ D rfl h2)
    · rw [if_pos (by simpa using z)] at hQ
      refine bX6_source_17 (bc1 := 0) (bs1 := 0) (P := fun v V2 => ∃ D2, v = some (sI (b_find A 3).1) ∧ dX D2 = dX D ∧ cRs D2 (b_find A 3).2 V2) x0 x7 h.1.2.1 (cM_le (by omega) (c_add (d := 0) 3 rfl (by decide) h (fun V2 D2 e h2 => ⟨D2, rfl, e, h2⟩))) (Nat.zero_le _) (Nat.zero_le _) ?_
      rintro v V2 ⟨D2, rfl, e, h2⟩
      exact bX6_source_25 (hQ _ D2 e h2)
theorem c_size {d : Nat} {Fg : Nat → Prop} {h0 : hp} {V : kV} {bc bs : Nat} {Q : Option sV → kV → Prop} {s : Int32} (hA : zBok A) (h : cRs D A V) (hQ : cQ D (o_size A s) Q) : cM (d + 9) Fg h0 49 [sR (some (dX D)), sI s] V bc bs Q := by
  obtain ⟨x7, -, -, x0, x1, x2⟩ := h.1
  refine cM_of (ls := [sR (some (dX D)), sI s, sU]) rfl (Nat.le_of_ble_eq_true rfl) rfl ?_
  unfold o_size at hQ
  have add : ∀ (k : Nat), k < 5 → cM 1 Fg h0 1 [sR (some (dF D)), sI (nI k)] V 0 0 (fun v V2 => ∃ D2, v = some (sI (b_find A k).1) ∧ dX D2 = dX D ∧ cRs D2 (b_find A k).2 V2) := fun k hk => c_add (d := 0) k rfl hk h (fun V2 D2 e h2 => ⟨D2, rfl, e, h2⟩)
  cases hz : zdec s 16 with
  | none =>
    simp only [hz] at hQ
    refine bX6_size_0 (bc1 := 0) (bs1 := 0) (P := fun v W => v = some (sR none) ∧ W = V) x2 x7 h.2.1.1 (cM_le (by omega) (c_src (d := 0) h (fun _ => ⟨rfl, rfl⟩) (fun s' a e _ => by rw [hz] at e; cases e))) (Nat.zero_le _) (Nat.zero_le _) ?_
    rintro v W ⟨rfl, rfl⟩
    refine bX6_size_8 (fun z => absurd rfl z) (fun _ => ?_)
    refine bX6_size_13 (bc1 := 0) (bs1 := 0) x0 x7 h.1.2.1 (cM_le (by omega) (add 2 (by decide))) (Nat.zero_le _) (Nat.zero_le _) ?_
    rintro v V2 ⟨D2, rfl, e, h2⟩
    exact bX6_size_21 (hQ _ D2 e h2)
  | some s' =>
    simp only [hz] at hQ
    refine bX6_size_0 (bc1 := 0) (bs1 := 0) (P := fun v W => (∃ a, v = some (sR (some a)) ∧ kO V a = some (zsrc (b_e A) s')) ∧ W = V) x2 x7 h.2.1.1 (cM_le (by omega) (c_src (d := 0) h (fun e => by rw [hz] at e; cases e) (fun s2 a e ha => by rw [hz] at e; cases e; exact ⟨⟨a, rfl, ha⟩, rfl⟩))) (Nat.zero_le _) (Nat.zero_le _) ?_
    rintro v W ⟨⟨a, rfl, ha⟩, rfl⟩
    refine bX6_size_8 (fun _ => ?_) (fun z => by cases z)
    refine bX6_size_22 (bc1 := 0) (bs1 := 0) (P := fun v V2 => v = some (sI (if (zsrc (b_e A) s').1 = 0 then 0 else 1)) ∧ V2 = W) ha (cM_le (by omega) (c_isFailure (d := 0) ha ⟨rfl, rfl⟩)) (Nat.zero_le _) (Nat.zero_le _) ?_
    rintro v V2 ⟨rfl, rfl⟩
    cases hl : e_s (b_e A) s' with
    | none =>
      simp only [hl] at hQ
      rw [if_neg (fun z => by obtain ⟨l, hl2⟩ := (zsrc_fail _ _).1.mp z; rw [hl] at hl2; cases hl2)]
      refine bX6_size_26 (fun z => by cases z) (fun _ => ?_)
      refine bX6_size_29 (bc1 := 0) (bs1 := 0) x0 x7 h.1.2.1 (cM_le (by omega) (add 1 (by decide))) (Nat.zero_le _) (Nat.zero_le _) ?_
      rintro v V2 ⟨D2, rfl, e, h2⟩
      exact bX6_size_37 (hQ _ D2 e h2)
    | some l =>
      simp only [hl] at hQ
      rw [(zsrc_fail _ _).2 l hl] at ha ⊢
      exact bX6_size_26 (fun _ => bX6_size_38 ha (hQ _ D rfl h)) (fun z => absurd rfl z)
theorem c_told {d : Nat} {Fg : Nat → Prop} {h0 : hp} {V : kV} {bc bs : Nat} {Q : Option sV → kV → Prop} {s i : Int32} (hA : zBok A) (h : cRs D A V) (hQ : cQ D (o_told A s i) Q) : cM (d + 9) Fg h0 50 [sR (some (dX D)), sI s, sI i] V bc bs Q := by
  obtain ⟨x7, -, -, x0, x1, x2⟩ := h.1
  refine cM_of (ls := [sR (some (dX D)), sI s, sI i, sU]) rfl (Nat.le_of_ble_eq_true rfl) rfl ?_
  unfold o_told at hQ
  cases hz : zdec s 16 with
  | none =>
    simp only [hz] at hQ
    refine bX6_told_0 (bc1 := 0) (bs1 := 0) (P := fun v W => v = some (sR none) ∧ W = V) x2 x7 h.2.1.1 (cM_le (by omega) (c_src (d := 0) h (fun _ => ⟨rfl, rfl⟩) (fun s' a e _ => by rw [hz] at e; cases e))) (Nat.zero_le _) (Nat.zero_le _) ?_
    rintro v W ⟨rfl, rfl⟩
    exact bX6_told_8 (fun z => absurd rfl z) (fun _ => bX6_told_13 (bX6_told_22 (hQ _ D rfl h)))
  | some s' =>
    simp only [hz] at hQ
    refine bX6_told_0 (bc1 := 0) (bs1 := 0) (P := fun v W => (∃ a, v = some (sR (some a)) ∧ kO V a = some (zsrc (b_e A) s')) ∧ W = V) x2 x7 h.2.1.1 (cM_le (by omega) (c_src (d := 0) h (fun e => by rw [hz] at e; cases e) (fun s2 a e ha => by rw [hz] at e; cases e; exact ⟨⟨a, rfl, ha⟩, rfl⟩))) (Nat.zero_le _) (Nat.zero_le _) ?_
    rintro v W ⟨⟨a, rfl, ha⟩, rfl⟩
    refine bX6_told_8 (fun _ => ?_) (fun z => by cases z)
    have hlen : (zsrc (b_e A) s').2.2.length ≤ 24 := by
      cases hl : e_s (b_e A) s' with
      | none => unfold zsrc; rw [hl]; simp
      | some l => rw [(zsrc_fail _ _).2 l hl]; have := hA.1.2.1 s' l hl; show l.length ≤ 24; omega
    refine bX6_told_17 (bc1 := 0) (bs1 := 0) (P := fun v V2 => v = some (sI (match zdec i (zsrc (b_e A) s').2.2.length with | some i => (zsrc (b_e A) s').2.2.getD i 0 | none => 0)) ∧ V2 = W) ha (cM_le (by omega) (c_intAt (d := 0) ha hlen ⟨rfl, rfl⟩)) (Nat.zero_le _) (Nat.zero_le _) ?_
    rintro v V2 ⟨rfl, rfl⟩
    refine bX6_told_22 ?_
    cases hl : e_s (b_e A) s' with
    | none =>
      simp only [hl] at hQ
      unfold zsrc
      rw [hl]
      rw [show zdec i ((1 : Int32), nI s', ([] : List Int32)).2.2.length = none from zdec_no (by by_cases q : i < 0; exact .inl q; exact .inr (by show nI 0 ≤ i; rw [nI_0]; simpa using q))]
      exact hQ _ D rfl h
    | some l =>
      simp only [hl] at hQ
      rw [(zsrc_fail _ _).2 l hl]
      show Q (some (sI (match zdec i l.length with | some i => l.getD i 0 | none => 0))) V2
      cases hi : zdec i l.length with
      | none => simp only [hi] at hQ; exact hQ _ D rfl h
      | some i' => simp only [hi] at hQ; exact hQ _ D rfl h
end
