/-! the same, step by step: frames (a rule; the trace and the read that it is at, or its work), and the state -/
def zget (E : zE) (R : zQ) (nm : Nat) : Option (zO × zQ) := if nm < 16 then some (zsrc E nm, R) else if e_n E ≤ nm - 16 then some ((4, nI nm, []), R) else match q_m R (nm - 16) with
  | some o => some (o, R)
  | none => if nm - 16 ∈ q_s R then some (q_hit R (nm - 16)) else none
theorem zout_get {E : zE} {R : zQ} {nm : Nat} {p : zO × zQ} (h : zget E R nm = some p) (d : Nat) : zout E d R nm = p := by
  unfold zget at h
  by_cases h1 : nm < 16
  · rw [if_pos h1] at h
    cases h
    cases d <;> simp only [zout, if_pos h1]
  · rw [if_neg h1] at h
    by_cases h2 : e_n E ≤ nm - 16
    · rw [if_pos h2] at h
      cases h
      cases d <;> simp only [zout, if_neg h1, if_pos h2]
    · rw [if_neg h2] at h
      cases h3 : q_m R (nm - 16) with
      | some o =>
        rw [h3] at h
        cases h
        cases d <;> simp only [zout, if_neg h1, if_neg h2, h3]
      | none =>
        rw [h3] at h
        by_cases h4 : nm - 16 ∈ q_s R
        · simp only [h4, if_true] at h
          cases h
          cases d <;> simp only [zout, if_neg h1, if_neg h2, h3, h4, if_true]
        · simp only [h4, if_false] at h
          cases h
theorem zout_none {E : zE} {R : zQ} {nm : Nat} (h : zget E R nm = none) (d : Nat) : zout E (d + 1) R nm = zmake (zout E d) E R (nm - 16) ∧ 16 ≤ nm ∧ nm - 16 < e_n E ∧ q_m R (nm - 16) = none ∧ nm - 16 ∉ q_s R := by
  unfold zget at h
  by_cases h1 : nm < 16
  · simp [h1] at h
  · by_cases h2 : e_n E ≤ nm - 16
    · simp [h1, h2] at h
    · rw [if_neg h1, if_neg h2] at h
      cases h3 : q_m R (nm - 16) with
      | some o => rw [h3] at h; cases h
      | none =>
        rw [h3] at h
        by_cases h4 : nm - 16 ∈ q_s R
        · simp [h4] at h
        · refine ⟨?_, by omega, by omega, rfl, h4⟩
          rw [zout, if_neg h1, if_neg h2, h3]
          simp [h4]
abbrev zP : Type := (Nat × Nat) ⊕ zW
abbrev zC : Type := List (Nat × zP) × zQ
def zt0 : zT := ([], 0, 0, [])
def zgoes (E : zE) (c : zC) : zC := match c.1 with
  | [] => c
  | (r, .inl p) :: fs => if e_f E = true ∨ (q_t c.2 r).length ≤ p.1 then ((r, .inr zw0) :: fs, if e_f E = true then c.2 else q_note c.2 r) else
      match ((q_t c.2 r).getD p.1 zt0).1[p.2]? with
      | none => (fs, q_close (q_tr (q_stale c.2 r p.1 (-2)) r (zfront (q_t c.2 r) p.1)) r ((q_t c.2 r).getD p.1 zt0).2)
      | some g => match zget E c.2 g.1 with
        | none => ((g.1 - 16, .inl (0, 0)) :: c.1, q_push c.2 (g.1 - 16))
        | some o => if (q_r (q_look o.2) r).isSome = true then (fs, q_close (q_look o.2) r (zhit (q_look o.2) r)) else if o.1 = g.2 then ((r, .inl (p.1, p.2 + 1)) :: fs, q_look o.2) else ((r, .inl (p.1 + 1, 0)) :: fs, q_stale (q_look o.2) r p.1 (nI p.2))
  | (r, .inr w) :: fs => match znext (e_k E r) (e_i E r) w with
      | none => (fs, q_close (if e_f E = true then c.2 else q_tr c.2 r (zkeep (q_t c.2 r) (w.1, zend (e_k E r) w))) r (zend (e_k E r) w))
      | some nm => match zget E c.2 nm with
        | none => ((nm - 16, .inl (0, 0)) :: c.1, q_push c.2 (nm - 16))
        | some o => if (q_r o.2 r).isSome = true then (fs, q_close o.2 r (zhit o.2 r)) else ((r, .inr (ztake (e_k E r) (e_t E r) r w nm o.1)) :: fs, o.2)
def zit (E : zE) : Nat → zC → zC
  | 0, c => c
  | k + 1, c => zit E k (zgoes E c)
def zre (E : zE) (c c' : zC) : Prop := ∃ k, zit E k c = c'
theorem zit_add {E : zE} (a b : Nat) (c : zC) : zit E (a + b) c = zit E b (zit E a c) := by
  induction a generalizing c with
  | zero => simp [zit]
  | succ a ih => rw [Nat.succ_add, zit, zit, ih]
theorem zre.rf {E : zE} {c : zC} : zre E c c := ⟨0, rfl⟩
theorem zre.tr {E : zE} {a b c : zC} (h1 : zre E a b) (h2 : zre E b c) : zre E a c := by
  obtain ⟨k, rfl⟩ := h1
  obtain ⟨j, rfl⟩ := h2
  exact ⟨k + j, zit_add k j a⟩
theorem zre.one {E : zE} {a b : zC} (h : zgoes E a = b) : zre E a b := ⟨1, h⟩
-- what holds of the state of a round
def zok (o : zO) : Prop := o.2.2.length ≤ 24 ∧ (¬ o.1 = 0 → o.2.2 = []) ∧ (o.1 = 0 → o.2.1 = 0)
def ztok (t : zT) : Prop := t.1.length ≤ 25 ∧ (∀ g ∈ t.1, zok g.2 ∧ g.1 < 40) ∧ zok t.2
def zEok (E : zE) : Prop := e_n E ≤ 24 ∧ (∀ s l, e_s E s = some l → l.length ≤ 16) ∧ (∀ r, (e_i E r).length ≤ 6) ∧ (∀ r, ∀ nm ∈ e_i E r, nm < 40)
def zQok (E : zE) (R : zQ) : Prop := (∀ r, (q_t R r).length ≤ 4 ∧ ∀ t ∈ q_t R r, ztok t) ∧ (∀ r o, q_m R r = some o → zok o) ∧ (q_s R).Nodup ∧ (∀ r ∈ q_s R, r < e_n E)
/-- what a round's step keeps: the open rules, and their traces -/
def zkp (R R' : zQ) : Prop := q_s R' = q_s R ∧ ∀ r ∈ q_s R, q_t R' r = q_t R r
theorem zkp.rf {R : zQ} : zkp R R := ⟨rfl, fun _ _ => rfl⟩
theorem zkp.tr {a b c : zQ} (h1 : zkp a b) (h2 : zkp b c) : zkp a c := ⟨h2.1.trans h1.1, fun r hr => (h2.2 r (by rw [h1.1]; exact hr)).trans (h1.2 r hr)⟩
theorem zring_ok (l : List Nat) : zok (zring l) := ⟨by simp [zring], fun _ => rfl, fun h => absurd (show (3 : Int32) = 0 from h) (by decide)⟩
theorem zhit_ok (R : zQ) (r : Nat) : zok (zhit R r) := by
  unfold zhit
  split
  · exact zring_ok _
  · exact ⟨by simp, fun h => absurd rfl h, fun _ => rfl⟩
theorem zget_ok {E : zE} {R : zQ} {nm : Nat} {p : zO × zQ} (hE : zEok E) (hR : zQok E R) (h : zget E R nm = some p) : zok p.1 ∧ zQok E p.2 ∧ zkp R p.2 := by
  unfold zget at h
  by_cases h1 : nm < 16
  · rw [if_pos h1] at h
    cases h
    refine ⟨?_, hR, zkp.rf⟩
    unfold zsrc
    split
    · next l hl => exact ⟨Nat.le_trans (hE.2.1 _ _ hl) (by decide), fun h => absurd rfl h, fun _ => rfl⟩
    · exact ⟨by simp, fun _ => rfl, fun h => absurd (show (1 : Int32) = 0 from h) (by decide)⟩
  · rw [if_neg h1] at h
    by_cases h2 : e_n E ≤ nm - 16
    · rw [if_pos h2] at h
      cases h
      exact ⟨⟨by simp, fun _ => rfl, fun h => absurd (show (4 : Int32) = 0 from h) (by decide)⟩, hR, zkp.rf⟩
    · rw [if_neg h2] at h
      cases h3 : q_m R (nm - 16) with
      | some o =>
        rw [h3] at h
        cases h
        exact ⟨hR.2.1 _ _ h3, hR, zkp.rf⟩
      | none =>
        rw [h3] at h
        by_cases h4 : nm - 16 ∈ q_s R
        · simp only [h4, if_true] at h
          cases h
          exact ⟨zring_ok _, hR, zkp.rf⟩
        · simp only [h4, if_false] at h
          cases h
