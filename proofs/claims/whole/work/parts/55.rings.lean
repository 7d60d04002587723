/-! THE RINGS of a round: a RING that comes of something is one of this round -/
def zrg (R : zQ) (o : zO) : Prop := o.1 = 3 → ∃ n, o.2.1 = nI n ∧ n < 24 ∧ (q_r R n).isSome = true
def zrt (t : zT) : Prop := t.2.1 = 3 → ∃ g ∈ t.1, g.2 = t.2
def zrf (R : zQ) (f : Nat × zP) : Prop := match f.2 with
  | .inl p => ∀ g ∈ ((q_t R f.1).getD p.1 zt0).1.take p.2, zrg R g.2
  | .inr w => (∀ g ∈ w.1, zrg R g.2) ∧ (w.2.2.2.2.1 = 3 → ∃ g ∈ w.1, g.2.1 = 3 ∧ g.2.2.1 = w.2.2.2.2.2)
def zRI (fs : List (Nat × zP)) (R : zQ) : Prop := (∀ r o, q_m R r = some o → zrg R o) ∧ (∀ r, ∀ t ∈ q_t R r, zrt t) ∧ (∀ f ∈ fs, zrf R f) ∧ ∀ r l, q_r R r = some l → ¬ l = [] ∧ ∀ k ∈ l, k < 24 ∧ (q_r R k).isSome = true
theorem zrg.up {R R' : zQ} {o : zO} (hm : ∀ n, (q_r R n).isSome = true → (q_r R' n).isSome = true) (h : zrg R o) : zrg R' o := fun e => by
  obtain ⟨n, h1, h2, h3⟩ := h e
  exact ⟨n, h1, h2, hm n h3⟩
theorem zrf.up {R R' : zQ} {f : Nat × zP} (hm : ∀ n, (q_r R n).isSome = true → (q_r R' n).isSome = true) (ht : q_t R' f.1 = q_t R f.1) (h : zrf R f) : zrf R' f := by
  obtain ⟨r, ph⟩ := f
  cases ph with
  | inl p =>
    intro g hg
    rw [show q_t R' (r, (Sum.inl p : zP)).1 = q_t R r from ht] at hg
    exact (h g hg).up hm
  | inr w => exact ⟨fun g hg => (h.1 g hg).up hm, h.2⟩
/-- what the open rules are when a name is asked for -/
theorem zRI_got {E : zE} {fs : List (Nat × zP)} {R : zQ} {nm : Nat} {p : zO × zQ} (hW : zWF E fs R) (h : zRI fs R) (hz : zget E R nm = some p) : zRI fs p.2 ∧ zrg p.2 p.1 := by
  obtain ⟨a1, a2, a3, a4⟩ := id h
  unfold zget at hz
  by_cases h1 : nm < 16
  · rw [if_pos h1] at hz
    cases hz
    refine ⟨h, fun e => ?_⟩
    have e : (zsrc E nm).1 = 3 := e
    unfold zsrc at e
    split at e
    · exact absurd e (show ¬ (0 : Int32) = 3 by decide)
    · exact absurd e (show ¬ (1 : Int32) = 3 by decide)
  · rw [if_neg h1] at hz
    by_cases h2 : e_n E ≤ nm - 16
    · rw [if_pos h2] at hz
      cases hz
      exact ⟨h, fun e => absurd e (show ¬ (4 : Int32) = 3 by decide)⟩
    · rw [if_neg h2] at hz
      cases h3 : q_m R (nm - 16) with
      | some o =>
        rw [h3] at hz
        cases hz
        exact ⟨h, a1 _ _ h3⟩
      | none =>
        rw [h3] at hz
        by_cases h4 : nm - 16 ∈ q_s R
        · simp only [h4, if_true] at hz
          cases hz
          generalize hl : (q_s R).takeWhile (fun x => x != (nm - 16)) ++ [nm - 16] = l
          have e1 : ∀ x, q_r (q_hit R (nm - 16)).2 x = if x ∈ l then some l else q_r R x := by
            intro x
            show (if x ∈ (q_s R).takeWhile (fun x => x != (nm - 16)) ++ [nm - 16] then some ((q_s R).takeWhile (fun x => x != (nm - 16)) ++ [nm - 16]) else q_r R x) = _
            rw [hl]
          have hne : ¬ l = [] := by rw [← hl]; simp
          have hlt : ∀ k ∈ l, k < 24 := by
            intro k hk
            have hn := hW.1.1
            rw [← hl] at hk
            rcases List.mem_append.mp hk with hk | hk
            · have := hW.2.1.2.2.2 k ((List.takeWhile_sublist _).subset hk)
              omega
            · rw [List.mem_singleton.mp hk]
              omega
          have hm : ∀ n, (q_r R n).isSome = true → (q_r (q_hit R (nm - 16)).2 n).isSome = true := by
            intro n hn
            rw [e1]
            split
            · rfl
            · exact hn
          refine ⟨⟨fun r o ho => (a1 r o ho).up hm, a2, fun f hf => (a3 f hf).up hm rfl, fun r l' hl' => ?_⟩, fun _ => ?_⟩
          · rw [e1] at hl'
            by_cases hr : r ∈ l
            · rw [if_pos hr] at hl'
              cases hl'
              exact ⟨hne, fun k hk => ⟨hlt k hk, by rw [e1, if_pos hk]; rfl⟩⟩
            · rw [if_neg hr] at hl'
              exact ⟨(a4 r l' hl').1, fun k hk => ⟨((a4 r l' hl').2 k hk).1, hm k ((a4 r l' hl').2 k hk).2⟩⟩
          · have hi := (zmin_in hne).1
            refine ⟨zmin l, ?_, hlt _ hi, by rw [e1, if_pos hi]; rfl⟩
            show nI (zmin ((q_s R).takeWhile (fun x => x != (nm - 16)) ++ [nm - 16])) = _
            rw [hl]
        · simp only [h4, if_false] at hz
          cases hz
theorem zrg_hit {fs : List (Nat × zP)} {R : zQ} {r : Nat} (h : zRI fs R) (hr : (q_r R r).isSome = true) : zrg R (zhit R r) := by
  obtain ⟨l, hl⟩ := Option.isSome_iff_exists.mp hr
  obtain ⟨h1, h2⟩ := h.2.2.2 r l hl
  have hi := (zmin_in h1).1
  intro _
  refine ⟨zmin l, ?_, (h2 _ hi).1, (h2 _ hi).2⟩
  unfold zhit
  rw [hl]
  rfl
theorem zRI_close {E : zE} {r : Nat} {ph : zP} {fs : List (Nat × zP)} {R R2 : zQ} {o : zO} (hW : zWF E ((r, ph) :: fs) R) (h : zRI ((r, ph) :: fs) R) (h1 : ∀ x, x ≠ r → q_t R2 x = q_t R x) (h1' : ∀ t ∈ q_t R2 r, zrt t) (h2 : q_m R2 = q_m R) (h3 : q_r R2 = q_r R) (ho : zrg R o) : zRI fs (q_close R2 r o) := by
  have hon := zhead_once hW
  obtain ⟨a1, a2, a3, a4⟩ := h
  have hm : ∀ n, (q_r R n).isSome = true → (q_r (q_close R2 r o) n).isSome = true := by
    intro n hn
    show (q_r R2 n).isSome = true
    rw [h3]; exact hn
  refine ⟨fun x p hp => ?_, fun x t ht => ?_, fun f hf => (a3 f (List.mem_cons_of_mem _ hf)).up hm (h1 _ (hon f hf)), ?_⟩
  · have hp : va_up (q_m R2) r (some o) x = some p := hp
    by_cases hxr : x = r
    · subst hxr
      rw [va_up_self] at hp
      cases hp
      exact ho.up hm
    · rw [va_up_ne _ _ hxr, h2] at hp
      exact (a1 x p hp).up hm
  · have ht : t ∈ q_t R2 x := ht
    by_cases hxr : x = r
    · subst hxr; exact h1' t ht
    · rw [h1 x hxr] at ht; exact a2 x t ht
  · show ∀ r l, q_r R2 r = some l → ¬ l = [] ∧ ∀ k ∈ l, k < 24 ∧ (q_r R2 k).isSome = true
    rw [h3]; exact a4
theorem zRI_top {r : Nat} {ph ph2 : zP} {fs : List (Nat × zP)} {R R2 : zQ} (h : zRI ((r, ph) :: fs) R) (h1 : q_t R2 = q_t R) (h2 : q_m R2 = q_m R) (h3 : q_r R2 = q_r R) (hf : zrf R2 (r, ph2)) : zRI ((r, ph2) :: fs) R2 := by
  obtain ⟨a1, a2, a3, a4⟩ := h
  have hm : ∀ n, (q_r R n).isSome = true → (q_r R2 n).isSome = true := by
    intro n hn
    rw [h3]; exact hn
  refine ⟨fun x p hp => (a1 x p (by rw [← h2]; exact hp)).up hm, by rw [h1]; exact a2, fun f hfs => ?_, by rw [h3]; exact a4⟩
  rcases List.mem_cons.mp hfs with e | e
  · rw [e]; exact hf
  · exact (a3 f (List.mem_cons_of_mem _ e)).up hm (by rw [h1])
theorem zRI_push {fs : List (Nat × zP)} {R : zQ} {r : Nat} (h : zRI fs R) : zRI ((r, .inl (0, 0)) :: fs) (q_push R r) := by
  obtain ⟨a1, a2, a3, a4⟩ := h
  refine ⟨a1, a2, fun f hf => ?_, a4⟩
  rcases List.mem_cons.mp hf with e | e
  · rw [e]; intro g hg; simp at hg
  · exact (a3 f e).up (fun n hn => hn) rfl
theorem ztake_r {k : Int32} {t : Bool} {r : Nat} {w : zW} {nm : Nat} {o : zO} (h : w.2.2.2.2.1 = 3 → ∃ g ∈ w.1, g.2.1 = 3 ∧ g.2.2.1 = w.2.2.2.2.2) : (ztake k t r w nm o).2.2.2.2.1 = 3 → ∃ g ∈ w.1 ++ [(nm, o)], g.2.1 = 3 ∧ g.2.2.1 = (ztake k t r w nm o).2.2.2.2.2 := by
  have up : (∃ g ∈ w.1, g.2.1 = 3 ∧ g.2.2.1 = w.2.2.2.2.2) → ∃ g ∈ w.1 ++ [(nm, o)], g.2.1 = 3 ∧ g.2.2.1 = w.2.2.2.2.2 := fun ⟨g, hg, h'⟩ => ⟨g, List.mem_append_left _ hg, h'⟩
  unfold ztake
  split
  · intro e
    exact ⟨(nm, o), by simp, e, rfl⟩
  · split
    · intro e; exact up (h e)
    · split
      · split
        · intro e; exact absurd e (show ¬ (2 : Int32) = 3 by decide)
        · intro e; exact up (h e)
      · intro e; exact up (h e)
theorem zend_r {k : Int32} {R : zQ} {w : zW} (hw : zwok w) (h : (∀ g ∈ w.1, zrg R g.2) ∧ (w.2.2.2.2.1 = 3 → ∃ g ∈ w.1, g.2.1 = 3 ∧ g.2.2.1 = w.2.2.2.2.2)) : zrg R (zend k w) ∧ zrt (w.1, zend k w) := by
  have key : (zend k w).1 = 3 → w.2.2.2.2.1 = 3 ∧ zend k w = (w.2.2.2.2.1, w.2.2.2.2.2, []) := by
    unfold zend
    split
    · intro e; exact ⟨e, rfl⟩
    · split
      · intro e; exact absurd e (show ¬ (0 : Int32) = 3 by decide)
      · split
        · intro e; exact absurd e (show ¬ (0 : Int32) = 3 by decide)
        · intro e; exact absurd e (show ¬ (0 : Int32) = 3 by decide)
  refine ⟨fun e => ?_, fun e => ?_⟩
  · obtain ⟨e1, e2⟩ := key e
    obtain ⟨g, hg, g1, g2⟩ := h.2 e1
    obtain ⟨n, n1, n2, n3⟩ := h.1 g hg g1
    exact ⟨n, by rw [e2]; show w.2.2.2.2.2 = _; rw [← g2]; exact n1, n2, n3⟩
  · obtain ⟨e1, e2⟩ := key e
    obtain ⟨g, hg, g1, g2⟩ := h.2 e1
    refine ⟨g, hg, ?_⟩
    show g.2 = zend k w
    rw [e2, e1]
    have h3 := (hw.2.1 g hg).1.2.1 (by rw [g1]; decide)
    exact Prod.ext g1 (Prod.ext g2 h3)
theorem zRI_goes {E : zE} {f : Nat × zP} {fs : List (Nat × zP)} {R : zQ} (hW : zWF E (f :: fs) R) (h : zRI (f :: fs) R) : zRI (zgoes E (f :: fs, R)).1 (zgoes E (f :: fs, R)).2 := by
  obtain ⟨r, ph⟩ := f
  have hfr := h.2.2.1 _ List.mem_cons_self
  cases ph with
  | inl p =>
    obtain ⟨k, i⟩ := p
    by_cases hb : e_f E = true ∨ (q_t R r).length ≤ k
    · rw [zg_b hb]
      have hz : zrf R (r, .inr zw0) := ⟨fun g hg => (by cases hg), fun e => absurd e (show ¬ (0 : Int32) = 3 by decide)⟩
      simp only
      split
      · exact zRI_top h rfl rfl rfl hz
      · exact zRI_top h rfl rfl rfl hz
    · have hk : k < (q_t R r).length := by have := not_or.mp hb; omega
      cases hg : ((q_t R r).getD k zt0).1[i]? with
      | none =>
        rw [zg_fit hb hg]
        refine zRI_close hW h (fun x hx => va_up_ne _ _ hx) (fun t ht => ?_) rfl rfl (fun e => ?_)
        · have ht : t ∈ va_up (q_t R) r (zfront (q_t R r) k) r := ht
          rw [va_up_self] at ht
          exact h.2.1 r t (zfront_mem ht)
        · obtain ⟨g, g1, g2⟩ := h.2.1 r _ (zget_mem hk) e
          have h2 : zrg R g.2 := hfr g (by rw [List.take_of_length_le (by rw [List.getElem?_eq_none_iff] at hg; exact hg)]; exact g1)
          rw [g2] at h2
          exact h2 e
      | some g =>
        have hi := (List.getElem?_eq_some_iff.mp hg).1
        cases hz : zget E R g.1 with
        | none => rw [zg_p1 hb hg hz]; exact zRI_push h
        | some o =>
          have hW2 := zWF_got hW hz
          obtain ⟨h2, h3⟩ := zRI_got hW h hz
          obtain ⟨g1, g2, g3, g4⟩ := zget_eq hz
          by_cases hr : (q_r (q_look o.2) r).isSome = true
          · rw [zg_h1 hb hg hz hr]
            exact zRI_close (R2 := q_look o.2) hW2 h2 (fun _ _ => rfl) (fun t ht => h2.2.1 r t ht) rfl rfl (zrg_hit h2 hr)
          · by_cases he : o.1 = g.2
            · rw [zg_s hb hg hz hr he]
              refine zRI_top h2 rfl rfl rfl (fun g' hg' => ?_)
              have hg' : g' ∈ ((q_t o.2 r).getD k zt0).1.take (i + 1) := hg'
              rw [g1, List.take_add_one, hg] at hg'
              rcases List.mem_append.mp hg' with e | e
              · have := h2.2.2.1 _ List.mem_cons_self
                exact (this g' (by show g' ∈ ((q_t o.2 r).getD k zt0).1.take i; rw [g1]; exact e)).up (fun n hn => hn)
              · have e : g' = g := by simpa using e
                rw [e, ← he]
                exact h3.up (fun n hn => hn)
            · rw [zg_n hb hg hz hr he]
              exact zRI_top h2 rfl rfl rfl (fun g' hg' => by simp at hg')
  | inr w =>
    have hwok : zwok w := (hW.2.2.1 _ List.mem_cons_self).1
    cases hn : znext (e_k E r) (e_i E r) w with
    | none =>
      rw [zg_e hn]
      obtain ⟨e1, e2⟩ := zend_r (k := e_k E r) hwok hfr
      refine zRI_close hW h (fun x hx => ?_) (fun t ht => ?_) ?_ ?_ e1
      · split
        · rfl
        · exact va_up_ne _ _ hx
      · split at ht
        · exact h.2.1 r t ht
        · have ht : t ∈ va_up (q_t R) r (zkeep (q_t R r) (w.1, zend (e_k E r) w)) r := ht
          rw [va_up_self] at ht
          rcases List.mem_cons.mp ht with e | e
          · rw [e]; exact e2
          · exact h.2.1 r t (List.mem_of_mem_take e)
      · split <;> rfl
      · split <;> rfl
    | some nm =>
      cases hz : zget E R nm with
      | none => rw [zg_p2 hn hz]; exact zRI_push h
      | some o =>
        have hW2 := zWF_got hW hz
        obtain ⟨h2, h3⟩ := zRI_got hW h hz
        have hl := znext_lt hn (hW.1.2.2.1 r) hwok
        have hnm := hW.1.2.2.2 r nm hl.2
        by_cases hr : (q_r o.2 r).isSome = true
        · rw [zg_h2 hn hz hr]
          exact zRI_close hW2 h2 (fun _ _ => rfl) (fun t ht => h2.2.1 r t ht) rfl rfl (zrg_hit h2 hr)
        · rw [zg_t hn hz hr]
          have hz2 := h2.2.2.1 _ List.mem_cons_self
          have e1 := (ztake_ok (k := e_k E r) (t := e_t E r) (r := r) hwok hl.1 (zget_ok hW.1 hW.2.1 hz).1 hnm).2
          refine zRI_top h2 rfl rfl rfl ⟨fun g hg => ?_, fun e => ?_⟩
          · rw [e1] at hg
            rcases List.mem_append.mp hg with e | e
            · exact hz2.1 g e
            · rw [List.mem_singleton.mp e]; exact h3
          · have := ztake_r (nm := nm) (o := o.1) (k := e_k E r) (t := e_t E r) (r := r) hz2.2 e
            rw [e1]
            exact this
