/-! the reference between calls -/
def rLs (L : Option (zO × List Nat)) (S : rS) (G : rG) : Prop := match L with
  | none => S 48 = -1 ∧ rB0 [] (S 51)
  | some p => rLast p.1 p.2 S G
def restR (A : zB) (S : rS) (G : rG) : Prop := rE (b_e A) S G ∧ (∃ sl, rT (b_q A) sl G) ∧ rW (b_q A) (b_w A) S G ∧ rLs (b_l A) S G ∧ S 54 = b_m A ∧ S 59 = b_t A ∧ ∀ k, k < 5 → G 60 k = b_f A k
theorem zdec_if (x : Int32) (n : Nat) : (if 0 ≤ x ∧ x < nI n then (1 : Int32) else 0) = if (zdec x n).isSome = true then 1 else 0 := by
  unfold zdec
  split <;> simp
theorem r_isSource {d : Nat} {h0 : hp} {m : Nat} {ad : Nat → Nat} {S : rS} {G : rG} {Q : Option sV → rS → rG → Prop} {x : Int32} (hQ : Q (some (sI (if (zdec x 16).isSome = true then 1 else 0))) S G) : rM (d + 1) h0 m ad 74 [sI x] S G Q := by
  refine rM_of (ls := [sI x]) rfl (Nat.le_of_ble_eq_true rfl) rfl ?_
  refine bX7_isSource_0 (fun z => ?_) (fun z => ?_)
  · rw [zdec_no (.inl z)] at hQ
    exact bX7_isSource_14 (bX7_isSource_15 (Or.inl rfl) hQ)
  · refine bX7_isSource_4 (fun y => ?_) (fun y => ?_)
    · rw [zdec_no (.inr y)] at hQ
      exact bX7_isSource_14 (bX7_isSource_15 (Or.inl rfl) hQ)
    · rw [← zdec_if, if_pos ⟨by simpa using z, Int32.not_le.mp y⟩] at hQ
      exact bX7_isSource_10 (bX7_isSource_15 (Or.inr rfl) hQ)
theorem r_isName {d : Nat} {h0 : hp} {m : Nat} {ad : Nat → Nat} {S : rS} {G : rG} {Q : Option sV → rS → rG → Prop} {x : Int32} (hQ : Q (some (sI (if (zdec x 40).isSome = true then 1 else 0))) S G) : rM (d + 1) h0 m ad 76 [sI x] S G Q := by
  refine rM_of (ls := [sI x]) rfl (Nat.le_of_ble_eq_true rfl) rfl ?_
  refine bX7_isName_0 (fun z => ?_) (fun z => ?_)
  · rw [zdec_no (.inl z)] at hQ
    exact bX7_isName_14 (bX7_isName_15 (Or.inl rfl) hQ)
  · refine bX7_isName_4 (fun y => ?_) (fun y => ?_)
    · rw [zdec_no (.inr y)] at hQ
      exact bX7_isName_14 (bX7_isName_15 (Or.inl rfl) hQ)
    · rw [← zdec_if, if_pos ⟨by simpa using z, Int32.not_le.mp y⟩] at hQ
      exact bX7_isName_10 (bX7_isName_15 (Or.inr rfl) hQ)
theorem r_isRule2 {d : Nat} {h0 : hp} {m : Nat} {ad : Nat → Nat} {S : rS} {G : rG} {Q : Option sV → rS → rG → Prop} {x : Int32} {n : Nat} (h6 : S 6 = nI n) (hQ : Q (some (sI (if (zdec x n).isSome = true then 1 else 0))) S G) : rM (d + 1) h0 m ad 75 [sR (some m), sI x] S G Q := by
  refine r_isRule ?_
  rw [h6, zdec_if]
  exact hQ
theorem r_find {d : Nat} {h0 : hp} {m : Nat} {ad : Nat → Nat} {S : rS} {G : rG} {Q : Option sV → rS → rG → Prop} {A : zB} {x : Int32} (k : Nat) (hx : x = nI k) (hk : k < 5) (h : restR A S G) (hQ : ∀ S' G', restR (b_find A k).2 S' G' → Q (some (sI (b_find A k).1)) S' G') : rM (d + 1) h0 m ad 73 [sR (some m), sI x] S G Q := by
  subst hx
  refine rM_of (ls := [sR (some m), sI (nI k)]) rfl (Nat.le_of_ble_eq_true rfl) rfl ?_
  refine bX7_find_0 (vin k rfl hk (by decide)) ?_
  rw [nix k rfl (by omega)]
  obtain ⟨a1, a2, a3, a4, a5, a6, a7⟩ := h
  refine hQ _ _ ⟨a1, a2, a3, ?_, a5, rfl, fun j hj => ?_⟩
  · show rLs (b_l A) _ _
    cases hl : b_l A with
    | none => rw [hl] at a4; exact a4
    | some p => rw [hl] at a4; exact a4
  · show gup G 60 k (G 60 k + 1) 60 j = va_up (b_f A) k (b_f A k + 1) j
    rw [gup_at]
    by_cases e : j = k
    · subst e
      rw [if_pos rfl, va_up_self, a7 j hj]
    · rw [if_neg e, va_up_ne _ _ e, a7 j hj]
theorem rest_src {A : zB} {S : rS} {G G' : rG} {s : Nat} {o : Option (List Int32)} (h : restR A S G) (hk : ∀ k, 2 ≤ k → k ≠ 47 → G' k = G k) (h1 : ∀ x, x < 16 → x ≠ s → G' 0 x = G 0 x ∧ ∀ j, j < 16 → G' 1 (16 * x + j) = G 1 (16 * x + j)) (hl : ∀ x l, e_s (b_e A) x = some l → l.length ≤ 16) (hn : o = none → G' 0 s = -1) (hs : ∀ l, o = some l → G' 0 s = nI l.length ∧ ∀ j, j < l.length → G' 1 (16 * s + j) = l.getD j 0) : restR (b_src A s o) S G' := by
  obtain ⟨⟨s1, s2, s3, s4⟩, a2, a3, a4, a5, a6, a7⟩ := h
  refine ⟨⟨fun x hx => ?_, s2, ?_, s4⟩, ?_, ?_, ?_, a5, a6, ?_⟩
  · show (va_up (e_s (b_e A)) s o x = none → _) ∧ ∀ l, va_up (e_s (b_e A)) s o x = some l → _
    by_cases e : x = s
    · subst e
      rw [va_up_self]
      exact ⟨hn, hs⟩
    · rw [va_up_ne _ _ e]
      obtain ⟨c1, c2⟩ := h1 x hx e
      obtain ⟨b1, b2⟩ := s1 x hx
      refine ⟨fun z => by rw [c1]; exact b1 z, fun l z => ⟨by rw [c1]; exact (b2 l z).1, fun j hj => ?_⟩⟩
      rw [c2 j (by have := hl x l z; omega)]
      exact (b2 l z).2 j hj
  · rw [hk 2 (by omega) (by omega), hk 5 (by omega) (by omega), hk 3 (by omega) (by omega), hk 4 (by omega) (by omega)]
    exact s3
  · obtain ⟨sl, a2⟩ := a2
    exact ⟨sl, rT_cg (fun k h1 h2 => hk k (by omega) (by omega)) a2⟩
  · exact rW_cg (hk 57 (by omega) (by omega)) (hk 58 (by omega) (by omega)) a3
  · show rLs (b_l A) S G'
    cases hl : b_l A with
    | none => rw [hl] at a4; exact a4
    | some p => rw [hl] at a4; exact ⟨a4.1, a4.2.1, a4.2.2.1, by rw [hk 56 (by omega) (by omega)]; exact a4.2.2.2.1, a4.2.2.2.2⟩
  · rw [hk 60 (by omega) (by omega)]
    exact a7
theorem nI16 : (16 : Int32) = nI 16 := rfl
/-- a source's size -/
theorem rE_none {E : zE} {S : rS} {G : rG} (hE : zEok E) (h : rE E S G) {s : Nat} (hs : s < 16) : (e_s E s = none → G 0 s = -1) ∧ ∀ l, e_s E s = some l → G 0 s = nI l.length ∧ ¬ G 0 s = -1 ∧ l.length ≤ 16 ∧ ∀ j, j < l.length → G 1 (16 * s + j) = l.getD j 0 := by
  obtain ⟨b1, b2⟩ := h.1 s hs
  refine ⟨b1, fun l hl => ?_⟩
  have h16 := hE.2.1 s l hl
  exact ⟨(b2 l hl).1, by rw [(b2 l hl).1]; exact (znI_ne (by omega)).1, h16, (b2 l hl).2⟩
theorem r_source {d : Nat} {h0 : hp} {m : Nat} {ad : Nat → Nat} {S : rS} {G : rG} {Q : Option sV → rS → rG → Prop} {A : zB} {s n : Int32} (hA : zBok A) (h : restR A S G) (hQ : ∀ S' G', restR (o_source A s n).2 S' G' → Q (some (sI (o_source A s n).1)) S' G') : rM (d + 2) h0 m ad 77 [sR (some m), sI s, sI n] S G Q := by
  refine rM_of (ls := [sR (some m), sI s, sI n, sU]) rfl (Nat.le_of_ble_eq_true rfl) rfl ?_
  refine bX7_source_0 (P := fun v S' G' => v = some (sI (if (zdec s 16).isSome = true then 1 else 0)) ∧ S' = S ∧ G' = G) (r_isSource ⟨rfl, rfl, rfl⟩) ?_
  rintro v S1 G1 ⟨rfl, rfl, rfl⟩
  unfold o_source at hQ
  cases hs : zdec s 16 with
  | none =>
    simp only [hs] at hQ
    exact bX7_source_4 (fun z => absurd rfl z) (fun _ => bX7_source_7 (hQ _ _ h))
  | some s' =>
    simp only [hs] at hQ
    obtain ⟨s16, rfl⟩ := zdec_some (by decide) hs
    refine bX7_source_4 (fun _ => ?_) (fun z => absurd z (by simp))
    refine bX7_source_9 (fun z => ?_) (fun z => ?_)
    · rw [if_neg (by simpa using z)] at hQ
      cases hn : zdec n 17 with
      | none =>
        simp only [hn] at hQ
        have h17 : nI 17 ≤ n := (zdec_none hn).resolve_left (by simpa using z)
        refine bX7_source_19 (fun y => absurd (show nI 17 ≤ nI 16 from Int32.le_trans h17 y) (by decide)) (fun _ => ?_)
        exact bX7_source_25 (hQ _ _ h)
      | some n' =>
        simp only [hn] at hQ
        obtain ⟨n17, rfl⟩ := zdec_some (by decide) hn
        refine bX7_source_19 (fun _ => ?_) (fun y => absurd (by rw [nI16]; exact nI_le (by omega) (by omega)) y)
        refine bX7_source_27 (vin s' rfl s16 (by decide)) ?_
        rw [nix s' rfl (by omega)]
        have loop : ∀ (e j : Nat), j + e = 16 → ∀ f : Nat → Int32, (∀ i, i < 256 → i < 16 * s' ∨ 16 * s' + 16 ≤ i → f i = G1 1 i) → (∀ i, i < j → f (16 * s' + i) = 0) → rWP (d + 1) h0 m ad 77 Q 36 [sR (some m), sI (nI s'), sI (nI n'), sI (nI j)] [] S1 (va_up (gup G1 0 s' (nI n')) 1 f) := by
          intro e
          induction e with
          | zero =>
            intro j hj f f1 f2
            refine bX7_source_36 (fun _ => ?_) (fun z => absurd (by rw [nI16]; exact nI_le (by omega) (by omega)) z)
            refine bX7_source_60 (hQ _ _ (rest_src h (fun k h1 h2 => ?_) (fun x hx hxs => ⟨?_, fun j hj => ?_⟩) (fun x l hl => hA.1.2.1 x l hl) (fun z => by cases z) (fun l hl => ?_)))
            · rw [va_up_ne _ _ (by omega), gup_ne (by omega)]
            · show gup G1 0 s' (nI n') 0 x = _
              rw [gup_at_ne hxs]
            · show f (16 * x + j) = _
              exact f1 _ (by omega) (by omega)
            · cases hl
              rw [List.length_replicate]
              refine ⟨?_, fun i hi => ?_⟩
              · show gup G1 0 s' (nI n') 0 s' = _
                rw [gup_at_self]
              · show f (16 * s' + i) = _
                rw [f2 i (by omega), List.getD_eq_getElem?_getD, List.getElem?_replicate, if_pos hi]
                rfl
          | succ e ih =>
            intro j hj f f1 f2
            refine bX7_source_36 (fun z => absurd z (by rw [nI16, nI_leI (by omega) (by omega)]; omega)) (fun _ => ?_)
            refine bX7_source_42 (vin (16 * s' + j) (by simp only [nc4, nc6, nc16, nc24, nc25, nc4r, nI_add, nI_1, nI_0]) (by omega) (by decide)) ?_
            rw [nix (16 * s' + j) (by simp only [nc4, nc6, nc16, nc24, nc25, nc4r, nI_add, nI_1, nI_0]) (by omega), nI_1]
            have e5 : gup (va_up (gup G1 0 s' (nI n')) 1 f) 1 (16 * s' + j) 0 = va_up (gup G1 0 s' (nI n')) 1 (upd f (16 * s' + j) 0) := by
              unfold gup
              rw [va_upup, va_up_self]
            rw [e5]
            refine ih (j + 1) (by omega) _ (fun i h1 h2 => ?_) (fun i hi => ?_)
            · rw [show upd f (16 * s' + j) 0 i = if i = 16 * s' + j then 0 else f i from rfl, if_neg (by omega)]
              exact f1 i h1 h2
            · rw [show upd f (16 * s' + j) 0 (16 * s' + i) = if 16 * s' + i = 16 * s' + j then 0 else f (16 * s' + i) from rfl]
              split
              · rfl
              · exact f2 i (by omega)
        have h0 := loop 16 0 (by omega) (G1 1) (fun _ _ _ => rfl) (fun i hi => absurd hi (by omega))
        rw [show va_up (gup G1 0 s' (nI n')) 1 (G1 1) = gup G1 0 s' (nI n') from va_upe (gup G1 0 s' (nI n')) 1] at h0
        exact h0
    · rw [if_pos (by simpa using z)] at hQ
      refine bX7_source_13 (P := fun v S' G' => v = some (sI (b_find A 3).1) ∧ restR (b_find A 3).2 S' G') (r_find 3 rfl (by decide) h (fun S' G' h' => ⟨rfl, h'⟩)) ?_
      rintro v S2 G2 ⟨rfl, h'⟩
      exact bX7_source_18 (hQ _ _ h')
theorem r_set {d : Nat} {h0 : hp} {m : Nat} {ad : Nat → Nat} {S : rS} {G : rG} {Q : Option sV → rS → rG → Prop} {A : zB} {s i v : Int32} (hA : zBok A) (h : restR A S G) (hQ : ∀ S' G', restR (o_set A s i v).2 S' G' → Q (some (sI (o_set A s i v).1)) S' G') : rM (d + 2) h0 m ad 78 [sR (some m), sI s, sI i, sI v] S G Q := by
  refine rM_of (ls := [sR (some m), sI s, sI i, sI v]) rfl (Nat.le_of_ble_eq_true rfl) rfl ?_
  refine bX7_set_0 (P := fun v S' G' => v = some (sI (if (zdec s 16).isSome = true then 1 else 0)) ∧ S' = S ∧ G' = G) (r_isSource ⟨rfl, rfl, rfl⟩) ?_
  rintro _ S1 G1 ⟨rfl, rfl, rfl⟩
  unfold o_set at hQ
  cases hs : zdec s 16 with
  | none =>
    simp only [hs] at hQ
    refine bX7_set_4 (fun z => absurd rfl z) (fun _ => bX7_set_7 (P := fun v S' G' => v = some (sI (b_find A 2).1) ∧ restR (b_find A 2).2 S' G') (r_find 2 rfl (by decide) h (fun S' G' h' => ⟨rfl, h'⟩)) ?_)
    rintro _ S2 G2 ⟨rfl, h'⟩
    exact bX7_set_12 (hQ _ _ h')
  | some s' =>
    simp only [hs] at hQ
    obtain ⟨s16, rfl⟩ := zdec_some (by decide) hs
    obtain ⟨q1, q2⟩ := rE_none hA.1 h.1 s16
    have cs : (nI s').toNatClampNeg = s' := nix s' rfl (by omega)
    refine bX7_set_4 (fun _ => ?_) (fun z => absurd z (by simp))
    cases hl : e_s (b_e A) s' with
    | none =>
      simp only [hl] at hQ
      refine bX7_set_13 (vin s' rfl s16 (by decide)) (fun z => absurd (by rw [cs]; exact q1 hl) z) (fun _ => ?_)
      refine bX7_set_23 (P := fun v S' G' => v = some (sI (b_find A 1).1) ∧ restR (b_find A 1).2 S' G') (r_find 1 rfl (by decide) h (fun S' G' h' => ⟨rfl, h'⟩)) ?_
      rintro _ S2 G2 ⟨rfl, h'⟩
      exact bX7_set_28 (hQ _ _ h')
    | some l =>
      simp only [hl] at hQ
      obtain ⟨c1, c2, c3, c4⟩ := q2 l hl
      refine bX7_set_13 (vin s' rfl s16 (by decide)) (fun _ => ?_) (fun z => absurd (by rw [cs] at z; exact z) c2)
      have far : ∀ v1 v2 v3 : sV, zdec i l.length = none → rWP (d + 1) h0 m ad 78 Q 43 [sR (some m), v1, v2, v3] [] S1 G1 := fun v1 v2 v3 hi => by
        simp only [hi] at hQ
        refine bX7_set_43 (P := fun v S' G' => v = some (sI (b_find A 2).1) ∧ restR (b_find A 2).2 S' G') (r_find 2 rfl (by decide) h (fun S' G' h' => ⟨rfl, h'⟩)) ?_
        rintro _ S2 G2 ⟨rfl, h'⟩
        exact bX7_set_48 (hQ _ _ h')
      refine bX7_set_29 (fun z => far _ _ _ (zdec_no (.inl z))) (fun z => ?_)
      refine bX7_set_33 (vin s' rfl s16 (by decide)) (fun y => ?_) (fun y => far _ _ _ (zdec_no (.inr (by rw [cs, c1] at y; simpa using y))))
      rw [cs, c1] at y
      cases hi : zdec i l.length with
      | none => exact absurd y (by have := (zdec_none hi).resolve_left z; simpa using this)
      | some i' =>
        simp only [hi] at hQ
        obtain ⟨il, rfl⟩ := zdec_some (by omega) hi
        refine bX7_set_49 (vin (16 * s' + i') (by simp only [nc4, nc6, nc16, nc24, nc25, nc4r, nI_add, nI_1, nI_0]) (by omega) (by decide)) (hQ _ _ (rest_src h (fun k h1 h2 => gup_ne (by omega)) (fun x hx hxs => ⟨rfl, fun j hj => ?_⟩) (fun x l hl => hA.1.2.1 x l hl) (fun z => by cases z) (fun l' hl' => ?_)))
        · rw [nix (16 * s' + i') (by simp only [nc4, nc6, nc16, nc24, nc25, nc4r, nI_add, nI_1, nI_0]) (by omega), gup_at_ne (by omega)]
        · cases hl'
          rw [List.length_set]
          refine ⟨c1, fun j hj => ?_⟩
          rw [nix (16 * s' + i') (by simp only [nc4, nc6, nc16, nc24, nc25, nc4r, nI_add, nI_1, nI_0]) (by omega), gup_at]
          rw [List.getD_eq_getElem?_getD, List.getElem?_set]
          by_cases e : j = i'
          · subst e
            simp [hj]
          · rw [if_neg (by omega), if_neg (by omega), c4 j hj, List.getD_eq_getElem?_getD]
theorem r_miss {d : Nat} {h0 : hp} {m : Nat} {ad : Nat → Nat} {S : rS} {G : rG} {Q : Option sV → rS → rG → Prop} {A : zB} {s : Int32} (hA : zBok A) (h : restR A S G) (hQ : ∀ S' G', restR (o_miss A s).2 S' G' → Q (some (sI (o_miss A s).1)) S' G') : rM (d + 2) h0 m ad 79 [sR (some m), sI s] S G Q := by
  refine rM_of (ls := [sR (some m), sI s, sU]) rfl (Nat.le_of_ble_eq_true rfl) rfl ?_
  refine bX7_miss_0 (P := fun v S' G' => v = some (sI (if (zdec s 16).isSome = true then 1 else 0)) ∧ S' = S ∧ G' = G) (r_isSource ⟨rfl, rfl, rfl⟩) ?_
  rintro _ S1 G1 ⟨rfl, rfl, rfl⟩
  unfold o_miss at hQ
  cases hs : zdec s 16 with
  | none =>
    simp only [hs] at hQ
    exact bX7_miss_4 (fun z => absurd rfl z) (fun _ => bX7_miss_7 (hQ _ _ h))
  | some s' =>
    simp only [hs] at hQ
    obtain ⟨s16, rfl⟩ := zdec_some (by decide) hs
    obtain ⟨q1, q2⟩ := rE_none hA.1 h.1 s16
    have cs : (nI s').toNatClampNeg = s' := nix s' rfl (by omega)
    refine bX7_miss_4 (fun _ => ?_) (fun z => absurd z (by simp))
    cases hl : e_s (b_e A) s' with
    | none =>
      simp only [hl] at hQ
      refine bX7_miss_9 (vin s' rfl s16 (by decide)) (fun z => absurd (by rw [cs]; exact q1 hl) z) (fun _ => bX7_miss_19 (bX7_miss_24 (vin s' rfl s16 (by decide)) ?_))
      rw [cs, gup_same (q1 hl)]
      exact hQ _ _ h
    | some l =>
      simp only [hl] at hQ
      obtain ⟨c1, c2, c3, c4⟩ := q2 l hl
      refine bX7_miss_9 (vin s' rfl s16 (by decide)) (fun _ => bX7_miss_23 (bX7_miss_24 (vin s' rfl s16 (by decide)) (hQ _ _ ?_))) (fun z => absurd (by rw [cs] at z; exact z) c2)
      rw [cs]
      refine rest_src h (fun k h1 h2 => gup_ne (by omega)) (fun x hx hxs => ⟨gup_at_ne hxs, fun j hj => rfl⟩) (fun x l hl => hA.1.2.1 x l hl) (fun _ => gup_at_self) (fun l hl => by cases hl)
theorem r_size {d : Nat} {h0 : hp} {m : Nat} {ad : Nat → Nat} {S : rS} {G : rG} {Q : Option sV → rS → rG → Prop} {A : zB} {s : Int32} (hA : zBok A) (h : restR A S G) (hQ : ∀ S' G', restR (o_size A s).2 S' G' → Q (some (sI (o_size A s).1)) S' G') : rM (d + 2) h0 m ad 81 [sR (some m), sI s] S G Q := by
  refine rM_of (ls := [sR (some m), sI s]) rfl (Nat.le_of_ble_eq_true rfl) rfl ?_
  refine bX7_size_0 (P := fun v S' G' => v = some (sI (if (zdec s 16).isSome = true then 1 else 0)) ∧ S' = S ∧ G' = G) (r_isSource ⟨rfl, rfl, rfl⟩) ?_
  rintro _ S1 G1 ⟨rfl, rfl, rfl⟩
  unfold o_size at hQ
  cases hs : zdec s 16 with
  | none =>
    simp only [hs] at hQ
    refine bX7_size_4 (fun z => absurd rfl z) (fun _ => bX7_size_7 (P := fun v S' G' => v = some (sI (b_find A 2).1) ∧ restR (b_find A 2).2 S' G') (r_find 2 rfl (by decide) h (fun S' G' h' => ⟨rfl, h'⟩)) ?_)
    rintro _ S2 G2 ⟨rfl, h'⟩
    exact bX7_size_12 (hQ _ _ h')
  | some s' =>
    simp only [hs] at hQ
    obtain ⟨s16, rfl⟩ := zdec_some (by decide) hs
    obtain ⟨q1, q2⟩ := rE_none hA.1 h.1 s16
    have cs : (nI s').toNatClampNeg = s' := nix s' rfl (by omega)
    refine bX7_size_4 (fun _ => ?_) (fun z => absurd z (by simp))
    cases hl : e_s (b_e A) s' with
    | none =>
      simp only [hl] at hQ
      refine bX7_size_13 (vin s' rfl s16 (by decide)) (fun z => absurd (by rw [cs]; exact q1 hl) z) (fun _ => ?_)
      refine bX7_size_23 (P := fun v S' G' => v = some (sI (b_find A 1).1) ∧ restR (b_find A 1).2 S' G') (r_find 1 rfl (by decide) h (fun S' G' h' => ⟨rfl, h'⟩)) ?_
      rintro _ S2 G2 ⟨rfl, h'⟩
      exact bX7_size_28 (bX7_size_37 (hQ _ _ h'))
    | some l =>
      simp only [hl] at hQ
      obtain ⟨c1, c2, c3, c4⟩ := q2 l hl
      refine bX7_size_13 (vin s' rfl s16 (by decide)) (fun _ => bX7_size_31 (vin s' rfl s16 (by decide)) (bX7_size_37 ?_)) (fun z => absurd (by rw [cs] at z; exact z) c2)
      rw [cs, c1]
      exact hQ _ _ h
theorem r_told {d : Nat} {h0 : hp} {m : Nat} {ad : Nat → Nat} {S : rS} {G : rG} {Q : Option sV → rS → rG → Prop} {A : zB} {s i : Int32} (hA : zBok A) (h : restR A S G) (hQ : ∀ S' G', restR (o_told A s i).2 S' G' → Q (some (sI (o_told A s i).1)) S' G') : rM (d + 2) h0 m ad 82 [sR (some m), sI s, sI i] S G Q := by
  refine rM_of (ls := [sR (some m), sI s, sI i]) rfl (Nat.le_of_ble_eq_true rfl) rfl ?_
  refine bX7_told_0 (P := fun v S' G' => v = some (sI (if (zdec s 16).isSome = true then 1 else 0)) ∧ S' = S ∧ G' = G) (r_isSource ⟨rfl, rfl, rfl⟩) ?_
  rintro _ S1 G1 ⟨rfl, rfl, rfl⟩
  unfold o_told at hQ
  cases hs : zdec s 16 with
  | none =>
    simp only [hs] at hQ
    exact bX7_told_4 (fun _ => bX7_told_35 (bX7_told_36 (hQ _ _ h))) (fun z => absurd rfl z)
  | some s' =>
    simp only [hs] at hQ
    obtain ⟨s16, rfl⟩ := zdec_some (by decide) hs
    obtain ⟨q1, q2⟩ := rE_none hA.1 h.1 s16
    have cs : (nI s').toNatClampNeg = s' := nix s' rfl (by omega)
    refine bX7_told_4 (fun z => absurd z (by simp)) (fun _ => ?_)
    have fin0 : ∀ v1 v2 : sV, (Q (some (sI 0)) S1 G1) → rWP (d + 1) h0 m ad 82 Q 35 [sR (some m), v1, v2] [] S1 G1 := fun v1 v2 hq => bX7_told_35 (bX7_told_36 hq)
    cases hl : e_s (b_e A) s' with
    | none =>
      simp only [hl] at hQ
      refine bX7_told_7 (fun _ => fin0 _ _ (hQ _ _ h)) (fun z => ?_)
      refine bX7_told_11 (vin s' rfl s16 (by decide)) (fun _ => fin0 _ _ (hQ _ _ h)) (fun y => absurd ?_ y)
      rw [cs, q1 hl]
      have z : 0 ≤ i := by simpa using z
      exact Int32.le_trans (by decide) z
    | some l =>
      simp only [hl] at hQ
      obtain ⟨c1, c2, c3, c4⟩ := q2 l hl
      cases hi : zdec i l.length with
      | none =>
        simp only [hi] at hQ
        refine bX7_told_7 (fun _ => fin0 _ _ (hQ _ _ h)) (fun z => ?_)
        refine bX7_told_11 (vin s' rfl s16 (by decide)) (fun _ => fin0 _ _ (hQ _ _ h)) (fun y => absurd ?_ y)
        rw [cs, c1]
        exact (zdec_none hi).resolve_left z
      | some i' =>
        simp only [hi] at hQ
        obtain ⟨il, rfl⟩ := zdec_some (by omega) hi
        refine bX7_told_7 (fun z => absurd z (by rw [show (0 : Int32) = nI 0 from rfl, nI_ltI (by omega) (by omega)]; omega)) (fun z => ?_)
        refine bX7_told_11 (vin s' rfl s16 (by decide)) (fun y => absurd y (by rw [cs, c1, nI_leI (by omega) (by omega)]; omega)) (fun y => ?_)
        refine bX7_told_21 (vin (16 * s' + i') (by simp only [nc4, nc6, nc16, nc24, nc25, nc4r, nI_add, nI_1, nI_0]) (by omega) (by decide)) (bX7_told_36 ?_)
        rw [nix (16 * s' + i') (by simp only [nc4, nc6, nc16, nc24, nc25, nc4r, nI_add, nI_1, nI_0]) (by omega), c4 i' il]
        exact hQ _ _ h
