theorem rest_upd {A : zB} {S S' : rS} {G G' : rG} {n r : Nat} {k : Int32} {t : Bool} {ins : List Nat} (h : restR A S G) (hi : ∀ r, (e_i (b_e A) r).length ≤ 6) (hr : r < 24) (hS : ∀ j, j ≠ 6 → S' j = S j) (h6 : S' 6 = nI n) (hk : ∀ k, k < 2 ∨ k = 6 ∨ 7 < k → G' k = G k) (h1 : ∀ x, x ≠ r → G' 2 x = G 2 x ∧ G' 5 x = G 5 x ∧ G' 3 x = G 3 x ∧ G' 7 x = G 7 x ∧ ∀ j, j < 6 → G' 4 (6 * x + j) = G 4 (6 * x + j)) (g2 : G' 2 r = k) (g5 : G' 5 r = if t = true then 1 else 0) (g3 : G' 3 r = nI ins.length) (g4 : ∀ j, j < ins.length → G' 4 (6 * r + j) = nI (ins.getD j 0)) (g7 : G' 7 r = 0) : restR (b_upd A n r k t ins) S' G' := by
  obtain ⟨⟨s1, s2, s3, s4⟩, ⟨sl, a2⟩, a3, a4, a5, a6, a7⟩ := h
  refine ⟨⟨?_, h6, fun x hx => ?_, ?_⟩, ⟨sl, fun x hx => ?_⟩, ?_, ?_, ?_, ?_, ?_⟩
  · rw [hk 0 (by omega), hk 1 (by omega)]
    exact s1
  · show G' 2 x = va_up (e_k (b_e A)) r k x ∧ G' 5 x = (if va_up (e_t (b_e A)) r t x = true then 1 else 0) ∧ G' 3 x = nI (va_up (e_i (b_e A)) r ins x).length ∧ ∀ j, j < (va_up (e_i (b_e A)) r ins x).length → G' 4 (6 * x + j) = nI ((va_up (e_i (b_e A)) r ins x).getD j 0)
    by_cases e : x = r
    · subst e
      rw [va_up_self, va_up_self, va_up_self]
      exact ⟨g2, g5, g3, g4⟩
    · rw [va_up_ne _ _ e, va_up_ne _ _ e, va_up_ne _ _ e]
      obtain ⟨c1, c2, c3, c4, c5⟩ := h1 x e
      obtain ⟨b1, b2, b3, b4⟩ := s3 x hx
      have := hi x
      exact ⟨c1.trans b1, c2.trans b2, c3.trans b3, fun j hj => (c5 j (by omega)).trans (b4 j hj)⟩
  · rw [hS 27 (by omega)]
    exact s4
  · show G' 7 x = nI (va_up (q_t (b_q A)) r [] x).length ∧ (∀ y, y < (va_up (q_t (b_q A)) r [] x).length → sl x y < 4 ∧ G' 8 (4 * x + y) = nI (sl x y) ∧ rTr G' (4 * x + sl x y) ((va_up (q_t (b_q A)) r [] x).getD y zt0)) ∧ ∀ y y', y < (va_up (q_t (b_q A)) r [] x).length → y' < (va_up (q_t (b_q A)) r [] x).length → sl x y = sl x y' → y = y'
    by_cases e : x = r
    · subst e
      rw [va_up_self]
      exact ⟨g7, fun y hy => absurd hy (by simp), fun y y' hy => absurd hy (by simp)⟩
    · rw [va_up_ne _ _ e]
      obtain ⟨b1, b2, b3⟩ := a2 x hx
      refine ⟨(h1 x e).2.2.2.1.trans b1, fun y hy => ?_, b3⟩
      obtain ⟨d1, d2, d3⟩ := b2 y hy
      refine ⟨d1, by rw [hk 8 (by omega)]; exact d2, ?_⟩
      unfold rTr zA at d3 ⊢
      rw [hk 9 (by omega), hk 10 (by omega), hk 11 (by omega), hk 12 (by omega), hk 13 (by omega), hk 14 (by omega), hk 15 (by omega), hk 16 (by omega), hk 17 (by omega), hk 18 (by omega)]
      exact d3
  · show rW (q_tr (b_q A) r []) (b_w A) S' G'
    obtain ⟨c1, c2, c3, c4, c5⟩ := a3
    refine ⟨by rw [hS 52 (by omega)]; exact c1, by rw [hk 57 (by omega)]; exact c2, by rw [hS 53 (by omega)]; exact c3, by rw [hS 55 (by omega)]; exact c4, by rw [hk 58 (by omega)]; exact c5⟩
  · show rLs (b_l A) S' G'
    cases hl : b_l A with
    | none => rw [hl] at a4; exact ⟨by rw [hS 48 (by omega)]; exact a4.1, by rw [hS 51 (by omega)]; exact a4.2⟩
    | some p => rw [hl] at a4; exact ⟨by rw [hS 48 (by omega)]; exact a4.1, by rw [hS 49 (by omega)]; exact a4.2.1, by rw [hS 50 (by omega)]; exact a4.2.2.1, by rw [hk 56 (by omega)]; exact a4.2.2.2.1, by rw [hS 51 (by omega)]; exact a4.2.2.2.2⟩
  · rw [hS 54 (by omega)]; exact a5
  · rw [hS 59 (by omega)]; exact a6
  · rw [hk 60 (by omega)]; exact a7
theorem gup_x {G : rG} {k k' j i : Nat} {x : Int32} (h : ¬ k' = k ∨ ¬ i = j) : gup G k j x k' i = G k' i := by
  by_cases e : k' = k
  · subst e
    exact gup_at_ne (h.resolve_left (fun z => z rfl))
  · rw [gup_ne e]
theorem r_rule {d : Nat} {h0 : hp} {m : Nat} {ad : Nat → Nat} {S : rS} {G : rG} {Q : Option sV → rS → rG → Prop} {A : zB} {k t : Int32} (ht : t = 0 ∨ t = 1) (hA : zBok A) (h : restR A S G) (hQ : ∀ S' G', restR (o_rule A k t).2 S' G' → Q (some (sI (o_rule A k t).1)) S' G') : rM (d + 2) h0 m ad 83 [sR (some m), sI k, sI t] S G Q := by
  refine rM_of (ls := [sR (some m), sI k, sI t]) rfl (Nat.le_of_ble_eq_true rfl) rfl ?_
  unfold o_rule at hQ
  have n24 := hA.1.1
  have s6 : S 6 = nI (e_n (b_e A)) := h.1.2.1
  refine bX7_rule_0 (fun z => bX7_rule_11 (by rw [if_pos (.inl z)] at hQ; exact hQ _ _ h)) (fun z => ?_)
  refine bX7_rule_5 (fun y => ?_) (fun y => bX7_rule_11 (by rw [if_pos (.inr (Int32.not_le.mp y))] at hQ; exact hQ _ _ h))
  rw [if_neg (fun w => w.elim z (fun w => absurd y (Int32.not_le.mpr w)))] at hQ
  by_cases hn : e_n (b_e A) = 24
  · rw [if_pos hn] at hQ
    exact bX7_rule_13 (fun w => absurd (by rw [s6, hn]; rfl) w) (fun _ => bX7_rule_22 (hQ _ _ h))
  · rw [if_neg hn] at hQ
    refine bX7_rule_13 (fun _ => ?_) (fun w => absurd w (by rw [s6, show (24 : Int32) = nI 24 from rfl, nI_eq (by omega) (by omega)]; exact hn))
    refine bX7_rule_25 (vin _ s6 (by omega) (by decide)) ht ?_
    rw [nix _ s6 (by omega)]
    have e1 : S 6 + 1 - 1 = nI (e_n (b_e A)) := by rw [s6]; exact Int32.add_sub_cancel _ _
    rw [e1]
    have hN := hA.2.2.2.2.2.2.1 (e_n (b_e A)) (Nat.le_refl _)
    refine hQ _ _ (rest_upd h (fun r => hA.1.2.2.1 r) (by omega) (fun j hj => va_up_ne _ _ hj) (by rw [va_up_self, s6, nI_1]) (fun k hk => by rw [gup_ne (by omega), gup_ne (by omega)]) (fun x hx => ⟨?_, ?_, ?_, ?_, fun j hj => ?_⟩) ?_ ?_ ?_ (fun j hj => absurd hj (by simp)) ?_)
    · rw [gup_x (.inl (by omega)), gup_x (.inr hx)]
    · rw [gup_x (.inr hx), gup_x (.inl (by omega))]
    · rw [gup_x (.inl (by omega)), gup_x (.inl (by omega))]
    · rw [gup_x (.inl (by omega)), gup_x (.inl (by omega))]
    · rw [gup_x (.inl (by omega)), gup_x (.inl (by omega))]
    · rw [gup_x (.inl (by omega)), gup_at_self]
    · rw [gup_at_self]
      rcases ht with e | e <;> subst e <;> rfl
    · rw [gup_x (.inl (by omega)), gup_x (.inl (by omega))]
      have := (h.1.2.2.1 (e_n (b_e A)) (by omega)).2.2.1
      rw [hN.2.1] at this
      exact this
    · rw [gup_x (.inl (by omega)), gup_x (.inl (by omega))]
      obtain ⟨sl, hT⟩ := h.2.1
      have := (hT (e_n (b_e A)) (by omega)).1
      rw [hN.1] at this
      exact this
theorem r_input {d : Nat} {h0 : hp} {m : Nat} {ad : Nat → Nat} {S : rS} {G : rG} {Q : Option sV → rS → rG → Prop} {A : zB} {r nm : Int32} (hA : zBok A) (h : restR A S G) (hQ : ∀ S' G', restR (o_input A r nm).2 S' G' → Q (some (sI (o_input A r nm).1)) S' G') : rM (d + 2) h0 m ad 84 [sR (some m), sI r, sI nm] S G Q := by
  refine rM_of (ls := [sR (some m), sI r, sI nm]) rfl (Nat.le_of_ble_eq_true rfl) rfl ?_
  unfold o_input at hQ
  have n24 := hA.1.1
  have s6 : S 6 = nI (e_n (b_e A)) := h.1.2.1
  refine bX7_input_0 (P := fun v S' G' => v = some (sI (if (zdec r (e_n (b_e A))).isSome = true then 1 else 0)) ∧ S' = S ∧ G' = G) (r_isRule2 s6 ⟨rfl, rfl, rfl⟩) ?_
  rintro _ S1 G1 ⟨rfl, rfl, rfl⟩
  cases hr : zdec r (e_n (b_e A)) with
  | none =>
    simp only [hr] at hQ
    exact bX7_input_5 (fun _ => bX7_input_15 (hQ _ _ h)) (fun z => absurd rfl z)
  | some r' =>
    obtain ⟨rn, rfl⟩ := zdec_some (by omega) hr
    refine bX7_input_5 (fun z => absurd z (by simp)) (fun _ => ?_)
    refine bX7_input_8 (P := fun v S' G' => v = some (sI (if (zdec nm 40).isSome = true then 1 else 0)) ∧ S' = S1 ∧ G' = G1) (r_isName ⟨rfl, rfl, rfl⟩) ?_
    rintro _ S1 G1 ⟨rfl, rfl, rfl⟩
    cases hm : zdec nm 40 with
    | none =>
      simp only [hr, hm] at hQ
      exact bX7_input_12 (fun z => absurd rfl z) (fun _ => bX7_input_15 (hQ _ _ h))
    | some nm' =>
      obtain ⟨n40, rfl⟩ := zdec_some (by decide) hm
      simp only [hr, hm] at hQ
      refine bX7_input_12 (fun _ => ?_) (fun z => absurd z (by simp))
      have r24 : r' < 24 := by omega
      have cr : (nI r').toNatClampNeg = r' := nix r' rfl (by omega)
      obtain ⟨b1, b2, b3, b4⟩ := h.1.2.2.1 r' r24
      have i6 := hA.1.2.2.1 r'
      by_cases h6 : (e_i (b_e A) r').length = 6
      · rw [if_pos h6] at hQ
        exact bX7_input_17 (vin r' rfl r24 (by decide)) (fun z => absurd (by rw [cr, b3, h6]; rfl) z) (fun _ => bX7_input_28 (hQ _ _ h))
      · rw [if_neg h6] at hQ
        refine bX7_input_17 (vin r' rfl r24 (by decide)) (fun _ => ?_) (fun z => absurd z (by rw [cr, b3, show (6 : Int32) = nI 6 from rfl, nI_eq (by omega) (by omega)]; exact h6))
        have e1 : (6 : Int32) * nI r' + G1 3 (nI r').toNatClampNeg = nI (6 * r' + (e_i (b_e A) r').length) := by rw [cr, b3, nc6, nI_add]
        refine bX7_input_31 (vin r' rfl r24 (by decide)) (vin _ e1 (by omega) (by decide)) ?_
        rw [nix _ e1 (by omega), cr, b3, nI_1]
        rw [show upd (G1 3) r' (nI ((e_i (b_e A) r').length + 1)) r' = nI ((e_i (b_e A) r').length + 1) from by simp [upd]]
        refine hQ _ _ (rest_upd h (fun r => hA.1.2.2.1 r) r24 (fun j hj => rfl) s6 (fun k hk => by rw [gup_ne (by omega), gup_ne (by omega), gup_ne (by omega)]) (fun x hx => ⟨rfl, rfl, ?_, ?_, fun j hj => ?_⟩) b1 b2 ?_ (fun j hj => ?_) gup_at_self)
        · rw [gup_x (.inl (by omega)), gup_x (.inr hx), gup_x (.inl (by omega))]
        · rw [gup_x (.inr hx), gup_x (.inl (by omega)), gup_x (.inl (by omega))]
        · rw [gup_x (.inl (by omega)), gup_x (.inl (by omega)), gup_x (.inr (by omega))]
        · rw [gup_x (.inl (by omega)), gup_at_self, List.length_append]; rfl
        · rw [gup_x (.inl (by omega)), gup_x (.inl (by omega)), gup_at, List.getD_eq_getElem?_getD]
          rw [List.length_append] at hj
          simp only [List.length_cons, List.length_nil] at hj
          by_cases e : j = (e_i (b_e A) r').length
          · rw [if_pos (by omega), e, List.getElem?_append_right (Nat.le_refl _), Nat.sub_self]
            rfl
          · rw [if_neg (by omega), List.getElem?_append_left (by omega), ← List.getD_eq_getElem?_getD]
            exact b4 j (by omega)
theorem r_turn {d : Nat} {h0 : hp} {m : Nat} {ad : Nat → Nat} {S : rS} {G : rG} {Q : Option sV → rS → rG → Prop} {A : zB} {r i nm : Int32} (hA : zBok A) (h : restR A S G) (hQ : ∀ S' G', restR (o_turn A r i nm).2 S' G' → Q (some (sI (o_turn A r i nm).1)) S' G') : rM (d + 2) h0 m ad 85 [sR (some m), sI r, sI i, sI nm] S G Q := by
  refine rM_of (ls := [sR (some m), sI r, sI i, sI nm]) rfl (Nat.le_of_ble_eq_true rfl) rfl ?_
  unfold o_turn at hQ
  have n24 := hA.1.1
  have s6 : S 6 = nI (e_n (b_e A)) := h.1.2.1
  refine bX7_turn_0 (P := fun v S' G' => v = some (sI (if (zdec r (e_n (b_e A))).isSome = true then 1 else 0)) ∧ S' = S ∧ G' = G) (r_isRule2 s6 ⟨rfl, rfl, rfl⟩) ?_
  rintro _ S1 G1 ⟨rfl, rfl, rfl⟩
  cases hr : zdec r (e_n (b_e A)) with
  | none =>
    simp only [hr] at hQ
    exact bX7_turn_5 (fun _ => bX7_turn_29 (hQ _ _ h)) (fun z => absurd rfl z)
  | some r' =>
    obtain ⟨rn, rfl⟩ := zdec_some (by omega) hr
    simp only [hr] at hQ
    refine bX7_turn_5 (fun z => absurd z (by simp)) (fun _ => ?_)
    have r24 : r' < 24 := by omega
    have cr : (nI r').toNatClampNeg = r' := nix r' rfl (by omega)
    obtain ⟨b1, b2, b3, b4⟩ := h.1.2.2.1 r' r24
    have i6 := hA.1.2.2.1 r'
    cases hi : zdec i (e_i (b_e A) r').length with
    | none =>
      simp only [hi] at hQ
      refine bX7_turn_8 (fun _ => bX7_turn_29 (hQ _ _ h)) (fun z => ?_)
      exact bX7_turn_12 (vin r' rfl r24 (by decide)) (fun _ => bX7_turn_29 (hQ _ _ h)) (fun y => absurd (by rw [cr, b3]; exact (zdec_none hi).resolve_left z) y)
    | some i' =>
      obtain ⟨il, rfl⟩ := zdec_some (by omega) hi
      refine bX7_turn_8 (fun z => absurd z (by rw [show (0 : Int32) = nI 0 from rfl, nI_ltI (by omega) (by omega)]; omega)) (fun _ => ?_)
      refine bX7_turn_12 (vin r' rfl r24 (by decide)) (fun z => absurd z (by rw [cr, b3, nI_leI (by omega) (by omega)]; omega)) (fun _ => ?_)
      refine bX7_turn_22 (P := fun v S' G' => v = some (sI (if (zdec nm 40).isSome = true then 1 else 0)) ∧ S' = S1 ∧ G' = G1) (r_isName ⟨rfl, rfl, rfl⟩) ?_
      rintro _ S1 G1 ⟨rfl, rfl, rfl⟩
      cases hm : zdec nm 40 with
      | none =>
        simp only [hi, hm] at hQ
        exact bX7_turn_26 (fun z => absurd rfl z) (fun _ => bX7_turn_29 (hQ _ _ h))
      | some nm' =>
        obtain ⟨n40, rfl⟩ := zdec_some (by decide) hm
        simp only [hi, hm] at hQ
        refine bX7_turn_26 (fun _ => ?_) (fun z => absurd z (by simp))
        have e1 : (6 : Int32) * nI r' + nI i' = nI (6 * r' + i') := by simp only [nc4, nc6, nc16, nc24, nc25, nc4r, nI_add, nI_1, nI_0]
        have g40 : (e_i (b_e A) r').getD i' 0 < 40 := by
          rw [List.getD_eq_getElem?_getD, List.getElem?_eq_getElem il]
          exact hA.1.2.2.2 r' _ (List.getElem_mem il)
        by_cases hs : (e_i (b_e A) r').getD i' 0 = nm'
        · rw [if_pos hs] at hQ
          exact bX7_turn_31 (vin _ e1 (by omega) (by decide)) (fun z => absurd (by rw [nix _ e1 (by omega), b4 i' il, hs]) z) (fun _ => bX7_turn_46 (hQ _ _ h))
        · rw [if_neg hs] at hQ
          refine bX7_turn_31 (vin _ e1 (by omega) (by decide)) (fun _ => ?_) (fun z => absurd z (by rw [nix _ e1 (by omega), b4 i' il, nI_eq (by omega) (by omega)]; exact hs))
          refine bX7_turn_48 (vin _ e1 (by omega) (by decide)) (vin r' rfl r24 (by decide)) ?_
          rw [nix _ e1 (by omega), cr]
          refine hQ _ _ (rest_upd h (fun r => hA.1.2.2.1 r) r24 (fun j hj => rfl) s6 (fun k hk => by rw [gup_ne (by omega), gup_ne (by omega)]) (fun x hx => ⟨rfl, rfl, rfl, ?_, fun j hj => ?_⟩) b1 b2 ?_ (fun j hj => ?_) gup_at_self)
          · rw [gup_x (.inr hx), gup_x (.inl (by omega))]
          · rw [gup_x (.inl (by omega)), gup_x (.inr (by omega))]
          · rw [List.length_set]; exact b3
          · rw [List.length_set] at hj
            rw [gup_x (.inl (by omega)), gup_at, List.getD_eq_getElem?_getD, List.getElem?_set]
            by_cases e : j = i'
            · subst e
              simp [hj]
            · rw [if_neg (by omega), if_neg (by omega), b4 j hj, List.getD_eq_getElem?_getD]
theorem r_become {d : Nat} {h0 : hp} {m : Nat} {ad : Nat → Nat} {S : rS} {G : rG} {Q : Option sV → rS → rG → Prop} {A : zB} {r k t : Int32} (ht : t = 0 ∨ t = 1) (hA : zBok A) (h : restR A S G) (hQ : ∀ S' G', restR (o_become A r k t).2 S' G' → Q (some (sI (o_become A r k t).1)) S' G') : rM (d + 2) h0 m ad 86 [sR (some m), sI r, sI k, sI t] S G Q := by
  refine rM_of (ls := [sR (some m), sI r, sI k, sI t]) rfl (Nat.le_of_ble_eq_true rfl) rfl ?_
  unfold o_become at hQ
  have n24 := hA.1.1
  have s6 : S 6 = nI (e_n (b_e A)) := h.1.2.1
  refine bX7_become_0 (P := fun v S' G' => v = some (sI (if (zdec r (e_n (b_e A))).isSome = true then 1 else 0)) ∧ S' = S ∧ G' = G) (r_isRule2 s6 ⟨rfl, rfl, rfl⟩) ?_
  rintro _ S1 G1 ⟨rfl, rfl, rfl⟩
  cases hr : zdec r (e_n (b_e A)) with
  | none =>
    simp only [hr] at hQ
    exact bX7_become_5 (fun _ => bX7_become_19 (hQ _ _ h)) (fun z => absurd rfl z)
  | some r' =>
    obtain ⟨rn, rfl⟩ := zdec_some (by omega) hr
    simp only [hr] at hQ
    refine bX7_become_5 (fun z => absurd z (by simp)) (fun _ => ?_)
    have r24 : r' < 24 := by omega
    have cr : (nI r').toNatClampNeg = r' := nix r' rfl (by omega)
    obtain ⟨b1, b2, b3, b4⟩ := h.1.2.2.1 r' r24
    refine bX7_become_8 (fun z => bX7_become_19 (by rw [if_pos (.inl z)] at hQ; exact hQ _ _ h)) (fun z => ?_)
    refine bX7_become_13 (fun y => ?_) (fun y => bX7_become_19 (by rw [if_pos (.inr (Int32.not_le.mp y))] at hQ; exact hQ _ _ h))
    rw [if_neg (fun w => w.elim z (fun w => absurd y (Int32.not_le.mpr w)))] at hQ
    refine bX7_become_21 (vin r' rfl r24 (by decide)) ht ?_
    rw [cr]
    refine hQ _ _ (rest_upd h (fun r => hA.1.2.2.1 r) r24 (fun j hj => rfl) s6 (fun k hk => by rw [gup_ne (by omega), gup_ne (by omega), gup_ne (by omega)]) (fun x hx => ⟨?_, ?_, rfl, ?_, fun j hj => rfl⟩) ?_ ?_ b3 b4 gup_at_self)
    · rw [gup_x (.inl (by omega)), gup_x (.inl (by omega)), gup_x (.inr hx)]
    · rw [gup_x (.inl (by omega)), gup_x (.inr hx), gup_x (.inl (by omega))]
    · rw [gup_x (.inr hx), gup_x (.inl (by omega)), gup_x (.inl (by omega))]
    · rw [gup_x (.inl (by omega)), gup_x (.inl (by omega)), gup_at_self]
    · rw [gup_x (.inl (by omega)), gup_at_self]
      rcases ht with e | e <;> subst e <;> rfl
theorem r_forget {d : Nat} {h0 : hp} {m : Nat} {ad : Nat → Nat} {S : rS} {G : rG} {Q : Option sV → rS → rG → Prop} {A : zB} {r : Int32} (hA : zBok A) (h : restR A S G) (hQ : ∀ S' G', restR (o_forget A r).2 S' G' → Q (some (sI (o_forget A r).1)) S' G') : rM (d + 2) h0 m ad 87 [sR (some m), sI r] S G Q := by
  refine rM_of (ls := [sR (some m), sI r, sU]) rfl (Nat.le_of_ble_eq_true rfl) rfl ?_
  unfold o_forget at hQ
  have n24 := hA.1.1
  have s6 : S 6 = nI (e_n (b_e A)) := h.1.2.1
  refine bX7_forget_0 (P := fun v S' G' => v = some (sI (if (zdec r (e_n (b_e A))).isSome = true then 1 else 0)) ∧ S' = S ∧ G' = G) (r_isRule2 s6 ⟨rfl, rfl, rfl⟩) ?_
  rintro _ S1 G1 ⟨rfl, rfl, rfl⟩
  cases hr : zdec r (e_n (b_e A)) with
  | none =>
    simp only [hr] at hQ
    exact bX7_forget_5 (fun z => absurd rfl z) (fun _ => bX7_forget_8 (hQ _ _ h))
  | some r' =>
    obtain ⟨rn, rfl⟩ := zdec_some (by omega) hr
    simp only [hr] at hQ
    refine bX7_forget_5 (fun _ => ?_) (fun z => absurd z (by simp))
    have r24 : r' < 24 := by omega
    have cr : (nI r').toNatClampNeg = r' := nix r' rfl (by omega)
    obtain ⟨b1, b2, b3, b4⟩ := h.1.2.2.1 r' r24
    refine bX7_forget_10 (vin r' rfl r24 (by decide)) ?_
    obtain ⟨sl, hT⟩ := h.2.1
    rw [cr, (hT r' r24).1]
    refine hQ _ _ (rest_upd h (fun r => hA.1.2.2.1 r) r24 (fun j hj => rfl) s6 (fun k hk => by rw [gup_ne (by omega)]) (fun x hx => ⟨rfl, rfl, rfl, ?_, fun j hj => rfl⟩) b1 b2 b3 b4 gup_at_self)
    rw [gup_x (.inr hx)]
