theorem r_of {d : Nat} {h0 : hp} {m : Nat} {ad : Nat → Nat} {S : rS} {G : rG} {Q : Option sV → rS → rG → Prop} {A : zB} {r w : Int32} (hA : zBok A) (h : restR A S G) (hQ : ∀ S' G', restR (o_of A r w).2 S' G' → Q (some (sI (o_of A r w).1)) S' G') : rM (d + 2) h0 m ad 88 [sR (some m), sI r, sI w] S G Q := by
  refine rM_of (ls := [sR (some m), sI r, sI w]) rfl (Nat.le_of_ble_eq_true rfl) rfl ?_
  unfold o_of at hQ
  have n24 := hA.1.1
  have s6 : S 6 = nI (e_n (b_e A)) := h.1.2.1
  cases hw : zdec w 10 with
  | none =>
    simp only [hw] at hQ
    refine bX7_of_0 (fun _ => bX7_of_10 (hQ _ _ h)) (fun z => ?_)
    exact bX7_of_4 (fun y => absurd (show nI 10 ≤ nI 9 from Int32.le_trans ((zdec_none hw).resolve_left z) y) (by decide)) (fun _ => bX7_of_10 (hQ _ _ h))
  | some w' =>
    obtain ⟨w10, rfl⟩ := zdec_some (by decide) hw
    simp only [hw] at hQ
    refine bX7_of_0 (fun z => absurd z (by rw [show (0 : Int32) = nI 0 from rfl, nI_ltI (by omega) (by omega)]; omega)) (fun _ => ?_)
    refine bX7_of_4 (fun _ => ?_) (fun z => absurd (by rw [show (9 : Int32) = nI 9 from rfl]; exact nI_le (by omega) (by omega)) z)
    refine bX7_of_12 (P := fun v S' G' => v = some (sI (if (zdec r (e_n (b_e A))).isSome = true then 1 else 0)) ∧ S' = S ∧ G' = G) (r_isRule2 s6 ⟨rfl, rfl, rfl⟩) ?_
    rintro _ S1 G1 ⟨rfl, rfl, rfl⟩
    cases hr : zdec r (e_n (b_e A)) with
    | none =>
      simp only [hr] at hQ
      refine bX7_of_17 (fun z => absurd rfl z) (fun _ => bX7_of_20 (P := fun v S' G' => v = some (sI (b_find A 2).1) ∧ restR (b_find A 2).2 S' G') (r_find 2 rfl (by decide) h (fun S' G' h' => ⟨rfl, h'⟩)) ?_)
      rintro _ S2 G2 ⟨rfl, h'⟩
      exact bX7_of_25 (hQ _ _ h')
    | some r' =>
      obtain ⟨rn, rfl⟩ := zdec_some (by omega) hr
      simp only [hr] at hQ
      refine bX7_of_17 (fun _ => ?_) (fun z => absurd z (by simp))
      have r24 : r' < 24 := by omega
      have cr : (nI r').toNatClampNeg = r' := nix r' rfl (by omega)
      have vr : vp_in (nI r') 24 := vin r' rfl r24 (by decide)
      obtain ⟨b1, b2, b3, b4⟩ := h.1.2.2.1 r' r24
      have i6 := hA.1.2.2.1 r'
      have wi : (nI w').toInt = (w' : Int) := nI_toInt (by omega)
      have hQ := hQ _ _ h
      refine bX7_of_26 (fun z => ?_) (fun z => ?_) (fun z => ?_) (fun z => ?_) (fun z => ?_)
      · have e : w' = 0 := by omega
        refine bX7_of_56 vr ?_
        rw [cr, b1]
        rw [if_pos e] at hQ
        exact hQ
      · have e : w' = 1 := by omega
        rw [if_neg (by omega), if_pos e] at hQ
        by_cases ht : e_t (b_e A) r' = true
        · rw [if_pos ht] at hQ
          refine bX7_of_63 vr (fun y => absurd y (by rw [cr, b2, if_pos ht]; decide)) (fun _ => bX7_of_72 (bX7_of_77 hQ))
        · rw [if_neg ht] at hQ
          refine bX7_of_63 vr (fun _ => bX7_of_76 (bX7_of_77 hQ)) (fun y => absurd (by rw [cr, b2, if_neg ht]) y)
      · have e : w' = 2 := by omega
        rw [if_neg (by omega), if_neg (by omega), if_pos e] at hQ
        refine bX7_of_78 vr ?_
        rw [cr, b3]
        exact hQ
      · have e : w' = 3 := by omega
        rw [if_neg (by omega), if_neg (by omega), if_neg (by omega), if_pos e] at hQ
        refine bX7_of_85 vr ?_
        obtain ⟨sl, hT⟩ := h.2.1
        rw [cr, (hT r' r24).1]
        exact hQ
      · have e : 4 ≤ w' := by omega
        rw [if_neg (by omega), if_neg (by omega), if_neg (by omega), if_neg (by omega)] at hQ
        have e4 : nI w' - 4 = nI (w' - 4) := pk_sub (b := 4) (by omega)
        by_cases hlt : w' - 4 < (e_i (b_e A) r').length
        · rw [if_pos hlt] at hQ
          have e5 : (6 : Int32) * nI r' + nI w' - 4 = nI (6 * r' + (w' - 4)) := by
            rw [nc6, nI_add, show (4 : Int32) = nI 4 from rfl, pk_sub (b := 4) (by omega)]
            congr 1
            omega
          refine bX7_of_92 vr (fun y => absurd y (by rw [cr, b3, e4, nI_leI (by omega) (by omega)]; omega)) (fun _ => bX7_of_104 (vin _ e5 (by omega) (by decide)) (bX7_of_121 ?_))
          rw [nix _ e5 (by omega), b4 _ hlt]
          exact hQ
        · rw [if_neg hlt] at hQ
          exact bX7_of_92 vr (fun _ => bX7_of_120 (bX7_of_121 hQ)) (fun y => absurd (by rw [cr, b3, e4]; exact nI_le (by omega) (by omega)) y)
theorem r_trace {d : Nat} {h0 : hp} {m : Nat} {ad : Nat → Nat} {S : rS} {G : rG} {Q : Option sV → rS → rG → Prop} {A : zB} {r k i : Int32} (hA : zBok A) (h : restR A S G) (hQ : ∀ S' G', restR (o_trace A r k i).2 S' G' → Q (some (sI (o_trace A r k i).1)) S' G') : rM (d + 2) h0 m ad 89 [sR (some m), sI r, sI k, sI i] S G Q := by
  refine rM_of (ls := [sR (some m), sI r, sI k, sI i, sU]) rfl (Nat.le_of_ble_eq_true rfl) rfl ?_
  unfold o_trace at hQ
  have n24 := hA.1.1
  have s6 : S 6 = nI (e_n (b_e A)) := h.1.2.1
  refine bX7_trace_0 (P := fun v S' G' => v = some (sI (if (zdec r (e_n (b_e A))).isSome = true then 1 else 0)) ∧ S' = S ∧ G' = G) (r_isRule2 s6 ⟨rfl, rfl, rfl⟩) ?_
  rintro _ S1 G1 ⟨rfl, rfl, rfl⟩
  cases hr : zdec r (e_n (b_e A)) with
  | none =>
    simp only [hr] at hQ
    exact bX7_trace_5 (fun _ => bX7_trace_27 (hQ _ _ h)) (fun z => absurd rfl z)
  | some r' =>
    obtain ⟨rn, rfl⟩ := zdec_some (by omega) hr
    simp only [hr] at hQ
    refine bX7_trace_5 (fun z => absurd z (by simp)) (fun _ => ?_)
    have r24 : r' < 24 := by omega
    have cr : (nI r').toNatClampNeg = r' := nix r' rfl (by omega)
    have vr : vp_in (nI r') 24 := vin r' rfl r24 (by decide)
    obtain ⟨sl, hT⟩ := h.2.1
    obtain ⟨t1, t2, t3⟩ := hT r' r24
    have q4 := (hA.2.1 r').1
    cases hk : zdec k (q_t (b_q A) r').length with
    | none =>
      simp only [hk] at hQ
      refine bX7_trace_8 (fun _ => bX7_trace_27 (hQ _ _ h)) (fun z => ?_)
      exact bX7_trace_12 vr (fun _ => bX7_trace_27 (hQ _ _ h)) (fun y => absurd (by rw [cr, t1]; exact (zdec_none hk).resolve_left z) y)
    | some k' =>
      obtain ⟨kl, rfl⟩ := zdec_some (by omega) hk
      simp only [hk] at hQ
      obtain ⟨s1, s2, s3, s4, s5⟩ := t2 k' kl
      have htk := ((hA.2.1 r').2 _ (zget_mem kl)).1
      have h25 := htk.1
      refine bX7_trace_8 (fun z => absurd z (by rw [show (0 : Int32) = nI 0 from rfl, nI_ltI (by omega) (by omega)]; omega)) (fun _ => ?_)
      refine bX7_trace_12 vr (fun z => absurd z (by rw [cr, t1, nI_leI (by omega) (by omega)]; omega)) (fun _ => ?_)
      have slot : ∀ (hi : (-1 : Int32) ≤ i), rWP (d + 1) h0 m ad 89 Q 29 [sR (some m), sI (nI r'), sI (nI k'), sI i, sU] [] S1 G1 := fun hi => by
        refine bX7_trace_29 (P := fun v S' G' => v = some (sI (nI (4 * r' + sl r' k'))) ∧ S' = S1 ∧ G' = G1) (r_slotOf r24 (by omega) ⟨by rw [s2, nc4, nI_add], rfl, rfl⟩) ?_
        rintro _ S1 G1 ⟨rfl, rfl, rfl⟩
        have e1 : (nI (4 * r' + sl r' k')).toNatClampNeg = 4 * r' + sl r' k' := nix _ rfl (by omega)
        have v1 : vp_in (nI (4 * r' + sl r' k')) 96 := vin _ rfl (by omega) (by decide)
        by_cases hi1 : i = -1
        · rw [if_pos hi1] at hQ
          refine bX7_trace_35 (fun z => absurd hi1 z) (fun _ => bX7_trace_42 v1 ?_)
          rw [e1, s3]
          exact hQ _ _ h
        · rw [if_neg hi1] at hQ
          refine bX7_trace_35 (fun _ => ?_) (fun z => absurd z hi1)
          cases hi' : zdec i ((q_t (b_q A) r').getD k' zt0).1.length with
          | none =>
            simp only [hi'] at hQ
            have h0 : ¬ i < 0 := by
              intro z
              apply hi1
              have z1 := Int32.lt_iff_toInt_lt.mp z
              have z2 := Int32.le_iff_toInt_le.mp hi
              simp only [Int32.toInt_zero] at z1
              have z3 : (-1 : Int32).toInt = -1 := by decide
              apply Int32.toInt_inj.mp
              omega
            exact bX7_trace_50 v1 (fun _ => bX7_trace_76 (bX7_trace_77 (hQ _ _ h))) (fun y => absurd (by rw [e1, s3]; exact (zdec_none hi').resolve_left h0) y)
          | some i' =>
            obtain ⟨il, rfl⟩ := zdec_some (by omega) hi'
            simp only [hi'] at hQ
            have e2 : (25 : Int32) * nI (4 * r' + sl r' k') + nI i' = nI (25 * (4 * r' + sl r' k') + i') := by simp only [nc4, nc6, nc16, nc24, nc25, nc4r, nI_add, nI_1, nI_0]
            refine bX7_trace_50 v1 (fun z => absurd z (by rw [e1, s3, nI_leI (by omega) (by omega)]; omega)) (fun _ => bX7_trace_61 (vin _ e2 (by omega) (by decide)) (bX7_trace_77 ?_))
            rw [nix _ e2 (by omega), (s5 i' il).1]
            exact hQ _ _ h
      refine bX7_trace_22 slot (fun z => bX7_trace_27 ?_)
      have hn : ¬ i = -1 := fun e => z (by rw [e]; decide)
      have hlt : i < 0 := by
        have z2 : i < (-1 : Int32) := Int32.not_le.mp z
        exact Int32.lt_trans z2 (by decide)
      rw [if_neg hn, zdec_no (.inl hlt)] at hQ
      exact hQ _ _ h
theorem r_outcome {d : Nat} {h0 : hp} {m : Nat} {ad : Nat → Nat} {S : rS} {G : rG} {Q : Option sV → rS → rG → Prop} {A : zB} {w : Int32} (hA : zBok A) (h : restR A S G) (hQ : ∀ S' G', restR (o_outcome A w).2 S' G' → Q (some (sI (o_outcome A w).1)) S' G') : rM (d + 2) h0 m ad 117 [sR (some m), sI w] S G Q := by
  refine rM_of (ls := [sR (some m), sI w]) rfl (Nat.le_of_ble_eq_true rfl) rfl ?_
  unfold o_outcome at hQ
  have hL := h.2.2.2.1
  cases hl : b_l A with
  | none =>
    simp only [hl] at hQ
    rw [hl] at hL
    exact bX7_outcome_0 (fun z => absurd hL.1 z) (fun _ => bX7_outcome_8 (hQ _ _ h))
  | some p =>
    simp only [hl] at hQ
    rw [hl] at hL
    obtain ⟨l1, l2, l3, l4, l5⟩ := hL
    have k24 := (hA.2.2.2.2.2.2.2 p hl).1
    have hQ := hQ _ _ h
    refine bX7_outcome_0 (fun _ => ?_) (fun z => absurd z (by rw [l1]; exact (znI_ne (by omega)).1))
    refine bX7_outcome_10 (fun z0 => ?_) (fun z0 => bX7_outcome_14 (bX7_outcome_46 (by rw [if_pos z0] at hQ; rw [l1]; exact hQ)))
    rw [if_neg z0] at hQ
    refine bX7_outcome_21 (fun z1 => ?_) (fun z1 => bX7_outcome_26 (bX7_outcome_46 (by rw [if_pos z1] at hQ; rw [l2]; exact hQ)))
    rw [if_neg z1] at hQ
    refine bX7_outcome_33 (fun z2 => ?_) (fun z2 => bX7_outcome_38 (bX7_outcome_46 (by rw [if_pos z2] at hQ; rw [l3]; exact hQ)))
    rw [if_neg z2] at hQ
    exact bX7_outcome_45 (bX7_outcome_46 hQ)
theorem r_part {d : Nat} {h0 : hp} {m : Nat} {ad : Nat → Nat} {S : rS} {G : rG} {Q : Option sV → rS → rG → Prop} {A : zB} {i : Int32} (hA : zBok A) (h : restR A S G) (hQ : ∀ S' G', restR (o_part A i).2 S' G' → Q (some (sI (o_part A i).1)) S' G') : rM (d + 2) h0 m ad 118 [sR (some m), sI i] S G Q := by
  refine rM_of (ls := [sR (some m), sI i]) rfl (Nat.le_of_ble_eq_true rfl) rfl ?_
  unfold o_part at hQ
  have hL := h.2.2.2.1
  have no : ∀ v1 : sV, Q (some (sI 0)) S G → rWP (d + 1) h0 m ad 118 Q 21 [sR (some m), v1] [] S G := fun v1 hq => bX7_part_21 (bX7_part_22 hq)
  cases hl : b_l A with
  | none =>
    simp only [hl] at hQ
    rw [hl] at hL
    refine bX7_part_0 (fun _ => no _ (hQ _ _ h)) (fun z => bX7_part_4 (fun _ => no _ (hQ _ _ h)) (fun y => absurd ?_ y))
    rw [hL.1]
    exact Int32.le_trans (show (-1 : Int32) ≤ 0 by decide) (Int32.not_lt.mp z)
  | some p =>
    simp only [hl] at hQ
    rw [hl] at hL
    obtain ⟨l1, l2, l3, l4, l5⟩ := hL
    have k24 := (hA.2.2.2.2.2.2.2 p hl).1
    cases hi : zdec i p.1.2.2.length with
    | none =>
      simp only [hi] at hQ
      refine bX7_part_0 (fun _ => no _ (hQ _ _ h)) (fun z => bX7_part_4 (fun _ => no _ (hQ _ _ h)) (fun y => absurd ?_ y))
      rw [l1]
      exact (zdec_none hi).resolve_left z
    | some i' =>
      obtain ⟨il, rfl⟩ := zdec_some (by omega) hi
      simp only [hi] at hQ
      refine bX7_part_0 (fun z => absurd z (by rw [show (0 : Int32) = nI 0 from rfl, nI_ltI (by omega) (by omega)]; omega)) (fun _ => ?_)
      refine bX7_part_4 (fun z => absurd z (by rw [l1, nI_leI (by omega) (by omega)]; omega)) (fun _ => bX7_part_12 (vin i' rfl (by omega) (by decide)) (bX7_part_22 ?_))
      rw [nix i' rfl (by omega), l4 i' il]
      exact hQ _ _ h
theorem r_ring {d : Nat} {h0 : hp} {m : Nat} {ad : Nat → Nat} {S : rS} {G : rG} {Q : Option sV → rS → rG → Prop} {A : zB} {i : Int32} (h : restR A S G) (hQ : ∀ S' G', restR (o_ring A i).2 S' G' → Q (some (sI (o_ring A i).1)) S' G') : rM (d + 2) h0 m ad 119 [sR (some m), sI i] S G Q := by
  refine rM_of (ls := [sR (some m), sI i, sU, sU]) rfl (Nat.le_of_ble_eq_true rfl) rfl ?_
  have hQ := hQ _ _ h
  have hb : rB0 ((b_l A).elim [] (fun p => p.2)) (S 51) := by
    have hL := h.2.2.2.1
    cases hl : b_l A with
    | none => rw [hl] at hL; exact hL.2
    | some p => rw [hl] at hL; exact hL.2.2.2.2
  unfold o_ring at hQ
  simp only at hQ
  generalize ((b_l A).elim [] (fun p => p.2)) = l at *
  have loop : ∀ (e k : Nat) (j : Int32), k + e = 24 → Q (some (sI (zrk l j e k))) S G → rWP (d + 1) h0 m ad 119 Q 4 [sR (some m), sI i, sI j, sI (nI k)] [] S G := by
    intro e
    induction e with
    | zero =>
      intro k j hk hq
      exact bX7_ring_4 (fun _ => bX7_ring_39 hq) (fun z => absurd (by rw [show (24 : Int32) = nI 24 from rfl]; exact nI_le (by omega) (by omega)) z)
    | succ e ih =>
      intro k j hk hq
      refine bX7_ring_4 (fun z => absurd z (by rw [show (24 : Int32) = nI 24 from rfl, nI_leI (by omega) (by omega)]; omega)) (fun _ => ?_)
      rw [zrk] at hq
      refine bX7_ring_10 (fun z => ?_) (fun z => ?_)
      · have hm : k ∈ l := Classical.byContradiction (fun y => z ((hb k (by omega)).mpr y))
        rw [if_pos hm] at hq
        refine bX7_ring_24 (fun y => ?_) (fun y => bX7_ring_28 (by rw [if_pos y] at hq; exact hq))
        rw [if_neg y] at hq
        refine bX7_ring_30 (bX7_ring_33 ?_)
        rw [nI_1, show j + -1 = j - 1 by rw [Int32.sub_eq_add_neg]]
        exact ih _ _ (by omega) hq
      · have hm : k ∉ l := (hb k (by omega)).mp z
        rw [if_neg hm] at hq
        refine bX7_ring_21 (bX7_ring_33 ?_)
        rw [nI_1]
        exact ih _ _ (by omega) hq
  exact bX7_ring_0 (loop 24 0 i (by omega) hQ)
theorem r_worked {d : Nat} {h0 : hp} {m : Nat} {ad : Nat → Nat} {S : rS} {G : rG} {Q : Option sV → rS → rG → Prop} {A : zB} {i : Int32} (hA : zBok A) (h : restR A S G) (hQ : ∀ S' G', restR (o_worked A i).2 S' G' → Q (some (sI (o_worked A i).1)) S' G') : rM (d + 2) h0 m ad 120 [sR (some m), sI i] S G Q := by
  refine rM_of (ls := [sR (some m), sI i]) rfl (Nat.le_of_ble_eq_true rfl) rfl ?_
  unfold o_worked at hQ
  obtain ⟨c1, c2, c3, c4, c5⟩ := h.2.2.1
  have w24 := hA.2.2.2.2.2.1.1
  cases hi : zdec i (q_w (b_q A)).length with
  | none =>
    simp only [hi] at hQ
    refine bX7_worked_0 (fun _ => bX7_worked_21 (bX7_worked_22 (hQ _ _ h))) (fun z => bX7_worked_4 (fun _ => bX7_worked_21 (bX7_worked_22 (hQ _ _ h))) (fun y => absurd ?_ y))
    rw [c1]
    exact (zdec_none hi).resolve_left z
  | some i' =>
    obtain ⟨il, rfl⟩ := zdec_some (by omega) hi
    simp only [hi] at hQ
    refine bX7_worked_0 (fun z => absurd z (by rw [show (0 : Int32) = nI 0 from rfl, nI_ltI (by omega) (by omega)]; omega)) (fun _ => ?_)
    refine bX7_worked_4 (fun z => absurd z (by rw [c1, nI_leI (by omega) (by omega)]; omega)) (fun _ => bX7_worked_12 (vin i' rfl (by omega) (by decide)) (bX7_worked_22 ?_))
    rw [nix i' rfl (by omega), c2 i' il]
    exact hQ _ _ h
theorem r_looked {d : Nat} {h0 : hp} {m : Nat} {ad : Nat → Nat} {S : rS} {G : rG} {Q : Option sV → rS → rG → Prop} {A : zB} (h : restR A S G) (hQ : ∀ S' G', restR (o_looked A).2 S' G' → Q (some (sI (o_looked A).1)) S' G') : rM (d + 2) h0 m ad 121 [sR (some m)] S G Q := by
  refine rM_of (ls := [sR (some m)]) rfl (Nat.le_of_ble_eq_true rfl) rfl ?_
  refine bX7_looked_0 ?_
  rw [h.2.2.1.2.2.1]
  exact hQ _ _ h
theorem r_stale {d : Nat} {h0 : hp} {m : Nat} {ad : Nat → Nat} {S : rS} {G : rG} {Q : Option sV → rS → rG → Prop} {A : zB} {r k : Int32} (hA : zBok A) (h : restR A S G) (hQ : ∀ S' G', restR (o_stale A r k).2 S' G' → Q (some (sI (o_stale A r k).1)) S' G') : rM (d + 2) h0 m ad 122 [sR (some m), sI r, sI k] S G Q := by
  refine rM_of (ls := [sR (some m), sI r, sI k]) rfl (Nat.le_of_ble_eq_true rfl) rfl ?_
  unfold o_stale at hQ
  have n24 := hA.1.1
  have s6 : S 6 = nI (e_n (b_e A)) := h.1.2.1
  refine bX7_stale_0 (P := fun v S' G' => v = some (sI (if (zdec r (e_n (b_e A))).isSome = true then 1 else 0)) ∧ S' = S ∧ G' = G) (r_isRule2 s6 ⟨rfl, rfl, rfl⟩) ?_
  rintro _ S1 G1 ⟨rfl, rfl, rfl⟩
  cases hr : zdec r (e_n (b_e A)) with
  | none =>
    simp only [hr] at hQ
    exact bX7_stale_5 (fun _ => bX7_stale_30 (bX7_stale_31 (hQ _ _ h))) (fun z => absurd rfl z)
  | some r' =>
    obtain ⟨rn, rfl⟩ := zdec_some (by omega) hr
    refine bX7_stale_5 (fun z => absurd z (by simp)) (fun _ => ?_)
    cases hk : zdec k 4 with
    | none =>
      simp only [hr, hk] at hQ
      refine bX7_stale_8 (fun _ => bX7_stale_30 (bX7_stale_31 (hQ _ _ h))) (fun z => ?_)
      exact bX7_stale_12 (fun _ => bX7_stale_30 (bX7_stale_31 (hQ _ _ h))) (fun y => absurd ((zdec_none hk).resolve_left z) y)
    | some k' =>
      obtain ⟨kl, rfl⟩ := zdec_some (by decide) hk
      simp only [hr, hk] at hQ
      refine bX7_stale_8 (fun z => absurd z (by rw [show (0 : Int32) = nI 0 from rfl, nI_ltI (by omega) (by omega)]; omega)) (fun _ => ?_)
      refine bX7_stale_12 (fun z => absurd z (by rw [show (4 : Int32) = nI 4 from rfl, nI_leI (by omega) (by omega)]; omega)) (fun _ => ?_)
      have e1 : (4 : Int32) * nI r' + nI k' = nI (4 * r' + k') := by simp only [nc4, nc6, nc16, nc24, nc25, nc4r, nI_add, nI_1, nI_0]
      refine bX7_stale_17 (vin _ e1 (by omega) (by decide)) (bX7_stale_31 ?_)
      rw [nix _ e1 (by omega), h.2.2.1.2.2.2.2 r' k' (by omega) kl]
      exact hQ _ _ h
theorem r_count {d : Nat} {h0 : hp} {m : Nat} {ad : Nat → Nat} {S : rS} {G : rG} {Q : Option sV → rS → rG → Prop} {A : zB} {w : Int32} (hA : zBok A) (h : restR A S G) (hQ : ∀ S' G', restR (o_count A w).2 S' G' → Q (some (sI (o_count A w).1)) S' G') : rM (d + 2) h0 m ad 123 [sR (some m), sI w] S G Q := by
  refine rM_of (ls := [sR (some m), sI w, sU, sU]) rfl (Nat.le_of_ble_eq_true rfl) rfl ?_
  have hQ := hQ _ _ h
  unfold o_count at hQ
  simp only at hQ
  have n24 := hA.1.1
  have s6 : S 6 = nI (e_n (b_e A)) := h.1.2.1
  obtain ⟨sl, hT⟩ := h.2.1
  have loop : ∀ (e j : Nat), j + e = e_n (b_e A) → rWP (d + 1) h0 m ad 123 Q 4 [sR (some m), sI w, sI (zkc (q_t (b_q A)) j), sI (nI j)] [] S G := by
    intro e
    induction e with
    | zero =>
      intro j hj
      have hj : j = e_n (b_e A) := by omega
      subst hj
      refine bX7_count_4 (fun _ => ?_) (fun z => absurd (by rw [s6]; exact nI_le (by omega) (by omega)) z)
      refine bX7_count_27 (fun z0 => ?_) (fun z0 => bX7_count_31 (bX7_count_72 (by rw [if_pos z0] at hQ; rw [s6]; exact hQ)))
      rw [if_neg z0] at hQ
      refine bX7_count_38 (fun z1 => ?_) (fun z1 => bX7_count_43 (bX7_count_72 (by rw [if_pos z1] at hQ; rw [h.2.2.2.2.1]; exact hQ)))
      rw [if_neg z1] at hQ
      refine bX7_count_50 (fun z2 => ?_) (fun z2 => bX7_count_55 (bX7_count_72 (by rw [if_pos z2] at hQ; rw [h.2.2.1.2.2.2.1]; exact hQ)))
      rw [if_neg z2] at hQ
      refine bX7_count_62 (fun z3 => ?_) (fun z3 => bX7_count_67 (bX7_count_72 (by rw [if_pos z3] at hQ; exact hQ)))
      rw [if_neg z3] at hQ
      exact bX7_count_71 (bX7_count_72 hQ)
    | succ e ih =>
      intro j hj
      refine bX7_count_4 (fun z => absurd z (by rw [s6, nI_leI (by omega) (by omega)]; omega)) (fun _ => ?_)
      refine bX7_count_12 (vin j rfl (by omega) (by decide)) ?_
      rw [nix j rfl (by omega), nI_1, (hT j (by omega)).1]
      exact ih (j + 1) (by omega)
  exact bX7_count_0 (loop (e_n (b_e A)) 0 (by omega))
theorem r_found {d : Nat} {h0 : hp} {m : Nat} {ad : Nat → Nat} {S : rS} {G : rG} {Q : Option sV → rS → rG → Prop} {A : zB} {w : Int32} (h : restR A S G) (hQ : ∀ S' G', restR (o_found A w).2 S' G' → Q (some (sI (o_found A w).1)) S' G') : rM (d + 2) h0 m ad 124 [sR (some m), sI w] S G Q := by
  refine rM_of (ls := [sR (some m), sI w]) rfl (Nat.le_of_ble_eq_true rfl) rfl ?_
  have hQ := hQ _ _ h
  unfold o_found at hQ
  simp only at hQ
  refine bX7_found_0 (fun z0 => ?_) (fun z0 => bX7_found_4 (bX7_found_30 (by rw [if_pos z0] at hQ; rw [h.2.2.2.2.2.1]; exact hQ)))
  rw [if_neg z0] at hQ
  cases hw : zdec w 5 with
  | none =>
    simp only [hw] at hQ
    refine bX7_found_11 (fun _ => bX7_found_29 (bX7_found_30 hQ)) (fun z => ?_)
    refine bX7_found_15 (fun _ => bX7_found_29 (bX7_found_30 hQ)) (fun y => absurd ((zdec_none hw).resolve_left (fun c => z (Int32.le_of_lt c))) y)
  | some w' =>
    obtain ⟨wl, rfl⟩ := zdec_some (by decide) hw
    simp only [hw] at hQ
    have hw0 : ¬ w' = 0 := fun e => z0 (by rw [e]; rfl)
    refine bX7_found_11 (fun z => absurd z (by rw [show (0 : Int32) = nI 0 from rfl, nI_leI (by omega) (by omega)]; omega)) (fun _ => ?_)
    refine bX7_found_15 (fun z => absurd z (by rw [show (5 : Int32) = nI 5 from rfl, nI_leI (by omega) (by omega)]; omega)) (fun _ => bX7_found_20 (vin w' rfl wl (by decide)) (bX7_found_30 ?_))
    rw [nix w' rfl (by omega), h.2.2.2.2.2.2 w' wl]
    exact hQ
theorem r_answer {d : Nat} {h0 : hp} {m : Nat} {ad : Nat → Nat} {S : rS} {G : rG} {Q : Option sV → rS → rG → Prop} {o : zO} {l : List Nat} (hL : rLast o l S G) (hQ : Q (some (sI (zans o))) S G) : rM (d + 1) h0 m ad 114 [sR (some m)] S G Q := by
  refine rM_of (ls := [sR (some m)]) rfl (Nat.le_of_ble_eq_true rfl) rfl ?_
  obtain ⟨l1, l2, -⟩ := hL
  unfold zans at hQ
  refine bX7_answer_0 (fun z => bX7_answer_14 (bX7_answer_21 ?_)) (fun z => bX7_answer_7 (bX7_answer_21 ?_))
  · rw [l2] at z ⊢
    rw [if_neg z] at hQ
    exact hQ
  · rw [l2] at z
    rw [if_pos z] at hQ
    rw [l1]
    exact hQ
