section
variable {D : cD} {A : zB}
theorem c_outcome {d : Nat} {Fg : Nat → Prop} {h0 : hp} {V : kV} {bc bs : Nat} {Q : Option sV → kV → Prop} {w : Int32} (h : cRs D A V) (hQ : cQ D (o_outcome A w) Q) : cM (d + 9) Fg h0 60 [sR (some (dX D)), sI w] V bc bs Q := by
  obtain ⟨x7, -, x3, x0, x1, x2⟩ := h.1
  refine cM_of (ls := [sR (some (dX D)), sI w, sU]) rfl (Nat.le_of_ble_eq_true rfl) rfl ?_
  unfold o_outcome at hQ
  have hl := h.2.2.2.1
  cases hb : b_l A with
  | none =>
    simp only [hb] at hQ
    rw [hb] at hl
    exact bX6_outcome_0 x1 x7 x3 (fun z => absurd hl.1 z) (fun _ => bX6_outcome_12 (hQ _ D rfl h))
  | some p =>
    simp only [hb] at hQ
    rw [hb] at hl
    obtain ⟨⟨a, a1, a2⟩, -⟩ := hl
    refine bX6_outcome_0 x1 x7 x3 (fun _ => ?_) (fun z => by rw [a1] at z; cases z)
    rw [a1]
    have hQ' := hQ V D rfl h
    dsimp only at hQ'
    have eqi : ∀ n : Int32, w.toInt = n.toInt → w = n := fun n e => Int32.toInt_inj.mp e
    refine bX6_outcome_14 (fun z => ?_) (fun z => ?_) (fun z => ?_) (fun z => ?_)
    · rw [if_pos (eqi 0 z)] at hQ'
      exact bX6_outcome_40 a2 hQ'
    · have e := eqi 1 z
      rw [if_neg (by rw [e]; decide), if_pos e] at hQ'
      exact bX6_outcome_46 a2 hQ'
    · have e := eqi 2 z
      rw [if_neg (by rw [e]; decide), if_neg (by rw [e]; decide), if_pos e] at hQ'
      exact bX6_outcome_51 a2 hQ'
    · rw [if_neg (fun e => by rw [e] at z; exact absurd z (by decide)), if_neg (fun e => by rw [e] at z; exact absurd z (by decide)), if_neg (fun e => by rw [e] at z; exact absurd z (by decide))] at hQ'
      exact bX6_outcome_56 hQ'
theorem c_part {d : Nat} {Fg : Nat → Prop} {h0 : hp} {V : kV} {bc bs : Nat} {Q : Option sV → kV → Prop} {i : Int32} (hA : zBok A) (h : cRs D A V) (hQ : cQ D (o_part A i) Q) : cM (d + 9) Fg h0 61 [sR (some (dX D)), sI i] V bc bs Q := by
  obtain ⟨x7, -, x3, x0, x1, x2⟩ := h.1
  refine cM_of (ls := [sR (some (dX D)), sI i, sU]) rfl (Nat.le_of_ble_eq_true rfl) rfl ?_
  unfold o_part at hQ
  have hl := h.2.2.2.1
  cases hb : b_l A with
  | none =>
    simp only [hb] at hQ
    rw [hb] at hl
    exact bX6_part_0 x1 x7 x3 (fun z => absurd hl.1 z) (fun _ => bX6_part_12 (bX6_part_21 (hQ _ D rfl h)))
  | some p =>
    simp only [hb] at hQ
    rw [hb] at hl
    obtain ⟨⟨a, a1, a2⟩, -⟩ := hl
    have h24 := (hA.2.2.2.2.2.2.2 p hb).1
    refine bX6_part_0 x1 x7 x3 (fun _ => ?_) (fun z => by rw [a1] at z; cases z)
    rw [a1]
    refine bX6_part_16 (bc1 := 0) (bs1 := 0) (P := fun v W => v = some (sI (match zdec i p.1.2.2.length with | some i => p.1.2.2.getD i 0 | none => 0)) ∧ W = V) a2 (cM_le (by omega) (c_intAt (d := 0) a2 h24 ⟨rfl, rfl⟩)) (Nat.zero_le _) (Nat.zero_le _) ?_
    rintro _ W ⟨rfl, rfl⟩
    refine bX6_part_21 ?_
    cases hi : zdec i p.1.2.2.length with
    | none => simp only [hi] at hQ; exact hQ _ D rfl h
    | some i' => simp only [hi] at hQ; exact hQ _ D rfl h
theorem c_ring {d : Nat} {Fg : Nat → Prop} {h0 : hp} {V : kV} {bc bs : Nat} {Q : Option sV → kV → Prop} {i : Int32} (h : cRs D A V) (hQ : cQ D (o_ring A i) Q) : cM (d + 9) Fg h0 62 [sR (some (dX D)), sI i] V bc bs Q := by
  obtain ⟨x7, -, x3, x0, x1, x2⟩ := h.1
  refine cM_of (ls := [sR (some (dX D)), sI i, sU, sU]) rfl (Nat.le_of_ble_eq_true rfl) rfl ?_
  have hB : rB0 ((b_l A).elim [] (fun p => p.2)) (kI V 202 (dO D)) := by
    have hl := h.2.2.2.1
    cases hb : b_l A with
    | none => rw [hb] at hl; exact hl.2
    | some p => rw [hb] at hl; exact hl.2
  unfold o_ring at hQ
  have hQ' := hQ V D rfl h
  dsimp only at hQ'
  generalize (b_l A).elim [] (fun p => p.2) = l at *
  refine bX6_ring_0 ?_
  have loop : ∀ (f k : Nat) (x : Int32), k + f = 24 → zrk l (i - x) f k = zrk l i 24 0 → cWP (d + 8) Fg h0 62 Q 4 [sR (some (dX D)), sI i, sI x, sI (nI k)] [] V bc bs := by
    intro f
    induction f with
    | zero =>
      intro k x hk hz
      rw [show k = 24 by omega]
      refine bX6_ring_4 (fun _ => bX6_ring_40 ?_) (fun z => absurd (show nI 24 ≤ nI 24 from nI_le (Nat.le_refl _) (by decide)) z)
      rw [← hz] at hQ'
      exact hQ'
    | succ f ih =>
      intro k x hk hz
      have hk24 : k < 24 := by omega
      refine bX6_ring_4 (fun z => absurd (show nI 24 ≤ nI k from z) (nI_ge hk24 (by decide))) (fun _ => ?_)
      refine bX6_ring_10 (bc1 := 0) (bs1 := 0) (P := fun v W => v = some (sI (if (kI V 202 (dO D) >>> (nI k &&& 31)) &&& 1 = 0 then 0 else 1)) ∧ W = V) x1 x7 x3 (cM_le (by omega) (c_isIn (d := 0) ⟨rfl, rfl⟩)) (Nat.zero_le _) (Nat.zero_le _) ?_
      rintro _ W ⟨rfl, rfl⟩
      rw [zrk] at hz
      by_cases hm : k ∈ l
      · rw [if_pos hm] at hz
        rw [if_neg (fun z => (hB k hk24).mp z hm)]
        refine bX6_ring_21 (fun z => by cases z) (fun _ => ?_)
        refine bX6_ring_24 (fun z => ?_) (fun z => ?_)
        · rw [if_neg (fun e => z (by rw [← Int32.sub_add_cancel i x, e, Int32.zero_add]))] at hz
          refine bX6_ring_31 (bX6_ring_34 ?_)
          rw [nI_1]
          refine ih (k + 1) (x + 1) (by omega) ?_
          rw [← hz]
          congr 1
          rw [Int32.sub_eq_add_neg i (x + 1), Int32.sub_eq_add_neg (i - x) 1, Int32.sub_eq_add_neg i x, Int32.neg_add, Int32.add_assoc, Int32.sub_eq_add_neg]
        · rw [if_pos (by rw [z, Int32.sub_self])] at hz
          refine bX6_ring_29 ?_
          rw [hz]
          exact hQ'
      · rw [if_neg hm] at hz
        rw [if_pos ((hB k hk24).mpr hm)]
        refine bX6_ring_21 (fun _ => bX6_ring_34 ?_) (fun z => absurd rfl z)
        rw [nI_1]
        exact ih (k + 1) x (by omega) hz
  exact loop 24 0 0 (by omega) (by rw [Int32.sub_zero])
theorem c_worked {d : Nat} {Fg : Nat → Prop} {h0 : hp} {V : kV} {bc bs : Nat} {Q : Option sV → kV → Prop} {i : Int32} (hA : zBok A) (h : cRs D A V) (hQ : cQ D (o_worked A i) Q) : cM (d + 9) Fg h0 63 [sR (some (dX D)), sI i] V bc bs Q := by
  obtain ⟨x7, -, x3, x0, x1, x2⟩ := h.1
  refine cM_of (ls := [sR (some (dX D)), sI i]) rfl (Nat.le_of_ble_eq_true rfl) rfl ?_
  unfold o_worked at hQ
  obtain ⟨-, ⟨w1, w2⟩, -⟩ := h.2.2.1
  have h24 := hA.2.2.2.2.2.1.1
  cases hi : zdec i (q_w (b_q A)).length with
  | none =>
    simp only [hi] at hQ
    by_cases h0 : i < 0
    · exact bX6_worked_0 (fun _ => bX6_worked_27 (bX6_worked_28 (hQ _ D rfl h))) (fun z => absurd h0 z)
    · refine bX6_worked_0 (fun z => absurd z h0) (fun _ => bX6_worked_4 x1 x7 x3 (fun _ => bX6_worked_27 (bX6_worked_28 (hQ _ D rfl h))) (fun z => absurd ?_ z))
      rw [w1]
      exact (zdec_none hi).resolve_left h0
  | some i' =>
    simp only [hi] at hQ
    obtain ⟨il, rfl⟩ := zdec_some (by omega) hi
    refine bX6_worked_0 (fun z => absurd z (nI_pos (by omega))) (fun _ => bX6_worked_4 x1 x7 x3 (fun z => absurd z (by rw [w1]; exact nI_ge il (by omega))) (fun _ => ?_))
    refine bX6_worked_15 x1 x7 x3 (vin i' rfl (by omega) (by decide)) (bX6_worked_28 ?_)
    rw [nix i' rfl (by omega), w2 i' il]
    exact hQ _ D rfl h
theorem c_looked {d : Nat} {Fg : Nat → Prop} {h0 : hp} {V : kV} {bc bs : Nat} {Q : Option sV → kV → Prop} (h : cRs D A V) (hQ : cQ D (o_looked A) Q) : cM (d + 9) Fg h0 64 [sR (some (dX D))] V bc bs Q := by
  obtain ⟨x7, -, x3, x0, x1, x2⟩ := h.1
  refine cM_of (ls := [sR (some (dX D))]) rfl (Nat.le_of_ble_eq_true rfl) rfl ?_
  refine bX6_looked_0 x1 x7 x3 ?_
  rw [h.2.2.1.2.2.1]
  exact hQ _ D rfl h
theorem c_stale {d : Nat} {Fg : Nat → Prop} {h0 : hp} {V : kV} {bc bs : Nat} {Q : Option sV → kV → Prop} {r k : Int32} (hA : zBok A) (h : cRs D A V) (hQ : cQ D (o_stale A r k) Q) : cM (d + 9) Fg h0 65 [sR (some (dX D)), sI r, sI k] V bc bs Q := by
  obtain ⟨x7, -, x3, x0, x1, x2⟩ := h.1
  refine cM_of (ls := [sR (some (dX D)), sI r, sI k, sU]) rfl (Nat.le_of_ble_eq_true rfl) rfl ?_
  unfold o_stale at hQ
  cases hz : zdec r (e_n (b_e A)) with
  | none =>
    simp only [hz] at hQ
    refine bX6_stale_0 (bc1 := 0) (bs1 := 0) x2 x7 h.2.1.1 (c_rln hA h hz (by omega)) (Nat.zero_le _) (Nat.zero_le _) ?_
    rintro _ W ⟨rfl, rfl⟩
    exact bX6_stale_8 (fun _ => bX6_stale_31 (bX6_stale_32 (hQ _ D rfl h))) (fun z => absurd rfl z)
  | some r' =>
    simp only [hz] at hQ
    have hE := hA.1.1
    have rn := (zdec_some (by omega) hz).1
    obtain ⟨⟨a1, -⟩, -, a9, -⟩ := h.2.2.2.2.1 r' rn
    refine bX6_stale_0 (bc1 := 0) (bs1 := 0) x2 x7 h.2.1.1 (c_rls hA h hz (by omega)) (Nat.zero_le _) (Nat.zero_le _) ?_
    rintro _ W ⟨rfl, rfl⟩
    refine bX6_stale_8 (fun z => by cases z) (fun _ => ?_)
    cases hk : zdec k 4 with
    | none =>
      simp only [hk] at hQ
      by_cases h0 : k < 0
      · exact bX6_stale_13 (fun _ => bX6_stale_31 (bX6_stale_32 (hQ _ D rfl h))) (fun z => absurd h0 z)
      · exact bX6_stale_13 (fun z => absurd z h0) (fun _ => bX6_stale_17 (fun _ => bX6_stale_31 (bX6_stale_32 (hQ _ D rfl h))) (fun z => absurd ((zdec_none hk).resolve_left h0) z))
    | some k' =>
      simp only [hk] at hQ
      obtain ⟨k4, rfl⟩ := zdec_some (by decide) hk
      refine bX6_stale_13 (fun z => absurd z (nI_pos (by omega))) (fun _ => bX6_stale_17 (fun z => absurd (show nI 4 ≤ nI k' from z) (nI_ge k4 (by decide))) (fun _ => ?_))
      refine bX6_stale_22 a1 (vin k' rfl k4 (by decide)) (bX6_stale_32 ?_)
      rw [nix k' rfl (by omega), a9 k' k4]
      exact hQ _ D rfl h
theorem c_keptTraces {d : Nat} {Fg : Nat → Prop} {h0 : hp} {V : kV} {bc bs : Nat} {Q : Option sV → kV → Prop} (hA : zBok A) (h : cRs D A V) (hQ : Q (some (sI (zkc (q_t (b_q A)) (e_n (b_e A))))) V) : cM (d + 1) Fg h0 36 [sR (some (dS D))] V bc bs Q := by
  refine cM_of (ls := [sR (some (dS D)), sU, sU, sU, sU, sU]) rfl (Nat.le_of_ble_eq_true rfl) rfl ?_
  have hE := hA.1.1
  have c5 := h.2.1.1
  refine bX4_keptTraces_0 c5 ?_
  have loop : ∀ (f i : Nat) (x : Int32) (v5 : sV), i + f = 24 → x = zkc (q_t (b_q A)) (min i (e_n (b_e A))) → cWP d Fg h0 36 Q 13 [sR (some (dS D)), sI x, sR (some (kr V 401 (dS D))), sI 24, sI (nI i), v5] [] V bc bs := by
    intro f
    induction f with
    | zero =>
      intro i x v5 hi hx
      rw [show i = 24 by omega] at hx ⊢
      rw [show min 24 (e_n (b_e A)) = e_n (b_e A) by omega] at hx
      refine bX4_keptTraces_13 (fun _ => bX4_keptTraces_48 (by rw [hx]; exact hQ)) (fun z => absurd (show nI 24 ≤ nI 24 from nI_le (Nat.le_refl _) (by decide)) z)
    | succ f ih =>
      intro i x v5 hi hx
      have hi24 : i < 24 := by omega
      refine bX4_keptTraces_13 (fun z => absurd (show nI 24 ≤ nI i from z) (nI_ge hi24 (by decide))) (fun _ => ?_)
      have kb := h.2.1.2.2.2.2 i hi24
      refine bX4_keptTraces_19 (vin i rfl hi24 (by decide)) c5 (fun z => ?_) (fun z => ?_)
      · rw [nix i rfl (by omega), kb] at z ⊢
        have hin : i < e_n (b_e A) := Classical.byContradiction (fun y => z (if_neg y))
        rw [if_pos hin]
        obtain ⟨⟨a1, -⟩, ⟨t1, -⟩, -⟩ := h.2.2.2.2.1 i hin
        refine bX4_keptTraces_35 a1 (bX4_keptTraces_40 ?_)
        rw [nI_1, t1]
        refine ih (i + 1) _ _ (by omega) ?_
        rw [hx, show min (i + 1) (e_n (b_e A)) = i + 1 by omega, show min i (e_n (b_e A)) = i by omega]
        rfl
      · rw [nix i rfl (by omega), kb] at z ⊢
        have hin : ¬ i < e_n (b_e A) := fun y => by rw [if_pos y] at z; cases z
        refine bX4_keptTraces_31 (bX4_keptTraces_40 ?_)
        rw [nI_1, Int32.add_zero]
        refine ih (i + 1) _ _ (by omega) ?_
        rw [hx, show min (i + 1) (e_n (b_e A)) = e_n (b_e A) by omega, show min i (e_n (b_e A)) = e_n (b_e A) by omega]
  exact loop 24 0 0 _ (by omega) (by rw [show min 0 (e_n (b_e A)) = 0 by omega]; rfl)
theorem c_count {d : Nat} {Fg : Nat → Prop} {h0 : hp} {V : kV} {bc bs : Nat} {Q : Option sV → kV → Prop} {w : Int32} (hA : zBok A) (h : cRs D A V) (hQ : cQ D (o_count A w) Q) : cM (d + 9) Fg h0 66 [sR (some (dX D)), sI w] V bc bs Q := by
  obtain ⟨x7, -, x3, x0, x1, x2⟩ := h.1
  obtain ⟨r0, ⟨r1, r2⟩, r3, r4, r5, r6⟩ := h.2.2.1
  refine cM_of (ls := [sR (some (dX D)), sI w]) rfl (Nat.le_of_ble_eq_true rfl) rfl ?_
  unfold o_count at hQ
  have hQ' := hQ V D rfl h
  dsimp only at hQ'
  have eqi : ∀ n : Int32, w.toInt = n.toInt → w = n := fun n e => Int32.toInt_inj.mp e
  refine bX6_count_0 (fun z => ?_) (fun z => ?_) (fun z => ?_) (fun z => ?_) (fun z => ?_)
  · rw [if_pos (eqi 0 z)] at hQ'
    refine bX6_count_32 x2 x7 h.2.1.1 ?_
    rw [h.2.1.2.1]; exact hQ'
  · have e := eqi 1 z
    rw [if_neg (by rw [e]; decide), if_pos e] at hQ'
    refine bX6_count_40 x1 x7 x3 ?_
    rw [r6]; exact hQ'
  · have e := eqi 2 z
    rw [if_neg (by rw [e]; decide), if_neg (by rw [e]; decide), if_pos e] at hQ'
    refine bX6_count_48 x1 x7 x3 ?_
    rw [r4]; exact hQ'
  · have e := eqi 3 z
    rw [if_neg (by rw [e]; decide), if_neg (by rw [e]; decide), if_neg (by rw [e]; decide), if_pos e] at hQ'
    refine bX6_count_56 (bc1 := 0) (bs1 := 0) (P := fun v W => v = some (sI (zkc (q_t (b_q A)) (e_n (b_e A)))) ∧ W = V) x2 x7 h.2.1.1 (cM_le (by omega) (c_keptTraces (d := 0) hA h ⟨rfl, rfl⟩)) (Nat.zero_le _) (Nat.zero_le _) ?_
    rintro _ W ⟨rfl, rfl⟩
    exact bX6_count_63 hQ'
  · rw [if_neg (fun e => by rw [e] at z; exact absurd z (by decide)), if_neg (fun e => by rw [e] at z; exact absurd z (by decide)), if_neg (fun e => by rw [e] at z; exact absurd z (by decide)), if_neg (fun e => by rw [e] at z; exact absurd z (by decide))] at hQ'
    exact bX6_count_64 hQ'
theorem c_found {d : Nat} {Fg : Nat → Prop} {h0 : hp} {V : kV} {bc bs : Nat} {Q : Option sV → kV → Prop} {w : Int32} (h : cRs D A V) (hQ : cQ D (o_found A w) Q) : cM (d + 9) Fg h0 67 [sR (some (dX D)), sI w] V bc bs Q := by
  obtain ⟨x7, f1, x3, x0, x1, x2⟩ := h.1
  obtain ⟨g1, g2⟩ := h.2.2.2.2.2.2.1
  refine cM_of (ls := [sR (some (dX D)), sI w]) rfl (Nat.le_of_ble_eq_true rfl) rfl ?_
  unfold o_found at hQ
  have hQ' := hQ V D rfl h
  dsimp only at hQ'
  by_cases w0 : w = 0
  · rw [if_pos w0] at hQ'
    refine bX6_found_0 (fun z => absurd w0 z) (fun _ => bX6_found_4 x0 x7 f1 ?_)
    rw [g1]; exact hQ'
  · rw [if_neg w0] at hQ'
    refine bX6_found_0 (fun _ => ?_) (fun z => absurd z w0)
    cases hw : zdec w 5 with
    | none =>
      simp only [hw] at hQ'
      have fin : cWP (d + 8) Fg h0 67 Q 34 [sR (some (dX D)), sI w] [] V bc bs := bX6_found_34 (bX6_found_35 hQ')
      refine bX6_found_12 (fun _ => fin) (fun z => bX6_found_17 (fun _ => fin) (fun y => ?_))
      rcases zdec_none hw with q | q
      · exact absurd (Int32.lt_of_lt_of_le q (by decide)) z
      · exact absurd (Int32.lt_of_lt_of_le (show (4 : Int32) < nI 5 by decide) q) y
    | some w' =>
      simp only [hw] at hQ'
      obtain ⟨w5, rfl⟩ := zdec_some (by decide) hw
      have wp : 1 ≤ w' := Classical.byContradiction (fun q => w0 (by rw [show w' = 0 by omega]; rfl))
      refine bX6_found_12 (fun z => absurd (show nI w' < nI 1 from z) (nI_nlt wp (by omega))) (fun _ => bX6_found_17 (fun z => absurd (show nI 4 < nI w' from z) (nI_nlt (by omega) (by decide))) (fun _ => ?_))
      refine bX6_found_22 x0 x7 f1 (vin w' rfl w5 (by decide)) (bX6_found_35 ?_)
      rw [nix w' rfl (by omega), g2 w' w5]
      exact hQ'
end
