theorem bX6_outcome_40 {d : Nat} {Fg : Nat → Prop} {h0 : hp} {Q : Option sV → kV → Prop} {V : kV} {bc bs : Nat} {v0 : sV} {v1 : sV} {a2 : Nat} {o_a2 : zO} (h1 : kO V (a2) = some o_a2) (K : Q (some (sI (nI o_a2.2.2.length))) V) : cWP d Fg h0 60 Q 40 [v0, v1, sR (some a2)] [] V bc bs := by
  intro h R
  refine w_aload_n mb60 dX6_outcome_40 41 rfl rfl ?_
  refine y_o2 mb60 dX6_outcome_41 44 rfl R lf6_52 h1 ?_
  refine y_rlen mb60 dX6_outcome_44 45 rfl R h1 ?_
  refine w_iret mb60 dX6_outcome_45 rfl ?_
  exact ⟨_, R, K⟩

theorem bX6_outcome_46 {d : Nat} {Fg : Nat → Prop} {h0 : hp} {Q : Option sV → kV → Prop} {V : kV} {bc bs : Nat} {v0 : sV} {v1 : sV} {a2 : Nat} {o_a2 : zO} (h1 : kO V (a2) = some o_a2) (K : Q (some (sI (o_a2.1))) V) : cWP d Fg h0 60 Q 46 [v0, v1, sR (some a2)] [] V bc bs := by
  intro h R
  refine w_aload_n mb60 dX6_outcome_46 47 rfl rfl ?_
  refine y_o0 mb60 dX6_outcome_47 50 rfl R lf6_144 h1 ?_
  refine w_iret mb60 dX6_outcome_50 rfl ?_
  exact ⟨_, R, K⟩

theorem bX6_outcome_51 {d : Nat} {Fg : Nat → Prop} {h0 : hp} {Q : Option sV → kV → Prop} {V : kV} {bc bs : Nat} {v0 : sV} {v1 : sV} {a2 : Nat} {o_a2 : zO} (h1 : kO V (a2) = some o_a2) (K : Q (some (sI (o_a2.2.1))) V) : cWP d Fg h0 60 Q 51 [v0, v1, sR (some a2)] [] V bc bs := by
  intro h R
  refine w_aload_n mb60 dX6_outcome_51 52 rfl rfl ?_
  refine y_o1 mb60 dX6_outcome_52 55 rfl R lf6_147 h1 ?_
  refine w_iret mb60 dX6_outcome_55 rfl ?_
  exact ⟨_, R, K⟩

theorem bX6_outcome_56 {d : Nat} {Fg : Nat → Prop} {h0 : hp} {Q : Option sV → kV → Prop} {V : kV} {bc bs : Nat} {v0 : sV} {v1 : sV} {v2 : sV} (K : Q (some (sI ((-1)))) V) : cWP d Fg h0 60 Q 56 [v0, v1, v2] [] V bc bs := by
  intro h R
  refine w_iconst mb60 dX6_outcome_56 57 rfl ((-1)) (by decide) ?_
  refine w_iret mb60 dX6_outcome_57 rfl ?_
  exact ⟨_, R, K⟩

theorem bX6_part_0 {d : Nat} {Fg : Nat → Prop} {h0 : hp} {Q : Option sV → kV → Prop} {V : kV} {bc bs : Nat} {a0 : Nat} {v1 : sV} {v2 : sV} {b1 : Nat} (h1 : kR V 601 (a0) = some b1) (h2 : kC V (a0) = 7) (h3 : kC V (b1) = 3) (K1 : ¬ (kR V 201 (b1)) = none → cWP d Fg h0 61 Q 16 [sR (some a0), v1, sR (kR V 201 (b1))] [] V bc bs) (K2 : (kR V 201 (b1)) = none → cWP d Fg h0 61 Q 12 [sR (some a0), v1, sR (kR V 201 (b1))] [] V bc bs) : cWP d Fg h0 61 Q 0 [sR (some a0), v1, v2] [] V bc bs := by
  intro h R
  refine w_aload_n mb61 dX6_part_0 1 rfl rfl ?_
  refine y_getr mb61 dX6_part_1 4 rfl R 601 lf6_19 rfl rfl rfl rfl h2 h1 ?_
  refine y_getr mb61 dX6_part_4 7 rfl R 201 lf6_140 rfl rfl rfl rfl h3 rfl ?_
  refine w_astore_n mb61 dX6_part_7 8 rfl [sR (some a0), v1, sR (kR V 201 (b1))] (Nat.le_of_ble_eq_true rfl) rfl ?_
  refine w_aload_n mb61 dX6_part_8 9 rfl rfl ?_
  refine w_ifnonnull mb61 dX6_part_9 16 12 (by decide) rfl (fun z => ?_) (fun z => ?_)
  · exact K1 z h R
  · exact K2 z h R

theorem bX6_part_12 {d : Nat} {Fg : Nat → Prop} {h0 : hp} {Q : Option sV → kV → Prop} {V : kV} {bc bs : Nat} {v0 : sV} {v1 : sV} {v2 : sV} (K : cWP d Fg h0 61 Q 21 [v0, v1, v2] [sI (0)] V bc bs) : cWP d Fg h0 61 Q 12 [v0, v1, v2] [] V bc bs := by
  intro h R
  refine w_iconst mb61 dX6_part_12 13 rfl (0) (by decide) ?_
  refine w_goto mb61 dX6_part_13 21 (by decide) ?_
  exact K h R

theorem bX6_part_16 {d : Nat} {Fg : Nat → Prop} {h0 : hp} {Q : Option sV → kV → Prop} {V : kV} {bc bs : Nat} {v0 : sV} {x1 : Int32} {a2 : Nat} {o_a2 : zO} (h1 : kO V (a2) = some o_a2) {bc1 bs1 : Nat} {P : Option sV → kV → Prop} (C : cM d Fg h0 5 [sR (some a2), sI (x1)] V bc1 bs1 P) (hbc : bc1 ≤ bc) (hbs : bs1 ≤ bs) (K : ∀ r V1, P r V1 → cWP d Fg h0 61 Q 21 [v0, sI (x1), sR (some a2)] (r.toList ++ []) V1 (bc - bc1) (bs - bs1)) : cWP d Fg h0 61 Q 16 [v0, sI (x1), sR (some a2)] [] V bc bs := by
  intro h R
  refine w_aload_n mb61 dX6_part_16 17 rfl rfl ?_
  refine w_iload_n mb61 dX6_part_17 18 rfl rfl ?_
  refine w_virtual (a := a2) (c := 1) (st := []) mb61 dX6_part_18 21 rfl 5 1 [sI (x1)] _ rfl rfl rfl lc6_79 (R.ko h1) (Nat.le_of_ble_eq_true rfl) (C h R) hbc hbs (fun r h1 hP => ?_)
  obtain ⟨V1, R1, hP⟩ := hP
  exact K r V1 hP h1 R1

theorem bX6_part_21 {d : Nat} {Fg : Nat → Prop} {h0 : hp} {Q : Option sV → kV → Prop} {V : kV} {bc bs : Nat} {v0 : sV} {v1 : sV} {v2 : sV} {y0 : Int32} (K : Q (some (sI (y0))) V) : cWP d Fg h0 61 Q 21 [v0, v1, v2] [sI (y0)] V bc bs := by
  intro h R
  refine w_iret mb61 dX6_part_21 rfl ?_
  exact ⟨_, R, K⟩

theorem bX6_ring_0 {d : Nat} {Fg : Nat → Prop} {h0 : hp} {Q : Option sV → kV → Prop} {V : kV} {bc bs : Nat} {v0 : sV} {v1 : sV} {v2 : sV} {v3 : sV} (K : cWP d Fg h0 62 Q 4 [v0, v1, sI (0), sI (0)] [] V bc bs) : cWP d Fg h0 62 Q 0 [v0, v1, v2, v3] [] V bc bs := by
  intro h R
  refine w_iconst mb62 dX6_ring_0 1 rfl (0) (by decide) ?_
  refine w_istore_n mb62 dX6_ring_1 2 rfl [v0, v1, sI (0), v3] (Nat.le_of_ble_eq_true rfl) rfl ?_
  refine w_iconst mb62 dX6_ring_2 3 rfl (0) (by decide) ?_
  refine w_istore_n mb62 dX6_ring_3 4 rfl [v0, v1, sI (0), sI (0)] (Nat.le_of_ble_eq_true rfl) rfl ?_
  exact K h R

theorem bX6_ring_4 {d : Nat} {Fg : Nat → Prop} {h0 : hp} {Q : Option sV → kV → Prop} {V : kV} {bc bs : Nat} {v0 : sV} {v1 : sV} {v2 : sV} {x3 : Int32} (K1 : (24) ≤ (x3) → cWP d Fg h0 62 Q 40 [v0, v1, v2, sI (x3)] [] V bc bs) (K2 : ¬ (24) ≤ (x3) → cWP d Fg h0 62 Q 10 [v0, v1, v2, sI (x3)] [] V bc bs) : cWP d Fg h0 62 Q 4 [v0, v1, v2, sI (x3)] [] V bc bs := by
  intro h R
  refine w_iload_n mb62 dX6_ring_4 5 rfl rfl ?_
  refine w_bipush mb62 dX6_ring_5 7 rfl (24) (by decide) ?_
  refine w_icmp_ge mb62 dX6_ring_7 40 10 (by decide) rfl (fun z => ?_) (fun z => ?_)
  · exact K1 z h R
  · exact K2 z h R

theorem bX6_ring_10 {d : Nat} {Fg : Nat → Prop} {h0 : hp} {Q : Option sV → kV → Prop} {V : kV} {bc bs : Nat} {a0 : Nat} {v1 : sV} {v2 : sV} {x3 : Int32} {b11 : Nat} (h1 : kR V 601 (a0) = some b11) (h2 : kC V (a0) = 7) (h3 : kC V (b11) = 3) {bc1 bs1 : Nat} {P : Option sV → kV → Prop} (C : cM d Fg h0 70 [sI (kI V 202 (b11)), sI (x3)] V bc1 bs1 P) (hbc : bc1 ≤ bc) (hbs : bs1 ≤ bs) (K : ∀ r V1, P r V1 → cWP d Fg h0 62 Q 21 [sR (some a0), v1, v2, sI (x3)] (r.toList ++ []) V1 (bc - bc1) (bs - bs1)) : cWP d Fg h0 62 Q 10 [sR (some a0), v1, v2, sI (x3)] [] V bc bs := by
  intro h R
  refine w_aload_n mb62 dX6_ring_10 11 rfl rfl ?_
  refine y_getr mb62 dX6_ring_11 14 rfl R 601 lf6_19 rfl rfl rfl rfl h2 h1 ?_
  refine y_geti mb62 dX6_ring_14 17 rfl R 202 lf6_150 rfl rfl rfl h3 (x := kI V 202 (b11)) (by first | rfl | exact if_pos ⟨rfl, rfl⟩) ?_
  refine w_iload_n mb62 dX6_ring_17 18 rfl rfl ?_
  refine w_static (st := []) mb62 dX6_ring_18 21 rfl 70 2 [sI (kI V 202 (b11)), sI (x3)] _ rfl rfl rfl lc6_153 (Nat.le_of_ble_eq_true rfl) (C h R) hbc hbs (fun r h1 hP => ?_)
  obtain ⟨V1, R1, hP⟩ := hP
  exact K r V1 hP h1 R1

theorem bX6_ring_21 {d : Nat} {Fg : Nat → Prop} {h0 : hp} {Q : Option sV → kV → Prop} {V : kV} {bc bs : Nat} {v0 : sV} {v1 : sV} {v2 : sV} {v3 : sV} {y0 : Int32} (K1 : (y0) = 0 → cWP d Fg h0 62 Q 34 [v0, v1, v2, v3] [] V bc bs) (K2 : ¬ (y0) = 0 → cWP d Fg h0 62 Q 24 [v0, v1, v2, v3] [] V bc bs) : cWP d Fg h0 62 Q 21 [v0, v1, v2, v3] [sI (y0)] V bc bs := by
  intro h R
  refine w_if_eq mb62 dX6_ring_21 34 24 (by decide) rfl (fun z => ?_) (fun z => ?_)
  · exact K1 z h R
  · exact K2 z h R

theorem bX6_ring_24 {d : Nat} {Fg : Nat → Prop} {h0 : hp} {Q : Option sV → kV → Prop} {V : kV} {bc bs : Nat} {v0 : sV} {x1 : Int32} {x2 : Int32} {v3 : sV} (K1 : ¬ (x2) = (x1) → cWP d Fg h0 62 Q 31 [v0, sI (x1), sI (x2), v3] [] V bc bs) (K2 : (x2) = (x1) → cWP d Fg h0 62 Q 29 [v0, sI (x1), sI (x2), v3] [] V bc bs) : cWP d Fg h0 62 Q 24 [v0, sI (x1), sI (x2), v3] [] V bc bs := by
  intro h R
  refine w_iload_n mb62 dX6_ring_24 25 rfl rfl ?_
  refine w_iload_n mb62 dX6_ring_25 26 rfl rfl ?_
  refine w_icmp_ne mb62 dX6_ring_26 31 29 (by decide) rfl (fun z => ?_) (fun z => ?_)
  · exact K1 z h R
  · exact K2 z h R

theorem bX6_ring_29 {d : Nat} {Fg : Nat → Prop} {h0 : hp} {Q : Option sV → kV → Prop} {V : kV} {bc bs : Nat} {v0 : sV} {v1 : sV} {v2 : sV} {x3 : Int32} (K : Q (some (sI (x3))) V) : cWP d Fg h0 62 Q 29 [v0, v1, v2, sI (x3)] [] V bc bs := by
  intro h R
  refine w_iload_n mb62 dX6_ring_29 30 rfl rfl ?_
  refine w_iret mb62 dX6_ring_30 rfl ?_
  exact ⟨_, R, K⟩

theorem bX6_ring_31 {d : Nat} {Fg : Nat → Prop} {h0 : hp} {Q : Option sV → kV → Prop} {V : kV} {bc bs : Nat} {v0 : sV} {v1 : sV} {x2 : Int32} {v3 : sV} (K : cWP d Fg h0 62 Q 34 [v0, v1, sI (x2 + 1), v3] [] V bc bs) : cWP d Fg h0 62 Q 31 [v0, v1, sI (x2), v3] [] V bc bs := by
  intro h R
  refine w_iinc mb62 dX6_ring_31 34 rfl rfl (x2 + 1) rfl [v0, v1, sI (x2 + 1), v3] rfl ?_
  exact K h R

theorem bX6_ring_34 {d : Nat} {Fg : Nat → Prop} {h0 : hp} {Q : Option sV → kV → Prop} {V : kV} {bc bs : Nat} {v0 : sV} {v1 : sV} {v2 : sV} {x3 : Int32} (K : cWP d Fg h0 62 Q 4 [v0, v1, v2, sI (x3 + 1)] [] V bc bs) : cWP d Fg h0 62 Q 34 [v0, v1, v2, sI (x3)] [] V bc bs := by
  intro h R
  refine w_iinc mb62 dX6_ring_34 37 rfl rfl (x3 + 1) rfl [v0, v1, v2, sI (x3 + 1)] rfl ?_
  refine w_goto mb62 dX6_ring_37 4 (by decide) ?_
  exact K h R

theorem bX6_ring_40 {d : Nat} {Fg : Nat → Prop} {h0 : hp} {Q : Option sV → kV → Prop} {V : kV} {bc bs : Nat} {v0 : sV} {v1 : sV} {v2 : sV} {v3 : sV} (K : Q (some (sI ((-1)))) V) : cWP d Fg h0 62 Q 40 [v0, v1, v2, v3] [] V bc bs := by
  intro h R
  refine w_iconst mb62 dX6_ring_40 41 rfl ((-1)) (by decide) ?_
  refine w_iret mb62 dX6_ring_41 rfl ?_
  exact ⟨_, R, K⟩

theorem bX6_worked_0 {d : Nat} {Fg : Nat → Prop} {h0 : hp} {Q : Option sV → kV → Prop} {V : kV} {bc bs : Nat} {v0 : sV} {x1 : Int32} (K1 : (x1) < 0 → cWP d Fg h0 63 Q 27 [v0, sI (x1)] [] V bc bs) (K2 : ¬ (x1) < 0 → cWP d Fg h0 63 Q 4 [v0, sI (x1)] [] V bc bs) : cWP d Fg h0 63 Q 0 [v0, sI (x1)] [] V bc bs := by
  intro h R
  refine w_iload_n mb63 dX6_worked_0 1 rfl rfl ?_
  refine w_if_lt mb63 dX6_worked_1 27 4 (by decide) rfl (fun z => ?_) (fun z => ?_)
  · exact K1 z h R
  · exact K2 z h R

theorem bX6_worked_4 {d : Nat} {Fg : Nat → Prop} {h0 : hp} {Q : Option sV → kV → Prop} {V : kV} {bc bs : Nat} {a0 : Nat} {x1 : Int32} {b6 : Nat} (h1 : kR V 601 (a0) = some b6) (h2 : kC V (a0) = 7) (h3 : kC V (b6) = 3) (K1 : (kI V 204 (b6)) ≤ (x1) → cWP d Fg h0 63 Q 27 [sR (some a0), sI (x1)] [] V bc bs) (K2 : ¬ (kI V 204 (b6)) ≤ (x1) → cWP d Fg h0 63 Q 15 [sR (some a0), sI (x1)] [] V bc bs) : cWP d Fg h0 63 Q 4 [sR (some a0), sI (x1)] [] V bc bs := by
  intro h R
  refine w_iload_n mb63 dX6_worked_4 5 rfl rfl ?_
  refine w_aload_n mb63 dX6_worked_5 6 rfl rfl ?_
  refine y_getr mb63 dX6_worked_6 9 rfl R 601 lf6_19 rfl rfl rfl rfl h2 h1 ?_
  refine y_geti mb63 dX6_worked_9 12 rfl R 204 lf6_156 rfl rfl rfl h3 (x := kI V 204 (b6)) (by first | rfl | exact if_pos ⟨rfl, rfl⟩) ?_
  refine w_icmp_ge mb63 dX6_worked_12 27 15 (by decide) rfl (fun z => ?_) (fun z => ?_)
  · exact K1 z h R
  · exact K2 z h R

theorem bX6_worked_15 {d : Nat} {Fg : Nat → Prop} {h0 : hp} {Q : Option sV → kV → Prop} {V : kV} {bc bs : Nat} {a0 : Nat} {x1 : Int32} {b16 : Nat} (h1 : kR V 601 (a0) = some b16) (h2 : kC V (a0) = 7) (h3 : kC V (b16) = 3) (h4 : vp_in (x1) 24) (K : cWP d Fg h0 63 Q 28 [sR (some a0), sI (x1)] [sI (kA V 203 (b16) (x1).toNatClampNeg)] V bc bs) : cWP d Fg h0 63 Q 15 [sR (some a0), sI (x1)] [] V bc bs := by
  intro h R
  refine w_aload_n mb63 dX6_worked_15 16 rfl rfl ?_
  refine y_getr mb63 dX6_worked_16 19 rfl R 601 lf6_19 rfl rfl rfl rfl h2 h1 ?_
  refine y_geta mb63 dX6_worked_19 22 rfl R 203 lf6_159 rfl rfl rfl (by decide) h3 ?_
  refine w_iload_n mb63 dX6_worked_22 23 rfl rfl ?_
  refine y_iald (f := 203) (a := b16) (c := 3) mb63 dX6_worked_23 24 rfl R 24 rfl (by decide) rfl rfl h3 h4 (x := kA V 203 (b16) (x1).toNatClampNeg) rfl ?_
  refine w_goto mb63 dX6_worked_24 28 (by decide) ?_
  exact K h R

theorem bX6_worked_27 {d : Nat} {Fg : Nat → Prop} {h0 : hp} {Q : Option sV → kV → Prop} {V : kV} {bc bs : Nat} {v0 : sV} {v1 : sV} (K : cWP d Fg h0 63 Q 28 [v0, v1] [sI ((-1))] V bc bs) : cWP d Fg h0 63 Q 27 [v0, v1] [] V bc bs := by
  intro h R
  refine w_iconst mb63 dX6_worked_27 28 rfl ((-1)) (by decide) ?_
  exact K h R

theorem bX6_worked_28 {d : Nat} {Fg : Nat → Prop} {h0 : hp} {Q : Option sV → kV → Prop} {V : kV} {bc bs : Nat} {v0 : sV} {v1 : sV} {y0 : Int32} (K : Q (some (sI (y0))) V) : cWP d Fg h0 63 Q 28 [v0, v1] [sI (y0)] V bc bs := by
  intro h R
  refine w_iret mb63 dX6_worked_28 rfl ?_
  exact ⟨_, R, K⟩

theorem bX6_looked_0 {d : Nat} {Fg : Nat → Prop} {h0 : hp} {Q : Option sV → kV → Prop} {V : kV} {bc bs : Nat} {a0 : Nat} {b1 : Nat} (h1 : kR V 601 (a0) = some b1) (h2 : kC V (a0) = 7) (h3 : kC V (b1) = 3) (K : Q (some (sI (kI V 205 (b1)))) V) : cWP d Fg h0 64 Q 0 [sR (some a0)] [] V bc bs := by
  intro h R
  refine w_aload_n mb64 dX6_looked_0 1 rfl rfl ?_
  refine y_getr mb64 dX6_looked_1 4 rfl R 601 lf6_19 rfl rfl rfl rfl h2 h1 ?_
  refine y_geti mb64 dX6_looked_4 7 rfl R 205 lf6_162 rfl rfl rfl h3 (x := kI V 205 (b1)) (by first | rfl | exact if_pos ⟨rfl, rfl⟩) ?_
  refine w_iret mb64 dX6_looked_7 rfl ?_
  exact ⟨_, R, K⟩

theorem bX6_stale_0 {d : Nat} {Fg : Nat → Prop} {h0 : hp} {Q : Option sV → kV → Prop} {V : kV} {bc bs : Nat} {a0 : Nat} {x1 : Int32} {v2 : sV} {v3 : sV} {b1 : Nat} (h1 : kR V 602 (a0) = some b1) (h2 : kC V (a0) = 7) (h3 : kC V (b1) = 5) {bc1 bs1 : Nat} {P : Option sV → kV → Prop} (C : cM d Fg h0 34 [sR (some b1), sI (x1)] V bc1 bs1 P) (hbc : bc1 ≤ bc) (hbs : bs1 ≤ bs) (K : ∀ r V1, P r V1 → cWP d Fg h0 65 Q 8 [sR (some a0), sI (x1), v2, v3] (r.toList ++ []) V1 (bc - bc1) (bs - bs1)) : cWP d Fg h0 65 Q 0 [sR (some a0), sI (x1), v2, v3] [] V bc bs := by
  intro h R
  refine w_aload_n mb65 dX6_stale_0 1 rfl rfl ?_
  refine y_getr mb65 dX6_stale_1 4 rfl R 602 lf6_27 rfl rfl rfl rfl h2 h1 ?_
  refine w_iload_n mb65 dX6_stale_4 5 rfl rfl ?_
  refine w_virtual (a := b1) (c := 4) (st := []) mb65 dX6_stale_5 8 rfl 34 1 [sI (x1)] _ rfl rfl rfl lc6_93 (R.k h3) (Nat.le_of_ble_eq_true rfl) (C h R) hbc hbs (fun r h1 hP => ?_)
  obtain ⟨V1, R1, hP⟩ := hP
  exact K r V1 hP h1 R1

theorem bX6_stale_8 {d : Nat} {Fg : Nat → Prop} {h0 : hp} {Q : Option sV → kV → Prop} {V : kV} {bc bs : Nat} {v0 : sV} {v1 : sV} {v2 : sV} {v3 : sV} {z0 : Option Nat} (K1 : (z0) = none → cWP d Fg h0 65 Q 31 [v0, v1, v2, sR (z0)] [] V bc bs) (K2 : ¬ (z0) = none → cWP d Fg h0 65 Q 13 [v0, v1, v2, sR (z0)] [] V bc bs) : cWP d Fg h0 65 Q 8 [v0, v1, v2, v3] [sR (z0)] V bc bs := by
  intro h R
  refine w_astore_n mb65 dX6_stale_8 9 rfl [v0, v1, v2, sR (z0)] (Nat.le_of_ble_eq_true rfl) rfl ?_
  refine w_aload_n mb65 dX6_stale_9 10 rfl rfl ?_
  refine w_ifnull mb65 dX6_stale_10 31 13 (by decide) rfl (fun z => ?_) (fun z => ?_)
  · exact K1 z h R
  · exact K2 z h R

theorem bX6_stale_13 {d : Nat} {Fg : Nat → Prop} {h0 : hp} {Q : Option sV → kV → Prop} {V : kV} {bc bs : Nat} {v0 : sV} {v1 : sV} {x2 : Int32} {v3 : sV} (K1 : (x2) < 0 → cWP d Fg h0 65 Q 31 [v0, v1, sI (x2), v3] [] V bc bs) (K2 : ¬ (x2) < 0 → cWP d Fg h0 65 Q 17 [v0, v1, sI (x2), v3] [] V bc bs) : cWP d Fg h0 65 Q 13 [v0, v1, sI (x2), v3] [] V bc bs := by
  intro h R
  refine w_iload_n mb65 dX6_stale_13 14 rfl rfl ?_
  refine w_if_lt mb65 dX6_stale_14 31 17 (by decide) rfl (fun z => ?_) (fun z => ?_)
  · exact K1 z h R
  · exact K2 z h R

theorem bX6_stale_17 {d : Nat} {Fg : Nat → Prop} {h0 : hp} {Q : Option sV → kV → Prop} {V : kV} {bc bs : Nat} {v0 : sV} {v1 : sV} {x2 : Int32} {v3 : sV} (K1 : (4) ≤ (x2) → cWP d Fg h0 65 Q 31 [v0, v1, sI (x2), v3] [] V bc bs) (K2 : ¬ (4) ≤ (x2) → cWP d Fg h0 65 Q 22 [v0, v1, sI (x2), v3] [] V bc bs) : cWP d Fg h0 65 Q 17 [v0, v1, sI (x2), v3] [] V bc bs := by
  intro h R
  refine w_iload_n mb65 dX6_stale_17 18 rfl rfl ?_
  refine w_iconst mb65 dX6_stale_18 19 rfl (4) (by decide) ?_
  refine w_icmp_ge mb65 dX6_stale_19 31 22 (by decide) rfl (fun z => ?_) (fun z => ?_)
  · exact K1 z h R
  · exact K2 z h R

theorem bX6_stale_22 {d : Nat} {Fg : Nat → Prop} {h0 : hp} {Q : Option sV → kV → Prop} {V : kV} {bc bs : Nat} {v0 : sV} {v1 : sV} {x2 : Int32} {a3 : Nat} (h1 : kC V (a3) = 4) (h2 : vp_in (x2) 4) (K : cWP d Fg h0 65 Q 32 [v0, v1, sI (x2), sR (some a3)] [sI (kA V 307 (a3) (x2).toNatClampNeg)] V bc bs) : cWP d Fg h0 65 Q 22 [v0, v1, sI (x2), sR (some a3)] [] V bc bs := by
  intro h R
  refine w_aload_n mb65 dX6_stale_22 23 rfl rfl ?_
  refine y_geta mb65 dX6_stale_23 26 rfl R 307 lf6_165 rfl rfl rfl (by decide) h1 ?_
  refine w_iload_n mb65 dX6_stale_26 27 rfl rfl ?_
  refine y_iald (f := 307) (a := a3) (c := 4) mb65 dX6_stale_27 28 rfl R 4 rfl (by decide) rfl rfl h1 h2 (x := kA V 307 (a3) (x2).toNatClampNeg) rfl ?_
  refine w_goto mb65 dX6_stale_28 32 (by decide) ?_
  exact K h R

theorem bX6_stale_31 {d : Nat} {Fg : Nat → Prop} {h0 : hp} {Q : Option sV → kV → Prop} {V : kV} {bc bs : Nat} {v0 : sV} {v1 : sV} {v2 : sV} {v3 : sV} (K : cWP d Fg h0 65 Q 32 [v0, v1, v2, v3] [sI ((-1))] V bc bs) : cWP d Fg h0 65 Q 31 [v0, v1, v2, v3] [] V bc bs := by
  intro h R
  refine w_iconst mb65 dX6_stale_31 32 rfl ((-1)) (by decide) ?_
  exact K h R

theorem bX6_stale_32 {d : Nat} {Fg : Nat → Prop} {h0 : hp} {Q : Option sV → kV → Prop} {V : kV} {bc bs : Nat} {v0 : sV} {v1 : sV} {v2 : sV} {v3 : sV} {y0 : Int32} (K : Q (some (sI (y0))) V) : cWP d Fg h0 65 Q 32 [v0, v1, v2, v3] [sI (y0)] V bc bs := by
  intro h R
  refine w_iret mb65 dX6_stale_32 rfl ?_
  exact ⟨_, R, K⟩

theorem bX6_count_0 {d : Nat} {Fg : Nat → Prop} {h0 : hp} {Q : Option sV → kV → Prop} {V : kV} {bc bs : Nat} {v0 : sV} {x1 : Int32} (K0 : (x1).toInt = 0 → cWP d Fg h0 66 Q 32 [v0, sI (x1)] [] V bc bs) (K1 : (x1).toInt = 1 → cWP d Fg h0 66 Q 40 [v0, sI (x1)] [] V bc bs) (K2 : (x1).toInt = 2 → cWP d Fg h0 66 Q 48 [v0, sI (x1)] [] V bc bs) (K3 : (x1).toInt = 3 → cWP d Fg h0 66 Q 56 [v0, sI (x1)] [] V bc bs) (Kd : (x1).toInt < 0 ∨ 3 < (x1).toInt → cWP d Fg h0 66 Q 64 [v0, sI (x1)] [] V bc bs) : cWP d Fg h0 66 Q 0 [v0, sI (x1)] [] V bc bs := by
  intro h R
  refine w_iload_n mb66 dX6_count_0 1 rfl rfl ?_
  refine w_table mb66 dX6_count_1 (fun z => ⟨64, by decide, Kd z h R⟩) (fun z => ?_)
  have zz : (x1).toInt = 0 ∨ (x1).toInt = 1 ∨ (x1).toInt = 2 ∨ (x1).toInt = 3 := by omega
  rcases zz with zz | zz | zz | zz
  · exact ⟨_, 32, by rw [zz]; rfl, by decide, K0 zz h R⟩
  · exact ⟨_, 40, by rw [zz]; rfl, by decide, K1 zz h R⟩
  · exact ⟨_, 48, by rw [zz]; rfl, by decide, K2 zz h R⟩
  · exact ⟨_, 56, by rw [zz]; rfl, by decide, K3 zz h R⟩

theorem bX6_count_32 {d : Nat} {Fg : Nat → Prop} {h0 : hp} {Q : Option sV → kV → Prop} {V : kV} {bc bs : Nat} {a0 : Nat} {v1 : sV} {b33 : Nat} (h1 : kR V 602 (a0) = some b33) (h2 : kC V (a0) = 7) (h3 : kC V (b33) = 5) (K : Q (some (sI (kI V 402 (b33)))) V) : cWP d Fg h0 66 Q 32 [sR (some a0), v1] [] V bc bs := by
  intro h R
  refine w_aload_n mb66 dX6_count_32 33 rfl rfl ?_
  refine y_getr mb66 dX6_count_33 36 rfl R 602 lf6_27 rfl rfl rfl rfl h2 h1 ?_
  refine y_geti mb66 dX6_count_36 39 rfl R 402 lf6_85 rfl rfl rfl h3 (x := kI V 402 (b33)) (by first | rfl | exact if_pos ⟨rfl, rfl⟩) ?_
  refine w_iret mb66 dX6_count_39 rfl ?_
  exact ⟨_, R, K⟩

theorem bX6_count_40 {d : Nat} {Fg : Nat → Prop} {h0 : hp} {Q : Option sV → kV → Prop} {V : kV} {bc bs : Nat} {a0 : Nat} {v1 : sV} {b41 : Nat} (h1 : kR V 601 (a0) = some b41) (h2 : kC V (a0) = 7) (h3 : kC V (b41) = 3) (K : Q (some (sI (kI V 206 (b41)))) V) : cWP d Fg h0 66 Q 40 [sR (some a0), v1] [] V bc bs := by
  intro h R
  refine w_aload_n mb66 dX6_count_40 41 rfl rfl ?_
  refine y_getr mb66 dX6_count_41 44 rfl R 601 lf6_19 rfl rfl rfl rfl h2 h1 ?_
  refine y_geti mb66 dX6_count_44 47 rfl R 206 lf6_168 rfl rfl rfl h3 (x := kI V 206 (b41)) (by first | rfl | exact if_pos ⟨rfl, rfl⟩) ?_
  refine w_iret mb66 dX6_count_47 rfl ?_
  exact ⟨_, R, K⟩

theorem bX6_count_48 {d : Nat} {Fg : Nat → Prop} {h0 : hp} {Q : Option sV → kV → Prop} {V : kV} {bc bs : Nat} {a0 : Nat} {v1 : sV} {b49 : Nat} (h1 : kR V 601 (a0) = some b49) (h2 : kC V (a0) = 7) (h3 : kC V (b49) = 3) (K : Q (some (sI (kI V 207 (b49)))) V) : cWP d Fg h0 66 Q 48 [sR (some a0), v1] [] V bc bs := by
  intro h R
  refine w_aload_n mb66 dX6_count_48 49 rfl rfl ?_
  refine y_getr mb66 dX6_count_49 52 rfl R 601 lf6_19 rfl rfl rfl rfl h2 h1 ?_
  refine y_geti mb66 dX6_count_52 55 rfl R 207 lf6_171 rfl rfl rfl h3 (x := kI V 207 (b49)) (by first | rfl | exact if_pos ⟨rfl, rfl⟩) ?_
  refine w_iret mb66 dX6_count_55 rfl ?_
  exact ⟨_, R, K⟩

theorem bX6_count_56 {d : Nat} {Fg : Nat → Prop} {h0 : hp} {Q : Option sV → kV → Prop} {V : kV} {bc bs : Nat} {a0 : Nat} {v1 : sV} {b57 : Nat} (h1 : kR V 602 (a0) = some b57) (h2 : kC V (a0) = 7) (h3 : kC V (b57) = 5) {bc1 bs1 : Nat} {P : Option sV → kV → Prop} (C : cM d Fg h0 36 [sR (some b57)] V bc1 bs1 P) (hbc : bc1 ≤ bc) (hbs : bs1 ≤ bs) (K : ∀ r V1, P r V1 → cWP d Fg h0 66 Q 63 [sR (some a0), v1] (r.toList ++ []) V1 (bc - bc1) (bs - bs1)) : cWP d Fg h0 66 Q 56 [sR (some a0), v1] [] V bc bs := by
  intro h R
  refine w_aload_n mb66 dX6_count_56 57 rfl rfl ?_
  refine y_getr mb66 dX6_count_57 60 rfl R 602 lf6_27 rfl rfl rfl rfl h2 h1 ?_
  refine w_virtual (a := b57) (c := 4) (st := []) mb66 dX6_count_60 63 rfl 36 0 [] _ rfl rfl rfl lc6_174 (R.k h3) (Nat.le_of_ble_eq_true rfl) (C h R) hbc hbs (fun r h1 hP => ?_)
  obtain ⟨V1, R1, hP⟩ := hP
  exact K r V1 hP h1 R1

theorem bX6_count_63 {d : Nat} {Fg : Nat → Prop} {h0 : hp} {Q : Option sV → kV → Prop} {V : kV} {bc bs : Nat} {v0 : sV} {v1 : sV} {y0 : Int32} (K : Q (some (sI (y0))) V) : cWP d Fg h0 66 Q 63 [v0, v1] [sI (y0)] V bc bs := by
  intro h R
  refine w_iret mb66 dX6_count_63 rfl ?_
  exact ⟨_, R, K⟩

theorem bX6_count_64 {d : Nat} {Fg : Nat → Prop} {h0 : hp} {Q : Option sV → kV → Prop} {V : kV} {bc bs : Nat} {v0 : sV} {v1 : sV} (K : Q (some (sI ((-1)))) V) : cWP d Fg h0 66 Q 64 [v0, v1] [] V bc bs := by
  intro h R
  refine w_iconst mb66 dX6_count_64 65 rfl ((-1)) (by decide) ?_
  refine w_iret mb66 dX6_count_65 rfl ?_
  exact ⟨_, R, K⟩

theorem bX6_found_0 {d : Nat} {Fg : Nat → Prop} {h0 : hp} {Q : Option sV → kV → Prop} {V : kV} {bc bs : Nat} {v0 : sV} {x1 : Int32} (K1 : ¬ (x1) = 0 → cWP d Fg h0 67 Q 12 [v0, sI (x1)] [] V bc bs) (K2 : (x1) = 0 → cWP d Fg h0 67 Q 4 [v0, sI (x1)] [] V bc bs) : cWP d Fg h0 67 Q 0 [v0, sI (x1)] [] V bc bs := by
  intro h R
  refine w_iload_n mb67 dX6_found_0 1 rfl rfl ?_
  refine w_if_ne mb67 dX6_found_1 12 4 (by decide) rfl (fun z => ?_) (fun z => ?_)
  · exact K1 z h R
  · exact K2 z h R

theorem bX6_found_4 {d : Nat} {Fg : Nat → Prop} {h0 : hp} {Q : Option sV → kV → Prop} {V : kV} {bc bs : Nat} {a0 : Nat} {v1 : sV} {b5 : Nat} (h1 : kR V 600 (a0) = some b5) (h2 : kC V (a0) = 7) (h3 : kC V (b5) = 1) (K : Q (some (sI (kI V 0 (b5)))) V) : cWP d Fg h0 67 Q 4 [sR (some a0), v1] [] V bc bs := by
  intro h R
  refine w_aload_n mb67 dX6_found_4 5 rfl rfl ?_
  refine y_getr mb67 dX6_found_5 8 rfl R 600 lf6_12 rfl rfl rfl rfl h2 h1 ?_
  refine y_geti mb67 dX6_found_8 11 rfl R 0 lf6_178 rfl rfl rfl h3 (x := kI V 0 (b5)) (by first | rfl | exact if_pos ⟨rfl, rfl⟩) ?_
  refine w_iret mb67 dX6_found_11 rfl ?_
  exact ⟨_, R, K⟩

theorem bX6_found_12 {d : Nat} {Fg : Nat → Prop} {h0 : hp} {Q : Option sV → kV → Prop} {V : kV} {bc bs : Nat} {v0 : sV} {x1 : Int32} (K1 : (x1) < (1) → cWP d Fg h0 67 Q 34 [v0, sI (x1)] [] V bc bs) (K2 : ¬ (x1) < (1) → cWP d Fg h0 67 Q 17 [v0, sI (x1)] [] V bc bs) : cWP d Fg h0 67 Q 12 [v0, sI (x1)] [] V bc bs := by
  intro h R
  refine w_iload_n mb67 dX6_found_12 13 rfl rfl ?_
  refine w_iconst mb67 dX6_found_13 14 rfl (1) (by decide) ?_
  refine w_icmp_lt mb67 dX6_found_14 34 17 (by decide) rfl (fun z => ?_) (fun z => ?_)
  · exact K1 z h R
  · exact K2 z h R

theorem bX6_found_17 {d : Nat} {Fg : Nat → Prop} {h0 : hp} {Q : Option sV → kV → Prop} {V : kV} {bc bs : Nat} {v0 : sV} {x1 : Int32} (K1 : (4) < (x1) → cWP d Fg h0 67 Q 34 [v0, sI (x1)] [] V bc bs) (K2 : ¬ (4) < (x1) → cWP d Fg h0 67 Q 22 [v0, sI (x1)] [] V bc bs) : cWP d Fg h0 67 Q 17 [v0, sI (x1)] [] V bc bs := by
  intro h R
  refine w_iload_n mb67 dX6_found_17 18 rfl rfl ?_
  refine w_iconst mb67 dX6_found_18 19 rfl (4) (by decide) ?_
  refine w_icmp_gt mb67 dX6_found_19 34 22 (by decide) rfl (fun z => ?_) (fun z => ?_)
  · exact K1 z h R
  · exact K2 z h R

theorem bX6_found_22 {d : Nat} {Fg : Nat → Prop} {h0 : hp} {Q : Option sV → kV → Prop} {V : kV} {bc bs : Nat} {a0 : Nat} {x1 : Int32} {b23 : Nat} (h1 : kR V 600 (a0) = some b23) (h2 : kC V (a0) = 7) (h3 : kC V (b23) = 1) (h4 : vp_in (x1) 5) (K : cWP d Fg h0 67 Q 35 [sR (some a0), sI (x1)] [sI (kA V 1 (b23) (x1).toNatClampNeg)] V bc bs) : cWP d Fg h0 67 Q 22 [sR (some a0), sI (x1)] [] V bc bs := by
  intro h R
  refine w_aload_n mb67 dX6_found_22 23 rfl rfl ?_
  refine y_getr mb67 dX6_found_23 26 rfl R 600 lf6_12 rfl rfl rfl rfl h2 h1 ?_
  refine y_geta mb67 dX6_found_26 29 rfl R 1 lf6_180 rfl rfl rfl (by decide) h3 ?_
  refine w_iload_n mb67 dX6_found_29 30 rfl rfl ?_
  refine y_iald (f := 1) (a := b23) (c := 1) mb67 dX6_found_30 31 rfl R 5 rfl (by decide) rfl rfl h3 h4 (x := kA V 1 (b23) (x1).toNatClampNeg) rfl ?_
  refine w_goto mb67 dX6_found_31 35 (by decide) ?_
  exact K h R

theorem bX6_found_34 {d : Nat} {Fg : Nat → Prop} {h0 : hp} {Q : Option sV → kV → Prop} {V : kV} {bc bs : Nat} {v0 : sV} {v1 : sV} (K : cWP d Fg h0 67 Q 35 [v0, v1] [sI ((-1))] V bc bs) : cWP d Fg h0 67 Q 34 [v0, v1] [] V bc bs := by
  intro h R
  refine w_iconst mb67 dX6_found_34 35 rfl ((-1)) (by decide) ?_
  exact K h R

theorem bX6_found_35 {d : Nat} {Fg : Nat → Prop} {h0 : hp} {Q : Option sV → kV → Prop} {V : kV} {bc bs : Nat} {v0 : sV} {v1 : sV} {y0 : Int32} (K : Q (some (sI (y0))) V) : cWP d Fg h0 67 Q 35 [v0, v1] [sI (y0)] V bc bs := by
  intro h R
  refine w_iret mb67 dX6_found_35 rfl ?_
  exact ⟨_, R, K⟩

theorem bX6_isKind_0 {d : Nat} {Fg : Nat → Prop} {h0 : hp} {Q : Option sV → kV → Prop} {V : kV} {bc bs : Nat} {x0 : Int32} (K1 : (x0) < (1) → cWP d Fg h0 68 Q 15 [sI (x0)] [] V bc bs) (K2 : ¬ (x0) < (1) → cWP d Fg h0 68 Q 5 [sI (x0)] [] V bc bs) : cWP d Fg h0 68 Q 0 [sI (x0)] [] V bc bs := by
  intro h R
  refine w_iload_n mb68 dX6_isKind_0 1 rfl rfl ?_
  refine w_iconst mb68 dX6_isKind_1 2 rfl (1) (by decide) ?_
  refine w_icmp_lt mb68 dX6_isKind_2 15 5 (by decide) rfl (fun z => ?_) (fun z => ?_)
  · exact K1 z h R
  · exact K2 z h R

theorem bX6_isKind_5 {d : Nat} {Fg : Nat → Prop} {h0 : hp} {Q : Option sV → kV → Prop} {V : kV} {bc bs : Nat} {x0 : Int32} (K1 : (6) < (x0) → cWP d Fg h0 68 Q 15 [sI (x0)] [] V bc bs) (K2 : ¬ (6) < (x0) → cWP d Fg h0 68 Q 11 [sI (x0)] [] V bc bs) : cWP d Fg h0 68 Q 5 [sI (x0)] [] V bc bs := by
  intro h R
  refine w_iload_n mb68 dX6_isKind_5 6 rfl rfl ?_
  refine w_bipush mb68 dX6_isKind_6 8 rfl (6) (by decide) ?_
  refine w_icmp_gt mb68 dX6_isKind_8 15 11 (by decide) rfl (fun z => ?_) (fun z => ?_)
  · exact K1 z h R
  · exact K2 z h R

theorem bX6_isKind_11 {d : Nat} {Fg : Nat → Prop} {h0 : hp} {Q : Option sV → kV → Prop} {V : kV} {bc bs : Nat} {v0 : sV} (K : cWP d Fg h0 68 Q 16 [v0] [sI (1)] V bc bs) : cWP d Fg h0 68 Q 11 [v0] [] V bc bs := by
  intro h R
  refine w_iconst mb68 dX6_isKind_11 12 rfl (1) (by decide) ?_
  refine w_goto mb68 dX6_isKind_12 16 (by decide) ?_
  exact K h R

theorem bX6_isKind_15 {d : Nat} {Fg : Nat → Prop} {h0 : hp} {Q : Option sV → kV → Prop} {V : kV} {bc bs : Nat} {v0 : sV} (K : cWP d Fg h0 68 Q 16 [v0] [sI (0)] V bc bs) : cWP d Fg h0 68 Q 15 [v0] [] V bc bs := by
  intro h R
  refine w_iconst mb68 dX6_isKind_15 16 rfl (0) (by decide) ?_
  exact K h R

theorem bX6_isKind_16 {d : Nat} {Fg : Nat → Prop} {h0 : hp} {Q : Option sV → kV → Prop} {V : kV} {bc bs : Nat} {v0 : sV} {y0 : Int32} (h1 : (y0) = 0 ∨ (y0) = 1) (K : Q (some (sI (y0))) V) : cWP d Fg h0 68 Q 16 [v0] [sI (y0)] V bc bs := by
  intro h R
  refine w_zret mb68 dX6_isKind_16 rfl h1 ?_
  exact ⟨_, R, K⟩

theorem bX6_isName_0 {d : Nat} {Fg : Nat → Prop} {h0 : hp} {Q : Option sV → kV → Prop} {V : kV} {bc bs : Nat} {x0 : Int32} (K1 : (x0) < 0 → cWP d Fg h0 69 Q 14 [sI (x0)] [] V bc bs) (K2 : ¬ (x0) < 0 → cWP d Fg h0 69 Q 4 [sI (x0)] [] V bc bs) : cWP d Fg h0 69 Q 0 [sI (x0)] [] V bc bs := by
  intro h R
  refine w_iload_n mb69 dX6_isName_0 1 rfl rfl ?_
  refine w_if_lt mb69 dX6_isName_1 14 4 (by decide) rfl (fun z => ?_) (fun z => ?_)
  · exact K1 z h R
  · exact K2 z h R

theorem bX6_isName_4 {d : Nat} {Fg : Nat → Prop} {h0 : hp} {Q : Option sV → kV → Prop} {V : kV} {bc bs : Nat} {x0 : Int32} (K1 : (40) ≤ (x0) → cWP d Fg h0 69 Q 14 [sI (x0)] [] V bc bs) (K2 : ¬ (40) ≤ (x0) → cWP d Fg h0 69 Q 10 [sI (x0)] [] V bc bs) : cWP d Fg h0 69 Q 4 [sI (x0)] [] V bc bs := by
  intro h R
  refine w_iload_n mb69 dX6_isName_4 5 rfl rfl ?_
  refine w_bipush mb69 dX6_isName_5 7 rfl (40) (by decide) ?_
  refine w_icmp_ge mb69 dX6_isName_7 14 10 (by decide) rfl (fun z => ?_) (fun z => ?_)
  · exact K1 z h R
  · exact K2 z h R

theorem bX6_isName_10 {d : Nat} {Fg : Nat → Prop} {h0 : hp} {Q : Option sV → kV → Prop} {V : kV} {bc bs : Nat} {v0 : sV} (K : cWP d Fg h0 69 Q 15 [v0] [sI (1)] V bc bs) : cWP d Fg h0 69 Q 10 [v0] [] V bc bs := by
  intro h R
  refine w_iconst mb69 dX6_isName_10 11 rfl (1) (by decide) ?_
  refine w_goto mb69 dX6_isName_11 15 (by decide) ?_
  exact K h R

theorem bX6_isName_14 {d : Nat} {Fg : Nat → Prop} {h0 : hp} {Q : Option sV → kV → Prop} {V : kV} {bc bs : Nat} {v0 : sV} (K : cWP d Fg h0 69 Q 15 [v0] [sI (0)] V bc bs) : cWP d Fg h0 69 Q 14 [v0] [] V bc bs := by
  intro h R
  refine w_iconst mb69 dX6_isName_14 15 rfl (0) (by decide) ?_
  exact K h R

theorem bX6_isName_15 {d : Nat} {Fg : Nat → Prop} {h0 : hp} {Q : Option sV → kV → Prop} {V : kV} {bc bs : Nat} {v0 : sV} {y0 : Int32} (h1 : (y0) = 0 ∨ (y0) = 1) (K : Q (some (sI (y0))) V) : cWP d Fg h0 69 Q 15 [v0] [sI (y0)] V bc bs := by
  intro h R
  refine w_zret mb69 dX6_isName_15 rfl h1 ?_
  exact ⟨_, R, K⟩

theorem bX6_isIn_0 {d : Nat} {Fg : Nat → Prop} {h0 : hp} {Q : Option sV → kV → Prop} {V : kV} {bc bs : Nat} {x0 : Int32} {x1 : Int32} (K1 : (((x0) >>> ((x1) &&& 31)) &&& (1)) = 0 → cWP d Fg h0 70 Q 12 [sI (x0), sI (x1)] [] V bc bs) (K2 : ¬ (((x0) >>> ((x1) &&& 31)) &&& (1)) = 0 → cWP d Fg h0 70 Q 8 [sI (x0), sI (x1)] [] V bc bs) : cWP d Fg h0 70 Q 0 [sI (x0), sI (x1)] [] V bc bs := by
  intro h R
  refine w_iload_n mb70 dX6_isIn_0 1 rfl rfl ?_
  refine w_iload_n mb70 dX6_isIn_1 2 rfl rfl ?_
  refine w_ishr mb70 dX6_isIn_2 3 rfl ?_
  refine w_iconst mb70 dX6_isIn_3 4 rfl (1) (by decide) ?_
  refine w_iand mb70 dX6_isIn_4 5 rfl ?_
  refine w_if_eq mb70 dX6_isIn_5 12 8 (by decide) rfl (fun z => ?_) (fun z => ?_)
  · exact K1 z h R
  · exact K2 z h R

theorem bX6_isIn_8 {d : Nat} {Fg : Nat → Prop} {h0 : hp} {Q : Option sV → kV → Prop} {V : kV} {bc bs : Nat} {v0 : sV} {v1 : sV} (K : cWP d Fg h0 70 Q 13 [v0, v1] [sI (1)] V bc bs) : cWP d Fg h0 70 Q 8 [v0, v1] [] V bc bs := by
  intro h R
  refine w_iconst mb70 dX6_isIn_8 9 rfl (1) (by decide) ?_
  refine w_goto mb70 dX6_isIn_9 13 (by decide) ?_
  exact K h R

theorem bX6_isIn_12 {d : Nat} {Fg : Nat → Prop} {h0 : hp} {Q : Option sV → kV → Prop} {V : kV} {bc bs : Nat} {v0 : sV} {v1 : sV} (K : cWP d Fg h0 70 Q 13 [v0, v1] [sI (0)] V bc bs) : cWP d Fg h0 70 Q 12 [v0, v1] [] V bc bs := by
  intro h R
  refine w_iconst mb70 dX6_isIn_12 13 rfl (0) (by decide) ?_
  exact K h R

theorem bX6_isIn_13 {d : Nat} {Fg : Nat → Prop} {h0 : hp} {Q : Option sV → kV → Prop} {V : kV} {bc bs : Nat} {v0 : sV} {v1 : sV} {y0 : Int32} (h1 : (y0) = 0 ∨ (y0) = 1) (K : Q (some (sI (y0))) V) : cWP d Fg h0 70 Q 13 [v0, v1] [sI (y0)] V bc bs := by
  intro h R
  refine w_zret mb70 dX6_isIn_13 rfl h1 ?_
  exact ⟨_, R, K⟩

theorem bX6_failureOf_0 {d : Nat} {Fg : Nat → Prop} {h0 : hp} {Q : Option sV → kV → Prop} {V : kV} {bc bs : Nat} {v0 : sV} {v1 : sV} (h1 : 1 ≤ bc) (h2 : 3 ≤ bs) (K : ∀ y, ¬ kD V y → cWP d Fg h0 71 Q 3 [v0, v1] [sR (some y)] (uN V y 2) (bc - 1) (bs - 3)) : cWP d Fg h0 71 Q 0 [v0, v1] [] V bc bs := by
  intro h R
  refine y_newO mb71 dX6_failureOf_0 3 rfl R ln6_43 h1 h2 (fun y h hy R => ?_)
  exact K y hy h R

theorem bX6_failureOf_3 {d : Nat} {Fg : Nat → Prop} {h0 : hp} {Q : Option sV → kV → Prop} {V : kV} {bc bs : Nat} {x0 : Int32} {x1 : Int32} {z0 : Option Nat} {N : Nat} (h1 : ¬ (0 : Int32) < 0) (h2 : (0 : Int32).toNatClampNeg = N) (h3 : N ≤ 100000) (h4 : 1 ≤ bc) (h5 : N ≤ bs) (K : ∀ y, ¬ kD V y → cWP d Fg h0 71 Q 9 [sI (x0), sI (x1)] [sR (some y), sI (x1), sI (x0), sR (z0), sR (z0)] (uW V y (some (N, fun _ => 0))) (bc - 1) (bs - N)) : cWP d Fg h0 71 Q 3 [sI (x0), sI (x1)] [sR (z0)] V bc bs := by
  intro h R
  refine w_dup mb71 dX6_failureOf_3 4 rfl rfl ?_
  refine w_iload_n mb71 dX6_failureOf_4 5 rfl rfl ?_
  refine w_iload_n mb71 dX6_failureOf_5 6 rfl rfl ?_
  refine w_iconst mb71 dX6_failureOf_6 7 rfl (0) (by decide) ?_
  refine y_newW mb71 dX6_failureOf_7 9 rfl R N h1 h2 h3 h4 h5 (fun y h hy R => ?_)
  exact K y hy h R

theorem bX6_failureOf_9 {d : Nat} {Fg : Nat → Prop} {h0 : hp} {Q : Option sV → kV → Prop} {V : kV} {bc bs : Nat} {v0 : sV} {v1 : sV} {z0 : Option Nat} {z1 : Nat} {y2 : Int32} {y3 : Int32} {z4 : Option Nat} {bc1 bs1 : Nat} {P : Option sV → kV → Prop} (C : cM d Fg h0 2 [sR (some z1), sI (y2), sI (y3), sR (z4)] V bc1 bs1 P) (hbc : bc1 ≤ bc) (hbs : bs1 ≤ bs) (K : ∀ r V1, P r V1 → cWP d Fg h0 71 Q 12 [v0, v1] (r.toList ++ [sR (z0)]) V1 (bc - bc1) (bs - bs1)) : cWP d Fg h0 71 Q 9 [v0, v1] [sR (z4), sI (y3), sI (y2), sR (some z1), sR (z0)] V bc bs := by
  intro h R
  refine w_special (a := z1) (st := [sR (z0)]) mb71 dX6_failureOf_9 12 rfl 2 3 [sI (y2), sI (y3), sR (z4)] _ rfl rfl rfl lc6_183 (Nat.le_of_ble_eq_true rfl) (C h R) hbc hbs (fun r h1 hP => ?_)
  obtain ⟨V1, R1, hP⟩ := hP
  exact K r V1 hP h1 R1

theorem bX6_failureOf_12 {d : Nat} {Fg : Nat → Prop} {h0 : hp} {Q : Option sV → kV → Prop} {V : kV} {bc bs : Nat} {v0 : sV} {v1 : sV} {z0 : Option Nat} (K : Q (some (sR (z0))) V) : cWP d Fg h0 71 Q 12 [v0, v1] [sR (z0)] V bc bs := by
  intro h R
  refine w_aret mb71 dX6_failureOf_12 _ rfl (by first | exact Or.inl ⟨_, rfl⟩ | exact Or.inr ⟨_, rfl⟩) ?_
  exact ⟨_, R, K⟩

theorem bJ9_floorMod_7cf53_0 {d : Nat} {Fg : Nat → Prop} {h0 : hp} {Q : Option sV → kV → Prop} {V : kV} {bc bs : Nat} {x0 : Int32} {x1 : Int32} {v2 : sV} (h1 : ¬ (x1) = 0) (K1 : 0 ≤ ((x0) ^^^ (x1)) → cWP d Fg h0 125 Q 18 [sI (x0), sI (x1), sI ((x0) - (x0) / (x1) * (x1))] [] V bc bs) (K2 : ¬ 0 ≤ ((x0) ^^^ (x1)) → cWP d Fg h0 125 Q 10 [sI (x0), sI (x1), sI ((x0) - (x0) / (x1) * (x1))] [] V bc bs) : cWP d Fg h0 125 Q 0 [sI (x0), sI (x1), v2] [] V bc bs := by
  intro h R
  refine w_iload_n mb125 dJ9_floorMod_7cf53_0 1 rfl rfl ?_
  refine w_iload_n mb125 dJ9_floorMod_7cf53_1 2 rfl rfl ?_
  refine w_irem mb125 dJ9_floorMod_7cf53_2 3 rfl h1 ?_
  refine w_istore_n mb125 dJ9_floorMod_7cf53_3 4 rfl [sI (x0), sI (x1), sI ((x0) - (x0) / (x1) * (x1))] (Nat.le_of_ble_eq_true rfl) rfl ?_
  refine w_iload_n mb125 dJ9_floorMod_7cf53_4 5 rfl rfl ?_
  refine w_iload_n mb125 dJ9_floorMod_7cf53_5 6 rfl rfl ?_
  refine w_ixor mb125 dJ9_floorMod_7cf53_6 7 rfl ?_
  refine w_if_ge mb125 dJ9_floorMod_7cf53_7 18 10 (by decide) rfl (fun z => ?_) (fun z => ?_)
  · exact K1 z h R
  · exact K2 z h R

theorem bJ9_floorMod_7cf53_10 {d : Nat} {Fg : Nat → Prop} {h0 : hp} {Q : Option sV → kV → Prop} {V : kV} {bc bs : Nat} {v0 : sV} {v1 : sV} {x2 : Int32} (K1 : (x2) = 0 → cWP d Fg h0 125 Q 18 [v0, v1, sI (x2)] [] V bc bs) (K2 : ¬ (x2) = 0 → cWP d Fg h0 125 Q 14 [v0, v1, sI (x2)] [] V bc bs) : cWP d Fg h0 125 Q 10 [v0, v1, sI (x2)] [] V bc bs := by
  intro h R
  refine w_iload_n mb125 dJ9_floorMod_7cf53_10 11 rfl rfl ?_
  refine w_if_eq mb125 dJ9_floorMod_7cf53_11 18 14 (by decide) rfl (fun z => ?_) (fun z => ?_)
  · exact K1 z h R
  · exact K2 z h R

theorem bJ9_floorMod_7cf53_14 {d : Nat} {Fg : Nat → Prop} {h0 : hp} {Q : Option sV → kV → Prop} {V : kV} {bc bs : Nat} {v0 : sV} {x1 : Int32} {x2 : Int32} (K : Q (some (sI ((x2) + (x1)))) V) : cWP d Fg h0 125 Q 14 [v0, sI (x1), sI (x2)] [] V bc bs := by
  intro h R
  refine w_iload_n mb125 dJ9_floorMod_7cf53_14 15 rfl rfl ?_
  refine w_iload_n mb125 dJ9_floorMod_7cf53_15 16 rfl rfl ?_
  refine w_iadd mb125 dJ9_floorMod_7cf53_16 17 rfl ?_
  refine w_iret mb125 dJ9_floorMod_7cf53_17 rfl ?_
  exact ⟨_, R, K⟩

theorem bJ9_floorMod_7cf53_18 {d : Nat} {Fg : Nat → Prop} {h0 : hp} {Q : Option sV → kV → Prop} {V : kV} {bc bs : Nat} {v0 : sV} {v1 : sV} {x2 : Int32} (K : Q (some (sI (x2))) V) : cWP d Fg h0 125 Q 18 [v0, v1, sI (x2)] [] V bc bs := by
  intro h R
  refine w_iload_n mb125 dJ9_floorMod_7cf53_18 19 rfl rfl ?_
  refine w_iret mb125 dJ9_floorMod_7cf53_19 rfl ?_
  exact ⟨_, R, K⟩

theorem bJ7_fill_53178_0 {d : Nat} {Fg : Nat → Prop} {h0 : hp} {Q : Option sV → kV → Prop} {V : kV} {bc bs : Nat} {ar : Nat} {v1 : sV} {v2 : sV} {v3 : sV} (h1 : kC V (ar) = 4) (K : cWP d Fg h0 126 Q 5 [sR (some (kr V 307 ar)), v1, sI (0), sI (4)] [] V bc bs) : cWP d Fg h0 126 Q 0 [sR (some (kr V 307 ar)), v1, v2, v3] [] V bc bs := by
  intro h R
  refine w_iconst mb126 dJ7_fill_53178_0 1 rfl (0) (by decide) ?_
  refine w_istore_n mb126 dJ7_fill_53178_1 2 rfl [sR (some (kr V 307 ar)), v1, sI (0), v3] (Nat.le_of_ble_eq_true rfl) rfl ?_
  refine w_aload_n mb126 dJ7_fill_53178_2 3 rfl rfl ?_
  refine y_alen (f := 307) (a := ar) (c := 4) mb126 dJ7_fill_53178_3 4 rfl R (4) (by decide) (by decide) rfl h1 ?_
  refine w_istore_n mb126 dJ7_fill_53178_4 5 rfl [sR (some (kr V 307 ar)), v1, sI (0), sI (4)] (Nat.le_of_ble_eq_true rfl) rfl ?_
  exact K h R

theorem bJ7_fill_53178_5 {d : Nat} {Fg : Nat → Prop} {h0 : hp} {Q : Option sV → kV → Prop} {V : kV} {bc bs : Nat} {v0 : sV} {v1 : sV} {x2 : Int32} {x3 : Int32} (K1 : (x3) ≤ (x2) → cWP d Fg h0 126 Q 20 [v0, v1, sI (x2), sI (x3)] [] V bc bs) (K2 : ¬ (x3) ≤ (x2) → cWP d Fg h0 126 Q 10 [v0, v1, sI (x2), sI (x3)] [] V bc bs) : cWP d Fg h0 126 Q 5 [v0, v1, sI (x2), sI (x3)] [] V bc bs := by
  intro h R
  refine w_iload_n mb126 dJ7_fill_53178_5 6 rfl rfl ?_
  refine w_iload_n mb126 dJ7_fill_53178_6 7 rfl rfl ?_
  refine w_icmp_ge mb126 dJ7_fill_53178_7 20 10 (by decide) rfl (fun z => ?_) (fun z => ?_)
  · exact K1 z h R
  · exact K2 z h R

theorem bJ7_fill_53178_10 {d : Nat} {Fg : Nat → Prop} {h0 : hp} {Q : Option sV → kV → Prop} {V : kV} {bc bs : Nat} {ar : Nat} {x1 : Int32} {x2 : Int32} {v3 : sV} (h1 : vp_in (x2) 4) (h2 : kC V (ar) = 4) (K : cWP d Fg h0 126 Q 5 [sR (some (kr V 307 ar)), sI (x1), sI (x2 + 1), v3] [] (uA V (307) (ar) ((x2).toNatClampNeg) (x1)) bc bs) : cWP d Fg h0 126 Q 10 [sR (some (kr V 307 ar)), sI (x1), sI (x2), v3] [] V bc bs := by
  intro h R
  refine w_aload_n mb126 dJ7_fill_53178_10 11 rfl rfl ?_
  refine w_iload_n mb126 dJ7_fill_53178_11 12 rfl rfl ?_
  refine w_iload_n mb126 dJ7_fill_53178_12 13 rfl rfl ?_
  refine y_iast (f := 307) (a := ar) (c := 4) mb126 dJ7_fill_53178_13 14 rfl R 4 rfl (by decide) rfl rfl h2 h1 (fun h R => ?_)
  refine w_iinc mb126 dJ7_fill_53178_14 17 rfl rfl (x2 + 1) rfl [sR (some (kr V 307 ar)), sI (x1), sI (x2 + 1), v3] rfl ?_
  refine w_goto mb126 dJ7_fill_53178_17 5 (by decide) ?_
  exact K h R

theorem bJ7_fill_53178_20 {d : Nat} {Fg : Nat → Prop} {h0 : hp} {Q : Option sV → kV → Prop} {V : kV} {bc bs : Nat} {v0 : sV} {v1 : sV} {v2 : sV} {v3 : sV} (K : Q (none) V) : cWP d Fg h0 126 Q 20 [v0, v1, v2, v3] [] V bc bs := by
  intro h R
  refine w_vret mb126 dJ7_fill_53178_20 rfl ?_
  exact ⟨_, R, K⟩
