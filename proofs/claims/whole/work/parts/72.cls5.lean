theorem bX6_input_0 {d : Nat} {Fg : Nat → Prop} {h0 : hp} {Q : Option sV → kV → Prop} {V : kV} {bc bs : Nat} {a0 : Nat} {x1 : Int32} {v2 : sV} {v3 : sV} {b1 : Nat} (h1 : kR V 602 (a0) = some b1) (h2 : kC V (a0) = 7) (h3 : kC V (b1) = 5) {bc1 bs1 : Nat} {P : Option sV → kV → Prop} (C : cM d Fg h0 34 [sR (some b1), sI (x1)] V bc1 bs1 P) (hbc : bc1 ≤ bc) (hbs : bs1 ≤ bs) (K : ∀ r V1, P r V1 → cWP d Fg h0 52 Q 8 [sR (some a0), sI (x1), v2, v3] (r.toList ++ []) V1 (bc - bc1) (bs - bs1)) : cWP d Fg h0 52 Q 0 [sR (some a0), sI (x1), v2, v3] [] V bc bs := by
  intro h R
  refine w_aload_n mb52 dX6_input_0 1 rfl rfl ?_
  refine y_getr mb52 dX6_input_1 4 rfl R 602 lf6_27 rfl rfl rfl rfl h2 h1 ?_
  refine w_iload_n mb52 dX6_input_4 5 rfl rfl ?_
  refine w_virtual (a := b1) (c := 4) (st := []) mb52 dX6_input_5 8 rfl 34 1 [sI (x1)] _ rfl rfl rfl lc6_93 (R.k h3) (Nat.le_of_ble_eq_true rfl) (C h R) hbc hbs (fun r h1 hP => ?_)
  obtain ⟨V1, R1, hP⟩ := hP
  exact K r V1 hP h1 R1

theorem bX6_input_8 {d : Nat} {Fg : Nat → Prop} {h0 : hp} {Q : Option sV → kV → Prop} {V : kV} {bc bs : Nat} {v0 : sV} {v1 : sV} {v2 : sV} {v3 : sV} {z0 : Option Nat} (K1 : (z0) = none → cWP d Fg h0 52 Q 20 [v0, v1, v2, sR (z0)] [] V bc bs) (K2 : ¬ (z0) = none → cWP d Fg h0 52 Q 13 [v0, v1, v2, sR (z0)] [] V bc bs) : cWP d Fg h0 52 Q 8 [v0, v1, v2, v3] [sR (z0)] V bc bs := by
  intro h R
  refine w_astore_n mb52 dX6_input_8 9 rfl [v0, v1, v2, sR (z0)] (Nat.le_of_ble_eq_true rfl) rfl ?_
  refine w_aload_n mb52 dX6_input_9 10 rfl rfl ?_
  refine w_ifnull mb52 dX6_input_10 20 13 (by decide) rfl (fun z => ?_) (fun z => ?_)
  · exact K1 z h R
  · exact K2 z h R

theorem bX6_input_13 {d : Nat} {Fg : Nat → Prop} {h0 : hp} {Q : Option sV → kV → Prop} {V : kV} {bc bs : Nat} {v0 : sV} {v1 : sV} {x2 : Int32} {v3 : sV} {bc1 bs1 : Nat} {P : Option sV → kV → Prop} (C : cM d Fg h0 69 [sI (x2)] V bc1 bs1 P) (hbc : bc1 ≤ bc) (hbs : bs1 ≤ bs) (K : ∀ r V1, P r V1 → cWP d Fg h0 52 Q 17 [v0, v1, sI (x2), v3] (r.toList ++ []) V1 (bc - bc1) (bs - bs1)) : cWP d Fg h0 52 Q 13 [v0, v1, sI (x2), v3] [] V bc bs := by
  intro h R
  refine w_iload_n mb52 dX6_input_13 14 rfl rfl ?_
  refine w_static (st := []) mb52 dX6_input_14 17 rfl 69 1 [sI (x2)] _ rfl rfl rfl lc6_97 (Nat.le_of_ble_eq_true rfl) (C h R) hbc hbs (fun r h1 hP => ?_)
  obtain ⟨V1, R1, hP⟩ := hP
  exact K r V1 hP h1 R1

theorem bX6_input_17 {d : Nat} {Fg : Nat → Prop} {h0 : hp} {Q : Option sV → kV → Prop} {V : kV} {bc bs : Nat} {v0 : sV} {v1 : sV} {v2 : sV} {v3 : sV} {y0 : Int32} (K1 : ¬ (y0) = 0 → cWP d Fg h0 52 Q 22 [v0, v1, v2, v3] [] V bc bs) (K2 : (y0) = 0 → cWP d Fg h0 52 Q 20 [v0, v1, v2, v3] [] V bc bs) : cWP d Fg h0 52 Q 17 [v0, v1, v2, v3] [sI (y0)] V bc bs := by
  intro h R
  refine w_if_ne mb52 dX6_input_17 22 20 (by decide) rfl (fun z => ?_) (fun z => ?_)
  · exact K1 z h R
  · exact K2 z h R

theorem bX6_input_20 {d : Nat} {Fg : Nat → Prop} {h0 : hp} {Q : Option sV → kV → Prop} {V : kV} {bc bs : Nat} {v0 : sV} {v1 : sV} {v2 : sV} {v3 : sV} (K : Q (some (sI ((-1)))) V) : cWP d Fg h0 52 Q 20 [v0, v1, v2, v3] [] V bc bs := by
  intro h R
  refine w_iconst mb52 dX6_input_20 21 rfl ((-1)) (by decide) ?_
  refine w_iret mb52 dX6_input_21 rfl ?_
  exact ⟨_, R, K⟩

theorem bX6_input_22 {d : Nat} {Fg : Nat → Prop} {h0 : hp} {Q : Option sV → kV → Prop} {V : kV} {bc bs : Nat} {v0 : sV} {v1 : sV} {v2 : sV} {a3 : Nat} (h1 : kC V (a3) = 4) (K1 : (kI V 304 (a3)) < (6) → cWP d Fg h0 52 Q 34 [v0, v1, v2, sR (some a3)] [] V bc bs) (K2 : ¬ (kI V 304 (a3)) < (6) → cWP d Fg h0 52 Q 31 [v0, v1, v2, sR (some a3)] [] V bc bs) : cWP d Fg h0 52 Q 22 [v0, v1, v2, sR (some a3)] [] V bc bs := by
  intro h R
  refine w_aload_n mb52 dX6_input_22 23 rfl rfl ?_
  refine y_geti mb52 dX6_input_23 26 rfl R 304 lf6_100 rfl rfl rfl h1 (x := kI V 304 (a3)) (by first | rfl | exact if_pos ⟨rfl, rfl⟩) ?_
  refine w_bipush mb52 dX6_input_26 28 rfl (6) (by decide) ?_
  refine w_icmp_lt mb52 dX6_input_28 34 31 (by decide) rfl (fun z => ?_) (fun z => ?_)
  · exact K1 z h R
  · exact K2 z h R

theorem bX6_input_31 {d : Nat} {Fg : Nat → Prop} {h0 : hp} {Q : Option sV → kV → Prop} {V : kV} {bc bs : Nat} {v0 : sV} {v1 : sV} {v2 : sV} {v3 : sV} (K : Q (some (sI ((-2)))) V) : cWP d Fg h0 52 Q 31 [v0, v1, v2, v3] [] V bc bs := by
  intro h R
  refine w_bipush mb52 dX6_input_31 33 rfl ((-2)) (by decide) ?_
  refine w_iret mb52 dX6_input_33 rfl ?_
  exact ⟨_, R, K⟩

theorem bX6_input_34 {d : Nat} {Fg : Nat → Prop} {h0 : hp} {Q : Option sV → kV → Prop} {V : kV} {bc bs : Nat} {v0 : sV} {v1 : sV} {x2 : Int32} {a3 : Nat} (h1 : kC V (a3) = 4) (h2 : vp_in (kI V 304 (a3)) 6) {bc1 bs1 : Nat} {P : Option sV → kV → Prop} (C : cM d Fg h0 26 [sR (some a3)] (uI (uA V (303) (a3) ((kI V 304 (a3)).toNatClampNeg) (x2)) (304) (a3) ((kI V 304 (a3)) + (1))) bc1 bs1 P) (hbc : bc1 ≤ bc) (hbs : bs1 ≤ bs) (K : ∀ r V1, P r V1 → cWP d Fg h0 52 Q 58 [v0, v1, sI (x2), sR (some a3)] (r.toList ++ []) V1 (bc - bc1) (bs - bs1)) : cWP d Fg h0 52 Q 34 [v0, v1, sI (x2), sR (some a3)] [] V bc bs := by
  intro h R
  refine w_aload_n mb52 dX6_input_34 35 rfl rfl ?_
  refine y_geta mb52 dX6_input_35 38 rfl R 303 lf6_105 rfl rfl rfl (by decide) h1 ?_
  refine w_aload_n mb52 dX6_input_38 39 rfl rfl ?_
  refine y_geti mb52 dX6_input_39 42 rfl R 304 lf6_100 rfl rfl rfl h1 (x := kI V 304 (a3)) (by first | rfl | exact if_pos ⟨rfl, rfl⟩) ?_
  refine w_iload_n mb52 dX6_input_42 43 rfl rfl ?_
  refine y_iast (f := 303) (a := a3) (c := 4) mb52 dX6_input_43 44 rfl R 6 rfl (by decide) rfl rfl h1 h2 (fun h R => ?_)
  refine w_aload_n mb52 dX6_input_44 45 rfl rfl ?_
  refine w_dup mb52 dX6_input_45 46 rfl rfl ?_
  refine y_geti mb52 dX6_input_46 49 rfl R 304 lf6_100 rfl rfl rfl h1 (x := kI V 304 (a3)) (by first | rfl | exact if_pos ⟨rfl, rfl⟩) ?_
  refine w_iconst mb52 dX6_input_49 50 rfl (1) (by decide) ?_
  refine w_iadd mb52 dX6_input_50 51 rfl ?_
  refine y_puti mb52 dX6_input_51 54 rfl R 304 (lp6_100 _) rfl rfl rfl h1 (fun h R => ?_)
  refine w_aload_n mb52 dX6_input_54 55 rfl rfl ?_
  refine w_virtual (a := a3) (c := 3) (st := []) mb52 dX6_input_55 58 rfl 26 0 [] _ rfl rfl rfl lc6_108 (R.k h1) (Nat.le_of_ble_eq_true rfl) (C h R) hbc hbs (fun r h1 hP => ?_)
  obtain ⟨V1, R1, hP⟩ := hP
  exact K r V1 hP h1 R1

theorem bX6_input_58 {d : Nat} {Fg : Nat → Prop} {h0 : hp} {Q : Option sV → kV → Prop} {V : kV} {bc bs : Nat} {v0 : sV} {v1 : sV} {v2 : sV} {a3 : Nat} (h1 : kC V (a3) = 4) (K : Q (some (sI (kI V 304 (a3)))) V) : cWP d Fg h0 52 Q 58 [v0, v1, v2, sR (some a3)] [] V bc bs := by
  intro h R
  refine w_aload_n mb52 dX6_input_58 59 rfl rfl ?_
  refine y_geti mb52 dX6_input_59 62 rfl R 304 lf6_100 rfl rfl rfl h1 (x := kI V 304 (a3)) (by first | rfl | exact if_pos ⟨rfl, rfl⟩) ?_
  refine w_iret mb52 dX6_input_62 rfl ?_
  exact ⟨_, R, K⟩

theorem bX6_turn_0 {d : Nat} {Fg : Nat → Prop} {h0 : hp} {Q : Option sV → kV → Prop} {V : kV} {bc bs : Nat} {a0 : Nat} {x1 : Int32} {v2 : sV} {v3 : sV} {v4 : sV} {b1 : Nat} (h1 : kR V 602 (a0) = some b1) (h2 : kC V (a0) = 7) (h3 : kC V (b1) = 5) {bc1 bs1 : Nat} {P : Option sV → kV → Prop} (C : cM d Fg h0 34 [sR (some b1), sI (x1)] V bc1 bs1 P) (hbc : bc1 ≤ bc) (hbs : bs1 ≤ bs) (K : ∀ r V1, P r V1 → cWP d Fg h0 53 Q 8 [sR (some a0), sI (x1), v2, v3, v4] (r.toList ++ []) V1 (bc - bc1) (bs - bs1)) : cWP d Fg h0 53 Q 0 [sR (some a0), sI (x1), v2, v3, v4] [] V bc bs := by
  intro h R
  refine w_aload_n mb53 dX6_turn_0 1 rfl rfl ?_
  refine y_getr mb53 dX6_turn_1 4 rfl R 602 lf6_27 rfl rfl rfl rfl h2 h1 ?_
  refine w_iload_n mb53 dX6_turn_4 5 rfl rfl ?_
  refine w_virtual (a := b1) (c := 4) (st := []) mb53 dX6_turn_5 8 rfl 34 1 [sI (x1)] _ rfl rfl rfl lc6_93 (R.k h3) (Nat.le_of_ble_eq_true rfl) (C h R) hbc hbs (fun r h1 hP => ?_)
  obtain ⟨V1, R1, hP⟩ := hP
  exact K r V1 hP h1 R1

theorem bX6_turn_8 {d : Nat} {Fg : Nat → Prop} {h0 : hp} {Q : Option sV → kV → Prop} {V : kV} {bc bs : Nat} {v0 : sV} {v1 : sV} {v2 : sV} {v3 : sV} {v4 : sV} {z0 : Option Nat} (K1 : (z0) = none → cWP d Fg h0 53 Q 31 [v0, v1, v2, v3, sR (z0)] [] V bc bs) (K2 : ¬ (z0) = none → cWP d Fg h0 53 Q 15 [v0, v1, v2, v3, sR (z0)] [] V bc bs) : cWP d Fg h0 53 Q 8 [v0, v1, v2, v3, v4] [sR (z0)] V bc bs := by
  intro h R
  refine w_astore mb53 dX6_turn_8 10 rfl [v0, v1, v2, v3, sR (z0)] (Nat.le_of_ble_eq_true rfl) rfl ?_
  refine w_aload mb53 dX6_turn_10 12 rfl rfl ?_
  refine w_ifnull mb53 dX6_turn_12 31 15 (by decide) rfl (fun z => ?_) (fun z => ?_)
  · exact K1 z h R
  · exact K2 z h R

theorem bX6_turn_15 {d : Nat} {Fg : Nat → Prop} {h0 : hp} {Q : Option sV → kV → Prop} {V : kV} {bc bs : Nat} {v0 : sV} {v1 : sV} {x2 : Int32} {v3 : sV} {a4 : Nat} (h1 : kC V (a4) = 4) {bc1 bs1 : Nat} {P : Option sV → kV → Prop} (C : cM d Fg h0 24 [sR (some a4), sI (x2)] V bc1 bs1 P) (hbc : bc1 ≤ bc) (hbs : bs1 ≤ bs) (K : ∀ r V1, P r V1 → cWP d Fg h0 53 Q 21 [v0, v1, sI (x2), v3, sR (some a4)] (r.toList ++ []) V1 (bc - bc1) (bs - bs1)) : cWP d Fg h0 53 Q 15 [v0, v1, sI (x2), v3, sR (some a4)] [] V bc bs := by
  intro h R
  refine w_aload mb53 dX6_turn_15 17 rfl rfl ?_
  refine w_iload_n mb53 dX6_turn_17 18 rfl rfl ?_
  refine w_virtual (a := a4) (c := 3) (st := []) mb53 dX6_turn_18 21 rfl 24 1 [sI (x2)] _ rfl rfl rfl lc6_111 (R.k h1) (Nat.le_of_ble_eq_true rfl) (C h R) hbc hbs (fun r h1 hP => ?_)
  obtain ⟨V1, R1, hP⟩ := hP
  exact K r V1 hP h1 R1

theorem bX6_turn_21 {d : Nat} {Fg : Nat → Prop} {h0 : hp} {Q : Option sV → kV → Prop} {V : kV} {bc bs : Nat} {v0 : sV} {v1 : sV} {v2 : sV} {v3 : sV} {v4 : sV} {y0 : Int32} (K1 : (y0) = 0 → cWP d Fg h0 53 Q 31 [v0, v1, v2, v3, v4] [] V bc bs) (K2 : ¬ (y0) = 0 → cWP d Fg h0 53 Q 24 [v0, v1, v2, v3, v4] [] V bc bs) : cWP d Fg h0 53 Q 21 [v0, v1, v2, v3, v4] [sI (y0)] V bc bs := by
  intro h R
  refine w_if_eq mb53 dX6_turn_21 31 24 (by decide) rfl (fun z => ?_) (fun z => ?_)
  · exact K1 z h R
  · exact K2 z h R

theorem bX6_turn_24 {d : Nat} {Fg : Nat → Prop} {h0 : hp} {Q : Option sV → kV → Prop} {V : kV} {bc bs : Nat} {v0 : sV} {v1 : sV} {v2 : sV} {x3 : Int32} {v4 : sV} {bc1 bs1 : Nat} {P : Option sV → kV → Prop} (C : cM d Fg h0 69 [sI (x3)] V bc1 bs1 P) (hbc : bc1 ≤ bc) (hbs : bs1 ≤ bs) (K : ∀ r V1, P r V1 → cWP d Fg h0 53 Q 28 [v0, v1, v2, sI (x3), v4] (r.toList ++ []) V1 (bc - bc1) (bs - bs1)) : cWP d Fg h0 53 Q 24 [v0, v1, v2, sI (x3), v4] [] V bc bs := by
  intro h R
  refine w_iload_n mb53 dX6_turn_24 25 rfl rfl ?_
  refine w_static (st := []) mb53 dX6_turn_25 28 rfl 69 1 [sI (x3)] _ rfl rfl rfl lc6_97 (Nat.le_of_ble_eq_true rfl) (C h R) hbc hbs (fun r h1 hP => ?_)
  obtain ⟨V1, R1, hP⟩ := hP
  exact K r V1 hP h1 R1

theorem bX6_turn_28 {d : Nat} {Fg : Nat → Prop} {h0 : hp} {Q : Option sV → kV → Prop} {V : kV} {bc bs : Nat} {v0 : sV} {v1 : sV} {v2 : sV} {v3 : sV} {v4 : sV} {y0 : Int32} (K1 : ¬ (y0) = 0 → cWP d Fg h0 53 Q 33 [v0, v1, v2, v3, v4] [] V bc bs) (K2 : (y0) = 0 → cWP d Fg h0 53 Q 31 [v0, v1, v2, v3, v4] [] V bc bs) : cWP d Fg h0 53 Q 28 [v0, v1, v2, v3, v4] [sI (y0)] V bc bs := by
  intro h R
  refine w_if_ne mb53 dX6_turn_28 33 31 (by decide) rfl (fun z => ?_) (fun z => ?_)
  · exact K1 z h R
  · exact K2 z h R

theorem bX6_turn_31 {d : Nat} {Fg : Nat → Prop} {h0 : hp} {Q : Option sV → kV → Prop} {V : kV} {bc bs : Nat} {v0 : sV} {v1 : sV} {v2 : sV} {v3 : sV} {v4 : sV} (K : Q (some (sI ((-1)))) V) : cWP d Fg h0 53 Q 31 [v0, v1, v2, v3, v4] [] V bc bs := by
  intro h R
  refine w_iconst mb53 dX6_turn_31 32 rfl ((-1)) (by decide) ?_
  refine w_iret mb53 dX6_turn_32 rfl ?_
  exact ⟨_, R, K⟩

theorem bX6_turn_33 {d : Nat} {Fg : Nat → Prop} {h0 : hp} {Q : Option sV → kV → Prop} {V : kV} {bc bs : Nat} {v0 : sV} {v1 : sV} {x2 : Int32} {x3 : Int32} {a4 : Nat} (h1 : kC V (a4) = 4) (h2 : vp_in (x2) 6) (K1 : ¬ (kA V 303 (a4) (x2).toNatClampNeg) = (x3) → cWP d Fg h0 53 Q 46 [v0, v1, sI (x2), sI (x3), sR (some a4)] [] V bc bs) (K2 : (kA V 303 (a4) (x2).toNatClampNeg) = (x3) → cWP d Fg h0 53 Q 44 [v0, v1, sI (x2), sI (x3), sR (some a4)] [] V bc bs) : cWP d Fg h0 53 Q 33 [v0, v1, sI (x2), sI (x3), sR (some a4)] [] V bc bs := by
  intro h R
  refine w_aload mb53 dX6_turn_33 35 rfl rfl ?_
  refine y_geta mb53 dX6_turn_35 38 rfl R 303 lf6_105 rfl rfl rfl (by decide) h1 ?_
  refine w_iload_n mb53 dX6_turn_38 39 rfl rfl ?_
  refine y_iald (f := 303) (a := a4) (c := 4) mb53 dX6_turn_39 40 rfl R 6 rfl (by decide) rfl rfl h1 h2 (x := kA V 303 (a4) (x2).toNatClampNeg) rfl ?_
  refine w_iload_n mb53 dX6_turn_40 41 rfl rfl ?_
  refine w_icmp_ne mb53 dX6_turn_41 46 44 (by decide) rfl (fun z => ?_) (fun z => ?_)
  · exact K1 z h R
  · exact K2 z h R

theorem bX6_turn_44 {d : Nat} {Fg : Nat → Prop} {h0 : hp} {Q : Option sV → kV → Prop} {V : kV} {bc bs : Nat} {v0 : sV} {v1 : sV} {v2 : sV} {v3 : sV} {v4 : sV} (K : Q (some (sI (0))) V) : cWP d Fg h0 53 Q 44 [v0, v1, v2, v3, v4] [] V bc bs := by
  intro h R
  refine w_iconst mb53 dX6_turn_44 45 rfl (0) (by decide) ?_
  refine w_iret mb53 dX6_turn_45 rfl ?_
  exact ⟨_, R, K⟩

theorem bX6_turn_46 {d : Nat} {Fg : Nat → Prop} {h0 : hp} {Q : Option sV → kV → Prop} {V : kV} {bc bs : Nat} {v0 : sV} {v1 : sV} {x2 : Int32} {x3 : Int32} {a4 : Nat} (h1 : kC V (a4) = 4) (h2 : vp_in (x2) 6) {bc1 bs1 : Nat} {P : Option sV → kV → Prop} (C : cM d Fg h0 26 [sR (some a4)] (uA V (303) (a4) ((x2).toNatClampNeg) (x3)) bc1 bs1 P) (hbc : bc1 ≤ bc) (hbs : bs1 ≤ bs) (K : ∀ r V1, P r V1 → cWP d Fg h0 53 Q 59 [v0, v1, sI (x2), sI (x3), sR (some a4)] (r.toList ++ []) V1 (bc - bc1) (bs - bs1)) : cWP d Fg h0 53 Q 46 [v0, v1, sI (x2), sI (x3), sR (some a4)] [] V bc bs := by
  intro h R
  refine w_aload mb53 dX6_turn_46 48 rfl rfl ?_
  refine y_geta mb53 dX6_turn_48 51 rfl R 303 lf6_105 rfl rfl rfl (by decide) h1 ?_
  refine w_iload_n mb53 dX6_turn_51 52 rfl rfl ?_
  refine w_iload_n mb53 dX6_turn_52 53 rfl rfl ?_
  refine y_iast (f := 303) (a := a4) (c := 4) mb53 dX6_turn_53 54 rfl R 6 rfl (by decide) rfl rfl h1 h2 (fun h R => ?_)
  refine w_aload mb53 dX6_turn_54 56 rfl rfl ?_
  refine w_virtual (a := a4) (c := 3) (st := []) mb53 dX6_turn_56 59 rfl 26 0 [] _ rfl rfl rfl lc6_108 (R.k h1) (Nat.le_of_ble_eq_true rfl) (C h R) hbc hbs (fun r h1 hP => ?_)
  obtain ⟨V1, R1, hP⟩ := hP
  exact K r V1 hP h1 R1

theorem bX6_turn_59 {d : Nat} {Fg : Nat → Prop} {h0 : hp} {Q : Option sV → kV → Prop} {V : kV} {bc bs : Nat} {v0 : sV} {v1 : sV} {v2 : sV} {v3 : sV} {v4 : sV} (K : Q (some (sI (1))) V) : cWP d Fg h0 53 Q 59 [v0, v1, v2, v3, v4] [] V bc bs := by
  intro h R
  refine w_iconst mb53 dX6_turn_59 60 rfl (1) (by decide) ?_
  refine w_iret mb53 dX6_turn_60 rfl ?_
  exact ⟨_, R, K⟩

theorem bX6_become_0 {d : Nat} {Fg : Nat → Prop} {h0 : hp} {Q : Option sV → kV → Prop} {V : kV} {bc bs : Nat} {a0 : Nat} {x1 : Int32} {v2 : sV} {v3 : sV} {v4 : sV} {b1 : Nat} (h1 : kR V 602 (a0) = some b1) (h2 : kC V (a0) = 7) (h3 : kC V (b1) = 5) {bc1 bs1 : Nat} {P : Option sV → kV → Prop} (C : cM d Fg h0 34 [sR (some b1), sI (x1)] V bc1 bs1 P) (hbc : bc1 ≤ bc) (hbs : bs1 ≤ bs) (K : ∀ r V1, P r V1 → cWP d Fg h0 54 Q 8 [sR (some a0), sI (x1), v2, v3, v4] (r.toList ++ []) V1 (bc - bc1) (bs - bs1)) : cWP d Fg h0 54 Q 0 [sR (some a0), sI (x1), v2, v3, v4] [] V bc bs := by
  intro h R
  refine w_aload_n mb54 dX6_become_0 1 rfl rfl ?_
  refine y_getr mb54 dX6_become_1 4 rfl R 602 lf6_27 rfl rfl rfl rfl h2 h1 ?_
  refine w_iload_n mb54 dX6_become_4 5 rfl rfl ?_
  refine w_virtual (a := b1) (c := 4) (st := []) mb54 dX6_become_5 8 rfl 34 1 [sI (x1)] _ rfl rfl rfl lc6_93 (R.k h3) (Nat.le_of_ble_eq_true rfl) (C h R) hbc hbs (fun r h1 hP => ?_)
  obtain ⟨V1, R1, hP⟩ := hP
  exact K r V1 hP h1 R1

theorem bX6_become_8 {d : Nat} {Fg : Nat → Prop} {h0 : hp} {Q : Option sV → kV → Prop} {V : kV} {bc bs : Nat} {v0 : sV} {v1 : sV} {v2 : sV} {v3 : sV} {v4 : sV} {z0 : Option Nat} (K1 : (z0) = none → cWP d Fg h0 54 Q 22 [v0, v1, v2, v3, sR (z0)] [] V bc bs) (K2 : ¬ (z0) = none → cWP d Fg h0 54 Q 15 [v0, v1, v2, v3, sR (z0)] [] V bc bs) : cWP d Fg h0 54 Q 8 [v0, v1, v2, v3, v4] [sR (z0)] V bc bs := by
  intro h R
  refine w_astore mb54 dX6_become_8 10 rfl [v0, v1, v2, v3, sR (z0)] (Nat.le_of_ble_eq_true rfl) rfl ?_
  refine w_aload mb54 dX6_become_10 12 rfl rfl ?_
  refine w_ifnull mb54 dX6_become_12 22 15 (by decide) rfl (fun z => ?_) (fun z => ?_)
  · exact K1 z h R
  · exact K2 z h R

theorem bX6_become_15 {d : Nat} {Fg : Nat → Prop} {h0 : hp} {Q : Option sV → kV → Prop} {V : kV} {bc bs : Nat} {v0 : sV} {v1 : sV} {x2 : Int32} {v3 : sV} {v4 : sV} {bc1 bs1 : Nat} {P : Option sV → kV → Prop} (C : cM d Fg h0 68 [sI (x2)] V bc1 bs1 P) (hbc : bc1 ≤ bc) (hbs : bs1 ≤ bs) (K : ∀ r V1, P r V1 → cWP d Fg h0 54 Q 19 [v0, v1, sI (x2), v3, v4] (r.toList ++ []) V1 (bc - bc1) (bs - bs1)) : cWP d Fg h0 54 Q 15 [v0, v1, sI (x2), v3, v4] [] V bc bs := by
  intro h R
  refine w_iload_n mb54 dX6_become_15 16 rfl rfl ?_
  refine w_static (st := []) mb54 dX6_become_16 19 rfl 68 1 [sI (x2)] _ rfl rfl rfl lc6_82 (Nat.le_of_ble_eq_true rfl) (C h R) hbc hbs (fun r h1 hP => ?_)
  obtain ⟨V1, R1, hP⟩ := hP
  exact K r V1 hP h1 R1

theorem bX6_become_19 {d : Nat} {Fg : Nat → Prop} {h0 : hp} {Q : Option sV → kV → Prop} {V : kV} {bc bs : Nat} {v0 : sV} {v1 : sV} {v2 : sV} {v3 : sV} {v4 : sV} {y0 : Int32} (K1 : ¬ (y0) = 0 → cWP d Fg h0 54 Q 24 [v0, v1, v2, v3, v4] [] V bc bs) (K2 : (y0) = 0 → cWP d Fg h0 54 Q 22 [v0, v1, v2, v3, v4] [] V bc bs) : cWP d Fg h0 54 Q 19 [v0, v1, v2, v3, v4] [sI (y0)] V bc bs := by
  intro h R
  refine w_if_ne mb54 dX6_become_19 24 22 (by decide) rfl (fun z => ?_) (fun z => ?_)
  · exact K1 z h R
  · exact K2 z h R

theorem bX6_become_22 {d : Nat} {Fg : Nat → Prop} {h0 : hp} {Q : Option sV → kV → Prop} {V : kV} {bc bs : Nat} {v0 : sV} {v1 : sV} {v2 : sV} {v3 : sV} {v4 : sV} (K : Q (some (sI ((-1)))) V) : cWP d Fg h0 54 Q 22 [v0, v1, v2, v3, v4] [] V bc bs := by
  intro h R
  refine w_iconst mb54 dX6_become_22 23 rfl ((-1)) (by decide) ?_
  refine w_iret mb54 dX6_become_23 rfl ?_
  exact ⟨_, R, K⟩

theorem bX6_become_24 {d : Nat} {Fg : Nat → Prop} {h0 : hp} {Q : Option sV → kV → Prop} {V : kV} {bc bs : Nat} {v0 : sV} {v1 : sV} {x2 : Int32} {x3 : Int32} {a4 : Nat} (h1 : kC V (a4) = 4) (h2 : (x3) = 0 ∨ (x3) = 1) {bc1 bs1 : Nat} {P : Option sV → kV → Prop} (C : cM d Fg h0 26 [sR (some a4)] (uI (uI V (301) (a4) (x2)) (302) (a4) (x3)) bc1 bs1 P) (hbc : bc1 ≤ bc) (hbs : bs1 ≤ bs) (K : ∀ r V1, P r V1 → cWP d Fg h0 54 Q 41 [v0, v1, sI (x2), sI (x3), sR (some a4)] (r.toList ++ []) V1 (bc - bc1) (bs - bs1)) : cWP d Fg h0 54 Q 24 [v0, v1, sI (x2), sI (x3), sR (some a4)] [] V bc bs := by
  intro h R
  refine w_aload mb54 dX6_become_24 26 rfl rfl ?_
  refine w_iload_n mb54 dX6_become_26 27 rfl rfl ?_
  refine y_puti mb54 dX6_become_27 30 rfl R 301 (lp6_114 _) rfl rfl rfl h1 (fun h R => ?_)
  refine w_aload mb54 dX6_become_30 32 rfl rfl ?_
  refine w_iload_n mb54 dX6_become_32 33 rfl rfl ?_
  refine y_putz mb54 dX6_become_33 36 rfl R 302 (lp6_117 _) rfl rfl rfl h1 h2 (fun h R => ?_)
  refine w_aload mb54 dX6_become_36 38 rfl rfl ?_
  refine w_virtual (a := a4) (c := 3) (st := []) mb54 dX6_become_38 41 rfl 26 0 [] _ rfl rfl rfl lc6_108 (R.k h1) (Nat.le_of_ble_eq_true rfl) (C h R) hbc hbs (fun r h1 hP => ?_)
  obtain ⟨V1, R1, hP⟩ := hP
  exact K r V1 hP h1 R1

theorem bX6_become_41 {d : Nat} {Fg : Nat → Prop} {h0 : hp} {Q : Option sV → kV → Prop} {V : kV} {bc bs : Nat} {v0 : sV} {v1 : sV} {v2 : sV} {v3 : sV} {v4 : sV} (K : Q (some (sI (1))) V) : cWP d Fg h0 54 Q 41 [v0, v1, v2, v3, v4] [] V bc bs := by
  intro h R
  refine w_iconst mb54 dX6_become_41 42 rfl (1) (by decide) ?_
  refine w_iret mb54 dX6_become_42 rfl ?_
  exact ⟨_, R, K⟩

theorem bX6_forget_0 {d : Nat} {Fg : Nat → Prop} {h0 : hp} {Q : Option sV → kV → Prop} {V : kV} {bc bs : Nat} {a0 : Nat} {x1 : Int32} {v2 : sV} {v3 : sV} {b1 : Nat} (h1 : kR V 602 (a0) = some b1) (h2 : kC V (a0) = 7) (h3 : kC V (b1) = 5) {bc1 bs1 : Nat} {P : Option sV → kV → Prop} (C : cM d Fg h0 34 [sR (some b1), sI (x1)] V bc1 bs1 P) (hbc : bc1 ≤ bc) (hbs : bs1 ≤ bs) (K : ∀ r V1, P r V1 → cWP d Fg h0 55 Q 8 [sR (some a0), sI (x1), v2, v3] (r.toList ++ []) V1 (bc - bc1) (bs - bs1)) : cWP d Fg h0 55 Q 0 [sR (some a0), sI (x1), v2, v3] [] V bc bs := by
  intro h R
  refine w_aload_n mb55 dX6_forget_0 1 rfl rfl ?_
  refine y_getr mb55 dX6_forget_1 4 rfl R 602 lf6_27 rfl rfl rfl rfl h2 h1 ?_
  refine w_iload_n mb55 dX6_forget_4 5 rfl rfl ?_
  refine w_virtual (a := b1) (c := 4) (st := []) mb55 dX6_forget_5 8 rfl 34 1 [sI (x1)] _ rfl rfl rfl lc6_93 (R.k h3) (Nat.le_of_ble_eq_true rfl) (C h R) hbc hbs (fun r h1 hP => ?_)
  obtain ⟨V1, R1, hP⟩ := hP
  exact K r V1 hP h1 R1

theorem bX6_forget_8 {d : Nat} {Fg : Nat → Prop} {h0 : hp} {Q : Option sV → kV → Prop} {V : kV} {bc bs : Nat} {v0 : sV} {v1 : sV} {v2 : sV} {v3 : sV} {z0 : Option Nat} (K1 : ¬ (z0) = none → cWP d Fg h0 55 Q 15 [v0, v1, sR (z0), v3] [] V bc bs) (K2 : (z0) = none → cWP d Fg h0 55 Q 13 [v0, v1, sR (z0), v3] [] V bc bs) : cWP d Fg h0 55 Q 8 [v0, v1, v2, v3] [sR (z0)] V bc bs := by
  intro h R
  refine w_astore_n mb55 dX6_forget_8 9 rfl [v0, v1, sR (z0), v3] (Nat.le_of_ble_eq_true rfl) rfl ?_
  refine w_aload_n mb55 dX6_forget_9 10 rfl rfl ?_
  refine w_ifnonnull mb55 dX6_forget_10 15 13 (by decide) rfl (fun z => ?_) (fun z => ?_)
  · exact K1 z h R
  · exact K2 z h R

theorem bX6_forget_13 {d : Nat} {Fg : Nat → Prop} {h0 : hp} {Q : Option sV → kV → Prop} {V : kV} {bc bs : Nat} {v0 : sV} {v1 : sV} {v2 : sV} {v3 : sV} (K : Q (some (sI ((-1)))) V) : cWP d Fg h0 55 Q 13 [v0, v1, v2, v3] [] V bc bs := by
  intro h R
  refine w_iconst mb55 dX6_forget_13 14 rfl ((-1)) (by decide) ?_
  refine w_iret mb55 dX6_forget_14 rfl ?_
  exact ⟨_, R, K⟩

theorem bX6_forget_15 {d : Nat} {Fg : Nat → Prop} {h0 : hp} {Q : Option sV → kV → Prop} {V : kV} {bc bs : Nat} {v0 : sV} {v1 : sV} {a2 : Nat} {v3 : sV} (h1 : kC V (a2) = 4) {bc1 bs1 : Nat} {P : Option sV → kV → Prop} (C : cM d Fg h0 26 [sR (some a2)] V bc1 bs1 P) (hbc : bc1 ≤ bc) (hbs : bs1 ≤ bs) (K : ∀ r V1, P r V1 → cWP d Fg h0 55 Q 24 [v0, v1, sR (some a2), sI (kI V 305 (a2))] (r.toList ++ []) V1 (bc - bc1) (bs - bs1)) : cWP d Fg h0 55 Q 15 [v0, v1, sR (some a2), v3] [] V bc bs := by
  intro h R
  refine w_aload_n mb55 dX6_forget_15 16 rfl rfl ?_
  refine y_geti mb55 dX6_forget_16 19 rfl R 305 lf6_121 rfl rfl rfl h1 (x := kI V 305 (a2)) (by first | rfl | exact if_pos ⟨rfl, rfl⟩) ?_
  refine w_istore_n mb55 dX6_forget_19 20 rfl [v0, v1, sR (some a2), sI (kI V 305 (a2))] (Nat.le_of_ble_eq_true rfl) rfl ?_
  refine w_aload_n mb55 dX6_forget_20 21 rfl rfl ?_
  refine w_virtual (a := a2) (c := 3) (st := []) mb55 dX6_forget_21 24 rfl 26 0 [] _ rfl rfl rfl lc6_108 (R.k h1) (Nat.le_of_ble_eq_true rfl) (C h R) hbc hbs (fun r h1 hP => ?_)
  obtain ⟨V1, R1, hP⟩ := hP
  exact K r V1 hP h1 R1

theorem bX6_forget_24 {d : Nat} {Fg : Nat → Prop} {h0 : hp} {Q : Option sV → kV → Prop} {V : kV} {bc bs : Nat} {v0 : sV} {v1 : sV} {v2 : sV} {x3 : Int32} (K : Q (some (sI (x3))) V) : cWP d Fg h0 55 Q 24 [v0, v1, v2, sI (x3)] [] V bc bs := by
  intro h R
  refine w_iload_n mb55 dX6_forget_24 25 rfl rfl ?_
  refine w_iret mb55 dX6_forget_25 rfl ?_
  exact ⟨_, R, K⟩

theorem bX6_of_0 {d : Nat} {Fg : Nat → Prop} {h0 : hp} {Q : Option sV → kV → Prop} {V : kV} {bc bs : Nat} {v0 : sV} {v1 : sV} {x2 : Int32} {v3 : sV} (K1 : (x2) < 0 → cWP d Fg h0 56 Q 10 [v0, v1, sI (x2), v3] [] V bc bs) (K2 : ¬ (x2) < 0 → cWP d Fg h0 56 Q 4 [v0, v1, sI (x2), v3] [] V bc bs) : cWP d Fg h0 56 Q 0 [v0, v1, sI (x2), v3] [] V bc bs := by
  intro h R
  refine w_iload_n mb56 dX6_of_0 1 rfl rfl ?_
  refine w_if_lt mb56 dX6_of_1 10 4 (by decide) rfl (fun z => ?_) (fun z => ?_)
  · exact K1 z h R
  · exact K2 z h R

theorem bX6_of_4 {d : Nat} {Fg : Nat → Prop} {h0 : hp} {Q : Option sV → kV → Prop} {V : kV} {bc bs : Nat} {v0 : sV} {v1 : sV} {x2 : Int32} {v3 : sV} (K1 : (x2) ≤ (9) → cWP d Fg h0 56 Q 12 [v0, v1, sI (x2), v3] [] V bc bs) (K2 : ¬ (x2) ≤ (9) → cWP d Fg h0 56 Q 10 [v0, v1, sI (x2), v3] [] V bc bs) : cWP d Fg h0 56 Q 4 [v0, v1, sI (x2), v3] [] V bc bs := by
  intro h R
  refine w_iload_n mb56 dX6_of_4 5 rfl rfl ?_
  refine w_bipush mb56 dX6_of_5 7 rfl (9) (by decide) ?_
  refine w_icmp_le mb56 dX6_of_7 12 10 (by decide) rfl (fun z => ?_) (fun z => ?_)
  · exact K1 z h R
  · exact K2 z h R

theorem bX6_of_10 {d : Nat} {Fg : Nat → Prop} {h0 : hp} {Q : Option sV → kV → Prop} {V : kV} {bc bs : Nat} {v0 : sV} {v1 : sV} {v2 : sV} {v3 : sV} (K : Q (some (sI ((-1)))) V) : cWP d Fg h0 56 Q 10 [v0, v1, v2, v3] [] V bc bs := by
  intro h R
  refine w_iconst mb56 dX6_of_10 11 rfl ((-1)) (by decide) ?_
  refine w_iret mb56 dX6_of_11 rfl ?_
  exact ⟨_, R, K⟩

theorem bX6_of_12 {d : Nat} {Fg : Nat → Prop} {h0 : hp} {Q : Option sV → kV → Prop} {V : kV} {bc bs : Nat} {a0 : Nat} {x1 : Int32} {v2 : sV} {v3 : sV} {b13 : Nat} (h1 : kR V 602 (a0) = some b13) (h2 : kC V (a0) = 7) (h3 : kC V (b13) = 5) {bc1 bs1 : Nat} {P : Option sV → kV → Prop} (C : cM d Fg h0 34 [sR (some b13), sI (x1)] V bc1 bs1 P) (hbc : bc1 ≤ bc) (hbs : bs1 ≤ bs) (K : ∀ r V1, P r V1 → cWP d Fg h0 56 Q 20 [sR (some a0), sI (x1), v2, v3] (r.toList ++ []) V1 (bc - bc1) (bs - bs1)) : cWP d Fg h0 56 Q 12 [sR (some a0), sI (x1), v2, v3] [] V bc bs := by
  intro h R
  refine w_aload_n mb56 dX6_of_12 13 rfl rfl ?_
  refine y_getr mb56 dX6_of_13 16 rfl R 602 lf6_27 rfl rfl rfl rfl h2 h1 ?_
  refine w_iload_n mb56 dX6_of_16 17 rfl rfl ?_
  refine w_virtual (a := b13) (c := 4) (st := []) mb56 dX6_of_17 20 rfl 34 1 [sI (x1)] _ rfl rfl rfl lc6_93 (R.k h3) (Nat.le_of_ble_eq_true rfl) (C h R) hbc hbs (fun r h1 hP => ?_)
  obtain ⟨V1, R1, hP⟩ := hP
  exact K r V1 hP h1 R1

theorem bX6_of_20 {d : Nat} {Fg : Nat → Prop} {h0 : hp} {Q : Option sV → kV → Prop} {V : kV} {bc bs : Nat} {v0 : sV} {v1 : sV} {v2 : sV} {v3 : sV} {z0 : Option Nat} (K1 : ¬ (z0) = none → cWP d Fg h0 56 Q 34 [v0, v1, v2, sR (z0)] [] V bc bs) (K2 : (z0) = none → cWP d Fg h0 56 Q 25 [v0, v1, v2, sR (z0)] [] V bc bs) : cWP d Fg h0 56 Q 20 [v0, v1, v2, v3] [sR (z0)] V bc bs := by
  intro h R
  refine w_astore_n mb56 dX6_of_20 21 rfl [v0, v1, v2, sR (z0)] (Nat.le_of_ble_eq_true rfl) rfl ?_
  refine w_aload_n mb56 dX6_of_21 22 rfl rfl ?_
  refine w_ifnonnull mb56 dX6_of_22 34 25 (by decide) rfl (fun z => ?_) (fun z => ?_)
  · exact K1 z h R
  · exact K2 z h R

theorem bX6_of_25 {d : Nat} {Fg : Nat → Prop} {h0 : hp} {Q : Option sV → kV → Prop} {V : kV} {bc bs : Nat} {a0 : Nat} {v1 : sV} {v2 : sV} {v3 : sV} {b26 : Nat} (h1 : kR V 600 (a0) = some b26) (h2 : kC V (a0) = 7) (h3 : kC V (b26) = 1) {bc1 bs1 : Nat} {P : Option sV → kV → Prop} (C : cM d Fg h0 1 [sR (some b26), sI (2)] V bc1 bs1 P) (hbc : bc1 ≤ bc) (hbs : bs1 ≤ bs) (K : ∀ r V1, P r V1 → cWP d Fg h0 56 Q 33 [sR (some a0), v1, v2, v3] (r.toList ++ []) V1 (bc - bc1) (bs - bs1)) : cWP d Fg h0 56 Q 25 [sR (some a0), v1, v2, v3] [] V bc bs := by
  intro h R
  refine w_aload_n mb56 dX6_of_25 26 rfl rfl ?_
  refine y_getr mb56 dX6_of_26 29 rfl R 600 lf6_12 rfl rfl rfl rfl h2 h1 ?_
  refine w_iconst mb56 dX6_of_29 30 rfl (2) (by decide) ?_
  refine w_virtual (a := b26) (c := 0) (st := []) mb56 dX6_of_30 33 rfl 1 1 [sI (2)] _ rfl rfl rfl lc6_34 (R.k h3) (Nat.le_of_ble_eq_true rfl) (C h R) hbc hbs (fun r h1 hP => ?_)
  obtain ⟨V1, R1, hP⟩ := hP
  exact K r V1 hP h1 R1

theorem bX6_of_33 {d : Nat} {Fg : Nat → Prop} {h0 : hp} {Q : Option sV → kV → Prop} {V : kV} {bc bs : Nat} {v0 : sV} {v1 : sV} {v2 : sV} {v3 : sV} {y0 : Int32} (K : Q (some (sI (y0))) V) : cWP d Fg h0 56 Q 33 [v0, v1, v2, v3] [sI (y0)] V bc bs := by
  intro h R
  refine w_iret mb56 dX6_of_33 rfl ?_
  exact ⟨_, R, K⟩

theorem bX6_of_34 {d : Nat} {Fg : Nat → Prop} {h0 : hp} {Q : Option sV → kV → Prop} {V : kV} {bc bs : Nat} {v0 : sV} {v1 : sV} {x2 : Int32} {v3 : sV} (K0 : (x2).toInt = 0 → cWP d Fg h0 56 Q 64 [v0, v1, sI (x2), v3] [] V bc bs) (K1 : (x2).toInt = 1 → cWP d Fg h0 56 Q 69 [v0, v1, sI (x2), v3] [] V bc bs) (K2 : (x2).toInt = 2 → cWP d Fg h0 56 Q 82 [v0, v1, sI (x2), v3] [] V bc bs) (K3 : (x2).toInt = 3 → cWP d Fg h0 56 Q 87 [v0, v1, sI (x2), v3] [] V bc bs) (Kd : (x2).toInt < 0 ∨ 3 < (x2).toInt → cWP d Fg h0 56 Q 92 [v0, v1, sI (x2), v3] [] V bc bs) : cWP d Fg h0 56 Q 34 [v0, v1, sI (x2), v3] [] V bc bs := by
  intro h R
  refine w_iload_n mb56 dX6_of_34 35 rfl rfl ?_
  refine w_table mb56 dX6_of_35 (fun z => ⟨92, by decide, Kd z h R⟩) (fun z => ?_)
  have zz : (x2).toInt = 0 ∨ (x2).toInt = 1 ∨ (x2).toInt = 2 ∨ (x2).toInt = 3 := by omega
  rcases zz with zz | zz | zz | zz
  · exact ⟨_, 64, by rw [zz]; rfl, by decide, K0 zz h R⟩
  · exact ⟨_, 69, by rw [zz]; rfl, by decide, K1 zz h R⟩
  · exact ⟨_, 82, by rw [zz]; rfl, by decide, K2 zz h R⟩
  · exact ⟨_, 87, by rw [zz]; rfl, by decide, K3 zz h R⟩

theorem bX6_of_64 {d : Nat} {Fg : Nat → Prop} {h0 : hp} {Q : Option sV → kV → Prop} {V : kV} {bc bs : Nat} {v0 : sV} {v1 : sV} {v2 : sV} {a3 : Nat} (h1 : kC V (a3) = 4) (K : Q (some (sI (kI V 301 (a3)))) V) : cWP d Fg h0 56 Q 64 [v0, v1, v2, sR (some a3)] [] V bc bs := by
  intro h R
  refine w_aload_n mb56 dX6_of_64 65 rfl rfl ?_
  refine y_geti mb56 dX6_of_65 68 rfl R 301 lf6_114 rfl rfl rfl h1 (x := kI V 301 (a3)) (by first | rfl | exact if_pos ⟨rfl, rfl⟩) ?_
  refine w_iret mb56 dX6_of_68 rfl ?_
  exact ⟨_, R, K⟩

theorem bX6_of_69 {d : Nat} {Fg : Nat → Prop} {h0 : hp} {Q : Option sV → kV → Prop} {V : kV} {bc bs : Nat} {v0 : sV} {v1 : sV} {v2 : sV} {a3 : Nat} (h1 : kC V (a3) = 4) (K1 : (kI V 302 (a3)) = 0 → cWP d Fg h0 56 Q 80 [v0, v1, v2, sR (some a3)] [] V bc bs) (K2 : ¬ (kI V 302 (a3)) = 0 → cWP d Fg h0 56 Q 76 [v0, v1, v2, sR (some a3)] [] V bc bs) : cWP d Fg h0 56 Q 69 [v0, v1, v2, sR (some a3)] [] V bc bs := by
  intro h R
  refine w_aload_n mb56 dX6_of_69 70 rfl rfl ?_
  refine y_geti mb56 dX6_of_70 73 rfl R 302 lf6_117 rfl rfl rfl h1 (x := kI V 302 (a3)) (by first | rfl | exact if_pos ⟨rfl, rfl⟩) ?_
  refine w_if_eq mb56 dX6_of_73 80 76 (by decide) rfl (fun z => ?_) (fun z => ?_)
  · exact K1 z h R
  · exact K2 z h R

theorem bX6_of_76 {d : Nat} {Fg : Nat → Prop} {h0 : hp} {Q : Option sV → kV → Prop} {V : kV} {bc bs : Nat} {v0 : sV} {v1 : sV} {v2 : sV} {v3 : sV} (K : cWP d Fg h0 56 Q 81 [v0, v1, v2, v3] [sI (1)] V bc bs) : cWP d Fg h0 56 Q 76 [v0, v1, v2, v3] [] V bc bs := by
  intro h R
  refine w_iconst mb56 dX6_of_76 77 rfl (1) (by decide) ?_
  refine w_goto mb56 dX6_of_77 81 (by decide) ?_
  exact K h R

theorem bX6_of_80 {d : Nat} {Fg : Nat → Prop} {h0 : hp} {Q : Option sV → kV → Prop} {V : kV} {bc bs : Nat} {v0 : sV} {v1 : sV} {v2 : sV} {v3 : sV} (K : cWP d Fg h0 56 Q 81 [v0, v1, v2, v3] [sI (0)] V bc bs) : cWP d Fg h0 56 Q 80 [v0, v1, v2, v3] [] V bc bs := by
  intro h R
  refine w_iconst mb56 dX6_of_80 81 rfl (0) (by decide) ?_
  exact K h R

theorem bX6_of_81 {d : Nat} {Fg : Nat → Prop} {h0 : hp} {Q : Option sV → kV → Prop} {V : kV} {bc bs : Nat} {v0 : sV} {v1 : sV} {v2 : sV} {v3 : sV} {y0 : Int32} (K : Q (some (sI (y0))) V) : cWP d Fg h0 56 Q 81 [v0, v1, v2, v3] [sI (y0)] V bc bs := by
  intro h R
  refine w_iret mb56 dX6_of_81 rfl ?_
  exact ⟨_, R, K⟩

theorem bX6_of_82 {d : Nat} {Fg : Nat → Prop} {h0 : hp} {Q : Option sV → kV → Prop} {V : kV} {bc bs : Nat} {v0 : sV} {v1 : sV} {v2 : sV} {a3 : Nat} (h1 : kC V (a3) = 4) (K : Q (some (sI (kI V 304 (a3)))) V) : cWP d Fg h0 56 Q 82 [v0, v1, v2, sR (some a3)] [] V bc bs := by
  intro h R
  refine w_aload_n mb56 dX6_of_82 83 rfl rfl ?_
  refine y_geti mb56 dX6_of_83 86 rfl R 304 lf6_100 rfl rfl rfl h1 (x := kI V 304 (a3)) (by first | rfl | exact if_pos ⟨rfl, rfl⟩) ?_
  refine w_iret mb56 dX6_of_86 rfl ?_
  exact ⟨_, R, K⟩

theorem bX6_of_87 {d : Nat} {Fg : Nat → Prop} {h0 : hp} {Q : Option sV → kV → Prop} {V : kV} {bc bs : Nat} {v0 : sV} {v1 : sV} {v2 : sV} {a3 : Nat} (h1 : kC V (a3) = 4) (K : Q (some (sI (kI V 305 (a3)))) V) : cWP d Fg h0 56 Q 87 [v0, v1, v2, sR (some a3)] [] V bc bs := by
  intro h R
  refine w_aload_n mb56 dX6_of_87 88 rfl rfl ?_
  refine y_geti mb56 dX6_of_88 91 rfl R 305 lf6_121 rfl rfl rfl h1 (x := kI V 305 (a3)) (by first | rfl | exact if_pos ⟨rfl, rfl⟩) ?_
  refine w_iret mb56 dX6_of_91 rfl ?_
  exact ⟨_, R, K⟩

theorem bX6_of_92 {d : Nat} {Fg : Nat → Prop} {h0 : hp} {Q : Option sV → kV → Prop} {V : kV} {bc bs : Nat} {v0 : sV} {v1 : sV} {x2 : Int32} {a3 : Nat} (h1 : kC V (a3) = 4) {bc1 bs1 : Nat} {P : Option sV → kV → Prop} (C : cM d Fg h0 24 [sR (some a3), sI ((x2) - (4))] V bc1 bs1 P) (hbc : bc1 ≤ bc) (hbs : bs1 ≤ bs) (K : ∀ r V1, P r V1 → cWP d Fg h0 56 Q 99 [v0, v1, sI (x2), sR (some a3)] (r.toList ++ []) V1 (bc - bc1) (bs - bs1)) : cWP d Fg h0 56 Q 92 [v0, v1, sI (x2), sR (some a3)] [] V bc bs := by
  intro h R
  refine w_aload_n mb56 dX6_of_92 93 rfl rfl ?_
  refine w_iload_n mb56 dX6_of_93 94 rfl rfl ?_
  refine w_iconst mb56 dX6_of_94 95 rfl (4) (by decide) ?_
  refine w_isub mb56 dX6_of_95 96 rfl ?_
  refine w_virtual (a := a3) (c := 3) (st := []) mb56 dX6_of_96 99 rfl 24 1 [sI ((x2) - (4))] _ rfl rfl rfl lc6_111 (R.k h1) (Nat.le_of_ble_eq_true rfl) (C h R) hbc hbs (fun r h1 hP => ?_)
  obtain ⟨V1, R1, hP⟩ := hP
  exact K r V1 hP h1 R1

theorem bX6_of_99 {d : Nat} {Fg : Nat → Prop} {h0 : hp} {Q : Option sV → kV → Prop} {V : kV} {bc bs : Nat} {v0 : sV} {v1 : sV} {v2 : sV} {v3 : sV} {y0 : Int32} (K1 : (y0) = 0 → cWP d Fg h0 56 Q 113 [v0, v1, v2, v3] [] V bc bs) (K2 : ¬ (y0) = 0 → cWP d Fg h0 56 Q 102 [v0, v1, v2, v3] [] V bc bs) : cWP d Fg h0 56 Q 99 [v0, v1, v2, v3] [sI (y0)] V bc bs := by
  intro h R
  refine w_if_eq mb56 dX6_of_99 113 102 (by decide) rfl (fun z => ?_) (fun z => ?_)
  · exact K1 z h R
  · exact K2 z h R

theorem bX6_of_102 {d : Nat} {Fg : Nat → Prop} {h0 : hp} {Q : Option sV → kV → Prop} {V : kV} {bc bs : Nat} {v0 : sV} {v1 : sV} {x2 : Int32} {a3 : Nat} (h1 : kC V (a3) = 4) (h2 : vp_in ((x2) - (4)) 6) (K : cWP d Fg h0 56 Q 114 [v0, v1, sI (x2), sR (some a3)] [sI (kA V 303 (a3) ((x2) - (4)).toNatClampNeg)] V bc bs) : cWP d Fg h0 56 Q 102 [v0, v1, sI (x2), sR (some a3)] [] V bc bs := by
  intro h R
  refine w_aload_n mb56 dX6_of_102 103 rfl rfl ?_
  refine y_geta mb56 dX6_of_103 106 rfl R 303 lf6_105 rfl rfl rfl (by decide) h1 ?_
  refine w_iload_n mb56 dX6_of_106 107 rfl rfl ?_
  refine w_iconst mb56 dX6_of_107 108 rfl (4) (by decide) ?_
  refine w_isub mb56 dX6_of_108 109 rfl ?_
  refine y_iald (f := 303) (a := a3) (c := 4) mb56 dX6_of_109 110 rfl R 6 rfl (by decide) rfl rfl h1 h2 (x := kA V 303 (a3) ((x2) - (4)).toNatClampNeg) rfl ?_
  refine w_goto mb56 dX6_of_110 114 (by decide) ?_
  exact K h R

theorem bX6_of_113 {d : Nat} {Fg : Nat → Prop} {h0 : hp} {Q : Option sV → kV → Prop} {V : kV} {bc bs : Nat} {v0 : sV} {v1 : sV} {v2 : sV} {v3 : sV} (K : cWP d Fg h0 56 Q 114 [v0, v1, v2, v3] [sI ((-1))] V bc bs) : cWP d Fg h0 56 Q 113 [v0, v1, v2, v3] [] V bc bs := by
  intro h R
  refine w_iconst mb56 dX6_of_113 114 rfl ((-1)) (by decide) ?_
  exact K h R

theorem bX6_of_114 {d : Nat} {Fg : Nat → Prop} {h0 : hp} {Q : Option sV → kV → Prop} {V : kV} {bc bs : Nat} {v0 : sV} {v1 : sV} {v2 : sV} {v3 : sV} {y0 : Int32} (K : Q (some (sI (y0))) V) : cWP d Fg h0 56 Q 114 [v0, v1, v2, v3] [sI (y0)] V bc bs := by
  intro h R
  refine w_iret mb56 dX6_of_114 rfl ?_
  exact ⟨_, R, K⟩

theorem bX6_trace_0 {d : Nat} {Fg : Nat → Prop} {h0 : hp} {Q : Option sV → kV → Prop} {V : kV} {bc bs : Nat} {a0 : Nat} {x1 : Int32} {v2 : sV} {v3 : sV} {v4 : sV} {v5 : sV} {b1 : Nat} (h1 : kR V 602 (a0) = some b1) (h2 : kC V (a0) = 7) (h3 : kC V (b1) = 5) {bc1 bs1 : Nat} {P : Option sV → kV → Prop} (C : cM d Fg h0 34 [sR (some b1), sI (x1)] V bc1 bs1 P) (hbc : bc1 ≤ bc) (hbs : bs1 ≤ bs) (K : ∀ r V1, P r V1 → cWP d Fg h0 57 Q 8 [sR (some a0), sI (x1), v2, v3, v4, v5] (r.toList ++ []) V1 (bc - bc1) (bs - bs1)) : cWP d Fg h0 57 Q 0 [sR (some a0), sI (x1), v2, v3, v4, v5] [] V bc bs := by
  intro h R
  refine w_aload_n mb57 dX6_trace_0 1 rfl rfl ?_
  refine y_getr mb57 dX6_trace_1 4 rfl R 602 lf6_27 rfl rfl rfl rfl h2 h1 ?_
  refine w_iload_n mb57 dX6_trace_4 5 rfl rfl ?_
  refine w_virtual (a := b1) (c := 4) (st := []) mb57 dX6_trace_5 8 rfl 34 1 [sI (x1)] _ rfl rfl rfl lc6_93 (R.k h3) (Nat.le_of_ble_eq_true rfl) (C h R) hbc hbs (fun r h1 hP => ?_)
  obtain ⟨V1, R1, hP⟩ := hP
  exact K r V1 hP h1 R1

theorem bX6_trace_8 {d : Nat} {Fg : Nat → Prop} {h0 : hp} {Q : Option sV → kV → Prop} {V : kV} {bc bs : Nat} {v0 : sV} {v1 : sV} {v2 : sV} {v3 : sV} {v4 : sV} {v5 : sV} {z0 : Option Nat} (K1 : ¬ (z0) = none → cWP d Fg h0 57 Q 19 [v0, v1, v2, v3, sR (z0), v5] [] V bc bs) (K2 : (z0) = none → cWP d Fg h0 57 Q 15 [v0, v1, v2, v3, sR (z0), v5] [] V bc bs) : cWP d Fg h0 57 Q 8 [v0, v1, v2, v3, v4, v5] [sR (z0)] V bc bs := by
  intro h R
  refine w_astore mb57 dX6_trace_8 10 rfl [v0, v1, v2, v3, sR (z0), v5] (Nat.le_of_ble_eq_true rfl) rfl ?_
  refine w_aload mb57 dX6_trace_10 12 rfl rfl ?_
  refine w_ifnonnull mb57 dX6_trace_12 19 15 (by decide) rfl (fun z => ?_) (fun z => ?_)
  · exact K1 z h R
  · exact K2 z h R

theorem bX6_trace_15 {d : Nat} {Fg : Nat → Prop} {h0 : hp} {Q : Option sV → kV → Prop} {V : kV} {bc bs : Nat} {v0 : sV} {v1 : sV} {v2 : sV} {v3 : sV} {v4 : sV} {v5 : sV} (K : cWP d Fg h0 57 Q 25 [v0, v1, v2, v3, v4, v5] [sR (none)] V bc bs) : cWP d Fg h0 57 Q 15 [v0, v1, v2, v3, v4, v5] [] V bc bs := by
  intro h R
  refine w_null mb57 dX6_trace_15 16 rfl ?_
  refine w_goto mb57 dX6_trace_16 25 (by decide) ?_
  exact K h R

theorem bX6_trace_19 {d : Nat} {Fg : Nat → Prop} {h0 : hp} {Q : Option sV → kV → Prop} {V : kV} {bc bs : Nat} {v0 : sV} {v1 : sV} {x2 : Int32} {v3 : sV} {a4 : Nat} {v5 : sV} (h1 : kC V (a4) = 4) {bc1 bs1 : Nat} {P : Option sV → kV → Prop} (C : cM d Fg h0 25 [sR (some a4), sI (x2)] V bc1 bs1 P) (hbc : bc1 ≤ bc) (hbs : bs1 ≤ bs) (K : ∀ r V1, P r V1 → cWP d Fg h0 57 Q 25 [v0, v1, sI (x2), v3, sR (some a4), v5] (r.toList ++ []) V1 (bc - bc1) (bs - bs1)) : cWP d Fg h0 57 Q 19 [v0, v1, sI (x2), v3, sR (some a4), v5] [] V bc bs := by
  intro h R
  refine w_aload mb57 dX6_trace_19 21 rfl rfl ?_
  refine w_iload_n mb57 dX6_trace_21 22 rfl rfl ?_
  refine w_virtual (a := a4) (c := 3) (st := []) mb57 dX6_trace_22 25 rfl 25 1 [sI (x2)] _ rfl rfl rfl lc6_124 (R.k h1) (Nat.le_of_ble_eq_true rfl) (C h R) hbc hbs (fun r h1 hP => ?_)
  obtain ⟨V1, R1, hP⟩ := hP
  exact K r V1 hP h1 R1

theorem bX6_trace_25 {d : Nat} {Fg : Nat → Prop} {h0 : hp} {Q : Option sV → kV → Prop} {V : kV} {bc bs : Nat} {v0 : sV} {v1 : sV} {v2 : sV} {v3 : sV} {v4 : sV} {v5 : sV} {z0 : Option Nat} (K1 : ¬ (z0) = none → cWP d Fg h0 57 Q 34 [v0, v1, v2, v3, v4, sR (z0)] [] V bc bs) (K2 : (z0) = none → cWP d Fg h0 57 Q 32 [v0, v1, v2, v3, v4, sR (z0)] [] V bc bs) : cWP d Fg h0 57 Q 25 [v0, v1, v2, v3, v4, v5] [sR (z0)] V bc bs := by
  intro h R
  refine w_astore mb57 dX6_trace_25 27 rfl [v0, v1, v2, v3, v4, sR (z0)] (Nat.le_of_ble_eq_true rfl) rfl ?_
  refine w_aload mb57 dX6_trace_27 29 rfl rfl ?_
  refine w_ifnonnull mb57 dX6_trace_29 34 32 (by decide) rfl (fun z => ?_) (fun z => ?_)
  · exact K1 z h R
  · exact K2 z h R

theorem bX6_trace_32 {d : Nat} {Fg : Nat → Prop} {h0 : hp} {Q : Option sV → kV → Prop} {V : kV} {bc bs : Nat} {v0 : sV} {v1 : sV} {v2 : sV} {v3 : sV} {v4 : sV} {v5 : sV} (K : Q (some (sI ((-1)))) V) : cWP d Fg h0 57 Q 32 [v0, v1, v2, v3, v4, v5] [] V bc bs := by
  intro h R
  refine w_iconst mb57 dX6_trace_32 33 rfl ((-1)) (by decide) ?_
  refine w_iret mb57 dX6_trace_33 rfl ?_
  exact ⟨_, R, K⟩

theorem bX6_trace_34 {d : Nat} {Fg : Nat → Prop} {h0 : hp} {Q : Option sV → kV → Prop} {V : kV} {bc bs : Nat} {v0 : sV} {v1 : sV} {v2 : sV} {x3 : Int32} {v4 : sV} {v5 : sV} (K1 : ¬ (x3) = ((-1)) → cWP d Fg h0 57 Q 47 [v0, v1, v2, sI (x3), v4, v5] [] V bc bs) (K2 : (x3) = ((-1)) → cWP d Fg h0 57 Q 39 [v0, v1, v2, sI (x3), v4, v5] [] V bc bs) : cWP d Fg h0 57 Q 34 [v0, v1, v2, sI (x3), v4, v5] [] V bc bs := by
  intro h R
  refine w_iload_n mb57 dX6_trace_34 35 rfl rfl ?_
  refine w_iconst mb57 dX6_trace_35 36 rfl ((-1)) (by decide) ?_
  refine w_icmp_ne mb57 dX6_trace_36 47 39 (by decide) rfl (fun z => ?_) (fun z => ?_)
  · exact K1 z h R
  · exact K2 z h R

theorem bX6_trace_39 {d : Nat} {Fg : Nat → Prop} {h0 : hp} {Q : Option sV → kV → Prop} {V : kV} {bc bs : Nat} {v0 : sV} {v1 : sV} {v2 : sV} {v3 : sV} {v4 : sV} {a5 : Nat} (h1 : kC V (a5) = 6) (K : cWP d Fg h0 57 Q 53 [v0, v1, v2, v3, v4, sR (some a5)] [sI (kI V 500 (a5))] V bc bs) : cWP d Fg h0 57 Q 39 [v0, v1, v2, v3, v4, sR (some a5)] [] V bc bs := by
  intro h R
  refine w_aload mb57 dX6_trace_39 41 rfl rfl ?_
  refine y_geti mb57 dX6_trace_41 44 rfl R 500 lf6_128 rfl rfl rfl h1 (x := kI V 500 (a5)) (by first | rfl | exact if_pos ⟨rfl, rfl⟩) ?_
  refine w_goto mb57 dX6_trace_44 53 (by decide) ?_
  exact K h R

theorem bX6_trace_47 {d : Nat} {Fg : Nat → Prop} {h0 : hp} {Q : Option sV → kV → Prop} {V : kV} {bc bs : Nat} {v0 : sV} {v1 : sV} {v2 : sV} {x3 : Int32} {v4 : sV} {a5 : Nat} (h1 : kC V (a5) = 6) {bc1 bs1 : Nat} {P : Option sV → kV → Prop} (C : cM d Fg h0 39 [sR (some a5), sI (x3)] V bc1 bs1 P) (hbc : bc1 ≤ bc) (hbs : bs1 ≤ bs) (K : ∀ r V1, P r V1 → cWP d Fg h0 57 Q 53 [v0, v1, v2, sI (x3), v4, sR (some a5)] (r.toList ++ []) V1 (bc - bc1) (bs - bs1)) : cWP d Fg h0 57 Q 47 [v0, v1, v2, sI (x3), v4, sR (some a5)] [] V bc bs := by
  intro h R
  refine w_aload mb57 dX6_trace_47 49 rfl rfl ?_
  refine w_iload_n mb57 dX6_trace_49 50 rfl rfl ?_
  refine w_virtual (a := a5) (c := 5) (st := []) mb57 dX6_trace_50 53 rfl 39 1 [sI (x3)] _ rfl rfl rfl lc6_133 (R.k h1) (Nat.le_of_ble_eq_true rfl) (C h R) hbc hbs (fun r h1 hP => ?_)
  obtain ⟨V1, R1, hP⟩ := hP
  exact K r V1 hP h1 R1

theorem bX6_trace_53 {d : Nat} {Fg : Nat → Prop} {h0 : hp} {Q : Option sV → kV → Prop} {V : kV} {bc bs : Nat} {v0 : sV} {v1 : sV} {v2 : sV} {v3 : sV} {v4 : sV} {v5 : sV} {y0 : Int32} (K : Q (some (sI (y0))) V) : cWP d Fg h0 57 Q 53 [v0, v1, v2, v3, v4, v5] [sI (y0)] V bc bs := by
  intro h R
  refine w_iret mb57 dX6_trace_53 rfl ?_
  exact ⟨_, R, K⟩

theorem bX6_make_0 {d : Nat} {Fg : Nat → Prop} {h0 : hp} {Q : Option sV → kV → Prop} {V : kV} {bc bs : Nat} {a0 : Nat} {x1 : Int32} {v2 : sV} {b1 : Nat} (h1 : kR V 602 (a0) = some b1) (h2 : kC V (a0) = 7) (h3 : kC V (b1) = 5) {bc1 bs1 : Nat} {P : Option sV → kV → Prop} (C : cM d Fg h0 34 [sR (some b1), sI (x1)] V bc1 bs1 P) (hbc : bc1 ≤ bc) (hbs : bs1 ≤ bs) (K : ∀ r V1, P r V1 → cWP d Fg h0 58 Q 8 [sR (some a0), sI (x1), v2] (r.toList ++ []) V1 (bc - bc1) (bs - bs1)) : cWP d Fg h0 58 Q 0 [sR (some a0), sI (x1), v2] [] V bc bs := by
  intro h R
  refine w_aload_n mb58 dX6_make_0 1 rfl rfl ?_
  refine y_getr mb58 dX6_make_1 4 rfl R 602 lf6_27 rfl rfl rfl rfl h2 h1 ?_
  refine w_iload_n mb58 dX6_make_4 5 rfl rfl ?_
  refine w_virtual (a := b1) (c := 4) (st := []) mb58 dX6_make_5 8 rfl 34 1 [sI (x1)] _ rfl rfl rfl lc6_93 (R.k h3) (Nat.le_of_ble_eq_true rfl) (C h R) hbc hbs (fun r h1 hP => ?_)
  obtain ⟨V1, R1, hP⟩ := hP
  exact K r V1 hP h1 R1

theorem bX6_make_8 {d : Nat} {Fg : Nat → Prop} {h0 : hp} {Q : Option sV → kV → Prop} {V : kV} {bc bs : Nat} {v0 : sV} {v1 : sV} {v2 : sV} {z0 : Option Nat} (K1 : ¬ (z0) = none → cWP d Fg h0 58 Q 17 [v0, v1, sR (z0)] [] V bc bs) (K2 : (z0) = none → cWP d Fg h0 58 Q 13 [v0, v1, sR (z0)] [] V bc bs) : cWP d Fg h0 58 Q 8 [v0, v1, v2] [sR (z0)] V bc bs := by
  intro h R
  refine w_astore_n mb58 dX6_make_8 9 rfl [v0, v1, sR (z0)] (Nat.le_of_ble_eq_true rfl) rfl ?_
  refine w_aload_n mb58 dX6_make_9 10 rfl rfl ?_
  refine w_ifnonnull mb58 dX6_make_10 17 13 (by decide) rfl (fun z => ?_) (fun z => ?_)
  · exact K1 z h R
  · exact K2 z h R

theorem bX6_make_13 {d : Nat} {Fg : Nat → Prop} {h0 : hp} {Q : Option sV → kV → Prop} {V : kV} {bc bs : Nat} {v0 : sV} {v1 : sV} {v2 : sV} (K : cWP d Fg h0 58 Q 26 [v0, v1, v2] [sI ((-1))] V bc bs) : cWP d Fg h0 58 Q 13 [v0, v1, v2] [] V bc bs := by
  intro h R
  refine w_iconst mb58 dX6_make_13 14 rfl ((-1)) (by decide) ?_
  refine w_goto mb58 dX6_make_14 26 (by decide) ?_
  exact K h R

theorem bX6_make_17 {d : Nat} {Fg : Nat → Prop} {h0 : hp} {Q : Option sV → kV → Prop} {V : kV} {bc bs : Nat} {a0 : Nat} {v1 : sV} {r2 : Option Nat} {b18 : Nat} (h1 : kR V 601 (a0) = some b18) (h2 : kC V (a0) = 7) (h3 : kC V (b18) = 3) {bc1 bs1 : Nat} {P : Option sV → kV → Prop} (C : cM d Fg h0 9 [sR (some b18), sR (r2), sI (0)] V bc1 bs1 P) (hbc : bc1 ≤ bc) (hbs : bs1 ≤ bs) (K : ∀ r V1, P r V1 → cWP d Fg h0 58 Q 26 [sR (some a0), v1, sR (r2)] (r.toList ++ []) V1 (bc - bc1) (bs - bs1)) : cWP d Fg h0 58 Q 17 [sR (some a0), v1, sR (r2)] [] V bc bs := by
  intro h R
  refine w_aload_n mb58 dX6_make_17 18 rfl rfl ?_
  refine y_getr mb58 dX6_make_18 21 rfl R 601 lf6_19 rfl rfl rfl rfl h2 h1 ?_
  refine w_aload_n mb58 dX6_make_21 22 rfl rfl ?_
  refine w_iconst mb58 dX6_make_22 23 rfl (0) (by decide) ?_
  refine w_virtual (a := b18) (c := 2) (st := []) mb58 dX6_make_23 26 rfl 9 2 [sR (r2), sI (0)] _ rfl rfl rfl lc6_136 (R.k h3) (Nat.le_of_ble_eq_true rfl) (C h R) hbc hbs (fun r h1 hP => ?_)
  obtain ⟨V1, R1, hP⟩ := hP
  exact K r V1 hP h1 R1

theorem bX6_make_26 {d : Nat} {Fg : Nat → Prop} {h0 : hp} {Q : Option sV → kV → Prop} {V : kV} {bc bs : Nat} {v0 : sV} {v1 : sV} {v2 : sV} {y0 : Int32} (K : Q (some (sI (y0))) V) : cWP d Fg h0 58 Q 26 [v0, v1, v2] [sI (y0)] V bc bs := by
  intro h R
  refine w_iret mb58 dX6_make_26 rfl ?_
  exact ⟨_, R, K⟩

theorem bX6_anew_0 {d : Nat} {Fg : Nat → Prop} {h0 : hp} {Q : Option sV → kV → Prop} {V : kV} {bc bs : Nat} {a0 : Nat} {x1 : Int32} {v2 : sV} {b1 : Nat} (h1 : kR V 602 (a0) = some b1) (h2 : kC V (a0) = 7) (h3 : kC V (b1) = 5) {bc1 bs1 : Nat} {P : Option sV → kV → Prop} (C : cM d Fg h0 34 [sR (some b1), sI (x1)] V bc1 bs1 P) (hbc : bc1 ≤ bc) (hbs : bs1 ≤ bs) (K : ∀ r V1, P r V1 → cWP d Fg h0 59 Q 8 [sR (some a0), sI (x1), v2] (r.toList ++ []) V1 (bc - bc1) (bs - bs1)) : cWP d Fg h0 59 Q 0 [sR (some a0), sI (x1), v2] [] V bc bs := by
  intro h R
  refine w_aload_n mb59 dX6_anew_0 1 rfl rfl ?_
  refine y_getr mb59 dX6_anew_1 4 rfl R 602 lf6_27 rfl rfl rfl rfl h2 h1 ?_
  refine w_iload_n mb59 dX6_anew_4 5 rfl rfl ?_
  refine w_virtual (a := b1) (c := 4) (st := []) mb59 dX6_anew_5 8 rfl 34 1 [sI (x1)] _ rfl rfl rfl lc6_93 (R.k h3) (Nat.le_of_ble_eq_true rfl) (C h R) hbc hbs (fun r h1 hP => ?_)
  obtain ⟨V1, R1, hP⟩ := hP
  exact K r V1 hP h1 R1

theorem bX6_anew_8 {d : Nat} {Fg : Nat → Prop} {h0 : hp} {Q : Option sV → kV → Prop} {V : kV} {bc bs : Nat} {v0 : sV} {v1 : sV} {v2 : sV} {z0 : Option Nat} (K1 : ¬ (z0) = none → cWP d Fg h0 59 Q 17 [v0, v1, sR (z0)] [] V bc bs) (K2 : (z0) = none → cWP d Fg h0 59 Q 13 [v0, v1, sR (z0)] [] V bc bs) : cWP d Fg h0 59 Q 8 [v0, v1, v2] [sR (z0)] V bc bs := by
  intro h R
  refine w_astore_n mb59 dX6_anew_8 9 rfl [v0, v1, sR (z0)] (Nat.le_of_ble_eq_true rfl) rfl ?_
  refine w_aload_n mb59 dX6_anew_9 10 rfl rfl ?_
  refine w_ifnonnull mb59 dX6_anew_10 17 13 (by decide) rfl (fun z => ?_) (fun z => ?_)
  · exact K1 z h R
  · exact K2 z h R

theorem bX6_anew_13 {d : Nat} {Fg : Nat → Prop} {h0 : hp} {Q : Option sV → kV → Prop} {V : kV} {bc bs : Nat} {v0 : sV} {v1 : sV} {v2 : sV} (K : cWP d Fg h0 59 Q 26 [v0, v1, v2] [sI ((-1))] V bc bs) : cWP d Fg h0 59 Q 13 [v0, v1, v2] [] V bc bs := by
  intro h R
  refine w_iconst mb59 dX6_anew_13 14 rfl ((-1)) (by decide) ?_
  refine w_goto mb59 dX6_anew_14 26 (by decide) ?_
  exact K h R

theorem bX6_anew_17 {d : Nat} {Fg : Nat → Prop} {h0 : hp} {Q : Option sV → kV → Prop} {V : kV} {bc bs : Nat} {a0 : Nat} {v1 : sV} {r2 : Option Nat} {b18 : Nat} (h1 : kR V 601 (a0) = some b18) (h2 : kC V (a0) = 7) (h3 : kC V (b18) = 3) {bc1 bs1 : Nat} {P : Option sV → kV → Prop} (C : cM d Fg h0 9 [sR (some b18), sR (r2), sI (1)] V bc1 bs1 P) (hbc : bc1 ≤ bc) (hbs : bs1 ≤ bs) (K : ∀ r V1, P r V1 → cWP d Fg h0 59 Q 26 [sR (some a0), v1, sR (r2)] (r.toList ++ []) V1 (bc - bc1) (bs - bs1)) : cWP d Fg h0 59 Q 17 [sR (some a0), v1, sR (r2)] [] V bc bs := by
  intro h R
  refine w_aload_n mb59 dX6_anew_17 18 rfl rfl ?_
  refine y_getr mb59 dX6_anew_18 21 rfl R 601 lf6_19 rfl rfl rfl rfl h2 h1 ?_
  refine w_aload_n mb59 dX6_anew_21 22 rfl rfl ?_
  refine w_iconst mb59 dX6_anew_22 23 rfl (1) (by decide) ?_
  refine w_virtual (a := b18) (c := 2) (st := []) mb59 dX6_anew_23 26 rfl 9 2 [sR (r2), sI (1)] _ rfl rfl rfl lc6_136 (R.k h3) (Nat.le_of_ble_eq_true rfl) (C h R) hbc hbs (fun r h1 hP => ?_)
  obtain ⟨V1, R1, hP⟩ := hP
  exact K r V1 hP h1 R1

theorem bX6_anew_26 {d : Nat} {Fg : Nat → Prop} {h0 : hp} {Q : Option sV → kV → Prop} {V : kV} {bc bs : Nat} {v0 : sV} {v1 : sV} {v2 : sV} {y0 : Int32} (K : Q (some (sI (y0))) V) : cWP d Fg h0 59 Q 26 [v0, v1, v2] [sI (y0)] V bc bs := by
  intro h R
  refine w_iret mb59 dX6_anew_26 rfl ?_
  exact ⟨_, R, K⟩

theorem bX6_outcome_0 {d : Nat} {Fg : Nat → Prop} {h0 : hp} {Q : Option sV → kV → Prop} {V : kV} {bc bs : Nat} {a0 : Nat} {v1 : sV} {v2 : sV} {b1 : Nat} (h1 : kR V 601 (a0) = some b1) (h2 : kC V (a0) = 7) (h3 : kC V (b1) = 3) (K1 : ¬ (kR V 201 (b1)) = none → cWP d Fg h0 60 Q 14 [sR (some a0), v1, sR (kR V 201 (b1))] [] V bc bs) (K2 : (kR V 201 (b1)) = none → cWP d Fg h0 60 Q 12 [sR (some a0), v1, sR (kR V 201 (b1))] [] V bc bs) : cWP d Fg h0 60 Q 0 [sR (some a0), v1, v2] [] V bc bs := by
  intro h R
  refine w_aload_n mb60 dX6_outcome_0 1 rfl rfl ?_
  refine y_getr mb60 dX6_outcome_1 4 rfl R 601 lf6_19 rfl rfl rfl rfl h2 h1 ?_
  refine y_getr mb60 dX6_outcome_4 7 rfl R 201 lf6_140 rfl rfl rfl rfl h3 rfl ?_
  refine w_astore_n mb60 dX6_outcome_7 8 rfl [sR (some a0), v1, sR (kR V 201 (b1))] (Nat.le_of_ble_eq_true rfl) rfl ?_
  refine w_aload_n mb60 dX6_outcome_8 9 rfl rfl ?_
  refine w_ifnonnull mb60 dX6_outcome_9 14 12 (by decide) rfl (fun z => ?_) (fun z => ?_)
  · exact K1 z h R
  · exact K2 z h R

theorem bX6_outcome_12 {d : Nat} {Fg : Nat → Prop} {h0 : hp} {Q : Option sV → kV → Prop} {V : kV} {bc bs : Nat} {v0 : sV} {v1 : sV} {v2 : sV} (K : Q (some (sI ((-1)))) V) : cWP d Fg h0 60 Q 12 [v0, v1, v2] [] V bc bs := by
  intro h R
  refine w_iconst mb60 dX6_outcome_12 13 rfl ((-1)) (by decide) ?_
  refine w_iret mb60 dX6_outcome_13 rfl ?_
  exact ⟨_, R, K⟩

theorem bX6_outcome_14 {d : Nat} {Fg : Nat → Prop} {h0 : hp} {Q : Option sV → kV → Prop} {V : kV} {bc bs : Nat} {v0 : sV} {x1 : Int32} {v2 : sV} (K0 : (x1).toInt = 0 → cWP d Fg h0 60 Q 40 [v0, sI (x1), v2] [] V bc bs) (K1 : (x1).toInt = 1 → cWP d Fg h0 60 Q 46 [v0, sI (x1), v2] [] V bc bs) (K2 : (x1).toInt = 2 → cWP d Fg h0 60 Q 51 [v0, sI (x1), v2] [] V bc bs) (Kd : (x1).toInt < 0 ∨ 2 < (x1).toInt → cWP d Fg h0 60 Q 56 [v0, sI (x1), v2] [] V bc bs) : cWP d Fg h0 60 Q 14 [v0, sI (x1), v2] [] V bc bs := by
  intro h R
  refine w_iload_n mb60 dX6_outcome_14 15 rfl rfl ?_
  refine w_table mb60 dX6_outcome_15 (fun z => ⟨56, by decide, Kd z h R⟩) (fun z => ?_)
  have zz : (x1).toInt = 0 ∨ (x1).toInt = 1 ∨ (x1).toInt = 2 := by omega
  rcases zz with zz | zz | zz
  · exact ⟨_, 40, by rw [zz]; rfl, by decide, K0 zz h R⟩
  · exact ⟨_, 46, by rw [zz]; rfl, by decide, K1 zz h R⟩
  · exact ⟨_, 51, by rw [zz]; rfl, by decide, K2 zz h R⟩
