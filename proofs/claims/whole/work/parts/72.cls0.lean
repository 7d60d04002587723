theorem bX0_add_0 {d : Nat} {Fg : Nat → Prop} {h0 : hp} {Q : Option sV → kV → Prop} {V : kV} {bc bs : Nat} {a0 : Nat} {x1 : Int32} (h1 : kC V (a0) = 1) (h2 : vp_in (x1) 5) (K : Q (some (sI ((-3)))) (uA (uI V (0) (a0) (x1)) (1) (a0) ((x1).toNatClampNeg) ((kA V 1 (a0) (x1).toNatClampNeg) + (1)))) : cWP d Fg h0 1 Q 0 [sR (some a0), sI (x1)] [] V bc bs := by
  intro h R
  refine w_aload_n mb1 dX0_add_0 1 rfl rfl ?_
  refine w_iload_n mb1 dX0_add_1 2 rfl rfl ?_
  refine y_puti mb1 dX0_add_2 5 rfl R 0 (lp0_15 _) rfl rfl rfl h1 (fun h R => ?_)
  refine w_aload_n mb1 dX0_add_5 6 rfl rfl ?_
  refine y_geta mb1 dX0_add_6 9 rfl R 1 lf0_9 rfl rfl rfl (by decide) h1 ?_
  refine w_iload_n mb1 dX0_add_9 10 rfl rfl ?_
  refine w_dup2 mb1 dX0_add_10 11 rfl rfl rfl ?_
  refine y_iald (f := 1) (a := a0) (c := 1) mb1 dX0_add_11 12 rfl R 5 rfl (by decide) rfl rfl h1 h2 (x := kA V 1 (a0) (x1).toNatClampNeg) rfl ?_
  refine w_iconst mb1 dX0_add_12 13 rfl (1) (by decide) ?_
  refine w_iadd mb1 dX0_add_13 14 rfl ?_
  refine y_iast (f := 1) (a := a0) (c := 1) mb1 dX0_add_14 15 rfl R 5 rfl (by decide) rfl rfl h1 h2 (fun h R => ?_)
  refine w_bipush mb1 dX0_add_15 17 rfl ((-3)) (by decide) ?_
  refine w_iret mb1 dX0_add_17 rfl ?_
  exact ⟨_, R, K⟩

theorem bX1_init_0 {d : Nat} {Fg : Nat → Prop} {h0 : hp} {Q : Option sV → kV → Prop} {V : kV} {bc bs : Nat} {a0 : Nat} {v1 : sV} {v2 : sV} {v3 : sV} (K : cWP d Fg h0 2 Q 4 [sR (some a0), v1, v2, v3] [] V bc bs) : cWP d Fg h0 2 Q 0 [sR (some a0), v1, v2, v3] [] V bc bs := by
  intro h R
  refine w_aload_n mb2 dX1_init_0 1 rfl rfl ?_
  refine w_object (st := []) mb2 dX1_init_1 4 rfl lo1_3 (Nat.le_of_ble_eq_true rfl) ?_
  exact K h R

theorem bX1_init_4 {d : Nat} {Fg : Nat → Prop} {h0 : hp} {Q : Option sV → kV → Prop} {V : kV} {bc bs : Nat} {a0 : Nat} {x1 : Int32} {x2 : Int32} {r3 : Option Nat} (h1 : kC V (a0) = 2) (K : Q (none) (uR (uI (uI V (100) (a0) (x1)) (101) (a0) (x2)) (102) (a0) (r3))) : cWP d Fg h0 2 Q 4 [sR (some a0), sI (x1), sI (x2), sR (r3)] [] V bc bs := by
  intro h R
  refine w_aload_n mb2 dX1_init_4 5 rfl rfl ?_
  refine w_iload_n mb2 dX1_init_5 6 rfl rfl ?_
  refine y_puti mb2 dX1_init_6 9 rfl R 100 (lp1_9) rfl rfl rfl h1 (fun h R => ?_)
  refine w_aload_n mb2 dX1_init_9 10 rfl rfl ?_
  refine w_iload_n mb2 dX1_init_10 11 rfl rfl ?_
  refine y_puti mb2 dX1_init_11 14 rfl R 101 (lp1_15) rfl rfl rfl h1 (fun h R => ?_)
  refine w_aload_n mb2 dX1_init_14 15 rfl rfl ?_
  refine w_aload_n mb2 dX1_init_15 16 rfl rfl ?_
  refine y_putr mb2 dX1_init_16 19 rfl R 102 (lp1_18) (by first | exact Or.inl ⟨_, rfl⟩ | exact Or.inr ⟨_, rfl⟩) rfl rfl rfl h1 (fun h R => ?_)
  refine w_vret mb2 dX1_init_19 rfl ?_
  exact ⟨_, R, K⟩

theorem bX1_isFailure_0 {d : Nat} {Fg : Nat → Prop} {h0 : hp} {Q : Option sV → kV → Prop} {V : kV} {bc bs : Nat} {a0 : Nat} {o_a0 : zO} (h1 : kO V (a0) = some o_a0) (K1 : (o_a0.1) = 0 → cWP d Fg h0 3 Q 11 [sR (some a0)] [] V bc bs) (K2 : ¬ (o_a0.1) = 0 → cWP d Fg h0 3 Q 7 [sR (some a0)] [] V bc bs) : cWP d Fg h0 3 Q 0 [sR (some a0)] [] V bc bs := by
  intro h R
  refine w_aload_n mb3 dX1_isFailure_0 1 rfl rfl ?_
  refine y_o0 mb3 dX1_isFailure_1 4 rfl R lf1_9 h1 ?_
  refine w_if_eq mb3 dX1_isFailure_4 11 7 (by decide) rfl (fun z => ?_) (fun z => ?_)
  · exact K1 z h R
  · exact K2 z h R

theorem bX1_isFailure_7 {d : Nat} {Fg : Nat → Prop} {h0 : hp} {Q : Option sV → kV → Prop} {V : kV} {bc bs : Nat} {v0 : sV} (K : cWP d Fg h0 3 Q 12 [v0] [sI (1)] V bc bs) : cWP d Fg h0 3 Q 7 [v0] [] V bc bs := by
  intro h R
  refine w_iconst mb3 dX1_isFailure_7 8 rfl (1) (by decide) ?_
  refine w_goto mb3 dX1_isFailure_8 12 (by decide) ?_
  exact K h R

theorem bX1_isFailure_11 {d : Nat} {Fg : Nat → Prop} {h0 : hp} {Q : Option sV → kV → Prop} {V : kV} {bc bs : Nat} {v0 : sV} (K : cWP d Fg h0 3 Q 12 [v0] [sI (0)] V bc bs) : cWP d Fg h0 3 Q 11 [v0] [] V bc bs := by
  intro h R
  refine w_iconst mb3 dX1_isFailure_11 12 rfl (0) (by decide) ?_
  exact K h R

theorem bX1_isFailure_12 {d : Nat} {Fg : Nat → Prop} {h0 : hp} {Q : Option sV → kV → Prop} {V : kV} {bc bs : Nat} {v0 : sV} {y0 : Int32} (h1 : (y0) = 0 ∨ (y0) = 1) (K : Q (some (sI (y0))) V) : cWP d Fg h0 3 Q 12 [v0] [sI (y0)] V bc bs := by
  intro h R
  refine w_zret mb3 dX1_isFailure_12 rfl h1 ?_
  exact ⟨_, R, K⟩

theorem bX1_hasInt_0 {d : Nat} {Fg : Nat → Prop} {h0 : hp} {Q : Option sV → kV → Prop} {V : kV} {bc bs : Nat} {v0 : sV} {x1 : Int32} (K1 : (x1) < 0 → cWP d Fg h0 4 Q 17 [v0, sI (x1)] [] V bc bs) (K2 : ¬ (x1) < 0 → cWP d Fg h0 4 Q 4 [v0, sI (x1)] [] V bc bs) : cWP d Fg h0 4 Q 0 [v0, sI (x1)] [] V bc bs := by
  intro h R
  refine w_iload_n mb4 dX1_hasInt_0 1 rfl rfl ?_
  refine w_if_lt mb4 dX1_hasInt_1 17 4 (by decide) rfl (fun z => ?_) (fun z => ?_)
  · exact K1 z h R
  · exact K2 z h R

theorem bX1_hasInt_4 {d : Nat} {Fg : Nat → Prop} {h0 : hp} {Q : Option sV → kV → Prop} {V : kV} {bc bs : Nat} {a0 : Nat} {x1 : Int32} {o_a0 : zO} (h1 : kO V (a0) = some o_a0) (K1 : (nI o_a0.2.2.length) ≤ (x1) → cWP d Fg h0 4 Q 17 [sR (some a0), sI (x1)] [] V bc bs) (K2 : ¬ (nI o_a0.2.2.length) ≤ (x1) → cWP d Fg h0 4 Q 13 [sR (some a0), sI (x1)] [] V bc bs) : cWP d Fg h0 4 Q 4 [sR (some a0), sI (x1)] [] V bc bs := by
  intro h R
  refine w_iload_n mb4 dX1_hasInt_4 5 rfl rfl ?_
  refine w_aload_n mb4 dX1_hasInt_5 6 rfl rfl ?_
  refine y_o2 mb4 dX1_hasInt_6 9 rfl R lf1_18 h1 ?_
  refine y_rlen mb4 dX1_hasInt_9 10 rfl R h1 ?_
  refine w_icmp_ge mb4 dX1_hasInt_10 17 13 (by decide) rfl (fun z => ?_) (fun z => ?_)
  · exact K1 z h R
  · exact K2 z h R

theorem bX1_hasInt_13 {d : Nat} {Fg : Nat → Prop} {h0 : hp} {Q : Option sV → kV → Prop} {V : kV} {bc bs : Nat} {v0 : sV} {v1 : sV} (K : cWP d Fg h0 4 Q 18 [v0, v1] [sI (1)] V bc bs) : cWP d Fg h0 4 Q 13 [v0, v1] [] V bc bs := by
  intro h R
  refine w_iconst mb4 dX1_hasInt_13 14 rfl (1) (by decide) ?_
  refine w_goto mb4 dX1_hasInt_14 18 (by decide) ?_
  exact K h R

theorem bX1_hasInt_17 {d : Nat} {Fg : Nat → Prop} {h0 : hp} {Q : Option sV → kV → Prop} {V : kV} {bc bs : Nat} {v0 : sV} {v1 : sV} (K : cWP d Fg h0 4 Q 18 [v0, v1] [sI (0)] V bc bs) : cWP d Fg h0 4 Q 17 [v0, v1] [] V bc bs := by
  intro h R
  refine w_iconst mb4 dX1_hasInt_17 18 rfl (0) (by decide) ?_
  exact K h R

theorem bX1_hasInt_18 {d : Nat} {Fg : Nat → Prop} {h0 : hp} {Q : Option sV → kV → Prop} {V : kV} {bc bs : Nat} {v0 : sV} {v1 : sV} {y0 : Int32} (h1 : (y0) = 0 ∨ (y0) = 1) (K : Q (some (sI (y0))) V) : cWP d Fg h0 4 Q 18 [v0, v1] [sI (y0)] V bc bs := by
  intro h R
  refine w_zret mb4 dX1_hasInt_18 rfl h1 ?_
  exact ⟨_, R, K⟩

theorem bX1_intAt_0 {d : Nat} {Fg : Nat → Prop} {h0 : hp} {Q : Option sV → kV → Prop} {V : kV} {bc bs : Nat} {a0 : Nat} {x1 : Int32} {o_a0 : zO} (h1 : kO V (a0) = some o_a0) {bc1 bs1 : Nat} {P : Option sV → kV → Prop} (C : cM d Fg h0 4 [sR (some a0), sI (x1)] V bc1 bs1 P) (hbc : bc1 ≤ bc) (hbs : bs1 ≤ bs) (K : ∀ r V1, P r V1 → cWP d Fg h0 5 Q 5 [sR (some a0), sI (x1)] (r.toList ++ []) V1 (bc - bc1) (bs - bs1)) : cWP d Fg h0 5 Q 0 [sR (some a0), sI (x1)] [] V bc bs := by
  intro h R
  refine w_aload_n mb5 dX1_intAt_0 1 rfl rfl ?_
  refine w_iload_n mb5 dX1_intAt_1 2 rfl rfl ?_
  refine w_virtual (a := a0) (c := 1) (st := []) mb5 dX1_intAt_2 5 rfl 4 1 [sI (x1)] _ rfl rfl rfl lc1_22 (R.ko h1) (Nat.le_of_ble_eq_true rfl) (C h R) hbc hbs (fun r h1 hP => ?_)
  obtain ⟨V1, R1, hP⟩ := hP
  exact K r V1 hP h1 R1

theorem bX1_intAt_5 {d : Nat} {Fg : Nat → Prop} {h0 : hp} {Q : Option sV → kV → Prop} {V : kV} {bc bs : Nat} {v0 : sV} {v1 : sV} {y0 : Int32} (K1 : (y0) = 0 → cWP d Fg h0 5 Q 17 [v0, v1] [] V bc bs) (K2 : ¬ (y0) = 0 → cWP d Fg h0 5 Q 8 [v0, v1] [] V bc bs) : cWP d Fg h0 5 Q 5 [v0, v1] [sI (y0)] V bc bs := by
  intro h R
  refine w_if_eq mb5 dX1_intAt_5 17 8 (by decide) rfl (fun z => ?_) (fun z => ?_)
  · exact K1 z h R
  · exact K2 z h R

theorem bX1_intAt_8 {d : Nat} {Fg : Nat → Prop} {h0 : hp} {Q : Option sV → kV → Prop} {V : kV} {bc bs : Nat} {a0 : Nat} {x1 : Int32} {o_a0 : zO} (h1 : kO V (a0) = some o_a0) (h2 : vp_in (x1) o_a0.2.2.length) (K : cWP d Fg h0 5 Q 18 [sR (some a0), sI (x1)] [sI (o_a0.2.2.getD (x1).toNatClampNeg 0)] V bc bs) : cWP d Fg h0 5 Q 8 [sR (some a0), sI (x1)] [] V bc bs := by
  intro h R
  refine w_aload_n mb5 dX1_intAt_8 9 rfl rfl ?_
  refine y_o2 mb5 dX1_intAt_9 12 rfl R lf1_18 h1 ?_
  refine w_iload_n mb5 dX1_intAt_12 13 rfl rfl ?_
  refine y_rald mb5 dX1_intAt_13 14 rfl R h1 h2 ?_
  refine w_goto mb5 dX1_intAt_14 18 (by decide) ?_
  exact K h R

theorem bX1_intAt_17 {d : Nat} {Fg : Nat → Prop} {h0 : hp} {Q : Option sV → kV → Prop} {V : kV} {bc bs : Nat} {v0 : sV} {v1 : sV} (K : cWP d Fg h0 5 Q 18 [v0, v1] [sI (0)] V bc bs) : cWP d Fg h0 5 Q 17 [v0, v1] [] V bc bs := by
  intro h R
  refine w_iconst mb5 dX1_intAt_17 18 rfl (0) (by decide) ?_
  exact K h R

theorem bX1_intAt_18 {d : Nat} {Fg : Nat → Prop} {h0 : hp} {Q : Option sV → kV → Prop} {V : kV} {bc bs : Nat} {v0 : sV} {v1 : sV} {y0 : Int32} (K : Q (some (sI (y0))) V) : cWP d Fg h0 5 Q 18 [v0, v1] [sI (y0)] V bc bs := by
  intro h R
  refine w_iret mb5 dX1_intAt_18 rfl ?_
  exact ⟨_, R, K⟩

theorem bX1_hasStretch_0 {d : Nat} {Fg : Nat → Prop} {h0 : hp} {Q : Option sV → kV → Prop} {V : kV} {bc bs : Nat} {v0 : sV} {x1 : Int32} {v2 : sV} (K1 : (x1) < 0 → cWP d Fg h0 6 Q 32 [v0, sI (x1), v2] [] V bc bs) (K2 : ¬ (x1) < 0 → cWP d Fg h0 6 Q 4 [v0, sI (x1), v2] [] V bc bs) : cWP d Fg h0 6 Q 0 [v0, sI (x1), v2] [] V bc bs := by
  intro h R
  refine w_iload_n mb6 dX1_hasStretch_0 1 rfl rfl ?_
  refine w_if_lt mb6 dX1_hasStretch_1 32 4 (by decide) rfl (fun z => ?_) (fun z => ?_)
  · exact K1 z h R
  · exact K2 z h R

theorem bX1_hasStretch_4 {d : Nat} {Fg : Nat → Prop} {h0 : hp} {Q : Option sV → kV → Prop} {V : kV} {bc bs : Nat} {v0 : sV} {v1 : sV} {x2 : Int32} (K1 : (x2) < 0 → cWP d Fg h0 6 Q 32 [v0, v1, sI (x2)] [] V bc bs) (K2 : ¬ (x2) < 0 → cWP d Fg h0 6 Q 8 [v0, v1, sI (x2)] [] V bc bs) : cWP d Fg h0 6 Q 4 [v0, v1, sI (x2)] [] V bc bs := by
  intro h R
  refine w_iload_n mb6 dX1_hasStretch_4 5 rfl rfl ?_
  refine w_if_lt mb6 dX1_hasStretch_5 32 8 (by decide) rfl (fun z => ?_) (fun z => ?_)
  · exact K1 z h R
  · exact K2 z h R

theorem bX1_hasStretch_8 {d : Nat} {Fg : Nat → Prop} {h0 : hp} {Q : Option sV → kV → Prop} {V : kV} {bc bs : Nat} {a0 : Nat} {x1 : Int32} {v2 : sV} {o_a0 : zO} (h1 : kO V (a0) = some o_a0) (K1 : (nI o_a0.2.2.length) < (x1) → cWP d Fg h0 6 Q 32 [sR (some a0), sI (x1), v2] [] V bc bs) (K2 : ¬ (nI o_a0.2.2.length) < (x1) → cWP d Fg h0 6 Q 17 [sR (some a0), sI (x1), v2] [] V bc bs) : cWP d Fg h0 6 Q 8 [sR (some a0), sI (x1), v2] [] V bc bs := by
  intro h R
  refine w_iload_n mb6 dX1_hasStretch_8 9 rfl rfl ?_
  refine w_aload_n mb6 dX1_hasStretch_9 10 rfl rfl ?_
  refine y_o2 mb6 dX1_hasStretch_10 13 rfl R lf1_18 h1 ?_
  refine y_rlen mb6 dX1_hasStretch_13 14 rfl R h1 ?_
  refine w_icmp_gt mb6 dX1_hasStretch_14 32 17 (by decide) rfl (fun z => ?_) (fun z => ?_)
  · exact K1 z h R
  · exact K2 z h R

theorem bX1_hasStretch_17 {d : Nat} {Fg : Nat → Prop} {h0 : hp} {Q : Option sV → kV → Prop} {V : kV} {bc bs : Nat} {a0 : Nat} {x1 : Int32} {x2 : Int32} {o_a0 : zO} (h1 : kO V (a0) = some o_a0) (K1 : ((nI o_a0.2.2.length) - (x1)) < (x2) → cWP d Fg h0 6 Q 32 [sR (some a0), sI (x1), sI (x2)] [] V bc bs) (K2 : ¬ ((nI o_a0.2.2.length) - (x1)) < (x2) → cWP d Fg h0 6 Q 28 [sR (some a0), sI (x1), sI (x2)] [] V bc bs) : cWP d Fg h0 6 Q 17 [sR (some a0), sI (x1), sI (x2)] [] V bc bs := by
  intro h R
  refine w_iload_n mb6 dX1_hasStretch_17 18 rfl rfl ?_
  refine w_aload_n mb6 dX1_hasStretch_18 19 rfl rfl ?_
  refine y_o2 mb6 dX1_hasStretch_19 22 rfl R lf1_18 h1 ?_
  refine y_rlen mb6 dX1_hasStretch_22 23 rfl R h1 ?_
  refine w_iload_n mb6 dX1_hasStretch_23 24 rfl rfl ?_
  refine w_isub mb6 dX1_hasStretch_24 25 rfl ?_
  refine w_icmp_gt mb6 dX1_hasStretch_25 32 28 (by decide) rfl (fun z => ?_) (fun z => ?_)
  · exact K1 z h R
  · exact K2 z h R

theorem bX1_hasStretch_28 {d : Nat} {Fg : Nat → Prop} {h0 : hp} {Q : Option sV → kV → Prop} {V : kV} {bc bs : Nat} {v0 : sV} {v1 : sV} {v2 : sV} (K : cWP d Fg h0 6 Q 33 [v0, v1, v2] [sI (1)] V bc bs) : cWP d Fg h0 6 Q 28 [v0, v1, v2] [] V bc bs := by
  intro h R
  refine w_iconst mb6 dX1_hasStretch_28 29 rfl (1) (by decide) ?_
  refine w_goto mb6 dX1_hasStretch_29 33 (by decide) ?_
  exact K h R

theorem bX1_hasStretch_32 {d : Nat} {Fg : Nat → Prop} {h0 : hp} {Q : Option sV → kV → Prop} {V : kV} {bc bs : Nat} {v0 : sV} {v1 : sV} {v2 : sV} (K : cWP d Fg h0 6 Q 33 [v0, v1, v2] [sI (0)] V bc bs) : cWP d Fg h0 6 Q 32 [v0, v1, v2] [] V bc bs := by
  intro h R
  refine w_iconst mb6 dX1_hasStretch_32 33 rfl (0) (by decide) ?_
  exact K h R

theorem bX1_hasStretch_33 {d : Nat} {Fg : Nat → Prop} {h0 : hp} {Q : Option sV → kV → Prop} {V : kV} {bc bs : Nat} {v0 : sV} {v1 : sV} {v2 : sV} {y0 : Int32} (h1 : (y0) = 0 ∨ (y0) = 1) (K : Q (some (sI (y0))) V) : cWP d Fg h0 6 Q 33 [v0, v1, v2] [sI (y0)] V bc bs := by
  intro h R
  refine w_zret mb6 dX1_hasStretch_33 rfl h1 ?_
  exact ⟨_, R, K⟩

theorem bX1_isSameAs_0 {d : Nat} {Fg : Nat → Prop} {h0 : hp} {Q : Option sV → kV → Prop} {V : kV} {bc bs : Nat} {v0 : sV} {r1 : Option Nat} {v2 : sV} (K1 : (r1) = none → cWP d Fg h0 7 Q 26 [v0, sR (r1), v2] [] V bc bs) (K2 : ¬ (r1) = none → cWP d Fg h0 7 Q 4 [v0, sR (r1), v2] [] V bc bs) : cWP d Fg h0 7 Q 0 [v0, sR (r1), v2] [] V bc bs := by
  intro h R
  refine w_aload_n mb7 dX1_isSameAs_0 1 rfl rfl ?_
  refine w_ifnull mb7 dX1_isSameAs_1 26 4 (by decide) rfl (fun z => ?_) (fun z => ?_)
  · exact K1 z h R
  · exact K2 z h R

theorem bX1_isSameAs_4 {d : Nat} {Fg : Nat → Prop} {h0 : hp} {Q : Option sV → kV → Prop} {V : kV} {bc bs : Nat} {a0 : Nat} {a1 : Nat} {v2 : sV} {o_a0 : zO} {o_a1 : zO} (h1 : kO V (a0) = some o_a0) (h2 : kO V (a1) = some o_a1) (K1 : ¬ (o_a0.1) = (o_a1.1) → cWP d Fg h0 7 Q 26 [sR (some a0), sR (some a1), v2] [] V bc bs) (K2 : (o_a0.1) = (o_a1.1) → cWP d Fg h0 7 Q 15 [sR (some a0), sR (some a1), v2] [] V bc bs) : cWP d Fg h0 7 Q 4 [sR (some a0), sR (some a1), v2] [] V bc bs := by
  intro h R
  refine w_aload_n mb7 dX1_isSameAs_4 5 rfl rfl ?_
  refine y_o0 mb7 dX1_isSameAs_5 8 rfl R lf1_9 h1 ?_
  refine w_aload_n mb7 dX1_isSameAs_8 9 rfl rfl ?_
  refine y_o0 mb7 dX1_isSameAs_9 12 rfl R lf1_9 h2 ?_
  refine w_icmp_ne mb7 dX1_isSameAs_12 26 15 (by decide) rfl (fun z => ?_) (fun z => ?_)
  · exact K1 z h R
  · exact K2 z h R

theorem bX1_isSameAs_15 {d : Nat} {Fg : Nat → Prop} {h0 : hp} {Q : Option sV → kV → Prop} {V : kV} {bc bs : Nat} {a0 : Nat} {a1 : Nat} {v2 : sV} {o_a0 : zO} {o_a1 : zO} (h1 : kO V (a0) = some o_a0) (h2 : kO V (a1) = some o_a1) (K1 : (o_a0.2.1) = (o_a1.2.1) → cWP d Fg h0 7 Q 28 [sR (some a0), sR (some a1), v2] [] V bc bs) (K2 : ¬ (o_a0.2.1) = (o_a1.2.1) → cWP d Fg h0 7 Q 26 [sR (some a0), sR (some a1), v2] [] V bc bs) : cWP d Fg h0 7 Q 15 [sR (some a0), sR (some a1), v2] [] V bc bs := by
  intro h R
  refine w_aload_n mb7 dX1_isSameAs_15 16 rfl rfl ?_
  refine y_o1 mb7 dX1_isSameAs_16 19 rfl R lf1_15 h1 ?_
  refine w_aload_n mb7 dX1_isSameAs_19 20 rfl rfl ?_
  refine y_o1 mb7 dX1_isSameAs_20 23 rfl R lf1_15 h2 ?_
  refine w_icmp_eq mb7 dX1_isSameAs_23 28 26 (by decide) rfl (fun z => ?_) (fun z => ?_)
  · exact K1 z h R
  · exact K2 z h R

theorem bX1_isSameAs_26 {d : Nat} {Fg : Nat → Prop} {h0 : hp} {Q : Option sV → kV → Prop} {V : kV} {bc bs : Nat} {v0 : sV} {v1 : sV} {v2 : sV} (K : Q (some (sI (0))) V) : cWP d Fg h0 7 Q 26 [v0, v1, v2] [] V bc bs := by
  intro h R
  refine w_iconst mb7 dX1_isSameAs_26 27 rfl (0) (by decide) ?_
  refine w_zret mb7 dX1_isSameAs_27 rfl (Or.inl rfl) ?_
  exact ⟨_, R, K⟩

theorem bX1_isSameAs_28 {d : Nat} {Fg : Nat → Prop} {h0 : hp} {Q : Option sV → kV → Prop} {V : kV} {bc bs : Nat} {a0 : Nat} {a1 : Nat} {v2 : sV} {o_a0 : zO} {o_a1 : zO} (h1 : kO V (a0) = some o_a0) (h2 : kO V (a1) = some o_a1) (K1 : (nI o_a0.2.2.length) = (nI o_a1.2.2.length) → cWP d Fg h0 7 Q 43 [sR (some a0), sR (some a1), v2] [] V bc bs) (K2 : ¬ (nI o_a0.2.2.length) = (nI o_a1.2.2.length) → cWP d Fg h0 7 Q 41 [sR (some a0), sR (some a1), v2] [] V bc bs) : cWP d Fg h0 7 Q 28 [sR (some a0), sR (some a1), v2] [] V bc bs := by
  intro h R
  refine w_aload_n mb7 dX1_isSameAs_28 29 rfl rfl ?_
  refine y_o2 mb7 dX1_isSameAs_29 32 rfl R lf1_18 h1 ?_
  refine y_rlen mb7 dX1_isSameAs_32 33 rfl R h1 ?_
  refine w_aload_n mb7 dX1_isSameAs_33 34 rfl rfl ?_
  refine y_o2 mb7 dX1_isSameAs_34 37 rfl R lf1_18 h2 ?_
  refine y_rlen mb7 dX1_isSameAs_37 38 rfl R h2 ?_
  refine w_icmp_eq mb7 dX1_isSameAs_38 43 41 (by decide) rfl (fun z => ?_) (fun z => ?_)
  · exact K1 z h R
  · exact K2 z h R

theorem bX1_isSameAs_41 {d : Nat} {Fg : Nat → Prop} {h0 : hp} {Q : Option sV → kV → Prop} {V : kV} {bc bs : Nat} {v0 : sV} {v1 : sV} {v2 : sV} (K : Q (some (sI (0))) V) : cWP d Fg h0 7 Q 41 [v0, v1, v2] [] V bc bs := by
  intro h R
  refine w_iconst mb7 dX1_isSameAs_41 42 rfl (0) (by decide) ?_
  refine w_zret mb7 dX1_isSameAs_42 rfl (Or.inl rfl) ?_
  exact ⟨_, R, K⟩

theorem bX1_isSameAs_43 {d : Nat} {Fg : Nat → Prop} {h0 : hp} {Q : Option sV → kV → Prop} {V : kV} {bc bs : Nat} {v0 : sV} {v1 : sV} {v2 : sV} (K : cWP d Fg h0 7 Q 45 [v0, v1, sI (0)] [] V bc bs) : cWP d Fg h0 7 Q 43 [v0, v1, v2] [] V bc bs := by
  intro h R
  refine w_iconst mb7 dX1_isSameAs_43 44 rfl (0) (by decide) ?_
  refine w_istore_n mb7 dX1_isSameAs_44 45 rfl [v0, v1, sI (0)] (Nat.le_of_ble_eq_true rfl) rfl ?_
  exact K h R

theorem bX1_isSameAs_45 {d : Nat} {Fg : Nat → Prop} {h0 : hp} {Q : Option sV → kV → Prop} {V : kV} {bc bs : Nat} {a0 : Nat} {v1 : sV} {x2 : Int32} {o_a0 : zO} (h1 : kO V (a0) = some o_a0) (K1 : (nI o_a0.2.2.length) ≤ (x2) → cWP d Fg h0 7 Q 77 [sR (some a0), v1, sI (x2)] [] V bc bs) (K2 : ¬ (nI o_a0.2.2.length) ≤ (x2) → cWP d Fg h0 7 Q 54 [sR (some a0), v1, sI (x2)] [] V bc bs) : cWP d Fg h0 7 Q 45 [sR (some a0), v1, sI (x2)] [] V bc bs := by
  intro h R
  refine w_iload_n mb7 dX1_isSameAs_45 46 rfl rfl ?_
  refine w_aload_n mb7 dX1_isSameAs_46 47 rfl rfl ?_
  refine y_o2 mb7 dX1_isSameAs_47 50 rfl R lf1_18 h1 ?_
  refine y_rlen mb7 dX1_isSameAs_50 51 rfl R h1 ?_
  refine w_icmp_ge mb7 dX1_isSameAs_51 77 54 (by decide) rfl (fun z => ?_) (fun z => ?_)
  · exact K1 z h R
  · exact K2 z h R

theorem bX1_isSameAs_54 {d : Nat} {Fg : Nat → Prop} {h0 : hp} {Q : Option sV → kV → Prop} {V : kV} {bc bs : Nat} {a0 : Nat} {a1 : Nat} {x2 : Int32} {o_a0 : zO} {o_a1 : zO} (h1 : kO V (a0) = some o_a0) (h2 : vp_in (x2) o_a0.2.2.length) (h3 : kO V (a1) = some o_a1) (h4 : vp_in (x2) o_a1.2.2.length) (K1 : (o_a0.2.2.getD (x2).toNatClampNeg 0) = (o_a1.2.2.getD (x2).toNatClampNeg 0) → cWP d Fg h0 7 Q 71 [sR (some a0), sR (some a1), sI (x2)] [] V bc bs) (K2 : ¬ (o_a0.2.2.getD (x2).toNatClampNeg 0) = (o_a1.2.2.getD (x2).toNatClampNeg 0) → cWP d Fg h0 7 Q 69 [sR (some a0), sR (some a1), sI (x2)] [] V bc bs) : cWP d Fg h0 7 Q 54 [sR (some a0), sR (some a1), sI (x2)] [] V bc bs := by
  intro h R
  refine w_aload_n mb7 dX1_isSameAs_54 55 rfl rfl ?_
  refine y_o2 mb7 dX1_isSameAs_55 58 rfl R lf1_18 h1 ?_
  refine w_iload_n mb7 dX1_isSameAs_58 59 rfl rfl ?_
  refine y_rald mb7 dX1_isSameAs_59 60 rfl R h1 h2 ?_
  refine w_aload_n mb7 dX1_isSameAs_60 61 rfl rfl ?_
  refine y_o2 mb7 dX1_isSameAs_61 64 rfl R lf1_18 h3 ?_
  refine w_iload_n mb7 dX1_isSameAs_64 65 rfl rfl ?_
  refine y_rald mb7 dX1_isSameAs_65 66 rfl R h3 h4 ?_
  refine w_icmp_eq mb7 dX1_isSameAs_66 71 69 (by decide) rfl (fun z => ?_) (fun z => ?_)
  · exact K1 z h R
  · exact K2 z h R

theorem bX1_isSameAs_69 {d : Nat} {Fg : Nat → Prop} {h0 : hp} {Q : Option sV → kV → Prop} {V : kV} {bc bs : Nat} {v0 : sV} {v1 : sV} {v2 : sV} (K : Q (some (sI (0))) V) : cWP d Fg h0 7 Q 69 [v0, v1, v2] [] V bc bs := by
  intro h R
  refine w_iconst mb7 dX1_isSameAs_69 70 rfl (0) (by decide) ?_
  refine w_zret mb7 dX1_isSameAs_70 rfl (Or.inl rfl) ?_
  exact ⟨_, R, K⟩

theorem bX1_isSameAs_71 {d : Nat} {Fg : Nat → Prop} {h0 : hp} {Q : Option sV → kV → Prop} {V : kV} {bc bs : Nat} {v0 : sV} {v1 : sV} {x2 : Int32} (K : cWP d Fg h0 7 Q 45 [v0, v1, sI (x2 + 1)] [] V bc bs) : cWP d Fg h0 7 Q 71 [v0, v1, sI (x2)] [] V bc bs := by
  intro h R
  refine w_iinc mb7 dX1_isSameAs_71 74 rfl rfl (x2 + 1) rfl [v0, v1, sI (x2 + 1)] rfl ?_
  refine w_goto mb7 dX1_isSameAs_74 45 (by decide) ?_
  exact K h R

theorem bX1_isSameAs_77 {d : Nat} {Fg : Nat → Prop} {h0 : hp} {Q : Option sV → kV → Prop} {V : kV} {bc bs : Nat} {v0 : sV} {v1 : sV} {v2 : sV} (K : Q (some (sI (1))) V) : cWP d Fg h0 7 Q 77 [v0, v1, v2] [] V bc bs := by
  intro h R
  refine w_iconst mb7 dX1_isSameAs_77 78 rfl (1) (by decide) ?_
  refine w_zret mb7 dX1_isSameAs_78 rfl (Or.inr rfl) ?_
  exact ⟨_, R, K⟩

theorem bX2_run_0 {d : Nat} {Fg : Nat → Prop} {h0 : hp} {Q : Option sV → kV → Prop} {V : kV} {bc bs : Nat} {a0 : Nat} {v1 : sV} {x2 : Int32} {v3 : sV} {v4 : sV} {v5 : sV} {v6 : sV} (h1 : kC V (a0) = 3) (h2 : (x2) = 0 ∨ (x2) = 1) (K1 : ¬ (x2) = 0 → cWP d Fg h0 9 Q 29 [sR (some a0), v1, sI (x2), v3, v4, v5, v6] [] (uI V (208) (a0) (x2)) bc bs) (K2 : (x2) = 0 → cWP d Fg h0 9 Q 9 [sR (some a0), v1, sI (x2), v3, v4, v5, v6] [] (uI V (208) (a0) (x2)) bc bs) : cWP d Fg h0 9 Q 0 [sR (some a0), v1, sI (x2), v3, v4, v5, v6] [] V bc bs := by
  intro h R
  refine w_aload_n mb9 dX2_run_0 1 rfl rfl ?_
  refine w_iload_n mb9 dX2_run_1 2 rfl rfl ?_
  refine y_putz mb9 dX2_run_2 5 rfl R 208 (lp2_22 _) rfl rfl rfl h1 h2 (fun h R => ?_)
  refine w_iload_n mb9 dX2_run_5 6 rfl rfl ?_
  refine w_if_ne mb9 dX2_run_6 29 9 (by decide) rfl (fun z => ?_) (fun z => ?_)
  · exact K1 z h R
  · exact K2 z h R

theorem bX2_run_9 {d : Nat} {Fg : Nat → Prop} {h0 : hp} {Q : Option sV → kV → Prop} {V : kV} {bc bs : Nat} {a0 : Nat} {v1 : sV} {v2 : sV} {v3 : sV} {v4 : sV} {v5 : sV} {v6 : sV} (h1 : kC V (a0) = 3) (K : cWP d Fg h0 9 Q 29 [sR (some a0), v1, v2, v3, v4, v5, v6] [] (uI (uI (uI V (206) (a0) ((kI V 206 (a0)) + (1))) (204) (a0) (0)) (205) (a0) (0)) bc bs) : cWP d Fg h0 9 Q 9 [sR (some a0), v1, v2, v3, v4, v5, v6] [] V bc bs := by
  intro h R
  refine w_aload_n mb9 dX2_run_9 10 rfl rfl ?_
  refine w_dup mb9 dX2_run_10 11 rfl rfl ?_
  refine y_geti mb9 dX2_run_11 14 rfl R 206 lf2_26 rfl rfl rfl h1 (x := kI V 206 (a0)) (by first | rfl | exact if_pos ⟨rfl, rfl⟩) ?_
  refine w_iconst mb9 dX2_run_14 15 rfl (1) (by decide) ?_
  refine w_iadd mb9 dX2_run_15 16 rfl ?_
  refine y_puti mb9 dX2_run_16 19 rfl R 206 (lp2_26 _) rfl rfl rfl h1 (fun h R => ?_)
  refine w_aload_n mb9 dX2_run_19 20 rfl rfl ?_
  refine w_iconst mb9 dX2_run_20 21 rfl (0) (by decide) ?_
  refine y_puti mb9 dX2_run_21 24 rfl R 204 (lp2_30 _) rfl rfl rfl h1 (fun h R => ?_)
  refine w_aload_n mb9 dX2_run_24 25 rfl rfl ?_
  refine w_iconst mb9 dX2_run_25 26 rfl (0) (by decide) ?_
  refine y_puti mb9 dX2_run_26 29 rfl R 205 (lp2_33 _) rfl rfl rfl h1 (fun h R => ?_)
  exact K h R

theorem bX2_run_29 {d : Nat} {Fg : Nat → Prop} {h0 : hp} {Q : Option sV → kV → Prop} {V : kV} {bc bs : Nat} {a0 : Nat} {v1 : sV} {v2 : sV} {v3 : sV} {v4 : sV} {v5 : sV} {v6 : sV} {b30 : Nat} (h1 : kR V 200 (a0) = some b30) (h2 : kC V (a0) = 3) (h3 : kC V (b30) = 5) (K : cWP d Fg h0 9 Q 44 [sR (some a0), v1, v2, sR (some (kr V 401 (b30))), sI (24), sI (0), v6] [] V bc bs) : cWP d Fg h0 9 Q 29 [sR (some a0), v1, v2, v3, v4, v5, v6] [] V bc bs := by
  intro h R
  refine w_aload_n mb9 dX2_run_29 30 rfl rfl ?_
  refine y_getr mb9 dX2_run_30 33 rfl R 200 lf2_12 rfl rfl rfl rfl h2 h1 ?_
  refine y_geta mb9 dX2_run_33 36 rfl R 401 lf2_36 rfl rfl rfl (by decide) h3 ?_
  refine w_astore_n mb9 dX2_run_36 37 rfl [sR (some a0), v1, v2, sR (some (kr V 401 (b30))), v4, v5, v6] (Nat.le_of_ble_eq_true rfl) rfl ?_
  refine w_aload_n mb9 dX2_run_37 38 rfl rfl ?_
  refine y_alen (f := 401) (a := b30) (c := 5) mb9 dX2_run_38 39 rfl R (24) (by decide) (by decide) rfl h3 ?_
  refine w_istore mb9 dX2_run_39 41 rfl [sR (some a0), v1, v2, sR (some (kr V 401 (b30))), sI (24), v5, v6] (Nat.le_of_ble_eq_true rfl) rfl ?_
  refine w_iconst mb9 dX2_run_41 42 rfl (0) (by decide) ?_
  refine w_istore mb9 dX2_run_42 44 rfl [sR (some a0), v1, v2, sR (some (kr V 401 (b30))), sI (24), sI (0), v6] (Nat.le_of_ble_eq_true rfl) rfl ?_
  exact K h R

theorem bX2_run_44 {d : Nat} {Fg : Nat → Prop} {h0 : hp} {Q : Option sV → kV → Prop} {V : kV} {bc bs : Nat} {v0 : sV} {v1 : sV} {v2 : sV} {v3 : sV} {x4 : Int32} {x5 : Int32} {v6 : sV} (K1 : (x4) ≤ (x5) → cWP d Fg h0 9 Q 74 [v0, v1, v2, v3, sI (x4), sI (x5), v6] [] V bc bs) (K2 : ¬ (x4) ≤ (x5) → cWP d Fg h0 9 Q 51 [v0, v1, v2, v3, sI (x4), sI (x5), v6] [] V bc bs) : cWP d Fg h0 9 Q 44 [v0, v1, v2, v3, sI (x4), sI (x5), v6] [] V bc bs := by
  intro h R
  refine w_iload mb9 dX2_run_44 46 rfl rfl ?_
  refine w_iload mb9 dX2_run_46 48 rfl rfl ?_
  refine w_icmp_ge mb9 dX2_run_48 74 51 (by decide) rfl (fun z => ?_) (fun z => ?_)
  · exact K1 z h R
  · exact K2 z h R

theorem bX2_run_51 {d : Nat} {Fg : Nat → Prop} {h0 : hp} {Q : Option sV → kV → Prop} {V : kV} {bc bs : Nat} {v0 : sV} {v1 : sV} {v2 : sV} {sh : Nat} {v4 : sV} {x5 : Int32} {v6 : sV} (h1 : vp_in (x5) 24) (h2 : kC V (sh) = 5) (K1 : (kB V 401 (sh) (x5).toNatClampNeg) = none → cWP d Fg h0 9 Q 68 [v0, v1, v2, sR (some (kr V 401 sh)), v4, sI (x5), sR (kB V 401 (sh) (x5).toNatClampNeg)] [] V bc bs) (K2 : ¬ (kB V 401 (sh) (x5).toNatClampNeg) = none → cWP d Fg h0 9 Q 62 [v0, v1, v2, sR (some (kr V 401 sh)), v4, sI (x5), sR (kB V 401 (sh) (x5).toNatClampNeg)] [] V bc bs) : cWP d Fg h0 9 Q 51 [v0, v1, v2, sR (some (kr V 401 sh)), v4, sI (x5), v6] [] V bc bs := by
  intro h R
  refine w_aload_n mb9 dX2_run_51 52 rfl rfl ?_
  refine w_iload mb9 dX2_run_52 54 rfl rfl ?_
  refine y_aald (f := 401) (a := sh) (c := 5) mb9 dX2_run_54 55 rfl R 24 rfl (by decide) (by decide) rfl h2 h1 (x := kB V 401 (sh) (x5).toNatClampNeg) rfl ?_
  refine w_astore mb9 dX2_run_55 57 rfl [v0, v1, v2, sR (some (kr V 401 sh)), v4, sI (x5), sR (kB V 401 (sh) (x5).toNatClampNeg)] (Nat.le_of_ble_eq_true rfl) rfl ?_
  refine w_aload mb9 dX2_run_57 59 rfl rfl ?_
  refine w_ifnull mb9 dX2_run_59 68 62 (by decide) rfl (fun z => ?_) (fun z => ?_)
  · exact K1 z h R
  · exact K2 z h R

theorem bX2_run_62 {d : Nat} {Fg : Nat → Prop} {h0 : hp} {Q : Option sV → kV → Prop} {V : kV} {bc bs : Nat} {v0 : sV} {v1 : sV} {x2 : Int32} {v3 : sV} {v4 : sV} {v5 : sV} {a6 : Nat} (h1 : kC V (a6) = 4) {bc1 bs1 : Nat} {P : Option sV → kV → Prop} (C : cM d Fg h0 30 [sR (some a6), sI (x2)] V bc1 bs1 P) (hbc : bc1 ≤ bc) (hbs : bs1 ≤ bs) (K : ∀ r V1, P r V1 → cWP d Fg h0 9 Q 68 [v0, v1, sI (x2), v3, v4, v5, sR (some a6)] (r.toList ++ []) V1 (bc - bc1) (bs - bs1)) : cWP d Fg h0 9 Q 62 [v0, v1, sI (x2), v3, v4, v5, sR (some a6)] [] V bc bs := by
  intro h R
  refine w_aload mb9 dX2_run_62 64 rfl rfl ?_
  refine w_iload_n mb9 dX2_run_64 65 rfl rfl ?_
  refine w_virtual (a := a6) (c := 3) (st := []) mb9 dX2_run_65 68 rfl 30 1 [sI (x2)] _ rfl rfl rfl lc2_40 (R.k h1) (Nat.le_of_ble_eq_true rfl) (C h R) hbc hbs (fun r h1 hP => ?_)
  obtain ⟨V1, R1, hP⟩ := hP
  exact K r V1 hP h1 R1

theorem bX2_run_68 {d : Nat} {Fg : Nat → Prop} {h0 : hp} {Q : Option sV → kV → Prop} {V : kV} {bc bs : Nat} {v0 : sV} {v1 : sV} {v2 : sV} {v3 : sV} {v4 : sV} {x5 : Int32} {v6 : sV} (K : cWP d Fg h0 9 Q 44 [v0, v1, v2, v3, v4, sI (x5 + 1), v6] [] V bc bs) : cWP d Fg h0 9 Q 68 [v0, v1, v2, v3, v4, sI (x5), v6] [] V bc bs := by
  intro h R
  refine w_iinc mb9 dX2_run_68 71 rfl rfl (x5 + 1) rfl [v0, v1, v2, v3, v4, sI (x5 + 1), v6] rfl ?_
  refine w_goto mb9 dX2_run_71 44 (by decide) ?_
  exact K h R

theorem bX2_run_74 {d : Nat} {Fg : Nat → Prop} {h0 : hp} {Q : Option sV → kV → Prop} {V : kV} {bc bs : Nat} {a0 : Nat} {r1 : Option Nat} {v2 : sV} {v3 : sV} {v4 : sV} {v5 : sV} {v6 : sV} (h1 : kC V (a0) = 3) {bc1 bs1 : Nat} {P : Option sV → kV → Prop} (C : cM d Fg h0 13 [sR (some a0), sR (r1)] V bc1 bs1 P) (hbc : bc1 ≤ bc) (hbs : bs1 ≤ bs) (K : ∀ r V1, P r V1 → cWP d Fg h0 9 Q 80 [sR (some a0), sR (r1), v2, v3, v4, v5, v6] (r.toList ++ [sR (some a0)]) V1 (bc - bc1) (bs - bs1)) : cWP d Fg h0 9 Q 74 [sR (some a0), sR (r1), v2, v3, v4, v5, v6] [] V bc bs := by
  intro h R
  refine w_aload_n mb9 dX2_run_74 75 rfl rfl ?_
  refine w_aload_n mb9 dX2_run_75 76 rfl rfl ?_
  refine w_aload_n mb9 dX2_run_76 77 rfl rfl ?_
  refine w_virtual (a := a0) (c := 2) (st := [sR (some a0)]) mb9 dX2_run_77 80 rfl 13 1 [sR (r1)] _ rfl rfl rfl lc2_46 (R.k h1) (Nat.le_of_ble_eq_true rfl) (C h R) hbc hbs (fun r h1 hP => ?_)
  obtain ⟨V1, R1, hP⟩ := hP
  exact K r V1 hP h1 R1

theorem bX2_run_80 {d : Nat} {Fg : Nat → Prop} {h0 : hp} {Q : Option sV → kV → Prop} {V : kV} {bc bs : Nat} {a0 : Nat} {v1 : sV} {v2 : sV} {v3 : sV} {v4 : sV} {v5 : sV} {v6 : sV} {z0 : Nat} {z1 : Option Nat} (h1 : kC V (z0) = 3) (h2 : kC V (a0) = 3) {bc1 bs1 : Nat} {P : Option sV → kV → Prop} (C : cM d Fg h0 10 [sR (some a0), sR (kR (uR V (201) (z0) (z1)) 201 (a0))] (uR V (201) (z0) (z1)) bc1 bs1 P) (hbc : bc1 ≤ bc) (hbs : bs1 ≤ bs) (K : ∀ r V1, P r V1 → cWP d Fg h0 9 Q 92 [sR (some a0), v1, v2, v3, v4, v5, v6] (r.toList ++ [sR (some a0)]) V1 (bc - bc1) (bs - bs1)) : cWP d Fg h0 9 Q 80 [sR (some a0), v1, v2, v3, v4, v5, v6] [sR (z1), sR (some z0)] V bc bs := by
  intro h R
  refine y_putr mb9 dX2_run_80 83 rfl R 201 (lp2_50 _) (by first | exact Or.inl ⟨_, rfl⟩ | exact Or.inr ⟨_, rfl⟩) rfl rfl rfl h1 (fun h R => ?_)
  refine w_aload_n mb9 dX2_run_83 84 rfl rfl ?_
  refine w_aload_n mb9 dX2_run_84 85 rfl rfl ?_
  refine w_aload_n mb9 dX2_run_85 86 rfl rfl ?_
  refine y_getr mb9 dX2_run_86 89 rfl R 201 lf2_50 rfl rfl rfl rfl h2 rfl ?_
  refine w_virtual (a := a0) (c := 2) (st := [sR (some a0)]) mb9 dX2_run_89 92 rfl 10 1 [sR (kR (uR V (201) (z0) (z1)) 201 (a0))] _ rfl rfl rfl lc2_54 (R.k h2) (Nat.le_of_ble_eq_true rfl) (C h R) hbc hbs (fun r h1 hP => ?_)
  obtain ⟨V1, R1, hP⟩ := hP
  exact K r V1 hP h1 R1

theorem bX2_run_92 {d : Nat} {Fg : Nat → Prop} {h0 : hp} {Q : Option sV → kV → Prop} {V : kV} {bc bs : Nat} {a0 : Nat} {v1 : sV} {v2 : sV} {v3 : sV} {v4 : sV} {v5 : sV} {v6 : sV} {z0 : Nat} {y1 : Int32} {b96 : Nat} {o_b96 : zO} (h1 : kC V (z0) = 3) (h2 : kR V 201 (a0) = some b96) (h3 : kC V (a0) = 3) (h4 : kO V (b96) = some o_b96) {bc1 bs1 : Nat} {P : Option sV → kV → Prop} (C : cM d Fg h0 3 [sR (some b96)] (uI V (202) (z0) (y1)) bc1 bs1 P) (hbc : bc1 ≤ bc) (hbs : bs1 ≤ bs) (K : ∀ r V1, P r V1 → cWP d Fg h0 9 Q 102 [sR (some a0), v1, v2, v3, v4, v5, v6] (r.toList ++ []) V1 (bc - bc1) (bs - bs1)) : cWP d Fg h0 9 Q 92 [sR (some a0), v1, v2, v3, v4, v5, v6] [sI (y1), sR (some z0)] V bc bs := by
  intro h R
  refine y_puti mb9 dX2_run_92 95 rfl R 202 (lp2_58 _) rfl rfl rfl h1 (fun h R => ?_)
  refine w_aload_n mb9 dX2_run_95 96 rfl rfl ?_
  refine y_getr mb9 dX2_run_96 99 rfl R 201 lf2_50 rfl rfl rfl rfl h3 h2 ?_
  refine w_virtual (a := b96) (c := 1) (st := []) mb9 dX2_run_99 102 rfl 3 0 [] _ rfl rfl rfl lc2_61 (R.ko h4) (Nat.le_of_ble_eq_true rfl) (C h R) hbc hbs (fun r h1 hP => ?_)
  obtain ⟨V1, R1, hP⟩ := hP
  exact K r V1 hP h1 R1

theorem bX2_run_102 {d : Nat} {Fg : Nat → Prop} {h0 : hp} {Q : Option sV → kV → Prop} {V : kV} {bc bs : Nat} {v0 : sV} {v1 : sV} {v2 : sV} {v3 : sV} {v4 : sV} {v5 : sV} {v6 : sV} {y0 : Int32} (K1 : (y0) = 0 → cWP d Fg h0 9 Q 118 [v0, v1, v2, v3, v4, v5, v6] [] V bc bs) (K2 : ¬ (y0) = 0 → cWP d Fg h0 9 Q 105 [v0, v1, v2, v3, v4, v5, v6] [] V bc bs) : cWP d Fg h0 9 Q 102 [v0, v1, v2, v3, v4, v5, v6] [sI (y0)] V bc bs := by
  intro h R
  refine w_if_eq mb9 dX2_run_102 118 105 (by decide) rfl (fun z => ?_) (fun z => ?_)
  · exact K1 z h R
  · exact K2 z h R

theorem bX2_run_105 {d : Nat} {Fg : Nat → Prop} {h0 : hp} {Q : Option sV → kV → Prop} {V : kV} {bc bs : Nat} {a0 : Nat} {v1 : sV} {v2 : sV} {v3 : sV} {v4 : sV} {v5 : sV} {v6 : sV} {b108 : Nat} {o_b108 : zO} (h1 : kR V 201 (a0) = some b108) (h2 : kC V (a0) = 3) (h3 : kO V (b108) = some o_b108) (K : cWP d Fg h0 9 Q 126 [sR (some a0), v1, v2, v3, v4, v5, v6] [sI (((-10)) - (o_b108.1))] V bc bs) : cWP d Fg h0 9 Q 105 [sR (some a0), v1, v2, v3, v4, v5, v6] [] V bc bs := by
  intro h R
  refine w_bipush mb9 dX2_run_105 107 rfl ((-10)) (by decide) ?_
  refine w_aload_n mb9 dX2_run_107 108 rfl rfl ?_
  refine y_getr mb9 dX2_run_108 111 rfl R 201 lf2_50 rfl rfl rfl rfl h2 h1 ?_
  refine y_o0 mb9 dX2_run_111 114 rfl R lf2_67 h3 ?_
  refine w_isub mb9 dX2_run_114 115 rfl ?_
  refine w_goto mb9 dX2_run_115 126 (by decide) ?_
  exact K h R

theorem bX2_run_118 {d : Nat} {Fg : Nat → Prop} {h0 : hp} {Q : Option sV → kV → Prop} {V : kV} {bc bs : Nat} {a0 : Nat} {v1 : sV} {v2 : sV} {v3 : sV} {v4 : sV} {v5 : sV} {v6 : sV} {b119 : Nat} {o_b119 : zO} (h1 : kR V 201 (a0) = some b119) (h2 : kC V (a0) = 3) (h3 : kO V (b119) = some o_b119) (K : cWP d Fg h0 9 Q 126 [sR (some a0), v1, v2, v3, v4, v5, v6] [sI (nI o_b119.2.2.length)] V bc bs) : cWP d Fg h0 9 Q 118 [sR (some a0), v1, v2, v3, v4, v5, v6] [] V bc bs := by
  intro h R
  refine w_aload_n mb9 dX2_run_118 119 rfl rfl ?_
  refine y_getr mb9 dX2_run_119 122 rfl R 201 lf2_50 rfl rfl rfl rfl h2 h1 ?_
  refine y_o2 mb9 dX2_run_122 125 rfl R lf2_70 h3 ?_
  refine y_rlen mb9 dX2_run_125 126 rfl R h3 ?_
  exact K h R

theorem bX2_run_126 {d : Nat} {Fg : Nat → Prop} {h0 : hp} {Q : Option sV → kV → Prop} {V : kV} {bc bs : Nat} {v0 : sV} {v1 : sV} {v2 : sV} {v3 : sV} {v4 : sV} {v5 : sV} {v6 : sV} {y0 : Int32} (K : Q (some (sI (y0))) V) : cWP d Fg h0 9 Q 126 [v0, v1, v2, v3, v4, v5, v6] [sI (y0)] V bc bs := by
  intro h R
  refine w_iret mb9 dX2_run_126 rfl ?_
  exact ⟨_, R, K⟩

theorem bX2_ringBehind_0 {d : Nat} {Fg : Nat → Prop} {h0 : hp} {Q : Option sV → kV → Prop} {V : kV} {bc bs : Nat} {v0 : sV} {a1 : Nat} {v2 : sV} {o_a1 : zO} (h1 : kO V (a1) = some o_a1) (K1 : ¬ (o_a1.1) = (3) → cWP d Fg h0 10 Q 22 [v0, sR (some a1), v2] [] V bc bs) (K2 : (o_a1.1) = (3) → cWP d Fg h0 10 Q 8 [v0, sR (some a1), v2] [] V bc bs) : cWP d Fg h0 10 Q 0 [v0, sR (some a1), v2] [] V bc bs := by
  intro h R
  refine w_aload_n mb10 dX2_ringBehind_0 1 rfl rfl ?_
  refine y_o0 mb10 dX2_ringBehind_1 4 rfl R lf2_67 h1 ?_
  refine w_iconst mb10 dX2_ringBehind_4 5 rfl (3) (by decide) ?_
  refine w_icmp_ne mb10 dX2_ringBehind_5 22 8 (by decide) rfl (fun z => ?_) (fun z => ?_)
  · exact K1 z h R
  · exact K2 z h R

theorem bX2_ringBehind_8 {d : Nat} {Fg : Nat → Prop} {h0 : hp} {Q : Option sV → kV → Prop} {V : kV} {bc bs : Nat} {a0 : Nat} {a1 : Nat} {v2 : sV} {b9 : Nat} {o_a1 : zO} (h1 : kR V 200 (a0) = some b9) (h2 : kC V (a0) = 3) (h3 : kO V (a1) = some o_a1) (h4 : kC V (b9) = 5) {bc1 bs1 : Nat} {P : Option sV → kV → Prop} (C : cM d Fg h0 34 [sR (some b9), sI (o_a1.2.1)] V bc1 bs1 P) (hbc : bc1 ≤ bc) (hbs : bs1 ≤ bs) (K : ∀ r V1, P r V1 → cWP d Fg h0 10 Q 19 [sR (some a0), sR (some a1), v2] (r.toList ++ []) V1 (bc - bc1) (bs - bs1)) : cWP d Fg h0 10 Q 8 [sR (some a0), sR (some a1), v2] [] V bc bs := by
  intro h R
  refine w_aload_n mb10 dX2_ringBehind_8 9 rfl rfl ?_
  refine y_getr mb10 dX2_ringBehind_9 12 rfl R 200 lf2_12 rfl rfl rfl rfl h2 h1 ?_
  refine w_aload_n mb10 dX2_ringBehind_12 13 rfl rfl ?_
  refine y_o1 mb10 dX2_ringBehind_13 16 rfl R lf2_73 h3 ?_
  refine w_virtual (a := b9) (c := 4) (st := []) mb10 dX2_ringBehind_16 19 rfl 34 1 [sI (o_a1.2.1)] _ rfl rfl rfl lc2_76 (R.k h4) (Nat.le_of_ble_eq_true rfl) (C h R) hbc hbs (fun r h1 hP => ?_)
  obtain ⟨V1, R1, hP⟩ := hP
  exact K r V1 hP h1 R1

theorem bX2_ringBehind_19 {d : Nat} {Fg : Nat → Prop} {h0 : hp} {Q : Option sV → kV → Prop} {V : kV} {bc bs : Nat} {v0 : sV} {v1 : sV} {v2 : sV} {z0 : Option Nat} (K : cWP d Fg h0 10 Q 23 [v0, v1, v2] [sR (z0)] V bc bs) : cWP d Fg h0 10 Q 19 [v0, v1, v2] [sR (z0)] V bc bs := by
  intro h R
  refine w_goto mb10 dX2_ringBehind_19 23 (by decide) ?_
  exact K h R

theorem bX2_ringBehind_22 {d : Nat} {Fg : Nat → Prop} {h0 : hp} {Q : Option sV → kV → Prop} {V : kV} {bc bs : Nat} {v0 : sV} {v1 : sV} {v2 : sV} (K : cWP d Fg h0 10 Q 23 [v0, v1, v2] [sR (none)] V bc bs) : cWP d Fg h0 10 Q 22 [v0, v1, v2] [] V bc bs := by
  intro h R
  refine w_null mb10 dX2_ringBehind_22 23 rfl ?_
  exact K h R

theorem bX2_ringBehind_23 {d : Nat} {Fg : Nat → Prop} {h0 : hp} {Q : Option sV → kV → Prop} {V : kV} {bc bs : Nat} {v0 : sV} {v1 : sV} {v2 : sV} {z0 : Option Nat} (K1 : ¬ (z0) = none → cWP d Fg h0 10 Q 32 [v0, v1, sR (z0)] [] V bc bs) (K2 : (z0) = none → cWP d Fg h0 10 Q 28 [v0, v1, sR (z0)] [] V bc bs) : cWP d Fg h0 10 Q 23 [v0, v1, v2] [sR (z0)] V bc bs := by
  intro h R
  refine w_astore_n mb10 dX2_ringBehind_23 24 rfl [v0, v1, sR (z0)] (Nat.le_of_ble_eq_true rfl) rfl ?_
  refine w_aload_n mb10 dX2_ringBehind_24 25 rfl rfl ?_
  refine w_ifnonnull mb10 dX2_ringBehind_25 32 28 (by decide) rfl (fun z => ?_) (fun z => ?_)
  · exact K1 z h R
  · exact K2 z h R

theorem bX2_ringBehind_28 {d : Nat} {Fg : Nat → Prop} {h0 : hp} {Q : Option sV → kV → Prop} {V : kV} {bc bs : Nat} {v0 : sV} {v1 : sV} {v2 : sV} (K : cWP d Fg h0 10 Q 36 [v0, v1, v2] [sI (0)] V bc bs) : cWP d Fg h0 10 Q 28 [v0, v1, v2] [] V bc bs := by
  intro h R
  refine w_iconst mb10 dX2_ringBehind_28 29 rfl (0) (by decide) ?_
  refine w_goto mb10 dX2_ringBehind_29 36 (by decide) ?_
  exact K h R

theorem bX2_ringBehind_32 {d : Nat} {Fg : Nat → Prop} {h0 : hp} {Q : Option sV → kV → Prop} {V : kV} {bc bs : Nat} {v0 : sV} {v1 : sV} {a2 : Nat} (h1 : kC V (a2) = 4) (K : cWP d Fg h0 10 Q 36 [v0, v1, sR (some a2)] [sI (kI V 310 (a2))] V bc bs) : cWP d Fg h0 10 Q 32 [v0, v1, sR (some a2)] [] V bc bs := by
  intro h R
  refine w_aload_n mb10 dX2_ringBehind_32 33 rfl rfl ?_
  refine y_geti mb10 dX2_ringBehind_33 36 rfl R 310 lf2_80 rfl rfl rfl h1 (x := kI V 310 (a2)) (by first | rfl | exact if_pos ⟨rfl, rfl⟩) ?_
  exact K h R

theorem bX2_ringBehind_36 {d : Nat} {Fg : Nat → Prop} {h0 : hp} {Q : Option sV → kV → Prop} {V : kV} {bc bs : Nat} {v0 : sV} {v1 : sV} {v2 : sV} {y0 : Int32} (K : Q (some (sI (y0))) V) : cWP d Fg h0 10 Q 36 [v0, v1, v2] [sI (y0)] V bc bs := by
  intro h R
  refine w_iret mb10 dX2_ringBehind_36 rfl ?_
  exact ⟨_, R, K⟩

theorem bX2_outcomeOf_0 {d : Nat} {Fg : Nat → Prop} {h0 : hp} {Q : Option sV → kV → Prop} {V : kV} {bc bs : Nat} {v0 : sV} {x1 : Int32} {v2 : sV} (K1 : (16) ≤ (x1) → cWP d Fg h0 11 Q 16 [v0, sI (x1), v2] [] V bc bs) (K2 : ¬ (16) ≤ (x1) → cWP d Fg h0 11 Q 6 [v0, sI (x1), v2] [] V bc bs) : cWP d Fg h0 11 Q 0 [v0, sI (x1), v2] [] V bc bs := by
  intro h R
  refine w_iload_n mb11 dX2_outcomeOf_0 1 rfl rfl ?_
  refine w_bipush mb11 dX2_outcomeOf_1 3 rfl (16) (by decide) ?_
  refine w_icmp_ge mb11 dX2_outcomeOf_3 16 6 (by decide) rfl (fun z => ?_) (fun z => ?_)
  · exact K1 z h R
  · exact K2 z h R

theorem bX2_outcomeOf_6 {d : Nat} {Fg : Nat → Prop} {h0 : hp} {Q : Option sV → kV → Prop} {V : kV} {bc bs : Nat} {a0 : Nat} {x1 : Int32} {v2 : sV} {b7 : Nat} (h1 : kR V 200 (a0) = some b7) (h2 : kC V (a0) = 3) (h3 : kC V (b7) = 5) (h4 : vp_in (x1) 16) (K : Q (some (sR (kB V 400 (b7) (x1).toNatClampNeg))) V) : cWP d Fg h0 11 Q 6 [sR (some a0), sI (x1), v2] [] V bc bs := by
  intro h R
  refine w_aload_n mb11 dX2_outcomeOf_6 7 rfl rfl ?_
  refine y_getr mb11 dX2_outcomeOf_7 10 rfl R 200 lf2_12 rfl rfl rfl rfl h2 h1 ?_
  refine y_geta mb11 dX2_outcomeOf_10 13 rfl R 400 lf2_83 rfl rfl rfl (by decide) h3 ?_
  refine w_iload_n mb11 dX2_outcomeOf_13 14 rfl rfl ?_
  refine y_aald (f := 400) (a := b7) (c := 5) mb11 dX2_outcomeOf_14 15 rfl R 16 rfl (by decide) (by decide) rfl h3 h4 (x := kB V 400 (b7) (x1).toNatClampNeg) rfl ?_
  refine w_aret mb11 dX2_outcomeOf_15 _ rfl (by first | exact Or.inl ⟨_, rfl⟩ | exact Or.inr ⟨_, rfl⟩) ?_
  exact ⟨_, R, K⟩

theorem bX2_outcomeOf_16 {d : Nat} {Fg : Nat → Prop} {h0 : hp} {Q : Option sV → kV → Prop} {V : kV} {bc bs : Nat} {a0 : Nat} {x1 : Int32} {v2 : sV} {b17 : Nat} (h1 : kR V 200 (a0) = some b17) (h2 : kC V (a0) = 3) (h3 : kC V (b17) = 5) {bc1 bs1 : Nat} {P : Option sV → kV → Prop} (C : cM d Fg h0 34 [sR (some b17), sI ((x1) - (16))] V bc1 bs1 P) (hbc : bc1 ≤ bc) (hbs : bs1 ≤ bs) (K : ∀ r V1, P r V1 → cWP d Fg h0 11 Q 27 [sR (some a0), sI (x1), v2] (r.toList ++ []) V1 (bc - bc1) (bs - bs1)) : cWP d Fg h0 11 Q 16 [sR (some a0), sI (x1), v2] [] V bc bs := by
  intro h R
  refine w_aload_n mb11 dX2_outcomeOf_16 17 rfl rfl ?_
  refine y_getr mb11 dX2_outcomeOf_17 20 rfl R 200 lf2_12 rfl rfl rfl rfl h2 h1 ?_
  refine w_iload_n mb11 dX2_outcomeOf_20 21 rfl rfl ?_
  refine w_bipush mb11 dX2_outcomeOf_21 23 rfl (16) (by decide) ?_
  refine w_isub mb11 dX2_outcomeOf_23 24 rfl ?_
  refine w_virtual (a := b17) (c := 4) (st := []) mb11 dX2_outcomeOf_24 27 rfl 34 1 [sI ((x1) - (16))] _ rfl rfl rfl lc2_76 (R.k h3) (Nat.le_of_ble_eq_true rfl) (C h R) hbc hbs (fun r h1 hP => ?_)
  obtain ⟨V1, R1, hP⟩ := hP
  exact K r V1 hP h1 R1

theorem bX2_outcomeOf_27 {d : Nat} {Fg : Nat → Prop} {h0 : hp} {Q : Option sV → kV → Prop} {V : kV} {bc bs : Nat} {v0 : sV} {v1 : sV} {v2 : sV} {z0 : Option Nat} (K1 : ¬ (z0) = none → cWP d Fg h0 11 Q 45 [v0, v1, sR (z0)] [] V bc bs) (K2 : (z0) = none → cWP d Fg h0 11 Q 32 [v0, v1, sR (z0)] [] V bc bs) : cWP d Fg h0 11 Q 27 [v0, v1, v2] [sR (z0)] V bc bs := by
  intro h R
  refine w_astore_n mb11 dX2_outcomeOf_27 28 rfl [v0, v1, sR (z0)] (Nat.le_of_ble_eq_true rfl) rfl ?_
  refine w_aload_n mb11 dX2_outcomeOf_28 29 rfl rfl ?_
  refine w_ifnonnull mb11 dX2_outcomeOf_29 45 32 (by decide) rfl (fun z => ?_) (fun z => ?_)
  · exact K1 z h R
  · exact K2 z h R

theorem bX2_outcomeOf_32 {d : Nat} {Fg : Nat → Prop} {h0 : hp} {Q : Option sV → kV → Prop} {V : kV} {bc bs : Nat} {a0 : Nat} {x1 : Int32} {v2 : sV} {b33 : Nat} (h1 : kR V 200 (a0) = some b33) (h2 : kC V (a0) = 3) (h3 : kC V (b33) = 5) (h4 : vp_in ((x1) - (16)) 24) (K : Q (some (sR (kB V 403 (b33) ((x1) - (16)).toNatClampNeg))) V) : cWP d Fg h0 11 Q 32 [sR (some a0), sI (x1), v2] [] V bc bs := by
  intro h R
  refine w_aload_n mb11 dX2_outcomeOf_32 33 rfl rfl ?_
  refine y_getr mb11 dX2_outcomeOf_33 36 rfl R 200 lf2_12 rfl rfl rfl rfl h2 h1 ?_
  refine y_geta mb11 dX2_outcomeOf_36 39 rfl R 403 lf2_87 rfl rfl rfl (by decide) h3 ?_
  refine w_iload_n mb11 dX2_outcomeOf_39 40 rfl rfl ?_
  refine w_bipush mb11 dX2_outcomeOf_40 42 rfl (16) (by decide) ?_
  refine w_isub mb11 dX2_outcomeOf_42 43 rfl ?_
  refine y_aald (f := 403) (a := b33) (c := 5) mb11 dX2_outcomeOf_43 44 rfl R 24 rfl (by decide) (by decide) rfl h3 h4 (x := kB V 403 (b33) ((x1) - (16)).toNatClampNeg) rfl ?_
  refine w_aret mb11 dX2_outcomeOf_44 _ rfl (by first | exact Or.inl ⟨_, rfl⟩ | exact Or.inr ⟨_, rfl⟩) ?_
  exact ⟨_, R, K⟩

theorem bX2_outcomeOf_45 {d : Nat} {Fg : Nat → Prop} {h0 : hp} {Q : Option sV → kV → Prop} {V : kV} {bc bs : Nat} {v0 : sV} {v1 : sV} {a2 : Nat} (h1 : kC V (a2) = 4) (K1 : (kR V 308 (a2)) = none → cWP d Fg h0 11 Q 57 [v0, v1, sR (some a2)] [] V bc bs) (K2 : ¬ (kR V 308 (a2)) = none → cWP d Fg h0 11 Q 52 [v0, v1, sR (some a2)] [] V bc bs) : cWP d Fg h0 11 Q 45 [v0, v1, sR (some a2)] [] V bc bs := by
  intro h R
  refine w_aload_n mb11 dX2_outcomeOf_45 46 rfl rfl ?_
  refine y_getr mb11 dX2_outcomeOf_46 49 rfl R 308 lf2_90 rfl rfl rfl rfl h1 rfl ?_
  refine w_ifnull mb11 dX2_outcomeOf_49 57 52 (by decide) rfl (fun z => ?_) (fun z => ?_)
  · exact K1 z h R
  · exact K2 z h R

theorem bX2_outcomeOf_52 {d : Nat} {Fg : Nat → Prop} {h0 : hp} {Q : Option sV → kV → Prop} {V : kV} {bc bs : Nat} {v0 : sV} {v1 : sV} {a2 : Nat} (h1 : kC V (a2) = 4) (K : Q (some (sR (kR V 308 (a2)))) V) : cWP d Fg h0 11 Q 52 [v0, v1, sR (some a2)] [] V bc bs := by
  intro h R
  refine w_aload_n mb11 dX2_outcomeOf_52 53 rfl rfl ?_
  refine y_getr mb11 dX2_outcomeOf_53 56 rfl R 308 lf2_90 rfl rfl rfl rfl h1 rfl ?_
  refine w_aret mb11 dX2_outcomeOf_56 _ rfl (by first | exact Or.inl ⟨_, rfl⟩ | exact Or.inr ⟨_, rfl⟩) ?_
  exact ⟨_, R, K⟩

theorem bX2_outcomeOf_57 {d : Nat} {Fg : Nat → Prop} {h0 : hp} {Q : Option sV → kV → Prop} {V : kV} {bc bs : Nat} {v0 : sV} {v1 : sV} {a2 : Nat} (h1 : kC V (a2) = 4) (K1 : 0 < (kI V 311 (a2)) → cWP d Fg h0 11 Q 73 [v0, v1, sR (some a2)] [] V bc bs) (K2 : ¬ 0 < (kI V 311 (a2)) → cWP d Fg h0 11 Q 64 [v0, v1, sR (some a2)] [] V bc bs) : cWP d Fg h0 11 Q 57 [v0, v1, sR (some a2)] [] V bc bs := by
  intro h R
  refine w_aload_n mb11 dX2_outcomeOf_57 58 rfl rfl ?_
  refine y_geti mb11 dX2_outcomeOf_58 61 rfl R 311 lf2_93 rfl rfl rfl h1 (x := kI V 311 (a2)) (by first | rfl | exact if_pos ⟨rfl, rfl⟩) ?_
  refine w_if_gt mb11 dX2_outcomeOf_61 73 64 (by decide) rfl (fun z => ?_) (fun z => ?_)
  · exact K1 z h R
  · exact K2 z h R

theorem bX2_outcomeOf_64 {d : Nat} {Fg : Nat → Prop} {h0 : hp} {Q : Option sV → kV → Prop} {V : kV} {bc bs : Nat} {a0 : Nat} {v1 : sV} {v2 : sV} (h1 : kC V (a0) = 3) (K1 : (kI V 209 (a0)) < (24) → cWP d Fg h0 11 Q 79 [sR (some a0), v1, v2] [] V bc bs) (K2 : ¬ (kI V 209 (a0)) < (24) → cWP d Fg h0 11 Q 73 [sR (some a0), v1, v2] [] V bc bs) : cWP d Fg h0 11 Q 64 [sR (some a0), v1, v2] [] V bc bs := by
  intro h R
  refine w_aload_n mb11 dX2_outcomeOf_64 65 rfl rfl ?_
  refine y_geti mb11 dX2_outcomeOf_65 68 rfl R 209 lf2_96 rfl rfl rfl h1 (x := kI V 209 (a0)) (by first | rfl | exact if_pos ⟨rfl, rfl⟩) ?_
  refine w_bipush mb11 dX2_outcomeOf_68 70 rfl (24) (by decide) ?_
  refine w_icmp_lt mb11 dX2_outcomeOf_70 79 73 (by decide) rfl (fun z => ?_) (fun z => ?_)
  · exact K1 z h R
  · exact K2 z h R

theorem bX2_outcomeOf_73 {d : Nat} {Fg : Nat → Prop} {h0 : hp} {Q : Option sV → kV → Prop} {V : kV} {bc bs : Nat} {a0 : Nat} {v1 : sV} {r2 : Option Nat} (h1 : kC V (a0) = 3) {bc1 bs1 : Nat} {P : Option sV → kV → Prop} (C : cM d Fg h0 12 [sR (some a0), sR (r2)] V bc1 bs1 P) (hbc : bc1 ≤ bc) (hbs : bs1 ≤ bs) (K : ∀ r V1, P r V1 → cWP d Fg h0 11 Q 78 [sR (some a0), v1, sR (r2)] (r.toList ++ []) V1 (bc - bc1) (bs - bs1)) : cWP d Fg h0 11 Q 73 [sR (some a0), v1, sR (r2)] [] V bc bs := by
  intro h R
  refine w_aload_n mb11 dX2_outcomeOf_73 74 rfl rfl ?_
  refine w_aload_n mb11 dX2_outcomeOf_74 75 rfl rfl ?_
  refine w_virtual (a := a0) (c := 2) (st := []) mb11 dX2_outcomeOf_75 78 rfl 12 1 [sR (r2)] _ rfl rfl rfl lc2_99 (R.k h1) (Nat.le_of_ble_eq_true rfl) (C h R) hbc hbs (fun r h1 hP => ?_)
  obtain ⟨V1, R1, hP⟩ := hP
  exact K r V1 hP h1 R1

theorem bX2_outcomeOf_78 {d : Nat} {Fg : Nat → Prop} {h0 : hp} {Q : Option sV → kV → Prop} {V : kV} {bc bs : Nat} {v0 : sV} {v1 : sV} {v2 : sV} {z0 : Option Nat} (K : Q (some (sR (z0))) V) : cWP d Fg h0 11 Q 78 [v0, v1, v2] [sR (z0)] V bc bs := by
  intro h R
  refine w_aret mb11 dX2_outcomeOf_78 _ rfl (by first | exact Or.inl ⟨_, rfl⟩ | exact Or.inr ⟨_, rfl⟩) ?_
  exact ⟨_, R, K⟩

theorem bX2_outcomeOf_79 {d : Nat} {Fg : Nat → Prop} {h0 : hp} {Q : Option sV → kV → Prop} {V : kV} {bc bs : Nat} {a0 : Nat} {v1 : sV} {r2 : Option Nat} (h1 : kC V (a0) = 3) {bc1 bs1 : Nat} {P : Option sV → kV → Prop} (C : cM d Fg h0 13 [sR (some a0), sR (r2)] V bc1 bs1 P) (hbc : bc1 ≤ bc) (hbs : bs1 ≤ bs) (K : ∀ r V1, P r V1 → cWP d Fg h0 11 Q 84 [sR (some a0), v1, sR (r2)] (r.toList ++ []) V1 (bc - bc1) (bs - bs1)) : cWP d Fg h0 11 Q 79 [sR (some a0), v1, sR (r2)] [] V bc bs := by
  intro h R
  refine w_aload_n mb11 dX2_outcomeOf_79 80 rfl rfl ?_
  refine w_aload_n mb11 dX2_outcomeOf_80 81 rfl rfl ?_
  refine w_virtual (a := a0) (c := 2) (st := []) mb11 dX2_outcomeOf_81 84 rfl 13 1 [sR (r2)] _ rfl rfl rfl lc2_46 (R.k h1) (Nat.le_of_ble_eq_true rfl) (C h R) hbc hbs (fun r h1 hP => ?_)
  obtain ⟨V1, R1, hP⟩ := hP
  exact K r V1 hP h1 R1

theorem bX2_outcomeOf_84 {d : Nat} {Fg : Nat → Prop} {h0 : hp} {Q : Option sV → kV → Prop} {V : kV} {bc bs : Nat} {v0 : sV} {v1 : sV} {v2 : sV} {z0 : Option Nat} (K : Q (some (sR (z0))) V) : cWP d Fg h0 11 Q 84 [v0, v1, v2] [sR (z0)] V bc bs := by
  intro h R
  refine w_aret mb11 dX2_outcomeOf_84 _ rfl (by first | exact Or.inl ⟨_, rfl⟩ | exact Or.inr ⟨_, rfl⟩) ?_
  exact ⟨_, R, K⟩

theorem bX2_closeRing_0 {d : Nat} {Fg : Nat → Prop} {h0 : hp} {Q : Option sV → kV → Prop} {V : kV} {bc bs : Nat} {a0 : Nat} {r1 : Option Nat} {v2 : sV} {v3 : sV} {v4 : sV} {v5 : sV} {v6 : sV} {v7 : sV} {b5 : Nat} (h1 : kR V 200 (a0) = some b5) (h2 : kC V (a0) = 3) (h3 : kC V (b5) = 5) (K : cWP d Fg h0 12 Q 21 [sR (some a0), sR (r1), sI (0), sR (r1), sR (some (kr V 401 (b5))), sI (24), sI (0), v7] [] V bc bs) : cWP d Fg h0 12 Q 0 [sR (some a0), sR (r1), v2, v3, v4, v5, v6, v7] [] V bc bs := by
  intro h R
  refine w_iconst mb12 dX2_closeRing_0 1 rfl (0) (by decide) ?_
  refine w_istore_n mb12 dX2_closeRing_1 2 rfl [sR (some a0), sR (r1), sI (0), v3, v4, v5, v6, v7] (Nat.le_of_ble_eq_true rfl) rfl ?_
  refine w_aload_n mb12 dX2_closeRing_2 3 rfl rfl ?_
  refine w_astore_n mb12 dX2_closeRing_3 4 rfl [sR (some a0), sR (r1), sI (0), sR (r1), v4, v5, v6, v7] (Nat.le_of_ble_eq_true rfl) rfl ?_
  refine w_aload_n mb12 dX2_closeRing_4 5 rfl rfl ?_
  refine y_getr mb12 dX2_closeRing_5 8 rfl R 200 lf2_12 rfl rfl rfl rfl h2 h1 ?_
  refine y_geta mb12 dX2_closeRing_8 11 rfl R 401 lf2_36 rfl rfl rfl (by decide) h3 ?_
  refine w_astore mb12 dX2_closeRing_11 13 rfl [sR (some a0), sR (r1), sI (0), sR (r1), sR (some (kr V 401 (b5))), v5, v6, v7] (Nat.le_of_ble_eq_true rfl) rfl ?_
  refine w_aload mb12 dX2_closeRing_13 15 rfl rfl ?_
  refine y_alen (f := 401) (a := b5) (c := 5) mb12 dX2_closeRing_15 16 rfl R (24) (by decide) (by decide) rfl h3 ?_
  refine w_istore mb12 dX2_closeRing_16 18 rfl [sR (some a0), sR (r1), sI (0), sR (r1), sR (some (kr V 401 (b5))), sI (24), v6, v7] (Nat.le_of_ble_eq_true rfl) rfl ?_
  refine w_iconst mb12 dX2_closeRing_18 19 rfl (0) (by decide) ?_
  refine w_istore mb12 dX2_closeRing_19 21 rfl [sR (some a0), sR (r1), sI (0), sR (r1), sR (some (kr V 401 (b5))), sI (24), sI (0), v7] (Nat.le_of_ble_eq_true rfl) rfl ?_
  exact K h R

theorem bX2_closeRing_21 {d : Nat} {Fg : Nat → Prop} {h0 : hp} {Q : Option sV → kV → Prop} {V : kV} {bc bs : Nat} {v0 : sV} {v1 : sV} {v2 : sV} {v3 : sV} {v4 : sV} {x5 : Int32} {x6 : Int32} {v7 : sV} (K1 : (x5) ≤ (x6) → cWP d Fg h0 12 Q 87 [v0, v1, v2, v3, v4, sI (x5), sI (x6), v7] [] V bc bs) (K2 : ¬ (x5) ≤ (x6) → cWP d Fg h0 12 Q 28 [v0, v1, v2, v3, v4, sI (x5), sI (x6), v7] [] V bc bs) : cWP d Fg h0 12 Q 21 [v0, v1, v2, v3, v4, sI (x5), sI (x6), v7] [] V bc bs := by
  intro h R
  refine w_iload mb12 dX2_closeRing_21 23 rfl rfl ?_
  refine w_iload mb12 dX2_closeRing_23 25 rfl rfl ?_
  refine w_icmp_ge mb12 dX2_closeRing_25 87 28 (by decide) rfl (fun z => ?_) (fun z => ?_)
  · exact K1 z h R
  · exact K2 z h R

theorem bX2_closeRing_28 {d : Nat} {Fg : Nat → Prop} {h0 : hp} {Q : Option sV → kV → Prop} {V : kV} {bc bs : Nat} {v0 : sV} {v1 : sV} {v2 : sV} {v3 : sV} {sh : Nat} {v5 : sV} {x6 : Int32} {v7 : sV} (h1 : vp_in (x6) 24) (h2 : kC V (sh) = 5) (K1 : (kB V 401 (sh) (x6).toNatClampNeg) = none → cWP d Fg h0 12 Q 81 [v0, v1, v2, v3, sR (some (kr V 401 sh)), v5, sI (x6), sR (kB V 401 (sh) (x6).toNatClampNeg)] [] V bc bs) (K2 : ¬ (kB V 401 (sh) (x6).toNatClampNeg) = none → cWP d Fg h0 12 Q 40 [v0, v1, v2, v3, sR (some (kr V 401 sh)), v5, sI (x6), sR (kB V 401 (sh) (x6).toNatClampNeg)] [] V bc bs) : cWP d Fg h0 12 Q 28 [v0, v1, v2, v3, sR (some (kr V 401 sh)), v5, sI (x6), v7] [] V bc bs := by
  intro h R
  refine w_aload mb12 dX2_closeRing_28 30 rfl rfl ?_
  refine w_iload mb12 dX2_closeRing_30 32 rfl rfl ?_
  refine y_aald (f := 401) (a := sh) (c := 5) mb12 dX2_closeRing_32 33 rfl R 24 rfl (by decide) (by decide) rfl h2 h1 (x := kB V 401 (sh) (x6).toNatClampNeg) rfl ?_
  refine w_astore mb12 dX2_closeRing_33 35 rfl [v0, v1, v2, v3, sR (some (kr V 401 sh)), v5, sI (x6), sR (kB V 401 (sh) (x6).toNatClampNeg)] (Nat.le_of_ble_eq_true rfl) rfl ?_
  refine w_aload mb12 dX2_closeRing_35 37 rfl rfl ?_
  refine w_ifnull mb12 dX2_closeRing_37 81 40 (by decide) rfl (fun z => ?_) (fun z => ?_)
  · exact K1 z h R
  · exact K2 z h R

theorem bX2_closeRing_40 {d : Nat} {Fg : Nat → Prop} {h0 : hp} {Q : Option sV → kV → Prop} {V : kV} {bc bs : Nat} {v0 : sV} {a1 : Nat} {v2 : sV} {v3 : sV} {v4 : sV} {v5 : sV} {v6 : sV} {a7 : Nat} (h1 : kC V (a7) = 4) (h2 : kC V (a1) = 4) (K1 : (kI V 311 (a7)) < (kI V 311 (a1)) → cWP d Fg h0 12 Q 81 [v0, sR (some a1), v2, v3, v4, v5, v6, sR (some a7)] [] V bc bs) (K2 : ¬ (kI V 311 (a7)) < (kI V 311 (a1)) → cWP d Fg h0 12 Q 52 [v0, sR (some a1), v2, v3, v4, v5, v6, sR (some a7)] [] V bc bs) : cWP d Fg h0 12 Q 40 [v0, sR (some a1), v2, v3, v4, v5, v6, sR (some a7)] [] V bc bs := by
  intro h R
  refine w_aload mb12 dX2_closeRing_40 42 rfl rfl ?_
  refine y_geti mb12 dX2_closeRing_42 45 rfl R 311 lf2_93 rfl rfl rfl h1 (x := kI V 311 (a7)) (by first | rfl | exact if_pos ⟨rfl, rfl⟩) ?_
  refine w_aload_n mb12 dX2_closeRing_45 46 rfl rfl ?_
  refine y_geti mb12 dX2_closeRing_46 49 rfl R 311 lf2_93 rfl rfl rfl h2 (x := kI V 311 (a1)) (by first | rfl | exact if_pos ⟨rfl, rfl⟩) ?_
  refine w_icmp_lt mb12 dX2_closeRing_49 81 52 (by decide) rfl (fun z => ?_) (fun z => ?_)
  · exact K1 z h R
  · exact K2 z h R
