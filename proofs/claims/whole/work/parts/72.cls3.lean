theorem bX3_keepSpare_34 {d : Nat} {Fg : Nat → Prop} {h0 : hp} {Q : Option sV → kV → Prop} {V : kV} {bc bs : Nat} {v0 : sV} {v1 : sV} (K : Q (none) V) : cWP d Fg h0 28 Q 34 [v0, v1] [] V bc bs := by
  intro h R
  refine w_vret mb28 dX3_keepSpare_34 rfl ?_
  exact ⟨_, R, K⟩

theorem bX3_bringForward_0 {d : Nat} {Fg : Nat → Prop} {h0 : hp} {Q : Option sV → kV → Prop} {V : kV} {bc bs : Nat} {v0 : sV} {x1 : Int32} {v2 : sV} {v3 : sV} (K1 : (x1) < 0 → cWP d Fg h0 29 Q 9 [v0, sI (x1), v2, v3] [] V bc bs) (K2 : ¬ (x1) < 0 → cWP d Fg h0 29 Q 4 [v0, sI (x1), v2, v3] [] V bc bs) : cWP d Fg h0 29 Q 0 [v0, sI (x1), v2, v3] [] V bc bs := by
  intro h R
  refine w_iload_n mb29 dX3_bringForward_0 1 rfl rfl ?_
  refine w_if_lt mb29 dX3_bringForward_1 9 4 (by decide) rfl (fun z => ?_) (fun z => ?_)
  · exact K1 z h R
  · exact K2 z h R

theorem bX3_bringForward_4 {d : Nat} {Fg : Nat → Prop} {h0 : hp} {Q : Option sV → kV → Prop} {V : kV} {bc bs : Nat} {v0 : sV} {x1 : Int32} {v2 : sV} {v3 : sV} (K1 : (x1) ≤ (4) → cWP d Fg h0 29 Q 10 [v0, sI (x1), v2, v3] [] V bc bs) (K2 : ¬ (x1) ≤ (4) → cWP d Fg h0 29 Q 9 [v0, sI (x1), v2, v3] [] V bc bs) : cWP d Fg h0 29 Q 4 [v0, sI (x1), v2, v3] [] V bc bs := by
  intro h R
  refine w_iload_n mb29 dX3_bringForward_4 5 rfl rfl ?_
  refine w_iconst mb29 dX3_bringForward_5 6 rfl (4) (by decide) ?_
  refine w_icmp_le mb29 dX3_bringForward_6 10 9 (by decide) rfl (fun z => ?_) (fun z => ?_)
  · exact K1 z h R
  · exact K2 z h R

theorem bX3_bringForward_9 {d : Nat} {Fg : Nat → Prop} {h0 : hp} {Q : Option sV → kV → Prop} {V : kV} {bc bs : Nat} {v0 : sV} {v1 : sV} {v2 : sV} {v3 : sV} (K : Q (none) V) : cWP d Fg h0 29 Q 9 [v0, v1, v2, v3] [] V bc bs := by
  intro h R
  refine w_vret mb29 dX3_bringForward_9 rfl ?_
  exact ⟨_, R, K⟩

theorem bX3_bringForward_10 {d : Nat} {Fg : Nat → Prop} {h0 : hp} {Q : Option sV → kV → Prop} {V : kV} {bc bs : Nat} {a0 : Nat} {x1 : Int32} {v2 : sV} {v3 : sV} (h1 : kC V (a0) = 4) (h2 : vp_in (x1) 5) (K : cWP d Fg h0 29 Q 19 [sR (some a0), sI (x1), sR (kB V 306 (a0) (x1).toNatClampNeg), sI (x1)] [] V bc bs) : cWP d Fg h0 29 Q 10 [sR (some a0), sI (x1), v2, v3] [] V bc bs := by
  intro h R
  refine w_aload_n mb29 dX3_bringForward_10 11 rfl rfl ?_
  refine y_geta mb29 dX3_bringForward_11 14 rfl R 306 lf3_17 rfl rfl rfl (by decide) h1 ?_
  refine w_iload_n mb29 dX3_bringForward_14 15 rfl rfl ?_
  refine y_aald (f := 306) (a := a0) (c := 4) mb29 dX3_bringForward_15 16 rfl R 5 rfl (by decide) (by decide) rfl h1 h2 (x := kB V 306 (a0) (x1).toNatClampNeg) rfl ?_
  refine w_astore_n mb29 dX3_bringForward_16 17 rfl [sR (some a0), sI (x1), sR (kB V 306 (a0) (x1).toNatClampNeg), v3] (Nat.le_of_ble_eq_true rfl) rfl ?_
  refine w_iload_n mb29 dX3_bringForward_17 18 rfl rfl ?_
  refine w_istore_n mb29 dX3_bringForward_18 19 rfl [sR (some a0), sI (x1), sR (kB V 306 (a0) (x1).toNatClampNeg), sI (x1)] (Nat.le_of_ble_eq_true rfl) rfl ?_
  exact K h R

theorem bX3_bringForward_19 {d : Nat} {Fg : Nat → Prop} {h0 : hp} {Q : Option sV → kV → Prop} {V : kV} {bc bs : Nat} {v0 : sV} {v1 : sV} {v2 : sV} {x3 : Int32} (K1 : (x3) ≤ 0 → cWP d Fg h0 29 Q 43 [v0, v1, v2, sI (x3)] [] V bc bs) (K2 : ¬ (x3) ≤ 0 → cWP d Fg h0 29 Q 23 [v0, v1, v2, sI (x3)] [] V bc bs) : cWP d Fg h0 29 Q 19 [v0, v1, v2, sI (x3)] [] V bc bs := by
  intro h R
  refine w_iload_n mb29 dX3_bringForward_19 20 rfl rfl ?_
  refine w_if_le mb29 dX3_bringForward_20 43 23 (by decide) rfl (fun z => ?_) (fun z => ?_)
  · exact K1 z h R
  · exact K2 z h R

theorem bX3_bringForward_23 {d : Nat} {Fg : Nat → Prop} {h0 : hp} {Q : Option sV → kV → Prop} {V : kV} {bc bs : Nat} {a0 : Nat} {v1 : sV} {v2 : sV} {x3 : Int32} (h1 : kC V (a0) = 4) (h2 : vp_in ((x3) - (1)) 5) (h3 : vp_in (x3) 5) (h4 : ∀ b, (kB V 306 (a0) ((x3) - (1)).toNatClampNeg) = some b → kC V b = 6) (K : cWP d Fg h0 29 Q 19 [sR (some a0), v1, v2, sI (x3 + (-1))] [] (uB V (306) (a0) ((x3).toNatClampNeg) (kB V 306 (a0) ((x3) - (1)).toNatClampNeg)) bc bs) : cWP d Fg h0 29 Q 23 [sR (some a0), v1, v2, sI (x3)] [] V bc bs := by
  intro h R
  refine w_aload_n mb29 dX3_bringForward_23 24 rfl rfl ?_
  refine y_geta mb29 dX3_bringForward_24 27 rfl R 306 lf3_17 rfl rfl rfl (by decide) h1 ?_
  refine w_iload_n mb29 dX3_bringForward_27 28 rfl rfl ?_
  refine w_aload_n mb29 dX3_bringForward_28 29 rfl rfl ?_
  refine y_geta mb29 dX3_bringForward_29 32 rfl R 306 lf3_17 rfl rfl rfl (by decide) h1 ?_
  refine w_iload_n mb29 dX3_bringForward_32 33 rfl rfl ?_
  refine w_iconst mb29 dX3_bringForward_33 34 rfl (1) (by decide) ?_
  refine w_isub mb29 dX3_bringForward_34 35 rfl ?_
  refine y_aald (f := 306) (a := a0) (c := 4) mb29 dX3_bringForward_35 36 rfl R 5 rfl (by decide) (by decide) rfl h1 h2 (x := kB V 306 (a0) ((x3) - (1)).toNatClampNeg) rfl ?_
  refine y_aast (f := 306) (a := a0) (c := 4) mb29 dX3_bringForward_36 37 rfl R 5 rfl (by decide) (by decide) rfl h1 h3 5 rfl h4 (fun h R => ?_)
  refine w_iinc mb29 dX3_bringForward_37 40 rfl rfl (x3 + (-1)) rfl [sR (some a0), v1, v2, sI (x3 + (-1))] rfl ?_
  refine w_goto mb29 dX3_bringForward_40 19 (by decide) ?_
  exact K h R

theorem bX3_bringForward_43 {d : Nat} {Fg : Nat → Prop} {h0 : hp} {Q : Option sV → kV → Prop} {V : kV} {bc bs : Nat} {a0 : Nat} {v1 : sV} {r2 : Option Nat} {v3 : sV} (h1 : kC V (a0) = 4) (h2 : vp_in (0) 5) (h3 : ∀ b, (r2) = some b → kC V b = 6) (K : Q (none) (uB V (306) (a0) ((0 : Int32).toNatClampNeg) (r2))) : cWP d Fg h0 29 Q 43 [sR (some a0), v1, sR (r2), v3] [] V bc bs := by
  intro h R
  refine w_aload_n mb29 dX3_bringForward_43 44 rfl rfl ?_
  refine y_geta mb29 dX3_bringForward_44 47 rfl R 306 lf3_17 rfl rfl rfl (by decide) h1 ?_
  refine w_iconst mb29 dX3_bringForward_47 48 rfl (0) (by decide) ?_
  refine w_aload_n mb29 dX3_bringForward_48 49 rfl rfl ?_
  refine y_aast (f := 306) (a := a0) (c := 4) mb29 dX3_bringForward_49 50 rfl R 5 rfl (by decide) (by decide) rfl h1 h2 5 rfl h3 (fun h R => ?_)
  refine w_vret mb29 dX3_bringForward_50 rfl ?_
  exact ⟨_, R, K⟩

theorem bX3_beginRound_0 {d : Nat} {Fg : Nat → Prop} {h0 : hp} {Q : Option sV → kV → Prop} {V : kV} {bc bs : Nat} {a0 : Nat} {x1 : Int32} (h1 : kC V (a0) = 4) (K1 : ¬ (x1) = 0 → cWP d Fg h0 30 Q 22 [sR (some a0), sI (x1)] [] (uR (uR V (308) (a0) (none)) (309) (a0) (none)) bc bs) (K2 : (x1) = 0 → cWP d Fg h0 30 Q 14 [sR (some a0), sI (x1)] [] (uR (uR V (308) (a0) (none)) (309) (a0) (none)) bc bs) : cWP d Fg h0 30 Q 0 [sR (some a0), sI (x1)] [] V bc bs := by
  intro h R
  refine w_aload_n mb30 dX3_beginRound_0 1 rfl rfl ?_
  refine w_null mb30 dX3_beginRound_1 2 rfl ?_
  refine y_putr mb30 dX3_beginRound_2 5 rfl R 308 (lp3_70 _) (by first | exact Or.inl ⟨_, rfl⟩ | exact Or.inr ⟨_, rfl⟩) rfl rfl rfl h1 (fun h R => ?_)
  refine w_aload_n mb30 dX3_beginRound_5 6 rfl rfl ?_
  refine w_null mb30 dX3_beginRound_6 7 rfl ?_
  refine y_putr mb30 dX3_beginRound_7 10 rfl R 309 (lp3_73 _) (by first | exact Or.inl ⟨_, rfl⟩ | exact Or.inr ⟨_, rfl⟩) rfl rfl rfl h1 (fun h R => ?_)
  refine w_iload_n mb30 dX3_beginRound_10 11 rfl rfl ?_
  refine w_if_ne mb30 dX3_beginRound_11 22 14 (by decide) rfl (fun z => ?_) (fun z => ?_)
  · exact K1 z h R
  · exact K2 z h R

theorem bX3_beginRound_14 {d : Nat} {Fg : Nat → Prop} {h0 : hp} {Q : Option sV → kV → Prop} {V : kV} {bc bs : Nat} {a0 : Nat} {v1 : sV} (h1 : kC V (a0) = 4) {bc1 bs1 : Nat} {P : Option sV → kV → Prop} (C : cM d Fg h0 126 [sR (some (kr V 307 (a0))), sI ((-1))] V bc1 bs1 P) (hbc : bc1 ≤ bc) (hbs : bs1 ≤ bs) (K : ∀ r V1, P r V1 → cWP d Fg h0 30 Q 22 [sR (some a0), v1] (r.toList ++ []) V1 (bc - bc1) (bs - bs1)) : cWP d Fg h0 30 Q 14 [sR (some a0), v1] [] V bc bs := by
  intro h R
  refine w_aload_n mb30 dX3_beginRound_14 15 rfl rfl ?_
  refine y_geta mb30 dX3_beginRound_15 18 rfl R 307 lf3_21 rfl rfl rfl (by decide) h1 ?_
  refine w_iconst mb30 dX3_beginRound_18 19 rfl ((-1)) (by decide) ?_
  refine w_static (st := []) mb30 dX3_beginRound_19 22 rfl 126 2 [sR (some (kr V 307 (a0))), sI ((-1))] _ rfl rfl rfl lc3_46 (Nat.le_of_ble_eq_true rfl) (C h R) hbc hbs (fun r h1 hP => ?_)
  obtain ⟨V1, R1, hP⟩ := hP
  exact K r V1 hP h1 R1

theorem bX3_beginRound_22 {d : Nat} {Fg : Nat → Prop} {h0 : hp} {Q : Option sV → kV → Prop} {V : kV} {bc bs : Nat} {v0 : sV} {v1 : sV} (K : Q (none) V) : cWP d Fg h0 30 Q 22 [v0, v1] [] V bc bs := by
  intro h R
  refine w_vret mb30 dX3_beginRound_22 rfl ?_
  exact ⟨_, R, K⟩

theorem bX4_sourceAt_0 {d : Nat} {Fg : Nat → Prop} {h0 : hp} {Q : Option sV → kV → Prop} {V : kV} {bc bs : Nat} {v0 : sV} {x1 : Int32} (K1 : (x1) < 0 → cWP d Fg h0 32 Q 19 [v0, sI (x1)] [] V bc bs) (K2 : ¬ (x1) < 0 → cWP d Fg h0 32 Q 4 [v0, sI (x1)] [] V bc bs) : cWP d Fg h0 32 Q 0 [v0, sI (x1)] [] V bc bs := by
  intro h R
  refine w_iload_n mb32 dX4_sourceAt_0 1 rfl rfl ?_
  refine w_if_lt mb32 dX4_sourceAt_1 19 4 (by decide) rfl (fun z => ?_) (fun z => ?_)
  · exact K1 z h R
  · exact K2 z h R

theorem bX4_sourceAt_4 {d : Nat} {Fg : Nat → Prop} {h0 : hp} {Q : Option sV → kV → Prop} {V : kV} {bc bs : Nat} {v0 : sV} {x1 : Int32} (K1 : (16) ≤ (x1) → cWP d Fg h0 32 Q 19 [v0, sI (x1)] [] V bc bs) (K2 : ¬ (16) ≤ (x1) → cWP d Fg h0 32 Q 10 [v0, sI (x1)] [] V bc bs) : cWP d Fg h0 32 Q 4 [v0, sI (x1)] [] V bc bs := by
  intro h R
  refine w_iload_n mb32 dX4_sourceAt_4 5 rfl rfl ?_
  refine w_bipush mb32 dX4_sourceAt_5 7 rfl (16) (by decide) ?_
  refine w_icmp_ge mb32 dX4_sourceAt_7 19 10 (by decide) rfl (fun z => ?_) (fun z => ?_)
  · exact K1 z h R
  · exact K2 z h R

theorem bX4_sourceAt_10 {d : Nat} {Fg : Nat → Prop} {h0 : hp} {Q : Option sV → kV → Prop} {V : kV} {bc bs : Nat} {a0 : Nat} {x1 : Int32} (h1 : kC V (a0) = 5) (h2 : vp_in (x1) 16) (K : cWP d Fg h0 32 Q 20 [sR (some a0), sI (x1)] [sR (kB V 400 (a0) (x1).toNatClampNeg)] V bc bs) : cWP d Fg h0 32 Q 10 [sR (some a0), sI (x1)] [] V bc bs := by
  intro h R
  refine w_aload_n mb32 dX4_sourceAt_10 11 rfl rfl ?_
  refine y_geta mb32 dX4_sourceAt_11 14 rfl R 400 lf4_11 rfl rfl rfl (by decide) h1 ?_
  refine w_iload_n mb32 dX4_sourceAt_14 15 rfl rfl ?_
  refine y_aald (f := 400) (a := a0) (c := 5) mb32 dX4_sourceAt_15 16 rfl R 16 rfl (by decide) (by decide) rfl h1 h2 (x := kB V 400 (a0) (x1).toNatClampNeg) rfl ?_
  refine w_goto mb32 dX4_sourceAt_16 20 (by decide) ?_
  exact K h R

theorem bX4_sourceAt_19 {d : Nat} {Fg : Nat → Prop} {h0 : hp} {Q : Option sV → kV → Prop} {V : kV} {bc bs : Nat} {v0 : sV} {v1 : sV} (K : cWP d Fg h0 32 Q 20 [v0, v1] [sR (none)] V bc bs) : cWP d Fg h0 32 Q 19 [v0, v1] [] V bc bs := by
  intro h R
  refine w_null mb32 dX4_sourceAt_19 20 rfl ?_
  exact K h R

theorem bX4_sourceAt_20 {d : Nat} {Fg : Nat → Prop} {h0 : hp} {Q : Option sV → kV → Prop} {V : kV} {bc bs : Nat} {v0 : sV} {v1 : sV} {z0 : Option Nat} (K : Q (some (sR (z0))) V) : cWP d Fg h0 32 Q 20 [v0, v1] [sR (z0)] V bc bs := by
  intro h R
  refine w_aret mb32 dX4_sourceAt_20 _ rfl (by first | exact Or.inl ⟨_, rfl⟩ | exact Or.inr ⟨_, rfl⟩) ?_
  exact ⟨_, R, K⟩

theorem bX4_putRow_0 {d : Nat} {Fg : Nat → Prop} {h0 : hp} {Q : Option sV → kV → Prop} {V : kV} {bc bs : Nat} {a0 : Nat} {x1 : Int32} {v2 : sV} (h1 : kC V (a0) = 5) (h2 : 1 ≤ bc) (h3 : 3 ≤ bs) (K : ∀ y, ¬ kD V y → cWP d Fg h0 33 Q 8 [sR (some a0), sI (x1), v2] [sR (some y), sI (x1), sR (some (kr V 400 (a0)))] (uN V y 2) (bc - 1) (bs - 3)) : cWP d Fg h0 33 Q 0 [sR (some a0), sI (x1), v2] [] V bc bs := by
  intro h R
  refine w_aload_n mb33 dX4_putRow_0 1 rfl rfl ?_
  refine y_geta mb33 dX4_putRow_1 4 rfl R 400 lf4_11 rfl rfl rfl (by decide) h1 ?_
  refine w_iload_n mb33 dX4_putRow_4 5 rfl rfl ?_
  refine y_newO mb33 dX4_putRow_5 8 rfl R ln4_9 h2 h3 (fun y h hy R => ?_)
  exact K y hy h R

theorem bX4_putRow_8 {d : Nat} {Fg : Nat → Prop} {h0 : hp} {Q : Option sV → kV → Prop} {V : kV} {bc bs : Nat} {v0 : sV} {v1 : sV} {r2 : Option Nat} {z0 : Option Nat} {y1 : Int32} {z2 : Nat} {bc1 bs1 : Nat} {P : Option sV → kV → Prop} (C : cM d Fg h0 2 [sR (some z2), sI (0), sI (0), sR (r2)] V bc1 bs1 P) (hbc : bc1 ≤ bc) (hbs : bs1 ≤ bs) (K : ∀ r V1, P r V1 → cWP d Fg h0 33 Q 15 [v0, v1, sR (r2)] (r.toList ++ [sR (some z2), sI (y1), sR (z0)]) V1 (bc - bc1) (bs - bs1)) : cWP d Fg h0 33 Q 8 [v0, v1, sR (r2)] [sR (some z2), sI (y1), sR (z0)] V bc bs := by
  intro h R
  refine w_dup mb33 dX4_putRow_8 9 rfl rfl ?_
  refine w_iconst mb33 dX4_putRow_9 10 rfl (0) (by decide) ?_
  refine w_iconst mb33 dX4_putRow_10 11 rfl (0) (by decide) ?_
  refine w_aload_n mb33 dX4_putRow_11 12 rfl rfl ?_
  refine w_special (a := z2) (st := [sR (some z2), sI (y1), sR (z0)]) mb33 dX4_putRow_12 15 rfl 2 3 [sI (0), sI (0), sR (r2)] _ rfl rfl rfl lc4_30 (Nat.le_of_ble_eq_true rfl) (C h R) hbc hbs (fun r h1 hP => ?_)
  obtain ⟨V1, R1, hP⟩ := hP
  exact K r V1 hP h1 R1

theorem bX4_putRow_15 {d : Nat} {Fg : Nat → Prop} {h0 : hp} {Q : Option sV → kV → Prop} {V : kV} {bc bs : Nat} {v0 : sV} {v1 : sV} {v2 : sV} {sh : Nat} {y1 : Int32} {z2 : Option Nat} (h1 : vp_in (y1) 16) (h2 : ∀ b, (z2) = some b → ∃ o, kO V b = some o) (h3 : kC V (sh) = 5) (K : Q (none) (uB V (400) (sh) ((y1).toNatClampNeg) (z2))) : cWP d Fg h0 33 Q 15 [v0, v1, v2] [sR (z2), sI (y1), sR (some (kr V 400 sh))] V bc bs := by
  intro h R
  refine y_aastO (f := 400) (a := sh) (c := 5) mb33 dX4_putRow_15 16 rfl R 16 rfl (by decide) rfl rfl h3 h1 h2 (fun h R => ?_)
  refine w_vret mb33 dX4_putRow_16 rfl ?_
  exact ⟨_, R, K⟩

theorem bX4_ruleAt_0 {d : Nat} {Fg : Nat → Prop} {h0 : hp} {Q : Option sV → kV → Prop} {V : kV} {bc bs : Nat} {v0 : sV} {x1 : Int32} (K1 : (x1) < 0 → cWP d Fg h0 34 Q 21 [v0, sI (x1)] [] V bc bs) (K2 : ¬ (x1) < 0 → cWP d Fg h0 34 Q 4 [v0, sI (x1)] [] V bc bs) : cWP d Fg h0 34 Q 0 [v0, sI (x1)] [] V bc bs := by
  intro h R
  refine w_iload_n mb34 dX4_ruleAt_0 1 rfl rfl ?_
  refine w_if_lt mb34 dX4_ruleAt_1 21 4 (by decide) rfl (fun z => ?_) (fun z => ?_)
  · exact K1 z h R
  · exact K2 z h R

theorem bX4_ruleAt_4 {d : Nat} {Fg : Nat → Prop} {h0 : hp} {Q : Option sV → kV → Prop} {V : kV} {bc bs : Nat} {a0 : Nat} {x1 : Int32} (h1 : kC V (a0) = 5) (K1 : (kI V 402 (a0)) ≤ (x1) → cWP d Fg h0 34 Q 21 [sR (some a0), sI (x1)] [] V bc bs) (K2 : ¬ (kI V 402 (a0)) ≤ (x1) → cWP d Fg h0 34 Q 12 [sR (some a0), sI (x1)] [] V bc bs) : cWP d Fg h0 34 Q 4 [sR (some a0), sI (x1)] [] V bc bs := by
  intro h R
  refine w_iload_n mb34 dX4_ruleAt_4 5 rfl rfl ?_
  refine w_aload_n mb34 dX4_ruleAt_5 6 rfl rfl ?_
  refine y_geti mb34 dX4_ruleAt_6 9 rfl R 402 lf4_33 rfl rfl rfl h1 (x := kI V 402 (a0)) (by first | rfl | exact if_pos ⟨rfl, rfl⟩) ?_
  refine w_icmp_ge mb34 dX4_ruleAt_9 21 12 (by decide) rfl (fun z => ?_) (fun z => ?_)
  · exact K1 z h R
  · exact K2 z h R

theorem bX4_ruleAt_12 {d : Nat} {Fg : Nat → Prop} {h0 : hp} {Q : Option sV → kV → Prop} {V : kV} {bc bs : Nat} {a0 : Nat} {x1 : Int32} (h1 : kC V (a0) = 5) (h2 : vp_in (x1) 24) (K : cWP d Fg h0 34 Q 22 [sR (some a0), sI (x1)] [sR (kB V 401 (a0) (x1).toNatClampNeg)] V bc bs) : cWP d Fg h0 34 Q 12 [sR (some a0), sI (x1)] [] V bc bs := by
  intro h R
  refine w_aload_n mb34 dX4_ruleAt_12 13 rfl rfl ?_
  refine y_geta mb34 dX4_ruleAt_13 16 rfl R 401 lf4_19 rfl rfl rfl (by decide) h1 ?_
  refine w_iload_n mb34 dX4_ruleAt_16 17 rfl rfl ?_
  refine y_aald (f := 401) (a := a0) (c := 5) mb34 dX4_ruleAt_17 18 rfl R 24 rfl (by decide) (by decide) rfl h1 h2 (x := kB V 401 (a0) (x1).toNatClampNeg) rfl ?_
  refine w_goto mb34 dX4_ruleAt_18 22 (by decide) ?_
  exact K h R

theorem bX4_ruleAt_21 {d : Nat} {Fg : Nat → Prop} {h0 : hp} {Q : Option sV → kV → Prop} {V : kV} {bc bs : Nat} {v0 : sV} {v1 : sV} (K : cWP d Fg h0 34 Q 22 [v0, v1] [sR (none)] V bc bs) : cWP d Fg h0 34 Q 21 [v0, v1] [] V bc bs := by
  intro h R
  refine w_null mb34 dX4_ruleAt_21 22 rfl ?_
  exact K h R

theorem bX4_ruleAt_22 {d : Nat} {Fg : Nat → Prop} {h0 : hp} {Q : Option sV → kV → Prop} {V : kV} {bc bs : Nat} {v0 : sV} {v1 : sV} {z0 : Option Nat} (K : Q (some (sR (z0))) V) : cWP d Fg h0 34 Q 22 [v0, v1] [sR (z0)] V bc bs := by
  intro h R
  refine w_aret mb34 dX4_ruleAt_22 _ rfl (by first | exact Or.inl ⟨_, rfl⟩ | exact Or.inr ⟨_, rfl⟩) ?_
  exact ⟨_, R, K⟩

theorem bX4_addRule_13 {d : Nat} {Fg : Nat → Prop} {h0 : hp} {Q : Option sV → kV → Prop} {V : kV} {bc bs : Nat} {v0 : sV} {x1 : Int32} {x2 : Int32} {x3 : Int32} {z0 : Option Nat} {y1 : Int32} {z2 : Nat} {bc1 bs1 : Nat} {P : Option sV → kV → Prop} (C : cM d Fg h0 23 [sR (some z2), sI (x3), sI (x1), sI (x2)] V bc1 bs1 P) (hbc : bc1 ≤ bc) (hbs : bs1 ≤ bs) (K : ∀ r V1, P r V1 → cWP d Fg h0 35 Q 20 [v0, sI (x1), sI (x2), sI (x3)] (r.toList ++ [sR (some z2), sI (y1), sR (z0)]) V1 (bc - bc1) (bs - bs1)) : cWP d Fg h0 35 Q 13 [v0, sI (x1), sI (x2), sI (x3)] [sR (some z2), sI (y1), sR (z0)] V bc bs := by
  intro h R
  refine w_dup mb35 dX4_addRule_13 14 rfl rfl ?_
  refine w_iload_n mb35 dX4_addRule_14 15 rfl rfl ?_
  refine w_iload_n mb35 dX4_addRule_15 16 rfl rfl ?_
  refine w_iload_n mb35 dX4_addRule_16 17 rfl rfl ?_
  refine w_special (a := z2) (st := [sR (some z2), sI (y1), sR (z0)]) mb35 dX4_addRule_17 20 rfl 23 3 [sI (x3), sI (x1), sI (x2)] _ rfl rfl rfl lc4_37 (Nat.le_of_ble_eq_true rfl) (C h R) hbc hbs (fun r h1 hP => ?_)
  obtain ⟨V1, R1, hP⟩ := hP
  exact K r V1 hP h1 R1

theorem bX4_addRule_20 {d : Nat} {Fg : Nat → Prop} {h0 : hp} {Q : Option sV → kV → Prop} {V : kV} {bc bs : Nat} {a0 : Nat} {v1 : sV} {v2 : sV} {x3 : Int32} {sh : Nat} {y1 : Int32} {z2 : Option Nat} (h1 : vp_in (y1) 24) (h2 : ∀ b, (z2) = some b → kC V b = 4) (h3 : kC V (sh) = 5) (h4 : kC V (a0) = 5) (K : Q (some (sI (x3))) (uI (uB V (401) (sh) ((y1).toNatClampNeg) (z2)) (402) (a0) ((kI V 402 (a0)) + (1)))) : cWP d Fg h0 35 Q 20 [sR (some a0), v1, v2, sI (x3)] [sR (z2), sI (y1), sR (some (kr V 401 sh))] V bc bs := by
  intro h R
  refine y_aast (f := 401) (a := sh) (c := 5) mb35 dX4_addRule_20 21 rfl R 24 rfl (by decide) (by decide) rfl h3 h1 3 rfl h2 (fun h R => ?_)
  refine w_aload_n mb35 dX4_addRule_21 22 rfl rfl ?_
  refine w_dup mb35 dX4_addRule_22 23 rfl rfl ?_
  refine y_geti mb35 dX4_addRule_23 26 rfl R 402 lf4_33 rfl rfl rfl h4 (x := kI V 402 (a0)) (by first | rfl | exact if_pos ⟨rfl, rfl⟩) ?_
  refine w_iconst mb35 dX4_addRule_26 27 rfl (1) (by decide) ?_
  refine w_iadd mb35 dX4_addRule_27 28 rfl ?_
  refine y_puti mb35 dX4_addRule_28 31 rfl R 402 (lp4_33 _) rfl rfl rfl h4 (fun h R => ?_)
  refine w_iload_n mb35 dX4_addRule_31 32 rfl rfl ?_
  refine w_iret mb35 dX4_addRule_32 rfl ?_
  exact ⟨_, R, K⟩

theorem bX4_keptTraces_0 {d : Nat} {Fg : Nat → Prop} {h0 : hp} {Q : Option sV → kV → Prop} {V : kV} {bc bs : Nat} {a0 : Nat} {v1 : sV} {v2 : sV} {v3 : sV} {v4 : sV} {v5 : sV} (h1 : kC V (a0) = 5) (K : cWP d Fg h0 36 Q 13 [sR (some a0), sI (0), sR (some (kr V 401 (a0))), sI (24), sI (0), v5] [] V bc bs) : cWP d Fg h0 36 Q 0 [sR (some a0), v1, v2, v3, v4, v5] [] V bc bs := by
  intro h R
  refine w_iconst mb36 dX4_keptTraces_0 1 rfl (0) (by decide) ?_
  refine w_istore_n mb36 dX4_keptTraces_1 2 rfl [sR (some a0), sI (0), v2, v3, v4, v5] (Nat.le_of_ble_eq_true rfl) rfl ?_
  refine w_aload_n mb36 dX4_keptTraces_2 3 rfl rfl ?_
  refine y_geta mb36 dX4_keptTraces_3 6 rfl R 401 lf4_19 rfl rfl rfl (by decide) h1 ?_
  refine w_astore_n mb36 dX4_keptTraces_6 7 rfl [sR (some a0), sI (0), sR (some (kr V 401 (a0))), v3, v4, v5] (Nat.le_of_ble_eq_true rfl) rfl ?_
  refine w_aload_n mb36 dX4_keptTraces_7 8 rfl rfl ?_
  refine y_alen (f := 401) (a := a0) (c := 5) mb36 dX4_keptTraces_8 9 rfl R (24) (by decide) (by decide) rfl h1 ?_
  refine w_istore_n mb36 dX4_keptTraces_9 10 rfl [sR (some a0), sI (0), sR (some (kr V 401 (a0))), sI (24), v4, v5] (Nat.le_of_ble_eq_true rfl) rfl ?_
  refine w_iconst mb36 dX4_keptTraces_10 11 rfl (0) (by decide) ?_
  refine w_istore mb36 dX4_keptTraces_11 13 rfl [sR (some a0), sI (0), sR (some (kr V 401 (a0))), sI (24), sI (0), v5] (Nat.le_of_ble_eq_true rfl) rfl ?_
  exact K h R

theorem bX4_keptTraces_13 {d : Nat} {Fg : Nat → Prop} {h0 : hp} {Q : Option sV → kV → Prop} {V : kV} {bc bs : Nat} {v0 : sV} {v1 : sV} {v2 : sV} {x3 : Int32} {x4 : Int32} {v5 : sV} (K1 : (x3) ≤ (x4) → cWP d Fg h0 36 Q 48 [v0, v1, v2, sI (x3), sI (x4), v5] [] V bc bs) (K2 : ¬ (x3) ≤ (x4) → cWP d Fg h0 36 Q 19 [v0, v1, v2, sI (x3), sI (x4), v5] [] V bc bs) : cWP d Fg h0 36 Q 13 [v0, v1, v2, sI (x3), sI (x4), v5] [] V bc bs := by
  intro h R
  refine w_iload mb36 dX4_keptTraces_13 15 rfl rfl ?_
  refine w_iload_n mb36 dX4_keptTraces_15 16 rfl rfl ?_
  refine w_icmp_ge mb36 dX4_keptTraces_16 48 19 (by decide) rfl (fun z => ?_) (fun z => ?_)
  · exact K1 z h R
  · exact K2 z h R

theorem bX4_keptTraces_19 {d : Nat} {Fg : Nat → Prop} {h0 : hp} {Q : Option sV → kV → Prop} {V : kV} {bc bs : Nat} {v0 : sV} {x1 : Int32} {sh : Nat} {v3 : sV} {x4 : Int32} {v5 : sV} (h1 : vp_in (x4) 24) (h2 : kC V (sh) = 5) (K1 : ¬ (kB V 401 (sh) (x4).toNatClampNeg) = none → cWP d Fg h0 36 Q 35 [v0, sI (x1), sR (some (kr V 401 sh)), v3, sI (x4), sR (kB V 401 (sh) (x4).toNatClampNeg)] [sI (x1)] V bc bs) (K2 : (kB V 401 (sh) (x4).toNatClampNeg) = none → cWP d Fg h0 36 Q 31 [v0, sI (x1), sR (some (kr V 401 sh)), v3, sI (x4), sR (kB V 401 (sh) (x4).toNatClampNeg)] [sI (x1)] V bc bs) : cWP d Fg h0 36 Q 19 [v0, sI (x1), sR (some (kr V 401 sh)), v3, sI (x4), v5] [] V bc bs := by
  intro h R
  refine w_aload_n mb36 dX4_keptTraces_19 20 rfl rfl ?_
  refine w_iload mb36 dX4_keptTraces_20 22 rfl rfl ?_
  refine y_aald (f := 401) (a := sh) (c := 5) mb36 dX4_keptTraces_22 23 rfl R 24 rfl (by decide) (by decide) rfl h2 h1 (x := kB V 401 (sh) (x4).toNatClampNeg) rfl ?_
  refine w_astore mb36 dX4_keptTraces_23 25 rfl [v0, sI (x1), sR (some (kr V 401 sh)), v3, sI (x4), sR (kB V 401 (sh) (x4).toNatClampNeg)] (Nat.le_of_ble_eq_true rfl) rfl ?_
  refine w_iload_n mb36 dX4_keptTraces_25 26 rfl rfl ?_
  refine w_aload mb36 dX4_keptTraces_26 28 rfl rfl ?_
  refine w_ifnonnull mb36 dX4_keptTraces_28 35 31 (by decide) rfl (fun z => ?_) (fun z => ?_)
  · exact K1 z h R
  · exact K2 z h R

theorem bX4_keptTraces_31 {d : Nat} {Fg : Nat → Prop} {h0 : hp} {Q : Option sV → kV → Prop} {V : kV} {bc bs : Nat} {v0 : sV} {v1 : sV} {v2 : sV} {v3 : sV} {v4 : sV} {v5 : sV} {y0 : Int32} (K : cWP d Fg h0 36 Q 40 [v0, v1, v2, v3, v4, v5] [sI (0), sI (y0)] V bc bs) : cWP d Fg h0 36 Q 31 [v0, v1, v2, v3, v4, v5] [sI (y0)] V bc bs := by
  intro h R
  refine w_iconst mb36 dX4_keptTraces_31 32 rfl (0) (by decide) ?_
  refine w_goto mb36 dX4_keptTraces_32 40 (by decide) ?_
  exact K h R

theorem bX4_keptTraces_35 {d : Nat} {Fg : Nat → Prop} {h0 : hp} {Q : Option sV → kV → Prop} {V : kV} {bc bs : Nat} {v0 : sV} {v1 : sV} {v2 : sV} {v3 : sV} {v4 : sV} {a5 : Nat} {y0 : Int32} (h1 : kC V (a5) = 4) (K : cWP d Fg h0 36 Q 40 [v0, v1, v2, v3, v4, sR (some a5)] [sI (kI V 305 (a5)), sI (y0)] V bc bs) : cWP d Fg h0 36 Q 35 [v0, v1, v2, v3, v4, sR (some a5)] [sI (y0)] V bc bs := by
  intro h R
  refine w_aload mb36 dX4_keptTraces_35 37 rfl rfl ?_
  refine y_geti mb36 dX4_keptTraces_37 40 rfl R 305 lf4_40 rfl rfl rfl h1 (x := kI V 305 (a5)) (by first | rfl | exact if_pos ⟨rfl, rfl⟩) ?_
  exact K h R

theorem bX4_keptTraces_40 {d : Nat} {Fg : Nat → Prop} {h0 : hp} {Q : Option sV → kV → Prop} {V : kV} {bc bs : Nat} {v0 : sV} {v1 : sV} {v2 : sV} {v3 : sV} {x4 : Int32} {v5 : sV} {y0 : Int32} {y1 : Int32} (K : cWP d Fg h0 36 Q 13 [v0, sI ((y0) + (y1)), v2, v3, sI (x4 + 1), v5] [] V bc bs) : cWP d Fg h0 36 Q 40 [v0, v1, v2, v3, sI (x4), v5] [sI (y1), sI (y0)] V bc bs := by
  intro h R
  refine w_iadd mb36 dX4_keptTraces_40 41 rfl ?_
  refine w_istore_n mb36 dX4_keptTraces_41 42 rfl [v0, sI ((y0) + (y1)), v2, v3, sI (x4), v5] (Nat.le_of_ble_eq_true rfl) rfl ?_
  refine w_iinc mb36 dX4_keptTraces_42 45 rfl rfl (x4 + 1) rfl [v0, sI ((y0) + (y1)), v2, v3, sI (x4 + 1), v5] rfl ?_
  refine w_goto mb36 dX4_keptTraces_45 13 (by decide) ?_
  exact K h R

theorem bX4_keptTraces_48 {d : Nat} {Fg : Nat → Prop} {h0 : hp} {Q : Option sV → kV → Prop} {V : kV} {bc bs : Nat} {v0 : sV} {x1 : Int32} {v2 : sV} {v3 : sV} {v4 : sV} {v5 : sV} (K : Q (some (sI (x1))) V) : cWP d Fg h0 36 Q 48 [v0, sI (x1), v2, v3, v4, v5] [] V bc bs := by
  intro h R
  refine w_iload_n mb36 dX4_keptTraces_48 49 rfl rfl ?_
  refine w_iret mb36 dX4_keptTraces_49 rfl ?_
  exact ⟨_, R, K⟩

theorem bX5_addRead_0 {d : Nat} {Fg : Nat → Prop} {h0 : hp} {Q : Option sV → kV → Prop} {V : kV} {bc bs : Nat} {a0 : Nat} {v1 : sV} {v2 : sV} (h1 : kC V (a0) = 6) (K1 : (25) ≤ (kI V 500 (a0)) → cWP d Fg h0 38 Q 39 [sR (some a0), v1, v2] [] V bc bs) (K2 : ¬ (25) ≤ (kI V 500 (a0)) → cWP d Fg h0 38 Q 9 [sR (some a0), v1, v2] [] V bc bs) : cWP d Fg h0 38 Q 0 [sR (some a0), v1, v2] [] V bc bs := by
  intro h R
  refine w_aload_n mb38 dX5_addRead_0 1 rfl rfl ?_
  refine y_geti mb38 dX5_addRead_1 4 rfl R 500 lf5_21 rfl rfl rfl h1 (x := kI V 500 (a0)) (by first | rfl | exact if_pos ⟨rfl, rfl⟩) ?_
  refine w_bipush mb38 dX5_addRead_4 6 rfl (25) (by decide) ?_
  refine w_icmp_ge mb38 dX5_addRead_6 39 9 (by decide) rfl (fun z => ?_) (fun z => ?_)
  · exact K1 z h R
  · exact K2 z h R

theorem bX5_addRead_9 {d : Nat} {Fg : Nat → Prop} {h0 : hp} {Q : Option sV → kV → Prop} {V : kV} {bc bs : Nat} {a0 : Nat} {x1 : Int32} {r2 : Option Nat} (h1 : kC V (a0) = 6) (h2 : vp_in (kI V 500 (a0)) 25) (h3 : ∀ b, (r2) = some b → ∃ o, kO V b = some o) (K : cWP d Fg h0 38 Q 39 [sR (some a0), sI (x1), sR (r2)] [] (uI (uB (uA V (502) (a0) ((kI V 500 (a0)).toNatClampNeg) (x1)) (503) (a0) ((kI V 500 (a0)).toNatClampNeg) (r2)) (500) (a0) ((kI V 500 (a0)) + (1))) bc bs) : cWP d Fg h0 38 Q 9 [sR (some a0), sI (x1), sR (r2)] [] V bc bs := by
  intro h R
  refine w_aload_n mb38 dX5_addRead_9 10 rfl rfl ?_
  refine y_geta mb38 dX5_addRead_10 13 rfl R 502 lf5_9 rfl rfl rfl (by decide) h1 ?_
  refine w_aload_n mb38 dX5_addRead_13 14 rfl rfl ?_
  refine y_geti mb38 dX5_addRead_14 17 rfl R 500 lf5_21 rfl rfl rfl h1 (x := kI V 500 (a0)) (by first | rfl | exact if_pos ⟨rfl, rfl⟩) ?_
  refine w_iload_n mb38 dX5_addRead_17 18 rfl rfl ?_
  refine y_iast (f := 502) (a := a0) (c := 6) mb38 dX5_addRead_18 19 rfl R 25 rfl (by decide) rfl rfl h1 h2 (fun h R => ?_)
  refine w_aload_n mb38 dX5_addRead_19 20 rfl rfl ?_
  refine y_geta mb38 dX5_addRead_20 23 rfl R 503 lf5_17 rfl rfl rfl (by decide) h1 ?_
  refine w_aload_n mb38 dX5_addRead_23 24 rfl rfl ?_
  refine y_geti mb38 dX5_addRead_24 27 rfl R 500 lf5_21 rfl rfl rfl h1 (x := kI V 500 (a0)) (by first | rfl | exact if_pos ⟨rfl, rfl⟩) ?_
  refine w_aload_n mb38 dX5_addRead_27 28 rfl rfl ?_
  refine y_aastO (f := 503) (a := a0) (c := 6) mb38 dX5_addRead_28 29 rfl R 25 rfl (by decide) rfl rfl h1 h2 h3 (fun h R => ?_)
  refine w_aload_n mb38 dX5_addRead_29 30 rfl rfl ?_
  refine w_dup mb38 dX5_addRead_30 31 rfl rfl ?_
  refine y_geti mb38 dX5_addRead_31 34 rfl R 500 lf5_21 rfl rfl rfl h1 (x := kI V 500 (a0)) (by first | rfl | exact if_pos ⟨rfl, rfl⟩) ?_
  refine w_iconst mb38 dX5_addRead_34 35 rfl (1) (by decide) ?_
  refine w_iadd mb38 dX5_addRead_35 36 rfl ?_
  refine y_puti mb38 dX5_addRead_36 39 rfl R 500 (lp5_21 _) rfl rfl rfl h1 (fun h R => ?_)
  exact K h R

theorem bX5_addRead_39 {d : Nat} {Fg : Nat → Prop} {h0 : hp} {Q : Option sV → kV → Prop} {V : kV} {bc bs : Nat} {v0 : sV} {v1 : sV} {v2 : sV} (K : Q (none) V) : cWP d Fg h0 38 Q 39 [v0, v1, v2] [] V bc bs := by
  intro h R
  refine w_vret mb38 dX5_addRead_39 rfl ?_
  exact ⟨_, R, K⟩

theorem bX5_nameAt_0 {d : Nat} {Fg : Nat → Prop} {h0 : hp} {Q : Option sV → kV → Prop} {V : kV} {bc bs : Nat} {v0 : sV} {x1 : Int32} (K1 : (x1) < 0 → cWP d Fg h0 39 Q 21 [v0, sI (x1)] [] V bc bs) (K2 : ¬ (x1) < 0 → cWP d Fg h0 39 Q 4 [v0, sI (x1)] [] V bc bs) : cWP d Fg h0 39 Q 0 [v0, sI (x1)] [] V bc bs := by
  intro h R
  refine w_iload_n mb39 dX5_nameAt_0 1 rfl rfl ?_
  refine w_if_lt mb39 dX5_nameAt_1 21 4 (by decide) rfl (fun z => ?_) (fun z => ?_)
  · exact K1 z h R
  · exact K2 z h R

theorem bX5_nameAt_4 {d : Nat} {Fg : Nat → Prop} {h0 : hp} {Q : Option sV → kV → Prop} {V : kV} {bc bs : Nat} {a0 : Nat} {x1 : Int32} (h1 : kC V (a0) = 6) (K1 : (kI V 500 (a0)) ≤ (x1) → cWP d Fg h0 39 Q 21 [sR (some a0), sI (x1)] [] V bc bs) (K2 : ¬ (kI V 500 (a0)) ≤ (x1) → cWP d Fg h0 39 Q 12 [sR (some a0), sI (x1)] [] V bc bs) : cWP d Fg h0 39 Q 4 [sR (some a0), sI (x1)] [] V bc bs := by
  intro h R
  refine w_iload_n mb39 dX5_nameAt_4 5 rfl rfl ?_
  refine w_aload_n mb39 dX5_nameAt_5 6 rfl rfl ?_
  refine y_geti mb39 dX5_nameAt_6 9 rfl R 500 lf5_21 rfl rfl rfl h1 (x := kI V 500 (a0)) (by first | rfl | exact if_pos ⟨rfl, rfl⟩) ?_
  refine w_icmp_ge mb39 dX5_nameAt_9 21 12 (by decide) rfl (fun z => ?_) (fun z => ?_)
  · exact K1 z h R
  · exact K2 z h R

theorem bX5_nameAt_12 {d : Nat} {Fg : Nat → Prop} {h0 : hp} {Q : Option sV → kV → Prop} {V : kV} {bc bs : Nat} {a0 : Nat} {x1 : Int32} (h1 : kC V (a0) = 6) (h2 : vp_in (x1) 25) (K : cWP d Fg h0 39 Q 22 [sR (some a0), sI (x1)] [sI (kA V 502 (a0) (x1).toNatClampNeg)] V bc bs) : cWP d Fg h0 39 Q 12 [sR (some a0), sI (x1)] [] V bc bs := by
  intro h R
  refine w_aload_n mb39 dX5_nameAt_12 13 rfl rfl ?_
  refine y_geta mb39 dX5_nameAt_13 16 rfl R 502 lf5_9 rfl rfl rfl (by decide) h1 ?_
  refine w_iload_n mb39 dX5_nameAt_16 17 rfl rfl ?_
  refine y_iald (f := 502) (a := a0) (c := 6) mb39 dX5_nameAt_17 18 rfl R 25 rfl (by decide) rfl rfl h1 h2 (x := kA V 502 (a0) (x1).toNatClampNeg) rfl ?_
  refine w_goto mb39 dX5_nameAt_18 22 (by decide) ?_
  exact K h R

theorem bX5_nameAt_21 {d : Nat} {Fg : Nat → Prop} {h0 : hp} {Q : Option sV → kV → Prop} {V : kV} {bc bs : Nat} {v0 : sV} {v1 : sV} (K : cWP d Fg h0 39 Q 22 [v0, v1] [sI ((-1))] V bc bs) : cWP d Fg h0 39 Q 21 [v0, v1] [] V bc bs := by
  intro h R
  refine w_iconst mb39 dX5_nameAt_21 22 rfl ((-1)) (by decide) ?_
  exact K h R

theorem bX5_nameAt_22 {d : Nat} {Fg : Nat → Prop} {h0 : hp} {Q : Option sV → kV → Prop} {V : kV} {bc bs : Nat} {v0 : sV} {v1 : sV} {y0 : Int32} (K : Q (some (sI (y0))) V) : cWP d Fg h0 39 Q 22 [v0, v1] [sI (y0)] V bc bs := by
  intro h R
  refine w_iret mb39 dX5_nameAt_22 rfl ?_
  exact ⟨_, R, K⟩

theorem bX5_outcomeAt_0 {d : Nat} {Fg : Nat → Prop} {h0 : hp} {Q : Option sV → kV → Prop} {V : kV} {bc bs : Nat} {v0 : sV} {x1 : Int32} (K1 : (x1) < 0 → cWP d Fg h0 40 Q 21 [v0, sI (x1)] [] V bc bs) (K2 : ¬ (x1) < 0 → cWP d Fg h0 40 Q 4 [v0, sI (x1)] [] V bc bs) : cWP d Fg h0 40 Q 0 [v0, sI (x1)] [] V bc bs := by
  intro h R
  refine w_iload_n mb40 dX5_outcomeAt_0 1 rfl rfl ?_
  refine w_if_lt mb40 dX5_outcomeAt_1 21 4 (by decide) rfl (fun z => ?_) (fun z => ?_)
  · exact K1 z h R
  · exact K2 z h R

theorem bX5_outcomeAt_4 {d : Nat} {Fg : Nat → Prop} {h0 : hp} {Q : Option sV → kV → Prop} {V : kV} {bc bs : Nat} {a0 : Nat} {x1 : Int32} (h1 : kC V (a0) = 6) (K1 : (kI V 500 (a0)) ≤ (x1) → cWP d Fg h0 40 Q 21 [sR (some a0), sI (x1)] [] V bc bs) (K2 : ¬ (kI V 500 (a0)) ≤ (x1) → cWP d Fg h0 40 Q 12 [sR (some a0), sI (x1)] [] V bc bs) : cWP d Fg h0 40 Q 4 [sR (some a0), sI (x1)] [] V bc bs := by
  intro h R
  refine w_iload_n mb40 dX5_outcomeAt_4 5 rfl rfl ?_
  refine w_aload_n mb40 dX5_outcomeAt_5 6 rfl rfl ?_
  refine y_geti mb40 dX5_outcomeAt_6 9 rfl R 500 lf5_21 rfl rfl rfl h1 (x := kI V 500 (a0)) (by first | rfl | exact if_pos ⟨rfl, rfl⟩) ?_
  refine w_icmp_ge mb40 dX5_outcomeAt_9 21 12 (by decide) rfl (fun z => ?_) (fun z => ?_)
  · exact K1 z h R
  · exact K2 z h R

theorem bX5_outcomeAt_12 {d : Nat} {Fg : Nat → Prop} {h0 : hp} {Q : Option sV → kV → Prop} {V : kV} {bc bs : Nat} {a0 : Nat} {x1 : Int32} (h1 : kC V (a0) = 6) (h2 : vp_in (x1) 25) (K : cWP d Fg h0 40 Q 22 [sR (some a0), sI (x1)] [sR (kB V 503 (a0) (x1).toNatClampNeg)] V bc bs) : cWP d Fg h0 40 Q 12 [sR (some a0), sI (x1)] [] V bc bs := by
  intro h R
  refine w_aload_n mb40 dX5_outcomeAt_12 13 rfl rfl ?_
  refine y_geta mb40 dX5_outcomeAt_13 16 rfl R 503 lf5_17 rfl rfl rfl (by decide) h1 ?_
  refine w_iload_n mb40 dX5_outcomeAt_16 17 rfl rfl ?_
  refine y_aald (f := 503) (a := a0) (c := 6) mb40 dX5_outcomeAt_17 18 rfl R 25 rfl (by decide) (by decide) rfl h1 h2 (x := kB V 503 (a0) (x1).toNatClampNeg) rfl ?_
  refine w_goto mb40 dX5_outcomeAt_18 22 (by decide) ?_
  exact K h R

theorem bX5_outcomeAt_21 {d : Nat} {Fg : Nat → Prop} {h0 : hp} {Q : Option sV → kV → Prop} {V : kV} {bc bs : Nat} {v0 : sV} {v1 : sV} (K : cWP d Fg h0 40 Q 22 [v0, v1] [sR (none)] V bc bs) : cWP d Fg h0 40 Q 21 [v0, v1] [] V bc bs := by
  intro h R
  refine w_null mb40 dX5_outcomeAt_21 22 rfl ?_
  exact K h R

theorem bX5_outcomeAt_22 {d : Nat} {Fg : Nat → Prop} {h0 : hp} {Q : Option sV → kV → Prop} {V : kV} {bc bs : Nat} {v0 : sV} {v1 : sV} {z0 : Option Nat} (K : Q (some (sR (z0))) V) : cWP d Fg h0 40 Q 22 [v0, v1] [sR (z0)] V bc bs := by
  intro h R
  refine w_aret mb40 dX5_outcomeAt_22 _ rfl (by first | exact Or.inl ⟨_, rfl⟩ | exact Or.inr ⟨_, rfl⟩) ?_
  exact ⟨_, R, K⟩

theorem bX5_lengthAt_0 {d : Nat} {Fg : Nat → Prop} {h0 : hp} {Q : Option sV → kV → Prop} {V : kV} {bc bs : Nat} {v0 : sV} {x1 : Int32} {v2 : sV} (K1 : (x1) < 0 → cWP d Fg h0 41 Q 21 [v0, sI (x1), v2] [] V bc bs) (K2 : ¬ (x1) < 0 → cWP d Fg h0 41 Q 4 [v0, sI (x1), v2] [] V bc bs) : cWP d Fg h0 41 Q 0 [v0, sI (x1), v2] [] V bc bs := by
  intro h R
  refine w_iload_n mb41 dX5_lengthAt_0 1 rfl rfl ?_
  refine w_if_lt mb41 dX5_lengthAt_1 21 4 (by decide) rfl (fun z => ?_) (fun z => ?_)
  · exact K1 z h R
  · exact K2 z h R

theorem bX5_lengthAt_4 {d : Nat} {Fg : Nat → Prop} {h0 : hp} {Q : Option sV → kV → Prop} {V : kV} {bc bs : Nat} {a0 : Nat} {x1 : Int32} {v2 : sV} (h1 : kC V (a0) = 6) (K1 : (kI V 500 (a0)) ≤ (x1) → cWP d Fg h0 41 Q 21 [sR (some a0), sI (x1), v2] [] V bc bs) (K2 : ¬ (kI V 500 (a0)) ≤ (x1) → cWP d Fg h0 41 Q 12 [sR (some a0), sI (x1), v2] [] V bc bs) : cWP d Fg h0 41 Q 4 [sR (some a0), sI (x1), v2] [] V bc bs := by
  intro h R
  refine w_iload_n mb41 dX5_lengthAt_4 5 rfl rfl ?_
  refine w_aload_n mb41 dX5_lengthAt_5 6 rfl rfl ?_
  refine y_geti mb41 dX5_lengthAt_6 9 rfl R 500 lf5_21 rfl rfl rfl h1 (x := kI V 500 (a0)) (by first | rfl | exact if_pos ⟨rfl, rfl⟩) ?_
  refine w_icmp_ge mb41 dX5_lengthAt_9 21 12 (by decide) rfl (fun z => ?_) (fun z => ?_)
  · exact K1 z h R
  · exact K2 z h R

theorem bX5_lengthAt_12 {d : Nat} {Fg : Nat → Prop} {h0 : hp} {Q : Option sV → kV → Prop} {V : kV} {bc bs : Nat} {a0 : Nat} {x1 : Int32} {v2 : sV} (h1 : kC V (a0) = 6) (h2 : vp_in (x1) 25) (K : cWP d Fg h0 41 Q 22 [sR (some a0), sI (x1), v2] [sR (kB V 503 (a0) (x1).toNatClampNeg)] V bc bs) : cWP d Fg h0 41 Q 12 [sR (some a0), sI (x1), v2] [] V bc bs := by
  intro h R
  refine w_aload_n mb41 dX5_lengthAt_12 13 rfl rfl ?_
  refine y_geta mb41 dX5_lengthAt_13 16 rfl R 503 lf5_17 rfl rfl rfl (by decide) h1 ?_
  refine w_iload_n mb41 dX5_lengthAt_16 17 rfl rfl ?_
  refine y_aald (f := 503) (a := a0) (c := 6) mb41 dX5_lengthAt_17 18 rfl R 25 rfl (by decide) (by decide) rfl h1 h2 (x := kB V 503 (a0) (x1).toNatClampNeg) rfl ?_
  refine w_goto mb41 dX5_lengthAt_18 22 (by decide) ?_
  exact K h R

theorem bX5_lengthAt_21 {d : Nat} {Fg : Nat → Prop} {h0 : hp} {Q : Option sV → kV → Prop} {V : kV} {bc bs : Nat} {v0 : sV} {v1 : sV} {v2 : sV} (K : cWP d Fg h0 41 Q 22 [v0, v1, v2] [sR (none)] V bc bs) : cWP d Fg h0 41 Q 21 [v0, v1, v2] [] V bc bs := by
  intro h R
  refine w_null mb41 dX5_lengthAt_21 22 rfl ?_
  exact K h R

theorem bX5_lengthAt_22 {d : Nat} {Fg : Nat → Prop} {h0 : hp} {Q : Option sV → kV → Prop} {V : kV} {bc bs : Nat} {v0 : sV} {v1 : sV} {v2 : sV} {z0 : Option Nat} (K1 : ¬ (z0) = none → cWP d Fg h0 41 Q 31 [v0, v1, sR (z0)] [] V bc bs) (K2 : (z0) = none → cWP d Fg h0 41 Q 27 [v0, v1, sR (z0)] [] V bc bs) : cWP d Fg h0 41 Q 22 [v0, v1, v2] [sR (z0)] V bc bs := by
  intro h R
  refine w_astore_n mb41 dX5_lengthAt_22 23 rfl [v0, v1, sR (z0)] (Nat.le_of_ble_eq_true rfl) rfl ?_
  refine w_aload_n mb41 dX5_lengthAt_23 24 rfl rfl ?_
  refine w_ifnonnull mb41 dX5_lengthAt_24 31 27 (by decide) rfl (fun z => ?_) (fun z => ?_)
  · exact K1 z h R
  · exact K2 z h R

theorem bX5_lengthAt_27 {d : Nat} {Fg : Nat → Prop} {h0 : hp} {Q : Option sV → kV → Prop} {V : kV} {bc bs : Nat} {v0 : sV} {v1 : sV} {v2 : sV} (K : cWP d Fg h0 41 Q 36 [v0, v1, v2] [sI (0)] V bc bs) : cWP d Fg h0 41 Q 27 [v0, v1, v2] [] V bc bs := by
  intro h R
  refine w_iconst mb41 dX5_lengthAt_27 28 rfl (0) (by decide) ?_
  refine w_goto mb41 dX5_lengthAt_28 36 (by decide) ?_
  exact K h R

theorem bX5_lengthAt_31 {d : Nat} {Fg : Nat → Prop} {h0 : hp} {Q : Option sV → kV → Prop} {V : kV} {bc bs : Nat} {v0 : sV} {v1 : sV} {a2 : Nat} {o_a2 : zO} (h1 : kO V (a2) = some o_a2) (K : cWP d Fg h0 41 Q 36 [v0, v1, sR (some a2)] [sI (nI o_a2.2.2.length)] V bc bs) : cWP d Fg h0 41 Q 31 [v0, v1, sR (some a2)] [] V bc bs := by
  intro h R
  refine w_aload_n mb41 dX5_lengthAt_31 32 rfl rfl ?_
  refine y_o2 mb41 dX5_lengthAt_32 35 rfl R lf5_25 h1 ?_
  refine y_rlen mb41 dX5_lengthAt_35 36 rfl R h1 ?_
  exact K h R

theorem bX5_lengthAt_36 {d : Nat} {Fg : Nat → Prop} {h0 : hp} {Q : Option sV → kV → Prop} {V : kV} {bc bs : Nat} {v0 : sV} {v1 : sV} {v2 : sV} {y0 : Int32} (K : Q (some (sI (y0))) V) : cWP d Fg h0 41 Q 36 [v0, v1, v2] [sI (y0)] V bc bs := by
  intro h R
  refine w_iret mb41 dX5_lengthAt_36 rfl ?_
  exact ⟨_, R, K⟩

theorem bX5_joinedFrom_0 {d : Nat} {Fg : Nat → Prop} {h0 : hp} {Q : Option sV → kV → Prop} {V : kV} {bc bs : Nat} {v0 : sV} {x1 : Int32} {v2 : sV} {v3 : sV} {v4 : sV} {v5 : sV} {v6 : sV} (K : cWP d Fg h0 42 Q 4 [v0, sI (x1), sI (0), sI (x1), v4, v5, v6] [] V bc bs) : cWP d Fg h0 42 Q 0 [v0, sI (x1), v2, v3, v4, v5, v6] [] V bc bs := by
  intro h R
  refine w_iconst mb42 dX5_joinedFrom_0 1 rfl (0) (by decide) ?_
  refine w_istore_n mb42 dX5_joinedFrom_1 2 rfl [v0, sI (x1), sI (0), v3, v4, v5, v6] (Nat.le_of_ble_eq_true rfl) rfl ?_
  refine w_iload_n mb42 dX5_joinedFrom_2 3 rfl rfl ?_
  refine w_istore_n mb42 dX5_joinedFrom_3 4 rfl [v0, sI (x1), sI (0), sI (x1), v4, v5, v6] (Nat.le_of_ble_eq_true rfl) rfl ?_
  exact K h R

theorem bX5_joinedFrom_4 {d : Nat} {Fg : Nat → Prop} {h0 : hp} {Q : Option sV → kV → Prop} {V : kV} {bc bs : Nat} {a0 : Nat} {v1 : sV} {v2 : sV} {x3 : Int32} {v4 : sV} {v5 : sV} {v6 : sV} (h1 : kC V (a0) = 6) (K1 : (kI V 500 (a0)) ≤ (x3) → cWP d Fg h0 42 Q 26 [sR (some a0), v1, v2, sI (x3), v4, v5, v6] [] V bc bs) (K2 : ¬ (kI V 500 (a0)) ≤ (x3) → cWP d Fg h0 42 Q 12 [sR (some a0), v1, v2, sI (x3), v4, v5, v6] [] V bc bs) : cWP d Fg h0 42 Q 4 [sR (some a0), v1, v2, sI (x3), v4, v5, v6] [] V bc bs := by
  intro h R
  refine w_iload_n mb42 dX5_joinedFrom_4 5 rfl rfl ?_
  refine w_aload_n mb42 dX5_joinedFrom_5 6 rfl rfl ?_
  refine y_geti mb42 dX5_joinedFrom_6 9 rfl R 500 lf5_21 rfl rfl rfl h1 (x := kI V 500 (a0)) (by first | rfl | exact if_pos ⟨rfl, rfl⟩) ?_
  refine w_icmp_ge mb42 dX5_joinedFrom_9 26 12 (by decide) rfl (fun z => ?_) (fun z => ?_)
  · exact K1 z h R
  · exact K2 z h R

theorem bX5_joinedFrom_12 {d : Nat} {Fg : Nat → Prop} {h0 : hp} {Q : Option sV → kV → Prop} {V : kV} {bc bs : Nat} {a0 : Nat} {v1 : sV} {x2 : Int32} {x3 : Int32} {v4 : sV} {v5 : sV} {v6 : sV} (h1 : kC V (a0) = 6) {bc1 bs1 : Nat} {P : Option sV → kV → Prop} (C : cM d Fg h0 41 [sR (some a0), sI (x3)] V bc1 bs1 P) (hbc : bc1 ≤ bc) (hbs : bs1 ≤ bs) (K : ∀ r V1, P r V1 → cWP d Fg h0 42 Q 18 [sR (some a0), v1, sI (x2), sI (x3), v4, v5, v6] (r.toList ++ [sI (x2)]) V1 (bc - bc1) (bs - bs1)) : cWP d Fg h0 42 Q 12 [sR (some a0), v1, sI (x2), sI (x3), v4, v5, v6] [] V bc bs := by
  intro h R
  refine w_iload_n mb42 dX5_joinedFrom_12 13 rfl rfl ?_
  refine w_aload_n mb42 dX5_joinedFrom_13 14 rfl rfl ?_
  refine w_iload_n mb42 dX5_joinedFrom_14 15 rfl rfl ?_
  refine w_virtual (a := a0) (c := 5) (st := [sI (x2)]) mb42 dX5_joinedFrom_15 18 rfl 41 1 [sI (x3)] _ rfl rfl rfl lc5_28 (R.k h1) (Nat.le_of_ble_eq_true rfl) (C h R) hbc hbs (fun r h1 hP => ?_)
  obtain ⟨V1, R1, hP⟩ := hP
  exact K r V1 hP h1 R1

theorem bX5_joinedFrom_18 {d : Nat} {Fg : Nat → Prop} {h0 : hp} {Q : Option sV → kV → Prop} {V : kV} {bc bs : Nat} {v0 : sV} {v1 : sV} {v2 : sV} {x3 : Int32} {v4 : sV} {v5 : sV} {v6 : sV} {y0 : Int32} {y1 : Int32} (K : cWP d Fg h0 42 Q 4 [v0, v1, sI ((y0) + (y1)), sI (x3 + 1), v4, v5, v6] [] V bc bs) : cWP d Fg h0 42 Q 18 [v0, v1, v2, sI (x3), v4, v5, v6] [sI (y1), sI (y0)] V bc bs := by
  intro h R
  refine w_iadd mb42 dX5_joinedFrom_18 19 rfl ?_
  refine w_istore_n mb42 dX5_joinedFrom_19 20 rfl [v0, v1, sI ((y0) + (y1)), sI (x3), v4, v5, v6] (Nat.le_of_ble_eq_true rfl) rfl ?_
  refine w_iinc mb42 dX5_joinedFrom_20 23 rfl rfl (x3 + 1) rfl [v0, v1, sI ((y0) + (y1)), sI (x3 + 1), v4, v5, v6] rfl ?_
  refine w_goto mb42 dX5_joinedFrom_23 4 (by decide) ?_
  exact K h R

theorem bX5_joinedFrom_26 {d : Nat} {Fg : Nat → Prop} {h0 : hp} {Q : Option sV → kV → Prop} {V : kV} {bc bs : Nat} {v0 : sV} {v1 : sV} {x2 : Int32} {v3 : sV} {v4 : sV} {v5 : sV} {v6 : sV} {N : Nat} (h1 : ¬ (x2 : Int32) < 0) (h2 : (x2 : Int32).toNatClampNeg = N) (h3 : N ≤ 100000) (h4 : 1 ≤ bc) (h5 : N ≤ bs) (K : ∀ y, ¬ kD V y → cWP d Fg h0 42 Q 29 [v0, v1, sI (x2), v3, v4, v5, v6] [sR (some y)] (uW V y (some (N, fun _ => 0))) (bc - 1) (bs - N)) : cWP d Fg h0 42 Q 26 [v0, v1, sI (x2), v3, v4, v5, v6] [] V bc bs := by
  intro h R
  refine w_iload_n mb42 dX5_joinedFrom_26 27 rfl rfl ?_
  refine y_newW mb42 dX5_joinedFrom_27 29 rfl R N h1 h2 h3 h4 h5 (fun y h hy R => ?_)
  exact K y hy h R

theorem bX5_joinedFrom_29 {d : Nat} {Fg : Nat → Prop} {h0 : hp} {Q : Option sV → kV → Prop} {V : kV} {bc bs : Nat} {v0 : sV} {x1 : Int32} {v2 : sV} {v3 : sV} {v4 : sV} {v5 : sV} {v6 : sV} {z0 : Option Nat} (K : cWP d Fg h0 42 Q 36 [v0, sI (x1), v2, sR (z0), sI (0), sI (x1), v6] [] V bc bs) : cWP d Fg h0 42 Q 29 [v0, sI (x1), v2, v3, v4, v5, v6] [sR (z0)] V bc bs := by
  intro h R
  refine w_astore_n mb42 dX5_joinedFrom_29 30 rfl [v0, sI (x1), v2, sR (z0), v4, v5, v6] (Nat.le_of_ble_eq_true rfl) rfl ?_
  refine w_iconst mb42 dX5_joinedFrom_30 31 rfl (0) (by decide) ?_
  refine w_istore mb42 dX5_joinedFrom_31 33 rfl [v0, sI (x1), v2, sR (z0), sI (0), v5, v6] (Nat.le_of_ble_eq_true rfl) rfl ?_
  refine w_iload_n mb42 dX5_joinedFrom_33 34 rfl rfl ?_
  refine w_istore mb42 dX5_joinedFrom_34 36 rfl [v0, sI (x1), v2, sR (z0), sI (0), sI (x1), v6] (Nat.le_of_ble_eq_true rfl) rfl ?_
  exact K h R

theorem bX5_joinedFrom_36 {d : Nat} {Fg : Nat → Prop} {h0 : hp} {Q : Option sV → kV → Prop} {V : kV} {bc bs : Nat} {a0 : Nat} {v1 : sV} {v2 : sV} {v3 : sV} {v4 : sV} {x5 : Int32} {v6 : sV} (h1 : kC V (a0) = 6) (K1 : (kI V 500 (a0)) ≤ (x5) → cWP d Fg h0 42 Q 94 [sR (some a0), v1, v2, v3, v4, sI (x5), v6] [] V bc bs) (K2 : ¬ (kI V 500 (a0)) ≤ (x5) → cWP d Fg h0 42 Q 45 [sR (some a0), v1, v2, v3, v4, sI (x5), v6] [] V bc bs) : cWP d Fg h0 42 Q 36 [sR (some a0), v1, v2, v3, v4, sI (x5), v6] [] V bc bs := by
  intro h R
  refine w_iload mb42 dX5_joinedFrom_36 38 rfl rfl ?_
  refine w_aload_n mb42 dX5_joinedFrom_38 39 rfl rfl ?_
  refine y_geti mb42 dX5_joinedFrom_39 42 rfl R 500 lf5_21 rfl rfl rfl h1 (x := kI V 500 (a0)) (by first | rfl | exact if_pos ⟨rfl, rfl⟩) ?_
  refine w_icmp_ge mb42 dX5_joinedFrom_42 94 45 (by decide) rfl (fun z => ?_) (fun z => ?_)
  · exact K1 z h R
  · exact K2 z h R

theorem bX5_joinedFrom_45 {d : Nat} {Fg : Nat → Prop} {h0 : hp} {Q : Option sV → kV → Prop} {V : kV} {bc bs : Nat} {a0 : Nat} {v1 : sV} {v2 : sV} {v3 : sV} {v4 : sV} {x5 : Int32} {v6 : sV} (h1 : kC V (a0) = 6) (h2 : vp_in (x5) 25) (K1 : (kB V 503 (a0) (x5).toNatClampNeg) = none → cWP d Fg h0 42 Q 88 [sR (some a0), v1, v2, v3, v4, sI (x5), sR (kB V 503 (a0) (x5).toNatClampNeg)] [] V bc bs) (K2 : ¬ (kB V 503 (a0) (x5).toNatClampNeg) = none → cWP d Fg h0 42 Q 59 [sR (some a0), v1, v2, v3, v4, sI (x5), sR (kB V 503 (a0) (x5).toNatClampNeg)] [] V bc bs) : cWP d Fg h0 42 Q 45 [sR (some a0), v1, v2, v3, v4, sI (x5), v6] [] V bc bs := by
  intro h R
  refine w_aload_n mb42 dX5_joinedFrom_45 46 rfl rfl ?_
  refine y_geta mb42 dX5_joinedFrom_46 49 rfl R 503 lf5_17 rfl rfl rfl (by decide) h1 ?_
  refine w_iload mb42 dX5_joinedFrom_49 51 rfl rfl ?_
  refine y_aald (f := 503) (a := a0) (c := 6) mb42 dX5_joinedFrom_51 52 rfl R 25 rfl (by decide) (by decide) rfl h1 h2 (x := kB V 503 (a0) (x5).toNatClampNeg) rfl ?_
  refine w_astore mb42 dX5_joinedFrom_52 54 rfl [sR (some a0), v1, v2, v3, v4, sI (x5), sR (kB V 503 (a0) (x5).toNatClampNeg)] (Nat.le_of_ble_eq_true rfl) rfl ?_
  refine w_aload mb42 dX5_joinedFrom_54 56 rfl rfl ?_
  refine w_ifnull mb42 dX5_joinedFrom_56 88 59 (by decide) rfl (fun z => ?_) (fun z => ?_)
  · exact K1 z h R
  · exact K2 z h R

theorem bX5_joinedFrom_59 {d : Nat} {Fg : Nat → Prop} {h0 : hp} {Q : Option sV → kV → Prop} {V : kV} {bc bs : Nat} {v0 : sV} {v1 : sV} {v2 : sV} {a3 : Nat} {x4 : Int32} {v5 : sV} {a6 : Nat} {o_a6 : zO} {n_a3 : Nat} {g_a3 : Nat → Int32} (h1 : kO V (a6) = some o_a6) (h2 : kW V a3 = some (n_a3, g_a3)) (h3 : ¬ (0 : Int32) < 0) (h4 : ¬ (x4 : Int32) < 0) (h5 : ¬ (nI o_a6.2.2.length : Int32) < 0) (h6 : (0 : Int32).toNatClampNeg + (nI o_a6.2.2.length : Int32).toNatClampNeg ≤ o_a6.2.2.length) (h7 : (x4 : Int32).toNatClampNeg + (nI o_a6.2.2.length : Int32).toNatClampNeg ≤ n_a3) (K : ∀ f, (∀ j, j < o_a6.2.2.length → f j = o_a6.2.2.getD j 0) → cWP d Fg h0 42 Q 77 [v0, v1, v2, sR (some a3), sI (x4), v5, sR (some a6)] [] (uW V a3 (some (n_a3, va_cpy f (g_a3) (0 : Int32).toNatClampNeg (x4 : Int32).toNatClampNeg (nI o_a6.2.2.length : Int32).toNatClampNeg))) bc bs) : cWP d Fg h0 42 Q 59 [v0, v1, v2, sR (some a3), sI (x4), v5, sR (some a6)] [] V bc bs := by
  intro h R
  refine w_aload mb42 dX5_joinedFrom_59 61 rfl rfl ?_
  refine y_o2 mb42 dX5_joinedFrom_61 64 rfl R lf5_25 h1 ?_
  refine w_iconst mb42 dX5_joinedFrom_64 65 rfl (0) (by decide) ?_
  refine w_aload_n mb42 dX5_joinedFrom_65 66 rfl rfl ?_
  refine w_iload mb42 dX5_joinedFrom_66 68 rfl rfl ?_
  refine w_aload mb42 dX5_joinedFrom_68 70 rfl rfl ?_
  refine y_o2 mb42 dX5_joinedFrom_70 73 rfl R lf5_25 h1 ?_
  refine y_rlen mb42 dX5_joinedFrom_73 74 rfl R h1 ?_
  refine y_copy (st := []) mb42 dX5_joinedFrom_74 77 rfl R h1 h2 ly5_32 (Nat.le_of_ble_eq_true rfl) h3 h4 h5 h6 h7 (fun h f hf R => ?_)
  exact K f hf h R

theorem bX5_joinedFrom_77 {d : Nat} {Fg : Nat → Prop} {h0 : hp} {Q : Option sV → kV → Prop} {V : kV} {bc bs : Nat} {v0 : sV} {v1 : sV} {v2 : sV} {v3 : sV} {x4 : Int32} {v5 : sV} {a6 : Nat} {o_a6 : zO} (h1 : kO V (a6) = some o_a6) (K : cWP d Fg h0 42 Q 88 [v0, v1, v2, v3, sI ((x4) + (nI o_a6.2.2.length)), v5, sR (some a6)] [] V bc bs) : cWP d Fg h0 42 Q 77 [v0, v1, v2, v3, sI (x4), v5, sR (some a6)] [] V bc bs := by
  intro h R
  refine w_iload mb42 dX5_joinedFrom_77 79 rfl rfl ?_
  refine w_aload mb42 dX5_joinedFrom_79 81 rfl rfl ?_
  refine y_o2 mb42 dX5_joinedFrom_81 84 rfl R lf5_25 h1 ?_
  refine y_rlen mb42 dX5_joinedFrom_84 85 rfl R h1 ?_
  refine w_iadd mb42 dX5_joinedFrom_85 86 rfl ?_
  refine w_istore mb42 dX5_joinedFrom_86 88 rfl [v0, v1, v2, v3, sI ((x4) + (nI o_a6.2.2.length)), v5, sR (some a6)] (Nat.le_of_ble_eq_true rfl) rfl ?_
  exact K h R

theorem bX5_joinedFrom_88 {d : Nat} {Fg : Nat → Prop} {h0 : hp} {Q : Option sV → kV → Prop} {V : kV} {bc bs : Nat} {v0 : sV} {v1 : sV} {v2 : sV} {v3 : sV} {v4 : sV} {x5 : Int32} {v6 : sV} (K : cWP d Fg h0 42 Q 36 [v0, v1, v2, v3, v4, sI (x5 + 1), v6] [] V bc bs) : cWP d Fg h0 42 Q 88 [v0, v1, v2, v3, v4, sI (x5), v6] [] V bc bs := by
  intro h R
  refine w_iinc mb42 dX5_joinedFrom_88 91 rfl rfl (x5 + 1) rfl [v0, v1, v2, v3, v4, sI (x5 + 1), v6] rfl ?_
  refine w_goto mb42 dX5_joinedFrom_91 36 (by decide) ?_
  exact K h R

theorem bX5_joinedFrom_94 {d : Nat} {Fg : Nat → Prop} {h0 : hp} {Q : Option sV → kV → Prop} {V : kV} {bc bs : Nat} {v0 : sV} {v1 : sV} {v2 : sV} {r3 : Option Nat} {v4 : sV} {v5 : sV} {v6 : sV} (K : Q (some (sR (r3))) V) : cWP d Fg h0 42 Q 94 [v0, v1, v2, sR (r3), v4, v5, v6] [] V bc bs := by
  intro h R
  refine w_aload_n mb42 dX5_joinedFrom_94 95 rfl rfl ?_
  refine w_aret mb42 dX5_joinedFrom_95 _ rfl (by first | exact Or.inl ⟨_, rfl⟩ | exact Or.inr ⟨_, rfl⟩) ?_
  exact ⟨_, R, K⟩

theorem bX5_sum_0 {d : Nat} {Fg : Nat → Prop} {h0 : hp} {Q : Option sV → kV → Prop} {V : kV} {bc bs : Nat} {v0 : sV} {v1 : sV} {v2 : sV} {v3 : sV} {v4 : sV} (K : cWP d Fg h0 43 Q 4 [v0, sI (0), sI (0), v3, v4] [] V bc bs) : cWP d Fg h0 43 Q 0 [v0, v1, v2, v3, v4] [] V bc bs := by
  intro h R
  refine w_iconst mb43 dX5_sum_0 1 rfl (0) (by decide) ?_
  refine w_istore_n mb43 dX5_sum_1 2 rfl [v0, sI (0), v2, v3, v4] (Nat.le_of_ble_eq_true rfl) rfl ?_
  refine w_iconst mb43 dX5_sum_2 3 rfl (0) (by decide) ?_
  refine w_istore_n mb43 dX5_sum_3 4 rfl [v0, sI (0), sI (0), v3, v4] (Nat.le_of_ble_eq_true rfl) rfl ?_
  exact K h R

theorem bX5_sum_4 {d : Nat} {Fg : Nat → Prop} {h0 : hp} {Q : Option sV → kV → Prop} {V : kV} {bc bs : Nat} {a0 : Nat} {v1 : sV} {x2 : Int32} {v3 : sV} {v4 : sV} (h1 : kC V (a0) = 6) (K1 : (kI V 500 (a0)) ≤ (x2) → cWP d Fg h0 43 Q 58 [sR (some a0), v1, sI (x2), v3, v4] [] V bc bs) (K2 : ¬ (kI V 500 (a0)) ≤ (x2) → cWP d Fg h0 43 Q 12 [sR (some a0), v1, sI (x2), v3, v4] [] V bc bs) : cWP d Fg h0 43 Q 4 [sR (some a0), v1, sI (x2), v3, v4] [] V bc bs := by
  intro h R
  refine w_iload_n mb43 dX5_sum_4 5 rfl rfl ?_
  refine w_aload_n mb43 dX5_sum_5 6 rfl rfl ?_
  refine y_geti mb43 dX5_sum_6 9 rfl R 500 lf5_21 rfl rfl rfl h1 (x := kI V 500 (a0)) (by first | rfl | exact if_pos ⟨rfl, rfl⟩) ?_
  refine w_icmp_ge mb43 dX5_sum_9 58 12 (by decide) rfl (fun z => ?_) (fun z => ?_)
  · exact K1 z h R
  · exact K2 z h R

theorem bX5_sum_12 {d : Nat} {Fg : Nat → Prop} {h0 : hp} {Q : Option sV → kV → Prop} {V : kV} {bc bs : Nat} {a0 : Nat} {v1 : sV} {x2 : Int32} {v3 : sV} {v4 : sV} (h1 : kC V (a0) = 6) (h2 : vp_in (x2) 25) (K : cWP d Fg h0 43 Q 22 [sR (some a0), v1, sI (x2), sR (kB V 503 (a0) (x2).toNatClampNeg), sI (0)] [] V bc bs) : cWP d Fg h0 43 Q 12 [sR (some a0), v1, sI (x2), v3, v4] [] V bc bs := by
  intro h R
  refine w_aload_n mb43 dX5_sum_12 13 rfl rfl ?_
  refine y_geta mb43 dX5_sum_13 16 rfl R 503 lf5_17 rfl rfl rfl (by decide) h1 ?_
  refine w_iload_n mb43 dX5_sum_16 17 rfl rfl ?_
  refine y_aald (f := 503) (a := a0) (c := 6) mb43 dX5_sum_17 18 rfl R 25 rfl (by decide) (by decide) rfl h1 h2 (x := kB V 503 (a0) (x2).toNatClampNeg) rfl ?_
  refine w_astore_n mb43 dX5_sum_18 19 rfl [sR (some a0), v1, sI (x2), sR (kB V 503 (a0) (x2).toNatClampNeg), v4] (Nat.le_of_ble_eq_true rfl) rfl ?_
  refine w_iconst mb43 dX5_sum_19 20 rfl (0) (by decide) ?_
  refine w_istore mb43 dX5_sum_20 22 rfl [sR (some a0), v1, sI (x2), sR (kB V 503 (a0) (x2).toNatClampNeg), sI (0)] (Nat.le_of_ble_eq_true rfl) rfl ?_
  exact K h R

theorem bX5_sum_22 {d : Nat} {Fg : Nat → Prop} {h0 : hp} {Q : Option sV → kV → Prop} {V : kV} {bc bs : Nat} {v0 : sV} {v1 : sV} {v2 : sV} {r3 : Option Nat} {v4 : sV} (K1 : (r3) = none → cWP d Fg h0 43 Q 52 [v0, v1, v2, sR (r3), v4] [] V bc bs) (K2 : ¬ (r3) = none → cWP d Fg h0 43 Q 26 [v0, v1, v2, sR (r3), v4] [] V bc bs) : cWP d Fg h0 43 Q 22 [v0, v1, v2, sR (r3), v4] [] V bc bs := by
  intro h R
  refine w_aload_n mb43 dX5_sum_22 23 rfl rfl ?_
  refine w_ifnull mb43 dX5_sum_23 52 26 (by decide) rfl (fun z => ?_) (fun z => ?_)
  · exact K1 z h R
  · exact K2 z h R

theorem bX5_sum_26 {d : Nat} {Fg : Nat → Prop} {h0 : hp} {Q : Option sV → kV → Prop} {V : kV} {bc bs : Nat} {v0 : sV} {v1 : sV} {v2 : sV} {a3 : Nat} {x4 : Int32} {o_a3 : zO} (h1 : kO V (a3) = some o_a3) (K1 : (nI o_a3.2.2.length) ≤ (x4) → cWP d Fg h0 43 Q 52 [v0, v1, v2, sR (some a3), sI (x4)] [] V bc bs) (K2 : ¬ (nI o_a3.2.2.length) ≤ (x4) → cWP d Fg h0 43 Q 36 [v0, v1, v2, sR (some a3), sI (x4)] [] V bc bs) : cWP d Fg h0 43 Q 26 [v0, v1, v2, sR (some a3), sI (x4)] [] V bc bs := by
  intro h R
  refine w_iload mb43 dX5_sum_26 28 rfl rfl ?_
  refine w_aload_n mb43 dX5_sum_28 29 rfl rfl ?_
  refine y_o2 mb43 dX5_sum_29 32 rfl R lf5_25 h1 ?_
  refine y_rlen mb43 dX5_sum_32 33 rfl R h1 ?_
  refine w_icmp_ge mb43 dX5_sum_33 52 36 (by decide) rfl (fun z => ?_) (fun z => ?_)
  · exact K1 z h R
  · exact K2 z h R

theorem bX5_sum_36 {d : Nat} {Fg : Nat → Prop} {h0 : hp} {Q : Option sV → kV → Prop} {V : kV} {bc bs : Nat} {v0 : sV} {x1 : Int32} {v2 : sV} {a3 : Nat} {x4 : Int32} {o_a3 : zO} (h1 : kO V (a3) = some o_a3) (h2 : vp_in (x4) o_a3.2.2.length) (K : cWP d Fg h0 43 Q 22 [v0, sI ((x1) + (o_a3.2.2.getD (x4).toNatClampNeg 0)), v2, sR (some a3), sI (x4 + 1)] [] V bc bs) : cWP d Fg h0 43 Q 36 [v0, sI (x1), v2, sR (some a3), sI (x4)] [] V bc bs := by
  intro h R
  refine w_iload_n mb43 dX5_sum_36 37 rfl rfl ?_
  refine w_aload_n mb43 dX5_sum_37 38 rfl rfl ?_
  refine y_o2 mb43 dX5_sum_38 41 rfl R lf5_25 h1 ?_
  refine w_iload mb43 dX5_sum_41 43 rfl rfl ?_
  refine y_rald mb43 dX5_sum_43 44 rfl R h1 h2 ?_
  refine w_iadd mb43 dX5_sum_44 45 rfl ?_
  refine w_istore_n mb43 dX5_sum_45 46 rfl [v0, sI ((x1) + (o_a3.2.2.getD (x4).toNatClampNeg 0)), v2, sR (some a3), sI (x4)] (Nat.le_of_ble_eq_true rfl) rfl ?_
  refine w_iinc mb43 dX5_sum_46 49 rfl rfl (x4 + 1) rfl [v0, sI ((x1) + (o_a3.2.2.getD (x4).toNatClampNeg 0)), v2, sR (some a3), sI (x4 + 1)] rfl ?_
  refine w_goto mb43 dX5_sum_49 22 (by decide) ?_
  exact K h R

theorem bX5_sum_52 {d : Nat} {Fg : Nat → Prop} {h0 : hp} {Q : Option sV → kV → Prop} {V : kV} {bc bs : Nat} {v0 : sV} {v1 : sV} {x2 : Int32} {v3 : sV} {v4 : sV} (K : cWP d Fg h0 43 Q 4 [v0, v1, sI (x2 + 1), v3, v4] [] V bc bs) : cWP d Fg h0 43 Q 52 [v0, v1, sI (x2), v3, v4] [] V bc bs := by
  intro h R
  refine w_iinc mb43 dX5_sum_52 55 rfl rfl (x2 + 1) rfl [v0, v1, sI (x2 + 1), v3, v4] rfl ?_
  refine w_goto mb43 dX5_sum_55 4 (by decide) ?_
  exact K h R

theorem bX5_sum_58 {d : Nat} {Fg : Nat → Prop} {h0 : hp} {Q : Option sV → kV → Prop} {V : kV} {bc bs : Nat} {v0 : sV} {x1 : Int32} {v2 : sV} {v3 : sV} {v4 : sV} (K : Q (some (sI (x1))) V) : cWP d Fg h0 43 Q 58 [v0, sI (x1), v2, v3, v4] [] V bc bs := by
  intro h R
  refine w_iload_n mb43 dX5_sum_58 59 rfl rfl ?_
  refine w_iret mb43 dX5_sum_59 rfl ?_
  exact ⟨_, R, K⟩

theorem bX6_source_0 {d : Nat} {Fg : Nat → Prop} {h0 : hp} {Q : Option sV → kV → Prop} {V : kV} {bc bs : Nat} {a0 : Nat} {x1 : Int32} {v2 : sV} {b1 : Nat} (h1 : kR V 602 (a0) = some b1) (h2 : kC V (a0) = 7) (h3 : kC V (b1) = 5) {bc1 bs1 : Nat} {P : Option sV → kV → Prop} (C : cM d Fg h0 32 [sR (some b1), sI (x1)] V bc1 bs1 P) (hbc : bc1 ≤ bc) (hbs : bs1 ≤ bs) (K : ∀ r V1, P r V1 → cWP d Fg h0 45 Q 8 [sR (some a0), sI (x1), v2] (r.toList ++ []) V1 (bc - bc1) (bs - bs1)) : cWP d Fg h0 45 Q 0 [sR (some a0), sI (x1), v2] [] V bc bs := by
  intro h R
  refine w_aload_n mb45 dX6_source_0 1 rfl rfl ?_
  refine y_getr mb45 dX6_source_1 4 rfl R 602 lf6_27 rfl rfl rfl rfl h2 h1 ?_
  refine w_iload_n mb45 dX6_source_4 5 rfl rfl ?_
  refine w_virtual (a := b1) (c := 4) (st := []) mb45 dX6_source_5 8 rfl 32 1 [sI (x1)] _ rfl rfl rfl lc6_28 (R.k h3) (Nat.le_of_ble_eq_true rfl) (C h R) hbc hbs (fun r h1 hP => ?_)
  obtain ⟨V1, R1, hP⟩ := hP
  exact K r V1 hP h1 R1
