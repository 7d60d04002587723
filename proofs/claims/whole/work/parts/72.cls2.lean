theorem bX2_readInOrder_85 {d : Nat} {Fg : Nat → Prop} {h0 : hp} {Q : Option sV → kV → Prop} {V : kV} {bc bs : Nat} {v0 : sV} {v1 : sV} {v2 : sV} {v3 : sV} {v4 : sV} {v5 : sV} (h1 : 1 ≤ bc) (h2 : 3 ≤ bs) (K : ∀ y, ¬ kD V y → cWP d Fg h0 18 Q 88 [v0, v1, v2, v3, v4, v5] [sR (some y)] (uN V y 2) (bc - 1) (bs - 3)) : cWP d Fg h0 18 Q 85 [v0, v1, v2, v3, v4, v5] [] V bc bs := by
  intro h R
  refine y_newO mb18 dX2_readInOrder_85 88 rfl R ln2_62 h1 h2 (fun y h hy R => ?_)
  exact K y hy h R

theorem bX2_readInOrder_88 {d : Nat} {Fg : Nat → Prop} {h0 : hp} {Q : Option sV → kV → Prop} {V : kV} {bc bs : Nat} {v0 : sV} {a1 : Nat} {r2 : Option Nat} {v3 : sV} {v4 : sV} {v5 : sV} {z0 : Option Nat} (h1 : kC V (a1) = 4) {bc1 bs1 : Nat} {P : Option sV → kV → Prop} (C : cM d Fg h0 19 [sI (kI V 301 (a1)), sR (r2)] V bc1 bs1 P) (hbc : bc1 ≤ bc) (hbs : bs1 ≤ bs) (K : ∀ r V1, P r V1 → cWP d Fg h0 18 Q 99 [v0, sR (some a1), sR (r2), v3, v4, v5] (r.toList ++ [sI (0), sI (0), sR (z0), sR (z0)]) V1 (bc - bc1) (bs - bs1)) : cWP d Fg h0 18 Q 88 [v0, sR (some a1), sR (r2), v3, v4, v5] [sR (z0)] V bc bs := by
  intro h R
  refine w_dup mb18 dX2_readInOrder_88 89 rfl rfl ?_
  refine w_iconst mb18 dX2_readInOrder_89 90 rfl (0) (by decide) ?_
  refine w_iconst mb18 dX2_readInOrder_90 91 rfl (0) (by decide) ?_
  refine w_aload_n mb18 dX2_readInOrder_91 92 rfl rfl ?_
  refine y_geti mb18 dX2_readInOrder_92 95 rfl R 301 lf2_166 rfl rfl rfl h1 (x := kI V 301 (a1)) (by first | rfl | exact if_pos ⟨rfl, rfl⟩) ?_
  refine w_aload_n mb18 dX2_readInOrder_95 96 rfl rfl ?_
  refine w_static (st := [sI (0), sI (0), sR (z0), sR (z0)]) mb18 dX2_readInOrder_96 99 rfl 19 2 [sI (kI V 301 (a1)), sR (r2)] _ rfl rfl rfl lc2_195 (Nat.le_of_ble_eq_true rfl) (C h R) hbc hbs (fun r h1 hP => ?_)
  obtain ⟨V1, R1, hP⟩ := hP
  exact K r V1 hP h1 R1

theorem bX2_readInOrder_99 {d : Nat} {Fg : Nat → Prop} {h0 : hp} {Q : Option sV → kV → Prop} {V : kV} {bc bs : Nat} {v0 : sV} {v1 : sV} {v2 : sV} {v3 : sV} {v4 : sV} {v5 : sV} {z0 : Option Nat} {z1 : Nat} {y2 : Int32} {y3 : Int32} {z4 : Option Nat} {bc1 bs1 : Nat} {P : Option sV → kV → Prop} (C : cM d Fg h0 2 [sR (some z1), sI (y2), sI (y3), sR (z4)] V bc1 bs1 P) (hbc : bc1 ≤ bc) (hbs : bs1 ≤ bs) (K : ∀ r V1, P r V1 → cWP d Fg h0 18 Q 102 [v0, v1, v2, v3, v4, v5] (r.toList ++ [sR (z0)]) V1 (bc - bc1) (bs - bs1)) : cWP d Fg h0 18 Q 99 [v0, v1, v2, v3, v4, v5] [sR (z4), sI (y3), sI (y2), sR (some z1), sR (z0)] V bc bs := by
  intro h R
  refine w_special (a := z1) (st := [sR (z0)]) mb18 dX2_readInOrder_99 102 rfl 2 3 [sI (y2), sI (y3), sR (z4)] _ rfl rfl rfl lc2_199 (Nat.le_of_ble_eq_true rfl) (C h R) hbc hbs (fun r h1 hP => ?_)
  obtain ⟨V1, R1, hP⟩ := hP
  exact K r V1 hP h1 R1

theorem bX2_readInOrder_102 {d : Nat} {Fg : Nat → Prop} {h0 : hp} {Q : Option sV → kV → Prop} {V : kV} {bc bs : Nat} {v0 : sV} {v1 : sV} {v2 : sV} {v3 : sV} {v4 : sV} {v5 : sV} {z0 : Option Nat} (K : Q (some (sR (z0))) V) : cWP d Fg h0 18 Q 102 [v0, v1, v2, v3, v4, v5] [sR (z0)] V bc bs := by
  intro h R
  refine w_aret mb18 dX2_readInOrder_102 _ rfl (by first | exact Or.inl ⟨_, rfl⟩ | exact Or.inr ⟨_, rfl⟩) ?_
  exact ⟨_, R, K⟩

theorem bX2_rowOf_0 {d : Nat} {Fg : Nat → Prop} {h0 : hp} {Q : Option sV → kV → Prop} {V : kV} {bc bs : Nat} {x0 : Int32} {v1 : sV} {v2 : sV} (K1 : ¬ (x0) = (2) → cWP d Fg h0 19 Q 16 [sI (x0), v1, v2] [] V bc bs) (K2 : (x0) = (2) → cWP d Fg h0 19 Q 5 [sI (x0), v1, v2] [] V bc bs) : cWP d Fg h0 19 Q 0 [sI (x0), v1, v2] [] V bc bs := by
  intro h R
  refine w_iload_n mb19 dX2_rowOf_0 1 rfl rfl ?_
  refine w_iconst mb19 dX2_rowOf_1 2 rfl (2) (by decide) ?_
  refine w_icmp_ne mb19 dX2_rowOf_2 16 5 (by decide) rfl (fun z => ?_) (fun z => ?_)
  · exact K1 z h R
  · exact K2 z h R

theorem bX2_rowOf_5 {d : Nat} {Fg : Nat → Prop} {h0 : hp} {Q : Option sV → kV → Prop} {V : kV} {bc bs : Nat} {v0 : sV} {v1 : sV} {v2 : sV} {N : Nat} (h1 : ¬ (1 : Int32) < 0) (h2 : (1 : Int32).toNatClampNeg = N) (h3 : N ≤ 100000) (h4 : 1 ≤ bc) (h5 : N ≤ bs) (K : ∀ y, ¬ kD V y → cWP d Fg h0 19 Q 8 [v0, v1, v2] [sR (some y)] (uW V y (some (N, fun _ => 0))) (bc - 1) (bs - N)) : cWP d Fg h0 19 Q 5 [v0, v1, v2] [] V bc bs := by
  intro h R
  refine w_iconst mb19 dX2_rowOf_5 6 rfl (1) (by decide) ?_
  refine y_newW mb19 dX2_rowOf_6 8 rfl R N h1 h2 h3 h4 h5 (fun y h hy R => ?_)
  exact K y hy h R

theorem bX2_rowOf_8 {d : Nat} {Fg : Nat → Prop} {h0 : hp} {Q : Option sV → kV → Prop} {V : kV} {bc bs : Nat} {v0 : sV} {a1 : Nat} {v2 : sV} {z0 : Option Nat} (h1 : kC V (a1) = 6) {bc1 bs1 : Nat} {P : Option sV → kV → Prop} (C : cM d Fg h0 43 [sR (some a1)] V bc1 bs1 P) (hbc : bc1 ≤ bc) (hbs : bs1 ≤ bs) (K : ∀ r V1, P r V1 → cWP d Fg h0 19 Q 14 [v0, sR (some a1), v2] (r.toList ++ [sI (0), sR (z0), sR (z0)]) V1 (bc - bc1) (bs - bs1)) : cWP d Fg h0 19 Q 8 [v0, sR (some a1), v2] [sR (z0)] V bc bs := by
  intro h R
  refine w_dup mb19 dX2_rowOf_8 9 rfl rfl ?_
  refine w_iconst mb19 dX2_rowOf_9 10 rfl (0) (by decide) ?_
  refine w_aload_n mb19 dX2_rowOf_10 11 rfl rfl ?_
  refine w_virtual (a := a1) (c := 5) (st := [sI (0), sR (z0), sR (z0)]) mb19 dX2_rowOf_11 14 rfl 43 0 [] _ rfl rfl rfl lc2_202 (R.k h1) (Nat.le_of_ble_eq_true rfl) (C h R) hbc hbs (fun r h1 hP => ?_)
  obtain ⟨V1, R1, hP⟩ := hP
  exact K r V1 hP h1 R1

theorem bX2_rowOf_14 {d : Nat} {Fg : Nat → Prop} {h0 : hp} {Q : Option sV → kV → Prop} {V : kV} {bc bs : Nat} {v0 : sV} {v1 : sV} {v2 : sV} {z0 : Option Nat} {z1 : Nat} {y2 : Int32} {y3 : Int32} {n_z1 : Nat} {g_z1 : Nat → Int32} (h1 : kW V z1 = some (n_z1, g_z1)) (h2 : vp_in (y2) n_z1) (K : Q (some (sR (z0))) (uW V (z1) (some (n_z1, upd (g_z1) (y2).toNatClampNeg (y3))))) : cWP d Fg h0 19 Q 14 [v0, v1, v2] [sI (y3), sI (y2), sR (some z1), sR (z0)] V bc bs := by
  intro h R
  refine y_wast mb19 dX2_rowOf_14 15 rfl R h1 h2 (fun h R => ?_)
  refine w_aret mb19 dX2_rowOf_15 _ rfl (by first | exact Or.inl ⟨_, rfl⟩ | exact Or.inr ⟨_, rfl⟩) ?_
  exact ⟨_, R, K⟩

theorem bX2_rowOf_16 {d : Nat} {Fg : Nat → Prop} {h0 : hp} {Q : Option sV → kV → Prop} {V : kV} {bc bs : Nat} {v0 : sV} {a1 : Nat} {v2 : sV} (h1 : kC V (a1) = 6) {bc1 bs1 : Nat} {P : Option sV → kV → Prop} (C : cM d Fg h0 42 [sR (some a1), sI (0)] V bc1 bs1 P) (hbc : bc1 ≤ bc) (hbs : bs1 ≤ bs) (K : ∀ r V1, P r V1 → cWP d Fg h0 19 Q 21 [v0, sR (some a1), v2] (r.toList ++ []) V1 (bc - bc1) (bs - bs1)) : cWP d Fg h0 19 Q 16 [v0, sR (some a1), v2] [] V bc bs := by
  intro h R
  refine w_aload_n mb19 dX2_rowOf_16 17 rfl rfl ?_
  refine w_iconst mb19 dX2_rowOf_17 18 rfl (0) (by decide) ?_
  refine w_virtual (a := a1) (c := 5) (st := []) mb19 dX2_rowOf_18 21 rfl 42 1 [sI (0)] _ rfl rfl rfl lc2_206 (R.k h1) (Nat.le_of_ble_eq_true rfl) (C h R) hbc hbs (fun r h1 hP => ?_)
  obtain ⟨V1, R1, hP⟩ := hP
  exact K r V1 hP h1 R1

theorem bX2_rowOf_21 {d : Nat} {Fg : Nat → Prop} {h0 : hp} {Q : Option sV → kV → Prop} {V : kV} {bc bs : Nat} {x0 : Int32} {v1 : sV} {v2 : sV} {z0 : Option Nat} (K1 : ¬ (x0) = (3) → cWP d Fg h0 19 Q 31 [sI (x0), v1, sR (z0)] [] V bc bs) (K2 : (x0) = (3) → cWP d Fg h0 19 Q 27 [sI (x0), v1, sR (z0)] [] V bc bs) : cWP d Fg h0 19 Q 21 [sI (x0), v1, v2] [sR (z0)] V bc bs := by
  intro h R
  refine w_astore_n mb19 dX2_rowOf_21 22 rfl [sI (x0), v1, sR (z0)] (Nat.le_of_ble_eq_true rfl) rfl ?_
  refine w_iload_n mb19 dX2_rowOf_22 23 rfl rfl ?_
  refine w_iconst mb19 dX2_rowOf_23 24 rfl (3) (by decide) ?_
  refine w_icmp_ne mb19 dX2_rowOf_24 31 27 (by decide) rfl (fun z => ?_) (fun z => ?_)
  · exact K1 z h R
  · exact K2 z h R

theorem bX2_rowOf_27 {d : Nat} {Fg : Nat → Prop} {h0 : hp} {Q : Option sV → kV → Prop} {V : kV} {bc bs : Nat} {v0 : sV} {v1 : sV} {r2 : Option Nat} {bc1 bs1 : Nat} {P : Option sV → kV → Prop} (C : cM d Fg h0 20 [sR (r2)] V bc1 bs1 P) (hbc : bc1 ≤ bc) (hbs : bs1 ≤ bs) (K : ∀ r V1, P r V1 → cWP d Fg h0 19 Q 31 [v0, v1, sR (r2)] (r.toList ++ []) V1 (bc - bc1) (bs - bs1)) : cWP d Fg h0 19 Q 27 [v0, v1, sR (r2)] [] V bc bs := by
  intro h R
  refine w_aload_n mb19 dX2_rowOf_27 28 rfl rfl ?_
  refine w_static (st := []) mb19 dX2_rowOf_28 31 rfl 20 1 [sR (r2)] _ rfl rfl rfl lc2_210 (Nat.le_of_ble_eq_true rfl) (C h R) hbc hbs (fun r h1 hP => ?_)
  obtain ⟨V1, R1, hP⟩ := hP
  exact K r V1 hP h1 R1

theorem bX2_rowOf_31 {d : Nat} {Fg : Nat → Prop} {h0 : hp} {Q : Option sV → kV → Prop} {V : kV} {bc bs : Nat} {v0 : sV} {v1 : sV} {r2 : Option Nat} (K : Q (some (sR (r2))) V) : cWP d Fg h0 19 Q 31 [v0, v1, sR (r2)] [] V bc bs := by
  intro h R
  refine w_aload_n mb19 dX2_rowOf_31 32 rfl rfl ?_
  refine w_aret mb19 dX2_rowOf_32 _ rfl (by first | exact Or.inl ⟨_, rfl⟩ | exact Or.inr ⟨_, rfl⟩) ?_
  exact ⟨_, R, K⟩

theorem bX2_sort_0 {d : Nat} {Fg : Nat → Prop} {h0 : hp} {Q : Option sV → kV → Prop} {V : kV} {bc bs : Nat} {v0 : sV} {v1 : sV} {v2 : sV} {v3 : sV} (K : cWP d Fg h0 20 Q 2 [v0, sI (1), v2, v3] [] V bc bs) : cWP d Fg h0 20 Q 0 [v0, v1, v2, v3] [] V bc bs := by
  intro h R
  refine w_iconst mb20 dX2_sort_0 1 rfl (1) (by decide) ?_
  refine w_istore_n mb20 dX2_sort_1 2 rfl [v0, sI (1), v2, v3] (Nat.le_of_ble_eq_true rfl) rfl ?_
  exact K h R

theorem bX2_sort_2 {d : Nat} {Fg : Nat → Prop} {h0 : hp} {Q : Option sV → kV → Prop} {V : kV} {bc bs : Nat} {a0 : Nat} {x1 : Int32} {v2 : sV} {v3 : sV} {n_a0 : Nat} {g_a0 : Nat → Int32} (h1 : kW V a0 = some (n_a0, g_a0)) (K1 : (nI n_a0) ≤ (x1) → cWP d Fg h0 20 Q 51 [sR (some a0), sI (x1), v2, v3] [] V bc bs) (K2 : ¬ (nI n_a0) ≤ (x1) → cWP d Fg h0 20 Q 8 [sR (some a0), sI (x1), v2, v3] [] V bc bs) : cWP d Fg h0 20 Q 2 [sR (some a0), sI (x1), v2, v3] [] V bc bs := by
  intro h R
  refine w_iload_n mb20 dX2_sort_2 3 rfl rfl ?_
  refine w_aload_n mb20 dX2_sort_3 4 rfl rfl ?_
  refine y_wlen mb20 dX2_sort_4 5 rfl R h1 ?_
  refine w_icmp_ge mb20 dX2_sort_5 51 8 (by decide) rfl (fun z => ?_) (fun z => ?_)
  · exact K1 z h R
  · exact K2 z h R

theorem bX2_sort_8 {d : Nat} {Fg : Nat → Prop} {h0 : hp} {Q : Option sV → kV → Prop} {V : kV} {bc bs : Nat} {a0 : Nat} {x1 : Int32} {v2 : sV} {v3 : sV} {n_a0 : Nat} {g_a0 : Nat → Int32} (h1 : kW V a0 = some (n_a0, g_a0)) (h2 : vp_in (x1) n_a0) (K : cWP d Fg h0 20 Q 14 [sR (some a0), sI (x1), sI ((g_a0) (x1).toNatClampNeg), sI (x1)] [] V bc bs) : cWP d Fg h0 20 Q 8 [sR (some a0), sI (x1), v2, v3] [] V bc bs := by
  intro h R
  refine w_aload_n mb20 dX2_sort_8 9 rfl rfl ?_
  refine w_iload_n mb20 dX2_sort_9 10 rfl rfl ?_
  refine y_wald mb20 dX2_sort_10 11 rfl R h1 h2 ?_
  refine w_istore_n mb20 dX2_sort_11 12 rfl [sR (some a0), sI (x1), sI ((g_a0) (x1).toNatClampNeg), v3] (Nat.le_of_ble_eq_true rfl) rfl ?_
  refine w_iload_n mb20 dX2_sort_12 13 rfl rfl ?_
  refine w_istore_n mb20 dX2_sort_13 14 rfl [sR (some a0), sI (x1), sI ((g_a0) (x1).toNatClampNeg), sI (x1)] (Nat.le_of_ble_eq_true rfl) rfl ?_
  exact K h R

theorem bX2_sort_14 {d : Nat} {Fg : Nat → Prop} {h0 : hp} {Q : Option sV → kV → Prop} {V : kV} {bc bs : Nat} {v0 : sV} {v1 : sV} {v2 : sV} {x3 : Int32} (K1 : (x3) ≤ 0 → cWP d Fg h0 20 Q 41 [v0, v1, v2, sI (x3)] [] V bc bs) (K2 : ¬ (x3) ≤ 0 → cWP d Fg h0 20 Q 18 [v0, v1, v2, sI (x3)] [] V bc bs) : cWP d Fg h0 20 Q 14 [v0, v1, v2, sI (x3)] [] V bc bs := by
  intro h R
  refine w_iload_n mb20 dX2_sort_14 15 rfl rfl ?_
  refine w_if_le mb20 dX2_sort_15 41 18 (by decide) rfl (fun z => ?_) (fun z => ?_)
  · exact K1 z h R
  · exact K2 z h R

theorem bX2_sort_18 {d : Nat} {Fg : Nat → Prop} {h0 : hp} {Q : Option sV → kV → Prop} {V : kV} {bc bs : Nat} {a0 : Nat} {v1 : sV} {x2 : Int32} {x3 : Int32} {n_a0 : Nat} {g_a0 : Nat → Int32} (h1 : kW V a0 = some (n_a0, g_a0)) (h2 : vp_in ((x3) - (1)) n_a0) (K1 : ((g_a0) ((x3) - (1)).toNatClampNeg) ≤ (x2) → cWP d Fg h0 20 Q 41 [sR (some a0), v1, sI (x2), sI (x3)] [] V bc bs) (K2 : ¬ ((g_a0) ((x3) - (1)).toNatClampNeg) ≤ (x2) → cWP d Fg h0 20 Q 27 [sR (some a0), v1, sI (x2), sI (x3)] [] V bc bs) : cWP d Fg h0 20 Q 18 [sR (some a0), v1, sI (x2), sI (x3)] [] V bc bs := by
  intro h R
  refine w_aload_n mb20 dX2_sort_18 19 rfl rfl ?_
  refine w_iload_n mb20 dX2_sort_19 20 rfl rfl ?_
  refine w_iconst mb20 dX2_sort_20 21 rfl (1) (by decide) ?_
  refine w_isub mb20 dX2_sort_21 22 rfl ?_
  refine y_wald mb20 dX2_sort_22 23 rfl R h1 h2 ?_
  refine w_iload_n mb20 dX2_sort_23 24 rfl rfl ?_
  refine w_icmp_le mb20 dX2_sort_24 41 27 (by decide) rfl (fun z => ?_) (fun z => ?_)
  · exact K1 z h R
  · exact K2 z h R

theorem bX2_sort_27 {d : Nat} {Fg : Nat → Prop} {h0 : hp} {Q : Option sV → kV → Prop} {V : kV} {bc bs : Nat} {a0 : Nat} {v1 : sV} {v2 : sV} {x3 : Int32} {n_a0 : Nat} {g_a0 : Nat → Int32} (h1 : kW V a0 = some (n_a0, g_a0)) (h2 : vp_in ((x3) - (1)) n_a0) (h3 : vp_in (x3) n_a0) (K : cWP d Fg h0 20 Q 14 [sR (some a0), v1, v2, sI (x3 + (-1))] [] (uW V (a0) (some (n_a0, upd (g_a0) (x3).toNatClampNeg ((g_a0) ((x3) - (1)).toNatClampNeg)))) bc bs) : cWP d Fg h0 20 Q 27 [sR (some a0), v1, v2, sI (x3)] [] V bc bs := by
  intro h R
  refine w_aload_n mb20 dX2_sort_27 28 rfl rfl ?_
  refine w_iload_n mb20 dX2_sort_28 29 rfl rfl ?_
  refine w_aload_n mb20 dX2_sort_29 30 rfl rfl ?_
  refine w_iload_n mb20 dX2_sort_30 31 rfl rfl ?_
  refine w_iconst mb20 dX2_sort_31 32 rfl (1) (by decide) ?_
  refine w_isub mb20 dX2_sort_32 33 rfl ?_
  refine y_wald mb20 dX2_sort_33 34 rfl R h1 h2 ?_
  refine y_wast mb20 dX2_sort_34 35 rfl R h1 h3 (fun h R => ?_)
  refine w_iinc mb20 dX2_sort_35 38 rfl rfl (x3 + (-1)) rfl [sR (some a0), v1, v2, sI (x3 + (-1))] rfl ?_
  refine w_goto mb20 dX2_sort_38 14 (by decide) ?_
  exact K h R

theorem bX2_sort_41 {d : Nat} {Fg : Nat → Prop} {h0 : hp} {Q : Option sV → kV → Prop} {V : kV} {bc bs : Nat} {a0 : Nat} {x1 : Int32} {x2 : Int32} {x3 : Int32} {n_a0 : Nat} {g_a0 : Nat → Int32} (h1 : kW V a0 = some (n_a0, g_a0)) (h2 : vp_in (x3) n_a0) (K : cWP d Fg h0 20 Q 2 [sR (some a0), sI (x1 + 1), sI (x2), sI (x3)] [] (uW V (a0) (some (n_a0, upd (g_a0) (x3).toNatClampNeg (x2)))) bc bs) : cWP d Fg h0 20 Q 41 [sR (some a0), sI (x1), sI (x2), sI (x3)] [] V bc bs := by
  intro h R
  refine w_aload_n mb20 dX2_sort_41 42 rfl rfl ?_
  refine w_iload_n mb20 dX2_sort_42 43 rfl rfl ?_
  refine w_iload_n mb20 dX2_sort_43 44 rfl rfl ?_
  refine y_wast mb20 dX2_sort_44 45 rfl R h1 h2 (fun h R => ?_)
  refine w_iinc mb20 dX2_sort_45 48 rfl rfl (x1 + 1) rfl [sR (some a0), sI (x1 + 1), sI (x2), sI (x3)] rfl ?_
  refine w_goto mb20 dX2_sort_48 2 (by decide) ?_
  exact K h R

theorem bX2_sort_51 {d : Nat} {Fg : Nat → Prop} {h0 : hp} {Q : Option sV → kV → Prop} {V : kV} {bc bs : Nat} {v0 : sV} {v1 : sV} {v2 : sV} {v3 : sV} (K : Q (none) V) : cWP d Fg h0 20 Q 51 [v0, v1, v2, v3] [] V bc bs := by
  intro h R
  refine w_vret mb20 dX2_sort_51 rfl ?_
  exact ⟨_, R, K⟩

theorem bX2_readPicked_0 {d : Nat} {Fg : Nat → Prop} {h0 : hp} {Q : Option sV → kV → Prop} {V : kV} {bc bs : Nat} {v0 : sV} {a1 : Nat} {v2 : sV} {v3 : sV} {v4 : sV} {v5 : sV} {v6 : sV} {v7 : sV} {v8 : sV} (h1 : kC V (a1) = 4) {bc1 bs1 : Nat} {P : Option sV → kV → Prop} (C : cM d Fg h0 27 [sR (some a1)] V bc1 bs1 P) (hbc : bc1 ≤ bc) (hbs : bs1 ≤ bs) (K : ∀ r V1, P r V1 → cWP d Fg h0 21 Q 4 [v0, sR (some a1), v2, v3, v4, v5, v6, v7, v8] (r.toList ++ []) V1 (bc - bc1) (bs - bs1)) : cWP d Fg h0 21 Q 0 [v0, sR (some a1), v2, v3, v4, v5, v6, v7, v8] [] V bc bs := by
  intro h R
  refine w_aload_n mb21 dX2_readPicked_0 1 rfl rfl ?_
  refine w_virtual (a := a1) (c := 3) (st := []) mb21 dX2_readPicked_1 4 rfl 27 0 [] _ rfl rfl rfl lc2_162 (R.k h1) (Nat.le_of_ble_eq_true rfl) (C h R) hbc hbs (fun r h1 hP => ?_)
  obtain ⟨V1, R1, hP⟩ := hP
  exact K r V1 hP h1 R1

theorem bX2_readPicked_4 {d : Nat} {Fg : Nat → Prop} {h0 : hp} {Q : Option sV → kV → Prop} {V : kV} {bc bs : Nat} {v0 : sV} {a1 : Nat} {v2 : sV} {v3 : sV} {v4 : sV} {v5 : sV} {v6 : sV} {v7 : sV} {v8 : sV} {z0 : Option Nat} (h1 : kC V (a1) = 4) (K1 : (kI V 304 (a1)) ≤ 0 → cWP d Fg h0 21 Q 21 [v0, sR (some a1), v2, sR (z0), v4, v5, v6, v7, v8] [] V bc bs) (K2 : ¬ (kI V 304 (a1)) ≤ 0 → cWP d Fg h0 21 Q 12 [v0, sR (some a1), v2, sR (z0), v4, v5, v6, v7, v8] [] V bc bs) : cWP d Fg h0 21 Q 4 [v0, sR (some a1), v2, v3, v4, v5, v6, v7, v8] [sR (z0)] V bc bs := by
  intro h R
  refine w_astore_n mb21 dX2_readPicked_4 5 rfl [v0, sR (some a1), v2, sR (z0), v4, v5, v6, v7, v8] (Nat.le_of_ble_eq_true rfl) rfl ?_
  refine w_aload_n mb21 dX2_readPicked_5 6 rfl rfl ?_
  refine y_geti mb21 dX2_readPicked_6 9 rfl R 304 lf2_183 rfl rfl rfl h1 (x := kI V 304 (a1)) (by first | rfl | exact if_pos ⟨rfl, rfl⟩) ?_
  refine w_if_le mb21 dX2_readPicked_9 21 12 (by decide) rfl (fun z => ?_) (fun z => ?_)
  · exact K1 z h R
  · exact K2 z h R

theorem bX2_readPicked_12 {d : Nat} {Fg : Nat → Prop} {h0 : hp} {Q : Option sV → kV → Prop} {V : kV} {bc bs : Nat} {a0 : Nat} {r1 : Option Nat} {v2 : sV} {v3 : sV} {v4 : sV} {v5 : sV} {v6 : sV} {v7 : sV} {v8 : sV} (h1 : kC V (a0) = 3) {bc1 bs1 : Nat} {P : Option sV → kV → Prop} (C : cM d Fg h0 22 [sR (some a0), sR (r1), sI (0)] V bc1 bs1 P) (hbc : bc1 ≤ bc) (hbs : bs1 ≤ bs) (K : ∀ r V1, P r V1 → cWP d Fg h0 21 Q 18 [sR (some a0), sR (r1), v2, v3, v4, v5, v6, v7, v8] (r.toList ++ []) V1 (bc - bc1) (bs - bs1)) : cWP d Fg h0 21 Q 12 [sR (some a0), sR (r1), v2, v3, v4, v5, v6, v7, v8] [] V bc bs := by
  intro h R
  refine w_aload_n mb21 dX2_readPicked_12 13 rfl rfl ?_
  refine w_aload_n mb21 dX2_readPicked_13 14 rfl rfl ?_
  refine w_iconst mb21 dX2_readPicked_14 15 rfl (0) (by decide) ?_
  refine w_virtual (a := a0) (c := 2) (st := []) mb21 dX2_readPicked_15 18 rfl 22 2 [sR (r1), sI (0)] _ rfl rfl rfl lc2_186 (R.k h1) (Nat.le_of_ble_eq_true rfl) (C h R) hbc hbs (fun r h1 hP => ?_)
  obtain ⟨V1, R1, hP⟩ := hP
  exact K r V1 hP h1 R1

theorem bX2_readPicked_18 {d : Nat} {Fg : Nat → Prop} {h0 : hp} {Q : Option sV → kV → Prop} {V : kV} {bc bs : Nat} {v0 : sV} {v1 : sV} {v2 : sV} {v3 : sV} {v4 : sV} {v5 : sV} {v6 : sV} {v7 : sV} {v8 : sV} {z0 : Option Nat} (K : cWP d Fg h0 21 Q 22 [v0, v1, v2, v3, v4, v5, v6, v7, v8] [sR (z0)] V bc bs) : cWP d Fg h0 21 Q 18 [v0, v1, v2, v3, v4, v5, v6, v7, v8] [sR (z0)] V bc bs := by
  intro h R
  refine w_goto mb21 dX2_readPicked_18 22 (by decide) ?_
  exact K h R

theorem bX2_readPicked_21 {d : Nat} {Fg : Nat → Prop} {h0 : hp} {Q : Option sV → kV → Prop} {V : kV} {bc bs : Nat} {v0 : sV} {v1 : sV} {v2 : sV} {v3 : sV} {v4 : sV} {v5 : sV} {v6 : sV} {v7 : sV} {v8 : sV} (K : cWP d Fg h0 21 Q 22 [v0, v1, v2, v3, v4, v5, v6, v7, v8] [sR (none)] V bc bs) : cWP d Fg h0 21 Q 21 [v0, v1, v2, v3, v4, v5, v6, v7, v8] [] V bc bs := by
  intro h R
  refine w_null mb21 dX2_readPicked_21 22 rfl ?_
  exact K h R

theorem bX2_readPicked_22 {d : Nat} {Fg : Nat → Prop} {h0 : hp} {Q : Option sV → kV → Prop} {V : kV} {bc bs : Nat} {v0 : sV} {v1 : sV} {v2 : sV} {v3 : sV} {v4 : sV} {v5 : sV} {v6 : sV} {v7 : sV} {v8 : sV} {z0 : Option Nat} (K1 : (z0) = none → cWP d Fg h0 21 Q 32 [v0, v1, v2, v3, sR (z0), v5, v6, v7, v8] [] V bc bs) (K2 : ¬ (z0) = none → cWP d Fg h0 21 Q 29 [v0, v1, v2, v3, sR (z0), v5, v6, v7, v8] [] V bc bs) : cWP d Fg h0 21 Q 22 [v0, v1, v2, v3, v4, v5, v6, v7, v8] [sR (z0)] V bc bs := by
  intro h R
  refine w_astore mb21 dX2_readPicked_22 24 rfl [v0, v1, v2, v3, sR (z0), v5, v6, v7, v8] (Nat.le_of_ble_eq_true rfl) rfl ?_
  refine w_aload mb21 dX2_readPicked_24 26 rfl rfl ?_
  refine w_ifnull mb21 dX2_readPicked_26 32 29 (by decide) rfl (fun z => ?_) (fun z => ?_)
  · exact K1 z h R
  · exact K2 z h R

theorem bX2_readPicked_29 {d : Nat} {Fg : Nat → Prop} {h0 : hp} {Q : Option sV → kV → Prop} {V : kV} {bc bs : Nat} {v0 : sV} {v1 : sV} {v2 : sV} {v3 : sV} {r4 : Option Nat} {v5 : sV} {v6 : sV} {v7 : sV} {v8 : sV} (K : Q (some (sR (r4))) V) : cWP d Fg h0 21 Q 29 [v0, v1, v2, v3, sR (r4), v5, v6, v7, v8] [] V bc bs := by
  intro h R
  refine w_aload mb21 dX2_readPicked_29 31 rfl rfl ?_
  refine w_aret mb21 dX2_readPicked_31 _ rfl (by first | exact Or.inl ⟨_, rfl⟩ | exact Or.inr ⟨_, rfl⟩) ?_
  exact ⟨_, R, K⟩

theorem bX2_readPicked_32 {d : Nat} {Fg : Nat → Prop} {h0 : hp} {Q : Option sV → kV → Prop} {V : kV} {bc bs : Nat} {v0 : sV} {v1 : sV} {v2 : sV} {a3 : Nat} {v4 : sV} {v5 : sV} {v6 : sV} {v7 : sV} {v8 : sV} (h1 : kC V (a3) = 6) {bc1 bs1 : Nat} {P : Option sV → kV → Prop} (C : cM d Fg h0 40 [sR (some a3), sI (0)] V bc1 bs1 P) (hbc : bc1 ≤ bc) (hbs : bs1 ≤ bs) (K : ∀ r V1, P r V1 → cWP d Fg h0 21 Q 37 [v0, v1, v2, sR (some a3), v4, v5, v6, v7, v8] (r.toList ++ []) V1 (bc - bc1) (bs - bs1)) : cWP d Fg h0 21 Q 32 [v0, v1, v2, sR (some a3), v4, v5, v6, v7, v8] [] V bc bs := by
  intro h R
  refine w_aload_n mb21 dX2_readPicked_32 33 rfl rfl ?_
  refine w_iconst mb21 dX2_readPicked_33 34 rfl (0) (by decide) ?_
  refine w_virtual (a := a3) (c := 5) (st := []) mb21 dX2_readPicked_34 37 rfl 40 1 [sI (0)] _ rfl rfl rfl lc2_151 (R.k h1) (Nat.le_of_ble_eq_true rfl) (C h R) hbc hbs (fun r h1 hP => ?_)
  obtain ⟨V1, R1, hP⟩ := hP
  exact K r V1 hP h1 R1

theorem bX2_readPicked_37 {d : Nat} {Fg : Nat → Prop} {h0 : hp} {Q : Option sV → kV → Prop} {V : kV} {bc bs : Nat} {v0 : sV} {a1 : Nat} {v2 : sV} {v3 : sV} {v4 : sV} {v5 : sV} {v6 : sV} {v7 : sV} {v8 : sV} {z0 : Option Nat} (h1 : kC V (a1) = 4) (K : cWP d Fg h0 21 Q 53 [v0, sR (some a1), v2, v3, v4, sR (z0), sI ((kI V 304 (a1)) - (1)), sI (0), sI (0)] [] V bc bs) : cWP d Fg h0 21 Q 37 [v0, sR (some a1), v2, v3, v4, v5, v6, v7, v8] [sR (z0)] V bc bs := by
  intro h R
  refine w_astore mb21 dX2_readPicked_37 39 rfl [v0, sR (some a1), v2, v3, v4, sR (z0), v6, v7, v8] (Nat.le_of_ble_eq_true rfl) rfl ?_
  refine w_aload_n mb21 dX2_readPicked_39 40 rfl rfl ?_
  refine y_geti mb21 dX2_readPicked_40 43 rfl R 304 lf2_183 rfl rfl rfl h1 (x := kI V 304 (a1)) (by first | rfl | exact if_pos ⟨rfl, rfl⟩) ?_
  refine w_iconst mb21 dX2_readPicked_43 44 rfl (1) (by decide) ?_
  refine w_isub mb21 dX2_readPicked_44 45 rfl ?_
  refine w_istore mb21 dX2_readPicked_45 47 rfl [v0, sR (some a1), v2, v3, v4, sR (z0), sI ((kI V 304 (a1)) - (1)), v7, v8] (Nat.le_of_ble_eq_true rfl) rfl ?_
  refine w_iconst mb21 dX2_readPicked_47 48 rfl (0) (by decide) ?_
  refine w_istore mb21 dX2_readPicked_48 50 rfl [v0, sR (some a1), v2, v3, v4, sR (z0), sI ((kI V 304 (a1)) - (1)), sI (0), v8] (Nat.le_of_ble_eq_true rfl) rfl ?_
  refine w_iconst mb21 dX2_readPicked_50 51 rfl (0) (by decide) ?_
  refine w_istore mb21 dX2_readPicked_51 53 rfl [v0, sR (some a1), v2, v3, v4, sR (z0), sI ((kI V 304 (a1)) - (1)), sI (0), sI (0)] (Nat.le_of_ble_eq_true rfl) rfl ?_
  exact K h R

theorem bX2_readPicked_53 {d : Nat} {Fg : Nat → Prop} {h0 : hp} {Q : Option sV → kV → Prop} {V : kV} {bc bs : Nat} {v0 : sV} {v1 : sV} {v2 : sV} {v3 : sV} {v4 : sV} {r5 : Option Nat} {v6 : sV} {v7 : sV} {v8 : sV} (K1 : (r5) = none → cWP d Fg h0 21 Q 141 [v0, v1, v2, v3, v4, sR (r5), v6, v7, v8] [] V bc bs) (K2 : ¬ (r5) = none → cWP d Fg h0 21 Q 58 [v0, v1, v2, v3, v4, sR (r5), v6, v7, v8] [] V bc bs) : cWP d Fg h0 21 Q 53 [v0, v1, v2, v3, v4, sR (r5), v6, v7, v8] [] V bc bs := by
  intro h R
  refine w_aload mb21 dX2_readPicked_53 55 rfl rfl ?_
  refine w_ifnull mb21 dX2_readPicked_55 141 58 (by decide) rfl (fun z => ?_) (fun z => ?_)
  · exact K1 z h R
  · exact K2 z h R

theorem bX2_readPicked_58 {d : Nat} {Fg : Nat → Prop} {h0 : hp} {Q : Option sV → kV → Prop} {V : kV} {bc bs : Nat} {v0 : sV} {v1 : sV} {v2 : sV} {v3 : sV} {v4 : sV} {v5 : sV} {x6 : Int32} {v7 : sV} {v8 : sV} (K1 : (x6) ≤ 0 → cWP d Fg h0 21 Q 141 [v0, v1, v2, v3, v4, v5, sI (x6), v7, v8] [] V bc bs) (K2 : ¬ (x6) ≤ 0 → cWP d Fg h0 21 Q 63 [v0, v1, v2, v3, v4, v5, sI (x6), v7, v8] [] V bc bs) : cWP d Fg h0 21 Q 58 [v0, v1, v2, v3, v4, v5, sI (x6), v7, v8] [] V bc bs := by
  intro h R
  refine w_iload mb21 dX2_readPicked_58 60 rfl rfl ?_
  refine w_if_le mb21 dX2_readPicked_60 141 63 (by decide) rfl (fun z => ?_) (fun z => ?_)
  · exact K1 z h R
  · exact K2 z h R

theorem bX2_readPicked_63 {d : Nat} {Fg : Nat → Prop} {h0 : hp} {Q : Option sV → kV → Prop} {V : kV} {bc bs : Nat} {v0 : sV} {v1 : sV} {v2 : sV} {v3 : sV} {v4 : sV} {a5 : Nat} {v6 : sV} {v7 : sV} {x8 : Int32} {o_a5 : zO} (h1 : kO V (a5) = some o_a5) (K1 : (nI o_a5.2.2.length) ≤ (x8) → cWP d Fg h0 21 Q 141 [v0, v1, v2, v3, v4, sR (some a5), v6, v7, sI (x8)] [] V bc bs) (K2 : ¬ (nI o_a5.2.2.length) ≤ (x8) → cWP d Fg h0 21 Q 74 [v0, v1, v2, v3, v4, sR (some a5), v6, v7, sI (x8)] [] V bc bs) : cWP d Fg h0 21 Q 63 [v0, v1, v2, v3, v4, sR (some a5), v6, v7, sI (x8)] [] V bc bs := by
  intro h R
  refine w_iload mb21 dX2_readPicked_63 65 rfl rfl ?_
  refine w_aload mb21 dX2_readPicked_65 67 rfl rfl ?_
  refine y_o2 mb21 dX2_readPicked_67 70 rfl R lf2_70 h1 ?_
  refine y_rlen mb21 dX2_readPicked_70 71 rfl R h1 ?_
  refine w_icmp_ge mb21 dX2_readPicked_71 141 74 (by decide) rfl (fun z => ?_) (fun z => ?_)
  · exact K1 z h R
  · exact K2 z h R

theorem bX2_readPicked_74 {d : Nat} {Fg : Nat → Prop} {h0 : hp} {Q : Option sV → kV → Prop} {V : kV} {bc bs : Nat} {v0 : sV} {v1 : sV} {x2 : Int32} {v3 : sV} {v4 : sV} {v5 : sV} {v6 : sV} {v7 : sV} {x8 : Int32} (K1 : (x2) ≤ (x8) → cWP d Fg h0 21 Q 141 [v0, v1, sI (x2), v3, v4, v5, v6, v7, sI (x8)] [] V bc bs) (K2 : ¬ (x2) ≤ (x8) → cWP d Fg h0 21 Q 80 [v0, v1, sI (x2), v3, v4, v5, v6, v7, sI (x8)] [] V bc bs) : cWP d Fg h0 21 Q 74 [v0, v1, sI (x2), v3, v4, v5, v6, v7, sI (x8)] [] V bc bs := by
  intro h R
  refine w_iload mb21 dX2_readPicked_74 76 rfl rfl ?_
  refine w_iload_n mb21 dX2_readPicked_76 77 rfl rfl ?_
  refine w_icmp_ge mb21 dX2_readPicked_77 141 80 (by decide) rfl (fun z => ?_) (fun z => ?_)
  · exact K1 z h R
  · exact K2 z h R

theorem bX2_readPicked_80 {d : Nat} {Fg : Nat → Prop} {h0 : hp} {Q : Option sV → kV → Prop} {V : kV} {bc bs : Nat} {r0 : Option Nat} {r1 : Option Nat} {v2 : sV} {v3 : sV} {v4 : sV} {a5 : Nat} {x6 : Int32} {v7 : sV} {x8 : Int32} {o_a5 : zO} (h1 : kO V (a5) = some o_a5) (h2 : vp_in (x8) o_a5.2.2.length) {bc1 bs1 : Nat} {P : Option sV → kV → Prop} (C : cM d Fg h0 125 [sI (o_a5.2.2.getD (x8).toNatClampNeg 0), sI (x6)] V bc1 bs1 P) (hbc : bc1 ≤ bc) (hbs : bs1 ≤ bs) (K : ∀ r V1, P r V1 → cWP d Fg h0 21 Q 96 [sR (r0), sR (r1), v2, v3, v4, sR (some a5), sI (x6), v7, sI (x8)] (r.toList ++ [sI (1), sR (r1), sR (r0)]) V1 (bc - bc1) (bs - bs1)) : cWP d Fg h0 21 Q 80 [sR (r0), sR (r1), v2, v3, v4, sR (some a5), sI (x6), v7, sI (x8)] [] V bc bs := by
  intro h R
  refine w_aload_n mb21 dX2_readPicked_80 81 rfl rfl ?_
  refine w_aload_n mb21 dX2_readPicked_81 82 rfl rfl ?_
  refine w_iconst mb21 dX2_readPicked_82 83 rfl (1) (by decide) ?_
  refine w_aload mb21 dX2_readPicked_83 85 rfl rfl ?_
  refine y_o2 mb21 dX2_readPicked_85 88 rfl R lf2_70 h1 ?_
  refine w_iload mb21 dX2_readPicked_88 90 rfl rfl ?_
  refine y_rald mb21 dX2_readPicked_90 91 rfl R h1 h2 ?_
  refine w_iload mb21 dX2_readPicked_91 93 rfl rfl ?_
  refine w_static (st := [sI (1), sR (r1), sR (r0)]) mb21 dX2_readPicked_93 96 rfl 125 2 [sI (o_a5.2.2.getD (x8).toNatClampNeg 0), sI (x6)] _ rfl rfl rfl lc2_214 (Nat.le_of_ble_eq_true rfl) (C h R) hbc hbs (fun r h1 hP => ?_)
  obtain ⟨V1, R1, hP⟩ := hP
  exact K r V1 hP h1 R1

theorem bX2_readPicked_96 {d : Nat} {Fg : Nat → Prop} {h0 : hp} {Q : Option sV → kV → Prop} {V : kV} {bc bs : Nat} {v0 : sV} {v1 : sV} {v2 : sV} {v3 : sV} {v4 : sV} {v5 : sV} {v6 : sV} {v7 : sV} {v8 : sV} {z0 : Nat} {z1 : Option Nat} {y2 : Int32} {y3 : Int32} (h1 : kC V (z0) = 3) {bc1 bs1 : Nat} {P : Option sV → kV → Prop} (C : cM d Fg h0 22 [sR (some z0), sR (z1), sI ((y2) + (y3))] V bc1 bs1 P) (hbc : bc1 ≤ bc) (hbs : bs1 ≤ bs) (K : ∀ r V1, P r V1 → cWP d Fg h0 21 Q 100 [v0, v1, v2, v3, v4, v5, v6, v7, v8] (r.toList ++ []) V1 (bc - bc1) (bs - bs1)) : cWP d Fg h0 21 Q 96 [v0, v1, v2, v3, v4, v5, v6, v7, v8] [sI (y3), sI (y2), sR (z1), sR (some z0)] V bc bs := by
  intro h R
  refine w_iadd mb21 dX2_readPicked_96 97 rfl ?_
  refine w_virtual (a := z0) (c := 2) (st := []) mb21 dX2_readPicked_97 100 rfl 22 2 [sR (z1), sI ((y2) + (y3))] _ rfl rfl rfl lc2_186 (R.k h1) (Nat.le_of_ble_eq_true rfl) (C h R) hbc hbs (fun r h1 hP => ?_)
  obtain ⟨V1, R1, hP⟩ := hP
  exact K r V1 hP h1 R1

theorem bX2_readPicked_100 {d : Nat} {Fg : Nat → Prop} {h0 : hp} {Q : Option sV → kV → Prop} {V : kV} {bc bs : Nat} {v0 : sV} {v1 : sV} {v2 : sV} {v3 : sV} {v4 : sV} {v5 : sV} {v6 : sV} {v7 : sV} {v8 : sV} {z0 : Option Nat} (K1 : (z0) = none → cWP d Fg h0 21 Q 110 [v0, v1, v2, v3, sR (z0), v5, v6, v7, v8] [] V bc bs) (K2 : ¬ (z0) = none → cWP d Fg h0 21 Q 107 [v0, v1, v2, v3, sR (z0), v5, v6, v7, v8] [] V bc bs) : cWP d Fg h0 21 Q 100 [v0, v1, v2, v3, v4, v5, v6, v7, v8] [sR (z0)] V bc bs := by
  intro h R
  refine w_astore mb21 dX2_readPicked_100 102 rfl [v0, v1, v2, v3, sR (z0), v5, v6, v7, v8] (Nat.le_of_ble_eq_true rfl) rfl ?_
  refine w_aload mb21 dX2_readPicked_102 104 rfl rfl ?_
  refine w_ifnull mb21 dX2_readPicked_104 110 107 (by decide) rfl (fun z => ?_) (fun z => ?_)
  · exact K1 z h R
  · exact K2 z h R

theorem bX2_readPicked_107 {d : Nat} {Fg : Nat → Prop} {h0 : hp} {Q : Option sV → kV → Prop} {V : kV} {bc bs : Nat} {v0 : sV} {v1 : sV} {v2 : sV} {v3 : sV} {r4 : Option Nat} {v5 : sV} {v6 : sV} {v7 : sV} {v8 : sV} (K : Q (some (sR (r4))) V) : cWP d Fg h0 21 Q 107 [v0, v1, v2, v3, sR (r4), v5, v6, v7, v8] [] V bc bs := by
  intro h R
  refine w_aload mb21 dX2_readPicked_107 109 rfl rfl ?_
  refine w_aret mb21 dX2_readPicked_109 _ rfl (by first | exact Or.inl ⟨_, rfl⟩ | exact Or.inr ⟨_, rfl⟩) ?_
  exact ⟨_, R, K⟩

theorem bX2_readPicked_110 {d : Nat} {Fg : Nat → Prop} {h0 : hp} {Q : Option sV → kV → Prop} {V : kV} {bc bs : Nat} {v0 : sV} {v1 : sV} {v2 : sV} {a3 : Nat} {v4 : sV} {v5 : sV} {v6 : sV} {x7 : Int32} {x8 : Int32} (h1 : kC V (a3) = 6) {bc1 bs1 : Nat} {P : Option sV → kV → Prop} (C : cM d Fg h0 41 [sR (some a3), sI ((1) + (x8))] V bc1 bs1 P) (hbc : bc1 ≤ bc) (hbs : bs1 ≤ bs) (K : ∀ r V1, P r V1 → cWP d Fg h0 21 Q 120 [v0, v1, v2, sR (some a3), v4, v5, v6, sI (x7), sI (x8)] (r.toList ++ [sI (x7)]) V1 (bc - bc1) (bs - bs1)) : cWP d Fg h0 21 Q 110 [v0, v1, v2, sR (some a3), v4, v5, v6, sI (x7), sI (x8)] [] V bc bs := by
  intro h R
  refine w_iload mb21 dX2_readPicked_110 112 rfl rfl ?_
  refine w_aload_n mb21 dX2_readPicked_112 113 rfl rfl ?_
  refine w_iconst mb21 dX2_readPicked_113 114 rfl (1) (by decide) ?_
  refine w_iload mb21 dX2_readPicked_114 116 rfl rfl ?_
  refine w_iadd mb21 dX2_readPicked_116 117 rfl ?_
  refine w_virtual (a := a3) (c := 5) (st := [sI (x7)]) mb21 dX2_readPicked_117 120 rfl 41 1 [sI ((1) + (x8))] _ rfl rfl rfl lc2_189 (R.k h1) (Nat.le_of_ble_eq_true rfl) (C h R) hbc hbs (fun r h1 hP => ?_)
  obtain ⟨V1, R1, hP⟩ := hP
  exact K r V1 hP h1 R1

theorem bX2_readPicked_120 {d : Nat} {Fg : Nat → Prop} {h0 : hp} {Q : Option sV → kV → Prop} {V : kV} {bc bs : Nat} {v0 : sV} {v1 : sV} {v2 : sV} {v3 : sV} {v4 : sV} {v5 : sV} {v6 : sV} {v7 : sV} {v8 : sV} {y0 : Int32} {y1 : Int32} (K1 : ((y0) + (y1)) ≤ (24) → cWP d Fg h0 21 Q 135 [v0, v1, v2, v3, v4, v5, v6, sI ((y0) + (y1)), v8] [] V bc bs) (K2 : ¬ ((y0) + (y1)) ≤ (24) → cWP d Fg h0 21 Q 130 [v0, v1, v2, v3, v4, v5, v6, sI ((y0) + (y1)), v8] [] V bc bs) : cWP d Fg h0 21 Q 120 [v0, v1, v2, v3, v4, v5, v6, v7, v8] [sI (y1), sI (y0)] V bc bs := by
  intro h R
  refine w_iadd mb21 dX2_readPicked_120 121 rfl ?_
  refine w_istore mb21 dX2_readPicked_121 123 rfl [v0, v1, v2, v3, v4, v5, v6, sI ((y0) + (y1)), v8] (Nat.le_of_ble_eq_true rfl) rfl ?_
  refine w_iload mb21 dX2_readPicked_123 125 rfl rfl ?_
  refine w_bipush mb21 dX2_readPicked_125 127 rfl (24) (by decide) ?_
  refine w_icmp_le mb21 dX2_readPicked_127 135 130 (by decide) rfl (fun z => ?_) (fun z => ?_)
  · exact K1 z h R
  · exact K2 z h R

theorem bX2_readPicked_130 {d : Nat} {Fg : Nat → Prop} {h0 : hp} {Q : Option sV → kV → Prop} {V : kV} {bc bs : Nat} {v0 : sV} {a1 : Nat} {v2 : sV} {v3 : sV} {v4 : sV} {v5 : sV} {v6 : sV} {v7 : sV} {v8 : sV} (h1 : kC V (a1) = 4) (K : Q (some (sR (kR V 312 (a1)))) V) : cWP d Fg h0 21 Q 130 [v0, sR (some a1), v2, v3, v4, v5, v6, v7, v8] [] V bc bs := by
  intro h R
  refine w_aload_n mb21 dX2_readPicked_130 131 rfl rfl ?_
  refine y_getr mb21 dX2_readPicked_131 134 rfl R 312 lf2_192 rfl rfl rfl rfl h1 rfl ?_
  refine w_aret mb21 dX2_readPicked_134 _ rfl (by first | exact Or.inl ⟨_, rfl⟩ | exact Or.inr ⟨_, rfl⟩) ?_
  exact ⟨_, R, K⟩

theorem bX2_readPicked_135 {d : Nat} {Fg : Nat → Prop} {h0 : hp} {Q : Option sV → kV → Prop} {V : kV} {bc bs : Nat} {v0 : sV} {v1 : sV} {v2 : sV} {v3 : sV} {v4 : sV} {v5 : sV} {v6 : sV} {v7 : sV} {x8 : Int32} (K : cWP d Fg h0 21 Q 53 [v0, v1, v2, v3, v4, v5, v6, v7, sI (x8 + 1)] [] V bc bs) : cWP d Fg h0 21 Q 135 [v0, v1, v2, v3, v4, v5, v6, v7, sI (x8)] [] V bc bs := by
  intro h R
  refine w_iinc mb21 dX2_readPicked_135 138 rfl rfl (x8 + 1) rfl [v0, v1, v2, v3, v4, v5, v6, v7, sI (x8 + 1)] rfl ?_
  refine w_goto mb21 dX2_readPicked_138 53 (by decide) ?_
  exact K h R

theorem bX2_readPicked_141 {d : Nat} {Fg : Nat → Prop} {h0 : hp} {Q : Option sV → kV → Prop} {V : kV} {bc bs : Nat} {v0 : sV} {v1 : sV} {v2 : sV} {v3 : sV} {v4 : sV} {v5 : sV} {v6 : sV} {v7 : sV} {v8 : sV} (h1 : 1 ≤ bc) (h2 : 3 ≤ bs) (K : ∀ y, ¬ kD V y → cWP d Fg h0 21 Q 144 [v0, v1, v2, v3, v4, v5, v6, v7, v8] [sR (some y)] (uN V y 2) (bc - 1) (bs - 3)) : cWP d Fg h0 21 Q 141 [v0, v1, v2, v3, v4, v5, v6, v7, v8] [] V bc bs := by
  intro h R
  refine y_newO mb21 dX2_readPicked_141 144 rfl R ln2_62 h1 h2 (fun y h hy R => ?_)
  exact K y hy h R

theorem bX2_readPicked_144 {d : Nat} {Fg : Nat → Prop} {h0 : hp} {Q : Option sV → kV → Prop} {V : kV} {bc bs : Nat} {v0 : sV} {v1 : sV} {v2 : sV} {a3 : Nat} {v4 : sV} {v5 : sV} {v6 : sV} {v7 : sV} {v8 : sV} {z0 : Option Nat} (h1 : kC V (a3) = 6) {bc1 bs1 : Nat} {P : Option sV → kV → Prop} (C : cM d Fg h0 42 [sR (some a3), sI (1)] V bc1 bs1 P) (hbc : bc1 ≤ bc) (hbs : bs1 ≤ bs) (K : ∀ r V1, P r V1 → cWP d Fg h0 21 Q 152 [v0, v1, v2, sR (some a3), v4, v5, v6, v7, v8] (r.toList ++ [sI (0), sI (0), sR (z0), sR (z0)]) V1 (bc - bc1) (bs - bs1)) : cWP d Fg h0 21 Q 144 [v0, v1, v2, sR (some a3), v4, v5, v6, v7, v8] [sR (z0)] V bc bs := by
  intro h R
  refine w_dup mb21 dX2_readPicked_144 145 rfl rfl ?_
  refine w_iconst mb21 dX2_readPicked_145 146 rfl (0) (by decide) ?_
  refine w_iconst mb21 dX2_readPicked_146 147 rfl (0) (by decide) ?_
  refine w_aload_n mb21 dX2_readPicked_147 148 rfl rfl ?_
  refine w_iconst mb21 dX2_readPicked_148 149 rfl (1) (by decide) ?_
  refine w_virtual (a := a3) (c := 5) (st := [sI (0), sI (0), sR (z0), sR (z0)]) mb21 dX2_readPicked_149 152 rfl 42 1 [sI (1)] _ rfl rfl rfl lc2_206 (R.k h1) (Nat.le_of_ble_eq_true rfl) (C h R) hbc hbs (fun r h1 hP => ?_)
  obtain ⟨V1, R1, hP⟩ := hP
  exact K r V1 hP h1 R1

theorem bX2_readPicked_152 {d : Nat} {Fg : Nat → Prop} {h0 : hp} {Q : Option sV → kV → Prop} {V : kV} {bc bs : Nat} {v0 : sV} {v1 : sV} {v2 : sV} {v3 : sV} {v4 : sV} {v5 : sV} {v6 : sV} {v7 : sV} {v8 : sV} {z0 : Option Nat} {z1 : Nat} {y2 : Int32} {y3 : Int32} {z4 : Option Nat} {bc1 bs1 : Nat} {P : Option sV → kV → Prop} (C : cM d Fg h0 2 [sR (some z1), sI (y2), sI (y3), sR (z4)] V bc1 bs1 P) (hbc : bc1 ≤ bc) (hbs : bs1 ≤ bs) (K : ∀ r V1, P r V1 → cWP d Fg h0 21 Q 155 [v0, v1, v2, v3, v4, v5, v6, v7, v8] (r.toList ++ [sR (z0)]) V1 (bc - bc1) (bs - bs1)) : cWP d Fg h0 21 Q 152 [v0, v1, v2, v3, v4, v5, v6, v7, v8] [sR (z4), sI (y3), sI (y2), sR (some z1), sR (z0)] V bc bs := by
  intro h R
  refine w_special (a := z1) (st := [sR (z0)]) mb21 dX2_readPicked_152 155 rfl 2 3 [sI (y2), sI (y3), sR (z4)] _ rfl rfl rfl lc2_199 (Nat.le_of_ble_eq_true rfl) (C h R) hbc hbs (fun r h1 hP => ?_)
  obtain ⟨V1, R1, hP⟩ := hP
  exact K r V1 hP h1 R1

theorem bX2_readPicked_155 {d : Nat} {Fg : Nat → Prop} {h0 : hp} {Q : Option sV → kV → Prop} {V : kV} {bc bs : Nat} {v0 : sV} {v1 : sV} {v2 : sV} {v3 : sV} {v4 : sV} {v5 : sV} {v6 : sV} {v7 : sV} {v8 : sV} {z0 : Option Nat} (K : Q (some (sR (z0))) V) : cWP d Fg h0 21 Q 155 [v0, v1, v2, v3, v4, v5, v6, v7, v8] [sR (z0)] V bc bs := by
  intro h R
  refine w_aret mb21 dX2_readPicked_155 _ rfl (by first | exact Or.inl ⟨_, rfl⟩ | exact Or.inr ⟨_, rfl⟩) ?_
  exact ⟨_, R, K⟩

theorem bX2_readInput_0 {d : Nat} {Fg : Nat → Prop} {h0 : hp} {Q : Option sV → kV → Prop} {V : kV} {bc bs : Nat} {a0 : Nat} {a1 : Nat} {x2 : Int32} {v3 : sV} {v4 : sV} (h1 : kC V (a1) = 4) (h2 : vp_in (x2) 6) (h3 : kC V (a0) = 3) {bc1 bs1 : Nat} {P : Option sV → kV → Prop} (C : cM d Fg h0 11 [sR (some a0), sI (kA V 303 (a1) (x2).toNatClampNeg)] V bc1 bs1 P) (hbc : bc1 ≤ bc) (hbs : bs1 ≤ bs) (K : ∀ r V1, P r V1 → cWP d Fg h0 22 Q 12 [sR (some a0), sR (some a1), sI (x2), sI (kA V 303 (a1) (x2).toNatClampNeg), v4] (r.toList ++ []) V1 (bc - bc1) (bs - bs1)) : cWP d Fg h0 22 Q 0 [sR (some a0), sR (some a1), sI (x2), v3, v4] [] V bc bs := by
  intro h R
  refine w_aload_n mb22 dX2_readInput_0 1 rfl rfl ?_
  refine y_geta mb22 dX2_readInput_1 4 rfl R 303 lf2_220 rfl rfl rfl (by decide) h1 ?_
  refine w_iload_n mb22 dX2_readInput_4 5 rfl rfl ?_
  refine y_iald (f := 303) (a := a1) (c := 4) mb22 dX2_readInput_5 6 rfl R 6 rfl (by decide) rfl rfl h1 h2 (x := kA V 303 (a1) (x2).toNatClampNeg) rfl ?_
  refine w_istore_n mb22 dX2_readInput_6 7 rfl [sR (some a0), sR (some a1), sI (x2), sI (kA V 303 (a1) (x2).toNatClampNeg), v4] (Nat.le_of_ble_eq_true rfl) rfl ?_
  refine w_aload_n mb22 dX2_readInput_7 8 rfl rfl ?_
  refine w_iload_n mb22 dX2_readInput_8 9 rfl rfl ?_
  refine w_virtual (a := a0) (c := 2) (st := []) mb22 dX2_readInput_9 12 rfl 11 1 [sI (kA V 303 (a1) (x2).toNatClampNeg)] _ rfl rfl rfl lc2_147 (R.k h3) (Nat.le_of_ble_eq_true rfl) (C h R) hbc hbs (fun r h1 hP => ?_)
  obtain ⟨V1, R1, hP⟩ := hP
  exact K r V1 hP h1 R1

theorem bX2_readInput_12 {d : Nat} {Fg : Nat → Prop} {h0 : hp} {Q : Option sV → kV → Prop} {V : kV} {bc bs : Nat} {v0 : sV} {a1 : Nat} {v2 : sV} {v3 : sV} {v4 : sV} {z0 : Option Nat} (h1 : kC V (a1) = 4) {bc1 bs1 : Nat} {P : Option sV → kV → Prop} (C : cM d Fg h0 27 [sR (some a1)] V bc1 bs1 P) (hbc : bc1 ≤ bc) (hbs : bs1 ≤ bs) (K : ∀ r V1, P r V1 → cWP d Fg h0 22 Q 18 [v0, sR (some a1), v2, v3, sR (z0)] (r.toList ++ []) V1 (bc - bc1) (bs - bs1)) : cWP d Fg h0 22 Q 12 [v0, sR (some a1), v2, v3, v4] [sR (z0)] V bc bs := by
  intro h R
  refine w_astore mb22 dX2_readInput_12 14 rfl [v0, sR (some a1), v2, v3, sR (z0)] (Nat.le_of_ble_eq_true rfl) rfl ?_
  refine w_aload_n mb22 dX2_readInput_14 15 rfl rfl ?_
  refine w_virtual (a := a1) (c := 3) (st := []) mb22 dX2_readInput_15 18 rfl 27 0 [] _ rfl rfl rfl lc2_162 (R.k h1) (Nat.le_of_ble_eq_true rfl) (C h R) hbc hbs (fun r h1 hP => ?_)
  obtain ⟨V1, R1, hP⟩ := hP
  exact K r V1 hP h1 R1

theorem bX2_readInput_18 {d : Nat} {Fg : Nat → Prop} {h0 : hp} {Q : Option sV → kV → Prop} {V : kV} {bc bs : Nat} {v0 : sV} {v1 : sV} {v2 : sV} {x3 : Int32} {r4 : Option Nat} {z0 : Nat} (h1 : kC V (z0) = 6) {bc1 bs1 : Nat} {P : Option sV → kV → Prop} (C : cM d Fg h0 38 [sR (some z0), sI (x3), sR (r4)] V bc1 bs1 P) (hbc : bc1 ≤ bc) (hbs : bs1 ≤ bs) (K : ∀ r V1, P r V1 → cWP d Fg h0 22 Q 24 [v0, v1, v2, sI (x3), sR (r4)] (r.toList ++ []) V1 (bc - bc1) (bs - bs1)) : cWP d Fg h0 22 Q 18 [v0, v1, v2, sI (x3), sR (r4)] [sR (some z0)] V bc bs := by
  intro h R
  refine w_iload_n mb22 dX2_readInput_18 19 rfl rfl ?_
  refine w_aload mb22 dX2_readInput_19 21 rfl rfl ?_
  refine w_virtual (a := z0) (c := 5) (st := []) mb22 dX2_readInput_21 24 rfl 38 2 [sI (x3), sR (r4)] _ rfl rfl rfl lc2_223 (R.k h1) (Nat.le_of_ble_eq_true rfl) (C h R) hbc hbs (fun r h1 hP => ?_)
  obtain ⟨V1, R1, hP⟩ := hP
  exact K r V1 hP h1 R1

theorem bX2_readInput_24 {d : Nat} {Fg : Nat → Prop} {h0 : hp} {Q : Option sV → kV → Prop} {V : kV} {bc bs : Nat} {v0 : sV} {a1 : Nat} {v2 : sV} {v3 : sV} {v4 : sV} (h1 : kC V (a1) = 4) (K1 : (kR V 309 (a1)) = none → cWP d Fg h0 22 Q 36 [v0, sR (some a1), v2, v3, v4] [] V bc bs) (K2 : ¬ (kR V 309 (a1)) = none → cWP d Fg h0 22 Q 31 [v0, sR (some a1), v2, v3, v4] [] V bc bs) : cWP d Fg h0 22 Q 24 [v0, sR (some a1), v2, v3, v4] [] V bc bs := by
  intro h R
  refine w_aload_n mb22 dX2_readInput_24 25 rfl rfl ?_
  refine y_getr mb22 dX2_readInput_25 28 rfl R 309 lf2_108 rfl rfl rfl rfl h1 rfl ?_
  refine w_ifnull mb22 dX2_readInput_28 36 31 (by decide) rfl (fun z => ?_) (fun z => ?_)
  · exact K1 z h R
  · exact K2 z h R

theorem bX2_readInput_31 {d : Nat} {Fg : Nat → Prop} {h0 : hp} {Q : Option sV → kV → Prop} {V : kV} {bc bs : Nat} {v0 : sV} {a1 : Nat} {v2 : sV} {v3 : sV} {v4 : sV} (h1 : kC V (a1) = 4) (K : Q (some (sR (kR V 309 (a1)))) V) : cWP d Fg h0 22 Q 31 [v0, sR (some a1), v2, v3, v4] [] V bc bs := by
  intro h R
  refine w_aload_n mb22 dX2_readInput_31 32 rfl rfl ?_
  refine y_getr mb22 dX2_readInput_32 35 rfl R 309 lf2_108 rfl rfl rfl rfl h1 rfl ?_
  refine w_aret mb22 dX2_readInput_35 _ rfl (by first | exact Or.inl ⟨_, rfl⟩ | exact Or.inr ⟨_, rfl⟩) ?_
  exact ⟨_, R, K⟩

theorem bX2_readInput_36 {d : Nat} {Fg : Nat → Prop} {h0 : hp} {Q : Option sV → kV → Prop} {V : kV} {bc bs : Nat} {v0 : sV} {a1 : Nat} {v2 : sV} {v3 : sV} {v4 : sV} (h1 : kC V (a1) = 4) (K1 : (kI V 302 (a1)) = 0 → cWP d Fg h0 22 Q 56 [v0, sR (some a1), v2, v3, v4] [] V bc bs) (K2 : ¬ (kI V 302 (a1)) = 0 → cWP d Fg h0 22 Q 43 [v0, sR (some a1), v2, v3, v4] [] V bc bs) : cWP d Fg h0 22 Q 36 [v0, sR (some a1), v2, v3, v4] [] V bc bs := by
  intro h R
  refine w_aload_n mb22 dX2_readInput_36 37 rfl rfl ?_
  refine y_geti mb22 dX2_readInput_37 40 rfl R 302 lf2_227 rfl rfl rfl h1 (x := kI V 302 (a1)) (by first | rfl | exact if_pos ⟨rfl, rfl⟩) ?_
  refine w_if_eq mb22 dX2_readInput_40 56 43 (by decide) rfl (fun z => ?_) (fun z => ?_)
  · exact K1 z h R
  · exact K2 z h R

theorem bX2_readInput_43 {d : Nat} {Fg : Nat → Prop} {h0 : hp} {Q : Option sV → kV → Prop} {V : kV} {bc bs : Nat} {v0 : sV} {v1 : sV} {v2 : sV} {v3 : sV} {a4 : Nat} {o_a4 : zO} (h1 : kO V (a4) = some o_a4) {bc1 bs1 : Nat} {P : Option sV → kV → Prop} (C : cM d Fg h0 3 [sR (some a4)] V bc1 bs1 P) (hbc : bc1 ≤ bc) (hbs : bs1 ≤ bs) (K : ∀ r V1, P r V1 → cWP d Fg h0 22 Q 48 [v0, v1, v2, v3, sR (some a4)] (r.toList ++ []) V1 (bc - bc1) (bs - bs1)) : cWP d Fg h0 22 Q 43 [v0, v1, v2, v3, sR (some a4)] [] V bc bs := by
  intro h R
  refine w_aload mb22 dX2_readInput_43 45 rfl rfl ?_
  refine w_virtual (a := a4) (c := 1) (st := []) mb22 dX2_readInput_45 48 rfl 3 0 [] _ rfl rfl rfl lc2_61 (R.ko h1) (Nat.le_of_ble_eq_true rfl) (C h R) hbc hbs (fun r h1 hP => ?_)
  obtain ⟨V1, R1, hP⟩ := hP
  exact K r V1 hP h1 R1

theorem bX2_readInput_48 {d : Nat} {Fg : Nat → Prop} {h0 : hp} {Q : Option sV → kV → Prop} {V : kV} {bc bs : Nat} {v0 : sV} {v1 : sV} {v2 : sV} {v3 : sV} {v4 : sV} {y0 : Int32} (K1 : (y0) = 0 → cWP d Fg h0 22 Q 56 [v0, v1, v2, v3, v4] [] V bc bs) (K2 : ¬ (y0) = 0 → cWP d Fg h0 22 Q 51 [v0, v1, v2, v3, v4] [] V bc bs) : cWP d Fg h0 22 Q 48 [v0, v1, v2, v3, v4] [sI (y0)] V bc bs := by
  intro h R
  refine w_if_eq mb22 dX2_readInput_48 56 51 (by decide) rfl (fun z => ?_) (fun z => ?_)
  · exact K1 z h R
  · exact K2 z h R

theorem bX2_readInput_51 {d : Nat} {Fg : Nat → Prop} {h0 : hp} {Q : Option sV → kV → Prop} {V : kV} {bc bs : Nat} {v0 : sV} {v1 : sV} {v2 : sV} {v3 : sV} {r4 : Option Nat} (K : cWP d Fg h0 22 Q 57 [v0, v1, v2, v3, sR (r4)] [sR (r4)] V bc bs) : cWP d Fg h0 22 Q 51 [v0, v1, v2, v3, sR (r4)] [] V bc bs := by
  intro h R
  refine w_aload mb22 dX2_readInput_51 53 rfl rfl ?_
  refine w_goto mb22 dX2_readInput_53 57 (by decide) ?_
  exact K h R

theorem bX2_readInput_56 {d : Nat} {Fg : Nat → Prop} {h0 : hp} {Q : Option sV → kV → Prop} {V : kV} {bc bs : Nat} {v0 : sV} {v1 : sV} {v2 : sV} {v3 : sV} {v4 : sV} (K : cWP d Fg h0 22 Q 57 [v0, v1, v2, v3, v4] [sR (none)] V bc bs) : cWP d Fg h0 22 Q 56 [v0, v1, v2, v3, v4] [] V bc bs := by
  intro h R
  refine w_null mb22 dX2_readInput_56 57 rfl ?_
  exact K h R

theorem bX2_readInput_57 {d : Nat} {Fg : Nat → Prop} {h0 : hp} {Q : Option sV → kV → Prop} {V : kV} {bc bs : Nat} {v0 : sV} {v1 : sV} {v2 : sV} {v3 : sV} {v4 : sV} {z0 : Option Nat} (K : Q (some (sR (z0))) V) : cWP d Fg h0 22 Q 57 [v0, v1, v2, v3, v4] [sR (z0)] V bc bs := by
  intro h R
  refine w_aret mb22 dX2_readInput_57 _ rfl (by first | exact Or.inl ⟨_, rfl⟩ | exact Or.inr ⟨_, rfl⟩) ?_
  exact ⟨_, R, K⟩

theorem bX3_hasInput_0 {d : Nat} {Fg : Nat → Prop} {h0 : hp} {Q : Option sV → kV → Prop} {V : kV} {bc bs : Nat} {v0 : sV} {x1 : Int32} (K1 : (x1) < 0 → cWP d Fg h0 24 Q 16 [v0, sI (x1)] [] V bc bs) (K2 : ¬ (x1) < 0 → cWP d Fg h0 24 Q 4 [v0, sI (x1)] [] V bc bs) : cWP d Fg h0 24 Q 0 [v0, sI (x1)] [] V bc bs := by
  intro h R
  refine w_iload_n mb24 dX3_hasInput_0 1 rfl rfl ?_
  refine w_if_lt mb24 dX3_hasInput_1 16 4 (by decide) rfl (fun z => ?_) (fun z => ?_)
  · exact K1 z h R
  · exact K2 z h R

theorem bX3_hasInput_4 {d : Nat} {Fg : Nat → Prop} {h0 : hp} {Q : Option sV → kV → Prop} {V : kV} {bc bs : Nat} {a0 : Nat} {x1 : Int32} (h1 : kC V (a0) = 4) (K1 : (kI V 304 (a0)) ≤ (x1) → cWP d Fg h0 24 Q 16 [sR (some a0), sI (x1)] [] V bc bs) (K2 : ¬ (kI V 304 (a0)) ≤ (x1) → cWP d Fg h0 24 Q 12 [sR (some a0), sI (x1)] [] V bc bs) : cWP d Fg h0 24 Q 4 [sR (some a0), sI (x1)] [] V bc bs := by
  intro h R
  refine w_iload_n mb24 dX3_hasInput_4 5 rfl rfl ?_
  refine w_aload_n mb24 dX3_hasInput_5 6 rfl rfl ?_
  refine y_geti mb24 dX3_hasInput_6 9 rfl R 304 lf3_52 rfl rfl rfl h1 (x := kI V 304 (a0)) (by first | rfl | exact if_pos ⟨rfl, rfl⟩) ?_
  refine w_icmp_ge mb24 dX3_hasInput_9 16 12 (by decide) rfl (fun z => ?_) (fun z => ?_)
  · exact K1 z h R
  · exact K2 z h R

theorem bX3_hasInput_12 {d : Nat} {Fg : Nat → Prop} {h0 : hp} {Q : Option sV → kV → Prop} {V : kV} {bc bs : Nat} {v0 : sV} {v1 : sV} (K : cWP d Fg h0 24 Q 17 [v0, v1] [sI (1)] V bc bs) : cWP d Fg h0 24 Q 12 [v0, v1] [] V bc bs := by
  intro h R
  refine w_iconst mb24 dX3_hasInput_12 13 rfl (1) (by decide) ?_
  refine w_goto mb24 dX3_hasInput_13 17 (by decide) ?_
  exact K h R

theorem bX3_hasInput_16 {d : Nat} {Fg : Nat → Prop} {h0 : hp} {Q : Option sV → kV → Prop} {V : kV} {bc bs : Nat} {v0 : sV} {v1 : sV} (K : cWP d Fg h0 24 Q 17 [v0, v1] [sI (0)] V bc bs) : cWP d Fg h0 24 Q 16 [v0, v1] [] V bc bs := by
  intro h R
  refine w_iconst mb24 dX3_hasInput_16 17 rfl (0) (by decide) ?_
  exact K h R

theorem bX3_hasInput_17 {d : Nat} {Fg : Nat → Prop} {h0 : hp} {Q : Option sV → kV → Prop} {V : kV} {bc bs : Nat} {v0 : sV} {v1 : sV} {y0 : Int32} (h1 : (y0) = 0 ∨ (y0) = 1) (K : Q (some (sI (y0))) V) : cWP d Fg h0 24 Q 17 [v0, v1] [sI (y0)] V bc bs := by
  intro h R
  refine w_zret mb24 dX3_hasInput_17 rfl h1 ?_
  exact ⟨_, R, K⟩

theorem bX3_traceAt_0 {d : Nat} {Fg : Nat → Prop} {h0 : hp} {Q : Option sV → kV → Prop} {V : kV} {bc bs : Nat} {v0 : sV} {x1 : Int32} (K1 : (x1) < 0 → cWP d Fg h0 25 Q 21 [v0, sI (x1)] [] V bc bs) (K2 : ¬ (x1) < 0 → cWP d Fg h0 25 Q 4 [v0, sI (x1)] [] V bc bs) : cWP d Fg h0 25 Q 0 [v0, sI (x1)] [] V bc bs := by
  intro h R
  refine w_iload_n mb25 dX3_traceAt_0 1 rfl rfl ?_
  refine w_if_lt mb25 dX3_traceAt_1 21 4 (by decide) rfl (fun z => ?_) (fun z => ?_)
  · exact K1 z h R
  · exact K2 z h R

theorem bX3_traceAt_4 {d : Nat} {Fg : Nat → Prop} {h0 : hp} {Q : Option sV → kV → Prop} {V : kV} {bc bs : Nat} {a0 : Nat} {x1 : Int32} (h1 : kC V (a0) = 4) (K1 : (kI V 305 (a0)) ≤ (x1) → cWP d Fg h0 25 Q 21 [sR (some a0), sI (x1)] [] V bc bs) (K2 : ¬ (kI V 305 (a0)) ≤ (x1) → cWP d Fg h0 25 Q 12 [sR (some a0), sI (x1)] [] V bc bs) : cWP d Fg h0 25 Q 4 [sR (some a0), sI (x1)] [] V bc bs := by
  intro h R
  refine w_iload_n mb25 dX3_traceAt_4 5 rfl rfl ?_
  refine w_aload_n mb25 dX3_traceAt_5 6 rfl rfl ?_
  refine y_geti mb25 dX3_traceAt_6 9 rfl R 305 lf3_55 rfl rfl rfl h1 (x := kI V 305 (a0)) (by first | rfl | exact if_pos ⟨rfl, rfl⟩) ?_
  refine w_icmp_ge mb25 dX3_traceAt_9 21 12 (by decide) rfl (fun z => ?_) (fun z => ?_)
  · exact K1 z h R
  · exact K2 z h R

theorem bX3_traceAt_12 {d : Nat} {Fg : Nat → Prop} {h0 : hp} {Q : Option sV → kV → Prop} {V : kV} {bc bs : Nat} {a0 : Nat} {x1 : Int32} (h1 : kC V (a0) = 4) (h2 : vp_in (x1) 5) (K : cWP d Fg h0 25 Q 22 [sR (some a0), sI (x1)] [sR (kB V 306 (a0) (x1).toNatClampNeg)] V bc bs) : cWP d Fg h0 25 Q 12 [sR (some a0), sI (x1)] [] V bc bs := by
  intro h R
  refine w_aload_n mb25 dX3_traceAt_12 13 rfl rfl ?_
  refine y_geta mb25 dX3_traceAt_13 16 rfl R 306 lf3_17 rfl rfl rfl (by decide) h1 ?_
  refine w_iload_n mb25 dX3_traceAt_16 17 rfl rfl ?_
  refine y_aald (f := 306) (a := a0) (c := 4) mb25 dX3_traceAt_17 18 rfl R 5 rfl (by decide) (by decide) rfl h1 h2 (x := kB V 306 (a0) (x1).toNatClampNeg) rfl ?_
  refine w_goto mb25 dX3_traceAt_18 22 (by decide) ?_
  exact K h R

theorem bX3_traceAt_21 {d : Nat} {Fg : Nat → Prop} {h0 : hp} {Q : Option sV → kV → Prop} {V : kV} {bc bs : Nat} {v0 : sV} {v1 : sV} (K : cWP d Fg h0 25 Q 22 [v0, v1] [sR (none)] V bc bs) : cWP d Fg h0 25 Q 21 [v0, v1] [] V bc bs := by
  intro h R
  refine w_null mb25 dX3_traceAt_21 22 rfl ?_
  exact K h R

theorem bX3_traceAt_22 {d : Nat} {Fg : Nat → Prop} {h0 : hp} {Q : Option sV → kV → Prop} {V : kV} {bc bs : Nat} {v0 : sV} {v1 : sV} {z0 : Option Nat} (K : Q (some (sR (z0))) V) : cWP d Fg h0 25 Q 22 [v0, v1] [sR (z0)] V bc bs := by
  intro h R
  refine w_aret mb25 dX3_traceAt_22 _ rfl (by first | exact Or.inl ⟨_, rfl⟩ | exact Or.inr ⟨_, rfl⟩) ?_
  exact ⟨_, R, K⟩

theorem bX3_dropTraces_0 {d : Nat} {Fg : Nat → Prop} {h0 : hp} {Q : Option sV → kV → Prop} {V : kV} {bc bs : Nat} {a0 : Nat} (h1 : kC V (a0) = 4) (K : Q (none) (uI V (305) (a0) (0))) : cWP d Fg h0 26 Q 0 [sR (some a0)] [] V bc bs := by
  intro h R
  refine w_aload_n mb26 dX3_dropTraces_0 1 rfl rfl ?_
  refine w_iconst mb26 dX3_dropTraces_1 2 rfl (0) (by decide) ?_
  refine y_puti mb26 dX3_dropTraces_2 5 rfl R 305 (lp3_55 _) rfl rfl rfl h1 (fun h R => ?_)
  refine w_vret mb26 dX3_dropTraces_5 rfl ?_
  exact ⟨_, R, K⟩

theorem bX3_spareTrace_0 {d : Nat} {Fg : Nat → Prop} {h0 : hp} {Q : Option sV → kV → Prop} {V : kV} {bc bs : Nat} {a0 : Nat} {v1 : sV} (h1 : kC V (a0) = 4) (h2 : vp_in (kI V 305 (a0)) 5) (K1 : ¬ (kB V 306 (a0) (kI V 305 (a0)).toNatClampNeg) = none → cWP d Fg h0 27 Q 32 [sR (some a0), sR (kB V 306 (a0) (kI V 305 (a0)).toNatClampNeg)] [] V bc bs) (K2 : (kB V 306 (a0) (kI V 305 (a0)).toNatClampNeg) = none → cWP d Fg h0 27 Q 14 [sR (some a0), sR (kB V 306 (a0) (kI V 305 (a0)).toNatClampNeg)] [] V bc bs) : cWP d Fg h0 27 Q 0 [sR (some a0), v1] [] V bc bs := by
  intro h R
  refine w_aload_n mb27 dX3_spareTrace_0 1 rfl rfl ?_
  refine y_geta mb27 dX3_spareTrace_1 4 rfl R 306 lf3_17 rfl rfl rfl (by decide) h1 ?_
  refine w_aload_n mb27 dX3_spareTrace_4 5 rfl rfl ?_
  refine y_geti mb27 dX3_spareTrace_5 8 rfl R 305 lf3_55 rfl rfl rfl h1 (x := kI V 305 (a0)) (by first | rfl | exact if_pos ⟨rfl, rfl⟩) ?_
  refine y_aald (f := 306) (a := a0) (c := 4) mb27 dX3_spareTrace_8 9 rfl R 5 rfl (by decide) (by decide) rfl h1 h2 (x := kB V 306 (a0) (kI V 305 (a0)).toNatClampNeg) rfl ?_
  refine w_astore_n mb27 dX3_spareTrace_9 10 rfl [sR (some a0), sR (kB V 306 (a0) (kI V 305 (a0)).toNatClampNeg)] (Nat.le_of_ble_eq_true rfl) rfl ?_
  refine w_aload_n mb27 dX3_spareTrace_10 11 rfl rfl ?_
  refine w_ifnonnull mb27 dX3_spareTrace_11 32 14 (by decide) rfl (fun z => ?_) (fun z => ?_)
  · exact K1 z h R
  · exact K2 z h R

theorem bX3_spareTrace_17 {d : Nat} {Fg : Nat → Prop} {h0 : hp} {Q : Option sV → kV → Prop} {V : kV} {bc bs : Nat} {v0 : sV} {v1 : sV} {z0 : Nat} {bc1 bs1 : Nat} {P : Option sV → kV → Prop} (C : cM d Fg h0 37 [sR (some z0)] V bc1 bs1 P) (hbc : bc1 ≤ bc) (hbs : bs1 ≤ bs) (K : ∀ r V1, P r V1 → cWP d Fg h0 27 Q 21 [v0, v1] (r.toList ++ [sR (some z0)]) V1 (bc - bc1) (bs - bs1)) : cWP d Fg h0 27 Q 17 [v0, v1] [sR (some z0)] V bc bs := by
  intro h R
  refine w_dup mb27 dX3_spareTrace_17 18 rfl rfl ?_
  refine w_special (a := z0) (st := [sR (some z0)]) mb27 dX3_spareTrace_18 21 rfl 37 0 [] _ rfl rfl rfl lc3_58 (Nat.le_of_ble_eq_true rfl) (C h R) hbc hbs (fun r h1 hP => ?_)
  obtain ⟨V1, R1, hP⟩ := hP
  exact K r V1 hP h1 R1

theorem bX3_spareTrace_21 {d : Nat} {Fg : Nat → Prop} {h0 : hp} {Q : Option sV → kV → Prop} {V : kV} {bc bs : Nat} {a0 : Nat} {v1 : sV} {z0 : Option Nat} (h1 : kC V (a0) = 4) (h2 : vp_in (kI V 305 (a0)) 5) (h3 : ∀ b, (z0) = some b → kC V b = 6) (K : cWP d Fg h0 27 Q 32 [sR (some a0), sR (z0)] [] (uB V (306) (a0) ((kI V 305 (a0)).toNatClampNeg) (z0)) bc bs) : cWP d Fg h0 27 Q 21 [sR (some a0), v1] [sR (z0)] V bc bs := by
  intro h R
  refine w_astore_n mb27 dX3_spareTrace_21 22 rfl [sR (some a0), sR (z0)] (Nat.le_of_ble_eq_true rfl) rfl ?_
  refine w_aload_n mb27 dX3_spareTrace_22 23 rfl rfl ?_
  refine y_geta mb27 dX3_spareTrace_23 26 rfl R 306 lf3_17 rfl rfl rfl (by decide) h1 ?_
  refine w_aload_n mb27 dX3_spareTrace_26 27 rfl rfl ?_
  refine y_geti mb27 dX3_spareTrace_27 30 rfl R 305 lf3_55 rfl rfl rfl h1 (x := kI V 305 (a0)) (by first | rfl | exact if_pos ⟨rfl, rfl⟩) ?_
  refine w_aload_n mb27 dX3_spareTrace_30 31 rfl rfl ?_
  refine y_aast (f := 306) (a := a0) (c := 4) mb27 dX3_spareTrace_31 32 rfl R 5 rfl (by decide) (by decide) rfl h1 h2 5 rfl h3 (fun h R => ?_)
  exact K h R

theorem bX3_spareTrace_32 {d : Nat} {Fg : Nat → Prop} {h0 : hp} {Q : Option sV → kV → Prop} {V : kV} {bc bs : Nat} {v0 : sV} {r1 : Option Nat} (K : Q (some (sR (r1))) V) : cWP d Fg h0 27 Q 32 [v0, sR (r1)] [] V bc bs := by
  intro h R
  refine w_aload_n mb27 dX3_spareTrace_32 33 rfl rfl ?_
  refine w_aret mb27 dX3_spareTrace_33 _ rfl (by first | exact Or.inl ⟨_, rfl⟩ | exact Or.inr ⟨_, rfl⟩) ?_
  exact ⟨_, R, K⟩

theorem bX3_keepSpare_0 {d : Nat} {Fg : Nat → Prop} {h0 : hp} {Q : Option sV → kV → Prop} {V : kV} {bc bs : Nat} {a0 : Nat} {v1 : sV} (h1 : kC V (a0) = 4) {bc1 bs1 : Nat} {P : Option sV → kV → Prop} (C : cM d Fg h0 27 [sR (some a0)] V bc1 bs1 P) (hbc : bc1 ≤ bc) (hbs : bs1 ≤ bs) (K : ∀ r V1, P r V1 → cWP d Fg h0 28 Q 4 [sR (some a0), v1] (r.toList ++ []) V1 (bc - bc1) (bs - bs1)) : cWP d Fg h0 28 Q 0 [sR (some a0), v1] [] V bc bs := by
  intro h R
  refine w_aload_n mb28 dX3_keepSpare_0 1 rfl rfl ?_
  refine w_virtual (a := a0) (c := 3) (st := []) mb28 dX3_keepSpare_1 4 rfl 27 0 [] _ rfl rfl rfl lc3_59 (R.k h1) (Nat.le_of_ble_eq_true rfl) (C h R) hbc hbs (fun r h1 hP => ?_)
  obtain ⟨V1, R1, hP⟩ := hP
  exact K r V1 hP h1 R1

theorem bX3_keepSpare_4 {d : Nat} {Fg : Nat → Prop} {h0 : hp} {Q : Option sV → kV → Prop} {V : kV} {bc bs : Nat} {a0 : Nat} {r1 : Option Nat} {z0 : Nat} (h1 : kC V (z0) = 6) (h2 : kC V (a0) = 4) {bc1 bs1 : Nat} {P : Option sV → kV → Prop} (C : cM d Fg h0 29 [sR (some a0), sI (kI V 305 (a0))] (uR V (501) (z0) (r1)) bc1 bs1 P) (hbc : bc1 ≤ bc) (hbs : bs1 ≤ bs) (K : ∀ r V1, P r V1 → cWP d Fg h0 28 Q 16 [sR (some a0), sR (r1)] (r.toList ++ []) V1 (bc - bc1) (bs - bs1)) : cWP d Fg h0 28 Q 4 [sR (some a0), sR (r1)] [sR (some z0)] V bc bs := by
  intro h R
  refine w_aload_n mb28 dX3_keepSpare_4 5 rfl rfl ?_
  refine y_putr mb28 dX3_keepSpare_5 8 rfl R 501 (lp3_63 _) (by first | exact Or.inl ⟨_, rfl⟩ | exact Or.inr ⟨_, rfl⟩) rfl rfl rfl h1 (fun h R => ?_)
  refine w_aload_n mb28 dX3_keepSpare_8 9 rfl rfl ?_
  refine w_aload_n mb28 dX3_keepSpare_9 10 rfl rfl ?_
  refine y_geti mb28 dX3_keepSpare_10 13 rfl R 305 lf3_55 rfl rfl rfl h2 (x := kI V 305 (a0)) (by first | rfl | exact if_pos ⟨rfl, rfl⟩) ?_
  refine w_virtual (a := a0) (c := 3) (st := []) mb28 dX3_keepSpare_13 16 rfl 29 1 [sI (kI V 305 (a0))] _ rfl rfl rfl lc3_66 (R.k h2) (Nat.le_of_ble_eq_true rfl) (C h R) hbc hbs (fun r h1 hP => ?_)
  obtain ⟨V1, R1, hP⟩ := hP
  exact K r V1 hP h1 R1

theorem bX3_keepSpare_16 {d : Nat} {Fg : Nat → Prop} {h0 : hp} {Q : Option sV → kV → Prop} {V : kV} {bc bs : Nat} {a0 : Nat} {v1 : sV} (h1 : kC V (a0) = 4) (K1 : (4) ≤ (kI V 305 (a0)) → cWP d Fg h0 28 Q 34 [sR (some a0), v1] [] V bc bs) (K2 : ¬ (4) ≤ (kI V 305 (a0)) → cWP d Fg h0 28 Q 24 [sR (some a0), v1] [] V bc bs) : cWP d Fg h0 28 Q 16 [sR (some a0), v1] [] V bc bs := by
  intro h R
  refine w_aload_n mb28 dX3_keepSpare_16 17 rfl rfl ?_
  refine y_geti mb28 dX3_keepSpare_17 20 rfl R 305 lf3_55 rfl rfl rfl h1 (x := kI V 305 (a0)) (by first | rfl | exact if_pos ⟨rfl, rfl⟩) ?_
  refine w_iconst mb28 dX3_keepSpare_20 21 rfl (4) (by decide) ?_
  refine w_icmp_ge mb28 dX3_keepSpare_21 34 24 (by decide) rfl (fun z => ?_) (fun z => ?_)
  · exact K1 z h R
  · exact K2 z h R

theorem bX3_keepSpare_24 {d : Nat} {Fg : Nat → Prop} {h0 : hp} {Q : Option sV → kV → Prop} {V : kV} {bc bs : Nat} {a0 : Nat} {v1 : sV} (h1 : kC V (a0) = 4) (K : cWP d Fg h0 28 Q 34 [sR (some a0), v1] [] (uI V (305) (a0) ((kI V 305 (a0)) + (1))) bc bs) : cWP d Fg h0 28 Q 24 [sR (some a0), v1] [] V bc bs := by
  intro h R
  refine w_aload_n mb28 dX3_keepSpare_24 25 rfl rfl ?_
  refine w_dup mb28 dX3_keepSpare_25 26 rfl rfl ?_
  refine y_geti mb28 dX3_keepSpare_26 29 rfl R 305 lf3_55 rfl rfl rfl h1 (x := kI V 305 (a0)) (by first | rfl | exact if_pos ⟨rfl, rfl⟩) ?_
  refine w_iconst mb28 dX3_keepSpare_29 30 rfl (1) (by decide) ?_
  refine w_iadd mb28 dX3_keepSpare_30 31 rfl ?_
  refine y_puti mb28 dX3_keepSpare_31 34 rfl R 305 (lp3_55 _) rfl rfl rfl h1 (fun h R => ?_)
  exact K h R
