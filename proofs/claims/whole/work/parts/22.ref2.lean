theorem bX7_isRing_9 {d : Nat} {h0 : hp} {m : Nat} {ad : Nat → Nat} {Q : Option sV → rS → rG → Prop} {S : rS} {G : rG} {x1 : Int32} {v2 : sV} {x3 : Int32} (h1 : vp_in (x3) 24) (K1 : ((G 28) (x3).toNatClampNeg) = (x1) → rWP d h0 m ad 94 Q 36 [sR (some m), sI (x1), v2, sI (x3)] [] S G) (K2 : ¬ ((G 28) (x3).toNatClampNeg) = (x1) → rWP d h0 m ad 94 Q 19 [sR (some m), sI (x1), v2, sI (x3)] [] S G) : rWP d h0 m ad 94 Q 9 [sR (some m), sI (x1), v2, sI (x3)] [] S G := by
  intro h bc bs R
  refine w_aload_n mb94 dX7_isRing_9 10 rfl rfl ?_
  refine x_geta mb94 dX7_isRing_10 13 rfl R lf7_90 rfl (by decide) ?_
  refine w_iload_n mb94 dX7_isRing_13 14 rfl rfl ?_
  refine x_iald mb94 dX7_isRing_14 15 rfl R 24 rfl (by decide) rfl h1 ?_
  refine w_iload_n mb94 dX7_isRing_15 16 rfl rfl ?_
  refine w_icmp_eq mb94 dX7_isRing_16 36 19 (by decide) rfl (fun z => ?_) (fun z => ?_)
  · exact K1 z h bc bs R
  · exact K2 z h bc bs R

theorem bX7_isRing_19 {d : Nat} {h0 : hp} {m : Nat} {ad : Nat → Nat} {Q : Option sV → rS → rG → Prop} {S : rS} {G : rG} {v1 : sV} {x2 : Int32} {x3 : Int32} (h1 : vp_in (x3) 24) (K : rWP d h0 m ad 94 Q 9 [sR (some m), v1, sI ((x2) ||| ((1) <<< (((G 28) (x3).toNatClampNeg) &&& 31))), sI (x3 + (-1))] [] S G) : rWP d h0 m ad 94 Q 19 [sR (some m), v1, sI (x2), sI (x3)] [] S G := by
  intro h bc bs R
  refine w_iload_n mb94 dX7_isRing_19 20 rfl rfl ?_
  refine w_iconst mb94 dX7_isRing_20 21 rfl (1) (by decide) ?_
  refine w_aload_n mb94 dX7_isRing_21 22 rfl rfl ?_
  refine x_geta mb94 dX7_isRing_22 25 rfl R lf7_90 rfl (by decide) ?_
  refine w_iload_n mb94 dX7_isRing_25 26 rfl rfl ?_
  refine x_iald mb94 dX7_isRing_26 27 rfl R 24 rfl (by decide) rfl h1 ?_
  refine w_ishl mb94 dX7_isRing_27 28 rfl ?_
  refine w_ior mb94 dX7_isRing_28 29 rfl ?_
  refine w_istore_n mb94 dX7_isRing_29 30 rfl [sR (some m), v1, sI ((x2) ||| ((1) <<< (((G 28) (x3).toNatClampNeg) &&& 31))), sI (x3)] (Nat.le_of_ble_eq_true rfl) rfl ?_
  refine w_iinc mb94 dX7_isRing_30 33 rfl rfl (x3 + (-1)) rfl [sR (some m), v1, sI ((x2) ||| ((1) <<< (((G 28) (x3).toNatClampNeg) &&& 31))), sI (x3 + (-1))] rfl ?_
  refine w_goto mb94 dX7_isRing_33 9 (by decide) ?_
  exact K h bc bs R

theorem bX7_isRing_36 {d : Nat} {h0 : hp} {m : Nat} {ad : Nat → Nat} {Q : Option sV → rS → rG → Prop} {S : rS} {G : rG} {x1 : Int32} {x2 : Int32} {v3 : sV} (K : rWP d h0 m ad 94 Q 44 [sR (some m), sI (x1), sI ((x2) ||| ((1) <<< ((x1) &&& 31))), sI (0)] [] S G) : rWP d h0 m ad 94 Q 36 [sR (some m), sI (x1), sI (x2), v3] [] S G := by
  intro h bc bs R
  refine w_iload_n mb94 dX7_isRing_36 37 rfl rfl ?_
  refine w_iconst mb94 dX7_isRing_37 38 rfl (1) (by decide) ?_
  refine w_iload_n mb94 dX7_isRing_38 39 rfl rfl ?_
  refine w_ishl mb94 dX7_isRing_39 40 rfl ?_
  refine w_ior mb94 dX7_isRing_40 41 rfl ?_
  refine w_istore_n mb94 dX7_isRing_41 42 rfl [sR (some m), sI (x1), sI ((x2) ||| ((1) <<< ((x1) &&& 31))), v3] (Nat.le_of_ble_eq_true rfl) rfl ?_
  refine w_iconst mb94 dX7_isRing_42 43 rfl (0) (by decide) ?_
  refine w_istore_n mb94 dX7_isRing_43 44 rfl [sR (some m), sI (x1), sI ((x2) ||| ((1) <<< ((x1) &&& 31))), sI (0)] (Nat.le_of_ble_eq_true rfl) rfl ?_
  exact K h bc bs R

theorem bX7_isRing_44 {d : Nat} {h0 : hp} {m : Nat} {ad : Nat → Nat} {Q : Option sV → rS → rG → Prop} {S : rS} {G : rG} {v1 : sV} {v2 : sV} {x3 : Int32} (K1 : (S 6) ≤ (x3) → rWP d h0 m ad 94 Q 83 [sR (some m), v1, v2, sI (x3)] [] S G) (K2 : ¬ (S 6) ≤ (x3) → rWP d h0 m ad 94 Q 52 [sR (some m), v1, v2, sI (x3)] [] S G) : rWP d h0 m ad 94 Q 44 [sR (some m), v1, v2, sI (x3)] [] S G := by
  intro h bc bs R
  refine w_iload_n mb94 dX7_isRing_44 45 rfl rfl ?_
  refine w_aload_n mb94 dX7_isRing_45 46 rfl rfl ?_
  refine x_geti mb94 dX7_isRing_46 49 rfl R lf7_157 rfl ?_
  refine w_icmp_ge mb94 dX7_isRing_49 83 52 (by decide) rfl (fun z => ?_) (fun z => ?_)
  · exact K1 z h bc bs R
  · exact K2 z h bc bs R

theorem bX7_isRing_52 {d : Nat} {h0 : hp} {m : Nat} {ad : Nat → Nat} {Q : Option sV → rS → rG → Prop} {S : rS} {G : rG} {v1 : sV} {x2 : Int32} {x3 : Int32} (K1 : ¬ (((x2) >>> ((x3) &&& 31)) &&& (1)) = 0 → rWP d h0 m ad 94 Q 63 [sR (some m), v1, sI (x2), sI (x3)] [] S G) (K2 : (((x2) >>> ((x3) &&& 31)) &&& (1)) = 0 → rWP d h0 m ad 94 Q 60 [sR (some m), v1, sI (x2), sI (x3)] [] S G) : rWP d h0 m ad 94 Q 52 [sR (some m), v1, sI (x2), sI (x3)] [] S G := by
  intro h bc bs R
  refine w_iload_n mb94 dX7_isRing_52 53 rfl rfl ?_
  refine w_iload_n mb94 dX7_isRing_53 54 rfl rfl ?_
  refine w_ishr mb94 dX7_isRing_54 55 rfl ?_
  refine w_iconst mb94 dX7_isRing_55 56 rfl (1) (by decide) ?_
  refine w_iand mb94 dX7_isRing_56 57 rfl ?_
  refine w_if_ne mb94 dX7_isRing_57 63 60 (by decide) rfl (fun z => ?_) (fun z => ?_)
  · exact K1 z h bc bs R
  · exact K2 z h bc bs R

theorem bX7_isRing_60 {d : Nat} {h0 : hp} {m : Nat} {ad : Nat → Nat} {Q : Option sV → rS → rG → Prop} {S : rS} {G : rG} {v1 : sV} {v2 : sV} {v3 : sV} (K : rWP d h0 m ad 94 Q 77 [sR (some m), v1, v2, v3] [] S G) : rWP d h0 m ad 94 Q 60 [sR (some m), v1, v2, v3] [] S G := by
  intro h bc bs R
  refine w_goto mb94 dX7_isRing_60 77 (by decide) ?_
  exact K h bc bs R

theorem bX7_isRing_63 {d : Nat} {h0 : hp} {m : Nat} {ad : Nat → Nat} {Q : Option sV → rS → rG → Prop} {S : rS} {G : rG} {v1 : sV} {x2 : Int32} {x3 : Int32} (h1 : vp_in (x3) 24) (K : rWP d h0 m ad 94 Q 77 [sR (some m), v1, sI (x2), sI (x3)] [] S (gup (gup G 26 (x3).toNatClampNeg (1)) 23 (x3).toNatClampNeg (x2))) : rWP d h0 m ad 94 Q 63 [sR (some m), v1, sI (x2), sI (x3)] [] S G := by
  intro h bc bs R
  refine w_aload_n mb94 dX7_isRing_63 64 rfl rfl ?_
  refine x_geta mb94 dX7_isRing_64 67 rfl R lf7_87 rfl (by decide) ?_
  refine w_iload_n mb94 dX7_isRing_67 68 rfl rfl ?_
  refine w_iconst mb94 dX7_isRing_68 69 rfl (1) (by decide) ?_
  refine x_bast mb94 dX7_isRing_69 70 rfl R 24 rfl (by decide) rfl h1 (Or.inr rfl) (fun h R => ?_)
  refine w_aload_n mb94 dX7_isRing_70 71 rfl rfl ?_
  refine x_geta mb94 dX7_isRing_71 74 rfl R lf7_78 rfl (by decide) ?_
  refine w_iload_n mb94 dX7_isRing_74 75 rfl rfl ?_
  refine w_iload_n mb94 dX7_isRing_75 76 rfl rfl ?_
  refine x_iast mb94 dX7_isRing_76 77 rfl R 24 rfl (by decide) rfl h1 (fun h R => ?_)
  exact K h bc bs R

theorem bX7_isRing_77 {d : Nat} {h0 : hp} {m : Nat} {ad : Nat → Nat} {Q : Option sV → rS → rG → Prop} {S : rS} {G : rG} {v1 : sV} {v2 : sV} {x3 : Int32} (K : rWP d h0 m ad 94 Q 44 [sR (some m), v1, v2, sI (x3 + 1)] [] S G) : rWP d h0 m ad 94 Q 77 [sR (some m), v1, v2, sI (x3)] [] S G := by
  intro h bc bs R
  refine w_iinc mb94 dX7_isRing_77 80 rfl rfl (x3 + 1) rfl [sR (some m), v1, v2, sI (x3 + 1)] rfl ?_
  refine w_goto mb94 dX7_isRing_80 44 (by decide) ?_
  exact K h bc bs R

theorem bX7_isRing_83 {d : Nat} {h0 : hp} {m : Nat} {ad : Nat → Nat} {Q : Option sV → rS → rG → Prop} {S : rS} {G : rG} {v1 : sV} {x2 : Int32} {v3 : sV} {P : Option sV → rS → rG → Prop} (C : rM d h0 m ad 95 [sI (x2)] S G P) (K : ∀ r S1 G1, P r S1 G1 → rWP d h0 m ad 94 Q 89 [sR (some m), v1, sI (x2), v3] (r.toList ++ [sI (3), sR (some m)]) S1 G1) : rWP d h0 m ad 94 Q 83 [sR (some m), v1, sI (x2), v3] [] S G := by
  intro h bc bs R
  refine w_aload_n mb94 dX7_isRing_83 84 rfl rfl ?_
  refine w_iconst mb94 dX7_isRing_84 85 rfl (3) (by decide) ?_
  refine w_iload_n mb94 dX7_isRing_85 86 rfl rfl ?_
  refine w_static (st := [sI (3), sR (some m)]) mb94 dX7_isRing_86 89 rfl 95 1 [sI (x2)] _ rfl rfl rfl lc7_205 (Nat.le_of_ble_eq_true rfl) (C h 0 0 R) (Nat.zero_le _) (Nat.zero_le _) (fun r h1 hP => ?_)
  obtain ⟨S1, G1, R1, hP⟩ := hP
  exact K r S1 G1 hP h1 _ _ R1

theorem bX7_isRing_89 {d : Nat} {h0 : hp} {m : Nat} {ad : Nat → Nat} {Q : Option sV → rS → rG → Prop} {S : rS} {G : rG} {v1 : sV} {v2 : sV} {v3 : sV} {y1 : Int32} {y2 : Int32} {P : Option sV → rS → rG → Prop} (C : rM d h0 m ad 91 [sR (some m), sI (y1), sI (y2)] S G P) (K : ∀ r S1 G1, P r S1 G1 → rWP d h0 m ad 94 Q 92 [sR (some m), v1, v2, v3] (r.toList ++ []) S1 G1) : rWP d h0 m ad 94 Q 89 [sR (some m), v1, v2, v3] [sI (y2), sI (y1), sR (some m)] S G := by
  intro h bc bs R
  refine w_virtual (a := m) (c := 7) (st := []) mb94 dX7_isRing_89 92 rfl 91 2 [sI (y1), sI (y2)] _ rfl rfl rfl lc7_187 R.2.1 (Nat.le_of_ble_eq_true rfl) (C h 0 0 R) (Nat.zero_le _) (Nat.zero_le _) (fun r h1 hP => ?_)
  obtain ⟨S1, G1, R1, hP⟩ := hP
  exact K r S1 G1 hP h1 _ _ R1

theorem bX7_isRing_92 {d : Nat} {h0 : hp} {m : Nat} {ad : Nat → Nat} {Q : Option sV → rS → rG → Prop} {S : rS} {G : rG} {v1 : sV} {v2 : sV} {v3 : sV} (K : Q (none) S G) : rWP d h0 m ad 94 Q 92 [sR (some m), v1, v2, v3] [] S G := by
  intro h bc bs R
  refine w_vret mb94 dX7_isRing_92 rfl ?_
  exact ⟨_, _, R, K⟩

theorem bX7_least_0 {d : Nat} {h0 : hp} {m : Nat} {ad : Nat → Nat} {Q : Option sV → rS → rG → Prop} {S : rS} {G : rG} {v0 : sV} {v1 : sV} (K : rWP d h0 m ad 95 Q 2 [v0, sI (0)] [] S G) : rWP d h0 m ad 95 Q 0 [v0, v1] [] S G := by
  intro h bc bs R
  refine w_iconst mb95 dX7_least_0 1 rfl (0) (by decide) ?_
  refine w_istore_n mb95 dX7_least_1 2 rfl [v0, sI (0)] (Nat.le_of_ble_eq_true rfl) rfl ?_
  exact K h bc bs R

theorem bX7_least_2 {d : Nat} {h0 : hp} {m : Nat} {ad : Nat → Nat} {Q : Option sV → rS → rG → Prop} {S : rS} {G : rG} {x0 : Int32} {x1 : Int32} (K1 : ¬ (((x0) >>> ((x1) &&& 31)) &&& (1)) = 0 → rWP d h0 m ad 95 Q 16 [sI (x0), sI (x1)] [] S G) (K2 : (((x0) >>> ((x1) &&& 31)) &&& (1)) = 0 → rWP d h0 m ad 95 Q 10 [sI (x0), sI (x1)] [] S G) : rWP d h0 m ad 95 Q 2 [sI (x0), sI (x1)] [] S G := by
  intro h bc bs R
  refine w_iload_n mb95 dX7_least_2 3 rfl rfl ?_
  refine w_iload_n mb95 dX7_least_3 4 rfl rfl ?_
  refine w_ishr mb95 dX7_least_4 5 rfl ?_
  refine w_iconst mb95 dX7_least_5 6 rfl (1) (by decide) ?_
  refine w_iand mb95 dX7_least_6 7 rfl ?_
  refine w_if_ne mb95 dX7_least_7 16 10 (by decide) rfl (fun z => ?_) (fun z => ?_)
  · exact K1 z h bc bs R
  · exact K2 z h bc bs R

theorem bX7_least_10 {d : Nat} {h0 : hp} {m : Nat} {ad : Nat → Nat} {Q : Option sV → rS → rG → Prop} {S : rS} {G : rG} {v0 : sV} {x1 : Int32} (K : rWP d h0 m ad 95 Q 2 [v0, sI (x1 + 1)] [] S G) : rWP d h0 m ad 95 Q 10 [v0, sI (x1)] [] S G := by
  intro h bc bs R
  refine w_iinc mb95 dX7_least_10 13 rfl rfl (x1 + 1) rfl [v0, sI (x1 + 1)] rfl ?_
  refine w_goto mb95 dX7_least_13 2 (by decide) ?_
  exact K h bc bs R

theorem bX7_least_16 {d : Nat} {h0 : hp} {m : Nat} {ad : Nat → Nat} {Q : Option sV → rS → rG → Prop} {S : rS} {G : rG} {v0 : sV} {x1 : Int32} (K : Q (some (sI (x1))) S G) : rWP d h0 m ad 95 Q 16 [v0, sI (x1)] [] S G := by
  intro h bc bs R
  refine w_iload_n mb95 dX7_least_16 17 rfl rfl ?_
  refine w_iret mb95 dX7_least_17 rfl ?_
  exact ⟨_, _, R, K⟩

theorem bX7_opened_0 {d : Nat} {h0 : hp} {m : Nat} {ad : Nat → Nat} {Q : Option sV → rS → rG → Prop} {S : rS} {G : rG} {x1 : Int32} (h1 : vp_in (x1) 24) (h2 : vp_in (S 32) 24) (K : Q (none) (va_up S 32 ((S 32) + (1))) (gup (gup (gup (gup (gup G 25 (x1).toNatClampNeg (1)) 28 (S 32).toNatClampNeg (x1)) 31 (S 32).toNatClampNeg (0)) 29 (S 32).toNatClampNeg (0)) 30 (S 32).toNatClampNeg (0))) : rWP d h0 m ad 96 Q 0 [sR (some m), sI (x1)] [] S G := by
  intro h bc bs R
  refine w_aload_n mb96 dX7_opened_0 1 rfl rfl ?_
  refine x_geta mb96 dX7_opened_1 4 rfl R lf7_84 rfl (by decide) ?_
  refine w_iload_n mb96 dX7_opened_4 5 rfl rfl ?_
  refine w_iconst mb96 dX7_opened_5 6 rfl (1) (by decide) ?_
  refine x_bast mb96 dX7_opened_6 7 rfl R 24 rfl (by decide) rfl h1 (Or.inr rfl) (fun h R => ?_)
  refine w_aload_n mb96 dX7_opened_7 8 rfl rfl ?_
  refine x_geta mb96 dX7_opened_8 11 rfl R lf7_90 rfl (by decide) ?_
  refine w_aload_n mb96 dX7_opened_11 12 rfl rfl ?_
  refine x_geti mb96 dX7_opened_12 15 rfl R lf7_202 rfl ?_
  refine w_iload_n mb96 dX7_opened_15 16 rfl rfl ?_
  refine x_iast mb96 dX7_opened_16 17 rfl R 24 rfl (by decide) rfl h2 (fun h R => ?_)
  refine w_aload_n mb96 dX7_opened_17 18 rfl rfl ?_
  refine x_geta mb96 dX7_opened_18 21 rfl R lf7_99 rfl (by decide) ?_
  refine w_aload_n mb96 dX7_opened_21 22 rfl rfl ?_
  refine x_geti mb96 dX7_opened_22 25 rfl R lf7_202 rfl ?_
  refine w_iconst mb96 dX7_opened_25 26 rfl (0) (by decide) ?_
  refine x_bast mb96 dX7_opened_26 27 rfl R 24 rfl (by decide) rfl h2 (Or.inl rfl) (fun h R => ?_)
  refine w_aload_n mb96 dX7_opened_27 28 rfl rfl ?_
  refine x_geta mb96 dX7_opened_28 31 rfl R lf7_93 rfl (by decide) ?_
  refine w_aload_n mb96 dX7_opened_31 32 rfl rfl ?_
  refine x_geti mb96 dX7_opened_32 35 rfl R lf7_202 rfl ?_
  refine w_iconst mb96 dX7_opened_35 36 rfl (0) (by decide) ?_
  refine x_iast mb96 dX7_opened_36 37 rfl R 24 rfl (by decide) rfl h2 (fun h R => ?_)
  refine w_aload_n mb96 dX7_opened_37 38 rfl rfl ?_
  refine x_geta mb96 dX7_opened_38 41 rfl R lf7_96 rfl (by decide) ?_
  refine w_aload_n mb96 dX7_opened_41 42 rfl rfl ?_
  refine x_geti mb96 dX7_opened_42 45 rfl R lf7_202 rfl ?_
  refine w_iconst mb96 dX7_opened_45 46 rfl (0) (by decide) ?_
  refine x_iast mb96 dX7_opened_46 47 rfl R 24 rfl (by decide) rfl h2 (fun h R => ?_)
  refine w_aload_n mb96 dX7_opened_47 48 rfl rfl ?_
  refine w_dup mb96 dX7_opened_48 49 rfl rfl ?_
  refine x_geti mb96 dX7_opened_49 52 rfl R lf7_202 rfl ?_
  refine w_iconst mb96 dX7_opened_52 53 rfl (1) (by decide) ?_
  refine w_iadd mb96 dX7_opened_53 54 rfl ?_
  refine x_puti mb96 dX7_opened_54 57 rfl R (lp7_202 _) rfl (fun h R => ?_)
  refine w_vret mb96 dX7_opened_57 rfl ?_
  exact ⟨_, _, R, K⟩

theorem bX7_closed_0 {d : Nat} {h0 : hp} {m : Nat} {ad : Nat → Nat} {Q : Option sV → rS → rG → Prop} {S : rS} {G : rG} {x1 : Int32} (h1 : vp_in (x1) 24) (K : Q (none) (va_up S 32 ((S 32) - (1))) (gup (gup G 24 (x1).toNatClampNeg (1)) 25 (x1).toNatClampNeg (0))) : rWP d h0 m ad 97 Q 0 [sR (some m), sI (x1)] [] S G := by
  intro h bc bs R
  refine w_aload_n mb97 dX7_closed_0 1 rfl rfl ?_
  refine x_geta mb97 dX7_closed_1 4 rfl R lf7_81 rfl (by decide) ?_
  refine w_iload_n mb97 dX7_closed_4 5 rfl rfl ?_
  refine w_iconst mb97 dX7_closed_5 6 rfl (1) (by decide) ?_
  refine x_bast mb97 dX7_closed_6 7 rfl R 24 rfl (by decide) rfl h1 (Or.inr rfl) (fun h R => ?_)
  refine w_aload_n mb97 dX7_closed_7 8 rfl rfl ?_
  refine x_geta mb97 dX7_closed_8 11 rfl R lf7_84 rfl (by decide) ?_
  refine w_iload_n mb97 dX7_closed_11 12 rfl rfl ?_
  refine w_iconst mb97 dX7_closed_12 13 rfl (0) (by decide) ?_
  refine x_bast mb97 dX7_closed_13 14 rfl R 24 rfl (by decide) rfl h1 (Or.inl rfl) (fun h R => ?_)
  refine w_aload_n mb97 dX7_closed_14 15 rfl rfl ?_
  refine w_dup mb97 dX7_closed_15 16 rfl rfl ?_
  refine x_geti mb97 dX7_closed_16 19 rfl R lf7_202 rfl ?_
  refine w_iconst mb97 dX7_closed_19 20 rfl (1) (by decide) ?_
  refine w_isub mb97 dX7_closed_20 21 rfl ?_
  refine x_puti mb97 dX7_closed_21 24 rfl R (lp7_202 _) rfl (fun h R => ?_)
  refine w_vret mb97 dX7_closed_24 rfl ?_
  exact ⟨_, _, R, K⟩

theorem bX7_goRound_0 {d : Nat} {h0 : hp} {m : Nat} {ad : Nat → Nat} {Q : Option sV → rS → rG → Prop} {S : rS} {G : rG} {v1 : sV} {v2 : sV} (K : rWP d h0 m ad 98 Q 2 [sR (some m), v1, sI (0)] [] S G) : rWP d h0 m ad 98 Q 0 [sR (some m), v1, v2] [] S G := by
  intro h bc bs R
  refine w_iconst mb98 dX7_goRound_0 1 rfl (0) (by decide) ?_
  refine w_istore_n mb98 dX7_goRound_1 2 rfl [sR (some m), v1, sI (0)] (Nat.le_of_ble_eq_true rfl) rfl ?_
  exact K h bc bs R

theorem bX7_goRound_2 {d : Nat} {h0 : hp} {m : Nat} {ad : Nat → Nat} {Q : Option sV → rS → rG → Prop} {S : rS} {G : rG} {v1 : sV} {x2 : Int32} (K1 : (24) ≤ (x2) → rWP d h0 m ad 98 Q 42 [sR (some m), v1, sI (x2)] [] S G) (K2 : ¬ (24) ≤ (x2) → rWP d h0 m ad 98 Q 8 [sR (some m), v1, sI (x2)] [] S G) : rWP d h0 m ad 98 Q 2 [sR (some m), v1, sI (x2)] [] S G := by
  intro h bc bs R
  refine w_iload_n mb98 dX7_goRound_2 3 rfl rfl ?_
  refine w_bipush mb98 dX7_goRound_3 5 rfl (24) (by decide) ?_
  refine w_icmp_ge mb98 dX7_goRound_5 42 8 (by decide) rfl (fun z => ?_) (fun z => ?_)
  · exact K1 z h bc bs R
  · exact K2 z h bc bs R

theorem bX7_goRound_8 {d : Nat} {h0 : hp} {m : Nat} {ad : Nat → Nat} {Q : Option sV → rS → rG → Prop} {S : rS} {G : rG} {v1 : sV} {x2 : Int32} (h1 : vp_in (x2) 24) (K : rWP d h0 m ad 98 Q 2 [sR (some m), v1, sI (x2 + 1)] [] S (gup (gup (gup (gup G 24 (x2).toNatClampNeg (0)) 25 (x2).toNatClampNeg (0)) 26 (x2).toNatClampNeg (0)) 23 (x2).toNatClampNeg (0))) : rWP d h0 m ad 98 Q 8 [sR (some m), v1, sI (x2)] [] S G := by
  intro h bc bs R
  refine w_aload_n mb98 dX7_goRound_8 9 rfl rfl ?_
  refine x_geta mb98 dX7_goRound_9 12 rfl R lf7_81 rfl (by decide) ?_
  refine w_iload_n mb98 dX7_goRound_12 13 rfl rfl ?_
  refine w_iconst mb98 dX7_goRound_13 14 rfl (0) (by decide) ?_
  refine x_bast mb98 dX7_goRound_14 15 rfl R 24 rfl (by decide) rfl h1 (Or.inl rfl) (fun h R => ?_)
  refine w_aload_n mb98 dX7_goRound_15 16 rfl rfl ?_
  refine x_geta mb98 dX7_goRound_16 19 rfl R lf7_84 rfl (by decide) ?_
  refine w_iload_n mb98 dX7_goRound_19 20 rfl rfl ?_
  refine w_iconst mb98 dX7_goRound_20 21 rfl (0) (by decide) ?_
  refine x_bast mb98 dX7_goRound_21 22 rfl R 24 rfl (by decide) rfl h1 (Or.inl rfl) (fun h R => ?_)
  refine w_aload_n mb98 dX7_goRound_22 23 rfl rfl ?_
  refine x_geta mb98 dX7_goRound_23 26 rfl R lf7_87 rfl (by decide) ?_
  refine w_iload_n mb98 dX7_goRound_26 27 rfl rfl ?_
  refine w_iconst mb98 dX7_goRound_27 28 rfl (0) (by decide) ?_
  refine x_bast mb98 dX7_goRound_28 29 rfl R 24 rfl (by decide) rfl h1 (Or.inl rfl) (fun h R => ?_)
  refine w_aload_n mb98 dX7_goRound_29 30 rfl rfl ?_
  refine x_geta mb98 dX7_goRound_30 33 rfl R lf7_78 rfl (by decide) ?_
  refine w_iload_n mb98 dX7_goRound_33 34 rfl rfl ?_
  refine w_iconst mb98 dX7_goRound_34 35 rfl (0) (by decide) ?_
  refine x_iast mb98 dX7_goRound_35 36 rfl R 24 rfl (by decide) rfl h1 (fun h R => ?_)
  refine w_iinc mb98 dX7_goRound_36 39 rfl rfl (x2 + 1) rfl [sR (some m), v1, sI (x2 + 1)] rfl ?_
  refine w_goto mb98 dX7_goRound_39 2 (by decide) ?_
  exact K h bc bs R

theorem bX7_goRound_42 {d : Nat} {h0 : hp} {m : Nat} {ad : Nat → Nat} {Q : Option sV → rS → rG → Prop} {S : rS} {G : rG} {x1 : Int32} {v2 : sV} {P : Option sV → rS → rG → Prop} (C : rM d h0 m ad 96 [sR (some m), sI (x1)] (va_up S 32 (0)) G P) (K : ∀ r S1 G1, P r S1 G1 → rWP d h0 m ad 98 Q 52 [sR (some m), sI (x1), v2] (r.toList ++ []) S1 G1) : rWP d h0 m ad 98 Q 42 [sR (some m), sI (x1), v2] [] S G := by
  intro h bc bs R
  refine w_aload_n mb98 dX7_goRound_42 43 rfl rfl ?_
  refine w_iconst mb98 dX7_goRound_43 44 rfl (0) (by decide) ?_
  refine x_puti mb98 dX7_goRound_44 47 rfl R (lp7_202 _) rfl (fun h R => ?_)
  refine w_aload_n mb98 dX7_goRound_47 48 rfl rfl ?_
  refine w_iload_n mb98 dX7_goRound_48 49 rfl rfl ?_
  refine w_virtual (a := m) (c := 7) (st := []) mb98 dX7_goRound_49 52 rfl 96 1 [sI (x1)] _ rfl rfl rfl lc7_199 R.2.1 (Nat.le_of_ble_eq_true rfl) (C h 0 0 R) (Nat.zero_le _) (Nat.zero_le _) (fun r h1 hP => ?_)
  obtain ⟨S1, G1, R1, hP⟩ := hP
  exact K r S1 G1 hP h1 _ _ R1

theorem bX7_goRound_52 {d : Nat} {h0 : hp} {m : Nat} {ad : Nat → Nat} {Q : Option sV → rS → rG → Prop} {S : rS} {G : rG} {v1 : sV} {v2 : sV} (K1 : (S 32) ≤ 0 → rWP d h0 m ad 98 Q 66 [sR (some m), v1, v2] [] S G) (K2 : ¬ (S 32) ≤ 0 → rWP d h0 m ad 98 Q 59 [sR (some m), v1, v2] [] S G) : rWP d h0 m ad 98 Q 52 [sR (some m), v1, v2] [] S G := by
  intro h bc bs R
  refine w_aload_n mb98 dX7_goRound_52 53 rfl rfl ?_
  refine x_geti mb98 dX7_goRound_53 56 rfl R lf7_202 rfl ?_
  refine w_if_le mb98 dX7_goRound_56 66 59 (by decide) rfl (fun z => ?_) (fun z => ?_)
  · exact K1 z h bc bs R
  · exact K2 z h bc bs R

theorem bX7_goRound_59 {d : Nat} {h0 : hp} {m : Nat} {ad : Nat → Nat} {Q : Option sV → rS → rG → Prop} {S : rS} {G : rG} {v1 : sV} {v2 : sV} {P : Option sV → rS → rG → Prop} (C : rM d h0 m ad 99 [sR (some m)] S G P) (K : ∀ r S1 G1, P r S1 G1 → rWP d h0 m ad 98 Q 63 [sR (some m), v1, v2] (r.toList ++ []) S1 G1) : rWP d h0 m ad 98 Q 59 [sR (some m), v1, v2] [] S G := by
  intro h bc bs R
  refine w_aload_n mb98 dX7_goRound_59 60 rfl rfl ?_
  refine w_virtual (a := m) (c := 7) (st := []) mb98 dX7_goRound_60 63 rfl 99 0 [] _ rfl rfl rfl lc7_208 R.2.1 (Nat.le_of_ble_eq_true rfl) (C h 0 0 R) (Nat.zero_le _) (Nat.zero_le _) (fun r h1 hP => ?_)
  obtain ⟨S1, G1, R1, hP⟩ := hP
  exact K r S1 G1 hP h1 _ _ R1

theorem bX7_goRound_63 {d : Nat} {h0 : hp} {m : Nat} {ad : Nat → Nat} {Q : Option sV → rS → rG → Prop} {S : rS} {G : rG} {v1 : sV} {v2 : sV} (K : rWP d h0 m ad 98 Q 52 [sR (some m), v1, v2] [] S G) : rWP d h0 m ad 98 Q 63 [sR (some m), v1, v2] [] S G := by
  intro h bc bs R
  refine w_goto mb98 dX7_goRound_63 52 (by decide) ?_
  exact K h bc bs R

theorem bX7_goRound_66 {d : Nat} {h0 : hp} {m : Nat} {ad : Nat → Nat} {Q : Option sV → rS → rG → Prop} {S : rS} {G : rG} {x1 : Int32} {v2 : sV} (h1 : vp_in (x1) 24) (K1 : ¬ ((G 20) (x1).toNatClampNeg) = (3) → rWP d h0 m ad 98 Q 117 [sR (some m), sI (x1), v2] [sR (some m)] (va_up (va_up (va_up S 48 ((G 19) (x1).toNatClampNeg)) 49 ((G 20) (x1).toNatClampNeg)) 50 ((G 21) (x1).toNatClampNeg)) G) (K2 : ((G 20) (x1).toNatClampNeg) = (3) → rWP d h0 m ad 98 Q 105 [sR (some m), sI (x1), v2] [sR (some m)] (va_up (va_up (va_up S 48 ((G 19) (x1).toNatClampNeg)) 49 ((G 20) (x1).toNatClampNeg)) 50 ((G 21) (x1).toNatClampNeg)) G) : rWP d h0 m ad 98 Q 66 [sR (some m), sI (x1), v2] [] S G := by
  intro h bc bs R
  refine w_aload_n mb98 dX7_goRound_66 67 rfl rfl ?_
  refine w_aload_n mb98 dX7_goRound_67 68 rfl rfl ?_
  refine x_geta mb98 dX7_goRound_68 71 rfl R lf7_66 rfl (by decide) ?_
  refine w_iload_n mb98 dX7_goRound_71 72 rfl rfl ?_
  refine x_iald mb98 dX7_goRound_72 73 rfl R 24 rfl (by decide) rfl h1 ?_
  refine x_puti mb98 dX7_goRound_73 76 rfl R (lp7_138 _) rfl (fun h R => ?_)
  refine w_aload_n mb98 dX7_goRound_76 77 rfl rfl ?_
  refine w_aload_n mb98 dX7_goRound_77 78 rfl rfl ?_
  refine x_geta mb98 dX7_goRound_78 81 rfl R lf7_69 rfl (by decide) ?_
  refine w_iload_n mb98 dX7_goRound_81 82 rfl rfl ?_
  refine x_iald mb98 dX7_goRound_82 83 rfl R 24 rfl (by decide) rfl h1 ?_
  refine x_puti mb98 dX7_goRound_83 86 rfl R (lp7_211 _) rfl (fun h R => ?_)
  refine w_aload_n mb98 dX7_goRound_86 87 rfl rfl ?_
  refine w_aload_n mb98 dX7_goRound_87 88 rfl rfl ?_
  refine x_geta mb98 dX7_goRound_88 91 rfl R lf7_72 rfl (by decide) ?_
  refine w_iload_n mb98 dX7_goRound_91 92 rfl rfl ?_
  refine x_iald mb98 dX7_goRound_92 93 rfl R 24 rfl (by decide) rfl h1 ?_
  refine x_puti mb98 dX7_goRound_93 96 rfl R (lp7_214 _) rfl (fun h R => ?_)
  refine w_aload_n mb98 dX7_goRound_96 97 rfl rfl ?_
  refine w_aload_n mb98 dX7_goRound_97 98 rfl rfl ?_
  refine x_geti mb98 dX7_goRound_98 101 rfl R lf7_211 rfl ?_
  refine w_iconst mb98 dX7_goRound_101 102 rfl (3) (by decide) ?_
  refine w_icmp_ne mb98 dX7_goRound_102 117 105 (by decide) rfl (fun z => ?_) (fun z => ?_)
  · exact K1 z h bc bs R
  · exact K2 z h bc bs R

theorem bX7_goRound_105 {d : Nat} {h0 : hp} {m : Nat} {ad : Nat → Nat} {Q : Option sV → rS → rG → Prop} {S : rS} {G : rG} {v1 : sV} {v2 : sV} (h1 : vp_in (S 50) 24) (K : rWP d h0 m ad 98 Q 118 [sR (some m), v1, v2] [sI ((G 23) (S 50).toNatClampNeg), sR (some m)] S G) : rWP d h0 m ad 98 Q 105 [sR (some m), v1, v2] [sR (some m)] S G := by
  intro h bc bs R
  refine w_aload_n mb98 dX7_goRound_105 106 rfl rfl ?_
  refine x_geta mb98 dX7_goRound_106 109 rfl R lf7_78 rfl (by decide) ?_
  refine w_aload_n mb98 dX7_goRound_109 110 rfl rfl ?_
  refine x_geti mb98 dX7_goRound_110 113 rfl R lf7_214 rfl ?_
  refine x_iald mb98 dX7_goRound_113 114 rfl R 24 rfl (by decide) rfl h1 ?_
  refine w_goto mb98 dX7_goRound_114 118 (by decide) ?_
  exact K h bc bs R

theorem bX7_goRound_117 {d : Nat} {h0 : hp} {m : Nat} {ad : Nat → Nat} {Q : Option sV → rS → rG → Prop} {S : rS} {G : rG} {v1 : sV} {v2 : sV} (K : rWP d h0 m ad 98 Q 118 [sR (some m), v1, v2] [sI (0), sR (some m)] S G) : rWP d h0 m ad 98 Q 117 [sR (some m), v1, v2] [sR (some m)] S G := by
  intro h bc bs R
  refine w_iconst mb98 dX7_goRound_117 118 rfl (0) (by decide) ?_
  exact K h bc bs R

theorem bX7_goRound_118 {d : Nat} {h0 : hp} {m : Nat} {ad : Nat → Nat} {Q : Option sV → rS → rG → Prop} {S : rS} {G : rG} {v1 : sV} {v2 : sV} {y1 : Int32} (K : rWP d h0 m ad 98 Q 123 [sR (some m), v1, sI (0)] [] (va_up S 51 (y1)) G) : rWP d h0 m ad 98 Q 118 [sR (some m), v1, v2] [sI (y1), sR (some m)] S G := by
  intro h bc bs R
  refine x_puti mb98 dX7_goRound_118 121 rfl R (lp7_217 _) rfl (fun h R => ?_)
  refine w_iconst mb98 dX7_goRound_121 122 rfl (0) (by decide) ?_
  refine w_istore_n mb98 dX7_goRound_122 123 rfl [sR (some m), v1, sI (0)] (Nat.le_of_ble_eq_true rfl) rfl ?_
  exact K h bc bs R

theorem bX7_goRound_123 {d : Nat} {h0 : hp} {m : Nat} {ad : Nat → Nat} {Q : Option sV → rS → rG → Prop} {S : rS} {G : rG} {v1 : sV} {x2 : Int32} (K1 : (S 48) ≤ (x2) → rWP d h0 m ad 98 Q 154 [sR (some m), v1, sI (x2)] [] S G) (K2 : ¬ (S 48) ≤ (x2) → rWP d h0 m ad 98 Q 131 [sR (some m), v1, sI (x2)] [] S G) : rWP d h0 m ad 98 Q 123 [sR (some m), v1, sI (x2)] [] S G := by
  intro h bc bs R
  refine w_iload_n mb98 dX7_goRound_123 124 rfl rfl ?_
  refine w_aload_n mb98 dX7_goRound_124 125 rfl rfl ?_
  refine x_geti mb98 dX7_goRound_125 128 rfl R lf7_138 rfl ?_
  refine w_icmp_ge mb98 dX7_goRound_128 154 131 (by decide) rfl (fun z => ?_) (fun z => ?_)
  · exact K1 z h bc bs R
  · exact K2 z h bc bs R

theorem bX7_goRound_131 {d : Nat} {h0 : hp} {m : Nat} {ad : Nat → Nat} {Q : Option sV → rS → rG → Prop} {S : rS} {G : rG} {x1 : Int32} {x2 : Int32} (h1 : vp_in (((24) * (x1)) + (x2)) 576) (h2 : vp_in (x2) 24) (K : rWP d h0 m ad 98 Q 123 [sR (some m), sI (x1), sI (x2 + 1)] [] S (gup G 56 (x2).toNatClampNeg ((G 22) (((24) * (x1)) + (x2)).toNatClampNeg))) : rWP d h0 m ad 98 Q 131 [sR (some m), sI (x1), sI (x2)] [] S G := by
  intro h bc bs R
  refine w_aload_n mb98 dX7_goRound_131 132 rfl rfl ?_
  refine x_geta mb98 dX7_goRound_132 135 rfl R lf7_142 rfl (by decide) ?_
  refine w_iload_n mb98 dX7_goRound_135 136 rfl rfl ?_
  refine w_aload_n mb98 dX7_goRound_136 137 rfl rfl ?_
  refine x_geta mb98 dX7_goRound_137 140 rfl R lf7_75 rfl (by decide) ?_
  refine w_bipush mb98 dX7_goRound_140 142 rfl (24) (by decide) ?_
  refine w_iload_n mb98 dX7_goRound_142 143 rfl rfl ?_
  refine w_imul mb98 dX7_goRound_143 144 rfl ?_
  refine w_iload_n mb98 dX7_goRound_144 145 rfl rfl ?_
  refine w_iadd mb98 dX7_goRound_145 146 rfl ?_
  refine x_iald mb98 dX7_goRound_146 147 rfl R 576 rfl (by decide) rfl h1 ?_
  refine x_iast mb98 dX7_goRound_147 148 rfl R 24 rfl (by decide) rfl h2 (fun h R => ?_)
  refine w_iinc mb98 dX7_goRound_148 151 rfl rfl (x2 + 1) rfl [sR (some m), sI (x1), sI (x2 + 1)] rfl ?_
  refine w_goto mb98 dX7_goRound_151 123 (by decide) ?_
  exact K h bc bs R

theorem bX7_goRound_154 {d : Nat} {h0 : hp} {m : Nat} {ad : Nat → Nat} {Q : Option sV → rS → rG → Prop} {S : rS} {G : rG} {v1 : sV} {v2 : sV} (K : Q (none) S G) : rWP d h0 m ad 98 Q 154 [sR (some m), v1, v2] [] S G := by
  intro h bc bs R
  refine w_vret mb98 dX7_goRound_154 rfl ?_
  exact ⟨_, _, R, K⟩

theorem bX7_goes_0 {d : Nat} {h0 : hp} {m : Nat} {ad : Nat → Nat} {Q : Option sV → rS → rG → Prop} {S : rS} {G : rG} {v1 : sV} {v2 : sV} {v3 : sV} (h1 : vp_in ((S 32) - (1)) 24) (K1 : ¬ ((G 31) ((S 32) - (1)).toNatClampNeg) = 0 → rWP d h0 m ad 99 Q 51 [sR (some m), sI ((S 32) - (1)), sI ((G 28) ((S 32) - (1)).toNatClampNeg), v3] [] S G) (K2 : ((G 31) ((S 32) - (1)).toNatClampNeg) = 0 → rWP d h0 m ad 99 Q 23 [sR (some m), sI ((S 32) - (1)), sI ((G 28) ((S 32) - (1)).toNatClampNeg), v3] [] S G) : rWP d h0 m ad 99 Q 0 [sR (some m), v1, v2, v3] [] S G := by
  intro h bc bs R
  refine w_aload_n mb99 dX7_goes_0 1 rfl rfl ?_
  refine x_geti mb99 dX7_goes_1 4 rfl R lf7_202 rfl ?_
  refine w_iconst mb99 dX7_goes_4 5 rfl (1) (by decide) ?_
  refine w_isub mb99 dX7_goes_5 6 rfl ?_
  refine w_istore_n mb99 dX7_goes_6 7 rfl [sR (some m), sI ((S 32) - (1)), v2, v3] (Nat.le_of_ble_eq_true rfl) rfl ?_
  refine w_aload_n mb99 dX7_goes_7 8 rfl rfl ?_
  refine x_geta mb99 dX7_goes_8 11 rfl R lf7_90 rfl (by decide) ?_
  refine w_iload_n mb99 dX7_goes_11 12 rfl rfl ?_
  refine x_iald mb99 dX7_goes_12 13 rfl R 24 rfl (by decide) rfl h1 ?_
  refine w_istore_n mb99 dX7_goes_13 14 rfl [sR (some m), sI ((S 32) - (1)), sI ((G 28) ((S 32) - (1)).toNatClampNeg), v3] (Nat.le_of_ble_eq_true rfl) rfl ?_
  refine w_aload_n mb99 dX7_goes_14 15 rfl rfl ?_
  refine x_geta mb99 dX7_goes_15 18 rfl R lf7_99 rfl (by decide) ?_
  refine w_iload_n mb99 dX7_goes_18 19 rfl rfl ?_
  refine x_bald mb99 dX7_goes_19 20 rfl R 24 rfl (by decide) rfl h1 ?_
  refine w_if_ne mb99 dX7_goes_20 51 23 (by decide) rfl (fun z => ?_) (fun z => ?_)
  · exact K1 z h bc bs R
  · exact K2 z h bc bs R

theorem bX7_goes_23 {d : Nat} {h0 : hp} {m : Nat} {ad : Nat → Nat} {Q : Option sV → rS → rG → Prop} {S : rS} {G : rG} {v1 : sV} {v2 : sV} {v3 : sV} (K1 : ¬ (S 27) = 0 → rWP d h0 m ad 99 Q 45 [sR (some m), v1, v2, v3] [] S G) (K2 : (S 27) = 0 → rWP d h0 m ad 99 Q 30 [sR (some m), v1, v2, v3] [] S G) : rWP d h0 m ad 99 Q 23 [sR (some m), v1, v2, v3] [] S G := by
  intro h bc bs R
  refine w_aload_n mb99 dX7_goes_23 24 rfl rfl ?_
  refine x_geti mb99 dX7_goes_24 27 rfl R lf7_220 rfl ?_
  refine w_if_ne mb99 dX7_goes_27 45 30 (by decide) rfl (fun z => ?_) (fun z => ?_)
  · exact K1 z h bc bs R
  · exact K2 z h bc bs R

theorem bX7_goes_30 {d : Nat} {h0 : hp} {m : Nat} {ad : Nat → Nat} {Q : Option sV → rS → rG → Prop} {S : rS} {G : rG} {x1 : Int32} {x2 : Int32} {v3 : sV} (h1 : vp_in (x1) 24) (h2 : vp_in (x2) 24) (K1 : ¬ ((G 29) (x1).toNatClampNeg) = ((G 7) (x2).toNatClampNeg) → rWP d h0 m ad 99 Q 51 [sR (some m), sI (x1), sI (x2), v3] [] S G) (K2 : ((G 29) (x1).toNatClampNeg) = ((G 7) (x2).toNatClampNeg) → rWP d h0 m ad 99 Q 45 [sR (some m), sI (x1), sI (x2), v3] [] S G) : rWP d h0 m ad 99 Q 30 [sR (some m), sI (x1), sI (x2), v3] [] S G := by
  intro h bc bs R
  refine w_aload_n mb99 dX7_goes_30 31 rfl rfl ?_
  refine x_geta mb99 dX7_goes_31 34 rfl R lf7_93 rfl (by decide) ?_
  refine w_iload_n mb99 dX7_goes_34 35 rfl rfl ?_
  refine x_iald mb99 dX7_goes_35 36 rfl R 24 rfl (by decide) rfl h1 ?_
  refine w_aload_n mb99 dX7_goes_36 37 rfl rfl ?_
  refine x_geta mb99 dX7_goes_37 40 rfl R lf7_29 rfl (by decide) ?_
  refine w_iload_n mb99 dX7_goes_40 41 rfl rfl ?_
  refine x_iald mb99 dX7_goes_41 42 rfl R 24 rfl (by decide) rfl h2 ?_
  refine w_icmp_ne mb99 dX7_goes_42 51 45 (by decide) rfl (fun z => ?_) (fun z => ?_)
  · exact K1 z h bc bs R
  · exact K2 z h bc bs R

theorem bX7_goes_45 {d : Nat} {h0 : hp} {m : Nat} {ad : Nat → Nat} {Q : Option sV → rS → rG → Prop} {S : rS} {G : rG} {x1 : Int32} {v2 : sV} {v3 : sV} {P : Option sV → rS → rG → Prop} (C : rM d h0 m ad 107 [sR (some m), sI (x1)] S G P) (K : ∀ r S1 G1, P r S1 G1 → rWP d h0 m ad 99 Q 50 [sR (some m), sI (x1), v2, v3] (r.toList ++ []) S1 G1) : rWP d h0 m ad 99 Q 45 [sR (some m), sI (x1), v2, v3] [] S G := by
  intro h bc bs R
  refine w_aload_n mb99 dX7_goes_45 46 rfl rfl ?_
  refine w_iload_n mb99 dX7_goes_46 47 rfl rfl ?_
  refine w_virtual (a := m) (c := 7) (st := []) mb99 dX7_goes_47 50 rfl 107 1 [sI (x1)] _ rfl rfl rfl lc7_224 R.2.1 (Nat.le_of_ble_eq_true rfl) (C h 0 0 R) (Nat.zero_le _) (Nat.zero_le _) (fun r h1 hP => ?_)
  obtain ⟨S1, G1, R1, hP⟩ := hP
  exact K r S1 G1 hP h1 _ _ R1

theorem bX7_goes_50 {d : Nat} {h0 : hp} {m : Nat} {ad : Nat → Nat} {Q : Option sV → rS → rG → Prop} {S : rS} {G : rG} {v1 : sV} {v2 : sV} {v3 : sV} (K : Q (none) S G) : rWP d h0 m ad 99 Q 50 [sR (some m), v1, v2, v3] [] S G := by
  intro h bc bs R
  refine w_vret mb99 dX7_goes_50 rfl ?_
  exact ⟨_, _, R, K⟩

theorem bX7_goes_51 {d : Nat} {h0 : hp} {m : Nat} {ad : Nat → Nat} {Q : Option sV → rS → rG → Prop} {S : rS} {G : rG} {x1 : Int32} {v2 : sV} {v3 : sV} (h1 : vp_in (x1) 24) (K1 : ((G 31) (x1).toNatClampNeg) = 0 → rWP d h0 m ad 99 Q 68 [sR (some m), sI (x1), v2, v3] [] S G) (K2 : ¬ ((G 31) (x1).toNatClampNeg) = 0 → rWP d h0 m ad 99 Q 60 [sR (some m), sI (x1), v2, v3] [] S G) : rWP d h0 m ad 99 Q 51 [sR (some m), sI (x1), v2, v3] [] S G := by
  intro h bc bs R
  refine w_aload_n mb99 dX7_goes_51 52 rfl rfl ?_
  refine x_geta mb99 dX7_goes_52 55 rfl R lf7_99 rfl (by decide) ?_
  refine w_iload_n mb99 dX7_goes_55 56 rfl rfl ?_
  refine x_bald mb99 dX7_goes_56 57 rfl R 24 rfl (by decide) rfl h1 ?_
  refine w_if_eq mb99 dX7_goes_57 68 60 (by decide) rfl (fun z => ?_) (fun z => ?_)
  · exact K1 z h bc bs R
  · exact K2 z h bc bs R

theorem bX7_goes_60 {d : Nat} {h0 : hp} {m : Nat} {ad : Nat → Nat} {Q : Option sV → rS → rG → Prop} {S : rS} {G : rG} {x1 : Int32} {v2 : sV} {v3 : sV} {P : Option sV → rS → rG → Prop} (C : rM d h0 m ad 108 [sR (some m), sI (x1)] S G P) (K : ∀ r S1 G1, P r S1 G1 → rWP d h0 m ad 99 Q 65 [sR (some m), sI (x1), v2, v3] (r.toList ++ []) S1 G1) : rWP d h0 m ad 99 Q 60 [sR (some m), sI (x1), v2, v3] [] S G := by
  intro h bc bs R
  refine w_aload_n mb99 dX7_goes_60 61 rfl rfl ?_
  refine w_iload_n mb99 dX7_goes_61 62 rfl rfl ?_
  refine w_virtual (a := m) (c := 7) (st := []) mb99 dX7_goes_62 65 rfl 108 1 [sI (x1)] _ rfl rfl rfl lc7_227 R.2.1 (Nat.le_of_ble_eq_true rfl) (C h 0 0 R) (Nat.zero_le _) (Nat.zero_le _) (fun r h1 hP => ?_)
  obtain ⟨S1, G1, R1, hP⟩ := hP
  exact K r S1 G1 hP h1 _ _ R1

theorem bX7_goes_65 {d : Nat} {h0 : hp} {m : Nat} {ad : Nat → Nat} {Q : Option sV → rS → rG → Prop} {S : rS} {G : rG} {v1 : sV} {v2 : sV} {v3 : sV} {y0 : Int32} (K : rWP d h0 m ad 99 Q 73 [sR (some m), v1, v2, v3] [sI (y0)] S G) : rWP d h0 m ad 99 Q 65 [sR (some m), v1, v2, v3] [sI (y0)] S G := by
  intro h bc bs R
  refine w_goto mb99 dX7_goes_65 73 (by decide) ?_
  exact K h bc bs R

theorem bX7_goes_68 {d : Nat} {h0 : hp} {m : Nat} {ad : Nat → Nat} {Q : Option sV → rS → rG → Prop} {S : rS} {G : rG} {x1 : Int32} {v2 : sV} {v3 : sV} {P : Option sV → rS → rG → Prop} (C : rM d h0 m ad 100 [sR (some m), sI (x1)] S G P) (K : ∀ r S1 G1, P r S1 G1 → rWP d h0 m ad 99 Q 73 [sR (some m), sI (x1), v2, v3] (r.toList ++ []) S1 G1) : rWP d h0 m ad 99 Q 68 [sR (some m), sI (x1), v2, v3] [] S G := by
  intro h bc bs R
  refine w_aload_n mb99 dX7_goes_68 69 rfl rfl ?_
  refine w_iload_n mb99 dX7_goes_69 70 rfl rfl ?_
  refine w_virtual (a := m) (c := 7) (st := []) mb99 dX7_goes_70 73 rfl 100 1 [sI (x1)] _ rfl rfl rfl lc7_230 R.2.1 (Nat.le_of_ble_eq_true rfl) (C h 0 0 R) (Nat.zero_le _) (Nat.zero_le _) (fun r h1 hP => ?_)
  obtain ⟨S1, G1, R1, hP⟩ := hP
  exact K r S1 G1 hP h1 _ _ R1

theorem bX7_goes_73 {d : Nat} {h0 : hp} {m : Nat} {ad : Nat → Nat} {Q : Option sV → rS → rG → Prop} {S : rS} {G : rG} {v1 : sV} {v2 : sV} {v3 : sV} {y0 : Int32} (K1 : ¬ (y0) = ((-1)) → rWP d h0 m ad 99 Q 102 [sR (some m), v1, v2, sI (y0)] [] S G) (K2 : (y0) = ((-1)) → rWP d h0 m ad 99 Q 79 [sR (some m), v1, v2, sI (y0)] [] S G) : rWP d h0 m ad 99 Q 73 [sR (some m), v1, v2, v3] [sI (y0)] S G := by
  intro h bc bs R
  refine w_istore_n mb99 dX7_goes_73 74 rfl [sR (some m), v1, v2, sI (y0)] (Nat.le_of_ble_eq_true rfl) rfl ?_
  refine w_iload_n mb99 dX7_goes_74 75 rfl rfl ?_
  refine w_iconst mb99 dX7_goes_75 76 rfl ((-1)) (by decide) ?_
  refine w_icmp_ne mb99 dX7_goes_76 102 79 (by decide) rfl (fun z => ?_) (fun z => ?_)
  · exact K1 z h bc bs R
  · exact K2 z h bc bs R

theorem bX7_goes_79 {d : Nat} {h0 : hp} {m : Nat} {ad : Nat → Nat} {Q : Option sV → rS → rG → Prop} {S : rS} {G : rG} {x1 : Int32} {v2 : sV} {v3 : sV} (h1 : vp_in (x1) 24) (K1 : ((G 31) (x1).toNatClampNeg) = 0 → rWP d h0 m ad 99 Q 96 [sR (some m), sI (x1), v2, v3] [] S G) (K2 : ¬ ((G 31) (x1).toNatClampNeg) = 0 → rWP d h0 m ad 99 Q 88 [sR (some m), sI (x1), v2, v3] [] S G) : rWP d h0 m ad 99 Q 79 [sR (some m), sI (x1), v2, v3] [] S G := by
  intro h bc bs R
  refine w_aload_n mb99 dX7_goes_79 80 rfl rfl ?_
  refine x_geta mb99 dX7_goes_80 83 rfl R lf7_99 rfl (by decide) ?_
  refine w_iload_n mb99 dX7_goes_83 84 rfl rfl ?_
  refine x_bald mb99 dX7_goes_84 85 rfl R 24 rfl (by decide) rfl h1 ?_
  refine w_if_eq mb99 dX7_goes_85 96 88 (by decide) rfl (fun z => ?_) (fun z => ?_)
  · exact K1 z h bc bs R
  · exact K2 z h bc bs R

theorem bX7_goes_88 {d : Nat} {h0 : hp} {m : Nat} {ad : Nat → Nat} {Q : Option sV → rS → rG → Prop} {S : rS} {G : rG} {x1 : Int32} {v2 : sV} {v3 : sV} {P : Option sV → rS → rG → Prop} (C : rM d h0 m ad 112 [sR (some m), sI (x1)] S G P) (K : ∀ r S1 G1, P r S1 G1 → rWP d h0 m ad 99 Q 93 [sR (some m), sI (x1), v2, v3] (r.toList ++ []) S1 G1) : rWP d h0 m ad 99 Q 88 [sR (some m), sI (x1), v2, v3] [] S G := by
  intro h bc bs R
  refine w_aload_n mb99 dX7_goes_88 89 rfl rfl ?_
  refine w_iload_n mb99 dX7_goes_89 90 rfl rfl ?_
  refine w_virtual (a := m) (c := 7) (st := []) mb99 dX7_goes_90 93 rfl 112 1 [sI (x1)] _ rfl rfl rfl lc7_233 R.2.1 (Nat.le_of_ble_eq_true rfl) (C h 0 0 R) (Nat.zero_le _) (Nat.zero_le _) (fun r h1 hP => ?_)
  obtain ⟨S1, G1, R1, hP⟩ := hP
  exact K r S1 G1 hP h1 _ _ R1

theorem bX7_goes_93 {d : Nat} {h0 : hp} {m : Nat} {ad : Nat → Nat} {Q : Option sV → rS → rG → Prop} {S : rS} {G : rG} {v1 : sV} {v2 : sV} {v3 : sV} (K : rWP d h0 m ad 99 Q 101 [sR (some m), v1, v2, v3] [] S G) : rWP d h0 m ad 99 Q 93 [sR (some m), v1, v2, v3] [] S G := by
  intro h bc bs R
  refine w_goto mb99 dX7_goes_93 101 (by decide) ?_
  exact K h bc bs R

theorem bX7_goes_96 {d : Nat} {h0 : hp} {m : Nat} {ad : Nat → Nat} {Q : Option sV → rS → rG → Prop} {S : rS} {G : rG} {x1 : Int32} {v2 : sV} {v3 : sV} {P : Option sV → rS → rG → Prop} (C : rM d h0 m ad 102 [sR (some m), sI (x1)] S G P) (K : ∀ r S1 G1, P r S1 G1 → rWP d h0 m ad 99 Q 101 [sR (some m), sI (x1), v2, v3] (r.toList ++ []) S1 G1) : rWP d h0 m ad 99 Q 96 [sR (some m), sI (x1), v2, v3] [] S G := by
  intro h bc bs R
  refine w_aload_n mb99 dX7_goes_96 97 rfl rfl ?_
  refine w_iload_n mb99 dX7_goes_97 98 rfl rfl ?_
  refine w_virtual (a := m) (c := 7) (st := []) mb99 dX7_goes_98 101 rfl 102 1 [sI (x1)] _ rfl rfl rfl lc7_236 R.2.1 (Nat.le_of_ble_eq_true rfl) (C h 0 0 R) (Nat.zero_le _) (Nat.zero_le _) (fun r h1 hP => ?_)
  obtain ⟨S1, G1, R1, hP⟩ := hP
  exact K r S1 G1 hP h1 _ _ R1

theorem bX7_goes_101 {d : Nat} {h0 : hp} {m : Nat} {ad : Nat → Nat} {Q : Option sV → rS → rG → Prop} {S : rS} {G : rG} {v1 : sV} {v2 : sV} {v3 : sV} (K : Q (none) S G) : rWP d h0 m ad 99 Q 101 [sR (some m), v1, v2, v3] [] S G := by
  intro h bc bs R
  refine w_vret mb99 dX7_goes_101 rfl ?_
  exact ⟨_, _, R, K⟩

theorem bX7_goes_102 {d : Nat} {h0 : hp} {m : Nat} {ad : Nat → Nat} {Q : Option sV → rS → rG → Prop} {S : rS} {G : rG} {v1 : sV} {v2 : sV} {x3 : Int32} {P : Option sV → rS → rG → Prop} (C : rM d h0 m ad 93 [sR (some m), sI (x3)] S G P) (K : ∀ r S1 G1, P r S1 G1 → rWP d h0 m ad 99 Q 107 [sR (some m), v1, v2, sI (x3)] (r.toList ++ []) S1 G1) : rWP d h0 m ad 99 Q 102 [sR (some m), v1, v2, sI (x3)] [] S G := by
  intro h bc bs R
  refine w_aload_n mb99 dX7_goes_102 103 rfl rfl ?_
  refine w_iload_n mb99 dX7_goes_103 104 rfl rfl ?_
  refine w_virtual (a := m) (c := 7) (st := []) mb99 dX7_goes_104 107 rfl 93 1 [sI (x3)] _ rfl rfl rfl lc7_239 R.2.1 (Nat.le_of_ble_eq_true rfl) (C h 0 0 R) (Nat.zero_le _) (Nat.zero_le _) (fun r h1 hP => ?_)
  obtain ⟨S1, G1, R1, hP⟩ := hP
  exact K r S1 G1 hP h1 _ _ R1

theorem bX7_goes_107 {d : Nat} {h0 : hp} {m : Nat} {ad : Nat → Nat} {Q : Option sV → rS → rG → Prop} {S : rS} {G : rG} {v1 : sV} {v2 : sV} {v3 : sV} {y0 : Int32} (K1 : ¬ (y0) = 0 → rWP d h0 m ad 99 Q 111 [sR (some m), v1, v2, v3] [] S G) (K2 : (y0) = 0 → rWP d h0 m ad 99 Q 110 [sR (some m), v1, v2, v3] [] S G) : rWP d h0 m ad 99 Q 107 [sR (some m), v1, v2, v3] [sI (y0)] S G := by
  intro h bc bs R
  refine w_if_ne mb99 dX7_goes_107 111 110 (by decide) rfl (fun z => ?_) (fun z => ?_)
  · exact K1 z h bc bs R
  · exact K2 z h bc bs R

theorem bX7_goes_110 {d : Nat} {h0 : hp} {m : Nat} {ad : Nat → Nat} {Q : Option sV → rS → rG → Prop} {S : rS} {G : rG} {v1 : sV} {v2 : sV} {v3 : sV} (K : Q (none) S G) : rWP d h0 m ad 99 Q 110 [sR (some m), v1, v2, v3] [] S G := by
  intro h bc bs R
  refine w_vret mb99 dX7_goes_110 rfl ?_
  exact ⟨_, _, R, K⟩

theorem bX7_goes_111 {d : Nat} {h0 : hp} {m : Nat} {ad : Nat → Nat} {Q : Option sV → rS → rG → Prop} {S : rS} {G : rG} {x1 : Int32} {v2 : sV} {v3 : sV} (h1 : vp_in (x1) 24) (K1 : ¬ ((G 31) (x1).toNatClampNeg) = 0 → rWP d h0 m ad 99 Q 130 [sR (some m), sI (x1), v2, v3] [] S G) (K2 : ((G 31) (x1).toNatClampNeg) = 0 → rWP d h0 m ad 99 Q 120 [sR (some m), sI (x1), v2, v3] [] S G) : rWP d h0 m ad 99 Q 111 [sR (some m), sI (x1), v2, v3] [] S G := by
  intro h bc bs R
  refine w_aload_n mb99 dX7_goes_111 112 rfl rfl ?_
  refine x_geta mb99 dX7_goes_112 115 rfl R lf7_99 rfl (by decide) ?_
  refine w_iload_n mb99 dX7_goes_115 116 rfl rfl ?_
  refine x_bald mb99 dX7_goes_116 117 rfl R 24 rfl (by decide) rfl h1 ?_
  refine w_if_ne mb99 dX7_goes_117 130 120 (by decide) rfl (fun z => ?_) (fun z => ?_)
  · exact K1 z h bc bs R
  · exact K2 z h bc bs R

theorem bX7_goes_120 {d : Nat} {h0 : hp} {m : Nat} {ad : Nat → Nat} {Q : Option sV → rS → rG → Prop} {S : rS} {G : rG} {v1 : sV} {v2 : sV} {v3 : sV} (K : rWP d h0 m ad 99 Q 130 [sR (some m), v1, v2, v3] [] (va_up S 53 ((S 53) + (1))) G) : rWP d h0 m ad 99 Q 120 [sR (some m), v1, v2, v3] [] S G := by
  intro h bc bs R
  refine w_aload_n mb99 dX7_goes_120 121 rfl rfl ?_
  refine w_dup mb99 dX7_goes_121 122 rfl rfl ?_
  refine x_geti mb99 dX7_goes_122 125 rfl R lf7_242 rfl ?_
  refine w_iconst mb99 dX7_goes_125 126 rfl (1) (by decide) ?_
  refine w_iadd mb99 dX7_goes_126 127 rfl ?_
  refine x_puti mb99 dX7_goes_127 130 rfl R (lp7_242 _) rfl (fun h R => ?_)
  exact K h bc bs R

theorem bX7_goes_130 {d : Nat} {h0 : hp} {m : Nat} {ad : Nat → Nat} {Q : Option sV → rS → rG → Prop} {S : rS} {G : rG} {v1 : sV} {x2 : Int32} {v3 : sV} (h1 : vp_in (x2) 24) (K1 : ((G 26) (x2).toNatClampNeg) = 0 → rWP d h0 m ad 99 Q 176 [sR (some m), v1, sI (x2), v3] [] S G) (K2 : ¬ ((G 26) (x2).toNatClampNeg) = 0 → rWP d h0 m ad 99 Q 139 [sR (some m), v1, sI (x2), v3] [] S G) : rWP d h0 m ad 99 Q 130 [sR (some m), v1, sI (x2), v3] [] S G := by
  intro h bc bs R
  refine w_aload_n mb99 dX7_goes_130 131 rfl rfl ?_
  refine x_geta mb99 dX7_goes_131 134 rfl R lf7_87 rfl (by decide) ?_
  refine w_iload_n mb99 dX7_goes_134 135 rfl rfl ?_
  refine x_bald mb99 dX7_goes_135 136 rfl R 24 rfl (by decide) rfl h1 ?_
  refine w_if_eq mb99 dX7_goes_136 176 139 (by decide) rfl (fun z => ?_) (fun z => ?_)
  · exact K1 z h bc bs R
  · exact K2 z h bc bs R

theorem bX7_goes_139 {d : Nat} {h0 : hp} {m : Nat} {ad : Nat → Nat} {Q : Option sV → rS → rG → Prop} {S : rS} {G : rG} {v1 : sV} {x2 : Int32} {v3 : sV} (h1 : vp_in (x2) 24) {P : Option sV → rS → rG → Prop} (C : rM d h0 m ad 95 [sI ((G 23) (x2).toNatClampNeg)] S (gup (gup G 19 (x2).toNatClampNeg (0)) 20 (x2).toNatClampNeg (3)) P) (K : ∀ r S1 G1, P r S1 G1 → rWP d h0 m ad 99 Q 167 [sR (some m), v1, sI (x2), v3] (r.toList ++ [sI (x2), sR (some (ad 21))]) S1 G1) : rWP d h0 m ad 99 Q 139 [sR (some m), v1, sI (x2), v3] [] S G := by
  intro h bc bs R
  refine w_aload_n mb99 dX7_goes_139 140 rfl rfl ?_
  refine x_geta mb99 dX7_goes_140 143 rfl R lf7_66 rfl (by decide) ?_
  refine w_iload_n mb99 dX7_goes_143 144 rfl rfl ?_
  refine w_iconst mb99 dX7_goes_144 145 rfl (0) (by decide) ?_
  refine x_iast mb99 dX7_goes_145 146 rfl R 24 rfl (by decide) rfl h1 (fun h R => ?_)
  refine w_aload_n mb99 dX7_goes_146 147 rfl rfl ?_
  refine x_geta mb99 dX7_goes_147 150 rfl R lf7_69 rfl (by decide) ?_
  refine w_iload_n mb99 dX7_goes_150 151 rfl rfl ?_
  refine w_iconst mb99 dX7_goes_151 152 rfl (3) (by decide) ?_
  refine x_iast mb99 dX7_goes_152 153 rfl R 24 rfl (by decide) rfl h1 (fun h R => ?_)
  refine w_aload_n mb99 dX7_goes_153 154 rfl rfl ?_
  refine x_geta mb99 dX7_goes_154 157 rfl R lf7_72 rfl (by decide) ?_
  refine w_iload_n mb99 dX7_goes_157 158 rfl rfl ?_
  refine w_aload_n mb99 dX7_goes_158 159 rfl rfl ?_
  refine x_geta mb99 dX7_goes_159 162 rfl R lf7_78 rfl (by decide) ?_
  refine w_iload_n mb99 dX7_goes_162 163 rfl rfl ?_
  refine x_iald mb99 dX7_goes_163 164 rfl R 24 rfl (by decide) rfl h1 ?_
  refine w_static (st := [sI (x2), sR (some (ad 21))]) mb99 dX7_goes_164 167 rfl 95 1 [sI ((G 23) (x2).toNatClampNeg)] _ rfl rfl rfl lc7_205 (Nat.le_of_ble_eq_true rfl) (C h 0 0 R) (Nat.zero_le _) (Nat.zero_le _) (fun r h1 hP => ?_)
  obtain ⟨S1, G1, R1, hP⟩ := hP
  exact K r S1 G1 hP h1 _ _ R1

theorem bX7_goes_167 {d : Nat} {h0 : hp} {m : Nat} {ad : Nat → Nat} {Q : Option sV → rS → rG → Prop} {S : rS} {G : rG} {v1 : sV} {x2 : Int32} {v3 : sV} {y1 : Int32} {y2 : Int32} (h1 : vp_in (y1) 24) {P : Option sV → rS → rG → Prop} (C : rM d h0 m ad 97 [sR (some m), sI (x2)] S (gup G 21 (y1).toNatClampNeg (y2)) P) (K : ∀ r S1 G1, P r S1 G1 → rWP d h0 m ad 99 Q 173 [sR (some m), v1, sI (x2), v3] (r.toList ++ []) S1 G1) : rWP d h0 m ad 99 Q 167 [sR (some m), v1, sI (x2), v3] [sI (y2), sI (y1), sR (some (ad 21))] S G := by
  intro h bc bs R
  refine x_iast mb99 dX7_goes_167 168 rfl R 24 rfl (by decide) rfl h1 (fun h R => ?_)
  refine w_aload_n mb99 dX7_goes_168 169 rfl rfl ?_
  refine w_iload_n mb99 dX7_goes_169 170 rfl rfl ?_
  refine w_virtual (a := m) (c := 7) (st := []) mb99 dX7_goes_170 173 rfl 97 1 [sI (x2)] _ rfl rfl rfl lc7_245 R.2.1 (Nat.le_of_ble_eq_true rfl) (C h 0 0 R) (Nat.zero_le _) (Nat.zero_le _) (fun r h1 hP => ?_)
  obtain ⟨S1, G1, R1, hP⟩ := hP
  exact K r S1 G1 hP h1 _ _ R1

theorem bX7_goes_173 {d : Nat} {h0 : hp} {m : Nat} {ad : Nat → Nat} {Q : Option sV → rS → rG → Prop} {S : rS} {G : rG} {v1 : sV} {v2 : sV} {v3 : sV} (K : rWP d h0 m ad 99 Q 199 [sR (some m), v1, v2, v3] [] S G) : rWP d h0 m ad 99 Q 173 [sR (some m), v1, v2, v3] [] S G := by
  intro h bc bs R
  refine w_goto mb99 dX7_goes_173 199 (by decide) ?_
  exact K h bc bs R

theorem bX7_goes_176 {d : Nat} {h0 : hp} {m : Nat} {ad : Nat → Nat} {Q : Option sV → rS → rG → Prop} {S : rS} {G : rG} {x1 : Int32} {v2 : sV} {v3 : sV} (h1 : vp_in (x1) 24) (K1 : ((G 31) (x1).toNatClampNeg) = 0 → rWP d h0 m ad 99 Q 194 [sR (some m), sI (x1), v2, v3] [] S G) (K2 : ¬ ((G 31) (x1).toNatClampNeg) = 0 → rWP d h0 m ad 99 Q 185 [sR (some m), sI (x1), v2, v3] [] S G) : rWP d h0 m ad 99 Q 176 [sR (some m), sI (x1), v2, v3] [] S G := by
  intro h bc bs R
  refine w_aload_n mb99 dX7_goes_176 177 rfl rfl ?_
  refine x_geta mb99 dX7_goes_177 180 rfl R lf7_99 rfl (by decide) ?_
  refine w_iload_n mb99 dX7_goes_180 181 rfl rfl ?_
  refine x_bald mb99 dX7_goes_181 182 rfl R 24 rfl (by decide) rfl h1 ?_
  refine w_if_eq mb99 dX7_goes_182 194 185 (by decide) rfl (fun z => ?_) (fun z => ?_)
  · exact K1 z h bc bs R
  · exact K2 z h bc bs R

theorem bX7_goes_185 {d : Nat} {h0 : hp} {m : Nat} {ad : Nat → Nat} {Q : Option sV → rS → rG → Prop} {S : rS} {G : rG} {x1 : Int32} {v2 : sV} {x3 : Int32} {P : Option sV → rS → rG → Prop} (C : rM d h0 m ad 109 [sR (some m), sI (x1), sI (x3)] S G P) (K : ∀ r S1 G1, P r S1 G1 → rWP d h0 m ad 99 Q 191 [sR (some m), sI (x1), v2, sI (x3)] (r.toList ++ []) S1 G1) : rWP d h0 m ad 99 Q 185 [sR (some m), sI (x1), v2, sI (x3)] [] S G := by
  intro h bc bs R
  refine w_aload_n mb99 dX7_goes_185 186 rfl rfl ?_
  refine w_iload_n mb99 dX7_goes_186 187 rfl rfl ?_
  refine w_iload_n mb99 dX7_goes_187 188 rfl rfl ?_
  refine w_virtual (a := m) (c := 7) (st := []) mb99 dX7_goes_188 191 rfl 109 2 [sI (x1), sI (x3)] _ rfl rfl rfl lc7_248 R.2.1 (Nat.le_of_ble_eq_true rfl) (C h 0 0 R) (Nat.zero_le _) (Nat.zero_le _) (fun r h1 hP => ?_)
  obtain ⟨S1, G1, R1, hP⟩ := hP
  exact K r S1 G1 hP h1 _ _ R1

theorem bX7_goes_191 {d : Nat} {h0 : hp} {m : Nat} {ad : Nat → Nat} {Q : Option sV → rS → rG → Prop} {S : rS} {G : rG} {v1 : sV} {v2 : sV} {v3 : sV} (K : rWP d h0 m ad 99 Q 199 [sR (some m), v1, v2, v3] [] S G) : rWP d h0 m ad 99 Q 191 [sR (some m), v1, v2, v3] [] S G := by
  intro h bc bs R
  refine w_goto mb99 dX7_goes_191 199 (by decide) ?_
  exact K h bc bs R

theorem bX7_goes_194 {d : Nat} {h0 : hp} {m : Nat} {ad : Nat → Nat} {Q : Option sV → rS → rG → Prop} {S : rS} {G : rG} {x1 : Int32} {v2 : sV} {v3 : sV} {P : Option sV → rS → rG → Prop} (C : rM d h0 m ad 101 [sR (some m), sI (x1)] S G P) (K : ∀ r S1 G1, P r S1 G1 → rWP d h0 m ad 99 Q 199 [sR (some m), sI (x1), v2, v3] (r.toList ++ []) S1 G1) : rWP d h0 m ad 99 Q 194 [sR (some m), sI (x1), v2, v3] [] S G := by
  intro h bc bs R
  refine w_aload_n mb99 dX7_goes_194 195 rfl rfl ?_
  refine w_iload_n mb99 dX7_goes_195 196 rfl rfl ?_
  refine w_virtual (a := m) (c := 7) (st := []) mb99 dX7_goes_196 199 rfl 101 1 [sI (x1)] _ rfl rfl rfl lc7_251 R.2.1 (Nat.le_of_ble_eq_true rfl) (C h 0 0 R) (Nat.zero_le _) (Nat.zero_le _) (fun r h1 hP => ?_)
  obtain ⟨S1, G1, R1, hP⟩ := hP
  exact K r S1 G1 hP h1 _ _ R1

theorem bX7_goes_199 {d : Nat} {h0 : hp} {m : Nat} {ad : Nat → Nat} {Q : Option sV → rS → rG → Prop} {S : rS} {G : rG} {v1 : sV} {v2 : sV} {v3 : sV} (K : Q (none) S G) : rWP d h0 m ad 99 Q 199 [sR (some m), v1, v2, v3] [] S G := by
  intro h bc bs R
  refine w_vret mb99 dX7_goes_199 rfl ?_
  exact ⟨_, _, R, K⟩

theorem bX7_nextOld_0 {d : Nat} {h0 : hp} {m : Nat} {ad : Nat → Nat} {Q : Option sV → rS → rG → Prop} {S : rS} {G : rG} {x1 : Int32} {v2 : sV} (h1 : vp_in (x1) 24) {P : Option sV → rS → rG → Prop} (C : rM d h0 m ad 90 [sR (some m), sI ((G 28) (x1).toNatClampNeg), sI ((G 29) (x1).toNatClampNeg)] S G P) (K : ∀ r S1 G1, P r S1 G1 → rWP d h0 m ad 100 Q 16 [sR (some m), sI (x1), v2] (r.toList ++ []) S1 G1) : rWP d h0 m ad 100 Q 0 [sR (some m), sI (x1), v2] [] S G := by
  intro h bc bs R
  refine w_aload_n mb100 dX7_nextOld_0 1 rfl rfl ?_
  refine w_aload_n mb100 dX7_nextOld_1 2 rfl rfl ?_
  refine x_geta mb100 dX7_nextOld_2 5 rfl R lf7_90 rfl (by decide) ?_
  refine w_iload_n mb100 dX7_nextOld_5 6 rfl rfl ?_
  refine x_iald mb100 dX7_nextOld_6 7 rfl R 24 rfl (by decide) rfl h1 ?_
  refine w_aload_n mb100 dX7_nextOld_7 8 rfl rfl ?_
  refine x_geta mb100 dX7_nextOld_8 11 rfl R lf7_93 rfl (by decide) ?_
  refine w_iload_n mb100 dX7_nextOld_11 12 rfl rfl ?_
  refine x_iald mb100 dX7_nextOld_12 13 rfl R 24 rfl (by decide) rfl h1 ?_
  refine w_virtual (a := m) (c := 7) (st := []) mb100 dX7_nextOld_13 16 rfl 90 2 [sI ((G 28) (x1).toNatClampNeg), sI ((G 29) (x1).toNatClampNeg)] _ rfl rfl rfl lc7_174 R.2.1 (Nat.le_of_ble_eq_true rfl) (C h 0 0 R) (Nat.zero_le _) (Nat.zero_le _) (fun r h1 hP => ?_)
  obtain ⟨S1, G1, R1, hP⟩ := hP
  exact K r S1 G1 hP h1 _ _ R1

theorem bX7_nextOld_16 {d : Nat} {h0 : hp} {m : Nat} {ad : Nat → Nat} {Q : Option sV → rS → rG → Prop} {S : rS} {G : rG} {x1 : Int32} {v2 : sV} {y0 : Int32} (h1 : vp_in (x1) 24) (h2 : vp_in (y0) 96) (K1 : ((G 9) (y0).toNatClampNeg) ≤ ((G 30) (x1).toNatClampNeg) → rWP d h0 m ad 100 Q 51 [sR (some m), sI (x1), sI (y0)] [] S G) (K2 : ¬ ((G 9) (y0).toNatClampNeg) ≤ ((G 30) (x1).toNatClampNeg) → rWP d h0 m ad 100 Q 32 [sR (some m), sI (x1), sI (y0)] [] S G) : rWP d h0 m ad 100 Q 16 [sR (some m), sI (x1), v2] [sI (y0)] S G := by
  intro h bc bs R
  refine w_istore_n mb100 dX7_nextOld_16 17 rfl [sR (some m), sI (x1), sI (y0)] (Nat.le_of_ble_eq_true rfl) rfl ?_
  refine w_aload_n mb100 dX7_nextOld_17 18 rfl rfl ?_
  refine x_geta mb100 dX7_nextOld_18 21 rfl R lf7_96 rfl (by decide) ?_
  refine w_iload_n mb100 dX7_nextOld_21 22 rfl rfl ?_
  refine x_iald mb100 dX7_nextOld_22 23 rfl R 24 rfl (by decide) rfl h1 ?_
  refine w_aload_n mb100 dX7_nextOld_23 24 rfl rfl ?_
  refine x_geta mb100 dX7_nextOld_24 27 rfl R lf7_35 rfl (by decide) ?_
  refine w_iload_n mb100 dX7_nextOld_27 28 rfl rfl ?_
  refine x_iald mb100 dX7_nextOld_28 29 rfl R 96 rfl (by decide) rfl h2 ?_
  refine w_icmp_ge mb100 dX7_nextOld_29 51 32 (by decide) rfl (fun z => ?_) (fun z => ?_)
  · exact K1 z h bc bs R
  · exact K2 z h bc bs R

theorem bX7_nextOld_32 {d : Nat} {h0 : hp} {m : Nat} {ad : Nat → Nat} {Q : Option sV → rS → rG → Prop} {S : rS} {G : rG} {x1 : Int32} {x2 : Int32} (h1 : vp_in (x1) 24) (h2 : vp_in (((25) * (x2)) + ((G 30) (x1).toNatClampNeg)) 2400) (K : rWP d h0 m ad 100 Q 52 [sR (some m), sI (x1), sI (x2)] [sI ((G 14) (((25) * (x2)) + ((G 30) (x1).toNatClampNeg)).toNatClampNeg)] S G) : rWP d h0 m ad 100 Q 32 [sR (some m), sI (x1), sI (x2)] [] S G := by
  intro h bc bs R
  refine w_aload_n mb100 dX7_nextOld_32 33 rfl rfl ?_
  refine x_geta mb100 dX7_nextOld_33 36 rfl R lf7_50 rfl (by decide) ?_
  refine w_bipush mb100 dX7_nextOld_36 38 rfl (25) (by decide) ?_
  refine w_iload_n mb100 dX7_nextOld_38 39 rfl rfl ?_
  refine w_imul mb100 dX7_nextOld_39 40 rfl ?_
  refine w_aload_n mb100 dX7_nextOld_40 41 rfl rfl ?_
  refine x_geta mb100 dX7_nextOld_41 44 rfl R lf7_96 rfl (by decide) ?_
  refine w_iload_n mb100 dX7_nextOld_44 45 rfl rfl ?_
  refine x_iald mb100 dX7_nextOld_45 46 rfl R 24 rfl (by decide) rfl h1 ?_
  refine w_iadd mb100 dX7_nextOld_46 47 rfl ?_
  refine x_iald mb100 dX7_nextOld_47 48 rfl R 2400 rfl (by decide) rfl h2 ?_
  refine w_goto mb100 dX7_nextOld_48 52 (by decide) ?_
  exact K h bc bs R

theorem bX7_nextOld_51 {d : Nat} {h0 : hp} {m : Nat} {ad : Nat → Nat} {Q : Option sV → rS → rG → Prop} {S : rS} {G : rG} {v1 : sV} {v2 : sV} (K : rWP d h0 m ad 100 Q 52 [sR (some m), v1, v2] [sI ((-1))] S G) : rWP d h0 m ad 100 Q 51 [sR (some m), v1, v2] [] S G := by
  intro h bc bs R
  refine w_iconst mb100 dX7_nextOld_51 52 rfl ((-1)) (by decide) ?_
  exact K h bc bs R

theorem bX7_nextOld_52 {d : Nat} {h0 : hp} {m : Nat} {ad : Nat → Nat} {Q : Option sV → rS → rG → Prop} {S : rS} {G : rG} {v1 : sV} {v2 : sV} {y0 : Int32} (K : Q (some (sI (y0))) S G) : rWP d h0 m ad 100 Q 52 [sR (some m), v1, v2] [sI (y0)] S G := by
  intro h bc bs R
  refine w_iret mb100 dX7_nextOld_52 rfl ?_
  exact ⟨_, _, R, K⟩

theorem bX7_compares_0 {d : Nat} {h0 : hp} {m : Nat} {ad : Nat → Nat} {Q : Option sV → rS → rG → Prop} {S : rS} {G : rG} {x1 : Int32} {v2 : sV} {v3 : sV} {v4 : sV} {v5 : sV} (h1 : vp_in (x1) 24) {P : Option sV → rS → rG → Prop} (C : rM d h0 m ad 90 [sR (some m), sI ((G 28) (x1).toNatClampNeg), sI ((G 29) (x1).toNatClampNeg)] S G P) (K : ∀ r S1 G1, P r S1 G1 → rWP d h0 m ad 101 Q 20 [sR (some m), sI (x1), sI ((G 28) (x1).toNatClampNeg), v3, v4, v5] (r.toList ++ [sI (25)]) S1 G1) : rWP d h0 m ad 101 Q 0 [sR (some m), sI (x1), v2, v3, v4, v5] [] S G := by
  intro h bc bs R
  refine w_aload_n mb101 dX7_compares_0 1 rfl rfl ?_
  refine x_geta mb101 dX7_compares_1 4 rfl R lf7_90 rfl (by decide) ?_
  refine w_iload_n mb101 dX7_compares_4 5 rfl rfl ?_
  refine x_iald mb101 dX7_compares_5 6 rfl R 24 rfl (by decide) rfl h1 ?_
  refine w_istore_n mb101 dX7_compares_6 7 rfl [sR (some m), sI (x1), sI ((G 28) (x1).toNatClampNeg), v3, v4, v5] (Nat.le_of_ble_eq_true rfl) rfl ?_
  refine w_bipush mb101 dX7_compares_7 9 rfl (25) (by decide) ?_
  refine w_aload_n mb101 dX7_compares_9 10 rfl rfl ?_
  refine w_iload_n mb101 dX7_compares_10 11 rfl rfl ?_
  refine w_aload_n mb101 dX7_compares_11 12 rfl rfl ?_
  refine x_geta mb101 dX7_compares_12 15 rfl R lf7_93 rfl (by decide) ?_
  refine w_iload_n mb101 dX7_compares_15 16 rfl rfl ?_
  refine x_iald mb101 dX7_compares_16 17 rfl R 24 rfl (by decide) rfl h1 ?_
  refine w_virtual (a := m) (c := 7) (st := [sI (25)]) mb101 dX7_compares_17 20 rfl 90 2 [sI ((G 28) (x1).toNatClampNeg), sI ((G 29) (x1).toNatClampNeg)] _ rfl rfl rfl lc7_174 R.2.1 (Nat.le_of_ble_eq_true rfl) (C h 0 0 R) (Nat.zero_le _) (Nat.zero_le _) (fun r h1 hP => ?_)
  obtain ⟨S1, G1, R1, hP⟩ := hP
  exact K r S1 G1 hP h1 _ _ R1

theorem bX7_compares_20 {d : Nat} {h0 : hp} {m : Nat} {ad : Nat → Nat} {Q : Option sV → rS → rG → Prop} {S : rS} {G : rG} {x1 : Int32} {v2 : sV} {v3 : sV} {v4 : sV} {v5 : sV} {y0 : Int32} {y1 : Int32} (h1 : vp_in (x1) 24) (h2 : vp_in (((y0) * (y1)) + ((G 30) (x1).toNatClampNeg)) 2400) (K1 : ¬ ((G 15) (((y0) * (y1)) + ((G 30) (x1).toNatClampNeg)).toNatClampNeg) = (S 44) → rWP d h0 m ad 101 Q 72 [sR (some m), sI (x1), v2, sI (((y0) * (y1)) + ((G 30) (x1).toNatClampNeg)), v4, v5] [] S G) (K2 : ((G 15) (((y0) * (y1)) + ((G 30) (x1).toNatClampNeg)).toNatClampNeg) = (S 44) → rWP d h0 m ad 101 Q 42 [sR (some m), sI (x1), v2, sI (((y0) * (y1)) + ((G 30) (x1).toNatClampNeg)), v4, v5] [] S G) : rWP d h0 m ad 101 Q 20 [sR (some m), sI (x1), v2, v3, v4, v5] [sI (y1), sI (y0)] S G := by
  intro h bc bs R
  refine w_imul mb101 dX7_compares_20 21 rfl ?_
  refine w_aload_n mb101 dX7_compares_21 22 rfl rfl ?_
  refine x_geta mb101 dX7_compares_22 25 rfl R lf7_96 rfl (by decide) ?_
  refine w_iload_n mb101 dX7_compares_25 26 rfl rfl ?_
  refine x_iald mb101 dX7_compares_26 27 rfl R 24 rfl (by decide) rfl h1 ?_
  refine w_iadd mb101 dX7_compares_27 28 rfl ?_
  refine w_istore_n mb101 dX7_compares_28 29 rfl [sR (some m), sI (x1), v2, sI (((y0) * (y1)) + ((G 30) (x1).toNatClampNeg)), v4, v5] (Nat.le_of_ble_eq_true rfl) rfl ?_
  refine w_aload_n mb101 dX7_compares_29 30 rfl rfl ?_
  refine x_geta mb101 dX7_compares_30 33 rfl R lf7_53 rfl (by decide) ?_
  refine w_iload_n mb101 dX7_compares_33 34 rfl rfl ?_
  refine x_iald mb101 dX7_compares_34 35 rfl R 2400 rfl (by decide) rfl h2 ?_
  refine w_aload_n mb101 dX7_compares_35 36 rfl rfl ?_
  refine x_geti mb101 dX7_compares_36 39 rfl R lf7_178 rfl ?_
  refine w_icmp_ne mb101 dX7_compares_39 72 42 (by decide) rfl (fun z => ?_) (fun z => ?_)
  · exact K1 z h bc bs R
  · exact K2 z h bc bs R

theorem bX7_compares_42 {d : Nat} {h0 : hp} {m : Nat} {ad : Nat → Nat} {Q : Option sV → rS → rG → Prop} {S : rS} {G : rG} {v1 : sV} {v2 : sV} {x3 : Int32} {v4 : sV} {v5 : sV} (h1 : vp_in (x3) 2400) (K1 : ¬ ((G 16) (x3).toNatClampNeg) = (S 45) → rWP d h0 m ad 101 Q 72 [sR (some m), v1, v2, sI (x3), v4, v5] [] S G) (K2 : ((G 16) (x3).toNatClampNeg) = (S 45) → rWP d h0 m ad 101 Q 55 [sR (some m), v1, v2, sI (x3), v4, v5] [] S G) : rWP d h0 m ad 101 Q 42 [sR (some m), v1, v2, sI (x3), v4, v5] [] S G := by
  intro h bc bs R
  refine w_aload_n mb101 dX7_compares_42 43 rfl rfl ?_
  refine x_geta mb101 dX7_compares_43 46 rfl R lf7_56 rfl (by decide) ?_
  refine w_iload_n mb101 dX7_compares_46 47 rfl rfl ?_
  refine x_iald mb101 dX7_compares_47 48 rfl R 2400 rfl (by decide) rfl h1 ?_
  refine w_aload_n mb101 dX7_compares_48 49 rfl rfl ?_
  refine x_geti mb101 dX7_compares_49 52 rfl R lf7_181 rfl ?_
  refine w_icmp_ne mb101 dX7_compares_52 72 55 (by decide) rfl (fun z => ?_) (fun z => ?_)
  · exact K1 z h bc bs R
  · exact K2 z h bc bs R

theorem bX7_compares_55 {d : Nat} {h0 : hp} {m : Nat} {ad : Nat → Nat} {Q : Option sV → rS → rG → Prop} {S : rS} {G : rG} {v1 : sV} {v2 : sV} {x3 : Int32} {v4 : sV} {v5 : sV} (h1 : vp_in (x3) 2400) (K1 : ¬ ((G 17) (x3).toNatClampNeg) = (S 46) → rWP d h0 m ad 101 Q 72 [sR (some m), v1, v2, sI (x3), v4, v5] [] S G) (K2 : ((G 17) (x3).toNatClampNeg) = (S 46) → rWP d h0 m ad 101 Q 68 [sR (some m), v1, v2, sI (x3), v4, v5] [] S G) : rWP d h0 m ad 101 Q 55 [sR (some m), v1, v2, sI (x3), v4, v5] [] S G := by
  intro h bc bs R
  refine w_aload_n mb101 dX7_compares_55 56 rfl rfl ?_
  refine x_geta mb101 dX7_compares_56 59 rfl R lf7_59 rfl (by decide) ?_
  refine w_iload_n mb101 dX7_compares_59 60 rfl rfl ?_
  refine x_iald mb101 dX7_compares_60 61 rfl R 2400 rfl (by decide) rfl h1 ?_
  refine w_aload_n mb101 dX7_compares_61 62 rfl rfl ?_
  refine x_geti mb101 dX7_compares_62 65 rfl R lf7_184 rfl ?_
  refine w_icmp_ne mb101 dX7_compares_65 72 68 (by decide) rfl (fun z => ?_) (fun z => ?_)
  · exact K1 z h bc bs R
  · exact K2 z h bc bs R

theorem bX7_compares_68 {d : Nat} {h0 : hp} {m : Nat} {ad : Nat → Nat} {Q : Option sV → rS → rG → Prop} {S : rS} {G : rG} {v1 : sV} {v2 : sV} {v3 : sV} {v4 : sV} {v5 : sV} (K : rWP d h0 m ad 101 Q 73 [sR (some m), v1, v2, v3, v4, v5] [sI (1)] S G) : rWP d h0 m ad 101 Q 68 [sR (some m), v1, v2, v3, v4, v5] [] S G := by
  intro h bc bs R
  refine w_iconst mb101 dX7_compares_68 69 rfl (1) (by decide) ?_
  refine w_goto mb101 dX7_compares_69 73 (by decide) ?_
  exact K h bc bs R

theorem bX7_compares_72 {d : Nat} {h0 : hp} {m : Nat} {ad : Nat → Nat} {Q : Option sV → rS → rG → Prop} {S : rS} {G : rG} {v1 : sV} {v2 : sV} {v3 : sV} {v4 : sV} {v5 : sV} (K : rWP d h0 m ad 101 Q 73 [sR (some m), v1, v2, v3, v4, v5] [sI (0)] S G) : rWP d h0 m ad 101 Q 72 [sR (some m), v1, v2, v3, v4, v5] [] S G := by
  intro h bc bs R
  refine w_iconst mb101 dX7_compares_72 73 rfl (0) (by decide) ?_
  exact K h bc bs R

theorem bX7_compares_73 {d : Nat} {h0 : hp} {m : Nat} {ad : Nat → Nat} {Q : Option sV → rS → rG → Prop} {S : rS} {G : rG} {v1 : sV} {v2 : sV} {v3 : sV} {v4 : sV} {v5 : sV} {y0 : Int32} (K : rWP d h0 m ad 101 Q 78 [sR (some m), v1, v2, v3, sI (y0), sI (0)] [] S G) : rWP d h0 m ad 101 Q 73 [sR (some m), v1, v2, v3, v4, v5] [sI (y0)] S G := by
  intro h bc bs R
  refine w_istore mb101 dX7_compares_73 75 rfl [sR (some m), v1, v2, v3, sI (y0), v5] (Nat.le_of_ble_eq_true rfl) rfl ?_
  refine w_iconst mb101 dX7_compares_75 76 rfl (0) (by decide) ?_
  refine w_istore mb101 dX7_compares_76 78 rfl [sR (some m), v1, v2, v3, sI (y0), sI (0)] (Nat.le_of_ble_eq_true rfl) rfl ?_
  exact K h bc bs R

theorem bX7_compares_78 {d : Nat} {h0 : hp} {m : Nat} {ad : Nat → Nat} {Q : Option sV → rS → rG → Prop} {S : rS} {G : rG} {v1 : sV} {v2 : sV} {v3 : sV} {v4 : sV} {x5 : Int32} (K1 : (S 44) ≤ (x5) → rWP d h0 m ad 101 Q 127 [sR (some m), v1, v2, v3, v4, sI (x5)] [] S G) (K2 : ¬ (S 44) ≤ (x5) → rWP d h0 m ad 101 Q 87 [sR (some m), v1, v2, v3, v4, sI (x5)] [] S G) : rWP d h0 m ad 101 Q 78 [sR (some m), v1, v2, v3, v4, sI (x5)] [] S G := by
  intro h bc bs R
  refine w_iload mb101 dX7_compares_78 80 rfl rfl ?_
  refine w_aload_n mb101 dX7_compares_80 81 rfl rfl ?_
  refine x_geti mb101 dX7_compares_81 84 rfl R lf7_178 rfl ?_
  refine w_icmp_ge mb101 dX7_compares_84 127 87 (by decide) rfl (fun z => ?_) (fun z => ?_)
  · exact K1 z h bc bs R
  · exact K2 z h bc bs R

theorem bX7_compares_87 {d : Nat} {h0 : hp} {m : Nat} {ad : Nat → Nat} {Q : Option sV → rS → rG → Prop} {S : rS} {G : rG} {v1 : sV} {v2 : sV} {v3 : sV} {x4 : Int32} {v5 : sV} (K1 : (x4) = 0 → rWP d h0 m ad 101 Q 127 [sR (some m), v1, v2, v3, sI (x4), v5] [] S G) (K2 : ¬ (x4) = 0 → rWP d h0 m ad 101 Q 92 [sR (some m), v1, v2, v3, sI (x4), v5] [] S G) : rWP d h0 m ad 101 Q 87 [sR (some m), v1, v2, v3, sI (x4), v5] [] S G := by
  intro h bc bs R
  refine w_iload mb101 dX7_compares_87 89 rfl rfl ?_
  refine w_if_eq mb101 dX7_compares_89 127 92 (by decide) rfl (fun z => ?_) (fun z => ?_)
  · exact K1 z h bc bs R
  · exact K2 z h bc bs R

theorem bX7_compares_92 {d : Nat} {h0 : hp} {m : Nat} {ad : Nat → Nat} {Q : Option sV → rS → rG → Prop} {S : rS} {G : rG} {v1 : sV} {v2 : sV} {x3 : Int32} {v4 : sV} {x5 : Int32} (h1 : vp_in (((24) * (x3)) + (x5)) 57600) (h2 : vp_in (x5) 24) (K1 : ¬ ((G 18) (((24) * (x3)) + (x5)).toNatClampNeg) = ((G 47) (x5).toNatClampNeg) → rWP d h0 m ad 101 Q 118 [sR (some m), v1, v2, sI (x3), v4, sI (x5)] [] S G) (K2 : ((G 18) (((24) * (x3)) + (x5)).toNatClampNeg) = ((G 47) (x5).toNatClampNeg) → rWP d h0 m ad 101 Q 114 [sR (some m), v1, v2, sI (x3), v4, sI (x5)] [] S G) : rWP d h0 m ad 101 Q 92 [sR (some m), v1, v2, sI (x3), v4, sI (x5)] [] S G := by
  intro h bc bs R
  refine w_aload_n mb101 dX7_compares_92 93 rfl rfl ?_
  refine x_geta mb101 dX7_compares_93 96 rfl R lf7_63 rfl (by decide) ?_
  refine w_bipush mb101 dX7_compares_96 98 rfl (24) (by decide) ?_
  refine w_iload_n mb101 dX7_compares_98 99 rfl rfl ?_
  refine w_imul mb101 dX7_compares_99 100 rfl ?_
  refine w_iload mb101 dX7_compares_100 102 rfl rfl ?_
  refine w_iadd mb101 dX7_compares_102 103 rfl ?_
  refine x_iald mb101 dX7_compares_103 104 rfl R 57600 rfl (by decide) rfl h1 ?_
  refine w_aload_n mb101 dX7_compares_104 105 rfl rfl ?_
  refine x_geta mb101 dX7_compares_105 108 rfl R lf7_135 rfl (by decide) ?_
  refine w_iload mb101 dX7_compares_108 110 rfl rfl ?_
  refine x_iald mb101 dX7_compares_110 111 rfl R 24 rfl (by decide) rfl h2 ?_
  refine w_icmp_ne mb101 dX7_compares_111 118 114 (by decide) rfl (fun z => ?_) (fun z => ?_)
  · exact K1 z h bc bs R
  · exact K2 z h bc bs R

theorem bX7_compares_114 {d : Nat} {h0 : hp} {m : Nat} {ad : Nat → Nat} {Q : Option sV → rS → rG → Prop} {S : rS} {G : rG} {v1 : sV} {v2 : sV} {v3 : sV} {v4 : sV} {v5 : sV} (K : rWP d h0 m ad 101 Q 119 [sR (some m), v1, v2, v3, v4, v5] [sI (1)] S G) : rWP d h0 m ad 101 Q 114 [sR (some m), v1, v2, v3, v4, v5] [] S G := by
  intro h bc bs R
  refine w_iconst mb101 dX7_compares_114 115 rfl (1) (by decide) ?_
  refine w_goto mb101 dX7_compares_115 119 (by decide) ?_
  exact K h bc bs R

theorem bX7_compares_118 {d : Nat} {h0 : hp} {m : Nat} {ad : Nat → Nat} {Q : Option sV → rS → rG → Prop} {S : rS} {G : rG} {v1 : sV} {v2 : sV} {v3 : sV} {v4 : sV} {v5 : sV} (K : rWP d h0 m ad 101 Q 119 [sR (some m), v1, v2, v3, v4, v5] [sI (0)] S G) : rWP d h0 m ad 101 Q 118 [sR (some m), v1, v2, v3, v4, v5] [] S G := by
  intro h bc bs R
  refine w_iconst mb101 dX7_compares_118 119 rfl (0) (by decide) ?_
  exact K h bc bs R

theorem bX7_compares_119 {d : Nat} {h0 : hp} {m : Nat} {ad : Nat → Nat} {Q : Option sV → rS → rG → Prop} {S : rS} {G : rG} {v1 : sV} {v2 : sV} {v3 : sV} {v4 : sV} {x5 : Int32} {y0 : Int32} (K : rWP d h0 m ad 101 Q 78 [sR (some m), v1, v2, v3, sI (y0), sI (x5 + 1)] [] S G) : rWP d h0 m ad 101 Q 119 [sR (some m), v1, v2, v3, v4, sI (x5)] [sI (y0)] S G := by
  intro h bc bs R
  refine w_istore mb101 dX7_compares_119 121 rfl [sR (some m), v1, v2, v3, sI (y0), sI (x5)] (Nat.le_of_ble_eq_true rfl) rfl ?_
  refine w_iinc mb101 dX7_compares_121 124 rfl rfl (x5 + 1) rfl [sR (some m), v1, v2, v3, sI (y0), sI (x5 + 1)] rfl ?_
  refine w_goto mb101 dX7_compares_124 78 (by decide) ?_
  exact K h bc bs R

theorem bX7_compares_127 {d : Nat} {h0 : hp} {m : Nat} {ad : Nat → Nat} {Q : Option sV → rS → rG → Prop} {S : rS} {G : rG} {v1 : sV} {v2 : sV} {v3 : sV} {x4 : Int32} {v5 : sV} (K1 : (x4) = 0 → rWP d h0 m ad 101 Q 143 [sR (some m), v1, v2, v3, sI (x4), v5] [] S G) (K2 : ¬ (x4) = 0 → rWP d h0 m ad 101 Q 132 [sR (some m), v1, v2, v3, sI (x4), v5] [] S G) : rWP d h0 m ad 101 Q 127 [sR (some m), v1, v2, v3, sI (x4), v5] [] S G := by
  intro h bc bs R
  refine w_iload mb101 dX7_compares_127 129 rfl rfl ?_
  refine w_if_eq mb101 dX7_compares_129 143 132 (by decide) rfl (fun z => ?_) (fun z => ?_)
  · exact K1 z h bc bs R
  · exact K2 z h bc bs R

theorem bX7_compares_132 {d : Nat} {h0 : hp} {m : Nat} {ad : Nat → Nat} {Q : Option sV → rS → rG → Prop} {S : rS} {G : rG} {x1 : Int32} {v2 : sV} {v3 : sV} {v4 : sV} {v5 : sV} (h1 : vp_in (x1) 24) (K : Q (none) S (gup G 30 (x1).toNatClampNeg (((G 30) (x1).toNatClampNeg) + (1)))) : rWP d h0 m ad 101 Q 132 [sR (some m), sI (x1), v2, v3, v4, v5] [] S G := by
  intro h bc bs R
  refine w_aload_n mb101 dX7_compares_132 133 rfl rfl ?_
  refine x_geta mb101 dX7_compares_133 136 rfl R lf7_96 rfl (by decide) ?_
  refine w_iload_n mb101 dX7_compares_136 137 rfl rfl ?_
  refine w_dup2 mb101 dX7_compares_137 138 rfl rfl rfl ?_
  refine x_iald mb101 dX7_compares_138 139 rfl R 24 rfl (by decide) rfl h1 ?_
  refine w_iconst mb101 dX7_compares_139 140 rfl (1) (by decide) ?_
  refine w_iadd mb101 dX7_compares_140 141 rfl ?_
  refine x_iast mb101 dX7_compares_141 142 rfl R 24 rfl (by decide) rfl h1 (fun h R => ?_)
  refine w_vret mb101 dX7_compares_142 rfl ?_
  exact ⟨_, _, R, K⟩

theorem bX7_compares_143 {d : Nat} {h0 : hp} {m : Nat} {ad : Nat → Nat} {Q : Option sV → rS → rG → Prop} {S : rS} {G : rG} {x1 : Int32} {x2 : Int32} {v3 : sV} {v4 : sV} {v5 : sV} (h1 : vp_in (x1) 24) (h2 : vp_in (((4) * (x2)) + ((G 29) (x1).toNatClampNeg)) 96) (K : Q (none) S (gup (gup (gup G 58 (((4) * (x2)) + ((G 29) (x1).toNatClampNeg)).toNatClampNeg ((G 30) (x1).toNatClampNeg)) 29 (x1).toNatClampNeg (((G 29) (x1).toNatClampNeg) + (1))) 30 (x1).toNatClampNeg (0))) : rWP d h0 m ad 101 Q 143 [sR (some m), sI (x1), sI (x2), v3, v4, v5] [] S G := by
  intro h bc bs R
  refine w_aload_n mb101 dX7_compares_143 144 rfl rfl ?_
  refine x_geta mb101 dX7_compares_144 147 rfl R lf7_148 rfl (by decide) ?_
  refine w_iconst mb101 dX7_compares_147 148 rfl (4) (by decide) ?_
  refine w_iload_n mb101 dX7_compares_148 149 rfl rfl ?_
  refine w_imul mb101 dX7_compares_149 150 rfl ?_
  refine w_aload_n mb101 dX7_compares_150 151 rfl rfl ?_
  refine x_geta mb101 dX7_compares_151 154 rfl R lf7_93 rfl (by decide) ?_
  refine w_iload_n mb101 dX7_compares_154 155 rfl rfl ?_
  refine x_iald mb101 dX7_compares_155 156 rfl R 24 rfl (by decide) rfl h1 ?_
  refine w_iadd mb101 dX7_compares_156 157 rfl ?_
  refine w_aload_n mb101 dX7_compares_157 158 rfl rfl ?_
  refine x_geta mb101 dX7_compares_158 161 rfl R lf7_96 rfl (by decide) ?_
  refine w_iload_n mb101 dX7_compares_161 162 rfl rfl ?_
  refine x_iald mb101 dX7_compares_162 163 rfl R 24 rfl (by decide) rfl h1 ?_
  refine x_iast mb101 dX7_compares_163 164 rfl R 96 rfl (by decide) rfl h2 (fun h R => ?_)
  refine w_aload_n mb101 dX7_compares_164 165 rfl rfl ?_
  refine x_geta mb101 dX7_compares_165 168 rfl R lf7_93 rfl (by decide) ?_
  refine w_iload_n mb101 dX7_compares_168 169 rfl rfl ?_
  refine w_dup2 mb101 dX7_compares_169 170 rfl rfl rfl ?_
  refine x_iald mb101 dX7_compares_170 171 rfl R 24 rfl (by decide) rfl h1 ?_
  refine w_iconst mb101 dX7_compares_171 172 rfl (1) (by decide) ?_
  refine w_iadd mb101 dX7_compares_172 173 rfl ?_
  refine x_iast mb101 dX7_compares_173 174 rfl R 24 rfl (by decide) rfl h1 (fun h R => ?_)
  refine w_aload_n mb101 dX7_compares_174 175 rfl rfl ?_
  refine x_geta mb101 dX7_compares_175 178 rfl R lf7_96 rfl (by decide) ?_
  refine w_iload_n mb101 dX7_compares_178 179 rfl rfl ?_
  refine w_iconst mb101 dX7_compares_179 180 rfl (0) (by decide) ?_
  refine x_iast mb101 dX7_compares_180 181 rfl R 24 rfl (by decide) rfl h1 (fun h R => ?_)
  refine w_vret mb101 dX7_compares_181 rfl ?_
  exact ⟨_, _, R, K⟩

theorem bX7_isFit_0 {d : Nat} {h0 : hp} {m : Nat} {ad : Nat → Nat} {Q : Option sV → rS → rG → Prop} {S : rS} {G : rG} {x1 : Int32} {v2 : sV} {v3 : sV} {v4 : sV} (h1 : vp_in (x1) 24) {P : Option sV → rS → rG → Prop} (C : rM d h0 m ad 90 [sR (some m), sI ((G 28) (x1).toNatClampNeg), sI ((G 29) (x1).toNatClampNeg)] S G P) (K : ∀ r S1 G1, P r S1 G1 → rWP d h0 m ad 102 Q 18 [sR (some m), sI (x1), sI ((G 28) (x1).toNatClampNeg), v3, v4] (r.toList ++ []) S1 G1) : rWP d h0 m ad 102 Q 0 [sR (some m), sI (x1), v2, v3, v4] [] S G := by
  intro h bc bs R
  refine w_aload_n mb102 dX7_isFit_0 1 rfl rfl ?_
  refine x_geta mb102 dX7_isFit_1 4 rfl R lf7_90 rfl (by decide) ?_
  refine w_iload_n mb102 dX7_isFit_4 5 rfl rfl ?_
  refine x_iald mb102 dX7_isFit_5 6 rfl R 24 rfl (by decide) rfl h1 ?_
  refine w_istore_n mb102 dX7_isFit_6 7 rfl [sR (some m), sI (x1), sI ((G 28) (x1).toNatClampNeg), v3, v4] (Nat.le_of_ble_eq_true rfl) rfl ?_
  refine w_aload_n mb102 dX7_isFit_7 8 rfl rfl ?_
  refine w_iload_n mb102 dX7_isFit_8 9 rfl rfl ?_
  refine w_aload_n mb102 dX7_isFit_9 10 rfl rfl ?_
  refine x_geta mb102 dX7_isFit_10 13 rfl R lf7_93 rfl (by decide) ?_
  refine w_iload_n mb102 dX7_isFit_13 14 rfl rfl ?_
  refine x_iald mb102 dX7_isFit_14 15 rfl R 24 rfl (by decide) rfl h1 ?_
  refine w_virtual (a := m) (c := 7) (st := []) mb102 dX7_isFit_15 18 rfl 90 2 [sI ((G 28) (x1).toNatClampNeg), sI ((G 29) (x1).toNatClampNeg)] _ rfl rfl rfl lc7_174 R.2.1 (Nat.le_of_ble_eq_true rfl) (C h 0 0 R) (Nat.zero_le _) (Nat.zero_le _) (fun r h1 hP => ?_)
  obtain ⟨S1, G1, R1, hP⟩ := hP
  exact K r S1 G1 hP h1 _ _ R1

theorem bX7_isFit_18 {d : Nat} {h0 : hp} {m : Nat} {ad : Nat → Nat} {Q : Option sV → rS → rG → Prop} {S : rS} {G : rG} {x1 : Int32} {x2 : Int32} {v3 : sV} {v4 : sV} {y0 : Int32} (h1 : vp_in (x1) 24) (h2 : vp_in (((4) * (x2)) + ((G 29) (x1).toNatClampNeg)) 96) (h3 : vp_in (y0) 96) (h4 : vp_in (x2) 24) (K : rWP d h0 m ad 102 Q 75 [sR (some m), sI (x1), sI (x2), sI (y0), sI (0)] [] S (gup (gup (gup (gup G 58 (((4) * (x2)) + ((G 29) (x1).toNatClampNeg)).toNatClampNeg ((-2))) 19 (x2).toNatClampNeg ((G 10) (y0).toNatClampNeg)) 20 (x2).toNatClampNeg ((G 11) (y0).toNatClampNeg)) 21 (x2).toNatClampNeg ((G 12) (y0).toNatClampNeg))) : rWP d h0 m ad 102 Q 18 [sR (some m), sI (x1), sI (x2), v3, v4] [sI (y0)] S G := by
  intro h bc bs R
  refine w_istore_n mb102 dX7_isFit_18 19 rfl [sR (some m), sI (x1), sI (x2), sI (y0), v4] (Nat.le_of_ble_eq_true rfl) rfl ?_
  refine w_aload_n mb102 dX7_isFit_19 20 rfl rfl ?_
  refine x_geta mb102 dX7_isFit_20 23 rfl R lf7_148 rfl (by decide) ?_
  refine w_iconst mb102 dX7_isFit_23 24 rfl (4) (by decide) ?_
  refine w_iload_n mb102 dX7_isFit_24 25 rfl rfl ?_
  refine w_imul mb102 dX7_isFit_25 26 rfl ?_
  refine w_aload_n mb102 dX7_isFit_26 27 rfl rfl ?_
  refine x_geta mb102 dX7_isFit_27 30 rfl R lf7_93 rfl (by decide) ?_
  refine w_iload_n mb102 dX7_isFit_30 31 rfl rfl ?_
  refine x_iald mb102 dX7_isFit_31 32 rfl R 24 rfl (by decide) rfl h1 ?_
  refine w_iadd mb102 dX7_isFit_32 33 rfl ?_
  refine w_bipush mb102 dX7_isFit_33 35 rfl ((-2)) (by decide) ?_
  refine x_iast mb102 dX7_isFit_35 36 rfl R 96 rfl (by decide) rfl h2 (fun h R => ?_)
  refine w_aload_n mb102 dX7_isFit_36 37 rfl rfl ?_
  refine x_geta mb102 dX7_isFit_37 40 rfl R lf7_66 rfl (by decide) ?_
  refine w_iload_n mb102 dX7_isFit_40 41 rfl rfl ?_
  refine w_aload_n mb102 dX7_isFit_41 42 rfl rfl ?_
  refine x_geta mb102 dX7_isFit_42 45 rfl R lf7_38 rfl (by decide) ?_
  refine w_iload_n mb102 dX7_isFit_45 46 rfl rfl ?_
  refine x_iald mb102 dX7_isFit_46 47 rfl R 96 rfl (by decide) rfl h3 ?_
  refine x_iast mb102 dX7_isFit_47 48 rfl R 24 rfl (by decide) rfl h4 (fun h R => ?_)
  refine w_aload_n mb102 dX7_isFit_48 49 rfl rfl ?_
  refine x_geta mb102 dX7_isFit_49 52 rfl R lf7_69 rfl (by decide) ?_
  refine w_iload_n mb102 dX7_isFit_52 53 rfl rfl ?_
  refine w_aload_n mb102 dX7_isFit_53 54 rfl rfl ?_
  refine x_geta mb102 dX7_isFit_54 57 rfl R lf7_41 rfl (by decide) ?_
  refine w_iload_n mb102 dX7_isFit_57 58 rfl rfl ?_
  refine x_iald mb102 dX7_isFit_58 59 rfl R 96 rfl (by decide) rfl h3 ?_
  refine x_iast mb102 dX7_isFit_59 60 rfl R 24 rfl (by decide) rfl h4 (fun h R => ?_)
  refine w_aload_n mb102 dX7_isFit_60 61 rfl rfl ?_
  refine x_geta mb102 dX7_isFit_61 64 rfl R lf7_72 rfl (by decide) ?_
  refine w_iload_n mb102 dX7_isFit_64 65 rfl rfl ?_
  refine w_aload_n mb102 dX7_isFit_65 66 rfl rfl ?_
  refine x_geta mb102 dX7_isFit_66 69 rfl R lf7_44 rfl (by decide) ?_
  refine w_iload_n mb102 dX7_isFit_69 70 rfl rfl ?_
  refine x_iald mb102 dX7_isFit_70 71 rfl R 96 rfl (by decide) rfl h3 ?_
  refine x_iast mb102 dX7_isFit_71 72 rfl R 24 rfl (by decide) rfl h4 (fun h R => ?_)
  refine w_iconst mb102 dX7_isFit_72 73 rfl (0) (by decide) ?_
  refine w_istore mb102 dX7_isFit_73 75 rfl [sR (some m), sI (x1), sI (x2), sI (y0), sI (0)] (Nat.le_of_ble_eq_true rfl) rfl ?_
  exact K h bc bs R

theorem bX7_isFit_75 {d : Nat} {h0 : hp} {m : Nat} {ad : Nat → Nat} {Q : Option sV → rS → rG → Prop} {S : rS} {G : rG} {v1 : sV} {x2 : Int32} {v3 : sV} {x4 : Int32} (h1 : vp_in (x2) 24) (K1 : ((G 19) (x2).toNatClampNeg) ≤ (x4) → rWP d h0 m ad 102 Q 116 [sR (some m), v1, sI (x2), v3, sI (x4)] [] S G) (K2 : ¬ ((G 19) (x2).toNatClampNeg) ≤ (x4) → rWP d h0 m ad 102 Q 86 [sR (some m), v1, sI (x2), v3, sI (x4)] [] S G) : rWP d h0 m ad 102 Q 75 [sR (some m), v1, sI (x2), v3, sI (x4)] [] S G := by
  intro h bc bs R
  refine w_iload mb102 dX7_isFit_75 77 rfl rfl ?_
  refine w_aload_n mb102 dX7_isFit_77 78 rfl rfl ?_
  refine x_geta mb102 dX7_isFit_78 81 rfl R lf7_66 rfl (by decide) ?_
  refine w_iload_n mb102 dX7_isFit_81 82 rfl rfl ?_
  refine x_iald mb102 dX7_isFit_82 83 rfl R 24 rfl (by decide) rfl h1 ?_
  refine w_icmp_ge mb102 dX7_isFit_83 116 86 (by decide) rfl (fun z => ?_) (fun z => ?_)
  · exact K1 z h bc bs R
  · exact K2 z h bc bs R

theorem bX7_isFit_86 {d : Nat} {h0 : hp} {m : Nat} {ad : Nat → Nat} {Q : Option sV → rS → rG → Prop} {S : rS} {G : rG} {v1 : sV} {x2 : Int32} {x3 : Int32} {x4 : Int32} (h1 : vp_in (((24) * (x3)) + (x4)) 2304) (h2 : vp_in (((24) * (x2)) + (x4)) 576) (K : rWP d h0 m ad 102 Q 75 [sR (some m), v1, sI (x2), sI (x3), sI (x4 + 1)] [] S (gup G 22 (((24) * (x2)) + (x4)).toNatClampNeg ((G 13) (((24) * (x3)) + (x4)).toNatClampNeg))) : rWP d h0 m ad 102 Q 86 [sR (some m), v1, sI (x2), sI (x3), sI (x4)] [] S G := by
  intro h bc bs R
  refine w_aload_n mb102 dX7_isFit_86 87 rfl rfl ?_
  refine x_geta mb102 dX7_isFit_87 90 rfl R lf7_75 rfl (by decide) ?_
  refine w_bipush mb102 dX7_isFit_90 92 rfl (24) (by decide) ?_
  refine w_iload_n mb102 dX7_isFit_92 93 rfl rfl ?_
  refine w_imul mb102 dX7_isFit_93 94 rfl ?_
  refine w_iload mb102 dX7_isFit_94 96 rfl rfl ?_
  refine w_iadd mb102 dX7_isFit_96 97 rfl ?_
  refine w_aload_n mb102 dX7_isFit_97 98 rfl rfl ?_
  refine x_geta mb102 dX7_isFit_98 101 rfl R lf7_47 rfl (by decide) ?_
  refine w_bipush mb102 dX7_isFit_101 103 rfl (24) (by decide) ?_
  refine w_iload_n mb102 dX7_isFit_103 104 rfl rfl ?_
  refine w_imul mb102 dX7_isFit_104 105 rfl ?_
  refine w_iload mb102 dX7_isFit_105 107 rfl rfl ?_
  refine w_iadd mb102 dX7_isFit_107 108 rfl ?_
  refine x_iald mb102 dX7_isFit_108 109 rfl R 2304 rfl (by decide) rfl h1 ?_
  refine x_iast mb102 dX7_isFit_109 110 rfl R 576 rfl (by decide) rfl h2 (fun h R => ?_)
  refine w_iinc mb102 dX7_isFit_110 113 rfl rfl (x4 + 1) rfl [sR (some m), v1, sI (x2), sI (x3), sI (x4 + 1)] rfl ?_
  refine w_goto mb102 dX7_isFit_113 75 (by decide) ?_
  exact K h bc bs R

theorem bX7_isFit_116 {d : Nat} {h0 : hp} {m : Nat} {ad : Nat → Nat} {Q : Option sV → rS → rG → Prop} {S : rS} {G : rG} {x1 : Int32} {x2 : Int32} {x3 : Int32} {v4 : sV} (h1 : vp_in (x1) 24) {P : Option sV → rS → rG → Prop} (C : rM d h0 m ad 103 [sR (some m), sI (x2), sI ((x3) - ((4) * (x2))), sI ((G 29) (x1).toNatClampNeg)] S G P) (K : ∀ r S1 G1, P r S1 G1 → rWP d h0 m ad 102 Q 132 [sR (some m), sI (x1), sI (x2), sI (x3), v4] (r.toList ++ []) S1 G1) : rWP d h0 m ad 102 Q 116 [sR (some m), sI (x1), sI (x2), sI (x3), v4] [] S G := by
  intro h bc bs R
  refine w_aload_n mb102 dX7_isFit_116 117 rfl rfl ?_
  refine w_iload_n mb102 dX7_isFit_117 118 rfl rfl ?_
  refine w_iload_n mb102 dX7_isFit_118 119 rfl rfl ?_
  refine w_iconst mb102 dX7_isFit_119 120 rfl (4) (by decide) ?_
  refine w_iload_n mb102 dX7_isFit_120 121 rfl rfl ?_
  refine w_imul mb102 dX7_isFit_121 122 rfl ?_
  refine w_isub mb102 dX7_isFit_122 123 rfl ?_
  refine w_aload_n mb102 dX7_isFit_123 124 rfl rfl ?_
  refine x_geta mb102 dX7_isFit_124 127 rfl R lf7_93 rfl (by decide) ?_
  refine w_iload_n mb102 dX7_isFit_127 128 rfl rfl ?_
  refine x_iald mb102 dX7_isFit_128 129 rfl R 24 rfl (by decide) rfl h1 ?_
  refine w_virtual (a := m) (c := 7) (st := []) mb102 dX7_isFit_129 132 rfl 103 3 [sI (x2), sI ((x3) - ((4) * (x2))), sI ((G 29) (x1).toNatClampNeg)] _ rfl rfl rfl lc7_254 R.2.1 (Nat.le_of_ble_eq_true rfl) (C h 0 0 R) (Nat.zero_le _) (Nat.zero_le _) (fun r h1 hP => ?_)
  obtain ⟨S1, G1, R1, hP⟩ := hP
  exact K r S1 G1 hP h1 _ _ R1

theorem bX7_isFit_132 {d : Nat} {h0 : hp} {m : Nat} {ad : Nat → Nat} {Q : Option sV → rS → rG → Prop} {S : rS} {G : rG} {v1 : sV} {x2 : Int32} {v3 : sV} {v4 : sV} {P : Option sV → rS → rG → Prop} (C : rM d h0 m ad 97 [sR (some m), sI (x2)] S G P) (K : ∀ r S1 G1, P r S1 G1 → rWP d h0 m ad 102 Q 137 [sR (some m), v1, sI (x2), v3, v4] (r.toList ++ []) S1 G1) : rWP d h0 m ad 102 Q 132 [sR (some m), v1, sI (x2), v3, v4] [] S G := by
  intro h bc bs R
  refine w_aload_n mb102 dX7_isFit_132 133 rfl rfl ?_
  refine w_iload_n mb102 dX7_isFit_133 134 rfl rfl ?_
  refine w_virtual (a := m) (c := 7) (st := []) mb102 dX7_isFit_134 137 rfl 97 1 [sI (x2)] _ rfl rfl rfl lc7_245 R.2.1 (Nat.le_of_ble_eq_true rfl) (C h 0 0 R) (Nat.zero_le _) (Nat.zero_le _) (fun r h1 hP => ?_)
  obtain ⟨S1, G1, R1, hP⟩ := hP
  exact K r S1 G1 hP h1 _ _ R1

theorem bX7_isFit_137 {d : Nat} {h0 : hp} {m : Nat} {ad : Nat → Nat} {Q : Option sV → rS → rG → Prop} {S : rS} {G : rG} {v1 : sV} {v2 : sV} {v3 : sV} {v4 : sV} (K : Q (none) S G) : rWP d h0 m ad 102 Q 137 [sR (some m), v1, v2, v3, v4] [] S G := by
  intro h bc bs R
  refine w_vret mb102 dX7_isFit_137 rfl ?_
  exact ⟨_, _, R, K⟩

theorem bX7_used_0 {d : Nat} {h0 : hp} {m : Nat} {ad : Nat → Nat} {Q : Option sV → rS → rG → Prop} {S : rS} {G : rG} {v1 : sV} {v2 : sV} {x3 : Int32} {v4 : sV} (K : rWP d h0 m ad 103 Q 3 [sR (some m), v1, v2, sI (x3), sI (x3)] [] S G) : rWP d h0 m ad 103 Q 0 [sR (some m), v1, v2, sI (x3), v4] [] S G := by
  intro h bc bs R
  refine w_iload_n mb103 dX7_used_0 1 rfl rfl ?_
  refine w_istore mb103 dX7_used_1 3 rfl [sR (some m), v1, v2, sI (x3), sI (x3)] (Nat.le_of_ble_eq_true rfl) rfl ?_
  exact K h bc bs R

theorem bX7_used_3 {d : Nat} {h0 : hp} {m : Nat} {ad : Nat → Nat} {Q : Option sV → rS → rG → Prop} {S : rS} {G : rG} {v1 : sV} {v2 : sV} {v3 : sV} {x4 : Int32} (K1 : (x4) ≤ 0 → rWP d h0 m ad 103 Q 38 [sR (some m), v1, v2, v3, sI (x4)] [] S G) (K2 : ¬ (x4) ≤ 0 → rWP d h0 m ad 103 Q 8 [sR (some m), v1, v2, v3, sI (x4)] [] S G) : rWP d h0 m ad 103 Q 3 [sR (some m), v1, v2, v3, sI (x4)] [] S G := by
  intro h bc bs R
  refine w_iload mb103 dX7_used_3 5 rfl rfl ?_
  refine w_if_le mb103 dX7_used_5 38 8 (by decide) rfl (fun z => ?_) (fun z => ?_)
  · exact K1 z h bc bs R
  · exact K2 z h bc bs R
