theorem bX7_rule_22 {d : Nat} {h0 : hp} {m : Nat} {ad : Nat → Nat} {Q : Option sV → rS → rG → Prop} {S : rS} {G : rG} {v1 : sV} {v2 : sV} (K : Q (some (sI ((-2)))) S G) : rWP d h0 m ad 83 Q 22 [sR (some m), v1, v2] [] S G := by
  intro h bc bs R
  refine w_bipush mb83 dX7_rule_22 24 rfl ((-2)) (by decide) ?_
  refine w_iret mb83 dX7_rule_24 rfl ?_
  exact ⟨_, _, R, K⟩

theorem bX7_rule_25 {d : Nat} {h0 : hp} {m : Nat} {ad : Nat → Nat} {Q : Option sV → rS → rG → Prop} {S : rS} {G : rG} {x1 : Int32} {x2 : Int32} (h1 : vp_in (S 6) 24) (h2 : (x2) = 0 ∨ (x2) = 1) (K : Q (some (sI (((S 6) + (1)) - (1)))) (va_up S 6 ((S 6) + (1))) (gup (gup G 2 (S 6).toNatClampNeg (x1)) 5 (S 6).toNatClampNeg (x2))) : rWP d h0 m ad 83 Q 25 [sR (some m), sI (x1), sI (x2)] [] S G := by
  intro h bc bs R
  refine w_aload_n mb83 dX7_rule_25 26 rfl rfl ?_
  refine x_geta mb83 dX7_rule_26 29 rfl R lf7_16 rfl (by decide) ?_
  refine w_aload_n mb83 dX7_rule_29 30 rfl rfl ?_
  refine x_geti mb83 dX7_rule_30 33 rfl R lf7_157 rfl ?_
  refine w_iload_n mb83 dX7_rule_33 34 rfl rfl ?_
  refine x_iast mb83 dX7_rule_34 35 rfl R 24 rfl (by decide) rfl h1 (fun h R => ?_)
  refine w_aload_n mb83 dX7_rule_35 36 rfl rfl ?_
  refine x_geta mb83 dX7_rule_36 39 rfl R lf7_25 rfl (by decide) ?_
  refine w_aload_n mb83 dX7_rule_39 40 rfl rfl ?_
  refine x_geti mb83 dX7_rule_40 43 rfl R lf7_157 rfl ?_
  refine w_iload_n mb83 dX7_rule_43 44 rfl rfl ?_
  refine x_bast mb83 dX7_rule_44 45 rfl R 24 rfl (by decide) rfl h1 h2 (fun h R => ?_)
  refine w_aload_n mb83 dX7_rule_45 46 rfl rfl ?_
  refine w_dup mb83 dX7_rule_46 47 rfl rfl ?_
  refine x_geti mb83 dX7_rule_47 50 rfl R lf7_157 rfl ?_
  refine w_iconst mb83 dX7_rule_50 51 rfl (1) (by decide) ?_
  refine w_iadd mb83 dX7_rule_51 52 rfl ?_
  refine x_puti mb83 dX7_rule_52 55 rfl R (lp7_157 _) rfl (fun h R => ?_)
  refine w_aload_n mb83 dX7_rule_55 56 rfl rfl ?_
  refine x_geti mb83 dX7_rule_56 59 rfl R lf7_157 rfl ?_
  refine w_iconst mb83 dX7_rule_59 60 rfl (1) (by decide) ?_
  refine w_isub mb83 dX7_rule_60 61 rfl ?_
  refine w_iret mb83 dX7_rule_61 rfl ?_
  exact ⟨_, _, R, K⟩

theorem bX7_input_0 {d : Nat} {h0 : hp} {m : Nat} {ad : Nat → Nat} {Q : Option sV → rS → rG → Prop} {S : rS} {G : rG} {x1 : Int32} {v2 : sV} {P : Option sV → rS → rG → Prop} (C : rM d h0 m ad 75 [sR (some m), sI (x1)] S G P) (K : ∀ r S1 G1, P r S1 G1 → rWP d h0 m ad 84 Q 5 [sR (some m), sI (x1), v2] (r.toList ++ []) S1 G1) : rWP d h0 m ad 84 Q 0 [sR (some m), sI (x1), v2] [] S G := by
  intro h bc bs R
  refine w_aload_n mb84 dX7_input_0 1 rfl rfl ?_
  refine w_iload_n mb84 dX7_input_1 2 rfl rfl ?_
  refine w_virtual (a := m) (c := 7) (st := []) mb84 dX7_input_2 5 rfl 75 1 [sI (x1)] _ rfl rfl rfl lc7_168 R.2.1 (Nat.le_of_ble_eq_true rfl) (C h 0 0 R) (Nat.zero_le _) (Nat.zero_le _) (fun r h1 hP => ?_)
  obtain ⟨S1, G1, R1, hP⟩ := hP
  exact K r S1 G1 hP h1 _ _ R1

theorem bX7_input_5 {d : Nat} {h0 : hp} {m : Nat} {ad : Nat → Nat} {Q : Option sV → rS → rG → Prop} {S : rS} {G : rG} {v1 : sV} {v2 : sV} {y0 : Int32} (K1 : (y0) = 0 → rWP d h0 m ad 84 Q 15 [sR (some m), v1, v2] [] S G) (K2 : ¬ (y0) = 0 → rWP d h0 m ad 84 Q 8 [sR (some m), v1, v2] [] S G) : rWP d h0 m ad 84 Q 5 [sR (some m), v1, v2] [sI (y0)] S G := by
  intro h bc bs R
  refine w_if_eq mb84 dX7_input_5 15 8 (by decide) rfl (fun z => ?_) (fun z => ?_)
  · exact K1 z h bc bs R
  · exact K2 z h bc bs R

theorem bX7_input_8 {d : Nat} {h0 : hp} {m : Nat} {ad : Nat → Nat} {Q : Option sV → rS → rG → Prop} {S : rS} {G : rG} {v1 : sV} {x2 : Int32} {P : Option sV → rS → rG → Prop} (C : rM d h0 m ad 76 [sI (x2)] S G P) (K : ∀ r S1 G1, P r S1 G1 → rWP d h0 m ad 84 Q 12 [sR (some m), v1, sI (x2)] (r.toList ++ []) S1 G1) : rWP d h0 m ad 84 Q 8 [sR (some m), v1, sI (x2)] [] S G := by
  intro h bc bs R
  refine w_iload_n mb84 dX7_input_8 9 rfl rfl ?_
  refine w_static (st := []) mb84 dX7_input_9 12 rfl 76 1 [sI (x2)] _ rfl rfl rfl lc7_171 (Nat.le_of_ble_eq_true rfl) (C h 0 0 R) (Nat.zero_le _) (Nat.zero_le _) (fun r h1 hP => ?_)
  obtain ⟨S1, G1, R1, hP⟩ := hP
  exact K r S1 G1 hP h1 _ _ R1

theorem bX7_input_12 {d : Nat} {h0 : hp} {m : Nat} {ad : Nat → Nat} {Q : Option sV → rS → rG → Prop} {S : rS} {G : rG} {v1 : sV} {v2 : sV} {y0 : Int32} (K1 : ¬ (y0) = 0 → rWP d h0 m ad 84 Q 17 [sR (some m), v1, v2] [] S G) (K2 : (y0) = 0 → rWP d h0 m ad 84 Q 15 [sR (some m), v1, v2] [] S G) : rWP d h0 m ad 84 Q 12 [sR (some m), v1, v2] [sI (y0)] S G := by
  intro h bc bs R
  refine w_if_ne mb84 dX7_input_12 17 15 (by decide) rfl (fun z => ?_) (fun z => ?_)
  · exact K1 z h bc bs R
  · exact K2 z h bc bs R

theorem bX7_input_15 {d : Nat} {h0 : hp} {m : Nat} {ad : Nat → Nat} {Q : Option sV → rS → rG → Prop} {S : rS} {G : rG} {v1 : sV} {v2 : sV} (K : Q (some (sI ((-1)))) S G) : rWP d h0 m ad 84 Q 15 [sR (some m), v1, v2] [] S G := by
  intro h bc bs R
  refine w_iconst mb84 dX7_input_15 16 rfl ((-1)) (by decide) ?_
  refine w_iret mb84 dX7_input_16 rfl ?_
  exact ⟨_, _, R, K⟩

theorem bX7_input_17 {d : Nat} {h0 : hp} {m : Nat} {ad : Nat → Nat} {Q : Option sV → rS → rG → Prop} {S : rS} {G : rG} {x1 : Int32} {v2 : sV} (h1 : vp_in (x1) 24) (K1 : ¬ ((G 3) (x1).toNatClampNeg) = (6) → rWP d h0 m ad 84 Q 31 [sR (some m), sI (x1), v2] [] S G) (K2 : ((G 3) (x1).toNatClampNeg) = (6) → rWP d h0 m ad 84 Q 28 [sR (some m), sI (x1), v2] [] S G) : rWP d h0 m ad 84 Q 17 [sR (some m), sI (x1), v2] [] S G := by
  intro h bc bs R
  refine w_aload_n mb84 dX7_input_17 18 rfl rfl ?_
  refine x_geta mb84 dX7_input_18 21 rfl R lf7_19 rfl (by decide) ?_
  refine w_iload_n mb84 dX7_input_21 22 rfl rfl ?_
  refine x_iald mb84 dX7_input_22 23 rfl R 24 rfl (by decide) rfl h1 ?_
  refine w_bipush mb84 dX7_input_23 25 rfl (6) (by decide) ?_
  refine w_icmp_ne mb84 dX7_input_25 31 28 (by decide) rfl (fun z => ?_) (fun z => ?_)
  · exact K1 z h bc bs R
  · exact K2 z h bc bs R

theorem bX7_input_28 {d : Nat} {h0 : hp} {m : Nat} {ad : Nat → Nat} {Q : Option sV → rS → rG → Prop} {S : rS} {G : rG} {v1 : sV} {v2 : sV} (K : Q (some (sI ((-2)))) S G) : rWP d h0 m ad 84 Q 28 [sR (some m), v1, v2] [] S G := by
  intro h bc bs R
  refine w_bipush mb84 dX7_input_28 30 rfl ((-2)) (by decide) ?_
  refine w_iret mb84 dX7_input_30 rfl ?_
  exact ⟨_, _, R, K⟩

theorem bX7_input_31 {d : Nat} {h0 : hp} {m : Nat} {ad : Nat → Nat} {Q : Option sV → rS → rG → Prop} {S : rS} {G : rG} {x1 : Int32} {x2 : Int32} (h1 : vp_in (x1) 24) (h2 : vp_in (((6) * (x1)) + ((G 3) (x1).toNatClampNeg)) 144) (K : Q (some (sI ((upd (G 3) (x1).toNatClampNeg (((G 3) (x1).toNatClampNeg) + (1))) (x1).toNatClampNeg))) S (gup (gup (gup G 4 (((6) * (x1)) + ((G 3) (x1).toNatClampNeg)).toNatClampNeg (x2)) 3 (x1).toNatClampNeg (((G 3) (x1).toNatClampNeg) + (1))) 7 (x1).toNatClampNeg (0))) : rWP d h0 m ad 84 Q 31 [sR (some m), sI (x1), sI (x2)] [] S G := by
  intro h bc bs R
  refine w_aload_n mb84 dX7_input_31 32 rfl rfl ?_
  refine x_geta mb84 dX7_input_32 35 rfl R lf7_22 rfl (by decide) ?_
  refine w_bipush mb84 dX7_input_35 37 rfl (6) (by decide) ?_
  refine w_iload_n mb84 dX7_input_37 38 rfl rfl ?_
  refine w_imul mb84 dX7_input_38 39 rfl ?_
  refine w_aload_n mb84 dX7_input_39 40 rfl rfl ?_
  refine x_geta mb84 dX7_input_40 43 rfl R lf7_19 rfl (by decide) ?_
  refine w_iload_n mb84 dX7_input_43 44 rfl rfl ?_
  refine x_iald mb84 dX7_input_44 45 rfl R 24 rfl (by decide) rfl h1 ?_
  refine w_iadd mb84 dX7_input_45 46 rfl ?_
  refine w_iload_n mb84 dX7_input_46 47 rfl rfl ?_
  refine x_iast mb84 dX7_input_47 48 rfl R 144 rfl (by decide) rfl h2 (fun h R => ?_)
  refine w_aload_n mb84 dX7_input_48 49 rfl rfl ?_
  refine x_geta mb84 dX7_input_49 52 rfl R lf7_19 rfl (by decide) ?_
  refine w_iload_n mb84 dX7_input_52 53 rfl rfl ?_
  refine w_dup2 mb84 dX7_input_53 54 rfl rfl rfl ?_
  refine x_iald mb84 dX7_input_54 55 rfl R 24 rfl (by decide) rfl h1 ?_
  refine w_iconst mb84 dX7_input_55 56 rfl (1) (by decide) ?_
  refine w_iadd mb84 dX7_input_56 57 rfl ?_
  refine x_iast mb84 dX7_input_57 58 rfl R 24 rfl (by decide) rfl h1 (fun h R => ?_)
  refine w_aload_n mb84 dX7_input_58 59 rfl rfl ?_
  refine x_geta mb84 dX7_input_59 62 rfl R lf7_29 rfl (by decide) ?_
  refine w_iload_n mb84 dX7_input_62 63 rfl rfl ?_
  refine w_iconst mb84 dX7_input_63 64 rfl (0) (by decide) ?_
  refine x_iast mb84 dX7_input_64 65 rfl R 24 rfl (by decide) rfl h1 (fun h R => ?_)
  refine w_aload_n mb84 dX7_input_65 66 rfl rfl ?_
  refine x_geta mb84 dX7_input_66 69 rfl R lf7_19 rfl (by decide) ?_
  refine w_iload_n mb84 dX7_input_69 70 rfl rfl ?_
  refine x_iald mb84 dX7_input_70 71 rfl R 24 rfl (by decide) rfl h1 ?_
  refine w_iret mb84 dX7_input_71 rfl ?_
  exact ⟨_, _, R, K⟩

theorem bX7_turn_0 {d : Nat} {h0 : hp} {m : Nat} {ad : Nat → Nat} {Q : Option sV → rS → rG → Prop} {S : rS} {G : rG} {x1 : Int32} {v2 : sV} {v3 : sV} {P : Option sV → rS → rG → Prop} (C : rM d h0 m ad 75 [sR (some m), sI (x1)] S G P) (K : ∀ r S1 G1, P r S1 G1 → rWP d h0 m ad 85 Q 5 [sR (some m), sI (x1), v2, v3] (r.toList ++ []) S1 G1) : rWP d h0 m ad 85 Q 0 [sR (some m), sI (x1), v2, v3] [] S G := by
  intro h bc bs R
  refine w_aload_n mb85 dX7_turn_0 1 rfl rfl ?_
  refine w_iload_n mb85 dX7_turn_1 2 rfl rfl ?_
  refine w_virtual (a := m) (c := 7) (st := []) mb85 dX7_turn_2 5 rfl 75 1 [sI (x1)] _ rfl rfl rfl lc7_168 R.2.1 (Nat.le_of_ble_eq_true rfl) (C h 0 0 R) (Nat.zero_le _) (Nat.zero_le _) (fun r h1 hP => ?_)
  obtain ⟨S1, G1, R1, hP⟩ := hP
  exact K r S1 G1 hP h1 _ _ R1

theorem bX7_turn_5 {d : Nat} {h0 : hp} {m : Nat} {ad : Nat → Nat} {Q : Option sV → rS → rG → Prop} {S : rS} {G : rG} {v1 : sV} {v2 : sV} {v3 : sV} {y0 : Int32} (K1 : (y0) = 0 → rWP d h0 m ad 85 Q 29 [sR (some m), v1, v2, v3] [] S G) (K2 : ¬ (y0) = 0 → rWP d h0 m ad 85 Q 8 [sR (some m), v1, v2, v3] [] S G) : rWP d h0 m ad 85 Q 5 [sR (some m), v1, v2, v3] [sI (y0)] S G := by
  intro h bc bs R
  refine w_if_eq mb85 dX7_turn_5 29 8 (by decide) rfl (fun z => ?_) (fun z => ?_)
  · exact K1 z h bc bs R
  · exact K2 z h bc bs R

theorem bX7_turn_8 {d : Nat} {h0 : hp} {m : Nat} {ad : Nat → Nat} {Q : Option sV → rS → rG → Prop} {S : rS} {G : rG} {v1 : sV} {x2 : Int32} {v3 : sV} (K1 : (x2) < 0 → rWP d h0 m ad 85 Q 29 [sR (some m), v1, sI (x2), v3] [] S G) (K2 : ¬ (x2) < 0 → rWP d h0 m ad 85 Q 12 [sR (some m), v1, sI (x2), v3] [] S G) : rWP d h0 m ad 85 Q 8 [sR (some m), v1, sI (x2), v3] [] S G := by
  intro h bc bs R
  refine w_iload_n mb85 dX7_turn_8 9 rfl rfl ?_
  refine w_if_lt mb85 dX7_turn_9 29 12 (by decide) rfl (fun z => ?_) (fun z => ?_)
  · exact K1 z h bc bs R
  · exact K2 z h bc bs R

theorem bX7_turn_12 {d : Nat} {h0 : hp} {m : Nat} {ad : Nat → Nat} {Q : Option sV → rS → rG → Prop} {S : rS} {G : rG} {x1 : Int32} {x2 : Int32} {v3 : sV} (h1 : vp_in (x1) 24) (K1 : ((G 3) (x1).toNatClampNeg) ≤ (x2) → rWP d h0 m ad 85 Q 29 [sR (some m), sI (x1), sI (x2), v3] [] S G) (K2 : ¬ ((G 3) (x1).toNatClampNeg) ≤ (x2) → rWP d h0 m ad 85 Q 22 [sR (some m), sI (x1), sI (x2), v3] [] S G) : rWP d h0 m ad 85 Q 12 [sR (some m), sI (x1), sI (x2), v3] [] S G := by
  intro h bc bs R
  refine w_iload_n mb85 dX7_turn_12 13 rfl rfl ?_
  refine w_aload_n mb85 dX7_turn_13 14 rfl rfl ?_
  refine x_geta mb85 dX7_turn_14 17 rfl R lf7_19 rfl (by decide) ?_
  refine w_iload_n mb85 dX7_turn_17 18 rfl rfl ?_
  refine x_iald mb85 dX7_turn_18 19 rfl R 24 rfl (by decide) rfl h1 ?_
  refine w_icmp_ge mb85 dX7_turn_19 29 22 (by decide) rfl (fun z => ?_) (fun z => ?_)
  · exact K1 z h bc bs R
  · exact K2 z h bc bs R

theorem bX7_turn_22 {d : Nat} {h0 : hp} {m : Nat} {ad : Nat → Nat} {Q : Option sV → rS → rG → Prop} {S : rS} {G : rG} {v1 : sV} {v2 : sV} {x3 : Int32} {P : Option sV → rS → rG → Prop} (C : rM d h0 m ad 76 [sI (x3)] S G P) (K : ∀ r S1 G1, P r S1 G1 → rWP d h0 m ad 85 Q 26 [sR (some m), v1, v2, sI (x3)] (r.toList ++ []) S1 G1) : rWP d h0 m ad 85 Q 22 [sR (some m), v1, v2, sI (x3)] [] S G := by
  intro h bc bs R
  refine w_iload_n mb85 dX7_turn_22 23 rfl rfl ?_
  refine w_static (st := []) mb85 dX7_turn_23 26 rfl 76 1 [sI (x3)] _ rfl rfl rfl lc7_171 (Nat.le_of_ble_eq_true rfl) (C h 0 0 R) (Nat.zero_le _) (Nat.zero_le _) (fun r h1 hP => ?_)
  obtain ⟨S1, G1, R1, hP⟩ := hP
  exact K r S1 G1 hP h1 _ _ R1

theorem bX7_turn_26 {d : Nat} {h0 : hp} {m : Nat} {ad : Nat → Nat} {Q : Option sV → rS → rG → Prop} {S : rS} {G : rG} {v1 : sV} {v2 : sV} {v3 : sV} {y0 : Int32} (K1 : ¬ (y0) = 0 → rWP d h0 m ad 85 Q 31 [sR (some m), v1, v2, v3] [] S G) (K2 : (y0) = 0 → rWP d h0 m ad 85 Q 29 [sR (some m), v1, v2, v3] [] S G) : rWP d h0 m ad 85 Q 26 [sR (some m), v1, v2, v3] [sI (y0)] S G := by
  intro h bc bs R
  refine w_if_ne mb85 dX7_turn_26 31 29 (by decide) rfl (fun z => ?_) (fun z => ?_)
  · exact K1 z h bc bs R
  · exact K2 z h bc bs R

theorem bX7_turn_29 {d : Nat} {h0 : hp} {m : Nat} {ad : Nat → Nat} {Q : Option sV → rS → rG → Prop} {S : rS} {G : rG} {v1 : sV} {v2 : sV} {v3 : sV} (K : Q (some (sI ((-1)))) S G) : rWP d h0 m ad 85 Q 29 [sR (some m), v1, v2, v3] [] S G := by
  intro h bc bs R
  refine w_iconst mb85 dX7_turn_29 30 rfl ((-1)) (by decide) ?_
  refine w_iret mb85 dX7_turn_30 rfl ?_
  exact ⟨_, _, R, K⟩

theorem bX7_turn_31 {d : Nat} {h0 : hp} {m : Nat} {ad : Nat → Nat} {Q : Option sV → rS → rG → Prop} {S : rS} {G : rG} {x1 : Int32} {x2 : Int32} {x3 : Int32} (h1 : vp_in (((6) * (x1)) + (x2)) 144) (K1 : ¬ ((G 4) (((6) * (x1)) + (x2)).toNatClampNeg) = (x3) → rWP d h0 m ad 85 Q 48 [sR (some m), sI (x1), sI (x2), sI (x3)] [] S G) (K2 : ((G 4) (((6) * (x1)) + (x2)).toNatClampNeg) = (x3) → rWP d h0 m ad 85 Q 46 [sR (some m), sI (x1), sI (x2), sI (x3)] [] S G) : rWP d h0 m ad 85 Q 31 [sR (some m), sI (x1), sI (x2), sI (x3)] [] S G := by
  intro h bc bs R
  refine w_aload_n mb85 dX7_turn_31 32 rfl rfl ?_
  refine x_geta mb85 dX7_turn_32 35 rfl R lf7_22 rfl (by decide) ?_
  refine w_bipush mb85 dX7_turn_35 37 rfl (6) (by decide) ?_
  refine w_iload_n mb85 dX7_turn_37 38 rfl rfl ?_
  refine w_imul mb85 dX7_turn_38 39 rfl ?_
  refine w_iload_n mb85 dX7_turn_39 40 rfl rfl ?_
  refine w_iadd mb85 dX7_turn_40 41 rfl ?_
  refine x_iald mb85 dX7_turn_41 42 rfl R 144 rfl (by decide) rfl h1 ?_
  refine w_iload_n mb85 dX7_turn_42 43 rfl rfl ?_
  refine w_icmp_ne mb85 dX7_turn_43 48 46 (by decide) rfl (fun z => ?_) (fun z => ?_)
  · exact K1 z h bc bs R
  · exact K2 z h bc bs R

theorem bX7_turn_46 {d : Nat} {h0 : hp} {m : Nat} {ad : Nat → Nat} {Q : Option sV → rS → rG → Prop} {S : rS} {G : rG} {v1 : sV} {v2 : sV} {v3 : sV} (K : Q (some (sI (0))) S G) : rWP d h0 m ad 85 Q 46 [sR (some m), v1, v2, v3] [] S G := by
  intro h bc bs R
  refine w_iconst mb85 dX7_turn_46 47 rfl (0) (by decide) ?_
  refine w_iret mb85 dX7_turn_47 rfl ?_
  exact ⟨_, _, R, K⟩

theorem bX7_turn_48 {d : Nat} {h0 : hp} {m : Nat} {ad : Nat → Nat} {Q : Option sV → rS → rG → Prop} {S : rS} {G : rG} {x1 : Int32} {x2 : Int32} {x3 : Int32} (h1 : vp_in (((6) * (x1)) + (x2)) 144) (h2 : vp_in (x1) 24) (K : Q (some (sI (1))) S (gup (gup G 4 (((6) * (x1)) + (x2)).toNatClampNeg (x3)) 7 (x1).toNatClampNeg (0))) : rWP d h0 m ad 85 Q 48 [sR (some m), sI (x1), sI (x2), sI (x3)] [] S G := by
  intro h bc bs R
  refine w_aload_n mb85 dX7_turn_48 49 rfl rfl ?_
  refine x_geta mb85 dX7_turn_49 52 rfl R lf7_22 rfl (by decide) ?_
  refine w_bipush mb85 dX7_turn_52 54 rfl (6) (by decide) ?_
  refine w_iload_n mb85 dX7_turn_54 55 rfl rfl ?_
  refine w_imul mb85 dX7_turn_55 56 rfl ?_
  refine w_iload_n mb85 dX7_turn_56 57 rfl rfl ?_
  refine w_iadd mb85 dX7_turn_57 58 rfl ?_
  refine w_iload_n mb85 dX7_turn_58 59 rfl rfl ?_
  refine x_iast mb85 dX7_turn_59 60 rfl R 144 rfl (by decide) rfl h1 (fun h R => ?_)
  refine w_aload_n mb85 dX7_turn_60 61 rfl rfl ?_
  refine x_geta mb85 dX7_turn_61 64 rfl R lf7_29 rfl (by decide) ?_
  refine w_iload_n mb85 dX7_turn_64 65 rfl rfl ?_
  refine w_iconst mb85 dX7_turn_65 66 rfl (0) (by decide) ?_
  refine x_iast mb85 dX7_turn_66 67 rfl R 24 rfl (by decide) rfl h2 (fun h R => ?_)
  refine w_iconst mb85 dX7_turn_67 68 rfl (1) (by decide) ?_
  refine w_iret mb85 dX7_turn_68 rfl ?_
  exact ⟨_, _, R, K⟩

theorem bX7_become_0 {d : Nat} {h0 : hp} {m : Nat} {ad : Nat → Nat} {Q : Option sV → rS → rG → Prop} {S : rS} {G : rG} {x1 : Int32} {v2 : sV} {v3 : sV} {P : Option sV → rS → rG → Prop} (C : rM d h0 m ad 75 [sR (some m), sI (x1)] S G P) (K : ∀ r S1 G1, P r S1 G1 → rWP d h0 m ad 86 Q 5 [sR (some m), sI (x1), v2, v3] (r.toList ++ []) S1 G1) : rWP d h0 m ad 86 Q 0 [sR (some m), sI (x1), v2, v3] [] S G := by
  intro h bc bs R
  refine w_aload_n mb86 dX7_become_0 1 rfl rfl ?_
  refine w_iload_n mb86 dX7_become_1 2 rfl rfl ?_
  refine w_virtual (a := m) (c := 7) (st := []) mb86 dX7_become_2 5 rfl 75 1 [sI (x1)] _ rfl rfl rfl lc7_168 R.2.1 (Nat.le_of_ble_eq_true rfl) (C h 0 0 R) (Nat.zero_le _) (Nat.zero_le _) (fun r h1 hP => ?_)
  obtain ⟨S1, G1, R1, hP⟩ := hP
  exact K r S1 G1 hP h1 _ _ R1

theorem bX7_become_5 {d : Nat} {h0 : hp} {m : Nat} {ad : Nat → Nat} {Q : Option sV → rS → rG → Prop} {S : rS} {G : rG} {v1 : sV} {v2 : sV} {v3 : sV} {y0 : Int32} (K1 : (y0) = 0 → rWP d h0 m ad 86 Q 19 [sR (some m), v1, v2, v3] [] S G) (K2 : ¬ (y0) = 0 → rWP d h0 m ad 86 Q 8 [sR (some m), v1, v2, v3] [] S G) : rWP d h0 m ad 86 Q 5 [sR (some m), v1, v2, v3] [sI (y0)] S G := by
  intro h bc bs R
  refine w_if_eq mb86 dX7_become_5 19 8 (by decide) rfl (fun z => ?_) (fun z => ?_)
  · exact K1 z h bc bs R
  · exact K2 z h bc bs R

theorem bX7_become_8 {d : Nat} {h0 : hp} {m : Nat} {ad : Nat → Nat} {Q : Option sV → rS → rG → Prop} {S : rS} {G : rG} {v1 : sV} {x2 : Int32} {v3 : sV} (K1 : (x2) < (1) → rWP d h0 m ad 86 Q 19 [sR (some m), v1, sI (x2), v3] [] S G) (K2 : ¬ (x2) < (1) → rWP d h0 m ad 86 Q 13 [sR (some m), v1, sI (x2), v3] [] S G) : rWP d h0 m ad 86 Q 8 [sR (some m), v1, sI (x2), v3] [] S G := by
  intro h bc bs R
  refine w_iload_n mb86 dX7_become_8 9 rfl rfl ?_
  refine w_iconst mb86 dX7_become_9 10 rfl (1) (by decide) ?_
  refine w_icmp_lt mb86 dX7_become_10 19 13 (by decide) rfl (fun z => ?_) (fun z => ?_)
  · exact K1 z h bc bs R
  · exact K2 z h bc bs R

theorem bX7_become_13 {d : Nat} {h0 : hp} {m : Nat} {ad : Nat → Nat} {Q : Option sV → rS → rG → Prop} {S : rS} {G : rG} {v1 : sV} {x2 : Int32} {v3 : sV} (K1 : (x2) ≤ (6) → rWP d h0 m ad 86 Q 21 [sR (some m), v1, sI (x2), v3] [] S G) (K2 : ¬ (x2) ≤ (6) → rWP d h0 m ad 86 Q 19 [sR (some m), v1, sI (x2), v3] [] S G) : rWP d h0 m ad 86 Q 13 [sR (some m), v1, sI (x2), v3] [] S G := by
  intro h bc bs R
  refine w_iload_n mb86 dX7_become_13 14 rfl rfl ?_
  refine w_bipush mb86 dX7_become_14 16 rfl (6) (by decide) ?_
  refine w_icmp_le mb86 dX7_become_16 21 19 (by decide) rfl (fun z => ?_) (fun z => ?_)
  · exact K1 z h bc bs R
  · exact K2 z h bc bs R

theorem bX7_become_19 {d : Nat} {h0 : hp} {m : Nat} {ad : Nat → Nat} {Q : Option sV → rS → rG → Prop} {S : rS} {G : rG} {v1 : sV} {v2 : sV} {v3 : sV} (K : Q (some (sI ((-1)))) S G) : rWP d h0 m ad 86 Q 19 [sR (some m), v1, v2, v3] [] S G := by
  intro h bc bs R
  refine w_iconst mb86 dX7_become_19 20 rfl ((-1)) (by decide) ?_
  refine w_iret mb86 dX7_become_20 rfl ?_
  exact ⟨_, _, R, K⟩

theorem bX7_become_21 {d : Nat} {h0 : hp} {m : Nat} {ad : Nat → Nat} {Q : Option sV → rS → rG → Prop} {S : rS} {G : rG} {x1 : Int32} {x2 : Int32} {x3 : Int32} (h1 : vp_in (x1) 24) (h2 : (x3) = 0 ∨ (x3) = 1) (K : Q (some (sI (1))) S (gup (gup (gup G 2 (x1).toNatClampNeg (x2)) 5 (x1).toNatClampNeg (x3)) 7 (x1).toNatClampNeg (0))) : rWP d h0 m ad 86 Q 21 [sR (some m), sI (x1), sI (x2), sI (x3)] [] S G := by
  intro h bc bs R
  refine w_aload_n mb86 dX7_become_21 22 rfl rfl ?_
  refine x_geta mb86 dX7_become_22 25 rfl R lf7_16 rfl (by decide) ?_
  refine w_iload_n mb86 dX7_become_25 26 rfl rfl ?_
  refine w_iload_n mb86 dX7_become_26 27 rfl rfl ?_
  refine x_iast mb86 dX7_become_27 28 rfl R 24 rfl (by decide) rfl h1 (fun h R => ?_)
  refine w_aload_n mb86 dX7_become_28 29 rfl rfl ?_
  refine x_geta mb86 dX7_become_29 32 rfl R lf7_25 rfl (by decide) ?_
  refine w_iload_n mb86 dX7_become_32 33 rfl rfl ?_
  refine w_iload_n mb86 dX7_become_33 34 rfl rfl ?_
  refine x_bast mb86 dX7_become_34 35 rfl R 24 rfl (by decide) rfl h1 h2 (fun h R => ?_)
  refine w_aload_n mb86 dX7_become_35 36 rfl rfl ?_
  refine x_geta mb86 dX7_become_36 39 rfl R lf7_29 rfl (by decide) ?_
  refine w_iload_n mb86 dX7_become_39 40 rfl rfl ?_
  refine w_iconst mb86 dX7_become_40 41 rfl (0) (by decide) ?_
  refine x_iast mb86 dX7_become_41 42 rfl R 24 rfl (by decide) rfl h1 (fun h R => ?_)
  refine w_iconst mb86 dX7_become_42 43 rfl (1) (by decide) ?_
  refine w_iret mb86 dX7_become_43 rfl ?_
  exact ⟨_, _, R, K⟩

theorem bX7_forget_0 {d : Nat} {h0 : hp} {m : Nat} {ad : Nat → Nat} {Q : Option sV → rS → rG → Prop} {S : rS} {G : rG} {x1 : Int32} {v2 : sV} {P : Option sV → rS → rG → Prop} (C : rM d h0 m ad 75 [sR (some m), sI (x1)] S G P) (K : ∀ r S1 G1, P r S1 G1 → rWP d h0 m ad 87 Q 5 [sR (some m), sI (x1), v2] (r.toList ++ []) S1 G1) : rWP d h0 m ad 87 Q 0 [sR (some m), sI (x1), v2] [] S G := by
  intro h bc bs R
  refine w_aload_n mb87 dX7_forget_0 1 rfl rfl ?_
  refine w_iload_n mb87 dX7_forget_1 2 rfl rfl ?_
  refine w_virtual (a := m) (c := 7) (st := []) mb87 dX7_forget_2 5 rfl 75 1 [sI (x1)] _ rfl rfl rfl lc7_168 R.2.1 (Nat.le_of_ble_eq_true rfl) (C h 0 0 R) (Nat.zero_le _) (Nat.zero_le _) (fun r h1 hP => ?_)
  obtain ⟨S1, G1, R1, hP⟩ := hP
  exact K r S1 G1 hP h1 _ _ R1

theorem bX7_forget_5 {d : Nat} {h0 : hp} {m : Nat} {ad : Nat → Nat} {Q : Option sV → rS → rG → Prop} {S : rS} {G : rG} {v1 : sV} {v2 : sV} {y0 : Int32} (K1 : ¬ (y0) = 0 → rWP d h0 m ad 87 Q 10 [sR (some m), v1, v2] [] S G) (K2 : (y0) = 0 → rWP d h0 m ad 87 Q 8 [sR (some m), v1, v2] [] S G) : rWP d h0 m ad 87 Q 5 [sR (some m), v1, v2] [sI (y0)] S G := by
  intro h bc bs R
  refine w_if_ne mb87 dX7_forget_5 10 8 (by decide) rfl (fun z => ?_) (fun z => ?_)
  · exact K1 z h bc bs R
  · exact K2 z h bc bs R

theorem bX7_forget_8 {d : Nat} {h0 : hp} {m : Nat} {ad : Nat → Nat} {Q : Option sV → rS → rG → Prop} {S : rS} {G : rG} {v1 : sV} {v2 : sV} (K : Q (some (sI ((-1)))) S G) : rWP d h0 m ad 87 Q 8 [sR (some m), v1, v2] [] S G := by
  intro h bc bs R
  refine w_iconst mb87 dX7_forget_8 9 rfl ((-1)) (by decide) ?_
  refine w_iret mb87 dX7_forget_9 rfl ?_
  exact ⟨_, _, R, K⟩

theorem bX7_forget_10 {d : Nat} {h0 : hp} {m : Nat} {ad : Nat → Nat} {Q : Option sV → rS → rG → Prop} {S : rS} {G : rG} {x1 : Int32} {v2 : sV} (h1 : vp_in (x1) 24) (K : Q (some (sI ((G 7) (x1).toNatClampNeg))) S (gup G 7 (x1).toNatClampNeg (0))) : rWP d h0 m ad 87 Q 10 [sR (some m), sI (x1), v2] [] S G := by
  intro h bc bs R
  refine w_aload_n mb87 dX7_forget_10 11 rfl rfl ?_
  refine x_geta mb87 dX7_forget_11 14 rfl R lf7_29 rfl (by decide) ?_
  refine w_iload_n mb87 dX7_forget_14 15 rfl rfl ?_
  refine x_iald mb87 dX7_forget_15 16 rfl R 24 rfl (by decide) rfl h1 ?_
  refine w_istore_n mb87 dX7_forget_16 17 rfl [sR (some m), sI (x1), sI ((G 7) (x1).toNatClampNeg)] (Nat.le_of_ble_eq_true rfl) rfl ?_
  refine w_aload_n mb87 dX7_forget_17 18 rfl rfl ?_
  refine x_geta mb87 dX7_forget_18 21 rfl R lf7_29 rfl (by decide) ?_
  refine w_iload_n mb87 dX7_forget_21 22 rfl rfl ?_
  refine w_iconst mb87 dX7_forget_22 23 rfl (0) (by decide) ?_
  refine x_iast mb87 dX7_forget_23 24 rfl R 24 rfl (by decide) rfl h1 (fun h R => ?_)
  refine w_iload_n mb87 dX7_forget_24 25 rfl rfl ?_
  refine w_iret mb87 dX7_forget_25 rfl ?_
  exact ⟨_, _, R, K⟩

theorem bX7_of_0 {d : Nat} {h0 : hp} {m : Nat} {ad : Nat → Nat} {Q : Option sV → rS → rG → Prop} {S : rS} {G : rG} {v1 : sV} {x2 : Int32} (K1 : (x2) < 0 → rWP d h0 m ad 88 Q 10 [sR (some m), v1, sI (x2)] [] S G) (K2 : ¬ (x2) < 0 → rWP d h0 m ad 88 Q 4 [sR (some m), v1, sI (x2)] [] S G) : rWP d h0 m ad 88 Q 0 [sR (some m), v1, sI (x2)] [] S G := by
  intro h bc bs R
  refine w_iload_n mb88 dX7_of_0 1 rfl rfl ?_
  refine w_if_lt mb88 dX7_of_1 10 4 (by decide) rfl (fun z => ?_) (fun z => ?_)
  · exact K1 z h bc bs R
  · exact K2 z h bc bs R

theorem bX7_of_4 {d : Nat} {h0 : hp} {m : Nat} {ad : Nat → Nat} {Q : Option sV → rS → rG → Prop} {S : rS} {G : rG} {v1 : sV} {x2 : Int32} (K1 : (x2) ≤ (9) → rWP d h0 m ad 88 Q 12 [sR (some m), v1, sI (x2)] [] S G) (K2 : ¬ (x2) ≤ (9) → rWP d h0 m ad 88 Q 10 [sR (some m), v1, sI (x2)] [] S G) : rWP d h0 m ad 88 Q 4 [sR (some m), v1, sI (x2)] [] S G := by
  intro h bc bs R
  refine w_iload_n mb88 dX7_of_4 5 rfl rfl ?_
  refine w_bipush mb88 dX7_of_5 7 rfl (9) (by decide) ?_
  refine w_icmp_le mb88 dX7_of_7 12 10 (by decide) rfl (fun z => ?_) (fun z => ?_)
  · exact K1 z h bc bs R
  · exact K2 z h bc bs R

theorem bX7_of_10 {d : Nat} {h0 : hp} {m : Nat} {ad : Nat → Nat} {Q : Option sV → rS → rG → Prop} {S : rS} {G : rG} {v1 : sV} {v2 : sV} (K : Q (some (sI ((-1)))) S G) : rWP d h0 m ad 88 Q 10 [sR (some m), v1, v2] [] S G := by
  intro h bc bs R
  refine w_iconst mb88 dX7_of_10 11 rfl ((-1)) (by decide) ?_
  refine w_iret mb88 dX7_of_11 rfl ?_
  exact ⟨_, _, R, K⟩

theorem bX7_of_12 {d : Nat} {h0 : hp} {m : Nat} {ad : Nat → Nat} {Q : Option sV → rS → rG → Prop} {S : rS} {G : rG} {x1 : Int32} {v2 : sV} {P : Option sV → rS → rG → Prop} (C : rM d h0 m ad 75 [sR (some m), sI (x1)] S G P) (K : ∀ r S1 G1, P r S1 G1 → rWP d h0 m ad 88 Q 17 [sR (some m), sI (x1), v2] (r.toList ++ []) S1 G1) : rWP d h0 m ad 88 Q 12 [sR (some m), sI (x1), v2] [] S G := by
  intro h bc bs R
  refine w_aload_n mb88 dX7_of_12 13 rfl rfl ?_
  refine w_iload_n mb88 dX7_of_13 14 rfl rfl ?_
  refine w_virtual (a := m) (c := 7) (st := []) mb88 dX7_of_14 17 rfl 75 1 [sI (x1)] _ rfl rfl rfl lc7_168 R.2.1 (Nat.le_of_ble_eq_true rfl) (C h 0 0 R) (Nat.zero_le _) (Nat.zero_le _) (fun r h1 hP => ?_)
  obtain ⟨S1, G1, R1, hP⟩ := hP
  exact K r S1 G1 hP h1 _ _ R1

theorem bX7_of_17 {d : Nat} {h0 : hp} {m : Nat} {ad : Nat → Nat} {Q : Option sV → rS → rG → Prop} {S : rS} {G : rG} {v1 : sV} {v2 : sV} {y0 : Int32} (K1 : ¬ (y0) = 0 → rWP d h0 m ad 88 Q 26 [sR (some m), v1, v2] [] S G) (K2 : (y0) = 0 → rWP d h0 m ad 88 Q 20 [sR (some m), v1, v2] [] S G) : rWP d h0 m ad 88 Q 17 [sR (some m), v1, v2] [sI (y0)] S G := by
  intro h bc bs R
  refine w_if_ne mb88 dX7_of_17 26 20 (by decide) rfl (fun z => ?_) (fun z => ?_)
  · exact K1 z h bc bs R
  · exact K2 z h bc bs R

theorem bX7_of_20 {d : Nat} {h0 : hp} {m : Nat} {ad : Nat → Nat} {Q : Option sV → rS → rG → Prop} {S : rS} {G : rG} {v1 : sV} {v2 : sV} {P : Option sV → rS → rG → Prop} (C : rM d h0 m ad 73 [sR (some m), sI (2)] S G P) (K : ∀ r S1 G1, P r S1 G1 → rWP d h0 m ad 88 Q 25 [sR (some m), v1, v2] (r.toList ++ []) S1 G1) : rWP d h0 m ad 88 Q 20 [sR (some m), v1, v2] [] S G := by
  intro h bc bs R
  refine w_aload_n mb88 dX7_of_20 21 rfl rfl ?_
  refine w_iconst mb88 dX7_of_21 22 rfl (2) (by decide) ?_
  refine w_virtual (a := m) (c := 7) (st := []) mb88 dX7_of_22 25 rfl 73 1 [sI (2)] _ rfl rfl rfl lc7_164 R.2.1 (Nat.le_of_ble_eq_true rfl) (C h 0 0 R) (Nat.zero_le _) (Nat.zero_le _) (fun r h1 hP => ?_)
  obtain ⟨S1, G1, R1, hP⟩ := hP
  exact K r S1 G1 hP h1 _ _ R1

theorem bX7_of_25 {d : Nat} {h0 : hp} {m : Nat} {ad : Nat → Nat} {Q : Option sV → rS → rG → Prop} {S : rS} {G : rG} {v1 : sV} {v2 : sV} {y0 : Int32} (K : Q (some (sI (y0))) S G) : rWP d h0 m ad 88 Q 25 [sR (some m), v1, v2] [sI (y0)] S G := by
  intro h bc bs R
  refine w_iret mb88 dX7_of_25 rfl ?_
  exact ⟨_, _, R, K⟩

theorem bX7_of_26 {d : Nat} {h0 : hp} {m : Nat} {ad : Nat → Nat} {Q : Option sV → rS → rG → Prop} {S : rS} {G : rG} {v1 : sV} {x2 : Int32} (K0 : (x2).toInt = 0 → rWP d h0 m ad 88 Q 56 [sR (some m), v1, sI (x2)] [] S G) (K1 : (x2).toInt = 1 → rWP d h0 m ad 88 Q 63 [sR (some m), v1, sI (x2)] [] S G) (K2 : (x2).toInt = 2 → rWP d h0 m ad 88 Q 78 [sR (some m), v1, sI (x2)] [] S G) (K3 : (x2).toInt = 3 → rWP d h0 m ad 88 Q 85 [sR (some m), v1, sI (x2)] [] S G) (Kd : (x2).toInt < 0 ∨ 3 < (x2).toInt → rWP d h0 m ad 88 Q 92 [sR (some m), v1, sI (x2)] [] S G) : rWP d h0 m ad 88 Q 26 [sR (some m), v1, sI (x2)] [] S G := by
  intro h bc bs R
  refine w_iload_n mb88 dX7_of_26 27 rfl rfl ?_
  refine w_table mb88 dX7_of_27 (fun z => ⟨92, by decide, Kd z h bc bs R⟩) (fun z => ?_)
  have zz : (x2).toInt = 0 ∨ (x2).toInt = 1 ∨ (x2).toInt = 2 ∨ (x2).toInt = 3 := by omega
  rcases zz with zz | zz | zz | zz
  · exact ⟨_, 56, by rw [zz]; rfl, by decide, K0 zz h bc bs R⟩
  · exact ⟨_, 63, by rw [zz]; rfl, by decide, K1 zz h bc bs R⟩
  · exact ⟨_, 78, by rw [zz]; rfl, by decide, K2 zz h bc bs R⟩
  · exact ⟨_, 85, by rw [zz]; rfl, by decide, K3 zz h bc bs R⟩

theorem bX7_of_56 {d : Nat} {h0 : hp} {m : Nat} {ad : Nat → Nat} {Q : Option sV → rS → rG → Prop} {S : rS} {G : rG} {x1 : Int32} {v2 : sV} (h1 : vp_in (x1) 24) (K : Q (some (sI ((G 2) (x1).toNatClampNeg))) S G) : rWP d h0 m ad 88 Q 56 [sR (some m), sI (x1), v2] [] S G := by
  intro h bc bs R
  refine w_aload_n mb88 dX7_of_56 57 rfl rfl ?_
  refine x_geta mb88 dX7_of_57 60 rfl R lf7_16 rfl (by decide) ?_
  refine w_iload_n mb88 dX7_of_60 61 rfl rfl ?_
  refine x_iald mb88 dX7_of_61 62 rfl R 24 rfl (by decide) rfl h1 ?_
  refine w_iret mb88 dX7_of_62 rfl ?_
  exact ⟨_, _, R, K⟩

theorem bX7_of_63 {d : Nat} {h0 : hp} {m : Nat} {ad : Nat → Nat} {Q : Option sV → rS → rG → Prop} {S : rS} {G : rG} {x1 : Int32} {v2 : sV} (h1 : vp_in (x1) 24) (K1 : ((G 5) (x1).toNatClampNeg) = 0 → rWP d h0 m ad 88 Q 76 [sR (some m), sI (x1), v2] [] S G) (K2 : ¬ ((G 5) (x1).toNatClampNeg) = 0 → rWP d h0 m ad 88 Q 72 [sR (some m), sI (x1), v2] [] S G) : rWP d h0 m ad 88 Q 63 [sR (some m), sI (x1), v2] [] S G := by
  intro h bc bs R
  refine w_aload_n mb88 dX7_of_63 64 rfl rfl ?_
  refine x_geta mb88 dX7_of_64 67 rfl R lf7_25 rfl (by decide) ?_
  refine w_iload_n mb88 dX7_of_67 68 rfl rfl ?_
  refine x_bald mb88 dX7_of_68 69 rfl R 24 rfl (by decide) rfl h1 ?_
  refine w_if_eq mb88 dX7_of_69 76 72 (by decide) rfl (fun z => ?_) (fun z => ?_)
  · exact K1 z h bc bs R
  · exact K2 z h bc bs R

theorem bX7_of_72 {d : Nat} {h0 : hp} {m : Nat} {ad : Nat → Nat} {Q : Option sV → rS → rG → Prop} {S : rS} {G : rG} {v1 : sV} {v2 : sV} (K : rWP d h0 m ad 88 Q 77 [sR (some m), v1, v2] [sI (1)] S G) : rWP d h0 m ad 88 Q 72 [sR (some m), v1, v2] [] S G := by
  intro h bc bs R
  refine w_iconst mb88 dX7_of_72 73 rfl (1) (by decide) ?_
  refine w_goto mb88 dX7_of_73 77 (by decide) ?_
  exact K h bc bs R

theorem bX7_of_76 {d : Nat} {h0 : hp} {m : Nat} {ad : Nat → Nat} {Q : Option sV → rS → rG → Prop} {S : rS} {G : rG} {v1 : sV} {v2 : sV} (K : rWP d h0 m ad 88 Q 77 [sR (some m), v1, v2] [sI (0)] S G) : rWP d h0 m ad 88 Q 76 [sR (some m), v1, v2] [] S G := by
  intro h bc bs R
  refine w_iconst mb88 dX7_of_76 77 rfl (0) (by decide) ?_
  exact K h bc bs R

theorem bX7_of_77 {d : Nat} {h0 : hp} {m : Nat} {ad : Nat → Nat} {Q : Option sV → rS → rG → Prop} {S : rS} {G : rG} {v1 : sV} {v2 : sV} {y0 : Int32} (K : Q (some (sI (y0))) S G) : rWP d h0 m ad 88 Q 77 [sR (some m), v1, v2] [sI (y0)] S G := by
  intro h bc bs R
  refine w_iret mb88 dX7_of_77 rfl ?_
  exact ⟨_, _, R, K⟩

theorem bX7_of_78 {d : Nat} {h0 : hp} {m : Nat} {ad : Nat → Nat} {Q : Option sV → rS → rG → Prop} {S : rS} {G : rG} {x1 : Int32} {v2 : sV} (h1 : vp_in (x1) 24) (K : Q (some (sI ((G 3) (x1).toNatClampNeg))) S G) : rWP d h0 m ad 88 Q 78 [sR (some m), sI (x1), v2] [] S G := by
  intro h bc bs R
  refine w_aload_n mb88 dX7_of_78 79 rfl rfl ?_
  refine x_geta mb88 dX7_of_79 82 rfl R lf7_19 rfl (by decide) ?_
  refine w_iload_n mb88 dX7_of_82 83 rfl rfl ?_
  refine x_iald mb88 dX7_of_83 84 rfl R 24 rfl (by decide) rfl h1 ?_
  refine w_iret mb88 dX7_of_84 rfl ?_
  exact ⟨_, _, R, K⟩

theorem bX7_of_85 {d : Nat} {h0 : hp} {m : Nat} {ad : Nat → Nat} {Q : Option sV → rS → rG → Prop} {S : rS} {G : rG} {x1 : Int32} {v2 : sV} (h1 : vp_in (x1) 24) (K : Q (some (sI ((G 7) (x1).toNatClampNeg))) S G) : rWP d h0 m ad 88 Q 85 [sR (some m), sI (x1), v2] [] S G := by
  intro h bc bs R
  refine w_aload_n mb88 dX7_of_85 86 rfl rfl ?_
  refine x_geta mb88 dX7_of_86 89 rfl R lf7_29 rfl (by decide) ?_
  refine w_iload_n mb88 dX7_of_89 90 rfl rfl ?_
  refine x_iald mb88 dX7_of_90 91 rfl R 24 rfl (by decide) rfl h1 ?_
  refine w_iret mb88 dX7_of_91 rfl ?_
  exact ⟨_, _, R, K⟩

theorem bX7_of_92 {d : Nat} {h0 : hp} {m : Nat} {ad : Nat → Nat} {Q : Option sV → rS → rG → Prop} {S : rS} {G : rG} {x1 : Int32} {x2 : Int32} (h1 : vp_in (x1) 24) (K1 : ((G 3) (x1).toNatClampNeg) ≤ ((x2) - (4)) → rWP d h0 m ad 88 Q 120 [sR (some m), sI (x1), sI (x2)] [] S G) (K2 : ¬ ((G 3) (x1).toNatClampNeg) ≤ ((x2) - (4)) → rWP d h0 m ad 88 Q 104 [sR (some m), sI (x1), sI (x2)] [] S G) : rWP d h0 m ad 88 Q 92 [sR (some m), sI (x1), sI (x2)] [] S G := by
  intro h bc bs R
  refine w_iload_n mb88 dX7_of_92 93 rfl rfl ?_
  refine w_iconst mb88 dX7_of_93 94 rfl (4) (by decide) ?_
  refine w_isub mb88 dX7_of_94 95 rfl ?_
  refine w_aload_n mb88 dX7_of_95 96 rfl rfl ?_
  refine x_geta mb88 dX7_of_96 99 rfl R lf7_19 rfl (by decide) ?_
  refine w_iload_n mb88 dX7_of_99 100 rfl rfl ?_
  refine x_iald mb88 dX7_of_100 101 rfl R 24 rfl (by decide) rfl h1 ?_
  refine w_icmp_ge mb88 dX7_of_101 120 104 (by decide) rfl (fun z => ?_) (fun z => ?_)
  · exact K1 z h bc bs R
  · exact K2 z h bc bs R

theorem bX7_of_104 {d : Nat} {h0 : hp} {m : Nat} {ad : Nat → Nat} {Q : Option sV → rS → rG → Prop} {S : rS} {G : rG} {x1 : Int32} {x2 : Int32} (h1 : vp_in ((((6) * (x1)) + (x2)) - (4)) 144) (K : rWP d h0 m ad 88 Q 121 [sR (some m), sI (x1), sI (x2)] [sI ((G 4) ((((6) * (x1)) + (x2)) - (4)).toNatClampNeg)] S G) : rWP d h0 m ad 88 Q 104 [sR (some m), sI (x1), sI (x2)] [] S G := by
  intro h bc bs R
  refine w_aload_n mb88 dX7_of_104 105 rfl rfl ?_
  refine x_geta mb88 dX7_of_105 108 rfl R lf7_22 rfl (by decide) ?_
  refine w_bipush mb88 dX7_of_108 110 rfl (6) (by decide) ?_
  refine w_iload_n mb88 dX7_of_110 111 rfl rfl ?_
  refine w_imul mb88 dX7_of_111 112 rfl ?_
  refine w_iload_n mb88 dX7_of_112 113 rfl rfl ?_
  refine w_iadd mb88 dX7_of_113 114 rfl ?_
  refine w_iconst mb88 dX7_of_114 115 rfl (4) (by decide) ?_
  refine w_isub mb88 dX7_of_115 116 rfl ?_
  refine x_iald mb88 dX7_of_116 117 rfl R 144 rfl (by decide) rfl h1 ?_
  refine w_goto mb88 dX7_of_117 121 (by decide) ?_
  exact K h bc bs R

theorem bX7_of_120 {d : Nat} {h0 : hp} {m : Nat} {ad : Nat → Nat} {Q : Option sV → rS → rG → Prop} {S : rS} {G : rG} {v1 : sV} {v2 : sV} (K : rWP d h0 m ad 88 Q 121 [sR (some m), v1, v2] [sI ((-1))] S G) : rWP d h0 m ad 88 Q 120 [sR (some m), v1, v2] [] S G := by
  intro h bc bs R
  refine w_iconst mb88 dX7_of_120 121 rfl ((-1)) (by decide) ?_
  exact K h bc bs R

theorem bX7_of_121 {d : Nat} {h0 : hp} {m : Nat} {ad : Nat → Nat} {Q : Option sV → rS → rG → Prop} {S : rS} {G : rG} {v1 : sV} {v2 : sV} {y0 : Int32} (K : Q (some (sI (y0))) S G) : rWP d h0 m ad 88 Q 121 [sR (some m), v1, v2] [sI (y0)] S G := by
  intro h bc bs R
  refine w_iret mb88 dX7_of_121 rfl ?_
  exact ⟨_, _, R, K⟩

theorem bX7_trace_0 {d : Nat} {h0 : hp} {m : Nat} {ad : Nat → Nat} {Q : Option sV → rS → rG → Prop} {S : rS} {G : rG} {x1 : Int32} {v2 : sV} {v3 : sV} {v4 : sV} {P : Option sV → rS → rG → Prop} (C : rM d h0 m ad 75 [sR (some m), sI (x1)] S G P) (K : ∀ r S1 G1, P r S1 G1 → rWP d h0 m ad 89 Q 5 [sR (some m), sI (x1), v2, v3, v4] (r.toList ++ []) S1 G1) : rWP d h0 m ad 89 Q 0 [sR (some m), sI (x1), v2, v3, v4] [] S G := by
  intro h bc bs R
  refine w_aload_n mb89 dX7_trace_0 1 rfl rfl ?_
  refine w_iload_n mb89 dX7_trace_1 2 rfl rfl ?_
  refine w_virtual (a := m) (c := 7) (st := []) mb89 dX7_trace_2 5 rfl 75 1 [sI (x1)] _ rfl rfl rfl lc7_168 R.2.1 (Nat.le_of_ble_eq_true rfl) (C h 0 0 R) (Nat.zero_le _) (Nat.zero_le _) (fun r h1 hP => ?_)
  obtain ⟨S1, G1, R1, hP⟩ := hP
  exact K r S1 G1 hP h1 _ _ R1

theorem bX7_trace_5 {d : Nat} {h0 : hp} {m : Nat} {ad : Nat → Nat} {Q : Option sV → rS → rG → Prop} {S : rS} {G : rG} {v1 : sV} {v2 : sV} {v3 : sV} {v4 : sV} {y0 : Int32} (K1 : (y0) = 0 → rWP d h0 m ad 89 Q 27 [sR (some m), v1, v2, v3, v4] [] S G) (K2 : ¬ (y0) = 0 → rWP d h0 m ad 89 Q 8 [sR (some m), v1, v2, v3, v4] [] S G) : rWP d h0 m ad 89 Q 5 [sR (some m), v1, v2, v3, v4] [sI (y0)] S G := by
  intro h bc bs R
  refine w_if_eq mb89 dX7_trace_5 27 8 (by decide) rfl (fun z => ?_) (fun z => ?_)
  · exact K1 z h bc bs R
  · exact K2 z h bc bs R

theorem bX7_trace_8 {d : Nat} {h0 : hp} {m : Nat} {ad : Nat → Nat} {Q : Option sV → rS → rG → Prop} {S : rS} {G : rG} {v1 : sV} {x2 : Int32} {v3 : sV} {v4 : sV} (K1 : (x2) < 0 → rWP d h0 m ad 89 Q 27 [sR (some m), v1, sI (x2), v3, v4] [] S G) (K2 : ¬ (x2) < 0 → rWP d h0 m ad 89 Q 12 [sR (some m), v1, sI (x2), v3, v4] [] S G) : rWP d h0 m ad 89 Q 8 [sR (some m), v1, sI (x2), v3, v4] [] S G := by
  intro h bc bs R
  refine w_iload_n mb89 dX7_trace_8 9 rfl rfl ?_
  refine w_if_lt mb89 dX7_trace_9 27 12 (by decide) rfl (fun z => ?_) (fun z => ?_)
  · exact K1 z h bc bs R
  · exact K2 z h bc bs R

theorem bX7_trace_12 {d : Nat} {h0 : hp} {m : Nat} {ad : Nat → Nat} {Q : Option sV → rS → rG → Prop} {S : rS} {G : rG} {x1 : Int32} {x2 : Int32} {v3 : sV} {v4 : sV} (h1 : vp_in (x1) 24) (K1 : ((G 7) (x1).toNatClampNeg) ≤ (x2) → rWP d h0 m ad 89 Q 27 [sR (some m), sI (x1), sI (x2), v3, v4] [] S G) (K2 : ¬ ((G 7) (x1).toNatClampNeg) ≤ (x2) → rWP d h0 m ad 89 Q 22 [sR (some m), sI (x1), sI (x2), v3, v4] [] S G) : rWP d h0 m ad 89 Q 12 [sR (some m), sI (x1), sI (x2), v3, v4] [] S G := by
  intro h bc bs R
  refine w_iload_n mb89 dX7_trace_12 13 rfl rfl ?_
  refine w_aload_n mb89 dX7_trace_13 14 rfl rfl ?_
  refine x_geta mb89 dX7_trace_14 17 rfl R lf7_29 rfl (by decide) ?_
  refine w_iload_n mb89 dX7_trace_17 18 rfl rfl ?_
  refine x_iald mb89 dX7_trace_18 19 rfl R 24 rfl (by decide) rfl h1 ?_
  refine w_icmp_ge mb89 dX7_trace_19 27 22 (by decide) rfl (fun z => ?_) (fun z => ?_)
  · exact K1 z h bc bs R
  · exact K2 z h bc bs R

theorem bX7_trace_22 {d : Nat} {h0 : hp} {m : Nat} {ad : Nat → Nat} {Q : Option sV → rS → rG → Prop} {S : rS} {G : rG} {v1 : sV} {v2 : sV} {x3 : Int32} {v4 : sV} (K1 : ((-1)) ≤ (x3) → rWP d h0 m ad 89 Q 29 [sR (some m), v1, v2, sI (x3), v4] [] S G) (K2 : ¬ ((-1)) ≤ (x3) → rWP d h0 m ad 89 Q 27 [sR (some m), v1, v2, sI (x3), v4] [] S G) : rWP d h0 m ad 89 Q 22 [sR (some m), v1, v2, sI (x3), v4] [] S G := by
  intro h bc bs R
  refine w_iload_n mb89 dX7_trace_22 23 rfl rfl ?_
  refine w_iconst mb89 dX7_trace_23 24 rfl ((-1)) (by decide) ?_
  refine w_icmp_ge mb89 dX7_trace_24 29 27 (by decide) rfl (fun z => ?_) (fun z => ?_)
  · exact K1 z h bc bs R
  · exact K2 z h bc bs R

theorem bX7_trace_27 {d : Nat} {h0 : hp} {m : Nat} {ad : Nat → Nat} {Q : Option sV → rS → rG → Prop} {S : rS} {G : rG} {v1 : sV} {v2 : sV} {v3 : sV} {v4 : sV} (K : Q (some (sI ((-1)))) S G) : rWP d h0 m ad 89 Q 27 [sR (some m), v1, v2, v3, v4] [] S G := by
  intro h bc bs R
  refine w_iconst mb89 dX7_trace_27 28 rfl ((-1)) (by decide) ?_
  refine w_iret mb89 dX7_trace_28 rfl ?_
  exact ⟨_, _, R, K⟩

theorem bX7_trace_29 {d : Nat} {h0 : hp} {m : Nat} {ad : Nat → Nat} {Q : Option sV → rS → rG → Prop} {S : rS} {G : rG} {x1 : Int32} {x2 : Int32} {v3 : sV} {v4 : sV} {P : Option sV → rS → rG → Prop} (C : rM d h0 m ad 90 [sR (some m), sI (x1), sI (x2)] S G P) (K : ∀ r S1 G1, P r S1 G1 → rWP d h0 m ad 89 Q 35 [sR (some m), sI (x1), sI (x2), v3, v4] (r.toList ++ []) S1 G1) : rWP d h0 m ad 89 Q 29 [sR (some m), sI (x1), sI (x2), v3, v4] [] S G := by
  intro h bc bs R
  refine w_aload_n mb89 dX7_trace_29 30 rfl rfl ?_
  refine w_iload_n mb89 dX7_trace_30 31 rfl rfl ?_
  refine w_iload_n mb89 dX7_trace_31 32 rfl rfl ?_
  refine w_virtual (a := m) (c := 7) (st := []) mb89 dX7_trace_32 35 rfl 90 2 [sI (x1), sI (x2)] _ rfl rfl rfl lc7_174 R.2.1 (Nat.le_of_ble_eq_true rfl) (C h 0 0 R) (Nat.zero_le _) (Nat.zero_le _) (fun r h1 hP => ?_)
  obtain ⟨S1, G1, R1, hP⟩ := hP
  exact K r S1 G1 hP h1 _ _ R1

theorem bX7_trace_35 {d : Nat} {h0 : hp} {m : Nat} {ad : Nat → Nat} {Q : Option sV → rS → rG → Prop} {S : rS} {G : rG} {v1 : sV} {v2 : sV} {x3 : Int32} {v4 : sV} {y0 : Int32} (K1 : ¬ (x3) = ((-1)) → rWP d h0 m ad 89 Q 50 [sR (some m), v1, v2, sI (x3), sI (y0)] [] S G) (K2 : (x3) = ((-1)) → rWP d h0 m ad 89 Q 42 [sR (some m), v1, v2, sI (x3), sI (y0)] [] S G) : rWP d h0 m ad 89 Q 35 [sR (some m), v1, v2, sI (x3), v4] [sI (y0)] S G := by
  intro h bc bs R
  refine w_istore mb89 dX7_trace_35 37 rfl [sR (some m), v1, v2, sI (x3), sI (y0)] (Nat.le_of_ble_eq_true rfl) rfl ?_
  refine w_iload_n mb89 dX7_trace_37 38 rfl rfl ?_
  refine w_iconst mb89 dX7_trace_38 39 rfl ((-1)) (by decide) ?_
  refine w_icmp_ne mb89 dX7_trace_39 50 42 (by decide) rfl (fun z => ?_) (fun z => ?_)
  · exact K1 z h bc bs R
  · exact K2 z h bc bs R

theorem bX7_trace_42 {d : Nat} {h0 : hp} {m : Nat} {ad : Nat → Nat} {Q : Option sV → rS → rG → Prop} {S : rS} {G : rG} {v1 : sV} {v2 : sV} {v3 : sV} {x4 : Int32} (h1 : vp_in (x4) 96) (K : Q (some (sI ((G 9) (x4).toNatClampNeg))) S G) : rWP d h0 m ad 89 Q 42 [sR (some m), v1, v2, v3, sI (x4)] [] S G := by
  intro h bc bs R
  refine w_aload_n mb89 dX7_trace_42 43 rfl rfl ?_
  refine x_geta mb89 dX7_trace_43 46 rfl R lf7_35 rfl (by decide) ?_
  refine w_iload mb89 dX7_trace_46 48 rfl rfl ?_
  refine x_iald mb89 dX7_trace_48 49 rfl R 96 rfl (by decide) rfl h1 ?_
  refine w_iret mb89 dX7_trace_49 rfl ?_
  exact ⟨_, _, R, K⟩

theorem bX7_trace_50 {d : Nat} {h0 : hp} {m : Nat} {ad : Nat → Nat} {Q : Option sV → rS → rG → Prop} {S : rS} {G : rG} {v1 : sV} {v2 : sV} {x3 : Int32} {x4 : Int32} (h1 : vp_in (x4) 96) (K1 : ((G 9) (x4).toNatClampNeg) ≤ (x3) → rWP d h0 m ad 89 Q 76 [sR (some m), v1, v2, sI (x3), sI (x4)] [] S G) (K2 : ¬ ((G 9) (x4).toNatClampNeg) ≤ (x3) → rWP d h0 m ad 89 Q 61 [sR (some m), v1, v2, sI (x3), sI (x4)] [] S G) : rWP d h0 m ad 89 Q 50 [sR (some m), v1, v2, sI (x3), sI (x4)] [] S G := by
  intro h bc bs R
  refine w_iload_n mb89 dX7_trace_50 51 rfl rfl ?_
  refine w_aload_n mb89 dX7_trace_51 52 rfl rfl ?_
  refine x_geta mb89 dX7_trace_52 55 rfl R lf7_35 rfl (by decide) ?_
  refine w_iload mb89 dX7_trace_55 57 rfl rfl ?_
  refine x_iald mb89 dX7_trace_57 58 rfl R 96 rfl (by decide) rfl h1 ?_
  refine w_icmp_ge mb89 dX7_trace_58 76 61 (by decide) rfl (fun z => ?_) (fun z => ?_)
  · exact K1 z h bc bs R
  · exact K2 z h bc bs R

theorem bX7_trace_61 {d : Nat} {h0 : hp} {m : Nat} {ad : Nat → Nat} {Q : Option sV → rS → rG → Prop} {S : rS} {G : rG} {v1 : sV} {v2 : sV} {x3 : Int32} {x4 : Int32} (h1 : vp_in (((25) * (x4)) + (x3)) 2400) (K : rWP d h0 m ad 89 Q 77 [sR (some m), v1, v2, sI (x3), sI (x4)] [sI ((G 14) (((25) * (x4)) + (x3)).toNatClampNeg)] S G) : rWP d h0 m ad 89 Q 61 [sR (some m), v1, v2, sI (x3), sI (x4)] [] S G := by
  intro h bc bs R
  refine w_aload_n mb89 dX7_trace_61 62 rfl rfl ?_
  refine x_geta mb89 dX7_trace_62 65 rfl R lf7_50 rfl (by decide) ?_
  refine w_bipush mb89 dX7_trace_65 67 rfl (25) (by decide) ?_
  refine w_iload mb89 dX7_trace_67 69 rfl rfl ?_
  refine w_imul mb89 dX7_trace_69 70 rfl ?_
  refine w_iload_n mb89 dX7_trace_70 71 rfl rfl ?_
  refine w_iadd mb89 dX7_trace_71 72 rfl ?_
  refine x_iald mb89 dX7_trace_72 73 rfl R 2400 rfl (by decide) rfl h1 ?_
  refine w_goto mb89 dX7_trace_73 77 (by decide) ?_
  exact K h bc bs R

theorem bX7_trace_76 {d : Nat} {h0 : hp} {m : Nat} {ad : Nat → Nat} {Q : Option sV → rS → rG → Prop} {S : rS} {G : rG} {v1 : sV} {v2 : sV} {v3 : sV} {v4 : sV} (K : rWP d h0 m ad 89 Q 77 [sR (some m), v1, v2, v3, v4] [sI ((-1))] S G) : rWP d h0 m ad 89 Q 76 [sR (some m), v1, v2, v3, v4] [] S G := by
  intro h bc bs R
  refine w_iconst mb89 dX7_trace_76 77 rfl ((-1)) (by decide) ?_
  exact K h bc bs R

theorem bX7_trace_77 {d : Nat} {h0 : hp} {m : Nat} {ad : Nat → Nat} {Q : Option sV → rS → rG → Prop} {S : rS} {G : rG} {v1 : sV} {v2 : sV} {v3 : sV} {v4 : sV} {y0 : Int32} (K : Q (some (sI (y0))) S G) : rWP d h0 m ad 89 Q 77 [sR (some m), v1, v2, v3, v4] [sI (y0)] S G := by
  intro h bc bs R
  refine w_iret mb89 dX7_trace_77 rfl ?_
  exact ⟨_, _, R, K⟩

theorem bX7_slotOf_0 {d : Nat} {h0 : hp} {m : Nat} {ad : Nat → Nat} {Q : Option sV → rS → rG → Prop} {S : rS} {G : rG} {x1 : Int32} {x2 : Int32} (h1 : vp_in (((4) * (x1)) + (x2)) 96) (K : Q (some (sI (((4) * (x1)) + ((G 8) (((4) * (x1)) + (x2)).toNatClampNeg)))) S G) : rWP d h0 m ad 90 Q 0 [sR (some m), sI (x1), sI (x2)] [] S G := by
  intro h bc bs R
  refine w_iconst mb90 dX7_slotOf_0 1 rfl (4) (by decide) ?_
  refine w_iload_n mb90 dX7_slotOf_1 2 rfl rfl ?_
  refine w_imul mb90 dX7_slotOf_2 3 rfl ?_
  refine w_aload_n mb90 dX7_slotOf_3 4 rfl rfl ?_
  refine x_geta mb90 dX7_slotOf_4 7 rfl R lf7_32 rfl (by decide) ?_
  refine w_iconst mb90 dX7_slotOf_7 8 rfl (4) (by decide) ?_
  refine w_iload_n mb90 dX7_slotOf_8 9 rfl rfl ?_
  refine w_imul mb90 dX7_slotOf_9 10 rfl ?_
  refine w_iload_n mb90 dX7_slotOf_10 11 rfl rfl ?_
  refine w_iadd mb90 dX7_slotOf_11 12 rfl ?_
  refine x_iald mb90 dX7_slotOf_12 13 rfl R 96 rfl (by decide) rfl h1 ?_
  refine w_iadd mb90 dX7_slotOf_13 14 rfl ?_
  refine w_iret mb90 dX7_slotOf_14 rfl ?_
  exact ⟨_, _, R, K⟩

theorem bX7_gotFailure_0 {d : Nat} {h0 : hp} {m : Nat} {ad : Nat → Nat} {Q : Option sV → rS → rG → Prop} {S : rS} {G : rG} {x1 : Int32} {x2 : Int32} (K : Q (none) (va_up (va_up (va_up S 44 (0)) 45 (x1)) 46 (x2)) G) : rWP d h0 m ad 91 Q 0 [sR (some m), sI (x1), sI (x2)] [] S G := by
  intro h bc bs R
  refine w_aload_n mb91 dX7_gotFailure_0 1 rfl rfl ?_
  refine w_iconst mb91 dX7_gotFailure_1 2 rfl (0) (by decide) ?_
  refine x_puti mb91 dX7_gotFailure_2 5 rfl R (lp7_178 _) rfl (fun h R => ?_)
  refine w_aload_n mb91 dX7_gotFailure_5 6 rfl rfl ?_
  refine w_iload_n mb91 dX7_gotFailure_6 7 rfl rfl ?_
  refine x_puti mb91 dX7_gotFailure_7 10 rfl R (lp7_181 _) rfl (fun h R => ?_)
  refine w_aload_n mb91 dX7_gotFailure_10 11 rfl rfl ?_
  refine w_iload_n mb91 dX7_gotFailure_11 12 rfl rfl ?_
  refine x_puti mb91 dX7_gotFailure_12 15 rfl R (lp7_184 _) rfl (fun h R => ?_)
  refine w_vret mb91 dX7_gotFailure_15 rfl ?_
  exact ⟨_, _, R, K⟩

theorem bX7_gotRow_0 {d : Nat} {h0 : hp} {m : Nat} {ad : Nat → Nat} {Q : Option sV → rS → rG → Prop} {S : rS} {G : rG} {v1 : sV} {v2 : sV} {x3 : Int32} {v4 : sV} (K : rWP d h0 m ad 92 Q 18 [sR (some m), v1, v2, sI (x3), sI (0)] [] (va_up (va_up (va_up S 44 (x3)) 45 (0)) 46 (0)) G) : rWP d h0 m ad 92 Q 0 [sR (some m), v1, v2, sI (x3), v4] [] S G := by
  intro h bc bs R
  refine w_aload_n mb92 dX7_gotRow_0 1 rfl rfl ?_
  refine w_iload_n mb92 dX7_gotRow_1 2 rfl rfl ?_
  refine x_puti mb92 dX7_gotRow_2 5 rfl R (lp7_178 _) rfl (fun h R => ?_)
  refine w_aload_n mb92 dX7_gotRow_5 6 rfl rfl ?_
  refine w_iconst mb92 dX7_gotRow_6 7 rfl (0) (by decide) ?_
  refine x_puti mb92 dX7_gotRow_7 10 rfl R (lp7_181 _) rfl (fun h R => ?_)
  refine w_aload_n mb92 dX7_gotRow_10 11 rfl rfl ?_
  refine w_iconst mb92 dX7_gotRow_11 12 rfl (0) (by decide) ?_
  refine x_puti mb92 dX7_gotRow_12 15 rfl R (lp7_184 _) rfl (fun h R => ?_)
  refine w_iconst mb92 dX7_gotRow_15 16 rfl (0) (by decide) ?_
  refine w_istore mb92 dX7_gotRow_16 18 rfl [sR (some m), v1, v2, sI (x3), sI (0)] (Nat.le_of_ble_eq_true rfl) rfl ?_
  exact K h bc bs R

theorem bX7_gotRow_18 {d : Nat} {h0 : hp} {m : Nat} {ad : Nat → Nat} {Q : Option sV → rS → rG → Prop} {S : rS} {G : rG} {v1 : sV} {v2 : sV} {x3 : Int32} {x4 : Int32} (K1 : (x3) ≤ (x4) → rWP d h0 m ad 92 Q 43 [sR (some m), v1, v2, sI (x3), sI (x4)] [] S G) (K2 : ¬ (x3) ≤ (x4) → rWP d h0 m ad 92 Q 24 [sR (some m), v1, v2, sI (x3), sI (x4)] [] S G) : rWP d h0 m ad 92 Q 18 [sR (some m), v1, v2, sI (x3), sI (x4)] [] S G := by
  intro h bc bs R
  refine w_iload mb92 dX7_gotRow_18 20 rfl rfl ?_
  refine w_iload_n mb92 dX7_gotRow_20 21 rfl rfl ?_
  refine w_icmp_ge mb92 dX7_gotRow_21 43 24 (by decide) rfl (fun z => ?_) (fun z => ?_)
  · exact K1 z h bc bs R
  · exact K2 z h bc bs R

theorem bX7_gotRow_24 {d : Nat} {h0 : hp} {m : Nat} {ad : Nat → Nat} {Q : Option sV → rS → rG → Prop} {S : rS} {G : rG} {k1 : Nat} {x2 : Int32} {v3 : sV} {x4 : Int32} (h1 : vp_in ((x2) + (x4)) (rL k1)) (h2 : rL k1 ≠ 0) (h3 : rK k1 = 20) (h4 : vp_in (x4) 24) (K : rWP d h0 m ad 92 Q 18 [sR (some m), sR (some (ad k1)), sI (x2), v3, sI (x4 + 1)] [] S (gup G 47 (x4).toNatClampNeg (G k1 ((x2) + (x4)).toNatClampNeg))) : rWP d h0 m ad 92 Q 24 [sR (some m), sR (some (ad k1)), sI (x2), v3, sI (x4)] [] S G := by
  intro h bc bs R
  refine w_aload_n mb92 dX7_gotRow_24 25 rfl rfl ?_
  refine x_geta mb92 dX7_gotRow_25 28 rfl R lf7_135 rfl (by decide) ?_
  refine w_iload mb92 dX7_gotRow_28 30 rfl rfl ?_
  refine w_aload_n mb92 dX7_gotRow_30 31 rfl rfl ?_
  refine w_iload_n mb92 dX7_gotRow_31 32 rfl rfl ?_
  refine w_iload mb92 dX7_gotRow_32 34 rfl rfl ?_
  refine w_iadd mb92 dX7_gotRow_34 35 rfl ?_
  refine x_iald mb92 dX7_gotRow_35 36 rfl R _ rfl h2 h3 h1 ?_
  refine x_iast mb92 dX7_gotRow_36 37 rfl R 24 rfl (by decide) rfl h4 (fun h R => ?_)
  refine w_iinc mb92 dX7_gotRow_37 40 rfl rfl (x4 + 1) rfl [sR (some m), sR (some (ad k1)), sI (x2), v3, sI (x4 + 1)] rfl ?_
  refine w_goto mb92 dX7_gotRow_40 18 (by decide) ?_
  exact K h bc bs R

theorem bX7_gotRow_43 {d : Nat} {h0 : hp} {m : Nat} {ad : Nat → Nat} {Q : Option sV → rS → rG → Prop} {S : rS} {G : rG} {v1 : sV} {v2 : sV} {v3 : sV} {v4 : sV} (K : Q (none) S G) : rWP d h0 m ad 92 Q 43 [sR (some m), v1, v2, v3, v4] [] S G := by
  intro h bc bs R
  refine w_vret mb92 dX7_gotRow_43 rfl ?_
  exact ⟨_, _, R, K⟩

theorem bX7_get_0 {d : Nat} {h0 : hp} {m : Nat} {ad : Nat → Nat} {Q : Option sV → rS → rG → Prop} {S : rS} {G : rG} {x1 : Int32} {v2 : sV} (K1 : (16) ≤ (x1) → rWP d h0 m ad 93 Q 45 [sR (some m), sI (x1), v2] [] S G) (K2 : ¬ (16) ≤ (x1) → rWP d h0 m ad 93 Q 6 [sR (some m), sI (x1), v2] [] S G) : rWP d h0 m ad 93 Q 0 [sR (some m), sI (x1), v2] [] S G := by
  intro h bc bs R
  refine w_iload_n mb93 dX7_get_0 1 rfl rfl ?_
  refine w_bipush mb93 dX7_get_1 3 rfl (16) (by decide) ?_
  refine w_icmp_ge mb93 dX7_get_3 45 6 (by decide) rfl (fun z => ?_) (fun z => ?_)
  · exact K1 z h bc bs R
  · exact K2 z h bc bs R

theorem bX7_get_6 {d : Nat} {h0 : hp} {m : Nat} {ad : Nat → Nat} {Q : Option sV → rS → rG → Prop} {S : rS} {G : rG} {x1 : Int32} {v2 : sV} (h1 : vp_in (x1) 16) (K1 : ¬ ((G 0) (x1).toNatClampNeg) = ((-1)) → rWP d h0 m ad 93 Q 25 [sR (some m), sI (x1), v2] [] S G) (K2 : ((G 0) (x1).toNatClampNeg) = ((-1)) → rWP d h0 m ad 93 Q 16 [sR (some m), sI (x1), v2] [] S G) : rWP d h0 m ad 93 Q 6 [sR (some m), sI (x1), v2] [] S G := by
  intro h bc bs R
  refine w_aload_n mb93 dX7_get_6 7 rfl rfl ?_
  refine x_geta mb93 dX7_get_7 10 rfl R lf7_7 rfl (by decide) ?_
  refine w_iload_n mb93 dX7_get_10 11 rfl rfl ?_
  refine x_iald mb93 dX7_get_11 12 rfl R 16 rfl (by decide) rfl h1 ?_
  refine w_iconst mb93 dX7_get_12 13 rfl ((-1)) (by decide) ?_
  refine w_icmp_ne mb93 dX7_get_13 25 16 (by decide) rfl (fun z => ?_) (fun z => ?_)
  · exact K1 z h bc bs R
  · exact K2 z h bc bs R

theorem bX7_get_16 {d : Nat} {h0 : hp} {m : Nat} {ad : Nat → Nat} {Q : Option sV → rS → rG → Prop} {S : rS} {G : rG} {x1 : Int32} {v2 : sV} {P : Option sV → rS → rG → Prop} (C : rM d h0 m ad 91 [sR (some m), sI (1), sI (x1)] S G P) (K : ∀ r S1 G1, P r S1 G1 → rWP d h0 m ad 93 Q 22 [sR (some m), sI (x1), v2] (r.toList ++ []) S1 G1) : rWP d h0 m ad 93 Q 16 [sR (some m), sI (x1), v2] [] S G := by
  intro h bc bs R
  refine w_aload_n mb93 dX7_get_16 17 rfl rfl ?_
  refine w_iconst mb93 dX7_get_17 18 rfl (1) (by decide) ?_
  refine w_iload_n mb93 dX7_get_18 19 rfl rfl ?_
  refine w_virtual (a := m) (c := 7) (st := []) mb93 dX7_get_19 22 rfl 91 2 [sI (1), sI (x1)] _ rfl rfl rfl lc7_187 R.2.1 (Nat.le_of_ble_eq_true rfl) (C h 0 0 R) (Nat.zero_le _) (Nat.zero_le _) (fun r h1 hP => ?_)
  obtain ⟨S1, G1, R1, hP⟩ := hP
  exact K r S1 G1 hP h1 _ _ R1

theorem bX7_get_22 {d : Nat} {h0 : hp} {m : Nat} {ad : Nat → Nat} {Q : Option sV → rS → rG → Prop} {S : rS} {G : rG} {v1 : sV} {v2 : sV} (K : rWP d h0 m ad 93 Q 43 [sR (some m), v1, v2] [] S G) : rWP d h0 m ad 93 Q 22 [sR (some m), v1, v2] [] S G := by
  intro h bc bs R
  refine w_goto mb93 dX7_get_22 43 (by decide) ?_
  exact K h bc bs R

theorem bX7_get_25 {d : Nat} {h0 : hp} {m : Nat} {ad : Nat → Nat} {Q : Option sV → rS → rG → Prop} {S : rS} {G : rG} {x1 : Int32} {v2 : sV} (h1 : vp_in (x1) 16) {P : Option sV → rS → rG → Prop} (C : rM d h0 m ad 92 [sR (some m), sR (some (ad 1)), sI ((16) * (x1)), sI ((G 0) (x1).toNatClampNeg)] S G P) (K : ∀ r S1 G1, P r S1 G1 → rWP d h0 m ad 93 Q 43 [sR (some m), sI (x1), v2] (r.toList ++ []) S1 G1) : rWP d h0 m ad 93 Q 25 [sR (some m), sI (x1), v2] [] S G := by
  intro h bc bs R
  refine w_aload_n mb93 dX7_get_25 26 rfl rfl ?_
  refine w_aload_n mb93 dX7_get_26 27 rfl rfl ?_
  refine x_geta mb93 dX7_get_27 30 rfl R lf7_13 rfl (by decide) ?_
  refine w_bipush mb93 dX7_get_30 32 rfl (16) (by decide) ?_
  refine w_iload_n mb93 dX7_get_32 33 rfl rfl ?_
  refine w_imul mb93 dX7_get_33 34 rfl ?_
  refine w_aload_n mb93 dX7_get_34 35 rfl rfl ?_
  refine x_geta mb93 dX7_get_35 38 rfl R lf7_7 rfl (by decide) ?_
  refine w_iload_n mb93 dX7_get_38 39 rfl rfl ?_
  refine x_iald mb93 dX7_get_39 40 rfl R 16 rfl (by decide) rfl h1 ?_
  refine w_virtual (a := m) (c := 7) (st := []) mb93 dX7_get_40 43 rfl 92 3 [sR (some (ad 1)), sI ((16) * (x1)), sI ((G 0) (x1).toNatClampNeg)] _ rfl rfl rfl lc7_191 R.2.1 (Nat.le_of_ble_eq_true rfl) (C h 0 0 R) (Nat.zero_le _) (Nat.zero_le _) (fun r h1 hP => ?_)
  obtain ⟨S1, G1, R1, hP⟩ := hP
  exact K r S1 G1 hP h1 _ _ R1

theorem bX7_get_43 {d : Nat} {h0 : hp} {m : Nat} {ad : Nat → Nat} {Q : Option sV → rS → rG → Prop} {S : rS} {G : rG} {v1 : sV} {v2 : sV} (K : Q (some (sI (1))) S G) : rWP d h0 m ad 93 Q 43 [sR (some m), v1, v2] [] S G := by
  intro h bc bs R
  refine w_iconst mb93 dX7_get_43 44 rfl (1) (by decide) ?_
  refine w_zret mb93 dX7_get_44 rfl (Or.inr rfl) ?_
  exact ⟨_, _, R, K⟩

theorem bX7_get_45 {d : Nat} {h0 : hp} {m : Nat} {ad : Nat → Nat} {Q : Option sV → rS → rG → Prop} {S : rS} {G : rG} {x1 : Int32} {v2 : sV} (K1 : ((x1) - (16)) < (S 6) → rWP d h0 m ad 93 Q 67 [sR (some m), sI (x1), sI ((x1) - (16))] [] S G) (K2 : ¬ ((x1) - (16)) < (S 6) → rWP d h0 m ad 93 Q 58 [sR (some m), sI (x1), sI ((x1) - (16))] [] S G) : rWP d h0 m ad 93 Q 45 [sR (some m), sI (x1), v2] [] S G := by
  intro h bc bs R
  refine w_iload_n mb93 dX7_get_45 46 rfl rfl ?_
  refine w_bipush mb93 dX7_get_46 48 rfl (16) (by decide) ?_
  refine w_isub mb93 dX7_get_48 49 rfl ?_
  refine w_istore_n mb93 dX7_get_49 50 rfl [sR (some m), sI (x1), sI ((x1) - (16))] (Nat.le_of_ble_eq_true rfl) rfl ?_
  refine w_iload_n mb93 dX7_get_50 51 rfl rfl ?_
  refine w_aload_n mb93 dX7_get_51 52 rfl rfl ?_
  refine x_geti mb93 dX7_get_52 55 rfl R lf7_157 rfl ?_
  refine w_icmp_lt mb93 dX7_get_55 67 58 (by decide) rfl (fun z => ?_) (fun z => ?_)
  · exact K1 z h bc bs R
  · exact K2 z h bc bs R

theorem bX7_get_58 {d : Nat} {h0 : hp} {m : Nat} {ad : Nat → Nat} {Q : Option sV → rS → rG → Prop} {S : rS} {G : rG} {x1 : Int32} {v2 : sV} {P : Option sV → rS → rG → Prop} (C : rM d h0 m ad 91 [sR (some m), sI (4), sI (x1)] S G P) (K : ∀ r S1 G1, P r S1 G1 → rWP d h0 m ad 93 Q 64 [sR (some m), sI (x1), v2] (r.toList ++ []) S1 G1) : rWP d h0 m ad 93 Q 58 [sR (some m), sI (x1), v2] [] S G := by
  intro h bc bs R
  refine w_aload_n mb93 dX7_get_58 59 rfl rfl ?_
  refine w_iconst mb93 dX7_get_59 60 rfl (4) (by decide) ?_
  refine w_iload_n mb93 dX7_get_60 61 rfl rfl ?_
  refine w_virtual (a := m) (c := 7) (st := []) mb93 dX7_get_61 64 rfl 91 2 [sI (4), sI (x1)] _ rfl rfl rfl lc7_187 R.2.1 (Nat.le_of_ble_eq_true rfl) (C h 0 0 R) (Nat.zero_le _) (Nat.zero_le _) (fun r h1 hP => ?_)
  obtain ⟨S1, G1, R1, hP⟩ := hP
  exact K r S1 G1 hP h1 _ _ R1

theorem bX7_get_64 {d : Nat} {h0 : hp} {m : Nat} {ad : Nat → Nat} {Q : Option sV → rS → rG → Prop} {S : rS} {G : rG} {v1 : sV} {v2 : sV} (K : rWP d h0 m ad 93 Q 149 [sR (some m), v1, v2] [] S G) : rWP d h0 m ad 93 Q 64 [sR (some m), v1, v2] [] S G := by
  intro h bc bs R
  refine w_goto mb93 dX7_get_64 149 (by decide) ?_
  exact K h bc bs R

theorem bX7_get_67 {d : Nat} {h0 : hp} {m : Nat} {ad : Nat → Nat} {Q : Option sV → rS → rG → Prop} {S : rS} {G : rG} {v1 : sV} {x2 : Int32} (h1 : vp_in (x2) 24) (K1 : ((G 24) (x2).toNatClampNeg) = 0 → rWP d h0 m ad 93 Q 125 [sR (some m), v1, sI (x2)] [] S G) (K2 : ¬ ((G 24) (x2).toNatClampNeg) = 0 → rWP d h0 m ad 93 Q 76 [sR (some m), v1, sI (x2)] [] S G) : rWP d h0 m ad 93 Q 67 [sR (some m), v1, sI (x2)] [] S G := by
  intro h bc bs R
  refine w_aload_n mb93 dX7_get_67 68 rfl rfl ?_
  refine x_geta mb93 dX7_get_68 71 rfl R lf7_81 rfl (by decide) ?_
  refine w_iload_n mb93 dX7_get_71 72 rfl rfl ?_
  refine x_bald mb93 dX7_get_72 73 rfl R 24 rfl (by decide) rfl h1 ?_
  refine w_if_eq mb93 dX7_get_73 125 76 (by decide) rfl (fun z => ?_) (fun z => ?_)
  · exact K1 z h bc bs R
  · exact K2 z h bc bs R

theorem bX7_get_76 {d : Nat} {h0 : hp} {m : Nat} {ad : Nat → Nat} {Q : Option sV → rS → rG → Prop} {S : rS} {G : rG} {v1 : sV} {x2 : Int32} (h1 : vp_in (x2) 24) (K1 : ((G 20) (x2).toNatClampNeg) = 0 → rWP d h0 m ad 93 Q 104 [sR (some m), v1, sI (x2)] [] S G) (K2 : ¬ ((G 20) (x2).toNatClampNeg) = 0 → rWP d h0 m ad 93 Q 85 [sR (some m), v1, sI (x2)] [] S G) : rWP d h0 m ad 93 Q 76 [sR (some m), v1, sI (x2)] [] S G := by
  intro h bc bs R
  refine w_aload_n mb93 dX7_get_76 77 rfl rfl ?_
  refine x_geta mb93 dX7_get_77 80 rfl R lf7_69 rfl (by decide) ?_
  refine w_iload_n mb93 dX7_get_80 81 rfl rfl ?_
  refine x_iald mb93 dX7_get_81 82 rfl R 24 rfl (by decide) rfl h1 ?_
  refine w_if_eq mb93 dX7_get_82 104 85 (by decide) rfl (fun z => ?_) (fun z => ?_)
  · exact K1 z h bc bs R
  · exact K2 z h bc bs R

theorem bX7_get_85 {d : Nat} {h0 : hp} {m : Nat} {ad : Nat → Nat} {Q : Option sV → rS → rG → Prop} {S : rS} {G : rG} {v1 : sV} {x2 : Int32} (h1 : vp_in (x2) 24) {P : Option sV → rS → rG → Prop} (C : rM d h0 m ad 91 [sR (some m), sI ((G 20) (x2).toNatClampNeg), sI ((G 21) (x2).toNatClampNeg)] S G P) (K : ∀ r S1 G1, P r S1 G1 → rWP d h0 m ad 93 Q 101 [sR (some m), v1, sI (x2)] (r.toList ++ []) S1 G1) : rWP d h0 m ad 93 Q 85 [sR (some m), v1, sI (x2)] [] S G := by
  intro h bc bs R
  refine w_aload_n mb93 dX7_get_85 86 rfl rfl ?_
  refine w_aload_n mb93 dX7_get_86 87 rfl rfl ?_
  refine x_geta mb93 dX7_get_87 90 rfl R lf7_69 rfl (by decide) ?_
  refine w_iload_n mb93 dX7_get_90 91 rfl rfl ?_
  refine x_iald mb93 dX7_get_91 92 rfl R 24 rfl (by decide) rfl h1 ?_
  refine w_aload_n mb93 dX7_get_92 93 rfl rfl ?_
  refine x_geta mb93 dX7_get_93 96 rfl R lf7_72 rfl (by decide) ?_
  refine w_iload_n mb93 dX7_get_96 97 rfl rfl ?_
  refine x_iald mb93 dX7_get_97 98 rfl R 24 rfl (by decide) rfl h1 ?_
  refine w_virtual (a := m) (c := 7) (st := []) mb93 dX7_get_98 101 rfl 91 2 [sI ((G 20) (x2).toNatClampNeg), sI ((G 21) (x2).toNatClampNeg)] _ rfl rfl rfl lc7_187 R.2.1 (Nat.le_of_ble_eq_true rfl) (C h 0 0 R) (Nat.zero_le _) (Nat.zero_le _) (fun r h1 hP => ?_)
  obtain ⟨S1, G1, R1, hP⟩ := hP
  exact K r S1 G1 hP h1 _ _ R1

theorem bX7_get_101 {d : Nat} {h0 : hp} {m : Nat} {ad : Nat → Nat} {Q : Option sV → rS → rG → Prop} {S : rS} {G : rG} {v1 : sV} {v2 : sV} (K : rWP d h0 m ad 93 Q 149 [sR (some m), v1, v2] [] S G) : rWP d h0 m ad 93 Q 101 [sR (some m), v1, v2] [] S G := by
  intro h bc bs R
  refine w_goto mb93 dX7_get_101 149 (by decide) ?_
  exact K h bc bs R

theorem bX7_get_104 {d : Nat} {h0 : hp} {m : Nat} {ad : Nat → Nat} {Q : Option sV → rS → rG → Prop} {S : rS} {G : rG} {v1 : sV} {x2 : Int32} (h1 : vp_in (x2) 24) {P : Option sV → rS → rG → Prop} (C : rM d h0 m ad 92 [sR (some m), sR (some (ad 22)), sI ((24) * (x2)), sI ((G 19) (x2).toNatClampNeg)] S G P) (K : ∀ r S1 G1, P r S1 G1 → rWP d h0 m ad 93 Q 122 [sR (some m), v1, sI (x2)] (r.toList ++ []) S1 G1) : rWP d h0 m ad 93 Q 104 [sR (some m), v1, sI (x2)] [] S G := by
  intro h bc bs R
  refine w_aload_n mb93 dX7_get_104 105 rfl rfl ?_
  refine w_aload_n mb93 dX7_get_105 106 rfl rfl ?_
  refine x_geta mb93 dX7_get_106 109 rfl R lf7_75 rfl (by decide) ?_
  refine w_bipush mb93 dX7_get_109 111 rfl (24) (by decide) ?_
  refine w_iload_n mb93 dX7_get_111 112 rfl rfl ?_
  refine w_imul mb93 dX7_get_112 113 rfl ?_
  refine w_aload_n mb93 dX7_get_113 114 rfl rfl ?_
  refine x_geta mb93 dX7_get_114 117 rfl R lf7_66 rfl (by decide) ?_
  refine w_iload_n mb93 dX7_get_117 118 rfl rfl ?_
  refine x_iald mb93 dX7_get_118 119 rfl R 24 rfl (by decide) rfl h1 ?_
  refine w_virtual (a := m) (c := 7) (st := []) mb93 dX7_get_119 122 rfl 92 3 [sR (some (ad 22)), sI ((24) * (x2)), sI ((G 19) (x2).toNatClampNeg)] _ rfl rfl rfl lc7_191 R.2.1 (Nat.le_of_ble_eq_true rfl) (C h 0 0 R) (Nat.zero_le _) (Nat.zero_le _) (fun r h1 hP => ?_)
  obtain ⟨S1, G1, R1, hP⟩ := hP
  exact K r S1 G1 hP h1 _ _ R1

theorem bX7_get_122 {d : Nat} {h0 : hp} {m : Nat} {ad : Nat → Nat} {Q : Option sV → rS → rG → Prop} {S : rS} {G : rG} {v1 : sV} {v2 : sV} (K : rWP d h0 m ad 93 Q 149 [sR (some m), v1, v2] [] S G) : rWP d h0 m ad 93 Q 122 [sR (some m), v1, v2] [] S G := by
  intro h bc bs R
  refine w_goto mb93 dX7_get_122 149 (by decide) ?_
  exact K h bc bs R

theorem bX7_get_125 {d : Nat} {h0 : hp} {m : Nat} {ad : Nat → Nat} {Q : Option sV → rS → rG → Prop} {S : rS} {G : rG} {v1 : sV} {x2 : Int32} (h1 : vp_in (x2) 24) (K1 : ((G 25) (x2).toNatClampNeg) = 0 → rWP d h0 m ad 93 Q 142 [sR (some m), v1, sI (x2)] [] S G) (K2 : ¬ ((G 25) (x2).toNatClampNeg) = 0 → rWP d h0 m ad 93 Q 134 [sR (some m), v1, sI (x2)] [] S G) : rWP d h0 m ad 93 Q 125 [sR (some m), v1, sI (x2)] [] S G := by
  intro h bc bs R
  refine w_aload_n mb93 dX7_get_125 126 rfl rfl ?_
  refine x_geta mb93 dX7_get_126 129 rfl R lf7_84 rfl (by decide) ?_
  refine w_iload_n mb93 dX7_get_129 130 rfl rfl ?_
  refine x_bald mb93 dX7_get_130 131 rfl R 24 rfl (by decide) rfl h1 ?_
  refine w_if_eq mb93 dX7_get_131 142 134 (by decide) rfl (fun z => ?_) (fun z => ?_)
  · exact K1 z h bc bs R
  · exact K2 z h bc bs R

theorem bX7_get_134 {d : Nat} {h0 : hp} {m : Nat} {ad : Nat → Nat} {Q : Option sV → rS → rG → Prop} {S : rS} {G : rG} {v1 : sV} {x2 : Int32} {P : Option sV → rS → rG → Prop} (C : rM d h0 m ad 94 [sR (some m), sI (x2)] S G P) (K : ∀ r S1 G1, P r S1 G1 → rWP d h0 m ad 93 Q 139 [sR (some m), v1, sI (x2)] (r.toList ++ []) S1 G1) : rWP d h0 m ad 93 Q 134 [sR (some m), v1, sI (x2)] [] S G := by
  intro h bc bs R
  refine w_aload_n mb93 dX7_get_134 135 rfl rfl ?_
  refine w_iload_n mb93 dX7_get_135 136 rfl rfl ?_
  refine w_virtual (a := m) (c := 7) (st := []) mb93 dX7_get_136 139 rfl 94 1 [sI (x2)] _ rfl rfl rfl lc7_195 R.2.1 (Nat.le_of_ble_eq_true rfl) (C h 0 0 R) (Nat.zero_le _) (Nat.zero_le _) (fun r h1 hP => ?_)
  obtain ⟨S1, G1, R1, hP⟩ := hP
  exact K r S1 G1 hP h1 _ _ R1

theorem bX7_get_139 {d : Nat} {h0 : hp} {m : Nat} {ad : Nat → Nat} {Q : Option sV → rS → rG → Prop} {S : rS} {G : rG} {v1 : sV} {v2 : sV} (K : rWP d h0 m ad 93 Q 149 [sR (some m), v1, v2] [] S G) : rWP d h0 m ad 93 Q 139 [sR (some m), v1, v2] [] S G := by
  intro h bc bs R
  refine w_goto mb93 dX7_get_139 149 (by decide) ?_
  exact K h bc bs R

theorem bX7_get_142 {d : Nat} {h0 : hp} {m : Nat} {ad : Nat → Nat} {Q : Option sV → rS → rG → Prop} {S : rS} {G : rG} {v1 : sV} {x2 : Int32} {P : Option sV → rS → rG → Prop} (C : rM d h0 m ad 96 [sR (some m), sI (x2)] S G P) (K : ∀ r S1 G1, P r S1 G1 → rWP d h0 m ad 93 Q 147 [sR (some m), v1, sI (x2)] (r.toList ++ []) S1 G1) : rWP d h0 m ad 93 Q 142 [sR (some m), v1, sI (x2)] [] S G := by
  intro h bc bs R
  refine w_aload_n mb93 dX7_get_142 143 rfl rfl ?_
  refine w_iload_n mb93 dX7_get_143 144 rfl rfl ?_
  refine w_virtual (a := m) (c := 7) (st := []) mb93 dX7_get_144 147 rfl 96 1 [sI (x2)] _ rfl rfl rfl lc7_199 R.2.1 (Nat.le_of_ble_eq_true rfl) (C h 0 0 R) (Nat.zero_le _) (Nat.zero_le _) (fun r h1 hP => ?_)
  obtain ⟨S1, G1, R1, hP⟩ := hP
  exact K r S1 G1 hP h1 _ _ R1

theorem bX7_get_147 {d : Nat} {h0 : hp} {m : Nat} {ad : Nat → Nat} {Q : Option sV → rS → rG → Prop} {S : rS} {G : rG} {v1 : sV} {v2 : sV} (K : Q (some (sI (0))) S G) : rWP d h0 m ad 93 Q 147 [sR (some m), v1, v2] [] S G := by
  intro h bc bs R
  refine w_iconst mb93 dX7_get_147 148 rfl (0) (by decide) ?_
  refine w_zret mb93 dX7_get_148 rfl (Or.inl rfl) ?_
  exact ⟨_, _, R, K⟩

theorem bX7_get_149 {d : Nat} {h0 : hp} {m : Nat} {ad : Nat → Nat} {Q : Option sV → rS → rG → Prop} {S : rS} {G : rG} {v1 : sV} {v2 : sV} (K : Q (some (sI (1))) S G) : rWP d h0 m ad 93 Q 149 [sR (some m), v1, v2] [] S G := by
  intro h bc bs R
  refine w_iconst mb93 dX7_get_149 150 rfl (1) (by decide) ?_
  refine w_zret mb93 dX7_get_150 rfl (Or.inr rfl) ?_
  exact ⟨_, _, R, K⟩

theorem bX7_isRing_0 {d : Nat} {h0 : hp} {m : Nat} {ad : Nat → Nat} {Q : Option sV → rS → rG → Prop} {S : rS} {G : rG} {v1 : sV} {v2 : sV} {v3 : sV} (K : rWP d h0 m ad 94 Q 9 [sR (some m), v1, sI (0), sI ((S 32) - (1))] [] S G) : rWP d h0 m ad 94 Q 0 [sR (some m), v1, v2, v3] [] S G := by
  intro h bc bs R
  refine w_iconst mb94 dX7_isRing_0 1 rfl (0) (by decide) ?_
  refine w_istore_n mb94 dX7_isRing_1 2 rfl [sR (some m), v1, sI (0), v3] (Nat.le_of_ble_eq_true rfl) rfl ?_
  refine w_aload_n mb94 dX7_isRing_2 3 rfl rfl ?_
  refine x_geti mb94 dX7_isRing_3 6 rfl R lf7_202 rfl ?_
  refine w_iconst mb94 dX7_isRing_6 7 rfl (1) (by decide) ?_
  refine w_isub mb94 dX7_isRing_7 8 rfl ?_
  refine w_istore_n mb94 dX7_isRing_8 9 rfl [sR (some m), v1, sI (0), sI ((S 32) - (1))] (Nat.le_of_ble_eq_true rfl) rfl ?_
  exact K h bc bs R
