theorem bX7_used_8 {d : Nat} {h0 : hp} {m : Nat} {ad : Nat → Nat} {Q : Option sV → rS → rG → Prop} {S : rS} {G : rG} {x1 : Int32} {v2 : sV} {v3 : sV} {x4 : Int32} (h1 : vp_in ((((4) * (x1)) + (x4)) - (1)) 96) (h2 : vp_in (((4) * (x1)) + (x4)) 96) (K : rWP d h0 m ad 103 Q 3 [sR (some m), sI (x1), v2, v3, sI (x4 + (-1))] [] S (gup G 8 (((4) * (x1)) + (x4)).toNatClampNeg ((G 8) ((((4) * (x1)) + (x4)) - (1)).toNatClampNeg))) : rWP d h0 m ad 103 Q 8 [sR (some m), sI (x1), v2, v3, sI (x4)] [] S G := by
  intro h bc bs R
  refine w_aload_n mb103 dX7_used_8 9 rfl rfl ?_
  refine x_geta mb103 dX7_used_9 12 rfl R lf7_32 rfl (by decide) ?_
  refine w_iconst mb103 dX7_used_12 13 rfl (4) (by decide) ?_
  refine w_iload_n mb103 dX7_used_13 14 rfl rfl ?_
  refine w_imul mb103 dX7_used_14 15 rfl ?_
  refine w_iload mb103 dX7_used_15 17 rfl rfl ?_
  refine w_iadd mb103 dX7_used_17 18 rfl ?_
  refine w_aload_n mb103 dX7_used_18 19 rfl rfl ?_
  refine x_geta mb103 dX7_used_19 22 rfl R lf7_32 rfl (by decide) ?_
  refine w_iconst mb103 dX7_used_22 23 rfl (4) (by decide) ?_
  refine w_iload_n mb103 dX7_used_23 24 rfl rfl ?_
  refine w_imul mb103 dX7_used_24 25 rfl ?_
  refine w_iload mb103 dX7_used_25 27 rfl rfl ?_
  refine w_iadd mb103 dX7_used_27 28 rfl ?_
  refine w_iconst mb103 dX7_used_28 29 rfl (1) (by decide) ?_
  refine w_isub mb103 dX7_used_29 30 rfl ?_
  refine x_iald mb103 dX7_used_30 31 rfl R 96 rfl (by decide) rfl h1 ?_
  refine x_iast mb103 dX7_used_31 32 rfl R 96 rfl (by decide) rfl h2 (fun h R => ?_)
  refine w_iinc mb103 dX7_used_32 35 rfl rfl (x4 + (-1)) rfl [sR (some m), sI (x1), v2, v3, sI (x4 + (-1))] rfl ?_
  refine w_goto mb103 dX7_used_35 3 (by decide) ?_
  exact K h bc bs R

theorem bX7_used_38 {d : Nat} {h0 : hp} {m : Nat} {ad : Nat → Nat} {Q : Option sV → rS → rG → Prop} {S : rS} {G : rG} {x1 : Int32} {x2 : Int32} {v3 : sV} {v4 : sV} (h1 : vp_in ((4) * (x1)) 96) (K : Q (none) S (gup G 8 ((4) * (x1)).toNatClampNeg (x2))) : rWP d h0 m ad 103 Q 38 [sR (some m), sI (x1), sI (x2), v3, v4] [] S G := by
  intro h bc bs R
  refine w_aload_n mb103 dX7_used_38 39 rfl rfl ?_
  refine x_geta mb103 dX7_used_39 42 rfl R lf7_32 rfl (by decide) ?_
  refine w_iconst mb103 dX7_used_42 43 rfl (4) (by decide) ?_
  refine w_iload_n mb103 dX7_used_43 44 rfl rfl ?_
  refine w_imul mb103 dX7_used_44 45 rfl ?_
  refine w_iload_n mb103 dX7_used_45 46 rfl rfl ?_
  refine x_iast mb103 dX7_used_46 47 rfl R 96 rfl (by decide) rfl h1 (fun h R => ?_)
  refine w_vret mb103 dX7_used_47 rfl ?_
  exact ⟨_, _, R, K⟩

theorem bX7_freeSlot_0 {d : Nat} {h0 : hp} {m : Nat} {ad : Nat → Nat} {Q : Option sV → rS → rG → Prop} {S : rS} {G : rG} {x1 : Int32} {v2 : sV} {v3 : sV} {v4 : sV} (h1 : vp_in (x1) 24) (K1 : ¬ ((G 7) (x1).toNatClampNeg) = (4) → rWP d h0 m ad 104 Q 23 [sR (some m), sI (x1), v2, v3, v4] [] S G) (K2 : ((G 7) (x1).toNatClampNeg) = (4) → rWP d h0 m ad 104 Q 10 [sR (some m), sI (x1), v2, v3, v4] [] S G) : rWP d h0 m ad 104 Q 0 [sR (some m), sI (x1), v2, v3, v4] [] S G := by
  intro h bc bs R
  refine w_aload_n mb104 dX7_freeSlot_0 1 rfl rfl ?_
  refine x_geta mb104 dX7_freeSlot_1 4 rfl R lf7_29 rfl (by decide) ?_
  refine w_iload_n mb104 dX7_freeSlot_4 5 rfl rfl ?_
  refine x_iald mb104 dX7_freeSlot_5 6 rfl R 24 rfl (by decide) rfl h1 ?_
  refine w_iconst mb104 dX7_freeSlot_6 7 rfl (4) (by decide) ?_
  refine w_icmp_ne mb104 dX7_freeSlot_7 23 10 (by decide) rfl (fun z => ?_) (fun z => ?_)
  · exact K1 z h bc bs R
  · exact K2 z h bc bs R

theorem bX7_freeSlot_10 {d : Nat} {h0 : hp} {m : Nat} {ad : Nat → Nat} {Q : Option sV → rS → rG → Prop} {S : rS} {G : rG} {x1 : Int32} {v2 : sV} {v3 : sV} {v4 : sV} (h1 : vp_in ((((4) * (x1)) + (4)) - (1)) 96) (K : Q (some (sI ((G 8) ((((4) * (x1)) + (4)) - (1)).toNatClampNeg))) S G) : rWP d h0 m ad 104 Q 10 [sR (some m), sI (x1), v2, v3, v4] [] S G := by
  intro h bc bs R
  refine w_aload_n mb104 dX7_freeSlot_10 11 rfl rfl ?_
  refine x_geta mb104 dX7_freeSlot_11 14 rfl R lf7_32 rfl (by decide) ?_
  refine w_iconst mb104 dX7_freeSlot_14 15 rfl (4) (by decide) ?_
  refine w_iload_n mb104 dX7_freeSlot_15 16 rfl rfl ?_
  refine w_imul mb104 dX7_freeSlot_16 17 rfl ?_
  refine w_iconst mb104 dX7_freeSlot_17 18 rfl (4) (by decide) ?_
  refine w_iadd mb104 dX7_freeSlot_18 19 rfl ?_
  refine w_iconst mb104 dX7_freeSlot_19 20 rfl (1) (by decide) ?_
  refine w_isub mb104 dX7_freeSlot_20 21 rfl ?_
  refine x_iald mb104 dX7_freeSlot_21 22 rfl R 96 rfl (by decide) rfl h1 ?_
  refine w_iret mb104 dX7_freeSlot_22 rfl ?_
  exact ⟨_, _, R, K⟩

theorem bX7_freeSlot_23 {d : Nat} {h0 : hp} {m : Nat} {ad : Nat → Nat} {Q : Option sV → rS → rG → Prop} {S : rS} {G : rG} {v1 : sV} {v2 : sV} {v3 : sV} {v4 : sV} (K : rWP d h0 m ad 104 Q 27 [sR (some m), v1, sI (0), sI (1), v4] [] S G) : rWP d h0 m ad 104 Q 23 [sR (some m), v1, v2, v3, v4] [] S G := by
  intro h bc bs R
  refine w_iconst mb104 dX7_freeSlot_23 24 rfl (0) (by decide) ?_
  refine w_istore_n mb104 dX7_freeSlot_24 25 rfl [sR (some m), v1, sI (0), v3, v4] (Nat.le_of_ble_eq_true rfl) rfl ?_
  refine w_iconst mb104 dX7_freeSlot_25 26 rfl (1) (by decide) ?_
  refine w_istore_n mb104 dX7_freeSlot_26 27 rfl [sR (some m), v1, sI (0), sI (1), v4] (Nat.le_of_ble_eq_true rfl) rfl ?_
  exact K h bc bs R

theorem bX7_freeSlot_27 {d : Nat} {h0 : hp} {m : Nat} {ad : Nat → Nat} {Q : Option sV → rS → rG → Prop} {S : rS} {G : rG} {v1 : sV} {v2 : sV} {x3 : Int32} {v4 : sV} (K1 : (x3) = 0 → rWP d h0 m ad 104 Q 88 [sR (some m), v1, v2, sI (x3), v4] [] S G) (K2 : ¬ (x3) = 0 → rWP d h0 m ad 104 Q 31 [sR (some m), v1, v2, sI (x3), v4] [] S G) : rWP d h0 m ad 104 Q 27 [sR (some m), v1, v2, sI (x3), v4] [] S G := by
  intro h bc bs R
  refine w_iload_n mb104 dX7_freeSlot_27 28 rfl rfl ?_
  refine w_if_eq mb104 dX7_freeSlot_28 88 31 (by decide) rfl (fun z => ?_) (fun z => ?_)
  · exact K1 z h bc bs R
  · exact K2 z h bc bs R

theorem bX7_freeSlot_31 {d : Nat} {h0 : hp} {m : Nat} {ad : Nat → Nat} {Q : Option sV → rS → rG → Prop} {S : rS} {G : rG} {v1 : sV} {v2 : sV} {v3 : sV} {v4 : sV} (K : rWP d h0 m ad 104 Q 36 [sR (some m), v1, v2, sI (0), sI (0)] [] S G) : rWP d h0 m ad 104 Q 31 [sR (some m), v1, v2, v3, v4] [] S G := by
  intro h bc bs R
  refine w_iconst mb104 dX7_freeSlot_31 32 rfl (0) (by decide) ?_
  refine w_istore_n mb104 dX7_freeSlot_32 33 rfl [sR (some m), v1, v2, sI (0), v4] (Nat.le_of_ble_eq_true rfl) rfl ?_
  refine w_iconst mb104 dX7_freeSlot_33 34 rfl (0) (by decide) ?_
  refine w_istore mb104 dX7_freeSlot_34 36 rfl [sR (some m), v1, v2, sI (0), sI (0)] (Nat.le_of_ble_eq_true rfl) rfl ?_
  exact K h bc bs R

theorem bX7_freeSlot_36 {d : Nat} {h0 : hp} {m : Nat} {ad : Nat → Nat} {Q : Option sV → rS → rG → Prop} {S : rS} {G : rG} {x1 : Int32} {v2 : sV} {v3 : sV} {x4 : Int32} (h1 : vp_in (x1) 24) (K1 : ((G 7) (x1).toNatClampNeg) ≤ (x4) → rWP d h0 m ad 104 Q 78 [sR (some m), sI (x1), v2, v3, sI (x4)] [] S G) (K2 : ¬ ((G 7) (x1).toNatClampNeg) ≤ (x4) → rWP d h0 m ad 104 Q 47 [sR (some m), sI (x1), v2, v3, sI (x4)] [] S G) : rWP d h0 m ad 104 Q 36 [sR (some m), sI (x1), v2, v3, sI (x4)] [] S G := by
  intro h bc bs R
  refine w_iload mb104 dX7_freeSlot_36 38 rfl rfl ?_
  refine w_aload_n mb104 dX7_freeSlot_38 39 rfl rfl ?_
  refine x_geta mb104 dX7_freeSlot_39 42 rfl R lf7_29 rfl (by decide) ?_
  refine w_iload_n mb104 dX7_freeSlot_42 43 rfl rfl ?_
  refine x_iald mb104 dX7_freeSlot_43 44 rfl R 24 rfl (by decide) rfl h1 ?_
  refine w_icmp_ge mb104 dX7_freeSlot_44 78 47 (by decide) rfl (fun z => ?_) (fun z => ?_)
  · exact K1 z h bc bs R
  · exact K2 z h bc bs R

theorem bX7_freeSlot_47 {d : Nat} {h0 : hp} {m : Nat} {ad : Nat → Nat} {Q : Option sV → rS → rG → Prop} {S : rS} {G : rG} {v1 : sV} {v2 : sV} {x3 : Int32} {v4 : sV} (K1 : ¬ (x3) = 0 → rWP d h0 m ad 104 Q 66 [sR (some m), v1, v2, sI (x3), v4] [] S G) (K2 : (x3) = 0 → rWP d h0 m ad 104 Q 51 [sR (some m), v1, v2, sI (x3), v4] [] S G) : rWP d h0 m ad 104 Q 47 [sR (some m), v1, v2, sI (x3), v4] [] S G := by
  intro h bc bs R
  refine w_iload_n mb104 dX7_freeSlot_47 48 rfl rfl ?_
  refine w_if_ne mb104 dX7_freeSlot_48 66 51 (by decide) rfl (fun z => ?_) (fun z => ?_)
  · exact K1 z h bc bs R
  · exact K2 z h bc bs R

theorem bX7_freeSlot_51 {d : Nat} {h0 : hp} {m : Nat} {ad : Nat → Nat} {Q : Option sV → rS → rG → Prop} {S : rS} {G : rG} {x1 : Int32} {x2 : Int32} {v3 : sV} {x4 : Int32} (h1 : vp_in (((4) * (x1)) + (x4)) 96) (K1 : ¬ ((G 8) (((4) * (x1)) + (x4)).toNatClampNeg) = (x2) → rWP d h0 m ad 104 Q 70 [sR (some m), sI (x1), sI (x2), v3, sI (x4)] [] S G) (K2 : ((G 8) (((4) * (x1)) + (x4)).toNatClampNeg) = (x2) → rWP d h0 m ad 104 Q 66 [sR (some m), sI (x1), sI (x2), v3, sI (x4)] [] S G) : rWP d h0 m ad 104 Q 51 [sR (some m), sI (x1), sI (x2), v3, sI (x4)] [] S G := by
  intro h bc bs R
  refine w_aload_n mb104 dX7_freeSlot_51 52 rfl rfl ?_
  refine x_geta mb104 dX7_freeSlot_52 55 rfl R lf7_32 rfl (by decide) ?_
  refine w_iconst mb104 dX7_freeSlot_55 56 rfl (4) (by decide) ?_
  refine w_iload_n mb104 dX7_freeSlot_56 57 rfl rfl ?_
  refine w_imul mb104 dX7_freeSlot_57 58 rfl ?_
  refine w_iload mb104 dX7_freeSlot_58 60 rfl rfl ?_
  refine w_iadd mb104 dX7_freeSlot_60 61 rfl ?_
  refine x_iald mb104 dX7_freeSlot_61 62 rfl R 96 rfl (by decide) rfl h1 ?_
  refine w_iload_n mb104 dX7_freeSlot_62 63 rfl rfl ?_
  refine w_icmp_ne mb104 dX7_freeSlot_63 70 66 (by decide) rfl (fun z => ?_) (fun z => ?_)
  · exact K1 z h bc bs R
  · exact K2 z h bc bs R

theorem bX7_freeSlot_66 {d : Nat} {h0 : hp} {m : Nat} {ad : Nat → Nat} {Q : Option sV → rS → rG → Prop} {S : rS} {G : rG} {v1 : sV} {v2 : sV} {v3 : sV} {v4 : sV} (K : rWP d h0 m ad 104 Q 71 [sR (some m), v1, v2, v3, v4] [sI (1)] S G) : rWP d h0 m ad 104 Q 66 [sR (some m), v1, v2, v3, v4] [] S G := by
  intro h bc bs R
  refine w_iconst mb104 dX7_freeSlot_66 67 rfl (1) (by decide) ?_
  refine w_goto mb104 dX7_freeSlot_67 71 (by decide) ?_
  exact K h bc bs R

theorem bX7_freeSlot_70 {d : Nat} {h0 : hp} {m : Nat} {ad : Nat → Nat} {Q : Option sV → rS → rG → Prop} {S : rS} {G : rG} {v1 : sV} {v2 : sV} {v3 : sV} {v4 : sV} (K : rWP d h0 m ad 104 Q 71 [sR (some m), v1, v2, v3, v4] [sI (0)] S G) : rWP d h0 m ad 104 Q 70 [sR (some m), v1, v2, v3, v4] [] S G := by
  intro h bc bs R
  refine w_iconst mb104 dX7_freeSlot_70 71 rfl (0) (by decide) ?_
  exact K h bc bs R

theorem bX7_freeSlot_71 {d : Nat} {h0 : hp} {m : Nat} {ad : Nat → Nat} {Q : Option sV → rS → rG → Prop} {S : rS} {G : rG} {v1 : sV} {v2 : sV} {v3 : sV} {x4 : Int32} {y0 : Int32} (K : rWP d h0 m ad 104 Q 36 [sR (some m), v1, v2, sI (y0), sI (x4 + 1)] [] S G) : rWP d h0 m ad 104 Q 71 [sR (some m), v1, v2, v3, sI (x4)] [sI (y0)] S G := by
  intro h bc bs R
  refine w_istore_n mb104 dX7_freeSlot_71 72 rfl [sR (some m), v1, v2, sI (y0), sI (x4)] (Nat.le_of_ble_eq_true rfl) rfl ?_
  refine w_iinc mb104 dX7_freeSlot_72 75 rfl rfl (x4 + 1) rfl [sR (some m), v1, v2, sI (y0), sI (x4 + 1)] rfl ?_
  refine w_goto mb104 dX7_freeSlot_75 36 (by decide) ?_
  exact K h bc bs R

theorem bX7_freeSlot_78 {d : Nat} {h0 : hp} {m : Nat} {ad : Nat → Nat} {Q : Option sV → rS → rG → Prop} {S : rS} {G : rG} {v1 : sV} {v2 : sV} {x3 : Int32} {v4 : sV} (K1 : (x3) = 0 → rWP d h0 m ad 104 Q 27 [sR (some m), v1, v2, sI (x3), v4] [] S G) (K2 : ¬ (x3) = 0 → rWP d h0 m ad 104 Q 82 [sR (some m), v1, v2, sI (x3), v4] [] S G) : rWP d h0 m ad 104 Q 78 [sR (some m), v1, v2, sI (x3), v4] [] S G := by
  intro h bc bs R
  refine w_iload_n mb104 dX7_freeSlot_78 79 rfl rfl ?_
  refine w_if_eq mb104 dX7_freeSlot_79 27 82 (by decide) rfl (fun z => ?_) (fun z => ?_)
  · exact K1 z h bc bs R
  · exact K2 z h bc bs R

theorem bX7_freeSlot_82 {d : Nat} {h0 : hp} {m : Nat} {ad : Nat → Nat} {Q : Option sV → rS → rG → Prop} {S : rS} {G : rG} {v1 : sV} {x2 : Int32} {v3 : sV} {v4 : sV} (K : rWP d h0 m ad 104 Q 27 [sR (some m), v1, sI (x2 + 1), v3, v4] [] S G) : rWP d h0 m ad 104 Q 82 [sR (some m), v1, sI (x2), v3, v4] [] S G := by
  intro h bc bs R
  refine w_iinc mb104 dX7_freeSlot_82 85 rfl rfl (x2 + 1) rfl [sR (some m), v1, sI (x2 + 1), v3, v4] rfl ?_
  refine w_goto mb104 dX7_freeSlot_85 27 (by decide) ?_
  exact K h bc bs R

theorem bX7_freeSlot_88 {d : Nat} {h0 : hp} {m : Nat} {ad : Nat → Nat} {Q : Option sV → rS → rG → Prop} {S : rS} {G : rG} {v1 : sV} {x2 : Int32} {v3 : sV} {v4 : sV} (K : Q (some (sI (x2))) S G) : rWP d h0 m ad 104 Q 88 [sR (some m), v1, sI (x2), v3, v4] [] S G := by
  intro h bc bs R
  refine w_iload_n mb104 dX7_freeSlot_88 89 rfl rfl ?_
  refine w_iret mb104 dX7_freeSlot_89 rfl ?_
  exact ⟨_, _, R, K⟩

theorem bX7_keeps_0 {d : Nat} {h0 : hp} {m : Nat} {ad : Nat → Nat} {Q : Option sV → rS → rG → Prop} {S : rS} {G : rG} {x1 : Int32} {v2 : sV} {v3 : sV} {v4 : sV} {v5 : sV} (h1 : vp_in (x1) 24) {P : Option sV → rS → rG → Prop} (C : rM d h0 m ad 104 [sR (some m), sI ((G 28) (x1).toNatClampNeg)] S G P) (K : ∀ r S1 G1, P r S1 G1 → rWP d h0 m ad 105 Q 12 [sR (some m), sI (x1), sI ((G 28) (x1).toNatClampNeg), v3, v4, v5] (r.toList ++ []) S1 G1) : rWP d h0 m ad 105 Q 0 [sR (some m), sI (x1), v2, v3, v4, v5] [] S G := by
  intro h bc bs R
  refine w_aload_n mb105 dX7_keeps_0 1 rfl rfl ?_
  refine x_geta mb105 dX7_keeps_1 4 rfl R lf7_90 rfl (by decide) ?_
  refine w_iload_n mb105 dX7_keeps_4 5 rfl rfl ?_
  refine x_iald mb105 dX7_keeps_5 6 rfl R 24 rfl (by decide) rfl h1 ?_
  refine w_istore_n mb105 dX7_keeps_6 7 rfl [sR (some m), sI (x1), sI ((G 28) (x1).toNatClampNeg), v3, v4, v5] (Nat.le_of_ble_eq_true rfl) rfl ?_
  refine w_aload_n mb105 dX7_keeps_7 8 rfl rfl ?_
  refine w_iload_n mb105 dX7_keeps_8 9 rfl rfl ?_
  refine w_virtual (a := m) (c := 7) (st := []) mb105 dX7_keeps_9 12 rfl 104 1 [sI ((G 28) (x1).toNatClampNeg)] _ rfl rfl rfl lc7_258 R.2.1 (Nat.le_of_ble_eq_true rfl) (C h 0 0 R) (Nat.zero_le _) (Nat.zero_le _) (fun r h1 hP => ?_)
  obtain ⟨S1, G1, R1, hP⟩ := hP
  exact K r S1 G1 hP h1 _ _ R1

theorem bX7_keeps_12 {d : Nat} {h0 : hp} {m : Nat} {ad : Nat → Nat} {Q : Option sV → rS → rG → Prop} {S : rS} {G : rG} {v1 : sV} {x2 : Int32} {v3 : sV} {v4 : sV} {v5 : sV} {y0 : Int32} (h1 : vp_in (x2) 24) (K1 : (4) ≤ ((G 7) (x2).toNatClampNeg) → rWP d h0 m ad 105 Q 40 [sR (some m), v1, sI (x2), sI (y0), sI (((4) * (x2)) + (y0)), v5] [] S G) (K2 : ¬ (4) ≤ ((G 7) (x2).toNatClampNeg) → rWP d h0 m ad 105 Q 30 [sR (some m), v1, sI (x2), sI (y0), sI (((4) * (x2)) + (y0)), v5] [] S G) : rWP d h0 m ad 105 Q 12 [sR (some m), v1, sI (x2), v3, v4, v5] [sI (y0)] S G := by
  intro h bc bs R
  refine w_istore_n mb105 dX7_keeps_12 13 rfl [sR (some m), v1, sI (x2), sI (y0), v4, v5] (Nat.le_of_ble_eq_true rfl) rfl ?_
  refine w_iconst mb105 dX7_keeps_13 14 rfl (4) (by decide) ?_
  refine w_iload_n mb105 dX7_keeps_14 15 rfl rfl ?_
  refine w_imul mb105 dX7_keeps_15 16 rfl ?_
  refine w_iload_n mb105 dX7_keeps_16 17 rfl rfl ?_
  refine w_iadd mb105 dX7_keeps_17 18 rfl ?_
  refine w_istore mb105 dX7_keeps_18 20 rfl [sR (some m), v1, sI (x2), sI (y0), sI (((4) * (x2)) + (y0)), v5] (Nat.le_of_ble_eq_true rfl) rfl ?_
  refine w_aload_n mb105 dX7_keeps_20 21 rfl rfl ?_
  refine x_geta mb105 dX7_keeps_21 24 rfl R lf7_29 rfl (by decide) ?_
  refine w_iload_n mb105 dX7_keeps_24 25 rfl rfl ?_
  refine x_iald mb105 dX7_keeps_25 26 rfl R 24 rfl (by decide) rfl h1 ?_
  refine w_iconst mb105 dX7_keeps_26 27 rfl (4) (by decide) ?_
  refine w_icmp_ge mb105 dX7_keeps_27 40 30 (by decide) rfl (fun z => ?_) (fun z => ?_)
  · exact K1 z h bc bs R
  · exact K2 z h bc bs R

theorem bX7_keeps_30 {d : Nat} {h0 : hp} {m : Nat} {ad : Nat → Nat} {Q : Option sV → rS → rG → Prop} {S : rS} {G : rG} {v1 : sV} {x2 : Int32} {v3 : sV} {v4 : sV} {v5 : sV} (h1 : vp_in (x2) 24) (K : rWP d h0 m ad 105 Q 40 [sR (some m), v1, sI (x2), v3, v4, v5] [] S (gup G 7 (x2).toNatClampNeg (((G 7) (x2).toNatClampNeg) + (1)))) : rWP d h0 m ad 105 Q 30 [sR (some m), v1, sI (x2), v3, v4, v5] [] S G := by
  intro h bc bs R
  refine w_aload_n mb105 dX7_keeps_30 31 rfl rfl ?_
  refine x_geta mb105 dX7_keeps_31 34 rfl R lf7_29 rfl (by decide) ?_
  refine w_iload_n mb105 dX7_keeps_34 35 rfl rfl ?_
  refine w_dup2 mb105 dX7_keeps_35 36 rfl rfl rfl ?_
  refine x_iald mb105 dX7_keeps_36 37 rfl R 24 rfl (by decide) rfl h1 ?_
  refine w_iconst mb105 dX7_keeps_37 38 rfl (1) (by decide) ?_
  refine w_iadd mb105 dX7_keeps_38 39 rfl ?_
  refine x_iast mb105 dX7_keeps_39 40 rfl R 24 rfl (by decide) rfl h1 (fun h R => ?_)
  exact K h bc bs R

theorem bX7_keeps_40 {d : Nat} {h0 : hp} {m : Nat} {ad : Nat → Nat} {Q : Option sV → rS → rG → Prop} {S : rS} {G : rG} {v1 : sV} {x2 : Int32} {x3 : Int32} {v4 : sV} {v5 : sV} (h1 : vp_in (x2) 24) {P : Option sV → rS → rG → Prop} (C : rM d h0 m ad 103 [sR (some m), sI (x2), sI (x3), sI (((G 7) (x2).toNatClampNeg) - (1))] S G P) (K : ∀ r S1 G1, P r S1 G1 → rWP d h0 m ad 105 Q 54 [sR (some m), v1, sI (x2), sI (x3), v4, v5] (r.toList ++ []) S1 G1) : rWP d h0 m ad 105 Q 40 [sR (some m), v1, sI (x2), sI (x3), v4, v5] [] S G := by
  intro h bc bs R
  refine w_aload_n mb105 dX7_keeps_40 41 rfl rfl ?_
  refine w_iload_n mb105 dX7_keeps_41 42 rfl rfl ?_
  refine w_iload_n mb105 dX7_keeps_42 43 rfl rfl ?_
  refine w_aload_n mb105 dX7_keeps_43 44 rfl rfl ?_
  refine x_geta mb105 dX7_keeps_44 47 rfl R lf7_29 rfl (by decide) ?_
  refine w_iload_n mb105 dX7_keeps_47 48 rfl rfl ?_
  refine x_iald mb105 dX7_keeps_48 49 rfl R 24 rfl (by decide) rfl h1 ?_
  refine w_iconst mb105 dX7_keeps_49 50 rfl (1) (by decide) ?_
  refine w_isub mb105 dX7_keeps_50 51 rfl ?_
  refine w_virtual (a := m) (c := 7) (st := []) mb105 dX7_keeps_51 54 rfl 103 3 [sI (x2), sI (x3), sI (((G 7) (x2).toNatClampNeg) - (1))] _ rfl rfl rfl lc7_254 R.2.1 (Nat.le_of_ble_eq_true rfl) (C h 0 0 R) (Nat.zero_le _) (Nat.zero_le _) (fun r h1 hP => ?_)
  obtain ⟨S1, G1, R1, hP⟩ := hP
  exact K r S1 G1 hP h1 _ _ R1

theorem bX7_keeps_54 {d : Nat} {h0 : hp} {m : Nat} {ad : Nat → Nat} {Q : Option sV → rS → rG → Prop} {S : rS} {G : rG} {x1 : Int32} {x2 : Int32} {v3 : sV} {x4 : Int32} {v5 : sV} (h1 : vp_in (x1) 24) (h2 : vp_in (x4) 96) (h3 : vp_in (x2) 24) (K : rWP d h0 m ad 105 Q 109 [sR (some m), sI (x1), sI (x2), v3, sI (x4), sI (0)] [] S (gup (gup (gup (gup G 9 (x4).toNatClampNeg ((G 30) (x1).toNatClampNeg)) 10 (x4).toNatClampNeg ((G 19) (x2).toNatClampNeg)) 11 (x4).toNatClampNeg ((G 20) (x2).toNatClampNeg)) 12 (x4).toNatClampNeg ((G 21) (x2).toNatClampNeg))) : rWP d h0 m ad 105 Q 54 [sR (some m), sI (x1), sI (x2), v3, sI (x4), v5] [] S G := by
  intro h bc bs R
  refine w_aload_n mb105 dX7_keeps_54 55 rfl rfl ?_
  refine x_geta mb105 dX7_keeps_55 58 rfl R lf7_35 rfl (by decide) ?_
  refine w_iload mb105 dX7_keeps_58 60 rfl rfl ?_
  refine w_aload_n mb105 dX7_keeps_60 61 rfl rfl ?_
  refine x_geta mb105 dX7_keeps_61 64 rfl R lf7_96 rfl (by decide) ?_
  refine w_iload_n mb105 dX7_keeps_64 65 rfl rfl ?_
  refine x_iald mb105 dX7_keeps_65 66 rfl R 24 rfl (by decide) rfl h1 ?_
  refine x_iast mb105 dX7_keeps_66 67 rfl R 96 rfl (by decide) rfl h2 (fun h R => ?_)
  refine w_aload_n mb105 dX7_keeps_67 68 rfl rfl ?_
  refine x_geta mb105 dX7_keeps_68 71 rfl R lf7_38 rfl (by decide) ?_
  refine w_iload mb105 dX7_keeps_71 73 rfl rfl ?_
  refine w_aload_n mb105 dX7_keeps_73 74 rfl rfl ?_
  refine x_geta mb105 dX7_keeps_74 77 rfl R lf7_66 rfl (by decide) ?_
  refine w_iload_n mb105 dX7_keeps_77 78 rfl rfl ?_
  refine x_iald mb105 dX7_keeps_78 79 rfl R 24 rfl (by decide) rfl h3 ?_
  refine x_iast mb105 dX7_keeps_79 80 rfl R 96 rfl (by decide) rfl h2 (fun h R => ?_)
  refine w_aload_n mb105 dX7_keeps_80 81 rfl rfl ?_
  refine x_geta mb105 dX7_keeps_81 84 rfl R lf7_41 rfl (by decide) ?_
  refine w_iload mb105 dX7_keeps_84 86 rfl rfl ?_
  refine w_aload_n mb105 dX7_keeps_86 87 rfl rfl ?_
  refine x_geta mb105 dX7_keeps_87 90 rfl R lf7_69 rfl (by decide) ?_
  refine w_iload_n mb105 dX7_keeps_90 91 rfl rfl ?_
  refine x_iald mb105 dX7_keeps_91 92 rfl R 24 rfl (by decide) rfl h3 ?_
  refine x_iast mb105 dX7_keeps_92 93 rfl R 96 rfl (by decide) rfl h2 (fun h R => ?_)
  refine w_aload_n mb105 dX7_keeps_93 94 rfl rfl ?_
  refine x_geta mb105 dX7_keeps_94 97 rfl R lf7_44 rfl (by decide) ?_
  refine w_iload mb105 dX7_keeps_97 99 rfl rfl ?_
  refine w_aload_n mb105 dX7_keeps_99 100 rfl rfl ?_
  refine x_geta mb105 dX7_keeps_100 103 rfl R lf7_72 rfl (by decide) ?_
  refine w_iload_n mb105 dX7_keeps_103 104 rfl rfl ?_
  refine x_iald mb105 dX7_keeps_104 105 rfl R 24 rfl (by decide) rfl h3 ?_
  refine x_iast mb105 dX7_keeps_105 106 rfl R 96 rfl (by decide) rfl h2 (fun h R => ?_)
  refine w_iconst mb105 dX7_keeps_106 107 rfl (0) (by decide) ?_
  refine w_istore mb105 dX7_keeps_107 109 rfl [sR (some m), sI (x1), sI (x2), v3, sI (x4), sI (0)] (Nat.le_of_ble_eq_true rfl) rfl ?_
  exact K h bc bs R

theorem bX7_keeps_109 {d : Nat} {h0 : hp} {m : Nat} {ad : Nat → Nat} {Q : Option sV → rS → rG → Prop} {S : rS} {G : rG} {v1 : sV} {x2 : Int32} {v3 : sV} {v4 : sV} {x5 : Int32} (h1 : vp_in (x2) 24) (K1 : ((G 19) (x2).toNatClampNeg) ≤ (x5) → rWP d h0 m ad 105 Q 151 [sR (some m), v1, sI (x2), v3, v4, sI (x5)] [] S G) (K2 : ¬ ((G 19) (x2).toNatClampNeg) ≤ (x5) → rWP d h0 m ad 105 Q 120 [sR (some m), v1, sI (x2), v3, v4, sI (x5)] [] S G) : rWP d h0 m ad 105 Q 109 [sR (some m), v1, sI (x2), v3, v4, sI (x5)] [] S G := by
  intro h bc bs R
  refine w_iload mb105 dX7_keeps_109 111 rfl rfl ?_
  refine w_aload_n mb105 dX7_keeps_111 112 rfl rfl ?_
  refine x_geta mb105 dX7_keeps_112 115 rfl R lf7_66 rfl (by decide) ?_
  refine w_iload_n mb105 dX7_keeps_115 116 rfl rfl ?_
  refine x_iald mb105 dX7_keeps_116 117 rfl R 24 rfl (by decide) rfl h1 ?_
  refine w_icmp_ge mb105 dX7_keeps_117 151 120 (by decide) rfl (fun z => ?_) (fun z => ?_)
  · exact K1 z h bc bs R
  · exact K2 z h bc bs R

theorem bX7_keeps_120 {d : Nat} {h0 : hp} {m : Nat} {ad : Nat → Nat} {Q : Option sV → rS → rG → Prop} {S : rS} {G : rG} {v1 : sV} {x2 : Int32} {v3 : sV} {x4 : Int32} {x5 : Int32} (h1 : vp_in (((24) * (x2)) + (x5)) 576) (h2 : vp_in (((24) * (x4)) + (x5)) 2304) (K : rWP d h0 m ad 105 Q 109 [sR (some m), v1, sI (x2), v3, sI (x4), sI (x5 + 1)] [] S (gup G 13 (((24) * (x4)) + (x5)).toNatClampNeg ((G 22) (((24) * (x2)) + (x5)).toNatClampNeg))) : rWP d h0 m ad 105 Q 120 [sR (some m), v1, sI (x2), v3, sI (x4), sI (x5)] [] S G := by
  intro h bc bs R
  refine w_aload_n mb105 dX7_keeps_120 121 rfl rfl ?_
  refine x_geta mb105 dX7_keeps_121 124 rfl R lf7_47 rfl (by decide) ?_
  refine w_bipush mb105 dX7_keeps_124 126 rfl (24) (by decide) ?_
  refine w_iload mb105 dX7_keeps_126 128 rfl rfl ?_
  refine w_imul mb105 dX7_keeps_128 129 rfl ?_
  refine w_iload mb105 dX7_keeps_129 131 rfl rfl ?_
  refine w_iadd mb105 dX7_keeps_131 132 rfl ?_
  refine w_aload_n mb105 dX7_keeps_132 133 rfl rfl ?_
  refine x_geta mb105 dX7_keeps_133 136 rfl R lf7_75 rfl (by decide) ?_
  refine w_bipush mb105 dX7_keeps_136 138 rfl (24) (by decide) ?_
  refine w_iload_n mb105 dX7_keeps_138 139 rfl rfl ?_
  refine w_imul mb105 dX7_keeps_139 140 rfl ?_
  refine w_iload mb105 dX7_keeps_140 142 rfl rfl ?_
  refine w_iadd mb105 dX7_keeps_142 143 rfl ?_
  refine x_iald mb105 dX7_keeps_143 144 rfl R 576 rfl (by decide) rfl h1 ?_
  refine x_iast mb105 dX7_keeps_144 145 rfl R 2304 rfl (by decide) rfl h2 (fun h R => ?_)
  refine w_iinc mb105 dX7_keeps_145 148 rfl rfl (x5 + 1) rfl [sR (some m), v1, sI (x2), v3, sI (x4), sI (x5 + 1)] rfl ?_
  refine w_goto mb105 dX7_keeps_148 109 (by decide) ?_
  exact K h bc bs R

theorem bX7_keeps_151 {d : Nat} {h0 : hp} {m : Nat} {ad : Nat → Nat} {Q : Option sV → rS → rG → Prop} {S : rS} {G : rG} {v1 : sV} {v2 : sV} {v3 : sV} {v4 : sV} {v5 : sV} (K : rWP d h0 m ad 105 Q 154 [sR (some m), v1, v2, v3, v4, sI (0)] [] S G) : rWP d h0 m ad 105 Q 151 [sR (some m), v1, v2, v3, v4, v5] [] S G := by
  intro h bc bs R
  refine w_iconst mb105 dX7_keeps_151 152 rfl (0) (by decide) ?_
  refine w_istore mb105 dX7_keeps_152 154 rfl [sR (some m), v1, v2, v3, v4, sI (0)] (Nat.le_of_ble_eq_true rfl) rfl ?_
  exact K h bc bs R

theorem bX7_keeps_154 {d : Nat} {h0 : hp} {m : Nat} {ad : Nat → Nat} {Q : Option sV → rS → rG → Prop} {S : rS} {G : rG} {x1 : Int32} {v2 : sV} {v3 : sV} {v4 : sV} {x5 : Int32} (h1 : vp_in (x1) 24) (K1 : ((G 30) (x1).toNatClampNeg) ≤ (x5) → rWP d h0 m ad 105 Q 190 [sR (some m), sI (x1), v2, v3, v4, sI (x5)] [] S G) (K2 : ¬ ((G 30) (x1).toNatClampNeg) ≤ (x5) → rWP d h0 m ad 105 Q 165 [sR (some m), sI (x1), v2, v3, v4, sI (x5)] [] S G) : rWP d h0 m ad 105 Q 154 [sR (some m), sI (x1), v2, v3, v4, sI (x5)] [] S G := by
  intro h bc bs R
  refine w_iload mb105 dX7_keeps_154 156 rfl rfl ?_
  refine w_aload_n mb105 dX7_keeps_156 157 rfl rfl ?_
  refine x_geta mb105 dX7_keeps_157 160 rfl R lf7_96 rfl (by decide) ?_
  refine w_iload_n mb105 dX7_keeps_160 161 rfl rfl ?_
  refine x_iald mb105 dX7_keeps_161 162 rfl R 24 rfl (by decide) rfl h1 ?_
  refine w_icmp_ge mb105 dX7_keeps_162 190 165 (by decide) rfl (fun z => ?_) (fun z => ?_)
  · exact K1 z h bc bs R
  · exact K2 z h bc bs R

theorem bX7_keeps_165 {d : Nat} {h0 : hp} {m : Nat} {ad : Nat → Nat} {Q : Option sV → rS → rG → Prop} {S : rS} {G : rG} {x1 : Int32} {v2 : sV} {v3 : sV} {x4 : Int32} {x5 : Int32} {P : Option sV → rS → rG → Prop} (C : rM d h0 m ad 106 [sR (some m), sI (((25) * (x1)) + (x5)), sI (((25) * (x4)) + (x5))] S G P) (K : ∀ r S1 G1, P r S1 G1 → rWP d h0 m ad 105 Q 184 [sR (some m), sI (x1), v2, v3, sI (x4), sI (x5)] (r.toList ++ []) S1 G1) : rWP d h0 m ad 105 Q 165 [sR (some m), sI (x1), v2, v3, sI (x4), sI (x5)] [] S G := by
  intro h bc bs R
  refine w_aload_n mb105 dX7_keeps_165 166 rfl rfl ?_
  refine w_bipush mb105 dX7_keeps_166 168 rfl (25) (by decide) ?_
  refine w_iload_n mb105 dX7_keeps_168 169 rfl rfl ?_
  refine w_imul mb105 dX7_keeps_169 170 rfl ?_
  refine w_iload mb105 dX7_keeps_170 172 rfl rfl ?_
  refine w_iadd mb105 dX7_keeps_172 173 rfl ?_
  refine w_bipush mb105 dX7_keeps_173 175 rfl (25) (by decide) ?_
  refine w_iload mb105 dX7_keeps_175 177 rfl rfl ?_
  refine w_imul mb105 dX7_keeps_177 178 rfl ?_
  refine w_iload mb105 dX7_keeps_178 180 rfl rfl ?_
  refine w_iadd mb105 dX7_keeps_180 181 rfl ?_
  refine w_virtual (a := m) (c := 7) (st := []) mb105 dX7_keeps_181 184 rfl 106 2 [sI (((25) * (x1)) + (x5)), sI (((25) * (x4)) + (x5))] _ rfl rfl rfl lc7_261 R.2.1 (Nat.le_of_ble_eq_true rfl) (C h 0 0 R) (Nat.zero_le _) (Nat.zero_le _) (fun r h1 hP => ?_)
  obtain ⟨S1, G1, R1, hP⟩ := hP
  exact K r S1 G1 hP h1 _ _ R1

theorem bX7_keeps_184 {d : Nat} {h0 : hp} {m : Nat} {ad : Nat → Nat} {Q : Option sV → rS → rG → Prop} {S : rS} {G : rG} {v1 : sV} {v2 : sV} {v3 : sV} {v4 : sV} {x5 : Int32} (K : rWP d h0 m ad 105 Q 154 [sR (some m), v1, v2, v3, v4, sI (x5 + 1)] [] S G) : rWP d h0 m ad 105 Q 184 [sR (some m), v1, v2, v3, v4, sI (x5)] [] S G := by
  intro h bc bs R
  refine w_iinc mb105 dX7_keeps_184 187 rfl rfl (x5 + 1) rfl [sR (some m), v1, v2, v3, v4, sI (x5 + 1)] rfl ?_
  refine w_goto mb105 dX7_keeps_187 154 (by decide) ?_
  exact K h bc bs R

theorem bX7_keeps_190 {d : Nat} {h0 : hp} {m : Nat} {ad : Nat → Nat} {Q : Option sV → rS → rG → Prop} {S : rS} {G : rG} {v1 : sV} {v2 : sV} {v3 : sV} {v4 : sV} {v5 : sV} (K : Q (none) S G) : rWP d h0 m ad 105 Q 190 [sR (some m), v1, v2, v3, v4, v5] [] S G := by
  intro h bc bs R
  refine w_vret mb105 dX7_keeps_190 rfl ?_
  exact ⟨_, _, R, K⟩

theorem bX7_keepsRead_0 {d : Nat} {h0 : hp} {m : Nat} {ad : Nat → Nat} {Q : Option sV → rS → rG → Prop} {S : rS} {G : rG} {x1 : Int32} {x2 : Int32} {v3 : sV} (h1 : vp_in (x1) 600) (h2 : vp_in (x2) 2400) (K : rWP d h0 m ad 106 Q 50 [sR (some m), sI (x1), sI (x2), sI (0)] [] S (gup (gup (gup (gup G 14 (x2).toNatClampNeg ((G 33) (x1).toNatClampNeg)) 15 (x2).toNatClampNeg ((G 34) (x1).toNatClampNeg)) 16 (x2).toNatClampNeg ((G 35) (x1).toNatClampNeg)) 17 (x2).toNatClampNeg ((G 36) (x1).toNatClampNeg))) : rWP d h0 m ad 106 Q 0 [sR (some m), sI (x1), sI (x2), v3] [] S G := by
  intro h bc bs R
  refine w_aload_n mb106 dX7_keepsRead_0 1 rfl rfl ?_
  refine x_geta mb106 dX7_keepsRead_1 4 rfl R lf7_50 rfl (by decide) ?_
  refine w_iload_n mb106 dX7_keepsRead_4 5 rfl rfl ?_
  refine w_aload_n mb106 dX7_keepsRead_5 6 rfl rfl ?_
  refine x_geta mb106 dX7_keepsRead_6 9 rfl R lf7_102 rfl (by decide) ?_
  refine w_iload_n mb106 dX7_keepsRead_9 10 rfl rfl ?_
  refine x_iald mb106 dX7_keepsRead_10 11 rfl R 600 rfl (by decide) rfl h1 ?_
  refine x_iast mb106 dX7_keepsRead_11 12 rfl R 2400 rfl (by decide) rfl h2 (fun h R => ?_)
  refine w_aload_n mb106 dX7_keepsRead_12 13 rfl rfl ?_
  refine x_geta mb106 dX7_keepsRead_13 16 rfl R lf7_53 rfl (by decide) ?_
  refine w_iload_n mb106 dX7_keepsRead_16 17 rfl rfl ?_
  refine w_aload_n mb106 dX7_keepsRead_17 18 rfl rfl ?_
  refine x_geta mb106 dX7_keepsRead_18 21 rfl R lf7_105 rfl (by decide) ?_
  refine w_iload_n mb106 dX7_keepsRead_21 22 rfl rfl ?_
  refine x_iald mb106 dX7_keepsRead_22 23 rfl R 600 rfl (by decide) rfl h1 ?_
  refine x_iast mb106 dX7_keepsRead_23 24 rfl R 2400 rfl (by decide) rfl h2 (fun h R => ?_)
  refine w_aload_n mb106 dX7_keepsRead_24 25 rfl rfl ?_
  refine x_geta mb106 dX7_keepsRead_25 28 rfl R lf7_56 rfl (by decide) ?_
  refine w_iload_n mb106 dX7_keepsRead_28 29 rfl rfl ?_
  refine w_aload_n mb106 dX7_keepsRead_29 30 rfl rfl ?_
  refine x_geta mb106 dX7_keepsRead_30 33 rfl R lf7_108 rfl (by decide) ?_
  refine w_iload_n mb106 dX7_keepsRead_33 34 rfl rfl ?_
  refine x_iald mb106 dX7_keepsRead_34 35 rfl R 600 rfl (by decide) rfl h1 ?_
  refine x_iast mb106 dX7_keepsRead_35 36 rfl R 2400 rfl (by decide) rfl h2 (fun h R => ?_)
  refine w_aload_n mb106 dX7_keepsRead_36 37 rfl rfl ?_
  refine x_geta mb106 dX7_keepsRead_37 40 rfl R lf7_59 rfl (by decide) ?_
  refine w_iload_n mb106 dX7_keepsRead_40 41 rfl rfl ?_
  refine w_aload_n mb106 dX7_keepsRead_41 42 rfl rfl ?_
  refine x_geta mb106 dX7_keepsRead_42 45 rfl R lf7_111 rfl (by decide) ?_
  refine w_iload_n mb106 dX7_keepsRead_45 46 rfl rfl ?_
  refine x_iald mb106 dX7_keepsRead_46 47 rfl R 600 rfl (by decide) rfl h1 ?_
  refine x_iast mb106 dX7_keepsRead_47 48 rfl R 2400 rfl (by decide) rfl h2 (fun h R => ?_)
  refine w_iconst mb106 dX7_keepsRead_48 49 rfl (0) (by decide) ?_
  refine w_istore_n mb106 dX7_keepsRead_49 50 rfl [sR (some m), sI (x1), sI (x2), sI (0)] (Nat.le_of_ble_eq_true rfl) rfl ?_
  exact K h bc bs R

theorem bX7_keepsRead_50 {d : Nat} {h0 : hp} {m : Nat} {ad : Nat → Nat} {Q : Option sV → rS → rG → Prop} {S : rS} {G : rG} {x1 : Int32} {v2 : sV} {x3 : Int32} (h1 : vp_in (x1) 600) (K1 : ((G 34) (x1).toNatClampNeg) ≤ (x3) → rWP d h0 m ad 106 Q 88 [sR (some m), sI (x1), v2, sI (x3)] [] S G) (K2 : ¬ ((G 34) (x1).toNatClampNeg) ≤ (x3) → rWP d h0 m ad 106 Q 60 [sR (some m), sI (x1), v2, sI (x3)] [] S G) : rWP d h0 m ad 106 Q 50 [sR (some m), sI (x1), v2, sI (x3)] [] S G := by
  intro h bc bs R
  refine w_iload_n mb106 dX7_keepsRead_50 51 rfl rfl ?_
  refine w_aload_n mb106 dX7_keepsRead_51 52 rfl rfl ?_
  refine x_geta mb106 dX7_keepsRead_52 55 rfl R lf7_105 rfl (by decide) ?_
  refine w_iload_n mb106 dX7_keepsRead_55 56 rfl rfl ?_
  refine x_iald mb106 dX7_keepsRead_56 57 rfl R 600 rfl (by decide) rfl h1 ?_
  refine w_icmp_ge mb106 dX7_keepsRead_57 88 60 (by decide) rfl (fun z => ?_) (fun z => ?_)
  · exact K1 z h bc bs R
  · exact K2 z h bc bs R

theorem bX7_keepsRead_60 {d : Nat} {h0 : hp} {m : Nat} {ad : Nat → Nat} {Q : Option sV → rS → rG → Prop} {S : rS} {G : rG} {x1 : Int32} {x2 : Int32} {x3 : Int32} (h1 : vp_in (((24) * (x1)) + (x3)) 14400) (h2 : vp_in (((24) * (x2)) + (x3)) 57600) (K : rWP d h0 m ad 106 Q 50 [sR (some m), sI (x1), sI (x2), sI (x3 + 1)] [] S (gup G 18 (((24) * (x2)) + (x3)).toNatClampNeg ((G 37) (((24) * (x1)) + (x3)).toNatClampNeg))) : rWP d h0 m ad 106 Q 60 [sR (some m), sI (x1), sI (x2), sI (x3)] [] S G := by
  intro h bc bs R
  refine w_aload_n mb106 dX7_keepsRead_60 61 rfl rfl ?_
  refine x_geta mb106 dX7_keepsRead_61 64 rfl R lf7_63 rfl (by decide) ?_
  refine w_bipush mb106 dX7_keepsRead_64 66 rfl (24) (by decide) ?_
  refine w_iload_n mb106 dX7_keepsRead_66 67 rfl rfl ?_
  refine w_imul mb106 dX7_keepsRead_67 68 rfl ?_
  refine w_iload_n mb106 dX7_keepsRead_68 69 rfl rfl ?_
  refine w_iadd mb106 dX7_keepsRead_69 70 rfl ?_
  refine w_aload_n mb106 dX7_keepsRead_70 71 rfl rfl ?_
  refine x_geta mb106 dX7_keepsRead_71 74 rfl R lf7_114 rfl (by decide) ?_
  refine w_bipush mb106 dX7_keepsRead_74 76 rfl (24) (by decide) ?_
  refine w_iload_n mb106 dX7_keepsRead_76 77 rfl rfl ?_
  refine w_imul mb106 dX7_keepsRead_77 78 rfl ?_
  refine w_iload_n mb106 dX7_keepsRead_78 79 rfl rfl ?_
  refine w_iadd mb106 dX7_keepsRead_79 80 rfl ?_
  refine x_iald mb106 dX7_keepsRead_80 81 rfl R 14400 rfl (by decide) rfl h1 ?_
  refine x_iast mb106 dX7_keepsRead_81 82 rfl R 57600 rfl (by decide) rfl h2 (fun h R => ?_)
  refine w_iinc mb106 dX7_keepsRead_82 85 rfl rfl (x3 + 1) rfl [sR (some m), sI (x1), sI (x2), sI (x3 + 1)] rfl ?_
  refine w_goto mb106 dX7_keepsRead_85 50 (by decide) ?_
  exact K h bc bs R

theorem bX7_keepsRead_88 {d : Nat} {h0 : hp} {m : Nat} {ad : Nat → Nat} {Q : Option sV → rS → rG → Prop} {S : rS} {G : rG} {v1 : sV} {v2 : sV} {v3 : sV} (K : Q (none) S G) : rWP d h0 m ad 106 Q 88 [sR (some m), v1, v2, v3] [] S G := by
  intro h bc bs R
  refine w_vret mb106 dX7_keepsRead_88 rfl ?_
  exact ⟨_, _, R, K⟩

theorem bX7_begins_0 {d : Nat} {h0 : hp} {m : Nat} {ad : Nat → Nat} {Q : Option sV → rS → rG → Prop} {S : rS} {G : rG} {x1 : Int32} (h1 : vp_in (x1) 24) (K1 : (S 27) = 0 → rWP d h0 m ad 107 Q 57 [sR (some m), sI (x1)] [] S (gup (gup (gup (gup (gup (gup (gup G 31 (x1).toNatClampNeg (1)) 30 (x1).toNatClampNeg (0)) 38 (x1).toNatClampNeg (0)) 40 (x1).toNatClampNeg (0)) 43 (x1).toNatClampNeg (0)) 41 (x1).toNatClampNeg (0)) 42 (x1).toNatClampNeg (0))) (K2 : ¬ (S 27) = 0 → rWP d h0 m ad 107 Q 56 [sR (some m), sI (x1)] [] S (gup (gup (gup (gup (gup (gup (gup G 31 (x1).toNatClampNeg (1)) 30 (x1).toNatClampNeg (0)) 38 (x1).toNatClampNeg (0)) 40 (x1).toNatClampNeg (0)) 43 (x1).toNatClampNeg (0)) 41 (x1).toNatClampNeg (0)) 42 (x1).toNatClampNeg (0))) : rWP d h0 m ad 107 Q 0 [sR (some m), sI (x1)] [] S G := by
  intro h bc bs R
  refine w_aload_n mb107 dX7_begins_0 1 rfl rfl ?_
  refine x_geta mb107 dX7_begins_1 4 rfl R lf7_99 rfl (by decide) ?_
  refine w_iload_n mb107 dX7_begins_4 5 rfl rfl ?_
  refine w_iconst mb107 dX7_begins_5 6 rfl (1) (by decide) ?_
  refine x_bast mb107 dX7_begins_6 7 rfl R 24 rfl (by decide) rfl h1 (Or.inr rfl) (fun h R => ?_)
  refine w_aload_n mb107 dX7_begins_7 8 rfl rfl ?_
  refine x_geta mb107 dX7_begins_8 11 rfl R lf7_96 rfl (by decide) ?_
  refine w_iload_n mb107 dX7_begins_11 12 rfl rfl ?_
  refine w_iconst mb107 dX7_begins_12 13 rfl (0) (by decide) ?_
  refine x_iast mb107 dX7_begins_13 14 rfl R 24 rfl (by decide) rfl h1 (fun h R => ?_)
  refine w_aload_n mb107 dX7_begins_14 15 rfl rfl ?_
  refine x_geta mb107 dX7_begins_15 18 rfl R lf7_117 rfl (by decide) ?_
  refine w_iload_n mb107 dX7_begins_18 19 rfl rfl ?_
  refine w_iconst mb107 dX7_begins_19 20 rfl (0) (by decide) ?_
  refine x_iast mb107 dX7_begins_20 21 rfl R 24 rfl (by decide) rfl h1 (fun h R => ?_)
  refine w_aload_n mb107 dX7_begins_21 22 rfl rfl ?_
  refine x_geta mb107 dX7_begins_22 25 rfl R lf7_123 rfl (by decide) ?_
  refine w_iload_n mb107 dX7_begins_25 26 rfl rfl ?_
  refine w_iconst mb107 dX7_begins_26 27 rfl (0) (by decide) ?_
  refine x_iast mb107 dX7_begins_27 28 rfl R 24 rfl (by decide) rfl h1 (fun h R => ?_)
  refine w_aload_n mb107 dX7_begins_28 29 rfl rfl ?_
  refine x_geta mb107 dX7_begins_29 32 rfl R lf7_132 rfl (by decide) ?_
  refine w_iload_n mb107 dX7_begins_32 33 rfl rfl ?_
  refine w_iconst mb107 dX7_begins_33 34 rfl (0) (by decide) ?_
  refine x_bast mb107 dX7_begins_34 35 rfl R 24 rfl (by decide) rfl h1 (Or.inl rfl) (fun h R => ?_)
  refine w_aload_n mb107 dX7_begins_35 36 rfl rfl ?_
  refine x_geta mb107 dX7_begins_36 39 rfl R lf7_126 rfl (by decide) ?_
  refine w_iload_n mb107 dX7_begins_39 40 rfl rfl ?_
  refine w_iconst mb107 dX7_begins_40 41 rfl (0) (by decide) ?_
  refine x_iast mb107 dX7_begins_41 42 rfl R 24 rfl (by decide) rfl h1 (fun h R => ?_)
  refine w_aload_n mb107 dX7_begins_42 43 rfl rfl ?_
  refine x_geta mb107 dX7_begins_43 46 rfl R lf7_129 rfl (by decide) ?_
  refine w_iload_n mb107 dX7_begins_46 47 rfl rfl ?_
  refine w_iconst mb107 dX7_begins_47 48 rfl (0) (by decide) ?_
  refine x_iast mb107 dX7_begins_48 49 rfl R 24 rfl (by decide) rfl h1 (fun h R => ?_)
  refine w_aload_n mb107 dX7_begins_49 50 rfl rfl ?_
  refine x_geti mb107 dX7_begins_50 53 rfl R lf7_220 rfl ?_
  refine w_if_eq mb107 dX7_begins_53 57 56 (by decide) rfl (fun z => ?_) (fun z => ?_)
  · exact K1 z h bc bs R
  · exact K2 z h bc bs R

theorem bX7_begins_56 {d : Nat} {h0 : hp} {m : Nat} {ad : Nat → Nat} {Q : Option sV → rS → rG → Prop} {S : rS} {G : rG} {v1 : sV} (K : Q (none) S G) : rWP d h0 m ad 107 Q 56 [sR (some m), v1] [] S G := by
  intro h bc bs R
  refine w_vret mb107 dX7_begins_56 rfl ?_
  exact ⟨_, _, R, K⟩

theorem bX7_begins_57 {d : Nat} {h0 : hp} {m : Nat} {ad : Nat → Nat} {Q : Option sV → rS → rG → Prop} {S : rS} {G : rG} {x1 : Int32} (h1 : vp_in (x1) 24) (h2 : vp_in (S 52) 24) (K : Q (none) (va_up (va_up S 52 ((S 52) + (1))) 55 ((S 55) + (1))) (gup G 57 (S 52).toNatClampNeg ((G 28) (x1).toNatClampNeg))) : rWP d h0 m ad 107 Q 57 [sR (some m), sI (x1)] [] S G := by
  intro h bc bs R
  refine w_aload_n mb107 dX7_begins_57 58 rfl rfl ?_
  refine x_geta mb107 dX7_begins_58 61 rfl R lf7_145 rfl (by decide) ?_
  refine w_aload_n mb107 dX7_begins_61 62 rfl rfl ?_
  refine x_geti mb107 dX7_begins_62 65 rfl R lf7_264 rfl ?_
  refine w_aload_n mb107 dX7_begins_65 66 rfl rfl ?_
  refine x_geta mb107 dX7_begins_66 69 rfl R lf7_90 rfl (by decide) ?_
  refine w_iload_n mb107 dX7_begins_69 70 rfl rfl ?_
  refine x_iald mb107 dX7_begins_70 71 rfl R 24 rfl (by decide) rfl h1 ?_
  refine x_iast mb107 dX7_begins_71 72 rfl R 24 rfl (by decide) rfl h2 (fun h R => ?_)
  refine w_aload_n mb107 dX7_begins_72 73 rfl rfl ?_
  refine w_dup mb107 dX7_begins_73 74 rfl rfl ?_
  refine x_geti mb107 dX7_begins_74 77 rfl R lf7_264 rfl ?_
  refine w_iconst mb107 dX7_begins_77 78 rfl (1) (by decide) ?_
  refine w_iadd mb107 dX7_begins_78 79 rfl ?_
  refine x_puti mb107 dX7_begins_79 82 rfl R (lp7_264 _) rfl (fun h R => ?_)
  refine w_aload_n mb107 dX7_begins_82 83 rfl rfl ?_
  refine w_dup mb107 dX7_begins_83 84 rfl rfl ?_
  refine x_geti mb107 dX7_begins_84 87 rfl R lf7_267 rfl ?_
  refine w_iconst mb107 dX7_begins_87 88 rfl (1) (by decide) ?_
  refine w_iadd mb107 dX7_begins_88 89 rfl ?_
  refine x_puti mb107 dX7_begins_89 92 rfl R (lp7_267 _) rfl (fun h R => ?_)
  refine w_vret mb107 dX7_begins_92 rfl ?_
  exact ⟨_, _, R, K⟩

theorem bX7_nextRead_0 {d : Nat} {h0 : hp} {m : Nat} {ad : Nat → Nat} {Q : Option sV → rS → rG → Prop} {S : rS} {G : rG} {x1 : Int32} {v2 : sV} {v3 : sV} {v4 : sV} {v5 : sV} {v6 : sV} (h1 : vp_in (x1) 24) (K1 : ((G 43) (x1).toNatClampNeg) = 0 → rWP d h0 m ad 108 Q 25 [sR (some m), sI (x1), sI ((G 28) (x1).toNatClampNeg), sI ((G 30) (x1).toNatClampNeg), v4, v5, v6] [] S G) (K2 : ¬ ((G 43) (x1).toNatClampNeg) = 0 → rWP d h0 m ad 108 Q 23 [sR (some m), sI (x1), sI ((G 28) (x1).toNatClampNeg), sI ((G 30) (x1).toNatClampNeg), v4, v5, v6] [] S G) : rWP d h0 m ad 108 Q 0 [sR (some m), sI (x1), v2, v3, v4, v5, v6] [] S G := by
  intro h bc bs R
  refine w_aload_n mb108 dX7_nextRead_0 1 rfl rfl ?_
  refine x_geta mb108 dX7_nextRead_1 4 rfl R lf7_90 rfl (by decide) ?_
  refine w_iload_n mb108 dX7_nextRead_4 5 rfl rfl ?_
  refine x_iald mb108 dX7_nextRead_5 6 rfl R 24 rfl (by decide) rfl h1 ?_
  refine w_istore_n mb108 dX7_nextRead_6 7 rfl [sR (some m), sI (x1), sI ((G 28) (x1).toNatClampNeg), v3, v4, v5, v6] (Nat.le_of_ble_eq_true rfl) rfl ?_
  refine w_aload_n mb108 dX7_nextRead_7 8 rfl rfl ?_
  refine x_geta mb108 dX7_nextRead_8 11 rfl R lf7_96 rfl (by decide) ?_
  refine w_iload_n mb108 dX7_nextRead_11 12 rfl rfl ?_
  refine x_iald mb108 dX7_nextRead_12 13 rfl R 24 rfl (by decide) rfl h1 ?_
  refine w_istore_n mb108 dX7_nextRead_13 14 rfl [sR (some m), sI (x1), sI ((G 28) (x1).toNatClampNeg), sI ((G 30) (x1).toNatClampNeg), v4, v5, v6] (Nat.le_of_ble_eq_true rfl) rfl ?_
  refine w_aload_n mb108 dX7_nextRead_14 15 rfl rfl ?_
  refine x_geta mb108 dX7_nextRead_15 18 rfl R lf7_132 rfl (by decide) ?_
  refine w_iload_n mb108 dX7_nextRead_18 19 rfl rfl ?_
  refine x_bald mb108 dX7_nextRead_19 20 rfl R 24 rfl (by decide) rfl h1 ?_
  refine w_if_eq mb108 dX7_nextRead_20 25 23 (by decide) rfl (fun z => ?_) (fun z => ?_)
  · exact K1 z h bc bs R
  · exact K2 z h bc bs R

theorem bX7_nextRead_23 {d : Nat} {h0 : hp} {m : Nat} {ad : Nat → Nat} {Q : Option sV → rS → rG → Prop} {S : rS} {G : rG} {v1 : sV} {v2 : sV} {v3 : sV} {v4 : sV} {v5 : sV} {v6 : sV} (K : Q (some (sI ((-1)))) S G) : rWP d h0 m ad 108 Q 23 [sR (some m), v1, v2, v3, v4, v5, v6] [] S G := by
  intro h bc bs R
  refine w_iconst mb108 dX7_nextRead_23 24 rfl ((-1)) (by decide) ?_
  refine w_iret mb108 dX7_nextRead_24 rfl ?_
  exact ⟨_, _, R, K⟩

theorem bX7_nextRead_25 {d : Nat} {h0 : hp} {m : Nat} {ad : Nat → Nat} {Q : Option sV → rS → rG → Prop} {S : rS} {G : rG} {v1 : sV} {x2 : Int32} {v3 : sV} {v4 : sV} {v5 : sV} {v6 : sV} (h1 : vp_in (x2) 24) (K1 : (5) ≤ ((G 2) (x2).toNatClampNeg) → rWP d h0 m ad 108 Q 61 [sR (some m), v1, sI (x2), v3, v4, v5, v6] [] S G) (K2 : ¬ (5) ≤ ((G 2) (x2).toNatClampNeg) → rWP d h0 m ad 108 Q 35 [sR (some m), v1, sI (x2), v3, v4, v5, v6] [] S G) : rWP d h0 m ad 108 Q 25 [sR (some m), v1, sI (x2), v3, v4, v5, v6] [] S G := by
  intro h bc bs R
  refine w_aload_n mb108 dX7_nextRead_25 26 rfl rfl ?_
  refine x_geta mb108 dX7_nextRead_26 29 rfl R lf7_16 rfl (by decide) ?_
  refine w_iload_n mb108 dX7_nextRead_29 30 rfl rfl ?_
  refine x_iald mb108 dX7_nextRead_30 31 rfl R 24 rfl (by decide) rfl h1 ?_
  refine w_iconst mb108 dX7_nextRead_31 32 rfl (5) (by decide) ?_
  refine w_icmp_ge mb108 dX7_nextRead_32 61 35 (by decide) rfl (fun z => ?_) (fun z => ?_)
  · exact K1 z h bc bs R
  · exact K2 z h bc bs R

theorem bX7_nextRead_35 {d : Nat} {h0 : hp} {m : Nat} {ad : Nat → Nat} {Q : Option sV → rS → rG → Prop} {S : rS} {G : rG} {v1 : sV} {x2 : Int32} {x3 : Int32} {v4 : sV} {v5 : sV} {v6 : sV} (h1 : vp_in (x2) 24) (K1 : ((G 3) (x2).toNatClampNeg) ≤ (x3) → rWP d h0 m ad 108 Q 59 [sR (some m), v1, sI (x2), sI (x3), v4, v5, v6] [] S G) (K2 : ¬ ((G 3) (x2).toNatClampNeg) ≤ (x3) → rWP d h0 m ad 108 Q 45 [sR (some m), v1, sI (x2), sI (x3), v4, v5, v6] [] S G) : rWP d h0 m ad 108 Q 35 [sR (some m), v1, sI (x2), sI (x3), v4, v5, v6] [] S G := by
  intro h bc bs R
  refine w_iload_n mb108 dX7_nextRead_35 36 rfl rfl ?_
  refine w_aload_n mb108 dX7_nextRead_36 37 rfl rfl ?_
  refine x_geta mb108 dX7_nextRead_37 40 rfl R lf7_19 rfl (by decide) ?_
  refine w_iload_n mb108 dX7_nextRead_40 41 rfl rfl ?_
  refine x_iald mb108 dX7_nextRead_41 42 rfl R 24 rfl (by decide) rfl h1 ?_
  refine w_icmp_ge mb108 dX7_nextRead_42 59 45 (by decide) rfl (fun z => ?_) (fun z => ?_)
  · exact K1 z h bc bs R
  · exact K2 z h bc bs R

theorem bX7_nextRead_45 {d : Nat} {h0 : hp} {m : Nat} {ad : Nat → Nat} {Q : Option sV → rS → rG → Prop} {S : rS} {G : rG} {v1 : sV} {x2 : Int32} {x3 : Int32} {v4 : sV} {v5 : sV} {v6 : sV} (h1 : vp_in (((6) * (x2)) + (x3)) 144) (K : rWP d h0 m ad 108 Q 60 [sR (some m), v1, sI (x2), sI (x3), v4, v5, v6] [sI ((G 4) (((6) * (x2)) + (x3)).toNatClampNeg)] S G) : rWP d h0 m ad 108 Q 45 [sR (some m), v1, sI (x2), sI (x3), v4, v5, v6] [] S G := by
  intro h bc bs R
  refine w_aload_n mb108 dX7_nextRead_45 46 rfl rfl ?_
  refine x_geta mb108 dX7_nextRead_46 49 rfl R lf7_22 rfl (by decide) ?_
  refine w_bipush mb108 dX7_nextRead_49 51 rfl (6) (by decide) ?_
  refine w_iload_n mb108 dX7_nextRead_51 52 rfl rfl ?_
  refine w_imul mb108 dX7_nextRead_52 53 rfl ?_
  refine w_iload_n mb108 dX7_nextRead_53 54 rfl rfl ?_
  refine w_iadd mb108 dX7_nextRead_54 55 rfl ?_
  refine x_iald mb108 dX7_nextRead_55 56 rfl R 144 rfl (by decide) rfl h1 ?_
  refine w_goto mb108 dX7_nextRead_56 60 (by decide) ?_
  exact K h bc bs R

theorem bX7_nextRead_59 {d : Nat} {h0 : hp} {m : Nat} {ad : Nat → Nat} {Q : Option sV → rS → rG → Prop} {S : rS} {G : rG} {v1 : sV} {v2 : sV} {v3 : sV} {v4 : sV} {v5 : sV} {v6 : sV} (K : rWP d h0 m ad 108 Q 60 [sR (some m), v1, v2, v3, v4, v5, v6] [sI ((-1))] S G) : rWP d h0 m ad 108 Q 59 [sR (some m), v1, v2, v3, v4, v5, v6] [] S G := by
  intro h bc bs R
  refine w_iconst mb108 dX7_nextRead_59 60 rfl ((-1)) (by decide) ?_
  exact K h bc bs R

theorem bX7_nextRead_60 {d : Nat} {h0 : hp} {m : Nat} {ad : Nat → Nat} {Q : Option sV → rS → rG → Prop} {S : rS} {G : rG} {v1 : sV} {v2 : sV} {v3 : sV} {v4 : sV} {v5 : sV} {v6 : sV} {y0 : Int32} (K : Q (some (sI (y0))) S G) : rWP d h0 m ad 108 Q 60 [sR (some m), v1, v2, v3, v4, v5, v6] [sI (y0)] S G := by
  intro h bc bs R
  refine w_iret mb108 dX7_nextRead_60 rfl ?_
  exact ⟨_, _, R, K⟩

theorem bX7_nextRead_61 {d : Nat} {h0 : hp} {m : Nat} {ad : Nat → Nat} {Q : Option sV → rS → rG → Prop} {S : rS} {G : rG} {v1 : sV} {v2 : sV} {x3 : Int32} {v4 : sV} {v5 : sV} {v6 : sV} (K1 : ¬ (x3) = 0 → rWP d h0 m ad 108 Q 88 [sR (some m), v1, v2, sI (x3), v4, v5, v6] [] S G) (K2 : (x3) = 0 → rWP d h0 m ad 108 Q 65 [sR (some m), v1, v2, sI (x3), v4, v5, v6] [] S G) : rWP d h0 m ad 108 Q 61 [sR (some m), v1, v2, sI (x3), v4, v5, v6] [] S G := by
  intro h bc bs R
  refine w_iload_n mb108 dX7_nextRead_61 62 rfl rfl ?_
  refine w_if_ne mb108 dX7_nextRead_62 88 65 (by decide) rfl (fun z => ?_) (fun z => ?_)
  · exact K1 z h bc bs R
  · exact K2 z h bc bs R

theorem bX7_nextRead_65 {d : Nat} {h0 : hp} {m : Nat} {ad : Nat → Nat} {Q : Option sV → rS → rG → Prop} {S : rS} {G : rG} {v1 : sV} {x2 : Int32} {v3 : sV} {v4 : sV} {v5 : sV} {v6 : sV} (h1 : vp_in (x2) 24) (K1 : ((G 3) (x2).toNatClampNeg) ≤ 0 → rWP d h0 m ad 108 Q 86 [sR (some m), v1, sI (x2), v3, v4, v5, v6] [] S G) (K2 : ¬ ((G 3) (x2).toNatClampNeg) ≤ 0 → rWP d h0 m ad 108 Q 74 [sR (some m), v1, sI (x2), v3, v4, v5, v6] [] S G) : rWP d h0 m ad 108 Q 65 [sR (some m), v1, sI (x2), v3, v4, v5, v6] [] S G := by
  intro h bc bs R
  refine w_aload_n mb108 dX7_nextRead_65 66 rfl rfl ?_
  refine x_geta mb108 dX7_nextRead_66 69 rfl R lf7_19 rfl (by decide) ?_
  refine w_iload_n mb108 dX7_nextRead_69 70 rfl rfl ?_
  refine x_iald mb108 dX7_nextRead_70 71 rfl R 24 rfl (by decide) rfl h1 ?_
  refine w_if_le mb108 dX7_nextRead_71 86 74 (by decide) rfl (fun z => ?_) (fun z => ?_)
  · exact K1 z h bc bs R
  · exact K2 z h bc bs R

theorem bX7_nextRead_74 {d : Nat} {h0 : hp} {m : Nat} {ad : Nat → Nat} {Q : Option sV → rS → rG → Prop} {S : rS} {G : rG} {v1 : sV} {x2 : Int32} {v3 : sV} {v4 : sV} {v5 : sV} {v6 : sV} (h1 : vp_in ((6) * (x2)) 144) (K : rWP d h0 m ad 108 Q 87 [sR (some m), v1, sI (x2), v3, v4, v5, v6] [sI ((G 4) ((6) * (x2)).toNatClampNeg)] S G) : rWP d h0 m ad 108 Q 74 [sR (some m), v1, sI (x2), v3, v4, v5, v6] [] S G := by
  intro h bc bs R
  refine w_aload_n mb108 dX7_nextRead_74 75 rfl rfl ?_
  refine x_geta mb108 dX7_nextRead_75 78 rfl R lf7_22 rfl (by decide) ?_
  refine w_bipush mb108 dX7_nextRead_78 80 rfl (6) (by decide) ?_
  refine w_iload_n mb108 dX7_nextRead_80 81 rfl rfl ?_
  refine w_imul mb108 dX7_nextRead_81 82 rfl ?_
  refine x_iald mb108 dX7_nextRead_82 83 rfl R 144 rfl (by decide) rfl h1 ?_
  refine w_goto mb108 dX7_nextRead_83 87 (by decide) ?_
  exact K h bc bs R

theorem bX7_nextRead_86 {d : Nat} {h0 : hp} {m : Nat} {ad : Nat → Nat} {Q : Option sV → rS → rG → Prop} {S : rS} {G : rG} {v1 : sV} {v2 : sV} {v3 : sV} {v4 : sV} {v5 : sV} {v6 : sV} (K : rWP d h0 m ad 108 Q 87 [sR (some m), v1, v2, v3, v4, v5, v6] [sI ((-1))] S G) : rWP d h0 m ad 108 Q 86 [sR (some m), v1, v2, v3, v4, v5, v6] [] S G := by
  intro h bc bs R
  refine w_iconst mb108 dX7_nextRead_86 87 rfl ((-1)) (by decide) ?_
  exact K h bc bs R

theorem bX7_nextRead_87 {d : Nat} {h0 : hp} {m : Nat} {ad : Nat → Nat} {Q : Option sV → rS → rG → Prop} {S : rS} {G : rG} {v1 : sV} {v2 : sV} {v3 : sV} {v4 : sV} {v5 : sV} {v6 : sV} {y0 : Int32} (K : Q (some (sI (y0))) S G) : rWP d h0 m ad 108 Q 87 [sR (some m), v1, v2, v3, v4, v5, v6] [sI (y0)] S G := by
  intro h bc bs R
  refine w_iret mb108 dX7_nextRead_87 rfl ?_
  exact ⟨_, _, R, K⟩

theorem bX7_nextRead_88 {d : Nat} {h0 : hp} {m : Nat} {ad : Nat → Nat} {Q : Option sV → rS → rG → Prop} {S : rS} {G : rG} {x1 : Int32} {x2 : Int32} {v3 : sV} {v4 : sV} {v5 : sV} {v6 : sV} (h1 : vp_in ((25) * (x1)) 600) (h2 : vp_in (x2) 24) (K1 : ¬ ((G 2) (x2).toNatClampNeg) = (5) → rWP d h0 m ad 108 Q 118 [sR (some m), sI (x1), sI (x2), v3, sI ((G 34) ((25) * (x1)).toNatClampNeg), v5, v6] [] S G) (K2 : ((G 2) (x2).toNatClampNeg) = (5) → rWP d h0 m ad 108 Q 109 [sR (some m), sI (x1), sI (x2), v3, sI ((G 34) ((25) * (x1)).toNatClampNeg), v5, v6] [] S G) : rWP d h0 m ad 108 Q 88 [sR (some m), sI (x1), sI (x2), v3, v4, v5, v6] [] S G := by
  intro h bc bs R
  refine w_aload_n mb108 dX7_nextRead_88 89 rfl rfl ?_
  refine x_geta mb108 dX7_nextRead_89 92 rfl R lf7_105 rfl (by decide) ?_
  refine w_bipush mb108 dX7_nextRead_92 94 rfl (25) (by decide) ?_
  refine w_iload_n mb108 dX7_nextRead_94 95 rfl rfl ?_
  refine w_imul mb108 dX7_nextRead_95 96 rfl ?_
  refine x_iald mb108 dX7_nextRead_96 97 rfl R 600 rfl (by decide) rfl h1 ?_
  refine w_istore mb108 dX7_nextRead_97 99 rfl [sR (some m), sI (x1), sI (x2), v3, sI ((G 34) ((25) * (x1)).toNatClampNeg), v5, v6] (Nat.le_of_ble_eq_true rfl) rfl ?_
  refine w_aload_n mb108 dX7_nextRead_99 100 rfl rfl ?_
  refine x_geta mb108 dX7_nextRead_100 103 rfl R lf7_16 rfl (by decide) ?_
  refine w_iload_n mb108 dX7_nextRead_103 104 rfl rfl ?_
  refine x_iald mb108 dX7_nextRead_104 105 rfl R 24 rfl (by decide) rfl h2 ?_
  refine w_iconst mb108 dX7_nextRead_105 106 rfl (5) (by decide) ?_
  refine w_icmp_ne mb108 dX7_nextRead_106 118 109 (by decide) rfl (fun z => ?_) (fun z => ?_)
  · exact K1 z h bc bs R
  · exact K2 z h bc bs R

theorem bX7_nextRead_109 {d : Nat} {h0 : hp} {m : Nat} {ad : Nat → Nat} {Q : Option sV → rS → rG → Prop} {S : rS} {G : rG} {v1 : sV} {v2 : sV} {v3 : sV} {x4 : Int32} {v5 : sV} {v6 : sV} (K1 : (x4) ≤ (1) → rWP d h0 m ad 108 Q 118 [sR (some m), v1, v2, v3, sI (x4), v5, v6] [] S G) (K2 : ¬ (x4) ≤ (1) → rWP d h0 m ad 108 Q 115 [sR (some m), v1, v2, v3, sI (x4), v5, v6] [] S G) : rWP d h0 m ad 108 Q 109 [sR (some m), v1, v2, v3, sI (x4), v5, v6] [] S G := by
  intro h bc bs R
  refine w_iload mb108 dX7_nextRead_109 111 rfl rfl ?_
  refine w_iconst mb108 dX7_nextRead_111 112 rfl (1) (by decide) ?_
  refine w_icmp_le mb108 dX7_nextRead_112 118 115 (by decide) rfl (fun z => ?_) (fun z => ?_)
  · exact K1 z h bc bs R
  · exact K2 z h bc bs R

theorem bX7_nextRead_115 {d : Nat} {h0 : hp} {m : Nat} {ad : Nat → Nat} {Q : Option sV → rS → rG → Prop} {S : rS} {G : rG} {v1 : sV} {v2 : sV} {v3 : sV} {v4 : sV} {v5 : sV} {v6 : sV} (K : rWP d h0 m ad 108 Q 118 [sR (some m), v1, v2, v3, sI (1), v5, v6] [] S G) : rWP d h0 m ad 108 Q 115 [sR (some m), v1, v2, v3, v4, v5, v6] [] S G := by
  intro h bc bs R
  refine w_iconst mb108 dX7_nextRead_115 116 rfl (1) (by decide) ?_
  refine w_istore mb108 dX7_nextRead_116 118 rfl [sR (some m), v1, v2, v3, sI (1), v5, v6] (Nat.le_of_ble_eq_true rfl) rfl ?_
  exact K h bc bs R

theorem bX7_nextRead_118 {d : Nat} {h0 : hp} {m : Nat} {ad : Nat → Nat} {Q : Option sV → rS → rG → Prop} {S : rS} {G : rG} {v1 : sV} {x2 : Int32} {v3 : sV} {v4 : sV} {v5 : sV} {v6 : sV} (h1 : vp_in (x2) 24) (K1 : (((G 3) (x2).toNatClampNeg) - (1)) = 0 → rWP d h0 m ad 108 Q 139 [sR (some m), v1, sI (x2), v3, v4, sI (((G 3) (x2).toNatClampNeg) - (1)), v6] [] S G) (K2 : ¬ (((G 3) (x2).toNatClampNeg) - (1)) = 0 → rWP d h0 m ad 108 Q 133 [sR (some m), v1, sI (x2), v3, v4, sI (((G 3) (x2).toNatClampNeg) - (1)), v6] [] S G) : rWP d h0 m ad 108 Q 118 [sR (some m), v1, sI (x2), v3, v4, v5, v6] [] S G := by
  intro h bc bs R
  refine w_aload_n mb108 dX7_nextRead_118 119 rfl rfl ?_
  refine x_geta mb108 dX7_nextRead_119 122 rfl R lf7_19 rfl (by decide) ?_
  refine w_iload_n mb108 dX7_nextRead_122 123 rfl rfl ?_
  refine x_iald mb108 dX7_nextRead_123 124 rfl R 24 rfl (by decide) rfl h1 ?_
  refine w_iconst mb108 dX7_nextRead_124 125 rfl (1) (by decide) ?_
  refine w_isub mb108 dX7_nextRead_125 126 rfl ?_
  refine w_istore mb108 dX7_nextRead_126 128 rfl [sR (some m), v1, sI (x2), v3, v4, sI (((G 3) (x2).toNatClampNeg) - (1)), v6] (Nat.le_of_ble_eq_true rfl) rfl ?_
  refine w_iload mb108 dX7_nextRead_128 130 rfl rfl ?_
  refine w_if_eq mb108 dX7_nextRead_130 139 133 (by decide) rfl (fun z => ?_) (fun z => ?_)
  · exact K1 z h bc bs R
  · exact K2 z h bc bs R

theorem bX7_nextRead_133 {d : Nat} {h0 : hp} {m : Nat} {ad : Nat → Nat} {Q : Option sV → rS → rG → Prop} {S : rS} {G : rG} {v1 : sV} {v2 : sV} {x3 : Int32} {x4 : Int32} {v5 : sV} {v6 : sV} (K1 : (x3) ≤ (x4) → rWP d h0 m ad 108 Q 141 [sR (some m), v1, v2, sI (x3), sI (x4), v5, v6] [] S G) (K2 : ¬ (x3) ≤ (x4) → rWP d h0 m ad 108 Q 139 [sR (some m), v1, v2, sI (x3), sI (x4), v5, v6] [] S G) : rWP d h0 m ad 108 Q 133 [sR (some m), v1, v2, sI (x3), sI (x4), v5, v6] [] S G := by
  intro h bc bs R
  refine w_iload_n mb108 dX7_nextRead_133 134 rfl rfl ?_
  refine w_iload mb108 dX7_nextRead_134 136 rfl rfl ?_
  refine w_icmp_le mb108 dX7_nextRead_136 141 139 (by decide) rfl (fun z => ?_) (fun z => ?_)
  · exact K1 z h bc bs R
  · exact K2 z h bc bs R

theorem bX7_nextRead_139 {d : Nat} {h0 : hp} {m : Nat} {ad : Nat → Nat} {Q : Option sV → rS → rG → Prop} {S : rS} {G : rG} {v1 : sV} {v2 : sV} {v3 : sV} {v4 : sV} {v5 : sV} {v6 : sV} (K : Q (some (sI ((-1)))) S G) : rWP d h0 m ad 108 Q 139 [sR (some m), v1, v2, v3, v4, v5, v6] [] S G := by
  intro h bc bs R
  refine w_iconst mb108 dX7_nextRead_139 140 rfl ((-1)) (by decide) ?_
  refine w_iret mb108 dX7_nextRead_140 rfl ?_
  exact ⟨_, _, R, K⟩

theorem bX7_nextRead_141 {d : Nat} {h0 : hp} {m : Nat} {ad : Nat → Nat} {Q : Option sV → rS → rG → Prop} {S : rS} {G : rG} {x1 : Int32} {x2 : Int32} {x3 : Int32} {v4 : sV} {x5 : Int32} {v6 : sV} (h1 : vp_in ((((24) * ((25) * (x1))) + (x3)) - (1)) 14400) (h2 : ¬ (x5) = 0) (K1 : 0 ≤ (((G 37) ((((24) * ((25) * (x1))) + (x3)) - (1)).toNatClampNeg) - ((G 37) ((((24) * ((25) * (x1))) + (x3)) - (1)).toNatClampNeg) / (x5) * (x5)) → rWP d h0 m ad 108 Q 185 [sR (some m), sI (x1), sI (x2), sI (x3), v4, sI (x5), sI (((G 37) ((((24) * ((25) * (x1))) + (x3)) - (1)).toNatClampNeg) - ((G 37) ((((24) * ((25) * (x1))) + (x3)) - (1)).toNatClampNeg) / (x5) * (x5))] [sI (((6) * (x2)) + (1)), sR (some (ad 4))] S G) (K2 : ¬ 0 ≤ (((G 37) ((((24) * ((25) * (x1))) + (x3)) - (1)).toNatClampNeg) - ((G 37) ((((24) * ((25) * (x1))) + (x3)) - (1)).toNatClampNeg) / (x5) * (x5)) → rWP d h0 m ad 108 Q 177 [sR (some m), sI (x1), sI (x2), sI (x3), v4, sI (x5), sI (((G 37) ((((24) * ((25) * (x1))) + (x3)) - (1)).toNatClampNeg) - ((G 37) ((((24) * ((25) * (x1))) + (x3)) - (1)).toNatClampNeg) / (x5) * (x5))] [sI (((6) * (x2)) + (1)), sR (some (ad 4))] S G) : rWP d h0 m ad 108 Q 141 [sR (some m), sI (x1), sI (x2), sI (x3), v4, sI (x5), v6] [] S G := by
  intro h bc bs R
  refine w_aload_n mb108 dX7_nextRead_141 142 rfl rfl ?_
  refine x_geta mb108 dX7_nextRead_142 145 rfl R lf7_114 rfl (by decide) ?_
  refine w_bipush mb108 dX7_nextRead_145 147 rfl (24) (by decide) ?_
  refine w_bipush mb108 dX7_nextRead_147 149 rfl (25) (by decide) ?_
  refine w_iload_n mb108 dX7_nextRead_149 150 rfl rfl ?_
  refine w_imul mb108 dX7_nextRead_150 151 rfl ?_
  refine w_imul mb108 dX7_nextRead_151 152 rfl ?_
  refine w_iload_n mb108 dX7_nextRead_152 153 rfl rfl ?_
  refine w_iadd mb108 dX7_nextRead_153 154 rfl ?_
  refine w_iconst mb108 dX7_nextRead_154 155 rfl (1) (by decide) ?_
  refine w_isub mb108 dX7_nextRead_155 156 rfl ?_
  refine x_iald mb108 dX7_nextRead_156 157 rfl R 14400 rfl (by decide) rfl h1 ?_
  refine w_iload mb108 dX7_nextRead_157 159 rfl rfl ?_
  refine w_irem mb108 dX7_nextRead_159 160 rfl h2 ?_
  refine w_istore mb108 dX7_nextRead_160 162 rfl [sR (some m), sI (x1), sI (x2), sI (x3), v4, sI (x5), sI (((G 37) ((((24) * ((25) * (x1))) + (x3)) - (1)).toNatClampNeg) - ((G 37) ((((24) * ((25) * (x1))) + (x3)) - (1)).toNatClampNeg) / (x5) * (x5))] (Nat.le_of_ble_eq_true rfl) rfl ?_
  refine w_aload_n mb108 dX7_nextRead_162 163 rfl rfl ?_
  refine x_geta mb108 dX7_nextRead_163 166 rfl R lf7_22 rfl (by decide) ?_
  refine w_bipush mb108 dX7_nextRead_166 168 rfl (6) (by decide) ?_
  refine w_iload_n mb108 dX7_nextRead_168 169 rfl rfl ?_
  refine w_imul mb108 dX7_nextRead_169 170 rfl ?_
  refine w_iconst mb108 dX7_nextRead_170 171 rfl (1) (by decide) ?_
  refine w_iadd mb108 dX7_nextRead_171 172 rfl ?_
  refine w_iload mb108 dX7_nextRead_172 174 rfl rfl ?_
  refine w_if_ge mb108 dX7_nextRead_174 185 177 (by decide) rfl (fun z => ?_) (fun z => ?_)
  · exact K1 z h bc bs R
  · exact K2 z h bc bs R

theorem bX7_nextRead_177 {d : Nat} {h0 : hp} {m : Nat} {ad : Nat → Nat} {Q : Option sV → rS → rG → Prop} {S : rS} {G : rG} {v1 : sV} {v2 : sV} {v3 : sV} {v4 : sV} {x5 : Int32} {x6 : Int32} {y1 : Int32} (K : rWP d h0 m ad 108 Q 187 [sR (some m), v1, v2, v3, v4, sI (x5), sI (x6)] [sI ((x6) + (x5)), sI (y1), sR (some (ad 4))] S G) : rWP d h0 m ad 108 Q 177 [sR (some m), v1, v2, v3, v4, sI (x5), sI (x6)] [sI (y1), sR (some (ad 4))] S G := by
  intro h bc bs R
  refine w_iload mb108 dX7_nextRead_177 179 rfl rfl ?_
  refine w_iload mb108 dX7_nextRead_179 181 rfl rfl ?_
  refine w_iadd mb108 dX7_nextRead_181 182 rfl ?_
  refine w_goto mb108 dX7_nextRead_182 187 (by decide) ?_
  exact K h bc bs R

theorem bX7_nextRead_185 {d : Nat} {h0 : hp} {m : Nat} {ad : Nat → Nat} {Q : Option sV → rS → rG → Prop} {S : rS} {G : rG} {v1 : sV} {v2 : sV} {v3 : sV} {v4 : sV} {v5 : sV} {x6 : Int32} {y1 : Int32} (K : rWP d h0 m ad 108 Q 187 [sR (some m), v1, v2, v3, v4, v5, sI (x6)] [sI (x6), sI (y1), sR (some (ad 4))] S G) : rWP d h0 m ad 108 Q 185 [sR (some m), v1, v2, v3, v4, v5, sI (x6)] [sI (y1), sR (some (ad 4))] S G := by
  intro h bc bs R
  refine w_iload mb108 dX7_nextRead_185 187 rfl rfl ?_
  exact K h bc bs R

theorem bX7_nextRead_187 {d : Nat} {h0 : hp} {m : Nat} {ad : Nat → Nat} {Q : Option sV → rS → rG → Prop} {S : rS} {G : rG} {v1 : sV} {v2 : sV} {v3 : sV} {v4 : sV} {v5 : sV} {v6 : sV} {y1 : Int32} {y2 : Int32} (h1 : vp_in ((y1) + (y2)) 144) (K : Q (some (sI ((G 4) ((y1) + (y2)).toNatClampNeg))) S G) : rWP d h0 m ad 108 Q 187 [sR (some m), v1, v2, v3, v4, v5, v6] [sI (y2), sI (y1), sR (some (ad 4))] S G := by
  intro h bc bs R
  refine w_iadd mb108 dX7_nextRead_187 188 rfl ?_
  refine x_iald mb108 dX7_nextRead_188 189 rfl R 144 rfl (by decide) rfl h1 ?_
  refine w_iret mb108 dX7_nextRead_189 rfl ?_
  exact ⟨_, _, R, K⟩

theorem bX7_takes_0 {d : Nat} {h0 : hp} {m : Nat} {ad : Nat → Nat} {Q : Option sV → rS → rG → Prop} {S : rS} {G : rG} {x1 : Int32} {x2 : Int32} {v3 : sV} {v4 : sV} {v5 : sV} {v6 : sV} (h1 : vp_in (x1) 24) (h2 : vp_in (((25) * (x1)) + ((G 30) (x1).toNatClampNeg)) 600) (K : rWP d h0 m ad 109 Q 68 [sR (some m), sI (x1), sI (x2), sI ((G 28) (x1).toNatClampNeg), sI ((G 30) (x1).toNatClampNeg), sI (((25) * (x1)) + ((G 30) (x1).toNatClampNeg)), sI (0)] [] S (gup (gup (gup (gup G 33 (((25) * (x1)) + ((G 30) (x1).toNatClampNeg)).toNatClampNeg (x2)) 34 (((25) * (x1)) + ((G 30) (x1).toNatClampNeg)).toNatClampNeg (S 44)) 35 (((25) * (x1)) + ((G 30) (x1).toNatClampNeg)).toNatClampNeg (S 45)) 36 (((25) * (x1)) + ((G 30) (x1).toNatClampNeg)).toNatClampNeg (S 46))) : rWP d h0 m ad 109 Q 0 [sR (some m), sI (x1), sI (x2), v3, v4, v5, v6] [] S G := by
  intro h bc bs R
  refine w_aload_n mb109 dX7_takes_0 1 rfl rfl ?_
  refine x_geta mb109 dX7_takes_1 4 rfl R lf7_90 rfl (by decide) ?_
  refine w_iload_n mb109 dX7_takes_4 5 rfl rfl ?_
  refine x_iald mb109 dX7_takes_5 6 rfl R 24 rfl (by decide) rfl h1 ?_
  refine w_istore_n mb109 dX7_takes_6 7 rfl [sR (some m), sI (x1), sI (x2), sI ((G 28) (x1).toNatClampNeg), v4, v5, v6] (Nat.le_of_ble_eq_true rfl) rfl ?_
  refine w_aload_n mb109 dX7_takes_7 8 rfl rfl ?_
  refine x_geta mb109 dX7_takes_8 11 rfl R lf7_96 rfl (by decide) ?_
  refine w_iload_n mb109 dX7_takes_11 12 rfl rfl ?_
  refine x_iald mb109 dX7_takes_12 13 rfl R 24 rfl (by decide) rfl h1 ?_
  refine w_istore mb109 dX7_takes_13 15 rfl [sR (some m), sI (x1), sI (x2), sI ((G 28) (x1).toNatClampNeg), sI ((G 30) (x1).toNatClampNeg), v5, v6] (Nat.le_of_ble_eq_true rfl) rfl ?_
  refine w_bipush mb109 dX7_takes_15 17 rfl (25) (by decide) ?_
  refine w_iload_n mb109 dX7_takes_17 18 rfl rfl ?_
  refine w_imul mb109 dX7_takes_18 19 rfl ?_
  refine w_iload mb109 dX7_takes_19 21 rfl rfl ?_
  refine w_iadd mb109 dX7_takes_21 22 rfl ?_
  refine w_istore mb109 dX7_takes_22 24 rfl [sR (some m), sI (x1), sI (x2), sI ((G 28) (x1).toNatClampNeg), sI ((G 30) (x1).toNatClampNeg), sI (((25) * (x1)) + ((G 30) (x1).toNatClampNeg)), v6] (Nat.le_of_ble_eq_true rfl) rfl ?_
  refine w_aload_n mb109 dX7_takes_24 25 rfl rfl ?_
  refine x_geta mb109 dX7_takes_25 28 rfl R lf7_102 rfl (by decide) ?_
  refine w_iload mb109 dX7_takes_28 30 rfl rfl ?_
  refine w_iload_n mb109 dX7_takes_30 31 rfl rfl ?_
  refine x_iast mb109 dX7_takes_31 32 rfl R 600 rfl (by decide) rfl h2 (fun h R => ?_)
  refine w_aload_n mb109 dX7_takes_32 33 rfl rfl ?_
  refine x_geta mb109 dX7_takes_33 36 rfl R lf7_105 rfl (by decide) ?_
  refine w_iload mb109 dX7_takes_36 38 rfl rfl ?_
  refine w_aload_n mb109 dX7_takes_38 39 rfl rfl ?_
  refine x_geti mb109 dX7_takes_39 42 rfl R lf7_178 rfl ?_
  refine x_iast mb109 dX7_takes_42 43 rfl R 600 rfl (by decide) rfl h2 (fun h R => ?_)
  refine w_aload_n mb109 dX7_takes_43 44 rfl rfl ?_
  refine x_geta mb109 dX7_takes_44 47 rfl R lf7_108 rfl (by decide) ?_
  refine w_iload mb109 dX7_takes_47 49 rfl rfl ?_
  refine w_aload_n mb109 dX7_takes_49 50 rfl rfl ?_
  refine x_geti mb109 dX7_takes_50 53 rfl R lf7_181 rfl ?_
  refine x_iast mb109 dX7_takes_53 54 rfl R 600 rfl (by decide) rfl h2 (fun h R => ?_)
  refine w_aload_n mb109 dX7_takes_54 55 rfl rfl ?_
  refine x_geta mb109 dX7_takes_55 58 rfl R lf7_111 rfl (by decide) ?_
  refine w_iload mb109 dX7_takes_58 60 rfl rfl ?_
  refine w_aload_n mb109 dX7_takes_60 61 rfl rfl ?_
  refine x_geti mb109 dX7_takes_61 64 rfl R lf7_184 rfl ?_
  refine x_iast mb109 dX7_takes_64 65 rfl R 600 rfl (by decide) rfl h2 (fun h R => ?_)
  refine w_iconst mb109 dX7_takes_65 66 rfl (0) (by decide) ?_
  refine w_istore mb109 dX7_takes_66 68 rfl [sR (some m), sI (x1), sI (x2), sI ((G 28) (x1).toNatClampNeg), sI ((G 30) (x1).toNatClampNeg), sI (((25) * (x1)) + ((G 30) (x1).toNatClampNeg)), sI (0)] (Nat.le_of_ble_eq_true rfl) rfl ?_
  exact K h bc bs R

theorem bX7_takes_68 {d : Nat} {h0 : hp} {m : Nat} {ad : Nat → Nat} {Q : Option sV → rS → rG → Prop} {S : rS} {G : rG} {v1 : sV} {v2 : sV} {v3 : sV} {v4 : sV} {v5 : sV} {x6 : Int32} (K1 : (S 44) ≤ (x6) → rWP d h0 m ad 109 Q 103 [sR (some m), v1, v2, v3, v4, v5, sI (x6)] [] S G) (K2 : ¬ (S 44) ≤ (x6) → rWP d h0 m ad 109 Q 77 [sR (some m), v1, v2, v3, v4, v5, sI (x6)] [] S G) : rWP d h0 m ad 109 Q 68 [sR (some m), v1, v2, v3, v4, v5, sI (x6)] [] S G := by
  intro h bc bs R
  refine w_iload mb109 dX7_takes_68 70 rfl rfl ?_
  refine w_aload_n mb109 dX7_takes_70 71 rfl rfl ?_
  refine x_geti mb109 dX7_takes_71 74 rfl R lf7_178 rfl ?_
  refine w_icmp_ge mb109 dX7_takes_74 103 77 (by decide) rfl (fun z => ?_) (fun z => ?_)
  · exact K1 z h bc bs R
  · exact K2 z h bc bs R

theorem bX7_takes_77 {d : Nat} {h0 : hp} {m : Nat} {ad : Nat → Nat} {Q : Option sV → rS → rG → Prop} {S : rS} {G : rG} {v1 : sV} {v2 : sV} {v3 : sV} {v4 : sV} {x5 : Int32} {x6 : Int32} (h1 : vp_in (x6) 24) (h2 : vp_in (((24) * (x5)) + (x6)) 14400) (K : rWP d h0 m ad 109 Q 68 [sR (some m), v1, v2, v3, v4, sI (x5), sI (x6 + 1)] [] S (gup G 37 (((24) * (x5)) + (x6)).toNatClampNeg ((G 47) (x6).toNatClampNeg))) : rWP d h0 m ad 109 Q 77 [sR (some m), v1, v2, v3, v4, sI (x5), sI (x6)] [] S G := by
  intro h bc bs R
  refine w_aload_n mb109 dX7_takes_77 78 rfl rfl ?_
  refine x_geta mb109 dX7_takes_78 81 rfl R lf7_114 rfl (by decide) ?_
  refine w_bipush mb109 dX7_takes_81 83 rfl (24) (by decide) ?_
  refine w_iload mb109 dX7_takes_83 85 rfl rfl ?_
  refine w_imul mb109 dX7_takes_85 86 rfl ?_
  refine w_iload mb109 dX7_takes_86 88 rfl rfl ?_
  refine w_iadd mb109 dX7_takes_88 89 rfl ?_
  refine w_aload_n mb109 dX7_takes_89 90 rfl rfl ?_
  refine x_geta mb109 dX7_takes_90 93 rfl R lf7_135 rfl (by decide) ?_
  refine w_iload mb109 dX7_takes_93 95 rfl rfl ?_
  refine x_iald mb109 dX7_takes_95 96 rfl R 24 rfl (by decide) rfl h1 ?_
  refine x_iast mb109 dX7_takes_96 97 rfl R 14400 rfl (by decide) rfl h2 (fun h R => ?_)
  refine w_iinc mb109 dX7_takes_97 100 rfl rfl (x6 + 1) rfl [sR (some m), v1, v2, v3, v4, sI (x5), sI (x6 + 1)] rfl ?_
  refine w_goto mb109 dX7_takes_100 68 (by decide) ?_
  exact K h bc bs R

theorem bX7_takes_103 {d : Nat} {h0 : hp} {m : Nat} {ad : Nat → Nat} {Q : Option sV → rS → rG → Prop} {S : rS} {G : rG} {x1 : Int32} {v2 : sV} {v3 : sV} {v4 : sV} {v5 : sV} {v6 : sV} (h1 : vp_in (x1) 24) (K1 : (S 45) = 0 → rWP d h0 m ad 109 Q 145 [sR (some m), sI (x1), v2, v3, v4, v5, v6] [] S (gup G 30 (x1).toNatClampNeg (((G 30) (x1).toNatClampNeg) + (1)))) (K2 : ¬ (S 45) = 0 → rWP d h0 m ad 109 Q 120 [sR (some m), sI (x1), v2, v3, v4, v5, v6] [] S (gup G 30 (x1).toNatClampNeg (((G 30) (x1).toNatClampNeg) + (1)))) : rWP d h0 m ad 109 Q 103 [sR (some m), sI (x1), v2, v3, v4, v5, v6] [] S G := by
  intro h bc bs R
  refine w_aload_n mb109 dX7_takes_103 104 rfl rfl ?_
  refine x_geta mb109 dX7_takes_104 107 rfl R lf7_96 rfl (by decide) ?_
  refine w_iload_n mb109 dX7_takes_107 108 rfl rfl ?_
  refine w_dup2 mb109 dX7_takes_108 109 rfl rfl rfl ?_
  refine x_iald mb109 dX7_takes_109 110 rfl R 24 rfl (by decide) rfl h1 ?_
  refine w_iconst mb109 dX7_takes_110 111 rfl (1) (by decide) ?_
  refine w_iadd mb109 dX7_takes_111 112 rfl ?_
  refine x_iast mb109 dX7_takes_112 113 rfl R 24 rfl (by decide) rfl h1 (fun h R => ?_)
  refine w_aload_n mb109 dX7_takes_113 114 rfl rfl ?_
  refine x_geti mb109 dX7_takes_114 117 rfl R lf7_181 rfl ?_
  refine w_if_eq mb109 dX7_takes_117 145 120 (by decide) rfl (fun z => ?_) (fun z => ?_)
  · exact K1 z h bc bs R
  · exact K2 z h bc bs R

theorem bX7_takes_120 {d : Nat} {h0 : hp} {m : Nat} {ad : Nat → Nat} {Q : Option sV → rS → rG → Prop} {S : rS} {G : rG} {v1 : sV} {v2 : sV} {x3 : Int32} {v4 : sV} {v5 : sV} {v6 : sV} (h1 : vp_in (x3) 24) (K1 : ((G 5) (x3).toNatClampNeg) = 0 → rWP d h0 m ad 109 Q 145 [sR (some m), v1, v2, sI (x3), v4, v5, v6] [] S G) (K2 : ¬ ((G 5) (x3).toNatClampNeg) = 0 → rWP d h0 m ad 109 Q 129 [sR (some m), v1, v2, sI (x3), v4, v5, v6] [] S G) : rWP d h0 m ad 109 Q 120 [sR (some m), v1, v2, sI (x3), v4, v5, v6] [] S G := by
  intro h bc bs R
  refine w_aload_n mb109 dX7_takes_120 121 rfl rfl ?_
  refine x_geta mb109 dX7_takes_121 124 rfl R lf7_25 rfl (by decide) ?_
  refine w_iload_n mb109 dX7_takes_124 125 rfl rfl ?_
  refine x_bald mb109 dX7_takes_125 126 rfl R 24 rfl (by decide) rfl h1 ?_
  refine w_if_eq mb109 dX7_takes_126 145 129 (by decide) rfl (fun z => ?_) (fun z => ?_)
  · exact K1 z h bc bs R
  · exact K2 z h bc bs R

theorem bX7_takes_129 {d : Nat} {h0 : hp} {m : Nat} {ad : Nat → Nat} {Q : Option sV → rS → rG → Prop} {S : rS} {G : rG} {x1 : Int32} {v2 : sV} {v3 : sV} {v4 : sV} {v5 : sV} {v6 : sV} {P : Option sV → rS → rG → Prop} (C : rM d h0 m ad 110 [sR (some m), sI (x1), sI (S 45), sI (S 46)] S G P) (K : ∀ r S1 G1, P r S1 G1 → rWP d h0 m ad 109 Q 142 [sR (some m), sI (x1), v2, v3, v4, v5, v6] (r.toList ++ []) S1 G1) : rWP d h0 m ad 109 Q 129 [sR (some m), sI (x1), v2, v3, v4, v5, v6] [] S G := by
  intro h bc bs R
  refine w_aload_n mb109 dX7_takes_129 130 rfl rfl ?_
  refine w_iload_n mb109 dX7_takes_130 131 rfl rfl ?_
  refine w_aload_n mb109 dX7_takes_131 132 rfl rfl ?_
  refine x_geti mb109 dX7_takes_132 135 rfl R lf7_181 rfl ?_
  refine w_aload_n mb109 dX7_takes_135 136 rfl rfl ?_
  refine x_geti mb109 dX7_takes_136 139 rfl R lf7_184 rfl ?_
  refine w_virtual (a := m) (c := 7) (st := []) mb109 dX7_takes_139 142 rfl 110 3 [sI (x1), sI (S 45), sI (S 46)] _ rfl rfl rfl lc7_270 R.2.1 (Nat.le_of_ble_eq_true rfl) (C h 0 0 R) (Nat.zero_le _) (Nat.zero_le _) (fun r h1 hP => ?_)
  obtain ⟨S1, G1, R1, hP⟩ := hP
  exact K r S1 G1 hP h1 _ _ R1

theorem bX7_takes_142 {d : Nat} {h0 : hp} {m : Nat} {ad : Nat → Nat} {Q : Option sV → rS → rG → Prop} {S : rS} {G : rG} {v1 : sV} {v2 : sV} {v3 : sV} {v4 : sV} {v5 : sV} {v6 : sV} (K : rWP d h0 m ad 109 Q 236 [sR (some m), v1, v2, v3, v4, v5, v6] [] S G) : rWP d h0 m ad 109 Q 142 [sR (some m), v1, v2, v3, v4, v5, v6] [] S G := by
  intro h bc bs R
  refine w_goto mb109 dX7_takes_142 236 (by decide) ?_
  exact K h bc bs R

theorem bX7_takes_145 {d : Nat} {h0 : hp} {m : Nat} {ad : Nat → Nat} {Q : Option sV → rS → rG → Prop} {S : rS} {G : rG} {v1 : sV} {v2 : sV} {x3 : Int32} {v4 : sV} {v5 : sV} {v6 : sV} (h1 : vp_in (x3) 24) (K1 : ¬ ((G 2) (x3).toNatClampNeg) = (2) → rWP d h0 m ad 109 Q 192 [sR (some m), v1, v2, sI (x3), v4, v5, v6] [] S G) (K2 : ((G 2) (x3).toNatClampNeg) = (2) → rWP d h0 m ad 109 Q 155 [sR (some m), v1, v2, sI (x3), v4, v5, v6] [] S G) : rWP d h0 m ad 109 Q 145 [sR (some m), v1, v2, sI (x3), v4, v5, v6] [] S G := by
  intro h bc bs R
  refine w_aload_n mb109 dX7_takes_145 146 rfl rfl ?_
  refine x_geta mb109 dX7_takes_146 149 rfl R lf7_16 rfl (by decide) ?_
  refine w_iload_n mb109 dX7_takes_149 150 rfl rfl ?_
  refine x_iald mb109 dX7_takes_150 151 rfl R 24 rfl (by decide) rfl h1 ?_
  refine w_iconst mb109 dX7_takes_151 152 rfl (2) (by decide) ?_
  refine w_icmp_ne mb109 dX7_takes_152 192 155 (by decide) rfl (fun z => ?_) (fun z => ?_)
  · exact K1 z h bc bs R
  · exact K2 z h bc bs R

theorem bX7_takes_155 {d : Nat} {h0 : hp} {m : Nat} {ad : Nat → Nat} {Q : Option sV → rS → rG → Prop} {S : rS} {G : rG} {v1 : sV} {v2 : sV} {v3 : sV} {v4 : sV} {v5 : sV} {v6 : sV} (K : rWP d h0 m ad 109 Q 158 [sR (some m), v1, v2, v3, v4, v5, sI (0)] [] S G) : rWP d h0 m ad 109 Q 155 [sR (some m), v1, v2, v3, v4, v5, v6] [] S G := by
  intro h bc bs R
  refine w_iconst mb109 dX7_takes_155 156 rfl (0) (by decide) ?_
  refine w_istore mb109 dX7_takes_156 158 rfl [sR (some m), v1, v2, v3, v4, v5, sI (0)] (Nat.le_of_ble_eq_true rfl) rfl ?_
  exact K h bc bs R

theorem bX7_takes_158 {d : Nat} {h0 : hp} {m : Nat} {ad : Nat → Nat} {Q : Option sV → rS → rG → Prop} {S : rS} {G : rG} {v1 : sV} {v2 : sV} {v3 : sV} {v4 : sV} {v5 : sV} {x6 : Int32} (K1 : (S 44) ≤ (x6) → rWP d h0 m ad 109 Q 189 [sR (some m), v1, v2, v3, v4, v5, sI (x6)] [] S G) (K2 : ¬ (S 44) ≤ (x6) → rWP d h0 m ad 109 Q 167 [sR (some m), v1, v2, v3, v4, v5, sI (x6)] [] S G) : rWP d h0 m ad 109 Q 158 [sR (some m), v1, v2, v3, v4, v5, sI (x6)] [] S G := by
  intro h bc bs R
  refine w_iload mb109 dX7_takes_158 160 rfl rfl ?_
  refine w_aload_n mb109 dX7_takes_160 161 rfl rfl ?_
  refine x_geti mb109 dX7_takes_161 164 rfl R lf7_178 rfl ?_
  refine w_icmp_ge mb109 dX7_takes_164 189 167 (by decide) rfl (fun z => ?_) (fun z => ?_)
  · exact K1 z h bc bs R
  · exact K2 z h bc bs R

theorem bX7_takes_167 {d : Nat} {h0 : hp} {m : Nat} {ad : Nat → Nat} {Q : Option sV → rS → rG → Prop} {S : rS} {G : rG} {x1 : Int32} {v2 : sV} {v3 : sV} {v4 : sV} {v5 : sV} {x6 : Int32} (h1 : vp_in (x1) 24) (h2 : vp_in (x6) 24) (K : rWP d h0 m ad 109 Q 158 [sR (some m), sI (x1), v2, v3, v4, v5, sI (x6 + 1)] [] S (gup G 40 (x1).toNatClampNeg (((G 40) (x1).toNatClampNeg) + ((G 47) (x6).toNatClampNeg)))) : rWP d h0 m ad 109 Q 167 [sR (some m), sI (x1), v2, v3, v4, v5, sI (x6)] [] S G := by
  intro h bc bs R
  refine w_aload_n mb109 dX7_takes_167 168 rfl rfl ?_
  refine x_geta mb109 dX7_takes_168 171 rfl R lf7_123 rfl (by decide) ?_
  refine w_iload_n mb109 dX7_takes_171 172 rfl rfl ?_
  refine w_dup2 mb109 dX7_takes_172 173 rfl rfl rfl ?_
  refine x_iald mb109 dX7_takes_173 174 rfl R 24 rfl (by decide) rfl h1 ?_
  refine w_aload_n mb109 dX7_takes_174 175 rfl rfl ?_
  refine x_geta mb109 dX7_takes_175 178 rfl R lf7_135 rfl (by decide) ?_
  refine w_iload mb109 dX7_takes_178 180 rfl rfl ?_
  refine x_iald mb109 dX7_takes_180 181 rfl R 24 rfl (by decide) rfl h2 ?_
  refine w_iadd mb109 dX7_takes_181 182 rfl ?_
  refine x_iast mb109 dX7_takes_182 183 rfl R 24 rfl (by decide) rfl h1 (fun h R => ?_)
  refine w_iinc mb109 dX7_takes_183 186 rfl rfl (x6 + 1) rfl [sR (some m), sI (x1), v2, v3, v4, v5, sI (x6 + 1)] rfl ?_
  refine w_goto mb109 dX7_takes_186 158 (by decide) ?_
  exact K h bc bs R

theorem bX7_takes_189 {d : Nat} {h0 : hp} {m : Nat} {ad : Nat → Nat} {Q : Option sV → rS → rG → Prop} {S : rS} {G : rG} {v1 : sV} {v2 : sV} {v3 : sV} {v4 : sV} {v5 : sV} {v6 : sV} (K : rWP d h0 m ad 109 Q 236 [sR (some m), v1, v2, v3, v4, v5, v6] [] S G) : rWP d h0 m ad 109 Q 189 [sR (some m), v1, v2, v3, v4, v5, v6] [] S G := by
  intro h bc bs R
  refine w_goto mb109 dX7_takes_189 236 (by decide) ?_
  exact K h bc bs R

theorem bX7_takes_192 {d : Nat} {h0 : hp} {m : Nat} {ad : Nat → Nat} {Q : Option sV → rS → rG → Prop} {S : rS} {G : rG} {v1 : sV} {v2 : sV} {x3 : Int32} {v4 : sV} {v5 : sV} {v6 : sV} (h1 : vp_in (x3) 24) (K1 : ((G 2) (x3).toNatClampNeg) < (5) → rWP d h0 m ad 109 Q 207 [sR (some m), v1, v2, sI (x3), v4, v5, v6] [] S G) (K2 : ¬ ((G 2) (x3).toNatClampNeg) < (5) → rWP d h0 m ad 109 Q 202 [sR (some m), v1, v2, sI (x3), v4, v5, v6] [] S G) : rWP d h0 m ad 109 Q 192 [sR (some m), v1, v2, sI (x3), v4, v5, v6] [] S G := by
  intro h bc bs R
  refine w_aload_n mb109 dX7_takes_192 193 rfl rfl ?_
  refine x_geta mb109 dX7_takes_193 196 rfl R lf7_16 rfl (by decide) ?_
  refine w_iload_n mb109 dX7_takes_196 197 rfl rfl ?_
  refine x_iald mb109 dX7_takes_197 198 rfl R 24 rfl (by decide) rfl h1 ?_
  refine w_iconst mb109 dX7_takes_198 199 rfl (5) (by decide) ?_
  refine w_icmp_lt mb109 dX7_takes_199 207 202 (by decide) rfl (fun z => ?_) (fun z => ?_)
  · exact K1 z h bc bs R
  · exact K2 z h bc bs R

theorem bX7_takes_202 {d : Nat} {h0 : hp} {m : Nat} {ad : Nat → Nat} {Q : Option sV → rS → rG → Prop} {S : rS} {G : rG} {v1 : sV} {v2 : sV} {v3 : sV} {x4 : Int32} {v5 : sV} {v6 : sV} (K1 : (x4) ≤ 0 → rWP d h0 m ad 109 Q 236 [sR (some m), v1, v2, v3, sI (x4), v5, v6] [] S G) (K2 : ¬ (x4) ≤ 0 → rWP d h0 m ad 109 Q 207 [sR (some m), v1, v2, v3, sI (x4), v5, v6] [] S G) : rWP d h0 m ad 109 Q 202 [sR (some m), v1, v2, v3, sI (x4), v5, v6] [] S G := by
  intro h bc bs R
  refine w_iload mb109 dX7_takes_202 204 rfl rfl ?_
  refine w_if_le mb109 dX7_takes_204 236 207 (by decide) rfl (fun z => ?_) (fun z => ?_)
  · exact K1 z h bc bs R
  · exact K2 z h bc bs R

theorem bX7_takes_207 {d : Nat} {h0 : hp} {m : Nat} {ad : Nat → Nat} {Q : Option sV → rS → rG → Prop} {S : rS} {G : rG} {v1 : sV} {v2 : sV} {x3 : Int32} {v4 : sV} {v5 : sV} {v6 : sV} (h1 : vp_in (x3) 24) (K1 : ¬ ((G 2) (x3).toNatClampNeg) = (4) → rWP d h0 m ad 109 Q 231 [sR (some m), v1, v2, sI (x3), v4, v5, v6] [] S G) (K2 : ((G 2) (x3).toNatClampNeg) = (4) → rWP d h0 m ad 109 Q 217 [sR (some m), v1, v2, sI (x3), v4, v5, v6] [] S G) : rWP d h0 m ad 109 Q 207 [sR (some m), v1, v2, sI (x3), v4, v5, v6] [] S G := by
  intro h bc bs R
  refine w_aload_n mb109 dX7_takes_207 208 rfl rfl ?_
  refine x_geta mb109 dX7_takes_208 211 rfl R lf7_16 rfl (by decide) ?_
  refine w_iload_n mb109 dX7_takes_211 212 rfl rfl ?_
  refine x_iald mb109 dX7_takes_212 213 rfl R 24 rfl (by decide) rfl h1 ?_
  refine w_iconst mb109 dX7_takes_213 214 rfl (4) (by decide) ?_
  refine w_icmp_ne mb109 dX7_takes_214 231 217 (by decide) rfl (fun z => ?_) (fun z => ?_)
  · exact K1 z h bc bs R
  · exact K2 z h bc bs R

theorem bX7_takes_217 {d : Nat} {h0 : hp} {m : Nat} {ad : Nat → Nat} {Q : Option sV → rS → rG → Prop} {S : rS} {G : rG} {v1 : sV} {v2 : sV} {v3 : sV} {v4 : sV} {v5 : sV} {v6 : sV} (K1 : (S 44) ≤ 0 → rWP d h0 m ad 109 Q 231 [sR (some m), v1, v2, v3, v4, v5, v6] [] S G) (K2 : ¬ (S 44) ≤ 0 → rWP d h0 m ad 109 Q 224 [sR (some m), v1, v2, v3, v4, v5, v6] [] S G) : rWP d h0 m ad 109 Q 217 [sR (some m), v1, v2, v3, v4, v5, v6] [] S G := by
  intro h bc bs R
  refine w_aload_n mb109 dX7_takes_217 218 rfl rfl ?_
  refine x_geti mb109 dX7_takes_218 221 rfl R lf7_178 rfl ?_
  refine w_if_le mb109 dX7_takes_221 231 224 (by decide) rfl (fun z => ?_) (fun z => ?_)
  · exact K1 z h bc bs R
  · exact K2 z h bc bs R

theorem bX7_takes_224 {d : Nat} {h0 : hp} {m : Nat} {ad : Nat → Nat} {Q : Option sV → rS → rG → Prop} {S : rS} {G : rG} {x1 : Int32} {v2 : sV} {v3 : sV} {v4 : sV} {v5 : sV} {v6 : sV} (h1 : vp_in (x1) 24) (K : rWP d h0 m ad 109 Q 231 [sR (some m), sI (x1), v2, v3, v4, v5, v6] [] S (gup G 43 (x1).toNatClampNeg (1))) : rWP d h0 m ad 109 Q 224 [sR (some m), sI (x1), v2, v3, v4, v5, v6] [] S G := by
  intro h bc bs R
  refine w_aload_n mb109 dX7_takes_224 225 rfl rfl ?_
  refine x_geta mb109 dX7_takes_225 228 rfl R lf7_132 rfl (by decide) ?_
  refine w_iload_n mb109 dX7_takes_228 229 rfl rfl ?_
  refine w_iconst mb109 dX7_takes_229 230 rfl (1) (by decide) ?_
  refine x_bast mb109 dX7_takes_230 231 rfl R 24 rfl (by decide) rfl h1 (Or.inr rfl) (fun h R => ?_)
  exact K h bc bs R

theorem bX7_takes_231 {d : Nat} {h0 : hp} {m : Nat} {ad : Nat → Nat} {Q : Option sV → rS → rG → Prop} {S : rS} {G : rG} {x1 : Int32} {v2 : sV} {v3 : sV} {v4 : sV} {v5 : sV} {v6 : sV} {P : Option sV → rS → rG → Prop} (C : rM d h0 m ad 111 [sR (some m), sI (x1)] S G P) (K : ∀ r S1 G1, P r S1 G1 → rWP d h0 m ad 109 Q 236 [sR (some m), sI (x1), v2, v3, v4, v5, v6] (r.toList ++ []) S1 G1) : rWP d h0 m ad 109 Q 231 [sR (some m), sI (x1), v2, v3, v4, v5, v6] [] S G := by
  intro h bc bs R
  refine w_aload_n mb109 dX7_takes_231 232 rfl rfl ?_
  refine w_iload_n mb109 dX7_takes_232 233 rfl rfl ?_
  refine w_virtual (a := m) (c := 7) (st := []) mb109 dX7_takes_233 236 rfl 111 1 [sI (x1)] _ rfl rfl rfl lc7_273 R.2.1 (Nat.le_of_ble_eq_true rfl) (C h 0 0 R) (Nat.zero_le _) (Nat.zero_le _) (fun r h1 hP => ?_)
  obtain ⟨S1, G1, R1, hP⟩ := hP
  exact K r S1 G1 hP h1 _ _ R1

theorem bX7_takes_236 {d : Nat} {h0 : hp} {m : Nat} {ad : Nat → Nat} {Q : Option sV → rS → rG → Prop} {S : rS} {G : rG} {v1 : sV} {v2 : sV} {v3 : sV} {v4 : sV} {v5 : sV} {v6 : sV} (K : Q (none) S G) : rWP d h0 m ad 109 Q 236 [sR (some m), v1, v2, v3, v4, v5, v6] [] S G := by
  intro h bc bs R
  refine w_vret mb109 dX7_takes_236 rfl ?_
  exact ⟨_, _, R, K⟩

theorem bX7_endsWith_0 {d : Nat} {h0 : hp} {m : Nat} {ad : Nat → Nat} {Q : Option sV → rS → rG → Prop} {S : rS} {G : rG} {x1 : Int32} {x2 : Int32} {x3 : Int32} (h1 : vp_in (x1) 24) (K : Q (none) S (gup (gup (gup G 43 (x1).toNatClampNeg (1)) 41 (x1).toNatClampNeg (x2)) 42 (x1).toNatClampNeg (x3))) : rWP d h0 m ad 110 Q 0 [sR (some m), sI (x1), sI (x2), sI (x3)] [] S G := by
  intro h bc bs R
  refine w_aload_n mb110 dX7_endsWith_0 1 rfl rfl ?_
  refine x_geta mb110 dX7_endsWith_1 4 rfl R lf7_132 rfl (by decide) ?_
  refine w_iload_n mb110 dX7_endsWith_4 5 rfl rfl ?_
  refine w_iconst mb110 dX7_endsWith_5 6 rfl (1) (by decide) ?_
  refine x_bast mb110 dX7_endsWith_6 7 rfl R 24 rfl (by decide) rfl h1 (Or.inr rfl) (fun h R => ?_)
  refine w_aload_n mb110 dX7_endsWith_7 8 rfl rfl ?_
  refine x_geta mb110 dX7_endsWith_8 11 rfl R lf7_126 rfl (by decide) ?_
  refine w_iload_n mb110 dX7_endsWith_11 12 rfl rfl ?_
  refine w_iload_n mb110 dX7_endsWith_12 13 rfl rfl ?_
  refine x_iast mb110 dX7_endsWith_13 14 rfl R 24 rfl (by decide) rfl h1 (fun h R => ?_)
  refine w_aload_n mb110 dX7_endsWith_14 15 rfl rfl ?_
  refine x_geta mb110 dX7_endsWith_15 18 rfl R lf7_129 rfl (by decide) ?_
  refine w_iload_n mb110 dX7_endsWith_18 19 rfl rfl ?_
  refine w_iload_n mb110 dX7_endsWith_19 20 rfl rfl ?_
  refine x_iast mb110 dX7_endsWith_20 21 rfl R 24 rfl (by decide) rfl h1 (fun h R => ?_)
  refine w_vret mb110 dX7_endsWith_21 rfl ?_
  exact ⟨_, _, R, K⟩

theorem bX7_appends_0 {d : Nat} {h0 : hp} {m : Nat} {ad : Nat → Nat} {Q : Option sV → rS → rG → Prop} {S : rS} {G : rG} {x1 : Int32} {v2 : sV} (h1 : vp_in (x1) 24) (K1 : (((G 38) (x1).toNatClampNeg) + (S 44)) ≤ (24) → rWP d h0 m ad 111 Q 29 [sR (some m), sI (x1), v2] [] S G) (K2 : ¬ (((G 38) (x1).toNatClampNeg) + (S 44)) ≤ (24) → rWP d h0 m ad 111 Q 16 [sR (some m), sI (x1), v2] [] S G) : rWP d h0 m ad 111 Q 0 [sR (some m), sI (x1), v2] [] S G := by
  intro h bc bs R
  refine w_aload_n mb111 dX7_appends_0 1 rfl rfl ?_
  refine x_geta mb111 dX7_appends_1 4 rfl R lf7_117 rfl (by decide) ?_
  refine w_iload_n mb111 dX7_appends_4 5 rfl rfl ?_
  refine x_iald mb111 dX7_appends_5 6 rfl R 24 rfl (by decide) rfl h1 ?_
  refine w_aload_n mb111 dX7_appends_6 7 rfl rfl ?_
  refine x_geti mb111 dX7_appends_7 10 rfl R lf7_178 rfl ?_
  refine w_iadd mb111 dX7_appends_10 11 rfl ?_
  refine w_bipush mb111 dX7_appends_11 13 rfl (24) (by decide) ?_
  refine w_icmp_le mb111 dX7_appends_13 29 16 (by decide) rfl (fun z => ?_) (fun z => ?_)
  · exact K1 z h bc bs R
  · exact K2 z h bc bs R

theorem bX7_appends_16 {d : Nat} {h0 : hp} {m : Nat} {ad : Nat → Nat} {Q : Option sV → rS → rG → Prop} {S : rS} {G : rG} {x1 : Int32} {v2 : sV} (h1 : vp_in (x1) 24) {P : Option sV → rS → rG → Prop} (C : rM d h0 m ad 110 [sR (some m), sI (x1), sI (2), sI ((G 28) (x1).toNatClampNeg)] S G P) (K : ∀ r S1 G1, P r S1 G1 → rWP d h0 m ad 111 Q 28 [sR (some m), sI (x1), v2] (r.toList ++ []) S1 G1) : rWP d h0 m ad 111 Q 16 [sR (some m), sI (x1), v2] [] S G := by
  intro h bc bs R
  refine w_aload_n mb111 dX7_appends_16 17 rfl rfl ?_
  refine w_iload_n mb111 dX7_appends_17 18 rfl rfl ?_
  refine w_iconst mb111 dX7_appends_18 19 rfl (2) (by decide) ?_
  refine w_aload_n mb111 dX7_appends_19 20 rfl rfl ?_
  refine x_geta mb111 dX7_appends_20 23 rfl R lf7_90 rfl (by decide) ?_
  refine w_iload_n mb111 dX7_appends_23 24 rfl rfl ?_
  refine x_iald mb111 dX7_appends_24 25 rfl R 24 rfl (by decide) rfl h1 ?_
  refine w_virtual (a := m) (c := 7) (st := []) mb111 dX7_appends_25 28 rfl 110 3 [sI (x1), sI (2), sI ((G 28) (x1).toNatClampNeg)] _ rfl rfl rfl lc7_270 R.2.1 (Nat.le_of_ble_eq_true rfl) (C h 0 0 R) (Nat.zero_le _) (Nat.zero_le _) (fun r h1 hP => ?_)
  obtain ⟨S1, G1, R1, hP⟩ := hP
  exact K r S1 G1 hP h1 _ _ R1

theorem bX7_appends_28 {d : Nat} {h0 : hp} {m : Nat} {ad : Nat → Nat} {Q : Option sV → rS → rG → Prop} {S : rS} {G : rG} {v1 : sV} {v2 : sV} (K : Q (none) S G) : rWP d h0 m ad 111 Q 28 [sR (some m), v1, v2] [] S G := by
  intro h bc bs R
  refine w_vret mb111 dX7_appends_28 rfl ?_
  exact ⟨_, _, R, K⟩

theorem bX7_appends_29 {d : Nat} {h0 : hp} {m : Nat} {ad : Nat → Nat} {Q : Option sV → rS → rG → Prop} {S : rS} {G : rG} {v1 : sV} {v2 : sV} (K : rWP d h0 m ad 111 Q 31 [sR (some m), v1, sI (0)] [] S G) : rWP d h0 m ad 111 Q 29 [sR (some m), v1, v2] [] S G := by
  intro h bc bs R
  refine w_iconst mb111 dX7_appends_29 30 rfl (0) (by decide) ?_
  refine w_istore_n mb111 dX7_appends_30 31 rfl [sR (some m), v1, sI (0)] (Nat.le_of_ble_eq_true rfl) rfl ?_
  exact K h bc bs R

theorem bX7_appends_31 {d : Nat} {h0 : hp} {m : Nat} {ad : Nat → Nat} {Q : Option sV → rS → rG → Prop} {S : rS} {G : rG} {v1 : sV} {x2 : Int32} (K1 : (S 44) ≤ (x2) → rWP d h0 m ad 111 Q 69 [sR (some m), v1, sI (x2)] [] S G) (K2 : ¬ (S 44) ≤ (x2) → rWP d h0 m ad 111 Q 39 [sR (some m), v1, sI (x2)] [] S G) : rWP d h0 m ad 111 Q 31 [sR (some m), v1, sI (x2)] [] S G := by
  intro h bc bs R
  refine w_iload_n mb111 dX7_appends_31 32 rfl rfl ?_
  refine w_aload_n mb111 dX7_appends_32 33 rfl rfl ?_
  refine x_geti mb111 dX7_appends_33 36 rfl R lf7_178 rfl ?_
  refine w_icmp_ge mb111 dX7_appends_36 69 39 (by decide) rfl (fun z => ?_) (fun z => ?_)
  · exact K1 z h bc bs R
  · exact K2 z h bc bs R

theorem bX7_appends_39 {d : Nat} {h0 : hp} {m : Nat} {ad : Nat → Nat} {Q : Option sV → rS → rG → Prop} {S : rS} {G : rG} {x1 : Int32} {x2 : Int32} (h1 : vp_in (x1) 24) (h2 : vp_in (x2) 24) (h3 : vp_in ((((24) * (x1)) + ((G 38) (x1).toNatClampNeg)) + (x2)) 576) (K : rWP d h0 m ad 111 Q 31 [sR (some m), sI (x1), sI (x2 + 1)] [] S (gup G 39 ((((24) * (x1)) + ((G 38) (x1).toNatClampNeg)) + (x2)).toNatClampNeg ((G 47) (x2).toNatClampNeg))) : rWP d h0 m ad 111 Q 39 [sR (some m), sI (x1), sI (x2)] [] S G := by
  intro h bc bs R
  refine w_aload_n mb111 dX7_appends_39 40 rfl rfl ?_
  refine x_geta mb111 dX7_appends_40 43 rfl R lf7_120 rfl (by decide) ?_
  refine w_bipush mb111 dX7_appends_43 45 rfl (24) (by decide) ?_
  refine w_iload_n mb111 dX7_appends_45 46 rfl rfl ?_
  refine w_imul mb111 dX7_appends_46 47 rfl ?_
  refine w_aload_n mb111 dX7_appends_47 48 rfl rfl ?_
  refine x_geta mb111 dX7_appends_48 51 rfl R lf7_117 rfl (by decide) ?_
  refine w_iload_n mb111 dX7_appends_51 52 rfl rfl ?_
  refine x_iald mb111 dX7_appends_52 53 rfl R 24 rfl (by decide) rfl h1 ?_
  refine w_iadd mb111 dX7_appends_53 54 rfl ?_
  refine w_iload_n mb111 dX7_appends_54 55 rfl rfl ?_
  refine w_iadd mb111 dX7_appends_55 56 rfl ?_
  refine w_aload_n mb111 dX7_appends_56 57 rfl rfl ?_
  refine x_geta mb111 dX7_appends_57 60 rfl R lf7_135 rfl (by decide) ?_
  refine w_iload_n mb111 dX7_appends_60 61 rfl rfl ?_
  refine x_iald mb111 dX7_appends_61 62 rfl R 24 rfl (by decide) rfl h2 ?_
  refine x_iast mb111 dX7_appends_62 63 rfl R 576 rfl (by decide) rfl h3 (fun h R => ?_)
  refine w_iinc mb111 dX7_appends_63 66 rfl rfl (x2 + 1) rfl [sR (some m), sI (x1), sI (x2 + 1)] rfl ?_
  refine w_goto mb111 dX7_appends_66 31 (by decide) ?_
  exact K h bc bs R

theorem bX7_appends_69 {d : Nat} {h0 : hp} {m : Nat} {ad : Nat → Nat} {Q : Option sV → rS → rG → Prop} {S : rS} {G : rG} {x1 : Int32} {v2 : sV} (h1 : vp_in (x1) 24) (K : Q (none) S (gup G 38 (x1).toNatClampNeg (((G 38) (x1).toNatClampNeg) + (S 44)))) : rWP d h0 m ad 111 Q 69 [sR (some m), sI (x1), v2] [] S G := by
  intro h bc bs R
  refine w_aload_n mb111 dX7_appends_69 70 rfl rfl ?_
  refine x_geta mb111 dX7_appends_70 73 rfl R lf7_117 rfl (by decide) ?_
  refine w_iload_n mb111 dX7_appends_73 74 rfl rfl ?_
  refine w_dup2 mb111 dX7_appends_74 75 rfl rfl rfl ?_
  refine x_iald mb111 dX7_appends_75 76 rfl R 24 rfl (by decide) rfl h1 ?_
  refine w_aload_n mb111 dX7_appends_76 77 rfl rfl ?_
  refine x_geti mb111 dX7_appends_77 80 rfl R lf7_178 rfl ?_
  refine w_iadd mb111 dX7_appends_80 81 rfl ?_
  refine x_iast mb111 dX7_appends_81 82 rfl R 24 rfl (by decide) rfl h1 (fun h R => ?_)
  refine w_vret mb111 dX7_appends_82 rfl ?_
  exact ⟨_, _, R, K⟩

theorem bX7_finishes_0 {d : Nat} {h0 : hp} {m : Nat} {ad : Nat → Nat} {Q : Option sV → rS → rG → Prop} {S : rS} {G : rG} {x1 : Int32} {v2 : sV} {v3 : sV} (h1 : vp_in (x1) 24) (h2 : vp_in ((G 28) (x1).toNatClampNeg) 24) (K1 : ((G 41) (x1).toNatClampNeg) = 0 → rWP d h0 m ad 112 Q 49 [sR (some m), sI (x1), sI ((G 28) (x1).toNatClampNeg), v3] [sI ((G 28) (x1).toNatClampNeg), sR (some (ad 19))] S (gup (gup G 20 ((G 28) (x1).toNatClampNeg).toNatClampNeg ((G 41) (x1).toNatClampNeg)) 21 ((G 28) (x1).toNatClampNeg).toNatClampNeg ((G 42) (x1).toNatClampNeg))) (K2 : ¬ ((G 41) (x1).toNatClampNeg) = 0 → rWP d h0 m ad 112 Q 45 [sR (some m), sI (x1), sI ((G 28) (x1).toNatClampNeg), v3] [sI ((G 28) (x1).toNatClampNeg), sR (some (ad 19))] S (gup (gup G 20 ((G 28) (x1).toNatClampNeg).toNatClampNeg ((G 41) (x1).toNatClampNeg)) 21 ((G 28) (x1).toNatClampNeg).toNatClampNeg ((G 42) (x1).toNatClampNeg))) : rWP d h0 m ad 112 Q 0 [sR (some m), sI (x1), v2, v3] [] S G := by
  intro h bc bs R
  refine w_aload_n mb112 dX7_finishes_0 1 rfl rfl ?_
  refine x_geta mb112 dX7_finishes_1 4 rfl R lf7_90 rfl (by decide) ?_
  refine w_iload_n mb112 dX7_finishes_4 5 rfl rfl ?_
  refine x_iald mb112 dX7_finishes_5 6 rfl R 24 rfl (by decide) rfl h1 ?_
  refine w_istore_n mb112 dX7_finishes_6 7 rfl [sR (some m), sI (x1), sI ((G 28) (x1).toNatClampNeg), v3] (Nat.le_of_ble_eq_true rfl) rfl ?_
  refine w_aload_n mb112 dX7_finishes_7 8 rfl rfl ?_
  refine x_geta mb112 dX7_finishes_8 11 rfl R lf7_69 rfl (by decide) ?_
  refine w_iload_n mb112 dX7_finishes_11 12 rfl rfl ?_
  refine w_aload_n mb112 dX7_finishes_12 13 rfl rfl ?_
  refine x_geta mb112 dX7_finishes_13 16 rfl R lf7_126 rfl (by decide) ?_
  refine w_iload_n mb112 dX7_finishes_16 17 rfl rfl ?_
  refine x_iald mb112 dX7_finishes_17 18 rfl R 24 rfl (by decide) rfl h1 ?_
  refine x_iast mb112 dX7_finishes_18 19 rfl R 24 rfl (by decide) rfl h2 (fun h R => ?_)
  refine w_aload_n mb112 dX7_finishes_19 20 rfl rfl ?_
  refine x_geta mb112 dX7_finishes_20 23 rfl R lf7_72 rfl (by decide) ?_
  refine w_iload_n mb112 dX7_finishes_23 24 rfl rfl ?_
  refine w_aload_n mb112 dX7_finishes_24 25 rfl rfl ?_
  refine x_geta mb112 dX7_finishes_25 28 rfl R lf7_129 rfl (by decide) ?_
  refine w_iload_n mb112 dX7_finishes_28 29 rfl rfl ?_
  refine x_iald mb112 dX7_finishes_29 30 rfl R 24 rfl (by decide) rfl h1 ?_
  refine x_iast mb112 dX7_finishes_30 31 rfl R 24 rfl (by decide) rfl h2 (fun h R => ?_)
  refine w_aload_n mb112 dX7_finishes_31 32 rfl rfl ?_
  refine x_geta mb112 dX7_finishes_32 35 rfl R lf7_66 rfl (by decide) ?_
  refine w_iload_n mb112 dX7_finishes_35 36 rfl rfl ?_
  refine w_aload_n mb112 dX7_finishes_36 37 rfl rfl ?_
  refine x_geta mb112 dX7_finishes_37 40 rfl R lf7_126 rfl (by decide) ?_
  refine w_iload_n mb112 dX7_finishes_40 41 rfl rfl ?_
  refine x_iald mb112 dX7_finishes_41 42 rfl R 24 rfl (by decide) rfl h1 ?_
  refine w_if_eq mb112 dX7_finishes_42 49 45 (by decide) rfl (fun z => ?_) (fun z => ?_)
  · exact K1 z h bc bs R
  · exact K2 z h bc bs R

theorem bX7_finishes_45 {d : Nat} {h0 : hp} {m : Nat} {ad : Nat → Nat} {Q : Option sV → rS → rG → Prop} {S : rS} {G : rG} {v1 : sV} {v2 : sV} {v3 : sV} {y1 : Int32} (K : rWP d h0 m ad 112 Q 69 [sR (some m), v1, v2, v3] [sI (0), sI (y1), sR (some (ad 19))] S G) : rWP d h0 m ad 112 Q 45 [sR (some m), v1, v2, v3] [sI (y1), sR (some (ad 19))] S G := by
  intro h bc bs R
  refine w_iconst mb112 dX7_finishes_45 46 rfl (0) (by decide) ?_
  refine w_goto mb112 dX7_finishes_46 69 (by decide) ?_
  exact K h bc bs R

theorem bX7_finishes_49 {d : Nat} {h0 : hp} {m : Nat} {ad : Nat → Nat} {Q : Option sV → rS → rG → Prop} {S : rS} {G : rG} {v1 : sV} {x2 : Int32} {v3 : sV} {y1 : Int32} (h1 : vp_in (x2) 24) (K1 : ¬ ((G 2) (x2).toNatClampNeg) = (2) → rWP d h0 m ad 112 Q 63 [sR (some m), v1, sI (x2), v3] [sI (y1), sR (some (ad 19))] S G) (K2 : ((G 2) (x2).toNatClampNeg) = (2) → rWP d h0 m ad 112 Q 59 [sR (some m), v1, sI (x2), v3] [sI (y1), sR (some (ad 19))] S G) : rWP d h0 m ad 112 Q 49 [sR (some m), v1, sI (x2), v3] [sI (y1), sR (some (ad 19))] S G := by
  intro h bc bs R
  refine w_aload_n mb112 dX7_finishes_49 50 rfl rfl ?_
  refine x_geta mb112 dX7_finishes_50 53 rfl R lf7_16 rfl (by decide) ?_
  refine w_iload_n mb112 dX7_finishes_53 54 rfl rfl ?_
  refine x_iald mb112 dX7_finishes_54 55 rfl R 24 rfl (by decide) rfl h1 ?_
  refine w_iconst mb112 dX7_finishes_55 56 rfl (2) (by decide) ?_
  refine w_icmp_ne mb112 dX7_finishes_56 63 59 (by decide) rfl (fun z => ?_) (fun z => ?_)
  · exact K1 z h bc bs R
  · exact K2 z h bc bs R

theorem bX7_finishes_59 {d : Nat} {h0 : hp} {m : Nat} {ad : Nat → Nat} {Q : Option sV → rS → rG → Prop} {S : rS} {G : rG} {v1 : sV} {v2 : sV} {v3 : sV} {y1 : Int32} (K : rWP d h0 m ad 112 Q 69 [sR (some m), v1, v2, v3] [sI (1), sI (y1), sR (some (ad 19))] S G) : rWP d h0 m ad 112 Q 59 [sR (some m), v1, v2, v3] [sI (y1), sR (some (ad 19))] S G := by
  intro h bc bs R
  refine w_iconst mb112 dX7_finishes_59 60 rfl (1) (by decide) ?_
  refine w_goto mb112 dX7_finishes_60 69 (by decide) ?_
  exact K h bc bs R

theorem bX7_finishes_63 {d : Nat} {h0 : hp} {m : Nat} {ad : Nat → Nat} {Q : Option sV → rS → rG → Prop} {S : rS} {G : rG} {x1 : Int32} {v2 : sV} {v3 : sV} {y1 : Int32} (h1 : vp_in (x1) 24) (K : rWP d h0 m ad 112 Q 69 [sR (some m), sI (x1), v2, v3] [sI ((G 38) (x1).toNatClampNeg), sI (y1), sR (some (ad 19))] S G) : rWP d h0 m ad 112 Q 63 [sR (some m), sI (x1), v2, v3] [sI (y1), sR (some (ad 19))] S G := by
  intro h bc bs R
  refine w_aload_n mb112 dX7_finishes_63 64 rfl rfl ?_
  refine x_geta mb112 dX7_finishes_64 67 rfl R lf7_117 rfl (by decide) ?_
  refine w_iload_n mb112 dX7_finishes_67 68 rfl rfl ?_
  refine x_iald mb112 dX7_finishes_68 69 rfl R 24 rfl (by decide) rfl h1 ?_
  exact K h bc bs R

theorem bX7_finishes_69 {d : Nat} {h0 : hp} {m : Nat} {ad : Nat → Nat} {Q : Option sV → rS → rG → Prop} {S : rS} {G : rG} {v1 : sV} {x2 : Int32} {v3 : sV} {y1 : Int32} {y2 : Int32} (h1 : vp_in (y1) 24) (h2 : vp_in (x2) 24) (K1 : ¬ ((G 2) (x2).toNatClampNeg) = (2) → rWP d h0 m ad 112 Q 95 [sR (some m), v1, sI (x2), v3] [] S (gup G 19 (y1).toNatClampNeg (y2))) (K2 : ((G 2) (x2).toNatClampNeg) = (2) → rWP d h0 m ad 112 Q 80 [sR (some m), v1, sI (x2), v3] [] S (gup G 19 (y1).toNatClampNeg (y2))) : rWP d h0 m ad 112 Q 69 [sR (some m), v1, sI (x2), v3] [sI (y2), sI (y1), sR (some (ad 19))] S G := by
  intro h bc bs R
  refine x_iast mb112 dX7_finishes_69 70 rfl R 24 rfl (by decide) rfl h1 (fun h R => ?_)
  refine w_aload_n mb112 dX7_finishes_70 71 rfl rfl ?_
  refine x_geta mb112 dX7_finishes_71 74 rfl R lf7_16 rfl (by decide) ?_
  refine w_iload_n mb112 dX7_finishes_74 75 rfl rfl ?_
  refine x_iald mb112 dX7_finishes_75 76 rfl R 24 rfl (by decide) rfl h2 ?_
  refine w_iconst mb112 dX7_finishes_76 77 rfl (2) (by decide) ?_
  refine w_icmp_ne mb112 dX7_finishes_77 95 80 (by decide) rfl (fun z => ?_) (fun z => ?_)
  · exact K1 z h bc bs R
  · exact K2 z h bc bs R
