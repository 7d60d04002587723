theorem bX7_find_0 {d : Nat} {h0 : hp} {m : Nat} {ad : Nat → Nat} {Q : Option sV → rS → rG → Prop} {S : rS} {G : rG} {x1 : Int32} (h1 : vp_in (x1) 5) (K : Q (some (sI ((-3)))) (va_up S 59 (x1)) (gup G 60 (x1).toNatClampNeg (((G 60) (x1).toNatClampNeg) + (1)))) : rWP d h0 m ad 73 Q 0 [sR (some m), sI (x1)] [] S G := by
  intro h bc bs R
  refine w_aload_n mb73 dX7_find_0 1 rfl rfl ?_
  refine w_iload_n mb73 dX7_find_1 2 rfl rfl ?_
  refine x_puti mb73 dX7_find_2 5 rfl R (lp7_154 _) rfl (fun h R => ?_)
  refine w_aload_n mb73 dX7_find_5 6 rfl rfl ?_
  refine x_geta mb73 dX7_find_6 9 rfl R lf7_151 rfl (by decide) ?_
  refine w_iload_n mb73 dX7_find_9 10 rfl rfl ?_
  refine w_dup2 mb73 dX7_find_10 11 rfl rfl rfl ?_
  refine x_iald mb73 dX7_find_11 12 rfl R 5 rfl (by decide) rfl h1 ?_
  refine w_iconst mb73 dX7_find_12 13 rfl (1) (by decide) ?_
  refine w_iadd mb73 dX7_find_13 14 rfl ?_
  refine x_iast mb73 dX7_find_14 15 rfl R 5 rfl (by decide) rfl h1 (fun h R => ?_)
  refine w_bipush mb73 dX7_find_15 17 rfl ((-3)) (by decide) ?_
  refine w_iret mb73 dX7_find_17 rfl ?_
  exact ⟨_, _, R, K⟩

theorem bX7_isSource_0 {d : Nat} {h0 : hp} {m : Nat} {ad : Nat → Nat} {Q : Option sV → rS → rG → Prop} {S : rS} {G : rG} {x0 : Int32} (K1 : (x0) < 0 → rWP d h0 m ad 74 Q 14 [sI (x0)] [] S G) (K2 : ¬ (x0) < 0 → rWP d h0 m ad 74 Q 4 [sI (x0)] [] S G) : rWP d h0 m ad 74 Q 0 [sI (x0)] [] S G := by
  intro h bc bs R
  refine w_iload_n mb74 dX7_isSource_0 1 rfl rfl ?_
  refine w_if_lt mb74 dX7_isSource_1 14 4 (by decide) rfl (fun z => ?_) (fun z => ?_)
  · exact K1 z h bc bs R
  · exact K2 z h bc bs R

theorem bX7_isSource_4 {d : Nat} {h0 : hp} {m : Nat} {ad : Nat → Nat} {Q : Option sV → rS → rG → Prop} {S : rS} {G : rG} {x0 : Int32} (K1 : (16) ≤ (x0) → rWP d h0 m ad 74 Q 14 [sI (x0)] [] S G) (K2 : ¬ (16) ≤ (x0) → rWP d h0 m ad 74 Q 10 [sI (x0)] [] S G) : rWP d h0 m ad 74 Q 4 [sI (x0)] [] S G := by
  intro h bc bs R
  refine w_iload_n mb74 dX7_isSource_4 5 rfl rfl ?_
  refine w_bipush mb74 dX7_isSource_5 7 rfl (16) (by decide) ?_
  refine w_icmp_ge mb74 dX7_isSource_7 14 10 (by decide) rfl (fun z => ?_) (fun z => ?_)
  · exact K1 z h bc bs R
  · exact K2 z h bc bs R

theorem bX7_isSource_10 {d : Nat} {h0 : hp} {m : Nat} {ad : Nat → Nat} {Q : Option sV → rS → rG → Prop} {S : rS} {G : rG} {v0 : sV} (K : rWP d h0 m ad 74 Q 15 [v0] [sI (1)] S G) : rWP d h0 m ad 74 Q 10 [v0] [] S G := by
  intro h bc bs R
  refine w_iconst mb74 dX7_isSource_10 11 rfl (1) (by decide) ?_
  refine w_goto mb74 dX7_isSource_11 15 (by decide) ?_
  exact K h bc bs R

theorem bX7_isSource_14 {d : Nat} {h0 : hp} {m : Nat} {ad : Nat → Nat} {Q : Option sV → rS → rG → Prop} {S : rS} {G : rG} {v0 : sV} (K : rWP d h0 m ad 74 Q 15 [v0] [sI (0)] S G) : rWP d h0 m ad 74 Q 14 [v0] [] S G := by
  intro h bc bs R
  refine w_iconst mb74 dX7_isSource_14 15 rfl (0) (by decide) ?_
  exact K h bc bs R

theorem bX7_isSource_15 {d : Nat} {h0 : hp} {m : Nat} {ad : Nat → Nat} {Q : Option sV → rS → rG → Prop} {S : rS} {G : rG} {v0 : sV} {y0 : Int32} (h1 : (y0) = 0 ∨ (y0) = 1) (K : Q (some (sI (y0))) S G) : rWP d h0 m ad 74 Q 15 [v0] [sI (y0)] S G := by
  intro h bc bs R
  refine w_zret mb74 dX7_isSource_15 rfl h1 ?_
  exact ⟨_, _, R, K⟩

theorem bX7_isRule_0 {d : Nat} {h0 : hp} {m : Nat} {ad : Nat → Nat} {Q : Option sV → rS → rG → Prop} {S : rS} {G : rG} {x1 : Int32} (K1 : (x1) < 0 → rWP d h0 m ad 75 Q 16 [sR (some m), sI (x1)] [] S G) (K2 : ¬ (x1) < 0 → rWP d h0 m ad 75 Q 4 [sR (some m), sI (x1)] [] S G) : rWP d h0 m ad 75 Q 0 [sR (some m), sI (x1)] [] S G := by
  intro h bc bs R
  refine w_iload_n mb75 dX7_isRule_0 1 rfl rfl ?_
  refine w_if_lt mb75 dX7_isRule_1 16 4 (by decide) rfl (fun z => ?_) (fun z => ?_)
  · exact K1 z h bc bs R
  · exact K2 z h bc bs R

theorem bX7_isRule_4 {d : Nat} {h0 : hp} {m : Nat} {ad : Nat → Nat} {Q : Option sV → rS → rG → Prop} {S : rS} {G : rG} {x1 : Int32} (K1 : (S 6) ≤ (x1) → rWP d h0 m ad 75 Q 16 [sR (some m), sI (x1)] [] S G) (K2 : ¬ (S 6) ≤ (x1) → rWP d h0 m ad 75 Q 12 [sR (some m), sI (x1)] [] S G) : rWP d h0 m ad 75 Q 4 [sR (some m), sI (x1)] [] S G := by
  intro h bc bs R
  refine w_iload_n mb75 dX7_isRule_4 5 rfl rfl ?_
  refine w_aload_n mb75 dX7_isRule_5 6 rfl rfl ?_
  refine x_geti mb75 dX7_isRule_6 9 rfl R lf7_157 rfl ?_
  refine w_icmp_ge mb75 dX7_isRule_9 16 12 (by decide) rfl (fun z => ?_) (fun z => ?_)
  · exact K1 z h bc bs R
  · exact K2 z h bc bs R

theorem bX7_isRule_12 {d : Nat} {h0 : hp} {m : Nat} {ad : Nat → Nat} {Q : Option sV → rS → rG → Prop} {S : rS} {G : rG} {v1 : sV} (K : rWP d h0 m ad 75 Q 17 [sR (some m), v1] [sI (1)] S G) : rWP d h0 m ad 75 Q 12 [sR (some m), v1] [] S G := by
  intro h bc bs R
  refine w_iconst mb75 dX7_isRule_12 13 rfl (1) (by decide) ?_
  refine w_goto mb75 dX7_isRule_13 17 (by decide) ?_
  exact K h bc bs R

theorem bX7_isRule_16 {d : Nat} {h0 : hp} {m : Nat} {ad : Nat → Nat} {Q : Option sV → rS → rG → Prop} {S : rS} {G : rG} {v1 : sV} (K : rWP d h0 m ad 75 Q 17 [sR (some m), v1] [sI (0)] S G) : rWP d h0 m ad 75 Q 16 [sR (some m), v1] [] S G := by
  intro h bc bs R
  refine w_iconst mb75 dX7_isRule_16 17 rfl (0) (by decide) ?_
  exact K h bc bs R

theorem bX7_isRule_17 {d : Nat} {h0 : hp} {m : Nat} {ad : Nat → Nat} {Q : Option sV → rS → rG → Prop} {S : rS} {G : rG} {v1 : sV} {y0 : Int32} (h1 : (y0) = 0 ∨ (y0) = 1) (K : Q (some (sI (y0))) S G) : rWP d h0 m ad 75 Q 17 [sR (some m), v1] [sI (y0)] S G := by
  intro h bc bs R
  refine w_zret mb75 dX7_isRule_17 rfl h1 ?_
  exact ⟨_, _, R, K⟩

theorem bX7_isName_0 {d : Nat} {h0 : hp} {m : Nat} {ad : Nat → Nat} {Q : Option sV → rS → rG → Prop} {S : rS} {G : rG} {x0 : Int32} (K1 : (x0) < 0 → rWP d h0 m ad 76 Q 14 [sI (x0)] [] S G) (K2 : ¬ (x0) < 0 → rWP d h0 m ad 76 Q 4 [sI (x0)] [] S G) : rWP d h0 m ad 76 Q 0 [sI (x0)] [] S G := by
  intro h bc bs R
  refine w_iload_n mb76 dX7_isName_0 1 rfl rfl ?_
  refine w_if_lt mb76 dX7_isName_1 14 4 (by decide) rfl (fun z => ?_) (fun z => ?_)
  · exact K1 z h bc bs R
  · exact K2 z h bc bs R

theorem bX7_isName_4 {d : Nat} {h0 : hp} {m : Nat} {ad : Nat → Nat} {Q : Option sV → rS → rG → Prop} {S : rS} {G : rG} {x0 : Int32} (K1 : (40) ≤ (x0) → rWP d h0 m ad 76 Q 14 [sI (x0)] [] S G) (K2 : ¬ (40) ≤ (x0) → rWP d h0 m ad 76 Q 10 [sI (x0)] [] S G) : rWP d h0 m ad 76 Q 4 [sI (x0)] [] S G := by
  intro h bc bs R
  refine w_iload_n mb76 dX7_isName_4 5 rfl rfl ?_
  refine w_bipush mb76 dX7_isName_5 7 rfl (40) (by decide) ?_
  refine w_icmp_ge mb76 dX7_isName_7 14 10 (by decide) rfl (fun z => ?_) (fun z => ?_)
  · exact K1 z h bc bs R
  · exact K2 z h bc bs R

theorem bX7_isName_10 {d : Nat} {h0 : hp} {m : Nat} {ad : Nat → Nat} {Q : Option sV → rS → rG → Prop} {S : rS} {G : rG} {v0 : sV} (K : rWP d h0 m ad 76 Q 15 [v0] [sI (1)] S G) : rWP d h0 m ad 76 Q 10 [v0] [] S G := by
  intro h bc bs R
  refine w_iconst mb76 dX7_isName_10 11 rfl (1) (by decide) ?_
  refine w_goto mb76 dX7_isName_11 15 (by decide) ?_
  exact K h bc bs R

theorem bX7_isName_14 {d : Nat} {h0 : hp} {m : Nat} {ad : Nat → Nat} {Q : Option sV → rS → rG → Prop} {S : rS} {G : rG} {v0 : sV} (K : rWP d h0 m ad 76 Q 15 [v0] [sI (0)] S G) : rWP d h0 m ad 76 Q 14 [v0] [] S G := by
  intro h bc bs R
  refine w_iconst mb76 dX7_isName_14 15 rfl (0) (by decide) ?_
  exact K h bc bs R

theorem bX7_isName_15 {d : Nat} {h0 : hp} {m : Nat} {ad : Nat → Nat} {Q : Option sV → rS → rG → Prop} {S : rS} {G : rG} {v0 : sV} {y0 : Int32} (h1 : (y0) = 0 ∨ (y0) = 1) (K : Q (some (sI (y0))) S G) : rWP d h0 m ad 76 Q 15 [v0] [sI (y0)] S G := by
  intro h bc bs R
  refine w_zret mb76 dX7_isName_15 rfl h1 ?_
  exact ⟨_, _, R, K⟩

theorem bX7_source_0 {d : Nat} {h0 : hp} {m : Nat} {ad : Nat → Nat} {Q : Option sV → rS → rG → Prop} {S : rS} {G : rG} {x1 : Int32} {v2 : sV} {v3 : sV} {P : Option sV → rS → rG → Prop} (C : rM d h0 m ad 74 [sI (x1)] S G P) (K : ∀ r S1 G1, P r S1 G1 → rWP d h0 m ad 77 Q 4 [sR (some m), sI (x1), v2, v3] (r.toList ++ []) S1 G1) : rWP d h0 m ad 77 Q 0 [sR (some m), sI (x1), v2, v3] [] S G := by
  intro h bc bs R
  refine w_iload_n mb77 dX7_source_0 1 rfl rfl ?_
  refine w_static (st := []) mb77 dX7_source_1 4 rfl 74 1 [sI (x1)] _ rfl rfl rfl lc7_160 (Nat.le_of_ble_eq_true rfl) (C h 0 0 R) (Nat.zero_le _) (Nat.zero_le _) (fun r h1 hP => ?_)
  obtain ⟨S1, G1, R1, hP⟩ := hP
  exact K r S1 G1 hP h1 _ _ R1

theorem bX7_source_4 {d : Nat} {h0 : hp} {m : Nat} {ad : Nat → Nat} {Q : Option sV → rS → rG → Prop} {S : rS} {G : rG} {v1 : sV} {v2 : sV} {v3 : sV} {y0 : Int32} (K1 : ¬ (y0) = 0 → rWP d h0 m ad 77 Q 9 [sR (some m), v1, v2, v3] [] S G) (K2 : (y0) = 0 → rWP d h0 m ad 77 Q 7 [sR (some m), v1, v2, v3] [] S G) : rWP d h0 m ad 77 Q 4 [sR (some m), v1, v2, v3] [sI (y0)] S G := by
  intro h bc bs R
  refine w_if_ne mb77 dX7_source_4 9 7 (by decide) rfl (fun z => ?_) (fun z => ?_)
  · exact K1 z h bc bs R
  · exact K2 z h bc bs R

theorem bX7_source_7 {d : Nat} {h0 : hp} {m : Nat} {ad : Nat → Nat} {Q : Option sV → rS → rG → Prop} {S : rS} {G : rG} {v1 : sV} {v2 : sV} {v3 : sV} (K : Q (some (sI ((-1)))) S G) : rWP d h0 m ad 77 Q 7 [sR (some m), v1, v2, v3] [] S G := by
  intro h bc bs R
  refine w_iconst mb77 dX7_source_7 8 rfl ((-1)) (by decide) ?_
  refine w_iret mb77 dX7_source_8 rfl ?_
  exact ⟨_, _, R, K⟩

theorem bX7_source_9 {d : Nat} {h0 : hp} {m : Nat} {ad : Nat → Nat} {Q : Option sV → rS → rG → Prop} {S : rS} {G : rG} {v1 : sV} {x2 : Int32} {v3 : sV} (K1 : 0 ≤ (x2) → rWP d h0 m ad 77 Q 19 [sR (some m), v1, sI (x2), v3] [] S G) (K2 : ¬ 0 ≤ (x2) → rWP d h0 m ad 77 Q 13 [sR (some m), v1, sI (x2), v3] [] S G) : rWP d h0 m ad 77 Q 9 [sR (some m), v1, sI (x2), v3] [] S G := by
  intro h bc bs R
  refine w_iload_n mb77 dX7_source_9 10 rfl rfl ?_
  refine w_if_ge mb77 dX7_source_10 19 13 (by decide) rfl (fun z => ?_) (fun z => ?_)
  · exact K1 z h bc bs R
  · exact K2 z h bc bs R

theorem bX7_source_13 {d : Nat} {h0 : hp} {m : Nat} {ad : Nat → Nat} {Q : Option sV → rS → rG → Prop} {S : rS} {G : rG} {v1 : sV} {v2 : sV} {v3 : sV} {P : Option sV → rS → rG → Prop} (C : rM d h0 m ad 73 [sR (some m), sI (3)] S G P) (K : ∀ r S1 G1, P r S1 G1 → rWP d h0 m ad 77 Q 18 [sR (some m), v1, v2, v3] (r.toList ++ []) S1 G1) : rWP d h0 m ad 77 Q 13 [sR (some m), v1, v2, v3] [] S G := by
  intro h bc bs R
  refine w_aload_n mb77 dX7_source_13 14 rfl rfl ?_
  refine w_iconst mb77 dX7_source_14 15 rfl (3) (by decide) ?_
  refine w_virtual (a := m) (c := 7) (st := []) mb77 dX7_source_15 18 rfl 73 1 [sI (3)] _ rfl rfl rfl lc7_164 R.2.1 (Nat.le_of_ble_eq_true rfl) (C h 0 0 R) (Nat.zero_le _) (Nat.zero_le _) (fun r h1 hP => ?_)
  obtain ⟨S1, G1, R1, hP⟩ := hP
  exact K r S1 G1 hP h1 _ _ R1

theorem bX7_source_18 {d : Nat} {h0 : hp} {m : Nat} {ad : Nat → Nat} {Q : Option sV → rS → rG → Prop} {S : rS} {G : rG} {v1 : sV} {v2 : sV} {v3 : sV} {y0 : Int32} (K : Q (some (sI (y0))) S G) : rWP d h0 m ad 77 Q 18 [sR (some m), v1, v2, v3] [sI (y0)] S G := by
  intro h bc bs R
  refine w_iret mb77 dX7_source_18 rfl ?_
  exact ⟨_, _, R, K⟩

theorem bX7_source_19 {d : Nat} {h0 : hp} {m : Nat} {ad : Nat → Nat} {Q : Option sV → rS → rG → Prop} {S : rS} {G : rG} {v1 : sV} {x2 : Int32} {v3 : sV} (K1 : (x2) ≤ (16) → rWP d h0 m ad 77 Q 27 [sR (some m), v1, sI (x2), v3] [] S G) (K2 : ¬ (x2) ≤ (16) → rWP d h0 m ad 77 Q 25 [sR (some m), v1, sI (x2), v3] [] S G) : rWP d h0 m ad 77 Q 19 [sR (some m), v1, sI (x2), v3] [] S G := by
  intro h bc bs R
  refine w_iload_n mb77 dX7_source_19 20 rfl rfl ?_
  refine w_bipush mb77 dX7_source_20 22 rfl (16) (by decide) ?_
  refine w_icmp_le mb77 dX7_source_22 27 25 (by decide) rfl (fun z => ?_) (fun z => ?_)
  · exact K1 z h bc bs R
  · exact K2 z h bc bs R

theorem bX7_source_25 {d : Nat} {h0 : hp} {m : Nat} {ad : Nat → Nat} {Q : Option sV → rS → rG → Prop} {S : rS} {G : rG} {v1 : sV} {v2 : sV} {v3 : sV} (K : Q (some (sI ((-1)))) S G) : rWP d h0 m ad 77 Q 25 [sR (some m), v1, v2, v3] [] S G := by
  intro h bc bs R
  refine w_iconst mb77 dX7_source_25 26 rfl ((-1)) (by decide) ?_
  refine w_iret mb77 dX7_source_26 rfl ?_
  exact ⟨_, _, R, K⟩

theorem bX7_source_27 {d : Nat} {h0 : hp} {m : Nat} {ad : Nat → Nat} {Q : Option sV → rS → rG → Prop} {S : rS} {G : rG} {x1 : Int32} {x2 : Int32} {v3 : sV} (h1 : vp_in (x1) 16) (K : rWP d h0 m ad 77 Q 36 [sR (some m), sI (x1), sI (x2), sI (0)] [] S (gup G 0 (x1).toNatClampNeg (x2))) : rWP d h0 m ad 77 Q 27 [sR (some m), sI (x1), sI (x2), v3] [] S G := by
  intro h bc bs R
  refine w_aload_n mb77 dX7_source_27 28 rfl rfl ?_
  refine x_geta mb77 dX7_source_28 31 rfl R lf7_7 rfl (by decide) ?_
  refine w_iload_n mb77 dX7_source_31 32 rfl rfl ?_
  refine w_iload_n mb77 dX7_source_32 33 rfl rfl ?_
  refine x_iast mb77 dX7_source_33 34 rfl R 16 rfl (by decide) rfl h1 (fun h R => ?_)
  refine w_iconst mb77 dX7_source_34 35 rfl (0) (by decide) ?_
  refine w_istore_n mb77 dX7_source_35 36 rfl [sR (some m), sI (x1), sI (x2), sI (0)] (Nat.le_of_ble_eq_true rfl) rfl ?_
  exact K h bc bs R

theorem bX7_source_36 {d : Nat} {h0 : hp} {m : Nat} {ad : Nat → Nat} {Q : Option sV → rS → rG → Prop} {S : rS} {G : rG} {v1 : sV} {v2 : sV} {x3 : Int32} (K1 : (16) ≤ (x3) → rWP d h0 m ad 77 Q 60 [sR (some m), v1, v2, sI (x3)] [] S G) (K2 : ¬ (16) ≤ (x3) → rWP d h0 m ad 77 Q 42 [sR (some m), v1, v2, sI (x3)] [] S G) : rWP d h0 m ad 77 Q 36 [sR (some m), v1, v2, sI (x3)] [] S G := by
  intro h bc bs R
  refine w_iload_n mb77 dX7_source_36 37 rfl rfl ?_
  refine w_bipush mb77 dX7_source_37 39 rfl (16) (by decide) ?_
  refine w_icmp_ge mb77 dX7_source_39 60 42 (by decide) rfl (fun z => ?_) (fun z => ?_)
  · exact K1 z h bc bs R
  · exact K2 z h bc bs R

theorem bX7_source_42 {d : Nat} {h0 : hp} {m : Nat} {ad : Nat → Nat} {Q : Option sV → rS → rG → Prop} {S : rS} {G : rG} {x1 : Int32} {v2 : sV} {x3 : Int32} (h1 : vp_in (((16) * (x1)) + (x3)) 256) (K : rWP d h0 m ad 77 Q 36 [sR (some m), sI (x1), v2, sI (x3 + 1)] [] S (gup G 1 (((16) * (x1)) + (x3)).toNatClampNeg (0))) : rWP d h0 m ad 77 Q 42 [sR (some m), sI (x1), v2, sI (x3)] [] S G := by
  intro h bc bs R
  refine w_aload_n mb77 dX7_source_42 43 rfl rfl ?_
  refine x_geta mb77 dX7_source_43 46 rfl R lf7_13 rfl (by decide) ?_
  refine w_bipush mb77 dX7_source_46 48 rfl (16) (by decide) ?_
  refine w_iload_n mb77 dX7_source_48 49 rfl rfl ?_
  refine w_imul mb77 dX7_source_49 50 rfl ?_
  refine w_iload_n mb77 dX7_source_50 51 rfl rfl ?_
  refine w_iadd mb77 dX7_source_51 52 rfl ?_
  refine w_iconst mb77 dX7_source_52 53 rfl (0) (by decide) ?_
  refine x_iast mb77 dX7_source_53 54 rfl R 256 rfl (by decide) rfl h1 (fun h R => ?_)
  refine w_iinc mb77 dX7_source_54 57 rfl rfl (x3 + 1) rfl [sR (some m), sI (x1), v2, sI (x3 + 1)] rfl ?_
  refine w_goto mb77 dX7_source_57 36 (by decide) ?_
  exact K h bc bs R

theorem bX7_source_60 {d : Nat} {h0 : hp} {m : Nat} {ad : Nat → Nat} {Q : Option sV → rS → rG → Prop} {S : rS} {G : rG} {v1 : sV} {x2 : Int32} {v3 : sV} (K : Q (some (sI (x2))) S G) : rWP d h0 m ad 77 Q 60 [sR (some m), v1, sI (x2), v3] [] S G := by
  intro h bc bs R
  refine w_iload_n mb77 dX7_source_60 61 rfl rfl ?_
  refine w_iret mb77 dX7_source_61 rfl ?_
  exact ⟨_, _, R, K⟩

theorem bX7_set_0 {d : Nat} {h0 : hp} {m : Nat} {ad : Nat → Nat} {Q : Option sV → rS → rG → Prop} {S : rS} {G : rG} {x1 : Int32} {v2 : sV} {v3 : sV} {P : Option sV → rS → rG → Prop} (C : rM d h0 m ad 74 [sI (x1)] S G P) (K : ∀ r S1 G1, P r S1 G1 → rWP d h0 m ad 78 Q 4 [sR (some m), sI (x1), v2, v3] (r.toList ++ []) S1 G1) : rWP d h0 m ad 78 Q 0 [sR (some m), sI (x1), v2, v3] [] S G := by
  intro h bc bs R
  refine w_iload_n mb78 dX7_set_0 1 rfl rfl ?_
  refine w_static (st := []) mb78 dX7_set_1 4 rfl 74 1 [sI (x1)] _ rfl rfl rfl lc7_160 (Nat.le_of_ble_eq_true rfl) (C h 0 0 R) (Nat.zero_le _) (Nat.zero_le _) (fun r h1 hP => ?_)
  obtain ⟨S1, G1, R1, hP⟩ := hP
  exact K r S1 G1 hP h1 _ _ R1

theorem bX7_set_4 {d : Nat} {h0 : hp} {m : Nat} {ad : Nat → Nat} {Q : Option sV → rS → rG → Prop} {S : rS} {G : rG} {v1 : sV} {v2 : sV} {v3 : sV} {y0 : Int32} (K1 : ¬ (y0) = 0 → rWP d h0 m ad 78 Q 13 [sR (some m), v1, v2, v3] [] S G) (K2 : (y0) = 0 → rWP d h0 m ad 78 Q 7 [sR (some m), v1, v2, v3] [] S G) : rWP d h0 m ad 78 Q 4 [sR (some m), v1, v2, v3] [sI (y0)] S G := by
  intro h bc bs R
  refine w_if_ne mb78 dX7_set_4 13 7 (by decide) rfl (fun z => ?_) (fun z => ?_)
  · exact K1 z h bc bs R
  · exact K2 z h bc bs R

theorem bX7_set_7 {d : Nat} {h0 : hp} {m : Nat} {ad : Nat → Nat} {Q : Option sV → rS → rG → Prop} {S : rS} {G : rG} {v1 : sV} {v2 : sV} {v3 : sV} {P : Option sV → rS → rG → Prop} (C : rM d h0 m ad 73 [sR (some m), sI (2)] S G P) (K : ∀ r S1 G1, P r S1 G1 → rWP d h0 m ad 78 Q 12 [sR (some m), v1, v2, v3] (r.toList ++ []) S1 G1) : rWP d h0 m ad 78 Q 7 [sR (some m), v1, v2, v3] [] S G := by
  intro h bc bs R
  refine w_aload_n mb78 dX7_set_7 8 rfl rfl ?_
  refine w_iconst mb78 dX7_set_8 9 rfl (2) (by decide) ?_
  refine w_virtual (a := m) (c := 7) (st := []) mb78 dX7_set_9 12 rfl 73 1 [sI (2)] _ rfl rfl rfl lc7_164 R.2.1 (Nat.le_of_ble_eq_true rfl) (C h 0 0 R) (Nat.zero_le _) (Nat.zero_le _) (fun r h1 hP => ?_)
  obtain ⟨S1, G1, R1, hP⟩ := hP
  exact K r S1 G1 hP h1 _ _ R1

theorem bX7_set_12 {d : Nat} {h0 : hp} {m : Nat} {ad : Nat → Nat} {Q : Option sV → rS → rG → Prop} {S : rS} {G : rG} {v1 : sV} {v2 : sV} {v3 : sV} {y0 : Int32} (K : Q (some (sI (y0))) S G) : rWP d h0 m ad 78 Q 12 [sR (some m), v1, v2, v3] [sI (y0)] S G := by
  intro h bc bs R
  refine w_iret mb78 dX7_set_12 rfl ?_
  exact ⟨_, _, R, K⟩

theorem bX7_set_13 {d : Nat} {h0 : hp} {m : Nat} {ad : Nat → Nat} {Q : Option sV → rS → rG → Prop} {S : rS} {G : rG} {x1 : Int32} {v2 : sV} {v3 : sV} (h1 : vp_in (x1) 16) (K1 : ¬ ((G 0) (x1).toNatClampNeg) = ((-1)) → rWP d h0 m ad 78 Q 29 [sR (some m), sI (x1), v2, v3] [] S G) (K2 : ((G 0) (x1).toNatClampNeg) = ((-1)) → rWP d h0 m ad 78 Q 23 [sR (some m), sI (x1), v2, v3] [] S G) : rWP d h0 m ad 78 Q 13 [sR (some m), sI (x1), v2, v3] [] S G := by
  intro h bc bs R
  refine w_aload_n mb78 dX7_set_13 14 rfl rfl ?_
  refine x_geta mb78 dX7_set_14 17 rfl R lf7_7 rfl (by decide) ?_
  refine w_iload_n mb78 dX7_set_17 18 rfl rfl ?_
  refine x_iald mb78 dX7_set_18 19 rfl R 16 rfl (by decide) rfl h1 ?_
  refine w_iconst mb78 dX7_set_19 20 rfl ((-1)) (by decide) ?_
  refine w_icmp_ne mb78 dX7_set_20 29 23 (by decide) rfl (fun z => ?_) (fun z => ?_)
  · exact K1 z h bc bs R
  · exact K2 z h bc bs R

theorem bX7_set_23 {d : Nat} {h0 : hp} {m : Nat} {ad : Nat → Nat} {Q : Option sV → rS → rG → Prop} {S : rS} {G : rG} {v1 : sV} {v2 : sV} {v3 : sV} {P : Option sV → rS → rG → Prop} (C : rM d h0 m ad 73 [sR (some m), sI (1)] S G P) (K : ∀ r S1 G1, P r S1 G1 → rWP d h0 m ad 78 Q 28 [sR (some m), v1, v2, v3] (r.toList ++ []) S1 G1) : rWP d h0 m ad 78 Q 23 [sR (some m), v1, v2, v3] [] S G := by
  intro h bc bs R
  refine w_aload_n mb78 dX7_set_23 24 rfl rfl ?_
  refine w_iconst mb78 dX7_set_24 25 rfl (1) (by decide) ?_
  refine w_virtual (a := m) (c := 7) (st := []) mb78 dX7_set_25 28 rfl 73 1 [sI (1)] _ rfl rfl rfl lc7_164 R.2.1 (Nat.le_of_ble_eq_true rfl) (C h 0 0 R) (Nat.zero_le _) (Nat.zero_le _) (fun r h1 hP => ?_)
  obtain ⟨S1, G1, R1, hP⟩ := hP
  exact K r S1 G1 hP h1 _ _ R1

theorem bX7_set_28 {d : Nat} {h0 : hp} {m : Nat} {ad : Nat → Nat} {Q : Option sV → rS → rG → Prop} {S : rS} {G : rG} {v1 : sV} {v2 : sV} {v3 : sV} {y0 : Int32} (K : Q (some (sI (y0))) S G) : rWP d h0 m ad 78 Q 28 [sR (some m), v1, v2, v3] [sI (y0)] S G := by
  intro h bc bs R
  refine w_iret mb78 dX7_set_28 rfl ?_
  exact ⟨_, _, R, K⟩

theorem bX7_set_29 {d : Nat} {h0 : hp} {m : Nat} {ad : Nat → Nat} {Q : Option sV → rS → rG → Prop} {S : rS} {G : rG} {v1 : sV} {x2 : Int32} {v3 : sV} (K1 : (x2) < 0 → rWP d h0 m ad 78 Q 43 [sR (some m), v1, sI (x2), v3] [] S G) (K2 : ¬ (x2) < 0 → rWP d h0 m ad 78 Q 33 [sR (some m), v1, sI (x2), v3] [] S G) : rWP d h0 m ad 78 Q 29 [sR (some m), v1, sI (x2), v3] [] S G := by
  intro h bc bs R
  refine w_iload_n mb78 dX7_set_29 30 rfl rfl ?_
  refine w_if_lt mb78 dX7_set_30 43 33 (by decide) rfl (fun z => ?_) (fun z => ?_)
  · exact K1 z h bc bs R
  · exact K2 z h bc bs R

theorem bX7_set_33 {d : Nat} {h0 : hp} {m : Nat} {ad : Nat → Nat} {Q : Option sV → rS → rG → Prop} {S : rS} {G : rG} {x1 : Int32} {x2 : Int32} {v3 : sV} (h1 : vp_in (x1) 16) (K1 : (x2) < ((G 0) (x1).toNatClampNeg) → rWP d h0 m ad 78 Q 49 [sR (some m), sI (x1), sI (x2), v3] [] S G) (K2 : ¬ (x2) < ((G 0) (x1).toNatClampNeg) → rWP d h0 m ad 78 Q 43 [sR (some m), sI (x1), sI (x2), v3] [] S G) : rWP d h0 m ad 78 Q 33 [sR (some m), sI (x1), sI (x2), v3] [] S G := by
  intro h bc bs R
  refine w_iload_n mb78 dX7_set_33 34 rfl rfl ?_
  refine w_aload_n mb78 dX7_set_34 35 rfl rfl ?_
  refine x_geta mb78 dX7_set_35 38 rfl R lf7_7 rfl (by decide) ?_
  refine w_iload_n mb78 dX7_set_38 39 rfl rfl ?_
  refine x_iald mb78 dX7_set_39 40 rfl R 16 rfl (by decide) rfl h1 ?_
  refine w_icmp_lt mb78 dX7_set_40 49 43 (by decide) rfl (fun z => ?_) (fun z => ?_)
  · exact K1 z h bc bs R
  · exact K2 z h bc bs R

theorem bX7_set_43 {d : Nat} {h0 : hp} {m : Nat} {ad : Nat → Nat} {Q : Option sV → rS → rG → Prop} {S : rS} {G : rG} {v1 : sV} {v2 : sV} {v3 : sV} {P : Option sV → rS → rG → Prop} (C : rM d h0 m ad 73 [sR (some m), sI (2)] S G P) (K : ∀ r S1 G1, P r S1 G1 → rWP d h0 m ad 78 Q 48 [sR (some m), v1, v2, v3] (r.toList ++ []) S1 G1) : rWP d h0 m ad 78 Q 43 [sR (some m), v1, v2, v3] [] S G := by
  intro h bc bs R
  refine w_aload_n mb78 dX7_set_43 44 rfl rfl ?_
  refine w_iconst mb78 dX7_set_44 45 rfl (2) (by decide) ?_
  refine w_virtual (a := m) (c := 7) (st := []) mb78 dX7_set_45 48 rfl 73 1 [sI (2)] _ rfl rfl rfl lc7_164 R.2.1 (Nat.le_of_ble_eq_true rfl) (C h 0 0 R) (Nat.zero_le _) (Nat.zero_le _) (fun r h1 hP => ?_)
  obtain ⟨S1, G1, R1, hP⟩ := hP
  exact K r S1 G1 hP h1 _ _ R1

theorem bX7_set_48 {d : Nat} {h0 : hp} {m : Nat} {ad : Nat → Nat} {Q : Option sV → rS → rG → Prop} {S : rS} {G : rG} {v1 : sV} {v2 : sV} {v3 : sV} {y0 : Int32} (K : Q (some (sI (y0))) S G) : rWP d h0 m ad 78 Q 48 [sR (some m), v1, v2, v3] [sI (y0)] S G := by
  intro h bc bs R
  refine w_iret mb78 dX7_set_48 rfl ?_
  exact ⟨_, _, R, K⟩

theorem bX7_set_49 {d : Nat} {h0 : hp} {m : Nat} {ad : Nat → Nat} {Q : Option sV → rS → rG → Prop} {S : rS} {G : rG} {x1 : Int32} {x2 : Int32} {x3 : Int32} (h1 : vp_in (((16) * (x1)) + (x2)) 256) (K : Q (some (sI (1))) S (gup G 1 (((16) * (x1)) + (x2)).toNatClampNeg (x3))) : rWP d h0 m ad 78 Q 49 [sR (some m), sI (x1), sI (x2), sI (x3)] [] S G := by
  intro h bc bs R
  refine w_aload_n mb78 dX7_set_49 50 rfl rfl ?_
  refine x_geta mb78 dX7_set_50 53 rfl R lf7_13 rfl (by decide) ?_
  refine w_bipush mb78 dX7_set_53 55 rfl (16) (by decide) ?_
  refine w_iload_n mb78 dX7_set_55 56 rfl rfl ?_
  refine w_imul mb78 dX7_set_56 57 rfl ?_
  refine w_iload_n mb78 dX7_set_57 58 rfl rfl ?_
  refine w_iadd mb78 dX7_set_58 59 rfl ?_
  refine w_iload_n mb78 dX7_set_59 60 rfl rfl ?_
  refine x_iast mb78 dX7_set_60 61 rfl R 256 rfl (by decide) rfl h1 (fun h R => ?_)
  refine w_iconst mb78 dX7_set_61 62 rfl (1) (by decide) ?_
  refine w_iret mb78 dX7_set_62 rfl ?_
  exact ⟨_, _, R, K⟩

theorem bX7_miss_0 {d : Nat} {h0 : hp} {m : Nat} {ad : Nat → Nat} {Q : Option sV → rS → rG → Prop} {S : rS} {G : rG} {x1 : Int32} {v2 : sV} {P : Option sV → rS → rG → Prop} (C : rM d h0 m ad 74 [sI (x1)] S G P) (K : ∀ r S1 G1, P r S1 G1 → rWP d h0 m ad 79 Q 4 [sR (some m), sI (x1), v2] (r.toList ++ []) S1 G1) : rWP d h0 m ad 79 Q 0 [sR (some m), sI (x1), v2] [] S G := by
  intro h bc bs R
  refine w_iload_n mb79 dX7_miss_0 1 rfl rfl ?_
  refine w_static (st := []) mb79 dX7_miss_1 4 rfl 74 1 [sI (x1)] _ rfl rfl rfl lc7_160 (Nat.le_of_ble_eq_true rfl) (C h 0 0 R) (Nat.zero_le _) (Nat.zero_le _) (fun r h1 hP => ?_)
  obtain ⟨S1, G1, R1, hP⟩ := hP
  exact K r S1 G1 hP h1 _ _ R1

theorem bX7_miss_4 {d : Nat} {h0 : hp} {m : Nat} {ad : Nat → Nat} {Q : Option sV → rS → rG → Prop} {S : rS} {G : rG} {v1 : sV} {v2 : sV} {y0 : Int32} (K1 : ¬ (y0) = 0 → rWP d h0 m ad 79 Q 9 [sR (some m), v1, v2] [] S G) (K2 : (y0) = 0 → rWP d h0 m ad 79 Q 7 [sR (some m), v1, v2] [] S G) : rWP d h0 m ad 79 Q 4 [sR (some m), v1, v2] [sI (y0)] S G := by
  intro h bc bs R
  refine w_if_ne mb79 dX7_miss_4 9 7 (by decide) rfl (fun z => ?_) (fun z => ?_)
  · exact K1 z h bc bs R
  · exact K2 z h bc bs R

theorem bX7_miss_7 {d : Nat} {h0 : hp} {m : Nat} {ad : Nat → Nat} {Q : Option sV → rS → rG → Prop} {S : rS} {G : rG} {v1 : sV} {v2 : sV} (K : Q (some (sI ((-1)))) S G) : rWP d h0 m ad 79 Q 7 [sR (some m), v1, v2] [] S G := by
  intro h bc bs R
  refine w_iconst mb79 dX7_miss_7 8 rfl ((-1)) (by decide) ?_
  refine w_iret mb79 dX7_miss_8 rfl ?_
  exact ⟨_, _, R, K⟩

theorem bX7_miss_9 {d : Nat} {h0 : hp} {m : Nat} {ad : Nat → Nat} {Q : Option sV → rS → rG → Prop} {S : rS} {G : rG} {x1 : Int32} {v2 : sV} (h1 : vp_in (x1) 16) (K1 : ¬ ((G 0) (x1).toNatClampNeg) = ((-1)) → rWP d h0 m ad 79 Q 23 [sR (some m), sI (x1), v2] [] S G) (K2 : ((G 0) (x1).toNatClampNeg) = ((-1)) → rWP d h0 m ad 79 Q 19 [sR (some m), sI (x1), v2] [] S G) : rWP d h0 m ad 79 Q 9 [sR (some m), sI (x1), v2] [] S G := by
  intro h bc bs R
  refine w_aload_n mb79 dX7_miss_9 10 rfl rfl ?_
  refine x_geta mb79 dX7_miss_10 13 rfl R lf7_7 rfl (by decide) ?_
  refine w_iload_n mb79 dX7_miss_13 14 rfl rfl ?_
  refine x_iald mb79 dX7_miss_14 15 rfl R 16 rfl (by decide) rfl h1 ?_
  refine w_iconst mb79 dX7_miss_15 16 rfl ((-1)) (by decide) ?_
  refine w_icmp_ne mb79 dX7_miss_16 23 19 (by decide) rfl (fun z => ?_) (fun z => ?_)
  · exact K1 z h bc bs R
  · exact K2 z h bc bs R

theorem bX7_miss_19 {d : Nat} {h0 : hp} {m : Nat} {ad : Nat → Nat} {Q : Option sV → rS → rG → Prop} {S : rS} {G : rG} {v1 : sV} {v2 : sV} (K : rWP d h0 m ad 79 Q 24 [sR (some m), v1, v2] [sI (0)] S G) : rWP d h0 m ad 79 Q 19 [sR (some m), v1, v2] [] S G := by
  intro h bc bs R
  refine w_iconst mb79 dX7_miss_19 20 rfl (0) (by decide) ?_
  refine w_goto mb79 dX7_miss_20 24 (by decide) ?_
  exact K h bc bs R

theorem bX7_miss_23 {d : Nat} {h0 : hp} {m : Nat} {ad : Nat → Nat} {Q : Option sV → rS → rG → Prop} {S : rS} {G : rG} {v1 : sV} {v2 : sV} (K : rWP d h0 m ad 79 Q 24 [sR (some m), v1, v2] [sI (1)] S G) : rWP d h0 m ad 79 Q 23 [sR (some m), v1, v2] [] S G := by
  intro h bc bs R
  refine w_iconst mb79 dX7_miss_23 24 rfl (1) (by decide) ?_
  exact K h bc bs R

theorem bX7_miss_24 {d : Nat} {h0 : hp} {m : Nat} {ad : Nat → Nat} {Q : Option sV → rS → rG → Prop} {S : rS} {G : rG} {x1 : Int32} {v2 : sV} {y0 : Int32} (h1 : vp_in (x1) 16) (K : Q (some (sI (y0))) S (gup G 0 (x1).toNatClampNeg ((-1)))) : rWP d h0 m ad 79 Q 24 [sR (some m), sI (x1), v2] [sI (y0)] S G := by
  intro h bc bs R
  refine w_istore_n mb79 dX7_miss_24 25 rfl [sR (some m), sI (x1), sI (y0)] (Nat.le_of_ble_eq_true rfl) rfl ?_
  refine w_aload_n mb79 dX7_miss_25 26 rfl rfl ?_
  refine x_geta mb79 dX7_miss_26 29 rfl R lf7_7 rfl (by decide) ?_
  refine w_iload_n mb79 dX7_miss_29 30 rfl rfl ?_
  refine w_iconst mb79 dX7_miss_30 31 rfl ((-1)) (by decide) ?_
  refine x_iast mb79 dX7_miss_31 32 rfl R 16 rfl (by decide) rfl h1 (fun h R => ?_)
  refine w_iload_n mb79 dX7_miss_32 33 rfl rfl ?_
  refine w_iret mb79 dX7_miss_33 rfl ?_
  exact ⟨_, _, R, K⟩

theorem bX7_copy_0 {d : Nat} {h0 : hp} {m : Nat} {ad : Nat → Nat} {Q : Option sV → rS → rG → Prop} {S : rS} {G : rG} {x1 : Int32} {v2 : sV} {v3 : sV} {v4 : sV} {v5 : sV} {v6 : sV} {P : Option sV → rS → rG → Prop} (C : rM d h0 m ad 74 [sI (x1)] S G P) (K : ∀ r S1 G1, P r S1 G1 → rWP d h0 m ad 80 Q 4 [sR (some m), sI (x1), v2, v3, v4, v5, v6] (r.toList ++ []) S1 G1) : rWP d h0 m ad 80 Q 0 [sR (some m), sI (x1), v2, v3, v4, v5, v6] [] S G := by
  intro h bc bs R
  refine w_iload_n mb80 dX7_copy_0 1 rfl rfl ?_
  refine w_static (st := []) mb80 dX7_copy_1 4 rfl 74 1 [sI (x1)] _ rfl rfl rfl lc7_160 (Nat.le_of_ble_eq_true rfl) (C h 0 0 R) (Nat.zero_le _) (Nat.zero_le _) (fun r h1 hP => ?_)
  obtain ⟨S1, G1, R1, hP⟩ := hP
  exact K r S1 G1 hP h1 _ _ R1

theorem bX7_copy_4 {d : Nat} {h0 : hp} {m : Nat} {ad : Nat → Nat} {Q : Option sV → rS → rG → Prop} {S : rS} {G : rG} {v1 : sV} {v2 : sV} {v3 : sV} {v4 : sV} {v5 : sV} {v6 : sV} {y0 : Int32} (K1 : (y0) = 0 → rWP d h0 m ad 80 Q 14 [sR (some m), v1, v2, v3, v4, v5, v6] [] S G) (K2 : ¬ (y0) = 0 → rWP d h0 m ad 80 Q 7 [sR (some m), v1, v2, v3, v4, v5, v6] [] S G) : rWP d h0 m ad 80 Q 4 [sR (some m), v1, v2, v3, v4, v5, v6] [sI (y0)] S G := by
  intro h bc bs R
  refine w_if_eq mb80 dX7_copy_4 14 7 (by decide) rfl (fun z => ?_) (fun z => ?_)
  · exact K1 z h bc bs R
  · exact K2 z h bc bs R

theorem bX7_copy_7 {d : Nat} {h0 : hp} {m : Nat} {ad : Nat → Nat} {Q : Option sV → rS → rG → Prop} {S : rS} {G : rG} {v1 : sV} {v2 : sV} {x3 : Int32} {v4 : sV} {v5 : sV} {v6 : sV} {P : Option sV → rS → rG → Prop} (C : rM d h0 m ad 74 [sI (x3)] S G P) (K : ∀ r S1 G1, P r S1 G1 → rWP d h0 m ad 80 Q 11 [sR (some m), v1, v2, sI (x3), v4, v5, v6] (r.toList ++ []) S1 G1) : rWP d h0 m ad 80 Q 7 [sR (some m), v1, v2, sI (x3), v4, v5, v6] [] S G := by
  intro h bc bs R
  refine w_iload_n mb80 dX7_copy_7 8 rfl rfl ?_
  refine w_static (st := []) mb80 dX7_copy_8 11 rfl 74 1 [sI (x3)] _ rfl rfl rfl lc7_160 (Nat.le_of_ble_eq_true rfl) (C h 0 0 R) (Nat.zero_le _) (Nat.zero_le _) (fun r h1 hP => ?_)
  obtain ⟨S1, G1, R1, hP⟩ := hP
  exact K r S1 G1 hP h1 _ _ R1

theorem bX7_copy_11 {d : Nat} {h0 : hp} {m : Nat} {ad : Nat → Nat} {Q : Option sV → rS → rG → Prop} {S : rS} {G : rG} {v1 : sV} {v2 : sV} {v3 : sV} {v4 : sV} {v5 : sV} {v6 : sV} {y0 : Int32} (K1 : ¬ (y0) = 0 → rWP d h0 m ad 80 Q 16 [sR (some m), v1, v2, v3, v4, v5, v6] [] S G) (K2 : (y0) = 0 → rWP d h0 m ad 80 Q 14 [sR (some m), v1, v2, v3, v4, v5, v6] [] S G) : rWP d h0 m ad 80 Q 11 [sR (some m), v1, v2, v3, v4, v5, v6] [sI (y0)] S G := by
  intro h bc bs R
  refine w_if_ne mb80 dX7_copy_11 16 14 (by decide) rfl (fun z => ?_) (fun z => ?_)
  · exact K1 z h bc bs R
  · exact K2 z h bc bs R

theorem bX7_copy_14 {d : Nat} {h0 : hp} {m : Nat} {ad : Nat → Nat} {Q : Option sV → rS → rG → Prop} {S : rS} {G : rG} {v1 : sV} {v2 : sV} {v3 : sV} {v4 : sV} {v5 : sV} {v6 : sV} (K : Q (some (sI ((-1)))) S G) : rWP d h0 m ad 80 Q 14 [sR (some m), v1, v2, v3, v4, v5, v6] [] S G := by
  intro h bc bs R
  refine w_iconst mb80 dX7_copy_14 15 rfl ((-1)) (by decide) ?_
  refine w_iret mb80 dX7_copy_15 rfl ?_
  exact ⟨_, _, R, K⟩

theorem bX7_copy_16 {d : Nat} {h0 : hp} {m : Nat} {ad : Nat → Nat} {Q : Option sV → rS → rG → Prop} {S : rS} {G : rG} {x1 : Int32} {v2 : sV} {v3 : sV} {v4 : sV} {v5 : sV} {v6 : sV} (h1 : vp_in (x1) 16) (K1 : ((G 0) (x1).toNatClampNeg) = ((-1)) → rWP d h0 m ad 80 Q 36 [sR (some m), sI (x1), v2, v3, v4, v5, v6] [] S G) (K2 : ¬ ((G 0) (x1).toNatClampNeg) = ((-1)) → rWP d h0 m ad 80 Q 26 [sR (some m), sI (x1), v2, v3, v4, v5, v6] [] S G) : rWP d h0 m ad 80 Q 16 [sR (some m), sI (x1), v2, v3, v4, v5, v6] [] S G := by
  intro h bc bs R
  refine w_aload_n mb80 dX7_copy_16 17 rfl rfl ?_
  refine x_geta mb80 dX7_copy_17 20 rfl R lf7_7 rfl (by decide) ?_
  refine w_iload_n mb80 dX7_copy_20 21 rfl rfl ?_
  refine x_iald mb80 dX7_copy_21 22 rfl R 16 rfl (by decide) rfl h1 ?_
  refine w_iconst mb80 dX7_copy_22 23 rfl ((-1)) (by decide) ?_
  refine w_icmp_eq mb80 dX7_copy_23 36 26 (by decide) rfl (fun z => ?_) (fun z => ?_)
  · exact K1 z h bc bs R
  · exact K2 z h bc bs R

theorem bX7_copy_26 {d : Nat} {h0 : hp} {m : Nat} {ad : Nat → Nat} {Q : Option sV → rS → rG → Prop} {S : rS} {G : rG} {v1 : sV} {v2 : sV} {x3 : Int32} {v4 : sV} {v5 : sV} {v6 : sV} (h1 : vp_in (x3) 16) (K1 : ¬ ((G 0) (x3).toNatClampNeg) = ((-1)) → rWP d h0 m ad 80 Q 42 [sR (some m), v1, v2, sI (x3), v4, v5, v6] [] S G) (K2 : ((G 0) (x3).toNatClampNeg) = ((-1)) → rWP d h0 m ad 80 Q 36 [sR (some m), v1, v2, sI (x3), v4, v5, v6] [] S G) : rWP d h0 m ad 80 Q 26 [sR (some m), v1, v2, sI (x3), v4, v5, v6] [] S G := by
  intro h bc bs R
  refine w_aload_n mb80 dX7_copy_26 27 rfl rfl ?_
  refine x_geta mb80 dX7_copy_27 30 rfl R lf7_7 rfl (by decide) ?_
  refine w_iload_n mb80 dX7_copy_30 31 rfl rfl ?_
  refine x_iald mb80 dX7_copy_31 32 rfl R 16 rfl (by decide) rfl h1 ?_
  refine w_iconst mb80 dX7_copy_32 33 rfl ((-1)) (by decide) ?_
  refine w_icmp_ne mb80 dX7_copy_33 42 36 (by decide) rfl (fun z => ?_) (fun z => ?_)
  · exact K1 z h bc bs R
  · exact K2 z h bc bs R

theorem bX7_copy_36 {d : Nat} {h0 : hp} {m : Nat} {ad : Nat → Nat} {Q : Option sV → rS → rG → Prop} {S : rS} {G : rG} {v1 : sV} {v2 : sV} {v3 : sV} {v4 : sV} {v5 : sV} {v6 : sV} {P : Option sV → rS → rG → Prop} (C : rM d h0 m ad 73 [sR (some m), sI (1)] S G P) (K : ∀ r S1 G1, P r S1 G1 → rWP d h0 m ad 80 Q 41 [sR (some m), v1, v2, v3, v4, v5, v6] (r.toList ++ []) S1 G1) : rWP d h0 m ad 80 Q 36 [sR (some m), v1, v2, v3, v4, v5, v6] [] S G := by
  intro h bc bs R
  refine w_aload_n mb80 dX7_copy_36 37 rfl rfl ?_
  refine w_iconst mb80 dX7_copy_37 38 rfl (1) (by decide) ?_
  refine w_virtual (a := m) (c := 7) (st := []) mb80 dX7_copy_38 41 rfl 73 1 [sI (1)] _ rfl rfl rfl lc7_164 R.2.1 (Nat.le_of_ble_eq_true rfl) (C h 0 0 R) (Nat.zero_le _) (Nat.zero_le _) (fun r h1 hP => ?_)
  obtain ⟨S1, G1, R1, hP⟩ := hP
  exact K r S1 G1 hP h1 _ _ R1

theorem bX7_copy_41 {d : Nat} {h0 : hp} {m : Nat} {ad : Nat → Nat} {Q : Option sV → rS → rG → Prop} {S : rS} {G : rG} {v1 : sV} {v2 : sV} {v3 : sV} {v4 : sV} {v5 : sV} {v6 : sV} {y0 : Int32} (K : Q (some (sI (y0))) S G) : rWP d h0 m ad 80 Q 41 [sR (some m), v1, v2, v3, v4, v5, v6] [sI (y0)] S G := by
  intro h bc bs R
  refine w_iret mb80 dX7_copy_41 rfl ?_
  exact ⟨_, _, R, K⟩

theorem bX7_copy_42 {d : Nat} {h0 : hp} {m : Nat} {ad : Nat → Nat} {Q : Option sV → rS → rG → Prop} {S : rS} {G : rG} {v1 : sV} {x2 : Int32} {v3 : sV} {v4 : sV} {v5 : sV} {v6 : sV} (K1 : (x2) < 0 → rWP d h0 m ad 80 Q 91 [sR (some m), v1, sI (x2), v3, v4, v5, v6] [] S G) (K2 : ¬ (x2) < 0 → rWP d h0 m ad 80 Q 46 [sR (some m), v1, sI (x2), v3, v4, v5, v6] [] S G) : rWP d h0 m ad 80 Q 42 [sR (some m), v1, sI (x2), v3, v4, v5, v6] [] S G := by
  intro h bc bs R
  refine w_iload_n mb80 dX7_copy_42 43 rfl rfl ?_
  refine w_if_lt mb80 dX7_copy_43 91 46 (by decide) rfl (fun z => ?_) (fun z => ?_)
  · exact K1 z h bc bs R
  · exact K2 z h bc bs R

theorem bX7_copy_46 {d : Nat} {h0 : hp} {m : Nat} {ad : Nat → Nat} {Q : Option sV → rS → rG → Prop} {S : rS} {G : rG} {v1 : sV} {v2 : sV} {v3 : sV} {x4 : Int32} {v5 : sV} {v6 : sV} (K1 : (x4) < 0 → rWP d h0 m ad 80 Q 91 [sR (some m), v1, v2, v3, sI (x4), v5, v6] [] S G) (K2 : ¬ (x4) < 0 → rWP d h0 m ad 80 Q 51 [sR (some m), v1, v2, v3, sI (x4), v5, v6] [] S G) : rWP d h0 m ad 80 Q 46 [sR (some m), v1, v2, v3, sI (x4), v5, v6] [] S G := by
  intro h bc bs R
  refine w_iload mb80 dX7_copy_46 48 rfl rfl ?_
  refine w_if_lt mb80 dX7_copy_48 91 51 (by decide) rfl (fun z => ?_) (fun z => ?_)
  · exact K1 z h bc bs R
  · exact K2 z h bc bs R

theorem bX7_copy_51 {d : Nat} {h0 : hp} {m : Nat} {ad : Nat → Nat} {Q : Option sV → rS → rG → Prop} {S : rS} {G : rG} {v1 : sV} {v2 : sV} {v3 : sV} {v4 : sV} {x5 : Int32} {v6 : sV} (K1 : (x5) < 0 → rWP d h0 m ad 80 Q 91 [sR (some m), v1, v2, v3, v4, sI (x5), v6] [] S G) (K2 : ¬ (x5) < 0 → rWP d h0 m ad 80 Q 56 [sR (some m), v1, v2, v3, v4, sI (x5), v6] [] S G) : rWP d h0 m ad 80 Q 51 [sR (some m), v1, v2, v3, v4, sI (x5), v6] [] S G := by
  intro h bc bs R
  refine w_iload mb80 dX7_copy_51 53 rfl rfl ?_
  refine w_if_lt mb80 dX7_copy_53 91 56 (by decide) rfl (fun z => ?_) (fun z => ?_)
  · exact K1 z h bc bs R
  · exact K2 z h bc bs R

theorem bX7_copy_56 {d : Nat} {h0 : hp} {m : Nat} {ad : Nat → Nat} {Q : Option sV → rS → rG → Prop} {S : rS} {G : rG} {x1 : Int32} {x2 : Int32} {v3 : sV} {v4 : sV} {x5 : Int32} {v6 : sV} (h1 : vp_in (x1) 16) (K1 : 0 < (lg_cmp (((x2).toInt64) + ((x5).toInt64)) (((G 0) (x1).toNatClampNeg).toInt64)) → rWP d h0 m ad 80 Q 91 [sR (some m), sI (x1), sI (x2), v3, v4, sI (x5), v6] [] S G) (K2 : ¬ 0 < (lg_cmp (((x2).toInt64) + ((x5).toInt64)) (((G 0) (x1).toNatClampNeg).toInt64)) → rWP d h0 m ad 80 Q 73 [sR (some m), sI (x1), sI (x2), v3, v4, sI (x5), v6] [] S G) : rWP d h0 m ad 80 Q 56 [sR (some m), sI (x1), sI (x2), v3, v4, sI (x5), v6] [] S G := by
  intro h bc bs R
  refine w_iload_n mb80 dX7_copy_56 57 rfl rfl ?_
  refine w_i2l mb80 dX7_copy_57 58 rfl ?_
  refine w_iload mb80 dX7_copy_58 60 rfl rfl ?_
  refine w_i2l mb80 dX7_copy_60 61 rfl ?_
  refine w_ladd mb80 dX7_copy_61 62 rfl ?_
  refine w_aload_n mb80 dX7_copy_62 63 rfl rfl ?_
  refine x_geta mb80 dX7_copy_63 66 rfl R lf7_7 rfl (by decide) ?_
  refine w_iload_n mb80 dX7_copy_66 67 rfl rfl ?_
  refine x_iald mb80 dX7_copy_67 68 rfl R 16 rfl (by decide) rfl h1 ?_
  refine w_i2l mb80 dX7_copy_68 69 rfl ?_
  refine w_lcmp mb80 dX7_copy_69 70 rfl ?_
  refine w_if_gt mb80 dX7_copy_70 91 73 (by decide) rfl (fun z => ?_) (fun z => ?_)
  · exact K1 z h bc bs R
  · exact K2 z h bc bs R

theorem bX7_copy_73 {d : Nat} {h0 : hp} {m : Nat} {ad : Nat → Nat} {Q : Option sV → rS → rG → Prop} {S : rS} {G : rG} {v1 : sV} {v2 : sV} {x3 : Int32} {x4 : Int32} {x5 : Int32} {v6 : sV} (h1 : vp_in (x3) 16) (K1 : (lg_cmp (((x4).toInt64) + ((x5).toInt64)) (((G 0) (x3).toNatClampNeg).toInt64)) ≤ 0 → rWP d h0 m ad 80 Q 97 [sR (some m), v1, v2, sI (x3), sI (x4), sI (x5), v6] [] S G) (K2 : ¬ (lg_cmp (((x4).toInt64) + ((x5).toInt64)) (((G 0) (x3).toNatClampNeg).toInt64)) ≤ 0 → rWP d h0 m ad 80 Q 91 [sR (some m), v1, v2, sI (x3), sI (x4), sI (x5), v6] [] S G) : rWP d h0 m ad 80 Q 73 [sR (some m), v1, v2, sI (x3), sI (x4), sI (x5), v6] [] S G := by
  intro h bc bs R
  refine w_iload mb80 dX7_copy_73 75 rfl rfl ?_
  refine w_i2l mb80 dX7_copy_75 76 rfl ?_
  refine w_iload mb80 dX7_copy_76 78 rfl rfl ?_
  refine w_i2l mb80 dX7_copy_78 79 rfl ?_
  refine w_ladd mb80 dX7_copy_79 80 rfl ?_
  refine w_aload_n mb80 dX7_copy_80 81 rfl rfl ?_
  refine x_geta mb80 dX7_copy_81 84 rfl R lf7_7 rfl (by decide) ?_
  refine w_iload_n mb80 dX7_copy_84 85 rfl rfl ?_
  refine x_iald mb80 dX7_copy_85 86 rfl R 16 rfl (by decide) rfl h1 ?_
  refine w_i2l mb80 dX7_copy_86 87 rfl ?_
  refine w_lcmp mb80 dX7_copy_87 88 rfl ?_
  refine w_if_le mb80 dX7_copy_88 97 91 (by decide) rfl (fun z => ?_) (fun z => ?_)
  · exact K1 z h bc bs R
  · exact K2 z h bc bs R

theorem bX7_copy_91 {d : Nat} {h0 : hp} {m : Nat} {ad : Nat → Nat} {Q : Option sV → rS → rG → Prop} {S : rS} {G : rG} {v1 : sV} {v2 : sV} {v3 : sV} {v4 : sV} {v5 : sV} {v6 : sV} {P : Option sV → rS → rG → Prop} (C : rM d h0 m ad 73 [sR (some m), sI (4)] S G P) (K : ∀ r S1 G1, P r S1 G1 → rWP d h0 m ad 80 Q 96 [sR (some m), v1, v2, v3, v4, v5, v6] (r.toList ++ []) S1 G1) : rWP d h0 m ad 80 Q 91 [sR (some m), v1, v2, v3, v4, v5, v6] [] S G := by
  intro h bc bs R
  refine w_aload_n mb80 dX7_copy_91 92 rfl rfl ?_
  refine w_iconst mb80 dX7_copy_92 93 rfl (4) (by decide) ?_
  refine w_virtual (a := m) (c := 7) (st := []) mb80 dX7_copy_93 96 rfl 73 1 [sI (4)] _ rfl rfl rfl lc7_164 R.2.1 (Nat.le_of_ble_eq_true rfl) (C h 0 0 R) (Nat.zero_le _) (Nat.zero_le _) (fun r h1 hP => ?_)
  obtain ⟨S1, G1, R1, hP⟩ := hP
  exact K r S1 G1 hP h1 _ _ R1

theorem bX7_copy_96 {d : Nat} {h0 : hp} {m : Nat} {ad : Nat → Nat} {Q : Option sV → rS → rG → Prop} {S : rS} {G : rG} {v1 : sV} {v2 : sV} {v3 : sV} {v4 : sV} {v5 : sV} {v6 : sV} {y0 : Int32} (K : Q (some (sI (y0))) S G) : rWP d h0 m ad 80 Q 96 [sR (some m), v1, v2, v3, v4, v5, v6] [sI (y0)] S G := by
  intro h bc bs R
  refine w_iret mb80 dX7_copy_96 rfl ?_
  exact ⟨_, _, R, K⟩

theorem bX7_copy_97 {d : Nat} {h0 : hp} {m : Nat} {ad : Nat → Nat} {Q : Option sV → rS → rG → Prop} {S : rS} {G : rG} {v1 : sV} {v2 : sV} {v3 : sV} {v4 : sV} {v5 : sV} {v6 : sV} (K : rWP d h0 m ad 80 Q 100 [sR (some m), v1, v2, v3, v4, v5, sI (0)] [] S G) : rWP d h0 m ad 80 Q 97 [sR (some m), v1, v2, v3, v4, v5, v6] [] S G := by
  intro h bc bs R
  refine w_iconst mb80 dX7_copy_97 98 rfl (0) (by decide) ?_
  refine w_istore mb80 dX7_copy_98 100 rfl [sR (some m), v1, v2, v3, v4, v5, sI (0)] (Nat.le_of_ble_eq_true rfl) rfl ?_
  exact K h bc bs R

theorem bX7_copy_100 {d : Nat} {h0 : hp} {m : Nat} {ad : Nat → Nat} {Q : Option sV → rS → rG → Prop} {S : rS} {G : rG} {v1 : sV} {v2 : sV} {v3 : sV} {v4 : sV} {x5 : Int32} {x6 : Int32} (K1 : (x5) ≤ (x6) → rWP d h0 m ad 80 Q 134 [sR (some m), v1, v2, v3, v4, sI (x5), sI (x6)] [] S G) (K2 : ¬ (x5) ≤ (x6) → rWP d h0 m ad 80 Q 107 [sR (some m), v1, v2, v3, v4, sI (x5), sI (x6)] [] S G) : rWP d h0 m ad 80 Q 100 [sR (some m), v1, v2, v3, v4, sI (x5), sI (x6)] [] S G := by
  intro h bc bs R
  refine w_iload mb80 dX7_copy_100 102 rfl rfl ?_
  refine w_iload mb80 dX7_copy_102 104 rfl rfl ?_
  refine w_icmp_ge mb80 dX7_copy_104 134 107 (by decide) rfl (fun z => ?_) (fun z => ?_)
  · exact K1 z h bc bs R
  · exact K2 z h bc bs R

theorem bX7_copy_107 {d : Nat} {h0 : hp} {m : Nat} {ad : Nat → Nat} {Q : Option sV → rS → rG → Prop} {S : rS} {G : rG} {x1 : Int32} {x2 : Int32} {v3 : sV} {v4 : sV} {v5 : sV} {x6 : Int32} (h1 : vp_in ((((16) * (x1)) + (x2)) + (x6)) 256) (h2 : vp_in (x6) 24) (K : rWP d h0 m ad 80 Q 100 [sR (some m), sI (x1), sI (x2), v3, v4, v5, sI (x6 + 1)] [] S (gup G 47 (x6).toNatClampNeg ((G 1) ((((16) * (x1)) + (x2)) + (x6)).toNatClampNeg))) : rWP d h0 m ad 80 Q 107 [sR (some m), sI (x1), sI (x2), v3, v4, v5, sI (x6)] [] S G := by
  intro h bc bs R
  refine w_aload_n mb80 dX7_copy_107 108 rfl rfl ?_
  refine x_geta mb80 dX7_copy_108 111 rfl R lf7_135 rfl (by decide) ?_
  refine w_iload mb80 dX7_copy_111 113 rfl rfl ?_
  refine w_aload_n mb80 dX7_copy_113 114 rfl rfl ?_
  refine x_geta mb80 dX7_copy_114 117 rfl R lf7_13 rfl (by decide) ?_
  refine w_bipush mb80 dX7_copy_117 119 rfl (16) (by decide) ?_
  refine w_iload_n mb80 dX7_copy_119 120 rfl rfl ?_
  refine w_imul mb80 dX7_copy_120 121 rfl ?_
  refine w_iload_n mb80 dX7_copy_121 122 rfl rfl ?_
  refine w_iadd mb80 dX7_copy_122 123 rfl ?_
  refine w_iload mb80 dX7_copy_123 125 rfl rfl ?_
  refine w_iadd mb80 dX7_copy_125 126 rfl ?_
  refine x_iald mb80 dX7_copy_126 127 rfl R 256 rfl (by decide) rfl h1 ?_
  refine x_iast mb80 dX7_copy_127 128 rfl R 24 rfl (by decide) rfl h2 (fun h R => ?_)
  refine w_iinc mb80 dX7_copy_128 131 rfl rfl (x6 + 1) rfl [sR (some m), sI (x1), sI (x2), v3, v4, v5, sI (x6 + 1)] rfl ?_
  refine w_goto mb80 dX7_copy_131 100 (by decide) ?_
  exact K h bc bs R

theorem bX7_copy_134 {d : Nat} {h0 : hp} {m : Nat} {ad : Nat → Nat} {Q : Option sV → rS → rG → Prop} {S : rS} {G : rG} {v1 : sV} {v2 : sV} {v3 : sV} {v4 : sV} {v5 : sV} {v6 : sV} (K : rWP d h0 m ad 80 Q 137 [sR (some m), v1, v2, v3, v4, v5, sI (0)] [] S G) : rWP d h0 m ad 80 Q 134 [sR (some m), v1, v2, v3, v4, v5, v6] [] S G := by
  intro h bc bs R
  refine w_iconst mb80 dX7_copy_134 135 rfl (0) (by decide) ?_
  refine w_istore mb80 dX7_copy_135 137 rfl [sR (some m), v1, v2, v3, v4, v5, sI (0)] (Nat.le_of_ble_eq_true rfl) rfl ?_
  exact K h bc bs R

theorem bX7_copy_137 {d : Nat} {h0 : hp} {m : Nat} {ad : Nat → Nat} {Q : Option sV → rS → rG → Prop} {S : rS} {G : rG} {v1 : sV} {v2 : sV} {v3 : sV} {v4 : sV} {x5 : Int32} {x6 : Int32} (K1 : (x5) ≤ (x6) → rWP d h0 m ad 80 Q 172 [sR (some m), v1, v2, v3, v4, sI (x5), sI (x6)] [] S G) (K2 : ¬ (x5) ≤ (x6) → rWP d h0 m ad 80 Q 144 [sR (some m), v1, v2, v3, v4, sI (x5), sI (x6)] [] S G) : rWP d h0 m ad 80 Q 137 [sR (some m), v1, v2, v3, v4, sI (x5), sI (x6)] [] S G := by
  intro h bc bs R
  refine w_iload mb80 dX7_copy_137 139 rfl rfl ?_
  refine w_iload mb80 dX7_copy_139 141 rfl rfl ?_
  refine w_icmp_ge mb80 dX7_copy_141 172 144 (by decide) rfl (fun z => ?_) (fun z => ?_)
  · exact K1 z h bc bs R
  · exact K2 z h bc bs R

theorem bX7_copy_144 {d : Nat} {h0 : hp} {m : Nat} {ad : Nat → Nat} {Q : Option sV → rS → rG → Prop} {S : rS} {G : rG} {v1 : sV} {v2 : sV} {x3 : Int32} {x4 : Int32} {v5 : sV} {x6 : Int32} (h1 : vp_in (x6) 24) (h2 : vp_in ((((16) * (x3)) + (x4)) + (x6)) 256) (K : rWP d h0 m ad 80 Q 137 [sR (some m), v1, v2, sI (x3), sI (x4), v5, sI (x6 + 1)] [] S (gup G 1 ((((16) * (x3)) + (x4)) + (x6)).toNatClampNeg ((G 47) (x6).toNatClampNeg))) : rWP d h0 m ad 80 Q 144 [sR (some m), v1, v2, sI (x3), sI (x4), v5, sI (x6)] [] S G := by
  intro h bc bs R
  refine w_aload_n mb80 dX7_copy_144 145 rfl rfl ?_
  refine x_geta mb80 dX7_copy_145 148 rfl R lf7_13 rfl (by decide) ?_
  refine w_bipush mb80 dX7_copy_148 150 rfl (16) (by decide) ?_
  refine w_iload_n mb80 dX7_copy_150 151 rfl rfl ?_
  refine w_imul mb80 dX7_copy_151 152 rfl ?_
  refine w_iload mb80 dX7_copy_152 154 rfl rfl ?_
  refine w_iadd mb80 dX7_copy_154 155 rfl ?_
  refine w_iload mb80 dX7_copy_155 157 rfl rfl ?_
  refine w_iadd mb80 dX7_copy_157 158 rfl ?_
  refine w_aload_n mb80 dX7_copy_158 159 rfl rfl ?_
  refine x_geta mb80 dX7_copy_159 162 rfl R lf7_135 rfl (by decide) ?_
  refine w_iload mb80 dX7_copy_162 164 rfl rfl ?_
  refine x_iald mb80 dX7_copy_164 165 rfl R 24 rfl (by decide) rfl h1 ?_
  refine x_iast mb80 dX7_copy_165 166 rfl R 256 rfl (by decide) rfl h2 (fun h R => ?_)
  refine w_iinc mb80 dX7_copy_166 169 rfl rfl (x6 + 1) rfl [sR (some m), v1, v2, sI (x3), sI (x4), v5, sI (x6 + 1)] rfl ?_
  refine w_goto mb80 dX7_copy_169 137 (by decide) ?_
  exact K h bc bs R

theorem bX7_copy_172 {d : Nat} {h0 : hp} {m : Nat} {ad : Nat → Nat} {Q : Option sV → rS → rG → Prop} {S : rS} {G : rG} {v1 : sV} {v2 : sV} {v3 : sV} {v4 : sV} {x5 : Int32} {v6 : sV} (K : Q (some (sI (x5))) S G) : rWP d h0 m ad 80 Q 172 [sR (some m), v1, v2, v3, v4, sI (x5), v6] [] S G := by
  intro h bc bs R
  refine w_iload mb80 dX7_copy_172 174 rfl rfl ?_
  refine w_iret mb80 dX7_copy_174 rfl ?_
  exact ⟨_, _, R, K⟩

theorem bX7_size_0 {d : Nat} {h0 : hp} {m : Nat} {ad : Nat → Nat} {Q : Option sV → rS → rG → Prop} {S : rS} {G : rG} {x1 : Int32} {P : Option sV → rS → rG → Prop} (C : rM d h0 m ad 74 [sI (x1)] S G P) (K : ∀ r S1 G1, P r S1 G1 → rWP d h0 m ad 81 Q 4 [sR (some m), sI (x1)] (r.toList ++ []) S1 G1) : rWP d h0 m ad 81 Q 0 [sR (some m), sI (x1)] [] S G := by
  intro h bc bs R
  refine w_iload_n mb81 dX7_size_0 1 rfl rfl ?_
  refine w_static (st := []) mb81 dX7_size_1 4 rfl 74 1 [sI (x1)] _ rfl rfl rfl lc7_160 (Nat.le_of_ble_eq_true rfl) (C h 0 0 R) (Nat.zero_le _) (Nat.zero_le _) (fun r h1 hP => ?_)
  obtain ⟨S1, G1, R1, hP⟩ := hP
  exact K r S1 G1 hP h1 _ _ R1

theorem bX7_size_4 {d : Nat} {h0 : hp} {m : Nat} {ad : Nat → Nat} {Q : Option sV → rS → rG → Prop} {S : rS} {G : rG} {v1 : sV} {y0 : Int32} (K1 : ¬ (y0) = 0 → rWP d h0 m ad 81 Q 13 [sR (some m), v1] [] S G) (K2 : (y0) = 0 → rWP d h0 m ad 81 Q 7 [sR (some m), v1] [] S G) : rWP d h0 m ad 81 Q 4 [sR (some m), v1] [sI (y0)] S G := by
  intro h bc bs R
  refine w_if_ne mb81 dX7_size_4 13 7 (by decide) rfl (fun z => ?_) (fun z => ?_)
  · exact K1 z h bc bs R
  · exact K2 z h bc bs R

theorem bX7_size_7 {d : Nat} {h0 : hp} {m : Nat} {ad : Nat → Nat} {Q : Option sV → rS → rG → Prop} {S : rS} {G : rG} {v1 : sV} {P : Option sV → rS → rG → Prop} (C : rM d h0 m ad 73 [sR (some m), sI (2)] S G P) (K : ∀ r S1 G1, P r S1 G1 → rWP d h0 m ad 81 Q 12 [sR (some m), v1] (r.toList ++ []) S1 G1) : rWP d h0 m ad 81 Q 7 [sR (some m), v1] [] S G := by
  intro h bc bs R
  refine w_aload_n mb81 dX7_size_7 8 rfl rfl ?_
  refine w_iconst mb81 dX7_size_8 9 rfl (2) (by decide) ?_
  refine w_virtual (a := m) (c := 7) (st := []) mb81 dX7_size_9 12 rfl 73 1 [sI (2)] _ rfl rfl rfl lc7_164 R.2.1 (Nat.le_of_ble_eq_true rfl) (C h 0 0 R) (Nat.zero_le _) (Nat.zero_le _) (fun r h1 hP => ?_)
  obtain ⟨S1, G1, R1, hP⟩ := hP
  exact K r S1 G1 hP h1 _ _ R1

theorem bX7_size_12 {d : Nat} {h0 : hp} {m : Nat} {ad : Nat → Nat} {Q : Option sV → rS → rG → Prop} {S : rS} {G : rG} {v1 : sV} {y0 : Int32} (K : Q (some (sI (y0))) S G) : rWP d h0 m ad 81 Q 12 [sR (some m), v1] [sI (y0)] S G := by
  intro h bc bs R
  refine w_iret mb81 dX7_size_12 rfl ?_
  exact ⟨_, _, R, K⟩

theorem bX7_size_13 {d : Nat} {h0 : hp} {m : Nat} {ad : Nat → Nat} {Q : Option sV → rS → rG → Prop} {S : rS} {G : rG} {x1 : Int32} (h1 : vp_in (x1) 16) (K1 : ¬ ((G 0) (x1).toNatClampNeg) = ((-1)) → rWP d h0 m ad 81 Q 31 [sR (some m), sI (x1)] [] S G) (K2 : ((G 0) (x1).toNatClampNeg) = ((-1)) → rWP d h0 m ad 81 Q 23 [sR (some m), sI (x1)] [] S G) : rWP d h0 m ad 81 Q 13 [sR (some m), sI (x1)] [] S G := by
  intro h bc bs R
  refine w_aload_n mb81 dX7_size_13 14 rfl rfl ?_
  refine x_geta mb81 dX7_size_14 17 rfl R lf7_7 rfl (by decide) ?_
  refine w_iload_n mb81 dX7_size_17 18 rfl rfl ?_
  refine x_iald mb81 dX7_size_18 19 rfl R 16 rfl (by decide) rfl h1 ?_
  refine w_iconst mb81 dX7_size_19 20 rfl ((-1)) (by decide) ?_
  refine w_icmp_ne mb81 dX7_size_20 31 23 (by decide) rfl (fun z => ?_) (fun z => ?_)
  · exact K1 z h bc bs R
  · exact K2 z h bc bs R

theorem bX7_size_23 {d : Nat} {h0 : hp} {m : Nat} {ad : Nat → Nat} {Q : Option sV → rS → rG → Prop} {S : rS} {G : rG} {v1 : sV} {P : Option sV → rS → rG → Prop} (C : rM d h0 m ad 73 [sR (some m), sI (1)] S G P) (K : ∀ r S1 G1, P r S1 G1 → rWP d h0 m ad 81 Q 28 [sR (some m), v1] (r.toList ++ []) S1 G1) : rWP d h0 m ad 81 Q 23 [sR (some m), v1] [] S G := by
  intro h bc bs R
  refine w_aload_n mb81 dX7_size_23 24 rfl rfl ?_
  refine w_iconst mb81 dX7_size_24 25 rfl (1) (by decide) ?_
  refine w_virtual (a := m) (c := 7) (st := []) mb81 dX7_size_25 28 rfl 73 1 [sI (1)] _ rfl rfl rfl lc7_164 R.2.1 (Nat.le_of_ble_eq_true rfl) (C h 0 0 R) (Nat.zero_le _) (Nat.zero_le _) (fun r h1 hP => ?_)
  obtain ⟨S1, G1, R1, hP⟩ := hP
  exact K r S1 G1 hP h1 _ _ R1

theorem bX7_size_28 {d : Nat} {h0 : hp} {m : Nat} {ad : Nat → Nat} {Q : Option sV → rS → rG → Prop} {S : rS} {G : rG} {v1 : sV} {y0 : Int32} (K : rWP d h0 m ad 81 Q 37 [sR (some m), v1] [sI (y0)] S G) : rWP d h0 m ad 81 Q 28 [sR (some m), v1] [sI (y0)] S G := by
  intro h bc bs R
  refine w_goto mb81 dX7_size_28 37 (by decide) ?_
  exact K h bc bs R

theorem bX7_size_31 {d : Nat} {h0 : hp} {m : Nat} {ad : Nat → Nat} {Q : Option sV → rS → rG → Prop} {S : rS} {G : rG} {x1 : Int32} (h1 : vp_in (x1) 16) (K : rWP d h0 m ad 81 Q 37 [sR (some m), sI (x1)] [sI ((G 0) (x1).toNatClampNeg)] S G) : rWP d h0 m ad 81 Q 31 [sR (some m), sI (x1)] [] S G := by
  intro h bc bs R
  refine w_aload_n mb81 dX7_size_31 32 rfl rfl ?_
  refine x_geta mb81 dX7_size_32 35 rfl R lf7_7 rfl (by decide) ?_
  refine w_iload_n mb81 dX7_size_35 36 rfl rfl ?_
  refine x_iald mb81 dX7_size_36 37 rfl R 16 rfl (by decide) rfl h1 ?_
  exact K h bc bs R

theorem bX7_size_37 {d : Nat} {h0 : hp} {m : Nat} {ad : Nat → Nat} {Q : Option sV → rS → rG → Prop} {S : rS} {G : rG} {v1 : sV} {y0 : Int32} (K : Q (some (sI (y0))) S G) : rWP d h0 m ad 81 Q 37 [sR (some m), v1] [sI (y0)] S G := by
  intro h bc bs R
  refine w_iret mb81 dX7_size_37 rfl ?_
  exact ⟨_, _, R, K⟩

theorem bX7_told_0 {d : Nat} {h0 : hp} {m : Nat} {ad : Nat → Nat} {Q : Option sV → rS → rG → Prop} {S : rS} {G : rG} {x1 : Int32} {v2 : sV} {P : Option sV → rS → rG → Prop} (C : rM d h0 m ad 74 [sI (x1)] S G P) (K : ∀ r S1 G1, P r S1 G1 → rWP d h0 m ad 82 Q 4 [sR (some m), sI (x1), v2] (r.toList ++ []) S1 G1) : rWP d h0 m ad 82 Q 0 [sR (some m), sI (x1), v2] [] S G := by
  intro h bc bs R
  refine w_iload_n mb82 dX7_told_0 1 rfl rfl ?_
  refine w_static (st := []) mb82 dX7_told_1 4 rfl 74 1 [sI (x1)] _ rfl rfl rfl lc7_160 (Nat.le_of_ble_eq_true rfl) (C h 0 0 R) (Nat.zero_le _) (Nat.zero_le _) (fun r h1 hP => ?_)
  obtain ⟨S1, G1, R1, hP⟩ := hP
  exact K r S1 G1 hP h1 _ _ R1

theorem bX7_told_4 {d : Nat} {h0 : hp} {m : Nat} {ad : Nat → Nat} {Q : Option sV → rS → rG → Prop} {S : rS} {G : rG} {v1 : sV} {v2 : sV} {y0 : Int32} (K1 : (y0) = 0 → rWP d h0 m ad 82 Q 35 [sR (some m), v1, v2] [] S G) (K2 : ¬ (y0) = 0 → rWP d h0 m ad 82 Q 7 [sR (some m), v1, v2] [] S G) : rWP d h0 m ad 82 Q 4 [sR (some m), v1, v2] [sI (y0)] S G := by
  intro h bc bs R
  refine w_if_eq mb82 dX7_told_4 35 7 (by decide) rfl (fun z => ?_) (fun z => ?_)
  · exact K1 z h bc bs R
  · exact K2 z h bc bs R

theorem bX7_told_7 {d : Nat} {h0 : hp} {m : Nat} {ad : Nat → Nat} {Q : Option sV → rS → rG → Prop} {S : rS} {G : rG} {v1 : sV} {x2 : Int32} (K1 : (x2) < 0 → rWP d h0 m ad 82 Q 35 [sR (some m), v1, sI (x2)] [] S G) (K2 : ¬ (x2) < 0 → rWP d h0 m ad 82 Q 11 [sR (some m), v1, sI (x2)] [] S G) : rWP d h0 m ad 82 Q 7 [sR (some m), v1, sI (x2)] [] S G := by
  intro h bc bs R
  refine w_iload_n mb82 dX7_told_7 8 rfl rfl ?_
  refine w_if_lt mb82 dX7_told_8 35 11 (by decide) rfl (fun z => ?_) (fun z => ?_)
  · exact K1 z h bc bs R
  · exact K2 z h bc bs R

theorem bX7_told_11 {d : Nat} {h0 : hp} {m : Nat} {ad : Nat → Nat} {Q : Option sV → rS → rG → Prop} {S : rS} {G : rG} {x1 : Int32} {x2 : Int32} (h1 : vp_in (x1) 16) (K1 : ((G 0) (x1).toNatClampNeg) ≤ (x2) → rWP d h0 m ad 82 Q 35 [sR (some m), sI (x1), sI (x2)] [] S G) (K2 : ¬ ((G 0) (x1).toNatClampNeg) ≤ (x2) → rWP d h0 m ad 82 Q 21 [sR (some m), sI (x1), sI (x2)] [] S G) : rWP d h0 m ad 82 Q 11 [sR (some m), sI (x1), sI (x2)] [] S G := by
  intro h bc bs R
  refine w_iload_n mb82 dX7_told_11 12 rfl rfl ?_
  refine w_aload_n mb82 dX7_told_12 13 rfl rfl ?_
  refine x_geta mb82 dX7_told_13 16 rfl R lf7_7 rfl (by decide) ?_
  refine w_iload_n mb82 dX7_told_16 17 rfl rfl ?_
  refine x_iald mb82 dX7_told_17 18 rfl R 16 rfl (by decide) rfl h1 ?_
  refine w_icmp_ge mb82 dX7_told_18 35 21 (by decide) rfl (fun z => ?_) (fun z => ?_)
  · exact K1 z h bc bs R
  · exact K2 z h bc bs R

theorem bX7_told_21 {d : Nat} {h0 : hp} {m : Nat} {ad : Nat → Nat} {Q : Option sV → rS → rG → Prop} {S : rS} {G : rG} {x1 : Int32} {x2 : Int32} (h1 : vp_in (((16) * (x1)) + (x2)) 256) (K : rWP d h0 m ad 82 Q 36 [sR (some m), sI (x1), sI (x2)] [sI ((G 1) (((16) * (x1)) + (x2)).toNatClampNeg)] S G) : rWP d h0 m ad 82 Q 21 [sR (some m), sI (x1), sI (x2)] [] S G := by
  intro h bc bs R
  refine w_aload_n mb82 dX7_told_21 22 rfl rfl ?_
  refine x_geta mb82 dX7_told_22 25 rfl R lf7_13 rfl (by decide) ?_
  refine w_bipush mb82 dX7_told_25 27 rfl (16) (by decide) ?_
  refine w_iload_n mb82 dX7_told_27 28 rfl rfl ?_
  refine w_imul mb82 dX7_told_28 29 rfl ?_
  refine w_iload_n mb82 dX7_told_29 30 rfl rfl ?_
  refine w_iadd mb82 dX7_told_30 31 rfl ?_
  refine x_iald mb82 dX7_told_31 32 rfl R 256 rfl (by decide) rfl h1 ?_
  refine w_goto mb82 dX7_told_32 36 (by decide) ?_
  exact K h bc bs R

theorem bX7_told_35 {d : Nat} {h0 : hp} {m : Nat} {ad : Nat → Nat} {Q : Option sV → rS → rG → Prop} {S : rS} {G : rG} {v1 : sV} {v2 : sV} (K : rWP d h0 m ad 82 Q 36 [sR (some m), v1, v2] [sI (0)] S G) : rWP d h0 m ad 82 Q 35 [sR (some m), v1, v2] [] S G := by
  intro h bc bs R
  refine w_iconst mb82 dX7_told_35 36 rfl (0) (by decide) ?_
  exact K h bc bs R

theorem bX7_told_36 {d : Nat} {h0 : hp} {m : Nat} {ad : Nat → Nat} {Q : Option sV → rS → rG → Prop} {S : rS} {G : rG} {v1 : sV} {v2 : sV} {y0 : Int32} (K : Q (some (sI (y0))) S G) : rWP d h0 m ad 82 Q 36 [sR (some m), v1, v2] [sI (y0)] S G := by
  intro h bc bs R
  refine w_iret mb82 dX7_told_36 rfl ?_
  exact ⟨_, _, R, K⟩

theorem bX7_rule_0 {d : Nat} {h0 : hp} {m : Nat} {ad : Nat → Nat} {Q : Option sV → rS → rG → Prop} {S : rS} {G : rG} {x1 : Int32} {v2 : sV} (K1 : (x1) < (1) → rWP d h0 m ad 83 Q 11 [sR (some m), sI (x1), v2] [] S G) (K2 : ¬ (x1) < (1) → rWP d h0 m ad 83 Q 5 [sR (some m), sI (x1), v2] [] S G) : rWP d h0 m ad 83 Q 0 [sR (some m), sI (x1), v2] [] S G := by
  intro h bc bs R
  refine w_iload_n mb83 dX7_rule_0 1 rfl rfl ?_
  refine w_iconst mb83 dX7_rule_1 2 rfl (1) (by decide) ?_
  refine w_icmp_lt mb83 dX7_rule_2 11 5 (by decide) rfl (fun z => ?_) (fun z => ?_)
  · exact K1 z h bc bs R
  · exact K2 z h bc bs R

theorem bX7_rule_5 {d : Nat} {h0 : hp} {m : Nat} {ad : Nat → Nat} {Q : Option sV → rS → rG → Prop} {S : rS} {G : rG} {x1 : Int32} {v2 : sV} (K1 : (x1) ≤ (6) → rWP d h0 m ad 83 Q 13 [sR (some m), sI (x1), v2] [] S G) (K2 : ¬ (x1) ≤ (6) → rWP d h0 m ad 83 Q 11 [sR (some m), sI (x1), v2] [] S G) : rWP d h0 m ad 83 Q 5 [sR (some m), sI (x1), v2] [] S G := by
  intro h bc bs R
  refine w_iload_n mb83 dX7_rule_5 6 rfl rfl ?_
  refine w_bipush mb83 dX7_rule_6 8 rfl (6) (by decide) ?_
  refine w_icmp_le mb83 dX7_rule_8 13 11 (by decide) rfl (fun z => ?_) (fun z => ?_)
  · exact K1 z h bc bs R
  · exact K2 z h bc bs R

theorem bX7_rule_11 {d : Nat} {h0 : hp} {m : Nat} {ad : Nat → Nat} {Q : Option sV → rS → rG → Prop} {S : rS} {G : rG} {v1 : sV} {v2 : sV} (K : Q (some (sI ((-1)))) S G) : rWP d h0 m ad 83 Q 11 [sR (some m), v1, v2] [] S G := by
  intro h bc bs R
  refine w_iconst mb83 dX7_rule_11 12 rfl ((-1)) (by decide) ?_
  refine w_iret mb83 dX7_rule_12 rfl ?_
  exact ⟨_, _, R, K⟩

theorem bX7_rule_13 {d : Nat} {h0 : hp} {m : Nat} {ad : Nat → Nat} {Q : Option sV → rS → rG → Prop} {S : rS} {G : rG} {v1 : sV} {v2 : sV} (K1 : ¬ (S 6) = (24) → rWP d h0 m ad 83 Q 25 [sR (some m), v1, v2] [] S G) (K2 : (S 6) = (24) → rWP d h0 m ad 83 Q 22 [sR (some m), v1, v2] [] S G) : rWP d h0 m ad 83 Q 13 [sR (some m), v1, v2] [] S G := by
  intro h bc bs R
  refine w_aload_n mb83 dX7_rule_13 14 rfl rfl ?_
  refine x_geti mb83 dX7_rule_14 17 rfl R lf7_157 rfl ?_
  refine w_bipush mb83 dX7_rule_17 19 rfl (24) (by decide) ?_
  refine w_icmp_ne mb83 dX7_rule_19 25 22 (by decide) rfl (fun z => ?_) (fun z => ?_)
  · exact K1 z h bc bs R
  · exact K2 z h bc bs R
