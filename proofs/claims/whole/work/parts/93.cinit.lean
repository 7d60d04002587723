theorem bX3_init_27 {d : Nat} {Fg : Nat → Prop} {h0 : hp} {Q : Option sV → kV → Prop} {V : kV} {bc bs : Nat} {a0 : Nat} {x1 : Int32} {x2 : Int32} {x3 : Int32} (h1 : kC V (a0) = 4) (h2 : (x3) = 0 ∨ (x3) = 1) {bc1 bs1 : Nat} {P : Option sV → kV → Prop} (C : cM d Fg h0 71 [sI (2), sI (x1)] (uI (uI (uI V (300) (a0) (x1)) (301) (a0) (x2)) (302) (a0) (x3)) bc1 bs1 P) (hbc : bc1 ≤ bc) (hbs : bs1 ≤ bs) (K : ∀ r V1, P r V1 → cWP d Fg h0 23 Q 48 [sR (some a0), sI (x1), sI (x2), sI (x3)] (r.toList ++ [sR (some a0)]) V1 (bc - bc1) (bs - bs1)) : cWP d Fg h0 23 Q 27 [sR (some a0), sI (x1), sI (x2), sI (x3)] [] V bc bs := by
  intro h R
  refine w_aload_n mb23 dX3_init_27 28 rfl rfl ?_
  refine w_iload_n mb23 dX3_init_28 29 rfl rfl ?_
  refine y_puti mb23 dX3_init_29 32 rfl R 300 (lp3_24) rfl rfl rfl h1 (fun h R => ?_)
  refine w_aload_n mb23 dX3_init_32 33 rfl rfl ?_
  refine w_iload_n mb23 dX3_init_33 34 rfl rfl ?_
  refine y_puti mb23 dX3_init_34 37 rfl R 301 (lp3_28 _) rfl rfl rfl h1 (fun h R => ?_)
  refine w_aload_n mb23 dX3_init_37 38 rfl rfl ?_
  refine w_iload_n mb23 dX3_init_38 39 rfl rfl ?_
  refine y_putz mb23 dX3_init_39 42 rfl R 302 (lp3_31 _) rfl rfl rfl h1 h2 (fun h R => ?_)
  refine w_aload_n mb23 dX3_init_42 43 rfl rfl ?_
  refine w_iconst mb23 dX3_init_43 44 rfl (2) (by decide) ?_
  refine w_iload_n mb23 dX3_init_44 45 rfl rfl ?_
  refine w_static (st := [sR (some a0)]) mb23 dX3_init_45 48 rfl 71 2 [sI (2), sI (x1)] _ rfl rfl rfl lc3_35 (Nat.le_of_ble_eq_true rfl) (C h R) hbc hbs (fun r h1 hP => ?_)
  obtain ⟨V1, R1, hP⟩ := hP
  exact K r V1 hP h1 R1

theorem bX3_init_48 {d : Nat} {Fg : Nat → Prop} {h0 : hp} {Q : Option sV → kV → Prop} {V : kV} {bc bs : Nat} {r0 : Option Nat} {x1 : Int32} {v2 : sV} {v3 : sV} {z0 : Nat} {z1 : Option Nat} (h1 : kC V (z0) = 4) {bc1 bs1 : Nat} {P : Option sV → kV → Prop} (C : cM d Fg h0 71 [sI (3), sI (x1)] (uR V (312) (z0) (z1)) bc1 bs1 P) (hbc : bc1 ≤ bc) (hbs : bs1 ≤ bs) (K : ∀ r V1, P r V1 → cWP d Fg h0 23 Q 57 [sR (r0), sI (x1), v2, v3] (r.toList ++ [sR (r0)]) V1 (bc - bc1) (bs - bs1)) : cWP d Fg h0 23 Q 48 [sR (r0), sI (x1), v2, v3] [sR (z1), sR (some z0)] V bc bs := by
  intro h R
  refine y_putr mb23 dX3_init_48 51 rfl R 312 (lp3_39) (by first | exact Or.inl ⟨_, rfl⟩ | exact Or.inr ⟨_, rfl⟩) rfl rfl rfl h1 (fun h R => ?_)
  refine w_aload_n mb23 dX3_init_51 52 rfl rfl ?_
  refine w_iconst mb23 dX3_init_52 53 rfl (3) (by decide) ?_
  refine w_iload_n mb23 dX3_init_53 54 rfl rfl ?_
  refine w_static (st := [sR (r0)]) mb23 dX3_init_54 57 rfl 71 2 [sI (3), sI (x1)] _ rfl rfl rfl lc3_35 (Nat.le_of_ble_eq_true rfl) (C h R) hbc hbs (fun r h1 hP => ?_)
  obtain ⟨V1, R1, hP⟩ := hP
  exact K r V1 hP h1 R1

theorem bX3_init_57 {d : Nat} {Fg : Nat → Prop} {h0 : hp} {Q : Option sV → kV → Prop} {V : kV} {bc bs : Nat} {a0 : Nat} {v1 : sV} {v2 : sV} {v3 : sV} {z0 : Nat} {z1 : Option Nat} (h1 : kC V (z0) = 4) (h2 : kC V (a0) = 4) {bc1 bs1 : Nat} {P : Option sV → kV → Prop} (C : cM d Fg h0 126 [sR (some (kr V 307 (a0))), sI ((-1))] (uR V (313) (z0) (z1)) bc1 bs1 P) (hbc : bc1 ≤ bc) (hbs : bs1 ≤ bs) (K : ∀ r V1, P r V1 → cWP d Fg h0 23 Q 68 [sR (some a0), v1, v2, v3] (r.toList ++ []) V1 (bc - bc1) (bs - bs1)) : cWP d Fg h0 23 Q 57 [sR (some a0), v1, v2, v3] [sR (z1), sR (some z0)] V bc bs := by
  intro h R
  refine y_putr mb23 dX3_init_57 60 rfl R 313 (lp3_43) (by first | exact Or.inl ⟨_, rfl⟩ | exact Or.inr ⟨_, rfl⟩) rfl rfl rfl h1 (fun h R => ?_)
  refine w_aload_n mb23 dX3_init_60 61 rfl rfl ?_
  refine y_geta mb23 dX3_init_61 64 rfl R 307 lf3_21 rfl rfl rfl (by decide) h2 ?_
  refine w_iconst mb23 dX3_init_64 65 rfl ((-1)) (by decide) ?_
  refine w_static (st := []) mb23 dX3_init_65 68 rfl 126 2 [sR (some (kr V 307 (a0))), sI ((-1))] _ rfl rfl rfl lc3_46 (Nat.le_of_ble_eq_true rfl) (C h R) hbc hbs (fun r h1 hP => ?_)
  obtain ⟨V1, R1, hP⟩ := hP
  exact K r V1 hP h1 R1

theorem bX3_init_68 {d : Nat} {Fg : Nat → Prop} {h0 : hp} {Q : Option sV → kV → Prop} {V : kV} {bc bs : Nat} {v0 : sV} {v1 : sV} {v2 : sV} {v3 : sV} (K : Q (none) V) : cWP d Fg h0 23 Q 68 [v0, v1, v2, v3] [] V bc bs := by
  intro h R
  refine w_vret mb23 dX3_init_68 rfl ?_
  exact ⟨_, R, K⟩

theorem bX4_init_31 {d : Nat} {Fg : Nat → Prop} {h0 : hp} {Q : Option sV → kV → Prop} {V : kV} {bc bs : Nat} {v0 : sV} {v1 : sV} (K : cWP d Fg h0 31 Q 33 [v0, sI (0)] [] V bc bs) : cWP d Fg h0 31 Q 31 [v0, v1] [] V bc bs := by
  intro h R
  refine w_iconst mb31 dX4_init_31 32 rfl (0) (by decide) ?_
  refine w_istore_n mb31 dX4_init_32 33 rfl [v0, sI (0)] (Nat.le_of_ble_eq_true rfl) rfl ?_
  exact K h R

theorem bX4_init_33 {d : Nat} {Fg : Nat → Prop} {h0 : hp} {Q : Option sV → kV → Prop} {V : kV} {bc bs : Nat} {v0 : sV} {x1 : Int32} (K1 : (16) ≤ (x1) → cWP d Fg h0 31 Q 56 [v0, sI (x1)] [] V bc bs) (K2 : ¬ (16) ≤ (x1) → cWP d Fg h0 31 Q 39 [v0, sI (x1)] [] V bc bs) : cWP d Fg h0 31 Q 33 [v0, sI (x1)] [] V bc bs := by
  intro h R
  refine w_iload_n mb31 dX4_init_33 34 rfl rfl ?_
  refine w_bipush mb31 dX4_init_34 36 rfl (16) (by decide) ?_
  refine w_icmp_ge mb31 dX4_init_36 56 39 (by decide) rfl (fun z => ?_) (fun z => ?_)
  · exact K1 z h R
  · exact K2 z h R

theorem bX4_init_39 {d : Nat} {Fg : Nat → Prop} {h0 : hp} {Q : Option sV → kV → Prop} {V : kV} {bc bs : Nat} {a0 : Nat} {x1 : Int32} (h1 : kC V (a0) = 5) {bc1 bs1 : Nat} {P : Option sV → kV → Prop} (C : cM d Fg h0 71 [sI (1), sI (x1)] V bc1 bs1 P) (hbc : bc1 ≤ bc) (hbs : bs1 ≤ bs) (K : ∀ r V1, P r V1 → cWP d Fg h0 31 Q 49 [sR (some a0), sI (x1)] (r.toList ++ [sI (x1), sR (some (kr V 400 (a0)))]) V1 (bc - bc1) (bs - bs1)) : cWP d Fg h0 31 Q 39 [sR (some a0), sI (x1)] [] V bc bs := by
  intro h R
  refine w_aload_n mb31 dX4_init_39 40 rfl rfl ?_
  refine y_geta mb31 dX4_init_40 43 rfl R 400 lf4_11 rfl rfl rfl (by decide) h1 ?_
  refine w_iload_n mb31 dX4_init_43 44 rfl rfl ?_
  refine w_iconst mb31 dX4_init_44 45 rfl (1) (by decide) ?_
  refine w_iload_n mb31 dX4_init_45 46 rfl rfl ?_
  refine w_static (st := [sI (x1), sR (some (kr V 400 (a0)))]) mb31 dX4_init_46 49 rfl 71 2 [sI (1), sI (x1)] _ rfl rfl rfl lc4_26 (Nat.le_of_ble_eq_true rfl) (C h R) hbc hbs (fun r h1 hP => ?_)
  obtain ⟨V1, R1, hP⟩ := hP
  exact K r V1 hP h1 R1

theorem bX4_init_49 {d : Nat} {Fg : Nat → Prop} {h0 : hp} {Q : Option sV → kV → Prop} {V : kV} {bc bs : Nat} {v0 : sV} {x1 : Int32} {sh : Nat} {y1 : Int32} {z2 : Option Nat} (h1 : vp_in (y1) 16) (h2 : ∀ b, (z2) = some b → ∃ o, kO V b = some o) (h3 : kC V (sh) = 5) (K : cWP d Fg h0 31 Q 33 [v0, sI (x1 + 1)] [] (uB V (400) (sh) ((y1).toNatClampNeg) (z2)) bc bs) : cWP d Fg h0 31 Q 49 [v0, sI (x1)] [sR (z2), sI (y1), sR (some (kr V 400 sh))] V bc bs := by
  intro h R
  refine y_aastO (f := 400) (a := sh) (c := 5) mb31 dX4_init_49 50 rfl R 16 rfl (by decide) rfl rfl h3 h1 h2 (fun h R => ?_)
  refine w_iinc mb31 dX4_init_50 53 rfl rfl (x1 + 1) rfl [v0, sI (x1 + 1)] rfl ?_
  refine w_goto mb31 dX4_init_53 33 (by decide) ?_
  exact K h R

theorem bX4_init_56 {d : Nat} {Fg : Nat → Prop} {h0 : hp} {Q : Option sV → kV → Prop} {V : kV} {bc bs : Nat} {v0 : sV} {v1 : sV} (K : cWP d Fg h0 31 Q 58 [v0, sI (0)] [] V bc bs) : cWP d Fg h0 31 Q 56 [v0, v1] [] V bc bs := by
  intro h R
  refine w_iconst mb31 dX4_init_56 57 rfl (0) (by decide) ?_
  refine w_istore_n mb31 dX4_init_57 58 rfl [v0, sI (0)] (Nat.le_of_ble_eq_true rfl) rfl ?_
  exact K h R

theorem bX4_init_58 {d : Nat} {Fg : Nat → Prop} {h0 : hp} {Q : Option sV → kV → Prop} {V : kV} {bc bs : Nat} {v0 : sV} {x1 : Int32} (K1 : (24) ≤ (x1) → cWP d Fg h0 31 Q 84 [v0, sI (x1)] [] V bc bs) (K2 : ¬ (24) ≤ (x1) → cWP d Fg h0 31 Q 64 [v0, sI (x1)] [] V bc bs) : cWP d Fg h0 31 Q 58 [v0, sI (x1)] [] V bc bs := by
  intro h R
  refine w_iload_n mb31 dX4_init_58 59 rfl rfl ?_
  refine w_bipush mb31 dX4_init_59 61 rfl (24) (by decide) ?_
  refine w_icmp_ge mb31 dX4_init_61 84 64 (by decide) rfl (fun z => ?_) (fun z => ?_)
  · exact K1 z h R
  · exact K2 z h R

theorem bX4_init_64 {d : Nat} {Fg : Nat → Prop} {h0 : hp} {Q : Option sV → kV → Prop} {V : kV} {bc bs : Nat} {a0 : Nat} {x1 : Int32} (h1 : kC V (a0) = 5) {bc1 bs1 : Nat} {P : Option sV → kV → Prop} (C : cM d Fg h0 71 [sI (4), sI ((16) + (x1))] V bc1 bs1 P) (hbc : bc1 ≤ bc) (hbs : bs1 ≤ bs) (K : ∀ r V1, P r V1 → cWP d Fg h0 31 Q 77 [sR (some a0), sI (x1)] (r.toList ++ [sI (x1), sR (some (kr V 403 (a0)))]) V1 (bc - bc1) (bs - bs1)) : cWP d Fg h0 31 Q 64 [sR (some a0), sI (x1)] [] V bc bs := by
  intro h R
  refine w_aload_n mb31 dX4_init_64 65 rfl rfl ?_
  refine y_geta mb31 dX4_init_65 68 rfl R 403 lf4_23 rfl rfl rfl (by decide) h1 ?_
  refine w_iload_n mb31 dX4_init_68 69 rfl rfl ?_
  refine w_iconst mb31 dX4_init_69 70 rfl (4) (by decide) ?_
  refine w_bipush mb31 dX4_init_70 72 rfl (16) (by decide) ?_
  refine w_iload_n mb31 dX4_init_72 73 rfl rfl ?_
  refine w_iadd mb31 dX4_init_73 74 rfl ?_
  refine w_static (st := [sI (x1), sR (some (kr V 403 (a0)))]) mb31 dX4_init_74 77 rfl 71 2 [sI (4), sI ((16) + (x1))] _ rfl rfl rfl lc4_26 (Nat.le_of_ble_eq_true rfl) (C h R) hbc hbs (fun r h1 hP => ?_)
  obtain ⟨V1, R1, hP⟩ := hP
  exact K r V1 hP h1 R1

theorem bX4_init_77 {d : Nat} {Fg : Nat → Prop} {h0 : hp} {Q : Option sV → kV → Prop} {V : kV} {bc bs : Nat} {v0 : sV} {x1 : Int32} {sh : Nat} {y1 : Int32} {z2 : Option Nat} (h1 : vp_in (y1) 24) (h2 : ∀ b, (z2) = some b → ∃ o, kO V b = some o) (h3 : kC V (sh) = 5) (K : cWP d Fg h0 31 Q 58 [v0, sI (x1 + 1)] [] (uB V (403) (sh) ((y1).toNatClampNeg) (z2)) bc bs) : cWP d Fg h0 31 Q 77 [v0, sI (x1)] [sR (z2), sI (y1), sR (some (kr V 403 sh))] V bc bs := by
  intro h R
  refine y_aastO (f := 403) (a := sh) (c := 5) mb31 dX4_init_77 78 rfl R 24 rfl (by decide) rfl rfl h3 h1 h2 (fun h R => ?_)
  refine w_iinc mb31 dX4_init_78 81 rfl rfl (x1 + 1) rfl [v0, sI (x1 + 1)] rfl ?_
  refine w_goto mb31 dX4_init_81 58 (by decide) ?_
  exact K h R

theorem bX4_init_84 {d : Nat} {Fg : Nat → Prop} {h0 : hp} {Q : Option sV → kV → Prop} {V : kV} {bc bs : Nat} {v0 : sV} {v1 : sV} (K : Q (none) V) : cWP d Fg h0 31 Q 84 [v0, v1] [] V bc bs := by
  intro h R
  refine w_vret mb31 dX4_init_84 rfl ?_
  exact ⟨_, R, K⟩
