theorem bX6_source_8 {d : Nat} {Fg : Nat → Prop} {h0 : hp} {Q : Option sV → kV → Prop} {V : kV} {bc bs : Nat} {v0 : sV} {v1 : sV} {v2 : sV} {z0 : Option Nat} (K1 : ¬ (z0) = none → cWP d Fg h0 45 Q 13 [v0, v1, v2] [] V bc bs) (K2 : (z0) = none → cWP d Fg h0 45 Q 11 [v0, v1, v2] [] V bc bs) : cWP d Fg h0 45 Q 8 [v0, v1, v2] [sR (z0)] V bc bs := by
  intro h R
  refine w_ifnonnull mb45 dX6_source_8 13 11 (by decide) rfl (fun z => ?_) (fun z => ?_)
  · exact K1 z h R
  · exact K2 z h R

theorem bX6_source_11 {d : Nat} {Fg : Nat → Prop} {h0 : hp} {Q : Option sV → kV → Prop} {V : kV} {bc bs : Nat} {v0 : sV} {v1 : sV} {v2 : sV} (K : Q (some (sI ((-1)))) V) : cWP d Fg h0 45 Q 11 [v0, v1, v2] [] V bc bs := by
  intro h R
  refine w_iconst mb45 dX6_source_11 12 rfl ((-1)) (by decide) ?_
  refine w_iret mb45 dX6_source_12 rfl ?_
  exact ⟨_, R, K⟩

theorem bX6_source_13 {d : Nat} {Fg : Nat → Prop} {h0 : hp} {Q : Option sV → kV → Prop} {V : kV} {bc bs : Nat} {v0 : sV} {v1 : sV} {x2 : Int32} (K1 : 0 ≤ (x2) → cWP d Fg h0 45 Q 26 [v0, v1, sI (x2)] [] V bc bs) (K2 : ¬ 0 ≤ (x2) → cWP d Fg h0 45 Q 17 [v0, v1, sI (x2)] [] V bc bs) : cWP d Fg h0 45 Q 13 [v0, v1, sI (x2)] [] V bc bs := by
  intro h R
  refine w_iload_n mb45 dX6_source_13 14 rfl rfl ?_
  refine w_if_ge mb45 dX6_source_14 26 17 (by decide) rfl (fun z => ?_) (fun z => ?_)
  · exact K1 z h R
  · exact K2 z h R

theorem bX6_source_17 {d : Nat} {Fg : Nat → Prop} {h0 : hp} {Q : Option sV → kV → Prop} {V : kV} {bc bs : Nat} {a0 : Nat} {v1 : sV} {v2 : sV} {b18 : Nat} (h1 : kR V 600 (a0) = some b18) (h2 : kC V (a0) = 7) (h3 : kC V (b18) = 1) {bc1 bs1 : Nat} {P : Option sV → kV → Prop} (C : cM d Fg h0 1 [sR (some b18), sI (3)] V bc1 bs1 P) (hbc : bc1 ≤ bc) (hbs : bs1 ≤ bs) (K : ∀ r V1, P r V1 → cWP d Fg h0 45 Q 25 [sR (some a0), v1, v2] (r.toList ++ []) V1 (bc - bc1) (bs - bs1)) : cWP d Fg h0 45 Q 17 [sR (some a0), v1, v2] [] V bc bs := by
  intro h R
  refine w_aload_n mb45 dX6_source_17 18 rfl rfl ?_
  refine y_getr mb45 dX6_source_18 21 rfl R 600 lf6_12 rfl rfl rfl rfl h2 h1 ?_
  refine w_iconst mb45 dX6_source_21 22 rfl (3) (by decide) ?_
  refine w_virtual (a := b18) (c := 0) (st := []) mb45 dX6_source_22 25 rfl 1 1 [sI (3)] _ rfl rfl rfl lc6_34 (R.k h3) (Nat.le_of_ble_eq_true rfl) (C h R) hbc hbs (fun r h1 hP => ?_)
  obtain ⟨V1, R1, hP⟩ := hP
  exact K r V1 hP h1 R1

theorem bX6_source_25 {d : Nat} {Fg : Nat → Prop} {h0 : hp} {Q : Option sV → kV → Prop} {V : kV} {bc bs : Nat} {v0 : sV} {v1 : sV} {v2 : sV} {y0 : Int32} (K : Q (some (sI (y0))) V) : cWP d Fg h0 45 Q 25 [v0, v1, v2] [sI (y0)] V bc bs := by
  intro h R
  refine w_iret mb45 dX6_source_25 rfl ?_
  exact ⟨_, R, K⟩

theorem bX6_source_26 {d : Nat} {Fg : Nat → Prop} {h0 : hp} {Q : Option sV → kV → Prop} {V : kV} {bc bs : Nat} {v0 : sV} {v1 : sV} {x2 : Int32} (K1 : (x2) ≤ (16) → cWP d Fg h0 45 Q 34 [v0, v1, sI (x2)] [] V bc bs) (K2 : ¬ (x2) ≤ (16) → cWP d Fg h0 45 Q 32 [v0, v1, sI (x2)] [] V bc bs) : cWP d Fg h0 45 Q 26 [v0, v1, sI (x2)] [] V bc bs := by
  intro h R
  refine w_iload_n mb45 dX6_source_26 27 rfl rfl ?_
  refine w_bipush mb45 dX6_source_27 29 rfl (16) (by decide) ?_
  refine w_icmp_le mb45 dX6_source_29 34 32 (by decide) rfl (fun z => ?_) (fun z => ?_)
  · exact K1 z h R
  · exact K2 z h R

theorem bX6_source_32 {d : Nat} {Fg : Nat → Prop} {h0 : hp} {Q : Option sV → kV → Prop} {V : kV} {bc bs : Nat} {v0 : sV} {v1 : sV} {v2 : sV} (K : Q (some (sI ((-1)))) V) : cWP d Fg h0 45 Q 32 [v0, v1, v2] [] V bc bs := by
  intro h R
  refine w_iconst mb45 dX6_source_32 33 rfl ((-1)) (by decide) ?_
  refine w_iret mb45 dX6_source_33 rfl ?_
  exact ⟨_, R, K⟩

theorem bX6_source_34 {d : Nat} {Fg : Nat → Prop} {h0 : hp} {Q : Option sV → kV → Prop} {V : kV} {bc bs : Nat} {a0 : Nat} {x1 : Int32} {x2 : Int32} {N : Nat} (h1 : kC V (a0) = 7) (h2 : ¬ (x2 : Int32) < 0) (h3 : (x2 : Int32).toNatClampNeg = N) (h4 : N ≤ 100000) (h5 : 1 ≤ bc) (h6 : N ≤ bs) (K : ∀ y, ¬ kD V y → cWP d Fg h0 45 Q 42 [sR (some a0), sI (x1), sI (x2)] [sR (some y), sI (x1), sR (kR V 602 (a0))] (uW V y (some (N, fun _ => 0))) (bc - 1) (bs - N)) : cWP d Fg h0 45 Q 34 [sR (some a0), sI (x1), sI (x2)] [] V bc bs := by
  intro h R
  refine w_aload_n mb45 dX6_source_34 35 rfl rfl ?_
  refine y_getr mb45 dX6_source_35 38 rfl R 602 lf6_27 rfl rfl rfl rfl h1 rfl ?_
  refine w_iload_n mb45 dX6_source_38 39 rfl rfl ?_
  refine w_iload_n mb45 dX6_source_39 40 rfl rfl ?_
  refine y_newW mb45 dX6_source_40 42 rfl R N h2 h3 h4 h5 h6 (fun y h hy R => ?_)
  exact K y hy h R

theorem bX6_source_42 {d : Nat} {Fg : Nat → Prop} {h0 : hp} {Q : Option sV → kV → Prop} {V : kV} {bc bs : Nat} {v0 : sV} {v1 : sV} {v2 : sV} {z0 : Nat} {y1 : Int32} {z2 : Option Nat} (h1 : kC V (z0) = 5) {bc1 bs1 : Nat} {P : Option sV → kV → Prop} (C : cM d Fg h0 33 [sR (some z0), sI (y1), sR (z2)] V bc1 bs1 P) (hbc : bc1 ≤ bc) (hbs : bs1 ≤ bs) (K : ∀ r V1, P r V1 → cWP d Fg h0 45 Q 45 [v0, v1, v2] (r.toList ++ []) V1 (bc - bc1) (bs - bs1)) : cWP d Fg h0 45 Q 42 [v0, v1, v2] [sR (z2), sI (y1), sR (some z0)] V bc bs := by
  intro h R
  refine w_virtual (a := z0) (c := 4) (st := []) mb45 dX6_source_42 45 rfl 33 2 [sI (y1), sR (z2)] _ rfl rfl rfl lc6_38 (R.k h1) (Nat.le_of_ble_eq_true rfl) (C h R) hbc hbs (fun r h1 hP => ?_)
  obtain ⟨V1, R1, hP⟩ := hP
  exact K r V1 hP h1 R1

theorem bX6_source_45 {d : Nat} {Fg : Nat → Prop} {h0 : hp} {Q : Option sV → kV → Prop} {V : kV} {bc bs : Nat} {v0 : sV} {v1 : sV} {x2 : Int32} (K : Q (some (sI (x2))) V) : cWP d Fg h0 45 Q 45 [v0, v1, sI (x2)] [] V bc bs := by
  intro h R
  refine w_iload_n mb45 dX6_source_45 46 rfl rfl ?_
  refine w_iret mb45 dX6_source_46 rfl ?_
  exact ⟨_, R, K⟩

theorem bX6_set_0 {d : Nat} {Fg : Nat → Prop} {h0 : hp} {Q : Option sV → kV → Prop} {V : kV} {bc bs : Nat} {a0 : Nat} {x1 : Int32} {v2 : sV} {v3 : sV} {v4 : sV} {v5 : sV} {b1 : Nat} (h1 : kR V 602 (a0) = some b1) (h2 : kC V (a0) = 7) (h3 : kC V (b1) = 5) {bc1 bs1 : Nat} {P : Option sV → kV → Prop} (C : cM d Fg h0 32 [sR (some b1), sI (x1)] V bc1 bs1 P) (hbc : bc1 ≤ bc) (hbs : bs1 ≤ bs) (K : ∀ r V1, P r V1 → cWP d Fg h0 46 Q 8 [sR (some a0), sI (x1), v2, v3, v4, v5] (r.toList ++ []) V1 (bc - bc1) (bs - bs1)) : cWP d Fg h0 46 Q 0 [sR (some a0), sI (x1), v2, v3, v4, v5] [] V bc bs := by
  intro h R
  refine w_aload_n mb46 dX6_set_0 1 rfl rfl ?_
  refine y_getr mb46 dX6_set_1 4 rfl R 602 lf6_27 rfl rfl rfl rfl h2 h1 ?_
  refine w_iload_n mb46 dX6_set_4 5 rfl rfl ?_
  refine w_virtual (a := b1) (c := 4) (st := []) mb46 dX6_set_5 8 rfl 32 1 [sI (x1)] _ rfl rfl rfl lc6_28 (R.k h3) (Nat.le_of_ble_eq_true rfl) (C h R) hbc hbs (fun r h1 hP => ?_)
  obtain ⟨V1, R1, hP⟩ := hP
  exact K r V1 hP h1 R1

theorem bX6_set_8 {d : Nat} {Fg : Nat → Prop} {h0 : hp} {Q : Option sV → kV → Prop} {V : kV} {bc bs : Nat} {v0 : sV} {v1 : sV} {v2 : sV} {v3 : sV} {v4 : sV} {v5 : sV} {z0 : Option Nat} (K1 : ¬ (z0) = none → cWP d Fg h0 46 Q 24 [v0, v1, v2, v3, sR (z0), v5] [] V bc bs) (K2 : (z0) = none → cWP d Fg h0 46 Q 15 [v0, v1, v2, v3, sR (z0), v5] [] V bc bs) : cWP d Fg h0 46 Q 8 [v0, v1, v2, v3, v4, v5] [sR (z0)] V bc bs := by
  intro h R
  refine w_astore mb46 dX6_set_8 10 rfl [v0, v1, v2, v3, sR (z0), v5] (Nat.le_of_ble_eq_true rfl) rfl ?_
  refine w_aload mb46 dX6_set_10 12 rfl rfl ?_
  refine w_ifnonnull mb46 dX6_set_12 24 15 (by decide) rfl (fun z => ?_) (fun z => ?_)
  · exact K1 z h R
  · exact K2 z h R

theorem bX6_set_15 {d : Nat} {Fg : Nat → Prop} {h0 : hp} {Q : Option sV → kV → Prop} {V : kV} {bc bs : Nat} {a0 : Nat} {v1 : sV} {v2 : sV} {v3 : sV} {v4 : sV} {v5 : sV} {b16 : Nat} (h1 : kR V 600 (a0) = some b16) (h2 : kC V (a0) = 7) (h3 : kC V (b16) = 1) {bc1 bs1 : Nat} {P : Option sV → kV → Prop} (C : cM d Fg h0 1 [sR (some b16), sI (2)] V bc1 bs1 P) (hbc : bc1 ≤ bc) (hbs : bs1 ≤ bs) (K : ∀ r V1, P r V1 → cWP d Fg h0 46 Q 23 [sR (some a0), v1, v2, v3, v4, v5] (r.toList ++ []) V1 (bc - bc1) (bs - bs1)) : cWP d Fg h0 46 Q 15 [sR (some a0), v1, v2, v3, v4, v5] [] V bc bs := by
  intro h R
  refine w_aload_n mb46 dX6_set_15 16 rfl rfl ?_
  refine y_getr mb46 dX6_set_16 19 rfl R 600 lf6_12 rfl rfl rfl rfl h2 h1 ?_
  refine w_iconst mb46 dX6_set_19 20 rfl (2) (by decide) ?_
  refine w_virtual (a := b16) (c := 0) (st := []) mb46 dX6_set_20 23 rfl 1 1 [sI (2)] _ rfl rfl rfl lc6_34 (R.k h3) (Nat.le_of_ble_eq_true rfl) (C h R) hbc hbs (fun r h1 hP => ?_)
  obtain ⟨V1, R1, hP⟩ := hP
  exact K r V1 hP h1 R1

theorem bX6_set_23 {d : Nat} {Fg : Nat → Prop} {h0 : hp} {Q : Option sV → kV → Prop} {V : kV} {bc bs : Nat} {v0 : sV} {v1 : sV} {v2 : sV} {v3 : sV} {v4 : sV} {v5 : sV} {y0 : Int32} (K : Q (some (sI (y0))) V) : cWP d Fg h0 46 Q 23 [v0, v1, v2, v3, v4, v5] [sI (y0)] V bc bs := by
  intro h R
  refine w_iret mb46 dX6_set_23 rfl ?_
  exact ⟨_, R, K⟩

theorem bX6_set_24 {d : Nat} {Fg : Nat → Prop} {h0 : hp} {Q : Option sV → kV → Prop} {V : kV} {bc bs : Nat} {v0 : sV} {v1 : sV} {v2 : sV} {v3 : sV} {a4 : Nat} {v5 : sV} {o_a4 : zO} (h1 : kO V (a4) = some o_a4) {bc1 bs1 : Nat} {P : Option sV → kV → Prop} (C : cM d Fg h0 3 [sR (some a4)] V bc1 bs1 P) (hbc : bc1 ≤ bc) (hbs : bs1 ≤ bs) (K : ∀ r V1, P r V1 → cWP d Fg h0 46 Q 29 [v0, v1, v2, v3, sR (some a4), v5] (r.toList ++ []) V1 (bc - bc1) (bs - bs1)) : cWP d Fg h0 46 Q 24 [v0, v1, v2, v3, sR (some a4), v5] [] V bc bs := by
  intro h R
  refine w_aload mb46 dX6_set_24 26 rfl rfl ?_
  refine w_virtual (a := a4) (c := 1) (st := []) mb46 dX6_set_26 29 rfl 3 0 [] _ rfl rfl rfl lc6_42 (R.ko h1) (Nat.le_of_ble_eq_true rfl) (C h R) hbc hbs (fun r h1 hP => ?_)
  obtain ⟨V1, R1, hP⟩ := hP
  exact K r V1 hP h1 R1

theorem bX6_set_29 {d : Nat} {Fg : Nat → Prop} {h0 : hp} {Q : Option sV → kV → Prop} {V : kV} {bc bs : Nat} {v0 : sV} {v1 : sV} {v2 : sV} {v3 : sV} {v4 : sV} {v5 : sV} {y0 : Int32} (K1 : (y0) = 0 → cWP d Fg h0 46 Q 41 [v0, v1, v2, v3, v4, v5] [] V bc bs) (K2 : ¬ (y0) = 0 → cWP d Fg h0 46 Q 32 [v0, v1, v2, v3, v4, v5] [] V bc bs) : cWP d Fg h0 46 Q 29 [v0, v1, v2, v3, v4, v5] [sI (y0)] V bc bs := by
  intro h R
  refine w_if_eq mb46 dX6_set_29 41 32 (by decide) rfl (fun z => ?_) (fun z => ?_)
  · exact K1 z h R
  · exact K2 z h R

theorem bX6_set_32 {d : Nat} {Fg : Nat → Prop} {h0 : hp} {Q : Option sV → kV → Prop} {V : kV} {bc bs : Nat} {a0 : Nat} {v1 : sV} {v2 : sV} {v3 : sV} {v4 : sV} {v5 : sV} {b33 : Nat} (h1 : kR V 600 (a0) = some b33) (h2 : kC V (a0) = 7) (h3 : kC V (b33) = 1) {bc1 bs1 : Nat} {P : Option sV → kV → Prop} (C : cM d Fg h0 1 [sR (some b33), sI (1)] V bc1 bs1 P) (hbc : bc1 ≤ bc) (hbs : bs1 ≤ bs) (K : ∀ r V1, P r V1 → cWP d Fg h0 46 Q 40 [sR (some a0), v1, v2, v3, v4, v5] (r.toList ++ []) V1 (bc - bc1) (bs - bs1)) : cWP d Fg h0 46 Q 32 [sR (some a0), v1, v2, v3, v4, v5] [] V bc bs := by
  intro h R
  refine w_aload_n mb46 dX6_set_32 33 rfl rfl ?_
  refine y_getr mb46 dX6_set_33 36 rfl R 600 lf6_12 rfl rfl rfl rfl h2 h1 ?_
  refine w_iconst mb46 dX6_set_36 37 rfl (1) (by decide) ?_
  refine w_virtual (a := b33) (c := 0) (st := []) mb46 dX6_set_37 40 rfl 1 1 [sI (1)] _ rfl rfl rfl lc6_34 (R.k h3) (Nat.le_of_ble_eq_true rfl) (C h R) hbc hbs (fun r h1 hP => ?_)
  obtain ⟨V1, R1, hP⟩ := hP
  exact K r V1 hP h1 R1

theorem bX6_set_40 {d : Nat} {Fg : Nat → Prop} {h0 : hp} {Q : Option sV → kV → Prop} {V : kV} {bc bs : Nat} {v0 : sV} {v1 : sV} {v2 : sV} {v3 : sV} {v4 : sV} {v5 : sV} {y0 : Int32} (K : Q (some (sI (y0))) V) : cWP d Fg h0 46 Q 40 [v0, v1, v2, v3, v4, v5] [sI (y0)] V bc bs := by
  intro h R
  refine w_iret mb46 dX6_set_40 rfl ?_
  exact ⟨_, R, K⟩

theorem bX6_set_41 {d : Nat} {Fg : Nat → Prop} {h0 : hp} {Q : Option sV → kV → Prop} {V : kV} {bc bs : Nat} {v0 : sV} {v1 : sV} {x2 : Int32} {v3 : sV} {a4 : Nat} {v5 : sV} {o_a4 : zO} (h1 : kO V (a4) = some o_a4) {bc1 bs1 : Nat} {P : Option sV → kV → Prop} (C : cM d Fg h0 4 [sR (some a4), sI (x2)] V bc1 bs1 P) (hbc : bc1 ≤ bc) (hbs : bs1 ≤ bs) (K : ∀ r V1, P r V1 → cWP d Fg h0 46 Q 47 [v0, v1, sI (x2), v3, sR (some a4), v5] (r.toList ++ []) V1 (bc - bc1) (bs - bs1)) : cWP d Fg h0 46 Q 41 [v0, v1, sI (x2), v3, sR (some a4), v5] [] V bc bs := by
  intro h R
  refine w_aload mb46 dX6_set_41 43 rfl rfl ?_
  refine w_iload_n mb46 dX6_set_43 44 rfl rfl ?_
  refine w_virtual (a := a4) (c := 1) (st := []) mb46 dX6_set_44 47 rfl 4 1 [sI (x2)] _ rfl rfl rfl lc6_48 (R.ko h1) (Nat.le_of_ble_eq_true rfl) (C h R) hbc hbs (fun r h1 hP => ?_)
  obtain ⟨V1, R1, hP⟩ := hP
  exact K r V1 hP h1 R1

theorem bX6_set_47 {d : Nat} {Fg : Nat → Prop} {h0 : hp} {Q : Option sV → kV → Prop} {V : kV} {bc bs : Nat} {v0 : sV} {v1 : sV} {v2 : sV} {v3 : sV} {v4 : sV} {v5 : sV} {y0 : Int32} (K1 : ¬ (y0) = 0 → cWP d Fg h0 46 Q 59 [v0, v1, v2, v3, v4, v5] [] V bc bs) (K2 : (y0) = 0 → cWP d Fg h0 46 Q 50 [v0, v1, v2, v3, v4, v5] [] V bc bs) : cWP d Fg h0 46 Q 47 [v0, v1, v2, v3, v4, v5] [sI (y0)] V bc bs := by
  intro h R
  refine w_if_ne mb46 dX6_set_47 59 50 (by decide) rfl (fun z => ?_) (fun z => ?_)
  · exact K1 z h R
  · exact K2 z h R

theorem bX6_set_50 {d : Nat} {Fg : Nat → Prop} {h0 : hp} {Q : Option sV → kV → Prop} {V : kV} {bc bs : Nat} {a0 : Nat} {v1 : sV} {v2 : sV} {v3 : sV} {v4 : sV} {v5 : sV} {b51 : Nat} (h1 : kR V 600 (a0) = some b51) (h2 : kC V (a0) = 7) (h3 : kC V (b51) = 1) {bc1 bs1 : Nat} {P : Option sV → kV → Prop} (C : cM d Fg h0 1 [sR (some b51), sI (2)] V bc1 bs1 P) (hbc : bc1 ≤ bc) (hbs : bs1 ≤ bs) (K : ∀ r V1, P r V1 → cWP d Fg h0 46 Q 58 [sR (some a0), v1, v2, v3, v4, v5] (r.toList ++ []) V1 (bc - bc1) (bs - bs1)) : cWP d Fg h0 46 Q 50 [sR (some a0), v1, v2, v3, v4, v5] [] V bc bs := by
  intro h R
  refine w_aload_n mb46 dX6_set_50 51 rfl rfl ?_
  refine y_getr mb46 dX6_set_51 54 rfl R 600 lf6_12 rfl rfl rfl rfl h2 h1 ?_
  refine w_iconst mb46 dX6_set_54 55 rfl (2) (by decide) ?_
  refine w_virtual (a := b51) (c := 0) (st := []) mb46 dX6_set_55 58 rfl 1 1 [sI (2)] _ rfl rfl rfl lc6_34 (R.k h3) (Nat.le_of_ble_eq_true rfl) (C h R) hbc hbs (fun r h1 hP => ?_)
  obtain ⟨V1, R1, hP⟩ := hP
  exact K r V1 hP h1 R1

theorem bX6_set_58 {d : Nat} {Fg : Nat → Prop} {h0 : hp} {Q : Option sV → kV → Prop} {V : kV} {bc bs : Nat} {v0 : sV} {v1 : sV} {v2 : sV} {v3 : sV} {v4 : sV} {v5 : sV} {y0 : Int32} (K : Q (some (sI (y0))) V) : cWP d Fg h0 46 Q 58 [v0, v1, v2, v3, v4, v5] [sI (y0)] V bc bs := by
  intro h R
  refine w_iret mb46 dX6_set_58 rfl ?_
  exact ⟨_, R, K⟩

theorem bX6_set_59 {d : Nat} {Fg : Nat → Prop} {h0 : hp} {Q : Option sV → kV → Prop} {V : kV} {bc bs : Nat} {v0 : sV} {v1 : sV} {v2 : sV} {v3 : sV} {a4 : Nat} {v5 : sV} {o_a4 : zO} (h1 : kO V (a4) = some o_a4) (h2 : 1 ≤ bc) (h3 : o_a4.2.2.length ≤ bs) (K : ∀ y g, ¬ kD V y → (∀ j, j < o_a4.2.2.length → g j = o_a4.2.2.getD j 0) → cWP d Fg h0 46 Q 67 [v0, v1, v2, v3, sR (some a4), v5] [sR (some y)] (uW V y (some (o_a4.2.2.length, g))) (bc - 1) (bs - o_a4.2.2.length)) : cWP d Fg h0 46 Q 59 [v0, v1, v2, v3, sR (some a4), v5] [] V bc bs := by
  intro h R
  refine w_aload mb46 dX6_set_59 61 rfl rfl ?_
  refine y_o2 mb46 dX6_set_61 64 rfl R lf6_52 h1 ?_
  refine y_clone (st := []) mb46 dX6_set_64 67 rfl R h1 lk6_56 (Nat.le_of_ble_eq_true rfl) h2 h3 (fun y h g hy hg R => ?_)
  exact K y g hy hg h R

theorem bX6_set_67 {d : Nat} {Fg : Nat → Prop} {h0 : hp} {Q : Option sV → kV → Prop} {V : kV} {bc bs : Nat} {a0 : Nat} {x1 : Int32} {x2 : Int32} {x3 : Int32} {v4 : sV} {v5 : sV} {z0 : Nat} {n_z0 : Nat} {g_z0 : Nat → Int32} {b78 : Nat} (h1 : kW V z0 = some (n_z0, g_z0)) (h2 : vp_in (x2) n_z0) (h3 : kR V 602 (a0) = some b78) (h4 : kC V (a0) = 7) (h5 : kC V (b78) = 5) {bc1 bs1 : Nat} {P : Option sV → kV → Prop} (C : cM d Fg h0 33 [sR (some b78), sI (x1), sR (some z0)] (uW V (z0) (some (n_z0, upd (g_z0) (x2).toNatClampNeg (x3)))) bc1 bs1 P) (hbc : bc1 ≤ bc) (hbs : bs1 ≤ bs) (K : ∀ r V1, P r V1 → cWP d Fg h0 46 Q 87 [sR (some a0), sI (x1), sI (x2), sI (x3), v4, sR (some z0)] (r.toList ++ []) V1 (bc - bc1) (bs - bs1)) : cWP d Fg h0 46 Q 67 [sR (some a0), sI (x1), sI (x2), sI (x3), v4, v5] [sR (some z0)] V bc bs := by
  intro h R
  refine y_cast mb46 dX6_set_67 70 rfl R h1 lx6_57 ?_
  refine w_astore mb46 dX6_set_70 72 rfl [sR (some a0), sI (x1), sI (x2), sI (x3), v4, sR (some z0)] (Nat.le_of_ble_eq_true rfl) rfl ?_
  refine w_aload mb46 dX6_set_72 74 rfl rfl ?_
  refine w_iload_n mb46 dX6_set_74 75 rfl rfl ?_
  refine w_iload_n mb46 dX6_set_75 76 rfl rfl ?_
  refine y_wast mb46 dX6_set_76 77 rfl R h1 h2 (fun h R => ?_)
  refine w_aload_n mb46 dX6_set_77 78 rfl rfl ?_
  refine y_getr mb46 dX6_set_78 81 rfl R 602 lf6_27 rfl rfl rfl rfl h4 h3 ?_
  refine w_iload_n mb46 dX6_set_81 82 rfl rfl ?_
  refine w_aload mb46 dX6_set_82 84 rfl rfl ?_
  refine w_virtual (a := b78) (c := 4) (st := []) mb46 dX6_set_84 87 rfl 33 2 [sI (x1), sR (some z0)] _ rfl rfl rfl lc6_38 (R.k h5) (Nat.le_of_ble_eq_true rfl) (C h R) hbc hbs (fun r h1 hP => ?_)
  obtain ⟨V1, R1, hP⟩ := hP
  exact K r V1 hP h1 R1

theorem bX6_set_87 {d : Nat} {Fg : Nat → Prop} {h0 : hp} {Q : Option sV → kV → Prop} {V : kV} {bc bs : Nat} {v0 : sV} {v1 : sV} {v2 : sV} {v3 : sV} {v4 : sV} {v5 : sV} (K : Q (some (sI (1))) V) : cWP d Fg h0 46 Q 87 [v0, v1, v2, v3, v4, v5] [] V bc bs := by
  intro h R
  refine w_iconst mb46 dX6_set_87 88 rfl (1) (by decide) ?_
  refine w_iret mb46 dX6_set_88 rfl ?_
  exact ⟨_, R, K⟩

theorem bX6_miss_0 {d : Nat} {Fg : Nat → Prop} {h0 : hp} {Q : Option sV → kV → Prop} {V : kV} {bc bs : Nat} {a0 : Nat} {x1 : Int32} {v2 : sV} {b1 : Nat} (h1 : kR V 602 (a0) = some b1) (h2 : kC V (a0) = 7) (h3 : kC V (b1) = 5) {bc1 bs1 : Nat} {P : Option sV → kV → Prop} (C : cM d Fg h0 32 [sR (some b1), sI (x1)] V bc1 bs1 P) (hbc : bc1 ≤ bc) (hbs : bs1 ≤ bs) (K : ∀ r V1, P r V1 → cWP d Fg h0 47 Q 8 [sR (some a0), sI (x1), v2] (r.toList ++ []) V1 (bc - bc1) (bs - bs1)) : cWP d Fg h0 47 Q 0 [sR (some a0), sI (x1), v2] [] V bc bs := by
  intro h R
  refine w_aload_n mb47 dX6_miss_0 1 rfl rfl ?_
  refine y_getr mb47 dX6_miss_1 4 rfl R 602 lf6_27 rfl rfl rfl rfl h2 h1 ?_
  refine w_iload_n mb47 dX6_miss_4 5 rfl rfl ?_
  refine w_virtual (a := b1) (c := 4) (st := []) mb47 dX6_miss_5 8 rfl 32 1 [sI (x1)] _ rfl rfl rfl lc6_28 (R.k h3) (Nat.le_of_ble_eq_true rfl) (C h R) hbc hbs (fun r h1 hP => ?_)
  obtain ⟨V1, R1, hP⟩ := hP
  exact K r V1 hP h1 R1

theorem bX6_miss_8 {d : Nat} {Fg : Nat → Prop} {h0 : hp} {Q : Option sV → kV → Prop} {V : kV} {bc bs : Nat} {v0 : sV} {v1 : sV} {v2 : sV} {z0 : Option Nat} (K1 : ¬ (z0) = none → cWP d Fg h0 47 Q 15 [v0, v1, sR (z0)] [] V bc bs) (K2 : (z0) = none → cWP d Fg h0 47 Q 13 [v0, v1, sR (z0)] [] V bc bs) : cWP d Fg h0 47 Q 8 [v0, v1, v2] [sR (z0)] V bc bs := by
  intro h R
  refine w_astore_n mb47 dX6_miss_8 9 rfl [v0, v1, sR (z0)] (Nat.le_of_ble_eq_true rfl) rfl ?_
  refine w_aload_n mb47 dX6_miss_9 10 rfl rfl ?_
  refine w_ifnonnull mb47 dX6_miss_10 15 13 (by decide) rfl (fun z => ?_) (fun z => ?_)
  · exact K1 z h R
  · exact K2 z h R

theorem bX6_miss_13 {d : Nat} {Fg : Nat → Prop} {h0 : hp} {Q : Option sV → kV → Prop} {V : kV} {bc bs : Nat} {v0 : sV} {v1 : sV} {v2 : sV} (K : Q (some (sI ((-1)))) V) : cWP d Fg h0 47 Q 13 [v0, v1, v2] [] V bc bs := by
  intro h R
  refine w_iconst mb47 dX6_miss_13 14 rfl ((-1)) (by decide) ?_
  refine w_iret mb47 dX6_miss_14 rfl ?_
  exact ⟨_, R, K⟩

theorem bX6_miss_15 {d : Nat} {Fg : Nat → Prop} {h0 : hp} {Q : Option sV → kV → Prop} {V : kV} {bc bs : Nat} {v0 : sV} {v1 : sV} {a2 : Nat} {o_a2 : zO} (h1 : kO V (a2) = some o_a2) {bc1 bs1 : Nat} {P : Option sV → kV → Prop} (C : cM d Fg h0 3 [sR (some a2)] V bc1 bs1 P) (hbc : bc1 ≤ bc) (hbs : bs1 ≤ bs) (K : ∀ r V1, P r V1 → cWP d Fg h0 47 Q 19 [v0, v1, sR (some a2)] (r.toList ++ []) V1 (bc - bc1) (bs - bs1)) : cWP d Fg h0 47 Q 15 [v0, v1, sR (some a2)] [] V bc bs := by
  intro h R
  refine w_aload_n mb47 dX6_miss_15 16 rfl rfl ?_
  refine w_virtual (a := a2) (c := 1) (st := []) mb47 dX6_miss_16 19 rfl 3 0 [] _ rfl rfl rfl lc6_42 (R.ko h1) (Nat.le_of_ble_eq_true rfl) (C h R) hbc hbs (fun r h1 hP => ?_)
  obtain ⟨V1, R1, hP⟩ := hP
  exact K r V1 hP h1 R1

theorem bX6_miss_19 {d : Nat} {Fg : Nat → Prop} {h0 : hp} {Q : Option sV → kV → Prop} {V : kV} {bc bs : Nat} {v0 : sV} {v1 : sV} {v2 : sV} {y0 : Int32} (K1 : (y0) = 0 → cWP d Fg h0 47 Q 24 [v0, v1, v2] [] V bc bs) (K2 : ¬ (y0) = 0 → cWP d Fg h0 47 Q 22 [v0, v1, v2] [] V bc bs) : cWP d Fg h0 47 Q 19 [v0, v1, v2] [sI (y0)] V bc bs := by
  intro h R
  refine w_if_eq mb47 dX6_miss_19 24 22 (by decide) rfl (fun z => ?_) (fun z => ?_)
  · exact K1 z h R
  · exact K2 z h R

theorem bX6_miss_22 {d : Nat} {Fg : Nat → Prop} {h0 : hp} {Q : Option sV → kV → Prop} {V : kV} {bc bs : Nat} {v0 : sV} {v1 : sV} {v2 : sV} (K : Q (some (sI (0))) V) : cWP d Fg h0 47 Q 22 [v0, v1, v2] [] V bc bs := by
  intro h R
  refine w_iconst mb47 dX6_miss_22 23 rfl (0) (by decide) ?_
  refine w_iret mb47 dX6_miss_23 rfl ?_
  exact ⟨_, R, K⟩

theorem bX6_miss_24 {d : Nat} {Fg : Nat → Prop} {h0 : hp} {Q : Option sV → kV → Prop} {V : kV} {bc bs : Nat} {a0 : Nat} {x1 : Int32} {v2 : sV} {b25 : Nat} (h1 : kR V 602 (a0) = some b25) (h2 : kC V (a0) = 7) (h3 : kC V (b25) = 5) {bc1 bs1 : Nat} {P : Option sV → kV → Prop} (C : cM d Fg h0 71 [sI (1), sI (x1)] V bc1 bs1 P) (hbc : bc1 ≤ bc) (hbs : bs1 ≤ bs) (K : ∀ r V1, P r V1 → cWP d Fg h0 47 Q 37 [sR (some a0), sI (x1), v2] (r.toList ++ [sI (x1), sR (some (kr V 400 (b25)))]) V1 (bc - bc1) (bs - bs1)) : cWP d Fg h0 47 Q 24 [sR (some a0), sI (x1), v2] [] V bc bs := by
  intro h R
  refine w_aload_n mb47 dX6_miss_24 25 rfl rfl ?_
  refine y_getr mb47 dX6_miss_25 28 rfl R 602 lf6_27 rfl rfl rfl rfl h2 h1 ?_
  refine y_geta mb47 dX6_miss_28 31 rfl R 400 lf6_61 rfl rfl rfl (by decide) h3 ?_
  refine w_iload_n mb47 dX6_miss_31 32 rfl rfl ?_
  refine w_iconst mb47 dX6_miss_32 33 rfl (1) (by decide) ?_
  refine w_iload_n mb47 dX6_miss_33 34 rfl rfl ?_
  refine w_static (st := [sI (x1), sR (some (kr V 400 (b25)))]) mb47 dX6_miss_34 37 rfl 71 2 [sI (1), sI (x1)] _ rfl rfl rfl lc6_65 (Nat.le_of_ble_eq_true rfl) (C h R) hbc hbs (fun r h1 hP => ?_)
  obtain ⟨V1, R1, hP⟩ := hP
  exact K r V1 hP h1 R1

theorem bX6_miss_37 {d : Nat} {Fg : Nat → Prop} {h0 : hp} {Q : Option sV → kV → Prop} {V : kV} {bc bs : Nat} {v0 : sV} {v1 : sV} {v2 : sV} {sh : Nat} {y1 : Int32} {z2 : Option Nat} (h1 : vp_in (y1) 16) (h2 : ∀ b, (z2) = some b → ∃ o, kO V b = some o) (h3 : kC V (sh) = 5) (K : Q (some (sI (1))) (uB V (400) (sh) ((y1).toNatClampNeg) (z2))) : cWP d Fg h0 47 Q 37 [v0, v1, v2] [sR (z2), sI (y1), sR (some (kr V 400 sh))] V bc bs := by
  intro h R
  refine y_aastO (f := 400) (a := sh) (c := 5) mb47 dX6_miss_37 38 rfl R 16 rfl (by decide) rfl rfl h3 h1 h2 (fun h R => ?_)
  refine w_iconst mb47 dX6_miss_38 39 rfl (1) (by decide) ?_
  refine w_iret mb47 dX6_miss_39 rfl ?_
  exact ⟨_, R, K⟩

theorem bX6_copy_0 {d : Nat} {Fg : Nat → Prop} {h0 : hp} {Q : Option sV → kV → Prop} {V : kV} {bc bs : Nat} {a0 : Nat} {x1 : Int32} {v2 : sV} {v3 : sV} {v4 : sV} {v5 : sV} {v6 : sV} {v7 : sV} {v8 : sV} {b1 : Nat} (h1 : kR V 602 (a0) = some b1) (h2 : kC V (a0) = 7) (h3 : kC V (b1) = 5) {bc1 bs1 : Nat} {P : Option sV → kV → Prop} (C : cM d Fg h0 32 [sR (some b1), sI (x1)] V bc1 bs1 P) (hbc : bc1 ≤ bc) (hbs : bs1 ≤ bs) (K : ∀ r V1, P r V1 → cWP d Fg h0 48 Q 8 [sR (some a0), sI (x1), v2, v3, v4, v5, v6, v7, v8] (r.toList ++ []) V1 (bc - bc1) (bs - bs1)) : cWP d Fg h0 48 Q 0 [sR (some a0), sI (x1), v2, v3, v4, v5, v6, v7, v8] [] V bc bs := by
  intro h R
  refine w_aload_n mb48 dX6_copy_0 1 rfl rfl ?_
  refine y_getr mb48 dX6_copy_1 4 rfl R 602 lf6_27 rfl rfl rfl rfl h2 h1 ?_
  refine w_iload_n mb48 dX6_copy_4 5 rfl rfl ?_
  refine w_virtual (a := b1) (c := 4) (st := []) mb48 dX6_copy_5 8 rfl 32 1 [sI (x1)] _ rfl rfl rfl lc6_28 (R.k h3) (Nat.le_of_ble_eq_true rfl) (C h R) hbc hbs (fun r h1 hP => ?_)
  obtain ⟨V1, R1, hP⟩ := hP
  exact K r V1 hP h1 R1

theorem bX6_copy_8 {d : Nat} {Fg : Nat → Prop} {h0 : hp} {Q : Option sV → kV → Prop} {V : kV} {bc bs : Nat} {a0 : Nat} {v1 : sV} {v2 : sV} {x3 : Int32} {v4 : sV} {v5 : sV} {v6 : sV} {v7 : sV} {v8 : sV} {z0 : Option Nat} {b11 : Nat} (h1 : kR V 602 (a0) = some b11) (h2 : kC V (a0) = 7) (h3 : kC V (b11) = 5) {bc1 bs1 : Nat} {P : Option sV → kV → Prop} (C : cM d Fg h0 32 [sR (some b11), sI (x3)] V bc1 bs1 P) (hbc : bc1 ≤ bc) (hbs : bs1 ≤ bs) (K : ∀ r V1, P r V1 → cWP d Fg h0 48 Q 18 [sR (some a0), v1, v2, sI (x3), v4, v5, sR (z0), v7, v8] (r.toList ++ []) V1 (bc - bc1) (bs - bs1)) : cWP d Fg h0 48 Q 8 [sR (some a0), v1, v2, sI (x3), v4, v5, v6, v7, v8] [sR (z0)] V bc bs := by
  intro h R
  refine w_astore mb48 dX6_copy_8 10 rfl [sR (some a0), v1, v2, sI (x3), v4, v5, sR (z0), v7, v8] (Nat.le_of_ble_eq_true rfl) rfl ?_
  refine w_aload_n mb48 dX6_copy_10 11 rfl rfl ?_
  refine y_getr mb48 dX6_copy_11 14 rfl R 602 lf6_27 rfl rfl rfl rfl h2 h1 ?_
  refine w_iload_n mb48 dX6_copy_14 15 rfl rfl ?_
  refine w_virtual (a := b11) (c := 4) (st := []) mb48 dX6_copy_15 18 rfl 32 1 [sI (x3)] _ rfl rfl rfl lc6_28 (R.k h3) (Nat.le_of_ble_eq_true rfl) (C h R) hbc hbs (fun r h1 hP => ?_)
  obtain ⟨V1, R1, hP⟩ := hP
  exact K r V1 hP h1 R1

theorem bX6_copy_18 {d : Nat} {Fg : Nat → Prop} {h0 : hp} {Q : Option sV → kV → Prop} {V : kV} {bc bs : Nat} {v0 : sV} {v1 : sV} {v2 : sV} {v3 : sV} {v4 : sV} {v5 : sV} {r6 : Option Nat} {v7 : sV} {v8 : sV} {z0 : Option Nat} (K1 : (r6) = none → cWP d Fg h0 48 Q 30 [v0, v1, v2, v3, v4, v5, sR (r6), sR (z0), v8] [] V bc bs) (K2 : ¬ (r6) = none → cWP d Fg h0 48 Q 25 [v0, v1, v2, v3, v4, v5, sR (r6), sR (z0), v8] [] V bc bs) : cWP d Fg h0 48 Q 18 [v0, v1, v2, v3, v4, v5, sR (r6), v7, v8] [sR (z0)] V bc bs := by
  intro h R
  refine w_astore mb48 dX6_copy_18 20 rfl [v0, v1, v2, v3, v4, v5, sR (r6), sR (z0), v8] (Nat.le_of_ble_eq_true rfl) rfl ?_
  refine w_aload mb48 dX6_copy_20 22 rfl rfl ?_
  refine w_ifnull mb48 dX6_copy_22 30 25 (by decide) rfl (fun z => ?_) (fun z => ?_)
  · exact K1 z h R
  · exact K2 z h R

theorem bX6_copy_25 {d : Nat} {Fg : Nat → Prop} {h0 : hp} {Q : Option sV → kV → Prop} {V : kV} {bc bs : Nat} {v0 : sV} {v1 : sV} {v2 : sV} {v3 : sV} {v4 : sV} {v5 : sV} {v6 : sV} {r7 : Option Nat} {v8 : sV} (K1 : ¬ (r7) = none → cWP d Fg h0 48 Q 32 [v0, v1, v2, v3, v4, v5, v6, sR (r7), v8] [] V bc bs) (K2 : (r7) = none → cWP d Fg h0 48 Q 30 [v0, v1, v2, v3, v4, v5, v6, sR (r7), v8] [] V bc bs) : cWP d Fg h0 48 Q 25 [v0, v1, v2, v3, v4, v5, v6, sR (r7), v8] [] V bc bs := by
  intro h R
  refine w_aload mb48 dX6_copy_25 27 rfl rfl ?_
  refine w_ifnonnull mb48 dX6_copy_27 32 30 (by decide) rfl (fun z => ?_) (fun z => ?_)
  · exact K1 z h R
  · exact K2 z h R

theorem bX6_copy_30 {d : Nat} {Fg : Nat → Prop} {h0 : hp} {Q : Option sV → kV → Prop} {V : kV} {bc bs : Nat} {v0 : sV} {v1 : sV} {v2 : sV} {v3 : sV} {v4 : sV} {v5 : sV} {v6 : sV} {v7 : sV} {v8 : sV} (K : Q (some (sI ((-1)))) V) : cWP d Fg h0 48 Q 30 [v0, v1, v2, v3, v4, v5, v6, v7, v8] [] V bc bs := by
  intro h R
  refine w_iconst mb48 dX6_copy_30 31 rfl ((-1)) (by decide) ?_
  refine w_iret mb48 dX6_copy_31 rfl ?_
  exact ⟨_, R, K⟩

theorem bX6_copy_32 {d : Nat} {Fg : Nat → Prop} {h0 : hp} {Q : Option sV → kV → Prop} {V : kV} {bc bs : Nat} {v0 : sV} {v1 : sV} {v2 : sV} {v3 : sV} {v4 : sV} {v5 : sV} {a6 : Nat} {v7 : sV} {v8 : sV} {o_a6 : zO} (h1 : kO V (a6) = some o_a6) {bc1 bs1 : Nat} {P : Option sV → kV → Prop} (C : cM d Fg h0 3 [sR (some a6)] V bc1 bs1 P) (hbc : bc1 ≤ bc) (hbs : bs1 ≤ bs) (K : ∀ r V1, P r V1 → cWP d Fg h0 48 Q 37 [v0, v1, v2, v3, v4, v5, sR (some a6), v7, v8] (r.toList ++ []) V1 (bc - bc1) (bs - bs1)) : cWP d Fg h0 48 Q 32 [v0, v1, v2, v3, v4, v5, sR (some a6), v7, v8] [] V bc bs := by
  intro h R
  refine w_aload mb48 dX6_copy_32 34 rfl rfl ?_
  refine w_virtual (a := a6) (c := 1) (st := []) mb48 dX6_copy_34 37 rfl 3 0 [] _ rfl rfl rfl lc6_42 (R.ko h1) (Nat.le_of_ble_eq_true rfl) (C h R) hbc hbs (fun r h1 hP => ?_)
  obtain ⟨V1, R1, hP⟩ := hP
  exact K r V1 hP h1 R1

theorem bX6_copy_37 {d : Nat} {Fg : Nat → Prop} {h0 : hp} {Q : Option sV → kV → Prop} {V : kV} {bc bs : Nat} {v0 : sV} {v1 : sV} {v2 : sV} {v3 : sV} {v4 : sV} {v5 : sV} {v6 : sV} {v7 : sV} {v8 : sV} {y0 : Int32} (K1 : ¬ (y0) = 0 → cWP d Fg h0 48 Q 48 [v0, v1, v2, v3, v4, v5, v6, v7, v8] [] V bc bs) (K2 : (y0) = 0 → cWP d Fg h0 48 Q 40 [v0, v1, v2, v3, v4, v5, v6, v7, v8] [] V bc bs) : cWP d Fg h0 48 Q 37 [v0, v1, v2, v3, v4, v5, v6, v7, v8] [sI (y0)] V bc bs := by
  intro h R
  refine w_if_ne mb48 dX6_copy_37 48 40 (by decide) rfl (fun z => ?_) (fun z => ?_)
  · exact K1 z h R
  · exact K2 z h R

theorem bX6_copy_40 {d : Nat} {Fg : Nat → Prop} {h0 : hp} {Q : Option sV → kV → Prop} {V : kV} {bc bs : Nat} {v0 : sV} {v1 : sV} {v2 : sV} {v3 : sV} {v4 : sV} {v5 : sV} {v6 : sV} {a7 : Nat} {v8 : sV} {o_a7 : zO} (h1 : kO V (a7) = some o_a7) {bc1 bs1 : Nat} {P : Option sV → kV → Prop} (C : cM d Fg h0 3 [sR (some a7)] V bc1 bs1 P) (hbc : bc1 ≤ bc) (hbs : bs1 ≤ bs) (K : ∀ r V1, P r V1 → cWP d Fg h0 48 Q 45 [v0, v1, v2, v3, v4, v5, v6, sR (some a7), v8] (r.toList ++ []) V1 (bc - bc1) (bs - bs1)) : cWP d Fg h0 48 Q 40 [v0, v1, v2, v3, v4, v5, v6, sR (some a7), v8] [] V bc bs := by
  intro h R
  refine w_aload mb48 dX6_copy_40 42 rfl rfl ?_
  refine w_virtual (a := a7) (c := 1) (st := []) mb48 dX6_copy_42 45 rfl 3 0 [] _ rfl rfl rfl lc6_42 (R.ko h1) (Nat.le_of_ble_eq_true rfl) (C h R) hbc hbs (fun r h1 hP => ?_)
  obtain ⟨V1, R1, hP⟩ := hP
  exact K r V1 hP h1 R1

theorem bX6_copy_45 {d : Nat} {Fg : Nat → Prop} {h0 : hp} {Q : Option sV → kV → Prop} {V : kV} {bc bs : Nat} {v0 : sV} {v1 : sV} {v2 : sV} {v3 : sV} {v4 : sV} {v5 : sV} {v6 : sV} {v7 : sV} {v8 : sV} {y0 : Int32} (K1 : (y0) = 0 → cWP d Fg h0 48 Q 57 [v0, v1, v2, v3, v4, v5, v6, v7, v8] [] V bc bs) (K2 : ¬ (y0) = 0 → cWP d Fg h0 48 Q 48 [v0, v1, v2, v3, v4, v5, v6, v7, v8] [] V bc bs) : cWP d Fg h0 48 Q 45 [v0, v1, v2, v3, v4, v5, v6, v7, v8] [sI (y0)] V bc bs := by
  intro h R
  refine w_if_eq mb48 dX6_copy_45 57 48 (by decide) rfl (fun z => ?_) (fun z => ?_)
  · exact K1 z h R
  · exact K2 z h R

theorem bX6_copy_48 {d : Nat} {Fg : Nat → Prop} {h0 : hp} {Q : Option sV → kV → Prop} {V : kV} {bc bs : Nat} {a0 : Nat} {v1 : sV} {v2 : sV} {v3 : sV} {v4 : sV} {v5 : sV} {v6 : sV} {v7 : sV} {v8 : sV} {b49 : Nat} (h1 : kR V 600 (a0) = some b49) (h2 : kC V (a0) = 7) (h3 : kC V (b49) = 1) {bc1 bs1 : Nat} {P : Option sV → kV → Prop} (C : cM d Fg h0 1 [sR (some b49), sI (1)] V bc1 bs1 P) (hbc : bc1 ≤ bc) (hbs : bs1 ≤ bs) (K : ∀ r V1, P r V1 → cWP d Fg h0 48 Q 56 [sR (some a0), v1, v2, v3, v4, v5, v6, v7, v8] (r.toList ++ []) V1 (bc - bc1) (bs - bs1)) : cWP d Fg h0 48 Q 48 [sR (some a0), v1, v2, v3, v4, v5, v6, v7, v8] [] V bc bs := by
  intro h R
  refine w_aload_n mb48 dX6_copy_48 49 rfl rfl ?_
  refine y_getr mb48 dX6_copy_49 52 rfl R 600 lf6_12 rfl rfl rfl rfl h2 h1 ?_
  refine w_iconst mb48 dX6_copy_52 53 rfl (1) (by decide) ?_
  refine w_virtual (a := b49) (c := 0) (st := []) mb48 dX6_copy_53 56 rfl 1 1 [sI (1)] _ rfl rfl rfl lc6_34 (R.k h3) (Nat.le_of_ble_eq_true rfl) (C h R) hbc hbs (fun r h1 hP => ?_)
  obtain ⟨V1, R1, hP⟩ := hP
  exact K r V1 hP h1 R1

theorem bX6_copy_56 {d : Nat} {Fg : Nat → Prop} {h0 : hp} {Q : Option sV → kV → Prop} {V : kV} {bc bs : Nat} {v0 : sV} {v1 : sV} {v2 : sV} {v3 : sV} {v4 : sV} {v5 : sV} {v6 : sV} {v7 : sV} {v8 : sV} {y0 : Int32} (K : Q (some (sI (y0))) V) : cWP d Fg h0 48 Q 56 [v0, v1, v2, v3, v4, v5, v6, v7, v8] [sI (y0)] V bc bs := by
  intro h R
  refine w_iret mb48 dX6_copy_56 rfl ?_
  exact ⟨_, R, K⟩

theorem bX6_copy_57 {d : Nat} {Fg : Nat → Prop} {h0 : hp} {Q : Option sV → kV → Prop} {V : kV} {bc bs : Nat} {v0 : sV} {v1 : sV} {x2 : Int32} {v3 : sV} {v4 : sV} {x5 : Int32} {a6 : Nat} {v7 : sV} {v8 : sV} {o_a6 : zO} (h1 : kO V (a6) = some o_a6) {bc1 bs1 : Nat} {P : Option sV → kV → Prop} (C : cM d Fg h0 6 [sR (some a6), sI (x2), sI (x5)] V bc1 bs1 P) (hbc : bc1 ≤ bc) (hbs : bs1 ≤ bs) (K : ∀ r V1, P r V1 → cWP d Fg h0 48 Q 65 [v0, v1, sI (x2), v3, v4, sI (x5), sR (some a6), v7, v8] (r.toList ++ []) V1 (bc - bc1) (bs - bs1)) : cWP d Fg h0 48 Q 57 [v0, v1, sI (x2), v3, v4, sI (x5), sR (some a6), v7, v8] [] V bc bs := by
  intro h R
  refine w_aload mb48 dX6_copy_57 59 rfl rfl ?_
  refine w_iload_n mb48 dX6_copy_59 60 rfl rfl ?_
  refine w_iload mb48 dX6_copy_60 62 rfl rfl ?_
  refine w_virtual (a := a6) (c := 1) (st := []) mb48 dX6_copy_62 65 rfl 6 2 [sI (x2), sI (x5)] _ rfl rfl rfl lc6_69 (R.ko h1) (Nat.le_of_ble_eq_true rfl) (C h R) hbc hbs (fun r h1 hP => ?_)
  obtain ⟨V1, R1, hP⟩ := hP
  exact K r V1 hP h1 R1

theorem bX6_copy_65 {d : Nat} {Fg : Nat → Prop} {h0 : hp} {Q : Option sV → kV → Prop} {V : kV} {bc bs : Nat} {v0 : sV} {v1 : sV} {v2 : sV} {v3 : sV} {v4 : sV} {v5 : sV} {v6 : sV} {v7 : sV} {v8 : sV} {y0 : Int32} (K1 : (y0) = 0 → cWP d Fg h0 48 Q 80 [v0, v1, v2, v3, v4, v5, v6, v7, v8] [] V bc bs) (K2 : ¬ (y0) = 0 → cWP d Fg h0 48 Q 68 [v0, v1, v2, v3, v4, v5, v6, v7, v8] [] V bc bs) : cWP d Fg h0 48 Q 65 [v0, v1, v2, v3, v4, v5, v6, v7, v8] [sI (y0)] V bc bs := by
  intro h R
  refine w_if_eq mb48 dX6_copy_65 80 68 (by decide) rfl (fun z => ?_) (fun z => ?_)
  · exact K1 z h R
  · exact K2 z h R

theorem bX6_copy_68 {d : Nat} {Fg : Nat → Prop} {h0 : hp} {Q : Option sV → kV → Prop} {V : kV} {bc bs : Nat} {v0 : sV} {v1 : sV} {v2 : sV} {v3 : sV} {x4 : Int32} {x5 : Int32} {v6 : sV} {a7 : Nat} {v8 : sV} {o_a7 : zO} (h1 : kO V (a7) = some o_a7) {bc1 bs1 : Nat} {P : Option sV → kV → Prop} (C : cM d Fg h0 6 [sR (some a7), sI (x4), sI (x5)] V bc1 bs1 P) (hbc : bc1 ≤ bc) (hbs : bs1 ≤ bs) (K : ∀ r V1, P r V1 → cWP d Fg h0 48 Q 77 [v0, v1, v2, v3, sI (x4), sI (x5), v6, sR (some a7), v8] (r.toList ++ []) V1 (bc - bc1) (bs - bs1)) : cWP d Fg h0 48 Q 68 [v0, v1, v2, v3, sI (x4), sI (x5), v6, sR (some a7), v8] [] V bc bs := by
  intro h R
  refine w_aload mb48 dX6_copy_68 70 rfl rfl ?_
  refine w_iload mb48 dX6_copy_70 72 rfl rfl ?_
  refine w_iload mb48 dX6_copy_72 74 rfl rfl ?_
  refine w_virtual (a := a7) (c := 1) (st := []) mb48 dX6_copy_74 77 rfl 6 2 [sI (x4), sI (x5)] _ rfl rfl rfl lc6_69 (R.ko h1) (Nat.le_of_ble_eq_true rfl) (C h R) hbc hbs (fun r h1 hP => ?_)
  obtain ⟨V1, R1, hP⟩ := hP
  exact K r V1 hP h1 R1

theorem bX6_copy_77 {d : Nat} {Fg : Nat → Prop} {h0 : hp} {Q : Option sV → kV → Prop} {V : kV} {bc bs : Nat} {v0 : sV} {v1 : sV} {v2 : sV} {v3 : sV} {v4 : sV} {v5 : sV} {v6 : sV} {v7 : sV} {v8 : sV} {y0 : Int32} (K1 : ¬ (y0) = 0 → cWP d Fg h0 48 Q 89 [v0, v1, v2, v3, v4, v5, v6, v7, v8] [] V bc bs) (K2 : (y0) = 0 → cWP d Fg h0 48 Q 80 [v0, v1, v2, v3, v4, v5, v6, v7, v8] [] V bc bs) : cWP d Fg h0 48 Q 77 [v0, v1, v2, v3, v4, v5, v6, v7, v8] [sI (y0)] V bc bs := by
  intro h R
  refine w_if_ne mb48 dX6_copy_77 89 80 (by decide) rfl (fun z => ?_) (fun z => ?_)
  · exact K1 z h R
  · exact K2 z h R

theorem bX6_copy_80 {d : Nat} {Fg : Nat → Prop} {h0 : hp} {Q : Option sV → kV → Prop} {V : kV} {bc bs : Nat} {a0 : Nat} {v1 : sV} {v2 : sV} {v3 : sV} {v4 : sV} {v5 : sV} {v6 : sV} {v7 : sV} {v8 : sV} {b81 : Nat} (h1 : kR V 600 (a0) = some b81) (h2 : kC V (a0) = 7) (h3 : kC V (b81) = 1) {bc1 bs1 : Nat} {P : Option sV → kV → Prop} (C : cM d Fg h0 1 [sR (some b81), sI (4)] V bc1 bs1 P) (hbc : bc1 ≤ bc) (hbs : bs1 ≤ bs) (K : ∀ r V1, P r V1 → cWP d Fg h0 48 Q 88 [sR (some a0), v1, v2, v3, v4, v5, v6, v7, v8] (r.toList ++ []) V1 (bc - bc1) (bs - bs1)) : cWP d Fg h0 48 Q 80 [sR (some a0), v1, v2, v3, v4, v5, v6, v7, v8] [] V bc bs := by
  intro h R
  refine w_aload_n mb48 dX6_copy_80 81 rfl rfl ?_
  refine y_getr mb48 dX6_copy_81 84 rfl R 600 lf6_12 rfl rfl rfl rfl h2 h1 ?_
  refine w_iconst mb48 dX6_copy_84 85 rfl (4) (by decide) ?_
  refine w_virtual (a := b81) (c := 0) (st := []) mb48 dX6_copy_85 88 rfl 1 1 [sI (4)] _ rfl rfl rfl lc6_34 (R.k h3) (Nat.le_of_ble_eq_true rfl) (C h R) hbc hbs (fun r h1 hP => ?_)
  obtain ⟨V1, R1, hP⟩ := hP
  exact K r V1 hP h1 R1

theorem bX6_copy_88 {d : Nat} {Fg : Nat → Prop} {h0 : hp} {Q : Option sV → kV → Prop} {V : kV} {bc bs : Nat} {v0 : sV} {v1 : sV} {v2 : sV} {v3 : sV} {v4 : sV} {v5 : sV} {v6 : sV} {v7 : sV} {v8 : sV} {y0 : Int32} (K : Q (some (sI (y0))) V) : cWP d Fg h0 48 Q 88 [v0, v1, v2, v3, v4, v5, v6, v7, v8] [sI (y0)] V bc bs := by
  intro h R
  refine w_iret mb48 dX6_copy_88 rfl ?_
  exact ⟨_, R, K⟩

theorem bX6_copy_89 {d : Nat} {Fg : Nat → Prop} {h0 : hp} {Q : Option sV → kV → Prop} {V : kV} {bc bs : Nat} {v0 : sV} {v1 : sV} {v2 : sV} {v3 : sV} {v4 : sV} {v5 : sV} {v6 : sV} {a7 : Nat} {v8 : sV} {o_a7 : zO} (h1 : kO V (a7) = some o_a7) (h2 : 1 ≤ bc) (h3 : o_a7.2.2.length ≤ bs) (K : ∀ y g, ¬ kD V y → (∀ j, j < o_a7.2.2.length → g j = o_a7.2.2.getD j 0) → cWP d Fg h0 48 Q 97 [v0, v1, v2, v3, v4, v5, v6, sR (some a7), v8] [sR (some y)] (uW V y (some (o_a7.2.2.length, g))) (bc - 1) (bs - o_a7.2.2.length)) : cWP d Fg h0 48 Q 89 [v0, v1, v2, v3, v4, v5, v6, sR (some a7), v8] [] V bc bs := by
  intro h R
  refine w_aload mb48 dX6_copy_89 91 rfl rfl ?_
  refine y_o2 mb48 dX6_copy_91 94 rfl R lf6_52 h1 ?_
  refine y_clone (st := []) mb48 dX6_copy_94 97 rfl R h1 lk6_56 (Nat.le_of_ble_eq_true rfl) h2 h3 (fun y h g hy hg R => ?_)
  exact K y g hy hg h R

theorem bX6_copy_97 {d : Nat} {Fg : Nat → Prop} {h0 : hp} {Q : Option sV → kV → Prop} {V : kV} {bc bs : Nat} {v0 : sV} {v1 : sV} {x2 : Int32} {v3 : sV} {x4 : Int32} {x5 : Int32} {a6 : Nat} {v7 : sV} {v8 : sV} {z0 : Nat} {n_z0 : Nat} {g_z0 : Nat → Int32} {o_a6 : zO} (h1 : kW V z0 = some (n_z0, g_z0)) (h2 : kO V (a6) = some o_a6) (h3 : ¬ (x2 : Int32) < 0) (h4 : ¬ (x4 : Int32) < 0) (h5 : ¬ (x5 : Int32) < 0) (h6 : (x2 : Int32).toNatClampNeg + (x5 : Int32).toNatClampNeg ≤ o_a6.2.2.length) (h7 : (x4 : Int32).toNatClampNeg + (x5 : Int32).toNatClampNeg ≤ n_z0) (K : ∀ f, (∀ j, j < o_a6.2.2.length → f j = o_a6.2.2.getD j 0) → cWP d Fg h0 48 Q 117 [v0, v1, sI (x2), v3, sI (x4), sI (x5), sR (some a6), v7, sR (some z0)] [] (uW V z0 (some (n_z0, va_cpy f (g_z0) (x2 : Int32).toNatClampNeg (x4 : Int32).toNatClampNeg (x5 : Int32).toNatClampNeg))) bc bs) : cWP d Fg h0 48 Q 97 [v0, v1, sI (x2), v3, sI (x4), sI (x5), sR (some a6), v7, v8] [sR (some z0)] V bc bs := by
  intro h R
  refine y_cast mb48 dX6_copy_97 100 rfl R h1 lx6_57 ?_
  refine w_astore mb48 dX6_copy_100 102 rfl [v0, v1, sI (x2), v3, sI (x4), sI (x5), sR (some a6), v7, sR (some z0)] (Nat.le_of_ble_eq_true rfl) rfl ?_
  refine w_aload mb48 dX6_copy_102 104 rfl rfl ?_
  refine y_o2 mb48 dX6_copy_104 107 rfl R lf6_52 h2 ?_
  refine w_iload_n mb48 dX6_copy_107 108 rfl rfl ?_
  refine w_aload mb48 dX6_copy_108 110 rfl rfl ?_
  refine w_iload mb48 dX6_copy_110 112 rfl rfl ?_
  refine w_iload mb48 dX6_copy_112 114 rfl rfl ?_
  refine y_copy (st := []) mb48 dX6_copy_114 117 rfl R h2 h1 ly6_73 (Nat.le_of_ble_eq_true rfl) h3 h4 h5 h6 h7 (fun h f hf R => ?_)
  exact K f hf h R

theorem bX6_copy_117 {d : Nat} {Fg : Nat → Prop} {h0 : hp} {Q : Option sV → kV → Prop} {V : kV} {bc bs : Nat} {a0 : Nat} {v1 : sV} {v2 : sV} {x3 : Int32} {v4 : sV} {v5 : sV} {v6 : sV} {v7 : sV} {r8 : Option Nat} {b118 : Nat} (h1 : kR V 602 (a0) = some b118) (h2 : kC V (a0) = 7) (h3 : kC V (b118) = 5) {bc1 bs1 : Nat} {P : Option sV → kV → Prop} (C : cM d Fg h0 33 [sR (some b118), sI (x3), sR (r8)] V bc1 bs1 P) (hbc : bc1 ≤ bc) (hbs : bs1 ≤ bs) (K : ∀ r V1, P r V1 → cWP d Fg h0 48 Q 127 [sR (some a0), v1, v2, sI (x3), v4, v5, v6, v7, sR (r8)] (r.toList ++ []) V1 (bc - bc1) (bs - bs1)) : cWP d Fg h0 48 Q 117 [sR (some a0), v1, v2, sI (x3), v4, v5, v6, v7, sR (r8)] [] V bc bs := by
  intro h R
  refine w_aload_n mb48 dX6_copy_117 118 rfl rfl ?_
  refine y_getr mb48 dX6_copy_118 121 rfl R 602 lf6_27 rfl rfl rfl rfl h2 h1 ?_
  refine w_iload_n mb48 dX6_copy_121 122 rfl rfl ?_
  refine w_aload mb48 dX6_copy_122 124 rfl rfl ?_
  refine w_virtual (a := b118) (c := 4) (st := []) mb48 dX6_copy_124 127 rfl 33 2 [sI (x3), sR (r8)] _ rfl rfl rfl lc6_38 (R.k h3) (Nat.le_of_ble_eq_true rfl) (C h R) hbc hbs (fun r h1 hP => ?_)
  obtain ⟨V1, R1, hP⟩ := hP
  exact K r V1 hP h1 R1

theorem bX6_copy_127 {d : Nat} {Fg : Nat → Prop} {h0 : hp} {Q : Option sV → kV → Prop} {V : kV} {bc bs : Nat} {v0 : sV} {v1 : sV} {v2 : sV} {v3 : sV} {v4 : sV} {x5 : Int32} {v6 : sV} {v7 : sV} {v8 : sV} (K : Q (some (sI (x5))) V) : cWP d Fg h0 48 Q 127 [v0, v1, v2, v3, v4, sI (x5), v6, v7, v8] [] V bc bs := by
  intro h R
  refine w_iload mb48 dX6_copy_127 129 rfl rfl ?_
  refine w_iret mb48 dX6_copy_129 rfl ?_
  exact ⟨_, R, K⟩

theorem bX6_size_0 {d : Nat} {Fg : Nat → Prop} {h0 : hp} {Q : Option sV → kV → Prop} {V : kV} {bc bs : Nat} {a0 : Nat} {x1 : Int32} {v2 : sV} {b1 : Nat} (h1 : kR V 602 (a0) = some b1) (h2 : kC V (a0) = 7) (h3 : kC V (b1) = 5) {bc1 bs1 : Nat} {P : Option sV → kV → Prop} (C : cM d Fg h0 32 [sR (some b1), sI (x1)] V bc1 bs1 P) (hbc : bc1 ≤ bc) (hbs : bs1 ≤ bs) (K : ∀ r V1, P r V1 → cWP d Fg h0 49 Q 8 [sR (some a0), sI (x1), v2] (r.toList ++ []) V1 (bc - bc1) (bs - bs1)) : cWP d Fg h0 49 Q 0 [sR (some a0), sI (x1), v2] [] V bc bs := by
  intro h R
  refine w_aload_n mb49 dX6_size_0 1 rfl rfl ?_
  refine y_getr mb49 dX6_size_1 4 rfl R 602 lf6_27 rfl rfl rfl rfl h2 h1 ?_
  refine w_iload_n mb49 dX6_size_4 5 rfl rfl ?_
  refine w_virtual (a := b1) (c := 4) (st := []) mb49 dX6_size_5 8 rfl 32 1 [sI (x1)] _ rfl rfl rfl lc6_28 (R.k h3) (Nat.le_of_ble_eq_true rfl) (C h R) hbc hbs (fun r h1 hP => ?_)
  obtain ⟨V1, R1, hP⟩ := hP
  exact K r V1 hP h1 R1

theorem bX6_size_8 {d : Nat} {Fg : Nat → Prop} {h0 : hp} {Q : Option sV → kV → Prop} {V : kV} {bc bs : Nat} {v0 : sV} {v1 : sV} {v2 : sV} {z0 : Option Nat} (K1 : ¬ (z0) = none → cWP d Fg h0 49 Q 22 [v0, v1, sR (z0)] [] V bc bs) (K2 : (z0) = none → cWP d Fg h0 49 Q 13 [v0, v1, sR (z0)] [] V bc bs) : cWP d Fg h0 49 Q 8 [v0, v1, v2] [sR (z0)] V bc bs := by
  intro h R
  refine w_astore_n mb49 dX6_size_8 9 rfl [v0, v1, sR (z0)] (Nat.le_of_ble_eq_true rfl) rfl ?_
  refine w_aload_n mb49 dX6_size_9 10 rfl rfl ?_
  refine w_ifnonnull mb49 dX6_size_10 22 13 (by decide) rfl (fun z => ?_) (fun z => ?_)
  · exact K1 z h R
  · exact K2 z h R

theorem bX6_size_13 {d : Nat} {Fg : Nat → Prop} {h0 : hp} {Q : Option sV → kV → Prop} {V : kV} {bc bs : Nat} {a0 : Nat} {v1 : sV} {v2 : sV} {b14 : Nat} (h1 : kR V 600 (a0) = some b14) (h2 : kC V (a0) = 7) (h3 : kC V (b14) = 1) {bc1 bs1 : Nat} {P : Option sV → kV → Prop} (C : cM d Fg h0 1 [sR (some b14), sI (2)] V bc1 bs1 P) (hbc : bc1 ≤ bc) (hbs : bs1 ≤ bs) (K : ∀ r V1, P r V1 → cWP d Fg h0 49 Q 21 [sR (some a0), v1, v2] (r.toList ++ []) V1 (bc - bc1) (bs - bs1)) : cWP d Fg h0 49 Q 13 [sR (some a0), v1, v2] [] V bc bs := by
  intro h R
  refine w_aload_n mb49 dX6_size_13 14 rfl rfl ?_
  refine y_getr mb49 dX6_size_14 17 rfl R 600 lf6_12 rfl rfl rfl rfl h2 h1 ?_
  refine w_iconst mb49 dX6_size_17 18 rfl (2) (by decide) ?_
  refine w_virtual (a := b14) (c := 0) (st := []) mb49 dX6_size_18 21 rfl 1 1 [sI (2)] _ rfl rfl rfl lc6_34 (R.k h3) (Nat.le_of_ble_eq_true rfl) (C h R) hbc hbs (fun r h1 hP => ?_)
  obtain ⟨V1, R1, hP⟩ := hP
  exact K r V1 hP h1 R1

theorem bX6_size_21 {d : Nat} {Fg : Nat → Prop} {h0 : hp} {Q : Option sV → kV → Prop} {V : kV} {bc bs : Nat} {v0 : sV} {v1 : sV} {v2 : sV} {y0 : Int32} (K : Q (some (sI (y0))) V) : cWP d Fg h0 49 Q 21 [v0, v1, v2] [sI (y0)] V bc bs := by
  intro h R
  refine w_iret mb49 dX6_size_21 rfl ?_
  exact ⟨_, R, K⟩

theorem bX6_size_22 {d : Nat} {Fg : Nat → Prop} {h0 : hp} {Q : Option sV → kV → Prop} {V : kV} {bc bs : Nat} {v0 : sV} {v1 : sV} {a2 : Nat} {o_a2 : zO} (h1 : kO V (a2) = some o_a2) {bc1 bs1 : Nat} {P : Option sV → kV → Prop} (C : cM d Fg h0 3 [sR (some a2)] V bc1 bs1 P) (hbc : bc1 ≤ bc) (hbs : bs1 ≤ bs) (K : ∀ r V1, P r V1 → cWP d Fg h0 49 Q 26 [v0, v1, sR (some a2)] (r.toList ++ []) V1 (bc - bc1) (bs - bs1)) : cWP d Fg h0 49 Q 22 [v0, v1, sR (some a2)] [] V bc bs := by
  intro h R
  refine w_aload_n mb49 dX6_size_22 23 rfl rfl ?_
  refine w_virtual (a := a2) (c := 1) (st := []) mb49 dX6_size_23 26 rfl 3 0 [] _ rfl rfl rfl lc6_42 (R.ko h1) (Nat.le_of_ble_eq_true rfl) (C h R) hbc hbs (fun r h1 hP => ?_)
  obtain ⟨V1, R1, hP⟩ := hP
  exact K r V1 hP h1 R1

theorem bX6_size_26 {d : Nat} {Fg : Nat → Prop} {h0 : hp} {Q : Option sV → kV → Prop} {V : kV} {bc bs : Nat} {v0 : sV} {v1 : sV} {v2 : sV} {y0 : Int32} (K1 : (y0) = 0 → cWP d Fg h0 49 Q 38 [v0, v1, v2] [] V bc bs) (K2 : ¬ (y0) = 0 → cWP d Fg h0 49 Q 29 [v0, v1, v2] [] V bc bs) : cWP d Fg h0 49 Q 26 [v0, v1, v2] [sI (y0)] V bc bs := by
  intro h R
  refine w_if_eq mb49 dX6_size_26 38 29 (by decide) rfl (fun z => ?_) (fun z => ?_)
  · exact K1 z h R
  · exact K2 z h R

theorem bX6_size_29 {d : Nat} {Fg : Nat → Prop} {h0 : hp} {Q : Option sV → kV → Prop} {V : kV} {bc bs : Nat} {a0 : Nat} {v1 : sV} {v2 : sV} {b30 : Nat} (h1 : kR V 600 (a0) = some b30) (h2 : kC V (a0) = 7) (h3 : kC V (b30) = 1) {bc1 bs1 : Nat} {P : Option sV → kV → Prop} (C : cM d Fg h0 1 [sR (some b30), sI (1)] V bc1 bs1 P) (hbc : bc1 ≤ bc) (hbs : bs1 ≤ bs) (K : ∀ r V1, P r V1 → cWP d Fg h0 49 Q 37 [sR (some a0), v1, v2] (r.toList ++ []) V1 (bc - bc1) (bs - bs1)) : cWP d Fg h0 49 Q 29 [sR (some a0), v1, v2] [] V bc bs := by
  intro h R
  refine w_aload_n mb49 dX6_size_29 30 rfl rfl ?_
  refine y_getr mb49 dX6_size_30 33 rfl R 600 lf6_12 rfl rfl rfl rfl h2 h1 ?_
  refine w_iconst mb49 dX6_size_33 34 rfl (1) (by decide) ?_
  refine w_virtual (a := b30) (c := 0) (st := []) mb49 dX6_size_34 37 rfl 1 1 [sI (1)] _ rfl rfl rfl lc6_34 (R.k h3) (Nat.le_of_ble_eq_true rfl) (C h R) hbc hbs (fun r h1 hP => ?_)
  obtain ⟨V1, R1, hP⟩ := hP
  exact K r V1 hP h1 R1

theorem bX6_size_37 {d : Nat} {Fg : Nat → Prop} {h0 : hp} {Q : Option sV → kV → Prop} {V : kV} {bc bs : Nat} {v0 : sV} {v1 : sV} {v2 : sV} {y0 : Int32} (K : Q (some (sI (y0))) V) : cWP d Fg h0 49 Q 37 [v0, v1, v2] [sI (y0)] V bc bs := by
  intro h R
  refine w_iret mb49 dX6_size_37 rfl ?_
  exact ⟨_, R, K⟩

theorem bX6_size_38 {d : Nat} {Fg : Nat → Prop} {h0 : hp} {Q : Option sV → kV → Prop} {V : kV} {bc bs : Nat} {v0 : sV} {v1 : sV} {a2 : Nat} {o_a2 : zO} (h1 : kO V (a2) = some o_a2) (K : Q (some (sI (nI o_a2.2.2.length))) V) : cWP d Fg h0 49 Q 38 [v0, v1, sR (some a2)] [] V bc bs := by
  intro h R
  refine w_aload_n mb49 dX6_size_38 39 rfl rfl ?_
  refine y_o2 mb49 dX6_size_39 42 rfl R lf6_52 h1 ?_
  refine y_rlen mb49 dX6_size_42 43 rfl R h1 ?_
  refine w_iret mb49 dX6_size_43 rfl ?_
  exact ⟨_, R, K⟩

theorem bX6_told_0 {d : Nat} {Fg : Nat → Prop} {h0 : hp} {Q : Option sV → kV → Prop} {V : kV} {bc bs : Nat} {a0 : Nat} {x1 : Int32} {v2 : sV} {v3 : sV} {b1 : Nat} (h1 : kR V 602 (a0) = some b1) (h2 : kC V (a0) = 7) (h3 : kC V (b1) = 5) {bc1 bs1 : Nat} {P : Option sV → kV → Prop} (C : cM d Fg h0 32 [sR (some b1), sI (x1)] V bc1 bs1 P) (hbc : bc1 ≤ bc) (hbs : bs1 ≤ bs) (K : ∀ r V1, P r V1 → cWP d Fg h0 50 Q 8 [sR (some a0), sI (x1), v2, v3] (r.toList ++ []) V1 (bc - bc1) (bs - bs1)) : cWP d Fg h0 50 Q 0 [sR (some a0), sI (x1), v2, v3] [] V bc bs := by
  intro h R
  refine w_aload_n mb50 dX6_told_0 1 rfl rfl ?_
  refine y_getr mb50 dX6_told_1 4 rfl R 602 lf6_27 rfl rfl rfl rfl h2 h1 ?_
  refine w_iload_n mb50 dX6_told_4 5 rfl rfl ?_
  refine w_virtual (a := b1) (c := 4) (st := []) mb50 dX6_told_5 8 rfl 32 1 [sI (x1)] _ rfl rfl rfl lc6_28 (R.k h3) (Nat.le_of_ble_eq_true rfl) (C h R) hbc hbs (fun r h1 hP => ?_)
  obtain ⟨V1, R1, hP⟩ := hP
  exact K r V1 hP h1 R1

theorem bX6_told_8 {d : Nat} {Fg : Nat → Prop} {h0 : hp} {Q : Option sV → kV → Prop} {V : kV} {bc bs : Nat} {v0 : sV} {v1 : sV} {v2 : sV} {v3 : sV} {z0 : Option Nat} (K1 : ¬ (z0) = none → cWP d Fg h0 50 Q 17 [v0, v1, v2, sR (z0)] [] V bc bs) (K2 : (z0) = none → cWP d Fg h0 50 Q 13 [v0, v1, v2, sR (z0)] [] V bc bs) : cWP d Fg h0 50 Q 8 [v0, v1, v2, v3] [sR (z0)] V bc bs := by
  intro h R
  refine w_astore_n mb50 dX6_told_8 9 rfl [v0, v1, v2, sR (z0)] (Nat.le_of_ble_eq_true rfl) rfl ?_
  refine w_aload_n mb50 dX6_told_9 10 rfl rfl ?_
  refine w_ifnonnull mb50 dX6_told_10 17 13 (by decide) rfl (fun z => ?_) (fun z => ?_)
  · exact K1 z h R
  · exact K2 z h R

theorem bX6_told_13 {d : Nat} {Fg : Nat → Prop} {h0 : hp} {Q : Option sV → kV → Prop} {V : kV} {bc bs : Nat} {v0 : sV} {v1 : sV} {v2 : sV} {v3 : sV} (K : cWP d Fg h0 50 Q 22 [v0, v1, v2, v3] [sI (0)] V bc bs) : cWP d Fg h0 50 Q 13 [v0, v1, v2, v3] [] V bc bs := by
  intro h R
  refine w_iconst mb50 dX6_told_13 14 rfl (0) (by decide) ?_
  refine w_goto mb50 dX6_told_14 22 (by decide) ?_
  exact K h R

theorem bX6_told_17 {d : Nat} {Fg : Nat → Prop} {h0 : hp} {Q : Option sV → kV → Prop} {V : kV} {bc bs : Nat} {v0 : sV} {v1 : sV} {x2 : Int32} {a3 : Nat} {o_a3 : zO} (h1 : kO V (a3) = some o_a3) {bc1 bs1 : Nat} {P : Option sV → kV → Prop} (C : cM d Fg h0 5 [sR (some a3), sI (x2)] V bc1 bs1 P) (hbc : bc1 ≤ bc) (hbs : bs1 ≤ bs) (K : ∀ r V1, P r V1 → cWP d Fg h0 50 Q 22 [v0, v1, sI (x2), sR (some a3)] (r.toList ++ []) V1 (bc - bc1) (bs - bs1)) : cWP d Fg h0 50 Q 17 [v0, v1, sI (x2), sR (some a3)] [] V bc bs := by
  intro h R
  refine w_aload_n mb50 dX6_told_17 18 rfl rfl ?_
  refine w_iload_n mb50 dX6_told_18 19 rfl rfl ?_
  refine w_virtual (a := a3) (c := 1) (st := []) mb50 dX6_told_19 22 rfl 5 1 [sI (x2)] _ rfl rfl rfl lc6_79 (R.ko h1) (Nat.le_of_ble_eq_true rfl) (C h R) hbc hbs (fun r h1 hP => ?_)
  obtain ⟨V1, R1, hP⟩ := hP
  exact K r V1 hP h1 R1

theorem bX6_told_22 {d : Nat} {Fg : Nat → Prop} {h0 : hp} {Q : Option sV → kV → Prop} {V : kV} {bc bs : Nat} {v0 : sV} {v1 : sV} {v2 : sV} {v3 : sV} {y0 : Int32} (K : Q (some (sI (y0))) V) : cWP d Fg h0 50 Q 22 [v0, v1, v2, v3] [sI (y0)] V bc bs := by
  intro h R
  refine w_iret mb50 dX6_told_22 rfl ?_
  exact ⟨_, R, K⟩

theorem bX6_rule_0 {d : Nat} {Fg : Nat → Prop} {h0 : hp} {Q : Option sV → kV → Prop} {V : kV} {bc bs : Nat} {v0 : sV} {x1 : Int32} {v2 : sV} {bc1 bs1 : Nat} {P : Option sV → kV → Prop} (C : cM d Fg h0 68 [sI (x1)] V bc1 bs1 P) (hbc : bc1 ≤ bc) (hbs : bs1 ≤ bs) (K : ∀ r V1, P r V1 → cWP d Fg h0 51 Q 4 [v0, sI (x1), v2] (r.toList ++ []) V1 (bc - bc1) (bs - bs1)) : cWP d Fg h0 51 Q 0 [v0, sI (x1), v2] [] V bc bs := by
  intro h R
  refine w_iload_n mb51 dX6_rule_0 1 rfl rfl ?_
  refine w_static (st := []) mb51 dX6_rule_1 4 rfl 68 1 [sI (x1)] _ rfl rfl rfl lc6_82 (Nat.le_of_ble_eq_true rfl) (C h R) hbc hbs (fun r h1 hP => ?_)
  obtain ⟨V1, R1, hP⟩ := hP
  exact K r V1 hP h1 R1

theorem bX6_rule_4 {d : Nat} {Fg : Nat → Prop} {h0 : hp} {Q : Option sV → kV → Prop} {V : kV} {bc bs : Nat} {v0 : sV} {v1 : sV} {v2 : sV} {y0 : Int32} (K1 : ¬ (y0) = 0 → cWP d Fg h0 51 Q 9 [v0, v1, v2] [] V bc bs) (K2 : (y0) = 0 → cWP d Fg h0 51 Q 7 [v0, v1, v2] [] V bc bs) : cWP d Fg h0 51 Q 4 [v0, v1, v2] [sI (y0)] V bc bs := by
  intro h R
  refine w_if_ne mb51 dX6_rule_4 9 7 (by decide) rfl (fun z => ?_) (fun z => ?_)
  · exact K1 z h R
  · exact K2 z h R

theorem bX6_rule_7 {d : Nat} {Fg : Nat → Prop} {h0 : hp} {Q : Option sV → kV → Prop} {V : kV} {bc bs : Nat} {v0 : sV} {v1 : sV} {v2 : sV} (K : Q (some (sI ((-1)))) V) : cWP d Fg h0 51 Q 7 [v0, v1, v2] [] V bc bs := by
  intro h R
  refine w_iconst mb51 dX6_rule_7 8 rfl ((-1)) (by decide) ?_
  refine w_iret mb51 dX6_rule_8 rfl ?_
  exact ⟨_, R, K⟩

theorem bX6_rule_9 {d : Nat} {Fg : Nat → Prop} {h0 : hp} {Q : Option sV → kV → Prop} {V : kV} {bc bs : Nat} {a0 : Nat} {v1 : sV} {v2 : sV} {b10 : Nat} (h1 : kR V 602 (a0) = some b10) (h2 : kC V (a0) = 7) (h3 : kC V (b10) = 5) (K1 : (kI V 402 (b10)) < (24) → cWP d Fg h0 51 Q 24 [sR (some a0), v1, v2] [] V bc bs) (K2 : ¬ (kI V 402 (b10)) < (24) → cWP d Fg h0 51 Q 21 [sR (some a0), v1, v2] [] V bc bs) : cWP d Fg h0 51 Q 9 [sR (some a0), v1, v2] [] V bc bs := by
  intro h R
  refine w_aload_n mb51 dX6_rule_9 10 rfl rfl ?_
  refine y_getr mb51 dX6_rule_10 13 rfl R 602 lf6_27 rfl rfl rfl rfl h2 h1 ?_
  refine y_geti mb51 dX6_rule_13 16 rfl R 402 lf6_85 rfl rfl rfl h3 (x := kI V 402 (b10)) (by first | rfl | exact if_pos ⟨rfl, rfl⟩) ?_
  refine w_bipush mb51 dX6_rule_16 18 rfl (24) (by decide) ?_
  refine w_icmp_lt mb51 dX6_rule_18 24 21 (by decide) rfl (fun z => ?_) (fun z => ?_)
  · exact K1 z h R
  · exact K2 z h R

theorem bX6_rule_21 {d : Nat} {Fg : Nat → Prop} {h0 : hp} {Q : Option sV → kV → Prop} {V : kV} {bc bs : Nat} {v0 : sV} {v1 : sV} {v2 : sV} (K : Q (some (sI ((-2)))) V) : cWP d Fg h0 51 Q 21 [v0, v1, v2] [] V bc bs := by
  intro h R
  refine w_bipush mb51 dX6_rule_21 23 rfl ((-2)) (by decide) ?_
  refine w_iret mb51 dX6_rule_23 rfl ?_
  exact ⟨_, R, K⟩

theorem bX6_rule_24 {d : Nat} {Fg : Nat → Prop} {h0 : hp} {Q : Option sV → kV → Prop} {V : kV} {bc bs : Nat} {a0 : Nat} {x1 : Int32} {x2 : Int32} {b25 : Nat} (h1 : kR V 602 (a0) = some b25) (h2 : kC V (a0) = 7) (h3 : kC V (b25) = 5) {bc1 bs1 : Nat} {P : Option sV → kV → Prop} (C : cM d Fg h0 35 [sR (some b25), sI (x1), sI (x2)] V bc1 bs1 P) (hbc : bc1 ≤ bc) (hbs : bs1 ≤ bs) (K : ∀ r V1, P r V1 → cWP d Fg h0 51 Q 33 [sR (some a0), sI (x1), sI (x2)] (r.toList ++ []) V1 (bc - bc1) (bs - bs1)) : cWP d Fg h0 51 Q 24 [sR (some a0), sI (x1), sI (x2)] [] V bc bs := by
  intro h R
  refine w_aload_n mb51 dX6_rule_24 25 rfl rfl ?_
  refine y_getr mb51 dX6_rule_25 28 rfl R 602 lf6_27 rfl rfl rfl rfl h2 h1 ?_
  refine w_iload_n mb51 dX6_rule_28 29 rfl rfl ?_
  refine w_iload_n mb51 dX6_rule_29 30 rfl rfl ?_
  refine w_virtual (a := b25) (c := 4) (st := []) mb51 dX6_rule_30 33 rfl 35 2 [sI (x1), sI (x2)] _ rfl rfl rfl lc6_89 (R.k h3) (Nat.le_of_ble_eq_true rfl) (C h R) hbc hbs (fun r h1 hP => ?_)
  obtain ⟨V1, R1, hP⟩ := hP
  exact K r V1 hP h1 R1

theorem bX6_rule_33 {d : Nat} {Fg : Nat → Prop} {h0 : hp} {Q : Option sV → kV → Prop} {V : kV} {bc bs : Nat} {v0 : sV} {v1 : sV} {v2 : sV} {y0 : Int32} (K : Q (some (sI (y0))) V) : cWP d Fg h0 51 Q 33 [v0, v1, v2] [sI (y0)] V bc bs := by
  intro h R
  refine w_iret mb51 dX6_rule_33 rfl ?_
  exact ⟨_, R, K⟩
