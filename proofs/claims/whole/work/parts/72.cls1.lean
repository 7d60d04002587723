theorem bX2_closeRing_52 {d : Nat} {Fg : Nat → Prop} {h0 : hp} {Q : Option sV → kV → Prop} {V : kV} {bc bs : Nat} {v0 : sV} {v1 : sV} {x2 : Int32} {a3 : Nat} {v4 : sV} {v5 : sV} {v6 : sV} {a7 : Nat} (h1 : kC V (a7) = 4) (h2 : kC V (a3) = 4) (K1 : (kI V 300 (a3)) ≤ (kI V 300 (a7)) → cWP d Fg h0 12 Q 79 [v0, v1, sI ((x2) ||| ((1) <<< ((kI V 300 (a7)) &&& 31))), sR (some a3), v4, v5, v6, sR (some a7)] [] V bc bs) (K2 : ¬ (kI V 300 (a3)) ≤ (kI V 300 (a7)) → cWP d Fg h0 12 Q 74 [v0, v1, sI ((x2) ||| ((1) <<< ((kI V 300 (a7)) &&& 31))), sR (some a3), v4, v5, v6, sR (some a7)] [] V bc bs) : cWP d Fg h0 12 Q 52 [v0, v1, sI (x2), sR (some a3), v4, v5, v6, sR (some a7)] [] V bc bs := by
  intro h R
  refine w_iload_n mb12 dX2_closeRing_52 53 rfl rfl ?_
  refine w_iconst mb12 dX2_closeRing_53 54 rfl (1) (by decide) ?_
  refine w_aload mb12 dX2_closeRing_54 56 rfl rfl ?_
  refine y_geti mb12 dX2_closeRing_56 59 rfl R 300 lf2_102 rfl rfl rfl h1 (x := kI V 300 (a7)) (by first | rfl | exact if_pos ⟨rfl, rfl⟩) ?_
  refine w_ishl mb12 dX2_closeRing_59 60 rfl ?_
  refine w_ior mb12 dX2_closeRing_60 61 rfl ?_
  refine w_istore_n mb12 dX2_closeRing_61 62 rfl [v0, v1, sI ((x2) ||| ((1) <<< ((kI V 300 (a7)) &&& 31))), sR (some a3), v4, v5, v6, sR (some a7)] (Nat.le_of_ble_eq_true rfl) rfl ?_
  refine w_aload mb12 dX2_closeRing_62 64 rfl rfl ?_
  refine y_geti mb12 dX2_closeRing_64 67 rfl R 300 lf2_102 rfl rfl rfl h1 (x := kI V 300 (a7)) (by first | rfl | exact if_pos ⟨rfl, rfl⟩) ?_
  refine w_aload_n mb12 dX2_closeRing_67 68 rfl rfl ?_
  refine y_geti mb12 dX2_closeRing_68 71 rfl R 300 lf2_102 rfl rfl rfl h2 (x := kI V 300 (a3)) (by first | rfl | exact if_pos ⟨rfl, rfl⟩) ?_
  refine w_icmp_ge mb12 dX2_closeRing_71 79 74 (by decide) rfl (fun z => ?_) (fun z => ?_)
  · exact K1 z h R
  · exact K2 z h R

theorem bX2_closeRing_74 {d : Nat} {Fg : Nat → Prop} {h0 : hp} {Q : Option sV → kV → Prop} {V : kV} {bc bs : Nat} {v0 : sV} {v1 : sV} {v2 : sV} {v3 : sV} {v4 : sV} {v5 : sV} {v6 : sV} {r7 : Option Nat} (K : cWP d Fg h0 12 Q 80 [v0, v1, v2, v3, v4, v5, v6, sR (r7)] [sR (r7)] V bc bs) : cWP d Fg h0 12 Q 74 [v0, v1, v2, v3, v4, v5, v6, sR (r7)] [] V bc bs := by
  intro h R
  refine w_aload mb12 dX2_closeRing_74 76 rfl rfl ?_
  refine w_goto mb12 dX2_closeRing_76 80 (by decide) ?_
  exact K h R

theorem bX2_closeRing_79 {d : Nat} {Fg : Nat → Prop} {h0 : hp} {Q : Option sV → kV → Prop} {V : kV} {bc bs : Nat} {v0 : sV} {v1 : sV} {v2 : sV} {r3 : Option Nat} {v4 : sV} {v5 : sV} {v6 : sV} {v7 : sV} (K : cWP d Fg h0 12 Q 80 [v0, v1, v2, sR (r3), v4, v5, v6, v7] [sR (r3)] V bc bs) : cWP d Fg h0 12 Q 79 [v0, v1, v2, sR (r3), v4, v5, v6, v7] [] V bc bs := by
  intro h R
  refine w_aload_n mb12 dX2_closeRing_79 80 rfl rfl ?_
  exact K h R

theorem bX2_closeRing_80 {d : Nat} {Fg : Nat → Prop} {h0 : hp} {Q : Option sV → kV → Prop} {V : kV} {bc bs : Nat} {v0 : sV} {v1 : sV} {v2 : sV} {v3 : sV} {v4 : sV} {v5 : sV} {v6 : sV} {v7 : sV} {z0 : Option Nat} (K : cWP d Fg h0 12 Q 81 [v0, v1, v2, sR (z0), v4, v5, v6, v7] [] V bc bs) : cWP d Fg h0 12 Q 80 [v0, v1, v2, v3, v4, v5, v6, v7] [sR (z0)] V bc bs := by
  intro h R
  refine w_astore_n mb12 dX2_closeRing_80 81 rfl [v0, v1, v2, sR (z0), v4, v5, v6, v7] (Nat.le_of_ble_eq_true rfl) rfl ?_
  exact K h R

theorem bX2_closeRing_81 {d : Nat} {Fg : Nat → Prop} {h0 : hp} {Q : Option sV → kV → Prop} {V : kV} {bc bs : Nat} {v0 : sV} {v1 : sV} {v2 : sV} {v3 : sV} {v4 : sV} {v5 : sV} {x6 : Int32} {v7 : sV} (K : cWP d Fg h0 12 Q 21 [v0, v1, v2, v3, v4, v5, sI (x6 + 1), v7] [] V bc bs) : cWP d Fg h0 12 Q 81 [v0, v1, v2, v3, v4, v5, sI (x6), v7] [] V bc bs := by
  intro h R
  refine w_iinc mb12 dX2_closeRing_81 84 rfl rfl (x6 + 1) rfl [v0, v1, v2, v3, v4, v5, sI (x6 + 1), v7] rfl ?_
  refine w_goto mb12 dX2_closeRing_84 21 (by decide) ?_
  exact K h R

theorem bX2_closeRing_87 {d : Nat} {Fg : Nat → Prop} {h0 : hp} {Q : Option sV → kV → Prop} {V : kV} {bc bs : Nat} {a0 : Nat} {v1 : sV} {v2 : sV} {v3 : sV} {v4 : sV} {v5 : sV} {v6 : sV} {v7 : sV} {b88 : Nat} (h1 : kR V 200 (a0) = some b88) (h2 : kC V (a0) = 3) (h3 : kC V (b88) = 5) (K : cWP d Fg h0 12 Q 104 [sR (some a0), v1, v2, v3, sR (some (kr V 401 (b88))), sI (24), sI (0), v7] [] V bc bs) : cWP d Fg h0 12 Q 87 [sR (some a0), v1, v2, v3, v4, v5, v6, v7] [] V bc bs := by
  intro h R
  refine w_aload_n mb12 dX2_closeRing_87 88 rfl rfl ?_
  refine y_getr mb12 dX2_closeRing_88 91 rfl R 200 lf2_12 rfl rfl rfl rfl h2 h1 ?_
  refine y_geta mb12 dX2_closeRing_91 94 rfl R 401 lf2_36 rfl rfl rfl (by decide) h3 ?_
  refine w_astore mb12 dX2_closeRing_94 96 rfl [sR (some a0), v1, v2, v3, sR (some (kr V 401 (b88))), v5, v6, v7] (Nat.le_of_ble_eq_true rfl) rfl ?_
  refine w_aload mb12 dX2_closeRing_96 98 rfl rfl ?_
  refine y_alen (f := 401) (a := b88) (c := 5) mb12 dX2_closeRing_98 99 rfl R (24) (by decide) (by decide) rfl h3 ?_
  refine w_istore mb12 dX2_closeRing_99 101 rfl [sR (some a0), v1, v2, v3, sR (some (kr V 401 (b88))), sI (24), v6, v7] (Nat.le_of_ble_eq_true rfl) rfl ?_
  refine w_iconst mb12 dX2_closeRing_101 102 rfl (0) (by decide) ?_
  refine w_istore mb12 dX2_closeRing_102 104 rfl [sR (some a0), v1, v2, v3, sR (some (kr V 401 (b88))), sI (24), sI (0), v7] (Nat.le_of_ble_eq_true rfl) rfl ?_
  exact K h R

theorem bX2_closeRing_104 {d : Nat} {Fg : Nat → Prop} {h0 : hp} {Q : Option sV → kV → Prop} {V : kV} {bc bs : Nat} {v0 : sV} {v1 : sV} {v2 : sV} {v3 : sV} {v4 : sV} {x5 : Int32} {x6 : Int32} {v7 : sV} (K1 : (x5) ≤ (x6) → cWP d Fg h0 12 Q 156 [v0, v1, v2, v3, v4, sI (x5), sI (x6), v7] [] V bc bs) (K2 : ¬ (x5) ≤ (x6) → cWP d Fg h0 12 Q 111 [v0, v1, v2, v3, v4, sI (x5), sI (x6), v7] [] V bc bs) : cWP d Fg h0 12 Q 104 [v0, v1, v2, v3, v4, sI (x5), sI (x6), v7] [] V bc bs := by
  intro h R
  refine w_iload mb12 dX2_closeRing_104 106 rfl rfl ?_
  refine w_iload mb12 dX2_closeRing_106 108 rfl rfl ?_
  refine w_icmp_ge mb12 dX2_closeRing_108 156 111 (by decide) rfl (fun z => ?_) (fun z => ?_)
  · exact K1 z h R
  · exact K2 z h R

theorem bX2_closeRing_111 {d : Nat} {Fg : Nat → Prop} {h0 : hp} {Q : Option sV → kV → Prop} {V : kV} {bc bs : Nat} {v0 : sV} {v1 : sV} {v2 : sV} {v3 : sV} {sh : Nat} {v5 : sV} {x6 : Int32} {v7 : sV} (h1 : vp_in (x6) 24) (h2 : kC V (sh) = 5) (K1 : (kB V 401 (sh) (x6).toNatClampNeg) = none → cWP d Fg h0 12 Q 150 [v0, v1, v2, v3, sR (some (kr V 401 sh)), v5, sI (x6), sR (kB V 401 (sh) (x6).toNatClampNeg)] [] V bc bs) (K2 : ¬ (kB V 401 (sh) (x6).toNatClampNeg) = none → cWP d Fg h0 12 Q 123 [v0, v1, v2, v3, sR (some (kr V 401 sh)), v5, sI (x6), sR (kB V 401 (sh) (x6).toNatClampNeg)] [] V bc bs) : cWP d Fg h0 12 Q 111 [v0, v1, v2, v3, sR (some (kr V 401 sh)), v5, sI (x6), v7] [] V bc bs := by
  intro h R
  refine w_aload mb12 dX2_closeRing_111 113 rfl rfl ?_
  refine w_iload mb12 dX2_closeRing_113 115 rfl rfl ?_
  refine y_aald (f := 401) (a := sh) (c := 5) mb12 dX2_closeRing_115 116 rfl R 24 rfl (by decide) (by decide) rfl h2 h1 (x := kB V 401 (sh) (x6).toNatClampNeg) rfl ?_
  refine w_astore mb12 dX2_closeRing_116 118 rfl [v0, v1, v2, v3, sR (some (kr V 401 sh)), v5, sI (x6), sR (kB V 401 (sh) (x6).toNatClampNeg)] (Nat.le_of_ble_eq_true rfl) rfl ?_
  refine w_aload mb12 dX2_closeRing_118 120 rfl rfl ?_
  refine w_ifnull mb12 dX2_closeRing_120 150 123 (by decide) rfl (fun z => ?_) (fun z => ?_)
  · exact K1 z h R
  · exact K2 z h R

theorem bX2_closeRing_123 {d : Nat} {Fg : Nat → Prop} {h0 : hp} {Q : Option sV → kV → Prop} {V : kV} {bc bs : Nat} {v0 : sV} {a1 : Nat} {v2 : sV} {v3 : sV} {v4 : sV} {v5 : sV} {v6 : sV} {a7 : Nat} (h1 : kC V (a7) = 4) (h2 : kC V (a1) = 4) (K1 : (kI V 311 (a7)) < (kI V 311 (a1)) → cWP d Fg h0 12 Q 150 [v0, sR (some a1), v2, v3, v4, v5, v6, sR (some a7)] [] V bc bs) (K2 : ¬ (kI V 311 (a7)) < (kI V 311 (a1)) → cWP d Fg h0 12 Q 135 [v0, sR (some a1), v2, v3, v4, v5, v6, sR (some a7)] [] V bc bs) : cWP d Fg h0 12 Q 123 [v0, sR (some a1), v2, v3, v4, v5, v6, sR (some a7)] [] V bc bs := by
  intro h R
  refine w_aload mb12 dX2_closeRing_123 125 rfl rfl ?_
  refine y_geti mb12 dX2_closeRing_125 128 rfl R 311 lf2_93 rfl rfl rfl h1 (x := kI V 311 (a7)) (by first | rfl | exact if_pos ⟨rfl, rfl⟩) ?_
  refine w_aload_n mb12 dX2_closeRing_128 129 rfl rfl ?_
  refine y_geti mb12 dX2_closeRing_129 132 rfl R 311 lf2_93 rfl rfl rfl h2 (x := kI V 311 (a1)) (by first | rfl | exact if_pos ⟨rfl, rfl⟩) ?_
  refine w_icmp_lt mb12 dX2_closeRing_132 150 135 (by decide) rfl (fun z => ?_) (fun z => ?_)
  · exact K1 z h R
  · exact K2 z h R

theorem bX2_closeRing_135 {d : Nat} {Fg : Nat → Prop} {h0 : hp} {Q : Option sV → kV → Prop} {V : kV} {bc bs : Nat} {v0 : sV} {v1 : sV} {x2 : Int32} {a3 : Nat} {v4 : sV} {v5 : sV} {v6 : sV} {a7 : Nat} (h1 : kC V (a7) = 4) (h2 : kC V (a3) = 4) (K : cWP d Fg h0 12 Q 150 [v0, v1, sI (x2), sR (some a3), v4, v5, v6, sR (some a7)] [] (uR (uI V (310) (a7) (x2)) (309) (a7) (kR V 313 (a3))) bc bs) : cWP d Fg h0 12 Q 135 [v0, v1, sI (x2), sR (some a3), v4, v5, v6, sR (some a7)] [] V bc bs := by
  intro h R
  refine w_aload mb12 dX2_closeRing_135 137 rfl rfl ?_
  refine w_iload_n mb12 dX2_closeRing_137 138 rfl rfl ?_
  refine y_puti mb12 dX2_closeRing_138 141 rfl R 310 (lp2_80 _) rfl rfl rfl h1 (fun h R => ?_)
  refine w_aload mb12 dX2_closeRing_141 143 rfl rfl ?_
  refine w_aload_n mb12 dX2_closeRing_143 144 rfl rfl ?_
  refine y_getr mb12 dX2_closeRing_144 147 rfl R 313 lf2_105 rfl rfl rfl rfl h2 rfl ?_
  refine y_putr mb12 dX2_closeRing_147 150 rfl R 309 (lp2_108 _) (by first | exact Or.inl ⟨_, rfl⟩ | exact Or.inr ⟨_, rfl⟩) rfl rfl rfl h1 (fun h R => ?_)
  exact K h R

theorem bX2_closeRing_150 {d : Nat} {Fg : Nat → Prop} {h0 : hp} {Q : Option sV → kV → Prop} {V : kV} {bc bs : Nat} {v0 : sV} {v1 : sV} {v2 : sV} {v3 : sV} {v4 : sV} {v5 : sV} {x6 : Int32} {v7 : sV} (K : cWP d Fg h0 12 Q 104 [v0, v1, v2, v3, v4, v5, sI (x6 + 1), v7] [] V bc bs) : cWP d Fg h0 12 Q 150 [v0, v1, v2, v3, v4, v5, sI (x6), v7] [] V bc bs := by
  intro h R
  refine w_iinc mb12 dX2_closeRing_150 153 rfl rfl (x6 + 1) rfl [v0, v1, v2, v3, v4, v5, sI (x6 + 1), v7] rfl ?_
  refine w_goto mb12 dX2_closeRing_153 104 (by decide) ?_
  exact K h R

theorem bX2_closeRing_156 {d : Nat} {Fg : Nat → Prop} {h0 : hp} {Q : Option sV → kV → Prop} {V : kV} {bc bs : Nat} {v0 : sV} {v1 : sV} {v2 : sV} {a3 : Nat} {v4 : sV} {v5 : sV} {v6 : sV} {v7 : sV} (h1 : kC V (a3) = 4) (K : Q (some (sR (kR V 313 (a3)))) V) : cWP d Fg h0 12 Q 156 [v0, v1, v2, sR (some a3), v4, v5, v6, v7] [] V bc bs := by
  intro h R
  refine w_aload_n mb12 dX2_closeRing_156 157 rfl rfl ?_
  refine y_getr mb12 dX2_closeRing_157 160 rfl R 313 lf2_105 rfl rfl rfl rfl h1 rfl ?_
  refine w_aret mb12 dX2_closeRing_160 _ rfl (by first | exact Or.inl ⟨_, rfl⟩ | exact Or.inr ⟨_, rfl⟩) ?_
  exact ⟨_, R, K⟩

theorem bX2_makeRule_0 {d : Nat} {Fg : Nat → Prop} {h0 : hp} {Q : Option sV → kV → Prop} {V : kV} {bc bs : Nat} {a0 : Nat} {a1 : Nat} {v2 : sV} (h1 : kC V (a0) = 3) (h2 : kC V (a1) = 4) (K1 : (kI V 208 (a0)) = 0 → cWP d Fg h0 13 Q 29 [sR (some a0), sR (some a1), v2] [] (uI (uI V (209) (a0) ((kI V 209 (a0)) + (1))) (311) (a1) ((kI V 209 (a0)) + (1))) bc bs) (K2 : ¬ (kI V 208 (a0)) = 0 → cWP d Fg h0 13 Q 25 [sR (some a0), sR (some a1), v2] [] (uI (uI V (209) (a0) ((kI V 209 (a0)) + (1))) (311) (a1) ((kI V 209 (a0)) + (1))) bc bs) : cWP d Fg h0 13 Q 0 [sR (some a0), sR (some a1), v2] [] V bc bs := by
  intro h R
  refine w_aload_n mb13 dX2_makeRule_0 1 rfl rfl ?_
  refine w_dup mb13 dX2_makeRule_1 2 rfl rfl ?_
  refine y_geti mb13 dX2_makeRule_2 5 rfl R 209 lf2_96 rfl rfl rfl h1 (x := kI V 209 (a0)) (by first | rfl | exact if_pos ⟨rfl, rfl⟩) ?_
  refine w_iconst mb13 dX2_makeRule_5 6 rfl (1) (by decide) ?_
  refine w_iadd mb13 dX2_makeRule_6 7 rfl ?_
  refine y_puti mb13 dX2_makeRule_7 10 rfl R 209 (lp2_96 _) rfl rfl rfl h1 (fun h R => ?_)
  refine w_aload_n mb13 dX2_makeRule_10 11 rfl rfl ?_
  refine w_aload_n mb13 dX2_makeRule_11 12 rfl rfl ?_
  refine y_geti mb13 dX2_makeRule_12 15 rfl R 209 lf2_96 rfl rfl rfl h1 (x := (kI V 209 (a0)) + (1)) (by first | rfl | exact if_pos ⟨rfl, rfl⟩) ?_
  refine y_puti mb13 dX2_makeRule_15 18 rfl R 311 (lp2_93 _) rfl rfl rfl h2 (fun h R => ?_)
  refine w_aload_n mb13 dX2_makeRule_18 19 rfl rfl ?_
  refine y_geti mb13 dX2_makeRule_19 22 rfl R 208 lf2_22 rfl rfl rfl h1 (x := kI V 208 (a0)) (by first | rfl | exact if_pos ⟨rfl, rfl⟩) ?_
  refine w_if_eq mb13 dX2_makeRule_22 29 25 (by decide) rfl (fun z => ?_) (fun z => ?_)
  · exact K1 z h R
  · exact K2 z h R

theorem bX2_makeRule_25 {d : Nat} {Fg : Nat → Prop} {h0 : hp} {Q : Option sV → kV → Prop} {V : kV} {bc bs : Nat} {v0 : sV} {v1 : sV} {v2 : sV} (K : cWP d Fg h0 13 Q 34 [v0, v1, v2] [sR (none)] V bc bs) : cWP d Fg h0 13 Q 25 [v0, v1, v2] [] V bc bs := by
  intro h R
  refine w_null mb13 dX2_makeRule_25 26 rfl ?_
  refine w_goto mb13 dX2_makeRule_26 34 (by decide) ?_
  exact K h R

theorem bX2_makeRule_29 {d : Nat} {Fg : Nat → Prop} {h0 : hp} {Q : Option sV → kV → Prop} {V : kV} {bc bs : Nat} {a0 : Nat} {r1 : Option Nat} {v2 : sV} (h1 : kC V (a0) = 3) {bc1 bs1 : Nat} {P : Option sV → kV → Prop} (C : cM d Fg h0 14 [sR (some a0), sR (r1)] V bc1 bs1 P) (hbc : bc1 ≤ bc) (hbs : bs1 ≤ bs) (K : ∀ r V1, P r V1 → cWP d Fg h0 13 Q 34 [sR (some a0), sR (r1), v2] (r.toList ++ []) V1 (bc - bc1) (bs - bs1)) : cWP d Fg h0 13 Q 29 [sR (some a0), sR (r1), v2] [] V bc bs := by
  intro h R
  refine w_aload_n mb13 dX2_makeRule_29 30 rfl rfl ?_
  refine w_aload_n mb13 dX2_makeRule_30 31 rfl rfl ?_
  refine w_virtual (a := a0) (c := 2) (st := []) mb13 dX2_makeRule_31 34 rfl 14 1 [sR (r1)] _ rfl rfl rfl lc2_111 (R.k h1) (Nat.le_of_ble_eq_true rfl) (C h R) hbc hbs (fun r h1 hP => ?_)
  obtain ⟨V1, R1, hP⟩ := hP
  exact K r V1 hP h1 R1

theorem bX2_makeRule_34 {d : Nat} {Fg : Nat → Prop} {h0 : hp} {Q : Option sV → kV → Prop} {V : kV} {bc bs : Nat} {v0 : sV} {v1 : sV} {v2 : sV} {z0 : Option Nat} (K1 : ¬ (z0) = none → cWP d Fg h0 13 Q 45 [v0, v1, sR (z0)] [] V bc bs) (K2 : (z0) = none → cWP d Fg h0 13 Q 39 [v0, v1, sR (z0)] [] V bc bs) : cWP d Fg h0 13 Q 34 [v0, v1, v2] [sR (z0)] V bc bs := by
  intro h R
  refine w_astore_n mb13 dX2_makeRule_34 35 rfl [v0, v1, sR (z0)] (Nat.le_of_ble_eq_true rfl) rfl ?_
  refine w_aload_n mb13 dX2_makeRule_35 36 rfl rfl ?_
  refine w_ifnonnull mb13 dX2_makeRule_36 45 39 (by decide) rfl (fun z => ?_) (fun z => ?_)
  · exact K1 z h R
  · exact K2 z h R

theorem bX2_makeRule_39 {d : Nat} {Fg : Nat → Prop} {h0 : hp} {Q : Option sV → kV → Prop} {V : kV} {bc bs : Nat} {a0 : Nat} {r1 : Option Nat} {v2 : sV} (h1 : kC V (a0) = 3) {bc1 bs1 : Nat} {P : Option sV → kV → Prop} (C : cM d Fg h0 16 [sR (some a0), sR (r1)] V bc1 bs1 P) (hbc : bc1 ≤ bc) (hbs : bs1 ≤ bs) (K : ∀ r V1, P r V1 → cWP d Fg h0 13 Q 44 [sR (some a0), sR (r1), v2] (r.toList ++ []) V1 (bc - bc1) (bs - bs1)) : cWP d Fg h0 13 Q 39 [sR (some a0), sR (r1), v2] [] V bc bs := by
  intro h R
  refine w_aload_n mb13 dX2_makeRule_39 40 rfl rfl ?_
  refine w_aload_n mb13 dX2_makeRule_40 41 rfl rfl ?_
  refine w_virtual (a := a0) (c := 2) (st := []) mb13 dX2_makeRule_41 44 rfl 16 1 [sR (r1)] _ rfl rfl rfl lc2_114 (R.k h1) (Nat.le_of_ble_eq_true rfl) (C h R) hbc hbs (fun r h1 hP => ?_)
  obtain ⟨V1, R1, hP⟩ := hP
  exact K r V1 hP h1 R1

theorem bX2_makeRule_44 {d : Nat} {Fg : Nat → Prop} {h0 : hp} {Q : Option sV → kV → Prop} {V : kV} {bc bs : Nat} {v0 : sV} {v1 : sV} {v2 : sV} {z0 : Option Nat} (K : cWP d Fg h0 13 Q 45 [v0, v1, sR (z0)] [] V bc bs) : cWP d Fg h0 13 Q 44 [v0, v1, v2] [sR (z0)] V bc bs := by
  intro h R
  refine w_astore_n mb13 dX2_makeRule_44 45 rfl [v0, v1, sR (z0)] (Nat.le_of_ble_eq_true rfl) rfl ?_
  exact K h R

theorem bX2_makeRule_45 {d : Nat} {Fg : Nat → Prop} {h0 : hp} {Q : Option sV → kV → Prop} {V : kV} {bc bs : Nat} {a0 : Nat} {a1 : Nat} {r2 : Option Nat} (h1 : kC V (a1) = 4) (h2 : kC V (a0) = 3) (K : Q (some (sR (r2))) (uI (uI (uR V (308) (a1) (r2)) (311) (a1) (0)) (209) (a0) ((kI V 209 (a0)) - (1)))) : cWP d Fg h0 13 Q 45 [sR (some a0), sR (some a1), sR (r2)] [] V bc bs := by
  intro h R
  refine w_aload_n mb13 dX2_makeRule_45 46 rfl rfl ?_
  refine w_aload_n mb13 dX2_makeRule_46 47 rfl rfl ?_
  refine y_putr mb13 dX2_makeRule_47 50 rfl R 308 (lp2_90 _) (by first | exact Or.inl ⟨_, rfl⟩ | exact Or.inr ⟨_, rfl⟩) rfl rfl rfl h1 (fun h R => ?_)
  refine w_aload_n mb13 dX2_makeRule_50 51 rfl rfl ?_
  refine w_iconst mb13 dX2_makeRule_51 52 rfl (0) (by decide) ?_
  refine y_puti mb13 dX2_makeRule_52 55 rfl R 311 (lp2_93 _) rfl rfl rfl h1 (fun h R => ?_)
  refine w_aload_n mb13 dX2_makeRule_55 56 rfl rfl ?_
  refine w_dup mb13 dX2_makeRule_56 57 rfl rfl ?_
  refine y_geti mb13 dX2_makeRule_57 60 rfl R 209 lf2_96 rfl rfl rfl h2 (x := kI V 209 (a0)) (by first | rfl | exact if_pos ⟨rfl, rfl⟩) ?_
  refine w_iconst mb13 dX2_makeRule_60 61 rfl (1) (by decide) ?_
  refine w_isub mb13 dX2_makeRule_61 62 rfl ?_
  refine y_puti mb13 dX2_makeRule_62 65 rfl R 209 (lp2_96 _) rfl rfl rfl h2 (fun h R => ?_)
  refine w_aload_n mb13 dX2_makeRule_65 66 rfl rfl ?_
  refine w_aret mb13 dX2_makeRule_66 _ rfl (by first | exact Or.inl ⟨_, rfl⟩ | exact Or.inr ⟨_, rfl⟩) ?_
  exact ⟨_, R, K⟩

theorem bX2_lookAt_0 {d : Nat} {Fg : Nat → Prop} {h0 : hp} {Q : Option sV → kV → Prop} {V : kV} {bc bs : Nat} {v0 : sV} {v1 : sV} {v2 : sV} {v3 : sV} {v4 : sV} (K : cWP d Fg h0 14 Q 2 [v0, v1, sI (0), v3, v4] [] V bc bs) : cWP d Fg h0 14 Q 0 [v0, v1, v2, v3, v4] [] V bc bs := by
  intro h R
  refine w_iconst mb14 dX2_lookAt_0 1 rfl (0) (by decide) ?_
  refine w_istore_n mb14 dX2_lookAt_1 2 rfl [v0, v1, sI (0), v3, v4] (Nat.le_of_ble_eq_true rfl) rfl ?_
  exact K h R

theorem bX2_lookAt_2 {d : Nat} {Fg : Nat → Prop} {h0 : hp} {Q : Option sV → kV → Prop} {V : kV} {bc bs : Nat} {v0 : sV} {a1 : Nat} {x2 : Int32} {v3 : sV} {v4 : sV} (h1 : kC V (a1) = 4) (K1 : (kI V 305 (a1)) ≤ (x2) → cWP d Fg h0 14 Q 73 [v0, sR (some a1), sI (x2), v3, v4] [] V bc bs) (K2 : ¬ (kI V 305 (a1)) ≤ (x2) → cWP d Fg h0 14 Q 10 [v0, sR (some a1), sI (x2), v3, v4] [] V bc bs) : cWP d Fg h0 14 Q 2 [v0, sR (some a1), sI (x2), v3, v4] [] V bc bs := by
  intro h R
  refine w_iload_n mb14 dX2_lookAt_2 3 rfl rfl ?_
  refine w_aload_n mb14 dX2_lookAt_3 4 rfl rfl ?_
  refine y_geti mb14 dX2_lookAt_4 7 rfl R 305 lf2_117 rfl rfl rfl h1 (x := kI V 305 (a1)) (by first | rfl | exact if_pos ⟨rfl, rfl⟩) ?_
  refine w_icmp_ge mb14 dX2_lookAt_7 73 10 (by decide) rfl (fun z => ?_) (fun z => ?_)
  · exact K1 z h R
  · exact K2 z h R

theorem bX2_lookAt_10 {d : Nat} {Fg : Nat → Prop} {h0 : hp} {Q : Option sV → kV → Prop} {V : kV} {bc bs : Nat} {v0 : sV} {a1 : Nat} {x2 : Int32} {v3 : sV} {v4 : sV} (h1 : kC V (a1) = 4) {bc1 bs1 : Nat} {P : Option sV → kV → Prop} (C : cM d Fg h0 25 [sR (some a1), sI (x2)] V bc1 bs1 P) (hbc : bc1 ≤ bc) (hbs : bs1 ≤ bs) (K : ∀ r V1, P r V1 → cWP d Fg h0 14 Q 15 [v0, sR (some a1), sI (x2), v3, v4] (r.toList ++ []) V1 (bc - bc1) (bs - bs1)) : cWP d Fg h0 14 Q 10 [v0, sR (some a1), sI (x2), v3, v4] [] V bc bs := by
  intro h R
  refine w_aload_n mb14 dX2_lookAt_10 11 rfl rfl ?_
  refine w_iload_n mb14 dX2_lookAt_11 12 rfl rfl ?_
  refine w_virtual (a := a1) (c := 3) (st := []) mb14 dX2_lookAt_12 15 rfl 25 1 [sI (x2)] _ rfl rfl rfl lc2_120 (R.k h1) (Nat.le_of_ble_eq_true rfl) (C h R) hbc hbs (fun r h1 hP => ?_)
  obtain ⟨V1, R1, hP⟩ := hP
  exact K r V1 hP h1 R1

theorem bX2_lookAt_15 {d : Nat} {Fg : Nat → Prop} {h0 : hp} {Q : Option sV → kV → Prop} {V : kV} {bc bs : Nat} {v0 : sV} {v1 : sV} {v2 : sV} {v3 : sV} {v4 : sV} {z0 : Option Nat} (K1 : ¬ (z0) = none → cWP d Fg h0 14 Q 22 [v0, v1, v2, sR (z0), v4] [] V bc bs) (K2 : (z0) = none → cWP d Fg h0 14 Q 20 [v0, v1, v2, sR (z0), v4] [] V bc bs) : cWP d Fg h0 14 Q 15 [v0, v1, v2, v3, v4] [sR (z0)] V bc bs := by
  intro h R
  refine w_astore_n mb14 dX2_lookAt_15 16 rfl [v0, v1, v2, sR (z0), v4] (Nat.le_of_ble_eq_true rfl) rfl ?_
  refine w_aload_n mb14 dX2_lookAt_16 17 rfl rfl ?_
  refine w_ifnonnull mb14 dX2_lookAt_17 22 20 (by decide) rfl (fun z => ?_) (fun z => ?_)
  · exact K1 z h R
  · exact K2 z h R

theorem bX2_lookAt_20 {d : Nat} {Fg : Nat → Prop} {h0 : hp} {Q : Option sV → kV → Prop} {V : kV} {bc bs : Nat} {v0 : sV} {v1 : sV} {v2 : sV} {v3 : sV} {v4 : sV} (K : Q (some (sR (none))) V) : cWP d Fg h0 14 Q 20 [v0, v1, v2, v3, v4] [] V bc bs := by
  intro h R
  refine w_null mb14 dX2_lookAt_20 21 rfl ?_
  refine w_aret mb14 dX2_lookAt_21 _ rfl (by first | exact Or.inl ⟨_, rfl⟩ | exact Or.inr ⟨_, rfl⟩) ?_
  exact ⟨_, R, K⟩

theorem bX2_lookAt_22 {d : Nat} {Fg : Nat → Prop} {h0 : hp} {Q : Option sV → kV → Prop} {V : kV} {bc bs : Nat} {a0 : Nat} {r1 : Option Nat} {v2 : sV} {r3 : Option Nat} {v4 : sV} (h1 : kC V (a0) = 3) {bc1 bs1 : Nat} {P : Option sV → kV → Prop} (C : cM d Fg h0 15 [sR (some a0), sR (r1), sR (r3)] V bc1 bs1 P) (hbc : bc1 ≤ bc) (hbs : bs1 ≤ bs) (K : ∀ r V1, P r V1 → cWP d Fg h0 14 Q 28 [sR (some a0), sR (r1), v2, sR (r3), v4] (r.toList ++ []) V1 (bc - bc1) (bs - bs1)) : cWP d Fg h0 14 Q 22 [sR (some a0), sR (r1), v2, sR (r3), v4] [] V bc bs := by
  intro h R
  refine w_aload_n mb14 dX2_lookAt_22 23 rfl rfl ?_
  refine w_aload_n mb14 dX2_lookAt_23 24 rfl rfl ?_
  refine w_aload_n mb14 dX2_lookAt_24 25 rfl rfl ?_
  refine w_virtual (a := a0) (c := 2) (st := []) mb14 dX2_lookAt_25 28 rfl 15 2 [sR (r1), sR (r3)] _ rfl rfl rfl lc2_124 (R.k h1) (Nat.le_of_ble_eq_true rfl) (C h R) hbc hbs (fun r h1 hP => ?_)
  obtain ⟨V1, R1, hP⟩ := hP
  exact K r V1 hP h1 R1

theorem bX2_lookAt_28 {d : Nat} {Fg : Nat → Prop} {h0 : hp} {Q : Option sV → kV → Prop} {V : kV} {bc bs : Nat} {v0 : sV} {a1 : Nat} {x2 : Int32} {v3 : sV} {v4 : sV} {y0 : Int32} (h1 : kC V (a1) = 4) (h2 : vp_in (x2) 4) (K1 : (kR V 309 (a1)) = none → cWP d Fg h0 14 Q 50 [v0, sR (some a1), sI (x2), v3, sI (y0)] [] (uA V (307) (a1) ((x2).toNatClampNeg) (y0)) bc bs) (K2 : ¬ (kR V 309 (a1)) = none → cWP d Fg h0 14 Q 45 [v0, sR (some a1), sI (x2), v3, sI (y0)] [] (uA V (307) (a1) ((x2).toNatClampNeg) (y0)) bc bs) : cWP d Fg h0 14 Q 28 [v0, sR (some a1), sI (x2), v3, v4] [sI (y0)] V bc bs := by
  intro h R
  refine w_istore mb14 dX2_lookAt_28 30 rfl [v0, sR (some a1), sI (x2), v3, sI (y0)] (Nat.le_of_ble_eq_true rfl) rfl ?_
  refine w_aload_n mb14 dX2_lookAt_30 31 rfl rfl ?_
  refine y_geta mb14 dX2_lookAt_31 34 rfl R 307 lf2_128 rfl rfl rfl (by decide) h1 ?_
  refine w_iload_n mb14 dX2_lookAt_34 35 rfl rfl ?_
  refine w_iload mb14 dX2_lookAt_35 37 rfl rfl ?_
  refine y_iast (f := 307) (a := a1) (c := 4) mb14 dX2_lookAt_37 38 rfl R 4 rfl (by decide) rfl rfl h1 h2 (fun h R => ?_)
  refine w_aload_n mb14 dX2_lookAt_38 39 rfl rfl ?_
  refine y_getr mb14 dX2_lookAt_39 42 rfl R 309 lf2_108 rfl rfl rfl rfl h1 rfl ?_
  refine w_ifnull mb14 dX2_lookAt_42 50 45 (by decide) rfl (fun z => ?_) (fun z => ?_)
  · exact K1 z h R
  · exact K2 z h R

theorem bX2_lookAt_45 {d : Nat} {Fg : Nat → Prop} {h0 : hp} {Q : Option sV → kV → Prop} {V : kV} {bc bs : Nat} {v0 : sV} {a1 : Nat} {v2 : sV} {v3 : sV} {v4 : sV} (h1 : kC V (a1) = 4) (K : Q (some (sR (kR V 309 (a1)))) V) : cWP d Fg h0 14 Q 45 [v0, sR (some a1), v2, v3, v4] [] V bc bs := by
  intro h R
  refine w_aload_n mb14 dX2_lookAt_45 46 rfl rfl ?_
  refine y_getr mb14 dX2_lookAt_46 49 rfl R 309 lf2_108 rfl rfl rfl rfl h1 rfl ?_
  refine w_aret mb14 dX2_lookAt_49 _ rfl (by first | exact Or.inl ⟨_, rfl⟩ | exact Or.inr ⟨_, rfl⟩) ?_
  exact ⟨_, R, K⟩

theorem bX2_lookAt_50 {d : Nat} {Fg : Nat → Prop} {h0 : hp} {Q : Option sV → kV → Prop} {V : kV} {bc bs : Nat} {v0 : sV} {v1 : sV} {v2 : sV} {v3 : sV} {x4 : Int32} (K1 : ¬ (x4) = ((-2)) → cWP d Fg h0 14 Q 67 [v0, v1, v2, v3, sI (x4)] [] V bc bs) (K2 : (x4) = ((-2)) → cWP d Fg h0 14 Q 57 [v0, v1, v2, v3, sI (x4)] [] V bc bs) : cWP d Fg h0 14 Q 50 [v0, v1, v2, v3, sI (x4)] [] V bc bs := by
  intro h R
  refine w_iload mb14 dX2_lookAt_50 52 rfl rfl ?_
  refine w_bipush mb14 dX2_lookAt_52 54 rfl ((-2)) (by decide) ?_
  refine w_icmp_ne mb14 dX2_lookAt_54 67 57 (by decide) rfl (fun z => ?_) (fun z => ?_)
  · exact K1 z h R
  · exact K2 z h R

theorem bX2_lookAt_57 {d : Nat} {Fg : Nat → Prop} {h0 : hp} {Q : Option sV → kV → Prop} {V : kV} {bc bs : Nat} {v0 : sV} {a1 : Nat} {x2 : Int32} {v3 : sV} {v4 : sV} (h1 : kC V (a1) = 4) {bc1 bs1 : Nat} {P : Option sV → kV → Prop} (C : cM d Fg h0 29 [sR (some a1), sI (x2)] V bc1 bs1 P) (hbc : bc1 ≤ bc) (hbs : bs1 ≤ bs) (K : ∀ r V1, P r V1 → cWP d Fg h0 14 Q 62 [v0, sR (some a1), sI (x2), v3, v4] (r.toList ++ []) V1 (bc - bc1) (bs - bs1)) : cWP d Fg h0 14 Q 57 [v0, sR (some a1), sI (x2), v3, v4] [] V bc bs := by
  intro h R
  refine w_aload_n mb14 dX2_lookAt_57 58 rfl rfl ?_
  refine w_iload_n mb14 dX2_lookAt_58 59 rfl rfl ?_
  refine w_virtual (a := a1) (c := 3) (st := []) mb14 dX2_lookAt_59 62 rfl 29 1 [sI (x2)] _ rfl rfl rfl lc2_131 (R.k h1) (Nat.le_of_ble_eq_true rfl) (C h R) hbc hbs (fun r h1 hP => ?_)
  obtain ⟨V1, R1, hP⟩ := hP
  exact K r V1 hP h1 R1

theorem bX2_lookAt_62 {d : Nat} {Fg : Nat → Prop} {h0 : hp} {Q : Option sV → kV → Prop} {V : kV} {bc bs : Nat} {v0 : sV} {v1 : sV} {v2 : sV} {a3 : Nat} {v4 : sV} (h1 : kC V (a3) = 6) (K : Q (some (sR (kR V 501 (a3)))) V) : cWP d Fg h0 14 Q 62 [v0, v1, v2, sR (some a3), v4] [] V bc bs := by
  intro h R
  refine w_aload_n mb14 dX2_lookAt_62 63 rfl rfl ?_
  refine y_getr mb14 dX2_lookAt_63 66 rfl R 501 lf2_135 rfl rfl rfl rfl h1 rfl ?_
  refine w_aret mb14 dX2_lookAt_66 _ rfl (by first | exact Or.inl ⟨_, rfl⟩ | exact Or.inr ⟨_, rfl⟩) ?_
  exact ⟨_, R, K⟩

theorem bX2_lookAt_67 {d : Nat} {Fg : Nat → Prop} {h0 : hp} {Q : Option sV → kV → Prop} {V : kV} {bc bs : Nat} {v0 : sV} {v1 : sV} {x2 : Int32} {v3 : sV} {v4 : sV} (K : cWP d Fg h0 14 Q 2 [v0, v1, sI (x2 + 1), v3, v4] [] V bc bs) : cWP d Fg h0 14 Q 67 [v0, v1, sI (x2), v3, v4] [] V bc bs := by
  intro h R
  refine w_iinc mb14 dX2_lookAt_67 70 rfl rfl (x2 + 1) rfl [v0, v1, sI (x2 + 1), v3, v4] rfl ?_
  refine w_goto mb14 dX2_lookAt_70 2 (by decide) ?_
  exact K h R

theorem bX2_lookAt_73 {d : Nat} {Fg : Nat → Prop} {h0 : hp} {Q : Option sV → kV → Prop} {V : kV} {bc bs : Nat} {v0 : sV} {v1 : sV} {v2 : sV} {v3 : sV} {v4 : sV} (K : Q (some (sR (none))) V) : cWP d Fg h0 14 Q 73 [v0, v1, v2, v3, v4] [] V bc bs := by
  intro h R
  refine w_null mb14 dX2_lookAt_73 74 rfl ?_
  refine w_aret mb14 dX2_lookAt_74 _ rfl (by first | exact Or.inl ⟨_, rfl⟩ | exact Or.inr ⟨_, rfl⟩) ?_
  exact ⟨_, R, K⟩

theorem bX2_firstOther_0 {d : Nat} {Fg : Nat → Prop} {h0 : hp} {Q : Option sV → kV → Prop} {V : kV} {bc bs : Nat} {v0 : sV} {v1 : sV} {v2 : sV} {v3 : sV} {v4 : sV} (K : cWP d Fg h0 15 Q 2 [v0, v1, v2, sI (0), v4] [] V bc bs) : cWP d Fg h0 15 Q 0 [v0, v1, v2, v3, v4] [] V bc bs := by
  intro h R
  refine w_iconst mb15 dX2_firstOther_0 1 rfl (0) (by decide) ?_
  refine w_istore_n mb15 dX2_firstOther_1 2 rfl [v0, v1, v2, sI (0), v4] (Nat.le_of_ble_eq_true rfl) rfl ?_
  exact K h R

theorem bX2_firstOther_2 {d : Nat} {Fg : Nat → Prop} {h0 : hp} {Q : Option sV → kV → Prop} {V : kV} {bc bs : Nat} {v0 : sV} {v1 : sV} {a2 : Nat} {x3 : Int32} {v4 : sV} (h1 : kC V (a2) = 6) (K1 : (kI V 500 (a2)) ≤ (x3) → cWP d Fg h0 15 Q 61 [v0, v1, sR (some a2), sI (x3), v4] [] V bc bs) (K2 : ¬ (kI V 500 (a2)) ≤ (x3) → cWP d Fg h0 15 Q 10 [v0, v1, sR (some a2), sI (x3), v4] [] V bc bs) : cWP d Fg h0 15 Q 2 [v0, v1, sR (some a2), sI (x3), v4] [] V bc bs := by
  intro h R
  refine w_iload_n mb15 dX2_firstOther_2 3 rfl rfl ?_
  refine w_aload_n mb15 dX2_firstOther_3 4 rfl rfl ?_
  refine y_geti mb15 dX2_firstOther_4 7 rfl R 500 lf2_140 rfl rfl rfl h1 (x := kI V 500 (a2)) (by first | rfl | exact if_pos ⟨rfl, rfl⟩) ?_
  refine w_icmp_ge mb15 dX2_firstOther_7 61 10 (by decide) rfl (fun z => ?_) (fun z => ?_)
  · exact K1 z h R
  · exact K2 z h R

theorem bX2_firstOther_10 {d : Nat} {Fg : Nat → Prop} {h0 : hp} {Q : Option sV → kV → Prop} {V : kV} {bc bs : Nat} {a0 : Nat} {v1 : sV} {a2 : Nat} {x3 : Int32} {v4 : sV} (h1 : kC V (a0) = 3) (h2 : kC V (a2) = 6) {bc1 bs1 : Nat} {P : Option sV → kV → Prop} (C : cM d Fg h0 39 [sR (some a2), sI (x3)] (uI V (205) (a0) ((kI V 205 (a0)) + (1))) bc1 bs1 P) (hbc : bc1 ≤ bc) (hbs : bs1 ≤ bs) (K : ∀ r V1, P r V1 → cWP d Fg h0 15 Q 26 [sR (some a0), v1, sR (some a2), sI (x3), v4] (r.toList ++ [sR (some a0)]) V1 (bc - bc1) (bs - bs1)) : cWP d Fg h0 15 Q 10 [sR (some a0), v1, sR (some a2), sI (x3), v4] [] V bc bs := by
  intro h R
  refine w_aload_n mb15 dX2_firstOther_10 11 rfl rfl ?_
  refine w_dup mb15 dX2_firstOther_11 12 rfl rfl ?_
  refine y_geti mb15 dX2_firstOther_12 15 rfl R 205 lf2_33 rfl rfl rfl h1 (x := kI V 205 (a0)) (by first | rfl | exact if_pos ⟨rfl, rfl⟩) ?_
  refine w_iconst mb15 dX2_firstOther_15 16 rfl (1) (by decide) ?_
  refine w_iadd mb15 dX2_firstOther_16 17 rfl ?_
  refine y_puti mb15 dX2_firstOther_17 20 rfl R 205 (lp2_33 _) rfl rfl rfl h1 (fun h R => ?_)
  refine w_aload_n mb15 dX2_firstOther_20 21 rfl rfl ?_
  refine w_aload_n mb15 dX2_firstOther_21 22 rfl rfl ?_
  refine w_iload_n mb15 dX2_firstOther_22 23 rfl rfl ?_
  refine w_virtual (a := a2) (c := 5) (st := [sR (some a0)]) mb15 dX2_firstOther_23 26 rfl 39 1 [sI (x3)] _ rfl rfl rfl lc2_143 (R.k h2) (Nat.le_of_ble_eq_true rfl) (C h R) hbc hbs (fun r h1 hP => ?_)
  obtain ⟨V1, R1, hP⟩ := hP
  exact K r V1 hP h1 R1

theorem bX2_firstOther_26 {d : Nat} {Fg : Nat → Prop} {h0 : hp} {Q : Option sV → kV → Prop} {V : kV} {bc bs : Nat} {v0 : sV} {v1 : sV} {v2 : sV} {v3 : sV} {v4 : sV} {z0 : Nat} {y1 : Int32} (h1 : kC V (z0) = 3) {bc1 bs1 : Nat} {P : Option sV → kV → Prop} (C : cM d Fg h0 11 [sR (some z0), sI (y1)] V bc1 bs1 P) (hbc : bc1 ≤ bc) (hbs : bs1 ≤ bs) (K : ∀ r V1, P r V1 → cWP d Fg h0 15 Q 29 [v0, v1, v2, v3, v4] (r.toList ++ []) V1 (bc - bc1) (bs - bs1)) : cWP d Fg h0 15 Q 26 [v0, v1, v2, v3, v4] [sI (y1), sR (some z0)] V bc bs := by
  intro h R
  refine w_virtual (a := z0) (c := 2) (st := []) mb15 dX2_firstOther_26 29 rfl 11 1 [sI (y1)] _ rfl rfl rfl lc2_147 (R.k h1) (Nat.le_of_ble_eq_true rfl) (C h R) hbc hbs (fun r h1 hP => ?_)
  obtain ⟨V1, R1, hP⟩ := hP
  exact K r V1 hP h1 R1

theorem bX2_firstOther_29 {d : Nat} {Fg : Nat → Prop} {h0 : hp} {Q : Option sV → kV → Prop} {V : kV} {bc bs : Nat} {v0 : sV} {a1 : Nat} {v2 : sV} {v3 : sV} {v4 : sV} {z0 : Option Nat} (h1 : kC V (a1) = 4) (K1 : (kR V 309 (a1)) = none → cWP d Fg h0 15 Q 40 [v0, sR (some a1), v2, v3, sR (z0)] [] V bc bs) (K2 : ¬ (kR V 309 (a1)) = none → cWP d Fg h0 15 Q 38 [v0, sR (some a1), v2, v3, sR (z0)] [] V bc bs) : cWP d Fg h0 15 Q 29 [v0, sR (some a1), v2, v3, v4] [sR (z0)] V bc bs := by
  intro h R
  refine w_astore mb15 dX2_firstOther_29 31 rfl [v0, sR (some a1), v2, v3, sR (z0)] (Nat.le_of_ble_eq_true rfl) rfl ?_
  refine w_aload_n mb15 dX2_firstOther_31 32 rfl rfl ?_
  refine y_getr mb15 dX2_firstOther_32 35 rfl R 309 lf2_108 rfl rfl rfl rfl h1 rfl ?_
  refine w_ifnull mb15 dX2_firstOther_35 40 38 (by decide) rfl (fun z => ?_) (fun z => ?_)
  · exact K1 z h R
  · exact K2 z h R

theorem bX2_firstOther_38 {d : Nat} {Fg : Nat → Prop} {h0 : hp} {Q : Option sV → kV → Prop} {V : kV} {bc bs : Nat} {v0 : sV} {v1 : sV} {v2 : sV} {v3 : sV} {v4 : sV} (K : Q (some (sI ((-1)))) V) : cWP d Fg h0 15 Q 38 [v0, v1, v2, v3, v4] [] V bc bs := by
  intro h R
  refine w_iconst mb15 dX2_firstOther_38 39 rfl ((-1)) (by decide) ?_
  refine w_iret mb15 dX2_firstOther_39 rfl ?_
  exact ⟨_, R, K⟩

theorem bX2_firstOther_40 {d : Nat} {Fg : Nat → Prop} {h0 : hp} {Q : Option sV → kV → Prop} {V : kV} {bc bs : Nat} {v0 : sV} {v1 : sV} {a2 : Nat} {x3 : Int32} {r4 : Option Nat} (h1 : kC V (a2) = 6) {bc1 bs1 : Nat} {P : Option sV → kV → Prop} (C : cM d Fg h0 40 [sR (some a2), sI (x3)] V bc1 bs1 P) (hbc : bc1 ≤ bc) (hbs : bs1 ≤ bs) (K : ∀ r V1, P r V1 → cWP d Fg h0 15 Q 47 [v0, v1, sR (some a2), sI (x3), sR (r4)] (r.toList ++ [sR (r4)]) V1 (bc - bc1) (bs - bs1)) : cWP d Fg h0 15 Q 40 [v0, v1, sR (some a2), sI (x3), sR (r4)] [] V bc bs := by
  intro h R
  refine w_aload mb15 dX2_firstOther_40 42 rfl rfl ?_
  refine w_aload_n mb15 dX2_firstOther_42 43 rfl rfl ?_
  refine w_iload_n mb15 dX2_firstOther_43 44 rfl rfl ?_
  refine w_virtual (a := a2) (c := 5) (st := [sR (r4)]) mb15 dX2_firstOther_44 47 rfl 40 1 [sI (x3)] _ rfl rfl rfl lc2_151 (R.k h1) (Nat.le_of_ble_eq_true rfl) (C h R) hbc hbs (fun r h1 hP => ?_)
  obtain ⟨V1, R1, hP⟩ := hP
  exact K r V1 hP h1 R1

theorem bX2_firstOther_47 {d : Nat} {Fg : Nat → Prop} {h0 : hp} {Q : Option sV → kV → Prop} {V : kV} {bc bs : Nat} {v0 : sV} {v1 : sV} {v2 : sV} {v3 : sV} {v4 : sV} {z0 : Nat} {z1 : Option Nat} {o_z0 : zO} (h1 : kO V (z0) = some o_z0) {bc1 bs1 : Nat} {P : Option sV → kV → Prop} (C : cM d Fg h0 7 [sR (some z0), sR (z1)] V bc1 bs1 P) (hbc : bc1 ≤ bc) (hbs : bs1 ≤ bs) (K : ∀ r V1, P r V1 → cWP d Fg h0 15 Q 50 [v0, v1, v2, v3, v4] (r.toList ++ []) V1 (bc - bc1) (bs - bs1)) : cWP d Fg h0 15 Q 47 [v0, v1, v2, v3, v4] [sR (z1), sR (some z0)] V bc bs := by
  intro h R
  refine w_virtual (a := z0) (c := 1) (st := []) mb15 dX2_firstOther_47 50 rfl 7 1 [sR (z1)] _ rfl rfl rfl lc2_154 (R.ko h1) (Nat.le_of_ble_eq_true rfl) (C h R) hbc hbs (fun r h1 hP => ?_)
  obtain ⟨V1, R1, hP⟩ := hP
  exact K r V1 hP h1 R1

theorem bX2_firstOther_50 {d : Nat} {Fg : Nat → Prop} {h0 : hp} {Q : Option sV → kV → Prop} {V : kV} {bc bs : Nat} {v0 : sV} {v1 : sV} {v2 : sV} {v3 : sV} {v4 : sV} {y0 : Int32} (K1 : ¬ (y0) = 0 → cWP d Fg h0 15 Q 55 [v0, v1, v2, v3, v4] [] V bc bs) (K2 : (y0) = 0 → cWP d Fg h0 15 Q 53 [v0, v1, v2, v3, v4] [] V bc bs) : cWP d Fg h0 15 Q 50 [v0, v1, v2, v3, v4] [sI (y0)] V bc bs := by
  intro h R
  refine w_if_ne mb15 dX2_firstOther_50 55 53 (by decide) rfl (fun z => ?_) (fun z => ?_)
  · exact K1 z h R
  · exact K2 z h R

theorem bX2_firstOther_53 {d : Nat} {Fg : Nat → Prop} {h0 : hp} {Q : Option sV → kV → Prop} {V : kV} {bc bs : Nat} {v0 : sV} {v1 : sV} {v2 : sV} {x3 : Int32} {v4 : sV} (K : Q (some (sI (x3))) V) : cWP d Fg h0 15 Q 53 [v0, v1, v2, sI (x3), v4] [] V bc bs := by
  intro h R
  refine w_iload_n mb15 dX2_firstOther_53 54 rfl rfl ?_
  refine w_iret mb15 dX2_firstOther_54 rfl ?_
  exact ⟨_, R, K⟩

theorem bX2_firstOther_55 {d : Nat} {Fg : Nat → Prop} {h0 : hp} {Q : Option sV → kV → Prop} {V : kV} {bc bs : Nat} {v0 : sV} {v1 : sV} {v2 : sV} {x3 : Int32} {v4 : sV} (K : cWP d Fg h0 15 Q 2 [v0, v1, v2, sI (x3 + 1), v4] [] V bc bs) : cWP d Fg h0 15 Q 55 [v0, v1, v2, sI (x3), v4] [] V bc bs := by
  intro h R
  refine w_iinc mb15 dX2_firstOther_55 58 rfl rfl (x3 + 1) rfl [v0, v1, v2, sI (x3 + 1), v4] rfl ?_
  refine w_goto mb15 dX2_firstOther_58 2 (by decide) ?_
  exact K h R

theorem bX2_firstOther_61 {d : Nat} {Fg : Nat → Prop} {h0 : hp} {Q : Option sV → kV → Prop} {V : kV} {bc bs : Nat} {v0 : sV} {v1 : sV} {v2 : sV} {v3 : sV} {v4 : sV} (K : Q (some (sI ((-2)))) V) : cWP d Fg h0 15 Q 61 [v0, v1, v2, v3, v4] [] V bc bs := by
  intro h R
  refine w_bipush mb15 dX2_firstOther_61 63 rfl ((-2)) (by decide) ?_
  refine w_iret mb15 dX2_firstOther_63 rfl ?_
  exact ⟨_, R, K⟩

theorem bX2_work_0 {d : Nat} {Fg : Nat → Prop} {h0 : hp} {Q : Option sV → kV → Prop} {V : kV} {bc bs : Nat} {a0 : Nat} {v1 : sV} {v2 : sV} (h1 : kC V (a0) = 3) (K1 : ¬ (kI V 208 (a0)) = 0 → cWP d Fg h0 16 Q 12 [sR (some a0), v1, v2] [] V bc bs) (K2 : (kI V 208 (a0)) = 0 → cWP d Fg h0 16 Q 7 [sR (some a0), v1, v2] [] V bc bs) : cWP d Fg h0 16 Q 0 [sR (some a0), v1, v2] [] V bc bs := by
  intro h R
  refine w_aload_n mb16 dX2_work_0 1 rfl rfl ?_
  refine y_geti mb16 dX2_work_1 4 rfl R 208 lf2_22 rfl rfl rfl h1 (x := kI V 208 (a0)) (by first | rfl | exact if_pos ⟨rfl, rfl⟩) ?_
  refine w_if_ne mb16 dX2_work_4 12 7 (by decide) rfl (fun z => ?_) (fun z => ?_)
  · exact K1 z h R
  · exact K2 z h R

theorem bX2_work_7 {d : Nat} {Fg : Nat → Prop} {h0 : hp} {Q : Option sV → kV → Prop} {V : kV} {bc bs : Nat} {a0 : Nat} {r1 : Option Nat} {v2 : sV} (h1 : kC V (a0) = 3) {bc1 bs1 : Nat} {P : Option sV → kV → Prop} (C : cM d Fg h0 17 [sR (some a0), sR (r1)] V bc1 bs1 P) (hbc : bc1 ≤ bc) (hbs : bs1 ≤ bs) (K : ∀ r V1, P r V1 → cWP d Fg h0 16 Q 12 [sR (some a0), sR (r1), v2] (r.toList ++ []) V1 (bc - bc1) (bs - bs1)) : cWP d Fg h0 16 Q 7 [sR (some a0), sR (r1), v2] [] V bc bs := by
  intro h R
  refine w_aload_n mb16 dX2_work_7 8 rfl rfl ?_
  refine w_aload_n mb16 dX2_work_8 9 rfl rfl ?_
  refine w_virtual (a := a0) (c := 2) (st := []) mb16 dX2_work_9 12 rfl 17 1 [sR (r1)] _ rfl rfl rfl lc2_158 (R.k h1) (Nat.le_of_ble_eq_true rfl) (C h R) hbc hbs (fun r h1 hP => ?_)
  obtain ⟨V1, R1, hP⟩ := hP
  exact K r V1 hP h1 R1

theorem bX2_work_12 {d : Nat} {Fg : Nat → Prop} {h0 : hp} {Q : Option sV → kV → Prop} {V : kV} {bc bs : Nat} {v0 : sV} {a1 : Nat} {v2 : sV} (h1 : kC V (a1) = 4) {bc1 bs1 : Nat} {P : Option sV → kV → Prop} (C : cM d Fg h0 27 [sR (some a1)] V bc1 bs1 P) (hbc : bc1 ≤ bc) (hbs : bs1 ≤ bs) (K : ∀ r V1, P r V1 → cWP d Fg h0 16 Q 16 [v0, sR (some a1), v2] (r.toList ++ []) V1 (bc - bc1) (bs - bs1)) : cWP d Fg h0 16 Q 12 [v0, sR (some a1), v2] [] V bc bs := by
  intro h R
  refine w_aload_n mb16 dX2_work_12 13 rfl rfl ?_
  refine w_virtual (a := a1) (c := 3) (st := []) mb16 dX2_work_13 16 rfl 27 0 [] _ rfl rfl rfl lc2_162 (R.k h1) (Nat.le_of_ble_eq_true rfl) (C h R) hbc hbs (fun r h1 hP => ?_)
  obtain ⟨V1, R1, hP⟩ := hP
  exact K r V1 hP h1 R1

theorem bX2_work_16 {d : Nat} {Fg : Nat → Prop} {h0 : hp} {Q : Option sV → kV → Prop} {V : kV} {bc bs : Nat} {v0 : sV} {a1 : Nat} {v2 : sV} {z0 : Nat} (h1 : kC V (z0) = 6) (h2 : kC V (a1) = 4) (K0 : (kI V 301 (a1)).toInt = 5 → cWP d Fg h0 16 Q 52 [v0, sR (some a1), v2] [] (uI V (500) (z0) (0)) bc bs) (K1 : (kI V 301 (a1)).toInt = 6 → cWP d Fg h0 16 Q 62 [v0, sR (some a1), v2] [] (uI V (500) (z0) (0)) bc bs) (Kd : ¬ (kI V 301 (a1)).toInt = 5 ∧ ¬ (kI V 301 (a1)).toInt = 6 → cWP d Fg h0 16 Q 73 [v0, sR (some a1), v2] [] (uI V (500) (z0) (0)) bc bs) : cWP d Fg h0 16 Q 16 [v0, sR (some a1), v2] [sR (some z0)] V bc bs := by
  intro h R
  refine w_iconst mb16 dX2_work_16 17 rfl (0) (by decide) ?_
  refine y_puti mb16 dX2_work_17 20 rfl R 500 (lp2_140 _) rfl rfl rfl h1 (fun h R => ?_)
  refine w_aload_n mb16 dX2_work_20 21 rfl rfl ?_
  refine y_geti mb16 dX2_work_21 24 rfl R 301 lf2_166 rfl rfl rfl h2 (x := kI V 301 (a1)) (by first | rfl | exact if_pos ⟨rfl, rfl⟩) ?_
  by_cases z0 : (kI V 301 (a1)).toInt = 5
  · exact w_lookup mb16 dX2_work_24 rfl 52 (by rw [z0]; decide) (K0 z0 h R)
  by_cases z1 : (kI V 301 (a1)).toInt = 6
  · exact w_lookup mb16 dX2_work_24 rfl 62 (by rw [z1]; decide) (K1 z1 h R)
  exact w_lookup mb16 dX2_work_24 rfl 73 (by simp only [Op.lookupswitch.offset, if_neg (fun e => z0 (Eq.symm e)), if_neg (fun e => z1 (Eq.symm e))]; decide) (Kd ⟨z0, z1⟩ h R)

theorem bX2_work_52 {d : Nat} {Fg : Nat → Prop} {h0 : hp} {Q : Option sV → kV → Prop} {V : kV} {bc bs : Nat} {a0 : Nat} {r1 : Option Nat} {v2 : sV} (h1 : kC V (a0) = 3) {bc1 bs1 : Nat} {P : Option sV → kV → Prop} (C : cM d Fg h0 21 [sR (some a0), sR (r1), sI (1)] V bc1 bs1 P) (hbc : bc1 ≤ bc) (hbs : bs1 ≤ bs) (K : ∀ r V1, P r V1 → cWP d Fg h0 16 Q 58 [sR (some a0), sR (r1), v2] (r.toList ++ []) V1 (bc - bc1) (bs - bs1)) : cWP d Fg h0 16 Q 52 [sR (some a0), sR (r1), v2] [] V bc bs := by
  intro h R
  refine w_aload_n mb16 dX2_work_52 53 rfl rfl ?_
  refine w_aload_n mb16 dX2_work_53 54 rfl rfl ?_
  refine w_iconst mb16 dX2_work_54 55 rfl (1) (by decide) ?_
  refine w_virtual (a := a0) (c := 2) (st := []) mb16 dX2_work_55 58 rfl 21 2 [sR (r1), sI (1)] _ rfl rfl rfl lc2_169 (R.k h1) (Nat.le_of_ble_eq_true rfl) (C h R) hbc hbs (fun r h1 hP => ?_)
  obtain ⟨V1, R1, hP⟩ := hP
  exact K r V1 hP h1 R1

theorem bX2_work_58 {d : Nat} {Fg : Nat → Prop} {h0 : hp} {Q : Option sV → kV → Prop} {V : kV} {bc bs : Nat} {v0 : sV} {v1 : sV} {v2 : sV} {z0 : Option Nat} (K : cWP d Fg h0 16 Q 79 [v0, v1, sR (z0)] [] V bc bs) : cWP d Fg h0 16 Q 58 [v0, v1, v2] [sR (z0)] V bc bs := by
  intro h R
  refine w_astore_n mb16 dX2_work_58 59 rfl [v0, v1, sR (z0)] (Nat.le_of_ble_eq_true rfl) rfl ?_
  refine w_goto mb16 dX2_work_59 79 (by decide) ?_
  exact K h R

theorem bX2_work_62 {d : Nat} {Fg : Nat → Prop} {h0 : hp} {Q : Option sV → kV → Prop} {V : kV} {bc bs : Nat} {a0 : Nat} {r1 : Option Nat} {v2 : sV} (h1 : kC V (a0) = 3) {bc1 bs1 : Nat} {P : Option sV → kV → Prop} (C : cM d Fg h0 21 [sR (some a0), sR (r1), sI (24)] V bc1 bs1 P) (hbc : bc1 ≤ bc) (hbs : bs1 ≤ bs) (K : ∀ r V1, P r V1 → cWP d Fg h0 16 Q 69 [sR (some a0), sR (r1), v2] (r.toList ++ []) V1 (bc - bc1) (bs - bs1)) : cWP d Fg h0 16 Q 62 [sR (some a0), sR (r1), v2] [] V bc bs := by
  intro h R
  refine w_aload_n mb16 dX2_work_62 63 rfl rfl ?_
  refine w_aload_n mb16 dX2_work_63 64 rfl rfl ?_
  refine w_bipush mb16 dX2_work_64 66 rfl (24) (by decide) ?_
  refine w_virtual (a := a0) (c := 2) (st := []) mb16 dX2_work_66 69 rfl 21 2 [sR (r1), sI (24)] _ rfl rfl rfl lc2_169 (R.k h1) (Nat.le_of_ble_eq_true rfl) (C h R) hbc hbs (fun r h1 hP => ?_)
  obtain ⟨V1, R1, hP⟩ := hP
  exact K r V1 hP h1 R1

theorem bX2_work_69 {d : Nat} {Fg : Nat → Prop} {h0 : hp} {Q : Option sV → kV → Prop} {V : kV} {bc bs : Nat} {v0 : sV} {v1 : sV} {v2 : sV} {z0 : Option Nat} (K : cWP d Fg h0 16 Q 79 [v0, v1, sR (z0)] [] V bc bs) : cWP d Fg h0 16 Q 69 [v0, v1, v2] [sR (z0)] V bc bs := by
  intro h R
  refine w_astore_n mb16 dX2_work_69 70 rfl [v0, v1, sR (z0)] (Nat.le_of_ble_eq_true rfl) rfl ?_
  refine w_goto mb16 dX2_work_70 79 (by decide) ?_
  exact K h R

theorem bX2_work_73 {d : Nat} {Fg : Nat → Prop} {h0 : hp} {Q : Option sV → kV → Prop} {V : kV} {bc bs : Nat} {a0 : Nat} {r1 : Option Nat} {v2 : sV} (h1 : kC V (a0) = 3) {bc1 bs1 : Nat} {P : Option sV → kV → Prop} (C : cM d Fg h0 18 [sR (some a0), sR (r1)] V bc1 bs1 P) (hbc : bc1 ≤ bc) (hbs : bs1 ≤ bs) (K : ∀ r V1, P r V1 → cWP d Fg h0 16 Q 78 [sR (some a0), sR (r1), v2] (r.toList ++ []) V1 (bc - bc1) (bs - bs1)) : cWP d Fg h0 16 Q 73 [sR (some a0), sR (r1), v2] [] V bc bs := by
  intro h R
  refine w_aload_n mb16 dX2_work_73 74 rfl rfl ?_
  refine w_aload_n mb16 dX2_work_74 75 rfl rfl ?_
  refine w_virtual (a := a0) (c := 2) (st := []) mb16 dX2_work_75 78 rfl 18 1 [sR (r1)] _ rfl rfl rfl lc2_173 (R.k h1) (Nat.le_of_ble_eq_true rfl) (C h R) hbc hbs (fun r h1 hP => ?_)
  obtain ⟨V1, R1, hP⟩ := hP
  exact K r V1 hP h1 R1

theorem bX2_work_78 {d : Nat} {Fg : Nat → Prop} {h0 : hp} {Q : Option sV → kV → Prop} {V : kV} {bc bs : Nat} {v0 : sV} {v1 : sV} {v2 : sV} {z0 : Option Nat} (K : cWP d Fg h0 16 Q 79 [v0, v1, sR (z0)] [] V bc bs) : cWP d Fg h0 16 Q 78 [v0, v1, v2] [sR (z0)] V bc bs := by
  intro h R
  refine w_astore_n mb16 dX2_work_78 79 rfl [v0, v1, sR (z0)] (Nat.le_of_ble_eq_true rfl) rfl ?_
  exact K h R

theorem bX2_work_79 {d : Nat} {Fg : Nat → Prop} {h0 : hp} {Q : Option sV → kV → Prop} {V : kV} {bc bs : Nat} {a0 : Nat} {v1 : sV} {v2 : sV} (h1 : kC V (a0) = 3) (K1 : ¬ (kI V 208 (a0)) = 0 → cWP d Fg h0 16 Q 98 [sR (some a0), v1, v2] [] V bc bs) (K2 : (kI V 208 (a0)) = 0 → cWP d Fg h0 16 Q 86 [sR (some a0), v1, v2] [] V bc bs) : cWP d Fg h0 16 Q 79 [sR (some a0), v1, v2] [] V bc bs := by
  intro h R
  refine w_aload_n mb16 dX2_work_79 80 rfl rfl ?_
  refine y_geti mb16 dX2_work_80 83 rfl R 208 lf2_22 rfl rfl rfl h1 (x := kI V 208 (a0)) (by first | rfl | exact if_pos ⟨rfl, rfl⟩) ?_
  refine w_if_ne mb16 dX2_work_83 98 86 (by decide) rfl (fun z => ?_) (fun z => ?_)
  · exact K1 z h R
  · exact K2 z h R

theorem bX2_work_86 {d : Nat} {Fg : Nat → Prop} {h0 : hp} {Q : Option sV → kV → Prop} {V : kV} {bc bs : Nat} {v0 : sV} {a1 : Nat} {v2 : sV} (h1 : kC V (a1) = 4) (K1 : ¬ (kR V 309 (a1)) = none → cWP d Fg h0 16 Q 98 [v0, sR (some a1), v2] [] V bc bs) (K2 : (kR V 309 (a1)) = none → cWP d Fg h0 16 Q 93 [v0, sR (some a1), v2] [] V bc bs) : cWP d Fg h0 16 Q 86 [v0, sR (some a1), v2] [] V bc bs := by
  intro h R
  refine w_aload_n mb16 dX2_work_86 87 rfl rfl ?_
  refine y_getr mb16 dX2_work_87 90 rfl R 309 lf2_108 rfl rfl rfl rfl h1 rfl ?_
  refine w_ifnonnull mb16 dX2_work_90 98 93 (by decide) rfl (fun z => ?_) (fun z => ?_)
  · exact K1 z h R
  · exact K2 z h R

theorem bX2_work_93 {d : Nat} {Fg : Nat → Prop} {h0 : hp} {Q : Option sV → kV → Prop} {V : kV} {bc bs : Nat} {v0 : sV} {a1 : Nat} {r2 : Option Nat} (h1 : kC V (a1) = 4) {bc1 bs1 : Nat} {P : Option sV → kV → Prop} (C : cM d Fg h0 28 [sR (some a1), sR (r2)] V bc1 bs1 P) (hbc : bc1 ≤ bc) (hbs : bs1 ≤ bs) (K : ∀ r V1, P r V1 → cWP d Fg h0 16 Q 98 [v0, sR (some a1), sR (r2)] (r.toList ++ []) V1 (bc - bc1) (bs - bs1)) : cWP d Fg h0 16 Q 93 [v0, sR (some a1), sR (r2)] [] V bc bs := by
  intro h R
  refine w_aload_n mb16 dX2_work_93 94 rfl rfl ?_
  refine w_aload_n mb16 dX2_work_94 95 rfl rfl ?_
  refine w_virtual (a := a1) (c := 3) (st := []) mb16 dX2_work_95 98 rfl 28 1 [sR (r2)] _ rfl rfl rfl lc2_176 (R.k h1) (Nat.le_of_ble_eq_true rfl) (C h R) hbc hbs (fun r h1 hP => ?_)
  obtain ⟨V1, R1, hP⟩ := hP
  exact K r V1 hP h1 R1

theorem bX2_work_98 {d : Nat} {Fg : Nat → Prop} {h0 : hp} {Q : Option sV → kV → Prop} {V : kV} {bc bs : Nat} {v0 : sV} {v1 : sV} {r2 : Option Nat} (K : Q (some (sR (r2))) V) : cWP d Fg h0 16 Q 98 [v0, v1, sR (r2)] [] V bc bs := by
  intro h R
  refine w_aload_n mb16 dX2_work_98 99 rfl rfl ?_
  refine w_aret mb16 dX2_work_99 _ rfl (by first | exact Or.inl ⟨_, rfl⟩ | exact Or.inr ⟨_, rfl⟩) ?_
  exact ⟨_, R, K⟩

theorem bX2_noteWorked_0 {d : Nat} {Fg : Nat → Prop} {h0 : hp} {Q : Option sV → kV → Prop} {V : kV} {bc bs : Nat} {a0 : Nat} {v1 : sV} (h1 : kC V (a0) = 3) (K1 : (24) ≤ (kI V 204 (a0)) → cWP d Fg h0 17 Q 42 [sR (some a0), v1] [] (uI V (207) (a0) ((kI V 207 (a0)) + (1))) bc bs) (K2 : ¬ (24) ≤ (kI V 204 (a0)) → cWP d Fg h0 17 Q 19 [sR (some a0), v1] [] (uI V (207) (a0) ((kI V 207 (a0)) + (1))) bc bs) : cWP d Fg h0 17 Q 0 [sR (some a0), v1] [] V bc bs := by
  intro h R
  refine w_aload_n mb17 dX2_noteWorked_0 1 rfl rfl ?_
  refine w_dup mb17 dX2_noteWorked_1 2 rfl rfl ?_
  refine y_geti mb17 dX2_noteWorked_2 5 rfl R 207 lf2_180 rfl rfl rfl h1 (x := kI V 207 (a0)) (by first | rfl | exact if_pos ⟨rfl, rfl⟩) ?_
  refine w_iconst mb17 dX2_noteWorked_5 6 rfl (1) (by decide) ?_
  refine w_iadd mb17 dX2_noteWorked_6 7 rfl ?_
  refine y_puti mb17 dX2_noteWorked_7 10 rfl R 207 (lp2_180 _) rfl rfl rfl h1 (fun h R => ?_)
  refine w_aload_n mb17 dX2_noteWorked_10 11 rfl rfl ?_
  refine y_geti mb17 dX2_noteWorked_11 14 rfl R 204 lf2_30 rfl rfl rfl h1 (x := kI V 204 (a0)) (by first | rfl | exact if_pos ⟨rfl, rfl⟩) ?_
  refine w_bipush mb17 dX2_noteWorked_14 16 rfl (24) (by decide) ?_
  refine w_icmp_ge mb17 dX2_noteWorked_16 42 19 (by decide) rfl (fun z => ?_) (fun z => ?_)
  · exact K1 z h R
  · exact K2 z h R

theorem bX2_noteWorked_19 {d : Nat} {Fg : Nat → Prop} {h0 : hp} {Q : Option sV → kV → Prop} {V : kV} {bc bs : Nat} {a0 : Nat} {a1 : Nat} (h1 : kC V (a0) = 3) (h2 : kC V (a1) = 4) (h3 : vp_in (kI V 204 (a0)) 24) (K : cWP d Fg h0 17 Q 42 [sR (some a0), sR (some a1)] [] (uI (uA V (203) (a0) ((kI V 204 (a0)).toNatClampNeg) (kI V 300 (a1))) (204) (a0) ((kI V 204 (a0)) + (1))) bc bs) : cWP d Fg h0 17 Q 19 [sR (some a0), sR (some a1)] [] V bc bs := by
  intro h R
  refine w_aload_n mb17 dX2_noteWorked_19 20 rfl rfl ?_
  refine y_geta mb17 dX2_noteWorked_20 23 rfl R 203 lf2_18 rfl rfl rfl (by decide) h1 ?_
  refine w_aload_n mb17 dX2_noteWorked_23 24 rfl rfl ?_
  refine y_geti mb17 dX2_noteWorked_24 27 rfl R 204 lf2_30 rfl rfl rfl h1 (x := kI V 204 (a0)) (by first | rfl | exact if_pos ⟨rfl, rfl⟩) ?_
  refine w_aload_n mb17 dX2_noteWorked_27 28 rfl rfl ?_
  refine y_geti mb17 dX2_noteWorked_28 31 rfl R 300 lf2_102 rfl rfl rfl h2 (x := kI V 300 (a1)) (by first | rfl | exact if_pos ⟨rfl, rfl⟩) ?_
  refine y_iast (f := 203) (a := a0) (c := 3) mb17 dX2_noteWorked_31 32 rfl R 24 rfl (by decide) rfl rfl h1 h3 (fun h R => ?_)
  refine w_aload_n mb17 dX2_noteWorked_32 33 rfl rfl ?_
  refine w_dup mb17 dX2_noteWorked_33 34 rfl rfl ?_
  refine y_geti mb17 dX2_noteWorked_34 37 rfl R 204 lf2_30 rfl rfl rfl h1 (x := kI V 204 (a0)) (by first | rfl | exact if_pos ⟨rfl, rfl⟩) ?_
  refine w_iconst mb17 dX2_noteWorked_37 38 rfl (1) (by decide) ?_
  refine w_iadd mb17 dX2_noteWorked_38 39 rfl ?_
  refine y_puti mb17 dX2_noteWorked_39 42 rfl R 204 (lp2_30 _) rfl rfl rfl h1 (fun h R => ?_)
  exact K h R

theorem bX2_noteWorked_42 {d : Nat} {Fg : Nat → Prop} {h0 : hp} {Q : Option sV → kV → Prop} {V : kV} {bc bs : Nat} {v0 : sV} {v1 : sV} (K : Q (none) V) : cWP d Fg h0 17 Q 42 [v0, v1] [] V bc bs := by
  intro h R
  refine w_vret mb17 dX2_noteWorked_42 rfl ?_
  exact ⟨_, R, K⟩

theorem bX2_readInOrder_0 {d : Nat} {Fg : Nat → Prop} {h0 : hp} {Q : Option sV → kV → Prop} {V : kV} {bc bs : Nat} {v0 : sV} {a1 : Nat} {v2 : sV} {v3 : sV} {v4 : sV} {v5 : sV} (h1 : kC V (a1) = 4) {bc1 bs1 : Nat} {P : Option sV → kV → Prop} (C : cM d Fg h0 27 [sR (some a1)] V bc1 bs1 P) (hbc : bc1 ≤ bc) (hbs : bs1 ≤ bs) (K : ∀ r V1, P r V1 → cWP d Fg h0 18 Q 4 [v0, sR (some a1), v2, v3, v4, v5] (r.toList ++ []) V1 (bc - bc1) (bs - bs1)) : cWP d Fg h0 18 Q 0 [v0, sR (some a1), v2, v3, v4, v5] [] V bc bs := by
  intro h R
  refine w_aload_n mb18 dX2_readInOrder_0 1 rfl rfl ?_
  refine w_virtual (a := a1) (c := 3) (st := []) mb18 dX2_readInOrder_1 4 rfl 27 0 [] _ rfl rfl rfl lc2_162 (R.k h1) (Nat.le_of_ble_eq_true rfl) (C h R) hbc hbs (fun r h1 hP => ?_)
  obtain ⟨V1, R1, hP⟩ := hP
  exact K r V1 hP h1 R1

theorem bX2_readInOrder_4 {d : Nat} {Fg : Nat → Prop} {h0 : hp} {Q : Option sV → kV → Prop} {V : kV} {bc bs : Nat} {v0 : sV} {v1 : sV} {v2 : sV} {v3 : sV} {v4 : sV} {v5 : sV} {z0 : Option Nat} (K : cWP d Fg h0 18 Q 10 [v0, v1, sR (z0), sI (0), sI (0), v5] [] V bc bs) : cWP d Fg h0 18 Q 4 [v0, v1, v2, v3, v4, v5] [sR (z0)] V bc bs := by
  intro h R
  refine w_astore_n mb18 dX2_readInOrder_4 5 rfl [v0, v1, sR (z0), v3, v4, v5] (Nat.le_of_ble_eq_true rfl) rfl ?_
  refine w_iconst mb18 dX2_readInOrder_5 6 rfl (0) (by decide) ?_
  refine w_istore_n mb18 dX2_readInOrder_6 7 rfl [v0, v1, sR (z0), sI (0), v4, v5] (Nat.le_of_ble_eq_true rfl) rfl ?_
  refine w_iconst mb18 dX2_readInOrder_7 8 rfl (0) (by decide) ?_
  refine w_istore mb18 dX2_readInOrder_8 10 rfl [v0, v1, sR (z0), sI (0), sI (0), v5] (Nat.le_of_ble_eq_true rfl) rfl ?_
  exact K h R

theorem bX2_readInOrder_10 {d : Nat} {Fg : Nat → Prop} {h0 : hp} {Q : Option sV → kV → Prop} {V : kV} {bc bs : Nat} {v0 : sV} {a1 : Nat} {v2 : sV} {v3 : sV} {x4 : Int32} {v5 : sV} (h1 : kC V (a1) = 4) (K1 : (kI V 304 (a1)) ≤ (x4) → cWP d Fg h0 18 Q 85 [v0, sR (some a1), v2, v3, sI (x4), v5] [] V bc bs) (K2 : ¬ (kI V 304 (a1)) ≤ (x4) → cWP d Fg h0 18 Q 19 [v0, sR (some a1), v2, v3, sI (x4), v5] [] V bc bs) : cWP d Fg h0 18 Q 10 [v0, sR (some a1), v2, v3, sI (x4), v5] [] V bc bs := by
  intro h R
  refine w_iload mb18 dX2_readInOrder_10 12 rfl rfl ?_
  refine w_aload_n mb18 dX2_readInOrder_12 13 rfl rfl ?_
  refine y_geti mb18 dX2_readInOrder_13 16 rfl R 304 lf2_183 rfl rfl rfl h1 (x := kI V 304 (a1)) (by first | rfl | exact if_pos ⟨rfl, rfl⟩) ?_
  refine w_icmp_ge mb18 dX2_readInOrder_16 85 19 (by decide) rfl (fun z => ?_) (fun z => ?_)
  · exact K1 z h R
  · exact K2 z h R

theorem bX2_readInOrder_19 {d : Nat} {Fg : Nat → Prop} {h0 : hp} {Q : Option sV → kV → Prop} {V : kV} {bc bs : Nat} {a0 : Nat} {r1 : Option Nat} {v2 : sV} {v3 : sV} {x4 : Int32} {v5 : sV} (h1 : kC V (a0) = 3) {bc1 bs1 : Nat} {P : Option sV → kV → Prop} (C : cM d Fg h0 22 [sR (some a0), sR (r1), sI (x4)] V bc1 bs1 P) (hbc : bc1 ≤ bc) (hbs : bs1 ≤ bs) (K : ∀ r V1, P r V1 → cWP d Fg h0 18 Q 26 [sR (some a0), sR (r1), v2, v3, sI (x4), v5] (r.toList ++ []) V1 (bc - bc1) (bs - bs1)) : cWP d Fg h0 18 Q 19 [sR (some a0), sR (r1), v2, v3, sI (x4), v5] [] V bc bs := by
  intro h R
  refine w_aload_n mb18 dX2_readInOrder_19 20 rfl rfl ?_
  refine w_aload_n mb18 dX2_readInOrder_20 21 rfl rfl ?_
  refine w_iload mb18 dX2_readInOrder_21 23 rfl rfl ?_
  refine w_virtual (a := a0) (c := 2) (st := []) mb18 dX2_readInOrder_23 26 rfl 22 2 [sR (r1), sI (x4)] _ rfl rfl rfl lc2_186 (R.k h1) (Nat.le_of_ble_eq_true rfl) (C h R) hbc hbs (fun r h1 hP => ?_)
  obtain ⟨V1, R1, hP⟩ := hP
  exact K r V1 hP h1 R1

theorem bX2_readInOrder_26 {d : Nat} {Fg : Nat → Prop} {h0 : hp} {Q : Option sV → kV → Prop} {V : kV} {bc bs : Nat} {v0 : sV} {v1 : sV} {v2 : sV} {v3 : sV} {v4 : sV} {v5 : sV} {z0 : Option Nat} (K1 : (z0) = none → cWP d Fg h0 18 Q 36 [v0, v1, v2, v3, v4, sR (z0)] [] V bc bs) (K2 : ¬ (z0) = none → cWP d Fg h0 18 Q 33 [v0, v1, v2, v3, v4, sR (z0)] [] V bc bs) : cWP d Fg h0 18 Q 26 [v0, v1, v2, v3, v4, v5] [sR (z0)] V bc bs := by
  intro h R
  refine w_astore mb18 dX2_readInOrder_26 28 rfl [v0, v1, v2, v3, v4, sR (z0)] (Nat.le_of_ble_eq_true rfl) rfl ?_
  refine w_aload mb18 dX2_readInOrder_28 30 rfl rfl ?_
  refine w_ifnull mb18 dX2_readInOrder_30 36 33 (by decide) rfl (fun z => ?_) (fun z => ?_)
  · exact K1 z h R
  · exact K2 z h R

theorem bX2_readInOrder_33 {d : Nat} {Fg : Nat → Prop} {h0 : hp} {Q : Option sV → kV → Prop} {V : kV} {bc bs : Nat} {v0 : sV} {v1 : sV} {v2 : sV} {v3 : sV} {v4 : sV} {r5 : Option Nat} (K : Q (some (sR (r5))) V) : cWP d Fg h0 18 Q 33 [v0, v1, v2, v3, v4, sR (r5)] [] V bc bs := by
  intro h R
  refine w_aload mb18 dX2_readInOrder_33 35 rfl rfl ?_
  refine w_aret mb18 dX2_readInOrder_35 _ rfl (by first | exact Or.inl ⟨_, rfl⟩ | exact Or.inr ⟨_, rfl⟩) ?_
  exact ⟨_, R, K⟩

theorem bX2_readInOrder_36 {d : Nat} {Fg : Nat → Prop} {h0 : hp} {Q : Option sV → kV → Prop} {V : kV} {bc bs : Nat} {v0 : sV} {v1 : sV} {a2 : Nat} {x3 : Int32} {x4 : Int32} {v5 : sV} (h1 : kC V (a2) = 6) {bc1 bs1 : Nat} {P : Option sV → kV → Prop} (C : cM d Fg h0 41 [sR (some a2), sI (x4)] V bc1 bs1 P) (hbc : bc1 ≤ bc) (hbs : bs1 ≤ bs) (K : ∀ r V1, P r V1 → cWP d Fg h0 18 Q 43 [v0, v1, sR (some a2), sI (x3), sI (x4), v5] (r.toList ++ [sI (x3)]) V1 (bc - bc1) (bs - bs1)) : cWP d Fg h0 18 Q 36 [v0, v1, sR (some a2), sI (x3), sI (x4), v5] [] V bc bs := by
  intro h R
  refine w_iload_n mb18 dX2_readInOrder_36 37 rfl rfl ?_
  refine w_aload_n mb18 dX2_readInOrder_37 38 rfl rfl ?_
  refine w_iload mb18 dX2_readInOrder_38 40 rfl rfl ?_
  refine w_virtual (a := a2) (c := 5) (st := [sI (x3)]) mb18 dX2_readInOrder_40 43 rfl 41 1 [sI (x4)] _ rfl rfl rfl lc2_189 (R.k h1) (Nat.le_of_ble_eq_true rfl) (C h R) hbc hbs (fun r h1 hP => ?_)
  obtain ⟨V1, R1, hP⟩ := hP
  exact K r V1 hP h1 R1

theorem bX2_readInOrder_43 {d : Nat} {Fg : Nat → Prop} {h0 : hp} {Q : Option sV → kV → Prop} {V : kV} {bc bs : Nat} {v0 : sV} {a1 : Nat} {v2 : sV} {v3 : sV} {v4 : sV} {v5 : sV} {y0 : Int32} {y1 : Int32} (h1 : kC V (a1) = 4) (K1 : ¬ (kI V 301 (a1)) = (4) → cWP d Fg h0 18 Q 60 [v0, sR (some a1), v2, sI ((y0) + (y1)), v4, v5] [] V bc bs) (K2 : (kI V 301 (a1)) = (4) → cWP d Fg h0 18 Q 53 [v0, sR (some a1), v2, sI ((y0) + (y1)), v4, v5] [] V bc bs) : cWP d Fg h0 18 Q 43 [v0, sR (some a1), v2, v3, v4, v5] [sI (y1), sI (y0)] V bc bs := by
  intro h R
  refine w_iadd mb18 dX2_readInOrder_43 44 rfl ?_
  refine w_istore_n mb18 dX2_readInOrder_44 45 rfl [v0, sR (some a1), v2, sI ((y0) + (y1)), v4, v5] (Nat.le_of_ble_eq_true rfl) rfl ?_
  refine w_aload_n mb18 dX2_readInOrder_45 46 rfl rfl ?_
  refine y_geti mb18 dX2_readInOrder_46 49 rfl R 301 lf2_166 rfl rfl rfl h1 (x := kI V 301 (a1)) (by first | rfl | exact if_pos ⟨rfl, rfl⟩) ?_
  refine w_iconst mb18 dX2_readInOrder_49 50 rfl (4) (by decide) ?_
  refine w_icmp_ne mb18 dX2_readInOrder_50 60 53 (by decide) rfl (fun z => ?_) (fun z => ?_)
  · exact K1 z h R
  · exact K2 z h R

theorem bX2_readInOrder_53 {d : Nat} {Fg : Nat → Prop} {h0 : hp} {Q : Option sV → kV → Prop} {V : kV} {bc bs : Nat} {v0 : sV} {v1 : sV} {v2 : sV} {x3 : Int32} {v4 : sV} {v5 : sV} (K1 : (x3) ≤ 0 → cWP d Fg h0 18 Q 60 [v0, v1, v2, sI (x3), v4, v5] [] V bc bs) (K2 : ¬ (x3) ≤ 0 → cWP d Fg h0 18 Q 57 [v0, v1, v2, sI (x3), v4, v5] [] V bc bs) : cWP d Fg h0 18 Q 53 [v0, v1, v2, sI (x3), v4, v5] [] V bc bs := by
  intro h R
  refine w_iload_n mb18 dX2_readInOrder_53 54 rfl rfl ?_
  refine w_if_le mb18 dX2_readInOrder_54 60 57 (by decide) rfl (fun z => ?_) (fun z => ?_)
  · exact K1 z h R
  · exact K2 z h R

theorem bX2_readInOrder_57 {d : Nat} {Fg : Nat → Prop} {h0 : hp} {Q : Option sV → kV → Prop} {V : kV} {bc bs : Nat} {v0 : sV} {v1 : sV} {v2 : sV} {v3 : sV} {v4 : sV} {v5 : sV} (K : cWP d Fg h0 18 Q 85 [v0, v1, v2, v3, v4, v5] [] V bc bs) : cWP d Fg h0 18 Q 57 [v0, v1, v2, v3, v4, v5] [] V bc bs := by
  intro h R
  refine w_goto mb18 dX2_readInOrder_57 85 (by decide) ?_
  exact K h R

theorem bX2_readInOrder_60 {d : Nat} {Fg : Nat → Prop} {h0 : hp} {Q : Option sV → kV → Prop} {V : kV} {bc bs : Nat} {v0 : sV} {a1 : Nat} {v2 : sV} {v3 : sV} {v4 : sV} {v5 : sV} (h1 : kC V (a1) = 4) (K1 : (kI V 301 (a1)) = (2) → cWP d Fg h0 18 Q 79 [v0, sR (some a1), v2, v3, v4, v5] [] V bc bs) (K2 : ¬ (kI V 301 (a1)) = (2) → cWP d Fg h0 18 Q 68 [v0, sR (some a1), v2, v3, v4, v5] [] V bc bs) : cWP d Fg h0 18 Q 60 [v0, sR (some a1), v2, v3, v4, v5] [] V bc bs := by
  intro h R
  refine w_aload_n mb18 dX2_readInOrder_60 61 rfl rfl ?_
  refine y_geti mb18 dX2_readInOrder_61 64 rfl R 301 lf2_166 rfl rfl rfl h1 (x := kI V 301 (a1)) (by first | rfl | exact if_pos ⟨rfl, rfl⟩) ?_
  refine w_iconst mb18 dX2_readInOrder_64 65 rfl (2) (by decide) ?_
  refine w_icmp_eq mb18 dX2_readInOrder_65 79 68 (by decide) rfl (fun z => ?_) (fun z => ?_)
  · exact K1 z h R
  · exact K2 z h R

theorem bX2_readInOrder_68 {d : Nat} {Fg : Nat → Prop} {h0 : hp} {Q : Option sV → kV → Prop} {V : kV} {bc bs : Nat} {v0 : sV} {v1 : sV} {v2 : sV} {x3 : Int32} {v4 : sV} {v5 : sV} (K1 : (x3) ≤ (24) → cWP d Fg h0 18 Q 79 [v0, v1, v2, sI (x3), v4, v5] [] V bc bs) (K2 : ¬ (x3) ≤ (24) → cWP d Fg h0 18 Q 74 [v0, v1, v2, sI (x3), v4, v5] [] V bc bs) : cWP d Fg h0 18 Q 68 [v0, v1, v2, sI (x3), v4, v5] [] V bc bs := by
  intro h R
  refine w_iload_n mb18 dX2_readInOrder_68 69 rfl rfl ?_
  refine w_bipush mb18 dX2_readInOrder_69 71 rfl (24) (by decide) ?_
  refine w_icmp_le mb18 dX2_readInOrder_71 79 74 (by decide) rfl (fun z => ?_) (fun z => ?_)
  · exact K1 z h R
  · exact K2 z h R

theorem bX2_readInOrder_74 {d : Nat} {Fg : Nat → Prop} {h0 : hp} {Q : Option sV → kV → Prop} {V : kV} {bc bs : Nat} {v0 : sV} {a1 : Nat} {v2 : sV} {v3 : sV} {v4 : sV} {v5 : sV} (h1 : kC V (a1) = 4) (K : Q (some (sR (kR V 312 (a1)))) V) : cWP d Fg h0 18 Q 74 [v0, sR (some a1), v2, v3, v4, v5] [] V bc bs := by
  intro h R
  refine w_aload_n mb18 dX2_readInOrder_74 75 rfl rfl ?_
  refine y_getr mb18 dX2_readInOrder_75 78 rfl R 312 lf2_192 rfl rfl rfl rfl h1 rfl ?_
  refine w_aret mb18 dX2_readInOrder_78 _ rfl (by first | exact Or.inl ⟨_, rfl⟩ | exact Or.inr ⟨_, rfl⟩) ?_
  exact ⟨_, R, K⟩

theorem bX2_readInOrder_79 {d : Nat} {Fg : Nat → Prop} {h0 : hp} {Q : Option sV → kV → Prop} {V : kV} {bc bs : Nat} {v0 : sV} {v1 : sV} {v2 : sV} {v3 : sV} {x4 : Int32} {v5 : sV} (K : cWP d Fg h0 18 Q 10 [v0, v1, v2, v3, sI (x4 + 1), v5] [] V bc bs) : cWP d Fg h0 18 Q 79 [v0, v1, v2, v3, sI (x4), v5] [] V bc bs := by
  intro h R
  refine w_iinc mb18 dX2_readInOrder_79 82 rfl rfl (x4 + 1) rfl [v0, v1, v2, v3, sI (x4 + 1), v5] rfl ?_
  refine w_goto mb18 dX2_readInOrder_82 10 (by decide) ?_
  exact K h R
