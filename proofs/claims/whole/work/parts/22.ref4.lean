theorem bX7_finishes_80 {d : Nat} {h0 : hp} {m : Nat} {ad : Nat → Nat} {Q : Option sV → rS → rG → Prop} {S : rS} {G : rG} {x1 : Int32} {v2 : sV} {v3 : sV} (h1 : vp_in (x1) 24) (h2 : vp_in ((24) * (x1)) 576) (K : rWP d h0 m ad 112 Q 95 [sR (some m), sI (x1), v2, v3] [] S (gup G 39 ((24) * (x1)).toNatClampNeg ((G 40) (x1).toNatClampNeg))) : rWP d h0 m ad 112 Q 80 [sR (some m), sI (x1), v2, v3] [] S G := by
  intro h bc bs R
  refine w_aload_n mb112 dX7_finishes_80 81 rfl rfl ?_
  refine x_geta mb112 dX7_finishes_81 84 rfl R lf7_120 rfl (by decide) ?_
  refine w_bipush mb112 dX7_finishes_84 86 rfl (24) (by decide) ?_
  refine w_iload_n mb112 dX7_finishes_86 87 rfl rfl ?_
  refine w_imul mb112 dX7_finishes_87 88 rfl ?_
  refine w_aload_n mb112 dX7_finishes_88 89 rfl rfl ?_
  refine x_geta mb112 dX7_finishes_89 92 rfl R lf7_123 rfl (by decide) ?_
  refine w_iload_n mb112 dX7_finishes_92 93 rfl rfl ?_
  refine x_iald mb112 dX7_finishes_93 94 rfl R 24 rfl (by decide) rfl h1 ?_
  refine x_iast mb112 dX7_finishes_94 95 rfl R 576 rfl (by decide) rfl h2 (fun h R => ?_)
  exact K h bc bs R

theorem bX7_finishes_95 {d : Nat} {h0 : hp} {m : Nat} {ad : Nat → Nat} {Q : Option sV → rS → rG → Prop} {S : rS} {G : rG} {v1 : sV} {x2 : Int32} {v3 : sV} (h1 : vp_in (x2) 24) (K1 : ¬ ((G 2) (x2).toNatClampNeg) = (3) → rWP d h0 m ad 112 Q 110 [sR (some m), v1, sI (x2), v3] [] S G) (K2 : ((G 2) (x2).toNatClampNeg) = (3) → rWP d h0 m ad 112 Q 105 [sR (some m), v1, sI (x2), v3] [] S G) : rWP d h0 m ad 112 Q 95 [sR (some m), v1, sI (x2), v3] [] S G := by
  intro h bc bs R
  refine w_aload_n mb112 dX7_finishes_95 96 rfl rfl ?_
  refine x_geta mb112 dX7_finishes_96 99 rfl R lf7_16 rfl (by decide) ?_
  refine w_iload_n mb112 dX7_finishes_99 100 rfl rfl ?_
  refine x_iald mb112 dX7_finishes_100 101 rfl R 24 rfl (by decide) rfl h1 ?_
  refine w_iconst mb112 dX7_finishes_101 102 rfl (3) (by decide) ?_
  refine w_icmp_ne mb112 dX7_finishes_102 110 105 (by decide) rfl (fun z => ?_) (fun z => ?_)
  · exact K1 z h bc bs R
  · exact K2 z h bc bs R

theorem bX7_finishes_105 {d : Nat} {h0 : hp} {m : Nat} {ad : Nat → Nat} {Q : Option sV → rS → rG → Prop} {S : rS} {G : rG} {x1 : Int32} {v2 : sV} {v3 : sV} {P : Option sV → rS → rG → Prop} (C : rM d h0 m ad 113 [sR (some m), sI (x1)] S G P) (K : ∀ r S1 G1, P r S1 G1 → rWP d h0 m ad 112 Q 110 [sR (some m), sI (x1), v2, v3] (r.toList ++ []) S1 G1) : rWP d h0 m ad 112 Q 105 [sR (some m), sI (x1), v2, v3] [] S G := by
  intro h bc bs R
  refine w_aload_n mb112 dX7_finishes_105 106 rfl rfl ?_
  refine w_iload_n mb112 dX7_finishes_106 107 rfl rfl ?_
  refine w_virtual (a := m) (c := 7) (st := []) mb112 dX7_finishes_107 110 rfl 113 1 [sI (x1)] _ rfl rfl rfl lc7_276 R.2.1 (Nat.le_of_ble_eq_true rfl) (C h 0 0 R) (Nat.zero_le _) (Nat.zero_le _) (fun r h1 hP => ?_)
  obtain ⟨S1, G1, R1, hP⟩ := hP
  exact K r S1 G1 hP h1 _ _ R1

theorem bX7_finishes_110 {d : Nat} {h0 : hp} {m : Nat} {ad : Nat → Nat} {Q : Option sV → rS → rG → Prop} {S : rS} {G : rG} {v1 : sV} {v2 : sV} {v3 : sV} (K : rWP d h0 m ad 112 Q 112 [sR (some m), v1, v2, sI (0)] [] S G) : rWP d h0 m ad 112 Q 110 [sR (some m), v1, v2, v3] [] S G := by
  intro h bc bs R
  refine w_iconst mb112 dX7_finishes_110 111 rfl (0) (by decide) ?_
  refine w_istore_n mb112 dX7_finishes_111 112 rfl [sR (some m), v1, v2, sI (0)] (Nat.le_of_ble_eq_true rfl) rfl ?_
  exact K h bc bs R

theorem bX7_finishes_112 {d : Nat} {h0 : hp} {m : Nat} {ad : Nat → Nat} {Q : Option sV → rS → rG → Prop} {S : rS} {G : rG} {v1 : sV} {x2 : Int32} {x3 : Int32} (h1 : vp_in (x2) 24) (K1 : ((G 19) (x2).toNatClampNeg) ≤ (x3) → rWP d h0 m ad 112 Q 150 [sR (some m), v1, sI (x2), sI (x3)] [] S G) (K2 : ¬ ((G 19) (x2).toNatClampNeg) ≤ (x3) → rWP d h0 m ad 112 Q 122 [sR (some m), v1, sI (x2), sI (x3)] [] S G) : rWP d h0 m ad 112 Q 112 [sR (some m), v1, sI (x2), sI (x3)] [] S G := by
  intro h bc bs R
  refine w_iload_n mb112 dX7_finishes_112 113 rfl rfl ?_
  refine w_aload_n mb112 dX7_finishes_113 114 rfl rfl ?_
  refine x_geta mb112 dX7_finishes_114 117 rfl R lf7_66 rfl (by decide) ?_
  refine w_iload_n mb112 dX7_finishes_117 118 rfl rfl ?_
  refine x_iald mb112 dX7_finishes_118 119 rfl R 24 rfl (by decide) rfl h1 ?_
  refine w_icmp_ge mb112 dX7_finishes_119 150 122 (by decide) rfl (fun z => ?_) (fun z => ?_)
  · exact K1 z h bc bs R
  · exact K2 z h bc bs R

theorem bX7_finishes_122 {d : Nat} {h0 : hp} {m : Nat} {ad : Nat → Nat} {Q : Option sV → rS → rG → Prop} {S : rS} {G : rG} {x1 : Int32} {x2 : Int32} {x3 : Int32} (h1 : vp_in (((24) * (x1)) + (x3)) 576) (h2 : vp_in (((24) * (x2)) + (x3)) 576) (K : rWP d h0 m ad 112 Q 112 [sR (some m), sI (x1), sI (x2), sI (x3 + 1)] [] S (gup G 22 (((24) * (x2)) + (x3)).toNatClampNeg ((G 39) (((24) * (x1)) + (x3)).toNatClampNeg))) : rWP d h0 m ad 112 Q 122 [sR (some m), sI (x1), sI (x2), sI (x3)] [] S G := by
  intro h bc bs R
  refine w_aload_n mb112 dX7_finishes_122 123 rfl rfl ?_
  refine x_geta mb112 dX7_finishes_123 126 rfl R lf7_75 rfl (by decide) ?_
  refine w_bipush mb112 dX7_finishes_126 128 rfl (24) (by decide) ?_
  refine w_iload_n mb112 dX7_finishes_128 129 rfl rfl ?_
  refine w_imul mb112 dX7_finishes_129 130 rfl ?_
  refine w_iload_n mb112 dX7_finishes_130 131 rfl rfl ?_
  refine w_iadd mb112 dX7_finishes_131 132 rfl ?_
  refine w_aload_n mb112 dX7_finishes_132 133 rfl rfl ?_
  refine x_geta mb112 dX7_finishes_133 136 rfl R lf7_120 rfl (by decide) ?_
  refine w_bipush mb112 dX7_finishes_136 138 rfl (24) (by decide) ?_
  refine w_iload_n mb112 dX7_finishes_138 139 rfl rfl ?_
  refine w_imul mb112 dX7_finishes_139 140 rfl ?_
  refine w_iload_n mb112 dX7_finishes_140 141 rfl rfl ?_
  refine w_iadd mb112 dX7_finishes_141 142 rfl ?_
  refine x_iald mb112 dX7_finishes_142 143 rfl R 576 rfl (by decide) rfl h1 ?_
  refine x_iast mb112 dX7_finishes_143 144 rfl R 576 rfl (by decide) rfl h2 (fun h R => ?_)
  refine w_iinc mb112 dX7_finishes_144 147 rfl rfl (x3 + 1) rfl [sR (some m), sI (x1), sI (x2), sI (x3 + 1)] rfl ?_
  refine w_goto mb112 dX7_finishes_147 112 (by decide) ?_
  exact K h bc bs R

theorem bX7_finishes_150 {d : Nat} {h0 : hp} {m : Nat} {ad : Nat → Nat} {Q : Option sV → rS → rG → Prop} {S : rS} {G : rG} {v1 : sV} {v2 : sV} {v3 : sV} (K1 : ¬ (S 27) = 0 → rWP d h0 m ad 112 Q 162 [sR (some m), v1, v2, v3] [] S G) (K2 : (S 27) = 0 → rWP d h0 m ad 112 Q 157 [sR (some m), v1, v2, v3] [] S G) : rWP d h0 m ad 112 Q 150 [sR (some m), v1, v2, v3] [] S G := by
  intro h bc bs R
  refine w_aload_n mb112 dX7_finishes_150 151 rfl rfl ?_
  refine x_geti mb112 dX7_finishes_151 154 rfl R lf7_220 rfl ?_
  refine w_if_ne mb112 dX7_finishes_154 162 157 (by decide) rfl (fun z => ?_) (fun z => ?_)
  · exact K1 z h bc bs R
  · exact K2 z h bc bs R

theorem bX7_finishes_157 {d : Nat} {h0 : hp} {m : Nat} {ad : Nat → Nat} {Q : Option sV → rS → rG → Prop} {S : rS} {G : rG} {x1 : Int32} {v2 : sV} {v3 : sV} {P : Option sV → rS → rG → Prop} (C : rM d h0 m ad 105 [sR (some m), sI (x1)] S G P) (K : ∀ r S1 G1, P r S1 G1 → rWP d h0 m ad 112 Q 162 [sR (some m), sI (x1), v2, v3] (r.toList ++ []) S1 G1) : rWP d h0 m ad 112 Q 157 [sR (some m), sI (x1), v2, v3] [] S G := by
  intro h bc bs R
  refine w_aload_n mb112 dX7_finishes_157 158 rfl rfl ?_
  refine w_iload_n mb112 dX7_finishes_158 159 rfl rfl ?_
  refine w_virtual (a := m) (c := 7) (st := []) mb112 dX7_finishes_159 162 rfl 105 1 [sI (x1)] _ rfl rfl rfl lc7_279 R.2.1 (Nat.le_of_ble_eq_true rfl) (C h 0 0 R) (Nat.zero_le _) (Nat.zero_le _) (fun r h1 hP => ?_)
  obtain ⟨S1, G1, R1, hP⟩ := hP
  exact K r S1 G1 hP h1 _ _ R1

theorem bX7_finishes_162 {d : Nat} {h0 : hp} {m : Nat} {ad : Nat → Nat} {Q : Option sV → rS → rG → Prop} {S : rS} {G : rG} {v1 : sV} {x2 : Int32} {v3 : sV} {P : Option sV → rS → rG → Prop} (C : rM d h0 m ad 97 [sR (some m), sI (x2)] S G P) (K : ∀ r S1 G1, P r S1 G1 → rWP d h0 m ad 112 Q 167 [sR (some m), v1, sI (x2), v3] (r.toList ++ []) S1 G1) : rWP d h0 m ad 112 Q 162 [sR (some m), v1, sI (x2), v3] [] S G := by
  intro h bc bs R
  refine w_aload_n mb112 dX7_finishes_162 163 rfl rfl ?_
  refine w_iload_n mb112 dX7_finishes_163 164 rfl rfl ?_
  refine w_virtual (a := m) (c := 7) (st := []) mb112 dX7_finishes_164 167 rfl 97 1 [sI (x2)] _ rfl rfl rfl lc7_245 R.2.1 (Nat.le_of_ble_eq_true rfl) (C h 0 0 R) (Nat.zero_le _) (Nat.zero_le _) (fun r h1 hP => ?_)
  obtain ⟨S1, G1, R1, hP⟩ := hP
  exact K r S1 G1 hP h1 _ _ R1

theorem bX7_finishes_167 {d : Nat} {h0 : hp} {m : Nat} {ad : Nat → Nat} {Q : Option sV → rS → rG → Prop} {S : rS} {G : rG} {v1 : sV} {v2 : sV} {v3 : sV} (K : Q (none) S G) : rWP d h0 m ad 112 Q 167 [sR (some m), v1, v2, v3] [] S G := by
  intro h bc bs R
  refine w_vret mb112 dX7_finishes_167 rfl ?_
  exact ⟨_, _, R, K⟩

theorem bX7_sorts_0 {d : Nat} {h0 : hp} {m : Nat} {ad : Nat → Nat} {Q : Option sV → rS → rG → Prop} {S : rS} {G : rG} {v1 : sV} {v2 : sV} {v3 : sV} {v4 : sV} (K : rWP d h0 m ad 113 Q 2 [sR (some m), v1, sI (1), v3, v4] [] S G) : rWP d h0 m ad 113 Q 0 [sR (some m), v1, v2, v3, v4] [] S G := by
  intro h bc bs R
  refine w_iconst mb113 dX7_sorts_0 1 rfl (1) (by decide) ?_
  refine w_istore_n mb113 dX7_sorts_1 2 rfl [sR (some m), v1, sI (1), v3, v4] (Nat.le_of_ble_eq_true rfl) rfl ?_
  exact K h bc bs R

theorem bX7_sorts_2 {d : Nat} {h0 : hp} {m : Nat} {ad : Nat → Nat} {Q : Option sV → rS → rG → Prop} {S : rS} {G : rG} {x1 : Int32} {x2 : Int32} {v3 : sV} {v4 : sV} (h1 : vp_in (x1) 24) (K1 : ((G 38) (x1).toNatClampNeg) ≤ (x2) → rWP d h0 m ad 113 Q 101 [sR (some m), sI (x1), sI (x2), v3, v4] [] S G) (K2 : ¬ ((G 38) (x1).toNatClampNeg) ≤ (x2) → rWP d h0 m ad 113 Q 12 [sR (some m), sI (x1), sI (x2), v3, v4] [] S G) : rWP d h0 m ad 113 Q 2 [sR (some m), sI (x1), sI (x2), v3, v4] [] S G := by
  intro h bc bs R
  refine w_iload_n mb113 dX7_sorts_2 3 rfl rfl ?_
  refine w_aload_n mb113 dX7_sorts_3 4 rfl rfl ?_
  refine x_geta mb113 dX7_sorts_4 7 rfl R lf7_117 rfl (by decide) ?_
  refine w_iload_n mb113 dX7_sorts_7 8 rfl rfl ?_
  refine x_iald mb113 dX7_sorts_8 9 rfl R 24 rfl (by decide) rfl h1 ?_
  refine w_icmp_ge mb113 dX7_sorts_9 101 12 (by decide) rfl (fun z => ?_) (fun z => ?_)
  · exact K1 z h bc bs R
  · exact K2 z h bc bs R

theorem bX7_sorts_12 {d : Nat} {h0 : hp} {m : Nat} {ad : Nat → Nat} {Q : Option sV → rS → rG → Prop} {S : rS} {G : rG} {x1 : Int32} {x2 : Int32} {v3 : sV} {v4 : sV} (h1 : vp_in (((24) * (x1)) + (x2)) 576) (K : rWP d h0 m ad 113 Q 27 [sR (some m), sI (x1), sI (x2), sI ((G 39) (((24) * (x1)) + (x2)).toNatClampNeg), sI (x2)] [] S G) : rWP d h0 m ad 113 Q 12 [sR (some m), sI (x1), sI (x2), v3, v4] [] S G := by
  intro h bc bs R
  refine w_aload_n mb113 dX7_sorts_12 13 rfl rfl ?_
  refine x_geta mb113 dX7_sorts_13 16 rfl R lf7_120 rfl (by decide) ?_
  refine w_bipush mb113 dX7_sorts_16 18 rfl (24) (by decide) ?_
  refine w_iload_n mb113 dX7_sorts_18 19 rfl rfl ?_
  refine w_imul mb113 dX7_sorts_19 20 rfl ?_
  refine w_iload_n mb113 dX7_sorts_20 21 rfl rfl ?_
  refine w_iadd mb113 dX7_sorts_21 22 rfl ?_
  refine x_iald mb113 dX7_sorts_22 23 rfl R 576 rfl (by decide) rfl h1 ?_
  refine w_istore_n mb113 dX7_sorts_23 24 rfl [sR (some m), sI (x1), sI (x2), sI ((G 39) (((24) * (x1)) + (x2)).toNatClampNeg), v4] (Nat.le_of_ble_eq_true rfl) rfl ?_
  refine w_iload_n mb113 dX7_sorts_24 25 rfl rfl ?_
  refine w_istore mb113 dX7_sorts_25 27 rfl [sR (some m), sI (x1), sI (x2), sI ((G 39) (((24) * (x1)) + (x2)).toNatClampNeg), sI (x2)] (Nat.le_of_ble_eq_true rfl) rfl ?_
  exact K h bc bs R

theorem bX7_sorts_27 {d : Nat} {h0 : hp} {m : Nat} {ad : Nat → Nat} {Q : Option sV → rS → rG → Prop} {S : rS} {G : rG} {v1 : sV} {v2 : sV} {v3 : sV} {x4 : Int32} (K1 : (x4) ≤ 0 → rWP d h0 m ad 113 Q 82 [sR (some m), v1, v2, v3, sI (x4)] [] S G) (K2 : ¬ (x4) ≤ 0 → rWP d h0 m ad 113 Q 32 [sR (some m), v1, v2, v3, sI (x4)] [] S G) : rWP d h0 m ad 113 Q 27 [sR (some m), v1, v2, v3, sI (x4)] [] S G := by
  intro h bc bs R
  refine w_iload mb113 dX7_sorts_27 29 rfl rfl ?_
  refine w_if_le mb113 dX7_sorts_29 82 32 (by decide) rfl (fun z => ?_) (fun z => ?_)
  · exact K1 z h bc bs R
  · exact K2 z h bc bs R

theorem bX7_sorts_32 {d : Nat} {h0 : hp} {m : Nat} {ad : Nat → Nat} {Q : Option sV → rS → rG → Prop} {S : rS} {G : rG} {x1 : Int32} {v2 : sV} {x3 : Int32} {x4 : Int32} (h1 : vp_in ((((24) * (x1)) + (x4)) - (1)) 576) (K1 : ((G 39) ((((24) * (x1)) + (x4)) - (1)).toNatClampNeg) ≤ (x3) → rWP d h0 m ad 113 Q 82 [sR (some m), sI (x1), v2, sI (x3), sI (x4)] [] S G) (K2 : ¬ ((G 39) ((((24) * (x1)) + (x4)) - (1)).toNatClampNeg) ≤ (x3) → rWP d h0 m ad 113 Q 50 [sR (some m), sI (x1), v2, sI (x3), sI (x4)] [] S G) : rWP d h0 m ad 113 Q 32 [sR (some m), sI (x1), v2, sI (x3), sI (x4)] [] S G := by
  intro h bc bs R
  refine w_aload_n mb113 dX7_sorts_32 33 rfl rfl ?_
  refine x_geta mb113 dX7_sorts_33 36 rfl R lf7_120 rfl (by decide) ?_
  refine w_bipush mb113 dX7_sorts_36 38 rfl (24) (by decide) ?_
  refine w_iload_n mb113 dX7_sorts_38 39 rfl rfl ?_
  refine w_imul mb113 dX7_sorts_39 40 rfl ?_
  refine w_iload mb113 dX7_sorts_40 42 rfl rfl ?_
  refine w_iadd mb113 dX7_sorts_42 43 rfl ?_
  refine w_iconst mb113 dX7_sorts_43 44 rfl (1) (by decide) ?_
  refine w_isub mb113 dX7_sorts_44 45 rfl ?_
  refine x_iald mb113 dX7_sorts_45 46 rfl R 576 rfl (by decide) rfl h1 ?_
  refine w_iload_n mb113 dX7_sorts_46 47 rfl rfl ?_
  refine w_icmp_le mb113 dX7_sorts_47 82 50 (by decide) rfl (fun z => ?_) (fun z => ?_)
  · exact K1 z h bc bs R
  · exact K2 z h bc bs R

theorem bX7_sorts_50 {d : Nat} {h0 : hp} {m : Nat} {ad : Nat → Nat} {Q : Option sV → rS → rG → Prop} {S : rS} {G : rG} {x1 : Int32} {v2 : sV} {v3 : sV} {x4 : Int32} (h1 : vp_in ((((24) * (x1)) + (x4)) - (1)) 576) (h2 : vp_in (((24) * (x1)) + (x4)) 576) (K : rWP d h0 m ad 113 Q 27 [sR (some m), sI (x1), v2, v3, sI (x4 + (-1))] [] S (gup G 39 (((24) * (x1)) + (x4)).toNatClampNeg ((G 39) ((((24) * (x1)) + (x4)) - (1)).toNatClampNeg))) : rWP d h0 m ad 113 Q 50 [sR (some m), sI (x1), v2, v3, sI (x4)] [] S G := by
  intro h bc bs R
  refine w_aload_n mb113 dX7_sorts_50 51 rfl rfl ?_
  refine x_geta mb113 dX7_sorts_51 54 rfl R lf7_120 rfl (by decide) ?_
  refine w_bipush mb113 dX7_sorts_54 56 rfl (24) (by decide) ?_
  refine w_iload_n mb113 dX7_sorts_56 57 rfl rfl ?_
  refine w_imul mb113 dX7_sorts_57 58 rfl ?_
  refine w_iload mb113 dX7_sorts_58 60 rfl rfl ?_
  refine w_iadd mb113 dX7_sorts_60 61 rfl ?_
  refine w_aload_n mb113 dX7_sorts_61 62 rfl rfl ?_
  refine x_geta mb113 dX7_sorts_62 65 rfl R lf7_120 rfl (by decide) ?_
  refine w_bipush mb113 dX7_sorts_65 67 rfl (24) (by decide) ?_
  refine w_iload_n mb113 dX7_sorts_67 68 rfl rfl ?_
  refine w_imul mb113 dX7_sorts_68 69 rfl ?_
  refine w_iload mb113 dX7_sorts_69 71 rfl rfl ?_
  refine w_iadd mb113 dX7_sorts_71 72 rfl ?_
  refine w_iconst mb113 dX7_sorts_72 73 rfl (1) (by decide) ?_
  refine w_isub mb113 dX7_sorts_73 74 rfl ?_
  refine x_iald mb113 dX7_sorts_74 75 rfl R 576 rfl (by decide) rfl h1 ?_
  refine x_iast mb113 dX7_sorts_75 76 rfl R 576 rfl (by decide) rfl h2 (fun h R => ?_)
  refine w_iinc mb113 dX7_sorts_76 79 rfl rfl (x4 + (-1)) rfl [sR (some m), sI (x1), v2, v3, sI (x4 + (-1))] rfl ?_
  refine w_goto mb113 dX7_sorts_79 27 (by decide) ?_
  exact K h bc bs R

theorem bX7_sorts_82 {d : Nat} {h0 : hp} {m : Nat} {ad : Nat → Nat} {Q : Option sV → rS → rG → Prop} {S : rS} {G : rG} {x1 : Int32} {x2 : Int32} {x3 : Int32} {x4 : Int32} (h1 : vp_in (((24) * (x1)) + (x4)) 576) (K : rWP d h0 m ad 113 Q 2 [sR (some m), sI (x1), sI (x2 + 1), sI (x3), sI (x4)] [] S (gup G 39 (((24) * (x1)) + (x4)).toNatClampNeg (x3))) : rWP d h0 m ad 113 Q 82 [sR (some m), sI (x1), sI (x2), sI (x3), sI (x4)] [] S G := by
  intro h bc bs R
  refine w_aload_n mb113 dX7_sorts_82 83 rfl rfl ?_
  refine x_geta mb113 dX7_sorts_83 86 rfl R lf7_120 rfl (by decide) ?_
  refine w_bipush mb113 dX7_sorts_86 88 rfl (24) (by decide) ?_
  refine w_iload_n mb113 dX7_sorts_88 89 rfl rfl ?_
  refine w_imul mb113 dX7_sorts_89 90 rfl ?_
  refine w_iload mb113 dX7_sorts_90 92 rfl rfl ?_
  refine w_iadd mb113 dX7_sorts_92 93 rfl ?_
  refine w_iload_n mb113 dX7_sorts_93 94 rfl rfl ?_
  refine x_iast mb113 dX7_sorts_94 95 rfl R 576 rfl (by decide) rfl h1 (fun h R => ?_)
  refine w_iinc mb113 dX7_sorts_95 98 rfl rfl (x2 + 1) rfl [sR (some m), sI (x1), sI (x2 + 1), sI (x3), sI (x4)] rfl ?_
  refine w_goto mb113 dX7_sorts_98 2 (by decide) ?_
  exact K h bc bs R

theorem bX7_sorts_101 {d : Nat} {h0 : hp} {m : Nat} {ad : Nat → Nat} {Q : Option sV → rS → rG → Prop} {S : rS} {G : rG} {v1 : sV} {v2 : sV} {v3 : sV} {v4 : sV} (K : Q (none) S G) : rWP d h0 m ad 113 Q 101 [sR (some m), v1, v2, v3, v4] [] S G := by
  intro h bc bs R
  refine w_vret mb113 dX7_sorts_101 rfl ?_
  exact ⟨_, _, R, K⟩

theorem bX7_answer_0 {d : Nat} {h0 : hp} {m : Nat} {ad : Nat → Nat} {Q : Option sV → rS → rG → Prop} {S : rS} {G : rG} (K1 : ¬ (S 49) = 0 → rWP d h0 m ad 114 Q 14 [sR (some m)] [] S G) (K2 : (S 49) = 0 → rWP d h0 m ad 114 Q 7 [sR (some m)] [] S G) : rWP d h0 m ad 114 Q 0 [sR (some m)] [] S G := by
  intro h bc bs R
  refine w_aload_n mb114 dX7_answer_0 1 rfl rfl ?_
  refine x_geti mb114 dX7_answer_1 4 rfl R lf7_211 rfl ?_
  refine w_if_ne mb114 dX7_answer_4 14 7 (by decide) rfl (fun z => ?_) (fun z => ?_)
  · exact K1 z h bc bs R
  · exact K2 z h bc bs R

theorem bX7_answer_7 {d : Nat} {h0 : hp} {m : Nat} {ad : Nat → Nat} {Q : Option sV → rS → rG → Prop} {S : rS} {G : rG} (K : rWP d h0 m ad 114 Q 21 [sR (some m)] [sI (S 48)] S G) : rWP d h0 m ad 114 Q 7 [sR (some m)] [] S G := by
  intro h bc bs R
  refine w_aload_n mb114 dX7_answer_7 8 rfl rfl ?_
  refine x_geti mb114 dX7_answer_8 11 rfl R lf7_138 rfl ?_
  refine w_goto mb114 dX7_answer_11 21 (by decide) ?_
  exact K h bc bs R

theorem bX7_answer_14 {d : Nat} {h0 : hp} {m : Nat} {ad : Nat → Nat} {Q : Option sV → rS → rG → Prop} {S : rS} {G : rG} (K : rWP d h0 m ad 114 Q 21 [sR (some m)] [sI (((-10)) - (S 49))] S G) : rWP d h0 m ad 114 Q 14 [sR (some m)] [] S G := by
  intro h bc bs R
  refine w_bipush mb114 dX7_answer_14 16 rfl ((-10)) (by decide) ?_
  refine w_aload_n mb114 dX7_answer_16 17 rfl rfl ?_
  refine x_geti mb114 dX7_answer_17 20 rfl R lf7_211 rfl ?_
  refine w_isub mb114 dX7_answer_20 21 rfl ?_
  exact K h bc bs R

theorem bX7_answer_21 {d : Nat} {h0 : hp} {m : Nat} {ad : Nat → Nat} {Q : Option sV → rS → rG → Prop} {S : rS} {G : rG} {y0 : Int32} (K : Q (some (sI (y0))) S G) : rWP d h0 m ad 114 Q 21 [sR (some m)] [sI (y0)] S G := by
  intro h bc bs R
  refine w_iret mb114 dX7_answer_21 rfl ?_
  exact ⟨_, _, R, K⟩

theorem bX7_make_0 {d : Nat} {h0 : hp} {m : Nat} {ad : Nat → Nat} {Q : Option sV → rS → rG → Prop} {S : rS} {G : rG} {x1 : Int32} {v2 : sV} {P : Option sV → rS → rG → Prop} (C : rM d h0 m ad 75 [sR (some m), sI (x1)] S G P) (K : ∀ r S1 G1, P r S1 G1 → rWP d h0 m ad 115 Q 5 [sR (some m), sI (x1), v2] (r.toList ++ []) S1 G1) : rWP d h0 m ad 115 Q 0 [sR (some m), sI (x1), v2] [] S G := by
  intro h bc bs R
  refine w_aload_n mb115 dX7_make_0 1 rfl rfl ?_
  refine w_iload_n mb115 dX7_make_1 2 rfl rfl ?_
  refine w_virtual (a := m) (c := 7) (st := []) mb115 dX7_make_2 5 rfl 75 1 [sI (x1)] _ rfl rfl rfl lc7_168 R.2.1 (Nat.le_of_ble_eq_true rfl) (C h 0 0 R) (Nat.zero_le _) (Nat.zero_le _) (fun r h1 hP => ?_)
  obtain ⟨S1, G1, R1, hP⟩ := hP
  exact K r S1 G1 hP h1 _ _ R1

theorem bX7_make_5 {d : Nat} {h0 : hp} {m : Nat} {ad : Nat → Nat} {Q : Option sV → rS → rG → Prop} {S : rS} {G : rG} {v1 : sV} {v2 : sV} {y0 : Int32} (K1 : ¬ (y0) = 0 → rWP d h0 m ad 115 Q 10 [sR (some m), v1, v2] [] S G) (K2 : (y0) = 0 → rWP d h0 m ad 115 Q 8 [sR (some m), v1, v2] [] S G) : rWP d h0 m ad 115 Q 5 [sR (some m), v1, v2] [sI (y0)] S G := by
  intro h bc bs R
  refine w_if_ne mb115 dX7_make_5 10 8 (by decide) rfl (fun z => ?_) (fun z => ?_)
  · exact K1 z h bc bs R
  · exact K2 z h bc bs R

theorem bX7_make_8 {d : Nat} {h0 : hp} {m : Nat} {ad : Nat → Nat} {Q : Option sV → rS → rG → Prop} {S : rS} {G : rG} {v1 : sV} {v2 : sV} (K : Q (some (sI ((-1)))) S G) : rWP d h0 m ad 115 Q 8 [sR (some m), v1, v2] [] S G := by
  intro h bc bs R
  refine w_iconst mb115 dX7_make_8 9 rfl ((-1)) (by decide) ?_
  refine w_iret mb115 dX7_make_9 rfl ?_
  exact ⟨_, _, R, K⟩

theorem bX7_make_10 {d : Nat} {h0 : hp} {m : Nat} {ad : Nat → Nat} {Q : Option sV → rS → rG → Prop} {S : rS} {G : rG} {v1 : sV} {v2 : sV} (K : rWP d h0 m ad 115 Q 27 [sR (some m), v1, sI (0)] [] (va_up (va_up (va_up S 27 (0)) 53 (0)) 52 (0)) G) : rWP d h0 m ad 115 Q 10 [sR (some m), v1, v2] [] S G := by
  intro h bc bs R
  refine w_aload_n mb115 dX7_make_10 11 rfl rfl ?_
  refine w_iconst mb115 dX7_make_11 12 rfl (0) (by decide) ?_
  refine x_putz mb115 dX7_make_12 15 rfl R (lp7_220 _) rfl (Or.inl rfl) (fun h R => ?_)
  refine w_aload_n mb115 dX7_make_15 16 rfl rfl ?_
  refine w_iconst mb115 dX7_make_16 17 rfl (0) (by decide) ?_
  refine x_puti mb115 dX7_make_17 20 rfl R (lp7_242 _) rfl (fun h R => ?_)
  refine w_aload_n mb115 dX7_make_20 21 rfl rfl ?_
  refine w_iconst mb115 dX7_make_21 22 rfl (0) (by decide) ?_
  refine x_puti mb115 dX7_make_22 25 rfl R (lp7_264 _) rfl (fun h R => ?_)
  refine w_iconst mb115 dX7_make_25 26 rfl (0) (by decide) ?_
  refine w_istore_n mb115 dX7_make_26 27 rfl [sR (some m), v1, sI (0)] (Nat.le_of_ble_eq_true rfl) rfl ?_
  exact K h bc bs R

theorem bX7_make_27 {d : Nat} {h0 : hp} {m : Nat} {ad : Nat → Nat} {Q : Option sV → rS → rG → Prop} {S : rS} {G : rG} {v1 : sV} {x2 : Int32} (K1 : (96) ≤ (x2) → rWP d h0 m ad 115 Q 46 [sR (some m), v1, sI (x2)] [] S G) (K2 : ¬ (96) ≤ (x2) → rWP d h0 m ad 115 Q 33 [sR (some m), v1, sI (x2)] [] S G) : rWP d h0 m ad 115 Q 27 [sR (some m), v1, sI (x2)] [] S G := by
  intro h bc bs R
  refine w_iload_n mb115 dX7_make_27 28 rfl rfl ?_
  refine w_bipush mb115 dX7_make_28 30 rfl (96) (by decide) ?_
  refine w_icmp_ge mb115 dX7_make_30 46 33 (by decide) rfl (fun z => ?_) (fun z => ?_)
  · exact K1 z h bc bs R
  · exact K2 z h bc bs R

theorem bX7_make_33 {d : Nat} {h0 : hp} {m : Nat} {ad : Nat → Nat} {Q : Option sV → rS → rG → Prop} {S : rS} {G : rG} {v1 : sV} {x2 : Int32} (h1 : vp_in (x2) 96) (K : rWP d h0 m ad 115 Q 27 [sR (some m), v1, sI (x2 + 1)] [] S (gup G 58 (x2).toNatClampNeg ((-1)))) : rWP d h0 m ad 115 Q 33 [sR (some m), v1, sI (x2)] [] S G := by
  intro h bc bs R
  refine w_aload_n mb115 dX7_make_33 34 rfl rfl ?_
  refine x_geta mb115 dX7_make_34 37 rfl R lf7_148 rfl (by decide) ?_
  refine w_iload_n mb115 dX7_make_37 38 rfl rfl ?_
  refine w_iconst mb115 dX7_make_38 39 rfl ((-1)) (by decide) ?_
  refine x_iast mb115 dX7_make_39 40 rfl R 96 rfl (by decide) rfl h1 (fun h R => ?_)
  refine w_iinc mb115 dX7_make_40 43 rfl rfl (x2 + 1) rfl [sR (some m), v1, sI (x2 + 1)] rfl ?_
  refine w_goto mb115 dX7_make_43 27 (by decide) ?_
  exact K h bc bs R

theorem bX7_make_46 {d : Nat} {h0 : hp} {m : Nat} {ad : Nat → Nat} {Q : Option sV → rS → rG → Prop} {S : rS} {G : rG} {x1 : Int32} {v2 : sV} {P : Option sV → rS → rG → Prop} (C : rM d h0 m ad 98 [sR (some m), sI (x1)] (va_up S 54 ((S 54) + (1))) G P) (K : ∀ r S1 G1, P r S1 G1 → rWP d h0 m ad 115 Q 61 [sR (some m), sI (x1), v2] (r.toList ++ []) S1 G1) : rWP d h0 m ad 115 Q 46 [sR (some m), sI (x1), v2] [] S G := by
  intro h bc bs R
  refine w_aload_n mb115 dX7_make_46 47 rfl rfl ?_
  refine w_dup mb115 dX7_make_47 48 rfl rfl ?_
  refine x_geti mb115 dX7_make_48 51 rfl R lf7_282 rfl ?_
  refine w_iconst mb115 dX7_make_51 52 rfl (1) (by decide) ?_
  refine w_iadd mb115 dX7_make_52 53 rfl ?_
  refine x_puti mb115 dX7_make_53 56 rfl R (lp7_282 _) rfl (fun h R => ?_)
  refine w_aload_n mb115 dX7_make_56 57 rfl rfl ?_
  refine w_iload_n mb115 dX7_make_57 58 rfl rfl ?_
  refine w_virtual (a := m) (c := 7) (st := []) mb115 dX7_make_58 61 rfl 98 1 [sI (x1)] _ rfl rfl rfl lc7_285 R.2.1 (Nat.le_of_ble_eq_true rfl) (C h 0 0 R) (Nat.zero_le _) (Nat.zero_le _) (fun r h1 hP => ?_)
  obtain ⟨S1, G1, R1, hP⟩ := hP
  exact K r S1 G1 hP h1 _ _ R1

theorem bX7_make_61 {d : Nat} {h0 : hp} {m : Nat} {ad : Nat → Nat} {Q : Option sV → rS → rG → Prop} {S : rS} {G : rG} {v1 : sV} {v2 : sV} {P : Option sV → rS → rG → Prop} (C : rM d h0 m ad 114 [sR (some m)] S G P) (K : ∀ r S1 G1, P r S1 G1 → rWP d h0 m ad 115 Q 65 [sR (some m), v1, v2] (r.toList ++ []) S1 G1) : rWP d h0 m ad 115 Q 61 [sR (some m), v1, v2] [] S G := by
  intro h bc bs R
  refine w_aload_n mb115 dX7_make_61 62 rfl rfl ?_
  refine w_virtual (a := m) (c := 7) (st := []) mb115 dX7_make_62 65 rfl 114 0 [] _ rfl rfl rfl lc7_288 R.2.1 (Nat.le_of_ble_eq_true rfl) (C h 0 0 R) (Nat.zero_le _) (Nat.zero_le _) (fun r h1 hP => ?_)
  obtain ⟨S1, G1, R1, hP⟩ := hP
  exact K r S1 G1 hP h1 _ _ R1

theorem bX7_make_65 {d : Nat} {h0 : hp} {m : Nat} {ad : Nat → Nat} {Q : Option sV → rS → rG → Prop} {S : rS} {G : rG} {v1 : sV} {v2 : sV} {y0 : Int32} (K : Q (some (sI (y0))) S G) : rWP d h0 m ad 115 Q 65 [sR (some m), v1, v2] [sI (y0)] S G := by
  intro h bc bs R
  refine w_iret mb115 dX7_make_65 rfl ?_
  exact ⟨_, _, R, K⟩

theorem bX7_anew_0 {d : Nat} {h0 : hp} {m : Nat} {ad : Nat → Nat} {Q : Option sV → rS → rG → Prop} {S : rS} {G : rG} {x1 : Int32} {P : Option sV → rS → rG → Prop} (C : rM d h0 m ad 75 [sR (some m), sI (x1)] S G P) (K : ∀ r S1 G1, P r S1 G1 → rWP d h0 m ad 116 Q 5 [sR (some m), sI (x1)] (r.toList ++ []) S1 G1) : rWP d h0 m ad 116 Q 0 [sR (some m), sI (x1)] [] S G := by
  intro h bc bs R
  refine w_aload_n mb116 dX7_anew_0 1 rfl rfl ?_
  refine w_iload_n mb116 dX7_anew_1 2 rfl rfl ?_
  refine w_virtual (a := m) (c := 7) (st := []) mb116 dX7_anew_2 5 rfl 75 1 [sI (x1)] _ rfl rfl rfl lc7_168 R.2.1 (Nat.le_of_ble_eq_true rfl) (C h 0 0 R) (Nat.zero_le _) (Nat.zero_le _) (fun r h1 hP => ?_)
  obtain ⟨S1, G1, R1, hP⟩ := hP
  exact K r S1 G1 hP h1 _ _ R1

theorem bX7_anew_5 {d : Nat} {h0 : hp} {m : Nat} {ad : Nat → Nat} {Q : Option sV → rS → rG → Prop} {S : rS} {G : rG} {v1 : sV} {y0 : Int32} (K1 : ¬ (y0) = 0 → rWP d h0 m ad 116 Q 10 [sR (some m), v1] [] S G) (K2 : (y0) = 0 → rWP d h0 m ad 116 Q 8 [sR (some m), v1] [] S G) : rWP d h0 m ad 116 Q 5 [sR (some m), v1] [sI (y0)] S G := by
  intro h bc bs R
  refine w_if_ne mb116 dX7_anew_5 10 8 (by decide) rfl (fun z => ?_) (fun z => ?_)
  · exact K1 z h bc bs R
  · exact K2 z h bc bs R

theorem bX7_anew_8 {d : Nat} {h0 : hp} {m : Nat} {ad : Nat → Nat} {Q : Option sV → rS → rG → Prop} {S : rS} {G : rG} {v1 : sV} (K : Q (some (sI ((-1)))) S G) : rWP d h0 m ad 116 Q 8 [sR (some m), v1] [] S G := by
  intro h bc bs R
  refine w_iconst mb116 dX7_anew_8 9 rfl ((-1)) (by decide) ?_
  refine w_iret mb116 dX7_anew_9 rfl ?_
  exact ⟨_, _, R, K⟩

theorem bX7_anew_10 {d : Nat} {h0 : hp} {m : Nat} {ad : Nat → Nat} {Q : Option sV → rS → rG → Prop} {S : rS} {G : rG} {x1 : Int32} {P : Option sV → rS → rG → Prop} (C : rM d h0 m ad 98 [sR (some m), sI (x1)] (va_up S 27 (1)) G P) (K : ∀ r S1 G1, P r S1 G1 → rWP d h0 m ad 116 Q 20 [sR (some m), sI (x1)] (r.toList ++ []) S1 G1) : rWP d h0 m ad 116 Q 10 [sR (some m), sI (x1)] [] S G := by
  intro h bc bs R
  refine w_aload_n mb116 dX7_anew_10 11 rfl rfl ?_
  refine w_iconst mb116 dX7_anew_11 12 rfl (1) (by decide) ?_
  refine x_putz mb116 dX7_anew_12 15 rfl R (lp7_220 _) rfl (Or.inr rfl) (fun h R => ?_)
  refine w_aload_n mb116 dX7_anew_15 16 rfl rfl ?_
  refine w_iload_n mb116 dX7_anew_16 17 rfl rfl ?_
  refine w_virtual (a := m) (c := 7) (st := []) mb116 dX7_anew_17 20 rfl 98 1 [sI (x1)] _ rfl rfl rfl lc7_285 R.2.1 (Nat.le_of_ble_eq_true rfl) (C h 0 0 R) (Nat.zero_le _) (Nat.zero_le _) (fun r h1 hP => ?_)
  obtain ⟨S1, G1, R1, hP⟩ := hP
  exact K r S1 G1 hP h1 _ _ R1

theorem bX7_anew_20 {d : Nat} {h0 : hp} {m : Nat} {ad : Nat → Nat} {Q : Option sV → rS → rG → Prop} {S : rS} {G : rG} {v1 : sV} {P : Option sV → rS → rG → Prop} (C : rM d h0 m ad 114 [sR (some m)] S G P) (K : ∀ r S1 G1, P r S1 G1 → rWP d h0 m ad 116 Q 24 [sR (some m), v1] (r.toList ++ []) S1 G1) : rWP d h0 m ad 116 Q 20 [sR (some m), v1] [] S G := by
  intro h bc bs R
  refine w_aload_n mb116 dX7_anew_20 21 rfl rfl ?_
  refine w_virtual (a := m) (c := 7) (st := []) mb116 dX7_anew_21 24 rfl 114 0 [] _ rfl rfl rfl lc7_288 R.2.1 (Nat.le_of_ble_eq_true rfl) (C h 0 0 R) (Nat.zero_le _) (Nat.zero_le _) (fun r h1 hP => ?_)
  obtain ⟨S1, G1, R1, hP⟩ := hP
  exact K r S1 G1 hP h1 _ _ R1

theorem bX7_anew_24 {d : Nat} {h0 : hp} {m : Nat} {ad : Nat → Nat} {Q : Option sV → rS → rG → Prop} {S : rS} {G : rG} {v1 : sV} {y0 : Int32} (K : Q (some (sI (y0))) S G) : rWP d h0 m ad 116 Q 24 [sR (some m), v1] [sI (y0)] S G := by
  intro h bc bs R
  refine w_iret mb116 dX7_anew_24 rfl ?_
  exact ⟨_, _, R, K⟩

theorem bX7_outcome_0 {d : Nat} {h0 : hp} {m : Nat} {ad : Nat → Nat} {Q : Option sV → rS → rG → Prop} {S : rS} {G : rG} {v1 : sV} (K1 : ¬ (S 48) = ((-1)) → rWP d h0 m ad 117 Q 10 [sR (some m), v1] [] S G) (K2 : (S 48) = ((-1)) → rWP d h0 m ad 117 Q 8 [sR (some m), v1] [] S G) : rWP d h0 m ad 117 Q 0 [sR (some m), v1] [] S G := by
  intro h bc bs R
  refine w_aload_n mb117 dX7_outcome_0 1 rfl rfl ?_
  refine x_geti mb117 dX7_outcome_1 4 rfl R lf7_138 rfl ?_
  refine w_iconst mb117 dX7_outcome_4 5 rfl ((-1)) (by decide) ?_
  refine w_icmp_ne mb117 dX7_outcome_5 10 8 (by decide) rfl (fun z => ?_) (fun z => ?_)
  · exact K1 z h bc bs R
  · exact K2 z h bc bs R

theorem bX7_outcome_8 {d : Nat} {h0 : hp} {m : Nat} {ad : Nat → Nat} {Q : Option sV → rS → rG → Prop} {S : rS} {G : rG} {v1 : sV} (K : Q (some (sI ((-1)))) S G) : rWP d h0 m ad 117 Q 8 [sR (some m), v1] [] S G := by
  intro h bc bs R
  refine w_iconst mb117 dX7_outcome_8 9 rfl ((-1)) (by decide) ?_
  refine w_iret mb117 dX7_outcome_9 rfl ?_
  exact ⟨_, _, R, K⟩

theorem bX7_outcome_10 {d : Nat} {h0 : hp} {m : Nat} {ad : Nat → Nat} {Q : Option sV → rS → rG → Prop} {S : rS} {G : rG} {x1 : Int32} (K1 : ¬ (x1) = 0 → rWP d h0 m ad 117 Q 21 [sR (some m), sI (x1)] [] S G) (K2 : (x1) = 0 → rWP d h0 m ad 117 Q 14 [sR (some m), sI (x1)] [] S G) : rWP d h0 m ad 117 Q 10 [sR (some m), sI (x1)] [] S G := by
  intro h bc bs R
  refine w_iload_n mb117 dX7_outcome_10 11 rfl rfl ?_
  refine w_if_ne mb117 dX7_outcome_11 21 14 (by decide) rfl (fun z => ?_) (fun z => ?_)
  · exact K1 z h bc bs R
  · exact K2 z h bc bs R

theorem bX7_outcome_14 {d : Nat} {h0 : hp} {m : Nat} {ad : Nat → Nat} {Q : Option sV → rS → rG → Prop} {S : rS} {G : rG} {v1 : sV} (K : rWP d h0 m ad 117 Q 46 [sR (some m), v1] [sI (S 48)] S G) : rWP d h0 m ad 117 Q 14 [sR (some m), v1] [] S G := by
  intro h bc bs R
  refine w_aload_n mb117 dX7_outcome_14 15 rfl rfl ?_
  refine x_geti mb117 dX7_outcome_15 18 rfl R lf7_138 rfl ?_
  refine w_goto mb117 dX7_outcome_18 46 (by decide) ?_
  exact K h bc bs R

theorem bX7_outcome_21 {d : Nat} {h0 : hp} {m : Nat} {ad : Nat → Nat} {Q : Option sV → rS → rG → Prop} {S : rS} {G : rG} {x1 : Int32} (K1 : ¬ (x1) = (1) → rWP d h0 m ad 117 Q 33 [sR (some m), sI (x1)] [] S G) (K2 : (x1) = (1) → rWP d h0 m ad 117 Q 26 [sR (some m), sI (x1)] [] S G) : rWP d h0 m ad 117 Q 21 [sR (some m), sI (x1)] [] S G := by
  intro h bc bs R
  refine w_iload_n mb117 dX7_outcome_21 22 rfl rfl ?_
  refine w_iconst mb117 dX7_outcome_22 23 rfl (1) (by decide) ?_
  refine w_icmp_ne mb117 dX7_outcome_23 33 26 (by decide) rfl (fun z => ?_) (fun z => ?_)
  · exact K1 z h bc bs R
  · exact K2 z h bc bs R

theorem bX7_outcome_26 {d : Nat} {h0 : hp} {m : Nat} {ad : Nat → Nat} {Q : Option sV → rS → rG → Prop} {S : rS} {G : rG} {v1 : sV} (K : rWP d h0 m ad 117 Q 46 [sR (some m), v1] [sI (S 49)] S G) : rWP d h0 m ad 117 Q 26 [sR (some m), v1] [] S G := by
  intro h bc bs R
  refine w_aload_n mb117 dX7_outcome_26 27 rfl rfl ?_
  refine x_geti mb117 dX7_outcome_27 30 rfl R lf7_211 rfl ?_
  refine w_goto mb117 dX7_outcome_30 46 (by decide) ?_
  exact K h bc bs R

theorem bX7_outcome_33 {d : Nat} {h0 : hp} {m : Nat} {ad : Nat → Nat} {Q : Option sV → rS → rG → Prop} {S : rS} {G : rG} {x1 : Int32} (K1 : ¬ (x1) = (2) → rWP d h0 m ad 117 Q 45 [sR (some m), sI (x1)] [] S G) (K2 : (x1) = (2) → rWP d h0 m ad 117 Q 38 [sR (some m), sI (x1)] [] S G) : rWP d h0 m ad 117 Q 33 [sR (some m), sI (x1)] [] S G := by
  intro h bc bs R
  refine w_iload_n mb117 dX7_outcome_33 34 rfl rfl ?_
  refine w_iconst mb117 dX7_outcome_34 35 rfl (2) (by decide) ?_
  refine w_icmp_ne mb117 dX7_outcome_35 45 38 (by decide) rfl (fun z => ?_) (fun z => ?_)
  · exact K1 z h bc bs R
  · exact K2 z h bc bs R

theorem bX7_outcome_38 {d : Nat} {h0 : hp} {m : Nat} {ad : Nat → Nat} {Q : Option sV → rS → rG → Prop} {S : rS} {G : rG} {v1 : sV} (K : rWP d h0 m ad 117 Q 46 [sR (some m), v1] [sI (S 50)] S G) : rWP d h0 m ad 117 Q 38 [sR (some m), v1] [] S G := by
  intro h bc bs R
  refine w_aload_n mb117 dX7_outcome_38 39 rfl rfl ?_
  refine x_geti mb117 dX7_outcome_39 42 rfl R lf7_214 rfl ?_
  refine w_goto mb117 dX7_outcome_42 46 (by decide) ?_
  exact K h bc bs R

theorem bX7_outcome_45 {d : Nat} {h0 : hp} {m : Nat} {ad : Nat → Nat} {Q : Option sV → rS → rG → Prop} {S : rS} {G : rG} {v1 : sV} (K : rWP d h0 m ad 117 Q 46 [sR (some m), v1] [sI ((-1))] S G) : rWP d h0 m ad 117 Q 45 [sR (some m), v1] [] S G := by
  intro h bc bs R
  refine w_iconst mb117 dX7_outcome_45 46 rfl ((-1)) (by decide) ?_
  exact K h bc bs R

theorem bX7_outcome_46 {d : Nat} {h0 : hp} {m : Nat} {ad : Nat → Nat} {Q : Option sV → rS → rG → Prop} {S : rS} {G : rG} {v1 : sV} {y0 : Int32} (K : Q (some (sI (y0))) S G) : rWP d h0 m ad 117 Q 46 [sR (some m), v1] [sI (y0)] S G := by
  intro h bc bs R
  refine w_iret mb117 dX7_outcome_46 rfl ?_
  exact ⟨_, _, R, K⟩

theorem bX7_part_0 {d : Nat} {h0 : hp} {m : Nat} {ad : Nat → Nat} {Q : Option sV → rS → rG → Prop} {S : rS} {G : rG} {x1 : Int32} (K1 : (x1) < 0 → rWP d h0 m ad 118 Q 21 [sR (some m), sI (x1)] [] S G) (K2 : ¬ (x1) < 0 → rWP d h0 m ad 118 Q 4 [sR (some m), sI (x1)] [] S G) : rWP d h0 m ad 118 Q 0 [sR (some m), sI (x1)] [] S G := by
  intro h bc bs R
  refine w_iload_n mb118 dX7_part_0 1 rfl rfl ?_
  refine w_if_lt mb118 dX7_part_1 21 4 (by decide) rfl (fun z => ?_) (fun z => ?_)
  · exact K1 z h bc bs R
  · exact K2 z h bc bs R

theorem bX7_part_4 {d : Nat} {h0 : hp} {m : Nat} {ad : Nat → Nat} {Q : Option sV → rS → rG → Prop} {S : rS} {G : rG} {x1 : Int32} (K1 : (S 48) ≤ (x1) → rWP d h0 m ad 118 Q 21 [sR (some m), sI (x1)] [] S G) (K2 : ¬ (S 48) ≤ (x1) → rWP d h0 m ad 118 Q 12 [sR (some m), sI (x1)] [] S G) : rWP d h0 m ad 118 Q 4 [sR (some m), sI (x1)] [] S G := by
  intro h bc bs R
  refine w_iload_n mb118 dX7_part_4 5 rfl rfl ?_
  refine w_aload_n mb118 dX7_part_5 6 rfl rfl ?_
  refine x_geti mb118 dX7_part_6 9 rfl R lf7_138 rfl ?_
  refine w_icmp_ge mb118 dX7_part_9 21 12 (by decide) rfl (fun z => ?_) (fun z => ?_)
  · exact K1 z h bc bs R
  · exact K2 z h bc bs R

theorem bX7_part_12 {d : Nat} {h0 : hp} {m : Nat} {ad : Nat → Nat} {Q : Option sV → rS → rG → Prop} {S : rS} {G : rG} {x1 : Int32} (h1 : vp_in (x1) 24) (K : rWP d h0 m ad 118 Q 22 [sR (some m), sI (x1)] [sI ((G 56) (x1).toNatClampNeg)] S G) : rWP d h0 m ad 118 Q 12 [sR (some m), sI (x1)] [] S G := by
  intro h bc bs R
  refine w_aload_n mb118 dX7_part_12 13 rfl rfl ?_
  refine x_geta mb118 dX7_part_13 16 rfl R lf7_142 rfl (by decide) ?_
  refine w_iload_n mb118 dX7_part_16 17 rfl rfl ?_
  refine x_iald mb118 dX7_part_17 18 rfl R 24 rfl (by decide) rfl h1 ?_
  refine w_goto mb118 dX7_part_18 22 (by decide) ?_
  exact K h bc bs R

theorem bX7_part_21 {d : Nat} {h0 : hp} {m : Nat} {ad : Nat → Nat} {Q : Option sV → rS → rG → Prop} {S : rS} {G : rG} {v1 : sV} (K : rWP d h0 m ad 118 Q 22 [sR (some m), v1] [sI (0)] S G) : rWP d h0 m ad 118 Q 21 [sR (some m), v1] [] S G := by
  intro h bc bs R
  refine w_iconst mb118 dX7_part_21 22 rfl (0) (by decide) ?_
  exact K h bc bs R

theorem bX7_part_22 {d : Nat} {h0 : hp} {m : Nat} {ad : Nat → Nat} {Q : Option sV → rS → rG → Prop} {S : rS} {G : rG} {v1 : sV} {y0 : Int32} (K : Q (some (sI (y0))) S G) : rWP d h0 m ad 118 Q 22 [sR (some m), v1] [sI (y0)] S G := by
  intro h bc bs R
  refine w_iret mb118 dX7_part_22 rfl ?_
  exact ⟨_, _, R, K⟩

theorem bX7_ring_0 {d : Nat} {h0 : hp} {m : Nat} {ad : Nat → Nat} {Q : Option sV → rS → rG → Prop} {S : rS} {G : rG} {x1 : Int32} {v2 : sV} {v3 : sV} (K : rWP d h0 m ad 119 Q 4 [sR (some m), sI (x1), sI (x1), sI (0)] [] S G) : rWP d h0 m ad 119 Q 0 [sR (some m), sI (x1), v2, v3] [] S G := by
  intro h bc bs R
  refine w_iload_n mb119 dX7_ring_0 1 rfl rfl ?_
  refine w_istore_n mb119 dX7_ring_1 2 rfl [sR (some m), sI (x1), sI (x1), v3] (Nat.le_of_ble_eq_true rfl) rfl ?_
  refine w_iconst mb119 dX7_ring_2 3 rfl (0) (by decide) ?_
  refine w_istore_n mb119 dX7_ring_3 4 rfl [sR (some m), sI (x1), sI (x1), sI (0)] (Nat.le_of_ble_eq_true rfl) rfl ?_
  exact K h bc bs R

theorem bX7_ring_4 {d : Nat} {h0 : hp} {m : Nat} {ad : Nat → Nat} {Q : Option sV → rS → rG → Prop} {S : rS} {G : rG} {v1 : sV} {v2 : sV} {x3 : Int32} (K1 : (24) ≤ (x3) → rWP d h0 m ad 119 Q 39 [sR (some m), v1, v2, sI (x3)] [] S G) (K2 : ¬ (24) ≤ (x3) → rWP d h0 m ad 119 Q 10 [sR (some m), v1, v2, sI (x3)] [] S G) : rWP d h0 m ad 119 Q 4 [sR (some m), v1, v2, sI (x3)] [] S G := by
  intro h bc bs R
  refine w_iload_n mb119 dX7_ring_4 5 rfl rfl ?_
  refine w_bipush mb119 dX7_ring_5 7 rfl (24) (by decide) ?_
  refine w_icmp_ge mb119 dX7_ring_7 39 10 (by decide) rfl (fun z => ?_) (fun z => ?_)
  · exact K1 z h bc bs R
  · exact K2 z h bc bs R

theorem bX7_ring_10 {d : Nat} {h0 : hp} {m : Nat} {ad : Nat → Nat} {Q : Option sV → rS → rG → Prop} {S : rS} {G : rG} {v1 : sV} {v2 : sV} {x3 : Int32} (K1 : ¬ (((S 51) >>> ((x3) &&& 31)) &&& (1)) = 0 → rWP d h0 m ad 119 Q 24 [sR (some m), v1, v2, sI (x3)] [] S G) (K2 : (((S 51) >>> ((x3) &&& 31)) &&& (1)) = 0 → rWP d h0 m ad 119 Q 21 [sR (some m), v1, v2, sI (x3)] [] S G) : rWP d h0 m ad 119 Q 10 [sR (some m), v1, v2, sI (x3)] [] S G := by
  intro h bc bs R
  refine w_aload_n mb119 dX7_ring_10 11 rfl rfl ?_
  refine x_geti mb119 dX7_ring_11 14 rfl R lf7_217 rfl ?_
  refine w_iload_n mb119 dX7_ring_14 15 rfl rfl ?_
  refine w_ishr mb119 dX7_ring_15 16 rfl ?_
  refine w_iconst mb119 dX7_ring_16 17 rfl (1) (by decide) ?_
  refine w_iand mb119 dX7_ring_17 18 rfl ?_
  refine w_if_ne mb119 dX7_ring_18 24 21 (by decide) rfl (fun z => ?_) (fun z => ?_)
  · exact K1 z h bc bs R
  · exact K2 z h bc bs R

theorem bX7_ring_21 {d : Nat} {h0 : hp} {m : Nat} {ad : Nat → Nat} {Q : Option sV → rS → rG → Prop} {S : rS} {G : rG} {v1 : sV} {v2 : sV} {v3 : sV} (K : rWP d h0 m ad 119 Q 33 [sR (some m), v1, v2, v3] [] S G) : rWP d h0 m ad 119 Q 21 [sR (some m), v1, v2, v3] [] S G := by
  intro h bc bs R
  refine w_goto mb119 dX7_ring_21 33 (by decide) ?_
  exact K h bc bs R

theorem bX7_ring_24 {d : Nat} {h0 : hp} {m : Nat} {ad : Nat → Nat} {Q : Option sV → rS → rG → Prop} {S : rS} {G : rG} {v1 : sV} {x2 : Int32} {v3 : sV} (K1 : ¬ (x2) = 0 → rWP d h0 m ad 119 Q 30 [sR (some m), v1, sI (x2), v3] [] S G) (K2 : (x2) = 0 → rWP d h0 m ad 119 Q 28 [sR (some m), v1, sI (x2), v3] [] S G) : rWP d h0 m ad 119 Q 24 [sR (some m), v1, sI (x2), v3] [] S G := by
  intro h bc bs R
  refine w_iload_n mb119 dX7_ring_24 25 rfl rfl ?_
  refine w_if_ne mb119 dX7_ring_25 30 28 (by decide) rfl (fun z => ?_) (fun z => ?_)
  · exact K1 z h bc bs R
  · exact K2 z h bc bs R

theorem bX7_ring_28 {d : Nat} {h0 : hp} {m : Nat} {ad : Nat → Nat} {Q : Option sV → rS → rG → Prop} {S : rS} {G : rG} {v1 : sV} {v2 : sV} {x3 : Int32} (K : Q (some (sI (x3))) S G) : rWP d h0 m ad 119 Q 28 [sR (some m), v1, v2, sI (x3)] [] S G := by
  intro h bc bs R
  refine w_iload_n mb119 dX7_ring_28 29 rfl rfl ?_
  refine w_iret mb119 dX7_ring_29 rfl ?_
  exact ⟨_, _, R, K⟩

theorem bX7_ring_30 {d : Nat} {h0 : hp} {m : Nat} {ad : Nat → Nat} {Q : Option sV → rS → rG → Prop} {S : rS} {G : rG} {v1 : sV} {x2 : Int32} {v3 : sV} (K : rWP d h0 m ad 119 Q 33 [sR (some m), v1, sI (x2 + (-1)), v3] [] S G) : rWP d h0 m ad 119 Q 30 [sR (some m), v1, sI (x2), v3] [] S G := by
  intro h bc bs R
  refine w_iinc mb119 dX7_ring_30 33 rfl rfl (x2 + (-1)) rfl [sR (some m), v1, sI (x2 + (-1)), v3] rfl ?_
  exact K h bc bs R

theorem bX7_ring_33 {d : Nat} {h0 : hp} {m : Nat} {ad : Nat → Nat} {Q : Option sV → rS → rG → Prop} {S : rS} {G : rG} {v1 : sV} {v2 : sV} {x3 : Int32} (K : rWP d h0 m ad 119 Q 4 [sR (some m), v1, v2, sI (x3 + 1)] [] S G) : rWP d h0 m ad 119 Q 33 [sR (some m), v1, v2, sI (x3)] [] S G := by
  intro h bc bs R
  refine w_iinc mb119 dX7_ring_33 36 rfl rfl (x3 + 1) rfl [sR (some m), v1, v2, sI (x3 + 1)] rfl ?_
  refine w_goto mb119 dX7_ring_36 4 (by decide) ?_
  exact K h bc bs R

theorem bX7_ring_39 {d : Nat} {h0 : hp} {m : Nat} {ad : Nat → Nat} {Q : Option sV → rS → rG → Prop} {S : rS} {G : rG} {v1 : sV} {v2 : sV} {v3 : sV} (K : Q (some (sI ((-1)))) S G) : rWP d h0 m ad 119 Q 39 [sR (some m), v1, v2, v3] [] S G := by
  intro h bc bs R
  refine w_iconst mb119 dX7_ring_39 40 rfl ((-1)) (by decide) ?_
  refine w_iret mb119 dX7_ring_40 rfl ?_
  exact ⟨_, _, R, K⟩

theorem bX7_worked_0 {d : Nat} {h0 : hp} {m : Nat} {ad : Nat → Nat} {Q : Option sV → rS → rG → Prop} {S : rS} {G : rG} {x1 : Int32} (K1 : (x1) < 0 → rWP d h0 m ad 120 Q 21 [sR (some m), sI (x1)] [] S G) (K2 : ¬ (x1) < 0 → rWP d h0 m ad 120 Q 4 [sR (some m), sI (x1)] [] S G) : rWP d h0 m ad 120 Q 0 [sR (some m), sI (x1)] [] S G := by
  intro h bc bs R
  refine w_iload_n mb120 dX7_worked_0 1 rfl rfl ?_
  refine w_if_lt mb120 dX7_worked_1 21 4 (by decide) rfl (fun z => ?_) (fun z => ?_)
  · exact K1 z h bc bs R
  · exact K2 z h bc bs R

theorem bX7_worked_4 {d : Nat} {h0 : hp} {m : Nat} {ad : Nat → Nat} {Q : Option sV → rS → rG → Prop} {S : rS} {G : rG} {x1 : Int32} (K1 : (S 52) ≤ (x1) → rWP d h0 m ad 120 Q 21 [sR (some m), sI (x1)] [] S G) (K2 : ¬ (S 52) ≤ (x1) → rWP d h0 m ad 120 Q 12 [sR (some m), sI (x1)] [] S G) : rWP d h0 m ad 120 Q 4 [sR (some m), sI (x1)] [] S G := by
  intro h bc bs R
  refine w_iload_n mb120 dX7_worked_4 5 rfl rfl ?_
  refine w_aload_n mb120 dX7_worked_5 6 rfl rfl ?_
  refine x_geti mb120 dX7_worked_6 9 rfl R lf7_264 rfl ?_
  refine w_icmp_ge mb120 dX7_worked_9 21 12 (by decide) rfl (fun z => ?_) (fun z => ?_)
  · exact K1 z h bc bs R
  · exact K2 z h bc bs R

theorem bX7_worked_12 {d : Nat} {h0 : hp} {m : Nat} {ad : Nat → Nat} {Q : Option sV → rS → rG → Prop} {S : rS} {G : rG} {x1 : Int32} (h1 : vp_in (x1) 24) (K : rWP d h0 m ad 120 Q 22 [sR (some m), sI (x1)] [sI ((G 57) (x1).toNatClampNeg)] S G) : rWP d h0 m ad 120 Q 12 [sR (some m), sI (x1)] [] S G := by
  intro h bc bs R
  refine w_aload_n mb120 dX7_worked_12 13 rfl rfl ?_
  refine x_geta mb120 dX7_worked_13 16 rfl R lf7_145 rfl (by decide) ?_
  refine w_iload_n mb120 dX7_worked_16 17 rfl rfl ?_
  refine x_iald mb120 dX7_worked_17 18 rfl R 24 rfl (by decide) rfl h1 ?_
  refine w_goto mb120 dX7_worked_18 22 (by decide) ?_
  exact K h bc bs R

theorem bX7_worked_21 {d : Nat} {h0 : hp} {m : Nat} {ad : Nat → Nat} {Q : Option sV → rS → rG → Prop} {S : rS} {G : rG} {v1 : sV} (K : rWP d h0 m ad 120 Q 22 [sR (some m), v1] [sI ((-1))] S G) : rWP d h0 m ad 120 Q 21 [sR (some m), v1] [] S G := by
  intro h bc bs R
  refine w_iconst mb120 dX7_worked_21 22 rfl ((-1)) (by decide) ?_
  exact K h bc bs R

theorem bX7_worked_22 {d : Nat} {h0 : hp} {m : Nat} {ad : Nat → Nat} {Q : Option sV → rS → rG → Prop} {S : rS} {G : rG} {v1 : sV} {y0 : Int32} (K : Q (some (sI (y0))) S G) : rWP d h0 m ad 120 Q 22 [sR (some m), v1] [sI (y0)] S G := by
  intro h bc bs R
  refine w_iret mb120 dX7_worked_22 rfl ?_
  exact ⟨_, _, R, K⟩

theorem bX7_looked_0 {d : Nat} {h0 : hp} {m : Nat} {ad : Nat → Nat} {Q : Option sV → rS → rG → Prop} {S : rS} {G : rG} (K : Q (some (sI (S 53))) S G) : rWP d h0 m ad 121 Q 0 [sR (some m)] [] S G := by
  intro h bc bs R
  refine w_aload_n mb121 dX7_looked_0 1 rfl rfl ?_
  refine x_geti mb121 dX7_looked_1 4 rfl R lf7_242 rfl ?_
  refine w_iret mb121 dX7_looked_4 rfl ?_
  exact ⟨_, _, R, K⟩

theorem bX7_stale_0 {d : Nat} {h0 : hp} {m : Nat} {ad : Nat → Nat} {Q : Option sV → rS → rG → Prop} {S : rS} {G : rG} {x1 : Int32} {v2 : sV} {P : Option sV → rS → rG → Prop} (C : rM d h0 m ad 75 [sR (some m), sI (x1)] S G P) (K : ∀ r S1 G1, P r S1 G1 → rWP d h0 m ad 122 Q 5 [sR (some m), sI (x1), v2] (r.toList ++ []) S1 G1) : rWP d h0 m ad 122 Q 0 [sR (some m), sI (x1), v2] [] S G := by
  intro h bc bs R
  refine w_aload_n mb122 dX7_stale_0 1 rfl rfl ?_
  refine w_iload_n mb122 dX7_stale_1 2 rfl rfl ?_
  refine w_virtual (a := m) (c := 7) (st := []) mb122 dX7_stale_2 5 rfl 75 1 [sI (x1)] _ rfl rfl rfl lc7_168 R.2.1 (Nat.le_of_ble_eq_true rfl) (C h 0 0 R) (Nat.zero_le _) (Nat.zero_le _) (fun r h1 hP => ?_)
  obtain ⟨S1, G1, R1, hP⟩ := hP
  exact K r S1 G1 hP h1 _ _ R1

theorem bX7_stale_5 {d : Nat} {h0 : hp} {m : Nat} {ad : Nat → Nat} {Q : Option sV → rS → rG → Prop} {S : rS} {G : rG} {v1 : sV} {v2 : sV} {y0 : Int32} (K1 : (y0) = 0 → rWP d h0 m ad 122 Q 30 [sR (some m), v1, v2] [] S G) (K2 : ¬ (y0) = 0 → rWP d h0 m ad 122 Q 8 [sR (some m), v1, v2] [] S G) : rWP d h0 m ad 122 Q 5 [sR (some m), v1, v2] [sI (y0)] S G := by
  intro h bc bs R
  refine w_if_eq mb122 dX7_stale_5 30 8 (by decide) rfl (fun z => ?_) (fun z => ?_)
  · exact K1 z h bc bs R
  · exact K2 z h bc bs R

theorem bX7_stale_8 {d : Nat} {h0 : hp} {m : Nat} {ad : Nat → Nat} {Q : Option sV → rS → rG → Prop} {S : rS} {G : rG} {v1 : sV} {x2 : Int32} (K1 : (x2) < 0 → rWP d h0 m ad 122 Q 30 [sR (some m), v1, sI (x2)] [] S G) (K2 : ¬ (x2) < 0 → rWP d h0 m ad 122 Q 12 [sR (some m), v1, sI (x2)] [] S G) : rWP d h0 m ad 122 Q 8 [sR (some m), v1, sI (x2)] [] S G := by
  intro h bc bs R
  refine w_iload_n mb122 dX7_stale_8 9 rfl rfl ?_
  refine w_if_lt mb122 dX7_stale_9 30 12 (by decide) rfl (fun z => ?_) (fun z => ?_)
  · exact K1 z h bc bs R
  · exact K2 z h bc bs R

theorem bX7_stale_12 {d : Nat} {h0 : hp} {m : Nat} {ad : Nat → Nat} {Q : Option sV → rS → rG → Prop} {S : rS} {G : rG} {v1 : sV} {x2 : Int32} (K1 : (4) ≤ (x2) → rWP d h0 m ad 122 Q 30 [sR (some m), v1, sI (x2)] [] S G) (K2 : ¬ (4) ≤ (x2) → rWP d h0 m ad 122 Q 17 [sR (some m), v1, sI (x2)] [] S G) : rWP d h0 m ad 122 Q 12 [sR (some m), v1, sI (x2)] [] S G := by
  intro h bc bs R
  refine w_iload_n mb122 dX7_stale_12 13 rfl rfl ?_
  refine w_iconst mb122 dX7_stale_13 14 rfl (4) (by decide) ?_
  refine w_icmp_ge mb122 dX7_stale_14 30 17 (by decide) rfl (fun z => ?_) (fun z => ?_)
  · exact K1 z h bc bs R
  · exact K2 z h bc bs R

theorem bX7_stale_17 {d : Nat} {h0 : hp} {m : Nat} {ad : Nat → Nat} {Q : Option sV → rS → rG → Prop} {S : rS} {G : rG} {x1 : Int32} {x2 : Int32} (h1 : vp_in (((4) * (x1)) + (x2)) 96) (K : rWP d h0 m ad 122 Q 31 [sR (some m), sI (x1), sI (x2)] [sI ((G 58) (((4) * (x1)) + (x2)).toNatClampNeg)] S G) : rWP d h0 m ad 122 Q 17 [sR (some m), sI (x1), sI (x2)] [] S G := by
  intro h bc bs R
  refine w_aload_n mb122 dX7_stale_17 18 rfl rfl ?_
  refine x_geta mb122 dX7_stale_18 21 rfl R lf7_148 rfl (by decide) ?_
  refine w_iconst mb122 dX7_stale_21 22 rfl (4) (by decide) ?_
  refine w_iload_n mb122 dX7_stale_22 23 rfl rfl ?_
  refine w_imul mb122 dX7_stale_23 24 rfl ?_
  refine w_iload_n mb122 dX7_stale_24 25 rfl rfl ?_
  refine w_iadd mb122 dX7_stale_25 26 rfl ?_
  refine x_iald mb122 dX7_stale_26 27 rfl R 96 rfl (by decide) rfl h1 ?_
  refine w_goto mb122 dX7_stale_27 31 (by decide) ?_
  exact K h bc bs R

theorem bX7_stale_30 {d : Nat} {h0 : hp} {m : Nat} {ad : Nat → Nat} {Q : Option sV → rS → rG → Prop} {S : rS} {G : rG} {v1 : sV} {v2 : sV} (K : rWP d h0 m ad 122 Q 31 [sR (some m), v1, v2] [sI ((-1))] S G) : rWP d h0 m ad 122 Q 30 [sR (some m), v1, v2] [] S G := by
  intro h bc bs R
  refine w_iconst mb122 dX7_stale_30 31 rfl ((-1)) (by decide) ?_
  exact K h bc bs R

theorem bX7_stale_31 {d : Nat} {h0 : hp} {m : Nat} {ad : Nat → Nat} {Q : Option sV → rS → rG → Prop} {S : rS} {G : rG} {v1 : sV} {v2 : sV} {y0 : Int32} (K : Q (some (sI (y0))) S G) : rWP d h0 m ad 122 Q 31 [sR (some m), v1, v2] [sI (y0)] S G := by
  intro h bc bs R
  refine w_iret mb122 dX7_stale_31 rfl ?_
  exact ⟨_, _, R, K⟩

theorem bX7_count_0 {d : Nat} {h0 : hp} {m : Nat} {ad : Nat → Nat} {Q : Option sV → rS → rG → Prop} {S : rS} {G : rG} {v1 : sV} {v2 : sV} {v3 : sV} (K : rWP d h0 m ad 123 Q 4 [sR (some m), v1, sI (0), sI (0)] [] S G) : rWP d h0 m ad 123 Q 0 [sR (some m), v1, v2, v3] [] S G := by
  intro h bc bs R
  refine w_iconst mb123 dX7_count_0 1 rfl (0) (by decide) ?_
  refine w_istore_n mb123 dX7_count_1 2 rfl [sR (some m), v1, sI (0), v3] (Nat.le_of_ble_eq_true rfl) rfl ?_
  refine w_iconst mb123 dX7_count_2 3 rfl (0) (by decide) ?_
  refine w_istore_n mb123 dX7_count_3 4 rfl [sR (some m), v1, sI (0), sI (0)] (Nat.le_of_ble_eq_true rfl) rfl ?_
  exact K h bc bs R

theorem bX7_count_4 {d : Nat} {h0 : hp} {m : Nat} {ad : Nat → Nat} {Q : Option sV → rS → rG → Prop} {S : rS} {G : rG} {v1 : sV} {v2 : sV} {x3 : Int32} (K1 : (S 6) ≤ (x3) → rWP d h0 m ad 123 Q 27 [sR (some m), v1, v2, sI (x3)] [] S G) (K2 : ¬ (S 6) ≤ (x3) → rWP d h0 m ad 123 Q 12 [sR (some m), v1, v2, sI (x3)] [] S G) : rWP d h0 m ad 123 Q 4 [sR (some m), v1, v2, sI (x3)] [] S G := by
  intro h bc bs R
  refine w_iload_n mb123 dX7_count_4 5 rfl rfl ?_
  refine w_aload_n mb123 dX7_count_5 6 rfl rfl ?_
  refine x_geti mb123 dX7_count_6 9 rfl R lf7_157 rfl ?_
  refine w_icmp_ge mb123 dX7_count_9 27 12 (by decide) rfl (fun z => ?_) (fun z => ?_)
  · exact K1 z h bc bs R
  · exact K2 z h bc bs R

theorem bX7_count_12 {d : Nat} {h0 : hp} {m : Nat} {ad : Nat → Nat} {Q : Option sV → rS → rG → Prop} {S : rS} {G : rG} {v1 : sV} {x2 : Int32} {x3 : Int32} (h1 : vp_in (x3) 24) (K : rWP d h0 m ad 123 Q 4 [sR (some m), v1, sI ((x2) + ((G 7) (x3).toNatClampNeg)), sI (x3 + 1)] [] S G) : rWP d h0 m ad 123 Q 12 [sR (some m), v1, sI (x2), sI (x3)] [] S G := by
  intro h bc bs R
  refine w_iload_n mb123 dX7_count_12 13 rfl rfl ?_
  refine w_aload_n mb123 dX7_count_13 14 rfl rfl ?_
  refine x_geta mb123 dX7_count_14 17 rfl R lf7_29 rfl (by decide) ?_
  refine w_iload_n mb123 dX7_count_17 18 rfl rfl ?_
  refine x_iald mb123 dX7_count_18 19 rfl R 24 rfl (by decide) rfl h1 ?_
  refine w_iadd mb123 dX7_count_19 20 rfl ?_
  refine w_istore_n mb123 dX7_count_20 21 rfl [sR (some m), v1, sI ((x2) + ((G 7) (x3).toNatClampNeg)), sI (x3)] (Nat.le_of_ble_eq_true rfl) rfl ?_
  refine w_iinc mb123 dX7_count_21 24 rfl rfl (x3 + 1) rfl [sR (some m), v1, sI ((x2) + ((G 7) (x3).toNatClampNeg)), sI (x3 + 1)] rfl ?_
  refine w_goto mb123 dX7_count_24 4 (by decide) ?_
  exact K h bc bs R

theorem bX7_count_27 {d : Nat} {h0 : hp} {m : Nat} {ad : Nat → Nat} {Q : Option sV → rS → rG → Prop} {S : rS} {G : rG} {x1 : Int32} {v2 : sV} {v3 : sV} (K1 : ¬ (x1) = 0 → rWP d h0 m ad 123 Q 38 [sR (some m), sI (x1), v2, v3] [] S G) (K2 : (x1) = 0 → rWP d h0 m ad 123 Q 31 [sR (some m), sI (x1), v2, v3] [] S G) : rWP d h0 m ad 123 Q 27 [sR (some m), sI (x1), v2, v3] [] S G := by
  intro h bc bs R
  refine w_iload_n mb123 dX7_count_27 28 rfl rfl ?_
  refine w_if_ne mb123 dX7_count_28 38 31 (by decide) rfl (fun z => ?_) (fun z => ?_)
  · exact K1 z h bc bs R
  · exact K2 z h bc bs R

theorem bX7_count_31 {d : Nat} {h0 : hp} {m : Nat} {ad : Nat → Nat} {Q : Option sV → rS → rG → Prop} {S : rS} {G : rG} {v1 : sV} {v2 : sV} {v3 : sV} (K : rWP d h0 m ad 123 Q 72 [sR (some m), v1, v2, v3] [sI (S 6)] S G) : rWP d h0 m ad 123 Q 31 [sR (some m), v1, v2, v3] [] S G := by
  intro h bc bs R
  refine w_aload_n mb123 dX7_count_31 32 rfl rfl ?_
  refine x_geti mb123 dX7_count_32 35 rfl R lf7_157 rfl ?_
  refine w_goto mb123 dX7_count_35 72 (by decide) ?_
  exact K h bc bs R

theorem bX7_count_38 {d : Nat} {h0 : hp} {m : Nat} {ad : Nat → Nat} {Q : Option sV → rS → rG → Prop} {S : rS} {G : rG} {x1 : Int32} {v2 : sV} {v3 : sV} (K1 : ¬ (x1) = (1) → rWP d h0 m ad 123 Q 50 [sR (some m), sI (x1), v2, v3] [] S G) (K2 : (x1) = (1) → rWP d h0 m ad 123 Q 43 [sR (some m), sI (x1), v2, v3] [] S G) : rWP d h0 m ad 123 Q 38 [sR (some m), sI (x1), v2, v3] [] S G := by
  intro h bc bs R
  refine w_iload_n mb123 dX7_count_38 39 rfl rfl ?_
  refine w_iconst mb123 dX7_count_39 40 rfl (1) (by decide) ?_
  refine w_icmp_ne mb123 dX7_count_40 50 43 (by decide) rfl (fun z => ?_) (fun z => ?_)
  · exact K1 z h bc bs R
  · exact K2 z h bc bs R

theorem bX7_count_43 {d : Nat} {h0 : hp} {m : Nat} {ad : Nat → Nat} {Q : Option sV → rS → rG → Prop} {S : rS} {G : rG} {v1 : sV} {v2 : sV} {v3 : sV} (K : rWP d h0 m ad 123 Q 72 [sR (some m), v1, v2, v3] [sI (S 54)] S G) : rWP d h0 m ad 123 Q 43 [sR (some m), v1, v2, v3] [] S G := by
  intro h bc bs R
  refine w_aload_n mb123 dX7_count_43 44 rfl rfl ?_
  refine x_geti mb123 dX7_count_44 47 rfl R lf7_282 rfl ?_
  refine w_goto mb123 dX7_count_47 72 (by decide) ?_
  exact K h bc bs R

theorem bX7_count_50 {d : Nat} {h0 : hp} {m : Nat} {ad : Nat → Nat} {Q : Option sV → rS → rG → Prop} {S : rS} {G : rG} {x1 : Int32} {v2 : sV} {v3 : sV} (K1 : ¬ (x1) = (2) → rWP d h0 m ad 123 Q 62 [sR (some m), sI (x1), v2, v3] [] S G) (K2 : (x1) = (2) → rWP d h0 m ad 123 Q 55 [sR (some m), sI (x1), v2, v3] [] S G) : rWP d h0 m ad 123 Q 50 [sR (some m), sI (x1), v2, v3] [] S G := by
  intro h bc bs R
  refine w_iload_n mb123 dX7_count_50 51 rfl rfl ?_
  refine w_iconst mb123 dX7_count_51 52 rfl (2) (by decide) ?_
  refine w_icmp_ne mb123 dX7_count_52 62 55 (by decide) rfl (fun z => ?_) (fun z => ?_)
  · exact K1 z h bc bs R
  · exact K2 z h bc bs R

theorem bX7_count_55 {d : Nat} {h0 : hp} {m : Nat} {ad : Nat → Nat} {Q : Option sV → rS → rG → Prop} {S : rS} {G : rG} {v1 : sV} {v2 : sV} {v3 : sV} (K : rWP d h0 m ad 123 Q 72 [sR (some m), v1, v2, v3] [sI (S 55)] S G) : rWP d h0 m ad 123 Q 55 [sR (some m), v1, v2, v3] [] S G := by
  intro h bc bs R
  refine w_aload_n mb123 dX7_count_55 56 rfl rfl ?_
  refine x_geti mb123 dX7_count_56 59 rfl R lf7_267 rfl ?_
  refine w_goto mb123 dX7_count_59 72 (by decide) ?_
  exact K h bc bs R

theorem bX7_count_62 {d : Nat} {h0 : hp} {m : Nat} {ad : Nat → Nat} {Q : Option sV → rS → rG → Prop} {S : rS} {G : rG} {x1 : Int32} {v2 : sV} {v3 : sV} (K1 : ¬ (x1) = (3) → rWP d h0 m ad 123 Q 71 [sR (some m), sI (x1), v2, v3] [] S G) (K2 : (x1) = (3) → rWP d h0 m ad 123 Q 67 [sR (some m), sI (x1), v2, v3] [] S G) : rWP d h0 m ad 123 Q 62 [sR (some m), sI (x1), v2, v3] [] S G := by
  intro h bc bs R
  refine w_iload_n mb123 dX7_count_62 63 rfl rfl ?_
  refine w_iconst mb123 dX7_count_63 64 rfl (3) (by decide) ?_
  refine w_icmp_ne mb123 dX7_count_64 71 67 (by decide) rfl (fun z => ?_) (fun z => ?_)
  · exact K1 z h bc bs R
  · exact K2 z h bc bs R

theorem bX7_count_67 {d : Nat} {h0 : hp} {m : Nat} {ad : Nat → Nat} {Q : Option sV → rS → rG → Prop} {S : rS} {G : rG} {v1 : sV} {x2 : Int32} {v3 : sV} (K : rWP d h0 m ad 123 Q 72 [sR (some m), v1, sI (x2), v3] [sI (x2)] S G) : rWP d h0 m ad 123 Q 67 [sR (some m), v1, sI (x2), v3] [] S G := by
  intro h bc bs R
  refine w_iload_n mb123 dX7_count_67 68 rfl rfl ?_
  refine w_goto mb123 dX7_count_68 72 (by decide) ?_
  exact K h bc bs R

theorem bX7_count_71 {d : Nat} {h0 : hp} {m : Nat} {ad : Nat → Nat} {Q : Option sV → rS → rG → Prop} {S : rS} {G : rG} {v1 : sV} {v2 : sV} {v3 : sV} (K : rWP d h0 m ad 123 Q 72 [sR (some m), v1, v2, v3] [sI ((-1))] S G) : rWP d h0 m ad 123 Q 71 [sR (some m), v1, v2, v3] [] S G := by
  intro h bc bs R
  refine w_iconst mb123 dX7_count_71 72 rfl ((-1)) (by decide) ?_
  exact K h bc bs R

theorem bX7_count_72 {d : Nat} {h0 : hp} {m : Nat} {ad : Nat → Nat} {Q : Option sV → rS → rG → Prop} {S : rS} {G : rG} {v1 : sV} {v2 : sV} {v3 : sV} {y0 : Int32} (K : Q (some (sI (y0))) S G) : rWP d h0 m ad 123 Q 72 [sR (some m), v1, v2, v3] [sI (y0)] S G := by
  intro h bc bs R
  refine w_iret mb123 dX7_count_72 rfl ?_
  exact ⟨_, _, R, K⟩

theorem bX7_found_0 {d : Nat} {h0 : hp} {m : Nat} {ad : Nat → Nat} {Q : Option sV → rS → rG → Prop} {S : rS} {G : rG} {x1 : Int32} (K1 : ¬ (x1) = 0 → rWP d h0 m ad 124 Q 11 [sR (some m), sI (x1)] [] S G) (K2 : (x1) = 0 → rWP d h0 m ad 124 Q 4 [sR (some m), sI (x1)] [] S G) : rWP d h0 m ad 124 Q 0 [sR (some m), sI (x1)] [] S G := by
  intro h bc bs R
  refine w_iload_n mb124 dX7_found_0 1 rfl rfl ?_
  refine w_if_ne mb124 dX7_found_1 11 4 (by decide) rfl (fun z => ?_) (fun z => ?_)
  · exact K1 z h bc bs R
  · exact K2 z h bc bs R

theorem bX7_found_4 {d : Nat} {h0 : hp} {m : Nat} {ad : Nat → Nat} {Q : Option sV → rS → rG → Prop} {S : rS} {G : rG} {v1 : sV} (K : rWP d h0 m ad 124 Q 30 [sR (some m), v1] [sI (S 59)] S G) : rWP d h0 m ad 124 Q 4 [sR (some m), v1] [] S G := by
  intro h bc bs R
  refine w_aload_n mb124 dX7_found_4 5 rfl rfl ?_
  refine x_geti mb124 dX7_found_5 8 rfl R lf7_154 rfl ?_
  refine w_goto mb124 dX7_found_8 30 (by decide) ?_
  exact K h bc bs R

theorem bX7_found_11 {d : Nat} {h0 : hp} {m : Nat} {ad : Nat → Nat} {Q : Option sV → rS → rG → Prop} {S : rS} {G : rG} {x1 : Int32} (K1 : (x1) ≤ 0 → rWP d h0 m ad 124 Q 29 [sR (some m), sI (x1)] [] S G) (K2 : ¬ (x1) ≤ 0 → rWP d h0 m ad 124 Q 15 [sR (some m), sI (x1)] [] S G) : rWP d h0 m ad 124 Q 11 [sR (some m), sI (x1)] [] S G := by
  intro h bc bs R
  refine w_iload_n mb124 dX7_found_11 12 rfl rfl ?_
  refine w_if_le mb124 dX7_found_12 29 15 (by decide) rfl (fun z => ?_) (fun z => ?_)
  · exact K1 z h bc bs R
  · exact K2 z h bc bs R
