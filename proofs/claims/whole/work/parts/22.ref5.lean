theorem bX7_found_15 {d : Nat} {h0 : hp} {m : Nat} {ad : Nat → Nat} {Q : Option sV → rS → rG → Prop} {S : rS} {G : rG} {x1 : Int32} (K1 : (5) ≤ (x1) → rWP d h0 m ad 124 Q 29 [sR (some m), sI (x1)] [] S G) (K2 : ¬ (5) ≤ (x1) → rWP d h0 m ad 124 Q 20 [sR (some m), sI (x1)] [] S G) : rWP d h0 m ad 124 Q 15 [sR (some m), sI (x1)] [] S G := by
  intro h bc bs R
  refine w_iload_n mb124 dX7_found_15 16 rfl rfl ?_
  refine w_iconst mb124 dX7_found_16 17 rfl (5) (by decide) ?_
  refine w_icmp_ge mb124 dX7_found_17 29 20 (by decide) rfl (fun z => ?_) (fun z => ?_)
  · exact K1 z h bc bs R
  · exact K2 z h bc bs R

theorem bX7_found_20 {d : Nat} {h0 : hp} {m : Nat} {ad : Nat → Nat} {Q : Option sV → rS → rG → Prop} {S : rS} {G : rG} {x1 : Int32} (h1 : vp_in (x1) 5) (K : rWP d h0 m ad 124 Q 30 [sR (some m), sI (x1)] [sI ((G 60) (x1).toNatClampNeg)] S G) : rWP d h0 m ad 124 Q 20 [sR (some m), sI (x1)] [] S G := by
  intro h bc bs R
  refine w_aload_n mb124 dX7_found_20 21 rfl rfl ?_
  refine x_geta mb124 dX7_found_21 24 rfl R lf7_151 rfl (by decide) ?_
  refine w_iload_n mb124 dX7_found_24 25 rfl rfl ?_
  refine x_iald mb124 dX7_found_25 26 rfl R 5 rfl (by decide) rfl h1 ?_
  refine w_goto mb124 dX7_found_26 30 (by decide) ?_
  exact K h bc bs R

theorem bX7_found_29 {d : Nat} {h0 : hp} {m : Nat} {ad : Nat → Nat} {Q : Option sV → rS → rG → Prop} {S : rS} {G : rG} {v1 : sV} (K : rWP d h0 m ad 124 Q 30 [sR (some m), v1] [sI ((-1))] S G) : rWP d h0 m ad 124 Q 29 [sR (some m), v1] [] S G := by
  intro h bc bs R
  refine w_iconst mb124 dX7_found_29 30 rfl ((-1)) (by decide) ?_
  exact K h bc bs R

theorem bX7_found_30 {d : Nat} {h0 : hp} {m : Nat} {ad : Nat → Nat} {Q : Option sV → rS → rG → Prop} {S : rS} {G : rG} {v1 : sV} {y0 : Int32} (K : Q (some (sI (y0))) S G) : rWP d h0 m ad 124 Q 30 [sR (some m), v1] [sI (y0)] S G := by
  intro h bc bs R
  refine w_iret mb124 dX7_found_30 rfl ?_
  exact ⟨_, _, R, K⟩
