/-! THE REFERENCE's constructor -/
def rRaw (hb h : hp) (m : Nat) (ad : Nat → Nat) (P : List Nat) (S : rS) : Prop := gk h m = 8 ∧ gk hb m = 0 ∧ (∀ k, gi h (700 + k) m = S k) ∧ (∀ k ∈ P, gr h (700 + k) m = some (ad k) ∧ gk hb (ad k) = 0 ∧ ad k ≠ m ∧ gk h (ad k) = rK k ∧ gl h (ad k) = rL k ∧ ga h (ad k) = fun _ => 0) ∧ (∀ j k, j ∈ P → k ∈ P → ad j = ad k → j = k) ∧ ∀ a, a ≠ m → (∀ k ∈ P, a ≠ ad k) → hsame hb h a
theorem rK_ge (k : Nat) : 20 ≤ rK k := by
  unfold rK
  split <;> omega
theorem rRaw.start {hb : hp} {m : Nat} (hm : gk hb m = 0) : rRaw hb (nw hb m 8 0) m (fun _ => 0) [] (fun _ => 0) := by
  refine ⟨by rw [gk_nw, if_pos rfl], hm, fun k => by rw [gi_nw, if_pos rfl], fun k hk => (by cases hk), fun j k hj => (by cases hj), fun a ha _ => hsame.rf.nw ha⟩
theorem rRaw.si {hb h : hp} {m : Nat} {ad : Nat → Nat} {P : List Nat} {S : rS} (H : rRaw hb h m ad P S) (k : Nat) (x : Int32) : rRaw hb (wi h (700 + k) m x) m ad P (va_up S k x) := by
  obtain ⟨h1, h2, h3, h4, h5, h6⟩ := H
  refine ⟨h1, h2, fun j => ?_, h4, h5, fun a ha hp => (h6 a ha hp).wi ha⟩
  rw [gi_wi]
  by_cases e : j = k
  · subst e
    rw [if_pos ⟨rfl, rfl⟩, va_up_self]
  · rw [if_neg (by omega), va_up_ne _ _ e]
    exact h3 j
theorem rRaw.arr {hb h : hp} {m q k kk n : Nat} {ad : Nat → Nat} {P : List Nat} {S : rS} (H : rRaw hb h m ad P S) (hk : k ∉ P) (hkk : rK k = kk) (hn : rL k = n) (hq : gk h q = 0) : rRaw hb (wr (nw h q kk n) (700 + k) m (some q)) m (va_up ad k q) (k :: P) S ∧ gk (nw h q kk n) m = 7 + 1 := by
  subst hkk hn
  obtain ⟨h1, h2, h3, h4, h5, h6⟩ := H
  have qm : m ≠ q := fun e => by rw [e, hq] at h1; cases h1
  have qa : ∀ j ∈ P, ad j ≠ q := fun j hj e => by
    have := (h4 j hj).2.2.2.1
    rw [e, hq] at this
    have := rK_ge j
    omega
  have qb : gk hb q = 0 := by
    rw [← (h6 q (Ne.symm qm) (fun j hj => Ne.symm (qa j hj))).1]
    exact hq
  have ne : ∀ j ∈ P, j ≠ k := fun j hj e => hk (by rw [← e]; exact hj)
  refine ⟨⟨by rw [gk_wr, gk_nw, if_neg qm]; exact h1, h2, fun j => by rw [gi_wr, gi_nw, if_neg qm]; exact h3 j, fun j hj => ?_, fun i j hi hj e => ?_, fun a ha hp => ?_⟩, by rw [gk_nw, if_neg qm]; exact h1⟩
  · rcases List.mem_cons.mp hj with e | hj
    · subst e
      rw [va_up_self, gr_wr, if_pos ⟨rfl, rfl⟩, gk_wr, gk_nw, if_pos rfl, gl_wr, gl_nw, if_pos rfl, ga_wr, ga_nw, if_pos rfl]
      exact ⟨rfl, qb, Ne.symm qm, rfl, rfl, rfl⟩
    · obtain ⟨a1, a2, a3, a4, a5, a6⟩ := h4 j hj
      have e := ne j hj
      have f := qa j hj
      rw [va_up_ne _ _ e, gr_wr, if_neg (by omega), gr_nw, if_neg qm, gk_wr, gk_nw, if_neg f, gl_wr, gl_nw, if_neg f, ga_wr, ga_nw, if_neg f]
      exact ⟨a1, a2, a3, a4, a5, a6⟩
  · rcases List.mem_cons.mp hi with ei | hi <;> rcases List.mem_cons.mp hj with ej | hj
    · exact ei.trans ej.symm
    · rw [ei, va_up_self, va_up_ne _ _ (ne j hj)] at e
      exact absurd e.symm (qa j hj)
    · rw [ej, va_up_self, va_up_ne _ _ (ne i hi)] at e
      exact absurd e (qa i hi)
    · rw [va_up_ne _ _ (ne i hi), va_up_ne _ _ (ne j hj)] at e
      exact h5 i j hi hj e
  · have aq : a ≠ q := fun e => hp k List.mem_cons_self (by rw [va_up_self]; exact e)
    refine ((h6 a ha (fun j hj => ?_)).nw aq).wr ha
    have := hp j (List.mem_cons_of_mem _ hj)
    rw [va_up_ne _ _ (ne j hj)] at this
    exact this
theorem rL_in {k : Nat} (h : rL k ≠ 0) : k ∈ [60, 58, 57, 56, 47, 43, 42, 41, 40, 39, 38, 37, 36, 35, 34, 33, 31, 30, 29, 28, 26, 25, 24, 23, 22, 21, 20, 19, 18, 17, 16, 15, 14, 13, 12, 11, 10, 9, 8, 7, 5, 4, 3, 2, 1, 0] := by
  unfold rL at h
  split at h <;> first | decide | exact absurd rfl h
theorem rRaw.done {hb h : hp} {m : Nat} {ad : Nat → Nat} {S : rS} (H : rRaw hb h m ad [60, 58, 57, 56, 47, 43, 42, 41, 40, 39, 38, 37, 36, 35, 34, 33, 31, 30, 29, 28, 26, 25, 24, 23, 22, 21, 20, 19, 18, 17, 16, 15, 14, 13, 12, 11, 10, 9, 8, 7, 5, 4, 3, 2, 1, 0] S) : RS hb m ad S (fun _ _ => 0) h ∧ gk hb m = 0 ∧ ∀ k, rL k ≠ 0 → gk hb (ad k) = 0 := by
  obtain ⟨h1, h2, h3, h4, h5, h6⟩ := H
  refine ⟨⟨fun j k hj hk e => h5 j k (rL_in hj) (rL_in hk) e, h1, fun k hk => ?_, h3, fun a ha hp => h6 a ha (fun k hk => hp k ?_)⟩, h2, fun k hk => (h4 k (rL_in hk)).2.1⟩
  · obtain ⟨a1, a2, a3, a4, a5, a6⟩ := h4 k (rL_in hk)
    exact ⟨a1, a4, a5, a6⟩
  · revert hk
    revert k
    decide
theorem bX7_init_390 {d : Nat} {h0 : hp} {m : Nat} {ad : Nat → Nat} {Q : Option sV → rS → rG → Prop} {S : rS} {G : rG} {v1 : sV} (K : rWP d h0 m ad 72 Q 392 [sR (some m), sI (0)] [] S G) : rWP d h0 m ad 72 Q 390 [sR (some m), v1] [] S G := by
  intro h bc bs R
  refine w_iconst mb72 dX7_init_390 391 rfl (0) (by decide) ?_
  refine w_istore_n mb72 dX7_init_391 392 rfl [sR (some m), sI (0)] (Nat.le_of_ble_eq_true rfl) rfl ?_
  exact K h bc bs R

theorem bX7_init_392 {d : Nat} {h0 : hp} {m : Nat} {ad : Nat → Nat} {Q : Option sV → rS → rG → Prop} {S : rS} {G : rG} {x1 : Int32} (K1 : (16) ≤ (x1) → rWP d h0 m ad 72 Q 411 [sR (some m), sI (x1)] [] S G) (K2 : ¬ (16) ≤ (x1) → rWP d h0 m ad 72 Q 398 [sR (some m), sI (x1)] [] S G) : rWP d h0 m ad 72 Q 392 [sR (some m), sI (x1)] [] S G := by
  intro h bc bs R
  refine w_iload_n mb72 dX7_init_392 393 rfl rfl ?_
  refine w_bipush mb72 dX7_init_393 395 rfl (16) (by decide) ?_
  refine w_icmp_ge mb72 dX7_init_395 411 398 (by decide) rfl (fun z => ?_) (fun z => ?_)
  · exact K1 z h bc bs R
  · exact K2 z h bc bs R

theorem bX7_init_398 {d : Nat} {h0 : hp} {m : Nat} {ad : Nat → Nat} {Q : Option sV → rS → rG → Prop} {S : rS} {G : rG} {x1 : Int32} (h1 : vp_in (x1) 16) (K : rWP d h0 m ad 72 Q 392 [sR (some m), sI (x1 + 1)] [] S (gup G 0 (x1).toNatClampNeg ((-1)))) : rWP d h0 m ad 72 Q 398 [sR (some m), sI (x1)] [] S G := by
  intro h bc bs R
  refine w_aload_n mb72 dX7_init_398 399 rfl rfl ?_
  refine x_geta mb72 dX7_init_399 402 rfl R lf7_7 rfl (by decide) ?_
  refine w_iload_n mb72 dX7_init_402 403 rfl rfl ?_
  refine w_iconst mb72 dX7_init_403 404 rfl ((-1)) (by decide) ?_
  refine x_iast mb72 dX7_init_404 405 rfl R 16 rfl (by decide) rfl h1 (fun h R => ?_)
  refine w_iinc mb72 dX7_init_405 408 rfl rfl (x1 + 1) rfl [sR (some m), sI (x1 + 1)] rfl ?_
  refine w_goto mb72 dX7_init_408 392 (by decide) ?_
  exact K h bc bs R

theorem bX7_init_411 {d : Nat} {h0 : hp} {m : Nat} {ad : Nat → Nat} {Q : Option sV → rS → rG → Prop} {S : rS} {G : rG} {v1 : sV} (K : rWP d h0 m ad 72 Q 413 [sR (some m), sI (0)] [] S G) : rWP d h0 m ad 72 Q 411 [sR (some m), v1] [] S G := by
  intro h bc bs R
  refine w_iconst mb72 dX7_init_411 412 rfl (0) (by decide) ?_
  refine w_istore_n mb72 dX7_init_412 413 rfl [sR (some m), sI (0)] (Nat.le_of_ble_eq_true rfl) rfl ?_
  exact K h bc bs R

theorem bX7_init_413 {d : Nat} {h0 : hp} {m : Nat} {ad : Nat → Nat} {Q : Option sV → rS → rG → Prop} {S : rS} {G : rG} {x1 : Int32} (K1 : (96) ≤ (x1) → rWP d h0 m ad 72 Q 432 [sR (some m), sI (x1)] [] S G) (K2 : ¬ (96) ≤ (x1) → rWP d h0 m ad 72 Q 419 [sR (some m), sI (x1)] [] S G) : rWP d h0 m ad 72 Q 413 [sR (some m), sI (x1)] [] S G := by
  intro h bc bs R
  refine w_iload_n mb72 dX7_init_413 414 rfl rfl ?_
  refine w_bipush mb72 dX7_init_414 416 rfl (96) (by decide) ?_
  refine w_icmp_ge mb72 dX7_init_416 432 419 (by decide) rfl (fun z => ?_) (fun z => ?_)
  · exact K1 z h bc bs R
  · exact K2 z h bc bs R

theorem bX7_init_419 {d : Nat} {h0 : hp} {m : Nat} {ad : Nat → Nat} {Q : Option sV → rS → rG → Prop} {S : rS} {G : rG} {x1 : Int32} (h1 : vp_in (x1) 96) (K : rWP d h0 m ad 72 Q 413 [sR (some m), sI (x1 + 1)] [] S (gup G 58 (x1).toNatClampNeg ((-1)))) : rWP d h0 m ad 72 Q 419 [sR (some m), sI (x1)] [] S G := by
  intro h bc bs R
  refine w_aload_n mb72 dX7_init_419 420 rfl rfl ?_
  refine x_geta mb72 dX7_init_420 423 rfl R lf7_148 rfl (by decide) ?_
  refine w_iload_n mb72 dX7_init_423 424 rfl rfl ?_
  refine w_iconst mb72 dX7_init_424 425 rfl ((-1)) (by decide) ?_
  refine x_iast mb72 dX7_init_425 426 rfl R 96 rfl (by decide) rfl h1 (fun h R => ?_)
  refine w_iinc mb72 dX7_init_426 429 rfl rfl (x1 + 1) rfl [sR (some m), sI (x1 + 1)] rfl ?_
  refine w_goto mb72 dX7_init_429 413 (by decide) ?_
  exact K h bc bs R

theorem bX7_init_432 {d : Nat} {h0 : hp} {m : Nat} {ad : Nat → Nat} {Q : Option sV → rS → rG → Prop} {S : rS} {G : rG} {v1 : sV} (K : Q (none) S G) : rWP d h0 m ad 72 Q 432 [sR (some m), v1] [] S G := by
  intro h bc bs R
  refine w_vret mb72 dX7_init_432 rfl ?_
  exact ⟨_, _, R, K⟩

theorem c_Minit {d : Nat} {hb : hp} {m : Nat} {Q : Option sV → hp → Prop} (hm : gk hb m = 0) (hQ : ∀ ad S G h, RS hb m ad S G h → (∀ k, rL k ≠ 0 → gk hb (ad k) = 0) → restR zA0 S G → Q none h) : sCall (d + 1) 72 [sR (some m)] (nw hb m 8 0) 46 89005 Q := by
  refine ⟨rfl, (Nat.le_of_ble_eq_true rfl), ?_⟩
  show sWP (sCall d) none 72 Q 0 [sR (some m), sU] [] (nw hb m 8 0) 46 89005
  have r0 := rRaw.start hm
  refine w_aload_n mb72 dX7_init_0 1 rfl rfl ?_
  refine w_object (st := []) mb72 dX7_init_1 4 rfl lo7_1 (Nat.le_of_ble_eq_true rfl) ?_
  refine w_aload_n mb72 dX7_init_4 5 rfl rfl ?_
  refine w_bipush mb72 dX7_init_5 7 rfl (16) (by decide) ?_
  refine w_newi mb72 dX7_init_7 9 rfl 16 (by decide) (by decide) (by decide) (Nat.le_of_ble_eq_true rfl) (Nat.le_of_ble_eq_true rfl) (fun q1 hq1 => ?_)
  obtain ⟨r1, g1⟩ := r0.arr (k := 0) (kk := 20) (n := 16) (by decide) rfl rfl hq1
  refine w_putr mb72 dX7_init_9 12 rfl 700 lp7_7 (Or.inr ⟨_, rfl⟩) rfl g1 ?_
  refine w_aload_n mb72 dX7_init_12 13 rfl rfl ?_
  refine w_sipush mb72 dX7_init_13 16 rfl (256) (by decide) ?_
  refine w_newi mb72 dX7_init_16 18 rfl 256 (by decide) (by decide) (by decide) (Nat.le_of_ble_eq_true rfl) (Nat.le_of_ble_eq_true rfl) (fun q2 hq2 => ?_)
  obtain ⟨r2, g2⟩ := r1.arr (k := 1) (kk := 20) (n := 256) (by decide) rfl rfl hq2
  refine w_putr mb72 dX7_init_18 21 rfl 701 lp7_13 (Or.inr ⟨_, rfl⟩) rfl g2 ?_
  refine w_aload_n mb72 dX7_init_21 22 rfl rfl ?_
  refine w_bipush mb72 dX7_init_22 24 rfl (24) (by decide) ?_
  refine w_newi mb72 dX7_init_24 26 rfl 24 (by decide) (by decide) (by decide) (Nat.le_of_ble_eq_true rfl) (Nat.le_of_ble_eq_true rfl) (fun q3 hq3 => ?_)
  obtain ⟨r3, g3⟩ := r2.arr (k := 2) (kk := 20) (n := 24) (by decide) rfl rfl hq3
  refine w_putr mb72 dX7_init_26 29 rfl 702 lp7_16 (Or.inr ⟨_, rfl⟩) rfl g3 ?_
  refine w_aload_n mb72 dX7_init_29 30 rfl rfl ?_
  refine w_bipush mb72 dX7_init_30 32 rfl (24) (by decide) ?_
  refine w_newi mb72 dX7_init_32 34 rfl 24 (by decide) (by decide) (by decide) (Nat.le_of_ble_eq_true rfl) (Nat.le_of_ble_eq_true rfl) (fun q4 hq4 => ?_)
  obtain ⟨r4, g4⟩ := r3.arr (k := 3) (kk := 20) (n := 24) (by decide) rfl rfl hq4
  refine w_putr mb72 dX7_init_34 37 rfl 703 lp7_19 (Or.inr ⟨_, rfl⟩) rfl g4 ?_
  refine w_aload_n mb72 dX7_init_37 38 rfl rfl ?_
  refine w_sipush mb72 dX7_init_38 41 rfl (144) (by decide) ?_
  refine w_newi mb72 dX7_init_41 43 rfl 144 (by decide) (by decide) (by decide) (Nat.le_of_ble_eq_true rfl) (Nat.le_of_ble_eq_true rfl) (fun q5 hq5 => ?_)
  obtain ⟨r5, g5⟩ := r4.arr (k := 4) (kk := 20) (n := 144) (by decide) rfl rfl hq5
  refine w_putr mb72 dX7_init_43 46 rfl 704 lp7_22 (Or.inr ⟨_, rfl⟩) rfl g5 ?_
  refine w_aload_n mb72 dX7_init_46 47 rfl rfl ?_
  refine w_bipush mb72 dX7_init_47 49 rfl (24) (by decide) ?_
  refine w_newz mb72 dX7_init_49 51 rfl 24 (by decide) (by decide) (by decide) (Nat.le_of_ble_eq_true rfl) (Nat.le_of_ble_eq_true rfl) (fun q6 hq6 => ?_)
  obtain ⟨r6, g6⟩ := r5.arr (k := 5) (kk := 21) (n := 24) (by decide) rfl rfl hq6
  refine w_putr mb72 dX7_init_51 54 rfl 705 lp7_25 (Or.inr ⟨_, rfl⟩) rfl g6 ?_
  refine w_aload_n mb72 dX7_init_54 55 rfl rfl ?_
  refine w_bipush mb72 dX7_init_55 57 rfl (24) (by decide) ?_
  refine w_newi mb72 dX7_init_57 59 rfl 24 (by decide) (by decide) (by decide) (Nat.le_of_ble_eq_true rfl) (Nat.le_of_ble_eq_true rfl) (fun q7 hq7 => ?_)
  obtain ⟨r7, g7⟩ := r6.arr (k := 7) (kk := 20) (n := 24) (by decide) rfl rfl hq7
  refine w_putr mb72 dX7_init_59 62 rfl 707 lp7_29 (Or.inr ⟨_, rfl⟩) rfl g7 ?_
  refine w_aload_n mb72 dX7_init_62 63 rfl rfl ?_
  refine w_bipush mb72 dX7_init_63 65 rfl (96) (by decide) ?_
  refine w_newi mb72 dX7_init_65 67 rfl 96 (by decide) (by decide) (by decide) (Nat.le_of_ble_eq_true rfl) (Nat.le_of_ble_eq_true rfl) (fun q8 hq8 => ?_)
  obtain ⟨r8, g8⟩ := r7.arr (k := 8) (kk := 20) (n := 96) (by decide) rfl rfl hq8
  refine w_putr mb72 dX7_init_67 70 rfl 708 lp7_32 (Or.inr ⟨_, rfl⟩) rfl g8 ?_
  refine w_aload_n mb72 dX7_init_70 71 rfl rfl ?_
  refine w_bipush mb72 dX7_init_71 73 rfl (96) (by decide) ?_
  refine w_newi mb72 dX7_init_73 75 rfl 96 (by decide) (by decide) (by decide) (Nat.le_of_ble_eq_true rfl) (Nat.le_of_ble_eq_true rfl) (fun q9 hq9 => ?_)
  obtain ⟨r9, g9⟩ := r8.arr (k := 9) (kk := 20) (n := 96) (by decide) rfl rfl hq9
  refine w_putr mb72 dX7_init_75 78 rfl 709 lp7_35 (Or.inr ⟨_, rfl⟩) rfl g9 ?_
  refine w_aload_n mb72 dX7_init_78 79 rfl rfl ?_
  refine w_bipush mb72 dX7_init_79 81 rfl (96) (by decide) ?_
  refine w_newi mb72 dX7_init_81 83 rfl 96 (by decide) (by decide) (by decide) (Nat.le_of_ble_eq_true rfl) (Nat.le_of_ble_eq_true rfl) (fun q10 hq10 => ?_)
  obtain ⟨r10, g10⟩ := r9.arr (k := 10) (kk := 20) (n := 96) (by decide) rfl rfl hq10
  refine w_putr mb72 dX7_init_83 86 rfl 710 lp7_38 (Or.inr ⟨_, rfl⟩) rfl g10 ?_
  refine w_aload_n mb72 dX7_init_86 87 rfl rfl ?_
  refine w_bipush mb72 dX7_init_87 89 rfl (96) (by decide) ?_
  refine w_newi mb72 dX7_init_89 91 rfl 96 (by decide) (by decide) (by decide) (Nat.le_of_ble_eq_true rfl) (Nat.le_of_ble_eq_true rfl) (fun q11 hq11 => ?_)
  obtain ⟨r11, g11⟩ := r10.arr (k := 11) (kk := 20) (n := 96) (by decide) rfl rfl hq11
  refine w_putr mb72 dX7_init_91 94 rfl 711 lp7_41 (Or.inr ⟨_, rfl⟩) rfl g11 ?_
  refine w_aload_n mb72 dX7_init_94 95 rfl rfl ?_
  refine w_bipush mb72 dX7_init_95 97 rfl (96) (by decide) ?_
  refine w_newi mb72 dX7_init_97 99 rfl 96 (by decide) (by decide) (by decide) (Nat.le_of_ble_eq_true rfl) (Nat.le_of_ble_eq_true rfl) (fun q12 hq12 => ?_)
  obtain ⟨r12, g12⟩ := r11.arr (k := 12) (kk := 20) (n := 96) (by decide) rfl rfl hq12
  refine w_putr mb72 dX7_init_99 102 rfl 712 lp7_44 (Or.inr ⟨_, rfl⟩) rfl g12 ?_
  refine w_aload_n mb72 dX7_init_102 103 rfl rfl ?_
  refine w_sipush mb72 dX7_init_103 106 rfl (2304) (by decide) ?_
  refine w_newi mb72 dX7_init_106 108 rfl 2304 (by decide) (by decide) (by decide) (Nat.le_of_ble_eq_true rfl) (Nat.le_of_ble_eq_true rfl) (fun q13 hq13 => ?_)
  obtain ⟨r13, g13⟩ := r12.arr (k := 13) (kk := 20) (n := 2304) (by decide) rfl rfl hq13
  refine w_putr mb72 dX7_init_108 111 rfl 713 lp7_47 (Or.inr ⟨_, rfl⟩) rfl g13 ?_
  refine w_aload_n mb72 dX7_init_111 112 rfl rfl ?_
  refine w_sipush mb72 dX7_init_112 115 rfl (2400) (by decide) ?_
  refine w_newi mb72 dX7_init_115 117 rfl 2400 (by decide) (by decide) (by decide) (Nat.le_of_ble_eq_true rfl) (Nat.le_of_ble_eq_true rfl) (fun q14 hq14 => ?_)
  obtain ⟨r14, g14⟩ := r13.arr (k := 14) (kk := 20) (n := 2400) (by decide) rfl rfl hq14
  refine w_putr mb72 dX7_init_117 120 rfl 714 lp7_50 (Or.inr ⟨_, rfl⟩) rfl g14 ?_
  refine w_aload_n mb72 dX7_init_120 121 rfl rfl ?_
  refine w_sipush mb72 dX7_init_121 124 rfl (2400) (by decide) ?_
  refine w_newi mb72 dX7_init_124 126 rfl 2400 (by decide) (by decide) (by decide) (Nat.le_of_ble_eq_true rfl) (Nat.le_of_ble_eq_true rfl) (fun q15 hq15 => ?_)
  obtain ⟨r15, g15⟩ := r14.arr (k := 15) (kk := 20) (n := 2400) (by decide) rfl rfl hq15
  refine w_putr mb72 dX7_init_126 129 rfl 715 lp7_53 (Or.inr ⟨_, rfl⟩) rfl g15 ?_
  refine w_aload_n mb72 dX7_init_129 130 rfl rfl ?_
  refine w_sipush mb72 dX7_init_130 133 rfl (2400) (by decide) ?_
  refine w_newi mb72 dX7_init_133 135 rfl 2400 (by decide) (by decide) (by decide) (Nat.le_of_ble_eq_true rfl) (Nat.le_of_ble_eq_true rfl) (fun q16 hq16 => ?_)
  obtain ⟨r16, g16⟩ := r15.arr (k := 16) (kk := 20) (n := 2400) (by decide) rfl rfl hq16
  refine w_putr mb72 dX7_init_135 138 rfl 716 lp7_56 (Or.inr ⟨_, rfl⟩) rfl g16 ?_
  refine w_aload_n mb72 dX7_init_138 139 rfl rfl ?_
  refine w_sipush mb72 dX7_init_139 142 rfl (2400) (by decide) ?_
  refine w_newi mb72 dX7_init_142 144 rfl 2400 (by decide) (by decide) (by decide) (Nat.le_of_ble_eq_true rfl) (Nat.le_of_ble_eq_true rfl) (fun q17 hq17 => ?_)
  obtain ⟨r17, g17⟩ := r16.arr (k := 17) (kk := 20) (n := 2400) (by decide) rfl rfl hq17
  refine w_putr mb72 dX7_init_144 147 rfl 717 lp7_59 (Or.inr ⟨_, rfl⟩) rfl g17 ?_
  refine w_aload_n mb72 dX7_init_147 148 rfl rfl ?_
  refine w_ldc mb72 dX7_init_148 150 rfl (57600) ld7_62 ?_
  refine w_newi mb72 dX7_init_150 152 rfl 57600 (by decide) (by decide) (by decide) (Nat.le_of_ble_eq_true rfl) (Nat.le_of_ble_eq_true rfl) (fun q18 hq18 => ?_)
  obtain ⟨r18, g18⟩ := r17.arr (k := 18) (kk := 20) (n := 57600) (by decide) rfl rfl hq18
  refine w_putr mb72 dX7_init_152 155 rfl 718 lp7_63 (Or.inr ⟨_, rfl⟩) rfl g18 ?_
  refine w_aload_n mb72 dX7_init_155 156 rfl rfl ?_
  refine w_bipush mb72 dX7_init_156 158 rfl (24) (by decide) ?_
  refine w_newi mb72 dX7_init_158 160 rfl 24 (by decide) (by decide) (by decide) (Nat.le_of_ble_eq_true rfl) (Nat.le_of_ble_eq_true rfl) (fun q19 hq19 => ?_)
  obtain ⟨r19, g19⟩ := r18.arr (k := 19) (kk := 20) (n := 24) (by decide) rfl rfl hq19
  refine w_putr mb72 dX7_init_160 163 rfl 719 lp7_66 (Or.inr ⟨_, rfl⟩) rfl g19 ?_
  refine w_aload_n mb72 dX7_init_163 164 rfl rfl ?_
  refine w_bipush mb72 dX7_init_164 166 rfl (24) (by decide) ?_
  refine w_newi mb72 dX7_init_166 168 rfl 24 (by decide) (by decide) (by decide) (Nat.le_of_ble_eq_true rfl) (Nat.le_of_ble_eq_true rfl) (fun q20 hq20 => ?_)
  obtain ⟨r20, g20⟩ := r19.arr (k := 20) (kk := 20) (n := 24) (by decide) rfl rfl hq20
  refine w_putr mb72 dX7_init_168 171 rfl 720 lp7_69 (Or.inr ⟨_, rfl⟩) rfl g20 ?_
  refine w_aload_n mb72 dX7_init_171 172 rfl rfl ?_
  refine w_bipush mb72 dX7_init_172 174 rfl (24) (by decide) ?_
  refine w_newi mb72 dX7_init_174 176 rfl 24 (by decide) (by decide) (by decide) (Nat.le_of_ble_eq_true rfl) (Nat.le_of_ble_eq_true rfl) (fun q21 hq21 => ?_)
  obtain ⟨r21, g21⟩ := r20.arr (k := 21) (kk := 20) (n := 24) (by decide) rfl rfl hq21
  refine w_putr mb72 dX7_init_176 179 rfl 721 lp7_72 (Or.inr ⟨_, rfl⟩) rfl g21 ?_
  refine w_aload_n mb72 dX7_init_179 180 rfl rfl ?_
  refine w_sipush mb72 dX7_init_180 183 rfl (576) (by decide) ?_
  refine w_newi mb72 dX7_init_183 185 rfl 576 (by decide) (by decide) (by decide) (Nat.le_of_ble_eq_true rfl) (Nat.le_of_ble_eq_true rfl) (fun q22 hq22 => ?_)
  obtain ⟨r22, g22⟩ := r21.arr (k := 22) (kk := 20) (n := 576) (by decide) rfl rfl hq22
  refine w_putr mb72 dX7_init_185 188 rfl 722 lp7_75 (Or.inr ⟨_, rfl⟩) rfl g22 ?_
  refine w_aload_n mb72 dX7_init_188 189 rfl rfl ?_
  refine w_bipush mb72 dX7_init_189 191 rfl (24) (by decide) ?_
  refine w_newi mb72 dX7_init_191 193 rfl 24 (by decide) (by decide) (by decide) (Nat.le_of_ble_eq_true rfl) (Nat.le_of_ble_eq_true rfl) (fun q23 hq23 => ?_)
  obtain ⟨r23, g23⟩ := r22.arr (k := 23) (kk := 20) (n := 24) (by decide) rfl rfl hq23
  refine w_putr mb72 dX7_init_193 196 rfl 723 lp7_78 (Or.inr ⟨_, rfl⟩) rfl g23 ?_
  refine w_aload_n mb72 dX7_init_196 197 rfl rfl ?_
  refine w_bipush mb72 dX7_init_197 199 rfl (24) (by decide) ?_
  refine w_newz mb72 dX7_init_199 201 rfl 24 (by decide) (by decide) (by decide) (Nat.le_of_ble_eq_true rfl) (Nat.le_of_ble_eq_true rfl) (fun q24 hq24 => ?_)
  obtain ⟨r24, g24⟩ := r23.arr (k := 24) (kk := 21) (n := 24) (by decide) rfl rfl hq24
  refine w_putr mb72 dX7_init_201 204 rfl 724 lp7_81 (Or.inr ⟨_, rfl⟩) rfl g24 ?_
  refine w_aload_n mb72 dX7_init_204 205 rfl rfl ?_
  refine w_bipush mb72 dX7_init_205 207 rfl (24) (by decide) ?_
  refine w_newz mb72 dX7_init_207 209 rfl 24 (by decide) (by decide) (by decide) (Nat.le_of_ble_eq_true rfl) (Nat.le_of_ble_eq_true rfl) (fun q25 hq25 => ?_)
  obtain ⟨r25, g25⟩ := r24.arr (k := 25) (kk := 21) (n := 24) (by decide) rfl rfl hq25
  refine w_putr mb72 dX7_init_209 212 rfl 725 lp7_84 (Or.inr ⟨_, rfl⟩) rfl g25 ?_
  refine w_aload_n mb72 dX7_init_212 213 rfl rfl ?_
  refine w_bipush mb72 dX7_init_213 215 rfl (24) (by decide) ?_
  refine w_newz mb72 dX7_init_215 217 rfl 24 (by decide) (by decide) (by decide) (Nat.le_of_ble_eq_true rfl) (Nat.le_of_ble_eq_true rfl) (fun q26 hq26 => ?_)
  obtain ⟨r26, g26⟩ := r25.arr (k := 26) (kk := 21) (n := 24) (by decide) rfl rfl hq26
  refine w_putr mb72 dX7_init_217 220 rfl 726 lp7_87 (Or.inr ⟨_, rfl⟩) rfl g26 ?_
  refine w_aload_n mb72 dX7_init_220 221 rfl rfl ?_
  refine w_bipush mb72 dX7_init_221 223 rfl (24) (by decide) ?_
  refine w_newi mb72 dX7_init_223 225 rfl 24 (by decide) (by decide) (by decide) (Nat.le_of_ble_eq_true rfl) (Nat.le_of_ble_eq_true rfl) (fun q27 hq27 => ?_)
  obtain ⟨r27, g27⟩ := r26.arr (k := 28) (kk := 20) (n := 24) (by decide) rfl rfl hq27
  refine w_putr mb72 dX7_init_225 228 rfl 728 lp7_90 (Or.inr ⟨_, rfl⟩) rfl g27 ?_
  refine w_aload_n mb72 dX7_init_228 229 rfl rfl ?_
  refine w_bipush mb72 dX7_init_229 231 rfl (24) (by decide) ?_
  refine w_newi mb72 dX7_init_231 233 rfl 24 (by decide) (by decide) (by decide) (Nat.le_of_ble_eq_true rfl) (Nat.le_of_ble_eq_true rfl) (fun q28 hq28 => ?_)
  obtain ⟨r28, g28⟩ := r27.arr (k := 29) (kk := 20) (n := 24) (by decide) rfl rfl hq28
  refine w_putr mb72 dX7_init_233 236 rfl 729 lp7_93 (Or.inr ⟨_, rfl⟩) rfl g28 ?_
  refine w_aload_n mb72 dX7_init_236 237 rfl rfl ?_
  refine w_bipush mb72 dX7_init_237 239 rfl (24) (by decide) ?_
  refine w_newi mb72 dX7_init_239 241 rfl 24 (by decide) (by decide) (by decide) (Nat.le_of_ble_eq_true rfl) (Nat.le_of_ble_eq_true rfl) (fun q29 hq29 => ?_)
  obtain ⟨r29, g29⟩ := r28.arr (k := 30) (kk := 20) (n := 24) (by decide) rfl rfl hq29
  refine w_putr mb72 dX7_init_241 244 rfl 730 lp7_96 (Or.inr ⟨_, rfl⟩) rfl g29 ?_
  refine w_aload_n mb72 dX7_init_244 245 rfl rfl ?_
  refine w_bipush mb72 dX7_init_245 247 rfl (24) (by decide) ?_
  refine w_newz mb72 dX7_init_247 249 rfl 24 (by decide) (by decide) (by decide) (Nat.le_of_ble_eq_true rfl) (Nat.le_of_ble_eq_true rfl) (fun q30 hq30 => ?_)
  obtain ⟨r30, g30⟩ := r29.arr (k := 31) (kk := 21) (n := 24) (by decide) rfl rfl hq30
  refine w_putr mb72 dX7_init_249 252 rfl 731 lp7_99 (Or.inr ⟨_, rfl⟩) rfl g30 ?_
  refine w_aload_n mb72 dX7_init_252 253 rfl rfl ?_
  refine w_sipush mb72 dX7_init_253 256 rfl (600) (by decide) ?_
  refine w_newi mb72 dX7_init_256 258 rfl 600 (by decide) (by decide) (by decide) (Nat.le_of_ble_eq_true rfl) (Nat.le_of_ble_eq_true rfl) (fun q31 hq31 => ?_)
  obtain ⟨r31, g31⟩ := r30.arr (k := 33) (kk := 20) (n := 600) (by decide) rfl rfl hq31
  refine w_putr mb72 dX7_init_258 261 rfl 733 lp7_102 (Or.inr ⟨_, rfl⟩) rfl g31 ?_
  refine w_aload_n mb72 dX7_init_261 262 rfl rfl ?_
  refine w_sipush mb72 dX7_init_262 265 rfl (600) (by decide) ?_
  refine w_newi mb72 dX7_init_265 267 rfl 600 (by decide) (by decide) (by decide) (Nat.le_of_ble_eq_true rfl) (Nat.le_of_ble_eq_true rfl) (fun q32 hq32 => ?_)
  obtain ⟨r32, g32⟩ := r31.arr (k := 34) (kk := 20) (n := 600) (by decide) rfl rfl hq32
  refine w_putr mb72 dX7_init_267 270 rfl 734 lp7_105 (Or.inr ⟨_, rfl⟩) rfl g32 ?_
  refine w_aload_n mb72 dX7_init_270 271 rfl rfl ?_
  refine w_sipush mb72 dX7_init_271 274 rfl (600) (by decide) ?_
  refine w_newi mb72 dX7_init_274 276 rfl 600 (by decide) (by decide) (by decide) (Nat.le_of_ble_eq_true rfl) (Nat.le_of_ble_eq_true rfl) (fun q33 hq33 => ?_)
  obtain ⟨r33, g33⟩ := r32.arr (k := 35) (kk := 20) (n := 600) (by decide) rfl rfl hq33
  refine w_putr mb72 dX7_init_276 279 rfl 735 lp7_108 (Or.inr ⟨_, rfl⟩) rfl g33 ?_
  refine w_aload_n mb72 dX7_init_279 280 rfl rfl ?_
  refine w_sipush mb72 dX7_init_280 283 rfl (600) (by decide) ?_
  refine w_newi mb72 dX7_init_283 285 rfl 600 (by decide) (by decide) (by decide) (Nat.le_of_ble_eq_true rfl) (Nat.le_of_ble_eq_true rfl) (fun q34 hq34 => ?_)
  obtain ⟨r34, g34⟩ := r33.arr (k := 36) (kk := 20) (n := 600) (by decide) rfl rfl hq34
  refine w_putr mb72 dX7_init_285 288 rfl 736 lp7_111 (Or.inr ⟨_, rfl⟩) rfl g34 ?_
  refine w_aload_n mb72 dX7_init_288 289 rfl rfl ?_
  refine w_sipush mb72 dX7_init_289 292 rfl (14400) (by decide) ?_
  refine w_newi mb72 dX7_init_292 294 rfl 14400 (by decide) (by decide) (by decide) (Nat.le_of_ble_eq_true rfl) (Nat.le_of_ble_eq_true rfl) (fun q35 hq35 => ?_)
  obtain ⟨r35, g35⟩ := r34.arr (k := 37) (kk := 20) (n := 14400) (by decide) rfl rfl hq35
  refine w_putr mb72 dX7_init_294 297 rfl 737 lp7_114 (Or.inr ⟨_, rfl⟩) rfl g35 ?_
  refine w_aload_n mb72 dX7_init_297 298 rfl rfl ?_
  refine w_bipush mb72 dX7_init_298 300 rfl (24) (by decide) ?_
  refine w_newi mb72 dX7_init_300 302 rfl 24 (by decide) (by decide) (by decide) (Nat.le_of_ble_eq_true rfl) (Nat.le_of_ble_eq_true rfl) (fun q36 hq36 => ?_)
  obtain ⟨r36, g36⟩ := r35.arr (k := 38) (kk := 20) (n := 24) (by decide) rfl rfl hq36
  refine w_putr mb72 dX7_init_302 305 rfl 738 lp7_117 (Or.inr ⟨_, rfl⟩) rfl g36 ?_
  refine w_aload_n mb72 dX7_init_305 306 rfl rfl ?_
  refine w_sipush mb72 dX7_init_306 309 rfl (576) (by decide) ?_
  refine w_newi mb72 dX7_init_309 311 rfl 576 (by decide) (by decide) (by decide) (Nat.le_of_ble_eq_true rfl) (Nat.le_of_ble_eq_true rfl) (fun q37 hq37 => ?_)
  obtain ⟨r37, g37⟩ := r36.arr (k := 39) (kk := 20) (n := 576) (by decide) rfl rfl hq37
  refine w_putr mb72 dX7_init_311 314 rfl 739 lp7_120 (Or.inr ⟨_, rfl⟩) rfl g37 ?_
  refine w_aload_n mb72 dX7_init_314 315 rfl rfl ?_
  refine w_bipush mb72 dX7_init_315 317 rfl (24) (by decide) ?_
  refine w_newi mb72 dX7_init_317 319 rfl 24 (by decide) (by decide) (by decide) (Nat.le_of_ble_eq_true rfl) (Nat.le_of_ble_eq_true rfl) (fun q38 hq38 => ?_)
  obtain ⟨r38, g38⟩ := r37.arr (k := 40) (kk := 20) (n := 24) (by decide) rfl rfl hq38
  refine w_putr mb72 dX7_init_319 322 rfl 740 lp7_123 (Or.inr ⟨_, rfl⟩) rfl g38 ?_
  refine w_aload_n mb72 dX7_init_322 323 rfl rfl ?_
  refine w_bipush mb72 dX7_init_323 325 rfl (24) (by decide) ?_
  refine w_newi mb72 dX7_init_325 327 rfl 24 (by decide) (by decide) (by decide) (Nat.le_of_ble_eq_true rfl) (Nat.le_of_ble_eq_true rfl) (fun q39 hq39 => ?_)
  obtain ⟨r39, g39⟩ := r38.arr (k := 41) (kk := 20) (n := 24) (by decide) rfl rfl hq39
  refine w_putr mb72 dX7_init_327 330 rfl 741 lp7_126 (Or.inr ⟨_, rfl⟩) rfl g39 ?_
  refine w_aload_n mb72 dX7_init_330 331 rfl rfl ?_
  refine w_bipush mb72 dX7_init_331 333 rfl (24) (by decide) ?_
  refine w_newi mb72 dX7_init_333 335 rfl 24 (by decide) (by decide) (by decide) (Nat.le_of_ble_eq_true rfl) (Nat.le_of_ble_eq_true rfl) (fun q40 hq40 => ?_)
  obtain ⟨r40, g40⟩ := r39.arr (k := 42) (kk := 20) (n := 24) (by decide) rfl rfl hq40
  refine w_putr mb72 dX7_init_335 338 rfl 742 lp7_129 (Or.inr ⟨_, rfl⟩) rfl g40 ?_
  refine w_aload_n mb72 dX7_init_338 339 rfl rfl ?_
  refine w_bipush mb72 dX7_init_339 341 rfl (24) (by decide) ?_
  refine w_newz mb72 dX7_init_341 343 rfl 24 (by decide) (by decide) (by decide) (Nat.le_of_ble_eq_true rfl) (Nat.le_of_ble_eq_true rfl) (fun q41 hq41 => ?_)
  obtain ⟨r41, g41⟩ := r40.arr (k := 43) (kk := 21) (n := 24) (by decide) rfl rfl hq41
  refine w_putr mb72 dX7_init_343 346 rfl 743 lp7_132 (Or.inr ⟨_, rfl⟩) rfl g41 ?_
  refine w_aload_n mb72 dX7_init_346 347 rfl rfl ?_
  refine w_bipush mb72 dX7_init_347 349 rfl (24) (by decide) ?_
  refine w_newi mb72 dX7_init_349 351 rfl 24 (by decide) (by decide) (by decide) (Nat.le_of_ble_eq_true rfl) (Nat.le_of_ble_eq_true rfl) (fun q42 hq42 => ?_)
  obtain ⟨r42, g42⟩ := r41.arr (k := 47) (kk := 20) (n := 24) (by decide) rfl rfl hq42
  refine w_putr mb72 dX7_init_351 354 rfl 747 lp7_135 (Or.inr ⟨_, rfl⟩) rfl g42 ?_
  refine w_aload_n mb72 dX7_init_354 355 rfl rfl ?_
  refine w_iconst mb72 dX7_init_355 356 rfl (-1) (by decide) ?_
  refine w_puti mb72 dX7_init_356 359 rfl 748 (lp7_138 _) rfl rfl r42.1 ?_
  have r42s := r42.si 48 (-1)
  clear r42
  have r42 := r42s
  refine w_aload_n mb72 dX7_init_359 360 rfl rfl ?_
  refine w_bipush mb72 dX7_init_360 362 rfl (24) (by decide) ?_
  refine w_newi mb72 dX7_init_362 364 rfl 24 (by decide) (by decide) (by decide) (Nat.le_of_ble_eq_true rfl) (Nat.le_of_ble_eq_true rfl) (fun q43 hq43 => ?_)
  obtain ⟨r43, g43⟩ := r42.arr (k := 56) (kk := 20) (n := 24) (by decide) rfl rfl hq43
  refine w_putr mb72 dX7_init_364 367 rfl 756 lp7_142 (Or.inr ⟨_, rfl⟩) rfl g43 ?_
  refine w_aload_n mb72 dX7_init_367 368 rfl rfl ?_
  refine w_bipush mb72 dX7_init_368 370 rfl (24) (by decide) ?_
  refine w_newi mb72 dX7_init_370 372 rfl 24 (by decide) (by decide) (by decide) (Nat.le_of_ble_eq_true rfl) (Nat.le_of_ble_eq_true rfl) (fun q44 hq44 => ?_)
  obtain ⟨r44, g44⟩ := r43.arr (k := 57) (kk := 20) (n := 24) (by decide) rfl rfl hq44
  refine w_putr mb72 dX7_init_372 375 rfl 757 lp7_145 (Or.inr ⟨_, rfl⟩) rfl g44 ?_
  refine w_aload_n mb72 dX7_init_375 376 rfl rfl ?_
  refine w_bipush mb72 dX7_init_376 378 rfl (96) (by decide) ?_
  refine w_newi mb72 dX7_init_378 380 rfl 96 (by decide) (by decide) (by decide) (Nat.le_of_ble_eq_true rfl) (Nat.le_of_ble_eq_true rfl) (fun q45 hq45 => ?_)
  obtain ⟨r45, g45⟩ := r44.arr (k := 58) (kk := 20) (n := 96) (by decide) rfl rfl hq45
  refine w_putr mb72 dX7_init_380 383 rfl 758 lp7_148 (Or.inr ⟨_, rfl⟩) rfl g45 ?_
  refine w_aload_n mb72 dX7_init_383 384 rfl rfl ?_
  refine w_iconst mb72 dX7_init_384 385 rfl (5) (by decide) ?_
  refine w_newi mb72 dX7_init_385 387 rfl 5 (by decide) (by decide) (by decide) (Nat.le_of_ble_eq_true rfl) (Nat.le_of_ble_eq_true rfl) (fun q46 hq46 => ?_)
  obtain ⟨r46, g46⟩ := r45.arr (k := 60) (kk := 20) (n := 5) (by decide) rfl rfl hq46
  refine w_putr mb72 dX7_init_387 390 rfl 760 lp7_151 (Or.inr ⟨_, rfl⟩) rfl g46 ?_
  obtain ⟨RR, -, had⟩ := r46.done
  clear r1 r2 r3 r4 r5 r6 r7 r8 r9 r10 r11 r12 r13 r14 r15 r16 r17 r18 r19 r20 r21 r22 r23 r24 r25 r26 r27 r28 r29 r30 r31 r32 r33 r34 r35 r36 r37 r38 r39 r40 r41 r42 r43 r44 r45 r46 g1 g2 g3 g4 g5 g6 g7 g8 g9 g10 g11 g12 g13 g14 g15 g16 g17 g18 g19 g20 g21 g22 g23 g24 g25 g26 g27 g28 g29 g30 g31 g32 g33 g34 g35 g36 g37 g38 g39 g40 g41 g42 g43 g44 g45 g46 r0
  generalize hS : (va_up (fun _ => (0 : Int32)) 48 (-1) : rS) = S at RR
  have S0 : ∀ k, k ≠ 48 → S k = 0 := fun k hk => by rw [← hS, va_up_ne _ _ hk]
  have S48 : S 48 = -1 := by rw [← hS, va_up_self]
  have K : ∀ (ad : Nat → Nat), (∀ k, rL k ≠ 0 → gk hb (ad k) = 0) → rWP d hb m ad 72 (fun r S2 G2 => r = none ∧ restR zA0 S2 G2) 390 [sR (some m), sU] [] S (fun _ _ => 0) := by
    intro ad had
    refine bX7_init_390 ?_
    have loop2 : ∀ (e i : Nat) (G : rG), i + e = 96 → (∀ s, s < 16 → G 0 s = -1) → (∀ k j, k ≠ 0 → k ≠ 58 → G k j = 0) → (∀ j, j < i → G 58 j = -1) → rWP d hb m ad 72 (fun r S2 G2 => r = none ∧ restR zA0 S2 G2) 413 [sR (some m), sI (nI i)] [] S G := by
      intro e
      induction e with
      | zero =>
        intro i G hi g1 g2 g3
        rw [show i = 96 by omega] at g3 ⊢
        refine bX7_init_413 (fun _ => bX7_init_432 ⟨rfl, ?_⟩) (fun z => absurd (show nI 96 ≤ nI 96 from nI_le (Nat.le_refl _) (by decide)) z)
        refine ⟨⟨fun s hs => ⟨fun _ => g1 s hs, fun l hl => by cases hl⟩, S0 6 (by decide), fun r hr => ⟨g2 2 r (by decide) (by decide), g2 5 r (by decide) (by decide), g2 3 r (by decide) (by decide), fun j hj => absurd hj (by show ¬ j < 0; omega)⟩, S0 27 (by decide)⟩, ⟨fun _ _ => 0, fun r hr => ⟨g2 7 r (by decide) (by decide), fun k hk => absurd hk (by show ¬ k < 0; omega), fun k k' hk => absurd hk (by show ¬ k < 0; omega)⟩⟩, ⟨S0 52 (by decide), fun j hj => absurd hj (by show ¬ j < 0; omega), S0 53 (by decide), by rw [S0 55 (by decide)]; rfl, fun r k hr hk => g3 _ (by omega)⟩, ⟨S48, fun k hk => ?_⟩, S0 54 (by decide), S0 59 (by decide), fun k _ => g2 60 k (by decide) (by decide)⟩
        rw [S0 51 (by decide), b_one (by omega), b_0]
        simp
      | succ e ih =>
        intro i G hi g1 g2 g3
        refine bX7_init_413 (fun z => absurd (show nI 96 ≤ nI i from z) (nI_ge (by omega) (by decide))) (fun _ => ?_)
        refine bX7_init_419 (vin i rfl (by omega) (by decide)) ?_
        rw [nix i rfl (by omega), nI_1]
        refine ih (i + 1) _ (by omega) (fun s hs => by rw [gup_ne (by decide)]; exact g1 s hs) (fun k j h1 h2 => by rw [gup_ne h2]; exact g2 k j h1 h2) (fun j hj => ?_)
        rw [gup_at]
        by_cases ej : j = i
        · rw [if_pos ej]
        · rw [if_neg ej]; exact g3 j (by omega)
    have loop1 : ∀ (e i : Nat) (G : rG), i + e = 16 → (∀ s, s < i → G 0 s = -1) → (∀ k j, k ≠ 0 → G k j = 0) → rWP d hb m ad 72 (fun r S2 G2 => r = none ∧ restR zA0 S2 G2) 392 [sR (some m), sI (nI i)] [] S G := by
      intro e
      induction e with
      | zero =>
        intro i G hi g1 g2
        rw [show i = 16 by omega] at g1 ⊢
        refine bX7_init_392 (fun _ => bX7_init_411 (loop2 96 0 G (by omega) g1 (fun k j h1 _ => g2 k j h1) (fun j hj => absurd hj (by omega)))) (fun z => absurd (show nI 16 ≤ nI 16 from nI_le (Nat.le_refl _) (by decide)) z)
      | succ e ih =>
        intro i G hi g1 g2
        refine bX7_init_392 (fun z => absurd (show nI 16 ≤ nI i from z) (nI_ge (by omega) (by decide))) (fun _ => ?_)
        refine bX7_init_398 (vin i rfl (by omega) (by decide)) ?_
        rw [nix i rfl (by omega), nI_1]
        refine ih (i + 1) _ (by omega) (fun j hj => ?_) (fun k j h1 => by rw [gup_ne h1]; exact g2 k j h1)
        rw [gup_at]
        by_cases ej : j = i
        · rw [if_pos ej]
        · rw [if_neg ej]; exact g1 j (by omega)
    exact loop1 16 0 _ (by omega) (fun s hs => absurd hs (by omega)) (fun _ _ _ => rfl)
  refine sWP_mono ?_ (K _ had _ _ _ RR)
  rintro r h ⟨S2, G2, R2, rfl, q⟩
  exact hQ _ S2 G2 h R2 had q
