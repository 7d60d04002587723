section
variable {D : cD} {A : zB}
theorem cRs.addr {V V2 : kV} {y : Nat} {k t : Int32} (hA : zBok A) (h : cRs D A V) (hn : e_n (b_e A) < 24) (ht : t = 0 ∨ t = 1) (hk : 1 ≤ k ∧ k ≤ 6) (v : vex [307] V V2) (hs : ∀ u, kC V u ≠ 0 → kA V2 307 u = kA V 307 u) (hy : cRnew V2 y (nI (e_n (b_e A))) k t) : cRs (dX D, dF D, dO D, dS D, va_up (dA D) (e_n (b_e A)) y, dT D) (b_upd A (e_n (b_e A) + 1) (e_n (b_e A)) k (!(t == 0)) []) (uI (uB V2 401 (dS D) (e_n (b_e A)) (some y)) 402 (dS D) (nI (e_n (b_e A) + 1))) := by
  generalize hN : e_n (b_e A) = n at *
  obtain ⟨y1, y2, y3, y4, y5, y6, y7, y8, y9, y10, y11⟩ := hy
  have v3 : vex [307, 401, 402] V (uI (uB V2 401 (dS D) n (some y)) 402 (dS D) (nI (n + 1))) := (v.tr (L := [307, 401]) (vex.b 401 (dS D) n (some y)) (vexm (by decide)) (vexm (by decide))).tr (vex.i 402 (dS D) (nI (n + 1))) (vexm (by decide)) (vexm (by decide))
  have hE : e_n (b_e (b_upd A (n + 1) n k (!(t == 0)) [])) = n + 1 := rfl
  have a0 : ∀ x, x ≠ n → va_up (dA D) n y x = dA D x := fun x hx => va_up_ne _ _ hx
  have an : va_up (dA D) n y n = y := va_up_self _ _ _
  refine ⟨h.1.cg v3 (by decide), ?_, h.2.2.1.cg h.o0 v3 (by decide), h.2.2.2.1.cg h.o0 v3 (by decide), fun x hx => ?_, fun r r' j j' u hr hr' hj hj' h1 h2 => ?_, h.2.2.2.2.2.2.1.cg h.f0 v3 (by decide), fun x hx => ?_⟩
  · obtain ⟨s1, s2, s3, s4, s5⟩ := h.2.1
    have c5 : kC V (dS D) ≠ 0 := by rw [s1]; decide
    refine ⟨(v3.1 _ c5).1.trans s1, ?_, fun s hs => ?_, fun r hr => ?_, fun r hr => ?_⟩
    · show (if 402 = 402 ∧ dS D = dS D then nI (n + 1) else _) = nI (n + 1)
      rw [if_pos ⟨rfl, rfl⟩]
    · have := s3 s hs
      show cO V2 (kB V2 400 (dS D) s) _
      rw [(v.2.2 400 _ c5 (by decide)).2.2.2]
      exact this.cg v
    · show cO V2 (kB V2 403 (dS D) r) _
      rw [(v.2.2 403 _ c5 (by decide)).2.2.2]
      exact (s4 r hr).cg v
    · show (if 401 = 401 ∧ dS D = dS D then va_up (kB V2 401 (dS D)) n (some y) else kB V2 401 (dS D)) r = if r < n + 1 then some (va_up (dA D) n y r) else none
      rw [if_pos ⟨rfl, rfl⟩]
      by_cases e : r = n
      · rw [e, va_up_self, if_pos (by omega), va_up_self]
      · rw [va_up_ne _ _ e, va_up_ne _ _ e, (v.2.2 401 _ c5 (by decide)).2.2.2, s5 r hr, hN]
        by_cases q : r < n
        · rw [if_pos q, if_pos (by omega)]
        · rw [if_neg q, if_neg (by omega)]
  · have hx : x < n + 1 := hx
    by_cases e : x = n
    · subst e
      have f1 : e_k (b_e (b_upd A (x + 1) x k (!(t == 0)) [])) x = k := va_up_self _ _ _
      have f2 : e_t (b_e (b_upd A (x + 1) x k (!(t == 0)) [])) x = !(t == 0) := va_up_self _ _ _
      have f3 : e_i (b_e (b_upd A (x + 1) x k (!(t == 0)) [])) x = [] := va_up_self _ _ _
      have f4 : q_t (b_q (b_upd A (x + 1) x k (!(t == 0)) [])) x = [] := va_up_self _ _ _
      have f5 : ∀ j, q_z (b_q (b_upd A (x + 1) x k (!(t == 0)) [])) x j = -1 := (hA.2.2.2.2.2.2.1 x (by omega)).2.2
      show cRl (dX D, dF D, dO D, dS D, va_up (dA D) x y, dT D) _ _ _ x
      refine ⟨⟨?_, ?_, ?_, ?_, ?_, ?_, ?_, ?_⟩, ⟨?_, fun j hj => by rw [f4] at hj; exact absurd hj (by simp), fun j u hj hu => ?_, fun hm g hg => by cases hg⟩, fun j hj => ?_, ?_⟩
      · show kC V2 (va_up (dA D) x y x) = 4
        rw [an]; exact y1
      · show kI V2 300 (va_up (dA D) x y x) = nI x
        rw [an]; exact y2
      · rw [f1]
        show kI V2 301 (va_up (dA D) x y x) = k
        rw [an]; exact y3
      · rw [f2]
        show kI V2 302 (va_up (dA D) x y x) = _
        rw [an, y4]
        rcases ht with rfl | rfl <;> rfl
      · rw [f3]
        show kI V2 304 (va_up (dA D) x y x) = nI 0
        rw [an]; exact y5
      · rw [f3]
        intro j hj
        exact absurd hj (by simp)
      · show cO V2 (kR V2 312 (va_up (dA D) x y x)) _
        rw [an]; exact y8
      · show cO V2 (kR V2 313 (va_up (dA D) x y x)) _
        rw [an]; exact y9
      · rw [f4]
        show kI V2 305 (va_up (dA D) x y x) = nI 0
        rw [an]; exact y6
      · have hu : kB V2 306 (va_up (dA D) x y x) j = some u := hu
        rw [an, y11] at hu
        cases hu
      · rw [f5]
        show kA V2 307 (va_up (dA D) x y x) j = -1
        rw [an]; exact y10 j hj
      · show kI V2 311 (va_up (dA D) x y x) = 0
        rw [an]; exact y7
    · have hxn : x < e_n (b_e A) := by omega
      obtain ⟨a1, a2, a3, a4⟩ := h.2.2.2.2.1 x hxn
      have c4 := h.k0 hxn
      have f1 : e_k (b_e (b_upd A (n + 1) n k (!(t == 0)) [])) x = e_k (b_e A) x := va_up_ne _ _ e
      have f2 : e_t (b_e (b_upd A (n + 1) n k (!(t == 0)) [])) x = e_t (b_e A) x := va_up_ne _ _ e
      have f3 : e_i (b_e (b_upd A (n + 1) n k (!(t == 0)) [])) x = e_i (b_e A) x := va_up_ne _ _ e
      have f4 : q_t (b_q (b_upd A (n + 1) n k (!(t == 0)) [])) x = q_t (b_q A) x := va_up_ne _ _ e
      have b1 := a1.cg v3 (by decide)
      have b2 := a2.cg c4 v3 (by decide)
      unfold cRl cRu cTs at *
      rw [f1, f2, f3, f4]
      rw [show dA (dX D, dF D, dO D, dS D, va_up (dA D) n y, dT D) x = dA D x from va_up_ne _ _ e]
      refine ⟨b1, ⟨b2.1, b2.2.1, b2.2.2.1, fun _ g hg => by cases hg⟩, fun j hj => ?_, (v3.2.2 311 _ c4 (by decide)).1.trans a4⟩
      show kA V2 307 (dA D x) j = q_z (b_q A) x j
      rw [hs _ c4]
      exact a3 j hj
  · have hr : r < n + 1 := hr
    have hr' : r' < n + 1 := hr'
    have h1 : kB V2 306 (va_up (dA D) n y r) j = some u := h1
    have h2 : kB V2 306 (va_up (dA D) n y r') j' = some u := h2
    have nn : ∀ r j, kB V2 306 (va_up (dA D) n y r) j = some u → r ≠ n := fun r j hu e => by
      rw [e, an, y11] at hu
      cases hu
    have e1 := nn r j h1
    have e2 := nn r' j' h2
    rw [a0 r e1, (v.2.2 306 _ (h.k0 (by omega)) (by decide)).2.2.2] at h1
    rw [a0 r' e2, (v.2.2 306 _ (h.k0 (by omega)) (by decide)).2.2.2] at h2
    exact h.2.2.2.2.2.1 r r' j j' u (by omega) (by omega) hj hj' h1 h2
  · have hx : x < n + 1 := hx
    show 1 ≤ va_up (e_k (b_e A)) n k x ∧ va_up (e_k (b_e A)) n k x ≤ 6
    by_cases e : x = n
    · rw [e, va_up_self]; exact hk
    · rw [va_up_ne _ _ e]; exact h.2.2.2.2.2.2.2 x (by omega)
theorem c_addRule {d : Nat} {Fg : Nat → Prop} {h0 : hp} {V : kV} {bc bs : Nat} {Q : Option sV → kV → Prop} {k t : Int32} (hA : zBok A) (h : cRs D A V) (hn : e_n (b_e A) < 24) (ht : t = 0 ∨ t = 1) (hk : 1 ≤ k ∧ k ≤ 6) (hbc : 300 ≤ bc) (hbs : 3000 ≤ bs) (hQ : cQ D (nI (e_n (b_e A)), b_upd A (e_n (b_e A) + 1) (e_n (b_e A)) k (!(t == 0)) []) Q) : cM (d + 4) Fg h0 35 [sR (some (dS D)), sI k, sI t] V bc bs Q := by
  refine cM_of (ls := [sR (some (dS D)), sI k, sI t, sU]) rfl (Nat.le_of_ble_eq_true rfl) rfl ?_
  intro h1 R
  have c5 := h.2.1.1
  have c50 : kC V (dS D) ≠ 0 := by rw [c5]; decide
  have e2 := h.2.1.2.1
  refine w_aload_n mb35 dX4_addRule_0 1 rfl rfl ?_
  refine y_geti mb35 dX4_addRule_1 4 rfl R 402 lf4_33 rfl rfl rfl c5 e2 ?_
  refine w_istore_n mb35 dX4_addRule_4 5 rfl [sR (some (dS D)), sI k, sI t, sI (nI (e_n (b_e A)))] (Nat.le_of_ble_eq_true rfl) rfl ?_
  refine w_aload_n mb35 dX4_addRule_5 6 rfl rfl ?_
  refine y_geta mb35 dX4_addRule_6 9 rfl R 401 lf4_19 rfl rfl rfl (by decide) c5 ?_
  refine w_iload_n mb35 dX4_addRule_9 10 rfl rfl ?_
  refine w_new mb35 dX4_addRule_10 13 rfl 4 3 14 rfl ln4_17 rfl (by omega) (by omega) (fun y hy => ?_)
  refine w_dup mb35 dX4_addRule_13 14 rfl rfl ?_
  refine w_iload_n mb35 dX4_addRule_14 15 rfl rfl ?_
  refine w_iload_n mb35 dX4_addRule_15 16 rfl rfl ?_
  refine w_iload_n mb35 dX4_addRule_16 17 rfl rfl ?_
  refine w_special (a := y) (st := [sR (some y), sI (nI (e_n (b_e A))), sR (some (kr V 401 (dS D)))]) mb35 dX4_addRule_17 20 rfl 23 3 [sI (nI (e_n (b_e A))), sI k, sI t] _ rfl rfl rfl lc4_37 (Nat.le_of_ble_eq_true rfl) (c_Rinit (d := d) (bc := 7) (bs := 21) (Q := fun v V2 => v = none ∧ vex [307] V V2 ∧ (∀ u, kC V u ≠ 0 → kA V2 307 u = kA V 307 u) ∧ cRnew V2 y (nI (e_n (b_e A))) k t) R hy ht (Nat.le_refl _) (Nat.le_refl _) (fun V2 w1 w2 w3 => ⟨rfl, w1, w2, w3⟩)) (by omega) (by omega) ?_
  rintro r h2 ⟨V2, R2, rfl, w1, w2, w3⟩
  have K : cWP (d + 3) Fg h0 35 Q 20 [sR (some (dS D)), sI k, sI t, sI (nI (e_n (b_e A)))] [sR (some y), sI (nI (e_n (b_e A))), sR (some (kr V 401 (dS D)))] V2 (bc - 1 - 7) (bs - 14 - 21) := by
    rw [← (w1.1 _ c50).2 401]
    have c52 := (w1.1 _ c50).1.trans c5
    refine bX4_addRule_20 (vin (e_n (b_e A)) rfl hn (by decide)) (fun b hb => by cases hb; exact w3.1) c52 c52 ?_
    rw [nix _ rfl (by omega), (w1.2.2 402 _ c50 (by decide)).1, e2, nI_1]
    exact hQ _ (dX D, dF D, dO D, dS D, va_up (dA D) (e_n (b_e A)) y, dT D) rfl (h.addr hA hn ht hk w1 w2 w3)
  exact K h2 R2
theorem c_rule {d : Nat} {Fg : Nat → Prop} {h0 : hp} {V : kV} {bc bs : Nat} {Q : Option sV → kV → Prop} {k t : Int32} (ht : t = 0 ∨ t = 1) (hA : zBok A) (h : cRs D A V) (hbc : 300 ≤ bc) (hbs : 3000 ≤ bs) (hQ : cQ D (o_rule A k t) Q) : cM (d + 9) Fg h0 51 [sR (some (dX D)), sI k, sI t] V bc bs Q := by
  obtain ⟨x7, -, -, x0, x1, x2⟩ := h.1
  refine cM_of (ls := [sR (some (dX D)), sI k, sI t]) rfl (Nat.le_of_ble_eq_true rfl) rfl ?_
  unfold o_rule at hQ
  refine bX6_rule_0 (bc1 := 0) (bs1 := 0) (c_kd (by omega)) (Nat.zero_le _) (Nat.zero_le _) ?_
  rintro _ W ⟨rfl, rfl⟩
  by_cases hk : k < 1 ∨ 6 < k
  · rw [if_pos hk] at hQ ⊢
    exact bX6_rule_4 (fun z => absurd rfl z) (fun _ => bX6_rule_7 (hQ _ D rfl h))
  · rw [if_neg hk] at hQ ⊢
    have hE := hA.1.1
    refine bX6_rule_4 (fun _ => ?_) (fun z => by cases z)
    by_cases hn : e_n (b_e A) = 24
    · rw [if_pos hn] at hQ
      exact bX6_rule_9 x2 x7 h.2.1.1 (fun z => absurd z (by rw [h.2.1.2.1, hn]; decide)) (fun _ => bX6_rule_21 (hQ _ D rfl h))
    · rw [if_neg hn] at hQ
      refine bX6_rule_9 x2 x7 h.2.1.1 (fun _ => ?_) (fun z => absurd (by rw [h.2.1.2.1]; exact (nI_ltI (b := 24) (by omega) (by omega)).mpr (by omega)) z)
      refine bX6_rule_24 (bc1 := bc) (bs1 := bs) (P := fun v V2 => ∃ q, v = some (sI q) ∧ Q (some (sI q)) V2) x2 x7 h.2.1.1 (cM_le (by omega) (c_addRule (d := 0) hA h (by omega) ht (i_kd hk) (by omega) (by omega) (fun V2 D2 e h2 => ⟨_, rfl, hQ V2 D2 e h2⟩))) (Nat.le_refl _) (Nat.le_refl _) ?_
      rintro _ V2 ⟨q, rfl, hq⟩
      exact bX6_rule_33 hq
end
