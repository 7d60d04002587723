section
variable {D : cD} {A : zB}
theorem cRs.upd {V V2 : kV} (hE : e_n (b_e A) ≤ 24) (h : cRs D A V) {r : Nat} {k : Int32} {t : Bool} {ins : List Nat} (hr : r < e_n (b_e A)) (v : vex [301, 302, 303, 304, 305] V V2) (hs : ∀ u, u ≠ dA D r → ∀ f, kI V2 f u = kI V f u ∧ kA V2 f u = kA V f u) (h1 : kI V2 301 (dA D r) = k) (h2 : kI V2 302 (dA D r) = if t = true then 1 else 0) (h4 : kI V2 304 (dA D r) = nI ins.length) (h3 : ∀ j, j < ins.length → kA V2 303 (dA D r) j = nI (ins.getD j 0)) (h5 : kI V2 305 (dA D r) = 0) (hk : 1 ≤ k ∧ k ≤ 6) : cRs D (b_upd A (e_n (b_e A)) r k t ins) V2 := by
  refine ⟨h.1.cg v (by decide), h.2.1.cg v (by decide), h.2.2.1.cg h.o0 v (by decide), h.2.2.2.1.cg h.o0 v (by decide), fun x hx => ?_, h.2.2.2.2.2.1.cg (fun r hr => h.k0 hr) v (by decide), h.2.2.2.2.2.2.1.cg h.f0 v (by decide), fun x hx => ?_⟩
  · have hx : x < e_n (b_e A) := hx
    obtain ⟨⟨a1, a2, a3, a4, a5, a6, a7, a8⟩, ⟨t1, t2, t3, t4⟩, a9, a10⟩ := h.2.2.2.2.1 x hx
    have c0 := h.k0 hx
    have e6 := (v.2.2 306 _ c0 (by decide)).2.2.2
    have hct : ∀ k t, k < 5 → kB V2 306 (dA D x) k = some t → kC V2 t = 6 := fun k t hk ht => by
      rw [e6] at ht
      have := t3 k t hk ht
      rw [(v.1 t (by rw [this]; decide)).1]
      exact this
    have b1 : kC V2 (dA D x) = 4 := (v.1 _ c0).1.trans a1
    have b2 : kI V2 300 (dA D x) = nI x := (v.2.2 300 _ c0 (by decide)).1.trans a2
    have b7 : cO V2 (kR V2 312 (dA D x)) (2, nI x, []) := by rw [(v.2.2 312 _ c0 (by decide)).2.1]; exact a7.cg v
    have b8 : cO V2 (kR V2 313 (dA D x)) (3, nI x, []) := by rw [(v.2.2 313 _ c0 (by decide)).2.1]; exact a8.cg v
    have b9 : ∀ k, k < 4 → kA V2 307 (dA D x) k = q_z (b_q A) x k := by rw [(v.2.2 307 _ c0 (by decide)).2.2.1]; exact a9
    have b10 : kI V2 311 (dA D x) = 0 := (v.2.2 311 _ c0 (by decide)).1.trans a10
    by_cases e : x = r
    · subst e
      have f1 : e_k (b_e (b_upd A (e_n (b_e A)) x k t ins)) x = k := va_up_self _ _ _
      have f2 : e_t (b_e (b_upd A (e_n (b_e A)) x k t ins)) x = t := va_up_self _ _ _
      have f3 : e_i (b_e (b_upd A (e_n (b_e A)) x k t ins)) x = ins := va_up_self _ _ _
      have f4 : q_t (b_q (b_upd A (e_n (b_e A)) x k t ins)) x = [] := va_up_self _ _ _
      refine ⟨⟨b1, b2, by rw [f1]; exact h1, by rw [f2]; exact h2, by rw [f3]; exact h4, by rw [f3]; exact h3, b7, b8⟩, ⟨by rw [f4]; exact h5, fun k hk => by rw [f4] at hk; exact absurd hk (by simp), hct, fun _ g hg => by cases hg⟩, b9, b10⟩
    · have ne : dA D x ≠ dA D r := fun z => e (h.inj hE hx hr z)
      have f1 : e_k (b_e (b_upd A (e_n (b_e A)) r k t ins)) x = e_k (b_e A) x := va_up_ne _ _ e
      have f2 : e_t (b_e (b_upd A (e_n (b_e A)) r k t ins)) x = e_t (b_e A) x := va_up_ne _ _ e
      have f3 : e_i (b_e (b_upd A (e_n (b_e A)) r k t ins)) x = e_i (b_e A) x := va_up_ne _ _ e
      have f4 : q_t (b_q (b_upd A (e_n (b_e A)) r k t ins)) x = q_t (b_q A) x := va_up_ne _ _ e
      refine ⟨⟨b1, b2, by rw [f1, (hs _ ne 301).1]; exact a3, by rw [f2, (hs _ ne 302).1]; exact a4, by rw [f3, (hs _ ne 304).1]; exact a5, by rw [f3, (hs _ ne 303).2]; exact a6, b7, b8⟩, ⟨by rw [f4, (hs _ ne 305).1]; exact t1, fun k hk => ?_, hct, fun _ g hg => by cases hg⟩, b9, b10⟩
      rw [f4] at hk ⊢
      exact (t2 k hk).cg c0 v (by decide)
  · have hx : x < e_n (b_e A) := hx
    show 1 ≤ va_up (e_k (b_e A)) r k x ∧ va_up (e_k (b_e A)) r k x ≤ 6
    by_cases e : x = r
    · rw [e, va_up_self]; exact hk
    · rw [va_up_ne _ _ e]; exact h.2.2.2.2.2.2.2 x hx
theorem c_rln {d : Nat} {Fg : Nat → Prop} {h0 : hp} {V : kV} {r : Int32} (hA : zBok A) (h : cRs D A V) (hz : zdec r (e_n (b_e A)) = none) (hd : 1 ≤ d) : cM d Fg h0 34 [sR (some (dS D)), sI r] V 0 0 (fun v W => v = some (sR none) ∧ W = V) := cM_le hd (c_ruleAt (d := 0) h.2.1 hA.1.1 ⟨by rw [hz], rfl⟩)
theorem c_rls {d : Nat} {Fg : Nat → Prop} {h0 : hp} {V : kV} {r : Int32} {r' : Nat} (hA : zBok A) (h : cRs D A V) (hz : zdec r (e_n (b_e A)) = some r') (hd : 1 ≤ d) : cM d Fg h0 34 [sR (some (dS D)), sI r] V 0 0 (fun v W => v = some (sR (some (dA D r'))) ∧ W = V) := cM_le hd (c_ruleAt (d := 0) h.2.1 hA.1.1 ⟨by rw [hz], rfl⟩)
theorem c_drop {d : Nat} {Fg : Nat → Prop} {h0 : hp} {V : kV} {a : Nat} (hc : kC V a = 4) (hd : 1 ≤ d) : cM d Fg h0 26 [sR (some a)] V 0 0 (fun v W => v = none ∧ W = uI V 305 a 0) := cM_le hd (cM_of (d := 0) (ls := [sR (some a)]) rfl (Nat.le_of_ble_eq_true rfl) rfl (bX3_dropTraces_0 hc ⟨rfl, rfl⟩))
theorem c_nm {d : Nat} {Fg : Nat → Prop} {h0 : hp} {V : kV} {x : Int32} (hd : 1 ≤ d) : cM d Fg h0 69 [sI x] V 0 0 (fun v W => v = some (sI (if (zdec x 40).isSome = true then 1 else 0)) ∧ W = V) := cM_le hd (c_isName (d := 0) ⟨rfl, rfl⟩)
theorem c_kd {d : Nat} {Fg : Nat → Prop} {h0 : hp} {V : kV} {x : Int32} (hd : 1 ≤ d) : cM d Fg h0 68 [sI x] V 0 0 (fun v W => v = some (sI (if x < 1 ∨ 6 < x then 0 else 1)) ∧ W = V) := cM_le hd (c_isKind (d := 0) ⟨rfl, rfl⟩)
theorem vexm {L1 L2 : List Nat} (h : ∀ f ∈ L1, f ∈ L2) : ∀ f, f ∉ L2 → f ∉ L1 := fun f hf z => hf (h f z)
theorem c_input {d : Nat} {Fg : Nat → Prop} {h0 : hp} {V : kV} {bc bs : Nat} {Q : Option sV → kV → Prop} {r nm : Int32} (hA : zBok A) (h : cRs D A V) (hQ : cQ D (o_input A r nm) Q) : cM (d + 9) Fg h0 52 [sR (some (dX D)), sI r, sI nm] V bc bs Q := by
  obtain ⟨x7, -, -, x0, x1, x2⟩ := h.1
  refine cM_of (ls := [sR (some (dX D)), sI r, sI nm, sU]) rfl (Nat.le_of_ble_eq_true rfl) rfl ?_
  unfold o_input at hQ
  cases hz : zdec r (e_n (b_e A)) with
  | none =>
    simp only [hz] at hQ
    refine bX6_input_0 (bc1 := 0) (bs1 := 0) x2 x7 h.2.1.1 (c_rln hA h hz (by omega)) (Nat.zero_le _) (Nat.zero_le _) ?_
    rintro _ W ⟨rfl, rfl⟩
    exact bX6_input_8 (fun _ => bX6_input_20 (hQ _ D rfl h)) (fun z => absurd rfl z)
  | some r' =>
    simp only [hz] at hQ
    have hE := hA.1.1
    have rn := (zdec_some (by omega) hz).1
    have h6 := hA.1.2.2.1 r'
    obtain ⟨⟨a1, a2, a3, a4, a5, a6, a7, a8⟩, -, -, -⟩ := h.2.2.2.2.1 r' rn
    refine bX6_input_0 (bc1 := 0) (bs1 := 0) x2 x7 h.2.1.1 (c_rls hA h hz (by omega)) (Nat.zero_le _) (Nat.zero_le _) ?_
    rintro _ W ⟨rfl, rfl⟩
    refine bX6_input_8 (fun z => by cases z) (fun _ => ?_)
    refine bX6_input_13 (bc1 := 0) (bs1 := 0) (c_nm (by omega)) (Nat.zero_le _) (Nat.zero_le _) ?_
    rintro _ W ⟨rfl, rfl⟩
    cases hn : zdec nm 40 with
    | none =>
      simp only [hn] at hQ
      exact bX6_input_17 (fun z => absurd rfl z) (fun _ => bX6_input_20 (hQ _ D rfl h))
    | some nm' =>
      simp only [hn] at hQ
      obtain ⟨n40, rfl⟩ := zdec_some (by decide) hn
      refine bX6_input_17 (fun _ => ?_) (fun z => by cases z)
      by_cases hl : (e_i (b_e A) r').length = 6
      · rw [if_pos hl] at hQ
        refine bX6_input_22 a1 (fun z => absurd z (by rw [a5, hl]; decide)) (fun _ => bX6_input_31 (hQ _ D rfl h))
      · rw [if_neg hl] at hQ
        refine bX6_input_22 a1 (fun _ => ?_) (fun z => absurd (by rw [a5]; exact (nI_ltI (b := 6) (by omega) (by omega)).mpr (by omega)) z)
        have hin : vp_in (kI W 304 (dA D r')) 6 := vin (e_i (b_e A) r').length a5 (by omega) (by decide)
        refine bX6_input_34 (bc1 := 0) (bs1 := 0) a1 hin (c_drop a1 (by omega)) (Nat.zero_le _) (Nat.zero_le _) ?_
        rintro _ W2 ⟨rfl, rfl⟩
        rw [nix _ a5 (by omega), a5, nI_1]
        refine bX6_input_58 a1 ?_
        show Q (some (sI (if 304 = 304 ∧ dA D r' = dA D r' then nI ((e_i (b_e A) r').length + 1) else _))) _
        rw [if_pos ⟨rfl, rfl⟩]
        refine hQ _ D rfl (h.upd hE rn (((vex.a 303 (dA D r') _ _).tr (L := [303, 304]) (vex.i 304 (dA D r') _) (vexm (by decide)) (vexm (by decide))).tr (vex.i 305 (dA D r') 0) (vexm (by decide)) (vexm (by decide))) (fun u hu f => ⟨?_, ?_⟩) a3 a4 ?_ (fun j hj => ?_) ?_ (h.2.2.2.2.2.2.2 r' rn))
        · show (if f = 305 ∧ u = dA D r' then _ else if f = 304 ∧ u = dA D r' then _ else kI W f u) = kI W f u
          rw [if_neg (fun z => hu z.2), if_neg (fun z => hu z.2)]
        · exact if_neg (fun z => hu z.2)
        · show (if 304 = 304 ∧ dA D r' = dA D r' then nI ((e_i (b_e A) r').length + 1) else _) = _
          rw [if_pos ⟨rfl, rfl⟩, List.length_append]
          rfl
        · rw [List.length_append, List.length_singleton] at hj
          show (if 303 = 303 ∧ dA D r' = dA D r' then upd (kA W 303 (dA D r')) (e_i (b_e A) r').length (nI nm') else kA W 303 (dA D r')) j = _
          rw [if_pos ⟨rfl, rfl⟩, List.getD_eq_getElem?_getD]
          unfold upd
          by_cases e : j = (e_i (b_e A) r').length
          · rw [if_pos e, e, List.getElem?_append_right (Nat.le_refl _), Nat.sub_self]
            rfl
          · rw [if_neg e, List.getElem?_append_left (by omega), ← List.getD_eq_getElem?_getD]
            exact a6 j (by omega)
        · rw [kI_uI, if_pos ⟨rfl, rfl⟩]
theorem c_turn {d : Nat} {Fg : Nat → Prop} {h0 : hp} {V : kV} {bc bs : Nat} {Q : Option sV → kV → Prop} {r i nm : Int32} (hA : zBok A) (h : cRs D A V) (hQ : cQ D (o_turn A r i nm) Q) : cM (d + 9) Fg h0 53 [sR (some (dX D)), sI r, sI i, sI nm] V bc bs Q := by
  obtain ⟨x7, -, -, x0, x1, x2⟩ := h.1
  refine cM_of (ls := [sR (some (dX D)), sI r, sI i, sI nm, sU]) rfl (Nat.le_of_ble_eq_true rfl) rfl ?_
  unfold o_turn at hQ
  cases hz : zdec r (e_n (b_e A)) with
  | none =>
    simp only [hz] at hQ
    refine bX6_turn_0 (bc1 := 0) (bs1 := 0) x2 x7 h.2.1.1 (c_rln hA h hz (by omega)) (Nat.zero_le _) (Nat.zero_le _) ?_
    rintro _ W ⟨rfl, rfl⟩
    exact bX6_turn_8 (fun _ => bX6_turn_31 (hQ _ D rfl h)) (fun z => absurd rfl z)
  | some r' =>
    simp only [hz] at hQ
    have hE := hA.1.1
    have rn := (zdec_some (by omega) hz).1
    have h6 := hA.1.2.2.1 r'
    obtain ⟨⟨a1, a2, a3, a4, a5, a6, a7, a8⟩, -, -, -⟩ := h.2.2.2.2.1 r' rn
    refine bX6_turn_0 (bc1 := 0) (bs1 := 0) x2 x7 h.2.1.1 (c_rls hA h hz (by omega)) (Nat.zero_le _) (Nat.zero_le _) ?_
    rintro _ W ⟨rfl, rfl⟩
    refine bX6_turn_8 (fun z => by cases z) (fun _ => ?_)
    refine bX6_turn_15 (bc1 := 0) (bs1 := 0) (P := fun v V2 => v = some (sI (if (zdec i (e_i (b_e A) r').length).isSome = true then 1 else 0)) ∧ V2 = W) a1 (cM_le (by omega) (c_hasInput (d := 0) a1 a5 h6 ⟨rfl, rfl⟩)) (Nat.zero_le _) (Nat.zero_le _) ?_
    rintro _ W ⟨rfl, rfl⟩
    cases hi : zdec i (e_i (b_e A) r').length with
    | none =>
      simp only [hi] at hQ
      exact bX6_turn_21 (fun _ => bX6_turn_31 (hQ _ D rfl h)) (fun z => absurd rfl z)
    | some i' =>
      simp only [hi] at hQ
      obtain ⟨il, rfl⟩ := zdec_some (by omega) hi
      refine bX6_turn_21 (fun z => by cases z) (fun _ => ?_)
      refine bX6_turn_24 (bc1 := 0) (bs1 := 0) (c_nm (by omega)) (Nat.zero_le _) (Nat.zero_le _) ?_
      rintro _ W ⟨rfl, rfl⟩
      cases hn : zdec nm 40 with
      | none =>
        simp only [hn] at hQ
        exact bX6_turn_28 (fun z => absurd rfl z) (fun _ => bX6_turn_31 (hQ _ D rfl h))
      | some nm' =>
        simp only [hn] at hQ
        obtain ⟨n40, rfl⟩ := zdec_some (by decide) hn
        have g40 : (e_i (b_e A) r').getD i' 0 < 40 := hA.1.2.2.2 r' _ (by rw [List.getD_eq_getElem?_getD, List.getElem?_eq_getElem il]; exact List.getElem_mem il)
        refine bX6_turn_28 (fun _ => ?_) (fun z => by cases z)
        refine bX6_turn_33 a1 (vin i' rfl (by omega) (by decide)) (fun z => ?_) (fun z => ?_)
        · rw [nix i' rfl (by omega), a6 i' il, nI_eq (by omega) (by omega)] at z
          rw [if_neg z] at hQ
          refine bX6_turn_46 (bc1 := 0) (bs1 := 0) a1 (vin i' rfl (by omega) (by decide)) (c_drop a1 (by omega)) (Nat.zero_le _) (Nat.zero_le _) ?_
          rintro _ W2 ⟨rfl, rfl⟩
          rw [nix i' rfl (by omega)]
          refine bX6_turn_59 (hQ _ D rfl (h.upd hE rn ((vex.a 303 (dA D r') _ _).tr (vex.i 305 (dA D r') 0) (vexm (by decide)) (vexm (by decide))) (fun u hu f => ⟨?_, ?_⟩) a3 a4 ?_ (fun j hj => ?_) ?_ (h.2.2.2.2.2.2.2 r' rn)))
          · exact if_neg (fun z => hu z.2)
          · exact if_neg (fun z => hu z.2)
          · rw [List.length_set]; exact a5
          · rw [List.length_set] at hj
            show (if 303 = 303 ∧ dA D r' = dA D r' then upd (kA W 303 (dA D r')) i' (nI nm') else kA W 303 (dA D r')) j = _
            rw [if_pos ⟨rfl, rfl⟩, List.getD_eq_getElem?_getD]
            unfold upd
            by_cases e : j = i'
            · rw [if_pos e, e, List.getElem?_set_self il]; rfl
            · rw [if_neg e, List.getElem?_set_ne (fun q => e q.symm), ← List.getD_eq_getElem?_getD]
              exact a6 j hj
          · rw [kI_uI, if_pos ⟨rfl, rfl⟩]
        · rw [nix i' rfl (by omega), a6 i' il, nI_eq (by omega) (by omega)] at z
          rw [if_pos z] at hQ
          exact bX6_turn_44 (hQ _ D rfl h)
theorem i_kd {k : Int32} (h : ¬ (k < 1 ∨ 6 < k)) : 1 ≤ k ∧ k ≤ 6 := ⟨Int32.not_lt.mp (fun z => h (.inl z)), Int32.not_lt.mp (fun z => h (.inr z))⟩
theorem c_become {d : Nat} {Fg : Nat → Prop} {h0 : hp} {V : kV} {bc bs : Nat} {Q : Option sV → kV → Prop} {r k t : Int32} (ht : t = 0 ∨ t = 1) (hA : zBok A) (h : cRs D A V) (hQ : cQ D (o_become A r k t) Q) : cM (d + 9) Fg h0 54 [sR (some (dX D)), sI r, sI k, sI t] V bc bs Q := by
  obtain ⟨x7, -, -, x0, x1, x2⟩ := h.1
  refine cM_of (ls := [sR (some (dX D)), sI r, sI k, sI t, sU]) rfl (Nat.le_of_ble_eq_true rfl) rfl ?_
  unfold o_become at hQ
  cases hz : zdec r (e_n (b_e A)) with
  | none =>
    simp only [hz] at hQ
    refine bX6_become_0 (bc1 := 0) (bs1 := 0) x2 x7 h.2.1.1 (c_rln hA h hz (by omega)) (Nat.zero_le _) (Nat.zero_le _) ?_
    rintro _ W ⟨rfl, rfl⟩
    exact bX6_become_8 (fun _ => bX6_become_22 (hQ _ D rfl h)) (fun z => absurd rfl z)
  | some r' =>
    simp only [hz] at hQ
    have hE := hA.1.1
    have rn := (zdec_some (by omega) hz).1
    obtain ⟨⟨a1, a2, a3, a4, a5, a6, a7, a8⟩, -, -, -⟩ := h.2.2.2.2.1 r' rn
    refine bX6_become_0 (bc1 := 0) (bs1 := 0) x2 x7 h.2.1.1 (c_rls hA h hz (by omega)) (Nat.zero_le _) (Nat.zero_le _) ?_
    rintro _ W ⟨rfl, rfl⟩
    refine bX6_become_8 (fun z => by cases z) (fun _ => ?_)
    refine bX6_become_15 (bc1 := 0) (bs1 := 0) (c_kd (by omega)) (Nat.zero_le _) (Nat.zero_le _) ?_
    rintro _ W ⟨rfl, rfl⟩
    by_cases hk : k < 1 ∨ 6 < k
    · rw [if_pos hk] at hQ ⊢
      exact bX6_become_19 (fun z => absurd rfl z) (fun _ => bX6_become_22 (hQ _ D rfl h))
    · rw [if_neg hk] at hQ ⊢
      refine bX6_become_19 (fun _ => ?_) (fun z => by cases z)
      refine bX6_become_24 (bc1 := 0) (bs1 := 0) a1 ht (c_drop a1 (by omega)) (Nat.zero_le _) (Nat.zero_le _) ?_
      rintro _ W2 ⟨rfl, rfl⟩
      refine bX6_become_41 (hQ _ D rfl (h.upd hE rn (((vex.i 301 (dA D r') _).tr (L := [301, 302]) (vex.i 302 (dA D r') _) (vexm (by decide)) (vexm (by decide))).tr (vex.i 305 (dA D r') 0) (vexm (by decide)) (vexm (by decide))) (fun u hu f => ⟨?_, rfl⟩) ?_ ?_ a5 a6 ?_ (i_kd hk)))
      · show (if f = 305 ∧ u = dA D r' then _ else if f = 302 ∧ u = dA D r' then _ else if f = 301 ∧ u = dA D r' then _ else kI W f u) = kI W f u
        rw [if_neg (fun z => hu z.2), if_neg (fun z => hu z.2), if_neg (fun z => hu z.2)]
      · show (if 301 = 301 ∧ dA D r' = dA D r' then k else _) = k
        rw [if_pos ⟨rfl, rfl⟩]
      · show (if 302 = 302 ∧ dA D r' = dA D r' then t else _) = _
        rw [if_pos ⟨rfl, rfl⟩]
        rcases ht with rfl | rfl <;> decide
      · rw [kI_uI, if_pos ⟨rfl, rfl⟩]
theorem c_forget {d : Nat} {Fg : Nat → Prop} {h0 : hp} {V : kV} {bc bs : Nat} {Q : Option sV → kV → Prop} {r : Int32} (hA : zBok A) (h : cRs D A V) (hQ : cQ D (o_forget A r) Q) : cM (d + 9) Fg h0 55 [sR (some (dX D)), sI r] V bc bs Q := by
  obtain ⟨x7, -, -, x0, x1, x2⟩ := h.1
  refine cM_of (ls := [sR (some (dX D)), sI r, sU, sU]) rfl (Nat.le_of_ble_eq_true rfl) rfl ?_
  unfold o_forget at hQ
  cases hz : zdec r (e_n (b_e A)) with
  | none =>
    simp only [hz] at hQ
    refine bX6_forget_0 (bc1 := 0) (bs1 := 0) x2 x7 h.2.1.1 (c_rln hA h hz (by omega)) (Nat.zero_le _) (Nat.zero_le _) ?_
    rintro _ W ⟨rfl, rfl⟩
    exact bX6_forget_8 (fun z => absurd rfl z) (fun _ => bX6_forget_13 (hQ _ D rfl h))
  | some r' =>
    simp only [hz] at hQ
    have hE := hA.1.1
    have rn := (zdec_some (by omega) hz).1
    obtain ⟨⟨a1, a2, a3, a4, a5, a6, a7, a8⟩, ⟨t1, -⟩, -, -⟩ := h.2.2.2.2.1 r' rn
    refine bX6_forget_0 (bc1 := 0) (bs1 := 0) x2 x7 h.2.1.1 (c_rls hA h hz (by omega)) (Nat.zero_le _) (Nat.zero_le _) ?_
    rintro _ W ⟨rfl, rfl⟩
    refine bX6_forget_8 (fun _ => ?_) (fun z => by cases z)
    refine bX6_forget_15 (bc1 := 0) (bs1 := 0) a1 (c_drop a1 (by omega)) (Nat.zero_le _) (Nat.zero_le _) ?_
    rintro _ W2 ⟨rfl, rfl⟩
    refine bX6_forget_24 ?_
    rw [t1]
    refine hQ _ D rfl (h.upd hE rn ((vex.i 305 (dA D r') 0).up (vexm (by decide))) (fun u hu f => ⟨if_neg (fun z => hu z.2), rfl⟩) a3 a4 a5 a6 ?_ (h.2.2.2.2.2.2.2 r' rn))
    rw [kI_uI, if_pos ⟨rfl, rfl⟩]
theorem c_of {d : Nat} {Fg : Nat → Prop} {h0 : hp} {V : kV} {bc bs : Nat} {Q : Option sV → kV → Prop} {r w : Int32} (hA : zBok A) (h : cRs D A V) (hQ : cQ D (o_of A r w) Q) : cM (d + 9) Fg h0 56 [sR (some (dX D)), sI r, sI w] V bc bs Q := by
  obtain ⟨x7, -, -, x0, x1, x2⟩ := h.1
  refine cM_of (ls := [sR (some (dX D)), sI r, sI w, sU]) rfl (Nat.le_of_ble_eq_true rfl) rfl ?_
  unfold o_of at hQ
  cases hw : zdec w 10 with
  | none =>
    simp only [hw] at hQ
    by_cases h0 : w < 0
    · exact bX6_of_0 (fun _ => bX6_of_10 (hQ _ D rfl h)) (fun z => absurd h0 z)
    · refine bX6_of_0 (fun z => absurd z h0) (fun _ => bX6_of_4 (fun z => ?_) (fun _ => bX6_of_10 (hQ _ D rfl h)))
      exact absurd (show nI 10 ≤ nI 9 from Int32.le_trans ((zdec_none hw).resolve_left h0) z) (by decide)
  | some w' =>
    simp only [hw] at hQ
    obtain ⟨w10, rfl⟩ := zdec_some (by decide) hw
    refine bX6_of_0 (fun z => absurd z (nI_pos (by omega))) (fun _ => bX6_of_4 (fun _ => ?_) (fun z => absurd (show nI w' ≤ nI 9 from nI_le (by omega) (by omega)) z))
    cases hz : zdec r (e_n (b_e A)) with
    | none =>
      simp only [hz] at hQ
      refine bX6_of_12 (bc1 := 0) (bs1 := 0) x2 x7 h.2.1.1 (c_rln hA h hz (by omega)) (Nat.zero_le _) (Nat.zero_le _) ?_
      rintro _ W ⟨rfl, rfl⟩
      refine bX6_of_20 (fun z => absurd rfl z) (fun _ => ?_)
      refine bX6_of_25 (bc1 := 0) (bs1 := 0) x0 x7 h.1.2.1 (c_addk h 2 (by decide) (by omega)) (Nat.zero_le _) (Nat.zero_le _) ?_
      rintro _ V2 ⟨D2, rfl, e, h2⟩
      exact bX6_of_33 (hQ _ D2 e h2)
    | some r' =>
      simp only [hz] at hQ
      have hE := hA.1.1
      have rn := (zdec_some (by omega) hz).1
      have h6 := hA.1.2.2.1 r'
      obtain ⟨⟨a1, a2, a3, a4, a5, a6, a7, a8⟩, ⟨t1, -⟩, -, -⟩ := h.2.2.2.2.1 r' rn
      refine bX6_of_12 (bc1 := 0) (bs1 := 0) x2 x7 h.2.1.1 (c_rls hA h hz (by omega)) (Nat.zero_le _) (Nat.zero_le _) ?_
      rintro _ W ⟨rfl, rfl⟩
      refine bX6_of_20 (fun _ => ?_) (fun z => by cases z)
      have ti : (nI w').toInt = (w' : Int) := nI_toInt (by omega)
      have hQ' := hQ W D rfl h
      dsimp only at hQ'
      refine bX6_of_34 (fun z => ?_) (fun z => ?_) (fun z => ?_) (fun z => ?_) (fun z => ?_) <;> rw [ti] at z
      · rw [if_pos (by omega)] at hQ'
        refine bX6_of_64 a1 ?_
        rw [a3]; exact hQ'
      · rw [if_neg (by omega), if_pos (by omega)] at hQ'
        cases hst : e_t (b_e A) r' with
        | true =>
          rw [hst] at hQ' a4
          exact bX6_of_69 a1 (fun y => by rw [a4] at y; cases y) (fun _ => bX6_of_76 (bX6_of_81 hQ'))
        | false =>
          rw [hst] at hQ' a4
          exact bX6_of_69 a1 (fun _ => bX6_of_80 (bX6_of_81 hQ')) (fun y => absurd a4 y)
      · rw [if_neg (by omega), if_neg (by omega), if_pos (by omega)] at hQ'
        refine bX6_of_82 a1 ?_
        rw [a5]; exact hQ'
      · rw [if_neg (by omega), if_neg (by omega), if_neg (by omega), if_pos (by omega)] at hQ'
        refine bX6_of_87 a1 ?_
        rw [t1]; exact hQ'
      · rw [if_neg (by omega), if_neg (by omega), if_neg (by omega), if_neg (by omega)] at hQ'
        have e4 : nI w' - 4 = nI (w' - 4) := nI_sub (b := 4) (by omega)
        refine bX6_of_92 (bc1 := 0) (bs1 := 0) (P := fun v V2 => v = some (sI (if (zdec (nI (w' - 4)) (e_i (b_e A) r').length).isSome = true then 1 else 0)) ∧ V2 = W) a1 (by rw [e4]; exact cM_le (by omega) (c_hasInput (d := 0) a1 a5 h6 ⟨rfl, rfl⟩)) (Nat.zero_le _) (Nat.zero_le _) ?_
        rintro _ W ⟨rfl, rfl⟩
        by_cases hi : w' - 4 < (e_i (b_e A) r').length
        · rw [if_pos hi] at hQ'
          rw [zdec_nI (by omega) hi]
          refine bX6_of_99 (fun y => by cases y) (fun _ => bX6_of_102 a1 (vin (w' - 4) e4 (by omega) (by decide)) (bX6_of_114 ?_))
          rw [nix (w' - 4) e4 (by omega), a6 _ hi]
          exact hQ'
        · rw [if_neg hi] at hQ'
          rw [zdec_no (Or.inr (nI_le (by omega) (by omega)))]
          exact bX6_of_99 (fun _ => bX6_of_113 (bX6_of_114 hQ')) (fun y => absurd rfl y)
theorem c_trace {d : Nat} {Fg : Nat → Prop} {h0 : hp} {V : kV} {bc bs : Nat} {Q : Option sV → kV → Prop} {r k i : Int32} (hA : zBok A) (h : cRs D A V) (hQ : cQ D (o_trace A r k i) Q) : cM (d + 9) Fg h0 57 [sR (some (dX D)), sI r, sI k, sI i] V bc bs Q := by
  obtain ⟨x7, -, -, x0, x1, x2⟩ := h.1
  refine cM_of (ls := [sR (some (dX D)), sI r, sI k, sI i, sU, sU]) rfl (Nat.le_of_ble_eq_true rfl) rfl ?_
  unfold o_trace at hQ
  cases hz : zdec r (e_n (b_e A)) with
  | none =>
    simp only [hz] at hQ
    refine bX6_trace_0 (bc1 := 0) (bs1 := 0) x2 x7 h.2.1.1 (c_rln hA h hz (by omega)) (Nat.zero_le _) (Nat.zero_le _) ?_
    rintro _ W ⟨rfl, rfl⟩
    exact bX6_trace_8 (fun z => absurd rfl z) (fun _ => bX6_trace_15 (bX6_trace_25 (fun z => absurd rfl z) (fun _ => bX6_trace_32 (hQ _ D rfl h))))
  | some r' =>
    simp only [hz] at hQ
    have hE := hA.1.1
    have rn := (zdec_some (by omega) hz).1
    have hl4 := (hA.2.1 r').1
    obtain ⟨⟨a1, -⟩, ⟨t1, t2, -⟩, -, -⟩ := h.2.2.2.2.1 r' rn
    refine bX6_trace_0 (bc1 := 0) (bs1 := 0) x2 x7 h.2.1.1 (c_rls hA h hz (by omega)) (Nat.zero_le _) (Nat.zero_le _) ?_
    rintro _ W ⟨rfl, rfl⟩
    refine bX6_trace_8 (fun _ => ?_) (fun z => by cases z)
    refine bX6_trace_19 (bc1 := 0) (bs1 := 0) (P := fun v V2 => v = some (sR (match zdec k (q_t (b_q A) r').length with | some k => kB W 306 (dA D r') k | none => none)) ∧ V2 = W) a1 (cM_le (by omega) (c_traceAt (d := 0) a1 t1 (by omega) ⟨rfl, rfl⟩)) (Nat.zero_le _) (Nat.zero_le _) ?_
    rintro _ W ⟨rfl, rfl⟩
    cases hk : zdec k (q_t (b_q A) r').length with
    | none =>
      simp only [hk] at hQ
      exact bX6_trace_25 (fun z => absurd rfl z) (fun _ => bX6_trace_32 (hQ _ D rfl h))
    | some k' =>
      simp only [hk] at hQ
      obtain ⟨kl, rfl⟩ := zdec_some (by omega) hk
      obtain ⟨y, y1, y2, y3⟩ := t2 k' kl
      have htm : (q_t (b_q A) r').getD k' zt0 ∈ q_t (b_q A) r' := by rw [List.getD_eq_getElem?_getD, List.getElem?_eq_getElem kl]; exact List.getElem_mem kl
      have h25 := ((hA.2.1 r').2 _ htm).1.1
      dsimp only
      rw [y1]
      refine bX6_trace_25 (fun _ => ?_) (fun z => by cases z)
      refine bX6_trace_34 (fun z => ?_) (fun z => ?_)
      · rw [if_neg z] at hQ
        refine bX6_trace_47 (bc1 := 0) (bs1 := 0) (P := fun v V2 => v = some (sI (match zdec i ((q_t (b_q A) r').getD k' zt0).1.length with | some k => kA W 502 y k | none => -1)) ∧ V2 = W) y2.1 (cM_le (by omega) (c_nameAt (d := 0) y2.1 y2.2.1 h25 ⟨rfl, rfl⟩)) (Nat.zero_le _) (Nat.zero_le _) ?_
        rintro _ W ⟨rfl, rfl⟩
        refine bX6_trace_53 ?_
        cases hi : zdec i ((q_t (b_q A) r').getD k' zt0).1.length with
        | none => simp only [hi] at hQ; exact hQ _ D rfl h
        | some i' =>
          simp only [hi] at hQ
          dsimp only
          rw [(y2.2.2 i' (zdec_some (by omega) hi).1).1]
          exact hQ _ D rfl h
      · rw [if_pos z] at hQ
        refine bX6_trace_39 y2.1 (bX6_trace_53 ?_)
        rw [y2.2.1]
        exact hQ _ D rfl h
end
