section
variable {D : cD} {A : zB}
/-- the round is begun -/
theorem crep_begin {V V2 : kV} {E : zE} {R : zQ} {w0 mk : Int32} {f : Bool} (hA : zBok A) (h : cRs D A V) (hEe : E = e_fr (b_e A) f) (ht : q_t R = q_t (b_q A)) (hm : ∀ x, q_m R x = none) (hq : ∀ x, q_r R x = none) (hs : q_s R = []) (v : vex [204, 205, 206, 208, 307, 308, 309] V V2) (h8 : kI V2 208 (dO D) = if f = true then 1 else 0) (h4 : kI V2 204 (dO D) = nI (q_w R).length ∧ ∀ j, j < (q_w R).length → kA V2 203 (dO D) j = nI ((q_w R).getD j 0)) (h5 : kI V2 205 (dO D) = q_l R) (h7 : b_w A + nI (q_w (b_q A)).length = w0 + nI (q_w R).length) (hr : ∀ r, r < e_n (b_e A) → kR V2 308 (dA D r) = none ∧ kR V2 309 (dA D r) = none ∧ ∀ k, k < 4 → kA V2 307 (dA D r) k = q_z R r k) : crep (dX D, dF D, dO D, dS D, dA D, (kR V 201 (dO D), kI V 202 (dO D), kI V2 206 (dO D), kI V 0 (dF D), kA V 1 (dF D))) E R (fun _ => none) 0 w0 V2 := by
  subst hEe
  have hb := h.1.cg v (by decide)
  have c3 := h.o0
  have cf := h.f0
  obtain ⟨g0, ⟨g1, g2⟩, g3, g4, g5, g6⟩ := h.2.2.1
  refine ⟨⟨hb, (v.2.2 201 _ c3 (by decide)).2.1, (v.2.2 202 _ c3 (by decide)).1, rfl, (v.2.2 0 _ cf (by decide)).1, (v.2.2 1 _ cf (by decide)).2.2.1⟩, h.2.1.cg v (by decide), ⟨hb.2.2.1, ?_, h4, by rw [Int32.add_zero]; exact h5, ?_, h8, ?_⟩, fun r hr2 => ?_, h.2.2.2.2.2.1.cg (fun r hr => h.k0 hr) v (by decide)⟩
  · exact (v.2.2 200 _ c3 (by decide)).2.1.trans g0
  · exact (v.2.2 207 _ c3 (by decide)).1.trans (g4.trans h7)
  · rw [hs]
    exact (v.2.2 209 _ c3 (by decide)).1.trans g5
  · have hr2 : r < e_n (b_e A) := hr2
    obtain ⟨a1, a2, a3, a4⟩ := h.2.2.2.2.1 r hr2
    have c4 := h.k0 hr2
    obtain ⟨b1, b2, b3⟩ := hr r hr2
    refine ⟨a1.cg v (by decide), ?_, ⟨b3, ⟨fun _ => b1, fun o ho => by rw [hm] at ho; cases ho⟩, ⟨fun _ => b2, fun l hl => by rw [hq] at hl; cases hl⟩, ?_⟩⟩
    · have a2' := a2.cg c4 v (by decide)
      obtain ⟨t1, t2, t3, t4⟩ := a2'
      refine ⟨?_, ?_, t3, fun hm => by rw [hs] at hm; cases hm⟩
      · rw [ht]; exact t1
      · rw [ht]; exact t2
    · rw [hs]
      exact (v.2.2 311 _ c4 (by decide)).1.trans a4
/-- the round is done -/
theorem cRs_done {V V2 : kV} {D0 : cD} {E : zE} {R : zQ} {w0 : Int32} {sp : Nat → Option (List zR)} {o : zO} {r : Nat} (hkd : ∀ r, r < e_n E → 1 ≤ e_k E r ∧ e_k E r ≤ 6) (hD : (dX D0, dF D0, dO D0, dS D0, dA D0) = (dX D, dF D, dO D, dS D, dA D)) (hfi : (dT D0).2.2.2.1 = b_t A ∧ ∀ k, k < 5 → (dT D0).2.2.2.2 k = b_f A k) (h : crep D0 E R sp 0 w0 V) (hs : q_s R = []) (v : vex [201, 202] V V2) (h1 : cO V2 (kR V2 201 (dO D)) o) (h2 : rB0 (zrb R o) (kI V2 202 (dO D))) : cRs D (E, zrest R, w0, some (o, zrb R o), (dT D0).2.2.1, b_t A, b_f A) V2 := by
  obtain ⟨x, f, oo, ss, aa, tt⟩ := D
  obtain ⟨x', f', oo', ss', aa', tt'⟩ := D0
  simp only [Prod.mk.injEq] at hD
  obtain ⟨rfl, rfl, rfl, rfl, rfl⟩ := hD
  obtain ⟨⟨⟨a1, a2, a3, a4, a5, a6⟩, a7, a8, a9, a10, a11⟩, b, ⟨c1, c2, c3, c4, c5, c6, c7⟩, e, g⟩ := h
  have k3 : kC V oo' ≠ 0 := by rw [show kC V oo' = 3 from a3]; decide
  have kf : kC V f' ≠ 0 := by rw [show kC V f' = 1 from a2]; decide
  have kx : kC V x' ≠ 0 := by rw [show kC V x' = 7 from a1]; decide
  refine ⟨⟨(v.1 _ kx).1.trans a1, (v.1 _ kf).1.trans a2, (v.1 _ k3).1.trans a3, (v.2.2 600 _ kx (by decide)).2.1.trans a4, (v.2.2 601 _ kx (by decide)).2.1.trans a5, (v.2.2 602 _ kx (by decide)).2.1.trans a6⟩, b.cg v (by decide), ⟨(v.2.2 200 _ k3 (by decide)).2.1.trans c2, ⟨(v.2.2 204 _ k3 (by decide)).1.trans c3.1, ?_⟩, ?_, (v.2.2 207 _ k3 (by decide)).1.trans c5, ?_, (v.2.2 206 _ k3 (by decide)).1.trans a9⟩, ⟨h1, h2⟩, fun r hr => ?_, cTi.cg (fun r hr => by rw [(e r hr).1.1]; decide) g v (by decide), ⟨?_, ?_⟩, hkd⟩
  · show ∀ j, j < (q_w R).length → kA V2 203 oo' j = _
    rw [(v.2.2 203 _ k3 (by decide)).2.2.1]; exact c3.2
  · rw [(v.2.2 205 _ k3 (by decide)).1]
    show kI V 205 oo' = q_l R
    rw [show kI V 205 oo' = q_l R + 0 from c4, Int32.add_zero]
  · rw [(v.2.2 209 _ k3 (by decide)).1]
    show kI V 209 oo' = 0
    rw [show kI V 209 oo' = nI (q_s R).length from c7, hs]
    rfl
  · obtain ⟨e1, e2, e3⟩ := e r hr
    have k4 : kC V (aa' r) ≠ 0 := by rw [show kC V (aa' r) = 4 from e1.1]; decide
    refine ⟨e1.cg v (by decide), ?_, ?_, ?_⟩
    · obtain ⟨t1, t2, t3, t4⟩ := e2.cg k4 v (by decide)
      exact ⟨t1, t2, t3, fun hm => by cases hm⟩
    · show ∀ k, k < 4 → kA V2 307 (aa' r) k = _
      rw [(v.2.2 307 _ k4 (by decide)).2.2.1]; exact e3.1
    · show kI V2 311 (aa' r) = 0
      rw [(v.2.2 311 _ k4 (by decide)).1]
      have := e3.2.2.2
      rw [hs] at this
      exact this
  · rw [(v.2.2 0 _ kf (by decide)).1]
    exact (show kI V 0 f' = _ from a10).trans hfi.1
  · show ∀ k, k < 5 → kA V2 1 f' k = b_f A k
    rw [(v.2.2 1 _ kf (by decide)).2.2.1, show kA V 1 f' = _ from a11]
    exact hfi.2
theorem c_run {d : Nat} {Fg : Nat → Prop} {h0 : hp} {V : kV} {bc bs : Nat} {Q : Option sV → kV → Prop} {f : Bool} {x : Int32} {E : zE} {R : zQ} {w0 mk : Int32} {r : Nat} (hA : zBok A) (h : cRs D A V) (hx : x = if f = true then 1 else 0) (hEe : E = e_fr (b_e A) f) (hRm : (f = false ∧ R = zbeg (b_q A) ∧ w0 = b_w A + nI (q_w (b_q A)).length ∧ mk = b_m A + 1) ∨ (f = true ∧ R = b_q A ∧ w0 = b_w A ∧ mk = b_m A)) (hW : zWF E [] R) (hI : zRI [] R) (hr : r < e_n E) (hbc : 300 ≤ bc) (hbs : 3000 ≤ bs) (hQ : cQ D (o_run A E R w0 mk r) Q) : cM (d + 130) Fg h0 9 [sR (some (dO D)), sR (some (dA D r)), sI x] V bc bs Q := by
  have hE : e_n E ≤ 24 := hW.1.1
  have en : e_n E = e_n (b_e A) := by rw [hEe]; rfl
  obtain ⟨x7, f1, x3, x0, x1, x2⟩ := h.1
  obtain ⟨g0, ⟨g1, g2⟩, g3, g4, g5, g6⟩ := h.2.2.1
  have hx01 : x = 0 ∨ x = 1 := by rw [hx]; cases f <;> simp
  have hrest : q_t R = q_t (b_q A) ∧ (∀ y, q_m R y = none) ∧ (∀ y, q_r R y = none) ∧ q_s R = [] := by
    rcases hRm with ⟨-, rfl, -, -⟩ | ⟨-, rfl, -, -⟩
    · exact ⟨rfl, fun _ => rfl, fun _ => rfl, rfl⟩
    · exact ⟨rfl, hA.2.2.1, hA.2.2.2.1, hA.2.2.2.2.1⟩
  obtain ⟨ht, hm, hq, hs⟩ := hrest
  have hkd : ∀ r, r < e_n E → 1 ≤ e_k E r ∧ e_k E r ≤ 6 := fun r hr => by
    rw [hEe]
    exact h.2.2.2.2.2.2.2 r (by rw [← en]; exact hr)
  have hS : zSt E [] R := by
    refine ⟨fun hf y k _ _ => ?_, fun y _ _ => hq y⟩
    rcases hRm with ⟨-, rfl, -, -⟩ | ⟨hft, -, -, -⟩
    · rfl
    · rw [hEe, hft] at hf
      cases hf
  obtain ⟨z1, z2, z3, z4, z5⟩ := zround hW hI hm hr
  have z6 := zround_hit hW hS hm hr
  refine cM_of (ls := [sR (some (dO D)), sR (some (dA D r)), sI x, sU, sU, sU, sU]) rfl (Nat.le_of_ble_eq_true rfl) rfl ?_
  -- behind the loop
  have go : ∀ (V2 : kV) (v3 v4 v5 v6 : sV), vex [204, 205, 206, 208, 307, 308, 309] V V2 → kI V2 208 (dO D) = x → kI V2 204 (dO D) = nI (q_w R).length → kI V2 205 (dO D) = q_l R → kI V2 206 (dO D) = mk → (∀ y, y < e_n (b_e A) → kR V2 308 (dA D y) = none ∧ kR V2 309 (dA D y) = none ∧ ∀ k, k < 4 → kA V2 307 (dA D y) k = q_z R y k) → cWP (d + 129) Fg h0 9 Q 74 [sR (some (dO D)), sR (some (dA D r)), sI x, v3, v4, v5, v6] [] V2 bc bs := by
    intro V2 v3 v4 v5 v6 v h8 h4 h5 h6 hru
    have h203 : ∀ j, j < (q_w R).length → kA V2 203 (dO D) j = nI ((q_w R).getD j 0) := by
      rw [(v.2.2 203 _ h.o0 (by decide)).2.2.1]
      rcases hRm with ⟨-, rfl, -, -⟩ | ⟨-, rfl, -, -⟩
      · intro j hj; exact absurd hj (by show ¬ j < 0; omega)
      · exact g2
    have h7 : b_w A + nI (q_w (b_q A)).length = w0 + nI (q_w R).length := by
      rcases hRm with ⟨-, rfl, rfl, -⟩ | ⟨-, rfl, rfl, -⟩
      · show _ = _ + nI 0
        rw [nI_0, Int32.add_zero]
      · rfl
    have cr := crep_begin (w0 := w0) (mk := mk) hA h hEe ht hm hq hs v (by rw [h8]; exact hx) ⟨h4, h203⟩ h5 h7 hru
    generalize hD0 : ((dX D, dF D, dO D, dS D, dA D, (kR V 201 (dO D), kI V 202 (dO D), kI V2 206 (dO D), kI V 0 (dF D), kA V 1 (dF D))) : cD) = D0 at cr
    have e1 : (dX D0, dF D0, dO D0, dS D0, dA D0) = (dX D, dF D, dO D, dS D, dA D) := by rw [← hD0]
    have e2 : dT D0 = (kR V 201 (dO D), kI V 202 (dO D), kI V2 206 (dO D), kI V 0 (dF D), kA V 1 (dF D)) := by rw [← hD0]
    have eO : dO D0 = dO D := by rw [← hD0]
    have eA : dA D0 = dA D := by rw [← hD0]
    have eS : dS D0 = dS D := by rw [← hD0]
    have hC := c_makeRule (Fg := Fg) (h0 := h0) (D := D0) hkd (c_round hkd 24)
    have u24 : zU R ≤ 24 := zun_24 24
    refine bX2_run_74 (bc1 := bc) (bs1 := bs) (P := fun v V3 => ∃ a, v = some (sR (some a)) ∧ kO V3 a = some (zmake (zout E 24) E R r).1 ∧ crep D0 E (zmake (zout E 24) E R r).2 (fun _ => none) 0 w0 V3) ((v.1 _ h.o0).1.trans x3) (by
      have := hC R r [] (fun _ => none) 0 w0 V2 bc bs d (fun v V3 => ∃ a, v = some (sR (some a)) ∧ kO V3 a = some (zmake (zout E 24) E R r).1 ∧ crep D0 E (zmake (zout E 24) E R r).2 (fun _ => none) 0 w0 V3) ⟨hW, hS⟩ hr (hm r) (by rw [hs]; simp) (hq r) (by omega) cr (by omega) (by omega) (fun a V3 w1 w2 w3 => ⟨a, rfl, w2, w3⟩)
      rw [eO, eA] at this
      exact cM_le (by omega) this) (Nat.le_refl _) (Nat.le_refl _) ?_
    rintro _ V3 ⟨a, rfl, a1, a2⟩
    generalize hzm : zmake (zout E 24) E R r = Z at *
    obtain ⟨o, R2⟩ := Z
    have hs2 : q_s R2 = [] := z1.2.2.2.1
    have c3 := a2.2.2.1.1
    rw [eO] at c3
    have c30 : kC V3 (dO D) ≠ 0 := by rw [c3]; decide
    have cS := a2.2.1
    have v2 := vex.r (V := V3) 201 (dO D) (some a)
    have r201 : kR (uR V3 201 (dO D) (some a)) 201 (dO D) = some a := by rw [kR_uR, if_pos ⟨rfl, rfl⟩]
    refine bX2_run_80 (bc1 := 0) (bs1 := 0) (P := fun v W => ∃ y, v = some (sI y) ∧ rB0 (zrb R2 o) y ∧ W = uR V3 201 (dO D) (some a)) c3 c3 (by
      rw [r201]
      have := c_ringBehind (d := d + 127) (Fg := Fg) (h0 := h0) (bc := 0) (bs := 0) (D := D0) (E := E) (R := R2) (a := a) (o := o) (V := uR V3 201 (dO D) (some a)) (Q := fun v W => ∃ y, v = some (sI y) ∧ rB0 (zrb R2 o) y ∧ W = uR V3 201 (dO D) (some a)) (cS.cg v2 (by decide)) hE (by rw [eO]; exact c3) (by have := a2.2.2.1.2.1; rw [eO] at this ⊢; exact this) a1 (fun n l hn hl => ⟨(a2.2.2.2.1 n hn).1.1, ((a2.2.2.2.1 n hn).2.2.2.2.1.2 l hl).2⟩) (fun e3 => by
        obtain ⟨n, n1, n2, n3⟩ := z5 e3
        exact ⟨n, n1, z6 n n3, n3⟩) (fun y hy => ⟨y, rfl, hy, rfl⟩)
      rw [eO] at this
      exact this) (Nat.zero_le _) (Nat.zero_le _) ?_
    rintro _ W ⟨y, rfl, hy, rfl⟩
    have v5 : vex [201, 202] V3 (uI (uR V3 201 (dO D) (some a)) 202 (dO D) y) := v2.tr (vex.i 202 (dO D) y) (vexm (by decide)) (vexm (by decide))
    have fin : cRs D (o_run A E R w0 mk r).2 (uI (uR V3 201 (dO D) (some a)) 202 (dO D) y) := by
      have := cRs_done (D := D) (A := A) hkd e1 (by rw [e2]; exact ⟨h.2.2.2.2.2.2.1.1, h.2.2.2.2.2.2.1.2⟩) a2 hs2 v5 (o := o) ⟨a, r201, a1⟩ (by rw [kI_uI, if_pos ⟨rfl, rfl⟩]; exact hy) (r := r)
      rw [e2, h6] at this
      unfold o_run
      rw [hzm]
      exact this
    have hQ' := hQ _ D rfl fin
    have eans : (o_run A E R w0 mk r).1 = zans o := by unfold o_run; rw [hzm]
    rw [eans] at hQ'
    unfold zans at hQ'
    refine bX2_run_92 (bc1 := 0) (bs1 := 0) (P := fun v W => v = some (sI (if o.1 = 0 then 0 else 1)) ∧ W = uI (uR V3 201 (dO D) (some a)) 202 (dO D) y) c3 r201 c3 a1 (cM_le (by omega) (c_isFailure (d := 0) (V := uI (uR V3 201 (dO D) (some a)) 202 (dO D) y) a1 ⟨rfl, rfl⟩)) (Nat.zero_le _) (Nat.zero_le _) ?_
    rintro _ W ⟨rfl, rfl⟩
    by_cases ho : o.1 = 0
    · rw [if_pos ho] at hQ' ⊢
      exact bX2_run_102 (fun _ => bX2_run_118 r201 c3 a1 (bX2_run_126 hQ')) (fun z => absurd rfl z)
    · rw [if_neg ho] at hQ' ⊢
      exact bX2_run_102 (fun z => by cases z) (fun _ => bX2_run_105 r201 c3 a1 (bX2_run_126 hQ'))
  -- the loop over the rules
  have loop : ∀ (V1 : kV) (v6 : sV), vex [204, 205, 206, 208] V V1 → kI V1 208 (dO D) = x → kI V1 204 (dO D) = nI (q_w R).length → kI V1 205 (dO D) = q_l R → kI V1 206 (dO D) = mk → cWP (d + 129) Fg h0 9 Q 29 [sR (some (dO D)), sR (some (dA D r)), sI x, sU, sU, sU, v6] [] V1 bc bs := by
    intro V1 v6 v1 h8 h4 h5 h6
    have c3 : kC V1 (dO D) = 3 := (v1.1 _ h.o0).1.trans x3
    have cs0 : kC V (dS D) ≠ 0 := by rw [h.2.1.1]; decide
    have cs : kC V1 (dS D) = 5 := (v1.1 _ cs0).1.trans h.2.1.1
    refine bX2_run_29 ((v1.2.2 200 _ h.o0 (by decide)).2.1.trans g0) c3 cs ?_
    have it : ∀ (e i : Nat) (W : kV) (v6 : sV), i + e = 24 → vex [307, 308, 309] V1 W → (∀ y, y < e_n (b_e A) → y < i → kR W 308 (dA D y) = none ∧ kR W 309 (dA D y) = none ∧ ∀ k, k < 4 → kA W 307 (dA D y) k = q_z R y k) → (∀ y, y < e_n (b_e A) → i ≤ y → kA W 307 (dA D y) = kA V 307 (dA D y)) → cWP (d + 129) Fg h0 9 Q 44 [sR (some (dO D)), sR (some (dA D r)), sI x, sR (some (kr V1 401 (dS D))), sI 24, sI (nI i), v6] [] W bc bs := by
      intro e
      induction e with
      | zero =>
        intro i W v6 hi v h1 h2
        have v' : vex [204, 205, 206, 208, 307, 308, 309] V W := v1.tr v (vexm (by decide)) (vexm (by decide))
        have c3n : kC V1 (dO D) ≠ 0 := by rw [c3]; decide
        rw [show i = 24 by omega]
        refine bX2_run_44 (fun _ => go W _ _ _ _ v' ((v.2.2 208 _ c3n (by decide)).1.trans h8) ((v.2.2 204 _ c3n (by decide)).1.trans h4) ((v.2.2 205 _ c3n (by decide)).1.trans h5) ((v.2.2 206 _ c3n (by decide)).1.trans h6) (fun y hy => h1 y hy (by rw [← en] at hy; omega))) (fun z => absurd (show nI 24 ≤ nI 24 from nI_le (Nat.le_refl _) (by decide)) z)
      | succ e ih =>
        intro i W v6 hi v h1 h2
        have hi24 : i < 24 := by omega
        have csn : kC V1 (dS D) ≠ 0 := by rw [cs]; decide
        have cW : kC W (dS D) = 5 := (v.1 _ csn).1.trans cs
        have ekr : kr W 401 (dS D) = kr V1 401 (dS D) := (v.1 _ csn).2 401
        have ekb : kB W 401 (dS D) = kB V 401 (dS D) := (v.2.2 401 _ csn (by decide)).2.2.2.trans (v1.2.2 401 _ cs0 (by decide)).2.2.2
        have kb := h.2.1.2.2.2.2 i hi24
        refine bX2_run_44 (fun z => absurd (show nI 24 ≤ nI i from z) (nI_ge hi24 (by decide))) (fun _ => ?_)
        rw [← ekr]
        refine bX2_run_51 (vin i rfl hi24 (by decide)) cW (fun z => ?_) (fun z => ?_)
        · rw [nix i rfl (by omega), ekb, kb] at z ⊢
          have hin : ¬ i < e_n (b_e A) := fun y => by rw [if_pos y] at z; cases z
          refine bX2_run_68 ?_
          rw [nI_1, ekr]
          exact ih (i + 1) W _ (by omega) v (fun y hy hyi => h1 y hy (by omega)) (fun y hy hyi => h2 y hy (by omega))
        · rw [nix i rfl (by omega), ekb, kb] at z ⊢
          have hin : i < e_n (b_e A) := Classical.byContradiction (fun y => z (if_neg y))
          rw [if_pos hin]
          have ci1 : kC V1 (dA D i) = 4 := (v1.1 _ (h.k0 hin)).1.trans (h.kc hin)
          have ci : kC W (dA D i) = 4 := (v.1 _ (by rw [ci1]; decide)).1.trans ci1
          refine bX2_run_62 (bc1 := 0) (bs1 := 0) (P := fun w W2 => w = none ∧ vex [307, 308, 309] W W2 ∧ (∀ u, kC W u ≠ 0 → u ≠ dA D i → kA W2 307 u = kA W 307 u ∧ kR W2 308 u = kR W 308 u ∧ kR W2 309 u = kR W 309 u) ∧ kR W2 308 (dA D i) = none ∧ kR W2 309 (dA D i) = none ∧ ∀ k, k < 4 → kA W2 307 (dA D i) k = if x = 0 then -1 else kA W 307 (dA D i) k) ci (cM_le (by omega) (c_beginRound (d := 0) ci (fun W2 w1 w2 w3 w4 w5 => ⟨rfl, w1, w2, w3, w4, w5⟩))) (Nat.zero_le _) (Nat.zero_le _) ?_
          rintro _ W2 ⟨rfl, w1, w2, w3, w4, w5⟩
          refine bX2_run_68 ?_
          rw [nI_1, ekr]
          have lv : ∀ y, y < e_n (b_e A) → kC W (dA D y) ≠ 0 := fun y hy => by
            have q1 : kC V1 (dA D y) = 4 := (v1.1 _ (h.k0 hy)).1.trans (h.kc hy)
            rw [(v.1 _ (by rw [q1]; decide)).1, q1]
            decide
          refine ih (i + 1) W2 _ (by omega) (v.tr w1 (fun _ hf => hf) (fun _ hf => hf)) (fun y hy hyi => ?_) (fun y hy hyi => ?_)
          · by_cases ey : y = i
            · subst ey
              refine ⟨w3, w4, fun k hk => ?_⟩
              rw [w5 k hk, h2 y hy (Nat.le_refl _), (h.2.2.2.2.1 y hy).2.2.1 k hk]
              rcases hRm with ⟨hf, rfl, -, -⟩ | ⟨hf, rfl, -, -⟩
              · rw [if_pos (by rw [hx, hf]; rfl)]
                rfl
              · rw [if_neg (by rw [hx, hf]; decide)]
            · obtain ⟨q1, q2, q3⟩ := w2 _ (lv y hy) (fun z => ey (h.inj (by rw [← en]; exact hE) hy hin z))
              rw [q1, q2, q3]
              exact h1 y hy (by omega)
          · have ey : y ≠ i := by omega
            rw [(w2 _ (lv y hy) (fun z => ey (h.inj (by rw [← en]; exact hE) hy hin z))).1]
            exact h2 y hy (by omega)
    exact it 24 0 V1 _ (by omega) vex.rf (fun y _ hy => absurd hy (by omega)) (fun y hy _ => (v1.2.2 307 _ (h.k0 hy) (by decide)).2.2.1)
  have r8 : kI (uI V 208 (dO D) x) 208 (dO D) = x := by rw [kI_uI, if_pos ⟨rfl, rfl⟩]
  refine bX2_run_0 x3 hx01 (fun z => ?_) (fun z => ?_)
  · rcases hRm with ⟨hf, -, -, -⟩ | ⟨hf, hR, -, hmk⟩
    · exact absurd (by rw [hx, hf]; rfl) z
    · exact loop _ _ ((vex.i 208 (dO D) x).up (vexm (by decide))) r8 (by rw [hR]; exact g1) (by rw [hR]; exact g3) (by rw [hmk]; exact g6)
  · rcases hRm with ⟨hf, hR, -, hmk⟩ | ⟨hf, -, -, -⟩
    · refine bX2_run_9 x3 (loop _ _ (((((vex.i 208 (dO D) x).tr (L := [206, 208]) (vex.i 206 (dO D) _) (vexm (by decide)) (vexm (by decide))).tr (L := [204, 206, 208]) (vex.i 204 (dO D) _) (vexm (by decide)) (vexm (by decide))).tr (vex.i 205 (dO D) _) (vexm (by decide)) (vexm (by decide)))) ?_ ?_ ?_ ?_)
      · exact r8
      · rw [hR]
        show (if 204 = 204 ∧ dO D = dO D then 0 else _) = nI 0
        rw [if_pos ⟨rfl, rfl⟩]
        rfl
      · rw [kI_uI, if_pos ⟨rfl, rfl⟩, hR]
        rfl
      · show (if 206 = 206 ∧ dO D = dO D then kI (uI V 208 (dO D) x) 206 (dO D) + 1 else _) = mk
        rw [if_pos ⟨rfl, rfl⟩, hmk, ← g6]
        rfl
    · rw [hx, hf] at z
      cases z
theorem c_make {d : Nat} {Fg : Nat → Prop} {h0 : hp} {V : kV} {bc bs : Nat} {Q : Option sV → kV → Prop} {r : Int32} (hA : zBok A) (h : cRs D A V) (hbc : 300 ≤ bc) (hbs : 3000 ≤ bs) (hQ : cQ D (o_make A r) Q) : cM (d + 131) Fg h0 58 [sR (some (dX D)), sI r] V bc bs Q := by
  obtain ⟨x7, f1, x3, x0, x1, x2⟩ := h.1
  refine cM_of (ls := [sR (some (dX D)), sI r, sU]) rfl (Nat.le_of_ble_eq_true rfl) rfl ?_
  unfold o_make at hQ
  cases hz : zdec r (e_n (b_e A)) with
  | none =>
    simp only [hz] at hQ
    refine bX6_make_0 (bc1 := 0) (bs1 := 0) x2 x7 h.2.1.1 (c_rln hA h hz (by omega)) (Nat.zero_le _) (Nat.zero_le _) ?_
    rintro _ W ⟨rfl, rfl⟩
    exact bX6_make_8 (fun z => absurd rfl z) (fun _ => bX6_make_13 (bX6_make_26 (hQ _ D rfl h)))
  | some r' =>
    simp only [hz] at hQ
    have hE := hA.1.1
    have rn := (zdec_some (by omega) hz).1
    obtain ⟨hW, hI⟩ := zWF_make hA
    refine bX6_make_0 (bc1 := 0) (bs1 := 0) x2 x7 h.2.1.1 (c_rls hA h hz (by omega)) (Nat.zero_le _) (Nat.zero_le _) ?_
    rintro _ W ⟨rfl, rfl⟩
    refine bX6_make_8 (fun _ => ?_) (fun z => by cases z)
    refine bX6_make_17 (bc1 := bc) (bs1 := bs) x1 x7 x3 (c_run (D := D) (f := false) hA h rfl rfl (.inl ⟨rfl, rfl, rfl, rfl⟩) hW hI rn (by omega) (by omega) (Q := fun v V2 => ∃ y, v = some (sI y) ∧ Q (some (sI y)) V2) (fun V2 D2 e h2 => ⟨_, rfl, hQ V2 D2 e h2⟩)) (Nat.le_refl _) (Nat.le_refl _) ?_
    rintro _ V2 ⟨y, rfl, q⟩
    exact bX6_make_26 q
theorem c_anew {d : Nat} {Fg : Nat → Prop} {h0 : hp} {V : kV} {bc bs : Nat} {Q : Option sV → kV → Prop} {r : Int32} (hA : zBok A) (h : cRs D A V) (hbc : 300 ≤ bc) (hbs : 3000 ≤ bs) (hQ : cQ D (o_anew A r) Q) : cM (d + 131) Fg h0 59 [sR (some (dX D)), sI r] V bc bs Q := by
  obtain ⟨x7, f1, x3, x0, x1, x2⟩ := h.1
  refine cM_of (ls := [sR (some (dX D)), sI r, sU]) rfl (Nat.le_of_ble_eq_true rfl) rfl ?_
  unfold o_anew at hQ
  cases hz : zdec r (e_n (b_e A)) with
  | none =>
    simp only [hz] at hQ
    refine bX6_anew_0 (bc1 := 0) (bs1 := 0) x2 x7 h.2.1.1 (c_rln hA h hz (by omega)) (Nat.zero_le _) (Nat.zero_le _) ?_
    rintro _ W ⟨rfl, rfl⟩
    exact bX6_anew_8 (fun z => absurd rfl z) (fun _ => bX6_anew_13 (bX6_anew_26 (hQ _ D rfl h)))
  | some r' =>
    simp only [hz] at hQ
    have hE := hA.1.1
    have rn := (zdec_some (by omega) hz).1
    obtain ⟨hW, hI⟩ := zWF_anew hA
    refine bX6_anew_0 (bc1 := 0) (bs1 := 0) x2 x7 h.2.1.1 (c_rls hA h hz (by omega)) (Nat.zero_le _) (Nat.zero_le _) ?_
    rintro _ W ⟨rfl, rfl⟩
    refine bX6_anew_8 (fun _ => ?_) (fun z => by cases z)
    refine bX6_anew_17 (bc1 := bc) (bs1 := bs) x1 x7 x3 (c_run (D := D) (f := true) hA h rfl rfl (.inr ⟨rfl, rfl, rfl, rfl⟩) hW hI rn (by omega) (by omega) (Q := fun v V2 => ∃ y, v = some (sI y) ∧ Q (some (sI y)) V2) (fun V2 D2 e h2 => ⟨_, rfl, hQ V2 D2 e h2⟩)) (Nat.le_refl _) (Nat.le_refl _) ?_
    rintro _ V2 ⟨y, rfl, q⟩
    exact bX6_anew_26 q
end
