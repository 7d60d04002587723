theorem q_stale_id {R : zQ} {r k : Nat} {x : Int32} (h : q_z R r k = x) : q_stale R r k x = R := by
  subst h
  unfold q_stale
  rw [va_upe, va_upe]
section
variable {D : cD} {E : zE} {R : zQ} {sp : Nat → Option (List zR)} {lk w0 : Int32}
theorem c_lookAt {d : Nat} {Fg : Nat → Prop} {h0 : hp} {V : kV} {bc bs : Nat} {Q : Option sV → kV → Prop} {r : Nat} {fs : List (Nat × zP)} (e : Nat) (hC : COut Fg h0 D E d) (hf : e_f E = false) (hJ : zJ E ((r, .inl (0, 0)) :: fs) R) (hd : 24 ≤ d + (q_s R).length) (hR : crep D E R sp lk w0 V) (hsp : va_up sp r none = sp) (hr0 : q_r R r = none) {Z : Option zO × zQ} (hZ : zlook (zout E d) r (q_t R r) 0 R = Z) (b1 : 10 * zU R ≤ bc + 10 * zU Z.2) (b2 : 100 * zU R ≤ bs + 100 * zU Z.2)
    (hQ1 : ∀ a V2 o, vo V V2 → (∀ x ∈ q_s R, x ≠ r → kB V2 306 (dA D x) = kB V 306 (dA D x)) → Z.1 = some o → q_s Z.2 = q_s R → q_m Z.2 r = none → kO V2 a = some o → crep D E Z.2 sp lk w0 V2 → Q (some (sR (some a))) V2)
    (hQ2 : ∀ V2 k', vk D R V V2 → Z.1 = none → zJ E ((r, .inl (k', 0)) :: fs) Z.2 → (q_t Z.2 r).length ≤ k' → zkp R Z.2 → q_r Z.2 r = none → crep D E Z.2 sp lk w0 V2 → Q (some (sR none)) V2) : cM (5 * d + e + 7) Fg h0 14 [sR (some (dO D)), sR (some (dA D r))] V bc bs Q := by
  have hE := hJ.1.1.1
  have hrn : r < e_n E := hJ.lt r hJ.in
  have hrs : r ∈ q_s R := hJ.in
  have hl4 := (hJ.1.2.1.1 r).1
  refine cM_of (ls := [sR (some (dO D)), sR (some (dA D r)), sU, sU, sU]) rfl (Nat.le_of_ble_eq_true rfl) rfl ?_
  refine bX2_lookAt_0 ?_
  have loop : ∀ (ts : List zT) (k : Nat) (R1 : zQ) (V1 : kV) (bc bs : Nat) (v3 v4 : sV), ts = (q_t R r).drop k → k ≤ (q_t R r).length → zJ E ((r, .inl (k, 0)) :: fs) R1 → zkp R R1 → q_r R1 r = none → crep D E R1 sp lk w0 V1 → vk D R V V1 → zlook (zout E d) r ts k R1 = Z → 10 * zU R1 ≤ bc + 10 * zU Z.2 → 100 * zU R1 ≤ bs + 100 * zU Z.2 → cWP (5 * d + e + 6) Fg h0 14 Q 2 [sR (some (dO D)), sR (some (dA D r)), sI (nI k), v3, v4] [] V1 bc bs := by
    intro ts
    induction ts with
    | nil =>
      intro k R1 V1 bc bs v3 v4 hg hk hJ1 hkp hr1 hR1 hv hz c1 c2
      have eq1 : q_t R1 r = q_t R r := hkp.2 r hrs
      have hk2 : (q_t R r).length ≤ k := by
        have := congrArg List.length hg
        simp only [List.length_nil, List.length_drop] at this
        omega
      have hz : ((none : Option zO), R1) = Z := hz
      subst hz
      have k5 := (hR1.2.2.2.1 r hrn).2.1.1
      rw [eq1] at k5
      exact bX2_lookAt_2 (hR1.kc hrn) (fun _ => bX2_lookAt_73 (hQ2 V1 k hv rfl hJ1 (by rw [eq1]; exact hk2) hkp hr1 hR1)) (fun z => absurd (by rw [k5]; exact nI_le (by omega) (by omega)) z)
    | cons t ts ih =>
      intro k R1 V1 bc bs v3 v4 hg hk hJ1 hkp hr1 hR1 hv hz c1 c2
      have eq1 : q_t R1 r = q_t R r := hkp.2 r hrs
      have es1 : q_s R1 = q_s R := hkp.1
      have hkt : (q_t R r)[k]? = some t := by
        have := congrArg (fun l => l[0]?) hg
        simpa using this.symm
      have hkl := (List.getElem?_eq_some_iff.mp hkt).1
      have hgd : (q_t R r).getD k zt0 = t := by rw [List.getD_eq_getElem?_getD, hkt]; rfl
      have hts : ts = (q_t R r).drop (k + 1) := by
        have := congrArg List.tail hg
        simpa using this
      obtain ⟨k5, k6, -, -⟩ := (hR1.2.2.2.1 r hrn).2.1
      rw [eq1] at k5 k6
      obtain ⟨y, y1, y2, y3⟩ := k6 k hkl
      refine bX2_lookAt_2 (hR1.kc hrn) (fun z => absurd z (by rw [k5]; exact nI_ge hkl (by omega))) (fun _ => ?_)
      refine bX2_lookAt_10 (bc1 := 0) (bs1 := 0) (P := fun v W => v = some (sR (some y)) ∧ W = V1) (hR1.kc hrn) (cM_le (by omega) (c_traceAt (d := 0) (n := (q_t R r).length) (hR1.kc hrn) k5 (by omega) ⟨?_, rfl⟩)) (Nat.zero_le _) (Nat.zero_le _) ?_
      · rw [zdec_nI (by omega) hkl]
        show some (sR (kB V1 306 (dA D r) k)) = _
        rw [y1]
      rintro v W ⟨rfl, rfl⟩
      refine bX2_lookAt_15 (fun _ => ?_) (fun z => by cases z)
      generalize hc : zcmp (zout E d) r t.1 0 R1 = C at *
      have hcu : zU C.2 ≤ zU R1 := by rw [← hc]; exact zU_cmp (zU_out d) r t.1 0 R1
      have hZ1 : (if C.1 = -1 then (some (zhit C.2 r), C.2) else if C.1 = -2 then (some t.2, q_tr (q_stale C.2 r k (-2)) r (zfront (q_t C.2 r) k)) else zlook (zout E d) r ts (k + 1) (q_stale C.2 r k C.1)) = Z := by
        rw [← hz, zlook, hc]
      have huZ : zU Z.2 ≤ zU C.2 := by
        rw [← hZ1]
        split
        · exact Nat.le_refl _
        · split
          · exact Nat.le_refl _
          · exact zU_look (zU_out d) r ts (k + 1) (q_stale C.2 r k C.1)
      refine bX2_lookAt_22 (bc1 := 10 * zU R1 - 10 * zU C.2) (bs1 := 100 * zU R1 - 100 * zU C.2) (P := fun v V2 => v = some (sI C.1) ∧ vk D R1 W V2 ∧ zJ E ((r, .inl (k, 0)) :: fs) C.2 ∧ zkp R1 C.2 ∧ crep D E C.2 sp lk w0 V2 ∧ (C.1 = -1 → (q_r C.2 r).isSome = true) ∧ (¬ C.1 = -1 → q_r C.2 r = none)) hR1.2.2.1.1 (cM_le (by omega) (c_firstOther (y := y) 0 hC hf hJ1 (by rw [eq1]; exact hkl) y1 (by rw [es1]; exact hd) hR1 hr1 (by rw [eq1, hgd]; exact hc) (by omega) (by omega) (fun V2 u1 u2 u3 u4 u5 u6 => ⟨rfl, u1, u2, u3, u4, u5, u6⟩))) (by omega) (by omega) ?_
      rintro v V2 ⟨rfl, u1, u2, u3, u4, u5, u6⟩
      have hv2 : vk D R V V2 := hv.tr u1 (fun x hx => by rw [es1]; exact hx)
      have hkp2 : zkp R C.2 := hkp.tr u3
      have eq2 : q_t C.2 r = q_t R r := hkp2.2 r hrs
      have es2 : q_s C.2 = q_s R := hkp2.1
      have hm2 : q_m C.2 r = none := u2.1.2.2.2.2.1 r (by rw [es2]; exact hrs)
      have st := u4.stale hE (k := k) (x := C.1) hrn
      obtain ⟨-, -, ⟨q1, q2⟩, -⟩ := (u4.2.2.2.1 r hrn).2.2
      refine bX2_lookAt_28 (u4.kc hrn) (vin k rfl (by omega) (by decide)) (fun yn => ?_) (fun yn => ?_)
      · have nh : q_r C.2 r = none := by
          cases hq : q_r C.2 r with
          | none => rfl
          | some l =>
            obtain ⟨b, b1, -⟩ := (q2 l hq).1
            rw [b1] at yn
            cases yn
        have c1n : ¬ C.1 = -1 := fun z => by have := u5 z; rw [nh] at this; cases this
        rw [if_neg c1n] at hZ1
        rw [nix k rfl (by omega)]
        refine bX2_lookAt_50 (fun z => ?_) (fun z => ?_)
        · rw [if_neg z] at hZ1
          refine bX2_lookAt_67 ?_
          rw [nI_1]
          have hJ3 : zJ E ((r, .inl (k + 1, 0)) :: fs) C.2 := ⟨zWF_fr u2.1 (.inr ⟨by show k + 1 ≤ _; rw [eq2]; omega, Nat.zero_le _⟩) (fun w z => by cases z), u2.2.top (fun k' i' z => by cases z; exact ⟨_, _, rfl, by omega⟩)⟩
          refine ih (k + 1) (q_stale C.2 r k C.1) _ _ _ _ _ hts (by omega) ⟨hJ3.1, zSt.stale hJ3.1 hJ3.2 (fun k' i' z => by cases z; omega)⟩ hkp2 nh st hv2 hZ1 ?_ ?_
          · show 10 * zU C.2 ≤ bc - 0 - (10 * zU R1 - 10 * zU C.2) + 10 * zU Z.2
            omega
          · show 100 * zU C.2 ≤ bs - 0 - (100 * zU R1 - 100 * zU C.2) + 100 * zU Z.2
            omega
        · rw [if_pos z] at hZ1
          rw [z] at st ⊢
          have eqs : q_t (q_stale C.2 r k (-2)) r = q_t R r := eq2
          refine bX2_lookAt_57 (bc1 := 0) (bs1 := 0) (P := fun v W2 => v = none ∧ vex [306] (uA V2 307 (dA D r) k (-2)) W2 ∧ (∀ x, x < e_n E → x ≠ r → kB W2 306 (dA D x) = kB (uA V2 307 (dA D r) k (-2)) 306 (dA D x)) ∧ crep D E (q_tr (q_stale C.2 r k (-2)) r (zfront (q_t C.2 r) k)) (va_up sp r none) lk w0 W2) (st.kc hrn) (cM_le (by omega) (c_front (d := 0) hE st hrn (by rw [eqs]; exact hl4) (by rw [eqs]; exact hkl) (fun W2 w1 w2 w3 => ⟨rfl, w1, w2, w3⟩))) (Nat.zero_le _) (Nat.zero_le _) ?_
          rintro v W2 ⟨rfl, w1, w2, w3⟩
          obtain ⟨y', p1, p2, p3⟩ := (u4.2.2.2.1 r hrn).2.1.2.1 k (by rw [eq2]; exact hkl)
          rw [hv2.2 r hrs, ← hv.2 r hrs, y1] at p1
          cases p1
          rw [eq2, hgd] at p3
          have cy : kC (uA V2 307 (dA D r) k (-2)) y ≠ 0 := by rw [show kC (uA V2 307 (dA D r) k (-2)) y = 6 from p2.1]; decide
          refine bX2_lookAt_62 ((w1.1 y cy).1.trans p2.1) ?_
          have er : kR W2 501 y = kR V2 501 y := (w1.2.2 501 y cy (by decide)).2.1
          obtain ⟨a, a1, a2⟩ := p3
          rw [er, a1]
          subst hZ1
          refine hQ1 a W2 t.2 (hv2.1.tr w1.2.1) (fun x hx hxr => (w2 x (hJ.lt x hx) hxr).trans (hv2.2 x hx)) rfl es2 hm2 (w1.2.1 a _ a2) ?_
          rw [hsp] at w3
          exact w3
      · have hs : (q_r C.2 r).isSome = true := by
          cases hq : q_r C.2 r with
          | none => exact absurd (q1 hq) yn
          | some l => rfl
        have c1y : C.1 = -1 := Classical.byContradiction (fun z => by rw [u6 z] at hs; cases hs)
        rw [if_pos c1y] at hZ1
        obtain ⟨l, hl⟩ := Option.isSome_iff_exists.mp hs
        rw [nix k rfl (by omega)]
        refine bX2_lookAt_45 (st.kc hrn) ?_
        obtain ⟨a, a1, a2⟩ := (q2 l hl).1
        show Q (some (sR (kR V2 309 (dA D r)))) _
        rw [a1]
        subst hZ1
        refine hQ1 a _ (zhit C.2 r) hv2.1 (fun x hx _ => hv2.2 x hx) rfl es2 hm2 (by rw [zhit_some hl]; exact a2) ?_
        have hzz : q_z C.2 r k = C.1 := by
          rw [c1y]
          exact u2.2.1 hf r k hm2 (.inr ⟨k, 0, List.mem_cons_self, Nat.le_refl _⟩)
        rw [q_stale_id hzz] at st
        exact st
  exact loop (q_t R r) 0 R V bc bs _ _ (by rw [List.drop_zero]) (Nat.zero_le _) hJ zkp.rf hr0 hR vk.rf hZ b1 b2
end
