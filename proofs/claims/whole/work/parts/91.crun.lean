/-- no rule beyond the last is made -/
theorem zHn_goes {E : zE} {f : Nat × zP} {fs : List (Nat × zP)} {R : zQ} (hW : zWF E (f :: fs) R) (h : ∀ x, e_n E ≤ x → q_m R x = none) : ∀ x, e_n E ≤ x → q_m (zgoes E (f :: fs, R)).2 x = none := by
  obtain ⟨r, ph⟩ := f
  have rn : r < e_n E := hW.2.1.2.2.2 r (by rw [hW.2.2.2.1]; exact List.mem_cons_self)
  have cl : ∀ (R2 : zQ) (o : zO), q_m R2 = q_m R → ∀ x, e_n E ≤ x → q_m (q_close R2 r o) x = none := fun R2 o e x hx => by
    show va_up (q_m R2) r (some o) x = none
    rw [va_up_ne _ _ (by omega), e]
    exact h x hx
  cases ph with
  | inl p =>
    obtain ⟨k, i⟩ := p
    by_cases hb : e_f E = true ∨ (q_t R r).length ≤ k
    · rw [zg_b hb]
      dsimp only
      split
      · exact h
      · exact h
    · cases hg : ((q_t R r).getD k zt0).1[i]? with
      | none => rw [zg_fit hb hg]; exact cl _ _ rfl
      | some g =>
        cases hz : zget E R g.1 with
        | none => rw [zg_p1 hb hg hz]; exact h
        | some o =>
          have e := (zget_eq hz).2.1
          by_cases hr : (q_r (q_look o.2) r).isSome = true
          · rw [zg_h1 hb hg hz hr]; exact cl _ _ e
          · by_cases he : o.1 = g.2
            · rw [zg_s hb hg hz hr he]; show ∀ x, e_n E ≤ x → q_m o.2 x = none; rw [e]; exact h
            · rw [zg_n hb hg hz hr he]; show ∀ x, e_n E ≤ x → q_m o.2 x = none; rw [e]; exact h
  | inr w =>
    cases hn : znext (e_k E r) (e_i E r) w with
    | none =>
      rw [zg_e hn]
      exact cl _ _ (by split <;> rfl)
    | some nm =>
      cases hz : zget E R nm with
      | none => rw [zg_p2 hn hz]; exact h
      | some o =>
        have e := (zget_eq hz).2.1
        by_cases hr : (q_r o.2 r).isSome = true
        · rw [zg_h2 hn hz hr]; exact cl _ _ e
        · rw [zg_t hn hz hr]; show ∀ x, e_n E ≤ x → q_m o.2 x = none; rw [e]; exact h
theorem zit_hn {E : zE} : ∀ (k : Nat) (fs : List (Nat × zP)) (R : zQ), zWF E fs R → (∀ x, e_n E ≤ x → q_m R x = none) → ∀ x, e_n E ≤ x → q_m (zit E k (fs, R)).2 x = none := by
  intro k
  induction k with
  | zero => intro fs R _ h2; exact h2
  | succ k ih =>
    intro fs R h1 h2
    cases fs with
    | nil => rw [zit_nil]; exact h2
    | cons f fs => exact ih _ _ (zWF_goes h1) (zHn_goes h1 h2)
/-- a rule that was hit is one -/
theorem zround_hit {E : zE} {R : zQ} {r : Nat} (hW : zWF E [] R) (hS : zSt E [] R) (hm : ∀ x, q_m R x = none) (hr : r < e_n E) : ∀ n, (q_r (zmake (zout E 24) E R r).2 n).isSome = true → n < e_n E := by
  have hs : q_s R = [] := hW.2.2.2.1
  obtain ⟨⟨k, hk⟩, m1, m2, m3⟩ := zmk hW.1 24 R r [] hW.2.1 (by rw [hs]; simp) hr (by omega)
  have hg : zget E R (r + 16) = none := by
    unfold zget
    rw [if_neg (by omega), Nat.add_sub_cancel, if_neg (by omega), hm, hs]
    simp
  have hW1 := zWF_push hW hg
  rw [Nat.add_sub_cancel] at hW1
  obtain ⟨i1, i2⟩ := zit_st k _ _ hW1 (hS.push (by rw [hs]; simp))
  have i3 := zit_hn k _ _ hW1 (fun x _ => hm x)
  rw [hk] at i1 i2 i3
  intro n hn
  apply Classical.byContradiction
  intro hge
  have := i2.2 n (i3 n (by omega)) (by rw [i1.2.2.2.1]; simp)
  rw [this] at hn
  cases hn
theorem c_fill {d : Nat} {Fg : Nat → Prop} {h0 : hp} {V : kV} {bc bs : Nat} {Q : Option sV → kV → Prop} {a : Nat} {x : Int32} (hc : kC V a = 4) (hQ : ∀ V2, vex [307] V V2 → (∀ u, u ≠ a → kA V2 307 u = kA V 307 u) → (∀ k, k < 4 → kA V2 307 a k = x) → Q none V2) : cM (d + 1) Fg h0 126 [sR (some (kr V 307 a)), sI x] V bc bs Q := by
  refine cM_of (ls := [sR (some (kr V 307 a)), sI x, sU, sU]) rfl (Nat.le_of_ble_eq_true rfl) rfl ?_
  refine bJ7_fill_53178_0 hc ?_
  have loop : ∀ (f i : Nat) (W : kV), i + f = 4 → vex [307] V W → (∀ u, u ≠ a → kA W 307 u = kA V 307 u) → (∀ k, k < i → kA W 307 a k = x) → cWP d Fg h0 126 Q 5 [sR (some (kr V 307 a)), sI x, sI (nI i), sI 4] [] W bc bs := by
    intro f
    induction f with
    | zero =>
      intro i W hi v h1 h2
      rw [show i = 4 by omega] at h2 ⊢
      exact bJ7_fill_53178_5 (fun _ => bJ7_fill_53178_20 (hQ W v h1 h2)) (fun z => absurd (show nI 4 ≤ nI 4 from nI_le (Nat.le_refl _) (by decide)) z)
    | succ f ih =>
      intro i W hi v h1 h2
      have hcW : kC W a = 4 := (v.1 a (by rw [hc]; decide)).1.trans hc
      have ek : kr W 307 a = kr V 307 a := (v.1 a (by rw [hc]; decide)).2 307
      refine bJ7_fill_53178_5 (fun z => absurd (show nI 4 ≤ nI i from z) (nI_ge (by omega) (by decide))) (fun _ => ?_)
      rw [← ek]
      refine bJ7_fill_53178_10 (vin i rfl (by omega) (by decide)) hcW ?_
      rw [nix i rfl (by omega), nI_1, ek]
      refine ih (i + 1) _ (by omega) (v.tr (vex.a 307 a _ _) (fun f hf => hf) (fun f hf => hf)) (fun u hu => ?_) (fun k hk => ?_)
      · rw [kA_uA, if_neg (fun z => hu z.2)]
        exact h1 u hu
      · rw [kA_uA, if_pos ⟨rfl, rfl⟩]
        unfold upd
        by_cases e : k = i
        · rw [if_pos e]
        · rw [if_neg e]; exact h2 k (by omega)
  exact loop 4 0 V (by omega) vex.rf (fun _ _ => rfl) (fun k hk => absurd hk (by omega))
theorem c_beginRound {d : Nat} {Fg : Nat → Prop} {h0 : hp} {V : kV} {bc bs : Nat} {Q : Option sV → kV → Prop} {a : Nat} {x : Int32} (hc : kC V a = 4) (hQ : ∀ V2, vex [307, 308, 309] V V2 → (∀ u, kC V u ≠ 0 → u ≠ a → kA V2 307 u = kA V 307 u ∧ kR V2 308 u = kR V 308 u ∧ kR V2 309 u = kR V 309 u) → kR V2 308 a = none → kR V2 309 a = none → (∀ k, k < 4 → kA V2 307 a k = if x = 0 then -1 else kA V 307 a k) → Q none V2) : cM (d + 2) Fg h0 30 [sR (some a), sI x] V bc bs Q := by
  refine cM_of (ls := [sR (some a), sI x]) rfl (Nat.le_of_ble_eq_true rfl) rfl ?_
  have v : vex [308, 309] V (uR (uR V 308 a none) 309 a none) := (vex.r 308 a none).tr (vex.r 309 a none) (vexm (by decide)) (vexm (by decide))
  have o1 : ∀ u, u ≠ a → kR (uR (uR V 308 a none) 309 a none) 308 u = kR V 308 u ∧ kR (uR (uR V 308 a none) 309 a none) 309 u = kR V 309 u := fun u hu => ⟨by
    show (if 308 = 309 ∧ u = a then none else if 308 = 308 ∧ u = a then none else kR V 308 u) = _
    rw [if_neg (fun z => hu z.2), if_neg (fun z => hu z.2)], by
    show (if 309 = 309 ∧ u = a then none else if 309 = 308 ∧ u = a then none else kR V 309 u) = _
    rw [if_neg (fun z => hu z.2), if_neg (fun z => hu z.2)]⟩
  have o2 : kR (uR (uR V 308 a none) 309 a none) 308 a = none := by
    show (if 308 = 309 ∧ a = a then none else if 308 = 308 ∧ a = a then none else kR V 308 a) = none
    rw [if_neg (fun z => absurd z.1 (by decide)), if_pos ⟨rfl, rfl⟩]
  have o3 : kR (uR (uR V 308 a none) 309 a none) 309 a = none := by
    show (if 309 = 309 ∧ a = a then none else _) = none
    rw [if_pos ⟨rfl, rfl⟩]
  refine bX3_beginRound_0 hc (fun z => ?_) (fun z => ?_)
  · refine bX3_beginRound_22 (hQ _ (v.up (vexm (by decide))) (fun u _ hu => ⟨rfl, o1 u hu⟩) o2 o3 (fun k _ => by rw [if_neg z]; rfl))
  · refine bX3_beginRound_14 (bc1 := 0) (bs1 := 0) (P := fun w V2 => w = none ∧ vex [307] (uR (uR V 308 a none) 309 a none) V2 ∧ (∀ u, u ≠ a → kA V2 307 u = kA V 307 u) ∧ ∀ k, k < 4 → kA V2 307 a k = -1) hc (c_fill (V := uR (uR V 308 a none) 309 a none) hc (fun V2 w1 w2 w3 => ⟨rfl, w1, w2, w3⟩)) (Nat.zero_le _) (Nat.zero_le _) ?_
    rintro _ V2 ⟨rfl, w1, w2, w3⟩
    refine bX3_beginRound_22 (hQ V2 (v.tr w1 (vexm (by decide)) (vexm (by decide))) ?_ ?_ ?_ (fun k hk => by rw [if_pos z]; exact w3 k hk))
    · intro u hc2 hu
      exact ⟨w2 u hu, (w1.2.2 308 u hc2 (by decide)).2.1.trans (o1 u hu).1, (w1.2.2 309 u hc2 (by decide)).2.1.trans (o1 u hu).2⟩
    · exact (w1.2.2 308 a (by rw [show kC (uR (uR V 308 a none) 309 a none) a = 4 from hc]; decide) (by decide)).2.1.trans o2
    · exact (w1.2.2 309 a (by rw [show kC (uR (uR V 308 a none) 309 a none) a = 4 from hc]; decide) (by decide)).2.1.trans o3
section
variable {D : cD} {A : zB}
theorem c_ringBehind {d : Nat} {Fg : Nat → Prop} {h0 : hp} {V : kV} {bc bs : Nat} {Q : Option sV → kV → Prop} {E : zE} {R : zQ} {a : Nat} {o : zO} (hs : cSh D E V) (hE : e_n E ≤ 24) (h3 : kC V (dO D) = 3) (h2 : kR V 200 (dO D) = some (dS D)) (ho : kO V a = some o) (hr : ∀ n l, n < e_n E → q_r R n = some l → kC V (dA D n) = 4 ∧ rB l (kI V 310 (dA D n))) (hz : o.1 = 3 → ∃ n, o.2.1 = nI n ∧ n < e_n E ∧ (q_r R n).isSome = true) (hQ : ∀ x, rB0 (zrb R o) x → Q (some (sI x)) V) : cM (d + 2) Fg h0 10 [sR (some (dO D)), sR (some a)] V bc bs Q := by
  refine cM_of (ls := [sR (some (dO D)), sR (some a), sU]) rfl (Nat.le_of_ble_eq_true rfl) rfl ?_
  refine bX2_ringBehind_0 ho (fun z => ?_) (fun z => ?_)
  · refine bX2_ringBehind_22 (bX2_ringBehind_23 (fun q => absurd rfl q) (fun _ => bX2_ringBehind_28 (bX2_ringBehind_36 (hQ 0 (fun k hk => ?_)))))
    unfold zrb
    rw [if_neg z, b_one (by omega), b_0]
    simp
  · obtain ⟨n, n1, n2, n3⟩ := hz z
    obtain ⟨l, hl⟩ := Option.isSome_iff_exists.mp n3
    obtain ⟨c1, c2⟩ := hr n l n2 hl
    refine bX2_ringBehind_8 (bc1 := 0) (bs1 := 0) (P := fun v W => v = some (sR (some (dA D n))) ∧ W = V) h2 h3 ho hs.1 (c_ruleAt hs hE ⟨by rw [n1, zdec_nI (by omega) n2], rfl⟩) (Nat.zero_le _) (Nat.zero_le _) ?_
    rintro _ W ⟨rfl, rfl⟩
    refine bX2_ringBehind_19 (bX2_ringBehind_23 (fun _ => bX2_ringBehind_32 c1 (bX2_ringBehind_36 (hQ _ (fun k hk => ?_)))) (fun q => by cases q))
    have e : zrb R o = l := by
      unfold zrb
      rw [if_pos z, n1, nI_clamp (by omega), hl]
      rfl
    rw [e]
    exact c2.2 k hk
end
