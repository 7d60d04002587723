def zNV (E : zE) (R0 R : zQ) : Prop := (∀ r, e_n E ≤ r → q_t R r = q_t R0 r ∧ ∀ k, q_z R r k = q_z R0 r k) ∧ (e_f E = true → q_w R = q_w R0 ∧ q_l R = q_l R0 ∧ q_z R = q_z R0)
theorem zNV.got {E : zE} {R0 R : zQ} {nm : Nat} {p : zO × zQ} (h : zNV E R0 R) (hz : zget E R nm = some p) : zNV E R0 p.2 := by
  unfold zget at hz
  by_cases h1 : nm < 16
  · rw [if_pos h1] at hz
    cases hz
    exact h
  · rw [if_neg h1] at hz
    by_cases h2 : e_n E ≤ nm - 16
    · rw [if_pos h2] at hz
      cases hz
      exact h
    · rw [if_neg h2] at hz
      cases h3 : q_m R (nm - 16) with
      | some o =>
        rw [h3] at hz
        cases hz
        exact h
      | none =>
        rw [h3] at hz
        by_cases h4 : nm - 16 ∈ q_s R
        · simp only [h4, if_true] at hz
          cases hz
          exact h
        · simp only [h4, if_false] at hz
          cases hz
theorem zNV_goes {E : zE} {R0 : zQ} {f : Nat × zP} {fs : List (Nat × zP)} {R : zQ} (hW : zWF E (f :: fs) R) (h : zNV E R0 R) : zNV E R0 (zgoes E (f :: fs, R)).2 := by
  obtain ⟨r, ph⟩ := f
  have rn : r < e_n E := hW.2.1.2.2.2 r (by rw [hW.2.2.2.1]; exact List.mem_cons_self)
  have tr : ∀ (R : zQ) (l : List zT), zNV E R0 R → zNV E R0 (q_tr R r l) := fun R l h => ⟨fun x hx => ⟨by show va_up (q_t R) r l x = _; rw [va_up_ne _ _ (by omega)]; exact (h.1 x hx).1, (h.1 x hx).2⟩, h.2⟩
  have st : ∀ (R : zQ) (k : Nat) (y : Int32), ¬ e_f E = true → zNV E R0 R → zNV E R0 (q_stale R r k y) := fun R k y hf h => ⟨fun x hx => ⟨(h.1 x hx).1, fun j => by show va_up (q_z R) r _ x j = _; rw [va_up_ne _ _ (by omega)]; exact (h.1 x hx).2 j⟩, fun e => absurd e hf⟩
  have lk : ∀ (R : zQ), ¬ e_f E = true → zNV E R0 R → zNV E R0 (q_look R) := fun R hf h => ⟨h.1, fun e => absurd e hf⟩
  cases ph with
  | inl p =>
    obtain ⟨k, i⟩ := p
    by_cases hb : e_f E = true ∨ (q_t R r).length ≤ k
    · rw [zg_b hb]
      simp only
      split
      · exact h
      · next hf => exact ⟨h.1, fun e => absurd e hf⟩
    · have hf : ¬ e_f E = true := fun e => hb (.inl e)
      cases hg : ((q_t R r).getD k zt0).1[i]? with
      | none =>
        rw [zg_fit hb hg]
        exact tr _ _ (st _ _ _ hf h)
      | some g =>
        cases hz : zget E R g.1 with
        | none => rw [zg_p1 hb hg hz]; exact h
        | some o =>
          have h2 := lk _ hf (h.got hz)
          by_cases hr : (q_r (q_look o.2) r).isSome = true
          · rw [zg_h1 hb hg hz hr]
            exact h2
          · by_cases he : o.1 = g.2
            · rw [zg_s hb hg hz hr he]
              exact h2
            · rw [zg_n hb hg hz hr he]
              exact st _ _ _ hf h2
  | inr w =>
    cases hn : znext (e_k E r) (e_i E r) w with
    | none =>
      rw [zg_e hn]
      show zNV E R0 (q_close _ r _)
      split
      · exact h
      · exact tr _ _ h
    | some nm =>
      cases hz : zget E R nm with
      | none => rw [zg_p2 hn hz]; exact h
      | some o =>
        by_cases hr : (q_r o.2 r).isSome = true
        · rw [zg_h2 hn hz hr]
          exact h.got hz
        · rw [zg_t hn hz hr]
          exact h.got hz
theorem zit_inv {E : zE} {R0 : zQ} : ∀ (k : Nat) (fs : List (Nat × zP)) (R : zQ), zWF E fs R → zRI fs R → zNV E R0 R → zWF E (zit E k (fs, R)).1 (zit E k (fs, R)).2 ∧ zRI (zit E k (fs, R)).1 (zit E k (fs, R)).2 ∧ zNV E R0 (zit E k (fs, R)).2 := by
  intro k
  induction k with
  | zero => intro fs R h1 h2 h3; exact ⟨h1, h2, h3⟩
  | succ k ih =>
    intro fs R h1 h2 h3
    cases fs with
    | nil => rw [zit_nil]; exact ⟨h1, h2, h3⟩
    | cons f fs =>
      have := ih _ _ (zWF_goes h1) (zRI_goes h1 h2) (zNV_goes h1 h3)
      exact this
/-- a round as a whole -/
theorem zround {E : zE} {R : zQ} {r : Nat} (hW : zWF E [] R) (hI : zRI [] R) (hm : ∀ x, q_m R x = none) (hr : r < e_n E) : zWF E [] (zmake (zout E 24) E R r).2 ∧ zRI [] (zmake (zout E 24) E R r).2 ∧ zNV E R (zmake (zout E 24) E R r).2 ∧ zok (zmake (zout E 24) E R r).1 ∧ zrg (zmake (zout E 24) E R r).2 (zmake (zout E 24) E R r).1 := by
  have hs : q_s R = [] := hW.2.2.2.1
  obtain ⟨⟨k, hk⟩, m1, m2, m3⟩ := zmk hW.1 24 R r [] hW.2.1 (by rw [hs]; simp) hr (by omega)
  have hg : zget E R (r + 16) = none := by
    unfold zget
    rw [if_neg (by omega), Nat.add_sub_cancel, if_neg (by omega), hm, hs]
    simp
  have hW1 := zWF_push hW hg
  rw [Nat.add_sub_cancel] at hW1
  have h0 : zNV E R (q_push R r) := ⟨fun x _ => ⟨rfl, fun _ => rfl⟩, fun _ => ⟨rfl, rfl, rfl⟩⟩
  obtain ⟨i1, i2, i3⟩ := zit_inv k _ _ hW1 (zRI_push hI) h0
  rw [hk] at i1 i2 i3
  exact ⟨i1, i2, i3, i1.2.1.2.1 _ _ m1, i2.1 _ _ m1⟩
/-- the beginnings of the two rounds -/
theorem zWF_make {A : zB} (hA : zBok A) : zWF (e_fr (b_e A) false) [] (zbeg (b_q A)) ∧ zRI [] (zbeg (b_q A)) := by
  obtain ⟨a1, a2, a3, a4, a5, a6, a7, a8⟩ := hA
  refine ⟨⟨a1, ⟨fun r => ⟨(a2 r).1, fun t ht => ((a2 r).2 t ht).1⟩, fun r o ho => (by cases ho), List.nodup_nil, fun r hr => (by cases hr)⟩, fun f hf => (by cases hf), rfl, fun r hr => (by cases hr), fun _ => ⟨List.nodup_nil, fun r hr => (by cases hr)⟩⟩, fun r o ho => (by cases ho), fun r t ht => ((a2 r).2 t ht).2, fun f hf => (by cases hf), fun r l hl => (by cases hl)⟩
theorem zWF_anew {A : zB} (hA : zBok A) : zWF (e_fr (b_e A) true) [] (b_q A) ∧ zRI [] (b_q A) := by
  obtain ⟨a1, a2, a3, a4, a5, a6, a7, a8⟩ := hA
  refine ⟨⟨a1, ⟨fun r => ⟨(a2 r).1, fun t ht => ((a2 r).2 t ht).1⟩, fun r o ho => (by rw [a3] at ho; cases ho), by rw [a5]; exact List.nodup_nil, fun r hr => (by rw [a5] at hr; cases hr)⟩, fun f hf => (by cases hf), a5, fun r hr => a3 r, fun hf => (by cases hf)⟩, fun r o ho => (by rw [a3] at ho; cases ho), fun r t ht => ((a2 r).2 t ht).2, fun f hf => (by cases hf), fun r l hl => (by rw [a4] at hl; cases hl)⟩
theorem zBok_find {A : zB} {k : Nat} (hA : zBok A) : zBok (b_find A k).2 := hA
theorem zBok_run {A : zB} {E : zE} {R : zQ} {w mk : Int32} {r : Nat} (hW : zWF E [] R) (hI : zRI [] R) (hm : ∀ x, q_m R x = none) (hr : r < e_n E) (hN : ∀ r, e_n E ≤ r → q_t R r = [] ∧ e_i E r = [] ∧ ∀ k, q_z R r k = -1) (hw : e_f E = true → (q_w R).length ≤ 24 ∧ ∀ x ∈ q_w R, x < 24) : zBok (o_run A E R w mk r).2 := by
  obtain ⟨h1, h2, h3, h4, h5⟩ := zround hW hI hm hr
  unfold o_run
  generalize zmake (zout E 24) E R r = p at *
  refine ⟨h1.1, fun x => ⟨(h1.2.1.1 x).1, fun t ht => ⟨(h1.2.1.1 x).2 t ht, h2.2.1 x t ht⟩⟩, fun _ => rfl, fun _ => rfl, rfl, ?_, fun x hx => ?_, fun q hq => ?_⟩
  · show (q_w p.2).length ≤ 24 ∧ ∀ x ∈ q_w p.2, x < 24
    by_cases hf : e_f E = true
    · rw [(h3.2 hf).1]
      exact hw hf
    · have hz := h1.2.2.2.2.2 (by simpa using hf)
      exact ⟨znd 24 _ hz.1 (fun x hx => (hz.2 x hx).1), fun x hx => (hz.2 x hx).1⟩
  · obtain ⟨c1, c2⟩ := h3.1 x hx
    obtain ⟨d1, d2, d3⟩ := hN x hx
    exact ⟨c1.trans d1, d2, fun k => (c2 k).trans (d3 k)⟩
  · have hq : some (p.1, zrb p.2 p.1) = some q := hq
    cases hq
    exact h4
theorem zBok_make {A : zB} {r : Int32} (hA : zBok A) : zBok (o_make A r).2 := by
  have n24 := hA.1.1
  unfold o_make
  split
  · exact hA
  · next r' hr =>
    obtain ⟨rn, rfl⟩ := zdec_some (by omega) hr
    obtain ⟨h1, h2⟩ := zWF_make hA
    refine zBok_run h1 h2 (fun _ => rfl) rn (fun x hx => ?_) (fun e => by cases e)
    obtain ⟨d1, d2, d3⟩ := hA.2.2.2.2.2.2.1 x hx
    exact ⟨d1, d2, fun _ => rfl⟩
theorem zBok_anew {A : zB} {r : Int32} (hA : zBok A) : zBok (o_anew A r).2 := by
  have n24 := hA.1.1
  unfold o_anew
  split
  · exact hA
  · next r' hr =>
    obtain ⟨rn, rfl⟩ := zdec_some (by omega) hr
    obtain ⟨h1, h2⟩ := zWF_anew hA
    exact zBok_run h1 h2 hA.2.2.1 rn (fun x hx => hA.2.2.2.2.2.2.1 x hx) (fun _ => hA.2.2.2.2.2.1)
theorem zBok_src {A : zB} {s : Nat} {o : Option (List Int32)} (hA : zBok A) (ho : ∀ l, o = some l → l.length ≤ 16) : zBok (b_src A s o) := by
  obtain ⟨⟨a1, a2, a3, a4⟩, b⟩ := hA
  refine ⟨⟨a1, fun x l hl => ?_, a3, a4⟩, b⟩
  have hl : va_up (e_s (b_e A)) s o x = some l := hl
  by_cases e : x = s
  · subst e
    rw [va_up_self] at hl
    exact ho l hl
  · rw [va_up_ne _ _ e] at hl
    exact a2 x l hl
theorem zBok_upd {A : zB} {n r : Nat} {k : Int32} {t : Bool} {ins : List Nat} (hA : zBok A) (hn : n ≤ 24) (hn2 : e_n (b_e A) ≤ n) (hr : r < n) (h6 : ins.length ≤ 6) (h40 : ∀ nm ∈ ins, nm < 40) : zBok (b_upd A n r k t ins) := by
  obtain ⟨⟨a1, a2, a3, a4⟩, b2, b3, b4, b5, b6, b7, b8⟩ := hA
  refine ⟨⟨hn, a2, fun x => ?_, fun x nm hnm => ?_⟩, fun x => ?_, b3, b4, b5, b6, fun x hx => ?_, b8⟩
  · show (va_up (e_i (b_e A)) r ins x).length ≤ 6
    by_cases e : x = r
    · rw [e, va_up_self]; exact h6
    · rw [va_up_ne _ _ e]; exact a3 x
  · have hnm : nm ∈ va_up (e_i (b_e A)) r ins x := hnm
    by_cases e : x = r
    · rw [e, va_up_self] at hnm; exact h40 nm hnm
    · rw [va_up_ne _ _ e] at hnm; exact a4 x nm hnm
  · show (va_up (q_t (b_q A)) r [] x).length ≤ 4 ∧ ∀ t ∈ va_up (q_t (b_q A)) r [] x, ztok t ∧ zrt t
    by_cases e : x = r
    · rw [e, va_up_self]; exact ⟨by simp, fun t ht => by cases ht⟩
    · rw [va_up_ne _ _ e]; exact b2 x
  · have hx : n ≤ x := hx
    obtain ⟨c1, c2, c3⟩ := b7 x (by omega)
    refine ⟨?_, ?_, c3⟩
    · show va_up (q_t (b_q A)) r [] x = []
      rw [va_up_ne _ _ (by omega)]; exact c1
    · show va_up (e_i (b_e A)) r ins x = []
      rw [va_up_ne _ _ (by omega)]; exact c2
theorem zBok_source {A : zB} {s n : Int32} (hA : zBok A) : zBok (o_source A s n).2 := by
  unfold o_source
  split
  · exact hA
  · split
    · exact hA
    · split
      · exact hA
      · next n' hn =>
        have := (zdec_some (by decide) hn).1
        exact zBok_src hA (fun l hl => by cases hl; rw [List.length_replicate]; omega)
theorem zBok_set {A : zB} {s i v : Int32} (hA : zBok A) : zBok (o_set A s i v).2 := by
  unfold o_set
  split
  · exact hA
  · split
    · exact hA
    · next l hl =>
      split
      · exact hA
      · exact zBok_src hA (fun l' hl' => by cases hl'; rw [List.length_set]; exact hA.1.2.1 _ _ hl)
theorem zBok_miss {A : zB} {s : Int32} (hA : zBok A) : zBok (o_miss A s).2 := by
  unfold o_miss
  split
  · exact hA
  · split
    · exact hA
    · exact zBok_src hA (fun l hl => by cases hl)
theorem zBok_copy {A : zB} {s a t b n : Int32} (hA : zBok A) : zBok (o_copy A s a t b n).2 := by
  unfold o_copy
  split
  · split
    · next l l2 hl hl2 =>
      split
      · split
        · next h => exact zBok_src hA (fun l' hl' => by cases hl'; rw [zput_len h.1 h.2]; exact hA.1.2.1 _ _ hl2)
        · exact hA
      · exact hA
    · exact hA
  · exact hA
theorem zBok_size {A : zB} {s : Int32} (hA : zBok A) : zBok (o_size A s).2 := by
  unfold o_size
  split
  · exact hA
  · split
    · exact hA
    · exact hA
theorem zBok_told {A : zB} {s i : Int32} (hA : zBok A) : zBok (o_told A s i).2 := by
  unfold o_told
  split
  · exact hA
  · split
    · exact hA
    · split
      · exact hA
      · exact hA
theorem zBok_rule {A : zB} {k t : Int32} (hA : zBok A) : zBok (o_rule A k t).2 := by
  unfold o_rule
  have := hA.1.1
  split
  · exact hA
  · split
    · exact hA
    · exact zBok_upd hA (by omega) (by omega) (by omega) (by simp) (fun nm h => by cases h)
theorem zBok_input {A : zB} {r nm : Int32} (hA : zBok A) : zBok (o_input A r nm).2 := by
  unfold o_input
  have n24 := hA.1.1
  split
  · next r' nm' hr hm =>
    split
    · exact hA
    · next h6 =>
      have h1 := (zdec_some (by omega) hr).1
      have h2 := (zdec_some (by decide) hm).1
      have h3 := hA.1.2.2.1 r'
      refine zBok_upd hA n24 (Nat.le_refl _) h1 (by rw [List.length_append]; simp; omega) (fun x hx => ?_)
      rcases List.mem_append.mp hx with h | h
      · exact hA.1.2.2.2 r' x h
      · rw [List.mem_singleton.mp h]; exact h2
  · exact hA
theorem zBok_turn {A : zB} {r i nm : Int32} (hA : zBok A) : zBok (o_turn A r i nm).2 := by
  unfold o_turn
  have n24 := hA.1.1
  split
  · exact hA
  · next r' hr =>
    split
    · next i' nm' hi hm =>
      split
      · exact hA
      · have h1 := (zdec_some (by omega) hr).1
        have h2 := (zdec_some (by decide) hm).1
        refine zBok_upd hA n24 (Nat.le_refl _) h1 (by rw [List.length_set]; exact hA.1.2.2.1 r') (fun x hx => ?_)
        rcases List.mem_or_eq_of_mem_set hx with h | h
        · exact hA.1.2.2.2 r' x h
        · rw [h]; exact h2
    · exact hA
theorem zBok_become {A : zB} {r k t : Int32} (hA : zBok A) : zBok (o_become A r k t).2 := by
  unfold o_become
  have n24 := hA.1.1
  split
  · exact hA
  · next r' hr =>
    split
    · exact hA
    · exact zBok_upd hA n24 (Nat.le_refl _) (zdec_some (by omega) hr).1 (hA.1.2.2.1 r') (hA.1.2.2.2 r')
theorem zBok_forget {A : zB} {r : Int32} (hA : zBok A) : zBok (o_forget A r).2 := by
  unfold o_forget
  have n24 := hA.1.1
  split
  · exact hA
  · next r' hr => exact zBok_upd hA n24 (Nat.le_refl _) (zdec_some (by omega) hr).1 (hA.1.2.2.1 r') (hA.1.2.2.2 r')
theorem zBok_of {A : zB} {r w : Int32} (hA : zBok A) : zBok (o_of A r w).2 := by
  unfold o_of
  split
  · exact hA
  · split
    · exact hA
    · exact hA
theorem zBok_trace {A : zB} {r k i : Int32} (hA : zBok A) : zBok (o_trace A r k i).2 := by
  unfold o_trace
  split
  · exact hA
  · split
    · exact hA
    · split
      · exact hA
      · split
        · exact hA
        · exact hA
theorem zBok_outcome {A : zB} {w : Int32} (hA : zBok A) : zBok (o_outcome A w).2 := by
  unfold o_outcome
  split
  · exact hA
  · exact hA
theorem zBok_part {A : zB} {i : Int32} (hA : zBok A) : zBok (o_part A i).2 := by
  unfold o_part
  split
  · exact hA
  · split
    · exact hA
    · exact hA
theorem zBok_worked {A : zB} {i : Int32} (hA : zBok A) : zBok (o_worked A i).2 := by
  unfold o_worked
  split
  · exact hA
  · exact hA
theorem zBok_stale {A : zB} {r k : Int32} (hA : zBok A) : zBok (o_stale A r k).2 := by
  unfold o_stale
  split
  · exact hA
  · exact hA
-- make and anew of the reference
theorem rest_run {A : zB} {E : zE} {R : zQ} {w mk : Int32} {r : Nat} {S S' : rS} {G G' : rG} (h : restR A S G) (h1 : rE E S' G') (h2 : ∃ sl, rT (zmake (zout E 24) E R r).2 sl G') (h3 : rW (zmake (zout E 24) E R r).2 w S' G') (h4 : rLast (zmake (zout E 24) E R r).1 (zrb (zmake (zout E 24) E R r).2 (zmake (zout E 24) E R r).1) S' G') (h5 : S' 54 = mk) (h6 : S' 59 = S 59) (h7 : ∀ k, k < 5 → G' 60 k = G 60 k) : restR (o_run A E R w mk r).2 S' G' := by
  obtain ⟨a1, a2, a3, a4, a5, a6, a7⟩ := h
  exact ⟨h1, h2, h3, h4, h5, h6.trans a6, fun k hk => (h7 k hk).trans (a7 k hk)⟩
theorem r_anew {d : Nat} {h0 : hp} {m : Nat} {ad : Nat → Nat} {S : rS} {G : rG} {Q : Option sV → rS → rG → Prop} {A : zB} {r : Int32} (hA : zBok A) (h : restR A S G) (hQ : ∀ S' G', restR (o_anew A r).2 S' G' → Q (some (sI (o_anew A r).1)) S' G') : rM (d + 7) h0 m ad 116 [sR (some m), sI r] S G Q := by
  refine rM_of (ls := [sR (some m), sI r]) rfl (Nat.le_of_ble_eq_true rfl) rfl ?_
  unfold o_anew at hQ
  have n24 := hA.1.1
  have s6 : S 6 = nI (e_n (b_e A)) := h.1.2.1
  refine bX7_anew_0 (P := fun v S' G' => v = some (sI (if (zdec r (e_n (b_e A))).isSome = true then 1 else 0)) ∧ S' = S ∧ G' = G) (rM_le (Nat.le_add_left 1 (d + 5)) (r_isRule2 (d := 0) s6 ⟨rfl, rfl, rfl⟩)) ?_
  rintro _ S1 G1 ⟨rfl, rfl, rfl⟩
  cases hr : zdec r (e_n (b_e A)) with
  | none =>
    simp only [hr] at hQ
    exact bX7_anew_5 (fun z => absurd rfl z) (fun _ => bX7_anew_8 (hQ _ _ h))
  | some r' =>
    obtain ⟨rn, rfl⟩ := zdec_some (by omega) hr
    simp only [hr] at hQ
    refine bX7_anew_5 (fun _ => ?_) (fun z => absurd z (by simp))
    obtain ⟨hW, hI⟩ := zWF_anew hA
    obtain ⟨⟨s1, s2, s3, s4⟩, a2, a3, a4, a5, a6, a7⟩ := id h
    refine bX7_anew_10 (P := fun v S' G' => v = none ∧ restR (o_run A (e_fr (b_e A) true) (b_q A) (b_w A) (b_m A) r').2 S' G') (r_goRound (w0 := b_w A) hW hI hA.2.2.1 hA.2.2.2.1 rn ⟨s1, s2, s3, rfl⟩ a2 a3 (fun S' G' b1 b2 b3 b4 b5 b6 b7 _ _ _ => ⟨rfl, rest_run h b1 b2 b3 b4 (b5.trans a5) b6 (fun k hk => by rw [b7])⟩)) ?_
    rintro _ S2 G2 ⟨rfl, h'⟩
    refine bX7_anew_20 (P := fun v S' G' => v = some (sI (o_run A (e_fr (b_e A) true) (b_q A) (b_w A) (b_m A) r').1) ∧ S' = S2 ∧ G' = G2) (rM_le (Nat.le_add_left 1 (d + 5)) (r_answer (d := 0) h'.2.2.2.1 ⟨rfl, rfl, rfl⟩)) ?_
    rintro _ S3 G3 ⟨rfl, rfl, rfl⟩
    exact bX7_anew_24 (hQ _ _ h')
theorem r_make {d : Nat} {h0 : hp} {m : Nat} {ad : Nat → Nat} {S : rS} {G : rG} {Q : Option sV → rS → rG → Prop} {A : zB} {r : Int32} (hA : zBok A) (h : restR A S G) (hQ : ∀ S' G', restR (o_make A r).2 S' G' → Q (some (sI (o_make A r).1)) S' G') : rM (d + 7) h0 m ad 115 [sR (some m), sI r] S G Q := by
  refine rM_of (ls := [sR (some m), sI r, sU]) rfl (Nat.le_of_ble_eq_true rfl) rfl ?_
  unfold o_make at hQ
  have n24 := hA.1.1
  have s6 : S 6 = nI (e_n (b_e A)) := h.1.2.1
  refine bX7_make_0 (P := fun v S' G' => v = some (sI (if (zdec r (e_n (b_e A))).isSome = true then 1 else 0)) ∧ S' = S ∧ G' = G) (rM_le (Nat.le_add_left 1 (d + 5)) (r_isRule2 (d := 0) s6 ⟨rfl, rfl, rfl⟩)) ?_
  rintro _ S1 G1 ⟨rfl, rfl, rfl⟩
  cases hr : zdec r (e_n (b_e A)) with
  | none =>
    simp only [hr] at hQ
    exact bX7_make_5 (fun z => absurd rfl z) (fun _ => bX7_make_8 (hQ _ _ h))
  | some r' =>
    obtain ⟨rn, rfl⟩ := zdec_some (by omega) hr
    simp only [hr] at hQ
    refine bX7_make_5 (fun _ => bX7_make_10 ?_) (fun z => absurd z (by simp))
    obtain ⟨hW, hI⟩ := zWF_make hA
    obtain ⟨⟨s1, s2, s3, s4⟩, ⟨sl, a2⟩, a3, a4, a5, a6, a7⟩ := id h
    generalize hS2 : va_up (va_up (va_up S1 27 0) 53 0) 52 0 = S2
    have loop : ∀ (e j : Nat) (f : Nat → Int32), j + e = 96 → (∀ i, i < j → f i = -1) → rWP (d + 6) h0 m ad 115 Q 27 [sR (some m), sI (nI r'), sI (nI j)] [] S2 (va_up G1 58 f) := by
      intro e
      induction e with
      | zero =>
        intro j f hj hf
        refine bX7_make_27 (fun _ => ?_) (fun z => absurd (by rw [show (96 : Int32) = nI 96 from rfl]; exact nI_le (by omega) (by omega)) z)
        refine bX7_make_46 (P := fun v S' G' => v = none ∧ restR (o_run A (e_fr (b_e A) false) (zbeg (b_q A)) (b_w A + nI (q_w (b_q A)).length) (b_m A + 1) r').2 S' G') (r_goRound (w0 := b_w A + nI (q_w (b_q A)).length) hW hI (fun _ => rfl) (fun _ => rfl) rn ?_ ⟨sl, ?_⟩ ?_ (fun S' G' b1 b2 b3 b4 b5 b6 b7 _ _ _ => ⟨rfl, rest_run h b1 b2 b3 b4 ?_ ?_ (fun k hk => by rw [b7]; rfl)⟩)) ?_
        · rw [← hS2]; exact ⟨s1, s2, s3, rfl⟩
        · exact rT_cg (R := zbeg (b_q A)) (G := G1) (fun k h1 h2 => va_up_ne _ _ (by omega)) a2
        · rw [← hS2]
          refine ⟨rfl, fun j hj => absurd hj (by show ¬ j < 0; omega), rfl, ?_, fun r k hr hk => ?_⟩
          · show S1 55 = _ + nI 0
            rw [a3.2.2.2.1, nI_0]
            exact (Int32.add_zero _).symm
          · rw [va_up_self, hf _ (by omega)]
            rfl
        · rw [b5, ← hS2]
          show S1 54 + 1 = _
          rw [a5]
        · rw [b6, ← hS2]
          rfl
        · rintro _ S3 G3 ⟨rfl, h'⟩
          refine bX7_make_61 (P := fun v S' G' => v = some (sI (o_run A (e_fr (b_e A) false) (zbeg (b_q A)) (b_w A + nI (q_w (b_q A)).length) (b_m A + 1) r').1) ∧ S' = S3 ∧ G' = G3) (rM_le (Nat.le_add_left 1 (d + 5)) (r_answer (d := 0) h'.2.2.2.1 ⟨rfl, rfl, rfl⟩)) ?_
          rintro _ S4 G4 ⟨rfl, rfl, rfl⟩
          exact bX7_make_65 (hQ _ _ h')
      | succ e ih =>
        intro j f hj hf
        refine bX7_make_27 (fun z => absurd z (by rw [show (96 : Int32) = nI 96 from rfl, nI_leI (by omega) (by omega)]; omega)) (fun _ => ?_)
        refine bX7_make_33 (vin j rfl (by omega) (by decide)) ?_
        rw [nix j rfl (by omega), nI_1]
        have e5 : gup (va_up G1 58 f) 58 j (-1) = va_up G1 58 (upd f j (-1)) := by
          unfold gup
          rw [va_upup, va_up_self]
        rw [e5]
        refine ih (j + 1) _ (by omega) (fun i hi => ?_)
        rw [show upd f j (-1) i = if i = j then -1 else f i from rfl]
        split
        · rfl
        · exact hf i (by omega)
    have h0 := loop 96 0 (G1 58) (by omega) (fun i hi => absurd hi (by omega))
    rw [va_upe] at h0
    exact h0
