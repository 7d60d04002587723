def zfok (E : zE) (R : zQ) (f : Nat × zP) : Prop := match f.2 with
  | .inl p => e_f E = true ∨ (p.1 ≤ (q_t R f.1).length ∧ p.2 ≤ ((q_t R f.1).getD p.1 zt0).1.length)
  | .inr w => zwok w ∧ (w.1 = [] ∨ ¬ e_i E f.1 = [])
/-- who was worked in this round is made, or is at work -/
def zwk (fs : List (Nat × zP)) (R : zQ) : Prop := (q_w R).Nodup ∧ ∀ r ∈ q_w R, r < 24 ∧ ((q_m R r).isSome = true ∨ ∃ w, (r, Sum.inr w) ∈ fs)
def zWF (E : zE) (fs : List (Nat × zP)) (R : zQ) : Prop := zEok E ∧ zQok E R ∧ (∀ f ∈ fs, zfok E R f) ∧ q_s R = fs.map (fun f => f.1) ∧ (∀ r ∈ q_s R, q_m R r = none) ∧ (e_f E = false → zwk fs R)
theorem zWF.fw {E : zE} {fs : List (Nat × zP)} {R : zQ} (h : zWF E fs R) : ∀ f ∈ fs, zfw f := by
  intro f hf
  have := h.2.2.1 f hf
  obtain ⟨r, ph⟩ := f
  cases ph with
  | inl p => trivial
  | inr w => exact ⟨this.1.1, this.1.2.2.1, fun g hg => (this.1.2.1 g hg).1.1⟩
theorem zWF.len {E : zE} {fs : List (Nat × zP)} {R : zQ} (h : zWF E fs R) : fs.length ≤ 24 := by
  have h1 := znd 24 (q_s R) h.2.1.2.2.1 (fun x hx => by
    have h1 := h.2.1.2.2.2 x hx
    have h2 := h.1.1
    omega)
  rw [h.2.2.2.1, List.length_map] at h1
  exact h1
theorem rep_got {E : zE} {fs : List (Nat × zP)} {R : zQ} {w0 : Int32} {ct : rCt} {S : rS} {G : rG} (hw : ∀ f ∈ fs, zfw f) (h : rep E fs R w0 ct S G) (a b c : Int32) (f : Nat → Int32) : rep E fs R w0 ct (va_up (va_up (va_up S 44 a) 45 b) 46 c) (va_up G 47 f) := by
  obtain ⟨a1, a2, a3, a4, a5, a6, a7⟩ := h
  refine ⟨a1, a2, a3, a4, ?_, a6, a7⟩
  refine rF_cg (G := G) fs (Nat.le_refl _) hw (fun k d _ hk => ?_) (fun k i hk _ => ?_) (fun j _ => rfl) (fun j _ => rfl) a5
  · rcases hk with h | h | h | h | h | h | h | h | h <;> subst h <;> rfl
  · rcases hk with h | h | h | h <;> subst h <;> rfl
theorem rep_got0 {E : zE} {fs : List (Nat × zP)} {R : zQ} {w0 : Int32} {ct : rCt} {S : rS} {G : rG} (h : rep E fs R w0 ct S G) (a b c : Int32) : rep E fs R w0 ct (va_up (va_up (va_up S 44 a) 45 b) 46 c) G := by
  obtain ⟨a1, a2, a3, a4, a5, a6, a7⟩ := h
  exact ⟨a1, a2, a3, a4, a5, a6, a7⟩
theorem zG_fail {S : rS} {G : rG} {a b : Int32} : zG (va_up (va_up (va_up S 44 0) 45 a) 46 b) G (a, b, []) := ⟨rfl, rfl, rfl, fun j hj => absurd hj (by simp)⟩
theorem zG_row {S : rS} {G : rG} {k b : Nat} {l : List Int32} (h : ∀ j, j < l.length → G k (b + j) = l.getD j 0) : zG (va_up (va_up (va_up S 44 (nI l.length)) 45 0) 46 0) (va_up G 47 (va_cpy (G k) (G 47) b 0 l.length)) (0, 0, l) := by
  refine ⟨rfl, rfl, rfl, fun j hj => ?_⟩
  have hj : j < l.length := hj
  show va_up G 47 (va_cpy (G k) (G 47) b 0 l.length) 47 j = l.getD j 0
  rw [va_up_self, pk_cpy_in (by omega) (by omega), Nat.sub_zero]
  exact h j hj
theorem rep_hit {E : zE} {fs : List (Nat × zP)} {R : zQ} {w0 : Int32} {ct : rCt} {S : rS} {G : rG} (hW : zWF E fs R) (h : rep E fs R w0 ct S G) {r : Nat} (hr : r ∈ q_s R) (a b c : Int32) {l : List Nat} (hl : (q_s R).takeWhile (fun x => x != r) ++ [r] = l) : rep E fs (q_hit R r).2 w0 ct (va_up (va_up (va_up S 44 a) 45 b) 46 c) (gring G l (e_n E) (zbits l)) := by
  obtain ⟨a1, a2, a3, a4, a5, a6, a7⟩ := h
  have hln : ∀ k ∈ l, k < e_n E := by
    intro k hk
    rw [← hl] at hk
    rcases List.mem_append.mp hk with hk | hk
    · exact hW.2.1.2.2.2 k ((List.takeWhile_sublist _).subset hk)
    · rw [List.mem_singleton.mp hk]
      exact hW.2.1.2.2.2 r hr
  refine ⟨a1, a2, fun x hx => ?_, a4, ?_, a6, a7⟩
  · obtain ⟨b1, b2, b3, b4, b5⟩ := a3 x hx
    have e1 : q_r (q_hit R r).2 x = if x ∈ l then some l else q_r R x := by
      show (if x ∈ (q_s R).takeWhile (fun x => x != r) ++ [r] then some ((q_s R).takeWhile (fun x => x != r) ++ [r]) else q_r R x) = _
      rw [hl]
    refine ⟨b1, b2, b3, ?_, fun l' hl' => ?_⟩
    · show (if x < e_n E ∧ x ∈ l then (1 : Int32) else G 26 x) = _
      rw [e1]
      by_cases hm : x ∈ l
      · simp [hm, hln x hm]
      · simp only [hm, and_false, if_false]
        exact b4
    · rw [e1] at hl'
      show rB l' (if x < e_n E ∧ x ∈ l then zbits l else G 23 x)
      by_cases hm : x ∈ l
      · rw [if_pos hm] at hl'
        cases hl'
        rw [if_pos ⟨hln x hm, hm⟩]
        exact zbits_rB (by rw [← hl]; simp) (fun k hk => by have := hln k hk; have := hW.1.1; omega)
      · rw [if_neg hm] at hl'
        rw [if_neg (fun z => hm z.2)]
        exact b5 l' hl'
  · refine rF_cg (G := G) fs (Nat.le_refl _) hW.fw (fun k d _ hk => ?_) (fun k i hk _ => ?_) (fun j _ => rfl) (fun j _ => rfl) a5
    · rcases hk with h | h | h | h | h | h | h | h | h <;> subst h <;> rfl
    · rcases hk with h | h | h | h <;> subst h <;> rfl
theorem rep_push {E : zE} {fs : List (Nat × zP)} {R : zQ} {w0 : Int32} {ct : rCt} {S : rS} {G : rG} (hW : zWF E fs R) (h : rep E fs R w0 ct S G) {r : Nat} : rep E ((r, .inl (0, 0)) :: fs) (q_push R r) w0 ct (va_up S 32 (nI (fs.length + 1))) (gup (gup (gup (gup (gup G 25 r 1) 28 fs.length (nI r)) 31 fs.length 0) 29 fs.length 0) 30 fs.length 0) := by
  obtain ⟨a1, a2, a3, a4, a5, a6, a7⟩ := h
  refine ⟨a1, a2, fun x hx => ?_, ⟨rfl, by show r :: q_s R = _; rw [a4.2]; rfl⟩, ⟨⟨?_, ?_, ?_, ?_⟩, ?_⟩, a6, a7⟩
  · obtain ⟨b1, b2, b3, b4, b5⟩ := a3 x hx
    refine ⟨b1, b2, ?_, b4, b5⟩
    show gup G 25 r 1 25 x = (if x ∈ r :: q_s R then 1 else 0)
    rw [gup_at]
    by_cases hxr : x = r
    · simp [hxr]
    · simp only [if_neg hxr, List.mem_cons, hxr, false_or]
      exact b3
  · show gup _ 28 fs.length (nI r) 28 fs.length = nI r
    rw [gup_at_self]
  · show gup _ 31 fs.length 0 31 fs.length = 0
    rw [gup_at_self]
  · show gup _ 29 fs.length 0 29 fs.length = nI 0
    rw [gup_at_self]
    rfl
  · show gup _ 30 fs.length 0 30 fs.length = nI 0
    rw [gup_at_self]
    rfl
  · refine rF_cg (G := G) fs (Nat.le_refl _) hW.fw (fun k d hd hk => ?_) (fun k i hk _ => ?_) (fun j _ => rfl) (fun j _ => rfl) a5
    · have hne : ¬ d = fs.length := by omega
      rcases hk with h | h | h | h | h | h | h | h | h <;> subst h
      · exact (gup_at_ne (G := gup G 25 r 1) (k := 28) (x := nI r) hne)
      · exact (gup_at_ne (G := gup (gup (gup G 25 r 1) 28 fs.length (nI r)) 31 fs.length 0) (k := 29) (x := 0) hne)
      · exact gup_at_ne hne
      · exact (gup_at_ne (G := gup (gup G 25 r 1) 28 fs.length (nI r)) (k := 31) (x := 0) hne)
      all_goals rfl
    · rcases hk with h | h | h | h <;> subst h <;> rfl
/-- get(name) -/
theorem r_get {d : Nat} {h0 : hp} {m : Nat} {ad : Nat → Nat} {S : rS} {G : rG} {Q : Option sV → rS → rG → Prop} {E : zE} {fs : List (Nat × zP)} {R : zQ} {w0 : Int32} {ct : rCt} {nm : Nat} (hW : zWF E fs R) (h : rep E fs R w0 ct S G) (hnm : nm < 40) (k1 : ∀ p, zget E R nm = some p → ∀ S' G', rep E fs p.2 w0 ct S' G' → zG S' G' p.1 → Q (some (sI 1)) S' G') (k2 : zget E R nm = none → ∀ S' G', rep E ((nm - 16, .inl (0, 0)) :: fs) (q_push R (nm - 16)) w0 ct S' G' → Q (some (sI 0)) S' G') : rM (d + 4) h0 m ad 93 [sR (some m), sI (nI nm)] S G Q := by
  refine rM_of (ls := [sR (some m), sI (nI nm), sU]) rfl (Nat.le_of_ble_eq_true rfl) rfl ?_
  have hE := hW.1
  have hn24 := hE.1
  obtain ⟨⟨s1, s2, s3, s4⟩, -, hR, ⟨d1, d2⟩, hF, -, -⟩ := id h
  by_cases h16 : nm < 16
  · refine bX7_get_0 (fun z => absurd z (by rw [show (16 : Int32) = nI 16 from rfl, nI_leI (by omega) (by omega)]; omega)) (fun _ => ?_)
    have hg : zget E R nm = some (zsrc E nm, R) := by unfold zget; rw [if_pos h16]
    obtain ⟨q1, q2⟩ := s1 nm h16
    refine bX7_get_6 (vin nm rfl h16 (by decide)) (fun z => ?_) (fun z => ?_)
    · rw [nix nm rfl (by omega)] at z
      cases hs : e_s E nm with
      | none => exact absurd (q1 hs) z
      | some l =>
        obtain ⟨q3, q4⟩ := q2 l hs
        have hl16 := hE.2.1 nm l hs
        have e1 : zsrc E nm = (0, 0, l) := by unfold zsrc; rw [hs]
        refine bX7_get_25 (vin nm rfl h16 (by decide)) (P := fun v S' G' => v = none ∧ S' = va_up (va_up (va_up S 44 (nI l.length)) 45 0) 46 0 ∧ G' = va_up G 47 (va_cpy (G 1) (G 47) (16 * nm) 0 l.length)) ?_ ?_
        · rw [nix nm rfl (by omega), q3, nc16]
          exact rM_le (Nat.le_add_left 1 (d + 2)) (r_gotRow (d := 0) (by decide) (by decide) rfl (by omega) (by show 16 * nm + l.length ≤ 256; omega) (by decide) ⟨rfl, rfl, rfl⟩)
        · rintro v S1 G1 ⟨rfl, rfl, rfl⟩
          refine bX7_get_43 (k1 _ hg _ _ (rep_got hW.fw h _ _ _ _) ?_)
          show zG _ _ (zsrc E nm)
          rw [e1]
          exact zG_row (k := 1) q4
    · rw [nix nm rfl (by omega)] at z
      cases hs : e_s E nm with
      | some l =>
        have hl16 := hE.2.1 nm l hs
        rw [(q2 l hs).1] at z
        exact absurd z (znI_ne (by omega)).1
      | none =>
        have e1 : zsrc E nm = (1, nI nm, []) := by unfold zsrc; rw [hs]
        refine bX7_get_16 (P := fun v S' G' => v = none ∧ S' = va_up (va_up (va_up S 44 0) 45 1) 46 (nI nm) ∧ G' = G) (rM_le (Nat.le_add_left 1 (d + 2)) (r_gotFailure (d := 0) ⟨rfl, rfl, rfl⟩)) ?_
        rintro v S1 G1 ⟨rfl, rfl, rfl⟩
        refine bX7_get_22 (bX7_get_43 (k1 _ hg _ _ (rep_got0 h _ _ _) ?_))
        show zG _ _ (zsrc E nm)
        rw [e1]
        exact zG_fail
  · refine bX7_get_0 (fun _ => ?_) (fun z => absurd (by rw [show (16 : Int32) = nI 16 from rfl, nI_leI (by omega) (by omega)]; omega) z)
    have e16 : nI nm - 16 = nI (nm - 16) := pk_sub (b := 16) (by omega)
    generalize hrr : nm - 16 = r at e16
    have hr24 : r < 24 := by omega
    by_cases hrn : e_n E ≤ r
    · have hg : zget E R nm = some ((4, nI nm, []), R) := by unfold zget; rw [if_neg h16, hrr, if_pos hrn]
      refine bX7_get_45 (fun z => absurd z (by rw [e16, s2, nI_ltI (by omega) (by omega)]; omega)) (fun _ => ?_)
      refine bX7_get_58 (P := fun v S' G' => v = none ∧ S' = va_up (va_up (va_up S 44 0) 45 4) 46 (nI nm) ∧ G' = G) (rM_le (Nat.le_add_left 1 (d + 2)) (r_gotFailure (d := 0) ⟨rfl, rfl, rfl⟩)) ?_
      rintro v S1 G1 ⟨rfl, rfl, rfl⟩
      exact bX7_get_64 (bX7_get_149 (k1 _ hg _ _ (rep_got0 h _ _ _) zG_fail))
    · refine bX7_get_45 (fun _ => ?_) (fun z => absurd (by rw [e16, s2, nI_ltI (by omega) (by omega)]; omega) z)
      rw [e16]
      obtain ⟨b1, b2, b3, b4, b5⟩ := hR r hr24
      cases hm : q_m R r with
      | some o =>
        have hg : zget E R nm = some (o, R) := by unfold zget; rw [if_neg h16, hrr, if_neg hrn, hm]
        obtain ⟨c1, c2, c3, c4⟩ := b2 o hm
        have ho := hW.2.1.2.1 r o hm
        refine bX7_get_67 (vin r rfl hr24 (by decide)) (fun z => absurd z (by rw [nix r rfl (by omega), b1, hm]; simp)) (fun _ => ?_)
        refine bX7_get_76 (vin r rfl hr24 (by decide)) (fun z => ?_) (fun z => ?_)
        · rw [nix r rfl (by omega), c2] at z
          refine bX7_get_104 (vin r rfl hr24 (by decide)) (P := fun v S' G' => v = none ∧ S' = va_up (va_up (va_up S 44 (nI o.2.2.length)) 45 0) 46 0 ∧ G' = va_up G 47 (va_cpy (G 22) (G 47) (24 * r) 0 o.2.2.length)) ?_ ?_
          · rw [nix r rfl (by omega), c1, nc24]
            exact rM_le (Nat.le_add_left 1 (d + 2)) (r_gotRow (d := 0) (by decide) (by decide) rfl ho.1 (by show 24 * r + o.2.2.length ≤ 576; have := ho.1; omega) (by decide) ⟨rfl, rfl, rfl⟩)
          · rintro v S1 G1 ⟨rfl, rfl, rfl⟩
            refine bX7_get_122 (bX7_get_149 (k1 _ hg _ _ (rep_got hW.fw h _ _ _ _) ?_))
            have e2 : o = (0, 0, o.2.2) := Prod.ext z (Prod.ext (ho.2.2 z) rfl)
            show zG _ _ o
            rw [e2]
            exact zG_row (k := 22) c4
        · rw [nix r rfl (by omega), c2] at z
          refine bX7_get_85 (vin r rfl hr24 (by decide)) (P := fun v S' G' => v = none ∧ S' = va_up (va_up (va_up S 44 0) 45 o.1) 46 o.2.1 ∧ G' = G) ?_ ?_
          · rw [nix r rfl (by omega), c2, c3]
            exact rM_le (Nat.le_add_left 1 (d + 2)) (r_gotFailure (d := 0) ⟨rfl, rfl, rfl⟩)
          · rintro v S1 G1 ⟨rfl, rfl, rfl⟩
            refine bX7_get_101 (bX7_get_149 (k1 _ hg _ _ (rep_got0 h _ _ _) ?_))
            have e2 : o = (o.1, o.2.1, []) := Prod.ext rfl (Prod.ext rfl (ho.2.1 z))
            show zG _ _ o
            rw [e2]
            exact zG_fail
      | none =>
        refine bX7_get_67 (vin r rfl hr24 (by decide)) (fun _ => ?_) (fun z => absurd (by rw [nix r rfl (by omega), b1, hm]; rfl) z)
        by_cases ho : r ∈ q_s R
        · have hg : zget E R nm = some (q_hit R r) := by unfold zget; rw [if_neg h16, hrr, if_neg hrn, hm]; simp only [ho, if_true]
          refine bX7_get_125 (vin r rfl hr24 (by decide)) (fun z => absurd z (by rw [nix r rfl (by omega), b3, if_pos ho]; decide)) (fun _ => ?_)
          refine bX7_get_134 (P := fun v S' G' => v = none ∧ S' = va_up (va_up (va_up S 44 0) 45 3) 46 (nI (zmin ((q_s R).takeWhile (fun x => x != r) ++ [r]))) ∧ G' = gring G ((q_s R).takeWhile (fun x => x != r) ++ [r]) (e_n E) (zbits ((q_s R).takeWhile (fun x => x != r) ++ [r]))) ?_ ?_
          · exact r_isRing (d := d) hn24 s2 d1 hF hW.len (fun f hf => hW.2.1.2.2.2 f.1 (by rw [d2]; exact List.mem_map.mpr ⟨f, hf, rfl⟩)) (by rw [← d2]; exact ho) (by rw [← d2]) ⟨rfl, rfl, rfl⟩
          · rintro v S1 G1 ⟨rfl, rfl, rfl⟩
            exact bX7_get_139 (bX7_get_149 (k1 _ hg _ _ (rep_hit hW h ho _ _ _ rfl) zG_fail))
        · have hg : zget E R nm = none := by unfold zget; rw [if_neg h16, hrr, if_neg hrn, hm]; simp only [ho, if_false]
          have hlt := zroom hE hW.2.1 (by omega : r < e_n E) ho
          rw [d2, List.length_map] at hlt
          refine bX7_get_125 (vin r rfl hr24 (by decide)) (fun _ => ?_) (fun z => absurd (by rw [nix r rfl (by omega), b3, if_neg ho]) z)
          refine bX7_get_142 (rM_le (Nat.le_add_left 1 (d + 2)) (r_opened (d := 0) (Q := fun v S' G' => v = none ∧ S' = va_up S 32 (nI (fs.length + 1)) ∧ G' = (gup (gup (gup (gup (gup G 25 r 1) 28 fs.length (nI r)) 31 fs.length 0) 29 fs.length 0) 30 fs.length 0)) hr24 d1 hlt ⟨rfl, rfl, rfl⟩)) ?_
          rintro v S1 G1 ⟨rfl, rfl, rfl⟩
          have := k2 hg _ _ (by rw [hrr]; exact rep_push hW h)
          exact bX7_get_147 this
