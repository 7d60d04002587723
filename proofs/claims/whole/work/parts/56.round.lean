theorem zit_nil {E : zE} (k : Nat) (R : zQ) : zit E k ([], R) = ([], R) := by
  induction k with
  | zero => rfl
  | succ k ih => exact ih
/-- the loop of a round -/
theorem r_while {d : Nat} {h0 : hp} {m : Nat} {ad : Nat → Nat} {S : rS} {G : rG} {Q : Option sV → rS → rG → Prop} {E : zE} {w0 : Int32} {ct : rCt} {R' : zQ} {v1 v2 : sV} : ∀ (k : Nat) (fs : List (Nat × zP)) (R : zQ) (S : rS) (G : rG), zit E k (fs, R) = ([], R') → zWF E fs R → zRI fs R → rep E fs R w0 ct S G → (∀ S' G', zWF E [] R' → zRI [] R' → rep E [] R' w0 ct S' G' → rWP (d + 5) h0 m ad 98 Q 66 [sR (some m), v1, v2] [] S' G') → rWP (d + 5) h0 m ad 98 Q 52 [sR (some m), v1, v2] [] S G := by
  intro k
  induction k with
  | zero =>
    intro fs R S G hz hW hI h hQ
    cases hz
    refine bX7_goRound_52 (fun _ => hQ _ _ hW hI h) (fun z => absurd (by rw [h.2.2.2.1.1]; decide) z)
  | succ k ih =>
    intro fs R S G hz hW hI h hQ
    cases fs with
    | nil =>
      rw [zit_nil] at hz
      cases hz
      exact bX7_goRound_52 (fun _ => hQ _ _ hW hI h) (fun z => absurd (by rw [h.2.2.2.1.1]; decide) z)
    | cons f fs =>
      have hl := hW.len
      simp only [List.length_cons] at hl
      refine bX7_goRound_52 (fun z => absurd z (by rw [h.2.2.2.1.1, show (0 : Int32) = nI 0 from rfl, List.length_cons, nI_leI (by omega) (by omega)]; omega)) (fun _ => ?_)
      refine bX7_goRound_59 (P := fun v S' G' => v = none ∧ rep E (zgoes E (f :: fs, R)).1 (zgoes E (f :: fs, R)).2 w0 ct S' G') (r_goes hW h (fun S' G' h' => ⟨rfl, h'⟩)) ?_
      rintro v S1 G1 ⟨rfl, h'⟩
      exact bX7_goRound_63 (ih _ _ _ _ hz (zWF_goes hW) (zRI_goes hW hI) h' hQ)
/-- bits of a ring, an empty one too -/
def rB0 (l : List Nat) (x : Int32) : Prop := ∀ k, k < 24 → ((x >>> (nI k &&& 31)) &&& 1 = 0 ↔ k ∉ l)
/-- the ring behind an outcome -/
def zrb (R : zQ) (o : zO) : List Nat := if o.1 = 3 then (q_r R (o.2.1.toNatClampNeg)).getD [] else []
/-- the latest outcome and its ring -/
def rLast (o : zO) (l : List Nat) (S : rS) (G : rG) : Prop := S 48 = nI o.2.2.length ∧ S 49 = o.1 ∧ S 50 = o.2.1 ∧ (∀ j, j < o.2.2.length → G 56 j = o.2.2.getD j 0) ∧ rB0 l (S 51)
def gclr (G : rG) (n : Nat) : rG := fun k j => if (k = 23 ∨ k = 24 ∨ k = 25 ∨ k = 26) ∧ j < n then 0 else G k j
theorem gclr_0 (G : rG) : gclr G 0 = G := by
  funext k j
  simp [gclr]
theorem gclr_s (G : rG) (n : Nat) : gup (gup (gup (gup (gclr G n) 24 n 0) 25 n 0) 26 n 0) 23 n 0 = gclr G (n + 1) := by
  funext k j
  have e : j < n + 1 ↔ (j = n ∨ j < n) := by omega
  by_cases h1 : k = 23
  · subst h1; rw [gup_at]; simp only [gclr, e]; by_cases h : j = n <;> simp [h, gup, va_up, gclr]
  · rw [gup_ne h1]
    by_cases h2 : k = 26
    · subst h2; rw [gup_at]; simp only [gclr, e]; by_cases h : j = n <;> simp [h, gup, va_up, gclr]
    · rw [gup_ne h2]
      by_cases h3 : k = 25
      · subst h3; rw [gup_at]; simp only [gclr, e]; by_cases h : j = n <;> simp [h, gup, va_up, gclr]
      · rw [gup_ne h3]
        by_cases h4 : k = 24
        · subst h4; rw [gup_at]; simp only [gclr, e]; by_cases h : j = n <;> simp [h]
        · rw [gup_ne h4]
          simp [gclr, h1, h2, h3, h4]
theorem r_goRound {d : Nat} {h0 : hp} {m : Nat} {ad : Nat → Nat} {S : rS} {G : rG} {Q : Option sV → rS → rG → Prop} {E : zE} {R : zQ} {w0 : Int32} {r : Nat} (hW : zWF E [] R) (hI : zRI [] R) (hm : ∀ x, q_m R x = none) (hq : ∀ x, q_r R x = none) (hr : r < e_n E) (h1 : rE E S G) (h2 : ∃ sl, rT R sl G) (h6 : rW R w0 S G) (hQ : ∀ S' G', rE E S' G' → (∃ sl, rT (zmake (zout E 24) E R r).2 sl G') → rW (zmake (zout E 24) E R r).2 w0 S' G' → rLast (zmake (zout E 24) E R r).1 (zrb (zmake (zout E 24) E R r).2 (zmake (zout E 24) E R r).1) S' G' → S' 54 = S 54 → S' 59 = S 59 → G' 60 = G 60 → zWF E [] (zmake (zout E 24) E R r).2 → zRI [] (zmake (zout E 24) E R r).2 → zok (zmake (zout E 24) E R r).1 → Q none S' G') : rM (d + 6) h0 m ad 98 [sR (some m), sI (nI r)] S G Q := by
  refine rM_of (ls := [sR (some m), sI (nI r), sU]) rfl (Nat.le_of_ble_eq_true rfl) rfl ?_
  have hE := hW.1
  have hn24 := hE.1
  have r24 : r < 24 := by omega
  have hs : q_s R = [] := hW.2.2.2.1
  -- after the clearing
  have back : rWP (d + 5) h0 m ad 98 Q 42 [sR (some m), sI (nI r), sI (nI 24)] [] S (gclr G 24) := by
    have hrep0 : rep E [] R w0 (rC S G) (va_up S 32 0) (gclr G 24) := by
      refine ⟨?_, ?_, ?_, ⟨rfl, hs⟩, trivial, ?_, rfl⟩
      · refine rE_cg (G := G) (S := va_up S 32 0) (fun k hk => ?_) h1
        funext j; simp only [gclr]; rw [if_neg (by omega)]
      · obtain ⟨sl, h2⟩ := h2
        refine ⟨sl, rT_cg (G := G) (fun k h1 h2 => ?_) h2⟩
        funext j; simp only [gclr]; rw [if_neg (by omega)]
      · intro x hx
        refine ⟨?_, fun o ho => (by rw [hm] at ho; cases ho), ?_, ?_, fun l hl => (by rw [hq] at hl; cases hl)⟩
        · rw [hm]; simp [gclr, hx]
        · rw [hs]; simp [gclr, hx]
        · rw [hq]; simp [gclr, hx]
      · exact rW_cg (G := G) (S := va_up S 32 0) rfl rfl h6
    obtain ⟨⟨k, hk⟩, m1, m2, m3⟩ := zmk hE 24 R r [] hW.2.1 (by rw [hs]; simp) hr (by omega)
    generalize hRo : zmake (zout E 24) E R r = Ro at *
    have hg : zget E R (r + 16) = none := by
      unfold zget
      rw [if_neg (by omega), Nat.add_sub_cancel, if_neg (by omega), hm, hs]
      simp
    have hW1 := zWF_push hW hg
    rw [Nat.add_sub_cancel] at hW1
    refine bX7_goRound_42 (P := fun v S' G' => v = none ∧ rep E [(r, .inl (0, 0))] (q_push R r) w0 (rC S G) S' G') (rM_le (Nat.le_add_left 1 (d + 4)) (r_opened (d := 0) (n := 0) r24 rfl (by omega) ⟨rfl, rep_push hW hrep0⟩)) ?_
    rintro v S1 G1 ⟨rfl, hrep1⟩
    refine r_while (S := S) (G := G) k _ _ _ _ hk hW1 (zRI_push hI) hrep1 (fun S2 G2 hW2 hI2 h' => ?_)
    obtain ⟨a1, a2, a3, a4, a5, a6, a7⟩ := h'
    obtain ⟨b1, b2, b3, b4, b5⟩ := a3 r r24
    obtain ⟨c1, c2, c3, c4⟩ := b2 _ m1
    have ho := hW2.2.1.2.1 _ _ m1
    have hrg := hI2.1 _ _ m1
    have k24 := ho.1
    have cr : (nI r).toNatClampNeg = r := nix r rfl (by omega)
    -- the row of the latest
    have fin : ∀ (v2 : sV) (y : Int32), rB0 (zrb Ro.2 Ro.1) y → rWP (d + 5) h0 m ad 98 Q 118 [sR (some m), sI (nI r), v2] [sI y, sR (some m)] (va_up (va_up (va_up S2 48 (nI Ro.1.2.2.length)) 49 Ro.1.1) 50 Ro.1.2.1) G2 := fun v2 y hy => by
      refine bX7_goRound_118 ?_
      generalize hS3 : va_up (va_up (va_up (va_up S2 48 (nI Ro.1.2.2.length)) 49 Ro.1.1) 50 Ro.1.2.1) 51 y = S3
      have loop : ∀ (e j : Nat), j + e = Ro.1.2.2.length → rWP (d + 5) h0 m ad 98 Q 123 [sR (some m), sI (nI r), sI (nI j)] [] S3 (va_up G2 56 (va_cpy (G2 22) (G2 56) (24 * r) 0 j)) := by
        intro e
        induction e with
        | zero =>
          intro j hj
          have hj : j = Ro.1.2.2.length := by omega
          subst hj
          refine bX7_goRound_123 (fun _ => bX7_goRound_154 ?_) (fun z => absurd (by rw [← hS3]; exact nI_le (by omega) (by omega)) z)
          have r54 : S2 54 = S 54 := (congrArg (fun c : rCt => c.2.2.2.2.1) a7 :)
          have r59 : S2 59 = S 59 := (congrArg (fun c : rCt => c.2.2.2.2.2.1) a7 :)
          have r60 : G2 60 = G 60 := (congrArg (fun c : rCt => c.2.2.2.2.2.2.2) a7 :)
          refine hQ _ _ ?_ ?_ ?_ ?_ ?_ ?_ ?_ hW2 hI2 ho
          · rw [← hS3]; exact rE_cg (G := G2) (S := S2) (fun k hk => va_up_ne _ _ (by omega)) a1
          · obtain ⟨sl, a2⟩ := a2
            exact ⟨sl, rT_cg (G := G2) (fun k h1 h2 => va_up_ne _ _ (by omega)) a2⟩
          · rw [← hS3]; exact rW_cg (G := G2) (S := S2) rfl rfl a6
          · refine ⟨by rw [← hS3]; rfl, by rw [← hS3]; rfl, by rw [← hS3]; rfl, fun j hj => ?_, by rw [← hS3]; exact hy⟩
            rw [va_up_self, pk_cpy_in (by omega) (by omega), Nat.sub_zero]
            exact c4 j hj
          · rw [← hS3]; exact r54
          · rw [← hS3]; exact r59
          · exact r60
        | succ e ih =>
          intro j hj
          refine bX7_goRound_123 (fun z => absurd z (by rw [← hS3]; show ¬ nI Ro.1.2.2.length ≤ nI j; rw [nI_leI (by omega) (by omega)]; omega)) (fun _ => ?_)
          refine bX7_goRound_131 (vin (24 * r + j) (by simp only [nc4, nc6, nc16, nc24, nc25, nc4r, nI_add, nI_1, nI_0]) (by omega) (by decide)) (vin j rfl (by omega) (by decide)) ?_
          rw [nix (x := (24 : Int32) * nI r + nI j) (24 * r + j) (by simp only [nc4, nc6, nc16, nc24, nc25, nc4r, nI_add, nI_1, nI_0]) (by omega), nix j rfl (by omega), nI_1]
          have e5 : gup (va_up G2 56 (va_cpy (G2 22) (G2 56) (24 * r) 0 j)) 56 j (va_up G2 56 (va_cpy (G2 22) (G2 56) (24 * r) 0 j) 22 (24 * r + j)) = va_up G2 56 (va_cpy (G2 22) (G2 56) (24 * r) 0 (j + 1)) := by
            unfold gup
            rw [va_upup, va_up_self, ← va_cpy_s]
            rfl
          rw [e5]
          exact ih (j + 1) (by omega)
      have h0 := loop Ro.1.2.2.length 0 (by omega)
      rw [va_cpy_0, va_upe] at h0
      exact h0
    refine bX7_goRound_66 (vin r rfl r24 (by decide)) (fun z => ?_) (fun z => ?_)
    · rw [cr, c1, c2, c3] at *
      refine bX7_goRound_117 (fin _ 0 ?_)
      intro k hk
      rw [show zrb Ro.2 Ro.1 = [] by unfold zrb; rw [if_neg z]]
      exact ⟨fun _ => by simp, fun _ => by rw [b_one (by omega)]; exact b_0 k⟩
    · rw [cr, c2] at z
      rw [cr, c1, c2, c3]
      obtain ⟨n, n1, n2, n3⟩ := hrg z
      obtain ⟨l, hl⟩ := Option.isSome_iff_exists.mp n3
      have cn : (Ro.1.2.1).toNatClampNeg = n := nix n n1 (by omega)
      refine bX7_goRound_105 (vin n n1 n2 (by decide)) ?_
      show rWP (d + 5) h0 m ad 98 Q 118 _ [sI (G2 23 (Ro.1.2.1).toNatClampNeg), _] _ _
      rw [cn]
      refine fin _ _ ?_
      have e1 : zrb Ro.2 Ro.1 = l := by unfold zrb; rw [if_pos z, cn, hl]; rfl
      rw [e1]
      exact ((a3 n n2).2.2.2.2 l hl).2
  have clr : ∀ (e j : Nat), j + e = 24 → rWP (d + 5) h0 m ad 98 Q 2 [sR (some m), sI (nI r), sI (nI j)] [] S (gclr G j) := by
    intro e
    induction e with
    | zero =>
      intro j hj
      have hj : j = 24 := by omega
      subst hj
      exact bX7_goRound_2 (fun _ => back) (fun z => absurd (by decide) z)
    | succ e ih =>
      intro j hj
      refine bX7_goRound_2 (fun z => absurd z (by rw [show (24 : Int32) = nI 24 from rfl, nI_leI (by omega) (by omega)]; omega)) (fun _ => ?_)
      refine bX7_goRound_8 (vin j rfl (by omega) (by decide)) ?_
      rw [nix j rfl (by omega), nI_1, gclr_s]
      exact ih (j + 1) (by omega)
  have h0 := clr 24 0 (by omega)
  rw [gclr_0] at h0
  exact bX7_goRound_0 h0
