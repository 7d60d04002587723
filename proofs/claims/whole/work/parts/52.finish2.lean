theorem r_finishes {d : Nat} {h0 : hp} {m : Nat} {ad : Nat → Nat} {S : rS} {G : rG} {Q : Option sV → rS → rG → Prop} {E : zE} {fs : List (Nat × zP)} {R : zQ} {w0 : Int32} {ct : rCt} {r : Nat} {w : zW} (hW : zWF E ((r, .inr w) :: fs) R) (h : rep E ((r, .inr w) :: fs) R w0 ct S G) (hQ : ∀ S' G', rep E fs (q_close (if e_f E = true then R else q_tr R r (zkeep (q_t R r) (w.1, zend (e_k E r) w))) r (zend (e_k E r) w)) w0 ct S' G' → Q none S' G') : rM (d + 3) h0 m ad 112 [sR (some m), sI (nI fs.length)] S G Q := by
  refine rM_of (ls := [sR (some m), sI (nI fs.length), sU, sU]) rfl (Nat.le_of_ble_eq_true rfl) rfl ?_
  obtain ⟨r24, -, -, l24, ⟨f1, u1, u2, u3, u4, u5, u6, u7, u8, u9⟩, hF, hS32⟩ := rep_top hW h
  obtain ⟨a1, ⟨sl, a2⟩, a3, a4, a5, a6, a7⟩ := id h
  obtain ⟨k2, k5, k3, k4⟩ := a1.2.2.1 r r24
  have f1 : G 28 fs.length = nI r := f1
  have hw := (hW.2.2.1 _ List.mem_cons_self : zwok w ∧ _)
  have row24 := hw.1.2.2.1
  have ek0 := hw.1.2.2.2
  have ho := zend_ok (k := e_k E r) hw.1
  generalize hoe : zend (e_k E r) w = o at ho hQ
  have on := ho.1
  -- behind the copy
  have go150 : ∀ (G4 : rG) (v3 : sV), (∀ k, k < 19 ∨ (22 < k ∧ ¬ k = 39) → G4 k = G k) → (∀ x, ¬ x = r → G4 19 x = G 19 x ∧ G4 20 x = G 20 x ∧ G4 21 x = G 21 x ∧ ∀ j, j < 24 → G4 22 (24 * x + j) = G 22 (24 * x + j)) → (∀ j, j < 24 * fs.length → G4 39 j = G 39 j) → zA G4 19 20 21 22 r o → rWP (d + 2) h0 m ad 112 Q 150 [sR (some m), sI (nI fs.length), sI (nI r), v3] [] S G4 := by
    intro G4 v3 g1 g2 g3 g4
    -- closing
    have close : ∀ (G5 : rG) (R5 : zQ), (∀ k, k < 7 ∨ 18 < k → G5 k = G4 k) → (∃ sl, rT R5 sl G5) → q_m R5 = q_m R → q_r R5 = q_r R → q_s R5 = q_s R → (∀ S G, rW R w0 S G → rW R5 w0 S G) → R5 = (if e_f E = true then R else q_tr R r (zkeep (q_t R r) (w.1, o))) → rWP (d + 2) h0 m ad 112 Q 162 [sR (some m), sI (nI fs.length), sI (nI r), v3] [] S G5 := by
      intro G5 R5 h5 hT5 hm hrr hss hww hR5
      have e5 : ∀ k, k < 7 ∨ (22 < k ∧ ¬ k = 39) → G5 k = G k := fun k hk => (h5 k (by omega)).trans (g1 k (by omega))
      refine bX7_finishes_162 (P := fun v S' G' => v = none ∧ S' = va_up S 32 (nI fs.length) ∧ G' = gup (gup G5 24 r 1) 25 r 0) (rM_le (Nat.le_add_left 1 (d + 1)) (r_closed (d := 0) r24 hS32 ⟨rfl, rfl, rfl⟩)) ?_
      rintro v S1 G6 ⟨rfl, rfl, rfl⟩
      refine bX7_finishes_167 (hQ _ _ ?_)
      rw [← hR5]
      refine rep_close (by rw [hss]; exact a4.2) (by rw [hss]; exact hW.2.1.2.2.1) hW.tail_fw (rE_cg (fun k hk => e5 k (by omega)) a1) hT5 (fun x hx => ?_) ?_ (hww _ _ (rW_cg (e5 57 (by omega)) (e5 58 (by omega)) a6)) (rC_cg (e5 56 (by omega)) (e5 60 (by omega)) a7) (zA_ne (by rw [h5 19 (by omega)]) (by rw [h5 20 (by omega)]) (by rw [h5 21 (by omega)]) (fun j _ => by rw [h5 22 (by omega)]) g4)
      · obtain ⟨b1, b2, b3, b4, b5⟩ := a3 x hx
        rw [hm, hrr, hss, e5 24 (by omega), e5 25 (by omega), e5 26 (by omega), e5 23 (by omega)]
        refine ⟨fun hxr => ⟨b1, fun q hq => ?_⟩, b3, b4, b5⟩
        obtain ⟨y1, y2, y3, y4⟩ := g2 x hxr
        have hq24 := (hW.2.1.2.1 x q hq).1
        exact zA_ne (by rw [h5 19 (by omega)]; exact y1) (by rw [h5 20 (by omega)]; exact y2) (by rw [h5 21 (by omega)]; exact y3) (fun j hj => by rw [h5 22 (by omega)]; exact y4 j (by omega)) (b2 q hq)
      · refine rF_cg (G := G) fs (Nat.le_refl _) hW.tail_fw (fun k d _ hk => by rw [e5 k (by omega)]) (fun k i hk _ => by rw [e5 k (by omega)]) (fun j hj => by rw [h5 39 (by omega)]; exact g3 j hj) (fun j _ => by rw [e5 37 (by omega)]) hF
    have hT4 : rT R sl G4 := rT_cg (fun k h1 h2 => g1 k (by omega)) a2
    refine bX7_finishes_150 (fun z => ?_) (fun z => ?_)
    · have hf : e_f E = true := Classical.byContradiction fun hh => z (by rw [a1.2.2.2, if_neg hh])
      exact close G4 R (fun _ _ => rfl) ⟨sl, hT4⟩ rfl rfl rfl (fun _ _ h => h) (by rw [if_pos hf])
    · have hf : ¬ e_f E = true := fun hh => by rw [a1.2.2.2, if_pos hh] at z; exact absurd z (by decide)
      refine bX7_finishes_157 (P := fun v S' G' => v = none ∧ S' = S ∧ (∀ k, k < 7 ∨ 18 < k → G' k = G4 k) ∧ ∃ sl', rT (q_tr R r (zkeep (q_t R r) (w.1, o))) sl' G') (r_keeps (d := d) (w := w) r24 l24 (by rw [g1 28 (by omega)]; exact f1) (by rw [g1 30 (by omega)]; exact u2) (fun i hi => ?_) hw.1 hT4 hW.2.1.1 ho g4 (fun G' y1 y2 => ⟨rfl, rfl, y1, y2⟩)) ?_
      · have := u3 i hi
        unfold zA at this ⊢
        rw [g1 33 (by omega), g1 34 (by omega), g1 35 (by omega), g1 36 (by omega), g1 37 (by omega)]
        exact this
      · rintro v S1 G5 ⟨rfl, rfl, y1, y2⟩
        exact close G5 _ y1 y2 rfl rfl rfl (fun _ _ h => h) (by rw [if_neg hf])
  -- the copy
  have go110 : ∀ (G3 : rG) (v3 : sV), (∀ k, k < 19 ∨ (21 < k ∧ ¬ k = 39) → G3 k = G k) → (∀ x, ¬ x = r → G3 19 x = G 19 x ∧ G3 20 x = G 20 x ∧ G3 21 x = G 21 x) → (∀ j, j < 24 * fs.length → G3 39 j = G 39 j) → G3 19 r = nI o.2.2.length → G3 20 r = o.1 → G3 21 r = o.2.1 → (∀ j, j < o.2.2.length → G3 39 (24 * fs.length + j) = o.2.2.getD j 0) → rWP (d + 2) h0 m ad 112 Q 110 [sR (some m), sI (nI fs.length), sI (nI r), v3] [] S G3 := by
    intro G3 v3 g1 g2 g3 g4 g5 g6 g7
    refine bX7_finishes_110 ?_
    have key : ∀ e j : Nat, j + e = o.2.2.length → rWP (d + 2) h0 m ad 112 Q 112 [sR (some m), sI (nI fs.length), sI (nI r), sI (nI j)] [] S (va_up G3 22 (va_cpy (G3 39) (G3 22) (24 * fs.length) (24 * r) j)) := by
      intro e
      induction e with
      | zero =>
        intro j hj
        refine bX7_finishes_112 (vin r rfl r24 (by decide)) (fun _ => ?_) (fun z => absurd (by rw [nix r rfl (by omega)]; show G3 19 r ≤ _; rw [g4]; exact nI_le (by omega) (by omega)) z)
        rw [show j = o.2.2.length by omega]
        refine go150 _ _ (fun k hk => by rw [va_up_ne _ _ (by omega)]; exact g1 k (by omega)) (fun x hx => ⟨(g2 x hx).1, (g2 x hx).2.1, (g2 x hx).2.2, fun i hi => ?_⟩) g3 ⟨g4, g5, g6, fun i hi => ?_⟩
        · rw [va_up_self, pk_cpy_out (by omega), g1 22 (by omega)]
        · rw [va_up_self, pk_cpy_in (by omega) (by omega), show 24 * r + i - 24 * r = i by omega]
          exact g7 i hi
      | succ e ih =>
        intro j hj
        refine bX7_finishes_112 (vin r rfl r24 (by decide)) (fun z => absurd z (by rw [nix r rfl (by omega)]; show ¬ G3 19 r ≤ _; rw [g4, nI_leI (by omega) (by omega)]; omega)) (fun _ => ?_)
        refine bX7_finishes_122 (vin (24 * fs.length + j) (by simp only [nc4, nc6, nc16, nc24, nc25, nc4r, nI_add, nI_1, nI_0]) (by omega) (by decide)) (vin (24 * r + j) (by simp only [nc4, nc6, nc16, nc24, nc25, nc4r, nI_add, nI_1, nI_0]) (by omega) (by decide)) ?_
        rw [nix (x := (24 : Int32) * nI fs.length + nI j) (24 * fs.length + j) (by simp only [nc4, nc6, nc16, nc24, nc25, nc4r, nI_add, nI_1, nI_0]) (by omega), nix (x := (24 : Int32) * nI r + nI j) (24 * r + j) (by simp only [nc4, nc6, nc16, nc24, nc25, nc4r, nI_add, nI_1, nI_0]) (by omega), nI_1]
        have e5 : gup (va_up G3 22 (va_cpy (G3 39) (G3 22) (24 * fs.length) (24 * r) j)) 22 (24 * r + j) (va_up G3 22 (va_cpy (G3 39) (G3 22) (24 * fs.length) (24 * r) j) 39 (24 * fs.length + j)) = va_up G3 22 (va_cpy (G3 39) (G3 22) (24 * fs.length) (24 * r) (j + 1)) := by
          unfold gup
          rw [va_upup, va_up_self, ← va_cpy_sg]
          rfl
        rw [e5]
        exact ih (j + 1) (by omega)
    have h0 := key o.2.2.length 0 (by omega)
    rw [va_cpy_0g, va_upe] at h0
    exact h0
  -- the length has come
  generalize hG1 : gup (gup G 20 r w.2.2.2.2.1) 21 r w.2.2.2.2.2 = G1
  have go69 : ∀ (v3 : sV), rWP (d + 2) h0 m ad 112 Q 69 [sR (some m), sI (nI fs.length), sI (nI r), v3] [sI (nI o.2.2.length), sI (nI r), sR (some (ad 19))] S G1 := by
    intro v3
    have b1 : ∀ k, k < 19 ∨ (21 < k ∧ ¬ k = 39) → gup G1 19 r (nI o.2.2.length) k = G k := by
      intro k hk
      rw [gup_ne (by omega), ← hG1, gup_ne (by omega), gup_ne (by omega)]
    have b2 : ∀ x, ¬ x = r → gup G1 19 r (nI o.2.2.length) 19 x = G 19 x ∧ gup G1 19 r (nI o.2.2.length) 20 x = G 20 x ∧ gup G1 19 r (nI o.2.2.length) 21 x = G 21 x := by
      intro x hx
      rw [← hG1]
      refine ⟨by simp [gup, va_up, upd, hx], by simp [gup, va_up, upd, hx], by simp [gup, va_up, upd, hx]⟩
    have b39 : gup G1 19 r (nI o.2.2.length) 39 = G 39 := by rw [← hG1]; rfl
    have b19 : gup G1 19 r (nI o.2.2.length) 19 r = nI o.2.2.length := gup_at_self
    have b20 : gup G1 19 r (nI o.2.2.length) 20 r = w.2.2.2.2.1 := by rw [← hG1]; simp [gup, va_up, upd]
    have b21 : gup G1 19 r (nI o.2.2.length) 21 r = w.2.2.2.2.2 := by rw [← hG1]; simp [gup, va_up, upd]
    -- what comes, by the kinds
    refine bX7_finishes_69 (vin r rfl r24 (by decide)) (vin r rfl r24 (by decide)) (fun z => ?_) (fun z => ?_)
    · rw [nix r rfl (by omega)] at z ⊢
      have z : ¬ G1 2 r = 2 := z
      have e2 : G1 2 r = e_k E r := by rw [← hG1]; exact k2
      rw [e2] at z
      generalize hG2 : gup G1 19 r (nI o.2.2.length) = G2 at *
      have c2 : G2 2 r = e_k E r := by rw [b1 2 (by omega)]; exact k2
      have c38 : G2 38 fs.length = nI w.2.1.length := by rw [b1 38 (by omega)]; exact u4
      have okd : o.1 = w.2.2.2.2.1 ∧ o.2.1 = w.2.2.2.2.2 ∧ (¬ w.2.2.2.2.1 = 0 → o.2.2 = []) ∧ (w.2.2.2.2.1 = 0 → o.2.2 = if e_k E r = 3 then zsort w.2.1 else w.2.1) := by
        rw [← hoe]
        unfold zend
        by_cases he : w.2.2.2.2.1 = 0
        · rw [if_neg (by simpa using he), if_neg z]
          by_cases h3 : e_k E r = 3
          · simp [h3, he, ek0 he]
          · simp [h3, he, ek0 he]
        · simp [he]
      refine bX7_finishes_95 (vin r rfl r24 (by decide)) (fun y => ?_) (fun y => ?_)
      · rw [nix r rfl (by omega), c2] at y
        refine go110 G2 _ b1 b2 (fun j _ => by rw [b39]) b19 (by rw [b20, okd.1]) (by rw [b21, okd.2.1]) (fun j hj => ?_)
        rw [b39]
        by_cases he : w.2.2.2.2.1 = 0
        · have := okd.2.2.2 he
          rw [if_neg y] at this
          rw [this] at hj ⊢
          exact u5 j hj
        · rw [okd.2.2.1 he] at hj
          exact absurd hj (by simp)
      · rw [nix r rfl (by omega), c2] at y
        refine bX7_finishes_105 (P := fun v S' G' => v = none ∧ S' = S ∧ ∃ f, G' = va_up G2 39 f ∧ (∀ j, j < 24 * fs.length → f j = G2 39 j) ∧ ∀ j, j < w.2.1.length → f (24 * fs.length + j) = (zsort w.2.1).getD j 0) (rM_le (Nat.le_add_left 1 (d + 1)) (r_sorts (d := 0) l24 row24 c38 (fun j hj => by rw [b39]; exact u5 j hj) (fun f y1 y2 => ⟨rfl, rfl, f, rfl, y1, y2⟩))) ?_
        rintro v S1 G3 ⟨rfl, rfl, f, rfl, y1, y2⟩
        refine go110 _ _ (fun k hk => by rw [va_up_ne _ _ (by omega)]; exact b1 k hk) (fun x hx => b2 x hx) (fun j hj => by rw [va_up_self, y1 j hj, b39]) b19 (by rw [va_up_ne _ _ (by decide), b20, okd.1]) (by rw [va_up_ne _ _ (by decide), b21, okd.2.1]) (fun j hj => ?_)
        rw [va_up_self]
        by_cases he : w.2.2.2.2.1 = 0
        · have := okd.2.2.2 he
          rw [if_pos y] at this
          rw [this] at hj ⊢
          rw [zsort_len] at hj
          exact y2 j hj
        · rw [okd.2.2.1 he] at hj
          exact absurd hj (by simp)
    · rw [nix r rfl (by omega)] at z ⊢
      have z : G1 2 r = 2 := z
      have e2 : G1 2 r = e_k E r := by rw [← hG1]; exact k2
      rw [e2] at z
      generalize hG2 : gup G1 19 r (nI o.2.2.length) = G2 at *
      have c2 : G2 2 r = e_k E r := by rw [b1 2 (by omega)]; exact k2
      have c40 : G2 40 fs.length = w.2.2.1 := by rw [b1 40 (by omega)]; exact u6
      have okd : o.1 = w.2.2.2.2.1 ∧ o.2.1 = w.2.2.2.2.2 ∧ (¬ w.2.2.2.2.1 = 0 → o.2.2 = []) ∧ (w.2.2.2.2.1 = 0 → o.2.2 = [w.2.2.1]) := by
        rw [← hoe]
        unfold zend
        by_cases he : w.2.2.2.2.1 = 0
        · rw [if_neg (by simpa using he), if_pos z]
          simp [he, ek0 he]
        · simp [he]
      refine bX7_finishes_80 (vin fs.length rfl l24 (by decide)) (vin (24 * fs.length) (nc24 _) (by omega) (by decide)) ?_
      rw [nix fs.length rfl (by omega), nix (24 * fs.length) (nc24 _) (by omega), c40]
      refine bX7_finishes_95 (vin r rfl r24 (by decide)) (fun y => ?_) (fun y => ?_)
      · refine go110 _ _ (fun k hk => by rw [gup_ne (by omega)]; exact b1 k hk) (fun x hx => b2 x hx) (fun j hj => by rw [gup_at_ne (by omega), b39]) b19 (by rw [gup_ne (by decide), b20, okd.1]) (by rw [gup_ne (by decide), b21, okd.2.1]) (fun j hj => ?_)
        by_cases he : w.2.2.2.2.1 = 0
        · rw [okd.2.2.2 he] at hj ⊢
          have : j = 0 := by simpa using hj
          subst this
          rw [Nat.add_zero, gup_at_self]
          rfl
        · rw [okd.2.2.1 he] at hj
          exact absurd hj (by simp)
      · rw [nix r rfl (by omega)] at y
        have y : G2 2 r = 3 := y
        rw [c2, z] at y
        exact absurd y (by decide)
  have e28 : G 28 (nI fs.length).toNatClampNeg = nI r := by rw [nix fs.length rfl (by omega)]; exact f1
  refine bX7_finishes_0 (vin fs.length rfl l24 (by decide)) (vin r e28 r24 (by decide)) (fun z => ?_) (fun z => ?_)
  · rw [e28, nix r rfl (by omega), nix fs.length rfl (by omega), u8, u9, hG1]
    rw [nix fs.length rfl (by omega), u8] at z
    refine bX7_finishes_49 (vin r rfl r24 (by decide)) (fun y => ?_) (fun y => ?_)
    · rw [nix r rfl (by omega)] at y
      have e2 : G1 2 r = e_k E r := by rw [← hG1]; exact k2
      rw [e2] at y
      refine bX7_finishes_63 (vin fs.length rfl l24 (by decide)) ?_
      have e3 : G1 38 (nI fs.length).toNatClampNeg = nI o.2.2.length := by
        rw [nix fs.length rfl (by omega), ← hG1]
        show G 38 fs.length = _
        rw [u4, ← hoe]
        unfold zend
        rw [if_neg (by simpa using z), if_neg y]
        split
        · rw [zsort_len]
        · rfl
      rw [e3]
      exact go69 _
    · rw [nix r rfl (by omega)] at y
      have e2 : G1 2 r = e_k E r := by rw [← hG1]; exact k2
      rw [e2] at y
      refine bX7_finishes_59 ?_
      have e3 : (1 : Int32) = nI o.2.2.length := by
        rw [← hoe]
        unfold zend
        rw [if_neg (by simpa using z), if_pos y]
        rfl
      rw [e3]
      exact go69 _
  · rw [e28, nix r rfl (by omega), nix fs.length rfl (by omega), u8, u9, hG1]
    rw [nix fs.length rfl (by omega), u8] at z
    refine bX7_finishes_45 ?_
    have e3 : (0 : Int32) = nI o.2.2.length := by
      rw [← hoe]
      unfold zend
      rw [if_pos z]
      rfl
    rw [e3]
    exact go69 _
