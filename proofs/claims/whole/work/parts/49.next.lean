theorem zrem (n : Nat) (h1 : 1 ≤ n) (h2 : n ≤ 5) (x : Int32) : (0 ≤ x - x / nI n * nI n → x - x / nI n * nI n = nI (zmod x n)) ∧ (¬ 0 ≤ x - x / nI n * nI n → x - x / nI n * nI n + nI n = nI (zmod x n)) ∧ zmod x n < n := by
  have b1 := Int32.le_toInt x
  have b2 := Int32.toInt_lt x
  have hn : (nI n).toInt = (n : Int) := nI_toInt (by omega)
  have hz : zmod x n < n := by
    unfold zmod
    have := Int.emod_lt_of_pos x.toInt (show (0 : Int) < (n : Int) by omega)
    have := Int.emod_nonneg x.toInt (show (n : Int) ≠ 0 by omega)
    omega
  have hzz : (nI (zmod x n)).toInt = x.toInt % (n : Int) := by
    rw [nI_toInt (by omega)]
    unfold zmod
    have := Int.emod_nonneg x.toInt (show (n : Int) ≠ 0 by omega)
    omega
  have hq : (x / nI n).toInt = x.toInt.tdiv n ∧ ((x / nI n).toInt * n = x.toInt - x.toInt % n ∨ ((x / nI n).toInt * n = x.toInt - x.toInt % n + n ∧ x.toInt < 0 ∧ x.toInt % n ≠ 0)) := by
    have key : ∀ t : Int, (0 ≤ x.toInt → t = x.toInt / n) → (x.toInt < 0 → t = -((-x.toInt) / n)) → (-2147483648 ≤ t ∧ t < 2147483648) ∧ (t * n = x.toInt - x.toInt % n ∨ (t * n = x.toInt - x.toInt % n + n ∧ x.toInt < 0 ∧ x.toInt % n ≠ 0)) := by
      intro t t1 t2
      rcases (show n = 1 ∨ n = 2 ∨ n = 3 ∨ n = 4 ∨ n = 5 by omega) with rfl | rfl | rfl | rfl | rfl <;> (by_cases hx : 0 ≤ x.toInt) <;> (first | have := t1 hx | have := t2 (by omega)) <;> omega
    obtain ⟨k1, k2⟩ := key (x.toInt.tdiv n) (fun h => Int.tdiv_eq_ediv_of_nonneg h) (fun h => by
      rw [show x.toInt = -(-x.toInt) by omega, Int.neg_tdiv, Int.tdiv_eq_ediv_of_nonneg (by omega)]
      simp)
    have e1 : (x / nI n).toInt = x.toInt.tdiv n := by
      rw [Int32.toInt_div, hn]
      exact Int.bmod_eq_of_le (by omega) (by omega)
    rw [e1]
    exact ⟨rfl, k2⟩
  have hm1 := Int.emod_lt_of_pos x.toInt (show (0 : Int) < (n : Int) by omega)
  have hm0 := Int.emod_nonneg x.toInt (show (n : Int) ≠ 0 by omega)
  have hm : (x / nI n * nI n).toInt = (x / nI n).toInt * n := by
    rw [Int32.toInt_mul, hn]
    apply Int.bmod_eq_of_le
    · rcases hq.2 with h | h
      · rw [h]
        by_cases hx : x.toInt < 0
        · have e2 := hq.1
          have : (x / nI n).toInt * n ≥ x.toInt := by
            rw [e2]
            rcases (show n = 1 ∨ n = 2 ∨ n = 3 ∨ n = 4 ∨ n = 5 by omega) with rfl | rfl | rfl | rfl | rfl <;> (rw [show x.toInt = -(-x.toInt) by omega, Int.neg_tdiv, Int.tdiv_eq_ediv_of_nonneg (by omega)]; omega)
          omega
        · omega
      · omega
    · rcases hq.2 with h | h <;> omega
  have hs : (x - x / nI n * nI n).toInt = x.toInt - (x / nI n).toInt * n := by
    rw [Int32.toInt_sub, hm]
    apply Int.bmod_eq_of_le <;> rcases hq.2 with h | h <;> omega
  have h0 : (0 ≤ x - x / nI n * nI n) ↔ 0 ≤ x.toInt - (x / nI n).toInt * n := by
    rw [Int32.le_iff_toInt_le, hs]
    rfl
  refine ⟨fun h => ?_, fun h => ?_, hz⟩
  · rw [h0] at h
    apply Int32.toInt_inj.mp
    rw [hs, hzz]
    rcases hq.2 with h | h <;> omega
  · rw [h0] at h
    apply Int32.toInt_inj.mp
    rw [Int32.toInt_add, hs, hn, hzz]
    rcases hq.2 with h' | h'
    · omega
    · rw [h'.1]
      have e3 : x.toInt - (x.toInt - x.toInt % n + n) + n = x.toInt % n := by omega
      rw [e3]
      apply Int.bmod_eq_of_le <;> omega
theorem r_nextRead {d : Nat} {h0 : hp} {m : Nat} {ad : Nat → Nat} {S : rS} {G : rG} {Q : Option sV → rS → rG → Prop} {E : zE} {fs : List (Nat × zP)} {R : zQ} {w0 : Int32} {ct : rCt} {r : Nat} {w : zW} (hW : zWF E ((r, .inr w) :: fs) R) (h : rep E ((r, .inr w) :: fs) R w0 ct S G) (hQ : Q (some (sI (match znext (e_k E r) (e_i E r) w with | some nm => nI nm | none => -1))) S G) : rM (d + 1) h0 m ad 108 [sR (some m), sI (nI fs.length)] S G Q := by
  refine rM_of (ls := [sR (some m), sI (nI fs.length), sU, sU, sU, sU, sU]) rfl (Nat.le_of_ble_eq_true rfl) rfl ?_
  obtain ⟨r24, -, -, l24, ⟨f1, u1, u2, u3, u4, u5, u6, u7, u8, u9⟩, -, -⟩ := rep_top hW h
  obtain ⟨k2, k5, k3, k4⟩ := h.1.2.2.1 r r24
  have hw := hW.2.2.1 _ List.mem_cons_self
  have i6 := hW.1.2.2.1 r
  have w25 := hw.1.1
  refine bX7_nextRead_0 (vin fs.length rfl l24 (by decide)) (fun z => ?_) (fun z => ?_)
  · rw [nix fs.length rfl (by omega), u7] at z
    have he : ¬ w.2.2.2.1 = true := fun hh => by rw [if_pos hh] at z; exact absurd z (by decide)
    rw [nix fs.length rfl (by omega), f1, u2]
    unfold znext at hQ
    rw [if_neg he] at hQ
    refine bX7_nextRead_25 (vin r rfl r24 (by decide)) (fun y => ?_) (fun y => ?_)
    · rw [nix r rfl (by omega), k2] at y
      rw [if_neg (Int32.not_lt.mpr y)] at hQ
      refine bX7_nextRead_61 (fun x => ?_) (fun x => ?_)
      · cases hw1 : w.1 with
        | nil => rw [hw1] at x; exact absurd nI_0 x
        | cons g gs =>
          have hne : ¬ e_i E r = [] := by
            rcases hw.2 with h | h
            · rw [hw1] at h; cases h
            · exact h
          have i1 : 1 ≤ (e_i E r).length := by
            cases hei : e_i E r with
            | nil => exact absurd hei hne
            | cons a l => simp
          obtain ⟨-, c1, c2, c3, c4⟩ := u3 0 (by rw [hw1]; simp)
          have g0 : w.1.getD 0 zr0 = g := by rw [hw1]; rfl
          rw [g0] at c1 c4
          have g24 : g.2.2.2.length ≤ 24 := (hw.1.2.1 g (by rw [hw1]; exact List.mem_cons_self)).1.1
          rw [hw1] at hQ
          dsimp only at hQ
          have wl : w.1.length = gs.length + 1 := by rw [hw1]; rfl
          rw [show (g :: gs).length = gs.length + 1 from rfl] at hQ ⊢
          simp only [Nat.add_sub_cancel] at hQ
          have e25 : (25 : Int32) * nI fs.length = nI (25 * fs.length) := nc25 _
          have rest : ∀ (row : List Int32), (if e_k E r = 5 then g.2.2.2.take 1 else g.2.2.2) = row → rWP d h0 m ad 108 Q 118 [sR (some m), sI (nI fs.length), sI (nI r), sI (nI (gs.length + 1)), sI (nI row.length), sU, sU] [] S G := by
            intro row hrow
            rw [hrow] at hQ
            have rlen : row.length ≤ g.2.2.2.length := by
              rw [← hrow]
              split
              · simp only [List.length_take]; omega
              · omega
            have rget : ∀ j, j < row.length → row.getD j 0 = g.2.2.2.getD j 0 := by
              intro j hj
              rw [← hrow] at hj ⊢
              split
              · next hk =>
                rw [if_pos hk] at hj
                simp only [List.length_take] at hj
                rw [List.getD_eq_getElem?_getD, List.getD_eq_getElem?_getD, List.getElem?_take, if_pos (by omega)]
              · rfl
            have eo : nI (e_i E r).length - 1 = nI ((e_i E r).length - 1) := pk_sub (b := 1) i1
            refine bX7_nextRead_118 (vin r rfl r24 (by decide)) (fun a => ?_) (fun a => ?_)
            · rw [nix r rfl (by omega), k3, eo, ← nI_0, nI_eq (by omega) (by decide)] at a
              rw [if_pos (by omega)] at hQ
              exact bX7_nextRead_139 hQ
            · rw [nix r rfl (by omega), k3, eo] at a ⊢
              have a' : ¬ (e_i E r).length - 1 = 0 := fun hh => a (by rw [hh, nI_0])
              rw [if_neg (by omega)] at hQ
              refine bX7_nextRead_133 (fun b => ?_) (fun b => ?_)
              · rw [nI_leI (by omega) (by omega)] at b
                have hlt : gs.length < row.length := by omega
                rw [List.getElem?_eq_getElem hlt] at hQ
                dsimp only at hQ
                have ei : (24 : Int32) * ((25 : Int32) * nI fs.length) + nI (gs.length + 1) - 1 = nI (24 * (25 * fs.length) + gs.length) := by rw [nc25, nc24, nI_add, show 24 * (25 * fs.length) + (gs.length + 1) = (24 * (25 * fs.length) + gs.length) + 1 from rfl, nI_pred]
                have ex : G 37 ((24 : Int32) * ((25 : Int32) * nI fs.length) + nI (gs.length + 1) - 1).toNatClampNeg = row[gs.length] := by
                  rw [nix _ ei (by omega)]
                  have := c4 gs.length (by omega)
                  rw [show 24 * (25 * fs.length + 0) + gs.length = 24 * (25 * fs.length) + gs.length from rfl] at this
                  rw [this, ← rget gs.length hlt, List.getD_eq_getElem?_getD, List.getElem?_eq_getElem hlt]
                  rfl
                obtain ⟨z1, z2, z3⟩ := zrem ((e_i E r).length - 1) (by omega) (by omega) row[gs.length]
                have fin : ∀ (v4 v5 v6 : sV) (y2 : Int32), y2 = nI (zmod row[gs.length] ((e_i E r).length - 1)) → rWP d h0 m ad 108 Q 187 [sR (some m), sI (nI fs.length), sI (nI r), sI (nI (gs.length + 1)), v4, v5, v6] [sI y2, sI ((6 : Int32) * nI r + 1), sR (some (ad 4))] S G := by
                  intro v4 v5 v6 y2 hy2
                  subst hy2
                  have e6 : (6 : Int32) * nI r + 1 + nI (zmod row[gs.length] ((e_i E r).length - 1)) = nI (6 * r + (1 + zmod row[gs.length] ((e_i E r).length - 1))) := by rw [nc6, nI_1, nI_add, Nat.add_assoc]
                  refine bX7_nextRead_187 (vin _ e6 (by omega) (by decide)) ?_
                  rw [nix _ e6 (by omega), k4 _ (by omega)]
                  rw [List.getElem?_eq_getElem (show 1 + zmod row[gs.length] ((e_i E r).length - 1) < (e_i E r).length by omega)] at hQ
                  rw [List.getD_eq_getElem?_getD, List.getElem?_eq_getElem (show 1 + zmod row[gs.length] ((e_i E r).length - 1) < (e_i E r).length by omega)]
                  exact hQ
                refine bX7_nextRead_141 (vin _ ei (by omega) (by decide)) a (fun cc => ?_) (fun cc => ?_)
                · rw [ex] at cc ⊢
                  exact bX7_nextRead_185 (fin _ _ _ _ (z1 cc))
                · rw [ex] at cc ⊢
                  exact bX7_nextRead_177 (fin _ _ _ _ (z2 cc))
              · rw [nI_leI (by omega) (by omega)] at b
                rw [List.getElem?_eq_none (by omega)] at hQ
                exact bX7_nextRead_139 hQ
          refine bX7_nextRead_88 (vin _ e25 (by omega) (by decide)) (vin r rfl r24 (by decide)) (fun a => ?_) (fun a => ?_)
          · rw [nix r rfl (by omega), k2] at a
            rw [nix _ e25 (by omega), show G 34 (25 * fs.length) = nI g.2.2.2.length from c1]
            exact rest g.2.2.2 (if_neg a)
          · rw [nix r rfl (by omega), k2] at a
            rw [nix _ e25 (by omega), show G 34 (25 * fs.length) = nI g.2.2.2.length from c1]
            have hr1 := rest (g.2.2.2.take 1) (if_pos a)
            rw [List.length_take] at hr1
            refine bX7_nextRead_109 (fun b => ?_) (fun b => ?_)
            · rw [show (1 : Int32) = nI 1 from rfl, nI_leI (by omega) (by decide)] at b
              rw [show min 1 g.2.2.2.length = g.2.2.2.length by omega] at hr1
              exact hr1
            · rw [show (1 : Int32) = nI 1 from rfl, nI_leI (by omega) (by decide)] at b
              rw [show min 1 g.2.2.2.length = 1 by omega] at hr1
              exact bX7_nextRead_115 hr1
      · have hw1 : w.1 = [] := by
          rw [← nI_0, nI_eq (by omega) (by decide)] at x
          exact List.length_eq_zero_iff.mp x
        rw [hw1] at hQ
        dsimp only at hQ
        refine bX7_nextRead_65 (vin r rfl r24 (by decide)) (fun a => ?_) (fun a => ?_)
        · rw [nix r rfl (by omega), k3, ← nI_0, nI_leI (by omega) (by decide)] at a
          rw [List.getElem?_eq_none (by omega)] at hQ
          exact bX7_nextRead_86 (bX7_nextRead_87 hQ)
        · rw [nix r rfl (by omega), k3, ← nI_0, nI_leI (by omega) (by decide)] at a
          refine bX7_nextRead_74 (vin (6 * r) (nc6 r) (by omega) (by decide)) ?_
          rw [nix (6 * r) (nc6 r) (by omega)]
          have := k4 0 (by omega)
          rw [Nat.add_zero] at this
          rw [this]
          rw [List.getElem?_eq_getElem (show 0 < (e_i E r).length by omega)] at hQ
          rw [List.getD_eq_getElem?_getD, List.getElem?_eq_getElem (show 0 < (e_i E r).length by omega)]
          exact bX7_nextRead_87 hQ
    · rw [nix r rfl (by omega), k2] at y
      rw [if_pos (by simpa using y)] at hQ
      refine bX7_nextRead_35 (vin r rfl r24 (by decide)) (fun a => ?_) (fun a => ?_)
      · rw [nix r rfl (by omega), k3, nI_leI (by omega) (by omega)] at a
        rw [List.getElem?_eq_none a] at hQ
        exact bX7_nextRead_59 (bX7_nextRead_60 hQ)
      · rw [nix r rfl (by omega), k3, nI_leI (by omega) (by omega)] at a
        refine bX7_nextRead_45 (vin (6 * r + w.1.length) (by simp only [nc4, nc6, nc16, nc24, nc25, nc4r, nI_add, nI_1, nI_0]) (by omega) (by decide)) ?_
        rw [nix (6 * r + w.1.length) (by simp only [nc4, nc6, nc16, nc24, nc25, nc4r, nI_add, nI_1, nI_0]) (by omega), k4 _ (by omega)]
        rw [List.getElem?_eq_getElem (show w.1.length < (e_i E r).length by omega)] at hQ
        rw [List.getD_eq_getElem?_getD, List.getElem?_eq_getElem (show w.1.length < (e_i E r).length by omega)]
        exact bX7_nextRead_60 hQ
  · rw [nix fs.length rfl (by omega), u7] at z
    have he : w.2.2.2.1 = true := Classical.byContradiction fun hh => z (by rw [if_neg hh])
    unfold znext at hQ
    rw [if_pos he] at hQ
    exact bX7_nextRead_23 hQ
