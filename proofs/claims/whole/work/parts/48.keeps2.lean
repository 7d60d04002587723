theorem gup_same {G : rG} {k j : Nat} {x : Int32} (h : G k j = x) : gup G k j x = G := by
  unfold gup
  have : upd (G k) j x = G k := by
    funext i
    simp only [upd]
    split
    · next hi => rw [hi, h]
    · rfl
  rw [this, va_upe]
theorem rTr_keep {G G' : rG} {q : Nat} {t : zT} (ht : ztok t) (h1 : ∀ k, 9 ≤ k → k ≤ 12 → G' k q = G k q) (h2 : ∀ j, j < 24 → G' 13 (24 * q + j) = G 13 (24 * q + j)) (h3 : ∀ k i, 14 ≤ k → k ≤ 17 → i < 25 → G' k (25 * q + i) = G k (25 * q + i)) (h4 : ∀ i j, i < 25 → j < 24 → G' 18 (24 * (25 * q + i) + j) = G 18 (24 * (25 * q + i) + j)) (h : rTr G q t) : rTr G' q t := by
  obtain ⟨a1, a2, a3⟩ := h
  refine ⟨by rw [h1 9 (by omega) (by omega)]; exact a1, zA_ne (h1 10 (by omega) (by omega)) (h1 11 (by omega) (by omega)) (h1 12 (by omega) (by omega)) (fun j hj => h2 j (by have := ht.2.2.1; omega)) a2, fun i hi => ?_⟩
  have hi25 : i < 25 := by have := ht.1; omega
  obtain ⟨b1, b2⟩ := a3 i hi
  have hg : (t.1.getD i zr0).2.2.2.length ≤ 24 := (ht.2.1 _ (by rw [List.getD_eq_getElem?_getD, List.getElem?_eq_getElem hi]; exact List.getElem_mem hi)).1.1
  exact ⟨by rw [h3 14 i (by omega) (by omega) hi25]; exact b1, zA_ne (h3 15 i (by omega) (by omega) hi25) (h3 16 i (by omega) (by omega) hi25) (h3 17 i (by omega) (by omega) hi25) (fun j hj => h4 i j hi25 (by omega)) b2⟩
theorem zkeep_len {l : List zT} {t : zT} (h : l.length ≤ 4) : (zkeep l t).length = (if l.length < 4 then l.length + 1 else 4) := by
  unfold zkeep
  simp only [List.length_cons, List.length_take]
  split <;> omega
theorem zkeep_getD {l : List zT} {t : zT} (y : Nat) (hy : y < 4) : (zkeep l t).getD y zt0 = if y = 0 then t else l.getD (y - 1) zt0 := by
  unfold zkeep
  cases y with
  | zero => rfl
  | succ y =>
    simp only [List.getD_eq_getElem?_getD, List.getElem?_cons_succ, Nat.succ_ne_zero, if_false, Nat.add_sub_cancel]
    rw [List.getElem?_take, if_pos (by omega)]
/-- the reads of a work, stored at slot p -/
def kInv (G4 : rG) (p : Nat) (w : zW) (i : Nat) (G : rG) : Prop := (∀ k, k < 14 ∨ 18 < k → G k = G4 k) ∧ (∀ x, x < i → G 14 (25 * p + x) = nI (w.1.getD x zr0).1 ∧ zA G 15 16 17 18 (25 * p + x) (w.1.getD x zr0).2) ∧ ∀ q x, ¬ q = p → x < 25 → (∀ k, 14 ≤ k → k ≤ 17 → G k (25 * q + x) = G4 k (25 * q + x)) ∧ ∀ j, j < 24 → G 18 (24 * (25 * q + x) + j) = G4 18 (24 * (25 * q + x) + j)
theorem r_keeps {d : Nat} {h0 : hp} {m : Nat} {ad : Nat → Nat} {S : rS} {G : rG} {Q : Option sV → rS → rG → Prop} {D r : Nat} {R : zQ} {w : zW} {o : zO} {sl : Nat → Nat → Nat} (hr : r < 24) (hD : D < 24) (f1 : G 28 D = nI r) (u2 : G 30 D = nI w.1.length) (u3 : ∀ i, i < w.1.length → G 33 (25 * D + i) = nI (w.1.getD i zr0).1 ∧ zA G 34 35 36 37 (25 * D + i) (w.1.getD i zr0).2) (hwok : zwok w) (hT : rT R sl G) (hq : ∀ x, (q_t R x).length ≤ 4 ∧ ∀ t ∈ q_t R x, ztok t) (ho : zok o) (hA : zA G 19 20 21 22 r o) (hQ : ∀ G', (∀ k, k < 7 ∨ 18 < k → G' k = G k) → (∃ sl', rT (q_tr R r (zkeep (q_t R r) (w.1, o))) sl' G') → Q none S G') : rM (d + 2) h0 m ad 105 [sR (some m), sI (nI D)] S G Q := by
  refine rM_of (ls := [sR (some m), sI (nI D), sU, sU, sU, sU]) rfl (Nat.le_of_ble_eq_true rfl) rfl ?_
  obtain ⟨t1, t2, t3⟩ := hT r hr
  obtain ⟨o1, o2, o3, o4⟩ := id hA
  have n4 := (hq r).1
  have on := ho.1
  refine bX7_keeps_0 (vin D rfl hD (by decide)) (P := fun v S' G' => S' = S ∧ G' = G ∧ ∃ f, v = some (sI (nI f)) ∧ f < 4 ∧ ((q_t R r).length = 4 → f = sl r 3) ∧ ((q_t R r).length < 4 → ∀ k, k < (q_t R r).length → ¬ sl r k = f)) ?_ ?_
  · rw [nix D rfl (by omega), f1]
    exact r_freeSlot hr n4 t1 (fun k hk => ⟨(t2 k hk).1, (t2 k hk).2.1⟩) (fun f h1 h2 h3 => ⟨rfl, rfl, f, rfl, h1, h2, h3⟩)
  rintro v S1 G1 ⟨rfl, rfl, f, rfl, hf4, hf1, hf2⟩
  rw [nix D rfl (by omega), f1]
  have ep : (4 : Int32) * nI r + nI f = nI (4 * r + f) := by rw [nc4, nI_add]
  generalize hpe : 4 * r + f = p at ep
  have hp96 : p < 96 := by omega
  generalize hn' : (if (q_t R r).length < 4 then (q_t R r).length + 1 else 4) = n'
  have n'1 : 1 ≤ n' ∧ n' ≤ 4 ∧ n' - 1 ≤ (q_t R r).length := by rw [← hn']; split <;> omega
  -- behind the count
  have go40 : rWP (d + 1) h0 m ad 105 Q 40 [sR (some m), sI (nI D), sI (nI r), sI (nI f), sI (nI p), sU] [] S1 (gup G1 7 r (nI n')) := by
    refine bX7_keeps_40 (vin r rfl hr (by decide)) (P := fun v S' G' => v = none ∧ S' = S1 ∧ G' = gus (gup G1 7 r (nI n')) r (n' - 1) (nI f)) ?_ ?_
    · rw [nix r rfl (by omega), gup_at_self, show nI n' - 1 = nI (n' - 1) from pk_sub (b := 1) n'1.1]
      exact r_used hr (by omega) ⟨rfl, rfl, rfl⟩
    rintro v S2 G2 ⟨rfl, rfl, rfl⟩
    refine bX7_keeps_54 (vin D rfl hD (by decide)) (vin p rfl hp96 (by decide)) (vin r rfl hr (by decide)) ?_
    rw [nix D rfl (by omega), nix p rfl (by omega), nix r rfl (by omega)]
    generalize hG3 : gup (gup (gup (gup (gus (gup G1 7 r (nI n')) r (n' - 1) (nI f)) 9 p _) 10 p _) 11 p _) 12 p _ = G3
    have c19 : G3 19 r = nI o.2.2.length := by rw [← hG3]; exact o1
    have c22 : G3 22 = G1 22 := by rw [← hG3]; rfl
    have c30 : G3 30 = G1 30 := by rw [← hG3]; rfl
    have loop1 : ∀ e j : Nat, j + e = o.2.2.length → rWP (d + 1) h0 m ad 105 Q 109 [sR (some m), sI (nI D), sI (nI r), sI (nI f), sI (nI p), sI (nI j)] [] S2 (va_up G3 13 (va_cpy (G3 22) (G3 13) (24 * r) (24 * p) j)) := by
      intro e
      induction e with
      | zero =>
        intro j hj
        refine bX7_keeps_109 (vin r rfl hr (by decide)) (fun _ => ?_) (fun z => absurd (by rw [nix r rfl (by omega)]; show G3 19 r ≤ _; rw [c19]; exact nI_le (by omega) (by omega)) z)
        rw [show j = o.2.2.length by omega]
        refine bX7_keeps_151 ?_
        generalize hG4 : va_up G3 13 (va_cpy (G3 22) (G3 13) (24 * r) (24 * p) o.2.2.length) = G4
        have big : ∀ k, 18 < k → G4 k = G1 k := by
          intro k hk
          rw [← hG4, va_up_ne _ _ (by omega), ← hG3]
          simp only [gup, gus]
          rw [va_up_ne _ _ (by omega), va_up_ne _ _ (by omega), va_up_ne _ _ (by omega), va_up_ne _ _ (by omega), va_up_ne _ _ (by omega), va_up_ne _ _ (by omega)]
        have small : ∀ k, k < 7 → G4 k = G1 k := by
          intro k hk
          rw [← hG4, va_up_ne _ _ (by omega), ← hG3]
          simp only [gup, gus]
          rw [va_up_ne _ _ (by omega), va_up_ne _ _ (by omega), va_up_ne _ _ (by omega), va_up_ne _ _ (by omega), va_up_ne _ _ (by omega), va_up_ne _ _ (by omega)]
        have loop2 : ∀ (e i : Nat) (G5 : rG), i + e = w.1.length → kInv G4 p w i G5 → rWP (d + 1) h0 m ad 105 Q 154 [sR (some m), sI (nI D), sI (nI r), sI (nI f), sI (nI p), sI (nI i)] [] S2 G5 := by
          intro e
          have w25 := hwok.1
          induction e with
          | zero =>
            intro i G5 hi hI
            have e30 : G5 30 D = nI w.1.length := by rw [hI.1 30 (by omega), big 30 (by omega)]; exact u2
            refine bX7_keeps_154 (vin D rfl hD (by decide)) (fun _ => ?_) (fun z => absurd (by rw [nix D rfl (by omega), e30]; exact nI_le (by omega) (by omega)) z)
            refine bX7_keeps_190 (hQ G5 (fun k hk => ?_) ?_)
            · rcases hk with hk | hk
              · rw [hI.1 k (by omega)]; exact small k hk
              · rw [hI.1 k (by omega)]; exact big k hk
            have iw : i = w.1.length := by omega
            subst iw
            refine ⟨fun x y => if x = r then (if y = 0 then f else sl r (y - 1)) else sl x y, fun x hx => ?_⟩
            have cq : q_t (q_tr R r (zkeep (q_t R r) (w.1, o))) x = va_up (q_t R) r (zkeep (q_t R r) (w.1, o)) x := rfl
            rw [cq]
            have g5 : ∀ k, k < 14 → G5 k = G4 k := fun k hk => hI.1 k (by omega)
            have ord : ∀ j, G5 8 j = (if j = 4 * r then nI f else if 4 * r < j ∧ j ≤ 4 * r + (n' - 1) then G1 8 (j - 1) else G1 8 j) := by
              intro j
              rw [g5 8 (by omega), ← hG4, ← hG3]
              rfl
            have kept : ∀ q t, ¬ q = p → ztok t → rTr G1 q t → rTr G5 q t := by
              intro q t hqp htk hh
              refine rTr_keep htk (fun k h1 h2 => ?_) (fun j hj => ?_) (fun k i h1 h2 hi => ?_) (fun i j hi hj => ?_) hh
              · rw [g5 k (by omega), ← hG4, va_up_ne _ _ (by omega), ← hG3]
                rcases (show k = 9 ∨ k = 10 ∨ k = 11 ∨ k = 12 by omega) with h | h | h | h <;> subst h <;> simp [gup, gus, va_up, upd, hqp]
              · rw [g5 13 (by omega), ← hG4, va_up_self, pk_cpy_out (by omega), ← hG3]
                rfl
              · rw [(hI.2.2 q i hqp hi).1 k h1 h2, ← hG4, va_up_ne _ _ (by omega), ← hG3]
                rcases (show k = 14 ∨ k = 15 ∨ k = 16 ∨ k = 17 by omega) with h | h | h | h <;> subst h <;> rfl
              · rw [(hI.2.2 q i hqp hi).2 j hj, ← hG4, ← hG3]
                rfl
            by_cases hxr : x = r
            · subst hxr
              rw [va_up_self, zkeep_len n4, hn']
              refine ⟨?_, fun y hy => ?_, fun y y' hy hy' hyy => ?_⟩
              · rw [g5 7 (by omega), ← hG4, ← hG3]
                show gup G1 7 x (nI n') 7 x = _
                rw [gup_at_self]
              · simp only [if_true]
                rw [zkeep_getD y (by omega), ord]
                by_cases y0 : y = 0
                · subst y0
                  simp only [if_true, Nat.add_zero]
                  refine ⟨hf4, trivial, ?_⟩
                  rw [hpe]
                  refine ⟨?_, ⟨?_, ?_, ?_, fun j hj => ?_⟩, hI.2.1⟩
                  · rw [g5 9 (by omega), ← hG4, va_up_ne _ _ (by omega), ← hG3]
                    simpa [gup, gus, va_up, upd] using u2
                  · rw [g5 10 (by omega), ← hG4, va_up_ne _ _ (by omega), ← hG3]
                    simpa [gup, gus, va_up, upd] using o1
                  · rw [g5 11 (by omega), ← hG4, va_up_ne _ _ (by omega), ← hG3]
                    simpa [gup, gus, va_up, upd] using o2
                  · rw [g5 12 (by omega), ← hG4, va_up_ne _ _ (by omega), ← hG3]
                    simpa [gup, gus, va_up, upd] using o3
                  · have hj : j < o.2.2.length := hj
                    rw [g5 13 (by omega), ← hG4, va_up_self, pk_cpy_in (by omega) (by omega), show 24 * p + j - 24 * p = j by omega, c22]
                    exact o4 j hj
                · rw [if_neg (show ¬ y = 0 from y0), if_neg (show ¬ 4 * x + y = 4 * x by omega), if_neg (show ¬ y = 0 from y0), if_pos (show 4 * x < 4 * x + y ∧ 4 * x + y ≤ 4 * x + (n' - 1) by omega)]
                  obtain ⟨v1, v2, v3⟩ := t2 (y - 1) (by omega)
                  refine ⟨v1, ?_, kept _ _ ?_ ((hq x).2 _ (zget_mem (by omega))) v3⟩
                  · rw [show 4 * x + y - 1 = 4 * x + (y - 1) by omega]
                    exact v2
                  · intro he
                    by_cases hl4 : (q_t R x).length < 4
                    · exact hf2 hl4 (y - 1) (by omega) (by omega)
                    · have := hf1 (by omega)
                      have := t3 (y - 1) 3 (by omega) (by omega) (by omega)
                      omega
              · simp only [if_true] at hyy
                by_cases y0 : y = 0 <;> by_cases y0' : y' = 0 <;> simp only [y0, y0', if_true, if_false] at hyy
                · omega
                · exfalso
                  by_cases hl4 : (q_t R x).length < 4
                  · exact hf2 hl4 (y' - 1) (by omega) hyy.symm
                  · have h3 := hf1 (by omega)
                    have := t3 (y' - 1) 3 (by omega) (by omega) (by omega)
                    omega
                · exfalso
                  by_cases hl4 : (q_t R x).length < 4
                  · exact hf2 hl4 (y - 1) (by omega) hyy
                  · have h3 := hf1 (by omega)
                    have := t3 (y - 1) 3 (by omega) (by omega) (by omega)
                    omega
                · have := t3 (y - 1) (y' - 1) (by omega) (by omega) hyy
                  omega
            · rw [va_up_ne _ _ hxr]
              obtain ⟨v1, v2, v3⟩ := hT x hx
              refine ⟨?_, fun y hy => ?_, fun y y' hy hy' hyy => ?_⟩
              · rw [g5 7 (by omega), ← hG4, ← hG3]
                show gup G1 7 r (nI n') 7 x = _
                rw [gup_at_ne hxr]
                exact v1
              · simp only [if_neg hxr]
                obtain ⟨a1, a2, a3⟩ := v2 y hy
                have hy4 : y < 4 := by have := (hq x).1; omega
                refine ⟨a1, ?_, kept _ _ (by omega) ((hq x).2 _ (zget_mem hy)) a3⟩
                rw [ord, if_neg (by omega), if_neg (by omega)]
                exact a2
              · simp only [if_neg hxr] at hyy
                exact v3 y y' hy hy' hyy
          | succ e ih =>
            intro i G5 hi hI
            have e30 : G5 30 D = nI w.1.length := by rw [hI.1 30 (by omega), big 30 (by omega)]; exact u2
            refine bX7_keeps_154 (vin D rfl hD (by decide)) (fun z => absurd z (by rw [nix D rfl (by omega), e30, nI_leI (by omega) (by omega)]; omega)) (fun _ => ?_)
            have ilt : i < w.1.length := by omega
            obtain ⟨z1, z2, z3, z4, z5⟩ := u3 i ilt
            have g24 : (w.1.getD i zr0).2.2.2.length ≤ 24 := (hwok.2.1 _ (by rw [List.getD_eq_getElem?_getD, List.getElem?_eq_getElem ilt]; exact List.getElem_mem ilt)).1.1
            have gg : ∀ k, 18 < k → G5 k = G1 k := fun k hk => by rw [hI.1 k (by omega), big k hk]
            refine bX7_keeps_165 (P := fun v S' G' => v = none ∧ S' = S2 ∧ kInv G4 p w (i + 1) G') ?_ ?_
            · rw [show (25 : Int32) * nI D + nI i = nI (25 * D + i) by rw [nc25, nI_add], show (25 : Int32) * nI p + nI i = nI (25 * p + i) by rw [nc25, nI_add]]
              refine r_keepsRead (n := (w.1.getD i zr0).2.2.2.length) (by omega) (by omega) g24 (by rw [gg 34 (by omega)]; exact z2) ⟨rfl, rfl, ?_⟩
              rw [gg 33 (by omega), gg 35 (by omega), gg 36 (by omega), gg 37 (by omega), z1, z3, z4]
              refine ⟨fun k hk => ?_, fun x hx => ?_, fun q x hqp hx => ⟨fun k h1 h2 => ?_, fun j hj => ?_⟩⟩
              · simp only [gup]
                rw [va_up_ne _ _ (by omega), va_up_ne _ _ (by omega), va_up_ne _ _ (by omega), va_up_ne _ _ (by omega), va_up_ne _ _ (by omega)]
                exact hI.1 k hk
              · by_cases hxi : x = i
                · subst hxi
                  refine ⟨by simp [gup, va_up, upd], by simp [gup, va_up, upd], by simp [gup, va_up, upd], by simp [gup, va_up, upd], fun j hj => ?_⟩
                  rw [va_up_self, pk_cpy_in (by omega) (by omega), show 24 * (25 * p + x) + j - 24 * (25 * p + x) = j by omega]
                  exact z5 j hj
                · obtain ⟨y1, y2⟩ := hI.2.1 x (by omega)
                  have xlt : x < w.1.length := by omega
                  have x24 : (w.1.getD x zr0).2.2.2.length ≤ 24 := (hwok.2.1 _ (by rw [List.getD_eq_getElem?_getD, List.getElem?_eq_getElem xlt]; exact List.getElem_mem xlt)).1.1
                  refine ⟨?_, zA_ne ?_ ?_ ?_ (fun j hj => ?_) y2⟩
                  · simp [gup, va_up, upd, hxi]; exact y1
                  · simp [gup, va_up, upd, hxi]
                  · simp [gup, va_up, upd, hxi]
                  · simp [gup, va_up, upd, hxi]
                  · rw [va_up_self, pk_cpy_out (by omega)]
              · have hne : ¬ 25 * q + x = 25 * p + i := by omega
                rw [← (hI.2.2 q x hqp hx).1 k h1 h2]
                rcases (show k = 14 ∨ k = 15 ∨ k = 16 ∨ k = 17 by omega) with h | h | h | h <;> subst h <;> simp [gup, va_up, upd, hne]
              · rw [← (hI.2.2 q x hqp hx).2 j hj, va_up_self, pk_cpy_out (by omega)]
            · rintro v S3 G6 ⟨rfl, rfl, hI6⟩
              refine bX7_keeps_184 ?_
              rw [nI_1]
              exact ih (i + 1) G6 (by omega) hI6
        exact loop2 w.1.length 0 G4 (by omega) ⟨fun _ _ => rfl, fun x hx => absurd hx (by omega), fun q x _ _ => ⟨fun _ _ _ => rfl, fun _ _ => rfl⟩⟩
      | succ e ih =>
        intro j hj
        refine bX7_keeps_109 (vin r rfl hr (by decide)) (fun z => absurd z (by rw [nix r rfl (by omega)]; show ¬ G3 19 r ≤ _; rw [c19, nI_leI (by omega) (by omega)]; omega)) (fun _ => ?_)
        refine bX7_keeps_120 (vin (24 * r + j) (by simp only [nc4, nc6, nc16, nc24, nc25, nc4r, nI_add, nI_1, nI_0]) (by omega) (by decide)) (vin (24 * p + j) (by simp only [nc4, nc6, nc16, nc24, nc25, nc4r, nI_add, nI_1, nI_0]) (by omega) (by decide)) ?_
        rw [nix (x := (24 : Int32) * nI r + nI j) (24 * r + j) (by simp only [nc4, nc6, nc16, nc24, nc25, nc4r, nI_add, nI_1, nI_0]) (by omega), nix (x := (24 : Int32) * nI p + nI j) (24 * p + j) (by simp only [nc4, nc6, nc16, nc24, nc25, nc4r, nI_add, nI_1, nI_0]) (by omega), nI_1]
        have e5 : gup (va_up G3 13 (va_cpy (G3 22) (G3 13) (24 * r) (24 * p) j)) 13 (24 * p + j) (va_up G3 13 (va_cpy (G3 22) (G3 13) (24 * r) (24 * p) j) 22 (24 * r + j)) = va_up G3 13 (va_cpy (G3 22) (G3 13) (24 * r) (24 * p) (j + 1)) := by
          unfold gup
          rw [va_upup, va_up_self, ← va_cpy_sg]
          rfl
        rw [e5]
        exact ih (j + 1) (by omega)
    have h0 := loop1 o.2.2.length 0 (by omega)
    rw [va_cpy_0g, va_upe] at h0
    exact h0
  refine bX7_keeps_12 (vin r rfl hr (by decide)) (fun z => ?_) (fun z => ?_)
  · rw [nix r rfl (by omega), t1, show (4 : Int32) = nI 4 from rfl, nI_leI (by decide) (by omega)] at z
    have : gup G1 7 r (nI n') = G1 := gup_same (by rw [t1, ← hn', if_neg (by omega), show (q_t R r).length = 4 by omega])
    rw [this] at go40
    rw [ep]
    exact go40
  · rw [nix r rfl (by omega), t1, show (4 : Int32) = nI 4 from rfl, nI_leI (by decide) (by omega)] at z
    rw [ep]
    refine bX7_keeps_30 (vin r rfl hr (by decide)) ?_
    rw [nix r rfl (by omega), t1, nI_1, show (q_t R r).length + 1 = n' by rw [← hn', if_pos (by omega)]]
    exact go40
