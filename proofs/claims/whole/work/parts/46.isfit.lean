theorem va_cpy_sg {f g : Nat → Int32} {b c n : Nat} : upd (va_cpy f g b c n) (c + n) (f (b + n)) = va_cpy f g b c (n + 1) := by
  funext j
  simp only [upd, va_cpy]
  by_cases h : j = c + n
  · subst h
    rw [if_pos rfl, if_pos (by omega)]
    congr 1
    omega
  · rw [if_neg h]
    by_cases h1 : c ≤ j ∧ j < c + n
    · rw [if_pos h1, if_pos (by omega)]
    · rw [if_neg h1, if_neg (by omega)]
theorem va_cpy_0g {f g : Nat → Int32} {b c : Nat} : va_cpy f g b c 0 = g := by
  funext j
  simp only [va_cpy]
  rw [if_neg (by omega)]
theorem zfront_getD {l : List zT} {k : Nat} (hk : k < l.length) (j : Nat) : (zfront l k).getD j zt0 = if j = 0 then l.getD k zt0 else if j ≤ k then l.getD (j - 1) zt0 else l.getD j zt0 := by
  unfold zfront
  rw [List.getElem?_eq_getElem hk]
  cases j with
  | zero => simp [List.getD_eq_getElem?_getD, hk]
  | succ j =>
    simp only [List.getD_eq_getElem?_getD, List.getElem?_cons_succ, List.getElem?_eraseIdx, Nat.succ_ne_zero, if_false, Nat.add_sub_cancel]
    by_cases h : j < k
    · rw [if_pos h, if_pos (by omega)]
    · rw [if_neg h, if_neg (by omega)]
theorem zA_ne {G G' : rG} {kl kk kn kc i : Nat} {o : zO} (h1 : G' kl i = G kl i) (h2 : G' kk i = G kk i) (h3 : G' kn i = G kn i) (h4 : ∀ j, j < o.2.2.length → G' kc (24 * i + j) = G kc (24 * i + j)) (h : zA G kl kk kn kc i o) : zA G' kl kk kn kc i o := ⟨h1.trans h.1, h2.trans h.2.1, h3.trans h.2.2.1, fun j hj => (h4 j hj).trans (h.2.2.2 j hj)⟩
theorem rW_stale {R : zQ} {w0 : Int32} {S : rS} {G : rG} {r k : Nat} {x : Int32} (hk : k < 4) (h : rW R w0 S G) {G' : rG} (h57 : G' 57 = G 57) (h58 : ∀ j, G' 58 j = if j = 4 * r + k then x else G 58 j) : rW (q_stale R r k x) w0 S G' := by
  obtain ⟨w1, w2, w3, w4, w5⟩ := h
  refine ⟨w1, fun j hj => by rw [h57]; exact w2 j hj, w3, w4, fun a b ha hb => ?_⟩
  rw [h58]
  show _ = va_up (q_z R) r (va_up (q_z R r) k x) a b
  by_cases har : a = r
  · subst har
    rw [va_up_self]
    by_cases hbk : b = k
    · subst hbk
      rw [if_pos rfl, va_up_self]
    · rw [if_neg (by omega), va_up_ne _ _ hbk]
      exact w5 a b ha hb
  · rw [va_up_ne _ _ har, if_neg (by omega)]
    exact w5 a b ha hb
theorem r_isFit {d : Nat} {h0 : hp} {m : Nat} {ad : Nat → Nat} {S : rS} {G : rG} {Q : Option sV → rS → rG → Prop} {E : zE} {fs : List (Nat × zP)} {R : zQ} {w0 : Int32} {ct : rCt} {r k i : Nat} (hW : zWF E ((r, .inl (k, i)) :: fs) R) (h : rep E ((r, .inl (k, i)) :: fs) R w0 ct S G) (hk : k < (q_t R r).length) (hQ : ∀ S' G', rep E fs (q_close (q_tr (q_stale R r k (-2)) r (zfront (q_t R r) k)) r ((q_t R r).getD k zt0).2) w0 ct S' G' → Q none S' G') : rM (d + 2) h0 m ad 102 [sR (some m), sI (nI fs.length)] S G Q := by
  refine rM_of (ls := [sR (some m), sI (nI fs.length), sU, sU, sU]) rfl (Nat.le_of_ble_eq_true rfl) rfl ?_
  obtain ⟨r24, -, -, l24, ⟨f1, f2, f3, f4⟩, hF, hS32⟩ := rep_top hW h
  obtain ⟨a1, ⟨sl, hT⟩, a3, a4, a5, a6, a7⟩ := id h
  obtain ⟨t1, t2, t3⟩ := hT r r24
  obtain ⟨s1, s2, s3, s4, s5⟩ := t2 k hk
  have hk4 : k < 4 := by have := (hW.2.1.1 r).1; omega
  have ht := (hW.2.1.1 r).2 _ (zget_mem hk)
  generalize hte : (q_t R r).getD k zt0 = t at *
  obtain ⟨o1, o2, o3, o4⟩ := s4
  have on := ht.2.2.1
  generalize hp : 4 * r + sl r k = p at *
  have hp96 : p < 96 := by omega
  refine bX7_isFit_0 (vin fs.length rfl l24 (by decide)) (P := fun v S' G' => v = some (sI (nI p)) ∧ S' = S ∧ G' = G) ?_ ?_
  · rw [nix fs.length rfl (by omega), f1, f3]
    exact r_slotOf r24 hk4 ⟨by rw [s2, nc4, nI_add, hp], rfl, rfl⟩
  rintro v S1 G1 ⟨rfl, rfl, rfl⟩
  rw [nix fs.length rfl (by omega), f1]
  have e1 : (4 : Int32) * nI r + G1 29 (nI fs.length).toNatClampNeg = nI (4 * r + k) := by rw [nix fs.length rfl (by omega), f3, nc4, nI_add]
  refine bX7_isFit_18 (vin fs.length rfl l24 (by decide)) (vin (4 * r + k) e1 (by omega) (by decide)) (vin p rfl hp96 (by decide)) (vin r rfl r24 (by decide)) ?_
  rw [nix (4 * r + k) e1 (by omega), nix p rfl (by omega), nix r rfl (by omega), o1, o2, o3]
  generalize hG2 : gup (gup (gup (gup G1 58 (4 * r + k) (-2)) 19 r (nI t.2.2.2.length)) 20 r t.2.1) 21 r t.2.2.1 = G2
  have c19 : G2 19 r = nI t.2.2.2.length := by rw [← hG2]; simp [gup, va_up, upd]
  have c13 : G2 13 = G1 13 := by rw [← hG2]; rfl
  have c29 : G2 29 = G1 29 := by rw [← hG2]; rfl
  have key : ∀ e j : Nat, j + e = t.2.2.2.length → rWP (d + 1) h0 m ad 102 Q 75 [sR (some m), sI (nI fs.length), sI (nI r), sI (nI p), sI (nI j)] [] S1 (va_up G2 22 (va_cpy (G2 13) (G2 22) (24 * p) (24 * r) j)) := by
    intro e
    induction e with
    | zero =>
      intro j hj
      refine bX7_isFit_75 (vin r rfl r24 (by decide)) (fun _ => ?_) (fun z => absurd (by rw [nix r rfl (by omega)]; show G2 19 r ≤ _; rw [c19]; exact nI_le (by omega) (by omega)) z)
      rw [show j = t.2.2.2.length by omega]
      refine bX7_isFit_116 (vin fs.length rfl l24 (by decide)) (P := fun v S' G' => v = none ∧ S' = S1 ∧ G' = gus (va_up G2 22 (va_cpy (G2 13) (G2 22) (24 * p) (24 * r) t.2.2.2.length)) r k (nI (sl r k))) ?_ ?_
      · have e3 : va_up G2 22 (va_cpy (G2 13) (G2 22) (24 * p) (24 * r) t.2.2.2.length) 29 (nI fs.length).toNatClampNeg = nI k := by
          rw [nix fs.length rfl (by omega)]
          show G2 29 fs.length = nI k
          rw [c29, f3]
        have e4 : nI p - (4 : Int32) * nI r = nI (sl r k) := by rw [nc4, pk_sub (by omega), ← hp]; congr 1; omega
        rw [e3, e4]
        exact r_used r24 hk4 ⟨rfl, rfl, rfl⟩
      · rintro v S2 G3 ⟨rfl, rfl, rfl⟩
        refine bX7_isFit_132 (r_closed (Q := fun v S' G' => v = none ∧ S' = va_up S2 32 (nI fs.length) ∧ G' = gup (gup (gus (va_up G2 22 (va_cpy (G2 13) (G2 22) (24 * p) (24 * r) t.2.2.2.length)) r k (nI (sl r k))) 24 r 1) 25 r 0) r24 hS32 ⟨rfl, rfl, rfl⟩) ?_
        rintro v S3 G4 ⟨rfl, rfl, rfl⟩
        refine bX7_isFit_137 (hQ _ _ ?_)
        refine rep_close a4.2 hW.2.1.2.2.1 hW.tail_fw ?_ ?_ ?_ ?_ ?_ ?_ ?_
        · rw [← hG2]; exact a1
        · refine ⟨fun x y => if x = r then (if y = 0 then sl r k else if y ≤ k then sl r (y - 1) else sl r y) else sl x y, fun x hx => ?_⟩
          have cq : q_t (q_tr (q_stale R r k (-2)) r (zfront (q_t R r) k)) x = va_up (q_t R) r (zfront (q_t R r) k) x := rfl
          rw [cq]
          have tr0 : ∀ q u, rTr G1 q u → rTr (gus (va_up G2 22 (va_cpy (G2 13) (G2 22) (24 * p) (24 * r) t.2.2.2.length)) r k (nI (sl r k))) q u := by
            intro q u hu
            rw [← hG2]
            exact hu
          have ord : ∀ j, gus (va_up G2 22 (va_cpy (G2 13) (G2 22) (24 * p) (24 * r) t.2.2.2.length)) r k (nI (sl r k)) 8 j = (if j = 4 * r then nI (sl r k) else if 4 * r < j ∧ j ≤ 4 * r + k then G1 8 (j - 1) else G1 8 j) := by
            intro j
            rw [← hG2]
            rfl
          by_cases hxr : x = r
          · subst hxr
            rw [va_up_self, zfront_len]
            refine ⟨by rw [← hG2]; exact t1, fun y hy => ?_, fun y y' hy hy' hyy => ?_⟩
            · simp only [if_true]
              rw [zfront_getD hk, ord]
              by_cases y0 : y = 0
              · subst y0
                simp only [if_true, Nat.add_zero]
                exact ⟨s1, trivial, tr0 _ _ (by rw [hp, hte]; exact ⟨s3, ⟨o1, o2, o3, o4⟩, s5⟩)⟩
              · rw [if_neg (show ¬ y = 0 from y0), if_neg (show ¬ 4 * x + y = 4 * x by omega), if_neg (show ¬ y = 0 from y0)]
                by_cases yk : y ≤ k
                · rw [if_pos yk, if_pos (show 4 * x < 4 * x + y ∧ 4 * x + y ≤ 4 * x + k by omega), if_pos yk]
                  obtain ⟨u1, u2, u3⟩ := t2 (y - 1) (by omega)
                  refine ⟨u1, ?_, tr0 _ _ u3⟩
                  rw [show 4 * x + y - 1 = 4 * x + (y - 1) by omega]
                  exact u2
                · rw [if_neg yk, if_neg (show ¬ (4 * x < 4 * x + y ∧ 4 * x + y ≤ 4 * x + k) by omega), if_neg yk]
                  obtain ⟨u1, u2, u3⟩ := t2 y hy
                  exact ⟨u1, u2, tr0 _ _ u3⟩
            · simp only [if_true] at hyy
              by_cases y0 : y = 0 <;> by_cases y0' : y' = 0 <;> by_cases yk : y ≤ k <;> by_cases yk' : y' ≤ k <;> simp only [y0, y0', yk, yk', if_true, if_false, Nat.zero_le] at hyy <;> first
                | omega
                | (have := t3 _ _ (by omega) (by omega) hyy; omega)
          · rw [va_up_ne _ _ hxr]
            obtain ⟨u1, u2, u3⟩ := hT x hx
            refine ⟨by rw [← hG2]; exact u1, fun y hy => ?_, fun y y' hy hy' hyy => ?_⟩
            · simp only [if_neg hxr]
              obtain ⟨v1, v2, v3⟩ := u2 y hy
              refine ⟨v1, ?_, tr0 _ _ v3⟩
              have hy4 : y < 4 := by have := (hW.2.1.1 x).1; omega
              rw [ord, if_neg (by omega), if_neg (by omega)]
              exact v2
            · simp only [if_neg hxr] at hyy
              exact u3 y y' hy hy' hyy
        · intro x hx
          obtain ⟨b1, b2, b3, b4, b5⟩ := a3 x hx
          refine ⟨fun hxr => ⟨by rw [← hG2]; exact b1, fun q hq => ?_⟩, by rw [← hG2]; exact b3, by rw [← hG2]; exact b4, fun l hl => by rw [← hG2]; exact b5 l hl⟩
          have hq24 := (hW.2.1.2.1 x q hq).1
          refine zA_ne ?_ ?_ ?_ (fun j hj => ?_) (b2 q hq)
          · rw [← hG2]; show gup _ 19 r _ 19 x = _; rw [gup_at_ne hxr]; rfl
          · rw [← hG2]; show gup _ 20 r _ 20 x = _; rw [gup_at_ne hxr]; rfl
          · rw [← hG2]; show gup _ 21 r _ 21 x = _; rw [gup_at_ne hxr]; rfl
          · rw [← hG2]
            show va_cpy _ _ (24 * p) (24 * r) t.2.2.2.length (24 * x + j) = _
            rw [pk_cpy_out (by omega)]
            rfl
        · refine rF_cg (G := G1) fs (Nat.le_refl _) hW.tail_fw (fun k d _ hk => ?_) (fun k i hk _ => ?_) (fun j _ => by rw [← hG2]; rfl) (fun j _ => by rw [← hG2]; rfl) hF
          · rcases hk with h | h | h | h | h | h | h | h | h <;> subst h <;> rw [← hG2] <;> rfl
          · rcases hk with h | h | h | h <;> subst h <;> rw [← hG2] <;> rfl
        · refine rW_stale hk4 a6 (by rw [← hG2]; rfl) (fun j => ?_)
          rw [← hG2]
          show gup G1 58 (4 * r + k) (-2) 58 j = _
          rw [gup_at]
        · rw [← hG2]; exact a7
        · refine ⟨?_, ?_, ?_, fun j hj => ?_⟩
          · rw [← hG2]; simp [gus, gup, va_up, upd]
          · rw [← hG2]; simp [gus, gup, va_up, upd]
          · rw [← hG2]; simp [gus, gup, va_up, upd]
          · rw [← hG2]
            show va_cpy _ _ (24 * p) (24 * r) t.2.2.2.length (24 * r + j) = _
            rw [pk_cpy_in (by omega) (by omega), show 24 * r + j - 24 * r = j by omega]
            exact o4 j hj
    | succ e ih =>
      intro j hj
      refine bX7_isFit_75 (vin r rfl r24 (by decide)) (fun z => absurd z (by rw [nix r rfl (by omega)]; show ¬ G2 19 r ≤ _; rw [c19, nI_leI (by omega) (by omega)]; omega)) (fun _ => ?_)
      refine bX7_isFit_86 (vin (24 * p + j) (by simp only [nc4, nc6, nc16, nc24, nc25, nc4r, nI_add, nI_1, nI_0]) (by omega) (by decide)) (vin (24 * r + j) (by simp only [nc4, nc6, nc16, nc24, nc25, nc4r, nI_add, nI_1, nI_0]) (by omega) (by decide)) ?_
      rw [nix (x := (24 : Int32) * nI p + nI j) (24 * p + j) (by simp only [nc4, nc6, nc16, nc24, nc25, nc4r, nI_add, nI_1, nI_0]) (by omega), nix (x := (24 : Int32) * nI r + nI j) (24 * r + j) (by simp only [nc4, nc6, nc16, nc24, nc25, nc4r, nI_add, nI_1, nI_0]) (by omega), nI_1]
      have e5 : gup (va_up G2 22 (va_cpy (G2 13) (G2 22) (24 * p) (24 * r) j)) 22 (24 * r + j) (va_up G2 22 (va_cpy (G2 13) (G2 22) (24 * p) (24 * r) j) 13 (24 * p + j)) = va_up G2 22 (va_cpy (G2 13) (G2 22) (24 * p) (24 * r) (j + 1)) := by
        unfold gup
        rw [va_upup, va_up_self, ← va_cpy_sg]
        rfl
      rw [e5]
      exact ih (j + 1) (by omega)
  have h0 := key t.2.2.2.length 0 (by omega)
  rw [va_cpy_0g, va_upe] at h0
  exact h0
