theorem rE_cg {E : zE} {S : rS} {G G' : rG} (h : ∀ k, k < 6 → G' k = G k) (H : rE E S G) : rE E S G' := by
  unfold rE at H ⊢
  rw [h 0 (by omega), h 1 (by omega), h 2 (by omega), h 3 (by omega), h 4 (by omega), h 5 (by omega)]
  exact H
theorem rT_cg {R : zQ} {sl : Nat → Nat → Nat} {G G' : rG} (h : ∀ k, 7 ≤ k → k ≤ 18 → G' k = G k) (H : rT R sl G) : rT R sl G' := by
  unfold rT rTr zA at H ⊢
  rw [h 7 (by omega) (by omega), h 8 (by omega) (by omega), h 9 (by omega) (by omega), h 10 (by omega) (by omega), h 11 (by omega) (by omega), h 12 (by omega) (by omega), h 13 (by omega) (by omega), h 14 (by omega) (by omega), h 15 (by omega) (by omega), h 16 (by omega) (by omega), h 17 (by omega) (by omega), h 18 (by omega) (by omega)]
  exact H
theorem rR_cg {R : zQ} {G G' : rG} (h : ∀ k, 19 ≤ k → k ≤ 26 → G' k = G k) (H : rR R G) : rR R G' := by
  unfold rR zA at H ⊢
  rw [h 19 (by omega) (by omega), h 20 (by omega) (by omega), h 21 (by omega) (by omega), h 22 (by omega) (by omega), h 23 (by omega) (by omega), h 24 (by omega) (by omega), h 25 (by omega) (by omega), h 26 (by omega) (by omega)]
  exact H
theorem rW_cg {R : zQ} {w0 : Int32} {S : rS} {G G' : rG} (h1 : G' 57 = G 57) (h2 : G' 58 = G 58) (H : rW R w0 S G) : rW R w0 S G' := by
  unfold rW at H ⊢
  rw [h1, h2]
  exact H
theorem rC_cg {S : rS} {G G' : rG} {ct : rCt} (h1 : G' 56 = G 56) (h2 : G' 60 = G 60) (H : rC S G = ct) : rC S G' = ct := by
  unfold rC at H ⊢
  rw [h1, h2]
  exact H
/-- only the work at depth D has changed -/
def tk (D : Nat) (G G' : rG) : Prop := (∀ k, k < 30 ∨ k = 31 ∨ 43 < k → G' k = G k) ∧ (∀ k e, e < D → k = 30 ∨ k = 38 ∨ k = 40 ∨ k = 41 ∨ k = 42 ∨ k = 43 → G' k e = G k e) ∧ (∀ k i, k = 33 ∨ k = 34 ∨ k = 35 ∨ k = 36 → i < 25 * D → G' k i = G k i) ∧ (∀ j, j < 24 * D → G' 39 j = G 39 j) ∧ (∀ j, j < 600 * D → G' 37 j = G 37 j)
theorem tk.tr {D : Nat} {a b c : rG} (h1 : tk D a b) (h2 : tk D b c) : tk D a c := ⟨fun k hk => (h2.1 k hk).trans (h1.1 k hk), fun k e he hk => (h2.2.1 k e he hk).trans (h1.2.1 k e he hk), fun k i hk hi => (h2.2.2.1 k i hk hi).trans (h1.2.2.1 k i hk hi), fun j hj => (h2.2.2.2.1 j hj).trans (h1.2.2.2.1 j hj), fun j hj => (h2.2.2.2.2 j hj).trans (h1.2.2.2.2 j hj)⟩
theorem tk.rf {D : Nat} {a : rG} : tk D a a := ⟨fun _ _ => rfl, fun _ _ _ _ => rfl, fun _ _ _ _ => rfl, fun _ _ => rfl, fun _ _ => rfl⟩
theorem tk_gup {D k : Nat} {G : rG} {x : Int32} (hk : k = 30 ∨ k = 38 ∨ k = 40 ∨ k = 41 ∨ k = 42 ∨ k = 43) : tk D G (gup G k D x) := by
  refine ⟨fun j hj => gup_ne (by omega), fun j e he hj => ?_, fun j i hj hi => by rw [gup_ne (by omega)], fun j hj => by rw [gup_ne (by omega)], fun j hj => by rw [gup_ne (by omega)]⟩
  by_cases h : j = k
  · subst h
    exact gup_at_ne (by omega)
  · rw [gup_ne h]
theorem rep_tk {E : zE} {fs : List (Nat × zP)} {R : zQ} {w0 : Int32} {ct : rCt} {S : rS} {G G' : rG} {r : Nat} {w w' : zW} (hW : zWF E ((r, .inr w) :: fs) R) (h : rep E ((r, .inr w) :: fs) R w0 ct S G) (ht : tk fs.length G G') (hF : rFw G' fs.length w') : rep E ((r, .inr w') :: fs) R w0 ct S G' := by
  obtain ⟨a1, ⟨sl, a2⟩, a3, a4, a5, a6, a7⟩ := h
  refine ⟨rE_cg (fun k hk => ht.1 k (by omega)) a1, ⟨sl, rT_cg (fun k h1 h2 => ht.1 k (by omega)) a2⟩, rR_cg (fun k h1 h2 => ht.1 k (by omega)) a3, a4, ⟨⟨?_, hF⟩, ?_⟩, rW_cg (ht.1 57 (by omega)) (ht.1 58 (by omega)) a6, rC_cg (ht.1 56 (by omega)) (ht.1 60 (by omega)) a7⟩
  · rw [ht.1 28 (by omega)]
    exact a5.1.1
  · refine rF_cg (G := G) fs (Nat.le_refl _) hW.tail_fw (fun k d hd hk => ?_) (fun k i hk hi => ht.2.2.1 k i hk hi) ht.2.2.2.1 ht.2.2.2.2 a5.2
    rcases hk with h | h | h | h | h | h | h | h | h
    · subst h; rw [ht.1 28 (by omega)]
    · subst h; rw [ht.1 29 (by omega)]
    · exact ht.2.1 k d hd (by omega)
    · subst h; rw [ht.1 31 (by omega)]
    all_goals exact ht.2.1 k d hd (by omega)
theorem r_appends {d : Nat} {h0 : hp} {m : Nat} {ad : Nat → Nat} {S : rS} {G : rG} {Q : Option sV → rS → rG → Prop} {D a n : Nat} (hD : D < 24) (ha : a ≤ 24) (hn : n ≤ 24) (h38 : G 38 D = nI a) (h44 : S 44 = nI n) (q1 : 24 < a + n → Q none S (gup (gup (gup G 43 D 1) 41 D 2) 42 D (G 28 D))) (q2 : ¬ 24 < a + n → Q none S (gup (va_up G 39 (va_cpy (G 47) (G 39) 0 (24 * D + a) n)) 38 D (nI (a + n)))) : rM (d + 2) h0 m ad 111 [sR (some m), sI (nI D)] S G Q := by
  refine rM_of (ls := [sR (some m), sI (nI D), sU]) rfl (Nat.le_of_ble_eq_true rfl) rfl ?_
  have e1 : G 38 (nI D).toNatClampNeg + S 44 = nI (a + n) := by rw [nix D rfl (by omega), h38, h44, nI_add]
  refine bX7_appends_0 (vin D rfl hD (by decide)) (fun z => ?_) (fun z => ?_)
  · rw [e1, show (24 : Int32) = nI 24 from rfl, nI_leI (by omega) (by decide)] at z
    refine bX7_appends_29 ?_
    have key : ∀ e j : Nat, j + e = n → rWP (d + 1) h0 m ad 111 Q 31 [sR (some m), sI (nI D), sI (nI j)] [] S (va_up G 39 (va_cpy (G 47) (G 39) 0 (24 * D + a) j)) := by
      intro e
      induction e with
      | zero =>
        intro j hj
        refine bX7_appends_31 (fun _ => ?_) (fun y => absurd (by rw [h44]; exact nI_le (by omega) (by omega)) y)
        refine bX7_appends_69 (vin D rfl hD (by decide)) ?_
        rw [nix D rfl (by omega), h44]
        show Q none S (gup _ 38 D (G 38 D + nI n))
        rw [h38, nI_add, show j = n by omega]
        exact q2 (by omega)
      | succ e ih =>
        intro j hj
        refine bX7_appends_31 (fun y => absurd y (by rw [h44, nI_leI (by omega) (by omega)]; omega)) (fun _ => ?_)
        have e2 : (24 : Int32) * nI D + va_up G 39 (va_cpy (G 47) (G 39) 0 (24 * D + a) j) 38 (nI D).toNatClampNeg + nI j = nI (24 * D + a + j) := by
          rw [nix D rfl (by omega)]
          show (24 : Int32) * nI D + G 38 D + nI j = _
          rw [h38, nc24, nI_add, nI_add]
        refine bX7_appends_39 (vin D rfl hD (by decide)) (vin j rfl (by omega) (by decide)) (vin _ e2 (by omega) (by decide)) ?_
        rw [nix _ e2 (by omega), nix j rfl (by omega), nI_1]
        have e5 : gup (va_up G 39 (va_cpy (G 47) (G 39) 0 (24 * D + a) j)) 39 (24 * D + a + j) (va_up G 39 (va_cpy (G 47) (G 39) 0 (24 * D + a) j) 47 j) = va_up G 39 (va_cpy (G 47) (G 39) 0 (24 * D + a) (j + 1)) := by
          unfold gup
          rw [va_upup, va_up_self, ← va_cpy_sg, Nat.zero_add]
          rfl
        rw [e5]
        exact ih (j + 1) (by omega)
    have h0 := key n 0 (by omega)
    rw [va_cpy_0g, va_upe] at h0
    exact h0
  · rw [e1, show (24 : Int32) = nI 24 from rfl, nI_leI (by omega) (by decide)] at z
    refine bX7_appends_16 (vin D rfl hD (by decide)) (P := fun v S' G' => v = none ∧ S' = S ∧ G' = gup (gup (gup G 43 D 1) 41 D 2) 42 D (G 28 D)) ?_ ?_
    · rw [nix D rfl (by omega)]
      exact r_endsWith hD ⟨rfl, rfl, rfl⟩
    · rintro v S1 G1 ⟨rfl, rfl, rfl⟩
      exact bX7_appends_28 (q1 (by omega))
theorem zadd_snoc {x : Int32} {l : List Int32} {j : Nat} (h : j < l.length) : zadd x (l.take (j + 1)) = zadd x (l.take j) + l.getD j 0 := by
  unfold zadd
  rw [List.take_add_one, List.getElem?_eq_getElem h, List.foldl_append, List.getD_eq_getElem?_getD, List.getElem?_eq_getElem h]
  rfl
theorem r_takes {d : Nat} {h0 : hp} {m : Nat} {ad : Nat → Nat} {S : rS} {G : rG} {Q : Option sV → rS → rG → Prop} {E : zE} {fs : List (Nat × zP)} {R : zQ} {w0 : Int32} {ct : rCt} {r nm : Nat} {w : zW} {o : zO} (hW : zWF E ((r, .inr w) :: fs) R) (h : rep E ((r, .inr w) :: fs) R w0 ct S G) (w24 : w.1.length ≤ 24) (ho : zok o) (hG : zG S G o) (hQ : ∀ G', rep E ((r, .inr (ztake (e_k E r) (e_t E r) r w nm o)) :: fs) R w0 ct S G' → Q none S G') : rM (d + 3) h0 m ad 109 [sR (some m), sI (nI fs.length), sI (nI nm)] S G Q := by
  refine rM_of (ls := [sR (some m), sI (nI fs.length), sI (nI nm), sU, sU, sU, sU]) rfl (Nat.le_of_ble_eq_true rfl) rfl ?_
  obtain ⟨r24, -, -, l24, ⟨f1, u1, u2, u3, u4, u5, u6, u7, u8, u9⟩, -, -⟩ := rep_top hW h
  obtain ⟨k2, k5, k3, k4⟩ := h.1.2.2.1 r r24
  have hw := hW.2.2.1 _ List.mem_cons_self
  have row24 := hw.1.2.2.1
  obtain ⟨g1, g2, g3, g4⟩ := hG
  have o24 := ho.1
  have f1 : G 28 fs.length = nI r := f1
  have e1 : (25 : Int32) * nI fs.length + G 30 (nI fs.length).toNatClampNeg = nI (25 * fs.length + w.1.length) := by rw [nix fs.length rfl (by omega), u2, nc25, nI_add]
  refine bX7_takes_0 (vin fs.length rfl l24 (by decide)) (vin _ e1 (by omega) (by decide)) ?_
  rw [e1, nix fs.length rfl (by omega), f1, u2, nix (25 * fs.length + w.1.length) rfl (by omega), g1, g2, g3]
  generalize hp : 25 * fs.length + w.1.length = p
  have hp6 : p < 600 := by omega
  generalize hG1 : gup (gup (gup (gup G 33 p (nI nm)) 34 p (nI o.2.2.length)) 35 p o.1) 36 p o.2.1 = G1
  have t1 : tk fs.length G G1 := by
    rw [← hG1]
    refine ⟨fun k hk => ?_, fun k e he hk => ?_, fun k i hk hi => ?_, fun j hj => rfl, fun j hj => rfl⟩
    · rw [gup_ne (by omega), gup_ne (by omega), gup_ne (by omega), gup_ne (by omega)]
    · rw [gup_ne (by omega), gup_ne (by omega), gup_ne (by omega), gup_ne (by omega)]
    · have hne : ¬ i = p := by omega
      rcases hk with h | h | h | h <;> subst h <;> simp [gup, va_up, upd, hne]
  have key : ∀ e j : Nat, j + e = o.2.2.length → rWP (d + 2) h0 m ad 109 Q 68 [sR (some m), sI (nI fs.length), sI (nI nm), sI (nI r), sI (nI w.1.length), sI (nI p), sI (nI j)] [] S (va_up G1 37 (va_cpy (G1 47) (G1 37) 0 (24 * p) j)) := by
    intro e
    induction e with
    | succ e ih =>
      intro j hj
      refine bX7_takes_68 (fun y => absurd y (by rw [g1, nI_leI (by omega) (by omega)]; omega)) (fun _ => ?_)
      refine bX7_takes_77 (vin j rfl (by omega) (by decide)) (vin (24 * p + j) (by simp only [nc4, nc6, nc16, nc24, nc25, nc4r, nI_add, nI_1, nI_0]) (by omega) (by decide)) ?_
      rw [nix (x := (24 : Int32) * nI p + nI j) (24 * p + j) (by simp only [nc4, nc6, nc16, nc24, nc25, nc4r, nI_add, nI_1, nI_0]) (by omega), nix (x := nI j) j rfl (by omega), nI_1]
      have e5 : gup (va_up G1 37 (va_cpy (G1 47) (G1 37) 0 (24 * p) j)) 37 (24 * p + j) (va_up G1 37 (va_cpy (G1 47) (G1 37) 0 (24 * p) j) 47 j) = va_up G1 37 (va_cpy (G1 47) (G1 37) 0 (24 * p) (j + 1)) := by
        unfold gup
        rw [va_upup, va_up_self, ← va_cpy_sg, Nat.zero_add]
        rfl
      rw [e5]
      exact ih (j + 1) (by omega)
    | zero =>
      intro j hj
      refine bX7_takes_68 (fun _ => ?_) (fun y => absurd (by rw [g1]; exact nI_le (by omega) (by omega)) y)
      rw [show j = o.2.2.length by omega]
      generalize hG2 : va_up G1 37 (va_cpy (G1 47) (G1 37) 0 (24 * p) o.2.2.length) = G2
      have t2 : tk fs.length G G2 := by
        refine t1.tr ?_
        rw [← hG2]
        refine ⟨fun k hk => va_up_ne _ _ (by omega), fun k e he hk => by rw [va_up_ne _ _ (by omega)], fun k i hk hi => by rw [va_up_ne _ _ (by omega)], fun j hj => rfl, fun j hj => ?_⟩
        rw [va_up_self, pk_cpy_out (by omega)]
      have d30 : G2 30 fs.length = nI w.1.length := by rw [← hG2, ← hG1]; exact u2
      -- with the read, before what it does
      have F3 : rFw (gup G2 30 fs.length (nI (w.1.length + 1))) fs.length (w.1 ++ [(nm, o)], w.2) := by
        refine ⟨by rw [← hG2, ← hG1]; exact u1, ?_, fun i hi => ?_, by rw [← hG2, ← hG1]; exact u4, fun j hj => by rw [← hG2, ← hG1]; exact u5 j hj, by rw [← hG2, ← hG1]; exact u6, by rw [← hG2, ← hG1]; exact u7, by rw [← hG2, ← hG1]; exact u8, by rw [← hG2, ← hG1]; exact u9⟩
        · rw [gup_at_self, List.length_append]
          rfl
        · have hi : i < (w.1 ++ [(nm, o)]).length := hi
          rw [List.length_append, List.length_singleton] at hi
          by_cases hiw : i = w.1.length
          · have eg : (w.1 ++ [(nm, o)]).getD i zr0 = (nm, o) := by
              rw [hiw, List.getD_eq_getElem?_getD, List.getElem?_append_right (Nat.le_refl _), Nat.sub_self]
              rfl
            show _ = nI ((w.1 ++ [(nm, o)]).getD i zr0).1 ∧ zA _ 34 35 36 37 _ ((w.1 ++ [(nm, o)]).getD i zr0).2
            rw [eg, hiw, hp, ← hG2, ← hG1]
            refine ⟨by simp [gup, va_up, upd], by simp [gup, va_up, upd], by simp [gup, va_up, upd], by simp [gup, va_up, upd], fun j hj => ?_⟩
            show va_cpy _ _ 0 (24 * p) o.2.2.length (24 * p + j) = _
            rw [pk_cpy_in (by omega) (by have hj : j < o.2.2.length := hj; omega), show 0 + (24 * p + j - 24 * p) = j by omega]
            exact g4 j hj
          · have eg : (w.1 ++ [(nm, o)]).getD i zr0 = w.1.getD i zr0 := by
              rw [List.getD_eq_getElem?_getD, List.getElem?_append_left (by omega), ← List.getD_eq_getElem?_getD]
            show _ = nI ((w.1 ++ [(nm, o)]).getD i zr0).1 ∧ zA _ 34 35 36 37 _ ((w.1 ++ [(nm, o)]).getD i zr0).2
            rw [eg, ← hG2, ← hG1]
            have ilt : i < w.1.length := by omega
            have hg : (w.1.getD i zr0).2.2.2.length ≤ 24 := (hw.1.2.1 _ (by rw [List.getD_eq_getElem?_getD, List.getElem?_eq_getElem ilt]; exact List.getElem_mem ilt)).1.1
            obtain ⟨b1, b2⟩ := u3 i ilt
            have hne : ¬ 25 * fs.length + i = p := by omega
            refine ⟨?_, zA_ne ?_ ?_ ?_ (fun j hj => ?_) b2⟩
            · simp [gup, va_up, upd, hne]; exact b1
            · simp [gup, va_up, upd, hne]
            · simp [gup, va_up, upd, hne]
            · simp [gup, va_up, upd, hne]
            · show va_cpy _ _ 0 (24 * p) o.2.2.length _ = _
              rw [pk_cpy_out (by omega)]
              rfl
      have t3 : tk fs.length G (gup G2 30 fs.length (nI (w.1.length + 1))) := t2.tr (tk_gup (by simp))
      generalize hG3 : gup G2 30 fs.length (nI (w.1.length + 1)) = G3 at F3 t3
      have c2 : G3 2 r = e_k E r := by rw [t3.1 2 (by omega)]; exact k2
      have c5 : G3 5 r = (if e_t E r = true then 1 else 0) := by rw [t3.1 5 (by omega)]; exact k5
      have c28 : G3 28 fs.length = nI r := by rw [t3.1 28 (by omega)]; exact f1
      have c47 : G3 47 = G 47 := t3.1 47 (by omega)
      obtain ⟨v1, v2, v3, v4, v5, v6, v7, v8, v9⟩ := id F3
      -- the rest, for a failure that isn't taken so, and for rows
      have go145 : ¬ (¬ o.1 = 0 ∧ e_t E r = true) → ∀ v6' : sV, rWP (d + 2) h0 m ad 109 Q 145 [sR (some m), sI (nI fs.length), sI (nI nm), sI (nI r), sI (nI w.1.length), sI (nI p), v6'] [] S G3 := by
        intro hno v6'
        refine bX7_takes_145 (vin r rfl r24 (by decide)) (fun z => ?_) (fun z => ?_)
        · rw [nix r rfl (by omega), c2] at z
          -- JOIN, SORT, FIRST, PICK, TABLE
          have go231 : ∀ (G4 : rG) (b : Bool), tk fs.length G G4 → (k5 : e_k E r < 5 ∨ 0 < w.1.length) → b = (w.2.2.2.1 || (e_k E r == 4 && decide (0 < o.2.2.length))) → rFw G4 fs.length (w.1 ++ [(nm, o)], w.2.1, w.2.2.1, b, w.2.2.2.2) → rWP (d + 2) h0 m ad 109 Q 231 [sR (some m), sI (nI fs.length), sI (nI nm), sI (nI r), sI (nI w.1.length), sI (nI p), v6'] [] S G4 := by
            intro G4 b t4 k5 hb F4
            obtain ⟨x1, x2, x3, x4, x5, x6, x7, x8, x9⟩ := id F4
            have c28' : G4 28 fs.length = nI r := by rw [t4.1 28 (by omega)]; exact f1
            have c47' : G4 47 = G 47 := t4.1 47 (by omega)
            refine bX7_takes_231 (P := fun v S' G' => v = none ∧ S' = S ∧ rep E ((r, .inr (ztake (e_k E r) (e_t E r) r w nm o)) :: fs) R w0 ct S G') (r_appends (d := d) l24 row24 o24 x4 g1 (fun a => ⟨rfl, rfl, ?_⟩) (fun a => ⟨rfl, rfl, ?_⟩)) ?_
            · have ez : ztake (e_k E r) (e_t E r) r w nm o = (w.1 ++ [(nm, o)], w.2.1, w.2.2.1, true, 2, nI r) := by
                unfold ztake
                rw [if_neg hno, if_neg z, if_pos k5, if_pos a]
              rw [ez]
              refine rep_tk hW h (((t4.tr (tk_gup (by simp))).tr (tk_gup (by simp))).tr (tk_gup (by simp))) ?_
              exact ⟨x1, x2, x3, x4, x5, x6, by show gup _ 43 fs.length 1 43 fs.length = _; rw [gup_at_self]; rfl, by show gup _ 41 fs.length 2 41 fs.length = _; rw [gup_at_self], by rw [gup_at_self]; exact c28'⟩
            · have ez : ztake (e_k E r) (e_t E r) r w nm o = (w.1 ++ [(nm, o)], w.2.1 ++ o.2.2, w.2.2.1, b, w.2.2.2.2) := by
                unfold ztake
                rw [if_neg hno, if_neg z, if_pos k5, if_neg a, hb]
              rw [ez]
              refine rep_tk hW h ((t4.tr ?_).tr (tk_gup (by simp))) ?_
              · refine ⟨fun k hk => va_up_ne _ _ (by omega), fun k e he hk => by rw [va_up_ne _ _ (by omega)], fun k i hk hi => by rw [va_up_ne _ _ (by omega)], fun j hj => ?_, fun j hj => rfl⟩
                rw [va_up_self, pk_cpy_out (by omega)]
              · refine ⟨x1, x2, x3, ?_, fun j hj => ?_, x6, x7, x8, x9⟩
                · rw [gup_at_self, List.length_append]
                · have hj : j < (w.2.1 ++ o.2.2).length := hj
                  rw [List.length_append] at hj
                  show va_cpy (G4 47) (G4 39) 0 (24 * fs.length + w.2.1.length) o.2.2.length (24 * fs.length + j) = (w.2.1 ++ o.2.2).getD j 0
                  by_cases hjl : j < w.2.1.length
                  · rw [pk_cpy_out (by omega), x5 j hjl, List.getD_eq_getElem?_getD, List.getD_eq_getElem?_getD, List.getElem?_append_left hjl]
                  · rw [pk_cpy_in (by omega) (by omega), show 0 + (24 * fs.length + j - (24 * fs.length + w.2.1.length)) = j - w.2.1.length by omega, c47', g4 _ (by omega), List.getD_eq_getElem?_getD, List.getD_eq_getElem?_getD, List.getElem?_append_right (by omega)]
            · rintro v S1 G5 ⟨rfl, rfl, hr5⟩
              exact bX7_takes_236 (hQ G5 hr5)
          have go207 : (e_k E r < 5 ∨ 0 < w.1.length) → rWP (d + 2) h0 m ad 109 Q 207 [sR (some m), sI (nI fs.length), sI (nI nm), sI (nI r), sI (nI w.1.length), sI (nI p), v6'] [] S G3 := by
            intro k5
            refine bX7_takes_207 (vin r rfl r24 (by decide)) (fun a => ?_) (fun a => ?_)
            · rw [nix r rfl (by omega), c2] at a
              exact go231 G3 w.2.2.2.1 t3 k5 (by simp [a]) F3
            · rw [nix r rfl (by omega), c2] at a
              refine bX7_takes_217 (fun b => ?_) (fun b => ?_)
              · rw [g1, ← nI_0, nI_leI (by omega) (by decide)] at b
                exact go231 G3 w.2.2.2.1 t3 k5 (by simp [show o.2.2.length = 0 by omega]) F3
              · rw [g1, ← nI_0, nI_leI (by omega) (by decide)] at b
                refine bX7_takes_224 (vin fs.length rfl l24 (by decide)) ?_
                rw [nix fs.length rfl (by omega)]
                refine go231 _ true (t3.tr (tk_gup (by simp))) k5 (by simp [a, show 0 < o.2.2.length by omega]) ⟨v1, v2, v3, v4, v5, v6, ?_, v8, v9⟩
                show gup G3 43 fs.length 1 43 fs.length = _
                rw [gup_at_self]
                rfl
          refine bX7_takes_192 (vin r rfl r24 (by decide)) (fun a => ?_) (fun a => ?_)
          · rw [nix r rfl (by omega), c2] at a
            exact go207 (Or.inl a)
          · rw [nix r rfl (by omega), c2] at a
            refine bX7_takes_202 (fun b => ?_) (fun b => ?_)
            · rw [← nI_0, nI_leI (by omega) (by decide)] at b
              refine bX7_takes_236 (hQ G3 ?_)
              have ez : ztake (e_k E r) (e_t E r) r w nm o = (w.1 ++ [(nm, o)], w.2) := by
                unfold ztake
                rw [if_neg hno, if_neg z, if_neg (by rintro (h | h); exact a h; omega)]
              rw [ez]
              exact rep_tk hW h t3 F3
            · rw [← nI_0, nI_leI (by omega) (by decide)] at b
              exact go207 (Or.inr (by omega))
        · rw [nix r rfl (by omega), c2] at z
          refine bX7_takes_155 ?_
          have ez : ztake (e_k E r) (e_t E r) r w nm o = (w.1 ++ [(nm, o)], w.2.1, zadd w.2.2.1 o.2.2, w.2.2.2) := by
            unfold ztake
            rw [if_neg hno, if_pos z]
          have sumL : ∀ e j : Nat, j + e = o.2.2.length → rWP (d + 2) h0 m ad 109 Q 158 [sR (some m), sI (nI fs.length), sI (nI nm), sI (nI r), sI (nI w.1.length), sI (nI p), sI (nI j)] [] S (gup G3 40 fs.length (zadd w.2.2.1 (o.2.2.take j))) := by
            intro e
            induction e with
            | zero =>
              intro j hj
              refine bX7_takes_158 (fun _ => ?_) (fun y => absurd (by rw [g1]; exact nI_le (by omega) (by omega)) y)
              refine bX7_takes_189 (bX7_takes_236 (hQ _ ?_))
              rw [ez]
              refine rep_tk hW h (t3.tr (tk_gup (by simp))) ⟨v1, v2, v3, v4, v5, ?_, v7, v8, v9⟩
              rw [gup_at_self, show j = o.2.2.length by omega, List.take_length]
            | succ e ih =>
              intro j hj
              refine bX7_takes_158 (fun y => absurd y (by rw [g1, nI_leI (by omega) (by omega)]; omega)) (fun _ => ?_)
              refine bX7_takes_167 (vin fs.length rfl l24 (by decide)) (vin j rfl (by omega) (by decide)) ?_
              rw [nix fs.length rfl (by omega), nix j rfl (by omega), gup_at_self, nI_1]
              have e7 : gup G3 40 fs.length (zadd w.2.2.1 (o.2.2.take j)) 47 j = o.2.2.getD j 0 := by
                show G3 47 j = _
                rw [c47]
                exact g4 j (by omega)
              rw [e7, ← zadd_snoc (by omega)]
              have e8 : ∀ a b : Int32, gup (gup G3 40 fs.length a) 40 fs.length b = gup G3 40 fs.length b := by
                intro a b
                unfold gup
                rw [va_upup, va_up_self]
                congr 1
                funext i
                simp only [upd]
                split <;> rfl
              rw [e8]
              exact ih (j + 1) (by omega)
          have h0 := sumL o.2.2.length 0 (by omega)
          rw [List.take_zero, show zadd w.2.2.1 [] = w.2.2.1 from rfl, gup_same v6] at h0
          exact h0
      have d30' : G2 30 (nI fs.length).toNatClampNeg + 1 = nI (w.1.length + 1) := by rw [nix fs.length rfl (by omega), d30, nI_1]
      refine bX7_takes_103 (vin fs.length rfl l24 (by decide)) (fun z => ?_) (fun z => ?_)
      · rw [g2] at z
        rw [d30', nix fs.length rfl (by omega), hG3]
        exact go145 (fun hh => hh.1 z) _
      · rw [g2] at z
        rw [d30', nix fs.length rfl (by omega), hG3]
        refine bX7_takes_120 (vin r rfl r24 (by decide)) (fun y => ?_) (fun y => ?_)
        · rw [nix r rfl (by omega), c5] at y
          exact go145 (fun hh => by rw [if_pos hh.2] at y; exact absurd y (by decide)) _
        · rw [nix r rfl (by omega), c5] at y
          have hst : e_t E r = true := Classical.byContradiction fun hh => y (by rw [if_neg hh])
          refine bX7_takes_129 (P := fun v S' G' => v = none ∧ S' = S ∧ G' = gup (gup (gup G3 43 fs.length 1) 41 fs.length o.1) 42 fs.length o.2.1) ?_ ?_
          · rw [g2, g3]
            exact rM_le (Nat.le_add_left 1 (d + 1)) (r_endsWith (d := 0) l24 ⟨rfl, rfl, rfl⟩)
          · rintro v S1 G5 ⟨rfl, rfl, rfl⟩
            refine bX7_takes_142 (bX7_takes_236 (hQ _ ?_))
            have ez : ztake (e_k E r) (e_t E r) r w nm o = (w.1 ++ [(nm, o)], w.2.1, w.2.2.1, true, o.1, o.2.1) := by
              unfold ztake
              rw [if_pos ⟨z, hst⟩]
            rw [ez]
            refine rep_tk hW h (((t3.tr (tk_gup (by simp))).tr (tk_gup (by simp))).tr (tk_gup (by simp))) ?_
            exact ⟨v1, v2, v3, v4, v5, v6, by show gup _ 43 fs.length 1 43 fs.length = _; rw [gup_at_self]; rfl, by show gup _ 41 fs.length _ 41 fs.length = _; rw [gup_at_self], by rw [gup_at_self]⟩
  have h0 := key o.2.2.length 0 (by omega)
  rw [va_cpy_0g, va_upe] at h0
  exact h0
