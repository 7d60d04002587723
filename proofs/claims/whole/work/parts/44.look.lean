/-- the top frame of a rule that is looked at: where it stands -/
theorem rep_top {E : zE} {f : Nat × zP} {fs : List (Nat × zP)} {R : zQ} {w0 : Int32} {ct : rCt} {S : rS} {G : rG} (hW : zWF E (f :: fs) R) (h : rep E (f :: fs) R w0 ct S G) : f.1 < 24 ∧ f.1 < e_n E ∧ f.1 ∈ q_s R ∧ fs.length < 24 ∧ rFr G fs.length f ∧ rF G fs ∧ S 32 = nI (fs.length + 1) := by
  have h1 : f.1 ∈ q_s R := by rw [h.2.2.2.1.2]; exact List.mem_cons_self
  have h2 := hW.2.1.2.2.2 f.1 h1
  have h3 := hW.1.1
  have h4 := hW.len
  simp only [List.length_cons] at h4
  exact ⟨by omega, h2, h1, by omega, h.2.2.2.2.1.1, h.2.2.2.2.1.2, h.2.2.2.1.1⟩
theorem zget_mem {l : List zT} {k : Nat} (h : k < l.length) : l.getD k zt0 ∈ l := by
  rw [List.getD_eq_getElem?_getD, List.getElem?_eq_getElem h]
  exact List.getElem_mem h
theorem r_nextOld {d : Nat} {h0 : hp} {m : Nat} {ad : Nat → Nat} {S : rS} {G : rG} {Q : Option sV → rS → rG → Prop} {E : zE} {fs : List (Nat × zP)} {R : zQ} {w0 : Int32} {ct : rCt} {r k i : Nat} (hW : zWF E ((r, .inl (k, i)) :: fs) R) (h : rep E ((r, .inl (k, i)) :: fs) R w0 ct S G) (hk : k < (q_t R r).length) (hi : i ≤ ((q_t R r).getD k zt0).1.length) (hQ : Q (some (sI (match ((q_t R r).getD k zt0).1[i]? with | some g => nI g.1 | none => -1))) S G) : rM (d + 2) h0 m ad 100 [sR (some m), sI (nI fs.length)] S G Q := by
  refine rM_of (ls := [sR (some m), sI (nI fs.length), sU]) rfl (Nat.le_of_ble_eq_true rfl) rfl ?_
  obtain ⟨r24, -, -, l24, ⟨f1, f2, f3, f4⟩, -, -⟩ := rep_top hW h
  obtain ⟨sl, hT⟩ := h.2.1
  obtain ⟨t1, t2, t3⟩ := hT r r24
  obtain ⟨s1, s2, s3, s4, s5⟩ := t2 k hk
  have hk4 : k < 4 := by have := (hW.2.1.1 r).1; omega
  have ht := (hW.2.1.1 r).2 _ (zget_mem hk)
  generalize hte : (q_t R r).getD k zt0 = t at *
  have h25 := ht.1
  refine bX7_nextOld_0 (vin fs.length rfl l24 (by decide)) (P := fun v S' G' => v = some (sI (nI (4 * r + sl r k))) ∧ S' = S ∧ G' = G) ?_ ?_
  · rw [nix fs.length rfl (by omega), f1, f3]
    exact r_slotOf r24 hk4 ⟨by rw [s2, nc4, nI_add], rfl, rfl⟩
  · rintro v S1 G1 ⟨rfl, rfl, rfl⟩
    refine bX7_nextOld_16 (vin fs.length rfl l24 (by decide)) (vin (4 * r + sl r k) rfl (by omega) (by decide)) (fun z => ?_) (fun z => ?_)
    · rw [nix fs.length rfl (by omega), nix (4 * r + sl r k) rfl (by omega), s3, f4, nI_leI (by omega) (by omega)] at z
      rw [List.getElem?_eq_none z] at hQ
      exact bX7_nextOld_51 (bX7_nextOld_52 hQ)
    · rw [nix fs.length rfl (by omega), nix (4 * r + sl r k) rfl (by omega), s3, f4, nI_leI (by omega) (by omega)] at z
      have hlt : i < t.1.length := by omega
      refine bX7_nextOld_32 (vin fs.length rfl l24 (by decide)) (vin (25 * (4 * r + sl r k) + i) (by rw [nix fs.length rfl (by omega), f4]; simp only [nc4, nc6, nc16, nc24, nc25, nc4r, nI_add, nI_1, nI_0]) (by omega) (by decide)) ?_
      rw [nix (25 * (4 * r + sl r k) + i) (by rw [nix fs.length rfl (by omega), f4]; simp only [nc4, nc6, nc16, nc24, nc25, nc4r, nI_add, nI_1, nI_0]) (by omega), (s5 i hlt).1]
      rw [List.getElem?_eq_getElem hlt] at hQ
      rw [List.getD_eq_getElem?_getD, List.getElem?_eq_getElem hlt]
      exact bX7_nextOld_52 hQ
theorem zO_eq {o p : zO} (h1 : o.2.2.length = p.2.2.length) (h2 : o.1 = p.1) (h3 : o.2.1 = p.2.1) (h4 : ∀ j, j < o.2.2.length → o.2.2.getD j 0 = p.2.2.getD j 0) : o = p := by
  refine Prod.ext h2 (Prod.ext h3 ?_)
  apply List.ext_getElem h1
  intro j j1 j2
  have := h4 j j1
  rw [List.getD_eq_getElem?_getD, List.getD_eq_getElem?_getD, List.getElem?_eq_getElem j1, List.getElem?_eq_getElem j2] at this
  exact this
theorem r_compares {d : Nat} {h0 : hp} {m : Nat} {ad : Nat → Nat} {S : rS} {G : rG} {Q : Option sV → rS → rG → Prop} {E : zE} {fs : List (Nat × zP)} {R : zQ} {w0 : Int32} {ct : rCt} {r k i : Nat} {g : zR} {o : zO} (hW : zWF E ((r, .inl (k, i)) :: fs) R) (h : rep E ((r, .inl (k, i)) :: fs) R w0 ct S G) (hk : k < (q_t R r).length) (hg : ((q_t R r).getD k zt0).1[i]? = some g) (ho : zok o) (hG : zG S G o) (q1 : o = g.2 → Q none S (gup G 30 fs.length (nI (i + 1)))) (q2 : ¬ o = g.2 → Q none S (gup (gup (gup G 58 (4 * r + k) (nI i)) 29 fs.length (nI (k + 1))) 30 fs.length 0)) : rM (d + 2) h0 m ad 101 [sR (some m), sI (nI fs.length)] S G Q := by
  refine rM_of (ls := [sR (some m), sI (nI fs.length), sU, sU, sU, sU]) rfl (Nat.le_of_ble_eq_true rfl) rfl ?_
  obtain ⟨r24, -, -, l24, ⟨f1, f2, f3, f4⟩, -, -⟩ := rep_top hW h
  obtain ⟨sl, hT⟩ := h.2.1
  obtain ⟨t1, t2, t3⟩ := hT r r24
  obtain ⟨s1, s2, s3, s4, s5⟩ := t2 k hk
  have hk4 : k < 4 := by have := (hW.2.1.1 r).1; omega
  have ht := (hW.2.1.1 r).2 _ (zget_mem hk)
  generalize hte : (q_t R r).getD k zt0 = t at *
  have hi := (List.getElem?_eq_some_iff.mp hg).1
  have h25 := ht.1
  have hgo : zok g.2 := (ht.2.1 g (List.mem_of_getElem? hg)).1
  have e0 : t.1.getD i zr0 = g := by rw [List.getD_eq_getElem?_getD, hg]; rfl
  obtain ⟨-, c1, c2, c3, c4⟩ := s5 i hi
  rw [e0] at c1 c2 c3 c4
  obtain ⟨g1, g2, g3, g4⟩ := hG
  have o24 := ho.1
  have go24 := hgo.1
  generalize hp : 25 * (4 * r + sl r k) + i = p at c1 c2 c3 c4
  have hp2400 : p < 2400 := by omega
  -- the two ends
  have end1 : ∀ v4 v5 : sV, o = g.2 → rWP (d + 1) h0 m ad 101 Q 132 [sR (some m), sI (nI fs.length), sI (nI r), sI (nI p), v4, v5] [] S G := fun v4 v5 he => by
    refine bX7_compares_132 (vin fs.length rfl l24 (by decide)) ?_
    rw [nix fs.length rfl (by omega), f4, nI_1]
    exact q1 he
  have end2 : ∀ v4 v5 : sV, ¬ o = g.2 → rWP (d + 1) h0 m ad 101 Q 143 [sR (some m), sI (nI fs.length), sI (nI r), sI (nI p), v4, v5] [] S G := fun v4 v5 he => by
    have e1 : (4 : Int32) * nI r + G 29 (nI fs.length).toNatClampNeg = nI (4 * r + k) := by rw [nix fs.length rfl (by omega), f3, nc4, nI_add]
    refine bX7_compares_143 (vin fs.length rfl l24 (by decide)) (vin (4 * r + k) e1 (by omega) (by decide)) ?_
    rw [nix (4 * r + k) e1 (by omega), nix fs.length rfl (by omega), f4, f3, nI_1]
    exact q2 he
  -- the loop
  have loop : ∀ (e j : Nat) (b : Int32), j + e = o.2.2.length → ((¬ b = 0 → g.2.2.2.length = o.2.2.length ∧ (∀ x, x < j → o.2.2.getD x 0 = g.2.2.2.getD x 0) ∧ o.1 = g.2.1 ∧ o.2.1 = g.2.2.1) ∧ (b = 0 → ¬ o = g.2)) → rWP (d + 1) h0 m ad 101 Q 78 [sR (some m), sI (nI fs.length), sI (nI r), sI (nI p), sI b, sI (nI j)] [] S G := by
    intro e
    induction e with
    | zero =>
      intro j b hj hb
      refine bX7_compares_78 (fun _ => ?_) (fun z => absurd (by rw [g1]; exact nI_le (by omega) (by omega)) z)
      refine bX7_compares_127 (fun z => end2 _ _ (hb.2 z)) (fun z => end1 _ _ ?_)
      obtain ⟨a1, a2, a3, a4⟩ := hb.1 z
      exact zO_eq a1.symm a3 a4 (fun x hx => a2 x (by omega))
    | succ e ih =>
      intro j b hj hb
      refine bX7_compares_78 (fun z => absurd z (by rw [g1, nI_leI (by omega) (by omega)]; omega)) (fun _ => ?_)
      refine bX7_compares_87 (fun z => ?_) (fun z => ?_)
      · exact bX7_compares_127 (fun z => end2 _ _ (hb.2 z)) (fun z' => absurd z z')
      · obtain ⟨a1, a2, a3, a4⟩ := hb.1 z
        refine bX7_compares_92 (vin (24 * p + j) (by simp only [nc4, nc6, nc16, nc24, nc25, nc4r, nI_add, nI_1, nI_0]) (by omega) (by decide)) (vin j rfl (by omega) (by decide)) (fun y => ?_) (fun y => ?_)
        · rw [nix (24 * p + j) (by simp only [nc4, nc6, nc16, nc24, nc25, nc4r, nI_add, nI_1, nI_0]) (by omega), nix j rfl (by omega), c4 j (by omega), g4 j (by omega)] at y
          refine bX7_compares_118 (bX7_compares_119 ?_)
          rw [nI_1]
          exact ih (j + 1) 0 (by omega) ⟨fun z => absurd rfl z, fun _ he => y (by rw [he])⟩
        · rw [nix (24 * p + j) (by simp only [nc4, nc6, nc16, nc24, nc25, nc4r, nI_add, nI_1, nI_0]) (by omega), nix j rfl (by omega), c4 j (by omega), g4 j (by omega)] at y
          refine bX7_compares_114 (bX7_compares_119 ?_)
          rw [nI_1]
          refine ih (j + 1) 1 (by omega) ⟨fun _ => ⟨a1, fun x hx => ?_, a3, a4⟩, fun z => absurd z (by decide)⟩
          by_cases hx' : x = j
          · rw [hx', y]
          · exact a2 x (by omega)
  refine bX7_compares_0 (vin fs.length rfl l24 (by decide)) (P := fun v S' G' => v = some (sI (nI (4 * r + sl r k))) ∧ S' = S ∧ G' = G) ?_ ?_
  · rw [nix fs.length rfl (by omega), f1, f3]
    exact r_slotOf r24 hk4 ⟨by rw [s2, nc4, nI_add], rfl, rfl⟩
  · rintro v S1 G1 ⟨rfl, rfl, rfl⟩
    rw [nix fs.length rfl (by omega), f1]
    have e2 : (25 : Int32) * nI (4 * r + sl r k) + G1 30 (nI fs.length).toNatClampNeg = nI p := by rw [nix fs.length rfl (by omega), f4, nc25, nI_add, hp]
    have no : ∀ v4 v5 : sV, ¬ o = g.2 → rWP (d + 1) h0 m ad 101 Q 72 [sR (some m), sI (nI fs.length), sI (nI r), sI (nI p), v4, v5] [] S1 G1 := fun v4 v5 he => bX7_compares_72 (bX7_compares_73 (loop o.2.2.length 0 0 (by omega) ⟨fun z => absurd rfl z, fun _ => he⟩))
    refine bX7_compares_20 (vin fs.length rfl l24 (by decide)) (vin p e2 hp2400 (by decide)) (fun z => ?_) (fun z => ?_)
    · rw [e2] at z ⊢
      exact no _ _ (fun he => z (by rw [nix p rfl (by omega), c1, g1, he]))
    · rw [e2] at z ⊢
      rw [nix p rfl (by omega), c1, g1, nI_eq (by omega) (by omega)] at z
      refine bX7_compares_42 (vin p rfl hp2400 (by decide)) (fun y => ?_) (fun y => ?_)
      · exact no _ _ (fun he => y (by rw [nix p rfl (by omega), c2, g2, he]))
      · rw [nix p rfl (by omega), c2, g2] at y
        refine bX7_compares_55 (vin p rfl hp2400 (by decide)) (fun x => ?_) (fun x => ?_)
        · exact no _ _ (fun he => x (by rw [nix p rfl (by omega), c3, g3, he]))
        · rw [nix p rfl (by omega), c3, g3] at x
          exact bX7_compares_68 (bX7_compares_73 (loop o.2.2.length 0 1 (by omega) ⟨fun _ => ⟨z, fun x hx => absurd hx (by omega), y.symm, x.symm⟩, fun w => absurd w (by decide)⟩))
