theorem zhead_once {E : zE} {f : Nat × zP} {fs : List (Nat × zP)} {R : zQ} (hW : zWF E (f :: fs) R) : ∀ g ∈ fs, g.1 ≠ f.1 := by
  intro g hg he
  have h1 := hW.2.1.2.2.1
  rw [hW.2.2.2.1, List.map_cons, List.nodup_cons] at h1
  exact h1.1 (List.mem_map.mpr ⟨g, hg, he⟩)
theorem zwk_lt {E : zE} {r : Nat} {p : Nat × Nat} {fs : List (Nat × zP)} {R : zQ} (hW : zWF E ((r, .inl p) :: fs) R) (hr : r < 24) (hf : e_f E = false) : (q_w R).length < 24 ∧ r ∉ q_w R := by
  obtain ⟨h1, h2⟩ := hW.2.2.2.2.2 hf
  have hn : r ∉ q_w R := by
    intro hm
    rcases (h2 r hm).2 with h | ⟨w, h⟩
    · have := hW.2.2.2.2.1 r (by rw [hW.2.2.2.1]; exact List.mem_cons_self)
      rw [this] at h
      cases h
    · rcases List.mem_cons.mp h with h | h
      · cases h
      · exact zhead_once hW _ h rfl
  have := znd 24 (r :: q_w R) (List.nodup_cons.mpr ⟨hn, h1⟩) (fun x hx => by
    rcases List.mem_cons.mp hx with rfl | hx
    · exact hr
    · exact (h2 x hx).1)
  simp only [List.length_cons] at this
  exact ⟨by omega, hn⟩
theorem zWF.tail_fw {E : zE} {f : Nat × zP} {fs : List (Nat × zP)} {R : zQ} (h : zWF E (f :: fs) R) : ∀ g ∈ fs, zfw g := fun g hg => h.fw g (List.mem_cons_of_mem _ hg)
theorem r_begins {d : Nat} {h0 : hp} {m : Nat} {ad : Nat → Nat} {S : rS} {G : rG} {Q : Option sV → rS → rG → Prop} {E : zE} {fs : List (Nat × zP)} {R : zQ} {w0 : Int32} {ct : rCt} {r : Nat} {p : Nat × Nat} (hW : zWF E ((r, .inl p) :: fs) R) (h : rep E ((r, .inl p) :: fs) R w0 ct S G) (hQ : ∀ S' G', rep E ((r, .inr zw0) :: fs) (if e_f E = true then R else q_note R r) w0 ct S' G' → Q none S' G') : rM (d + 1) h0 m ad 107 [sR (some m), sI (nI fs.length)] S G Q := by
  refine rM_of (ls := [sR (some m), sI (nI fs.length)]) rfl (Nat.le_of_ble_eq_true rfl) rfl ?_
  obtain ⟨r24, -, -, l24, ⟨f1, f2, f3, f4⟩, hF, -⟩ := rep_top hW h
  obtain ⟨a1, a2, a3, a4, a5, a6, a7⟩ := id h
  have hfr : S 27 = (if e_f E = true then 1 else 0) := a1.2.2.2
  have hFn : ∀ G1 : rG, (∀ k j, ¬ k = 57 → G1 k j = gup (gup (gup (gup (gup (gup (gup G 31 fs.length 1) 30 fs.length 0) 38 fs.length 0) 40 fs.length 0) 43 fs.length 0) 41 fs.length 0) 42 fs.length 0 k j) → rF G1 ((r, .inr zw0) :: fs) := by
    intro G1 hG1
    refine ⟨⟨?_, ?_, ?_, fun i hi => absurd hi (by simp [zw0]), ?_, fun i hi => absurd hi (by simp [zw0]), ?_, ?_, ?_, ?_⟩, ?_⟩
    · rw [hG1 _ _ (by decide)]; exact f1
    · rw [hG1 _ _ (by decide)]; simp [gup, va_up, upd]
    · rw [hG1 _ _ (by decide)]; simp [gup, va_up, upd, zw0, nI_0]
    · rw [hG1 _ _ (by decide)]; simp [gup, va_up, upd, zw0, nI_0]
    · rw [hG1 _ _ (by decide)]; simp [gup, va_up, upd, zw0]
    · rw [hG1 _ _ (by decide)]; simp [gup, va_up, upd, zw0]
    · rw [hG1 _ _ (by decide)]; simp [gup, va_up, upd, zw0]
    · rw [hG1 _ _ (by decide)]; simp [gup, va_up, upd, zw0]
    · refine rF_cg (G := G) fs (Nat.le_refl _) hW.tail_fw (fun k d hd hk => ?_) (fun k i hk _ => ?_) (fun j _ => ?_) (fun j _ => ?_) hF
      · have hne : ¬ d = fs.length := by omega
        rcases hk with h | h | h | h | h | h | h | h | h <;> subst h <;> rw [hG1 _ _ (by decide)] <;> simp [gup, va_up, upd, hne]
      · rcases hk with h | h | h | h <;> subst h <;> rw [hG1 _ _ (by decide)] <;> rfl
      · rw [hG1 _ _ (by decide)]; rfl
      · rw [hG1 _ _ (by decide)]; rfl
  refine bX7_begins_0 (vin fs.length rfl l24 (by decide)) (fun z => ?_) (fun z => ?_)
  · have hff : e_f E = false := by
      cases he : e_f E with
      | false => rfl
      | true => rw [hfr, he] at z; exact absurd z (by decide)
    obtain ⟨hwl, -⟩ := zwk_lt hW r24 hff
    obtain ⟨w1, w2, w3, w4, w5⟩ := a6
    refine bX7_begins_57 (vin fs.length rfl l24 (by decide)) (vin (q_w R).length w1 hwl (by decide)) ?_
    rw [nix fs.length rfl (by omega), nix (q_w R).length w1 (by omega)]
    apply hQ
    rw [if_neg (by rw [hff]; decide)]
    refine ⟨a1, a2, a3, a4, hFn _ (fun k j hk => gup_ne (k := 57) hk ▸ rfl), ⟨?_, fun j hj => ?_, w3, ?_, w5⟩, a7⟩
    · show S 52 + 1 = nI (q_w R ++ [r]).length
      rw [w1, nI_1, List.length_append]
      rfl
    · have hj : j < (q_w R ++ [r]).length := hj
      rw [List.length_append, List.length_singleton] at hj
      show gup _ 57 (q_w R).length (G 28 fs.length) 57 j = nI ((q_w R ++ [r]).getD j 0)
      rw [gup_at]
      by_cases hj' : j = (q_w R).length
      · rw [if_pos hj', f1, hj', List.getD_eq_getElem?_getD, List.getElem?_append_right (Nat.le_refl _)]
        simp
      · rw [if_neg hj', List.getD_eq_getElem?_getD, List.getElem?_append_left (by omega), ← List.getD_eq_getElem?_getD]
        exact w2 j (by omega)
    · show S 55 + 1 = w0 + nI (q_w R ++ [r]).length
      rw [w4, List.length_append, List.length_singleton, ← nI_1, Int32.add_assoc]
  · have hff : e_f E = true := by
      cases he : e_f E with
      | true => rfl
      | false => rw [hfr, he] at z; exact absurd rfl z
    refine bX7_begins_56 ?_
    rw [nix fs.length rfl (by omega)]
    apply hQ
    rw [if_pos hff]
    exact ⟨a1, a2, a3, a4, hFn _ (fun k j _ => rfl), a6, a7⟩
def gus (G : rG) (r n : Nat) (x : Int32) : rG := va_up G 8 (fun j => if j = 4 * r then x else if 4 * r < j ∧ j ≤ 4 * r + n then G 8 (j - 1) else G 8 j)
/-- used(r, slot, n) -/
theorem r_used {d : Nat} {h0 : hp} {m : Nat} {ad : Nat → Nat} {S : rS} {G : rG} {Q : Option sV → rS → rG → Prop} {r n : Nat} {x : Int32} (hr : r < 24) (hn : n < 4) (hQ : Q none S (gus G r n x)) : rM (d + 1) h0 m ad 103 [sR (some m), sI (nI r), sI x, sI (nI n)] S G Q := by
  refine rM_of (ls := [sR (some m), sI (nI r), sI x, sI (nI n), sU]) rfl (Nat.le_of_ble_eq_true rfl) rfl ?_
  refine bX7_used_0 ?_
  have key : ∀ c : Nat, c ≤ n → rWP d h0 m ad 103 Q 3 [sR (some m), sI (nI r), sI x, sI (nI n), sI (nI c)] [] S (va_up G 8 (fun j => if 4 * r + c < j ∧ j ≤ 4 * r + n then G 8 (j - 1) else G 8 j)) := by
    intro c
    induction c with
    | zero =>
      intro hc
      refine bX7_used_3 (fun _ => ?_) (fun z => absurd (by rw [nI_0]; decide) z)
      refine bX7_used_38 (vin (4 * r) (nc4 r) (by omega) (by decide)) ?_
      rw [nix (4 * r) (nc4 r) (by omega)]
      have e1 : gup (va_up G 8 (fun j => if 4 * r + 0 < j ∧ j ≤ 4 * r + n then G 8 (j - 1) else G 8 j)) 8 (4 * r) x = gus G r n x := by
        unfold gup gus
        rw [va_upup, va_up_self]
        rfl
      rw [e1]
      exact hQ
    | succ c ih =>
      intro hc
      refine bX7_used_3 (fun z => absurd z (nI_nle (by omega) (by omega))) (fun _ => ?_)
      have e1 : (4 : Int32) * nI r + nI (c + 1) = nI (4 * r + c + 1) := by rw [nc4, nI_add]; rfl
      have e2 : (4 : Int32) * nI r + nI (c + 1) - 1 = nI (4 * r + c) := by rw [e1, nI_pred]
      refine bX7_used_8 (vin (4 * r + c) e2 (by omega) (by decide)) (vin (4 * r + c + 1) e1 (by omega) (by decide)) ?_
      rw [nix (4 * r + c) e2 (by omega), nix (4 * r + c + 1) e1 (by omega), nc4r]
      have e3 : gup (va_up G 8 (fun j => if 4 * r + (c + 1) < j ∧ j ≤ 4 * r + n then G 8 (j - 1) else G 8 j)) 8 (4 * r + c + 1) (va_up G 8 (fun j => if 4 * r + (c + 1) < j ∧ j ≤ 4 * r + n then G 8 (j - 1) else G 8 j) 8 (4 * r + c)) = va_up G 8 (fun j => if 4 * r + c < j ∧ j ≤ 4 * r + n then G 8 (j - 1) else G 8 j) := by
        unfold gup
        rw [va_upup, va_up_self]
        congr 1
        funext j
        simp only [upd]
        by_cases hj : j = 4 * r + c + 1
        · subst hj
          rw [if_pos rfl, if_neg (by omega), if_pos (by omega)]
          rfl
        · rw [if_neg hj]
          by_cases h2 : 4 * r + (c + 1) < j ∧ j ≤ 4 * r + n
          · rw [if_pos h2, if_pos (by omega)]
          · rw [if_neg h2, if_neg (by omega)]
      rw [e3]
      exact ih (by omega)
  have h0 := key n (Nat.le_refl n)
  have e0 : va_up G 8 (fun j => if 4 * r + n < j ∧ j ≤ 4 * r + n then G 8 (j - 1) else G 8 j) = G := by
    have : (fun j => if 4 * r + n < j ∧ j ≤ 4 * r + n then G 8 (j - 1) else G 8 j) = G 8 := by
      funext j
      rw [if_neg (by omega)]
    rw [this, va_upe]
  rw [e0] at h0
  exact h0
/-- the state of a rule that is being closed, but for its own outcome -/
def rR1 (R : zQ) (r : Nat) (G : rG) : Prop := ∀ x, x < 24 → (x ≠ r → G 24 x = (if (q_m R x).isSome = true then 1 else 0) ∧ ∀ o, q_m R x = some o → zA G 19 20 21 22 x o) ∧ G 25 x = (if x ∈ q_s R then 1 else 0) ∧ G 26 x = (if (q_r R x).isSome = true then 1 else 0) ∧ ∀ l, q_r R x = some l → rB l (G 23 x)
theorem rep_close {E : zE} {fs : List (Nat × zP)} {R : zQ} {w0 : Int32} {ct : rCt} {S : rS} {G : rG} {r : Nat} {o : zO} (hs : q_s R = r :: fs.map (fun f => f.1)) (hnd : (q_s R).Nodup) (hw : ∀ f ∈ fs, zfw f) (h1 : rE E S G) (h2 : ∃ sl, rT R sl G) (h3 : rR1 R r G) (h5 : rF G fs) (h6 : rW R w0 S G) (h7 : rC S G = ct) (h8 : zA G 19 20 21 22 r o) : rep E fs (q_close R r o) w0 ct (va_up S 32 (nI fs.length)) (gup (gup G 24 r 1) 25 r 0) := by
  refine ⟨h1, h2, fun x hx => ?_, ⟨rfl, by show (q_s R).tail = _; rw [hs]; rfl⟩, ?_, h6, h7⟩
  · obtain ⟨b1, b2, b3, b4⟩ := h3 x hx
    have e1 : q_m (q_close R r o) x = va_up (q_m R) r (some o) x := rfl
    refine ⟨?_, fun p hp => ?_, ?_, b3, b4⟩
    · show gup G 24 r 1 24 x = _
      rw [gup_at, e1]
      by_cases hxr : x = r
      · subst hxr
        rw [if_pos rfl, va_up_self]
        rfl
      · rw [if_neg hxr, va_up_ne _ _ hxr]
        exact (b1 hxr).1
    · rw [e1] at hp
      show zA G 19 20 21 22 x p
      by_cases hxr : x = r
      · subst hxr
        rw [va_up_self] at hp
        cases hp
        exact h8
      · rw [va_up_ne _ _ hxr] at hp
        exact (b1 hxr).2 p hp
    · show gup (gup G 24 r 1) 25 r 0 25 x = (if x ∈ (q_s R).tail then 1 else 0)
      rw [gup_at]
      rw [hs, List.nodup_cons] at hnd
      by_cases hxr : x = r
      · subst hxr
        rw [if_pos rfl, hs, List.tail_cons, if_neg hnd.1]
      · rw [if_neg hxr]
        show G 25 x = _
        rw [b2, hs, List.tail_cons]
        simp only [List.mem_cons, hxr, false_or]
  · refine rF_cg (G := G) fs (Nat.le_refl _) hw (fun k d _ hk => ?_) (fun k i hk _ => ?_) (fun j _ => rfl) (fun j _ => rfl) h5
    · rcases hk with h | h | h | h | h | h | h | h | h <;> subst h <;> rfl
    · rcases hk with h | h | h | h <;> subst h <;> rfl
