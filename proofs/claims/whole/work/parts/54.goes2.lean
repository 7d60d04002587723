theorem r_hitclose {d : Nat} {h0 : hp} {m : Nat} {ad : Nat → Nat} {S : rS} {G : rG} {Q : Option sV → rS → rG → Prop} {E : zE} {fs : List (Nat × zP)} {R : zQ} {w0 : Int32} {ct : rCt} {r : Nat} {ph : zP} {v1 v3 : sV} (hW : zWF E ((r, ph) :: fs) R) (h : rep E ((r, ph) :: fs) R w0 ct S G) (hr : (q_r R r).isSome = true) (hQ : ∀ S' G', rep E fs (q_close R r (zhit R r)) w0 ct S' G' → Q none S' G') : rWP (d + 1) h0 m ad 99 Q 139 [sR (some m), v1, sI (nI r), v3] [] S G := by
  obtain ⟨r24, -, -, l24, -, hF, d1⟩ := rep_top hW h
  have r24 : r < 24 := r24
  obtain ⟨a1, ⟨sl, a2⟩, a3, a4, a5, a6, a7⟩ := id h
  obtain ⟨l, hl⟩ := Option.isSome_iff_exists.mp hr
  obtain ⟨b1, b2, b3, b4, b5⟩ := a3 r r24
  have e1 : zhit R r = (3, nI (zmin l), []) := by unfold zhit; rw [hl]; rfl
  refine bX7_goes_139 (vin r rfl r24 (by decide)) (P := fun v S' G' => v = some (sI (nI (zmin l))) ∧ S' = S ∧ G' = gup (gup G 19 r 0) 20 r 3) ?_ ?_
  · rw [nix r rfl (by omega)]
    exact r_least (b5 l hl) ⟨rfl, rfl, rfl⟩
  · rintro v S1 G1 ⟨rfl, rfl, rfl⟩
    refine bX7_goes_167 (vin r rfl r24 (by decide)) (P := fun v S' G' => v = none ∧ S' = va_up S1 32 (nI fs.length) ∧ G' = gup (gup (gup (gup (gup G 19 r 0) 20 r 3) 21 r (nI (zmin l))) 24 r 1) 25 r 0) ?_ ?_
    · rw [nix r rfl (by omega)]
      exact r_closed (n := fs.length) r24 d1 ⟨rfl, rfl, rfl⟩
    · rintro v S2 G2 ⟨rfl, rfl, rfl⟩
      refine bX7_goes_173 (bX7_goes_199 (hQ _ _ ?_))
      refine rep_close (by rw [hW.2.2.2.1]; rfl) hW.2.1.2.2.1 hW.tail_fw a1 ⟨sl, a2⟩ ?_ ?_ a6 a7 ?_
      · intro x hx
        obtain ⟨c1, c2, c3, c4, c5⟩ := a3 x hx
        refine ⟨fun hxr => ⟨c1, fun q hq => ?_⟩, c3, c4, c5⟩
        refine zA_ne (G := G) ?_ ?_ ?_ (fun j hj => rfl) (c2 q hq)
        · show gup G 19 r 0 19 x = _; rw [gup_at_ne hxr]
        · show gup (gup G 19 r 0) 20 r 3 20 x = _; rw [gup_at_ne hxr]; rfl
        · show gup _ 21 r _ 21 x = _; rw [gup_at_ne hxr]; rfl
      · refine rF_cg (G := G) fs (Nat.le_refl _) hW.tail_fw (fun k d _ hk => ?_) (fun k i hk _ => ?_) (fun j _ => rfl) (fun j _ => rfl) hF
        · rcases hk with h | h | h | h | h | h | h | h | h <;> subst h <;> rfl
        · rcases hk with h | h | h | h <;> subst h <;> rfl
      · rw [e1]
        refine ⟨?_, ?_, ?_, fun j hj => absurd hj (by simp)⟩
        · show gup _ 19 r _ 19 r = _; rw [gup_at_self]; rfl
        · show gup _ 20 r _ 20 r = _; rw [gup_at_self]
        · show gup _ 21 r _ 21 r = _; rw [gup_at_self]
theorem rep_look {E : zE} {fs : List (Nat × zP)} {R : zQ} {w0 : Int32} {ct : rCt} {S : rS} {G : rG} (h : rep E fs R w0 ct S G) : rep E fs (q_look R) w0 ct (va_up S 53 (S 53 + 1)) G := by
  obtain ⟨a1, a2, a3, a4, a5, ⟨c1, c2, c3, c4, c5⟩, a7⟩ := h
  refine ⟨a1, a2, a3, a4, a5, ⟨c1, c2, ?_, c4, c5⟩, a7⟩
  show S 53 + 1 = q_l R + 1
  rw [c3]
theorem zG_look {S : rS} {G : rG} {o : zO} {x : Int32} (h : zG S G o) : zG (va_up S 53 x) G o := h
theorem rep_same {E : zE} {fs : List (Nat × zP)} {R : zQ} {w0 : Int32} {ct : rCt} {S : rS} {G : rG} {r k i : Nat} (hW : zWF E ((r, .inl (k, i)) :: fs) R) (h : rep E ((r, .inl (k, i)) :: fs) R w0 ct S G) : rep E ((r, .inl (k, i + 1)) :: fs) R w0 ct S (gup G 30 fs.length (nI (i + 1))) := by
  obtain ⟨a1, a2, a3, a4, ⟨⟨f1, f2, f3, f4⟩, f5⟩, a6, a7⟩ := h
  refine ⟨a1, a2, a3, a4, ⟨⟨f1, f2, f3, gup_at_self⟩, ?_⟩, a6, a7⟩
  refine rF_cg (G := G) fs (Nat.le_refl _) hW.tail_fw (fun k d hd hk => ?_) (fun k i hk _ => ?_) (fun j _ => rfl) (fun j _ => rfl) f5
  · rcases hk with h | h | h | h | h | h | h | h | h <;> subst h <;> first | rfl | exact gup_at_ne (by omega)
  · rcases hk with h | h | h | h <;> subst h <;> rfl
theorem rep_else {E : zE} {fs : List (Nat × zP)} {R : zQ} {w0 : Int32} {ct : rCt} {S : rS} {G : rG} {r k i : Nat} (hW : zWF E ((r, .inl (k, i)) :: fs) R) (h : rep E ((r, .inl (k, i)) :: fs) R w0 ct S G) (hk : k < 4) : rep E ((r, .inl (k + 1, 0)) :: fs) (q_stale R r k (nI i)) w0 ct S (gup (gup (gup G 58 (4 * r + k) (nI i)) 29 fs.length (nI (k + 1))) 30 fs.length 0) := by
  obtain ⟨a1, a2, a3, a4, ⟨⟨f1, f2, f3, f4⟩, f5⟩, a6, a7⟩ := h
  refine ⟨a1, a2, a3, a4, ⟨⟨f1, f2, by show gup (gup G 58 (4 * r + k) (nI i)) 29 fs.length (nI (k + 1)) 29 fs.length = _; rw [gup_at_self], gup_at_self⟩, ?_⟩, ?_, a7⟩
  · refine rF_cg (G := G) fs (Nat.le_refl _) hW.tail_fw (fun k d hd hk => ?_) (fun k i hk _ => ?_) (fun j _ => rfl) (fun j _ => rfl) f5
    · rcases hk with h | h | h | h | h | h | h | h | h <;> subst h <;> first | rfl | exact gup_at_ne (k := 29) (by omega) | exact gup_at_ne (k := 30) (by omega)
    · rcases hk with h | h | h | h <;> subst h <;> rfl
  · refine rW_stale hk a6 rfl (fun j => ?_)
    show gup G 58 (4 * r + k) (nI i) 58 j = _
    rw [gup_at]
theorem r_goes {d : Nat} {h0 : hp} {m : Nat} {ad : Nat → Nat} {S : rS} {G : rG} {Q : Option sV → rS → rG → Prop} {E : zE} {f : Nat × zP} {fs : List (Nat × zP)} {R : zQ} {w0 : Int32} {ct : rCt} (hW : zWF E (f :: fs) R) (h : rep E (f :: fs) R w0 ct S G) (hQ : ∀ S' G', rep E (zgoes E (f :: fs, R)).1 (zgoes E (f :: fs, R)).2 w0 ct S' G' → Q none S' G') : rM (d + 5) h0 m ad 99 [sR (some m)] S G Q := by
  refine rM_of (ls := [sR (some m), sU, sU, sU]) rfl (Nat.le_of_ble_eq_true rfl) rfl ?_
  obtain ⟨r, ph⟩ := f
  obtain ⟨r24, rn, rs, l24, hFr, hF, d1⟩ := rep_top hW h
  have r24 : r < 24 := r24
  have e0 : S 32 - 1 = nI fs.length := by rw [d1]; exact pk_sub (b := 1) (by omega)
  have f1 : G 28 fs.length = nI r := hFr.1
  have hE := hW.1
  have s27 : S 27 = (if e_f E = true then 1 else 0) := h.1.2.2.2
  have vD : vp_in (nI fs.length) 24 := vin fs.length rfl l24 (by decide)
  have cD : (nI fs.length).toNatClampNeg = fs.length := nix fs.length rfl (by omega)
  have vr : vp_in (nI r) 24 := vin r rfl r24 (by decide)
  have cr : (nI r).toNatClampNeg = r := nix r rfl (by omega)
  cases ph with
  | inl p =>
    obtain ⟨k, i⟩ := p
    obtain ⟨-, f2, f3, f4⟩ := hFr
    have hfk := hW.2.2.1 _ List.mem_cons_self
    have t7 : G 7 r = nI (q_t R r).length := by
      obtain ⟨sl, hT⟩ := h.2.1
      exact (hT r r24).1
    have q4 := (hW.2.1.1 r).1
    refine bX7_goes_0 (by rw [e0]; exact vD) (fun z => absurd (by rw [e0, cD]; exact f2) z) (fun _ => ?_)
    rw [e0, cD, f1]
    have begin_ : ∀ (v2 v3 : sV), (e_f E = true ∨ (q_t R r).length ≤ k) → rWP (d + 4) h0 m ad 99 Q 45 [sR (some m), sI (nI fs.length), v2, v3] [] S G := fun v2 v3 hb => by
      refine bX7_goes_45 (P := fun v S' G' => v = none ∧ rep E ((r, .inr zw0) :: fs) (if e_f E = true then R else q_note R r) w0 ct S' G') ?_ ?_
      · exact rM_le (Nat.le_add_left 1 (d + 3)) (r_begins (d := 0) hW h (fun S' G' h' => ⟨rfl, h'⟩))
      · rintro v S1 G1 ⟨rfl, h'⟩
        exact bX7_goes_50 (hQ _ _ (by rw [zg_b hb]; exact h'))
    refine bX7_goes_23 (fun z => begin_ _ _ (.inl ?_)) (fun z => ?_)
    · rw [s27] at z
      by_cases hf : e_f E = true
      · exact hf
      · rw [if_neg hf] at z; exact absurd rfl z
    · have hf : ¬ e_f E = true := fun hf => by rw [s27, if_pos hf] at z; exact absurd z (by decide)
      obtain ⟨kl, il⟩ := hfk.resolve_left hf
      have kl : k ≤ (q_t R r).length := kl
      have il : i ≤ ((q_t R r).getD k zt0).1.length := il
      refine bX7_goes_30 vD vr (fun y => ?_) (fun y => begin_ _ _ (.inr ?_))
      · rw [cD, cr, f3, t7, nI_eq (by omega) (by omega)] at y
        have hk : k < (q_t R r).length := by omega
        have hb : ¬ (e_f E = true ∨ (q_t R r).length ≤ k) := fun z => z.elim hf (by omega)
        have htk := (hW.2.1.1 r).2 _ (zget_mem hk)
        refine bX7_goes_51 vD (fun _ => ?_) (fun z => absurd (by rw [cD]; exact f2) z)
        refine bX7_goes_68 (P := fun v S' G' => v = some (sI (match ((q_t R r).getD k zt0).1[i]? with | some g => nI g.1 | none => -1)) ∧ S' = S ∧ G' = G) (rM_le (Nat.le_add_left 2 (d + 2)) (r_nextOld (d := 0) hW h hk il ⟨rfl, rfl, rfl⟩)) ?_
        rintro v S1 G1 ⟨rfl, rfl, rfl⟩
        cases hg : ((q_t R r).getD k zt0).1[i]? with
        | none =>
          refine bX7_goes_73 (fun z => absurd rfl z) (fun _ => ?_)
          refine bX7_goes_79 vD (fun _ => ?_) (fun z => absurd (by rw [cD]; exact f2) z)
          refine bX7_goes_96 (P := fun v S' G' => v = none ∧ rep E fs (q_close (q_tr (q_stale R r k (-2)) r (zfront (q_t R r) k)) r ((q_t R r).getD k zt0).2) w0 ct S' G') (rM_le (Nat.le_add_left 2 (d + 2)) (r_isFit (d := 0) hW h hk (fun S' G' h' => ⟨rfl, h'⟩))) ?_
          rintro v S2 G2 ⟨rfl, h'⟩
          exact bX7_goes_101 (hQ _ _ (by rw [zg_fit hb hg]; exact h'))
        | some g =>
          have hg40 := (htk.2.1 g (List.mem_of_getElem? hg)).2
          refine bX7_goes_73 (fun _ => ?_) (fun z => absurd z (znI_ne (by omega)).1)
          refine bX7_goes_102 (P := fun v S' G' => (v = some (sI 1) ∧ ∃ o, zget E R g.1 = some o ∧ rep E ((r, .inl (k, i)) :: fs) o.2 w0 ct S' G' ∧ zG S' G' o.1) ∨ (v = some (sI 0) ∧ zget E R g.1 = none ∧ rep E ((g.1 - 16, .inl (0, 0)) :: (r, .inl (k, i)) :: fs) (q_push R (g.1 - 16)) w0 ct S' G')) (r_get hW h hg40 (fun o ho S' G' h' h'' => .inl ⟨rfl, o, ho, h', h''⟩) (fun hn S' G' h' => .inr ⟨rfl, hn, h'⟩)) ?_
          rintro v S2 G2 (⟨rfl, o, hz, h', hG⟩ | ⟨rfl, hz, h'⟩)
          · refine bX7_goes_107 (fun _ => ?_) (fun z => absurd z (by decide))
            have hW2 := zWF_got hW hz
            obtain ⟨g1, g2, g3, g4⟩ := zget_eq hz
            have hok := zget_ok hW.1 hW.2.1 hz
            have hW3 : zWF E ((r, .inl (k, i)) :: fs) (q_look o.2) := zWF_top hW2 rfl rfl rfl (fun hf => ⟨(hW2.2.2.2.2.2 hf).1, fun x hx => ⟨((hW2.2.2.2.2.2 hf).2 x hx).1, .inl hx⟩⟩) (hW2.2.2.1 _ List.mem_cons_self) (fun w hw => by cases hw)
            have hl := rep_look h'
            have f2' : G2 31 fs.length = 0 := h'.2.2.2.2.1.1.2.1
            have hrr := (h'.2.2.1 r r24).2.2.2
            refine bX7_goes_111 vD (fun z => absurd (by rw [cD]; exact f2') z) (fun _ => bX7_goes_120 ?_)
            refine bX7_goes_130 vr (fun z => ?_) (fun z => ?_)
            · rw [cr, hrr.1] at z
              have hr : ¬ (q_r (q_look o.2) r).isSome = true := fun y => by rw [show (q_r o.2 r).isSome = true from y] at z; exact absurd z (by decide)
              refine bX7_goes_176 vD (fun _ => ?_) (fun z => absurd (by rw [cD]; exact f2') z)
              have hk' : k < (q_t (q_look o.2) r).length := by show k < (q_t o.2 r).length; rw [g1]; exact hk
              refine bX7_goes_194 (P := fun v S' G' => v = none ∧ rep E (zgoes E ((r, .inl (k, i)) :: fs, R)).1 (zgoes E ((r, .inl (k, i)) :: fs, R)).2 w0 ct S' G') (rM_le (Nat.le_add_left 2 (d + 2)) (r_compares (d := 0) (g := g) (o := o.1) hW3 hl hk' (by show ((q_t o.2 r).getD k zt0).1[i]? = _; rw [g1]; exact hg) hok.1 (zG_look hG) (fun he => ⟨rfl, ?_⟩) (fun he => ⟨rfl, ?_⟩))) ?_
              · rw [zg_s hb hg hz hr he]
                exact rep_same hW3 hl
              · rw [zg_n hb hg hz hr he]
                exact rep_else hW3 hl (by omega)
              · rintro v S3 G3 ⟨rfl, h3⟩
                exact bX7_goes_199 (hQ _ _ h3)
            · rw [cr, hrr.1] at z
              have hr : (q_r (q_look o.2) r).isSome = true := by
                show (q_r o.2 r).isSome = true
                cases hc : (q_r o.2 r).isSome with
                | true => rfl
                | false => rw [hc] at z; exact absurd rfl z
              exact r_hitclose hW3 hl hr (fun S' G' h3 => hQ _ _ (by rw [zg_h1 hb hg hz hr]; exact h3))
          · refine bX7_goes_107 (fun z => absurd rfl z) (fun _ => ?_)
            exact bX7_goes_110 (hQ _ _ (by rw [zg_p1 hb hg hz]; exact h'))
      · rw [cD, cr, f3, t7, nI_eq (by omega) (by omega)] at y
        omega
  | inr w =>
    have hfk := hW.2.2.1 _ List.mem_cons_self
    have hwok : zwok w := hfk.1
    have f2 : G 31 fs.length = 1 := hFr.2.1
    have n1 : ¬ (1 : Int32) = 0 := by decide
    refine bX7_goes_0 (by rw [e0]; exact vD) (fun _ => ?_) (fun z => absurd (by rw [e0, cD, f2] at z; exact z) n1)
    rw [e0, cD, f1]
    refine bX7_goes_51 vD (fun z => absurd (by rw [cD, f2] at z; exact z) n1) (fun _ => ?_)
    refine bX7_goes_60 (P := fun v S' G' => v = some (sI (match znext (e_k E r) (e_i E r) w with | some nm => nI nm | none => -1)) ∧ S' = S ∧ G' = G) (rM_le (Nat.le_add_left 1 (d + 3)) (r_nextRead (d := 0) hW h ⟨rfl, rfl, rfl⟩)) ?_
    rintro v S1 G1 ⟨rfl, rfl, rfl⟩
    refine bX7_goes_65 ?_
    cases hn : znext (e_k E r) (e_i E r) w with
    | none =>
      refine bX7_goes_73 (fun z => absurd rfl z) (fun _ => ?_)
      refine bX7_goes_79 vD (fun z => absurd (by rw [cD, f2] at z; exact z) n1) (fun _ => ?_)
      refine bX7_goes_88 (P := fun v S' G' => v = none ∧ rep E fs (q_close (if e_f E = true then R else q_tr R r (zkeep (q_t R r) (w.1, zend (e_k E r) w))) r (zend (e_k E r) w)) w0 ct S' G') (rM_le (Nat.le_add_left 3 (d + 1)) (r_finishes (d := 0) hW h (fun S' G' h' => ⟨rfl, h'⟩))) ?_
      rintro v S2 G2 ⟨rfl, h'⟩
      exact bX7_goes_93 (bX7_goes_101 (hQ _ _ (by rw [zg_e hn]; exact h')))
    | some nm =>
      have hl := znext_lt hn (hW.1.2.2.1 r) hwok
      have hnm := hW.1.2.2.2 r nm hl.2
      refine bX7_goes_73 (fun _ => ?_) (fun z => absurd z (znI_ne (by omega)).1)
      refine bX7_goes_102 (P := fun v S' G' => (v = some (sI 1) ∧ ∃ o, zget E R nm = some o ∧ rep E ((r, .inr w) :: fs) o.2 w0 ct S' G' ∧ zG S' G' o.1) ∨ (v = some (sI 0) ∧ zget E R nm = none ∧ rep E ((nm - 16, .inl (0, 0)) :: (r, .inr w) :: fs) (q_push R (nm - 16)) w0 ct S' G')) (r_get hW h hnm (fun o ho S' G' h' h'' => .inl ⟨rfl, o, ho, h', h''⟩) (fun hn S' G' h' => .inr ⟨rfl, hn, h'⟩)) ?_
      rintro v S2 G2 (⟨rfl, o, hz, h', hG⟩ | ⟨rfl, hz, h'⟩)
      · refine bX7_goes_107 (fun _ => ?_) (fun z => absurd z (by decide))
        have hW2 := zWF_got hW hz
        have hok := zget_ok hW.1 hW.2.1 hz
        have f2' : G2 31 fs.length = 1 := h'.2.2.2.2.1.1.2.1
        have hrr := (h'.2.2.1 r r24).2.2.2
        refine bX7_goes_111 vD (fun _ => ?_) (fun z => absurd (by rw [cD, f2'] at z; exact z) n1)
        refine bX7_goes_130 vr (fun z => ?_) (fun z => ?_)
        · rw [cr, hrr.1] at z
          have hr : ¬ (q_r o.2 r).isSome = true := fun y => by rw [y] at z; exact absurd z (by decide)
          refine bX7_goes_176 vD (fun z => absurd (by rw [cD, f2'] at z; exact z) n1) (fun _ => ?_)
          refine bX7_goes_185 (P := fun v S' G' => v = none ∧ rep E ((r, .inr (ztake (e_k E r) (e_t E r) r w nm o.1)) :: fs) o.2 w0 ct S' G') (rM_le (Nat.le_add_left 3 (d + 1)) (r_takes (d := 0) hW2 h' hl.1 hok.1 hG (fun G' h3 => ⟨rfl, h3⟩))) ?_
          rintro v S3 G3 ⟨rfl, h3⟩
          exact bX7_goes_191 (bX7_goes_199 (hQ _ _ (by rw [zg_t hn hz hr]; exact h3)))
        · rw [cr, hrr.1] at z
          have hr : (q_r o.2 r).isSome = true := by
            cases hc : (q_r o.2 r).isSome with
            | true => rfl
            | false => rw [hc] at z; exact absurd rfl z
          exact r_hitclose hW2 h' hr (fun S' G' h3 => hQ _ _ (by rw [zg_h2 hn hz hr]; exact h3))
      · refine bX7_goes_107 (fun z => absurd rfl z) (fun _ => ?_)
        exact bX7_goes_110 (hQ _ _ (by rw [zg_p2 hn hz]; exact h'))
