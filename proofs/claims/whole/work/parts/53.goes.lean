/-! zWF is kept by a step -/
theorem zget_eq {E : zE} {R : zQ} {nm : Nat} {p : zO × zQ} (h : zget E R nm = some p) : q_t p.2 = q_t R ∧ q_m p.2 = q_m R ∧ q_s p.2 = q_s R ∧ q_w p.2 = q_w R := by
  unfold zget at h
  by_cases h1 : nm < 16
  · rw [if_pos h1] at h
    cases h
    exact ⟨rfl, rfl, rfl, rfl⟩
  · rw [if_neg h1] at h
    by_cases h2 : e_n E ≤ nm - 16
    · rw [if_pos h2] at h
      cases h
      exact ⟨rfl, rfl, rfl, rfl⟩
    · rw [if_neg h2] at h
      cases h3 : q_m R (nm - 16) with
      | some o =>
        rw [h3] at h
        cases h
        exact ⟨rfl, rfl, rfl, rfl⟩
      | none =>
        rw [h3] at h
        by_cases h4 : nm - 16 ∈ q_s R
        · simp only [h4, if_true] at h
          cases h
          exact ⟨rfl, rfl, rfl, rfl⟩
        · simp only [h4, if_false] at h
          cases h
theorem zfok_t {E : zE} {R R2 : zQ} {f : Nat × zP} (h : q_t R2 f.1 = q_t R f.1) (H : zfok E R f) : zfok E R2 f := by
  obtain ⟨r, ph⟩ := f
  cases ph with
  | inl p =>
    show e_f E = true ∨ (p.1 ≤ (q_t R2 r).length ∧ p.2 ≤ ((q_t R2 r).getD p.1 zt0).1.length)
    rw [show q_t R2 r = q_t R r from h]
    exact H
  | inr w => exact H
theorem zWF_top {E : zE} {r : Nat} {ph ph2 : zP} {fs : List (Nat × zP)} {R R2 : zQ} (hW : zWF E ((r, ph) :: fs) R) (h1 : q_t R2 = q_t R) (h2 : q_m R2 = q_m R) (h3 : q_s R2 = q_s R) (h4 : e_f E = false → (q_w R2).Nodup ∧ ∀ x ∈ q_w R2, x < 24 ∧ (x ∈ q_w R ∨ (x = r ∧ ∃ w, ph2 = .inr w))) (h5 : zfok E R2 (r, ph2)) (h6 : ∀ w, ph = .inr w → ∃ w', ph2 = .inr w') : zWF E ((r, ph2) :: fs) R2 := by
  obtain ⟨a1, a2, a3, a4, a5, a6⟩ := hW
  refine ⟨a1, ?_, fun f hf => ?_, by rw [h3, a4]; rfl, by rw [h3, h2]; exact a5, fun hf => ⟨(h4 hf).1, fun x hx => ⟨((h4 hf).2 x hx).1, ?_⟩⟩⟩
  · unfold zQok
    rw [h1, h2, h3]
    exact a2
  · rcases List.mem_cons.mp hf with h | h
    · rw [h]; exact h5
    · exact zfok_t (by rw [h1]) (a3 f (List.mem_cons_of_mem _ h))
  · rcases ((h4 hf).2 x hx).2 with h | ⟨h, w, hw⟩
    · rw [h2]
      rcases ((a6 hf).2 x h).2 with h' | ⟨w, hw⟩
      · exact .inl h'
      · rcases List.mem_cons.mp hw with h' | h'
        · cases h'
          obtain ⟨w', hw'⟩ := h6 w rfl
          exact .inr ⟨w', by rw [hw']; exact List.mem_cons_self⟩
        · exact .inr ⟨w, List.mem_cons_of_mem _ h'⟩
    · exact .inr ⟨w, by rw [h, hw]; exact List.mem_cons_self⟩
theorem zWF_close {E : zE} {r : Nat} {ph : zP} {fs : List (Nat × zP)} {R R2 : zQ} {o : zO} (hW : zWF E ((r, ph) :: fs) R) (h1 : ∀ x, x ≠ r → q_t R2 x = q_t R x) (h2 : q_m R2 = q_m R) (h3 : q_s R2 = q_s R) (h4 : q_w R2 = q_w R) (h5 : zQok E R2) (ho : zok o) : zWF E fs (q_close R2 r o) := by
  have hon := zhead_once hW
  obtain ⟨a1, a2, a3, a4, a5, a6⟩ := hW
  have e1 : q_s (q_close R2 r o) = fs.map (fun f => f.1) := by
    show (q_s R2).tail = _
    rw [h3, a4]
    rfl
  have e2 : ∀ x, q_m (q_close R2 r o) x = if x = r then some o else q_m R x := by
    intro x
    show va_up (q_m R2) r (some o) x = _
    rw [h2]
    rfl
  refine ⟨a1, zQok_close h5 ho, fun f hf => ?_, e1, fun x hx => ?_, fun hf => ⟨by show (q_w R2).Nodup; rw [h4]; exact (a6 hf).1, fun x hx => ?_⟩⟩
  · exact zfok_t (R := R) (h1 f.1 (hon f hf)) (a3 f (List.mem_cons_of_mem _ hf))
  · rw [e1] at hx
    obtain ⟨f, hf, rfl⟩ := List.mem_map.mp hx
    rw [e2, if_neg (hon f hf)]
    exact a5 _ (by rw [a4]; exact List.mem_cons_of_mem _ hx)
  · have hx' : x ∈ q_w R := by rw [← h4]; exact hx
    refine ⟨((a6 hf).2 x hx').1, ?_⟩
    rw [e2]
    by_cases hxr : x = r
    · rw [if_pos hxr]; exact .inl rfl
    · rw [if_neg hxr]
      rcases ((a6 hf).2 x hx').2 with h | ⟨w, hw⟩
      · exact .inl h
      · rcases List.mem_cons.mp hw with h' | h'
        · cases h'; exact absurd rfl hxr
        · exact .inr ⟨w, h'⟩
theorem zWF_push {E : zE} {fs : List (Nat × zP)} {R : zQ} {nm : Nat} (hW : zWF E fs R) (hg : zget E R nm = none) : zWF E ((nm - 16, .inl (0, 0)) :: fs) (q_push R (nm - 16)) := by
  obtain ⟨-, g1, g2, g3, g4⟩ := zout_none hg 0
  obtain ⟨a1, a2, a3, a4, a5, a6⟩ := hW
  refine ⟨a1, ⟨a2.1, a2.2.1, List.nodup_cons.mpr ⟨g4, a2.2.2.1⟩, fun x hx => ?_⟩, fun f hf => ?_, by show (nm - 16) :: q_s R = _; rw [a4]; rfl, fun x hx => ?_, fun hf => ⟨(a6 hf).1, fun x hx => ⟨((a6 hf).2 x hx).1, ?_⟩⟩⟩
  · rcases List.mem_cons.mp hx with h | h
    · rw [h]; exact g2
    · exact a2.2.2.2 x h
  · rcases List.mem_cons.mp hf with h | h
    · rw [h]; exact .inr ⟨Nat.zero_le _, Nat.zero_le _⟩
    · exact zfok_t (R := R) rfl (a3 f h)
  · rcases List.mem_cons.mp hx with h | h
    · rw [h]; exact g3
    · exact a5 x h
  · rcases ((a6 hf).2 x hx).2 with h | ⟨w, hw⟩
    · exact .inl h
    · exact .inr ⟨w, List.mem_cons_of_mem _ hw⟩
theorem zWF_got {E : zE} {r : Nat} {ph : zP} {fs : List (Nat × zP)} {R : zQ} {nm : Nat} {p : zO × zQ} (hW : zWF E ((r, ph) :: fs) R) (h : zget E R nm = some p) : zWF E ((r, ph) :: fs) p.2 := by
  obtain ⟨g1, g2, g3, g4⟩ := zget_eq h
  refine zWF_top hW g1 g2 g3 (fun hf => ?_) (zfok_t (by rw [g1]) (hW.2.2.1 _ List.mem_cons_self)) (fun w hw => ⟨w, hw⟩)
  rw [g4]
  exact ⟨(hW.2.2.2.2.2 hf).1, fun x hx => ⟨((hW.2.2.2.2.2 hf).2 x hx).1, .inl hx⟩⟩
theorem zWF_fr {E : zE} {r : Nat} {ph ph2 : zP} {fs : List (Nat × zP)} {R : zQ} (hW : zWF E ((r, ph) :: fs) R) (h5 : zfok E R (r, ph2)) (h6 : ∀ w, ph = .inr w → ∃ w', ph2 = .inr w') : zWF E ((r, ph2) :: fs) R := zWF_top hW rfl rfl rfl (fun hf => ⟨(hW.2.2.2.2.2 hf).1, fun x hx => ⟨((hW.2.2.2.2.2 hf).2 x hx).1, .inl hx⟩⟩) h5 h6
section
variable {E : zE} {fs : List (Nat × zP)} {R : zQ} {r k i nm : Nat} {w : zW} {g : zR} {o : zO × zQ}
theorem zg_b (h : e_f E = true ∨ (q_t R r).length ≤ k) : zgoes E ((r, .inl (k, i)) :: fs, R) = ((r, .inr zw0) :: fs, if e_f E = true then R else q_note R r) := by
  simp only [zgoes, if_pos h]
theorem zg_fit (h : ¬ (e_f E = true ∨ (q_t R r).length ≤ k)) (h1 : ((q_t R r).getD k zt0).1[i]? = none) : zgoes E ((r, .inl (k, i)) :: fs, R) = (fs, q_close (q_tr (q_stale R r k (-2)) r (zfront (q_t R r) k)) r ((q_t R r).getD k zt0).2) := by
  simp only [zgoes, if_neg h, h1]
theorem zg_p1 (h : ¬ (e_f E = true ∨ (q_t R r).length ≤ k)) (h1 : ((q_t R r).getD k zt0).1[i]? = some g) (h2 : zget E R g.1 = none) : zgoes E ((r, .inl (k, i)) :: fs, R) = ((g.1 - 16, .inl (0, 0)) :: (r, .inl (k, i)) :: fs, q_push R (g.1 - 16)) := by
  simp only [zgoes, if_neg h, h1, h2]
theorem zg_h1 (h : ¬ (e_f E = true ∨ (q_t R r).length ≤ k)) (h1 : ((q_t R r).getD k zt0).1[i]? = some g) (h2 : zget E R g.1 = some o) (h3 : (q_r (q_look o.2) r).isSome = true) : zgoes E ((r, .inl (k, i)) :: fs, R) = (fs, q_close (q_look o.2) r (zhit (q_look o.2) r)) := by
  simp only [zgoes, if_neg h, h1, h2, if_pos h3]
theorem zg_s (h : ¬ (e_f E = true ∨ (q_t R r).length ≤ k)) (h1 : ((q_t R r).getD k zt0).1[i]? = some g) (h2 : zget E R g.1 = some o) (h3 : ¬ (q_r (q_look o.2) r).isSome = true) (h4 : o.1 = g.2) : zgoes E ((r, .inl (k, i)) :: fs, R) = ((r, .inl (k, i + 1)) :: fs, q_look o.2) := by
  simp only [zgoes, if_neg h, h1, h2, if_neg h3, if_pos h4]
theorem zg_n (h : ¬ (e_f E = true ∨ (q_t R r).length ≤ k)) (h1 : ((q_t R r).getD k zt0).1[i]? = some g) (h2 : zget E R g.1 = some o) (h3 : ¬ (q_r (q_look o.2) r).isSome = true) (h4 : ¬ o.1 = g.2) : zgoes E ((r, .inl (k, i)) :: fs, R) = ((r, .inl (k + 1, 0)) :: fs, q_stale (q_look o.2) r k (nI i)) := by
  simp only [zgoes, if_neg h, h1, h2, if_neg h3, if_neg h4]
theorem zg_e (h : znext (e_k E r) (e_i E r) w = none) : zgoes E ((r, .inr w) :: fs, R) = (fs, q_close (if e_f E = true then R else q_tr R r (zkeep (q_t R r) (w.1, zend (e_k E r) w))) r (zend (e_k E r) w)) := by
  simp only [zgoes, h]
theorem zg_p2 (h : znext (e_k E r) (e_i E r) w = some nm) (h2 : zget E R nm = none) : zgoes E ((r, .inr w) :: fs, R) = ((nm - 16, .inl (0, 0)) :: (r, .inr w) :: fs, q_push R (nm - 16)) := by
  simp only [zgoes, h, h2]
theorem zg_h2 (h : znext (e_k E r) (e_i E r) w = some nm) (h2 : zget E R nm = some o) (h3 : (q_r o.2 r).isSome = true) : zgoes E ((r, .inr w) :: fs, R) = (fs, q_close o.2 r (zhit o.2 r)) := by
  simp only [zgoes, h, h2, if_pos h3]
theorem zg_t (h : znext (e_k E r) (e_i E r) w = some nm) (h2 : zget E R nm = some o) (h3 : ¬ (q_r o.2 r).isSome = true) : zgoes E ((r, .inr w) :: fs, R) = ((r, .inr (ztake (e_k E r) (e_t E r) r w nm o.1)) :: fs, o.2) := by
  simp only [zgoes, h, h2, if_neg h3]
end
theorem zWF_goes {E : zE} {f : Nat × zP} {fs : List (Nat × zP)} {R : zQ} (hW : zWF E (f :: fs) R) : zWF E (zgoes E (f :: fs, R)).1 (zgoes E (f :: fs, R)).2 := by
  obtain ⟨r, ph⟩ := f
  have r24 : r < 24 := by
    have h1 := hW.2.1.2.2.2 r (by rw [hW.2.2.2.1]; exact List.mem_cons_self)
    have h2 := hW.1.1
    omega
  cases ph with
  | inl p =>
    obtain ⟨k, i⟩ := p
    by_cases hb : e_f E = true ∨ (q_t R r).length ≤ k
    · rw [zg_b hb]
      by_cases hf : e_f E = true
      · simp only [if_pos hf]
        refine zWF_fr hW ⟨?_, .inl rfl⟩ (fun w hw => by cases hw)
        exact ⟨by decide, fun g hg => (by cases hg), by decide, fun _ => rfl⟩
      · simp only [if_neg hf]
        have hf' : e_f E = false := by simpa using hf
        have hz := zwk_lt hW r24 hf'
        refine zWF_top hW rfl rfl rfl (fun _ => ⟨?_, fun x hx => ?_⟩) ⟨⟨by decide, fun g hg => (by cases hg), by decide, fun _ => rfl⟩, .inl rfl⟩ (fun w hw => by cases hw)
        · show (q_w R ++ [r]).Nodup
          rw [List.nodup_append]
          refine ⟨(hW.2.2.2.2.2 hf').1, by simp, fun a ha b hb => ?_⟩
          rw [List.mem_singleton.mp hb]
          exact fun e => hz.2 (e ▸ ha)
        · have hx : x ∈ q_w R ++ [r] := hx
          rcases List.mem_append.mp hx with h | h
          · exact ⟨((hW.2.2.2.2.2 hf').2 x h).1, .inl h⟩
          · rw [List.mem_singleton.mp h]
            exact ⟨r24, .inr ⟨rfl, _, rfl⟩⟩
    · have hk : k < (q_t R r).length := by have := not_or.mp hb; omega
      have htk := (hW.2.1.1 r).2 _ (zget_mem hk)
      cases hg : ((q_t R r).getD k zt0).1[i]? with
      | none =>
        rw [zg_fit hb hg]
        refine zWF_close hW (fun x hx => ?_) rfl rfl rfl ?_ htk.2.2
        · exact va_up_ne _ _ hx
        · refine zQok_tr (R := q_stale R r k (-2)) hW.2.1 ?_ (fun t ht => ?_)
          · rw [zfront_len]; exact (hW.2.1.1 r).1
          · exact (hW.2.1.1 r).2 t (zfront_mem ht)
      | some g =>
        have hi := (List.getElem?_eq_some_iff.mp hg).1
        cases hz : zget E R g.1 with
        | none => rw [zg_p1 hb hg hz]; exact zWF_push hW hz
        | some o =>
          have hW2 := zWF_got hW hz
          obtain ⟨g1, g2, g3, g4⟩ := zget_eq hz
          by_cases hr : (q_r (q_look o.2) r).isSome = true
          · rw [zg_h1 hb hg hz hr]
            exact zWF_close (R2 := q_look o.2) hW2 (fun _ _ => rfl) rfl rfl rfl hW2.2.1 (zhit_ok _ _)
          · have hW3 : zWF E ((r, .inl (k, i)) :: fs) (q_look o.2) := zWF_top hW2 rfl rfl rfl (fun hf => ⟨(hW2.2.2.2.2.2 hf).1, fun x hx => ⟨((hW2.2.2.2.2.2 hf).2 x hx).1, .inl hx⟩⟩) (hW2.2.2.1 _ List.mem_cons_self) (fun w hw => by cases hw)
            by_cases he : o.1 = g.2
            · rw [zg_s hb hg hz hr he]
              refine zWF_fr hW3 (.inr ⟨?_, ?_⟩) (fun w hw => by cases hw)
              · show k ≤ (q_t o.2 r).length; rw [g1]; omega
              · show i + 1 ≤ ((q_t o.2 r).getD k zt0).1.length; rw [g1]; omega
            · rw [zg_n hb hg hz hr he]
              refine zWF_top hW3 rfl rfl rfl (fun hf => ⟨(hW3.2.2.2.2.2 hf).1, fun x hx => ⟨((hW3.2.2.2.2.2 hf).2 x hx).1, .inl hx⟩⟩) (.inr ⟨?_, Nat.zero_le _⟩) (fun w hw => by cases hw)
              show k + 1 ≤ (q_t o.2 r).length
              rw [g1]; omega
  | inr w =>
    have hfk := hW.2.2.1 _ List.mem_cons_self
    have hwok : zwok w := hfk.1
    cases hn : znext (e_k E r) (e_i E r) w with
    | none =>
      rw [zg_e hn]
      refine zWF_close hW (fun x hx => ?_) ?_ ?_ ?_ ?_ (zend_ok hwok)
      · split
        · rfl
        · exact va_up_ne _ _ hx
      · split <;> rfl
      · split <;> rfl
      · split <;> rfl
      · split
        · exact hW.2.1
        · refine zQok_tr hW.2.1 ?_ (fun t ht => ?_)
          · show (_ :: (q_t R r).take 3).length ≤ 4
            simp only [List.length_cons, List.length_take]
            omega
          · rcases List.mem_cons.mp ht with h | h
            · rw [h]; exact ⟨hwok.1, hwok.2.1, zend_ok hwok⟩
            · exact (hW.2.1.1 r).2 t (List.mem_of_mem_take h)
    | some nm =>
      have hl := znext_lt hn (hW.1.2.2.1 r) hwok
      have hnm := hW.1.2.2.2 r nm hl.2
      cases hz : zget E R nm with
      | none => rw [zg_p2 hn hz]; exact zWF_push hW hz
      | some o =>
        have hW2 := zWF_got hW hz
        by_cases hr : (q_r o.2 r).isSome = true
        · rw [zg_h2 hn hz hr]
          exact zWF_close hW2 (fun _ _ => rfl) rfl rfl rfl hW2.2.1 (zhit_ok _ _)
        · rw [zg_t hn hz hr]
          refine zWF_fr hW2 ⟨(ztake_ok hwok hl.1 (zget_ok hW.1 hW.2.1 hz).1 hnm).1, .inr (fun e => ?_)⟩ (fun w _ => ⟨_, rfl⟩)
          have := hl.2
          rw [e] at this
          cases this
