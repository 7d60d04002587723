theorem znd : ∀ (n : Nat) (l : List Nat), l.Nodup → (∀ x ∈ l, x < n) → l.length ≤ n := by
  intro n
  induction n with
  | zero =>
    intro l _ h
    cases l with
    | nil => exact Nat.le_refl _
    | cons a l => exact absurd (h a List.mem_cons_self) (by omega)
  | succ n ih =>
    intro l hn h
    by_cases hm : n ∈ l
    · have h1 := ih (l.erase n) (hn.erase n) (fun x hx => by
        have h2 := (hn.mem_erase_iff).mp hx
        have := h x h2.2
        omega)
      rw [List.length_erase_of_mem hm] at h1
      omega
    · have := ih l hn (fun x hx => by
        have h1 := h x hx
        have h2 : x ≠ n := fun e => hm (e ▸ hx)
        omega)
      omega
theorem zroom {E : zE} {R : zQ} {r : Nat} (hE : zEok E) (hR : zQok E R) (hr : r < e_n E) (hn : r ∉ q_s R) : (q_s R).length < 24 := by
  have := znd 24 (r :: q_s R) (List.nodup_cons.mpr ⟨hn, hR.2.2.1⟩) (fun x hx => by
    have h1 := hE.1
    rcases List.mem_cons.mp hx with rfl | hx
    · omega
    · have := hR.2.2.2 x hx
      omega)
  simp only [List.length_cons] at this
  omega
/-- the name that a frame asks for next -/
def zname (E : zE) (R : zQ) (r : Nat) (ph : zP) : Option Nat := match ph with
  | .inl p => if e_f E = true ∨ (q_t R r).length ≤ p.1 then none else (((q_t R r).getD p.1 zt0).1[p.2]?).map (fun g => g.1)
  | .inr w => znext (e_k E r) (e_i E r) w
theorem zpush {E : zE} {R : zQ} {r nm : Nat} {ph : zP} {fs : List (Nat × zP)} (h1 : zname E R r ph = some nm) (h2 : zget E R nm = none) : zgoes E ((r, ph) :: fs, R) = ((nm - 16, .inl (0, 0)) :: (r, ph) :: fs, q_push R (nm - 16)) := by
  cases ph with
  | inl p =>
    simp only [zname] at h1
    split at h1
    · cases h1
    · next hc =>
      simp only [zgoes, if_neg hc]
      cases hg : ((q_t R r).getD p.1 zt0).1[p.2]? with
      | none => rw [hg] at h1; cases h1
      | some g =>
        rw [hg] at h1
        cases h1
        simp only [h2]
  | inr w =>
    simp only [zname] at h1
    simp only [zgoes, h1, h2]
def zAdv (E : zE) (d : Nat) (f : zF) : Prop := ∀ (R : zQ) (r : Nat) (ph : zP) (fs : List (Nat × zP)) (nm : Nat), zQok E R → r ∈ q_s R → 24 ≤ d + (q_s R).length → zname E R r ph = some nm → ∃ R0, zre E ((r, ph) :: fs, R) ((r, ph) :: fs, R0) ∧ zget E R0 nm = some (f R nm) ∧ zkp R R0 ∧ zQok E R0
def zMk (E : zE) (d : Nat) : Prop := ∀ (R : zQ) (r : Nat) (fs : List (Nat × zP)), zQok E R → r ∉ q_s R → r < e_n E → 24 ≤ d + (q_s R).length + 1 → zre E ((r, .inl (0, 0)) :: fs, q_push R r) (fs, (zmake (zout E d) E R r).2) ∧ q_m (zmake (zout E d) E R r).2 r = some (zmake (zout E d) E R r).1 ∧ zkp R (zmake (zout E d) E R r).2 ∧ zQok E (zmake (zout E d) E R r).2
theorem zadv_of {E : zE} (hE : zEok E) (d : Nat) (hM : ∀ d', d = d' + 1 → zMk E d') : zAdv E d (zout E d) := by
  intro R r ph fs nm hR hr hd hn
  cases hg : zget E R nm with
  | some p => exact ⟨R, zre.rf, by rw [hg, zout_get hg], zkp.rf, hR⟩
  | none =>
    obtain ⟨-, h1, h2, h3, h4⟩ := zout_none hg 0
    have hrm := zroom hE hR h2 h4
    cases d with
    | zero => omega
    | succ d =>
      obtain ⟨e1, -⟩ := zout_none hg d
      obtain ⟨m1, m2, m3, m4⟩ := hM d rfl R (nm - 16) ((r, ph) :: fs) hR h4 h2 (by omega)
      refine ⟨_, (zre.one (zpush hn hg)).tr m1, ?_, m3, m4⟩
      rw [e1]
      unfold zget
      rw [if_neg (by omega), if_neg (by omega), m2]
theorem zstep_none {E : zE} {R R' : zQ} (h : zkp R R') {r : Nat} (hr : r ∈ q_s R) (ph : zP) : zname E R' r ph = zname E R r ph := by
  cases ph with
  | inl p => simp only [zname, h.2 r hr]
  | inr w => rfl
theorem zQok_look {E : zE} {R : zQ} (h : zQok E R) : zQok E (q_look R) := h
theorem znI_ne {i : Nat} (h : i < 1000) : ¬ nI i = -1 ∧ ¬ nI i = -2 := by
  constructor <;> intro e <;> have := congrArg Int32.toInt e <;> rw [nI_toInt (by omega)] at this <;> exact absurd this (by
    first | (rw [show (-1 : Int32).toInt = -1 from rfl]; omega) | (rw [show (-2 : Int32).toInt = -2 from rfl]; omega))
theorem zcmp_re {E : zE} {d : Nat} {f : zF} (hE : zEok E) (hA : zAdv E d f) {r k : Nat} {t : zT} {fs : List (Nat × zP)} (hf : e_f E = false) : ∀ (gs : List zR) (i : Nat) (R : zQ), zQok E R → r ∈ q_s R → 24 ≤ d + (q_s R).length → k < (q_t R r).length → (q_t R r).getD k zt0 = t → gs = t.1.drop i →
    zkp R (zcmp f r gs i R).2 ∧ zQok E (zcmp f r gs i R).2 ∧ ((zcmp f r gs i R).1 = -1 → zre E ((r, .inl (k, i)) :: fs, R) (fs, q_close (zcmp f r gs i R).2 r (zhit (zcmp f r gs i R).2 r))) ∧ ((zcmp f r gs i R).1 = -2 → zre E ((r, .inl (k, i)) :: fs, R) (fs, q_close (q_tr (q_stale (zcmp f r gs i R).2 r k (-2)) r (zfront (q_t (zcmp f r gs i R).2 r) k)) r t.2)) ∧ (¬ (zcmp f r gs i R).1 = -1 → ¬ (zcmp f r gs i R).1 = -2 → zre E ((r, .inl (k, i)) :: fs, R) ((r, .inl (k + 1, 0)) :: fs, q_stale (zcmp f r gs i R).2 r k (zcmp f r gs i R).1)) := by
  intro gs
  induction gs with
  | nil =>
    intro i R hR hr hd hk ht hg
    refine ⟨zkp.rf, hR, fun h => ?_, fun _ => ?_, fun _ h => absurd rfl h⟩
    · exact absurd (show (-2 : Int32) = -1 from h) (by decide)
    · have hi : t.1[i]? = none := by
        rw [List.getElem?_eq_none_iff]
        have := congrArg List.length hg
        simp only [List.length_nil, List.length_drop] at this
        omega
      apply zre.one
      simp only [zgoes, zcmp, hf]
      rw [if_neg (by simp; omega), ht, hi]
  | cons g gs ih =>
    intro i R hR hr hd hk ht hg
    have hi : t.1[i]? = some g := by
      have := congrArg (fun l => l[0]?) hg
      simpa using this.symm
    have hgs : gs = t.1.drop (i + 1) := by
      have := congrArg List.tail hg
      simpa using this
    have htm : t ∈ q_t R r := by
      rw [← ht, List.getD_eq_getElem?_getD, List.getElem?_eq_getElem hk]
      exact List.getElem_mem hk
    have hi25 : i < 25 := by
      have h1 := (List.getElem?_eq_some_iff.mp hi).1
      have h2 := ((hR.1 r).2 t htm).1
      omega
    have hnm : zname E R r (.inl (k, i)) = some g.1 := by
      simp only [zname, hf]
      rw [if_neg (by simp; omega), ht, hi]
      rfl
    obtain ⟨R0, s1, s2, s3, s4⟩ := hA R r (.inl (k, i)) fs g.1 hR hr hd hnm
    obtain ⟨o1, o2, o3⟩ := zget_ok hE s4 s2
    have kp : zkp R (q_look (f R g.1).2) := s3.tr o3
    have hR1 : zQok E (q_look (f R g.1).2) := o2
    have hstep : ∀ c, (if (q_r (q_look (f R g.1).2) r).isSome = true then (fs, q_close (q_look (f R g.1).2) r (zhit (q_look (f R g.1).2) r)) else if (f R g.1).1 = g.2 then ((r, .inl (k, i + 1)) :: fs, q_look (f R g.1).2) else ((r, .inl (k + 1, 0)) :: fs, q_stale (q_look (f R g.1).2) r k (nI i))) = c → zre E ((r, .inl (k, i)) :: fs, R) c := by
      intro c hc
      refine s1.tr (zre.one ?_)
      simp only [zgoes, hf]
      rw [if_neg (by rw [s3.2 r hr]; simp; omega), s3.2 r hr, ht, hi]
      simp only [s2]
      exact hc
    by_cases c1 : (q_r (q_look (f R g.1).2) r).isSome = true
    · have e1 : zcmp f r (g :: gs) i R = (-1, q_look (f R g.1).2) := by rw [zcmp, if_pos c1]
      rw [e1]
      refine ⟨kp, hR1, fun _ => hstep _ (by rw [if_pos c1]), fun h => absurd (show (-1 : Int32) = -2 from h) (by decide), fun h => absurd rfl h⟩
    · by_cases c2 : (f R g.1).1 = g.2
      · have e1 : zcmp f r (g :: gs) i R = zcmp f r gs (i + 1) (q_look (f R g.1).2) := by rw [zcmp, if_neg c1, if_pos c2]
        rw [e1]
        obtain ⟨j1, j2, j3, j4, j5⟩ := ih (i + 1) (q_look (f R g.1).2) hR1 (by rw [kp.1]; exact hr) (by rw [kp.1]; exact hd) (by rw [kp.2 r hr]; exact hk) (by rw [kp.2 r hr]; exact ht) hgs
        have st := hstep ((r, .inl (k, i + 1)) :: fs, q_look (f R g.1).2) (by rw [if_neg c1, if_pos c2])
        exact ⟨kp.tr j1, j2, fun h => st.tr (j3 h), fun h => st.tr (j4 h), fun h h' => st.tr (j5 h h')⟩
      · have e1 : zcmp f r (g :: gs) i R = (nI i, q_look (f R g.1).2) := by rw [zcmp, if_neg c1, if_neg c2]
        rw [e1]
        obtain ⟨n1, n2⟩ := znI_ne (show i < 1000 by omega)
        exact ⟨kp, hR1, fun h => absurd h n1, fun h => absurd h n2, fun _ _ => hstep _ (by rw [if_neg c1, if_neg c2])⟩
