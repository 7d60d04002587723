/-! what the class needs of a round besides: staleness not yet told, rules not yet made -/
def zSt0 (E : zE) (fs : List (Nat × zP)) (R : zQ) : Prop := e_f E = false → ∀ r k, q_m R r = none → (r ∉ q_s R ∨ ∃ k' i, (r, Sum.inl (k', i)) ∈ fs ∧ k' ≤ k) → q_z R r k = -1
theorem zget_z {E : zE} {R : zQ} {nm : Nat} {p : zO × zQ} (h : zget E R nm = some p) : q_z p.2 = q_z R := by
  unfold zget at h
  by_cases h1 : nm < 16
  · rw [if_pos h1] at h
    cases h
    rfl
  · rw [if_neg h1] at h
    by_cases h2 : e_n E ≤ nm - 16
    · rw [if_pos h2] at h
      cases h
      rfl
    · rw [if_neg h2] at h
      cases h3 : q_m R (nm - 16) with
      | some o =>
        rw [h3] at h
        cases h
        rfl
      | none =>
        rw [h3] at h
        by_cases h4 : nm - 16 ∈ q_s R
        · simp only [h4, if_true] at h
          cases h
          rfl
        · simp only [h4, if_false] at h
          cases h
theorem zSt0.eq {E : zE} {fs : List (Nat × zP)} {R R2 : zQ} (h : zSt0 E fs R) (h1 : q_m R2 = q_m R) (h2 : q_s R2 = q_s R) (h3 : q_z R2 = q_z R) : zSt0 E fs R2 := by
  intro hf r k
  rw [h1, h2, h3]
  exact h hf r k
theorem zSt0.got {E : zE} {fs : List (Nat × zP)} {R : zQ} {nm : Nat} {p : zO × zQ} (h : zSt0 E fs R) (hz : zget E R nm = some p) : zSt0 E fs p.2 := h.eq (zget_eq hz).2.1 (zget_eq hz).2.2.1 (zget_z hz)
/-- the frame on top goes on -/
theorem zSt0.top {E : zE} {fs : List (Nat × zP)} {R : zQ} {r : Nat} {ph ph2 : zP} (h : zSt0 E ((r, ph) :: fs) R) (hp : ∀ k i, ph2 = .inl (k, i) → ∃ k' i', ph = .inl (k', i') ∧ k' ≤ k) : zSt0 E ((r, ph2) :: fs) R := by
  intro hf x k hm hx
  refine h hf x k hm ?_
  rcases hx with hx | ⟨k', i, hx, hk⟩
  · exact .inl hx
  · rcases List.mem_cons.mp hx with e | e
    · cases e
      obtain ⟨k2, i2, e2, h2⟩ := hp k' i rfl
      exact .inr ⟨k2, i2, by rw [e2]; exact List.mem_cons_self, by omega⟩
    · exact .inr ⟨k', i, List.mem_cons_of_mem _ e, hk⟩
theorem zSt0.stale {E : zE} {fs : List (Nat × zP)} {R : zQ} {r k : Nat} {y : Int32} {ph : zP} (hW : zWF E ((r, ph) :: fs) R) (h : zSt0 E ((r, ph) :: fs) R) (hp : ∀ k' i, ph = .inl (k', i) → k < k') : zSt0 E ((r, ph) :: fs) (q_stale R r k y) := by
  intro hf x j hm hx
  have hm : q_m R x = none := hm
  have h0 := h hf x j hm hx
  show va_up (q_z R) r (va_up (q_z R r) k y) x j = -1
  by_cases e : x = r
  · subst e
    rw [va_up_self]
    have hj : j ≠ k := by
      rcases hx with hx | ⟨k', i, hx, hk⟩
      · exact absurd (show x ∈ q_s R by rw [hW.2.2.2.1]; exact List.mem_cons_self) hx
      · rcases List.mem_cons.mp hx with e | e
        · cases e
          have := hp k' i rfl
          omega
        · exact (zhead_once hW _ e rfl).elim
    rw [va_up_ne _ _ hj]
    exact h0
  · rw [va_up_ne _ _ e]
    exact h0
theorem zSt0.close {E : zE} {fs : List (Nat × zP)} {R R2 : zQ} {r : Nat} {ph : zP} {o : zO} (hW : zWF E ((r, ph) :: fs) R) (h : zSt0 E ((r, ph) :: fs) R) (h1 : q_m R2 = q_m R) (h2 : q_s R2 = q_s R) (h3 : ∀ x, x ≠ r → q_z R2 x = q_z R x) : zSt0 E fs (q_close R2 r o) := by
  intro hf x k hm hx
  have hm : va_up (q_m R2) r (some o) x = none := hm
  have hxr : x ≠ r := fun e => by rw [e, va_up_self] at hm; cases hm
  rw [va_up_ne _ _ hxr, h1] at hm
  have hs : q_s (q_close R2 r o) = fs.map (fun f => f.1) := by
    show (q_s R2).tail = _
    rw [h2, hW.2.2.2.1]
    rfl
  show q_z R2 x k = -1
  rw [h3 x hxr]
  refine h hf x k hm ?_
  rcases hx with hx | ⟨k', i, hx, hk⟩
  · left
    rw [hW.2.2.2.1]
    rw [hs] at hx
    intro e
    rcases List.mem_cons.mp e with e | e
    · exact hxr e
    · exact hx e
  · exact .inr ⟨k', i, List.mem_cons_of_mem _ hx, hk⟩
theorem zSt0.push {E : zE} {fs : List (Nat × zP)} {R : zQ} {r : Nat} (h : zSt0 E fs R) (hr : r ∉ q_s R) : zSt0 E ((r, .inl (0, 0)) :: fs) (q_push R r) := by
  intro hf x k hm hx
  refine h hf x k hm ?_
  rcases hx with hx | ⟨k', i, hx, hk⟩
  · exact .inl (fun e => hx (List.mem_cons_of_mem _ e))
  · rcases List.mem_cons.mp hx with e | e
    · cases e
      exact .inl hr
    · exact .inr ⟨k', i, e, hk⟩
theorem zSt0_goes {E : zE} {f : Nat × zP} {fs : List (Nat × zP)} {R : zQ} (hW : zWF E (f :: fs) R) (h : zSt0 E (f :: fs) R) : zSt0 E (zgoes E (f :: fs, R)).1 (zgoes E (f :: fs, R)).2 := by
  obtain ⟨r, ph⟩ := f
  have tz : ∀ (R : zQ) (k : Nat) (y : Int32) (x : Nat), x ≠ r → q_z (q_stale R r k y) x = q_z R x := fun R k y x hx => va_up_ne _ _ hx
  cases ph with
  | inl p =>
    obtain ⟨k, i⟩ := p
    by_cases hb : e_f E = true ∨ (q_t R r).length ≤ k
    · rw [zg_b hb]
      refine zSt0.eq (R := R) (h.top (fun k i e => by cases e)) ?_ ?_ ?_ <;> (dsimp only; split <;> rfl)
    · cases hg : ((q_t R r).getD k zt0).1[i]? with
      | none =>
        rw [zg_fit hb hg]
        exact zSt0.close hW h rfl rfl (fun x hx => tz R k _ x hx)
      | some g =>
        cases hz : zget E R g.1 with
        | none =>
          rw [zg_p1 hb hg hz]
          exact h.push (zout_none hz 0).2.2.2.2
        | some o =>
          have h2 : zSt0 E ((r, .inl (k, i)) :: fs) (q_look o.2) := (h.got hz).eq rfl rfl rfl
          have hW2 : zWF E ((r, .inl (k, i)) :: fs) (q_look o.2) := zWF_got hW hz
          by_cases hr : (q_r (q_look o.2) r).isSome = true
          · rw [zg_h1 hb hg hz hr]
            exact zSt0.close hW2 h2 rfl rfl (fun x _ => rfl)
          · by_cases he : o.1 = g.2
            · rw [zg_s hb hg hz hr he]
              exact h2.top (fun k' i' e => by cases e; exact ⟨_, _, rfl, Nat.le_refl _⟩)
            · rw [zg_n hb hg hz hr he]
              have h3 : zSt0 E ((r, .inl (k + 1, 0)) :: fs) (q_look o.2) := h2.top (fun k' i' e => by cases e; exact ⟨_, _, rfl, by omega⟩)
              have hW3 : zWF E ((r, .inl (k + 1, 0)) :: fs) (q_look o.2) := by
                refine zWF_fr hW2 ?_ (fun w e => by cases e)
                right
                have hq : q_t (q_look o.2) r = q_t R r := by rw [← (zget_eq hz).1]; rfl
                rw [hq]
                exact ⟨by have : ¬ (q_t R r).length ≤ k := fun e => hb (.inr e); show k + 1 ≤ _; omega, Nat.zero_le _⟩
              exact zSt0.stale hW3 h3 (fun k' i' e => by cases e; omega)
  | inr w =>
    cases hn : znext (e_k E r) (e_i E r) w with
    | none =>
      rw [zg_e hn]
      refine zSt0.close hW h ?_ ?_ (fun x _ => ?_) <;> (split <;> rfl)
    | some nm =>
      cases hz : zget E R nm with
      | none =>
        rw [zg_p2 hn hz]
        exact h.push (zout_none hz 0).2.2.2.2
      | some o =>
        by_cases hr : (q_r o.2 r).isSome = true
        · rw [zg_h2 hn hz hr]
          exact zSt0.close (zWF_got hW hz) (h.got hz) rfl rfl (fun x _ => rfl)
        · rw [zg_t hn hz hr]
          exact (h.got hz).top (fun k i e => by cases e)
/-- a rule that is neither open nor made was not hit -/
def zHq (R : zQ) : Prop := ∀ r, q_m R r = none → r ∉ q_s R → q_r R r = none
theorem zHq.got {E : zE} {R : zQ} {nm : Nat} {p : zO × zQ} (h : zHq R) (hz : zget E R nm = some p) : zHq p.2 := by
  unfold zget at hz
  by_cases h1 : nm < 16
  · rw [if_pos h1] at hz
    cases hz
    exact h
  · rw [if_neg h1] at hz
    by_cases h2 : e_n E ≤ nm - 16
    · rw [if_pos h2] at hz
      cases hz
      exact h
    · rw [if_neg h2] at hz
      cases h3 : q_m R (nm - 16) with
      | some o =>
        rw [h3] at hz
        cases hz
        exact h
      | none =>
        rw [h3] at hz
        by_cases h4 : nm - 16 ∈ q_s R
        · simp only [h4, if_true] at hz
          cases hz
          intro x hm hx
          have hx : x ∉ q_s R := hx
          show (if x ∈ (q_s R).takeWhile (fun x => x != nm - 16) ++ [nm - 16] then _ else q_r R x) = none
          rw [if_neg (fun z => ?_)]
          · exact h x hm hx
          · rcases List.mem_append.mp z with z | z
            · exact hx ((List.takeWhile_sublist _).subset z)
            · rw [List.mem_singleton.mp z] at hx
              exact hx h4
        · simp only [h4, if_false] at hz
          cases hz
theorem zHq.close {E : zE} {fs : List (Nat × zP)} {R R2 : zQ} {r : Nat} {ph : zP} {o : zO} (hW : zWF E ((r, ph) :: fs) R) (h : zHq R) (h1 : q_m R2 = q_m R) (h2 : q_s R2 = q_s R) (h3 : q_r R2 = q_r R) : zHq (q_close R2 r o) := by
  intro x hm hx
  have hm : va_up (q_m R2) r (some o) x = none := hm
  have hxr : x ≠ r := fun e => by rw [e, va_up_self] at hm; cases hm
  rw [va_up_ne _ _ hxr, h1] at hm
  have hx : x ∉ (q_s R2).tail := hx
  show q_r R2 x = none
  rw [h3]
  refine h x hm (fun z => hx ?_)
  rw [h2]
  rw [hW.2.2.2.1] at z ⊢
  rcases List.mem_cons.mp z with z | z
  · exact absurd z hxr
  · exact z
theorem zHq_goes {E : zE} {f : Nat × zP} {fs : List (Nat × zP)} {R : zQ} (hW : zWF E (f :: fs) R) (h : zHq R) : zHq (zgoes E (f :: fs, R)).2 := by
  obtain ⟨r, ph⟩ := f
  have pu : ∀ x, zHq (q_push R x) := fun x y hm hy => h y hm (fun z => hy (List.mem_cons_of_mem _ z))
  cases ph with
  | inl p =>
    obtain ⟨k, i⟩ := p
    by_cases hb : e_f E = true ∨ (q_t R r).length ≤ k
    · rw [zg_b hb]
      dsimp only
      split
      · exact h
      · exact h
    · cases hg : ((q_t R r).getD k zt0).1[i]? with
      | none =>
        rw [zg_fit hb hg]
        exact h.close hW rfl rfl rfl
      | some g =>
        cases hz : zget E R g.1 with
        | none => rw [zg_p1 hb hg hz]; exact pu _
        | some o =>
          have h2 : zHq (q_look o.2) := h.got hz
          have hW2 : zWF E ((r, .inl (k, i)) :: fs) (q_look o.2) := zWF_got hW hz
          by_cases hr : (q_r (q_look o.2) r).isSome = true
          · rw [zg_h1 hb hg hz hr]
            exact h2.close hW2 rfl rfl rfl
          · by_cases he : o.1 = g.2
            · rw [zg_s hb hg hz hr he]; exact h2
            · rw [zg_n hb hg hz hr he]; exact h2
  | inr w =>
    cases hn : znext (e_k E r) (e_i E r) w with
    | none =>
      rw [zg_e hn]
      refine zHq.close hW h ?_ ?_ ?_ <;> (split <;> rfl)
    | some nm =>
      cases hz : zget E R nm with
      | none => rw [zg_p2 hn hz]; exact pu _
      | some o =>
        by_cases hr : (q_r o.2 r).isSome = true
        · rw [zg_h2 hn hz hr]
          exact (h.got hz).close (zWF_got hW hz) rfl rfl rfl
        · rw [zg_t hn hz hr]
          exact h.got hz
def zSt (E : zE) (fs : List (Nat × zP)) (R : zQ) : Prop := zSt0 E fs R ∧ zHq R
theorem zSt.got {E : zE} {fs : List (Nat × zP)} {R : zQ} {nm : Nat} {p : zO × zQ} (h : zSt E fs R) (hz : zget E R nm = some p) : zSt E fs p.2 := ⟨h.1.got hz, h.2.got hz⟩
theorem zSt.top {E : zE} {fs : List (Nat × zP)} {R : zQ} {r : Nat} {ph ph2 : zP} (h : zSt E ((r, ph) :: fs) R) (hp : ∀ k i, ph2 = .inl (k, i) → ∃ k' i', ph = .inl (k', i') ∧ k' ≤ k) : zSt E ((r, ph2) :: fs) R := ⟨h.1.top hp, h.2⟩
theorem zSt.stale {E : zE} {fs : List (Nat × zP)} {R : zQ} {r k : Nat} {y : Int32} {ph : zP} (hW : zWF E ((r, ph) :: fs) R) (h : zSt E ((r, ph) :: fs) R) (hp : ∀ k' i, ph = .inl (k', i) → k < k') : zSt E ((r, ph) :: fs) (q_stale R r k y) := ⟨zSt0.stale hW h.1 hp, h.2⟩
theorem zSt.push {E : zE} {fs : List (Nat × zP)} {R : zQ} {r : Nat} (h : zSt E fs R) (hr : r ∉ q_s R) : zSt E ((r, .inl (0, 0)) :: fs) (q_push R r) := ⟨h.1.push hr, fun y hm hy => h.2 y hm (fun z => hy (List.mem_cons_of_mem _ z))⟩
theorem zSt_goes {E : zE} {f : Nat × zP} {fs : List (Nat × zP)} {R : zQ} (hW : zWF E (f :: fs) R) (h : zSt E (f :: fs) R) : zSt E (zgoes E (f :: fs, R)).1 (zgoes E (f :: fs, R)).2 := ⟨zSt0_goes hW h.1, zHq_goes hW h.2⟩
theorem zit_st {E : zE} : ∀ (k : Nat) (fs : List (Nat × zP)) (R : zQ), zWF E fs R → zSt E fs R → zWF E (zit E k (fs, R)).1 (zit E k (fs, R)).2 ∧ zSt E (zit E k (fs, R)).1 (zit E k (fs, R)).2 := by
  intro k
  induction k with
  | zero => intro fs R h1 h2; exact ⟨h1, h2⟩
  | succ k ih =>
    intro fs R h1 h2
    cases fs with
    | nil => rw [zit_nil]; exact ⟨h1, h2⟩
    | cons f fs => exact ih _ _ (zWF_goes h1) (zSt_goes h1 h2)
/-- the frames and the state of a round -/
def zJ (E : zE) (fs : List (Nat × zP)) (R : zQ) : Prop := zWF E fs R ∧ zSt E fs R
/-- a name is made: what is kept -/
theorem zcall {E : zE} {d : Nat} {R : zQ} {r : Nat} {ph : zP} {fs : List (Nat × zP)} {nm : Nat} (hJ : zJ E ((r, ph) :: fs) R) (hd : 24 ≤ d + (q_s R).length) (hn : zname E R r ph = some nm) : zJ E ((r, ph) :: fs) (zout E d R nm).2 ∧ zkp R (zout E d R nm).2 ∧ zok (zout E d R nm).1 := by
  obtain ⟨hW, hS⟩ := hJ
  have hr : r ∈ q_s R := by rw [hW.2.2.2.1]; exact List.mem_cons_self
  obtain ⟨R0, ⟨k, hk⟩, s2, s3, s4⟩ := zadv_of hW.1 d (fun d' _ => zmk hW.1 d') R r ph fs nm hW.2.1 hr hd hn
  obtain ⟨i1, i2⟩ := zit_st k _ _ hW hS
  rw [hk] at i1 i2
  obtain ⟨o1, o2, o3⟩ := zget_ok hW.1 s4 s2
  exact ⟨⟨zWF_got i1 s2, i2.got s2⟩, s3.tr o3, o1⟩
/-- how many rules have no outcome yet -/
def zun (f : Nat → Option zO) : Nat → Nat
  | 0 => 0
  | n + 1 => zun f n + (if (f n).isNone = true then 1 else 0)
theorem zun_up (f : Nat → Option zO) (r : Nat) (o : zO) : ∀ n, zun (va_up f r (some o)) n ≤ zun f n ∧ (r < n → f r = none → zun (va_up f r (some o)) n + 1 = zun f n) := by
  intro n
  induction n with
  | zero => exact ⟨Nat.le_refl _, fun h => absurd h (by omega)⟩
  | succ n ih =>
    unfold zun
    by_cases e : n = r
    · subst e
      rw [va_up_self]
      refine ⟨?_, fun _ h => ?_⟩
      · simp only [Option.isNone_some, Bool.false_eq_true, if_false]
        omega
      · have h2 : ∀ m, m ≤ n → zun (va_up f n (some o)) m = zun f m := by
          intro m
          induction m with
          | zero => intro _; rfl
          | succ m im =>
            intro hm
            unfold zun
            rw [im (by omega), va_up_ne _ _ (by omega)]
        rw [h2 n (Nat.le_refl _), h]
        simp
    · rw [va_up_ne _ _ e]
      exact ⟨by omega, fun h1 h2 => by have := ih.2 (by omega) h2; omega⟩
theorem zun_24 {f : Nat → Option zO} : ∀ n, zun f n ≤ n := by
  intro n
  induction n with
  | zero => exact Nat.le_refl _
  | succ n ih => unfold zun; split <;> omega
def zU (R : zQ) : Nat := zun (q_m R) 24
section
variable {E : zE} {f : zF}
theorem zU_cmp (hf : ∀ R nm, zU (f R nm).2 ≤ zU R) (r : Nat) : ∀ (gs : List zR) (i : Nat) (R : zQ), zU (zcmp f r gs i R).2 ≤ zU R := by
  intro gs
  induction gs with
  | nil => intro i R; exact Nat.le_refl _
  | cons g gs ih =>
    intro i R
    have h0 : zU (q_look (f R g.1).2) ≤ zU R := hf R g.1
    rw [zcmp]
    split
    · exact h0
    · split
      · exact Nat.le_trans (ih _ _) h0
      · exact h0
theorem zU_look (hf : ∀ R nm, zU (f R nm).2 ≤ zU R) (r : Nat) : ∀ (ts : List zT) (k : Nat) (R : zQ), zU (zlook f r ts k R).2 ≤ zU R := by
  intro ts
  induction ts with
  | nil => intro k R; exact Nat.le_refl _
  | cons t ts ih =>
    intro k R
    have h0 := zU_cmp hf r t.1 0 R
    rw [zlook]
    split
    · exact h0
    · split
      · exact h0
      · exact Nat.le_trans (ih _ _) h0
theorem zU_work (hf : ∀ R nm, zU (f R nm).2 ≤ zU R) (r : Nat) : ∀ (n : Nat) (w : zW) (R : zQ), zU (zwork f E r n w R).2 ≤ zU R := by
  intro n
  induction n with
  | zero => intro w R; exact Nat.le_refl _
  | succ n ih =>
    intro w R
    rw [zwork]
    split
    · show zU (if e_f E = true then R else _) ≤ zU R
      split <;> exact Nat.le_refl _
    · next nm _ =>
      split
      · exact hf R nm
      · exact Nat.le_trans (ih _ _) (hf R nm)
theorem zU_make (hf : ∀ R nm, zU (f R nm).2 ≤ zU R) (R : zQ) (r : Nat) : zU (zmake f E R r).2 ≤ zU R := by
  have hc : ∀ (R2 : zQ) (o : zO), zU (q_close R2 r o) ≤ zU R2 := fun R2 o => (zun_up (q_m R2) r o 24).1
  unfold zmake
  split
  · next o R2 he =>
    refine Nat.le_trans (hc _ _) ?_
    split at he
    · cases he
    · have := zU_look hf r (q_t R r) 0 (q_push R r)
      rw [he] at this
      exact this
  · next R2 he =>
    have h2 : zU R2 ≤ zU R := by
      split at he
      · cases he; exact Nat.le_refl _
      · have := zU_look hf r (q_t R r) 0 (q_push R r)
        rw [he] at this
        exact this
    refine Nat.le_trans (hc _ _) (Nat.le_trans (zU_work hf r _ _ _) ?_)
    split
    · exact h2
    · exact h2
end
theorem zU_out {E : zE} : ∀ d R nm, zU (zout E d R nm).2 ≤ zU R := by
  intro d
  have hh : ∀ R r, zU (q_hit R r).2 ≤ zU R := fun R r => Nat.le_refl _
  induction d with
  | zero =>
    intro R nm
    rw [zout]
    split
    · exact Nat.le_refl _
    · split
      · exact Nat.le_refl _
      · split
        · exact Nat.le_refl _
        · split
          · exact hh _ _
          · exact Nat.le_refl _
  | succ d ih =>
    intro R nm
    rw [zout]
    split
    · exact Nat.le_refl _
    · split
      · exact Nat.le_refl _
      · split
        · exact Nat.le_refl _
        · split
          · exact hh _ _
          · exact zU_make ih _ _
