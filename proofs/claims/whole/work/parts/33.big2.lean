def zkq (r : Nat) (R R' : zQ) : Prop := q_s R' = q_s R ∧ ∀ x ∈ q_s R, x ≠ r → q_t R' x = q_t R x
theorem zkp.q {R R' : zQ} (h : zkp R R') (r : Nat) : zkq r R R' := ⟨h.1, fun x hx _ => h.2 x hx⟩
theorem zkq.tr {r : Nat} {a b c : zQ} (h1 : zkq r a b) (h2 : zkq r b c) : zkq r a c := ⟨h2.1.trans h1.1, fun x hx hn => (h2.2 x (by rw [h1.1]; exact hx) hn).trans (h1.2 x hx hn)⟩
theorem zkq_tr {R : zQ} {r : Nat} {l : List zT} : zkq r R (q_tr R r l) := ⟨rfl, fun x _ hn => va_up_ne _ _ hn⟩
theorem zQok_tr {E : zE} {R : zQ} (h : zQok E R) {r : Nat} {l : List zT} (h1 : l.length ≤ 4) (h2 : ∀ t ∈ l, ztok t) : zQok E (q_tr R r l) := by
  refine ⟨fun x => ?_, h.2⟩
  show (va_up (q_t R) r l x).length ≤ 4 ∧ ∀ t ∈ va_up (q_t R) r l x, ztok t
  by_cases hx : x = r
  · subst hx
    rw [va_up_self]
    exact ⟨h1, h2⟩
  · rw [va_up_ne _ _ hx]
    exact h.1 x
theorem zQok_close {E : zE} {R : zQ} (h : zQok E R) {r : Nat} {o : zO} (ho : zok o) : zQok E (q_close R r o) := by
  refine ⟨h.1, fun x p hp => ?_, ?_, fun x hx => h.2.2.2 x (List.mem_of_mem_tail hx)⟩
  · have hp : va_up (q_m R) r (some o) x = some p := hp
    by_cases hx : x = r
    · subst hx
      rw [va_up_self] at hp
      cases hp
      exact ho
    · rw [va_up_ne _ _ hx] at hp
      exact h.2.1 x p hp
  · exact h.2.2.1.sublist (List.tail_sublist _)
theorem zfront_mem {l : List zT} {k : Nat} {t : zT} (h : t ∈ zfront l k) : t ∈ l := by
  unfold zfront at h
  split at h
  · next u hu =>
    rcases List.mem_cons.mp h with rfl | h
    · exact List.mem_of_getElem? hu
    · exact List.mem_of_mem_eraseIdx h
  · exact h
theorem zfront_len {l : List zT} {k : Nat} : (zfront l k).length = l.length := by
  unfold zfront
  split
  · next u hu =>
    have := (List.getElem?_eq_some_iff.mp hu).1
    rw [List.length_cons, List.length_eraseIdx_of_lt this]
    omega
  · rfl
theorem zlook_re {E : zE} {d : Nat} {f : zF} (hE : zEok E) (hA : zAdv E d f) {r : Nat} {fs : List (Nat × zP)} (hf : e_f E = false) : ∀ (ts : List zT) (k : Nat) (R : zQ), zQok E R → r ∈ q_s R → 24 ≤ d + (q_s R).length → ts = (q_t R r).drop k →
    zkq r R (zlook f r ts k R).2 ∧ zQok E (zlook f r ts k R).2 ∧ (∀ o, (zlook f r ts k R).1 = some o → zok o ∧ zre E ((r, .inl (k, 0)) :: fs, R) (fs, q_close (zlook f r ts k R).2 r o)) ∧ ((zlook f r ts k R).1 = none → zkp R (zlook f r ts k R).2 ∧ ∃ k', (q_t R r).length ≤ k' ∧ zre E ((r, .inl (k, 0)) :: fs, R) ((r, .inl (k', 0)) :: fs, (zlook f r ts k R).2)) := by
  intro ts
  induction ts with
  | nil =>
    intro k R hR hr hd ht
    refine ⟨zkp.rf.q r, hR, fun o h => (by cases h), fun _ => ⟨zkp.rf, k, ?_, zre.rf⟩⟩
    have := congrArg List.length ht
    simp only [List.length_nil, List.length_drop] at this
    omega
  | cons t ts ih =>
    intro k R hR hr hd ht
    have hkt : (q_t R r)[k]? = some t := by
      have := congrArg (fun l => l[0]?) ht
      simpa using this.symm
    have hk := (List.getElem?_eq_some_iff.mp hkt).1
    have hgd : (q_t R r).getD k zt0 = t := by rw [List.getD_eq_getElem?_getD, hkt]; rfl
    have hts : ts = (q_t R r).drop (k + 1) := by
      have := congrArg List.tail ht
      simpa using this
    have htm : t ∈ q_t R r := List.mem_of_getElem? hkt
    obtain ⟨j1, j2, j3, j4, j5⟩ := zcmp_re (fs := fs) hE hA hf t.1 0 R hR hr hd hk hgd rfl
    by_cases c1 : (zcmp f r t.1 0 R).1 = -1
    · have e1 : zlook f r (t :: ts) k R = (some (zhit (zcmp f r t.1 0 R).2 r), (zcmp f r t.1 0 R).2) := by rw [zlook, if_pos c1]
      rw [e1]
      refine ⟨j1.q r, j2, fun o h => ?_, fun h => by cases h⟩
      cases h
      exact ⟨zhit_ok _ _, j3 c1⟩
    · by_cases c2 : (zcmp f r t.1 0 R).1 = -2
      · have e1 : zlook f r (t :: ts) k R = (some t.2, q_tr (q_stale (zcmp f r t.1 0 R).2 r k (-2)) r (zfront (q_t (zcmp f r t.1 0 R).2 r) k)) := by rw [zlook, if_neg c1, if_pos c2]
        rw [e1]
        refine ⟨(j1.q r).tr (b := q_stale (zcmp f r t.1 0 R).2 r k (-2)) zkq_tr, zQok_tr (R := q_stale (zcmp f r t.1 0 R).2 r k (-2)) j2 ?_ ?_, fun o h => ?_, fun h => by cases h⟩
        · rw [zfront_len]
          exact (j2.1 r).1
        · intro u hu
          exact (j2.1 r).2 u (zfront_mem hu)
        · cases h
          exact ⟨((hR.1 r).2 t htm).2.2, j4 c2⟩
      · have e1 : zlook f r (t :: ts) k R = zlook f r ts (k + 1) (q_stale (zcmp f r t.1 0 R).2 r k (zcmp f r t.1 0 R).1) := by rw [zlook, if_neg c1, if_neg c2]
        rw [e1]
        have kp : zkp R (q_stale (zcmp f r t.1 0 R).2 r k (zcmp f r t.1 0 R).1) := j1
        obtain ⟨i1, i2, i3, i4⟩ := ih (k + 1) (q_stale (zcmp f r t.1 0 R).2 r k (zcmp f r t.1 0 R).1) j2 (by rw [kp.1]; exact hr) (by rw [kp.1]; exact hd) (by rw [kp.2 r hr]; exact hts)
        have st := j5 c1 c2
        refine ⟨(kp.q r).tr i1, i2, fun o h => ⟨(i3 o h).1, st.tr (i3 o h).2⟩, fun h => ?_⟩
        obtain ⟨a1, k', a2, a3⟩ := i4 h
        exact ⟨kp.tr a1, k', by rw [← kp.2 r hr]; exact a2, st.tr a3⟩
-- work
def zwok (w : zW) : Prop := w.1.length ≤ 25 ∧ (∀ g ∈ w.1, zok g.2 ∧ g.1 < 40) ∧ w.2.1.length ≤ 24 ∧ (w.2.2.2.2.1 = 0 → w.2.2.2.2.2 = 0)
theorem zins_len (l : List Int32) (v : Int32) : (zins l v).length = l.length + 1 := by
  unfold zins
  simp only [List.length_append, List.length_cons, List.length_take, List.length_drop]
  omega
theorem zsort_len (l : List Int32) : (zsort l).length = l.length := by
  unfold zsort
  have : ∀ (l a : List Int32), (l.foldl zins a).length = a.length + l.length := by
    intro l
    induction l with
    | nil => intro a; simp
    | cons v l ih => intro a; rw [List.foldl_cons, ih, zins_len, List.length_cons]; omega
  rw [this]
  simp
theorem zend_ok {k : Int32} {w : zW} (h : zwok w) : zok (zend k w) := by
  unfold zend
  split
  · next hk => exact ⟨by simp, fun _ => rfl, fun h => absurd h hk⟩
  · split
    · exact ⟨by simp, fun h => absurd rfl h, fun _ => rfl⟩
    · split
      · exact ⟨by rw [zsort_len]; exact h.2.2.1, fun h => absurd rfl h, fun _ => rfl⟩
      · exact ⟨h.2.2.1, fun h => absurd rfl h, fun _ => rfl⟩
theorem znext_lt {k : Int32} {ins : List Nat} {w : zW} {nm : Nat} (h : znext k ins w = some nm) (h6 : ins.length ≤ 6) (hw : zwok w) : w.1.length ≤ 24 ∧ nm ∈ ins := by
  unfold znext at h
  split at h
  · cases h
  · split at h
    · have := (List.getElem?_eq_some_iff.mp h).1
      exact ⟨by omega, List.mem_of_getElem? h⟩
    · split at h
      · next he => exact ⟨by rw [he]; simp, List.mem_of_getElem? h⟩
      · next g gs he =>
        split at h
        · cases h
        · split at h
          · cases h
          · next x hx =>
            have h1 := (List.getElem?_eq_some_iff.mp hx).1
            have h2 : g.2.2.2.length ≤ 24 := (hw.2.1 g (by rw [he]; exact List.mem_cons_self)).1.1
            refine ⟨?_, List.mem_of_getElem? h⟩
            split at h1
            · simp only [List.length_take] at h1
              omega
            · omega
theorem ztake_ok {k : Int32} {t : Bool} {r : Nat} {w : zW} {nm : Nat} {o : zO} (hw : zwok w) (h24 : w.1.length ≤ 24) (ho : zok o) (hn : nm < 40) : zwok (ztake k t r w nm o) ∧ (ztake k t r w nm o).1 = w.1 ++ [(nm, o)] := by
  have h1 : (w.1 ++ [(nm, o)]).length ≤ 25 := by simp; omega
  have h2 : ∀ g ∈ w.1 ++ [(nm, o)], zok g.2 ∧ g.1 < 40 := by
    intro g hg
    rcases List.mem_append.mp hg with hg | hg
    · exact hw.2.1 g hg
    · rw [List.mem_singleton.mp hg]
      exact ⟨ho, hn⟩
  unfold ztake
  split
  · next hc => exact ⟨⟨h1, h2, hw.2.2.1, fun h => absurd h hc.1⟩, rfl⟩
  · split
    · exact ⟨⟨h1, h2, hw.2.2⟩, rfl⟩
    · split
      · split
        · exact ⟨⟨h1, h2, hw.2.2.1, fun h => absurd (show (2 : Int32) = 0 from h) (by decide)⟩, rfl⟩
        · next hl => exact ⟨⟨h1, h2, by rw [List.length_append]; omega, hw.2.2.2⟩, rfl⟩
      · exact ⟨⟨h1, h2, hw.2.2⟩, rfl⟩
theorem zwork_re {E : zE} {d : Nat} {f : zF} (hE : zEok E) (hA : zAdv E d f) {r : Nat} {fs : List (Nat × zP)} : ∀ (n : Nat) (w : zW) (R : zQ), zQok E R → r ∈ q_s R → 24 ≤ d + (q_s R).length → zwok w → 28 ≤ n + w.1.length →
    zkq r R (zwork f E r n w R).2 ∧ zQok E (zwork f E r n w R).2 ∧ zok (zwork f E r n w R).1 ∧ zre E ((r, .inr w) :: fs, R) (fs, q_close (zwork f E r n w R).2 r (zwork f E r n w R).1) := by
  intro n
  induction n with
  | zero => intro w R _ _ _ hw hn; exact absurd hn (by have := hw.1; omega)
  | succ n ih =>
    intro w R hR hr hd hw hn
    cases hx : znext (e_k E r) (e_i E r) w with
    | none =>
      have e1 : zwork f E r (n + 1) w R = (zend (e_k E r) w, if e_f E = true then R else q_tr R r (zkeep (q_t R r) (w.1, zend (e_k E r) w))) := by rw [zwork, hx]
      rw [e1]
      have ho := zend_ok (k := e_k E r) hw
      refine ⟨?_, ?_, ho, ?_⟩
      · dsimp only
        split
        · exact zkp.rf.q r
        · exact zkq_tr
      · dsimp only
        split
        · exact hR
        · refine zQok_tr hR ?_ ?_
          · unfold zkeep
            simp only [List.length_cons, List.length_take]
            omega
          · intro t ht
            unfold zkeep at ht
            rcases List.mem_cons.mp ht with rfl | ht
            · exact ⟨hw.1, hw.2.1, ho⟩
            · exact (hR.1 r).2 t (List.mem_of_mem_take ht)
      · apply zre.one
        simp only [zgoes, hx]
    | some nm =>
      obtain ⟨h24, hmem⟩ := znext_lt hx (hE.2.2.1 r) hw
      have h40 := hE.2.2.2 r nm hmem
      obtain ⟨R0, s1, s2, s3, s4⟩ := hA R r (.inr w) fs nm hR hr hd hx
      obtain ⟨o1, o2, o3⟩ := zget_ok hE s4 s2
      have kp : zkp R (f R nm).2 := s3.tr o3
      have hstep : ∀ c, (if (q_r (f R nm).2 r).isSome = true then (fs, q_close (f R nm).2 r (zhit (f R nm).2 r)) else ((r, .inr (ztake (e_k E r) (e_t E r) r w nm (f R nm).1)) :: fs, (f R nm).2)) = c → zre E ((r, .inr w) :: fs, R) c := by
        intro c hc
        refine s1.tr (zre.one ?_)
        simp only [zgoes, hx, s2]
        exact hc
      by_cases c1 : (q_r (f R nm).2 r).isSome = true
      · have e1 : zwork f E r (n + 1) w R = (zhit (f R nm).2 r, (f R nm).2) := by rw [zwork, hx]; simp only [if_pos c1]
        rw [e1]
        exact ⟨kp.q r, o2, zhit_ok _ _, hstep _ (by rw [if_pos c1])⟩
      · have e1 : zwork f E r (n + 1) w R = zwork f E r n (ztake (e_k E r) (e_t E r) r w nm (f R nm).1) (f R nm).2 := by rw [zwork, hx]; simp only [if_neg c1]
        rw [e1]
        obtain ⟨t1, t2⟩ := ztake_ok (k := e_k E r) (t := e_t E r) (r := r) hw h24 o1 h40
        obtain ⟨i1, i2, i3, i4⟩ := ih (ztake (e_k E r) (e_t E r) r w nm (f R nm).1) (f R nm).2 o2 (by rw [kp.1]; exact hr) (by rw [kp.1]; exact hd) t1 (by rw [t2, List.length_append, List.length_singleton]; omega)
        exact ⟨(kp.q r).tr i1, i2, i3, (hstep _ (by rw [if_neg c1])).tr i4⟩
theorem zclose_kp {R R2 : zQ} {r : Nat} {o : zO} (h : zkq r (q_push R r) R2) (hn : r ∉ q_s R) : zkp R (q_close R2 r o) := by
  refine ⟨?_, fun x hx => ?_⟩
  · show (q_s R2).tail = q_s R
    rw [h.1]
    rfl
  · exact h.2 x (List.mem_cons_of_mem _ hx) (fun e => hn (e ▸ hx))
theorem zmk_of {E : zE} (hE : zEok E) {d : Nat} (hA : zAdv E d (zout E d)) : zMk E d := by
  intro R r fs hR hn hr hd
  have hR1 : zQok E (q_push R r) := ⟨hR.1, hR.2.1, List.nodup_cons.mpr ⟨hn, hR.2.2.1⟩, fun x hx => by
    rcases List.mem_cons.mp hx with rfl | hx
    · exact hr
    · exact hR.2.2.2 x hx⟩
  have hr1 : r ∈ q_s (q_push R r) := List.mem_cons_self
  have hd1 : 24 ≤ d + (q_s (q_push R r)).length := by
    show 24 ≤ d + ((q_s R).length + 1)
    omega
  have hw0 : zwok zw0 := ⟨by simp [zw0], fun g hg => by simp [zw0] at hg, by simp [zw0], fun _ => rfl⟩
  by_cases hf : e_f E = true
  · obtain ⟨i1, i2, i3, i4⟩ := zwork_re (fs := fs) hE hA 30 zw0 (q_push R r) hR1 hr1 hd1 hw0 (by simp [zw0])
    have e1 : zmake (zout E d) E R r = ((zwork (zout E d) E r 30 zw0 (q_push R r)).1, q_close (zwork (zout E d) E r 30 zw0 (q_push R r)).2 r (zwork (zout E d) E r 30 zw0 (q_push R r)).1) := by
      unfold zmake
      simp only [hf, if_true]
    rw [e1]
    refine ⟨(zre.one ?_).tr i4, va_up_self _ _ _, zclose_kp i1 hn, zQok_close i2 i3⟩
    simp only [zgoes, hf, if_true, true_or]
  · have hf' : e_f E = false := by simpa using hf
    obtain ⟨l1, l2, l3, l4⟩ := zlook_re (fs := fs) hE hA hf' (q_t R r) 0 (q_push R r) hR1 hr1 hd1 rfl
    cases hz : (zlook (zout E d) r (q_t R r) 0 (q_push R r)).1 with
    | some o =>
      have e1 : zmake (zout E d) E R r = (o, q_close (zlook (zout E d) r (q_t R r) 0 (q_push R r)).2 r o) := by
        unfold zmake
        rw [if_neg hf, show zlook (zout E d) r (q_t R r) 0 (q_push R r) = (some o, (zlook (zout E d) r (q_t R r) 0 (q_push R r)).2) from Prod.ext hz rfl]
      rw [e1]
      exact ⟨(l3 o hz).2, va_up_self _ _ _, zclose_kp l1 hn, zQok_close l2 (l3 o hz).1⟩
    | none =>
      obtain ⟨a1, k', a2, a3⟩ := l4 hz
      generalize hR2 : (zlook (zout E d) r (q_t R r) 0 (q_push R r)).2 = R2 at l1 l2 a1 a3
      have kp : zkp (q_push R r) (q_note R2 r) := a1
      obtain ⟨i1, i2, i3, i4⟩ := zwork_re (fs := fs) hE hA 30 zw0 (q_note R2 r) l2 (by rw [kp.1]; exact hr1) (by rw [kp.1]; exact hd1) hw0 (by simp [zw0])
      have e1 : zmake (zout E d) E R r = ((zwork (zout E d) E r 30 zw0 (q_note R2 r)).1, q_close (zwork (zout E d) E r 30 zw0 (q_note R2 r)).2 r (zwork (zout E d) E r 30 zw0 (q_note R2 r)).1) := by
        unfold zmake
        rw [if_neg hf, show zlook (zout E d) r (q_t R r) 0 (q_push R r) = (none, R2) from Prod.ext hz hR2]
        simp only [if_neg hf]
      rw [e1]
      refine ⟨(a3.tr (zre.one ?_)).tr i4, va_up_self _ _ _, zclose_kp ((kp.q r).tr i1) hn, zQok_close i2 i3⟩
      simp only [zgoes]
      rw [if_pos (Or.inr (by show (q_t R2 r).length ≤ k'; rw [a1.2 r hr1]; exact a2)), if_neg hf]
/-- THE ROUND step by step does what the function says -/
theorem zmk {E : zE} (hE : zEok E) : ∀ d, zMk E d := by
  intro d
  induction d with
  | zero => exact zmk_of hE (zadv_of hE 0 (fun d' h => by cases h))
  | succ d ih => exact zmk_of hE (zadv_of hE (d + 1) (fun d' h => by cases h; exact ih))
