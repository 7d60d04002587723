theorem gk_wi {h : hp} {f a b : Nat} {v : Int32} : gk (wi h f a v) b = gk h b := rfl
theorem gl_wi {h : hp} {f a b : Nat} {v : Int32} : gl (wi h f a v) b = gl h b := rfl
theorem ga_wi {h : hp} {f a : Nat} {v : Int32} : ga (wi h f a v) = ga h := rfl
theorem gq_wi {h : hp} {f a : Nat} {v : Int32} : gq (wi h f a v) = gq h := rfl
theorem gi_wi {h : hp} {f a g b : Nat} {v : Int32} : gi (wi h f a v) g b = if g = f ∧ b = a then v else gi h g b := rfl
theorem gr_wi {h : hp} {f a g b : Nat} {v : Int32} : gr (wi h f a v) g b = gr h g b := rfl
theorem gk_wr {h : hp} {f a b : Nat} {v : Option Nat} : gk (wr h f a v) b = gk h b := rfl
theorem gl_wr {h : hp} {f a b : Nat} {v : Option Nat} : gl (wr h f a v) b = gl h b := rfl
theorem ga_wr {h : hp} {f a : Nat} {v : Option Nat} : ga (wr h f a v) = ga h := rfl
theorem gq_wr {h : hp} {f a : Nat} {v : Option Nat} : gq (wr h f a v) = gq h := rfl
theorem gi_wr {h : hp} {f a g b : Nat} {v : Option Nat} : gi (wr h f a v) g b = gi h g b := rfl
theorem gr_wr {h : hp} {f a g b : Nat} {v : Option Nat} : gr (wr h f a v) g b = if g = f ∧ b = a then v else gr h g b := rfl
theorem gk_wA {h : hp} {a b : Nat} {f : Nat → Int32} : gk (wA h a f) b = gk h b := rfl
theorem gl_wA {h : hp} {a b : Nat} {f : Nat → Int32} : gl (wA h a f) b = gl h b := rfl
theorem gi_wA {h : hp} {a g b : Nat} {f : Nat → Int32} : gi (wA h a f) g b = gi h g b := rfl
theorem gr_wA {h : hp} {a g b : Nat} {f : Nat → Int32} : gr (wA h a f) g b = gr h g b := rfl
theorem gq_wA {h : hp} {a : Nat} {f : Nat → Int32} : gq (wA h a f) = gq h := rfl
theorem ga_wA {h : hp} {a b : Nat} {f : Nat → Int32} : ga (wA h a f) b = if b = a then f else ga h b := rfl
theorem gk_wq {h : hp} {a j b : Nat} {v : Option Nat} : gk (wq h a j v) b = gk h b := rfl
theorem gl_wq {h : hp} {a j b : Nat} {v : Option Nat} : gl (wq h a j v) b = gl h b := rfl
theorem gi_wq {h : hp} {a j g b : Nat} {v : Option Nat} : gi (wq h a j v) g b = gi h g b := rfl
theorem gr_wq {h : hp} {a j g b : Nat} {v : Option Nat} : gr (wq h a j v) g b = gr h g b := rfl
theorem ga_wq {h : hp} {a j : Nat} {v : Option Nat} : ga (wq h a j v) = ga h := rfl
theorem gq_wq {h : hp} {a j b : Nat} {v : Option Nat} : gq (wq h a j v) b = if b = a then va_up (gq h a) j v else gq h b := rfl
theorem gk_nw {h : hp} {a k n b : Nat} : gk (nw h a k n) b = if b = a then k else gk h b := rfl
theorem gl_nw {h : hp} {a k n b : Nat} : gl (nw h a k n) b = if b = a then n else gl h b := rfl
theorem gi_nw {h : hp} {a k n g b : Nat} : gi (nw h a k n) g b = if b = a then 0 else gi h g b := rfl
theorem gr_nw {h : hp} {a k n g b : Nat} : gr (nw h a k n) g b = if b = a then none else gr h g b := rfl
theorem ga_nw {h : hp} {a k n b : Nat} : ga (nw h a k n) b = if b = a then (fun _ => 0) else ga h b := rfl
theorem gq_nw {h : hp} {a k n b : Nat} : gq (nw h a k n) b = if b = a then (fun _ => none) else gq h b := rfl
theorem sE_obj {cy : Nat → ClassId} {h : hp} {a c : Nat} (hk : gk h a = c + 1) (hc : c < 8) : sE cy h a = .inr (c, (List.range (sN c)).map (fun k => sv (sF h c k a))) := by
  unfold sE
  rw [if_pos (by omega), hk, Nat.add_sub_cancel]
theorem sE_int {cy : Nat → ClassId} {h : hp} {a : Nat} (hk : gk h a = 20) : sE cy h a = .inl (cy 0, gl h a, .inl (ga h a)) := by
  unfold sE
  rw [if_neg (by omega), if_pos (by omega), hk]
theorem sE_bool {cy : Nat → ClassId} {h : hp} {a : Nat} (hk : gk h a = 21) : sE cy h a = .inl (cy 1, gl h a, .inl (ga h a)) := by
  unfold sE
  rw [if_neg (by omega), if_pos (by omega), hk]
theorem sE_ref {cy : Nat → ClassId} {h : hp} {a : Nat} (hk : 22 ≤ gk h a) : sE cy h a = .inl (cy (gk h a - 20), gl h a, .inr (.inr (.inr (.inr (gq h a))))) := by
  unfold sE
  rw [if_neg (by omega), if_neg (by omega)]
theorem sE_congr {cy : Nat → ClassId} {h h' : hp} {a : Nat} (h1 : gk h' a = gk h a) (h2 : ∀ f, gi h' f a = gi h f a) (h3 : ∀ f, gr h' f a = gr h f a) (h4 : gl h' a = gl h a) (h5 : ga h' a = ga h a) (h6 : gq h' a = gq h a) : sE cy h' a = sE cy h a := by
  unfold sE sF
  simp only [h1, h2, h3, h4, h5, h6]
theorem sRange_set {N k : Nat} {f g : Nat → Value} {v : Value} (hk : k < N) (h1 : g k = v) (h2 : ∀ j, j ≠ k → g j = f j) : ((List.range N).map f).set k v = (List.range N).map g := by
  apply List.ext_getElem?
  intro j
  by_cases hj : j = k
  · subst hj
    rw [List.getElem?_set_self (by simpa using hk)]
    simp [hk, h1]
  · rw [List.getElem?_set_ne (Ne.symm hj)]
    by_cases hl : j < N
    · simp [hl, h2 j hj]
    · simp [hl]
theorem sE_wi {cy : Nat → ClassId} {h : hp} {a c k : Nat} {x : Int32} (hk : gk h a = c + 1) (hc : c < 8) (hN : k < sN c) (hB : sB (sT c k) = true) (b : Nat) : va_up (sE cy h) a (.inr (c, ((List.range (sN c)).map (fun k => sv (sF h c k a))).set k (.int x))) b = sE cy (wi h (100 * c + k) a x) b := by
  by_cases hb : b = a
  · subst hb
    rw [va_up_self, sE_obj (h := wi h (100 * c + k) b x) (by rw [gk_wi]; exact hk) hc]
    congr 2
    apply sRange_set hN
    · simp [sF, hB, gi_wi, sv]
    · intro j hj
      have e1 : ¬ (100 * c + j = 100 * c + k ∧ b = b) := fun z => hj (by have := z.1; omega)
      unfold sF
      have e2 : ¬ (100 * c + j = 100 * c + k) := fun z => e1 ⟨z, rfl⟩
      simp [gi_wi, gr_wi, hj]
  · rw [va_up_ne _ _ hb]
    symm
    apply sE_congr <;> first | rfl | (intro f; rfl) | (intro f; rw [gi_wi, if_neg (fun z => hb z.2)])
theorem sE_wr {cy : Nat → ClassId} {h : hp} {a c k : Nat} {x : Option Nat} (hk : gk h a = c + 1) (hc : c < 8) (hN : k < sN c) (hB : sB (sT c k) = false) (b : Nat) : va_up (sE cy h) a (.inr (c, ((List.range (sN c)).map (fun k => sv (sF h c k a))).set k (va_rf x))) b = sE cy (wr h (100 * c + k) a x) b := by
  by_cases hb : b = a
  · subst hb
    rw [va_up_self, sE_obj (h := wr h (100 * c + k) b x) (by rw [gk_wr]; exact hk) hc]
    congr 2
    apply sRange_set hN
    · simp [sF, hB, gr_wr, sv]
    · intro j hj
      have e1 : ¬ (100 * c + j = 100 * c + k ∧ b = b) := fun z => hj (by have := z.1; omega)
      unfold sF
      have e2 : ¬ (100 * c + j = 100 * c + k) := fun z => e1 ⟨z, rfl⟩
      simp [gi_wr, gr_wr, hj]
  · rw [va_up_ne _ _ hb]
    symm
    apply sE_congr <;> first | rfl | (intro f; rfl) | (intro f; rw [gr_wr, if_neg (fun z => hb z.2)])
theorem sE_wA {cy : Nat → ClassId} {h : hp} {a : Nat} {f : Nat → Int32} {t : Nat} (hk : gk h a = 20 + t) (ht : t < 2) (b : Nat) : va_up (sE cy h) a (.inl (cy t, gl h a, .inl f)) b = sE cy (wA h a f) b := by
  by_cases hb : b = a
  · subst hb
    rw [va_up_self]
    rcases (show t = 0 ∨ t = 1 by omega) with rfl | rfl
    · rw [sE_int (h := wA h b f) (by rw [gk_wA]; exact hk), gl_wA, ga_wA, if_pos rfl]
    · rw [sE_bool (h := wA h b f) (by rw [gk_wA]; exact hk), gl_wA, ga_wA, if_pos rfl]
  · rw [va_up_ne _ _ hb]
    symm
    apply sE_congr <;> first | rfl | (intro f; rfl) | (rw [ga_wA, if_neg hb])
theorem sE_wq {cy : Nat → ClassId} {h : hp} {a j : Nat} {v : Option Nat} (hk : 22 ≤ gk h a) (b : Nat) : va_up (sE cy h) a (.inl (cy (gk h a - 20), gl h a, .inr (.inr (.inr (.inr (va_up (gq h a) j v)))))) b = sE cy (wq h a j v) b := by
  by_cases hb : b = a
  · subst hb
    rw [va_up_self, sE_ref (h := wq h b j v) (by rw [gk_wq]; exact hk), gl_wq, gk_wq, gq_wq, if_pos rfl]
  · rw [va_up_ne _ _ hb]
    symm
    apply sE_congr <;> first | rfl | (intro f; rfl) | (rw [gq_wq, if_neg hb])
theorem sE_nw {cy : Nat → ClassId} {h : hp} {a k n : Nat} {e : va_E} (he : sE cy (nw h a k n) a = e) (b : Nat) : va_up (sE cy h) a e b = sE cy (nw h a k n) b := by
  by_cases hb : b = a
  · subst hb
    rw [va_up_self, he]
  · rw [va_up_ne _ _ hb]
    symm
    apply sE_congr
    · rw [gk_nw, if_neg hb]
    · intro f; rw [gi_nw, if_neg hb]
    · intro f; rw [gr_nw, if_neg hb]
    · rw [gl_nw, if_neg hb]
    · rw [ga_nw, if_neg hb]
    · rw [gq_nw, if_neg hb]
theorem sE_nwA {cy : Nat → ClassId} {h : hp} {a n : Nat} {f : Nat → Int32} (b : Nat) : va_up (sE cy h) a (.inl (cy 0, n, .inl f)) b = sE cy (wA (nw h a 20 n) a f) b := by
  by_cases hb : b = a
  · subst hb
    rw [va_up_self, sE_int (by rw [gk_wA, gk_nw, if_pos rfl]), gl_wA, gl_nw, if_pos rfl, ga_wA, if_pos rfl]
  · rw [va_up_ne _ _ hb]
    symm
    apply sE_congr
    · rw [gk_wA, gk_nw, if_neg hb]
    · intro f; rw [gi_wA, gi_nw, if_neg hb]
    · intro f; rw [gr_wA, gr_nw, if_neg hb]
    · rw [gl_wA, gl_nw, if_neg hb]
    · rw [ga_wA, if_neg hb, ga_nw, if_neg hb]
    · rw [gq_wA, gq_nw, if_neg hb]
-- worlds: a cell changes, a cell comes
theorem sWd.put {A : Nat → Prop} {D : va_G} {cy : Nat → ClassId} {h h' : hp} {L : List Nat} {H1 : Heap} {a k : Nat} {e : va_E} (hL : ∀ a, a ∈ L ↔ gk h a ≠ 0) (h24 : ∀ a, gk h a ≤ 24) (hD : va_D A ([] ++ va_pl L (sE cy h))) (hk : ([] ++ va_pl L (sE cy h))[k]? = some (a, sE cy h a)) (ha : a ∈ L) (hg : ∀ b, gk h' b = gk h b) (he : ∀ b, va_up (sE cy h) a e b = sE cy h' b) (hP1 : va_P D vwCl (([] ++ va_pl L (sE cy h)).set k (a, e)) H1) (hD1 : va_D A (([] ++ va_pl L (sE cy h)).set k (a, e))) : sWd A D cy h' H1 := by
  have e1 : ([] ++ va_pl L (sE cy h)).set k (a, e) = [] ++ va_pl L (sE cy h') := by
    rw [va_pl_set hD ha hk]
    exact congrArg (fun l => [] ++ l) (va_pl_congr he)
  rw [e1] at hP1 hD1
  exact ⟨L, fun b => by rw [hg]; exact hL b, fun b => by rw [hg]; exact h24 b, hP1, hD1⟩
theorem sWd.new {A : Nat → Prop} {D : va_G} {cy : Nat → ClassId} {h h' : hp} {L : List Nat} {H1 : Heap} {q kn : Nat} {e : va_E} (hL : ∀ a, a ∈ L ↔ gk h a ≠ 0) (h24 : ∀ a, gk h a ≤ 24) (hkn : kn ≠ 0 ∧ kn ≤ 24) (hq : q ∉ L) (hg : ∀ b, gk h' b = if b = q then kn else gk h b) (he : ∀ b, va_up (sE cy h) q e b = sE cy h' b) (hP1 : va_P D vwCl (([] ++ va_pl L (sE cy h)) ++ [(q, e)]) H1) (hD1 : va_D A (([] ++ va_pl L (sE cy h)) ++ [(q, e)])) : sWd A D cy h' H1 := by
  have e1 : ([] ++ va_pl L (sE cy h)) ++ [(q, e)] = [] ++ va_pl (L ++ [q]) (sE cy h') := by
    rw [List.append_assoc, va_pl_push hq]
    exact congrArg (fun l => [] ++ l) (va_pl_congr he)
  rw [e1] at hP1 hD1
  refine ⟨L ++ [q], fun b => ?_, fun b => ?_, hP1, hD1⟩
  · rw [hg]
    by_cases hb : b = q
    · subst hb
      simp [hkn.1]
    · simp [hb, hL b]
  · rw [hg]
    by_cases hb : b = q
    · subst hb
      simp [hkn.2]
    · simp [hb, h24 b]
-- an object that has just come
theorem sE_born {cy : Nat → ClassId} {h : hp} {q c : Nat} (hc : c < 8) : sE cy (nw h q (c + 1) 0) q = .inr (c, (List.range (sN c)).map (fun k => sv (if sB (sT c k) = true then sI 0 else sR none))) := by
  rw [sE_obj (c := c) (by rw [gk_nw, if_pos rfl]) hc]
  congr 2
  apply List.map_congr_left
  intro k _
  unfold sF
  rw [gi_nw, gr_nw, if_pos rfl, if_pos rfl]
-- locals
def sprs (ls : List sV) : List (Nat × Value) := (List.range ls.length).filterMap (fun i => (ls[i]?).bind (fun v => if sset v = true then some (i, sv v) else none))
theorem sprs_mem {ls : List sV} {q : Nat × Value} : q ∈ sprs ls ↔ ∃ v, ls[q.1]? = some v ∧ sset v = true ∧ q.2 = sv v := by
  unfold sprs
  rw [List.mem_filterMap]
  constructor
  · rintro ⟨i, -, hi⟩
    cases hv : ls[i]? with
    | none => rw [hv] at hi; cases hi
    | some v =>
      rw [hv, Option.bind_some] at hi
      by_cases hs : sset v = true
      · rw [if_pos hs] at hi
        cases hi
        exact ⟨v, hv, hs, rfl⟩
      · rw [if_neg hs] at hi
        cases hi
  · rintro ⟨v, h1, h2, h3⟩
    refine ⟨q.1, List.mem_range.mpr (List.getElem?_eq_some_iff.mp h1).1, ?_⟩
    rw [h1, Option.bind_some, if_pos h2, ← h3]
theorem sset_cat {v : sV} (h : sset v = true) : (sv v).category = 1 := by
  rcases v with x | ⟨(_ | a)⟩ | x | x <;> first | rfl | cases h
theorem sLs_get {lsM : Array Slot} {n i : Nat} {ls : List sV} {v : sV} (h : lv_has lsM n (sprs ls)) (hi : ls[i]? = some v) (hs : sset v = true) : lsM[i]? = some (.val (sv v)) := h.2.2 (i, sv v) (sprs_mem.mpr ⟨v, hi, hs, rfl⟩)
theorem lv_mono {lsM : Array Slot} {n : Nat} {l l' : List (Nat × Value)} (h : lv_has lsM n l) (hs : ∀ q ∈ l', q ∈ l) : lv_has lsM n l' := ⟨h.1, h.2.1, fun q hq => h.2.2 q (hs q hq)⟩
theorem sLs_set {lsM : Array Slot} {n i : Nat} {ls : List sV} {v : sV} (hs : sset v = true) (h : lv_has lsM n ((i, sv v) :: (sprs ls).filter (fun q => !(q.1 == i) && !(q.1 + 1 == i && q.2.category == 2)))) : lv_has lsM n (sprs (ls.set i v)) := by
  apply lv_mono h
  intro q hq
  obtain ⟨w, h1, h2, h3⟩ := sprs_mem.mp hq
  by_cases hi : q.1 = i
  · rw [hi] at h1
    have hl : i < (ls.set i v).length := (List.getElem?_eq_some_iff.mp h1).1
    rw [List.length_set] at hl
    rw [List.getElem?_set_self hl] at h1
    cases h1
    exact List.mem_cons.mpr (Or.inl (by rw [← hi, ← h3]))
  · rw [List.getElem?_set_ne (Ne.symm hi)] at h1
    refine List.mem_cons.mpr (Or.inr (List.mem_filter.mpr ⟨sprs_mem.mpr ⟨w, h1, h2, h3⟩, ?_⟩))
    have hc : q.2.category = 1 := by rw [h3]; exact sset_cat h2
    simp [hi, hc]
theorem slg_len (vs : List sV) (h : vs.all sset = true) : (lg_sl (vs.map sv)).length = vs.length := by
  induction vs with
  | nil => rfl
  | cons v vs ih =>
    simp only [List.all_cons, Bool.and_eq_true] at h
    have := ih h.2
    simp only [lg_sl, List.map_cons, List.flatMap_cons, List.length_append, List.length_cons] at this ⊢
    rw [this, sset_cat h.1]
    simp
    omega
theorem slv_args (vs : List sV) (h : vs.all sset = true) : ∀ (i j : Nat) (v : sV), vs[j]? = some v → (i + j, sv v) ∈ lv_args i (vs.map sv) := by
  induction vs with
  | nil => intro i j v hv; simp at hv
  | cons w vs ih =>
    intro i j v hv
    simp only [List.all_cons, Bool.and_eq_true] at h
    rw [List.map_cons, lv_args, sset_cat h.1]
    cases j with
    | zero =>
      rw [List.getElem?_cons_zero] at hv
      cases hv
      exact List.mem_cons_self
    | succ j =>
      rw [List.getElem?_cons_succ] at hv
      refine List.mem_cons_of_mem _ ?_
      have := ih h.2 (i + 1) j v hv
      rw [show i + (j + 1) = i + 1 + j by omega]
      simpa using this
theorem sLs_entry {vs : List sV} {n : Nat} (h : vs.all sset = true) (hn : vs.length ≤ n) : lv_has ((lg_sl (vs.map sv) ++ List.replicate (n - (lg_sl (vs.map sv)).length) Slot.unset).toArray) n (sprs (vs ++ List.replicate (n - vs.length) sU)) := by
  apply lv_mono (lv_entry (vs.map sv) (n := n) (by rw [slg_len vs h]; exact hn))
  intro q hq
  obtain ⟨w, h1, h2, h3⟩ := sprs_mem.mp hq
  by_cases hl : q.1 < vs.length
  · rw [List.getElem?_append_left hl] at h1
    have := slv_args vs h 0 q.1 w h1
    rw [Nat.zero_add, ← h3] at this
    exact this
  · rw [List.getElem?_append_right (by omega), List.getElem?_replicate] at h1
    split at h1
    · cases h1
      cases h2
    · cases h1
