section SOUND
variable {p : Program} {l : Launch} {e : Env} {s : State} {m : MethodId} {args : Array Value} {below : List Frame} {meth : Method} {c : Code} {R : Room} {A : Nat → Prop} {D : va_G} {cy : Nat → ClassId} {M d mc ms : Nat} {Q : Option sV → hp → Prop} {Z : sZ} {O : sO} {Qw : State → Prop}
/-- what the machine must come to, from a configuration -/
def sGo (p : Program) (l : Launch) (e : Env) (R : Room) (s : State) (m : MethodId) (args : Array Value) (below : List Frame) (meth : Method) (c : Code) (A : Nat → Prop) (D : va_G) (cy : Nat → ClassId) (nL mc ms : Nat) (Qw : State → Prop) : sCf := fun pc ls st h bc bs => ∀ (H : Heap) (locs : List Loc) (cells slots : Nat) (lsM : Array Slot), sWd A D cy h H → va_S A s.heap H locs → lv_has lsM nL (sprs ls) → ls.length = nL → cells + bc ≤ mc → slots + bs ≤ ms → W p l e R s m args below meth c H locs cells slots Qw (F0 m pc lsM (st.map sv))
def sFix (p : Program) (s : State) (m : MethodId) (args : Array Value) (meth : Method) (c : Code) (R : Room) (A : Nat → Prop) (D : va_G) (cy : Nat → ClassId) (M d mc ms : Nat) (Z : sZ) : Prop :=
  p.tables.exec = Jvm.exec ∧ c.code = (sm M).2.1 ∧ c.maxLocals = (sm M).2.2.1 ∧ s.vm.findClass (sm M).1.cls = some m.cls ∧ meth.name = (sm M).1.name ∧ (∀ w ∈ sW, w.before args s = true) ∧ va_K D vwCl (sy cy) s ∧ sX s ∧ (∀ q, s.heap.size ≤ q → A q) ∧ R.cells = mc ∧ R.slots = ms ∧ d + 1 ≤ R.frames ∧ 40 * (d + 1) ≤ R.locals ∧ ∀ b L xs, Z = some (b, L, xs) → va_X b L xs s s.heap ∧ b < s.heap.size ∧ ¬ A b
/-- a call, whatever it answers -/
theorem sCallRow {mcc msc : Nat} {pc : Nat} {ls : Array Slot} {st0 rest : List Value} {H H0 : Heap} {locs : List Loc} {cells slots : Nat} {P : Option sV → hp → Prop} {a : Array Value} (hr : va_Run p l e R s m args below meth c H locs cells slots mcc msc (F0 m pc ls st0) rest (sPost A D cy P a) A) (hS : va_S A H0 H locs)
    (kk : ∀ (r : Option sV) (h : hp) (H1 : Heap) (locs1 : List Loc), P r h → sWd A D cy h H1 → va_S A H0 H1 locs1 → W p l e R s m args below meth c H1 locs1 (cells + mcc) (slots + msc) Qw (F0 m (pc + 3) ls ((r.map sv).toList ++ rest))) : W p l e R s m args below meth c H locs cells slots Qw (F0 m pc ls st0) := by
  intro T hT X
  obtain ⟨v, st₀, t, T', L, h0, X', hL, e1, e2, ⟨⟨r, h, hv, hp, hw⟩, hz, hk⟩, st⟩ := hr T hT X
  cases hv
  rw [h0] at hz hk
  obtain ⟨t2, a1, b1⟩ := kk r h T'.heap (locs ++ L) hp (by rw [e1]; exact hw)
    ⟨Nat.le_trans hS.1 (by rw [e1]; exact hz), fun q h1 h2 => by rw [e1, hk q (Nat.lt_of_lt_of_le h1 hS.1) h2]; exact hS.2.1 q h1 h2, fun q hq => by
      rcases List.mem_append.mp hq with h | h
      · exact hS.2.2 q h
      · exact hL q h⟩ T' rfl X'
  exact ⟨t2, st t2 a1, b1⟩
theorem sCat (st : List sV) : ((st.map sv).map fun v => v.category).sum = (st.map sw).sum := by
  rw [List.map_map]
  congr 1
  apply List.map_congr_left
  intro v _
  exact sw_cat v
theorem sfree {h : hp} {H : Heap} {L : List Nat} (hL : ∀ a, a ∈ L ↔ gk h a ≠ 0) {q : Nat} (hq : q ∉ L) : gk h q = 0 := by
  by_cases h0 : gk h q = 0
  · exact h0
  · exact absurd ((hL q).mpr h0) hq
theorem snotin {ws : va_W} {L : List Nat} {f : Nat → va_E} {q : Nat} {x : va_E} (hw : ws = [] ++ va_pl L f) (hD : va_D A (ws ++ [(q, x)])) : q ∉ L := by
  intro hq
  subst hw
  obtain ⟨k, hk⟩ := va_pl_get (X := []) (f := f) hq
  have hl := (List.getElem?_eq_some_iff.mp hk).1
  have h1 : (([] ++ va_pl L f) ++ [(q, x)])[k]? = some (q, f q) := by rw [List.getElem?_append_left hl]; exact hk
  have h2 : (([] ++ va_pl L f) ++ [(q, x)])[([] ++ va_pl L f).length]? = some (q, x) := by rw [List.getElem?_append_right (Nat.le_refl _), Nat.sub_self]; rfl
  have := hD.1 _ _ _ _ h1 h2 rfl
  omega
theorem stys {t : Nat} (cy : Nat → ClassId) (h1 : 22 ≤ t) (h2 : t ≤ 24) : ∃ q, vwCl[sAe t]? = some q ∧ (sy cy)[t - 20]? = some (cy (t - 20), .object q.1) := by
  rcases (show t = 22 ∨ t = 23 ∨ t = 24 by omega) with rfl | rfl | rfl
  · exact ⟨_, rfl, rfl⟩
  · exact ⟨_, rfl, rfl⟩
  · exact ⟨_, rfl, rfl⟩
end SOUND
