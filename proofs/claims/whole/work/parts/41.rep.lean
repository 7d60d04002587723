/-! HOW THE REFERENCE HOLDS the state of a round: arrays by their numbers (as the fields of RemakeShelfModel stand) -/
def zr0 : zR := (0, 0, 0, [])
/-- an outcome in arrays: lengths, kinds, names, cells at place i -/
def zA (G : rG) (kl kk kn kc i : Nat) (o : zO) : Prop := G kl i = nI o.2.2.length ∧ G kk i = o.1 ∧ G kn i = o.2.1 ∧ ∀ j, j < o.2.2.length → G kc (24 * i + j) = o.2.2.getD j 0
/-- what was got -/
def zG (S : rS) (G : rG) (o : zO) : Prop := S 44 = nI o.2.2.length ∧ S 45 = o.1 ∧ S 46 = o.2.1 ∧ ∀ j, j < o.2.2.length → G 47 j = o.2.2.getD j 0
def rE (E : zE) (S : rS) (G : rG) : Prop :=
  (∀ s, s < 16 → (e_s E s = none → G 0 s = -1) ∧ ∀ l, e_s E s = some l → G 0 s = nI l.length ∧ ∀ j, j < l.length → G 1 (16 * s + j) = l.getD j 0) ∧ S 6 = nI (e_n E) ∧ (∀ r, r < 24 → G 2 r = e_k E r ∧ G 5 r = (if e_t E r = true then 1 else 0) ∧ G 3 r = nI (e_i E r).length ∧ ∀ j, j < (e_i E r).length → G 4 (6 * r + j) = nI ((e_i E r).getD j 0)) ∧ S 27 = (if e_f E = true then 1 else 0)
def rTr (G : rG) (p : Nat) (t : zT) : Prop := G 9 p = nI t.1.length ∧ zA G 10 11 12 13 p t.2 ∧ ∀ i, i < t.1.length → G 14 (25 * p + i) = nI (t.1.getD i zr0).1 ∧ zA G 15 16 17 18 (25 * p + i) (t.1.getD i zr0).2
def rT (R : zQ) (sl : Nat → Nat → Nat) (G : rG) : Prop := ∀ r, r < 24 → G 7 r = nI (q_t R r).length ∧ (∀ k, k < (q_t R r).length → sl r k < 4 ∧ G 8 (4 * r + k) = nI (sl r k) ∧ rTr G (4 * r + sl r k) ((q_t R r).getD k zt0)) ∧ ∀ k k', k < (q_t R r).length → k' < (q_t R r).length → sl r k = sl r k' → k = k'
/-- a ring as bits -/
def rB (l : List Nat) (x : Int32) : Prop := (¬ l = [] ∧ ∀ k ∈ l, k < 24) ∧ ∀ k, k < 24 → ((x >>> (nI k &&& 31)) &&& 1 = 0 ↔ k ∉ l)
def rR (R : zQ) (G : rG) : Prop := ∀ r, r < 24 → G 24 r = (if (q_m R r).isSome = true then 1 else 0) ∧ (∀ o, q_m R r = some o → zA G 19 20 21 22 r o) ∧ G 25 r = (if r ∈ q_s R then 1 else 0) ∧ G 26 r = (if (q_r R r).isSome = true then 1 else 0) ∧ ∀ l, q_r R r = some l → rB l (G 23 r)
def rFw (G : rG) (d : Nat) (w : zW) : Prop := G 31 d = 1 ∧ G 30 d = nI w.1.length ∧ (∀ i, i < w.1.length → G 33 (25 * d + i) = nI (w.1.getD i zr0).1 ∧ zA G 34 35 36 37 (25 * d + i) (w.1.getD i zr0).2) ∧ G 38 d = nI w.2.1.length ∧ (∀ j, j < w.2.1.length → G 39 (24 * d + j) = w.2.1.getD j 0) ∧ G 40 d = w.2.2.1 ∧ G 43 d = (if w.2.2.2.1 = true then 1 else 0) ∧ G 41 d = w.2.2.2.2.1 ∧ G 42 d = w.2.2.2.2.2
def rFr (G : rG) (d : Nat) (f : Nat × zP) : Prop := G 28 d = nI f.1 ∧ match f.2 with
  | .inl p => G 31 d = 0 ∧ G 29 d = nI p.1 ∧ G 30 d = nI p.2
  | .inr w => rFw G d w
def rF (G : rG) : List (Nat × zP) → Prop
  | [] => True
  | f :: fs => rFr G fs.length f ∧ rF G fs
def rW (R : zQ) (w0 : Int32) (S : rS) (G : rG) : Prop := S 52 = nI (q_w R).length ∧ (∀ j, j < (q_w R).length → G 57 j = nI ((q_w R).getD j 0)) ∧ S 53 = q_l R ∧ S 55 = w0 + nI (q_w R).length ∧ ∀ r k, r < 24 → k < 4 → G 58 (4 * r + k) = q_z R r k
abbrev rCt : Type := Int32 × Int32 × Int32 × Int32 × Int32 × Int32 × (Nat → Int32) × (Nat → Int32)
def rC (S : rS) (G : rG) : rCt := (S 48, S 49, S 50, S 51, S 54, S 59, G 56, G 60)
def rep (E : zE) (fs : List (Nat × zP)) (R : zQ) (w0 : Int32) (ct : rCt) (S : rS) (G : rG) : Prop := rE E S G ∧ (∃ sl, rT R sl G) ∧ rR R G ∧ (S 32 = nI fs.length ∧ q_s R = fs.map (fun f => f.1)) ∧ rF G fs ∧ rW R w0 S G ∧ rC S G = ct
-- places of arrays that differ
theorem gup_ne {G : rG} {k k' j : Nat} {x : Int32} (h : ¬ k' = k) : gup G k j x k' = G k' := va_up_ne _ _ h
theorem gup_at {G : rG} {k j i : Nat} {x : Int32} : gup G k j x k i = if i = j then x else G k i := by
  unfold gup
  rw [va_up_self]
  rfl
theorem gup_at_ne {G : rG} {k j i : Nat} {x : Int32} (h : ¬ i = j) : gup G k j x k i = G k i := by rw [gup_at, if_neg h]
theorem gup_at_self {G : rG} {k j : Nat} {x : Int32} : gup G k j x k j = x := by rw [gup_at, if_pos rfl]
/-- frames below depth n stay, if their places do -/
theorem rFw_cg {G G' : rG} {d : Nat} {w : zW} (h25 : w.1.length ≤ 25) (h24 : w.2.1.length ≤ 24 ∧ ∀ g ∈ w.1, g.2.2.2.length ≤ 24) (h : ∀ k, k = 30 ∨ k = 31 ∨ k = 38 ∨ k = 40 ∨ k = 41 ∨ k = 42 ∨ k = 43 → G' k d = G k d) (h2 : ∀ k i, k = 33 ∨ k = 34 ∨ k = 35 ∨ k = 36 → i < 25 → G' k (25 * d + i) = G k (25 * d + i)) (h3 : ∀ j, j < 24 → G' 39 (24 * d + j) = G 39 (24 * d + j)) (h4 : ∀ i j, i < 25 → j < 24 → G' 37 (24 * (25 * d + i) + j) = G 37 (24 * (25 * d + i) + j)) (H : rFw G d w) : rFw G' d w := by
  obtain ⟨a1, a2, a3, a4, a5, a6, a7, a8, a9⟩ := H
  refine ⟨by rw [h 31 (by simp)]; exact a1, by rw [h 30 (by simp)]; exact a2, fun i hi => ?_, by rw [h 38 (by simp)]; exact a4, fun j hj => by rw [h3 j (by omega)]; exact a5 j hj, by rw [h 40 (by simp)]; exact a6, by rw [h 43 (by simp)]; exact a7, by rw [h 41 (by simp)]; exact a8, by rw [h 42 (by simp)]; exact a9⟩
  obtain ⟨b1, b2, b3, b4, b5⟩ := a3 i hi
  have hg : (w.1.getD i zr0).2.2.2.length ≤ 24 := h24.2 _ (by rw [List.getD_eq_getElem?_getD, List.getElem?_eq_getElem hi]; exact List.getElem_mem hi)
  exact ⟨by rw [h2 33 i (by simp) (by omega)]; exact b1, by rw [h2 34 i (by simp) (by omega)]; exact b2, by rw [h2 35 i (by simp) (by omega)]; exact b3, by rw [h2 36 i (by simp) (by omega)]; exact b4, fun j hj => by rw [h4 i j (by omega) (by omega)]; exact b5 j hj⟩
def zfw (f : Nat × zP) : Prop := match f.2 with
  | .inl _ => True
  | .inr w => w.1.length ≤ 25 ∧ w.2.1.length ≤ 24 ∧ ∀ g ∈ w.1, g.2.2.2.length ≤ 24
theorem rF_cg {G G' : rG} {n : Nat} : ∀ (fs : List (Nat × zP)), fs.length ≤ n → (∀ f ∈ fs, zfw f) → (∀ k d, d < n → k = 28 ∨ k = 29 ∨ k = 30 ∨ k = 31 ∨ k = 38 ∨ k = 40 ∨ k = 41 ∨ k = 42 ∨ k = 43 → G' k d = G k d) → (∀ k i, k = 33 ∨ k = 34 ∨ k = 35 ∨ k = 36 → i < 25 * n → G' k i = G k i) → (∀ j, j < 24 * n → G' 39 j = G 39 j) → (∀ j, j < 600 * n → G' 37 j = G 37 j) → rF G fs → rF G' fs := by
  intro fs
  induction fs with
  | nil => intro _ _ _ _ _ _ _; trivial
  | cons f fs ih =>
    intro hn hw h1 h2 h3 h4 H
    have hl : fs.length < n := by simp only [List.length_cons] at hn; omega
    refine ⟨?_, ih (by omega) (fun f hf => hw f (List.mem_cons_of_mem _ hf)) h1 h2 h3 h4 H.2⟩
    obtain ⟨a1, a2⟩ := H.1
    refine ⟨by rw [h1 28 _ hl (by simp)]; exact a1, ?_⟩
    have hwf := hw f List.mem_cons_self
    obtain ⟨r, ph⟩ := f
    cases ph with
    | inl p => exact ⟨by rw [h1 31 _ hl (by simp)]; exact a2.1, by rw [h1 29 _ hl (by simp)]; exact a2.2.1, by rw [h1 30 _ hl (by simp)]; exact a2.2.2⟩
    | inr w =>
      refine rFw_cg hwf.1 hwf.2 (fun k hk => h1 k _ hl ?_) (fun k i hk hi => h2 k _ hk ?_) (fun j hj => h3 _ ?_) (fun i j hi hj => h4 _ ?_) a2
      · rcases hk with h | h | h | h | h | h | h <;> simp [h]
      · omega
      · omega
      · omega
