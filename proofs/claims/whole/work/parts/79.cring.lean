theorem zpos_le : ∀ (l : List Nat) (x : Nat), zpos l x ≤ l.length := by
  intro l
  induction l with
  | nil => intro x; exact Nat.le_refl _
  | cons a l ih =>
    intro x
    show (if a = x then l.length + 1 else zpos l x) ≤ l.length + 1
    split
    · exact Nat.le_refl _
    · have := ih x; omega
theorem zpos_in : ∀ (l : List Nat) (x : Nat), 0 < zpos l x ↔ x ∈ l := by
  intro l
  induction l with
  | nil => intro x; exact ⟨fun h => absurd h (by show ¬ 0 < 0; omega), fun h => by cases h⟩
  | cons a l ih =>
    intro x
    show 0 < (if a = x then l.length + 1 else zpos l x) ↔ _
    by_cases e : a = x
    · rw [if_pos e]
      exact ⟨fun _ => by rw [e]; exact List.mem_cons_self, fun _ => by omega⟩
    · rw [if_neg e, ih x]
      exact ⟨fun h => List.mem_cons_of_mem _ h, fun h => (List.mem_cons.mp h).resolve_left (fun z => e z.symm)⟩
theorem zpos_ring : ∀ (l : List Nat) (r x : Nat), r ∈ l → (zpos l r ≤ zpos l x ↔ x ∈ l.takeWhile (fun y => y != r) ++ [r]) := by
  intro l
  induction l with
  | nil => intro r x h; cases h
  | cons a l ih =>
    intro r x h
    show (if a = r then l.length + 1 else zpos l r) ≤ (if a = x then l.length + 1 else zpos l x) ↔ _
    by_cases e : a = r
    · subst e
      rw [if_pos rfl, List.takeWhile_cons_of_neg (by simp)]
      by_cases e2 : a = x
      · rw [if_pos e2, e2]; simp
      · rw [if_neg e2]
        have := zpos_le l x
        refine ⟨fun h => absurd h (by omega), fun h => ?_⟩
        simp only [List.nil_append, List.mem_singleton] at h
        exact absurd h.symm e2
    · have hr : r ∈ l := (List.mem_cons.mp h).resolve_left (fun z => e z.symm)
      rw [if_neg e, List.takeWhile_cons_of_pos (by simpa using e), List.cons_append, List.mem_cons]
      by_cases e2 : a = x
      · rw [if_pos e2]
        have := zpos_le l r
        exact ⟨fun _ => .inl e2.symm, fun _ => by omega⟩
      · rw [if_neg e2, ih r x hr]
        exact ⟨fun h => .inr h, fun h => h.resolve_left (fun z => e2 z.symm)⟩
section
variable {D : cD} {E : zE} {R : zQ} {sp : Nat → Option (List zR)} {lk w0 : Int32}
theorem crep.hit {V W : kV} (h : crep D E R sp lk w0 V) {r : Nat} {l : List Nat} {b : Int32} {m : Option Nat} (hl : (q_s R).takeWhile (fun y => y != r) ++ [r] = l) (v : vex [309, 310] V W) (hx : ∀ x, x < e_n E → kI W 310 (dA D x) = (if x ∈ l then b else kI V 310 (dA D x)) ∧ kR W 309 (dA D x) = if x ∈ l then m else kR V 309 (dA D x)) (hm : cO V m (zring l)) (hb : rB l b) : crep D E (q_hit R r).2 sp lk w0 W := by
  refine ⟨h.1.cg v (by decide), h.2.1.cg v (by decide), h.2.2.1.cg v (by decide), fun x hx2 => ⟨(h.2.2.2.1 x hx2).1.cg v (by decide), (h.2.2.2.1 x hx2).2.1.cg (h.k0 hx2) v (by decide), ?_⟩, h.2.2.2.2.cg (fun r hr => h.k0 hr) v (by decide)⟩
  obtain ⟨h1, ⟨h2, h3⟩, ⟨h4, h5⟩, h6⟩ := (h.2.2.2.1 x hx2).2.2
  have c0 := h.k0 hx2
  obtain ⟨e1, e2⟩ := hx x hx2
  have eq : q_r (q_hit R r).2 x = if x ∈ l then some l else q_r R x := by
    show (if x ∈ (q_s R).takeWhile (fun x => x != r) ++ [r] then some ((q_s R).takeWhile (fun x => x != r) ++ [r]) else q_r R x) = _
    rw [hl]
  unfold cRo
  rw [(v.2.2 307 _ c0 (by decide)).2.2.1, (v.2.2 308 _ c0 (by decide)).2.1, (v.2.2 311 _ c0 (by decide)).1, e1, e2, eq]
  refine ⟨h1, ⟨h2, fun o ho => (h3 o ho).cg v⟩, ?_, h6⟩
  by_cases e : x ∈ l
  · rw [if_pos e, if_pos e, if_pos e]
    exact ⟨(fun z => by cases z), fun l2 hl2 => by cases hl2; exact ⟨hm.cg v, hb⟩⟩
  · rw [if_neg e, if_neg e, if_neg e]
    exact ⟨h4, fun l2 hl2 => ⟨(h5 l2 hl2).1.cg v, (h5 l2 hl2).2⟩⟩
theorem c_closeRing {d : Nat} {Fg : Nat → Prop} {h0 : hp} {V : kV} {bc bs : Nat} {Q : Option sV → kV → Prop} {r : Nat} (hE : e_n E ≤ 24) (h : crep D E R sp lk w0 V) (hr : r ∈ q_s R) (hn : ∀ x ∈ q_s R, x < e_n E) (h24 : (q_s R).length ≤ 24) (hQ : ∀ a V2, vex [309, 310] V V2 → kO V2 a = some (q_hit R r).1 → crep D E (q_hit R r).2 sp lk w0 V2 → Q (some (sR (some a))) V2) : cM (d + 1) Fg h0 12 [sR (some (dO D)), sR (some (dA D r))] V bc bs Q := by
  have hrn := hn r hr
  have h3 := h.2.2.1
  have hs := h.2.1
  generalize hl : (q_s R).takeWhile (fun y => y != r) ++ [r] = l
  have hln : ∀ x ∈ l, x < e_n E := by
    intro x hx
    rw [← hl] at hx
    rcases List.mem_append.mp hx with hx | hx
    · exact hn x ((List.takeWhile_sublist _).subset hx)
    · rw [List.mem_singleton.mp hx]; exact hrn
  have hrl : r ∈ l := by rw [← hl]; exact List.mem_append_right _ List.mem_cons_self
  have hpos : ∀ x, x < e_n E → (¬ kI V 311 (dA D x) < kI V 311 (dA D r) ↔ x ∈ l) := fun x hx => by
    rw [(h.2.2.2.1 x hx).2.2.2.2.2, (h.2.2.2.1 r hrn).2.2.2.2.2]
    have a1 := zpos_le (q_s R) x
    have a2 := zpos_le (q_s R) r
    rw [nI_ltI (by omega) (by omega), Nat.not_lt, zpos_ring _ r x hr, hl]
  have hring : (q_hit R r).1 = zring l := by rw [← hl]; rfl
  have hkb : ∀ i, i < 24 → kB V 401 (dS D) i = if i < e_n E then some (dA D i) else none := hs.2.2.2.2
  -- the second loop
  have loop2 : ∀ (m : Nat) (b : Int32), m < e_n E → m = zmin l → rB l b → ∀ (e i : Nat) (W : kV) (v7 : sV), i + e = 24 → vex [309, 310] V W → (∀ x, x < e_n E → kI W 310 (dA D x) = (if x < i ∧ x ∈ l then b else kI V 310 (dA D x)) ∧ kR W 309 (dA D x) = if x < i ∧ x ∈ l then kR V 313 (dA D m) else kR V 309 (dA D x)) → cWP d Fg h0 12 Q 104 [sR (some (dO D)), sR (some (dA D r)), sI b, sR (some (dA D m)), sR (some (kr V 401 (dS D))), sI 24, sI (nI i), v7] [] W bc bs := by
    intro m b hm hmz hb e
    induction e with
    | zero =>
      intro i W v7 hi v hW
      have hi : i = 24 := by omega
      subst hi
      obtain ⟨a, ea, ha⟩ := (h.2.2.2.1 m hm).1.2.2.2.2.2.2.2
      have hz : kO V a = some (zring l) := by rw [ha, hmz]; rfl
      have c0 := h.k0 hm
      refine bX2_closeRing_104 (fun _ => ?_) (fun z => absurd (show nI 24 ≤ nI 24 from nI_le (Nat.le_refl _) (by decide)) z)
      refine bX2_closeRing_156 ((v.1 _ c0).1.trans (h.kc hm)) ?_
      rw [(v.2.2 313 _ c0 (by decide)).2.1, ea]
      refine hQ a W v (by rw [hring]; exact v.2.1 _ _ hz) (h.hit hl v (fun x hx => ?_) ⟨a, ea, hz⟩ hb)
      obtain ⟨e1, e2⟩ := hW x hx
      rw [e1, e2]
      have : x < 24 := by omega
      simp only [this, true_and, and_self]
    | succ e ih =>
      intro i W v7 hi v hW
      have hi24 : i < 24 := by omega
      have cs : kC W (dS D) = 5 := (v.1 _ (by rw [hs.1]; decide)).1.trans hs.1
      have ekr : kr W 401 (dS D) = kr V 401 (dS D) := (v.1 _ (by rw [hs.1]; decide)).2 401
      have ekb : kB W 401 (dS D) = kB V 401 (dS D) := (v.2.2 401 _ (by rw [hs.1]; decide) (by decide)).2.2.2
      refine bX2_closeRing_104 (fun z => absurd (show nI 24 ≤ nI i from z) (nI_ge hi24 (by decide))) (fun _ => ?_)
      rw [← ekr]
      have go : ∀ (W2 : kV) (v7 : sV), kr W2 401 (dS D) = kr V 401 (dS D) → vex [309, 310] V W2 → (∀ x, x < e_n E → kI W2 310 (dA D x) = (if x < i + 1 ∧ x ∈ l then b else kI V 310 (dA D x)) ∧ kR W2 309 (dA D x) = if x < i + 1 ∧ x ∈ l then kR V 313 (dA D m) else kR V 309 (dA D x)) → cWP d Fg h0 12 Q 150 [sR (some (dO D)), sR (some (dA D r)), sI b, sR (some (dA D m)), sR (some (kr W 401 (dS D))), sI 24, sI (nI i), v7] [] W2 bc bs := fun W2 v7 hk v2 hW2 => by
        refine bX2_closeRing_150 ?_
        rw [nI_1, ekr]
        exact ih (i + 1) W2 v7 (by omega) v2 hW2
      refine bX2_closeRing_111 (vin i rfl hi24 (by decide)) cs (fun z => ?_) (fun z => ?_)
      · rw [nix i rfl (by omega), ekb, hkb i hi24] at z
        have hin : ¬ i < e_n E := fun y => by rw [if_pos y] at z; cases z
        refine go W _ ekr v (fun x hx => ?_)
        obtain ⟨e1, e2⟩ := hW x hx
        have ee : (x < i + 1 ∧ x ∈ l) ↔ (x < i ∧ x ∈ l) := by constructor <;> (intro q; exact ⟨by omega, q.2⟩)
        simp only [ee]
        exact ⟨e1, e2⟩
      · rw [nix i rfl (by omega), ekb, hkb i hi24] at z ⊢
        have hin : i < e_n E := Classical.byContradiction (fun y => z (if_neg y))
        rw [if_pos hin]
        have ci : kC W (dA D i) = 4 := (v.1 _ (h.k0 hin)).1.trans (h.kc hin)
        have cr : kC W (dA D r) = 4 := (v.1 _ (h.k0 hrn)).1.trans (h.kc hrn)
        have cm : kC W (dA D m) = 4 := (v.1 _ (h.k0 hm)).1.trans (h.kc hm)
        have p1 : kI W 311 (dA D i) = kI V 311 (dA D i) := (v.2.2 311 _ (h.k0 hin) (by decide)).1
        have p2 : kI W 311 (dA D r) = kI V 311 (dA D r) := (v.2.2 311 _ (h.k0 hrn) (by decide)).1
        have p3 : kR W 313 (dA D m) = kR V 313 (dA D m) := (v.2.2 313 _ (h.k0 hm) (by decide)).2.1
        refine bX2_closeRing_123 ci cr (fun y => ?_) (fun y => ?_)
        · rw [p1, p2] at y
          have hil : i ∉ l := fun q => (hpos i hin).mpr q y
          refine go W _ ekr v (fun x hx => ?_)
          obtain ⟨e1, e2⟩ := hW x hx
          have ee : (x < i + 1 ∧ x ∈ l) ↔ (x < i ∧ x ∈ l) := by
            constructor
            · intro q
              exact ⟨by have : x ≠ i := fun z => hil (by rw [← z]; exact q.2); omega, q.2⟩
            · intro q; exact ⟨by omega, q.2⟩
          simp only [ee]
          exact ⟨e1, e2⟩
        · rw [p1, p2] at y
          have hil : i ∈ l := (hpos i hin).mp y
          refine bX2_closeRing_135 ci cm ?_
          rw [p3]
          refine go _ _ ekr (v.tr ((vex.i 310 (dA D i) b).tr (L := [309, 310]) (vex.r 309 (dA D i) _) (fun f hf q => hf (by rw [List.mem_singleton.mp q]; decide)) (fun f hf q => hf (by rw [List.mem_singleton.mp q]; decide))) (fun f hf => hf) (fun f hf => hf)) (fun x hx => ?_)
          obtain ⟨e1, e2⟩ := hW x hx
          show (if 310 = 310 ∧ dA D x = dA D i then b else kI W 310 (dA D x)) = _ ∧ (if 309 = 309 ∧ dA D x = dA D i then kR V 313 (dA D m) else kR W 309 (dA D x)) = _
          by_cases ex : x = i
          · subst ex
            exact ⟨by rw [if_pos ⟨rfl, rfl⟩, if_pos ⟨by omega, hil⟩], by rw [if_pos ⟨rfl, rfl⟩, if_pos ⟨by omega, hil⟩]⟩
          · have ee : (x < i + 1 ∧ x ∈ l) ↔ (x < i ∧ x ∈ l) := by constructor <;> (intro q; exact ⟨by omega, q.2⟩)
            have en : ∀ f : Nat, ¬ (f = f ∧ dA D x = dA D i) := fun f q => ex (h.inj hE hx hin q.2)
            refine ⟨?_, ?_⟩
            · rw [if_neg (en 310), e1]
              simp only [ee]
            · rw [if_neg (en 309), e2]
              simp only [ee]
  -- the first loop
  have loop1 : ∀ (e i : Nat) (m : Nat) (b : Int32) (v7 : sV), i + e = 24 → m ∈ l → (∀ y ∈ l, y < i → m ≤ y) → (∀ k, k < 32 → bt b k = decide (k < i ∧ k ∈ l)) → cWP d Fg h0 12 Q 21 [sR (some (dO D)), sR (some (dA D r)), sI b, sR (some (dA D m)), sR (some (kr V 401 (dS D))), sI 24, sI (nI i), v7] [] V bc bs := by
    intro e
    induction e with
    | zero =>
      intro i m b v7 hi hm hmin hbt
      have hi : i = 24 := by omega
      subst hi
      refine bX2_closeRing_21 (fun _ => ?_) (fun z => absurd (show nI 24 ≤ nI 24 from nI_le (Nat.le_refl _) (by decide)) z)
      refine bX2_closeRing_87 h3.2.1 h3.1 hs.1 ?_
      have hne : ¬ l = [] := fun z => by rw [z] at hm; cases hm
      obtain ⟨z1, z2⟩ := zmin_in hne
      have hmz : m = zmin l := Nat.le_antisymm (hmin _ z1 (by have := hln _ z1; omega)) (z2 m hm)
      refine loop2 m b (hln m hm) hmz ⟨⟨hne, fun k hk => by have := hln k hk; omega⟩, fun k hk => ?_⟩ 24 0 V _ (by omega) vex.rf (fun x hx => ?_)
      · rw [b_one (by omega), hbt k (by omega)]
        simp [hk]
      · simp
    | succ e ih =>
      intro i m b v7 hi hm hmin hbt
      have hi24 : i < 24 := by omega
      refine bX2_closeRing_21 (fun z => absurd (show nI 24 ≤ nI i from z) (nI_ge hi24 (by decide))) (fun _ => ?_)
      have go : ∀ (m : Nat) (b : Int32) (v7 : sV), m ∈ l → (∀ y ∈ l, y < i + 1 → m ≤ y) → (∀ k, k < 32 → bt b k = decide (k < i + 1 ∧ k ∈ l)) → cWP d Fg h0 12 Q 81 [sR (some (dO D)), sR (some (dA D r)), sI b, sR (some (dA D m)), sR (some (kr V 401 (dS D))), sI 24, sI (nI i), v7] [] V bc bs := fun m b v7 h1 h2 h3 => by
        refine bX2_closeRing_81 ?_
        rw [nI_1]
        exact ih (i + 1) m b v7 (by omega) h1 h2 h3
      have no : i ∉ l → ∀ v7, cWP d Fg h0 12 Q 81 [sR (some (dO D)), sR (some (dA D r)), sI b, sR (some (dA D m)), sR (some (kr V 401 (dS D))), sI 24, sI (nI i), v7] [] V bc bs := fun hil v7 => by
        refine go m b v7 hm (fun y hy hyi => hmin y hy ?_) (fun k hk => ?_)
        · have : y ≠ i := fun z => hil (by rw [← z]; exact hy)
          omega
        · rw [hbt k hk]
          apply decide_eq_decide.mpr
          constructor
          · intro q; exact ⟨by omega, q.2⟩
          · intro q
            have : k ≠ i := fun z => hil (by rw [← z]; exact q.2)
            exact ⟨by omega, q.2⟩
      refine bX2_closeRing_28 (vin i rfl hi24 (by decide)) hs.1 (fun z => ?_) (fun z => ?_)
      · rw [nix i rfl (by omega), hkb i hi24] at z
        have hin : ¬ i < e_n E := fun y => by rw [if_pos y] at z; cases z
        exact no (fun q => hin (hln i q)) _
      · rw [nix i rfl (by omega), hkb i hi24] at z ⊢
        have hin : i < e_n E := Classical.byContradiction (fun y => z (if_neg y))
        rw [if_pos hin]
        refine bX2_closeRing_40 (h.kc hin) (h.kc hrn) (fun y => no (fun q => (hpos i hin).mpr q y) _) (fun y => ?_)
        have hil : i ∈ l := (hpos i hin).mp y
        have hbt2 : ∀ k, k < 32 → bt (b ||| ((1 : Int32) <<< (nI i &&& 31))) k = decide (k < i + 1 ∧ k ∈ l) := fun k hk => by
          rw [b_put (by omega) hk, hbt k hk]
          by_cases ek : k = i
          · subst ek
            simp [hil]
          · have ee : (k < i + 1 ∧ k ∈ l) ↔ (k < i ∧ k ∈ l) := by constructor <;> (intro q; exact ⟨by omega, q.2⟩)
            simp only [ee, ek, decide_false, Bool.or_false]
        have k3 := (h.2.2.2.1 i hin).1.2.1
        have k4 := (h.2.2.2.1 m (hln m hm)).1.2.1
        have hm24 := hln m hm
        refine bX2_closeRing_52 (h.kc hin) (h.kc (hln m hm)) (fun y2 => ?_) (fun y2 => ?_)
        · rw [k3, k4, nI_leI (by omega) (by omega)] at y2
          rw [k3]
          refine bX2_closeRing_79 (bX2_closeRing_80 (go m _ _ hm (fun y hy hyi => ?_) hbt2))
          by_cases ey : y = i
          · rw [ey]; exact y2
          · exact hmin y hy (by omega)
        · rw [k3, k4, nI_leI (by omega) (by omega)] at y2
          rw [k3]
          refine bX2_closeRing_74 (bX2_closeRing_80 (go i _ _ hil (fun y hy hyi => ?_) hbt2))
          by_cases ey : y = i
          · rw [ey]; exact Nat.le_refl _
          · have := hmin y hy (by omega); omega
  refine cM_of (ls := [sR (some (dO D)), sR (some (dA D r)), sU, sU, sU, sU, sU, sU]) rfl (Nat.le_of_ble_eq_true rfl) rfl ?_
  refine bX2_closeRing_0 h3.2.1 h3.1 hs.1 ?_
  refine loop1 24 0 r 0 _ (by omega) hrl (fun y _ hy => absurd hy (by omega)) (fun k hk => ?_)
  rw [b_0]
  simp
end
