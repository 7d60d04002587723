/-- the rows of reads, one behind the other -/
def zfl (gs : List zR) : List Int32 := gs.flatMap (fun g => g.2.2.2)
theorem zfl_cons (g : zR) (gs : List zR) : zfl (g :: gs) = g.2.2.2 ++ zfl gs := rfl
theorem zfl_drop {gs : List zR} {i : Nat} (h : i < gs.length) : zfl (gs.drop i) = (gs.getD i zr0).2.2.2 ++ zfl (gs.drop (i + 1)) := by
  rw [List.drop_eq_getElem_cons h, zfl_cons, List.getD_eq_getElem?_getD, List.getElem?_eq_getElem h]
  rfl
theorem uWW {V : kV} {b : Nat} {p q : Option (Nat × (Nat → Int32))} : uW (uW V b p) b q = uW V b q := by
  unfold uW
  rw [show kW (kC V, kI V, kR V, kr V, kA V, kB V, kO V, kw V, va_up (kW V) b p) = va_up (kW V) b p from rfl, va_upup]
theorem c_lengthAt {d : Nat} {Fg : Nat → Prop} {h0 : hp} {V : kV} {bc bs : Nat} {Q : Option sV → kV → Prop} {t i : Nat} {gs : List zR} (ht : cTr V t gs) (hl : gs.length ≤ 25) (hi : i < gs.length) (hQ : Q (some (sI (nI (gs.getD i zr0).2.2.2.length))) V) : cM (d + 1) Fg h0 41 [sR (some t), sI (nI i)] V bc bs Q := by
  obtain ⟨h1, h2, h3⟩ := ht
  obtain ⟨a, e, ha⟩ := (h3 i hi).2
  refine cM_of (ls := [sR (some t), sI (nI i), sU]) rfl (Nat.le_of_ble_eq_true rfl) rfl ?_
  refine bX5_lengthAt_0 (fun z => absurd z (nI_pos (by omega))) (fun _ => ?_)
  refine bX5_lengthAt_4 h1 (fun z => absurd z (by rw [h2]; exact nI_ge hi (by omega))) (fun _ => ?_)
  refine bX5_lengthAt_12 h1 (vin i rfl (by omega) (by decide)) ?_
  rw [nix i rfl (by omega), e]
  exact bX5_lengthAt_22 (fun _ => bX5_lengthAt_31 ha (bX5_lengthAt_36 hQ)) (fun z => by cases z)
theorem c_joinedFrom {d : Nat} {Fg : Nat → Prop} {h0 : hp} {V : kV} {bc bs : Nat} {Q : Option sV → kV → Prop} {t k : Nat} {gs : List zR} (ht : cTr V t gs) (hl : gs.length ≤ 25) (hk : k ≤ 1) (hr : ∀ g ∈ gs, g.2.2.2.length ≤ 24) (hL : (zfl (gs.drop k)).length ≤ 1000) (hbc : 1 ≤ bc) (hbs : (zfl (gs.drop k)).length ≤ bs) (hQ : ∀ b g, ¬ kD V b → (∀ j, j < (zfl (gs.drop k)).length → g j = (zfl (gs.drop k)).getD j 0) → Q (some (sR (some b))) (uW V b (some ((zfl (gs.drop k)).length, g)))) : cM (d + 2) Fg h0 42 [sR (some t), sI (nI k)] V bc bs Q := by
  have ht0 := ht
  obtain ⟨h1, h2, h3⟩ := ht
  refine cM_of (ls := [sR (some t), sI (nI k), sU, sU, sU, sU, sU]) rfl (Nat.le_of_ble_eq_true rfl) rfl ?_
  refine bX5_joinedFrom_0 ?_
  generalize hl0 : zfl (gs.drop k) = l at *
  -- the second loop
  have loop2 : ∀ (b : Nat) (v2 : sV) (e i : Nat), gs.length - i = e → i < 100 → ∀ (g : Nat → Int32) (p : List Int32) (v6 : sV) (bc bs : Nat), ¬ kD V b → p ++ zfl (gs.drop i) = l → (∀ j, j < p.length → g j = p.getD j 0) → cWP (d + 1) Fg h0 42 Q 36 [sR (some t), sI (nI k), v2, sR (some b), sI (nI p.length), sI (nI i), v6] [] (uW V b (some (l.length, g))) bc bs := by
    intro b v2 e
    induction e with
    | zero =>
      intro i hi h100 g p v6 bc bs hb hp hg
      have hp2 : p = l := by rw [List.drop_eq_nil_of_le (by omega)] at hp; simpa [zfl] using hp
      subst hp2
      refine bX5_joinedFrom_36 h1 (fun _ => bX5_joinedFrom_94 (hQ b g hb hg)) (fun z => absurd ?_ z)
      show kI V 500 t ≤ nI i
      rw [h2]
      exact nI_le (by omega) (by omega)
    | succ e ih =>
      intro i hi h100 g p v6 bc bs hb hp hg
      have hi2 : i < gs.length := by omega
      obtain ⟨a, ea, ha⟩ := (h3 i hi2).2
      rw [zfl_drop hi2] at hp
      refine bX5_joinedFrom_36 h1 (fun z => absurd (show kI V 500 t ≤ nI i from z) (by rw [h2]; exact nI_ge hi2 (by omega))) (fun _ => ?_)
      refine bX5_joinedFrom_45 h1 (vin i rfl (by omega) (by decide)) (fun z => ?_) (fun _ => ?_)
      · have z : kB V 503 t (nI i).toNatClampNeg = none := z
        rw [nix i rfl (by omega), ea] at z
        cases z
      · show cWP (d + 1) Fg h0 42 Q 59 [sR (some t), sI (nI k), v2, sR (some b), sI (nI p.length), sI (nI i), sR (kB V 503 t (nI i).toNatClampNeg)] [] (uW V b (some (l.length, g))) bc bs
        rw [nix i rfl (by omega), ea]
        have hgl : (gs.getD i zr0).2.2.2.length ≤ 24 := hr _ (by rw [List.getD_eq_getElem?_getD, List.getElem?_eq_getElem hi2]; exact List.getElem_mem hi2)
        have hlen : p.length + (gs.getD i zr0).2.2.2.length ≤ l.length := by
          rw [← hp, List.length_append, List.length_append]
          omega
        generalize (gs.getD i zr0).2 = o at *
        refine bX5_joinedFrom_59 (o_a6 := o) ha (va_up_self _ _ _) (by decide) (nI_pos (by omega)) (nI_pos (by omega)) (by rw [nI_clamp (by omega)]; show 0 + _ ≤ _; omega) (by rw [nI_clamp (by omega), nI_clamp (by omega)]; exact hlen) (fun f hf => ?_)
        rw [uWW, nI_clamp (show o.2.2.length < 2 ^ 31 by omega), nI_clamp (show p.length < 2 ^ 31 by omega)]
        refine bX5_joinedFrom_77 (o_a6 := o) ha (bX5_joinedFrom_88 ?_)
        rw [nI_add, nI_1, ← List.length_append]
        refine ih (i + 1) (by omega) (by omega) _ (p ++ o.2.2) _ _ _ hb (by rw [List.append_assoc]; exact hp) (fun j hj => ?_)
        rw [List.length_append] at hj
        show va_cpy f g 0 p.length o.2.2.length j = _
        by_cases hjp : j < p.length
        · rw [pk_cpy_out (Or.inl hjp), hg j hjp, List.getD_eq_getElem?_getD, List.getD_eq_getElem?_getD, List.getElem?_append_left hjp]
        · rw [pk_cpy_in (by omega) (by omega), Nat.zero_add, hf _ (by omega), List.getD_eq_getElem?_getD, List.getD_eq_getElem?_getD, List.getElem?_append_right (by omega)]
  -- the first loop
  have loop1 : ∀ (e i : Nat), gs.length - i = e → i < 100 → ∀ (s : Nat), s + (zfl (gs.drop i)).length = l.length → cWP (d + 1) Fg h0 42 Q 4 [sR (some t), sI (nI k), sI (nI s), sI (nI i), sU, sU, sU] [] V bc bs := by
    intro e
    induction e with
    | zero =>
      intro i hi h100 s hs
      rw [List.drop_eq_nil_of_le (by omega)] at hs
      have hs : s = l.length := hs
      subst hs
      refine bX5_joinedFrom_4 h1 (fun _ => ?_) (fun z => absurd (by rw [h2]; exact nI_le (by omega) (by omega)) z)
      refine bX5_joinedFrom_26 (N := l.length) (nI_pos (by omega)) (nI_clamp (by omega)) (by omega) hbc hbs (fun b hb => ?_)
      refine bX5_joinedFrom_29 ?_
      exact loop2 b _ _ k rfl (by omega) _ [] _ _ _ hb hl0 (fun j hj => absurd hj (by simp))
    | succ e ih =>
      intro i hi h100 s hs
      have hi2 : i < gs.length := by omega
      rw [zfl_drop hi2, List.length_append] at hs
      refine bX5_joinedFrom_4 h1 (fun z => absurd z (by rw [h2]; exact nI_ge hi2 (by omega))) (fun _ => ?_)
      refine bX5_joinedFrom_12 (bc1 := 0) (bs1 := 0) (P := fun v V2 => v = some (sI (nI (gs.getD i zr0).2.2.2.length)) ∧ V2 = V) h1 (c_lengthAt ht0 hl hi2 ⟨rfl, rfl⟩) (Nat.zero_le _) (Nat.zero_le _) ?_
      rintro v V2 ⟨rfl, rfl⟩
      refine bX5_joinedFrom_18 ?_
      rw [nI_add, nI_1]
      exact ih (i + 1) (by omega) (by omega) _ (by omega)
  exact loop1 _ k rfl (by omega) 0 (by rw [hl0]; omega)
theorem zadd_app (x : Int32) (a b : List Int32) : zadd x (a ++ b) = zadd (zadd x a) b := List.foldl_append
theorem c_sum {d : Nat} {Fg : Nat → Prop} {h0 : hp} {V : kV} {bc bs : Nat} {Q : Option sV → kV → Prop} {t : Nat} {gs : List zR} (ht : cTr V t gs) (hl : gs.length ≤ 25) (hr : ∀ g ∈ gs, g.2.2.2.length ≤ 24) (hQ : Q (some (sI (zadd 0 (zfl gs)))) V) : cM (d + 1) Fg h0 43 [sR (some t)] V bc bs Q := by
  obtain ⟨h1, h2, h3⟩ := ht
  refine cM_of (ls := [sR (some t), sU, sU, sU, sU]) rfl (Nat.le_of_ble_eq_true rfl) rfl ?_
  refine bX5_sum_0 ?_
  have outer : ∀ (e i : Nat), gs.length - i = e → ∀ (x : Int32) (v3 v4 : sV), i ≤ gs.length → zadd x (zfl (gs.drop i)) = zadd 0 (zfl gs) → cWP d Fg h0 43 Q 4 [sR (some t), sI x, sI (nI i), v3, v4] [] V bc bs := by
    intro e
    induction e with
    | zero =>
      intro i hi x v3 v4 hle hx
      rw [List.drop_eq_nil_of_le (by omega)] at hx
      have hx : x = zadd 0 (zfl gs) := hx
      refine bX5_sum_4 h1 (fun _ => bX5_sum_58 (by rw [hx]; exact hQ)) (fun z => absurd (by rw [h2]; exact nI_le (by omega) (by omega)) z)
    | succ e ih =>
      intro i hi x v3 v4 hle hx
      have hi2 : i < gs.length := by omega
      obtain ⟨a, ea, ha⟩ := (h3 i hi2).2
      rw [zfl_drop hi2] at hx
      refine bX5_sum_4 h1 (fun z => absurd z (by rw [h2]; exact nI_ge hi2 (by omega))) (fun _ => ?_)
      refine bX5_sum_12 h1 (vin i rfl (by omega) (by decide)) ?_
      rw [nix i rfl (by omega), ea]
      have hgl : (gs.getD i zr0).2.2.2.length ≤ 24 := hr _ (by rw [List.getD_eq_getElem?_getD, List.getElem?_eq_getElem hi2]; exact List.getElem_mem hi2)
      generalize (gs.getD i zr0).2 = o at *
      have inner : ∀ (u j : Nat), o.2.2.length - j = u → ∀ (x : Int32), j ≤ o.2.2.length → zadd x (o.2.2.drop j ++ zfl (gs.drop (i + 1))) = zadd 0 (zfl gs) → cWP d Fg h0 43 Q 22 [sR (some t), sI x, sI (nI i), sR (some a), sI (nI j)] [] V bc bs := by
        intro u
        induction u with
        | zero =>
          intro j hj x hjl hx
          refine bX5_sum_22 (fun z => by cases z) (fun _ => ?_)
          refine bX5_sum_26 (o_a3 := o) ha (fun _ => ?_) (fun z => absurd (nI_le (by omega) (by omega)) z)
          refine bX5_sum_52 ?_
          rw [nI_1]
          refine ih (i + 1) (by omega) x _ _ (by omega) ?_
          rw [List.drop_eq_nil_of_le (by omega)] at hx
          exact hx
        | succ u ihu =>
          intro j hj x hjl hx
          have hj2 : j < o.2.2.length := by omega
          refine bX5_sum_22 (fun z => by cases z) (fun _ => ?_)
          refine bX5_sum_26 (o_a3 := o) ha (fun z => absurd z (nI_ge hj2 (by omega))) (fun _ => ?_)
          refine bX5_sum_36 (o_a3 := o) ha (vin j rfl hj2 (by omega)) ?_
          rw [nix j rfl (by omega), nI_1]
          refine ihu (j + 1) (by omega) _ (by omega) ?_
          rw [List.drop_eq_getElem_cons hj2] at hx
          rw [List.getD_eq_getElem?_getD, List.getElem?_eq_getElem hj2]
          exact hx
      exact inner _ 0 rfl x (Nat.zero_le _) hx
  exact outer _ 0 rfl 0 _ _ (Nat.zero_le _) rfl
theorem c_sort {d : Nat} {Fg : Nat → Prop} {h0 : hp} {V : kV} {bc bs : Nat} {Q : Option sV → kV → Prop} {b : Nat} {l : List Int32} {g : Nat → Int32} (hb : kW V b = some (l.length, g)) (l24 : l.length ≤ 24) (hg : ∀ j, j < l.length → g j = l.getD j 0) (hQ : ∀ f, (∀ j, j < l.length → f j = (zsort l).getD j 0) → Q none (uW V b (some (l.length, f)))) : cM (d + 1) Fg h0 20 [sR (some b)] V bc bs Q := by
  refine cM_of (ls := [sR (some b), sU, sU, sU]) rfl (Nat.le_of_ble_eq_true rfl) rfl ?_
  refine bX2_sort_0 ?_
  have hself : ∀ f, kW (uW V b (some (l.length, f))) b = some (l.length, f) := fun f => va_up_self _ _ _
  have outer : ∀ (e k : Nat) (f : Nat → Int32) (v3 v4 : sV), k + e = l.length + 1 → 1 ≤ k → (∀ j, j < k → j < l.length → f j = (zsort (l.take k)).getD j 0) → (∀ j, k ≤ j → j < l.length → f j = l.getD j 0) → cWP d Fg h0 20 Q 2 [sR (some b), sI (nI k), v3, v4] [] (uW V b (some (l.length, f))) bc bs := by
    intro e
    induction e with
    | zero =>
      intro k f v3 v4 hk h1 hs hr
      refine bX2_sort_2 (hself f) (fun _ => ?_) (fun z => absurd (nI_le (by omega) (by omega)) z)
      refine bX2_sort_51 (hQ f (fun j hj => ?_))
      rw [hs j (by omega) hj, List.take_of_length_le (by omega)]
    | succ e ih =>
      intro k f v3 v4 hk h1 hs hr
      refine bX2_sort_2 (hself f) (fun z => ?_) (fun z => ?_)
      · rw [nI_leI (by omega) (by omega)] at z
        refine bX2_sort_51 (hQ f (fun j hj => ?_))
        rw [hs j (by omega) hj, List.take_of_length_le (by omega)]
      · rw [nI_leI (by omega) (by omega)] at z
        have klt : k < l.length := by omega
        refine bX2_sort_8 (hself f) (vin k rfl klt (by omega)) ?_
        rw [nix k rfl (by omega), hr k (Nat.le_refl _) klt]
        have plen : (zsort (l.take k)).length = k := by rw [zsort_len, List.length_take]; omega
        generalize hp : zsort (l.take k) = p at *
        generalize hv : l.getD k 0 = v at *
        have fin : ∀ (i : Nat) (f : Nat → Int32), i ≤ k → (∀ j, j < i → f j = p.getD j 0) → (∀ j, i < j → j ≤ k → f j = p.getD (j - 1) 0) → (∀ j, k < j → j < l.length → f j = l.getD j 0) → (∀ j, i ≤ j → j < k → v < p.getD j 0) → (i = 0 ∨ ¬ v < p.getD (i - 1) 0) → cWP d Fg h0 20 Q 41 [sR (some b), sI (nI k), sI v, sI (nI i)] [] (uW V b (some (l.length, f))) bc bs := by
          intro i f hi f2 f3 f4 f5 f6
          refine bX2_sort_41 (hself f) (vin i rfl (by omega) (by omega)) ?_
          rw [nix i rfl (by omega), uWW, nI_1]
          have ez : zsort (l.take (k + 1)) = p.take i ++ v :: p.drop i := by
            rw [zsort_snoc klt, hp, hv]
            exact zins_at (by omega) (fun j h1 h2 => f5 j h1 (by omega)) f6
          refine ih (k + 1) _ _ _ (by omega) (by omega) (fun j hj hjl => ?_) (fun j hj hjl => ?_)
          · rw [ez]
            simp only [upd]
            by_cases hji : j = i
            · subst hji
              rw [if_pos rfl, List.getD_eq_getElem?_getD, List.getElem?_append_right (by rw [List.length_take]; omega), List.length_take, show j - min j p.length = 0 by omega]
              rfl
            · rw [if_neg (by omega)]
              by_cases hlt : j < i
              · rw [f2 j hlt, List.getD_eq_getElem?_getD, List.getD_eq_getElem?_getD, List.getElem?_append_left (by rw [List.length_take]; omega), List.getElem?_take, if_pos hlt]
              · rw [f3 j (by omega) (by omega), List.getD_eq_getElem?_getD, List.getD_eq_getElem?_getD, List.getElem?_append_right (by rw [List.length_take]; omega), List.length_take, show j - min i p.length = (j - 1 - i) + 1 by omega, List.getElem?_cons_succ, List.getElem?_drop, show i + (j - 1 - i) = j - 1 by omega]
          · simp only [upd]
            rw [if_neg (by omega)]
            exact f4 j (by omega) hjl
        have inner : ∀ (i : Nat) (f : Nat → Int32), i ≤ k → (∀ j, j < i → f j = p.getD j 0) → (∀ j, i < j → j ≤ k → f j = p.getD (j - 1) 0) → (∀ j, k < j → j < l.length → f j = l.getD j 0) → (∀ j, i ≤ j → j < k → v < p.getD j 0) → cWP d Fg h0 20 Q 14 [sR (some b), sI (nI k), sI v, sI (nI i)] [] (uW V b (some (l.length, f))) bc bs := by
          intro i
          induction i with
          | zero =>
            intro f hi f2 f3 f4 f5
            refine bX2_sort_14 (fun _ => fin 0 f hi f2 f3 f4 f5 (Or.inl rfl)) (fun z => absurd (by rw [nI_0]; decide) z)
          | succ i ihi =>
            intro f hi f2 f3 f4 f5
            have e2 : nI (i + 1) - 1 = nI i := nI_pred i
            refine bX2_sort_14 (fun z => absurd z (nI_nle (by omega) (by omega))) (fun _ => ?_)
            refine bX2_sort_18 (hself f) (vin _ e2 (by omega) (by omega)) (fun z => ?_) (fun z => ?_)
            · rw [nix _ e2 (by omega), f2 i (by omega)] at z
              exact fin (i + 1) f hi f2 f3 f4 f5 (Or.inr (by rw [Nat.add_sub_cancel]; exact Int32.not_lt.mpr z))
            · rw [nix _ e2 (by omega), f2 i (by omega)] at z
              refine bX2_sort_27 (hself f) (vin _ e2 (by omega) (by omega)) (vin (i + 1) rfl (by omega) (by omega)) ?_
              rw [nix _ e2 (by omega), nix (i + 1) rfl (by omega), uWW, nc4r, f2 i (by omega)]
              refine ihi _ (by omega) (fun j hj => ?_) (fun j h1 h2 => ?_) (fun j h1 h2 => ?_) (fun j h1 h2 => ?_)
              · simp only [upd]; rw [if_neg (by omega)]; exact f2 j (by omega)
              · simp only [upd]
                by_cases hj : j = i + 1
                · subst hj
                  rw [if_pos (by omega), Nat.add_sub_cancel]
                · rw [if_neg (by omega)]; exact f3 j (by omega) h2
              · simp only [upd]; rw [if_neg (by omega)]; exact f4 j h1 h2
              · by_cases hj : j = i
                · subst hj; exact Int32.not_le.mp z
                · exact f5 j (by omega) h2
        exact inner k f (Nat.le_refl _) (fun j hj => hs j hj (by omega)) (fun j h1 h2 => absurd h1 (by omega)) (fun j h1 h2 => hr j (by omega) h2) (fun j h1 h2 => absurd h1 (by omega))
  have h0 := outer l.length 1 g sU sU (by omega) (Nat.le_refl _) (fun j hj hjl => ?_) (fun j hj hjl => hg j hjl)
  · have e : uW V b (some (l.length, g)) = V := by
      unfold uW
      rw [← hb, va_upe]
    rw [e] at h0
    exact h0
  · have : j = 0 := by omega
    subst this
    rw [hg 0 hjl]
    cases l with
    | nil => simp at hjl
    | cons a l => simp [zsort, zins]
/-- the row that comes of reads -/
def zrow (k : Int32) (gs : List zR) : List Int32 := if k = 2 then [zadd 0 (zfl gs)] else if k = 3 then zsort (zfl gs) else zfl gs
theorem c_rowOf {d : Nat} {Fg : Nat → Prop} {h0 : hp} {V : kV} {bc bs : Nat} {Q : Option sV → kV → Prop} {t : Nat} {k : Int32} {gs : List zR} (ht : cTr V t gs) (hl : gs.length ≤ 25) (hr : ∀ g ∈ gs, g.2.2.2.length ≤ 24) (hL : ¬ k = 2 → (zfl gs).length ≤ 24) (hbc : 1 ≤ bc) (hbs : 24 ≤ bs) (hQ : ∀ b g V2, vex [] V V2 → kW V2 b = some ((zrow k gs).length, g) → (∀ j, j < (zrow k gs).length → g j = (zrow k gs).getD j 0) → Q (some (sR (some b))) V2) : cM (d + 3) Fg h0 19 [sI k, sR (some t)] V bc bs Q := by
  refine cM_of (ls := [sI k, sR (some t), sU]) rfl (Nat.le_of_ble_eq_true rfl) rfl ?_
  refine bX2_rowOf_0 (fun hk => ?_) (fun hk => ?_)
  · have hL := hL hk
    refine bX2_rowOf_16 (bc1 := 1) (bs1 := 24) (P := fun v V2 => ∃ b g, v = some (sR (some b)) ∧ (∀ j, j < (zfl gs).length → g j = (zfl gs).getD j 0) ∧ V2 = uW V b (some ((zfl gs).length, g))) ht.1 (c_joinedFrom (k := 0) ht hl (by omega) hr (by rw [List.drop_zero]; omega) (Nat.le_refl _) (by rw [List.drop_zero]; omega) (fun b g hb hg => ⟨b, g, rfl, by rw [List.drop_zero] at hg; exact hg, by rw [List.drop_zero]⟩)) hbc hbs ?_
    rintro v V2 ⟨b, g, rfl, hg, rfl⟩
    refine bX2_rowOf_21 (fun h3 => ?_) (fun h3 => ?_)
    · have e : zrow k gs = zfl gs := by unfold zrow; rw [if_neg hk, if_neg h3]
      rw [e] at hQ
      exact bX2_rowOf_31 (hQ b g _ (vex.w b _) (va_up_self _ _ _) hg)
    · have e : zrow k gs = zsort (zfl gs) := by unfold zrow; rw [if_neg hk, if_pos h3]
      rw [e, zsort_len] at hQ
      refine bX2_rowOf_27 (bc1 := 0) (bs1 := 0) (P := fun v V2 => v = none ∧ ∃ f, (∀ j, j < (zfl gs).length → f j = (zsort (zfl gs)).getD j 0) ∧ V2 = uW V b (some ((zfl gs).length, f))) (c_sort (l := zfl gs) (g := g) (va_up_self _ _ _) hL hg (fun f hf => ⟨rfl, f, hf, uWW⟩)) (Nat.zero_le _) (Nat.zero_le _) ?_
      rintro v V2 ⟨rfl, f, hf, rfl⟩
      exact bX2_rowOf_31 (hQ b f _ (vex.w b _) (va_up_self _ _ _) hf)
  · have e : zrow k gs = [zadd 0 (zfl gs)] := by unfold zrow; rw [if_pos hk]
    rw [e] at hQ
    refine bX2_rowOf_5 (N := 1) (by decide) (by decide) (by omega) hbc (by omega) (fun y hy => ?_)
    refine bX2_rowOf_8 (bc1 := 0) (bs1 := 0) (P := fun v V2 => v = some (sI (zadd 0 (zfl gs))) ∧ V2 = uW V y (some (1, fun _ => 0))) ht.1 (c_sum (ht.cg (vex.w y _) (by decide)) hl hr ⟨rfl, rfl⟩) (Nat.zero_le _) (Nat.zero_le _) ?_
    rintro v V2 ⟨rfl, rfl⟩
    refine bX2_rowOf_14 (va_up_self _ _ _) (vin 0 rfl (by omega) (by decide)) ?_
    rw [uWW]
    refine hQ y _ _ (vex.w y _) (va_up_self _ _ _) (fun j hj => ?_)
    have : j = 0 := by simp at hj; exact hj
    subst this
    rfl
