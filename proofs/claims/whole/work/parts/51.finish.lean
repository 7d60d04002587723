theorem zins_at {p : List Int32} {v : Int32} {i : Nat} (hi : i ≤ p.length) (h1 : ∀ j, i ≤ j → j < p.length → v < p.getD j 0) (h2 : i = 0 ∨ ¬ v < p.getD (i - 1) 0) : zins p v = p.take i ++ v :: p.drop i := by
  have hl : (p.reverse.takeWhile (fun x => v < x)).length = p.length - i := by
    have e1 : p.reverse = (p.drop i).reverse ++ (p.take i).reverse := by
      rw [← List.reverse_append, List.take_append_drop]
    rw [e1, List.takeWhile_append_of_pos]
    · have e2 : (p.take i).reverse.takeWhile (fun x => decide (v < x)) = [] := by
        rcases h2 with h2 | h2
        · subst h2; simp
        · cases i with
          | zero => simp
          | succ i =>
            have hlt : i < p.length := by omega
            rw [List.take_add_one, List.getElem?_eq_getElem hlt]
            simp only [Option.toList_some, List.reverse_append, List.reverse_singleton, List.singleton_append, List.takeWhile_cons]
            rw [Nat.add_sub_cancel, List.getD_eq_getElem?_getD, List.getElem?_eq_getElem hlt] at h2
            simp only [Option.getD_some] at h2
            simp [h2]
      rw [e2]
      simp
    · intro x hx
      rw [List.mem_reverse] at hx
      obtain ⟨j, hj, rfl⟩ := List.mem_iff_getElem.mp hx
      rw [List.length_drop] at hj
      have := h1 (i + j) (by omega) (by omega)
      rw [List.getD_eq_getElem?_getD, List.getElem?_eq_getElem (by omega)] at this
      simpa using this
  unfold zins
  rw [hl, show p.length - (p.length - i) = i by omega]
theorem zsort_snoc {l : List Int32} {k : Nat} (h : k < l.length) : zsort (l.take (k + 1)) = zins (zsort (l.take k)) (l.getD k 0) := by
  unfold zsort
  rw [List.take_add_one, List.getElem?_eq_getElem h, List.foldl_append, List.getD_eq_getElem?_getD, List.getElem?_eq_getElem h]
  rfl
theorem gup39 {G : rG} {f : Nat → Int32} {i : Nat} {x : Int32} : gup (va_up G 39 f) 39 i x = va_up G 39 (upd f i x) := by
  unfold gup
  rw [va_upup, va_up_self]
theorem r_sorts {d : Nat} {h0 : hp} {m : Nat} {ad : Nat → Nat} {S : rS} {G : rG} {Q : Option sV → rS → rG → Prop} {D : Nat} {l : List Int32} (hD : D < 24) (l24 : l.length ≤ 24) (h38 : G 38 D = nI l.length) (h39 : ∀ j, j < l.length → G 39 (24 * D + j) = l.getD j 0) (hQ : ∀ f, (∀ j, j < 24 * D → f j = G 39 j) → (∀ j, j < l.length → f (24 * D + j) = (zsort l).getD j 0) → Q none S (va_up G 39 f)) : rM (d + 1) h0 m ad 113 [sR (some m), sI (nI D)] S G Q := by
  refine rM_of (ls := [sR (some m), sI (nI D), sU, sU, sU]) rfl (Nat.le_of_ble_eq_true rfl) rfl ?_
  refine bX7_sorts_0 ?_
  have outer : ∀ (e k : Nat) (f : Nat → Int32) (v3 v4 : sV), k + e = l.length + 1 → 1 ≤ k → (∀ j, j < 24 * D → f j = G 39 j) → (∀ j, j < k → j < l.length → f (24 * D + j) = (zsort (l.take k)).getD j 0) → (∀ j, k ≤ j → j < l.length → f (24 * D + j) = l.getD j 0) → rWP d h0 m ad 113 Q 2 [sR (some m), sI (nI D), sI (nI k), v3, v4] [] S (va_up G 39 f) := by
    intro e
    induction e with
    | zero =>
      intro k f v3 v4 hk h1 hlow hs hr
      refine bX7_sorts_2 (vin D rfl hD (by decide)) (fun _ => ?_) (fun z => absurd (by rw [nix D rfl (by omega)]; show G 38 D ≤ _; rw [h38]; exact nI_le (by omega) (by omega)) z)
      refine bX7_sorts_101 (hQ f hlow (fun j hj => ?_))
      rw [hs j (by omega) hj, List.take_of_length_le (by omega)]
    | succ e ih =>
      intro k f v3 v4 hk h1 hlow hs hr
      refine bX7_sorts_2 (vin D rfl hD (by decide)) (fun z => ?_) (fun z => ?_)
      · rw [nix D rfl (by omega)] at z
        have z : G 38 D ≤ nI k := z
        rw [h38, nI_leI (by omega) (by omega)] at z
        refine bX7_sorts_101 (hQ f hlow (fun j hj => ?_))
        rw [hs j (by omega) hj, List.take_of_length_le (by omega)]
      · rw [nix D rfl (by omega)] at z
        have z : ¬ G 38 D ≤ nI k := z
        rw [h38, nI_leI (by omega) (by omega)] at z
        have klt : k < l.length := by omega
        refine bX7_sorts_12 (vin (24 * D + k) (by simp only [nc4, nc6, nc16, nc24, nc25, nc4r, nI_add, nI_1, nI_0]) (by omega) (by decide)) ?_
        rw [nix (24 * D + k) (by simp only [nc4, nc6, nc16, nc24, nc25, nc4r, nI_add, nI_1, nI_0]) (by omega), va_up_self, hr k (Nat.le_refl _) klt]
        have plen : (zsort (l.take k)).length = k := by rw [zsort_len, List.length_take]; omega
        generalize hp : zsort (l.take k) = p at *
        generalize hv : l.getD k 0 = v at *
        have fin : ∀ (i : Nat) (f : Nat → Int32), i ≤ k → (∀ j, j < 24 * D → f j = G 39 j) → (∀ j, j < i → f (24 * D + j) = p.getD j 0) → (∀ j, i < j → j ≤ k → f (24 * D + j) = p.getD (j - 1) 0) → (∀ j, k < j → j < l.length → f (24 * D + j) = l.getD j 0) → (∀ j, i ≤ j → j < k → v < p.getD j 0) → (i = 0 ∨ ¬ v < p.getD (i - 1) 0) → rWP d h0 m ad 113 Q 82 [sR (some m), sI (nI D), sI (nI k), sI v, sI (nI i)] [] S (va_up G 39 f) := by
          intro i f hi f1 f2 f3 f4 f5 f6
          refine bX7_sorts_82 (vin (24 * D + i) (by simp only [nc4, nc6, nc16, nc24, nc25, nc4r, nI_add, nI_1, nI_0]) (by omega) (by decide)) ?_
          rw [nix (24 * D + i) (by simp only [nc4, nc6, nc16, nc24, nc25, nc4r, nI_add, nI_1, nI_0]) (by omega), gup39, nI_1]
          have ez : zsort (l.take (k + 1)) = p.take i ++ v :: p.drop i := by
            rw [zsort_snoc klt, hp, hv]
            exact zins_at (by omega) (fun j h1 h2 => f5 j h1 (by omega)) f6
          refine ih (k + 1) _ _ _ (by omega) (by omega) (fun j hj => ?_) (fun j hj hjl => ?_) (fun j hj hjl => ?_)
          · simp only [upd]
            rw [if_neg (by omega)]
            exact f1 j hj
          · rw [ez]
            simp only [upd]
            by_cases hji : j = i
            · subst hji
              rw [if_pos rfl, List.getD_eq_getElem?_getD, List.getElem?_append_right (by rw [List.length_take]; omega), List.length_take, show j - min j p.length = 0 by omega]
              rfl
            · rw [if_neg (by omega)]
              by_cases hlt : j < i
              · rw [f2 j hlt, List.getD_eq_getElem?_getD, List.getD_eq_getElem?_getD, List.getElem?_append_left (by rw [List.length_take]; omega), List.getElem?_take, if_pos hlt]
              · rw [f3 j (by omega) (by omega), List.getD_eq_getElem?_getD, List.getD_eq_getElem?_getD, List.getElem?_append_right (by rw [List.length_take]; omega), List.length_take, show j - min i p.length = (j - 1 - i) + 1 by omega, List.getElem?_cons_succ, List.getElem?_drop, show i + (j - 1 - i) = j - 1 by omega]
          · simp only [upd]
            rw [if_neg (by omega)]
            exact f4 j (by omega) hjl
        have inner : ∀ (i : Nat) (f : Nat → Int32), i ≤ k → (∀ j, j < 24 * D → f j = G 39 j) → (∀ j, j < i → f (24 * D + j) = p.getD j 0) → (∀ j, i < j → j ≤ k → f (24 * D + j) = p.getD (j - 1) 0) → (∀ j, k < j → j < l.length → f (24 * D + j) = l.getD j 0) → (∀ j, i ≤ j → j < k → v < p.getD j 0) → rWP d h0 m ad 113 Q 27 [sR (some m), sI (nI D), sI (nI k), sI v, sI (nI i)] [] S (va_up G 39 f) := by
          intro i
          induction i with
          | zero =>
            intro f hi f1 f2 f3 f4 f5
            refine bX7_sorts_27 (fun _ => fin 0 f hi f1 f2 f3 f4 f5 (Or.inl rfl)) (fun z => absurd (by rw [nI_0]; decide) z)
          | succ i ihi =>
            intro f hi f1 f2 f3 f4 f5
            have e1 : (24 : Int32) * nI D + nI (i + 1) = nI (24 * D + i + 1) := by rw [nc24, nI_add]; rfl
            have e2 : (24 : Int32) * nI D + nI (i + 1) - 1 = nI (24 * D + i) := by rw [e1, nI_pred]
            refine bX7_sorts_27 (fun z => absurd z (nI_nle (by omega) (by omega))) (fun _ => ?_)
            refine bX7_sorts_32 (vin _ e2 (by omega) (by decide)) (fun z => ?_) (fun z => ?_)
            · rw [nix _ e2 (by omega), va_up_self, f2 i (by omega)] at z
              exact fin (i + 1) f hi f1 f2 f3 f4 f5 (Or.inr (by rw [Nat.add_sub_cancel]; exact Int32.not_lt.mpr z))
            · rw [nix _ e2 (by omega), va_up_self, f2 i (by omega)] at z
              refine bX7_sorts_50 (vin _ e2 (by omega) (by decide)) (vin _ e1 (by omega) (by decide)) ?_
              rw [nix _ e2 (by omega), nix _ e1 (by omega), va_up_self, gup39, nc4r, f2 i (by omega)]
              refine ihi _ (by omega) (fun j hj => ?_) (fun j hj => ?_) (fun j h1 h2 => ?_) (fun j h1 h2 => ?_) (fun j h1 h2 => ?_)
              · simp only [upd]; rw [if_neg (by omega)]; exact f1 j hj
              · simp only [upd]; rw [if_neg (by omega)]; exact f2 j (by omega)
              · simp only [upd]
                by_cases hj : j = i + 1
                · subst hj
                  rw [if_pos (by omega), Nat.add_sub_cancel]
                · rw [if_neg (by omega)]; exact f3 j (by omega) h2
              · simp only [upd]; rw [if_neg (by omega)]; exact f4 j h1 h2
              · by_cases hj : j = i
                · subst hj; exact Int32.not_le.mp z
                · exact f5 j (by omega) h2
        exact inner k f (Nat.le_refl _) hlow (fun j hj => hs j hj (by omega)) (fun j h1 h2 => absurd h1 (by omega)) (fun j h1 h2 => hr j (by omega) h2) (fun j h1 h2 => absurd h1 (by omega))
  have h0 := outer l.length 1 (G 39) sU sU (by omega) (Nat.le_refl _) (fun _ _ => rfl) (fun j hj hjl => ?_) (fun j hj hjl => h39 j hjl)
  · rw [va_upe] at h0
    exact h0
  · have : j = 0 := by omega
    subst this
    rw [h39 0 hjl]
    cases l with
    | nil => simp at hjl
    | cons a l => simp [zsort, zins]
