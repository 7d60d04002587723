theorem sP_monoO {O O' : sO} {Z : sZ} {M : Nat} {Q : Option sV → hp → Prop} {X : sCf} (hO : ∀ N vs h bc bs P, O N vs h bc bs P → O' N vs h bc bs P) {pc : Nat} {ls st : List sV} {h : hp} {bc bs : Nat} {i : Instr} {n : Nat} (H : sP O Z M Q X pc ls st h bc bs i n) : sP O' Z M Q X pc ls st h bc bs i n := by
  cases i <;> first
    | exact H
    | (rcases H with ⟨a1, a2, a3, a4, a5, a6, a7, a8, a9, a10, a11, a12, a13, a14, a15, a16, a17⟩ | H; exact Or.inl ⟨a1, a2, a3, a4, a5, a6, a7, a8, a9, a10, a11, a12, a13, a14, a15, hO _ _ _ _ _ _ a16, a17⟩; exact Or.inr H)
    | (rcases H with ⟨a1, a2, a3, a4, a5, a6, a7, a8, a9, a10, a11, a12, a13, a14, a15, a16⟩ | H; exact Or.inl ⟨a1, a2, a3, a4, a5, a6, a7, a8, a9, a10, a11, a12, a13, a14, hO _ _ _ _ _ _ a15, a16⟩; exact Or.inr H)
    | (rcases H with ⟨a1, a2, a3, a4, a5, a6, a7, a8, a9, a10, a11, a12, a13, a14, a15, a16, a17, a18, a19⟩ | H; exact Or.inl ⟨a1, a2, a3, a4, a5, a6, a7, a8, a9, a10, a11, a12, a13, a14, a15, a16, a17, hO _ _ _ _ _ _ a18, a19⟩; exact Or.inr H)
theorem sWP_monoO {O O' : sO} {Z : sZ} {M : Nat} {Q : Option sV → hp → Prop} (hO : ∀ N vs h bc bs P, O N vs h bc bs P → O' N vs h bc bs P) {pc : Nat} {ls st : List sV} {h : hp} {bc bs : Nat} (H : sWP O Z M Q pc ls st h bc bs) : sWP O' Z M Q pc ls st h bc bs := H (sWP O' Z M Q) (fun _ _ _ _ _ _ ⟨i, n, h1, h2, h3⟩ => sWP_fold ⟨i, n, h1, h2, sP_monoO hO h3⟩)
theorem sCall_succ : ∀ (d N : Nat) (vs : List sV) (h : hp) (bc bs : Nat) (P : Option sV → hp → Prop), sCall d N vs h bc bs P → sCall (d + 1) N vs h bc bs P := by
  intro d
  induction d with
  | zero => intro N vs h bc bs P H; exact H.elim
  | succ d ih => intro N vs h bc bs P H; exact ⟨H.1, H.2.1, sWP_monoO ih H.2.2⟩
theorem sCall_le {a b N : Nat} {vs : List sV} {h : hp} {bc bs : Nat} {P : Option sV → hp → Prop} (hab : a ≤ b) (H : sCall a N vs h bc bs P) : sCall b N vs h bc bs P := by
  induction hab with
  | refl => exact H
  | step _ ih => exact sCall_succ _ _ _ _ _ _ _ ih
theorem rM_le {a b : Nat} {h0 : hp} {m : Nat} {ad : Nat → Nat} {M : Nat} {vs : List sV} {S : rS} {G : rG} {Q : Option sV → rS → rG → Prop} (hab : a ≤ b) (H : rM a h0 m ad M vs S G Q) : rM b h0 m ad M vs S G Q := fun h bc bs R => sCall_le hab (H h bc bs R)
-- numbers
theorem nc4 (a : Nat) : (4 : Int32) * nI a = nI (4 * a) := pk_mul 4 a
theorem nc6 (a : Nat) : (6 : Int32) * nI a = nI (6 * a) := pk_mul 6 a
theorem nc16 (a : Nat) : (16 : Int32) * nI a = nI (16 * a) := pk_mul 16 a
theorem nc24 (a : Nat) : (24 : Int32) * nI a = nI (24 * a) := pk_mul 24 a
theorem nc25 (a : Nat) : (25 : Int32) * nI a = nI (25 * a) := pk_mul 25 a
theorem nc4r (a : Nat) : nI (a + 1) + (-1) = nI a := pk_m1 a
theorem vin {x : Int32} {N : Nat} (n : Nat) (hx : x = nI n) (h : n < N) (hN : N < 2 ^ 31) : vp_in x N := by rw [hx]; exact vp_in_nI h hN
theorem nix {x : Int32} (n : Nat) (hx : x = nI n) (h : n < 2 ^ 31) : x.toNatClampNeg = n := by rw [hx]; exact nI_clamp h
theorem gup_eq {G : rG} {k i j : Nat} {x : Int32} (h : i = j) : gup G k i x = gup G k j x := by rw [h]
-- leaves
theorem r_isRule {d : Nat} {h0 : hp} {m : Nat} {ad : Nat → Nat} {S : rS} {G : rG} {Q : Option sV → rS → rG → Prop} {x : Int32} (hQ : Q (some (sI (if 0 ≤ x ∧ x < S 6 then 1 else 0))) S G) : rM (d + 1) h0 m ad 75 [sR (some m), sI x] S G Q := by
  refine rM_of (ls := [sR (some m), sI x]) rfl (Nat.le_of_ble_eq_true rfl) rfl ?_
  refine bX7_isRule_0 (fun z => ?_) (fun z => ?_)
  · refine bX7_isRule_16 (bX7_isRule_17 (Or.inl rfl) ?_)
    rw [if_neg (fun h => absurd h.1 (by simpa using z))] at hQ
    exact hQ
  · refine bX7_isRule_4 (fun y => ?_) (fun y => ?_)
    · refine bX7_isRule_16 (bX7_isRule_17 (Or.inl rfl) ?_)
      rw [if_neg (fun h => absurd h.2 (by simpa using y))] at hQ
      exact hQ
    · refine bX7_isRule_12 (bX7_isRule_17 (Or.inr rfl) ?_)
      rw [if_pos ⟨by simpa using z, by simpa using y⟩] at hQ
      exact hQ
theorem r_slotOf {d : Nat} {h0 : hp} {m : Nat} {ad : Nat → Nat} {S : rS} {G : rG} {Q : Option sV → rS → rG → Prop} {r k : Nat} (hr : r < 24) (hk : k < 4) (hQ : Q (some (sI ((4 : Int32) * nI r + G 8 (4 * r + k)))) S G) : rM (d + 1) h0 m ad 90 [sR (some m), sI (nI r), sI (nI k)] S G Q := by
  refine rM_of (ls := [sR (some m), sI (nI r), sI (nI k)]) rfl (Nat.le_of_ble_eq_true rfl) rfl ?_
  refine bX7_slotOf_0 (vin (4 * r + k) (by simp only [nc4, nc6, nc16, nc24, nc25, nc4r, nI_add, nI_1, nI_0]) (by omega) (by decide)) ?_
  rw [nix (4 * r + k) (by simp only [nc4, nc6, nc16, nc24, nc25, nc4r, nI_add, nI_1, nI_0]) (by omega)]
  exact hQ
theorem r_gotFailure {d : Nat} {h0 : hp} {m : Nat} {ad : Nat → Nat} {S : rS} {G : rG} {Q : Option sV → rS → rG → Prop} {x y : Int32} (hQ : Q none (va_up (va_up (va_up S 44 0) 45 x) 46 y) G) : rM (d + 1) h0 m ad 91 [sR (some m), sI x, sI y] S G Q := by
  refine rM_of (ls := [sR (some m), sI x, sI y]) rfl (Nat.le_of_ble_eq_true rfl) rfl ?_
  exact bX7_gotFailure_0 hQ
theorem va_cpy_s {f g : Nat → Int32} {b n : Nat} : upd (va_cpy f g b 0 n) n (f (b + n)) = va_cpy f g b 0 (n + 1) := by
  funext j
  unfold upd va_cpy
  by_cases h : j = n
  · subst h
    simp
  · by_cases h1 : j < n
    · simp [h, h1, Nat.lt_succ_of_lt h1]
    · simp [h, h1, show ¬ j < n + 1 by omega]
theorem va_cpy_0 {f g : Nat → Int32} {b : Nat} : va_cpy f g b 0 0 = g := by
  funext j
  simp [va_cpy]
theorem va_upup {α : Type} (f : Nat → α) (k : Nat) (v w : α) : va_up (va_up f k v) k w = va_up f k w := by
  funext j
  simp only [va_up]
  split <;> rfl
theorem va_upe {α : Type} (f : Nat → α) (k : Nat) : va_up f k (f k) = f := by
  funext j
  unfold va_up
  split
  · next h => rw [h]
  · rfl
/-- the row of gotRow: n ints from begin on of array k come to the front of got -/
theorem r_gotRow {d : Nat} {h0 : hp} {m : Nat} {ad : Nat → Nat} {S : rS} {G : rG} {Q : Option sV → rS → rG → Prop} {k b n : Nat} (hk : k ≠ 47) (hL : rL k ≠ 0) (hK : rK k = 20) (hn : n ≤ 24) (hb : b + n ≤ rL k) (hl : rL k < 2 ^ 31) (hQ : Q none (va_up (va_up (va_up S 44 (nI n)) 45 0) 46 0) (va_up G 47 (va_cpy (G k) (G 47) b 0 n))) : rM (d + 1) h0 m ad 92 [sR (some m), sR (some (ad k)), sI (nI b), sI (nI n)] S G Q := by
  refine rM_of (ls := [sR (some m), sR (some (ad k)), sI (nI b), sI (nI n), sU]) rfl (Nat.le_of_ble_eq_true rfl) rfl ?_
  refine bX7_gotRow_0 ?_
  generalize va_up (va_up (va_up S 44 (nI n)) 45 0) 46 0 = S1 at hQ ⊢
  have key : ∀ (e j : Nat), j + e = n → rWP d h0 m ad 92 Q 18 [sR (some m), sR (some (ad k)), sI (nI b), sI (nI n), sI (nI j)] [] S1 (va_up G 47 (va_cpy (G k) (G 47) b 0 j)) := by
    intro e
    induction e with
    | zero =>
      intro j hj
      refine bX7_gotRow_18 (fun z => ?_) (fun z => absurd (nI_le (by omega) (by omega)) z)
      rw [show j = n by omega]
      exact bX7_gotRow_43 hQ
    | succ e ih =>
      intro j hj
      refine bX7_gotRow_18 (fun z => absurd z (by rw [nI_leI (by omega) (by omega)]; omega)) (fun z => ?_)
      refine bX7_gotRow_24 (vin (b + j) (by simp only [nc4, nc6, nc16, nc24, nc25, nc4r, nI_add, nI_1, nI_0]) (by omega) hl) hL hK (vin j rfl (by omega) (by decide)) ?_
      have h1 := ih (j + 1) (by omega)
      rw [nI_1, nix j rfl (by omega), nix (b + j) (by simp only [nc4, nc6, nc16, nc24, nc25, nc4r, nI_add, nI_1, nI_0]) (by omega), va_up_ne _ _ hk]
      unfold gup
      rw [va_upup, va_up_self, va_cpy_s]
      exact h1
  have h0 := key n 0 (by omega)
  rw [va_cpy_0, va_upe] at h0
  exact h0
theorem r_opened {d : Nat} {h0 : hp} {m : Nat} {ad : Nat → Nat} {S : rS} {G : rG} {Q : Option sV → rS → rG → Prop} {r n : Nat} (hr : r < 24) (hS : S 32 = nI n) (hn : n < 24) (hQ : Q none (va_up S 32 (nI (n + 1))) (gup (gup (gup (gup (gup G 25 r 1) 28 n (nI r)) 31 n 0) 29 n 0) 30 n 0)) : rM (d + 1) h0 m ad 96 [sR (some m), sI (nI r)] S G Q := by
  refine rM_of (ls := [sR (some m), sI (nI r)]) rfl (Nat.le_of_ble_eq_true rfl) rfl ?_
  refine bX7_opened_0 (vin r rfl hr (by decide)) (vin n hS hn (by decide)) ?_
  rw [nix r rfl (by omega), nix n hS (by omega), hS, nI_1]
  exact hQ
theorem r_closed {d : Nat} {h0 : hp} {m : Nat} {ad : Nat → Nat} {S : rS} {G : rG} {Q : Option sV → rS → rG → Prop} {r n : Nat} (hr : r < 24) (hS : S 32 = nI (n + 1)) (hQ : Q none (va_up S 32 (nI n)) (gup (gup G 24 r 1) 25 r 0)) : rM (d + 1) h0 m ad 97 [sR (some m), sI (nI r)] S G Q := by
  refine rM_of (ls := [sR (some m), sI (nI r)]) rfl (Nat.le_of_ble_eq_true rfl) rfl ?_
  refine bX7_closed_0 (vin r rfl hr (by decide)) ?_
  rw [nix r rfl (by omega), hS, nI_pred]
  exact hQ
theorem r_endsWith {d : Nat} {h0 : hp} {m : Nat} {ad : Nat → Nat} {S : rS} {G : rG} {Q : Option sV → rS → rG → Prop} {e : Nat} {x y : Int32} (he : e < 24) (hQ : Q none S (gup (gup (gup G 43 e 1) 41 e x) 42 e y)) : rM (d + 1) h0 m ad 110 [sR (some m), sI (nI e), sI x, sI y] S G Q := by
  refine rM_of (ls := [sR (some m), sI (nI e), sI x, sI y]) rfl (Nat.le_of_ble_eq_true rfl) rfl ?_
  refine bX7_endsWith_0 (vin e rfl he (by decide)) ?_
  rw [nix e rfl (by omega)]
  exact hQ
