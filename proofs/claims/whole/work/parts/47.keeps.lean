theorem r_freeSlot {d : Nat} {h0 : hp} {m : Nat} {ad : Nat → Nat} {S : rS} {G : rG} {Q : Option sV → rS → rG → Prop} {r n : Nat} {s : Nat → Nat} (hr : r < 24) (hn : n ≤ 4) (h7 : G 7 r = nI n) (h8 : ∀ k, k < n → s k < 4 ∧ G 8 (4 * r + k) = nI (s k)) (hQ : ∀ f, f < 4 → (n = 4 → f = s 3) → (n < 4 → ∀ k, k < n → ¬ s k = f) → Q (some (sI (nI f))) S G) : rM (d + 1) h0 m ad 104 [sR (some m), sI (nI r)] S G Q := by
  refine rM_of (ls := [sR (some m), sI (nI r), sU, sU, sU]) rfl (Nat.le_of_ble_eq_true rfl) rfl ?_
  refine bX7_freeSlot_0 (vin r rfl hr (by decide)) (fun z => ?_) (fun z => ?_)
  · rw [nix r rfl (by omega), h7, show (4 : Int32) = nI 4 from rfl, nI_eq (by omega) (by decide)] at z
    refine bX7_freeSlot_23 ?_
    have outer : ∀ (e j : Nat) (v4 : sV), j + e = 4 → (∀ x, x < j → ∃ k, k < n ∧ s k = x) → rWP d h0 m ad 104 Q 27 [sR (some m), sI (nI r), sI (nI j), sI 1, v4] [] S G := by
      intro e
      induction e with
      | zero =>
        intro j v4 hj hx
        obtain ⟨k0, a0, b0⟩ := hx 0 (by omega)
        obtain ⟨k1, a1, b1⟩ := hx 1 (by omega)
        obtain ⟨k2, a2, b2⟩ := hx 2 (by omega)
        obtain ⟨k3, a3, b3⟩ := hx 3 (by omega)
        have h01 : k0 ≠ k1 := fun e => by rw [e] at b0; omega
        have h02 : k0 ≠ k2 := fun e => by rw [e] at b0; omega
        have h03 : k0 ≠ k3 := fun e => by rw [e] at b0; omega
        have h12 : k1 ≠ k2 := fun e => by rw [e] at b1; omega
        have h13 : k1 ≠ k3 := fun e => by rw [e] at b1; omega
        have h23 : k2 ≠ k3 := fun e => by rw [e] at b2; omega
        exact absurd hn (by omega)
      | succ e ih =>
        intro j v4 hj hx
        refine bX7_freeSlot_27 (fun z => absurd z (by decide)) (fun _ => ?_)
        refine bX7_freeSlot_31 ?_
        have inner : ∀ (c k : Nat) (b : Int32), k + c = n → ((b = 0 → ∀ y, y < k → ¬ s y = j) ∧ (¬ b = 0 → b = 1 ∧ ∃ y, y < n ∧ s y = j)) → rWP d h0 m ad 104 Q 36 [sR (some m), sI (nI r), sI (nI j), sI b, sI (nI k)] [] S G := by
          intro c
          induction c with
          | zero =>
            intro k b hk hb
            refine bX7_freeSlot_36 (vin r rfl hr (by decide)) (fun _ => ?_) (fun z => absurd (by rw [nix r rfl (by omega), h7]; exact nI_le (by omega) (by omega)) z)
            refine bX7_freeSlot_78 (fun y => ?_) (fun y => ?_)
            · refine bX7_freeSlot_27 (fun _ => ?_) (fun z => absurd y z)
              exact bX7_freeSlot_88 (hQ j (by omega) (fun h => absurd h (by omega)) (fun _ x hx => hb.1 y x (by omega)))
            · obtain ⟨b1, b2⟩ := hb.2 y
              refine bX7_freeSlot_82 ?_
              rw [nI_1, b1]
              refine ih (j + 1) _ (by omega) (fun x hxx => ?_)
              by_cases hxj : x = j
              · rw [hxj]; exact b2
              · exact hx x (by omega)
          | succ c ihc =>
            intro k b hk hb
            refine bX7_freeSlot_36 (vin r rfl hr (by decide)) (fun z => absurd z (by rw [nix r rfl (by omega), h7, nI_leI (by omega) (by omega)]; omega)) (fun _ => ?_)
            refine bX7_freeSlot_47 (fun y => ?_) (fun y => ?_)
            · refine bX7_freeSlot_66 (bX7_freeSlot_71 ?_)
              rw [nI_1]
              exact ihc (k + 1) 1 (by omega) ⟨fun z => absurd z (by decide), fun _ => ⟨rfl, (hb.2 y).2⟩⟩
            · refine bX7_freeSlot_51 (vin (4 * r + k) (by simp only [nc4, nc6, nc16, nc24, nc25, nc4r, nI_add, nI_1, nI_0]) (by omega) (by decide)) (fun x => ?_) (fun x => ?_)
              · rw [nix (4 * r + k) (by simp only [nc4, nc6, nc16, nc24, nc25, nc4r, nI_add, nI_1, nI_0]) (by omega), (h8 k (by omega)).2, nI_eq (by have := (h8 k (by omega)).1; omega) (by omega)] at x
                refine bX7_freeSlot_70 (bX7_freeSlot_71 ?_)
                rw [nI_1]
                refine ihc (k + 1) 0 (by omega) ⟨fun _ w hw => ?_, fun z => absurd rfl z⟩
                by_cases hwk : w = k
                · rw [hwk]; exact x
                · exact hb.1 y w (by omega)
              · rw [nix (4 * r + k) (by simp only [nc4, nc6, nc16, nc24, nc25, nc4r, nI_add, nI_1, nI_0]) (by omega), (h8 k (by omega)).2, nI_eq (by have := (h8 k (by omega)).1; omega) (by omega)] at x
                refine bX7_freeSlot_66 (bX7_freeSlot_71 ?_)
                rw [nI_1]
                exact ihc (k + 1) 1 (by omega) ⟨fun z => absurd z (by decide), fun _ => ⟨rfl, k, by omega, x⟩⟩
        exact inner n 0 0 (by omega) ⟨fun _ y hy => absurd hy (by omega), fun z => absurd rfl z⟩
    exact outer 4 0 _ rfl (fun x hx => absurd hx (by omega))
  · rw [nix r rfl (by omega), h7, show (4 : Int32) = nI 4 from rfl, nI_eq (by omega) (by decide)] at z
    have e1 : (4 : Int32) * nI r + 4 - 1 = nI (4 * r + 3) := by rw [nc4, show (4 : Int32) = nI 4 from rfl, nI_add, show 4 * r + 4 = (4 * r + 3) + 1 from rfl, nI_pred]
    refine bX7_freeSlot_10 (vin (4 * r + 3) e1 (by omega) (by decide)) ?_
    rw [nix (4 * r + 3) e1 (by omega), (h8 3 (by omega)).2]
    exact hQ (s 3) (h8 3 (by omega)).1 (fun _ => rfl) (fun h => absurd h (by omega))
theorem r_keepsRead {d : Nat} {h0 : hp} {m : Nat} {ad : Nat → Nat} {S : rS} {G : rG} {Q : Option sV → rS → rG → Prop} {a b n : Nat} (ha : a < 600) (hb : b < 2400) (hn : n ≤ 24) (h34 : G 34 a = nI n) (hQ : Q none S (va_up (gup (gup (gup (gup G 14 b (G 33 a)) 15 b (nI n)) 16 b (G 35 a)) 17 b (G 36 a)) 18 (va_cpy (G 37) (G 18) (24 * a) (24 * b) n))) : rM (d + 1) h0 m ad 106 [sR (some m), sI (nI a), sI (nI b)] S G Q := by
  refine rM_of (ls := [sR (some m), sI (nI a), sI (nI b), sU]) rfl (Nat.le_of_ble_eq_true rfl) rfl ?_
  refine bX7_keepsRead_0 (vin a rfl ha (by decide)) (vin b rfl hb (by decide)) ?_
  rw [nix a rfl (by omega), nix b rfl (by omega), h34]
  generalize hG2 : gup (gup (gup (gup G 14 b (G 33 a)) 15 b (nI n)) 16 b (G 35 a)) 17 b (G 36 a) = G2 at hQ
  have c34 : G2 34 a = nI n := by rw [← hG2]; exact h34
  have c37 : G2 37 = G 37 := by rw [← hG2]; rfl
  have c18 : G2 18 = G 18 := by rw [← hG2]; rfl
  have key : ∀ e j : Nat, j + e = n → rWP d h0 m ad 106 Q 50 [sR (some m), sI (nI a), sI (nI b), sI (nI j)] [] S (va_up G2 18 (va_cpy (G 37) (G 18) (24 * a) (24 * b) j)) := by
    intro e
    induction e with
    | zero =>
      intro j hj
      refine bX7_keepsRead_50 (vin a rfl ha (by decide)) (fun _ => ?_) (fun z => absurd (by rw [nix a rfl (by omega)]; show G2 34 a ≤ _; rw [c34]; exact nI_le (by omega) (by omega)) z)
      rw [show j = n by omega]
      exact bX7_keepsRead_88 hQ
    | succ e ih =>
      intro j hj
      refine bX7_keepsRead_50 (vin a rfl ha (by decide)) (fun z => absurd z (by rw [nix a rfl (by omega)]; show ¬ G2 34 a ≤ _; rw [c34, nI_leI (by omega) (by omega)]; omega)) (fun _ => ?_)
      refine bX7_keepsRead_60 (vin (24 * a + j) (by simp only [nc4, nc6, nc16, nc24, nc25, nc4r, nI_add, nI_1, nI_0]) (by omega) (by decide)) (vin (24 * b + j) (by simp only [nc4, nc6, nc16, nc24, nc25, nc4r, nI_add, nI_1, nI_0]) (by omega) (by decide)) ?_
      rw [nix (x := (24 : Int32) * nI a + nI j) (24 * a + j) (by simp only [nc4, nc6, nc16, nc24, nc25, nc4r, nI_add, nI_1, nI_0]) (by omega), nix (x := (24 : Int32) * nI b + nI j) (24 * b + j) (by simp only [nc4, nc6, nc16, nc24, nc25, nc4r, nI_add, nI_1, nI_0]) (by omega), nI_1]
      have e5 : gup (va_up G2 18 (va_cpy (G 37) (G 18) (24 * a) (24 * b) j)) 18 (24 * b + j) (va_up G2 18 (va_cpy (G 37) (G 18) (24 * a) (24 * b) j) 37 (24 * a + j)) = va_up G2 18 (va_cpy (G 37) (G 18) (24 * a) (24 * b) (j + 1)) := by
        unfold gup
        rw [va_upup, va_up_self, ← va_cpy_sg]
        show va_up G2 18 (upd _ _ (G2 37 (24 * a + j))) = _
        rw [c37]
      rw [e5]
      exact ih (j + 1) (by omega)
  have h0 := key n 0 (by omega)
  rw [va_cpy_0g, ← c18, va_upe] at h0
  exact h0
