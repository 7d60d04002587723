theorem cp64 (a n x : Int32) : (a.toInt64 + n.toInt64 ≤ x.toInt64) ↔ a.toInt + n.toInt ≤ x.toInt := by
  rw [Int64.le_iff_toInt_le, Int64.toInt_add, Int32.toInt_toInt64, Int32.toInt_toInt64, Int32.toInt_toInt64]
  have h1 := Int32.toInt_lt a
  have h2 := Int32.le_toInt a
  have h3 := Int32.toInt_lt n
  have h4 := Int32.le_toInt n
  rw [Int.bmod_eq_of_le (by omega) (by omega)]
theorem nI_Int {k : Nat} (h : k < 2 ^ 31) : (nI k).toInt = (k : Int) := nI_toInt h
theorem zdec_big {x : Int32} {n : Nat} (hn : n < 2 ^ 31) (h0 : ¬ x < 0) (h : zdec x n = none) : (n : Int) ≤ x.toInt := by
  have := (zdec_none h).resolve_left h0
  rw [Int32.le_iff_toInt_le, nI_toInt hn] at this
  exact this
theorem zput_getD {l l2 : List Int32} {a b n j : Nat} (ha : a + n ≤ l.length) (hb : b + n ≤ l2.length) : (l2.take b ++ (l.drop a).take n ++ l2.drop (b + n)).getD j 0 = if b ≤ j ∧ j < b + n then l.getD (a + (j - b)) 0 else l2.getD j 0 := by
  simp only [List.getD_eq_getElem?_getD]
  by_cases h1 : j < b
  · rw [if_neg (by omega), List.append_assoc, List.getElem?_append_left (by simp; omega), List.getElem?_take, if_pos h1]
  · by_cases h2 : j < b + n
    · rw [if_pos ⟨by omega, h2⟩, List.getElem?_append_left (by simp; omega), List.getElem?_append_right (by simp; omega), List.getElem?_take, if_pos (by simp; omega), List.getElem?_drop]
      congr 2
      simp; omega
    · rw [if_neg (by omega), List.getElem?_append_right (by simp; omega), List.getElem?_drop]
      congr 2
      simp; omega
theorem zput_len {l l2 : List Int32} {a b n : Nat} (ha : a + n ≤ l.length) (hb : b + n ≤ l2.length) : (l2.take b ++ (l.drop a).take n ++ l2.drop (b + n)).length = l2.length := by
  simp; omega
theorem r_copy {d : Nat} {h0 : hp} {m : Nat} {ad : Nat → Nat} {S : rS} {G : rG} {Q : Option sV → rS → rG → Prop} {A : zB} {s a t b n : Int32} (hA : zBok A) (h : restR A S G) (hQ : ∀ S' G', restR (o_copy A s a t b n).2 S' G' → Q (some (sI (o_copy A s a t b n).1)) S' G') : rM (d + 2) h0 m ad 80 [sR (some m), sI s, sI a, sI t, sI b, sI n] S G Q := by
  refine rM_of (ls := [sR (some m), sI s, sI a, sI t, sI b, sI n, sU]) rfl (Nat.le_of_ble_eq_true rfl) rfl ?_
  refine bX7_copy_0 (P := fun v S' G' => v = some (sI (if (zdec s 16).isSome = true then 1 else 0)) ∧ S' = S ∧ G' = G) (r_isSource ⟨rfl, rfl, rfl⟩) ?_
  rintro _ S1 G1 ⟨rfl, rfl, rfl⟩
  unfold o_copy at hQ
  cases hs : zdec s 16 with
  | none =>
    simp only [hs] at hQ
    exact bX7_copy_4 (fun _ => bX7_copy_14 (hQ _ _ h)) (fun z => absurd rfl z)
  | some s' =>
    obtain ⟨s16, rfl⟩ := zdec_some (by decide) hs
    refine bX7_copy_4 (fun z => absurd z (by simp)) (fun _ => ?_)
    refine bX7_copy_7 (P := fun v S' G' => v = some (sI (if (zdec t 16).isSome = true then 1 else 0)) ∧ S' = S1 ∧ G' = G1) (r_isSource ⟨rfl, rfl, rfl⟩) ?_
    rintro _ S1 G1 ⟨rfl, rfl, rfl⟩
    cases ht : zdec t 16 with
    | none =>
      simp only [hs, ht] at hQ
      exact bX7_copy_11 (fun z => absurd rfl z) (fun _ => bX7_copy_14 (hQ _ _ h))
    | some t' =>
      obtain ⟨t16, rfl⟩ := zdec_some (by decide) ht
      refine bX7_copy_11 (fun _ => ?_) (fun z => absurd z (by simp))
      simp only [hs, ht] at hQ
      obtain ⟨q1, q2⟩ := rE_none hA.1 h.1 s16
      obtain ⟨p1, p2⟩ := rE_none hA.1 h.1 t16
      have cs : (nI s').toNatClampNeg = s' := nix s' rfl (by omega)
      have ct : (nI t').toNatClampNeg = t' := nix t' rfl (by omega)
      have vs : vp_in (nI s') 16 := vin s' rfl s16 (by decide)
      have vt : vp_in (nI t') 16 := vin t' rfl t16 (by decide)
      have missing : ∀ v1 v2 v3 v4 v5 v6 : sV, (∀ S' G', restR (b_find A 1).2 S' G' → Q (some (sI (b_find A 1).1)) S' G') → rWP (d + 1) h0 m ad 80 Q 36 [sR (some m), v1, v2, v3, v4, v5, v6] [] S1 G1 := fun v1 v2 v3 v4 v5 v6 hq => by
        refine bX7_copy_36 (P := fun v S' G' => v = some (sI (b_find A 1).1) ∧ restR (b_find A 1).2 S' G') (r_find 1 rfl (by decide) h (fun S' G' h' => ⟨rfl, h'⟩)) ?_
        rintro _ S2 G2 ⟨rfl, h'⟩
        exact bX7_copy_41 (hq _ _ h')
      cases hl : e_s (b_e A) s' with
      | none =>
        simp only [hl] at hQ
        exact bX7_copy_16 vs (fun _ => missing _ _ _ _ _ _ hQ) (fun z => absurd (by rw [cs]; exact q1 hl) z)
      | some l =>
        obtain ⟨c1, c2, c3, c4⟩ := q2 l hl
        refine bX7_copy_16 vs (fun z => absurd (by rw [cs] at z; exact z) c2) (fun _ => ?_)
        cases hl2 : e_s (b_e A) t' with
        | none =>
          simp only [hl, hl2] at hQ
          exact bX7_copy_26 vt (fun z => absurd (by rw [ct]; exact p1 hl2) z) (fun _ => missing _ _ _ _ _ _ hQ)
        | some l2 =>
          obtain ⟨g1, g2, g3, g4⟩ := p2 l2 hl2
          refine bX7_copy_26 vt (fun _ => ?_) (fun z => absurd (by rw [ct] at z; exact z) g2)
          simp only [hl, hl2] at hQ
          have far : ∀ v1 v2 v3 v4 v5 v6 : sV, (∀ S' G', restR (b_find A 4).2 S' G' → Q (some (sI (b_find A 4).1)) S' G') → rWP (d + 1) h0 m ad 80 Q 91 [sR (some m), v1, v2, v3, v4, v5, v6] [] S1 G1 := fun v1 v2 v3 v4 v5 v6 hq => by
            refine bX7_copy_91 (P := fun v S' G' => v = some (sI (b_find A 4).1) ∧ restR (b_find A 4).2 S' G') (r_find 4 rfl (by decide) h (fun S' G' h' => ⟨rfl, h'⟩)) ?_
            rintro _ S2 G2 ⟨rfl, h'⟩
            exact bX7_copy_96 (hq _ _ h')
          have n0 : ∀ {x : Int32}, ¬ x < 0 → 0 ≤ x.toInt := fun {x} z => by
            have := Int32.le_iff_toInt_le.mp (Int32.not_lt.mp z)
            simpa using this
          refine bX7_copy_42 (fun z => far _ _ _ _ _ _ (by rw [zdec_no (.inl z)] at hQ; exact hQ)) (fun za => ?_)
          refine bX7_copy_46 (fun z => far _ _ _ _ _ _ (by rw [zdec_no (.inl z)] at hQ; revert hQ; cases zdec a (l.length + 1) <;> exact id)) (fun zb => ?_)
          refine bX7_copy_51 (fun z => far _ _ _ _ _ _ (by rw [zdec_no (.inl z)] at hQ; revert hQ; cases zdec a (l.length + 1) <;> cases zdec b (l2.length + 1) <;> exact id)) (fun zn => ?_)
          have ia := n0 za
          have ib := n0 zb
          have in_ := n0 zn
          have eA : (nI l.length).toInt = (l.length : Int) := nI_toInt (by omega)
          have eB : (nI l2.length).toInt = (l2.length : Int) := nI_toInt (by omega)
          have conv : ∀ {x : Int32} {k x' : Nat}, k < 2 ^ 31 → zdec x k = some x' → x.toInt = (x' : Int) := fun {x k x'} hk hx => by
            obtain ⟨h1, rfl⟩ := zdec_some hk hx
            exact nI_toInt (by omega)
          -- what the refusals say
          have no4 : (¬ (a.toInt + n.toInt ≤ l.length) ∨ ¬ (b.toInt + n.toInt ≤ l2.length)) → ∀ S' G', restR (b_find A 4).2 S' G' → Q (some (sI (b_find A 4).1)) S' G' := by
            intro hno
            revert hQ
            cases ha : zdec a (l.length + 1) with
            | none => exact id
            | some a' => cases hb : zdec b (l2.length + 1) with
              | none => exact id
              | some b' => cases hn : zdec n 17 with
                | none => exact id
                | some n' =>
                  simp only
                  have e1 := conv (by omega) ha
                  have e2 := conv (by omega) hb
                  have e3 := conv (by decide) hn
                  rw [if_neg (by omega)]
                  exact id
          refine bX7_copy_56 vs (fun z => far _ _ _ _ _ _ (no4 (.inl ?_))) (fun z1 => ?_)
          · rw [lg_cmp_gt, cs, c1] at z
            have z : ¬ a.toInt64 + n.toInt64 ≤ (nI l.length).toInt64 := Int64.not_le.mpr z
            rw [cp64, eA] at z
            exact z
          · refine bX7_copy_73 vt (fun z2 => ?_) (fun z => far _ _ _ _ _ _ (no4 (.inr ?_)))
            · rw [lg_cmp_gt, cs, c1] at z1
              have z1 : a.toInt64 + n.toInt64 ≤ (nI l.length).toInt64 := Int64.not_lt.mp z1
              rw [cp64, eA] at z1
              rw [lg_cmp_le, ct, g1, cp64, eB] at z2
              -- all is in its place
              have da : ∃ a', zdec a (l.length + 1) = some a' := by
                cases ha : zdec a (l.length + 1) with
                | none => have := zdec_big (by omega) za ha; omega
                | some a' => exact ⟨a', rfl⟩
              have db : ∃ b', zdec b (l2.length + 1) = some b' := by
                cases hb : zdec b (l2.length + 1) with
                | none => have := zdec_big (by omega) zb hb; omega
                | some b' => exact ⟨b', rfl⟩
              have dn : ∃ n', zdec n 17 = some n' := by
                cases hn : zdec n 17 with
                | none => have := zdec_big (by decide) zn hn; omega
                | some n' => exact ⟨n', rfl⟩
              obtain ⟨a', ha⟩ := da
              obtain ⟨b', hb⟩ := db
              obtain ⟨n', hn⟩ := dn
              have e1 := conv (by omega) ha
              have e2 := conv (by omega) hb
              have e3 := conv (by decide) hn
              obtain ⟨a17, rfl⟩ := zdec_some (by omega) ha
              obtain ⟨b17, rfl⟩ := zdec_some (by omega) hb
              obtain ⟨n17, rfl⟩ := zdec_some (by decide) hn
              have hal : a' + n' ≤ l.length := by omega
              have hbl : b' + n' ≤ l2.length := by omega
              simp only [ha, hb, hn] at hQ
              rw [if_pos ⟨hal, hbl⟩] at hQ
              have loop2 : ∀ (f : Nat → Int32), (∀ i, i < n' → f i = l.getD (a' + i) 0) → ∀ (e j : Nat), j + e = n' → rWP (d + 1) h0 m ad 80 Q 137 [sR (some m), sI (nI s'), sI (nI a'), sI (nI t'), sI (nI b'), sI (nI n'), sI (nI j)] [] S1 (va_up (va_up G1 47 f) 1 (va_cpy f (G1 1) 0 (16 * t' + b') j)) := by
                intro f hf e
                induction e with
                | zero =>
                  intro j hj
                  have hj : j = n' := by omega
                  subst hj
                  refine bX7_copy_137 (fun _ => bX7_copy_172 (hQ _ _ (rest_src h (fun k h1 h2 => ?_) (fun x hx hxs => ⟨rfl, fun i hi => ?_⟩) (fun x l hl => hA.1.2.1 x l hl) (fun z => by cases z) (fun l' hl' => ?_)))) (fun z => absurd (nI_le (by omega) (by omega)) z)
                  · rw [va_up_ne _ _ (by omega), va_up_ne _ _ (by omega)]
                  · rw [va_up_self, pk_cpy_out (by omega)]
                  · cases hl'
                    rw [zput_len hal hbl]
                    refine ⟨g1, fun i hi => ?_⟩
                    rw [va_up_self, zput_getD hal hbl]
                    by_cases hin : b' ≤ i ∧ i < b' + j
                    · rw [if_pos hin, pk_cpy_in (by omega) (by omega), Nat.zero_add, show 16 * t' + i - (16 * t' + b') = i - b' by omega]
                      exact hf _ (by omega)
                    · rw [if_neg hin, pk_cpy_out (by omega)]
                      exact g4 i hi
                | succ e ih =>
                  intro j hj
                  refine bX7_copy_137 (fun z => absurd z (by rw [nI_leI (by omega) (by omega)]; omega)) (fun _ => ?_)
                  refine bX7_copy_144 (vin j rfl (by omega) (by decide)) (vin (16 * t' + b' + j) (by simp only [nc4, nc6, nc16, nc24, nc25, nc4r, nI_add, nI_1, nI_0]) (by omega) (by decide)) ?_
                  rw [nix j rfl (by omega), nix (x := (16 : Int32) * nI t' + nI b' + nI j) (16 * t' + b' + j) (by simp only [nc4, nc6, nc16, nc24, nc25, nc4r, nI_add, nI_1, nI_0]) (by omega), nI_1]
                  have e5 : gup (va_up (va_up G1 47 f) 1 (va_cpy f (G1 1) 0 (16 * t' + b') j)) 1 (16 * t' + b' + j) (va_up (va_up G1 47 f) 1 (va_cpy f (G1 1) 0 (16 * t' + b') j) 47 j) = va_up (va_up G1 47 f) 1 (va_cpy f (G1 1) 0 (16 * t' + b') (j + 1)) := by
                    unfold gup
                    rw [va_upup, va_up_self, ← va_cpy_sg, Nat.zero_add]
                    rfl
                  rw [e5]
                  exact ih (j + 1) (by omega)
              have loop1 : ∀ (e j : Nat), j + e = n' → rWP (d + 1) h0 m ad 80 Q 100 [sR (some m), sI (nI s'), sI (nI a'), sI (nI t'), sI (nI b'), sI (nI n'), sI (nI j)] [] S1 (va_up G1 47 (va_cpy (G1 1) (G1 47) (16 * s' + a') 0 j)) := by
                intro e
                induction e with
                | zero =>
                  intro j hj
                  have hj : j = n' := by omega
                  subst hj
                  refine bX7_copy_100 (fun _ => bX7_copy_134 ?_) (fun z => absurd (nI_le (by omega) (by omega)) z)
                  have h0 := loop2 (va_cpy (G1 1) (G1 47) (16 * s' + a') 0 j) (fun i hi => ?_) j 0 (by omega)
                  · rw [va_cpy_0g, show va_up (va_up G1 47 (va_cpy (G1 1) (G1 47) (16 * s' + a') 0 j)) 1 (G1 1) = va_up G1 47 (va_cpy (G1 1) (G1 47) (16 * s' + a') 0 j) from va_upe (va_up G1 47 (va_cpy (G1 1) (G1 47) (16 * s' + a') 0 j)) 1] at h0
                    exact h0
                  · rw [pk_cpy_in (by omega) (by omega), Nat.sub_zero, Nat.add_assoc]
                    exact c4 (a' + i) (by omega)
                | succ e ih =>
                  intro j hj
                  refine bX7_copy_100 (fun z => absurd z (by rw [nI_leI (by omega) (by omega)]; omega)) (fun _ => ?_)
                  refine bX7_copy_107 (vin (16 * s' + a' + j) (by simp only [nc4, nc6, nc16, nc24, nc25, nc4r, nI_add, nI_1, nI_0]) (by omega) (by decide)) (vin j rfl (by omega) (by decide)) ?_
                  rw [nix (x := (16 : Int32) * nI s' + nI a' + nI j) (16 * s' + a' + j) (by simp only [nc4, nc6, nc16, nc24, nc25, nc4r, nI_add, nI_1, nI_0]) (by omega), nix j rfl (by omega), nI_1]
                  have e5 : gup (va_up G1 47 (va_cpy (G1 1) (G1 47) (16 * s' + a') 0 j)) 47 j (va_up G1 47 (va_cpy (G1 1) (G1 47) (16 * s' + a') 0 j) 1 (16 * s' + a' + j)) = va_up G1 47 (va_cpy (G1 1) (G1 47) (16 * s' + a') 0 (j + 1)) := by
                    unfold gup
                    rw [va_upup, va_up_self, ← va_cpy_s]
                    rfl
                  rw [e5]
                  exact ih (j + 1) (by omega)
              have h0 := loop1 n' 0 (by omega)
              rw [va_cpy_0, va_upe] at h0
              exact bX7_copy_97 h0
            · rw [lg_cmp_le, ct, g1, cp64, eB] at z
              exact z
