section
variable {D : cD} {E : zE}
theorem c_outcomeOf {Fg : Nat → Prop} {h0 : hp} {d : Nat} (hM : ∀ d', d = d' + 1 → CMake Fg h0 D E d') : COut Fg h0 D E d := by
  intro R r ph fs nm sp lk w0 V bc bs e Q hJ hn h40 hd hR b1 b2 hQ
  have hE := hJ.1.1.1
  have h3 := hR.2.2.1
  have hs := hR.2.1
  refine cM_of (ls := [sR (some (dO D)), sI (nI nm), sU]) rfl (Nat.le_of_ble_eq_true rfl) rfl ?_
  by_cases h16 : nm < 16
  · have hg : zget E R nm = some (zsrc E nm, R) := by unfold zget; rw [if_pos h16]
    rw [zout_get hg] at hQ
    refine bX2_outcomeOf_0 (fun z => absurd (show nI 16 ≤ nI nm from z) (nI_ge h16 (by decide))) (fun _ => ?_)
    refine bX2_outcomeOf_6 h3.2.1 h3.1 hs.1 (vin nm rfl h16 (by decide)) ?_
    rw [nix nm rfl (by omega)]
    obtain ⟨a, a1, a2⟩ := hs.2.2.1 nm h16
    rw [a1]
    exact hQ a V vk.rf a2 hR
  · have hsub : nI nm - 16 = nI (nm - 16) := by
      have e1 : nI nm = nI (nm - 16) + nI 16 := by rw [nI_add]; congr 1; omega
      rw [e1]
      show nI (nm - 16) + 16 - 16 = nI (nm - 16)
      exact Int32.add_sub_cancel _ _
    refine bX2_outcomeOf_0 (fun _ => ?_) (fun z => absurd (show nI 16 ≤ nI nm from nI_le (by omega) (by omega)) z)
    refine bX2_outcomeOf_16 (bc1 := 0) (bs1 := 0) (P := fun v W => v = some (sR (if nm - 16 < e_n E then some (dA D (nm - 16)) else none)) ∧ W = V) h3.2.1 h3.1 hs.1 (by
      rw [hsub]
      refine cM_le (by omega) (c_ruleAt (d := 0) hs hE ⟨?_, rfl⟩)
      by_cases hi : nm - 16 < e_n E
      · rw [zdec_nI (by omega) hi, if_pos hi]
      · rw [zdec_no (Or.inr (nI_le (by omega) (by omega))), if_neg hi]) (Nat.zero_le _) (Nat.zero_le _) ?_
    rintro v W ⟨rfl, rfl⟩
    by_cases hi : nm - 16 < e_n E
    · rw [if_pos hi]
      refine bX2_outcomeOf_27 (fun _ => ?_) (fun z => by cases z)
      generalize hx : nm - 16 = x at *
      obtain ⟨-, ⟨m1, m2⟩, -, p1⟩ := (hR.2.2.2.1 x hi).2.2
      cases hm : q_m R x with
      | some o =>
        have hg : zget E R nm = some (o, R) := by unfold zget; rw [if_neg h16, hx, if_neg (by omega), hm]
        rw [zout_get hg] at hQ
        obtain ⟨a, a1, a2⟩ := m2 o hm
        refine bX2_outcomeOf_45 (hR.kc hi) (fun z => by rw [a1] at z; cases z) (fun _ => ?_)
        refine bX2_outcomeOf_52 (hR.kc hi) ?_
        rw [a1]
        exact hQ a W vk.rf a2 hR
      | none =>
        refine bX2_outcomeOf_45 (hR.kc hi) (fun _ => ?_) (fun z => absurd (m1 hm) z)
        have hl24 : (q_s R).length ≤ 24 := znd 24 (q_s R) hJ.1.2.1.2.2.1 (fun y hy => by have := hJ.lt y hy; omega)
        have hpl := zpos_le (q_s R) x
        by_cases ho : x ∈ q_s R
        · have hg : zget E R nm = some (q_hit R x) := by unfold zget; rw [if_neg h16, hx, if_neg (by omega), hm]; simp [ho]
          rw [zout_get hg] at hQ
          refine bX2_outcomeOf_57 (hR.kc hi) (fun _ => ?_) (fun z => absurd ?_ z)
          · refine bX2_outcomeOf_73 (bc1 := 0) (bs1 := 0) (P := fun v V2 => ∃ a, v = some (sR (some a)) ∧ vex [309, 310] W V2 ∧ kO V2 a = some (q_hit R x).1 ∧ crep D E (q_hit R x).2 sp lk w0 V2) h3.1 (cM_le (by omega) (c_closeRing (d := 0) hE hR ho hJ.lt hl24 (fun a V2 w1 w2 w3 => ⟨a, rfl, w1, w2, w3⟩))) (Nat.zero_le _) (Nat.zero_le _) ?_
            rintro v V2 ⟨a, rfl, w1, w2, w3⟩
            exact bX2_outcomeOf_78 (hQ a V2 (vk.vex hR hJ.lt w1 (by decide)) w2 w3)
          · rw [p1]
            exact (nI_ltI (a := 0) (by omega) (by omega)).mpr ((zpos_in _ _).mpr ho)
        · have hg : zget E R nm = none := by unfold zget; rw [if_neg h16, hx, if_neg (by omega), hm]; simp [ho]
          have hlt := zroom hJ.1.1 hJ.1.2.1 hi ho
          have hz0 : zpos (q_s R) x = 0 := Classical.byContradiction (fun z => ho ((zpos_in _ _).mp (by omega)))
          obtain ⟨d', rfl⟩ : ∃ d', d = d' + 1 := ⟨d - 1, by omega⟩
          obtain ⟨eo, -⟩ := zout_none hg d'
          rw [hx] at eo
          rw [eo] at hQ b1 b2
          refine bX2_outcomeOf_57 (hR.kc hi) (fun z => ?_) (fun _ => ?_)
          · rw [p1, hz0] at z
            exact absurd z (by decide)
          · refine bX2_outcomeOf_64 h3.1 (fun _ => ?_) (fun z => absurd ?_ z)
            · refine bX2_outcomeOf_79 (bc1 := bc) (bs1 := bs) (P := fun v V2 => ∃ a, v = some (sR (some a)) ∧ vk D R W V2 ∧ kO V2 a = some (zmake (zout E d') E R x).1 ∧ crep D E (zmake (zout E d') E R x).2 sp lk w0 V2) h3.1 (cM_le (by omega) (hM d' rfl R x _ sp lk w0 W bc bs e _ hJ hi hm ho (hJ.2.2 x hm ho) (by omega) hR b1 b2 (fun a V2 w1 w2 w3 => ⟨a, rfl, w1, w2, w3⟩))) (Nat.le_refl _) (Nat.le_refl _) ?_
              rintro v V2 ⟨a, rfl, w1, w2, w3⟩
              exact bX2_outcomeOf_84 (hQ a V2 w1 w2 w3)
            · rw [h3.2.2.2.2.2.2]
              exact (nI_ltI (b := 24) (by omega) (by omega)).mpr hlt
    · rw [if_neg hi]
      have hg : zget E R nm = some ((4, nI nm, []), R) := by unfold zget; rw [if_neg h16, if_pos (by omega)]
      rw [zout_get hg] at hQ
      refine bX2_outcomeOf_27 (fun z => absurd rfl z) (fun _ => ?_)
      refine bX2_outcomeOf_32 h3.2.1 h3.1 hs.1 (by rw [hsub]; exact vin (nm - 16) rfl (by omega) (by decide)) ?_
      rw [hsub, nix (nm - 16) rfl (by omega)]
      obtain ⟨a, a1, a2⟩ := hs.2.2.2.1 (nm - 16) (by omega)
      rw [a1]
      refine hQ a W vk.rf ?_ hR
      rw [a2, show 16 + (nm - 16) = nm by omega]
/-- THE ROUND of the class -/
theorem c_round {Fg : Nat → Prop} {h0 : hp} (hkd : ∀ r, r < e_n E → 1 ≤ e_k E r ∧ e_k E r ≤ 6) : ∀ d, COut Fg h0 D E d := by
  intro d
  induction d with
  | zero => exact c_outcomeOf (fun d' h => by cases h)
  | succ d ih => exact c_outcomeOf (fun d' h => by cases h; exact c_makeRule hkd ih)
end
