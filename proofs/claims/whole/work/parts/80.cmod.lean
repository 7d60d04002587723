theorem zrem2 (n : Nat) (h1 : 1 ≤ n) (h2 : n ≤ 5) (x : Int32) : (0 ≤ x → 0 ≤ x - x / nI n * nI n) ∧ (¬ 0 ≤ x → ¬ x - x / nI n * nI n = 0 → ¬ 0 ≤ x - x / nI n * nI n) := by
  have b1 := Int32.le_toInt x
  have b2 := Int32.toInt_lt x
  have hn : (nI n).toInt = (n : Int) := nI_toInt (by omega)
  have hq : (x / nI n).toInt = x.toInt.tdiv n ∧ (0 ≤ x.toInt → 0 ≤ x.toInt - (x / nI n).toInt * n ∧ (x / nI n).toInt * n ≤ x.toInt ∧ 0 ≤ (x / nI n).toInt * n) ∧ (x.toInt < 0 → x.toInt - (x / nI n).toInt * n ≤ 0 ∧ x.toInt ≤ (x / nI n).toInt * n ∧ (x / nI n).toInt * n ≤ 0) := by
    have key : ∀ t : Int, (0 ≤ x.toInt → t = x.toInt / n) → (x.toInt < 0 → t = -((-x.toInt) / n)) → (-2147483648 ≤ t ∧ t < 2147483648) ∧ (0 ≤ x.toInt → 0 ≤ x.toInt - t * n ∧ t * n ≤ x.toInt ∧ 0 ≤ t * n) ∧ (x.toInt < 0 → x.toInt - t * n ≤ 0 ∧ x.toInt ≤ t * n ∧ t * n ≤ 0) := by
      intro t t1 t2
      rcases (show n = 1 ∨ n = 2 ∨ n = 3 ∨ n = 4 ∨ n = 5 by omega) with rfl | rfl | rfl | rfl | rfl <;> (by_cases hx : 0 ≤ x.toInt) <;> (first | have := t1 hx | have := t2 (by omega)) <;> omega
    obtain ⟨k1, k2⟩ := key (x.toInt.tdiv n) (fun h => Int.tdiv_eq_ediv_of_nonneg h) (fun h => by
      rw [show x.toInt = -(-x.toInt) by omega, Int.neg_tdiv, Int.tdiv_eq_ediv_of_nonneg (by omega)]
      simp)
    have e1 : (x / nI n).toInt = x.toInt.tdiv n := by
      rw [Int32.toInt_div, hn]
      exact Int.bmod_eq_of_le (by omega) (by omega)
    rw [e1]
    exact ⟨rfl, k2⟩
  have hm : (x / nI n * nI n).toInt = (x / nI n).toInt * n := by
    rw [Int32.toInt_mul, hn]
    by_cases hx : 0 ≤ x.toInt
    · have := hq.2.1 hx
      apply Int.bmod_eq_of_le <;> omega
    · have := hq.2.2 (by omega)
      apply Int.bmod_eq_of_le <;> omega
  have hs : (x - x / nI n * nI n).toInt = x.toInt - (x / nI n).toInt * n := by
    rw [Int32.toInt_sub, hm]
    by_cases hx : 0 ≤ x.toInt
    · have := hq.2.1 hx
      apply Int.bmod_eq_of_le <;> omega
    · have := hq.2.2 (by omega)
      apply Int.bmod_eq_of_le <;> omega
  have h0 : (0 ≤ x - x / nI n * nI n) ↔ 0 ≤ x.toInt - (x / nI n).toInt * n := by
    rw [Int32.le_iff_toInt_le, hs]
    rfl
  have hx0 : 0 ≤ x ↔ 0 ≤ x.toInt := by
    rw [Int32.le_iff_toInt_le]
    rfl
  rw [h0, hx0]
  refine ⟨fun h => (hq.2.1 h).1, fun h hz h' => hz ?_⟩
  apply Int32.toInt_inj.mp
  rw [hs]
  have := (hq.2.2 (by omega)).1
  show _ = 0
  omega
theorem zxor (n : Nat) (h2 : n ≤ 5) (x : Int32) : 0 ≤ x ^^^ nI n ↔ 0 ≤ x := by
  have sg : ∀ y : Int32, 0 ≤ y ↔ y.toBitVec.msb = false := fun y => by
    rw [Int32.le_iff_toInt_le, BitVec.msb_eq_toInt]
    show 0 ≤ y.toBitVec.toInt ↔ _
    rw [decide_eq_false_iff_not]
    omega
  rw [sg, sg, Int32.toBitVec_xor, BitVec.msb_xor]
  have : (nI n).toBitVec.msb = false := by
    rcases (show n = 0 ∨ n = 1 ∨ n = 2 ∨ n = 3 ∨ n = 4 ∨ n = 5 by omega) with rfl | rfl | rfl | rfl | rfl | rfl <;> decide
  rw [this, Bool.xor_false]
theorem c_floorMod {d : Nat} {Fg : Nat → Prop} {h0 : hp} {V : kV} {bc bs : Nat} {Q : Option sV → kV → Prop} {x : Int32} {n : Nat} (h1 : 1 ≤ n) (h5 : n ≤ 5) (hQ : Q (some (sI (nI (zmod x n)))) V) : cM (d + 1) Fg h0 125 [sI x, sI (nI n)] V bc bs Q := by
  obtain ⟨a1, a2, -⟩ := zrem n h1 h5 x
  obtain ⟨b1, b2⟩ := zrem2 n h1 h5 x
  refine cM_of (ls := [sI x, sI (nI n), sU]) rfl (Nat.le_of_ble_eq_true rfl) rfl ?_
  refine bJ9_floorMod_7cf53_0 (nI_ne0 (by omega) (by omega)) (fun z => ?_) (fun z => ?_)
  · rw [zxor n h5] at z
    refine bJ9_floorMod_7cf53_18 ?_
    rw [a1 (b1 z)]
    exact hQ
  · rw [zxor n h5] at z
    refine bJ9_floorMod_7cf53_10 (fun y => ?_) (fun y => ?_)
    · refine bJ9_floorMod_7cf53_18 ?_
      rw [a1 (by rw [y]; decide)]
      exact hQ
    · refine bJ9_floorMod_7cf53_14 ?_
      rw [a2 (b2 z y)]
      exact hQ
section
variable {D : cD} {E : zE} {R : zQ} {sp : Nat → Option (List zR)} {lk w0 : Int32}
/-- a trace that fits comes to the front -/
theorem c_front {d : Nat} {Fg : Nat → Prop} {h0 : hp} {V : kV} {bc bs : Nat} {Q : Option sV → kV → Prop} {r k : Nat} (hE : e_n E ≤ 24) (h : crep D E R sp lk w0 V) (hr : r < e_n E) (hl : (q_t R r).length ≤ 4) (hk : k < (q_t R r).length) (hQ : ∀ V2, vex [306] V V2 → (∀ x, x < e_n E → x ≠ r → kB V2 306 (dA D x) = kB V 306 (dA D x)) → crep D E (q_tr R r (zfront (q_t R r) k)) (va_up sp r none) lk w0 V2 → Q none V2) : cM (d + 1) Fg h0 29 [sR (some (dA D r)), sI (nI k)] V bc bs Q := by
  obtain ⟨h1, h2, h3, h4⟩ := (h.2.2.2.1 r hr).2.1
  refine c_bringForward (h.kc hr) (by omega) h3 (fun V2 w1 w2 w3 => hQ V2 w1 (fun x hx hxr => w2 _ (fun z => hxr (h.inj hE hx hr z))) ?_)
  have hc := h.k0 hr
  refine h.perm hE hr (p := zfwd k) (w1.up (fun f hf z => hf (by rw [List.mem_singleton.mp z]; decide))) (fun u hu hur => ⟨(w1.2.2 305 u hu (by decide)).1, w2 u hur⟩) ?_ (fun j hj => ⟨zfwd_lt (by omega) hj, w3 j hj⟩) (fun j i _ _ e => zfwd_inj e) (by rw [zfront_len]; exact hl) (fun j hj => ?_)
  · rw [zfront_len, (w1.2.2 305 _ hc (by decide)).1]
    exact h1
  · rw [zfront_len] at hj
    rw [zfront_getD hk]
    unfold zfwd
    by_cases e : j = 0
    · rw [if_pos e, if_pos e]; exact h2 k hk
    · rw [if_neg e, if_neg e]
      by_cases e2 : j ≤ k
      · rw [if_pos e2, if_pos e2]; exact h2 (j - 1) (by omega)
      · rw [if_neg e2, if_neg e2]; exact h2 j hj
end
