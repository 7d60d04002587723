/-! THE REFERENCE's state: S its int fields, G its arrays (by the number of the field), all else as in h0 -/
def hsame (h0 h : hp) (a : Nat) : Prop := gk h a = gk h0 a ∧ (∀ f, gi h f a = gi h0 f a) ∧ (∀ f, gr h f a = gr h0 f a) ∧ gl h a = gl h0 a ∧ ga h a = ga h0 a ∧ gq h a = gq h0 a
def rL (k : Nat) : Nat := match k with
  | 0 => 16
  | 1 => 256
  | 2 => 24
  | 3 => 24
  | 4 => 144
  | 5 => 24
  | 7 => 24
  | 8 => 96
  | 9 => 96
  | 10 => 96
  | 11 => 96
  | 12 => 96
  | 13 => 2304
  | 14 => 2400
  | 15 => 2400
  | 16 => 2400
  | 17 => 2400
  | 18 => 57600
  | 19 => 24
  | 20 => 24
  | 21 => 24
  | 22 => 576
  | 23 => 24
  | 24 => 24
  | 25 => 24
  | 26 => 24
  | 28 => 24
  | 29 => 24
  | 30 => 24
  | 31 => 24
  | 33 => 600
  | 34 => 600
  | 35 => 600
  | 36 => 600
  | 37 => 14400
  | 38 => 24
  | 39 => 576
  | 40 => 24
  | 41 => 24
  | 42 => 24
  | 43 => 24
  | 47 => 24
  | 56 => 24
  | 57 => 24
  | 58 => 96
  | 60 => 5
  | _ => 0
def rK (k : Nat) : Nat := match k with
  | 5 => 21
  | 24 => 21
  | 25 => 21
  | 26 => 21
  | 31 => 21
  | 43 => 21
  | _ => 20
abbrev rS : Type := Nat → Int32
abbrev rG : Type := Nat → Nat → Int32
def gup (G : rG) (k j : Nat) (x : Int32) : rG := va_up G k (upd (G k) j x)
def RS (h0 : hp) (m : Nat) (ad : Nat → Nat) (S : rS) (G : rG) (h : hp) : Prop :=
  (∀ j k, rL j ≠ 0 → rL k ≠ 0 → ad j = ad k → j = k) ∧ gk h m = 8 ∧ (∀ k, rL k ≠ 0 → gr h (700 + k) m = some (ad k) ∧ gk h (ad k) = rK k ∧ gl h (ad k) = rL k ∧ ga h (ad k) = G k) ∧ (∀ k, gi h (700 + k) m = S k) ∧ (∀ a, a ≠ m → (∀ k, rL k ≠ 0 → a ≠ ad k) → hsame h0 h a)
theorem hsame.wi {h0 h : hp} {a b f : Nat} {v : Int32} (H : hsame h0 h a) (hb : a ≠ b) : hsame h0 (wi h f b v) a := ⟨H.1, fun g => by rw [gi_wi, if_neg (fun z => hb z.2)]; exact H.2.1 g, H.2.2.1, H.2.2.2.1, H.2.2.2.2.1, H.2.2.2.2.2⟩
theorem hsame.wA {h0 h : hp} {a b : Nat} {f : Nat → Int32} (H : hsame h0 h a) (hb : a ≠ b) : hsame h0 (wA h b f) a := ⟨H.1, H.2.1, H.2.2.1, H.2.2.2.1, by rw [ga_wA, if_neg hb]; exact H.2.2.2.2.1, H.2.2.2.2.2⟩
theorem RS.si {h0 h : hp} {m : Nat} {ad : Nat → Nat} {S : rS} {G : rG} (R : RS h0 m ad S G h) {k f : Nat} (hf : 700 + k = f) (x : Int32) : RS h0 m ad (va_up S k x) G (wi h f m x) := by
  subst hf
  refine ⟨R.1, R.2.1, R.2.2.1, fun j => ?_, fun a h1 h2 => (R.2.2.2.2 a h1 h2).wi h1⟩
  rw [gi_wi]
  by_cases hj : j = k
  · subst hj
    rw [if_pos ⟨rfl, rfl⟩, va_up_self]
  · rw [if_neg (by omega), va_up_ne _ _ hj]
    exact R.2.2.2.1 j
theorem RS.ar {h0 h : hp} {m : Nat} {ad : Nat → Nat} {S : rS} {G : rG} (R : RS h0 m ad S G h) {k : Nat} (hk : rL k ≠ 0) (j : Nat) (x : Int32) : RS h0 m ad S (gup G k j x) (wa h (ad k) j x) := by
  refine ⟨R.1, R.2.1, fun i hi => ?_, R.2.2.2.1, fun a h1 h2 => (R.2.2.2.2 a h1 h2).wA (h2 k hk)⟩
  obtain ⟨h1, h2, h3, h4⟩ := R.2.2.1 i hi
  refine ⟨h1, h2, h3, ?_⟩
  unfold wa
  rw [ga_wA]
  by_cases hik : i = k
  · subst hik
    rw [if_pos rfl, h4, gup, va_up_self]
  · rw [if_neg (fun z => hik (R.1 _ _ hi hk z)), gup, va_up_ne _ _ hik]
    exact h4
/-- a stretch of a method of the reference -/
def rWP (d : Nat) (h0 : hp) (m : Nat) (ad : Nat → Nat) (M : Nat) (Q : Option sV → rS → rG → Prop) (pc : Nat) (ls st : List sV) (S : rS) (G : rG) : Prop := ∀ h bc bs, RS h0 m ad S G h → sWP (sCall d) none M (fun r h' => ∃ S' G', RS h0 m ad S' G' h' ∧ Q r S' G') pc ls st h bc bs
/-- a call of a method of the reference -/
def rM (d : Nat) (h0 : hp) (m : Nat) (ad : Nat → Nat) (M : Nat) (vs : List sV) (S : rS) (G : rG) (Q : Option sV → rS → rG → Prop) : Prop := ∀ h bc bs, RS h0 m ad S G h → sCall d M vs h bc bs (fun r h' => ∃ S' G', RS h0 m ad S' G' h' ∧ Q r S' G')
theorem rM_of {d : Nat} {h0 : hp} {m : Nat} {ad : Nat → Nat} {M : Nat} {vs ls : List sV} {S : rS} {G : rG} {Q : Option sV → rS → rG → Prop} (h1 : vs.all sset = true) (h2 : vs.length ≤ (sm M).2.2.1) (h3 : vs ++ List.replicate ((sm M).2.2.1 - vs.length) sU = ls) (H : rWP d h0 m ad M Q 0 ls [] S G) : rM (d + 1) h0 m ad M vs S G Q := fun h bc bs R => ⟨h1, h2, by rw [h3]; exact H h bc bs R⟩
theorem rM_mono {d : Nat} {h0 : hp} {m : Nat} {ad : Nat → Nat} {M : Nat} {vs : List sV} {S : rS} {G : rG} {Q Q' : Option sV → rS → rG → Prop} (H : rM d h0 m ad M vs S G Q) (hQ : ∀ r S G, Q r S G → Q' r S G) : rM d h0 m ad M vs S G Q' := fun h bc bs R => sCall_mono (fun r h' ⟨S', G', R', q⟩ => ⟨S', G', R', hQ _ _ _ q⟩) (H h bc bs R)
section REFROWS
variable {O : sO} {M : Nat} {Q : Option sV → hp → Prop} {pc : Nat} {ls st : List sV} {h h0 : hp} {bc bs : Nat} {cc : ByteArray} {m : Nat} {ad : Nat → Nat} {S : rS} {G : rG}
theorem x_geti (hb : (sm M).2.1 = cc) {idx : Nat} (hd : decode cc pc = .ok (.getfield idx, 3)) (q : Nat) (hq : pc + 3 = q) (R : RS h0 m ad S G h) {k : Nat} (hL : sLf (sm M).1.cls idx 7 k) (hB : sB (sT 7 k) = true) (K : sWP O none M Q q ls (sI (S k) :: st) h bc bs) : sWP O none M Q pc ls (sR (some m) :: st) h bc bs :=
  w_geti hb hd q hq (700 + k) hL hB rfl R.2.1 (by rw [R.2.2.2.1]; exact K)
theorem x_geta (hb : (sm M).2.1 = cc) {idx : Nat} (hd : decode cc pc = .ok (.getfield idx, 3)) (q : Nat) (hq : pc + 3 = q) (R : RS h0 m ad S G h) {k : Nat} (hL : sLf (sm M).1.cls idx 7 k) (hB : sB (sT 7 k) = false) (hk : rL k ≠ 0) (K : sWP O none M Q q ls (sR (some (ad k)) :: st) h bc bs) : sWP O none M Q pc ls (sR (some m) :: st) h bc bs :=
  w_getr hb hd q hq (700 + k) hL hB rfl R.2.1 (by rw [(R.2.2.1 k hk).1]; exact K)
theorem x_iald (hb : (sm M).2.1 = cc) (hd : decode cc pc = .ok (.iaload, 1)) (q : Nat) (hq : pc + 1 = q) (R : RS h0 m ad S G h) {k : Nat} (n : Nat) (hn : rL k = n) (hk : n ≠ 0) (hK : rK k = 20) {j : Int32} (hi : vp_in j n) (K : sWP O none M Q q ls (sI (G k j.toNatClampNeg) :: st) h bc bs) : sWP O none M Q pc ls (sI j :: sR (some (ad k)) :: st) h bc bs := by
  subst hn
  obtain ⟨h1, h2, h3, h4⟩ := R.2.2.1 k hk
  exact w_iaload hb hd q hq (h2.trans hK) (by rw [h3]; exact hi) (by rw [h4]; exact K)
theorem x_bald (hb : (sm M).2.1 = cc) (hd : decode cc pc = .ok (.baload, 1)) (q : Nat) (hq : pc + 1 = q) (R : RS h0 m ad S G h) {k : Nat} (n : Nat) (hn : rL k = n) (hk : n ≠ 0) (hK : rK k = 21) {j : Int32} (hi : vp_in j n) (K : sWP O none M Q q ls (sI (G k j.toNatClampNeg) :: st) h bc bs) : sWP O none M Q pc ls (sI j :: sR (some (ad k)) :: st) h bc bs := by
  subst hn
  obtain ⟨h1, h2, h3, h4⟩ := R.2.2.1 k hk
  exact w_baload hb hd q hq (h2.trans hK) (by rw [h3]; exact hi) (by rw [h4]; exact K)
theorem x_iast (hb : (sm M).2.1 = cc) (hd : decode cc pc = .ok (.iastore, 1)) (q : Nat) (hq : pc + 1 = q) (R : RS h0 m ad S G h) {k : Nat} (n : Nat) (hn : rL k = n) (hk : n ≠ 0) (hK : rK k = 20) {j x : Int32} (hi : vp_in j n) (K : ∀ h, RS h0 m ad S (gup G k j.toNatClampNeg x) h → sWP O none M Q q ls st h bc bs) : sWP O none M Q pc ls (sI x :: sI j :: sR (some (ad k)) :: st) h bc bs := by
  subst hn
  obtain ⟨h1, h2, h3, h4⟩ := R.2.2.1 k hk
  exact w_iastore hb hd q hq (h2.trans hK) (by rw [h3]; exact hi) (K _ (R.ar hk _ _))
theorem x_bast (hb : (sm M).2.1 = cc) (hd : decode cc pc = .ok (.bastore, 1)) (q : Nat) (hq : pc + 1 = q) (R : RS h0 m ad S G h) {k : Nat} (n : Nat) (hn : rL k = n) (hk : n ≠ 0) (hK : rK k = 21) {j x : Int32} (hi : vp_in j n) (hz : x = 0 ∨ x = 1) (K : ∀ h, RS h0 m ad S (gup G k j.toNatClampNeg x) h → sWP O none M Q q ls st h bc bs) : sWP O none M Q pc ls (sI x :: sI j :: sR (some (ad k)) :: st) h bc bs := by
  subst hn
  obtain ⟨h1, h2, h3, h4⟩ := R.2.2.1 k hk
  exact w_bastore hb hd q hq (h2.trans hK) (by rw [h3]; exact hi) hz (K _ (R.ar hk _ _))
theorem x_puti (hb : (sm M).2.1 = cc) {idx : Nat} (hd : decode cc pc = .ok (.putfield idx, 3)) (q : Nat) (hq : pc + 3 = q) (R : RS h0 m ad S G h) {k : Nat} {x : Int32} (hL : sLp (sm M).1.cls (sm M).1.name idx 7 k) (hB : sT 7 k = .int) (K : ∀ h, RS h0 m ad (va_up S k x) G h → sWP O none M Q q ls st h bc bs) : sWP O none M Q pc ls (sI x :: sR (some m) :: st) h bc bs :=
  w_puti hb hd q hq (700 + k) hL hB rfl R.2.1 (K _ (R.si rfl x))
theorem x_putz (hb : (sm M).2.1 = cc) {idx : Nat} (hd : decode cc pc = .ok (.putfield idx, 3)) (q : Nat) (hq : pc + 3 = q) (R : RS h0 m ad S G h) {k : Nat} {x : Int32} (hL : sLp (sm M).1.cls (sm M).1.name idx 7 k) (hB : sT 7 k = .boolean) (hz : x = 0 ∨ x = 1) (K : ∀ h, RS h0 m ad (va_up S k x) G h → sWP O none M Q q ls st h bc bs) : sWP O none M Q pc ls (sI x :: sR (some m) :: st) h bc bs :=
  w_putz hb hd q hq (700 + k) hL hB rfl R.2.1 hz (K _ (R.si rfl x))
end REFROWS
