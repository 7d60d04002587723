/-- a stretch, and a call, of a method of the class -/
def cWP (d : Nat) (Fg : Nat → Prop) (h0 : hp) (M : Nat) (Q : Option sV → kV → Prop) (pc : Nat) (ls st : List sV) (V : kV) (bc bs : Nat) : Prop := ∀ h, CS Fg h0 V h → sWP (sCall d) none M (fun r h' => ∃ V', CS Fg h0 V' h' ∧ Q r V') pc ls st h bc bs
def cM (d : Nat) (Fg : Nat → Prop) (h0 : hp) (M : Nat) (vs : List sV) (V : kV) (bc bs : Nat) (Q : Option sV → kV → Prop) : Prop := ∀ h, CS Fg h0 V h → sCall d M vs h bc bs (fun r h' => ∃ V', CS Fg h0 V' h' ∧ Q r V')
theorem cM_of {d : Nat} {Fg : Nat → Prop} {h0 : hp} {M : Nat} {vs ls : List sV} {V : kV} {bc bs : Nat} {Q : Option sV → kV → Prop} (h1 : vs.all sset = true) (h2 : vs.length ≤ (sm M).2.2.1) (h3 : vs ++ List.replicate ((sm M).2.2.1 - vs.length) sU = ls) (H : cWP d Fg h0 M Q 0 ls [] V bc bs) : cM (d + 1) Fg h0 M vs V bc bs Q := fun h R => ⟨h1, h2, by rw [h3]; exact H h R⟩
theorem cM_mono {d : Nat} {Fg : Nat → Prop} {h0 : hp} {M : Nat} {vs : List sV} {V : kV} {bc bs : Nat} {Q Q' : Option sV → kV → Prop} (H : cM d Fg h0 M vs V bc bs Q) (hQ : ∀ r V, Q r V → Q' r V) : cM d Fg h0 M vs V bc bs Q' := fun h R => sCall_mono (fun r h' ⟨V', R', q⟩ => ⟨V', R', hQ _ _ q⟩) (H h R)
theorem cM_le {a b : Nat} {Fg : Nat → Prop} {h0 : hp} {M : Nat} {vs : List sV} {V : kV} {bc bs : Nat} {Q : Option sV → kV → Prop} (hab : a ≤ b) (H : cM a Fg h0 M vs V bc bs Q) : cM b Fg h0 M vs V bc bs Q := fun h R => sCall_le hab (H h R)
theorem CS.ko {Fg : Nat → Prop} {h0 h : hp} {V : kV} (H : CS Fg h0 V h) {a : Nat} {o : zO} (ho : kO V a = some o) : gk h a = 1 + 1 := (H.2.2.2.2.2.1 a o ho).2.1
section CROWS
variable {O : sO} {M : Nat} {Q : Option sV → hp → Prop} {pc : Nat} {ls st : List sV} {h h0 : hp} {bc bs : Nat} {cc : ByteArray} {Fg : Nat → Prop} {V : kV}
theorem y_geti (hb : (sm M).2.1 = cc) {idx : Nat} (hd : decode cc pc = .ok (.getfield idx, 3)) (q : Nat) (hq : pc + 3 = q) (R : CS Fg h0 V h) {c k a : Nat} (f : Nat) (hL : sLf (sm M).1.cls idx c k) (hB : sB (sT c k) = true) (hf : 100 * c + k = f) (hf2 : f / 100 + 1 = c + 1) (hc : kC V a = c + 1) {x : Int32} (he : kI V f a = x) (K : sWP O none M Q q ls (sI x :: st) h bc bs) : sWP O none M Q pc ls (sR (some a) :: st) h bc bs :=
  w_geti hb hd q hq f hL hB hf (R.k hc) (by rw [R.2.1 a f (by rw [hf2]; exact hc), he]; exact K)
theorem y_getr (hb : (sm M).2.1 = cc) {idx : Nat} (hd : decode cc pc = .ok (.getfield idx, 3)) (q : Nat) (hq : pc + 3 = q) (R : CS Fg h0 V h) {c k a : Nat} (f : Nat) (hL : sLf (sm M).1.cls idx c k) (hB : sB (sT c k) = false) (hf : 100 * c + k = f) (hf2 : f / 100 + 1 = c + 1) (hz : cL f = 0) (hc : kC V a = c + 1) {r : Option Nat} (he : kR V f a = r) (K : sWP O none M Q q ls (sR r :: st) h bc bs) : sWP O none M Q pc ls (sR (some a) :: st) h bc bs :=
  w_getr hb hd q hq f hL hB hf (R.k hc) (by rw [R.2.2.1 a f (by rw [hf2]; exact hc) hz, he]; exact K)
theorem y_geta (hb : (sm M).2.1 = cc) {idx : Nat} (hd : decode cc pc = .ok (.getfield idx, 3)) (q : Nat) (hq : pc + 3 = q) (R : CS Fg h0 V h) {c k a : Nat} (f : Nat) (hL : sLf (sm M).1.cls idx c k) (hB : sB (sT c k) = false) (hf : 100 * c + k = f) (hf2 : f / 100 + 1 = c + 1) (hz : cL f ≠ 0) (hc : kC V a = c + 1) (K : sWP O none M Q q ls (sR (some (kr V f a)) :: st) h bc bs) : sWP O none M Q pc ls (sR (some a) :: st) h bc bs :=
  w_getr hb hd q hq f hL hB hf (R.k hc) (by rw [(R.2.2.2.1 f a ⟨by rw [hf2]; exact hc, hz⟩).1]; exact K)
theorem y_o0 (hb : (sm M).2.1 = cc) {idx : Nat} (hd : decode cc pc = .ok (.getfield idx, 3)) (q : Nat) (hq : pc + 3 = q) (R : CS Fg h0 V h) {a : Nat} {o : zO} (hL : sLf (sm M).1.cls idx 1 0) (ho : kO V a = some o) (K : sWP O none M Q q ls (sI o.1 :: st) h bc bs) : sWP O none M Q pc ls (sR (some a) :: st) h bc bs :=
  w_geti hb hd q hq 100 hL rfl rfl (R.ko ho) (by rw [(R.2.2.2.2.2.1 a o ho).2.2.1]; exact K)
theorem y_o1 (hb : (sm M).2.1 = cc) {idx : Nat} (hd : decode cc pc = .ok (.getfield idx, 3)) (q : Nat) (hq : pc + 3 = q) (R : CS Fg h0 V h) {a : Nat} {o : zO} (hL : sLf (sm M).1.cls idx 1 1) (ho : kO V a = some o) (K : sWP O none M Q q ls (sI o.2.1 :: st) h bc bs) : sWP O none M Q pc ls (sR (some a) :: st) h bc bs :=
  w_geti hb hd q hq 101 hL rfl rfl (R.ko ho) (by rw [(R.2.2.2.2.2.1 a o ho).2.2.2.1]; exact K)
theorem y_o2 (hb : (sm M).2.1 = cc) {idx : Nat} (hd : decode cc pc = .ok (.getfield idx, 3)) (q : Nat) (hq : pc + 3 = q) (R : CS Fg h0 V h) {a : Nat} {o : zO} (hL : sLf (sm M).1.cls idx 1 2) (ho : kO V a = some o) (K : sWP O none M Q q ls (sR (some (kw V a)) :: st) h bc bs) : sWP O none M Q pc ls (sR (some a) :: st) h bc bs :=
  w_getr hb hd q hq 102 hL rfl rfl (R.ko ho) (by rw [(R.2.2.2.2.2.1 a o ho).2.2.2.2.1]; exact K)
theorem y_iald (hb : (sm M).2.1 = cc) (hd : decode cc pc = .ok (.iaload, 1)) (q : Nat) (hq : pc + 1 = q) (R : CS Fg h0 V h) {f a : Nat} (n : Nat) (hn : cL f = n) (hz : n ≠ 0) (hK : cK f = 20) {c : Nat} (hf2 : f / 100 + 1 = c) (hc : kC V a = c) {j : Int32} (hi : vp_in j n) {x : Int32} (he : kA V f a j.toNatClampNeg = x) (K : sWP O none M Q q ls (sI x :: st) h bc bs) : sWP O none M Q pc ls (sI j :: sR (some (kr V f a)) :: st) h bc bs := by
  obtain ⟨d1, d2, d3, d4, d5⟩ := R.2.2.2.1 f a ⟨by rw [hf2]; exact hc, by rw [hn]; exact hz⟩
  exact w_iaload hb hd q hq (d2.trans hK) (by rw [d3, hn]; exact hi) (by rw [d4, he]; exact K)
theorem y_aald (hb : (sm M).2.1 = cc) (hd : decode cc pc = .ok (.aaload, 1)) (q : Nat) (hq : pc + 1 = q) (R : CS Fg h0 V h) {f a : Nat} (n : Nat) (hn : cL f = n) (hz : n ≠ 0) (hK : 22 ≤ cK f) {c : Nat} (hf2 : f / 100 + 1 = c) (hc : kC V a = c) {j : Int32} (hi : vp_in j n) {x : Option Nat} (he : kB V f a j.toNatClampNeg = x) (K : sWP O none M Q q ls (sR x :: st) h bc bs) : sWP O none M Q pc ls (sI j :: sR (some (kr V f a)) :: st) h bc bs := by
  obtain ⟨d1, d2, d3, d4, d5⟩ := R.2.2.2.1 f a ⟨by rw [hf2]; exact hc, by rw [hn]; exact hz⟩
  exact w_aaload hb hd q hq (by rw [d2]; exact hK) (by rw [d3, hn]; exact hi) (by rw [d5, he]; exact K)
theorem y_iast (hb : (sm M).2.1 = cc) (hd : decode cc pc = .ok (.iastore, 1)) (q : Nat) (hq : pc + 1 = q) (R : CS Fg h0 V h) {f a : Nat} (n : Nat) (hn : cL f = n) (hz : n ≠ 0) (hK : cK f = 20) {c : Nat} (hf2 : f / 100 + 1 = c) (hc : kC V a = c) {j x : Int32} (hi : vp_in j n) (K : ∀ h, CS Fg h0 (uA V f a j.toNatClampNeg x) h → sWP O none M Q q ls st h bc bs) : sWP O none M Q pc ls (sI x :: sI j :: sR (some (kr V f a)) :: st) h bc bs := by
  have hl : kl V f a := ⟨by rw [hf2]; exact hc, by rw [hn]; exact hz⟩
  obtain ⟨d1, d2, d3, d4, d5⟩ := R.2.2.2.1 f a hl
  exact w_iastore hb hd q hq (d2.trans hK) (by rw [d3, hn]; exact hi) (K _ (R.sa hl _ _))
theorem y_aast (hb : (sm M).2.1 = cc) (hd : decode cc pc = .ok (.aastore, 1)) (q : Nat) (hq : pc + 1 = q) (R : CS Fg h0 V h) {f a : Nat} (n : Nat) (hn : cL f = n) (hz : n ≠ 0) (hK : 22 ≤ cK f) {c : Nat} (hf2 : f / 100 + 1 = c) (hc : kC V a = c) {j : Int32} {r : Option Nat} (hi : vp_in j n) (e : Nat) (hse : sAe (cK f) = e) (hv : ∀ b, r = some b → kC V b = e + 1) (K : ∀ h, CS Fg h0 (uB V f a j.toNatClampNeg r) h → sWP O none M Q q ls st h bc bs) : sWP O none M Q pc ls (sR r :: sI j :: sR (some (kr V f a)) :: st) h bc bs := by
  have hl : kl V f a := ⟨by rw [hf2]; exact hc, by rw [hn]; exact hz⟩
  obtain ⟨d1, d2, d3, d4, d5⟩ := R.2.2.2.1 f a hl
  exact w_aastore hb hd q hq (by rw [d2]; exact hK) (by rw [d3, hn]; exact hi) (fun b hb => by rw [d2, hse]; exact R.k (hv b hb)) (K _ (R.sq hl _ _))
theorem y_aastO (hb : (sm M).2.1 = cc) (hd : decode cc pc = .ok (.aastore, 1)) (q : Nat) (hq : pc + 1 = q) (R : CS Fg h0 V h) {f a : Nat} (n : Nat) (hn : cL f = n) (hz : n ≠ 0) (hK : cK f = 22) {c : Nat} (hf2 : f / 100 + 1 = c) (hc : kC V a = c) {j : Int32} {r : Option Nat} (hi : vp_in j n) (hv : ∀ b, r = some b → ∃ o, kO V b = some o) (K : ∀ h, CS Fg h0 (uB V f a j.toNatClampNeg r) h → sWP O none M Q q ls st h bc bs) : sWP O none M Q pc ls (sR r :: sI j :: sR (some (kr V f a)) :: st) h bc bs := by
  have hl : kl V f a := ⟨by rw [hf2]; exact hc, by rw [hn]; exact hz⟩
  obtain ⟨d1, d2, d3, d4, d5⟩ := R.2.2.2.1 f a hl
  exact w_aastore hb hd q hq (by rw [d2, hK]; decide) (by rw [d3, hn]; exact hi) (fun b hb => by rw [d2, hK]; obtain ⟨o, ho⟩ := hv b hb; exact R.ko ho) (K _ (R.sq hl _ _))
theorem y_alen (hb : (sm M).2.1 = cc) (hd : decode cc pc = .ok (.arraylength, 1)) (q : Nat) (hq : pc + 1 = q) (R : CS Fg h0 V h) {f a : Nat} (n : Int32) (hn : Int32.ofNat (cL f) = n) (hz : cL f ≠ 0) {c : Nat} (hf2 : f / 100 + 1 = c) (hc : kC V a = c) (K : sWP O none M Q q ls (sI n :: st) h bc bs) : sWP O none M Q pc ls (sR (some (kr V f a)) :: st) h bc bs := by
  obtain ⟨d1, d2, d3, d4, d5⟩ := R.2.2.2.1 f a ⟨by rw [hf2]; exact hc, hz⟩
  exact w_alen hb hd q hq (by rw [d2]; exact cK_ge f) (by rw [d3, hn]; exact K)
theorem y_rlen (hb : (sm M).2.1 = cc) (hd : decode cc pc = .ok (.arraylength, 1)) (q : Nat) (hq : pc + 1 = q) (R : CS Fg h0 V h) {a : Nat} {o : zO} (ho : kO V a = some o) (K : sWP O none M Q q ls (sI (nI o.2.2.length) :: st) h bc bs) : sWP O none M Q pc ls (sR (some (kw V a)) :: st) h bc bs := by
  obtain ⟨d1, d2, d3, d4, d5, d6, d7, d8, d9, d10⟩ := R.2.2.2.2.2.1 a o ho
  exact w_alen hb hd q hq (by rw [d6]; decide) (by rw [d7]; exact K)
theorem y_rald (hb : (sm M).2.1 = cc) (hd : decode cc pc = .ok (.iaload, 1)) (q : Nat) (hq : pc + 1 = q) (R : CS Fg h0 V h) {a : Nat} {o : zO} (ho : kO V a = some o) {j : Int32} (hi : vp_in j o.2.2.length) (K : sWP O none M Q q ls (sI (o.2.2.getD j.toNatClampNeg 0) :: st) h bc bs) : sWP O none M Q pc ls (sI j :: sR (some (kw V a)) :: st) h bc bs := by
  obtain ⟨d1, d2, d3, d4, d5, d6, d7, d8, d9, d10⟩ := R.2.2.2.2.2.1 a o ho
  refine w_iaload hb hd q hq d6 (by rw [d7]; exact hi) ?_
  rw [d8 _ (Nat.lt_of_not_le (fun z => hi (Or.inr z)))]
  exact K
theorem y_wlen (hb : (sm M).2.1 = cc) (hd : decode cc pc = .ok (.arraylength, 1)) (q : Nat) (hq : pc + 1 = q) (R : CS Fg h0 V h) {b n : Nat} {g : Nat → Int32} (hw : kW V b = some (n, g)) (K : sWP O none M Q q ls (sI (nI n) :: st) h bc bs) : sWP O none M Q pc ls (sR (some b) :: st) h bc bs := by
  obtain ⟨d1, d2, d3, d4⟩ := R.2.2.2.2.2.2.1 b _ hw
  exact w_alen hb hd q hq (by rw [d1]; decide) (by rw [d2]; exact K)
theorem y_wald (hb : (sm M).2.1 = cc) (hd : decode cc pc = .ok (.iaload, 1)) (q : Nat) (hq : pc + 1 = q) (R : CS Fg h0 V h) {b n : Nat} {g : Nat → Int32} (hw : kW V b = some (n, g)) {j : Int32} (hi : vp_in j n) (K : sWP O none M Q q ls (sI (g j.toNatClampNeg) :: st) h bc bs) : sWP O none M Q pc ls (sI j :: sR (some b) :: st) h bc bs := by
  obtain ⟨d1, d2, d3, d4⟩ := R.2.2.2.2.2.2.1 b _ hw
  exact w_iaload hb hd q hq d1 (by rw [d2]; exact hi) (by rw [d3]; exact K)
theorem y_wast (hb : (sm M).2.1 = cc) (hd : decode cc pc = .ok (.iastore, 1)) (q : Nat) (hq : pc + 1 = q) (R : CS Fg h0 V h) {b n : Nat} {g : Nat → Int32} (hw : kW V b = some (n, g)) {j x : Int32} (hi : vp_in j n) (K : ∀ h, CS Fg h0 (uW V b (some (n, upd g j.toNatClampNeg x))) h → sWP O none M Q q ls st h bc bs) : sWP O none M Q pc ls (sI x :: sI j :: sR (some b) :: st) h bc bs := by
  obtain ⟨d1, d2, d3, d4⟩ := R.2.2.2.2.2.2.1 b _ hw
  have h1 := R.sW hw (upd g j.toNatClampNeg x)
  have d3 : ga h b = g := d3
  refine w_iastore hb hd q hq d1 (by rw [d2]; exact hi) (K _ ?_)
  unfold wa
  rw [d3]
  exact h1
theorem y_puti (hb : (sm M).2.1 = cc) {idx : Nat} (hd : decode cc pc = .ok (.putfield idx, 3)) (q : Nat) (hq : pc + 3 = q) (R : CS Fg h0 V h) {c k a : Nat} {x : Int32} (f : Nat) (hL : sLp (sm M).1.cls (sm M).1.name idx c k) (hB : sT c k = .int) (hf : 100 * c + k = f) (hf2 : f / 100 + 1 = c + 1) (hc : kC V a = c + 1) (K : ∀ h, CS Fg h0 (uI V f a x) h → sWP O none M Q q ls st h bc bs) : sWP O none M Q pc ls (sI x :: sR (some a) :: st) h bc bs :=
  w_puti hb hd q hq f hL hB hf (R.k hc) (K _ (R.si (by rw [hf2]; exact hc) x))
theorem y_putz (hb : (sm M).2.1 = cc) {idx : Nat} (hd : decode cc pc = .ok (.putfield idx, 3)) (q : Nat) (hq : pc + 3 = q) (R : CS Fg h0 V h) {c k a : Nat} {x : Int32} (f : Nat) (hL : sLp (sm M).1.cls (sm M).1.name idx c k) (hB : sT c k = .boolean) (hf : 100 * c + k = f) (hf2 : f / 100 + 1 = c + 1) (hc : kC V a = c + 1) (hz : x = 0 ∨ x = 1) (K : ∀ h, CS Fg h0 (uI V f a x) h → sWP O none M Q q ls st h bc bs) : sWP O none M Q pc ls (sI x :: sR (some a) :: st) h bc bs :=
  w_putz hb hd q hq f hL hB hf (R.k hc) hz (K _ (R.si (by rw [hf2]; exact hc) x))
theorem y_putr (hb : (sm M).2.1 = cc) {idx : Nat} (hd : decode cc pc = .ok (.putfield idx, 3)) (q : Nat) (hq : pc + 3 = q) (R : CS Fg h0 V h) {c k a : Nat} {x : Option Nat} (f : Nat) (hL : sLp (sm M).1.cls (sm M).1.name idx c k) (hB : (∃ z, sT c k = .object z) ∨ ∃ z, sT c k = .array z) (hf : 100 * c + k = f) (hf2 : f / 100 + 1 = c + 1) (hz : cL f = 0) (hc : kC V a = c + 1) (K : ∀ h, CS Fg h0 (uR V f a x) h → sWP O none M Q q ls st h bc bs) : sWP O none M Q pc ls (sR x :: sR (some a) :: st) h bc bs :=
  w_putr hb hd q hq f hL hB hf (R.k hc) (K _ (R.sr (by rw [hf2]; exact hc) hz x))
theorem y_newW (hb : (sm M).2.1 = cc) (hd : decode cc pc = .ok (.newarray .int, 2)) (q : Nat) (hq : pc + 2 = q) (R : CS Fg h0 V h) {j : Int32} (N : Nat) (hj : ¬ j < 0) (hN : j.toNatClampNeg = N) (hm : N ≤ 100000) (hbc : 1 ≤ bc) (hbs : N ≤ bs) (K : ∀ y h, ¬ kD V y → CS Fg h0 (uW V y (some (N, fun _ => 0))) h → sWP O none M Q q ls (sR (some y) :: st) h (bc - 1) (bs - N)) : sWP O none M Q pc ls (sI j :: st) h bc bs :=
  w_newi hb hd q hq N hj hN hm hbc hbs (fun y hy => K y _ (R.fresh hy).1 (R.nwW hy N))
theorem y_newO (hb : (sm M).2.1 = cc) {idx : Nat} (hd : decode cc pc = .ok (.new idx, 3)) (q : Nat) (hq : pc + 3 = q) (R : CS Fg h0 V h) (hL : sLn (sm M).1.cls idx 1) (hbc : 1 ≤ bc) (hbs : 3 ≤ bs) (K : ∀ y h, ¬ kD V y → CS Fg h0 (uN V y 2) h → sWP O none M Q q ls (sR (some y) :: st) h (bc - 1) (bs - 3)) : sWP O none M Q pc ls st h bc bs :=
  w_new hb hd q hq 2 1 3 rfl hL rfl hbc hbs (fun y hy => K y _ (R.fresh hy).1 (R.nwO hy))
theorem y_cast (hb : (sm M).2.1 = cc) {idx : Nat} (hd : decode cc pc = .ok (.checkcast idx, 3)) (q : Nat) (hq : pc + 3 = q) (R : CS Fg h0 V h) {b n : Nat} {g : Nat → Int32} (hw : kW V b = some (n, g)) (hL : Cond.classLink (sm M).1.cls idx "[I" ∈ sW) (K : sWP O none M Q q ls (sR (some b) :: st) h bc bs) : sWP O none M Q pc ls (sR (some b) :: st) h bc bs :=
  w_cast hb hd q hq hL (R.2.2.2.2.2.2.1 b _ hw).1 K
theorem y_clone (hb : (sm M).2.1 = cc) {idx : Nat} (hd : decode cc pc = .ok (.invokevirtual idx, 3)) (q : Nat) (hq : pc + 3 = q) (R : CS Fg h0 V h) {a : Nat} {o : zO} (ho : kO V a = some o) (hL : sLk (sm M).1.cls idx) (hw : (st.map sw).sum ≤ 8) (hbc : 1 ≤ bc) (hbs : o.2.2.length ≤ bs) (K : ∀ y h g, ¬ kD V y → (∀ j, j < o.2.2.length → g j = o.2.2.getD j 0) → CS Fg h0 (uW V y (some (o.2.2.length, g))) h → sWP O none M Q q ls (sR (some y) :: st) h (bc - 1) (bs - o.2.2.length)) : sWP O none M Q pc ls (sR (some (kw V a)) :: st) h bc bs := by
  obtain ⟨d1, d2, d3, d4, d5, d6, d7, d8, d9, d10⟩ := R.2.2.2.2.2.1 a o ho
  refine w_clone hb hd q hq hL d6 hw hbc (by rw [d7]; exact hbs) (fun y hy => ?_)
  rw [d7]
  refine K y _ (ga h (kw V a)) (R.fresh hy).1 d8 ?_
  have h1 := (R.nwW hy o.2.2.length).sW (b := y) (va_up_self _ _ _) (ga h (kw V a))
  have e : uW (uW V y (some (o.2.2.length, fun _ => 0))) y (some (o.2.2.length, ga h (kw V a))) = uW V y (some (o.2.2.length, ga h (kw V a))) := by
    unfold uW
    rw [show kW (kC V, kI V, kR V, kr V, kA V, kB V, kO V, kw V, va_up (kW V) y (some (o.2.2.length, fun _ => (0 : Int32)))) = va_up (kW V) y (some (o.2.2.length, fun _ => 0)) from rfl, va_upup]
  rw [e] at h1
  exact h1
theorem y_copy (hb : (sm M).2.1 = cc) {idx : Nat} (hd : decode cc pc = .ok (.invokestatic idx, 3)) (q : Nat) (hq : pc + 3 = q) (R : CS Fg h0 V h) {a : Nat} {o : zO} (ho : kO V a = some o) {b n : Nat} {g : Nat → Int32} (hW : kW V b = some (n, g)) {u v w : Int32} (hL : sLc (sm M).1.cls idx) (hw : (st.map sw).sum ≤ 8) (h1 : ¬ u < 0) (h2 : ¬ v < 0) (h3 : ¬ w < 0) (h4 : u.toNatClampNeg + w.toNatClampNeg ≤ o.2.2.length) (h5 : v.toNatClampNeg + w.toNatClampNeg ≤ n) (K : ∀ h f, (∀ j, j < o.2.2.length → f j = o.2.2.getD j 0) → CS Fg h0 (uW V b (some (n, va_cpy f g u.toNatClampNeg v.toNatClampNeg w.toNatClampNeg))) h → sWP O none M Q q ls st h bc bs) : sWP O none M Q pc ls (sI w :: sI v :: sR (some b) :: sI u :: sR (some (kw V a)) :: st) h bc bs := by
  obtain ⟨d1, d2, d3, d4, d5, d6, d7, d8, d9, d10⟩ := R.2.2.2.2.2.1 a o ho
  obtain ⟨e1, e2, e3, e4⟩ := R.2.2.2.2.2.2.1 b _ hW
  have e3 : ga h b = g := e3
  refine w_copy hb hd q hq hL d6 e1 hw h1 h2 h3 (by rw [d7]; exact h4) (by rw [e2]; exact h5) (K _ (ga h (kw V a)) d8 ?_)
  rw [e3]
  exact R.sW hW _
end CROWS
