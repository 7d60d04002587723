/-- what a call keeps: outcomes, and where the traces of open rules are -/
def vk (D : cD) (R : zQ) (V V2 : kV) : Prop := vo V V2 ∧ ∀ x ∈ q_s R, kB V2 306 (dA D x) = kB V 306 (dA D x)
theorem vk.rf {D : cD} {R : zQ} {V : kV} : vk D R V V := ⟨vo.rf, fun _ _ => rfl⟩
theorem vk.tr {D : cD} {R R1 : zQ} {V V1 V2 : kV} (h1 : vk D R V V1) (h2 : vk D R1 V1 V2) (hs : ∀ x ∈ q_s R, x ∈ q_s R1) : vk D R V V2 := ⟨h1.1.tr h2.1, fun x hx => (h2.2 x (hs x hx)).trans (h1.2 x hx)⟩
theorem vk.vex {L : List Nat} {D : cD} {E : zE} {R : zQ} {sp : Nat → Option (List zR)} {lk w0 : Int32} {V V2 : kV} (h : crep D E R sp lk w0 V) (hn : ∀ x ∈ q_s R, x < e_n E) (v : vex L V V2) (h6 : 306 ∉ L) : vk D R V V2 := ⟨v.2.1, fun x hx => (v.2.2 306 _ (h.k0 (hn x hx)) h6).2.2.2⟩
theorem crep.unlook {D : cD} {E : zE} {R : zQ} {sp : Nat → Option (List zR)} {lk w0 : Int32} {V : kV} (h : crep D E R sp (lk + 1) w0 V) : crep D E (q_look R) sp lk w0 V := by
  refine ⟨h.1, h.2.1, ?_, h.2.2.2.1, h.2.2.2.2⟩
  obtain ⟨h1, h2, h3, h5, h6, h7, h8⟩ := h.2.2.1
  refine ⟨h1, h2, h3, ?_, h6, h7, h8⟩
  rw [h5]
  show q_l R + (lk + 1) = q_l R + 1 + lk
  rw [Int32.add_assoc, Int32.add_comm lk 1]
/-- the contract of outcomeOf, at most d rules deeper -/
def COut (Fg : Nat → Prop) (h0 : hp) (D : cD) (E : zE) (d : Nat) : Prop := ∀ (R : zQ) (r : Nat) (ph : zP) (fs : List (Nat × zP)) (nm : Nat) (sp : Nat → Option (List zR)) (lk w0 : Int32) (V : kV) (bc bs e : Nat) (Q : Option sV → kV → Prop), zJ E ((r, ph) :: fs) R → zname E R r ph = some nm → nm < 40 → 24 ≤ d + (q_s R).length → crep D E R sp lk w0 V → 10 * zU R ≤ bc + 10 * zU (zout E d R nm).2 → 100 * zU R ≤ bs + 100 * zU (zout E d R nm).2 → (∀ a V2, vk D R V V2 → kO V2 a = some (zout E d R nm).1 → crep D E (zout E d R nm).2 sp lk w0 V2 → Q (some (sR (some a))) V2) → cM (5 * d + e + 4) Fg h0 11 [sR (some (dO D)), sI (nI nm)] V bc bs Q
theorem zJ.in {E : zE} {f : Nat × zP} {fs : List (Nat × zP)} {R : zQ} (h : zJ E (f :: fs) R) : f.1 ∈ q_s R := by
  rw [h.1.2.2.2.1]
  exact List.mem_cons_self
theorem zJ.lt {E : zE} {fs : List (Nat × zP)} {R : zQ} (h : zJ E fs R) : ∀ x ∈ q_s R, x < e_n E := h.1.2.1.2.2.2
theorem zhit_some {R : zQ} {r : Nat} {l : List Nat} (h : q_r R r = some l) : zhit R r = zring l := by
  unfold zhit
  rw [h]
section
variable {D : cD} {E : zE} {R : zQ} {sp : Nat → Option (List zR)} {lk w0 : Int32}
theorem c_readInput {d : Nat} {Fg : Nat → Prop} {h0 : hp} {V : kV} {bc bs : Nat} {Q : Option sV → kV → Prop} {r i nm : Nat} {w : zW} {fs : List (Nat × zP)} (e : Nat) (hC : COut Fg h0 D E d) (hJ : zJ E ((r, .inr w) :: fs) R) (hn : znext (e_k E r) (e_i E r) w = some nm) (hi : (e_i E r)[i]? = some nm) (hd : 24 ≤ d + (q_s R).length) (hR : crep D E R sp lk w0 V) (hsp : sp r = some w.1) (b1 : 10 * zU R ≤ bc + 10 * zU (zout E d R nm).2) (b2 : 100 * zU R ≤ bs + 100 * zU (zout E d R nm).2)
    (hQ : ∀ v V2, vk D R V V2 → crep D E (zout E d R nm).2 (va_up sp r (some (w.1 ++ [(nm, (zout E d R nm).1)]))) lk w0 V2 → ((q_r (zout E d R nm).2 r).isSome = true → cO V2 v (zhit (zout E d R nm).2 r)) → (¬ (q_r (zout E d R nm).2 r).isSome = true → (¬ (zout E d R nm).1.1 = 0 ∧ e_t E r = true → cO V2 v (zout E d R nm).1) ∧ (¬ (¬ (zout E d R nm).1.1 = 0 ∧ e_t E r = true) → v = none)) → Q (some (sR v)) V2) : cM (5 * d + e + 5) Fg h0 22 [sR (some (dO D)), sR (some (dA D r)), sI (nI i)] V bc bs Q := by
  have hE := hJ.1.1.1
  have hrn : r < e_n E := hJ.lt r hJ.in
  obtain ⟨h24, hmem⟩ := znext_lt hn (hJ.1.1.2.2.1 r) (hJ.1.2.2.1 _ List.mem_cons_self).1
  have h40 := hJ.1.1.2.2.2 r nm hmem
  have hi6 : i < (e_i E r).length := (List.getElem?_eq_some_iff.mp hi).1
  have h6 := hJ.1.1.2.2.1 r
  have hgd : (e_i E r).getD i 0 = nm := by rw [List.getD_eq_getElem?_getD, hi]; rfl
  have ki : kA V 303 (dA D r) i = nI nm := by rw [(hR.2.2.2.1 r hrn).1.2.2.2.2.2.1 i hi6, hgd]
  obtain ⟨hJ2, hkp, hok⟩ := zcall hJ hd hn
  refine cM_of (ls := [sR (some (dO D)), sR (some (dA D r)), sI (nI i), sU, sU]) rfl (Nat.le_of_ble_eq_true rfl) rfl ?_
  refine bX2_readInput_0 (bc1 := bc) (bs1 := bs) (P := fun v V2 => ∃ a, v = some (sR (some a)) ∧ vk D R V V2 ∧ kO V2 a = some (zout E d R nm).1 ∧ crep D E (zout E d R nm).2 sp lk w0 V2) (hR.kc hrn) (vin i rfl (by omega) (by decide)) hR.2.2.1.1 (by rw [nix i rfl (by omega), ki]; exact hC R r (.inr w) fs nm sp lk w0 V bc bs e _ hJ hn h40 hd hR b1 b2 (fun a V2 v1 v2 v3 => ⟨a, rfl, v1, v2, v3⟩)) (Nat.le_refl _) (Nat.le_refl _) ?_
  rintro v V1 ⟨a, rfl, k1, k2, k3⟩
  rw [nix i rfl (by omega), ki]
  generalize hz : zout E d R nm = z at *
  obtain ⟨o, R2⟩ := z
  have hrs : r ∈ q_s R2 := hJ2.in
  have hlen : ∀ x, x < e_n E → (q_t R2 x).length < 5 := fun x _ => by have : (q_t R2 x).length ≤ 4 := (hJ2.1.2.1.1 x).1; omega
  obtain ⟨t, t1, t2⟩ := (k3.2.2.2.1 r hrn).2.1.2.2.2 hrs w.1 hsp
  refine bX2_readInput_12 (bc1 := 0) (bs1 := 0) (P := fun v V2 => v = some (sR (some t)) ∧ V2 = V1) (k3.kc hrn) (cM_le (by omega) (c_spare_some (d := 0) (k3.kc hrn) (k3.2.2.2.1 r hrn).2.1.1 (hlen r hrn) t1 ⟨rfl, rfl⟩)) (Nat.zero_le _) (Nat.zero_le _) ?_
  rintro v V1' ⟨rfl, rfl⟩
  refine bX2_readInput_18 (bc1 := 0) (bs1 := 0) (P := fun v V2 => v = none ∧ vo V1' V2 ∧ (∀ x, x < e_n E → kB V2 306 (dA D x) = kB V1' 306 (dA D x)) ∧ crep D E R2 (va_up sp r (some (w.1 ++ [(nm, o)]))) lk w0 V2) t2.1 (cM_le (by omega) (c_addRead (d := 0) t2 (by omega) ⟨a, rfl, k2⟩ (fun V2 v1 v2 v3 => ⟨rfl, v1.2.1, fun x hx => (v1.2.2 306 _ (k3.k0 hx) (by decide)).2.2.2, ?_⟩))) (Nat.zero_le _) (Nat.zero_le _) ?_
  · exact k3.write hrn (hlen r hrn) t1 (v1.up (fun f hf y => hf (by simp only [List.mem_cons, List.not_mem_nil, or_false] at y ⊢; omega))) v2 (fun g hg => by cases hg; exact v3) hlen
  rintro v V2 ⟨rfl, v1, v2, v3⟩
  have kv : vk D R V V2 := ⟨k1.1.tr v1, fun x hx => (v2 x (hJ.lt x hx)).trans (k1.2 x hx)⟩
  have hQ := hQ
  obtain ⟨-, -, ⟨q1, q2⟩, -⟩ := (v3.2.2.2.1 r hrn).2.2
  refine bX2_readInput_24 (v3.kc hrn) (fun y => ?_) (fun y => ?_)
  · have nh : ¬ (q_r R2 r).isSome = true := fun hs => by
      obtain ⟨l, hl⟩ := Option.isSome_iff_exists.mp hs
      obtain ⟨b, b1, -⟩ := (q2 l hl).1
      rw [b1] at y
      cases y
    have no : ¬ (¬ o.1 = 0 ∧ e_t E r = true) → cWP (5 * d + e + 4) Fg h0 22 Q 56 [sR (some (dO D)), sR (some (dA D r)), sI (nI i), sI (nI nm), sR (some a)] [] V2 (bc - bc - 0 - 0) (bs - bs - 0 - 0) := fun hx => bX2_readInput_56 (bX2_readInput_57 (hQ _ V2 kv v3 (fun z => absurd z nh) (fun _ => ⟨fun z => absurd z hx, fun _ => rfl⟩)))
    have k2' : kO V2 a = some o := v1 a o k2
    refine bX2_readInput_36 (v3.kc hrn) (fun ys => ?_) (fun ys => ?_)
    · refine no (fun hx => ?_)
      rw [(v3.2.2.2.1 r hrn).1.2.2.2.1, if_pos hx.2] at ys
      cases ys
    · have hst : e_t E r = true := by
        rw [(v3.2.2.2.1 r hrn).1.2.2.2.1] at ys
        exact Classical.byContradiction (fun hx => ys (if_neg hx))
      refine bX2_readInput_43 (bc1 := 0) (bs1 := 0) (P := fun v W => v = some (sI (if o.1 = 0 then 0 else 1)) ∧ W = V2) k2' (cM_le (by omega) (c_isFailure (d := 0) k2' ⟨rfl, rfl⟩)) (Nat.zero_le _) (Nat.zero_le _) ?_
      rintro v W ⟨rfl, rfl⟩
      by_cases ho : o.1 = 0
      · rw [if_pos ho]
        exact bX2_readInput_48 (fun _ => no (fun hx => hx.1 ho)) (fun z => absurd rfl z)
      · rw [if_neg ho]
        refine bX2_readInput_48 (fun z => by cases z) (fun _ => bX2_readInput_51 (bX2_readInput_57 (hQ _ W kv v3 (fun z => absurd z nh) (fun _ => ⟨fun _ => ⟨a, rfl, k2'⟩, fun z => absurd ⟨ho, hst⟩ z⟩))))
  · refine bX2_readInput_31 (v3.kc hrn) ?_
    have hs : (q_r R2 r).isSome = true := by
      cases hq : q_r R2 r with
      | none => exact absurd (q1 hq) y
      | some l => rfl
    obtain ⟨l, hl⟩ := Option.isSome_iff_exists.mp hs
    exact hQ _ V2 kv v3 (fun _ => by rw [zhit_some hl]; exact (q2 l hl).1) (fun z => absurd hs z)
theorem c_firstOther {d : Nat} {Fg : Nat → Prop} {h0 : hp} {V : kV} {bc bs : Nat} {Q : Option sV → kV → Prop} {r k y : Nat} {fs : List (Nat × zP)} (e : Nat) (hC : COut Fg h0 D E d) (hf : e_f E = false) (hJ : zJ E ((r, .inl (k, 0)) :: fs) R) (hk : k < (q_t R r).length) (hy : kB V 306 (dA D r) k = some y) (hd : 24 ≤ d + (q_s R).length) (hR : crep D E R sp lk w0 V) (hr0 : q_r R r = none) {Z : Int32 × zQ} (hZ : zcmp (zout E d) r ((q_t R r).getD k zt0).1 0 R = Z) (b1 : 10 * zU R ≤ bc + 10 * zU Z.2) (b2 : 100 * zU R ≤ bs + 100 * zU Z.2)
    (hQ : ∀ V2, vk D R V V2 → zJ E ((r, .inl (k, 0)) :: fs) Z.2 → zkp R Z.2 → crep D E Z.2 sp lk w0 V2 → (Z.1 = -1 → (q_r Z.2 r).isSome = true) → (¬ Z.1 = -1 → q_r Z.2 r = none) → Q (some (sI Z.1)) V2) : cM (5 * d + e + 6) Fg h0 15 [sR (some (dO D)), sR (some (dA D r)), sR (some y)] V bc bs Q := by
  have hE := hJ.1.1.1
  have hrn : r < e_n E := hJ.lt r hJ.in
  have hrs : r ∈ q_s R := hJ.in
  generalize ht : (q_t R r).getD k zt0 = t at *
  have htm : t ∈ q_t R r := by
    rw [← ht, List.getD_eq_getElem?_getD, List.getElem?_eq_getElem hk]
    exact List.getElem_mem hk
  have htok := ((hJ.1.2.1.1 r).2 t htm)
  have h25 := htok.1
  have h4 := (hJ.1.2.1.1 r).1
  refine cM_of (ls := [sR (some (dO D)), sR (some (dA D r)), sR (some y), sU, sU]) rfl (Nat.le_of_ble_eq_true rfl) rfl ?_
  refine bX2_firstOther_0 ?_
  have loop : ∀ (gs : List zR) (i : Nat) (R1 : zQ) (V1 : kV) (bc bs : Nat) (v4 : sV), gs = t.1.drop i → i ≤ t.1.length → zJ E ((r, .inl (k, i)) :: fs) R1 → zkp R R1 → q_r R1 r = none → crep D E R1 sp lk w0 V1 → vk D R V V1 → zcmp (zout E d) r gs i R1 = Z → 10 * zU R1 ≤ bc + 10 * zU Z.2 → 100 * zU R1 ≤ bs + 100 * zU Z.2 → cWP (5 * d + e + 5) Fg h0 15 Q 2 [sR (some (dO D)), sR (some (dA D r)), sR (some y), sI (nI i), v4] [] V1 bc bs := by
    intro gs
    induction gs with
    | nil =>
      intro i R1 V1 bc bs v4 hg hi hJ1 hkp hr1 hR1 hv hz c1 c2
      have hi2 : t.1.length ≤ i := by
        have := congrArg List.length hg
        simp only [List.length_nil, List.length_drop] at this
        omega
      have eq1 : q_t R1 r = q_t R r := hkp.2 r hrs
      obtain ⟨y', y1, y2, y3⟩ := (hR1.2.2.2.1 r hrn).2.1.2.1 k (by rw [eq1]; exact hk)
      rw [hv.2 r hrs, hy] at y1
      cases y1
      rw [eq1, ht] at y2
      have hz : ((-2 : Int32), R1) = Z := hz
      subst hz
      refine bX2_firstOther_2 y2.1 (fun _ => bX2_firstOther_61 (hQ V1 hv ⟨zWF_fr hJ1.1 (.inr ⟨by show k ≤ _; rw [eq1]; omega, Nat.zero_le _⟩) (fun w z => by cases z), hJ1.2.top (fun k' i' z => by cases z; exact ⟨_, _, rfl, Nat.le_refl _⟩)⟩ hkp hR1 (fun z => absurd (show (-2 : Int32) = -1 from z) (by decide)) (fun _ => hr1))) (fun z => absurd (by rw [y2.2.1]; exact nI_le (by omega) (by omega)) z)
    | cons g gs ih =>
      intro i R1 V1 bc bs v4 hg hi hJ1 hkp hr1 hR1 hv hz c1 c2
      have hgi : t.1[i]? = some g := by
        have := congrArg (fun l => l[0]?) hg
        simpa using this.symm
      have hgs : gs = t.1.drop (i + 1) := by
        have := congrArg List.tail hg
        simpa using this
      have hil := (List.getElem?_eq_some_iff.mp hgi).1
      have hgd : t.1.getD i zr0 = g := by rw [List.getD_eq_getElem?_getD, hgi]; rfl
      have hgm := htok.2.1 g (List.mem_of_getElem? hgi)
      have eq1 : q_t R1 r = q_t R r := hkp.2 r hrs
      have es1 : q_s R1 = q_s R := hkp.1
      obtain ⟨y', y1, y2, y3⟩ := (hR1.2.2.2.1 r hrn).2.1.2.1 k (by rw [eq1]; exact hk)
      rw [hv.2 r hrs, hy] at y1
      cases y1
      rw [eq1, ht] at y2
      have hnm : zname E R1 r (.inl (k, i)) = some g.1 := by
        simp only [zname, hf]
        rw [if_neg (by rw [eq1]; simp; omega), eq1, ht, hgi]
        rfl
      obtain ⟨hJ2, hkp2, hok⟩ := zcall hJ1 (by rw [es1]; exact hd) hnm
      have hu := zU_out (E := E) d R1 g.1
      have huZ : zU Z.2 ≤ zU (zout E d R1 g.1).2 := by
        rw [← hz, zcmp]
        split
        · exact Nat.le_refl _
        · split
          · exact zU_cmp (zU_out d) r gs _ _
          · exact Nat.le_refl _
      refine bX2_firstOther_2 y2.1 (fun z => absurd z (by rw [y2.2.1]; exact nI_ge hil (by omega))) (fun _ => ?_)
      have hl1 := hR1.looked rfl
      have y2' : cTr (uI V1 205 (dO D) (kI V1 205 (dO D) + 1)) y t.1 := y2.cg (vex.i 205 (dO D) _) (by decide)
      refine bX2_firstOther_10 (bc1 := 0) (bs1 := 0) (P := fun v W => v = some (sI (nI g.1)) ∧ W = uI V1 205 (dO D) (kI V1 205 (dO D) + 1)) hR1.2.2.1.1 y2.1 (cM_le (by omega) (c_nameAt (d := 0) (n := t.1.length) y2'.1 y2'.2.1 h25 ⟨?_, rfl⟩)) (Nat.zero_le _) (Nat.zero_le _) ?_
      · rw [zdec_nI (by omega) hil]
        show some (sI (kA (uI V1 205 (dO D) (kI V1 205 (dO D) + 1)) 502 y i)) = _
        rw [(y2'.2.2 i hil).1, hgd]
      rintro v W ⟨rfl, rfl⟩
      have kv1 : vk D R V (uI V1 205 (dO D) (kI V1 205 (dO D) + 1)) := hv
      refine bX2_firstOther_26 (bc1 := 10 * zU R1 - 10 * zU (zout E d R1 g.1).2) (bs1 := 100 * zU R1 - 100 * zU (zout E d R1 g.1).2) (P := fun v V2 => ∃ a, v = some (sR (some a)) ∧ vk D R1 (uI V1 205 (dO D) (kI V1 205 (dO D) + 1)) V2 ∧ kO V2 a = some (zout E d R1 g.1).1 ∧ crep D E (zout E d R1 g.1).2 sp (lk + 1) w0 V2) hl1.2.2.1.1 (cM_le (by omega) (hC R1 r (.inl (k, i)) fs g.1 sp (lk + 1) w0 _ _ _ 0 _ hJ1 hnm hgm.2 (by rw [es1]; exact hd) hl1 (by omega) (by omega) (fun a V2 v1 v2 v3 => ⟨a, rfl, v1, v2, v3⟩))) (by omega) (by omega) ?_
      rintro v V2 ⟨a, rfl, v1, v2, v3⟩
      have v3 := v3.unlook
      rw [zcmp] at hz
      generalize zout E d R1 g.1 = z at *
      obtain ⟨o, R2⟩ := z
      have hv2 : vk D R V V2 := kv1.tr v1 (fun x hx => by rw [es1]; exact hx)
      have hkp3 : zkp R (q_look R2) := hkp.tr hkp2
      have eq2 : q_t (q_look R2) r = q_t R r := hkp3.2 r hrs
      have hJ3 : zJ E ((r, .inl (k, i)) :: fs) (q_look R2) := hJ2
      have hJk : zJ E ((r, .inl (k, 0)) :: fs) (q_look R2) := ⟨zWF_fr hJ3.1 (.inr ⟨by show k ≤ _; rw [eq2]; omega, Nat.zero_le _⟩) (fun w z => by cases z), hJ3.2.top (fun k' i' z => by cases z; exact ⟨_, _, rfl, Nat.le_refl _⟩)⟩
      obtain ⟨-, -, ⟨q1, q2⟩, -⟩ := (v3.2.2.2.1 r hrn).2.2
      obtain ⟨y'', u1, u2, u3⟩ := (v3.2.2.2.1 r hrn).2.1.2.1 k (by rw [eq2]; exact hk)
      rw [hv2.2 r hrs, hy] at u1
      cases u1
      rw [eq2, ht] at u2
      refine bX2_firstOther_29 (v3.kc hrn) (fun yn => ?_) (fun yn => ?_)
      · have nh : q_r (q_look R2) r = none := by
          cases hq : q_r (q_look R2) r with
          | none => rfl
          | some l =>
            obtain ⟨b, b1, -⟩ := (q2 l hq).1
            rw [b1] at yn
            cases yn
        rw [if_neg (by rw [nh]; simp)] at hz
        obtain ⟨w, w1, w2⟩ := (u2.2.2 i hil).2
        rw [hgd] at w2
        refine bX2_firstOther_40 (bc1 := 0) (bs1 := 0) (P := fun v W => v = some (sR (some w)) ∧ W = V2) u2.1 (cM_le (by omega) (c_outcomeAt (d := 0) (n := t.1.length) u2.1 u2.2.1 h25 ⟨?_, rfl⟩)) (Nat.zero_le _) (Nat.zero_le _) ?_
        · rw [zdec_nI (by omega) hil]
          show some (sR (kB V2 503 y i)) = _
          rw [w1]
        rintro v W ⟨rfl, rfl⟩
        refine bX2_firstOther_47 (bc1 := 0) (bs1 := 0) (P := fun v V => v = some (sI (if o = g.2 then 1 else 0)) ∧ V = W) v2 (cM_le (by omega) (c_isSameAs (d := 0) v2 ⟨w, rfl, w2⟩ hok.1 hgm.1.1 ⟨rfl, rfl⟩)) (Nat.zero_le _) (Nat.zero_le _) ?_
        rintro v V' ⟨rfl, rfl⟩
        by_cases he : o = g.2
        · rw [if_pos he] at hz ⊢
          refine bX2_firstOther_50 (fun _ => bX2_firstOther_55 ?_) (fun z => by cases z)
          rw [nI_1]
          refine ih (i + 1) (q_look R2) V' _ _ _ hgs (by omega) ⟨zWF_fr hJ3.1 (.inr ⟨by show k ≤ _; rw [eq2]; omega, by show i + 1 ≤ ((q_t (q_look R2) r).getD k zt0).1.length; rw [eq2, ht]; omega⟩) (fun w z => by cases z), hJ3.2.top (fun k' i' z => by cases z; exact ⟨_, _, rfl, Nat.le_refl _⟩)⟩ hkp3 nh v3 hv2 hz ?_ ?_
          · show 10 * zU R2 ≤ _; have hu : zU R2 ≤ zU R1 := hu; have huZ : zU Z.2 ≤ zU R2 := huZ; show 10 * zU R2 ≤ bc - 0 - (10 * zU R1 - 10 * zU R2) - 0 - 0 + 10 * zU Z.2; omega
          · show 100 * zU R2 ≤ _; have hu : zU R2 ≤ zU R1 := hu; have huZ : zU Z.2 ≤ zU R2 := huZ; show 100 * zU R2 ≤ bs - 0 - (100 * zU R1 - 100 * zU R2) - 0 - 0 + 100 * zU Z.2; omega
        · rw [if_neg he] at hz ⊢
          refine bX2_firstOther_50 (fun z => absurd rfl z) (fun _ => bX2_firstOther_53 ?_)
          subst hz
          exact hQ V' hv2 hJk hkp3 v3 (fun z => absurd z (znI_ne (by omega)).1) (fun _ => nh)
      · have hs : (q_r (q_look R2) r).isSome = true := by
          cases hq : q_r (q_look R2) r with
          | none => exact absurd (q1 hq) yn
          | some l => rfl
        rw [if_pos hs] at hz
        subst hz
        exact bX2_firstOther_38 (hQ V2 hv2 hJk hkp3 v3 (fun _ => hs) (fun z => absurd rfl z))
  exact loop t.1 0 R V bc bs _ (by rw [List.drop_zero]) (Nat.zero_le _) hJ zkp.rf hr0 hR vk.rf hZ b1 b2
end
