theorem zfl_snoc (gs : List zR) (g : zR) : zfl (gs ++ [g]) = zfl gs ++ g.2.2.2 := by
  unfold zfl
  rw [List.flatMap_append]
  simp
theorem vex.n {V : kV} {y : Nat} (hy : ¬ kD V y) : vex [] V (uN V y 2) := by
  have n1 : ∀ a, kC V a ≠ 0 → a ≠ y := fun a ha e => hy (.inl (by rw [← e]; exact ha))
  exact ⟨fun a ha => ⟨va_up_ne _ _ (n1 a ha), fun f => rfl⟩, fun _ _ h => h, fun f a ha _ => ⟨if_neg (n1 a ha), if_neg (n1 a ha), rfl, rfl⟩⟩
/-- what comes of a work, when no more is read -/
def zfin (E : zE) (r : Nat) (w : zW) (R : zQ) : zO × zQ := (zend (e_k E r) w, if e_f E = true then R else q_tr R r (zkeep (q_t R r) (w.1, zend (e_k E r) w)))
theorem zwork_end {f : zF} {E : zE} {r n : Nat} {w : zW} {R : zQ} (h : znext (e_k E r) (e_i E r) w = none) : zwork f E r (n + 1) w R = zfin E r w R := by
  rw [zwork, h]
  rfl
theorem zU_fin {E : zE} {r : Nat} {w : zW} {R : zQ} : zU (zfin E r w R).2 = zU R := by
  unfold zfin
  dsimp only
  split <;> rfl
/-- what the two ways of reading come to -/
def cWq (D : cD) (E : zE) (R : zQ) (sp : Nat → Option (List zR)) (lk w0 : Int32) (V : kV) (r : Nat) (Z : zO × zQ) (Q : Option sV → kV → Prop) : Prop :=
  (∀ a V2 R2, vk D R V V2 → zkp R R2 → zQok E R2 → q_m R2 r = none → (q_r R2 r).isSome = true → Z = (zhit R2 r, R2) → kO V2 a = some (zhit R2 r) → crep D E R2 (va_up sp r none) lk w0 V2 → Q (some (sR (some a))) V2) ∧
  (∀ a V2 R2 w, vk D R V V2 → zkp R R2 → zQok E R2 → q_m R2 r = none → q_r R2 r = none → Z = zfin E r w R2 → kO V2 a = some (zend (e_k E r) w) → crep D E R2 (va_up sp r (some w.1)) lk w0 V2 → Q (some (sR (some a))) V2)
theorem crep.drop {D : cD} {E : zE} {R : zQ} {sp : Nat → Option (List zR)} {lk w0 : Int32} {V : kV} {r : Nat} {gs : Option (List zR)} (h : crep D E R (va_up sp r gs) lk w0 V) : crep D E R (va_up sp r none) lk w0 V := by
  refine h.spl (fun x _ => ?_)
  by_cases e : x = r
  · left; rw [e, va_up_self]
  · right; rw [va_up_ne _ _ e, va_up_ne _ _ e]
/-- a work whose row is that of its reads -/
def zwj (k : Int32) (w : zW) : Prop := w.2.2.2.2.1 = 0 ∧ (k = 2 → w.2.2.1 = zadd 0 (zfl w.1)) ∧ (¬ k = 2 → w.2.1 = zfl w.1 ∧ (zfl w.1).length ≤ 24)
theorem zend_row {k : Int32} {w : zW} (h : zwj k w) : zend k w = (0, 0, zrow k w.1) := by
  unfold zend zrow
  rw [if_neg (by rw [h.1]; simp)]
  by_cases h2 : k = 2
  · rw [if_pos h2, if_pos h2, h.2.1 h2]
  · rw [if_neg h2, if_neg h2, (h.2.2 h2).1]
    split <;> rfl
section
variable {D : cD} {E : zE} {R : zQ} {sp : Nat → Option (List zR)} {lk w0 : Int32}
theorem c_inOrder_end {d : Nat} {Fg : Nat → Prop} {h0 : hp} {V : kV} {bc bs : Nat} {Q : Option sV → kV → Prop} {r y : Nat} {w : zW} {v3 v4 v5 : sV} (hd : 4 ≤ d) (h : crep D E R sp lk w0 V) (hr : r < e_n E) (ht : cTr V y w.1) (hw : zwok w) (hj : zwj (e_k E r) w) (hbc : 2 ≤ bc) (hbs : 27 ≤ bs) (hQ : ∀ a V2, vex [] V V2 → kO V2 a = some (zend (e_k E r) w) → Q (some (sR (some a))) V2) : cWP d Fg h0 18 Q 85 [sR (some (dO D)), sR (some (dA D r)), sR (some y), v3, v4, v5] [] V bc bs := by
  obtain ⟨d, rfl⟩ : ∃ d', d = d' + 4 := ⟨d - 4, by omega⟩
  refine bX2_readInOrder_85 (by omega) (by omega) (fun x hx => ?_)
  have vn := vex.n hx
  have c1 : kC (uN V x 2) (dA D r) = 4 := (vn.1 _ (h.k0 hr)).1.trans (h.kc hr)
  have e1 : kI (uN V x 2) 301 (dA D r) = e_k E r := (vn.2.2 301 _ (h.k0 hr) List.not_mem_nil).1.trans (h.2.2.2.1 r hr).1.2.2.1
  have hr24 : ∀ g ∈ w.1, g.2.2.2.length ≤ 24 := fun g hg => (hw.2.1 g hg).1.1
  refine bX2_readInOrder_88 (bc1 := 1) (bs1 := 24) (P := fun v V2 => ∃ b g, v = some (sR (some b)) ∧ vex [] (uN V x 2) V2 ∧ kW V2 b = some ((zrow (e_k E r) w.1).length, g) ∧ ∀ j, j < (zrow (e_k E r) w.1).length → g j = (zrow (e_k E r) w.1).getD j 0) c1 (by rw [e1]; exact cM_le (by omega) (c_rowOf (d := 0) (ht.cg vn (by decide)) hw.1 hr24 (fun h2 => (hj.2.2 h2).2) (Nat.le_refl _) (Nat.le_refl _) (fun b g V2 v1 v2 v3 => ⟨b, g, rfl, v1, v2, v3⟩))) (by omega) (by omega) ?_
  rintro v V2 ⟨b, g, rfl, v1, v2, v3⟩
  have cx : kC V2 x = 2 := by
    have : kC (uN V x 2) x = 2 := va_up_self _ _ _
    rw [(v1.1 x (by rw [this]; decide)).1]
    exact this
  refine bX2_readInOrder_99 (bc1 := 0) (bs1 := 0) (P := fun v W => v = none ∧ W = uDone V2 x (0, 0, zrow (e_k E r) w.1) b) (cM_le (by omega) (c_Oinit (d := 0) (o := (0, 0, zrow (e_k E r) w.1)) cx v2 rfl v3 ⟨rfl, rfl⟩)) (Nat.zero_le _) (Nat.zero_le _) ?_
  rintro v W ⟨rfl, rfl⟩
  obtain ⟨u1, u2⟩ := vex.done (o := (0, 0, zrow (e_k E r) w.1)) (b := b) hx v1
  refine bX2_readInOrder_102 (hQ x _ u1 ?_)
  rw [zend_row hj]
  exact u2
theorem c_readInOrder {d : Nat} {Fg : Nat → Prop} {h0 : hp} {V : kV} {bc bs : Nat} {Q : Option sV → kV → Prop} {r y : Nat} {fs : List (Nat × zP)} (e : Nat) (hC : COut Fg h0 D E d) (hk : e_k E r < 5) (hJ : zJ E ((r, .inr zw0) :: fs) R) (hy : kB V 306 (dA D r) (q_t R r).length = some y) (hd : 24 ≤ d + (q_s R).length) (hR : crep D E R (va_up sp r (some [])) lk w0 V) (hr0 : q_r R r = none) {Z : zO × zQ} (hZ : zwork (zout E d) E r 30 zw0 R = Z) (b1 : 2 + 10 * zU R ≤ bc + 10 * zU Z.2) (b2 : 27 + 100 * zU R ≤ bs + 100 * zU Z.2) (hQ : cWq D E R sp lk w0 V r Z Q) : cM (5 * d + e + 6) Fg h0 18 [sR (some (dO D)), sR (some (dA D r))] V bc bs Q := by
  have hE := hJ.1.1.1
  have hrn : r < e_n E := hJ.lt r hJ.in
  have hrs : r ∈ q_s R := hJ.in
  have hl4 := (hJ.1.2.1.1 r).1
  have h6 := hJ.1.1.2.2.1 r
  refine cM_of (ls := [sR (some (dO D)), sR (some (dA D r)), sU, sU, sU, sU]) rfl (Nat.le_of_ble_eq_true rfl) rfl ?_
  refine bX2_readInOrder_0 (bc1 := 0) (bs1 := 0) (P := fun v W => v = some (sR (some y)) ∧ W = V) (hR.kc hrn) (cM_le (by omega) (c_spare_some (d := 0) (hR.kc hrn) (hR.2.2.2.1 r hrn).2.1.1 (by omega) hy ⟨rfl, rfl⟩)) (Nat.zero_le _) (Nat.zero_le _) ?_
  rintro v W ⟨rfl, rfl⟩
  refine bX2_readInOrder_4 ?_
  have loop : ∀ (n : Nat) (w : zW) (R1 : zQ) (V1 : kV) (bc bs : Nat) (v5 : sV), 28 ≤ n + w.1.length → zJ E ((r, .inr w) :: fs) R1 → zkp R R1 → q_r R1 r = none → zwj (e_k E r) w → w.2.2.2.1 = false → (e_k E r = 4 → zfl w.1 = []) → w.1.length ≤ (e_i E r).length → crep D E R1 (va_up sp r (some w.1)) lk w0 V1 → vk D R W V1 → zwork (zout E d) E r n w R1 = Z → 2 + 10 * zU R1 ≤ bc + 10 * zU Z.2 → 27 + 100 * zU R1 ≤ bs + 100 * zU Z.2 → cWP (5 * d + e + 5) Fg h0 18 Q 10 [sR (some (dO D)), sR (some (dA D r)), sR (some y), sI (nI (zfl w.1).length), sI (nI w.1.length), v5] [] V1 bc bs := by
    intro n
    induction n with
    | zero =>
      intro w R1 V1 bc bs v5 hn hJ1
      have := (hJ1.1.2.2.1 _ List.mem_cons_self).1.1
      omega
    | succ n ih =>
      intro w R1 V1 bc bs v5 hn hJ1 hkp hr1 hj he h4 hwl hR1 hv hz c1 c2
      have hw := (hJ1.1.2.2.1 _ List.mem_cons_self).1
      have eq1 : q_t R1 r = q_t R r := hkp.2 r hrs
      have es1 : q_s R1 = q_s R := hkp.1
      have hm1 : q_m R1 r = none := hJ1.1.2.2.2.2.1 r (by rw [es1]; exact hrs)
      have kin := (hR1.2.2.2.1 r hrn).1.2.2.2.2.1
      have kkd := (hR1.2.2.2.1 r hrn).1.2.2.1
      have trc : ∀ (R2 : zQ) (V2 : kV) (gs : List zR), zkp R R2 → vk D R W V2 → crep D E R2 (va_up sp r (some gs)) lk w0 V2 → cTr V2 y gs := fun R2 V2 gs k1 k2 k3 => by
        obtain ⟨t, t1, t2⟩ := (k3.2.2.2.1 r hrn).2.1.2.2.2 (by rw [k1.1]; exact hrs) gs (va_up_self _ _ _)
        rw [k1.2 r hrs, k2.2 r hrs, hy] at t1
        cases t1
        exact t2
      have hnx : znext (e_k E r) (e_i E r) w = (e_i E r)[w.1.length]? := by
        unfold znext
        rw [he]
        simp only [Bool.false_eq_true, if_false]
        rw [if_pos hk]
      have hgl : (zfl w.1).length ≤ 600 := by
        have : ∀ (gs : List zR), (∀ g ∈ gs, g.2.2.2.length ≤ 24) → (zfl gs).length ≤ 24 * gs.length := by
          intro gs
          induction gs with
          | nil => intro _; exact Nat.le_refl _
          | cons g gs ig =>
            intro hg
            have h1 := ig (fun x hx => hg x (List.mem_cons_of_mem _ hx))
            have h2 := hg g List.mem_cons_self
            rw [zfl_cons, List.length_append, List.length_cons]
            omega
        have := this w.1 (fun g hg => (hw.2.1 g hg).1.1)
        have := hw.1
        omega
      by_cases hi : w.1.length < (e_i E r).length
      · have hnm : znext (e_k E r) (e_i E r) w = some (e_i E r)[w.1.length] := by rw [hnx, List.getElem?_eq_getElem hi]
        have hnm2 : (e_i E r)[w.1.length]? = some (e_i E r)[w.1.length] := List.getElem?_eq_getElem hi
        generalize (e_i E r)[w.1.length] = nm at hnm hnm2
        obtain ⟨hJ2, hkp2, hok⟩ := zcall hJ1 (by rw [es1]; exact hd) hnm
        obtain ⟨h24, hmem⟩ := znext_lt hnm h6 hw
        have h40 := hJ1.1.1.2.2.2 r nm hmem
        have hu := zU_out (E := E) d R1 nm
        have huZ : zU Z.2 ≤ zU (zout E d R1 nm).2 := by
          rw [← hz, zwork, hnm]
          dsimp only
          split
          · exact Nat.le_refl _
          · exact zU_work (zU_out d) r n _ _
        refine bX2_readInOrder_10 (hR1.kc hrn) (fun z => absurd z (by rw [kin]; exact nI_ge hi (by omega))) (fun _ => ?_)
        refine bX2_readInOrder_19 (bc1 := 10 * zU R1 - 10 * zU (zout E d R1 nm).2) (bs1 := 100 * zU R1 - 100 * zU (zout E d R1 nm).2) hR1.2.2.1.1 (c_readInput e hC hJ1 hnm hnm2 (by rw [es1]; exact hd) hR1 (va_up_self _ _ _) (by omega) (by omega) (fun v V2 v1 v2 v3 v4 => ?_)) (by omega) (by omega) (P := fun v V2 => ∃ v', v = some (sR v') ∧ vk D R1 V1 V2 ∧ crep D E (zout E d R1 nm).2 (va_up sp r (some (w.1 ++ [(nm, (zout E d R1 nm).1)]))) lk w0 V2 ∧ ((q_r (zout E d R1 nm).2 r).isSome = true → cO V2 v' (zhit (zout E d R1 nm).2 r)) ∧ (¬ (q_r (zout E d R1 nm).2 r).isSome = true → (¬ (zout E d R1 nm).1.1 = 0 ∧ e_t E r = true → cO V2 v' (zout E d R1 nm).1) ∧ (¬ (¬ (zout E d R1 nm).1.1 = 0 ∧ e_t E r = true) → v' = none))) ?_
        · rw [va_upup] at v2
          exact ⟨v, rfl, v1, v2, v3, v4⟩
        rintro v0 V2 ⟨v, rfl, v1, v2, v3, v4⟩
        rw [zwork, hnm] at hz
        dsimp only at hz
        generalize hzo : zout E d R1 nm = zz at *
        obtain ⟨o, R2⟩ := zz
        have hv2 : vk D R W V2 := hv.tr v1 (fun x hx => by rw [es1]; exact hx)
        have hkp3 : zkp R R2 := hkp.tr hkp2
        have hm2 : q_m R2 r = none := hJ2.1.2.2.2.2.1 r (by show r ∈ q_s R2; rw [hkp3.1]; exact hrs)
        have hq2 : zQok E R2 := hJ2.1.2.1
        by_cases hh : (q_r R2 r).isSome = true
        · rw [if_pos hh] at hz
          obtain ⟨a, rfl, a2⟩ := v3 hh
          exact bX2_readInOrder_26 (fun z => by cases z) (fun _ => bX2_readInOrder_33 (hQ.1 a V2 R2 hv2 hkp3 hq2 hm2 hh hz.symm a2 v2.drop))
        · rw [if_neg hh] at hz
          have nh : q_r R2 r = none := by
            cases hq : q_r R2 r with
            | none => rfl
            | some l => rw [hq] at hh; exact absurd rfl hh
          obtain ⟨t1, t2⟩ := ztake_ok (k := e_k E r) (t := e_t E r) (r := r) hw h24 hok h40
          have n1 : ∃ n', n = n' + 1 := ⟨n - 1, by have := hw.1; omega⟩
          obtain ⟨n', hn'⟩ := n1
          by_cases hs : ¬ o.1 = 0 ∧ e_t E r = true
          · obtain ⟨a, rfl, a2⟩ := (v4 hh).1 hs
            have ew : ztake (e_k E r) (e_t E r) r w nm o = (w.1 ++ [(nm, o)], w.2.1, w.2.2.1, true, o.1, o.2.1) := by unfold ztake; rw [if_pos hs]
            rw [ew, hn', zwork_end (by unfold znext; rw [if_pos rfl])] at hz
            have ez : zend (e_k E r) (w.1 ++ [(nm, o)], w.2.1, w.2.2.1, true, o.1, o.2.1) = o := by
              unfold zend
              rw [if_pos hs.1]
              show (o.1, o.2.1, ([] : List Int32)) = o
              rw [← hok.2.1 hs.1]
            refine bX2_readInOrder_26 (fun z => by cases z) (fun _ => bX2_readInOrder_33 (hQ.2 a V2 R2 _ hv2 hkp3 hq2 hm2 nh hz.symm (by rw [ez]; exact a2) v2))
          · have hvn := (v4 hh).2 hs
            subst hvn
            have ty : cTr V2 y (w.1 ++ [(nm, o)]) := trc R2 V2 _ hkp3 hv2 v2
            have hlen : (w.1 ++ [(nm, o)]).length = w.1.length + 1 := by rw [List.length_append]; rfl
            have hgd : (w.1 ++ [(nm, o)]).getD w.1.length zr0 = (nm, o) := by
              rw [List.getD_eq_getElem?_getD, List.getElem?_append_right (Nat.le_refl _), Nat.sub_self]
              rfl
            have hzl : zfl (w.1 ++ [(nm, o)]) = zfl w.1 ++ o.2.2 := zfl_snoc _ _
            have ho24 := hok.1
            have ho24 : o.2.2.length ≤ 24 := ho24
            refine bX2_readInOrder_26 (fun _ => ?_) (fun z => absurd rfl z)
            refine bX2_readInOrder_36 (bc1 := 0) (bs1 := 0) (P := fun v W2 => v = some (sI (nI o.2.2.length)) ∧ W2 = V2) ty.1 (cM_le (by omega) (c_lengthAt (d := 0) ty (by rw [hlen]; omega) (by rw [hlen]; omega) ⟨by rw [hgd], rfl⟩)) (Nat.zero_le _) (Nat.zero_le _) ?_
            rintro v W2 ⟨rfl, rfl⟩
            have kk2 : kI W2 301 (dA D r) = e_k E r := (v2.2.2.2.1 r hrn).1.2.2.1
            have c1' : 2 + 10 * zU R2 ≤ bc - (10 * zU R1 - 10 * zU R2) - 0 + 10 * zU Z.2 := by
              have hu : zU R2 ≤ zU R1 := hu
              have huZ : zU Z.2 ≤ zU R2 := huZ
              omega
            have c2' : 27 + 100 * zU R2 ≤ bs - (100 * zU R1 - 100 * zU R2) - 0 + 100 * zU Z.2 := by
              have hu : zU R2 ≤ zU R1 := hu
              have huZ : zU Z.2 ≤ zU R2 := huZ
              omega
            generalize hbc' : bc - (10 * zU R1 - 10 * zU (o, R2).2) - 0 = bc' at *
            generalize hbs' : bs - (100 * zU R1 - 100 * zU (o, R2).2) - 0 = bs' at *
            have hJ3 : zfok E R2 (r, .inr (ztake (e_k E r) (e_t E r) r w nm o)) → zJ E ((r, .inr (ztake (e_k E r) (e_t E r) r w nm o)) :: fs) R2 := fun hf => ⟨zWF_fr hJ2.1 hf (fun w2 _ => ⟨_, rfl⟩), hJ2.2.top (fun k' i' z => by cases z)⟩
            have hJ4 := hJ3 ⟨t1, .inr (fun z => by rw [z] at hmem; cases hmem)⟩
            -- going on
            have go : ∀ (v5 : sV), (ztake (e_k E r) (e_t E r) r w nm o).2.2.2.1 = false → zwj (e_k E r) (ztake (e_k E r) (e_t E r) r w nm o) → (e_k E r = 4 → zfl (w.1 ++ [(nm, o)]) = []) → cWP (5 * d + e + 5) Fg h0 18 Q 79 [sR (some (dO D)), sR (some (dA D r)), sR (some y), sI (nI (zfl w.1).length + nI o.2.2.length), sI (nI w.1.length), v5] [] W2 bc' bs' := fun v5 g1 g2 g3 => by
              refine bX2_readInOrder_79 ?_
              rw [nI_add, nI_1, ← List.length_append, ← hzl, ← hlen]
              have := ih (ztake (e_k E r) (e_t E r) r w nm o) R2 W2 bc' bs' v5 (by rw [t2, hlen]; omega) hJ4 hkp3 nh g2 g1 (by rw [t2]; exact g3) (by rw [t2, hlen]; omega) (by rw [t2]; exact v2) hv2 hz c1' c2'
              rw [t2] at this
              exact this
            -- ending with a row
            have fin : ∀ (v3 v4 v5 : sV), znext (e_k E r) (e_i E r) (ztake (e_k E r) (e_t E r) r w nm o) = none → zwj (e_k E r) (ztake (e_k E r) (e_t E r) r w nm o) → cWP (5 * d + e + 5) Fg h0 18 Q 85 [sR (some (dO D)), sR (some (dA D r)), sR (some y), v3, v4, v5] [] W2 bc' bs' := fun v3 v4 v5 g1 g2 => by
              have hz2 := hz
              rw [hn', zwork_end g1] at hz2
              have ezu : zU Z.2 = zU R2 := by rw [← hz2]; exact zU_fin
              refine c_inOrder_end (w := ztake (e_k E r) (e_t E r) r w nm o) (by omega) v2 hrn (by rw [t2]; exact ty) t1 g2 (by omega) (by omega) (fun a V3 u1 u2 => hQ.2 a V3 R2 _ (hv2.tr (R1 := R2) (vk.vex v2 hJ2.lt u1 List.not_mem_nil) (fun x hx => by rw [hkp3.1]; exact hx)) hkp3 hq2 hm2 nh hz2.symm u2 (by rw [t2]; exact v2.le u1))
            by_cases k2 : e_k E r = 2
            · have ew : ztake (e_k E r) (e_t E r) r w nm o = (w.1 ++ [(nm, o)], w.2.1, zadd w.2.2.1 o.2.2, w.2.2.2) := by unfold ztake; rw [if_neg hs, if_pos k2]
              refine bX2_readInOrder_43 (v2.kc hrn) (fun _ => ?_) (fun z => absurd (kk2.symm.trans z) (by rw [k2]; decide))
              refine bX2_readInOrder_60 (v2.kc hrn) (fun _ => ?_) (fun z => absurd (kk2.trans k2) z)
              refine go _ (by rw [ew]; exact he) ?_ (fun z => absurd (k2.symm.trans z) (by decide))
              rw [ew]
              refine ⟨hj.1, fun _ => ?_, fun z => absurd k2 z⟩
              show zadd w.2.2.1 o.2.2 = zadd 0 (zfl (w.1 ++ [(nm, o)]))
              rw [hzl, zadd_app, ← hj.2.1 k2]
            · obtain ⟨j1, j2⟩ := hj.2.2 k2
              by_cases hlong : 24 < (zfl w.1).length + o.2.2.length
              · have ew : ztake (e_k E r) (e_t E r) r w nm o = (w.1 ++ [(nm, o)], w.2.1, w.2.2.1, true, 2, nI r) := by unfold ztake; rw [if_neg hs, if_neg k2, if_pos (Or.inl hk), j1, if_pos hlong]
                have k4 : ¬ e_k E r = 4 := fun z => by rw [h4 z] at hlong; simp at hlong; omega
                refine bX2_readInOrder_43 (v2.kc hrn) (fun _ => ?_) (fun z => absurd (kk2.symm.trans z) k4)
                refine bX2_readInOrder_60 (v2.kc hrn) (fun z => absurd (kk2.symm.trans z) k2) (fun _ => ?_)
                refine bX2_readInOrder_68 (fun z => ?_) (fun _ => ?_)
                · rw [nI_add, show (24 : Int32) = nI 24 from rfl, nI_leI (by omega) (by omega)] at z
                  omega
                · refine bX2_readInOrder_74 (v2.kc hrn) ?_
                  obtain ⟨a, a1, a2⟩ := (v2.2.2.2.1 r hrn).1.2.2.2.2.2.2.1
                  rw [a1]
                  rw [ew, hn', zwork_end (by unfold znext; rw [if_pos rfl])] at hz
                  exact hQ.2 a W2 R2 _ hv2 hkp3 hq2 hm2 nh hz.symm a2 v2
              · have ew : ztake (e_k E r) (e_t E r) r w nm o = (w.1 ++ [(nm, o)], w.2.1 ++ o.2.2, w.2.2.1, (w.2.2.2.1 || (e_k E r == 4 && 0 < o.2.2.length)), w.2.2.2.2) := by unfold ztake; rw [if_neg hs, if_neg k2, if_pos (Or.inl hk), j1, if_neg hlong]
                have gj : zwj (e_k E r) (ztake (e_k E r) (e_t E r) r w nm o) := by
                  rw [ew]
                  refine ⟨hj.1, fun z => absurd z k2, fun _ => ⟨?_, ?_⟩⟩
                  · show w.2.1 ++ o.2.2 = zfl (w.1 ++ [(nm, o)])
                    rw [hzl, j1]
                  · show (zfl (w.1 ++ [(nm, o)])).length ≤ 24
                    rw [hzl, List.length_append]
                    omega
                have tail : ∀ (v5 : sV), (ztake (e_k E r) (e_t E r) r w nm o).2.2.2.1 = false → (e_k E r = 4 → zfl (w.1 ++ [(nm, o)]) = []) → cWP (5 * d + e + 5) Fg h0 18 Q 60 [sR (some (dO D)), sR (some (dA D r)), sR (some y), sI (nI (zfl w.1).length + nI o.2.2.length), sI (nI w.1.length), v5] [] W2 bc' bs' := fun v5 g1 g3 => by
                  refine bX2_readInOrder_60 (v2.kc hrn) (fun z => absurd (kk2.symm.trans z) k2) (fun _ => ?_)
                  refine bX2_readInOrder_68 (fun _ => go _ g1 gj g3) (fun z => absurd ?_ z)
                  rw [nI_add, show (24 : Int32) = nI 24 from rfl, nI_leI (by omega) (by omega)]
                  omega
                by_cases k4 : e_k E r = 4
                · have hz0 := h4 k4
                  refine bX2_readInOrder_43 (v2.kc hrn) (fun z => absurd (kk2.trans k4) z) (fun _ => ?_)
                  by_cases ho0 : 0 < o.2.2.length
                  · refine bX2_readInOrder_53 (fun z => ?_) (fun _ => bX2_readInOrder_57 (fin _ _ _ ?_ gj))
                    · rw [nI_add, hz0] at z
                      exact absurd z (nI_nle (by simp; omega) (by simp; omega))
                    · unfold znext
                      rw [ew]
                      rw [if_pos (by show (w.2.2.2.1 || (e_k E r == 4 && 0 < o.2.2.length)) = true; rw [k4]; simp [ho0])]
                  · have ho0 : o.2.2 = [] := List.eq_nil_of_length_eq_zero (by omega)
                    refine bX2_readInOrder_53 (fun _ => tail _ (by rw [ew]; show (w.2.2.2.1 || (e_k E r == 4 && 0 < o.2.2.length)) = false; rw [he, ho0]; simp) (fun _ => by rw [hzl, hz0, ho0]; rfl)) (fun z => absurd ?_ z)
                    rw [hz0, ho0]
                    decide
                · refine bX2_readInOrder_43 (v2.kc hrn) (fun _ => tail _ ?_ (fun z => absurd z k4)) (fun z => absurd (kk2.symm.trans z) k4)
                  rw [ew]
                  show (w.2.2.2.1 || (e_k E r == 4 && 0 < o.2.2.length)) = false
                  rw [he]
                  simp [k4]
      · have hnm : znext (e_k E r) (e_i E r) w = none := by rw [hnx, List.getElem?_eq_none_iff]; omega
        rw [zwork_end hnm] at hz
        have ezu : zU Z.2 = zU R1 := by rw [← hz]; exact zU_fin
        refine bX2_readInOrder_10 (hR1.kc hrn) (fun _ => ?_) (fun z => absurd (by rw [kin]; exact nI_le (by omega) (by omega)) z)
        exact c_inOrder_end (w := w) (by omega) hR1 hrn (trc R1 V1 w.1 hkp hv hR1) hw hj (by omega) (by omega) (fun a V3 u1 u2 => hQ.2 a V3 R1 w (hv.tr (R1 := R1) (vk.vex hR1 hJ1.lt u1 List.not_mem_nil) (fun x hx => by rw [es1]; exact hx)) hkp hJ1.1.2.1 hm1 hr1 hz.symm u2 (hR1.le u1))
  exact loop 30 zw0 R W bc bs _ (by decide) hJ zkp.rf hr0 ⟨rfl, fun _ => rfl, fun _ => ⟨rfl, by decide⟩⟩ rfl (fun _ => rfl) (Nat.zero_le _) hR vk.rf hZ b1 b2
end
