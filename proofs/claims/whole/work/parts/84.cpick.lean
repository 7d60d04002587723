/-- a picking work whose row is that of its reads behind the first -/
def zwp (w : zW) : Prop := w.2.2.2.1 = false ∧ w.2.2.2.2.1 = 0 ∧ w.2.1 = zfl (w.1.drop 1) ∧ (zfl (w.1.drop 1)).length ≤ 24
theorem zend_pick {k : Int32} {w : zW} (hk : ¬ k < 5) (h1 : w.2.2.2.2.1 = 0) (h2 : w.2.1 = zfl (w.1.drop 1)) : zend k w = (0, 0, zfl (w.1.drop 1)) := by
  unfold zend
  rw [if_neg (by rw [h1]; simp), if_neg (fun z => hk (by rw [z]; decide)), if_neg (fun z => hk (by rw [z]; decide)), h2]
section
variable {D : cD} {E : zE} {R : zQ} {sp : Nat → Option (List zR)} {lk w0 : Int32}
theorem c_pick_end {d : Nat} {Fg : Nat → Prop} {h0 : hp} {V : kV} {bc bs : Nat} {Q : Option sV → kV → Prop} {r y : Nat} {w : zW} {v0 v1 v2 v4 v5 v6 v7 v8 : sV} (hd : 4 ≤ d) (ht : cTr V y w.1) (hw : zwok w) (hk : ¬ e_k E r < 5) (hj : zwp w) (hbc : 2 ≤ bc) (hbs : 27 ≤ bs) (hQ : ∀ a V2, vex [] V V2 → kO V2 a = some (zend (e_k E r) w) → Q (some (sR (some a))) V2) : cWP d Fg h0 21 Q 141 [v0, v1, v2, sR (some y), v4, v5, v6, v7, v8] [] V bc bs := by
  obtain ⟨d, rfl⟩ : ∃ d', d = d' + 4 := ⟨d - 4, by omega⟩
  have hl := hj.2.2.2
  refine bX2_readPicked_141 (by omega) (by omega) (fun x hx => ?_)
  have vn := vex.n hx
  have ht2 := ht.cg vn (by decide)
  have hr24 : ∀ g ∈ w.1, g.2.2.2.length ≤ 24 := fun g hg => (hw.2.1 g hg).1.1
  refine bX2_readPicked_144 (bc1 := 1) (bs1 := 24) (P := fun v V2 => ∃ b g, v = some (sR (some b)) ∧ (∀ j, j < (zfl (w.1.drop 1)).length → g j = (zfl (w.1.drop 1)).getD j 0) ∧ V2 = uW (uN V x 2) b (some ((zfl (w.1.drop 1)).length, g))) ht2.1 (cM_le (by omega) (c_joinedFrom (d := 0) (k := 1) ht2 hw.1 (Nat.le_refl _) hr24 (by omega) (Nat.le_refl _) (by omega) (fun b g hb hg => ⟨b, g, rfl, hg, rfl⟩))) (by omega) (by omega) ?_
  rintro v V2 ⟨b, g, rfl, v1, rfl⟩
  refine bX2_readPicked_152 (bc1 := 0) (bs1 := 0) (P := fun v W => v = none ∧ W = uDone (uW (uN V x 2) b (some ((zfl (w.1.drop 1)).length, g))) x (0, 0, zfl (w.1.drop 1)) b) (cM_le (by omega) (c_Oinit (d := 0) (o := (0, 0, zfl (w.1.drop 1))) (va_up_self _ _ _) (va_up_self _ _ _) rfl v1 ⟨rfl, rfl⟩)) (Nat.zero_le _) (Nat.zero_le _) ?_
  rintro v W ⟨rfl, rfl⟩
  obtain ⟨u1, u2⟩ := vex.done (o := (0, 0, zfl (w.1.drop 1))) (b := b) hx (vex.w b _)
  refine bX2_readPicked_155 (hQ x _ u1 ?_)
  rw [zend_pick hk hj.2.1 hj.2.2.1]
  exact u2
theorem c_readPicked {d : Nat} {Fg : Nat → Prop} {h0 : hp} {V : kV} {bc bs : Nat} {Q : Option sV → kV → Prop} {r y : Nat} {fs : List (Nat × zP)} {most : Nat} (e : Nat) (hC : COut Fg h0 D E d) (hk : (e_k E r = 5 ∧ most = 1) ∨ (e_k E r = 6 ∧ most = 24)) (hJ : zJ E ((r, .inr zw0) :: fs) R) (hy : kB V 306 (dA D r) (q_t R r).length = some y) (hd : 24 ≤ d + (q_s R).length) (hR : crep D E R (va_up sp r (some [])) lk w0 V) (hr0 : q_r R r = none) {Z : zO × zQ} (hZ : zwork (zout E d) E r 30 zw0 R = Z) (b1 : 2 + 10 * zU R ≤ bc + 10 * zU Z.2) (b2 : 27 + 100 * zU R ≤ bs + 100 * zU Z.2) (hQ : cWq D E R sp lk w0 V r Z Q) : cM (5 * d + e + 6) Fg h0 21 [sR (some (dO D)), sR (some (dA D r)), sI (nI most)] V bc bs Q := by
  have hE := hJ.1.1.1
  have hrn : r < e_n E := hJ.lt r hJ.in
  have hrs : r ∈ q_s R := hJ.in
  have hl4 := (hJ.1.2.1.1 r).1
  have h6 := hJ.1.1.2.2.1 r
  have hk5 : ¬ e_k E r < 5 := by rcases hk with ⟨h, -⟩ | ⟨h, -⟩ <;> (rw [h]; decide)
  have hk2 : ¬ e_k E r = 2 := by rcases hk with ⟨h, -⟩ | ⟨h, -⟩ <;> (rw [h]; decide)
  have hk4 : (e_k E r == 4) = false := by rcases hk with ⟨h, -⟩ | ⟨h, -⟩ <;> (rw [h]; decide)
  have trc : ∀ (R2 : zQ) (V2 : kV) (gs : List zR), zkp R R2 → vk D R V V2 → crep D E R2 (va_up sp r (some gs)) lk w0 V2 → cTr V2 y gs := fun R2 V2 gs k1 k2 k3 => by
    obtain ⟨t, t1, t2⟩ := (k3.2.2.2.1 r hrn).2.1.2.2.2 (by rw [k1.1]; exact hrs) gs (va_up_self _ _ _)
    rw [k1.2 r hrs, k2.2 r hrs, hy] at t1
    cases t1
    exact t2
  have nh' : ∀ (R2 : zQ), ¬ (q_r R2 r).isSome = true → q_r R2 r = none := fun R2 hh => by
    cases hq : q_r R2 r with
    | none => rfl
    | some l => rw [hq] at hh; exact absurd rfl hh
  -- the loop
  have loop : ∀ (n : Nat) (w : zW) (g : zR) (gs : List zR) (ga : Nat) (R1 : zQ) (V1 : kV) (bc bs : Nat) (v4 : sV), w.1 = g :: gs → 28 ≤ n + w.1.length → zJ E ((r, .inr w) :: fs) R1 → zkp R R1 → q_r R1 r = none → zwp w → crep D E R1 (va_up sp r (some w.1)) lk w0 V1 → vk D R V V1 → kO V1 ga = some g.2 → zwork (zout E d) E r n w R1 = Z → 2 + 10 * zU R1 ≤ bc + 10 * zU Z.2 → 27 + 100 * zU R1 ≤ bs + 100 * zU Z.2 → cWP (5 * d + e + 5) Fg h0 21 Q 53 [sR (some (dO D)), sR (some (dA D r)), sI (nI most), sR (some y), v4, sR (some ga), sI (nI (e_i E r).length - 1), sI (nI w.2.1.length), sI (nI gs.length)] [] V1 bc bs := by
    intro n
    induction n with
    | zero =>
      intro w g gs ga R1 V1 bc bs v4 hg hn hJ1
      have := (hJ1.1.2.2.1 _ List.mem_cons_self).1.1
      omega
    | succ n ih =>
      intro w g gs ga R1 V1 bc bs v4 hg hn hJ1 hkp hr1 hj hR1 hv hga hz c1 c2
      have hw := (hJ1.1.2.2.1 _ List.mem_cons_self).1
      have hins := ((hJ1.1.2.2.1 _ List.mem_cons_self).2).resolve_left (fun z => by rw [hg] at z; cases z)
      have hil : 1 ≤ (e_i E r).length := by
        cases hh : e_i E r with
        | nil => exact absurd hh hins
        | cons a l => simp
      have eq1 : q_t R1 r = q_t R r := hkp.2 r hrs
      have es1 : q_s R1 = q_s R := hkp.1
      have hm1 : q_m R1 r = none := hJ1.1.2.2.2.2.1 r (by rw [es1]; exact hrs)
      have hg24 : g.2.2.2.length ≤ 24 := (hw.2.1 g (by rw [hg]; exact List.mem_cons_self)).1.1
      have hlw : w.1.length = gs.length + 1 := by rw [hg]; rfl
      have h25 := hw.1
      have hne : nI (e_i E r).length - 1 = nI ((e_i E r).length - 1) := by
        have : (e_i E r).length = (e_i E r).length - 1 + 1 := by omega
        rw [this, nI_pred, Nat.add_sub_cancel]
      have hnx : znext (e_k E r) (e_i E r) w = if (e_i E r).length = 1 then none else match (if e_k E r = 5 then g.2.2.2.take 1 else g.2.2.2)[gs.length]? with | none => none | some x => (e_i E r)[1 + zmod x ((e_i E r).length - 1)]? := by
        unfold znext
        rw [hj.1]
        simp only [Bool.false_eq_true, if_false]
        rw [if_neg hk5, hg]
        simp only [List.length_cons, Nat.add_sub_cancel]
        by_cases hc : (e_i E r).length = 1
        · rw [if_pos hc, if_pos hc]
        · rw [if_neg hc, if_neg hc]
          generalize (if e_k E r = 5 then g.2.2.2.take 1 else g.2.2.2)[gs.length]? = q
          cases q <;> rfl
      -- it ends
      have fin : znext (e_k E r) (e_i E r) w = none → ∀ (v4 v5 v6 v7 v8 : sV), cWP (5 * d + e + 5) Fg h0 21 Q 141 [sR (some (dO D)), sR (some (dA D r)), sI (nI most), sR (some y), v4, v5, v6, v7, v8] [] V1 bc bs := fun hnm v4 v5 v6 v7 v8 => by
        rw [zwork_end hnm] at hz
        have ezu : zU Z.2 = zU R1 := by rw [← hz]; exact zU_fin
        exact c_pick_end (w := w) (by omega) (trc R1 V1 w.1 hkp hv hR1) hw hk5 hj (by omega) (by omega) (fun a V3 u1 u2 => hQ.2 a V3 R1 w (hv.tr (R1 := R1) (vk.vex hR1 hJ1.lt u1 List.not_mem_nil) (fun x hx => by rw [es1]; exact hx)) hkp hJ1.1.2.1 hm1 hr1 hz.symm u2 (hR1.le u1))
      refine bX2_readPicked_53 (fun z => by cases z) (fun _ => ?_)
      rw [hne]
      by_cases h1 : (e_i E r).length = 1
      · refine bX2_readPicked_58 (fun _ => fin (by rw [hnx, if_pos h1]) _ _ _ _ _) (fun z => absurd (by rw [h1]; decide) z)
      · refine bX2_readPicked_58 (fun z => absurd z (nI_nle (by omega) (by omega))) (fun _ => ?_)
        rw [if_neg h1] at hnx
        by_cases h2 : gs.length < g.2.2.2.length
        · refine bX2_readPicked_63 hga (fun z => absurd z (nI_ge h2 (by omega))) (fun _ => ?_)
          by_cases h3 : most ≤ gs.length
          · refine bX2_readPicked_74 (fun _ => fin ?_ _ _ _ _ _) (fun z => absurd (nI_le h3 (by omega)) z)
            rcases hk with ⟨hk, hm⟩ | ⟨hk, hm⟩
            · rw [hnx, if_pos hk, List.getElem?_eq_none_iff.mpr (by rw [List.length_take]; omega)]
            · omega
          · refine bX2_readPicked_74 (fun z => absurd z (nI_ge (by omega) (by rcases hk with ⟨-, hm⟩ | ⟨-, hm⟩ <;> omega))) (fun _ => ?_)
            have hgx : (if e_k E r = 5 then g.2.2.2.take 1 else g.2.2.2)[gs.length]? = some (g.2.2.2.getD gs.length 0) := by
              rw [List.getD_eq_getElem?_getD, List.getElem?_eq_getElem h2]
              rcases hk with ⟨hk, hm⟩ | ⟨hk, hm⟩
              · rw [if_pos hk, List.getElem?_take, if_pos (by omega), List.getElem?_eq_getElem h2]
                rfl
              · rw [if_neg (by rw [hk]; decide), List.getElem?_eq_getElem h2]
                rfl
            rw [hgx] at hnx
            dsimp only at hnx
            generalize hx : g.2.2.2.getD gs.length 0 = x at *
            obtain ⟨-, -, hzm⟩ := zrem ((e_i E r).length - 1) (by omega) (by omega) x
            have hix : 1 + zmod x ((e_i E r).length - 1) < (e_i E r).length := by omega
            have hnm : znext (e_k E r) (e_i E r) w = some (e_i E r)[1 + zmod x ((e_i E r).length - 1)] := by rw [hnx, List.getElem?_eq_getElem hix]
            have hnm2 : (e_i E r)[1 + zmod x ((e_i E r).length - 1)]? = some (e_i E r)[1 + zmod x ((e_i E r).length - 1)] := List.getElem?_eq_getElem hix
            generalize (e_i E r)[1 + zmod x ((e_i E r).length - 1)] = nm at hnm hnm2
            obtain ⟨hJ2, hkp2, hok⟩ := zcall hJ1 (by rw [es1]; exact hd) hnm
            obtain ⟨h24, hmem⟩ := znext_lt hnm h6 hw
            have h40 := hJ1.1.1.2.2.2 r nm hmem
            have hu := zU_out (E := E) d R1 nm
            have huZ : zU Z.2 ≤ zU (zout E d R1 nm).2 := by
              rw [← hz, zwork, hnm]
              dsimp only
              split
              · exact Nat.le_refl _
              · exact zU_work (zU_out d) r n _ _
            refine bX2_readPicked_80 (bc1 := 0) (bs1 := 0) (P := fun v W => v = some (sI (nI (zmod x ((e_i E r).length - 1)))) ∧ W = V1) hga (vin gs.length rfl h2 (by omega)) (by rw [nix gs.length rfl (by omega), hx]; exact cM_le (by omega) (c_floorMod (d := 0) (by omega) (by omega) ⟨rfl, rfl⟩)) (Nat.zero_le _) (Nat.zero_le _) ?_
            rintro v W ⟨rfl, rfl⟩
            refine bX2_readPicked_96 (bc1 := 10 * zU R1 - 10 * zU (zout E d R1 nm).2) (bs1 := 100 * zU R1 - 100 * zU (zout E d R1 nm).2) hR1.2.2.1.1 (by rw [show (1 : Int32) = nI 1 from rfl, nI_add]; exact c_readInput e hC hJ1 hnm hnm2 (by rw [es1]; exact hd) hR1 (va_up_self _ _ _) (by omega) (by omega) (fun v V2 v1 v2 v3 v4 => ⟨v, rfl, v1, by rw [va_upup] at v2; exact v2, v3, v4⟩)) (by omega) (by omega) (P := fun v V2 => ∃ v', v = some (sR v') ∧ vk D R1 W V2 ∧ crep D E (zout E d R1 nm).2 (va_up sp r (some (w.1 ++ [(nm, (zout E d R1 nm).1)]))) lk w0 V2 ∧ ((q_r (zout E d R1 nm).2 r).isSome = true → cO V2 v' (zhit (zout E d R1 nm).2 r)) ∧ (¬ (q_r (zout E d R1 nm).2 r).isSome = true → (¬ (zout E d R1 nm).1.1 = 0 ∧ e_t E r = true → cO V2 v' (zout E d R1 nm).1) ∧ (¬ (¬ (zout E d R1 nm).1.1 = 0 ∧ e_t E r = true) → v' = none))) ?_
            rintro v0 V2 ⟨v, rfl, v1, v2, v3, v4'⟩
            rw [zwork, hnm] at hz
            dsimp only at hz
            generalize hzo : zout E d R1 nm = zz at *
            obtain ⟨o, R2⟩ := zz
            have hv2 : vk D R V V2 := hv.tr v1 (fun x hx => by rw [es1]; exact hx)
            have hkp3 : zkp R R2 := hkp.tr hkp2
            have hm2 : q_m R2 r = none := hJ2.1.2.2.2.2.1 r (by show r ∈ q_s R2; rw [hkp3.1]; exact hrs)
            have hq2 : zQok E R2 := hJ2.1.2.1
            by_cases hh : (q_r R2 r).isSome = true
            · rw [if_pos hh] at hz
              obtain ⟨a, rfl, a2⟩ := v3 hh
              exact bX2_readPicked_100 (fun z => by cases z) (fun _ => bX2_readPicked_107 (hQ.1 a V2 R2 hv2 hkp3 hq2 hm2 hh hz.symm a2 v2.drop))
            · rw [if_neg hh] at hz
              have nh := nh' R2 hh
              obtain ⟨t1, t2⟩ := ztake_ok (k := e_k E r) (t := e_t E r) (r := r) hw h24 hok h40
              have n1 : ∃ n', n = n' + 1 := ⟨n - 1, by omega⟩
              obtain ⟨n', hn'⟩ := n1
              by_cases hs : ¬ o.1 = 0 ∧ e_t E r = true
              · obtain ⟨a, rfl, a2⟩ := (v4' hh).1 hs
                have ew : ztake (e_k E r) (e_t E r) r w nm o = (w.1 ++ [(nm, o)], w.2.1, w.2.2.1, true, o.1, o.2.1) := by unfold ztake; rw [if_pos hs]
                rw [ew, hn', zwork_end (by unfold znext; rw [if_pos rfl])] at hz
                have ez : zend (e_k E r) (w.1 ++ [(nm, o)], w.2.1, w.2.2.1, true, o.1, o.2.1) = o := by
                  unfold zend
                  rw [if_pos hs.1]
                  show (o.1, o.2.1, ([] : List Int32)) = o
                  rw [← hok.2.1 hs.1]
                exact bX2_readPicked_100 (fun z => by cases z) (fun _ => bX2_readPicked_107 (hQ.2 a V2 R2 _ hv2 hkp3 hq2 hm2 nh hz.symm (by rw [ez]; exact a2) v2))
              · have hvn := (v4' hh).2 hs
                subst hvn
                have ty : cTr V2 y (w.1 ++ [(nm, o)]) := trc R2 V2 _ hkp3 hv2 v2
                have hlen : (w.1 ++ [(nm, o)]).length = w.1.length + 1 := by rw [List.length_append]; rfl
                have hgd : (w.1 ++ [(nm, o)]).getD w.1.length zr0 = (nm, o) := by
                  rw [List.getD_eq_getElem?_getD, List.getElem?_append_right (Nat.le_refl _), Nat.sub_self]
                  rfl
                have hzl : zfl ((w.1 ++ [(nm, o)]).drop 1) = zfl (w.1.drop 1) ++ o.2.2 := by
                  rw [hg]
                  exact zfl_snoc _ _
                have ho24 : o.2.2.length ≤ 24 := hok.1
                have hj3 := hj.2.2.1
                have hj4 := hj.2.2.2
                refine bX2_readPicked_100 (fun _ => ?_) (fun z => absurd rfl z)
                refine bX2_readPicked_110 (bc1 := 0) (bs1 := 0) (P := fun v W2 => v = some (sI (nI o.2.2.length)) ∧ W2 = V2) ty.1 (by rw [show (1 : Int32) = nI 1 from rfl, nI_add, show 1 + gs.length = w.1.length by omega]; exact cM_le (by omega) (c_lengthAt (d := 0) ty (by rw [hlen]; omega) (by rw [hlen]; omega) ⟨by rw [hgd], rfl⟩)) (Nat.zero_le _) (Nat.zero_le _) ?_
                rintro v W2 ⟨rfl, rfl⟩
                have huu : zU R2 ≤ zU R1 := hu
                have huZ2 : zU Z.2 ≤ zU R2 := huZ
                by_cases hlong : 24 < w.2.1.length + o.2.2.length
                · have ew : ztake (e_k E r) (e_t E r) r w nm o = (w.1 ++ [(nm, o)], w.2.1, w.2.2.1, true, 2, nI r) := by unfold ztake; rw [if_neg hs, if_neg hk2, if_pos (Or.inr (by omega)), if_pos hlong]
                  rw [hj3] at hlong
                  refine bX2_readPicked_120 (fun z => ?_) (fun _ => ?_)
                  · rw [hj3, nI_add, show (24 : Int32) = nI 24 from rfl, nI_leI (by omega) (by omega)] at z
                    omega
                  · refine bX2_readPicked_130 (v2.kc hrn) ?_
                    obtain ⟨a, a1, a2⟩ := (v2.2.2.2.1 r hrn).1.2.2.2.2.2.2.1
                    rw [a1]
                    rw [ew, hn', zwork_end (by unfold znext; rw [if_pos rfl])] at hz
                    exact hQ.2 a W2 R2 _ hv2 hkp3 hq2 hm2 nh hz.symm a2 v2
                · have ew : ztake (e_k E r) (e_t E r) r w nm o = (w.1 ++ [(nm, o)], w.2.1 ++ o.2.2, w.2.2.1, (w.2.2.2.1 || (e_k E r == 4 && 0 < o.2.2.length)), w.2.2.2.2) := by unfold ztake; rw [if_neg hs, if_neg hk2, if_pos (Or.inr (by omega)), if_neg hlong]
                  refine bX2_readPicked_120 (fun _ => ?_) (fun z => absurd ?_ z)
                  · refine bX2_readPicked_135 ?_
                    rw [nI_add, nI_1]
                    have hJ4 : zJ E ((r, .inr (ztake (e_k E r) (e_t E r) r w nm o)) :: fs) R2 := ⟨zWF_fr hJ2.1 ⟨t1, .inr (fun z => by rw [z] at hmem; cases hmem)⟩ (fun w2 _ => ⟨_, rfl⟩), hJ2.2.top (fun k' i' z => by cases z)⟩
                    have := ih (ztake (e_k E r) (e_t E r) r w nm o) g (gs ++ [(nm, o)]) ga R2 W2 (bc - 0 - (10 * zU R1 - 10 * zU R2) - 0) (bs - 0 - (100 * zU R1 - 100 * zU R2) - 0) (sR none) (by rw [t2, hg]; rfl) (by rw [t2, hlen]; omega) hJ4 hkp3 nh ?_ (by rw [t2]; exact v2) hv2 (v1.1 _ _ hga) hz (by omega) (by omega)
                    · rw [ew] at this
                      rw [hne] at this
                      rw [show (w.1 ++ [(nm, o)], w.2.1 ++ o.2.2, w.2.2.1, (w.2.2.2.1 || (e_k E r == 4 && 0 < o.2.2.length)), w.2.2.2.2).2.1.length = w.2.1.length + o.2.2.length from List.length_append, List.length_append, List.length_singleton] at this
                      exact this
                    · rw [ew]
                      refine ⟨?_, hj.2.1, ?_, ?_⟩
                      · show (w.2.2.2.1 || (e_k E r == 4 && 0 < o.2.2.length)) = false
                        rw [hj.1, hk4]
                        rfl
                      · show w.2.1 ++ o.2.2 = zfl ((w.1 ++ [(nm, o)]).drop 1)
                        rw [hzl, hj3]
                      · show (zfl ((w.1 ++ [(nm, o)]).drop 1)).length ≤ 24
                        rw [hzl, List.length_append, ← hj3]
                        omega
                  · rw [nI_add, show (24 : Int32) = nI 24 from rfl, nI_leI (by omega) (by omega)]
                    omega
        · refine bX2_readPicked_63 hga (fun _ => fin ?_ _ _ _ _ _) (fun z => absurd (nI_le (by omega) (by omega)) z)
          rw [hnx]
          rcases hk with ⟨hk, hm⟩ | ⟨hk, hm⟩
          · rw [if_pos hk, List.getElem?_eq_none_iff.mpr (by rw [List.length_take]; omega)]
          · rw [if_neg (by rw [hk]; decide), List.getElem?_eq_none_iff.mpr (by omega)]
  refine cM_of (ls := [sR (some (dO D)), sR (some (dA D r)), sI (nI most), sU, sU, sU, sU, sU, sU]) rfl (Nat.le_of_ble_eq_true rfl) rfl ?_
  refine bX2_readPicked_0 (bc1 := 0) (bs1 := 0) (P := fun v W => v = some (sR (some y)) ∧ W = V) (hR.kc hrn) (cM_le (by omega) (c_spare_some (d := 0) (hR.kc hrn) (hR.2.2.2.1 r hrn).2.1.1 (by omega) hy ⟨rfl, rfl⟩)) (Nat.zero_le _) (Nat.zero_le _) ?_
  rintro v W ⟨rfl, rfl⟩
  have kin := (hR.2.2.2.1 r hrn).1.2.2.2.2.1
  have hw0 : zwok zw0 := (hJ.1.2.2.1 _ List.mem_cons_self).1
  have ty0 : cTr W y [] := trc R W [] zkp.rf vk.rf hR
  have hn0 : znext (e_k E r) (e_i E r) zw0 = (e_i E r)[0]? := by
    unfold znext zw0
    simp only [Bool.false_eq_true, if_false]
    rw [if_neg hk5]
  have hm0 : q_m R r = none := hJ.1.2.2.2.2.1 r hrs
  by_cases hi : 0 < (e_i E r).length
  · refine bX2_readPicked_4 (hR.kc hrn) (fun z => absurd z (by rw [kin]; exact nI_nle hi (by omega))) (fun _ => ?_)
    have hnm : znext (e_k E r) (e_i E r) zw0 = some (e_i E r)[0] := by rw [hn0, List.getElem?_eq_getElem hi]
    have hnm2 : (e_i E r)[0]? = some (e_i E r)[0] := List.getElem?_eq_getElem hi
    generalize (e_i E r)[0] = nm at hnm hnm2
    obtain ⟨hJ2, hkp2, hok⟩ := zcall hJ hd hnm
    obtain ⟨h24, hmem⟩ := znext_lt hnm h6 hw0
    have h40 := hJ.1.1.2.2.2 r nm hmem
    have hu := zU_out (E := E) d R nm
    have huZ : zU Z.2 ≤ zU (zout E d R nm).2 := by
      rw [← hZ, zwork, hnm]
      dsimp only
      split
      · exact Nat.le_refl _
      · exact zU_work (zU_out d) r 29 _ _
    refine bX2_readPicked_12 (bc1 := 10 * zU R - 10 * zU (zout E d R nm).2) (bs1 := 100 * zU R - 100 * zU (zout E d R nm).2) hR.2.2.1.1 (by rw [show (0 : Int32) = nI 0 from rfl]; exact c_readInput e hC hJ hnm hnm2 hd hR (va_up_self _ _ _) (by omega) (by omega) (fun v V2 v1 v2 v3 v4 => ⟨v, rfl, v1, by rw [va_upup] at v2; exact v2, v3, v4⟩)) (by omega) (by omega) (P := fun v V2 => ∃ v', v = some (sR v') ∧ vk D R W V2 ∧ crep D E (zout E d R nm).2 (va_up sp r (some (zw0.1 ++ [(nm, (zout E d R nm).1)]))) lk w0 V2 ∧ ((q_r (zout E d R nm).2 r).isSome = true → cO V2 v' (zhit (zout E d R nm).2 r)) ∧ (¬ (q_r (zout E d R nm).2 r).isSome = true → (¬ (zout E d R nm).1.1 = 0 ∧ e_t E r = true → cO V2 v' (zout E d R nm).1) ∧ (¬ (¬ (zout E d R nm).1.1 = 0 ∧ e_t E r = true) → v' = none))) ?_
    rintro v0 V2 ⟨v, rfl, v1, v2, v3, v4'⟩
    refine bX2_readPicked_18 ?_
    rw [zwork, hnm] at hZ
    dsimp only at hZ
    generalize hzo : zout E d R nm = zz at *
    obtain ⟨o, R2⟩ := zz
    have hm2 : q_m R2 r = none := hJ2.1.2.2.2.2.1 r (by show r ∈ q_s R2; rw [hkp2.1]; exact hrs)
    have hq2 : zQok E R2 := hJ2.1.2.1
    by_cases hh : (q_r R2 r).isSome = true
    · rw [if_pos hh] at hZ
      obtain ⟨a, rfl, a2⟩ := v3 hh
      exact bX2_readPicked_22 (fun z => by cases z) (fun _ => bX2_readPicked_29 (hQ.1 a V2 R2 v1 hkp2 hq2 hm2 hh hZ.symm a2 v2.drop))
    · rw [if_neg hh] at hZ
      have nh := nh' R2 hh
      obtain ⟨t1, t2⟩ := ztake_ok (k := e_k E r) (t := e_t E r) (r := r) hw0 h24 hok h40
      by_cases hs : ¬ o.1 = 0 ∧ e_t E r = true
      · obtain ⟨a, rfl, a2⟩ := (v4' hh).1 hs
        have ew : ztake (e_k E r) (e_t E r) r zw0 nm o = (zw0.1 ++ [(nm, o)], zw0.2.1, zw0.2.2.1, true, o.1, o.2.1) := by unfold ztake; rw [if_pos hs]
        rw [ew, zwork_end (by unfold znext; rw [if_pos rfl])] at hZ
        have ez : zend (e_k E r) (zw0.1 ++ [(nm, o)], zw0.2.1, zw0.2.2.1, true, o.1, o.2.1) = o := by
          unfold zend
          rw [if_pos hs.1]
          show (o.1, o.2.1, ([] : List Int32)) = o
          rw [← hok.2.1 hs.1]
        exact bX2_readPicked_22 (fun z => by cases z) (fun _ => bX2_readPicked_29 (hQ.2 a V2 R2 _ v1 hkp2 hq2 hm2 nh hZ.symm (by rw [ez]; exact a2) v2))
      · have hvn := (v4' hh).2 hs
        subst hvn
        have ew : ztake (e_k E r) (e_t E r) r zw0 nm o = ([(nm, o)], [], 0, false, 0, 0) := by unfold ztake; rw [if_neg hs, if_neg hk2, if_neg (by rintro (z | z); exact hk5 z; exact absurd z (by simp [zw0]))]; rfl
        have ty : cTr V2 y [(nm, o)] := trc R2 V2 _ hkp2 v1 v2
        obtain ⟨ga, ga1, ga2⟩ := (ty.2.2 0 (by simp)).2
        refine bX2_readPicked_22 (fun _ => ?_) (fun z => absurd rfl z)
        refine bX2_readPicked_32 (bc1 := 0) (bs1 := 0) (P := fun v W2 => v = some (sR (some ga)) ∧ W2 = V2) ty.1 (cM_le (by omega) (c_outcomeAt (d := 0) (n := 1) ty.1 ty.2.1 (by omega) ⟨by rw [show (0 : Int32) = nI 0 from rfl, zdec_nI (by omega) (by omega)]; show some (sR (kB V2 503 y 0)) = _; rw [ga1], rfl⟩)) (Nat.zero_le _) (Nat.zero_le _) ?_
        rintro v W2 ⟨rfl, rfl⟩
        have kin2 := (v2.2.2.2.1 r hrn).1.2.2.2.2.1
        refine bX2_readPicked_37 (v2.kc hrn) ?_
        rw [kin2]
        have huu : zU R2 ≤ zU R := hu
        have huZ2 : zU Z.2 ≤ zU R2 := huZ
        have hJ4 : zJ E ((r, .inr (ztake (e_k E r) (e_t E r) r zw0 nm o)) :: fs) R2 := ⟨zWF_fr hJ2.1 ⟨t1, .inr (fun z => by rw [z] at hmem; cases hmem)⟩ (fun w2 _ => ⟨_, rfl⟩), hJ2.2.top (fun k' i' z => by cases z)⟩
        rw [ew] at hZ hJ4
        exact loop 29 ([(nm, o)], [], 0, false, 0, 0) (nm, o) [] ga R2 W2 (bc - 0 - (10 * zU R - 10 * zU R2) - 0) (bs - 0 - (100 * zU R - 100 * zU R2) - 0) (sR none) rfl (by show 28 ≤ 29 + 1; omega) hJ4 hkp2 nh ⟨rfl, rfl, rfl, by show 0 ≤ 24; omega⟩ v2 v1 ga2 hZ (by omega) (by omega)
  · have hnm : znext (e_k E r) (e_i E r) zw0 = none := by rw [hn0, List.getElem?_eq_none_iff]; omega
    rw [zwork_end hnm] at hZ
    have ezu : zU Z.2 = zU R := by rw [← hZ]; exact zU_fin
    refine bX2_readPicked_4 (hR.kc hrn) (fun _ => ?_) (fun z => absurd (by rw [kin, show (e_i E r).length = 0 by omega]; decide) z)
    refine bX2_readPicked_21 (bX2_readPicked_22 (fun _ => ?_) (fun z => absurd rfl z))
    refine bX2_readPicked_32 (bc1 := 0) (bs1 := 0) (P := fun v W2 => v = some (sR none) ∧ W2 = W) ty0.1 (cM_le (by omega) (c_outcomeAt (d := 0) (n := 0) ty0.1 ty0.2.1 (by omega) ⟨by rw [zdec_no (Or.inr (by decide))], rfl⟩)) (Nat.zero_le _) (Nat.zero_le _) ?_
    rintro v W2 ⟨rfl, rfl⟩
    refine bX2_readPicked_37 (hR.kc hrn) (bX2_readPicked_53 (fun _ => ?_) (fun z => absurd rfl z))
    exact c_pick_end (w := zw0) (by omega) ty0 hw0 hk5 ⟨rfl, rfl, rfl, by decide⟩ (by omega) (by omega) (fun a V3 u1 u2 => hQ.2 a V3 R zw0 (vk.vex hR hJ.lt u1 List.not_mem_nil) zkp.rf hJ.1.2.1 hm0 hr0 hZ.symm u2 (hR.le u1))
end
