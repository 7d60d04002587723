/-- outcomes stay -/
def vo (V V2 : kV) : Prop := ∀ a o, kO V a = some o → kO V2 a = some o
theorem vo.rf {V : kV} : vo V V := fun _ _ h => h
theorem vo.tr {V V1 V2 : kV} (h1 : vo V V1) (h2 : vo V1 V2) : vo V V2 := fun a o h => h2 a o (h1 a o h)
theorem cO.vo {V V2 : kV} {r : Option Nat} {o : zO} (h : cO V r o) (hv : vo V V2) : cO V2 r o := by
  obtain ⟨a, h1, h2⟩ := h
  exact ⟨a, h1, hv a o h2⟩
theorem c_isSameAs {d : Nat} {Fg : Nat → Prop} {h0 : hp} {V : kV} {bc bs : Nat} {Q : Option sV → kV → Prop} {a : Nat} {r : Option Nat} {o p : zO} (ha : kO V a = some o) (hr : cO V r p) (ho : o.2.2.length ≤ 24) (hp : p.2.2.length ≤ 24) (hQ : Q (some (sI (if o = p then 1 else 0))) V) : cM (d + 1) Fg h0 7 [sR (some a), sR r] V bc bs Q := by
  obtain ⟨b, rfl, hb⟩ := hr
  refine cM_of (ls := [sR (some a), sR (some b), sU]) rfl (Nat.le_of_ble_eq_true rfl) rfl ?_
  refine bX1_isSameAs_0 (fun z => by cases z) (fun _ => ?_)
  refine bX1_isSameAs_4 ha hb (fun z => ?_) (fun z1 => ?_)
  · rw [if_neg (fun e => z (by rw [e]))] at hQ
    exact bX1_isSameAs_26 hQ
  refine bX1_isSameAs_15 ha hb (fun z2 => ?_) (fun z => ?_)
  · refine bX1_isSameAs_28 ha hb (fun z3 => ?_) (fun z => ?_)
    · rw [nI_eq (by omega) (by omega)] at z3
      refine bX1_isSameAs_43 ?_
      have loop : ∀ (e i : Nat), i + e = o.2.2.length → (∀ j, j < i → o.2.2.getD j 0 = p.2.2.getD j 0) → cWP d Fg h0 7 Q 45 [sR (some a), sR (some b), sI (nI i)] [] V bc bs := by
        intro e
        induction e with
        | zero =>
          intro i hi hj
          refine bX1_isSameAs_45 ha (fun _ => ?_) (fun z => absurd (nI_le (by omega) (by omega)) z)
          have e3 : o = p := by
            refine Prod.ext z1 (Prod.ext z2 ?_)
            apply List.ext_getElem z3
            intro j h1 h2
            have := hj j (by omega)
            rw [List.getD_eq_getElem?_getD, List.getD_eq_getElem?_getD, List.getElem?_eq_getElem h1, List.getElem?_eq_getElem h2] at this
            exact this
          rw [if_pos e3] at hQ
          exact bX1_isSameAs_77 hQ
        | succ e ih =>
          intro i hi hj
          refine bX1_isSameAs_45 ha (fun z => absurd z (nI_ge (by omega) (by omega))) (fun _ => ?_)
          refine bX1_isSameAs_54 ha (vin i rfl (by omega) (by omega)) hb (vin i rfl (by omega) (by omega)) (fun z => ?_) (fun z => ?_)
          · refine bX1_isSameAs_71 ?_
            rw [nI_1]
            refine ih (i + 1) (by omega) (fun j hj2 => ?_)
            by_cases ej : j = i
            · rw [ej]
              rw [nix i rfl (by omega)] at z
              exact z
            · exact hj j (by omega)
          · rw [if_neg (fun e => z (by rw [e]))] at hQ
            exact bX1_isSameAs_69 hQ
      exact loop _ 0 (Nat.zero_add _) (fun j hj => absurd hj (by omega))
    · rw [if_neg (fun e => z (by rw [e]))] at hQ
      exact bX1_isSameAs_41 hQ
  · rw [if_neg (fun e => z (by rw [e]))] at hQ
    exact bX1_isSameAs_26 hQ
section
variable {D : cD} {E : zE} {R : zQ} {sp : Nat → Option (List zR)} {lk w0 : Int32}
theorem c_noteWorked {d : Nat} {Fg : Nat → Prop} {h0 : hp} {V : kV} {bc bs : Nat} {Q : Option sV → kV → Prop} {r : Nat} (h : crep D E R sp lk w0 V) (hr : r < e_n E) (hl : (q_w R).length < 24) (hQ : ∀ V2, vex [207, 203, 204] V V2 → crep D E (q_note R r) sp lk w0 V2 → Q none V2) : cM (d + 1) Fg h0 17 [sR (some (dO D)), sR (some (dA D r))] V bc bs Q := by
  have h3 := h.2.2.1
  refine cM_of (ls := [sR (some (dO D)), sR (some (dA D r))]) rfl (Nat.le_of_ble_eq_true rfl) rfl ?_
  refine bX2_noteWorked_0 h3.1 (fun z => absurd z (by rw [h3.2.2.1.1]; exact nI_ge hl (by decide))) (fun _ => ?_)
  have e4 : kI (uI V 207 (dO D) (kI V 207 (dO D) + 1)) 204 (dO D) = nI (q_w R).length := h3.2.2.1.1
  refine bX2_noteWorked_19 h3.1 (h.kc hr) (vin _ e4 hl (by decide)) (bX2_noteWorked_42 (hQ _ (((vex.i 207 (dO D) _).tr (L := [207, 203]) (vex.a 203 (dO D) _ _) (fun f hf => fun z => hf (by rw [List.mem_singleton.mp z]; decide)) (fun f hf => fun z => hf (by rw [List.mem_singleton.mp z]; decide))).tr (vex.i 204 (dO D) _) (fun f hf => fun z => hf (by rcases List.mem_cons.mp z with z | z; rw [z]; decide; rw [List.mem_singleton.mp z]; decide)) (fun f hf => fun z => hf (by rw [List.mem_singleton.mp z]; decide))) ?_))
  rw [nix _ e4 (by omega), e4, nI_1]
  show crep D E (q_note R r) sp lk w0 (uI (uA (uI V 207 (dO D) (kI V 207 (dO D) + 1)) 203 (dO D) (q_w R).length (kI V 300 (dA D r))) 204 (dO D) (nI ((q_w R).length + 1)))
  rw [(h.2.2.2.1 r hr).1.2.1]
  exact h.note hl
theorem c_spareR {d : Nat} {Fg : Nat → Prop} {h0 : hp} {V : kV} {bc bs : Nat} {Q : Option sV → kV → Prop} {r : Nat} (hE : e_n E ≤ 24) (h : crep D E R sp lk w0 V) (hr : r < e_n E) (hl : (q_t R r).length < 5) (hbc : 3 ≤ bc) (hbs : 54 ≤ bs) (hQ : ∀ t V2, vo V V2 → (∀ x, x < e_n E → x ≠ r → kB V2 306 (dA D x) = kB V 306 (dA D x)) → crep D E R sp lk w0 V2 → kB V2 306 (dA D r) (q_t R r).length = some t → kC V2 t = 6 → Q (some (sR (some t))) V2) : cM (d + 2) Fg h0 27 [sR (some (dA D r))] V bc bs Q := by
  obtain ⟨h1, h2, h3, h4⟩ := (h.2.2.2.1 r hr).2.1
  refine c_spare (h.kc hr) h1 hl h3 hbc hbs (fun t ht => hQ t V vo.rf (fun _ _ _ => rfl) h ht (h3 _ t hl ht)) (fun t rr hn ht => hQ t _ (fun _ _ z => z) (fun x hx hxr => ?_) (h.spare hE hr hn ht) ?_ (va_up_self _ _ _))
  · rw [kB_uB, if_neg (fun z => hxr (h.inj hE hx hr z.2))]
    exact ((vex.x ht).2.2 306 _ (h.k0 hx) List.not_mem_nil).2.2.2
  rw [kB_uB, if_pos ⟨rfl, rfl⟩, va_up_self]
theorem zkeep_gD {l : List zT} {t : zT} {k : Nat} (hk : k < (zkeep l t).length) : (zkeep l t).getD k zt0 = if k = 0 then t else l.getD (k - 1) zt0 := by
  unfold zkeep at *
  cases k with
  | zero => rfl
  | succ k =>
    rw [if_neg (by omega), List.getD_eq_getElem?_getD, List.getElem?_cons_succ, List.getElem?_take, Nat.add_sub_cancel, List.getD_eq_getElem?_getD]
    simp only [List.length_cons, List.length_take] at hk
    rw [if_pos (by omega)]
theorem c_keep {d : Nat} {Fg : Nat → Prop} {h0 : hp} {V : kV} {bc bs : Nat} {Q : Option sV → kV → Prop} {r : Nat} {gs : List zR} {came : Option Nat} {o : zO} (hE : e_n E ≤ 24) (h : crep D E R sp lk w0 V) (hr : r < e_n E) (hlen : ∀ x, x < e_n E → (q_t R x).length < 5) (hrs : r ∈ q_s R) (hsp : sp r = some gs) (ho : cO V came o) (hQ : ∀ V2, vo V V2 → (∀ x, x < e_n E → x ≠ r → kB V2 306 (dA D x) = kB V 306 (dA D x)) → crep D E (q_tr R r (zkeep (q_t R r) (gs, o))) (va_up sp r none) lk w0 V2 → Q none V2) : cM (d + 2) Fg h0 28 [sR (some (dA D r)), sR came] V bc bs Q := by
  obtain ⟨h1, h2, h3, h4⟩ := (h.2.2.2.1 r hr).2.1
  obtain ⟨t, t1, t2⟩ := h4 hrs gs hsp
  have hl := hlen r hr
  have c0 := h.kc hr
  refine cM_of (ls := [sR (some (dA D r)), sR came]) rfl (Nat.le_of_ble_eq_true rfl) rfl ?_
  refine bX3_keepSpare_0 (bc1 := 0) (bs1 := 0) (P := fun v V2 => v = some (sR (some t)) ∧ V2 = V) c0 (c_spare_some c0 h1 hl t1 ⟨rfl, rfl⟩) (Nat.zero_le _) (Nat.zero_le _) ?_
  rintro v V2 ⟨rfl, rfl⟩
  have v1 := vex.r (V := V2) 501 t came
  have r1 : crep D E R (va_up sp r (some gs)) lk w0 (uR V2 501 t came) := by
    refine h.write hr hl t1 (v1.up (by intro f hf z; rw [List.mem_singleton.mp z] at hf; exact hf (by decide))) (fun u hu f => ⟨rfl, if_neg (fun z => hu z.2), rfl, rfl⟩) (fun g hg => ?_) hlen
    cases hg
    exact t2
  have k5 : kI (uR V2 501 t came) 305 (dA D r) = nI (q_t R r).length := h1
  refine bX3_keepSpare_4 (bc1 := 0) (bs1 := 0) (P := fun v W => v = none ∧ vex [306] (uR V2 501 t came) W ∧ (∀ u, u ≠ dA D r → kB W 306 u = kB (uR V2 501 t came) 306 u) ∧ ∀ j, j < 5 → kB W 306 (dA D r) j = kB (uR V2 501 t came) 306 (dA D r) (zfwd (q_t R r).length j)) t2.1 c0 (by rw [h1]; exact c_bringForward c0 hl h3 (fun W w1 w2 w3 => ⟨rfl, w1, w2, w3⟩)) (Nat.zero_le _) (Nat.zero_le _) ?_
  rintro v W ⟨rfl, w1, w2, w3⟩
  have cW : kC W (dA D r) = 4 := (w1.1 _ (by rw [show kC (uR V2 501 t came) (dA D r) = 4 from c0]; decide)).1.trans c0
  have k5W : kI W 305 (dA D r) = nI (q_t R r).length := ((w1.2.2 305 _ (by rw [show kC (uR V2 501 t came) (dA D r) = 4 from c0]; decide) (by decide)).1).trans h1
  have fin : ∀ W2, vex [305] W W2 → (∀ u, u ≠ dA D r → kI W2 305 u = kI W 305 u) → (∀ u, kB W2 306 u = kB W 306 u) → kI W2 305 (dA D r) = nI (zkeep (q_t R r) (gs, o)).length → cWP (d + 1) Fg h0 28 Q 34 [sR (some (dA D r)), sR came] [] W2 (bc - 0 - 0) (bs - 0 - 0) := by
    intro W2 w4 w5 w6 w7
    refine bX3_keepSpare_34 (hQ _ (fun a o ho => w4.2.1 a o (w1.2.1 a o ho)) (fun x hx hxr => (w6 _).trans (w2 _ (fun z => hxr (h.inj hE hx hr z)))) ?_)
    have e : va_up sp r none = va_up (va_up sp r (some gs)) r none := (va_upup _ _ _ _).symm
    rw [e]
    have hlz : (zkeep (q_t R r) (gs, o)).length ≤ 4 := by
      unfold zkeep
      simp only [List.length_cons, List.length_take]
      omega
    refine r1.perm hE hr (p := zfwd (q_t R r).length) (w1.tr w4 (fun f hf z => hf (by rw [List.mem_singleton.mp z]; decide)) (fun f hf z => hf (by rw [List.mem_singleton.mp z]; decide))) (fun u hc hu => ⟨?_, by rw [w6 u]; exact w2 u hu⟩) w7 (fun k hk => ⟨zfwd_lt hl hk, by rw [w6]; exact w3 k hk⟩) (fun j k _ _ e => zfwd_inj e) hlz (fun k hk => ?_)
    · rw [w5 u hu]
      exact (w1.2.2 305 u hc (by decide)).1
    · rw [zkeep_gD hk]
      unfold zfwd
      by_cases ek : k = 0
      · rw [if_pos ek, if_pos ek]
        refine ⟨t, t1, ?_, ?_⟩
        · exact t2.cg v1 (by decide)
        · rw [kR_uR, if_pos ⟨rfl, rfl⟩]
          exact ho.cg v1
      · have hkl : k ≤ (q_t R r).length := by
          unfold zkeep at hk
          simp only [List.length_cons, List.length_take] at hk
          omega
        rw [if_neg ek, if_neg ek, if_pos hkl]
        exact (r1.2.2.2.1 r hr).2.1.2.1 (k - 1) (by omega)
  by_cases h4 : (q_t R r).length < 4
  · refine bX3_keepSpare_16 cW (fun z => absurd z (by rw [k5W]; exact nI_ge h4 (by decide))) (fun _ => ?_)
    refine bX3_keepSpare_24 cW ?_
    rw [k5W, nI_1]
    refine fin _ (vex.i 305 _ _) (fun u hu => if_neg (fun z => hu z.2)) (fun u => rfl) ?_
    rw [kI_uI, if_pos ⟨rfl, rfl⟩]
    unfold zkeep
    rw [List.length_cons, List.length_take, show min 3 (q_t R r).length = (q_t R r).length by omega]
  · refine bX3_keepSpare_16 cW (fun _ => ?_) (fun z => absurd (by rw [k5W]; exact nI_le (a := 4) (by omega) (by omega)) z)
    refine fin W vex.rf (fun _ _ => rfl) (fun _ => rfl) ?_
    rw [k5W]
    unfold zkeep
    rw [List.length_cons, List.length_take, show min 3 (q_t R r).length = 3 by omega, show (q_t R r).length = 4 by omega]
end
