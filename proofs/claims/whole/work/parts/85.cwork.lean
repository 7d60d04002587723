/-- a rule that is at work stays open and unmade -/
theorem zwork_open {E : zE} {d r : Nat} {fs : List (Nat × zP)} : ∀ (n : Nat) (w : zW) (R : zQ), zJ E ((r, .inr w) :: fs) R → 24 ≤ d + (q_s R).length → q_m (zwork (zout E d) E r n w R).2 r = none ∧ q_s (zwork (zout E d) E r n w R).2 = q_s R := by
  intro n
  induction n with
  | zero => intro w R hJ _; exact ⟨hJ.1.2.2.2.2.1 r hJ.in, rfl⟩
  | succ n ih =>
    intro w R hJ hd
    have hm : q_m R r = none := hJ.1.2.2.2.2.1 r hJ.in
    have hw := (hJ.1.2.2.1 _ List.mem_cons_self).1
    cases hx : znext (e_k E r) (e_i E r) w with
    | none =>
      rw [zwork_end hx]
      unfold zfin
      dsimp only
      split <;> exact ⟨hm, rfl⟩
    | some nm =>
      obtain ⟨hJ2, hkp, hok⟩ := zcall hJ hd hx
      obtain ⟨h24, hmem⟩ := znext_lt hx (hJ.1.1.2.2.1 r) hw
      have h40 := hJ.1.1.2.2.2 r nm hmem
      rw [zwork, hx]
      dsimp only
      split
      · exact ⟨hJ2.1.2.2.2.2.1 r hJ2.in, hkp.1⟩
      · obtain ⟨t1, t2⟩ := ztake_ok (k := e_k E r) (t := e_t E r) (r := r) hw h24 hok h40
        obtain ⟨i1, i2⟩ := ih (ztake (e_k E r) (e_t E r) r w nm (zout E d R nm).1) (zout E d R nm).2 ⟨zWF_fr hJ2.1 ⟨t1, .inr (fun z => by rw [z] at hmem; cases hmem)⟩ (fun w2 _ => ⟨_, rfl⟩), hJ2.2.top (fun k' i' z => by cases z)⟩ (by rw [hkp.1]; exact hd)
        exact ⟨i1, i2.trans hkp.1⟩
section
variable {D : cD} {E : zE} {R : zQ} {sp : Nat → Option (List zR)} {lk w0 : Int32}
theorem crep.f01 {V : kV} (h : crep D E R sp lk w0 V) : (kI V 208 (dO D) = 0 → e_f E = false) ∧ (¬ kI V 208 (dO D) = 0 → e_f E = true) := by
  have := h.2.2.1.2.2.2.2.2.1
  constructor
  · intro z
    rw [this] at z
    cases he : e_f E with
    | false => rfl
    | true => rw [he] at z; cases z
  · intro z
    rw [this] at z
    cases he : e_f E with
    | true => rfl
    | false => rw [he] at z; exact absurd rfl z
theorem c_work {d : Nat} {Fg : Nat → Prop} {h0 : hp} {V : kV} {bc bs : Nat} {Q : Option sV → kV → Prop} {r k' : Nat} {fs : List (Nat × zP)} (e : Nat) (hC : COut Fg h0 D E d) (hkd : 1 ≤ e_k E r ∧ e_k E r ≤ 6) (hJ : zJ E ((r, .inl (k', 0)) :: fs) R) (hb : e_f E = true ∨ (q_t R r).length ≤ k') (hd : 24 ≤ d + (q_s R).length) (hR : crep D E R sp lk w0 V) (hsp : va_up sp r none = sp) (hr0 : q_r R r = none) {Z : zO × zQ} (hZ : zwork (zout E d) E r 30 zw0 (if e_f E = true then R else q_note R r) = Z) (b1 : 5 + 10 * zU R ≤ bc + 10 * zU Z.2) (b2 : 81 + 100 * zU R ≤ bs + 100 * zU Z.2)
    (hQ : ∀ a V2, vo V V2 → (∀ x ∈ q_s R, x ≠ r → kB V2 306 (dA D x) = kB V 306 (dA D x)) → q_s Z.2 = q_s R → q_m Z.2 r = none → kO V2 a = some Z.1 → crep D E Z.2 sp lk w0 V2 → Q (some (sR (some a))) V2) : cM (5 * d + e + 7) Fg h0 16 [sR (some (dO D)), sR (some (dA D r))] V bc bs Q := by
  have hE := hJ.1.1.1
  have hrn : r < e_n E := hJ.lt r hJ.in
  have hrs : r ∈ q_s R := hJ.in
  have hW2 := zWF_goes hJ.1
  have hS2 := zSt_goes hJ.1 hJ.2
  rw [zg_b hb] at hW2 hS2
  have hJ2 : zJ E ((r, .inr zw0) :: fs) (if e_f E = true then R else q_note R r) := ⟨hW2, hS2⟩
  refine cM_of (ls := [sR (some (dO D)), sR (some (dA D r)), sU]) rfl (Nat.le_of_ble_eq_true rfl) rfl ?_
  -- behind noteWorked
  have main : ∀ (R1 : zQ) (V1 : kV) (bc bs : Nat), zJ E ((r, .inr zw0) :: fs) R1 → zkp R R1 → q_r R1 r = none → zU R1 = zU R → zwork (zout E d) E r 30 zw0 R1 = Z → crep D E R1 sp lk w0 V1 → vk D R V V1 → 5 + 10 * zU R ≤ bc + 10 * zU Z.2 → 81 + 100 * zU R ≤ bs + 100 * zU Z.2 → cWP (5 * d + e + 6) Fg h0 16 Q 12 [sR (some (dO D)), sR (some (dA D r)), sU] [] V1 bc bs := by
    intro R1 V1 bc bs hJ1 hkp hr1 hu1 hz hR1 hv c1 c2
    have es1 : q_s R1 = q_s R := hkp.1
    have hlen : ∀ (R2 : zQ), zQok E R2 → ∀ x, x < e_n E → (q_t R2 x).length < 5 := fun R2 h2 x _ => by
      have := (h2.1 x).1
      omega
    have huZ : zU Z.2 ≤ zU R1 := by rw [← hz]; exact zU_work (zU_out d) r 30 _ _
    refine bX2_work_12 (bc1 := 3) (bs1 := 54) (P := fun v V2 => ∃ t, v = some (sR (some t)) ∧ vo V1 V2 ∧ (∀ x, x < e_n E → x ≠ r → kB V2 306 (dA D x) = kB V1 306 (dA D x)) ∧ crep D E R1 sp lk w0 V2 ∧ kB V2 306 (dA D r) (q_t R1 r).length = some t ∧ kC V2 t = 6) (hR1.kc hrn) (cM_le (by omega) (c_spareR (d := 0) hE hR1 hrn (hlen R1 hJ1.1.2.1 r hrn) (Nat.le_refl _) (Nat.le_refl _) (fun t V2 u1 u2 u3 u4 u5 => ⟨t, rfl, u1, u2, u3, u4, u5⟩))) (by omega) (by omega) ?_
    rintro v V2 ⟨t, rfl, u1, u2, u3, u4, u5⟩
    have wr : crep D E R1 (va_up sp r (some [])) lk w0 (uI V2 500 t 0) := by
      refine u3.write hrn (hlen R1 hJ1.1.2.1 r hrn) u4 ((vex.i 500 t 0).up (fun f hf z => hf (by rw [List.mem_singleton.mp z]; decide))) (fun x hx f => ⟨if_neg (fun z => hx z.2), rfl, rfl, rfl⟩) (fun g hg => ?_) (hlen R1 hJ1.1.2.1)
      cases hg
      exact ⟨u5, if_pos ⟨rfl, rfl⟩, fun i hi => absurd hi (by simp)⟩
    have hy : kB (uI V2 500 t 0) 306 (dA D r) (q_t R1 r).length = some t := u4
    have kkd : kI V2 301 (dA D r) = e_k E r := (u3.2.2.2.1 r hrn).1.2.2.1
    have kki : ∀ n : Int32, (kI V2 301 (dA D r)).toInt = n.toInt ↔ e_k E r = n := fun n => by
      rw [kkd]
      exact ⟨fun h => Int32.toInt_inj.mp h, fun h => by rw [h]⟩
    have vv : vo V (uI V2 500 t 0) := hv.1.tr u1
    have kb : ∀ x ∈ q_s R, x ≠ r → kB (uI V2 500 t 0) 306 (dA D x) = kB V 306 (dA D x) := fun x hx hxr => (u2 x (hJ.lt x hx) hxr).trans (hv.2 x hx)
    -- behind the reading
    let P : Option sV → kV → Prop := fun v V4 => ∃ a R2, v = some (sR (some a)) ∧ vk D R1 (uI V2 500 t 0) V4 ∧ zkp R1 R2 ∧ zQok E R2 ∧ q_m R2 r = none ∧ (((q_r R2 r).isSome = true ∧ Z = (zhit R2 r, R2) ∧ kO V4 a = some (zhit R2 r) ∧ crep D E R2 (va_up sp r none) lk w0 V4) ∨ ∃ w, q_r R2 r = none ∧ Z = zfin E r w R2 ∧ kO V4 a = some (zend (e_k E r) w) ∧ crep D E R2 (va_up sp r (some w.1)) lk w0 V4)
    have hP : cWq D E R1 sp lk w0 (uI V2 500 t 0) r Z P := ⟨fun a V4 R2 h1 h2 h3 h4 h5 h6 h7 h8 => ⟨a, R2, rfl, h1, h2, h3, h4, .inl ⟨h5, h6, h7, h8⟩⟩, fun a V4 R2 w h1 h2 h3 h4 h5 h6 h7 h8 => ⟨a, R2, rfl, h1, h2, h3, h4, .inr ⟨w, h5, h6, h7, h8⟩⟩⟩
    have tail : ∀ (v : Option sV) (V4 : kV) (bc bs : Nat), P v V4 → ∃ z0, v = some (sR z0) ∧ cWP (5 * d + e + 6) Fg h0 16 Q 79 [sR (some (dO D)), sR (some (dA D r)), sR z0] [] V4 bc bs := by
      rintro v V4 bc bs ⟨a, R2, rfl, h1, h2, h3, h4, h5⟩
      refine ⟨some a, rfl, ?_⟩
      have v4 : vo V V4 := vv.tr h1.1
      have kb4 : ∀ x ∈ q_s R, x ≠ r → kB V4 306 (dA D x) = kB V 306 (dA D x) := fun x hx hxr => (h1.2 x (by rw [es1]; exact hx)).trans (kb x hx hxr)
      have es2 : q_s R2 = q_s R := h2.1.trans es1
      rcases h5 with ⟨g1, g2, g3, g4⟩ | ⟨w, g1, g2, g3, g4⟩
      · rw [hsp] at g4
        have fin : cWP (5 * d + e + 6) Fg h0 16 Q 98 [sR (some (dO D)), sR (some (dA D r)), sR (some a)] [] V4 bc bs := by
          refine bX2_work_98 ?_
          subst g2
          exact hQ a V4 v4 kb4 es2 h4 g3 g4
        obtain ⟨-, -, ⟨q1, q2⟩, -⟩ := (g4.2.2.2.1 r hrn).2.2
        refine bX2_work_79 g4.2.2.1.1 (fun _ => fin) (fun _ => ?_)
        refine bX2_work_86 (g4.kc hrn) (fun _ => fin) (fun z => ?_)
        obtain ⟨l, hl⟩ := Option.isSome_iff_exists.mp g1
        obtain ⟨b, b1, -⟩ := (q2 l hl).1
        rw [b1] at z
        cases z
      · obtain ⟨-, -, ⟨q1, q2⟩, -⟩ := (g4.2.2.2.1 r hrn).2.2
        refine bX2_work_79 g4.2.2.1.1 (fun z => ?_) (fun z => ?_)
        · have hf := g4.f01.2 z
          refine bX2_work_98 ?_
          have ez : Z.2 = R2 := by rw [g2]; unfold zfin; rw [if_pos hf]
          have ez1 : Z.1 = zend (e_k E r) w := by rw [g2]; rfl
          have g5 := g4.drop
          rw [hsp] at g5
          exact hQ a V4 v4 kb4 (by rw [ez]; exact es2) (by rw [ez]; exact h4) (by rw [ez1]; exact g3) (by rw [ez]; exact g5)
        · have hf := g4.f01.1 z
          refine bX2_work_86 (g4.kc hrn) (fun z => absurd (q1 g1) z) (fun _ => ?_)
          refine bX2_work_93 (bc1 := 0) (bs1 := 0) (P := fun v V5 => v = none ∧ vo V4 V5 ∧ (∀ x, x < e_n E → x ≠ r → kB V5 306 (dA D x) = kB V4 306 (dA D x)) ∧ crep D E (q_tr R2 r (zkeep (q_t R2 r) (w.1, zend (e_k E r) w))) sp lk w0 V5) (g4.kc hrn) (cM_le (by omega) (c_keep (d := 0) (gs := w.1) (o := zend (e_k E r) w) hE g4 hrn (hlen R2 h3) (by rw [es2]; exact hrs) (va_up_self _ _ _) ⟨a, rfl, g3⟩ (fun V5 w1 w2 w3 => ⟨rfl, w1, w2, by rw [va_upup, hsp] at w3; exact w3⟩))) (Nat.zero_le _) (Nat.zero_le _) ?_
          rintro v V5 ⟨rfl, w1, w2, w3⟩
          refine bX2_work_98 ?_
          have ez : Z.2 = q_tr R2 r (zkeep (q_t R2 r) (w.1, zend (e_k E r) w)) := by rw [g2]; unfold zfin; rw [if_neg (by rw [hf]; simp)]
          have ez1 : Z.1 = zend (e_k E r) w := by rw [g2]; rfl
          exact hQ a V5 (v4.tr w1) (fun x hx hxr => (w2 x (hJ.lt x hx) hxr).trans (kb4 x hx hxr)) (by rw [ez]; exact es2) (by rw [ez]; exact h4) (by rw [ez1]; exact w1 a _ g3) (by rw [ez]; exact w3)
    have d1 : 24 ≤ d + (q_s R1).length := by rw [es1]; exact hd
    refine bX2_work_16 u5 (u3.kc hrn) (fun z => ?_) (fun z => ?_) (fun z => ?_)
    · have hk := (kki 5).mp z
      refine bX2_work_52 (bc1 := bc - 3) (bs1 := bs - 54) (P := P) u3.2.2.1.1 (c_readPicked (most := 1) e hC (.inl ⟨hk, rfl⟩) hJ1 hy d1 wr hr1 hz (by omega) (by omega) hP) (Nat.le_refl _) (Nat.le_refl _) (fun v V4 hv4 => ?_)
      obtain ⟨z0, rfl, K⟩ := tail v V4 _ _ hv4
      exact bX2_work_58 K
    · have hk := (kki 6).mp z
      refine bX2_work_62 (bc1 := bc - 3) (bs1 := bs - 54) (P := P) u3.2.2.1.1 (c_readPicked (most := 24) e hC (.inr ⟨hk, rfl⟩) hJ1 hy d1 wr hr1 hz (by omega) (by omega) hP) (Nat.le_refl _) (Nat.le_refl _) (fun v V4 hv4 => ?_)
      obtain ⟨z0, rfl, K⟩ := tail v V4 _ _ hv4
      exact bX2_work_69 K
    · have hk : e_k E r < 5 := by
        have h5 : ¬ e_k E r = 5 := fun h => z.1 ((kki 5).mpr h)
        have h6 : ¬ e_k E r = 6 := fun h => z.2 ((kki 6).mpr h)
        have h7 := Int32.le_iff_toInt_le.mp hkd.2
        have h5' : ¬ (e_k E r).toInt = 5 := fun h => h5 (Int32.toInt_inj.mp h)
        have h6' : ¬ (e_k E r).toInt = 6 := fun h => h6 (Int32.toInt_inj.mp h)
        rw [Int32.lt_iff_toInt_lt]
        have e6 : (6 : Int32).toInt = 6 := rfl
        have e5 : (5 : Int32).toInt = 5 := rfl
        omega
      refine bX2_work_73 (bc1 := bc - 3) (bs1 := bs - 54) (P := P) u3.2.2.1.1 (c_readInOrder e hC hk hJ1 hy d1 wr hr1 hz (by omega) (by omega) hP) (Nat.le_refl _) (Nat.le_refl _) (fun v V4 hv4 => ?_)
      obtain ⟨z0, rfl, K⟩ := tail v V4 _ _ hv4
      exact bX2_work_78 K
  refine bX2_work_0 hR.2.2.1.1 (fun z => ?_) (fun z => ?_)
  · have hf := hR.f01.2 z
    rw [if_pos hf] at hZ hJ2
    exact main R V bc bs hJ2 zkp.rf hr0 rfl hZ hR vk.rf b1 b2
  · have hf := hR.f01.1 z
    rw [if_neg (by rw [hf]; simp)] at hZ hJ2
    have hql : (q_w R).length < 24 := by
      obtain ⟨n1, n2⟩ := hJ2.1.2.2.2.2.2 hf
      have := znd 24 _ n1 (fun x hx => (n2 x hx).1)
      have e2 : (q_w (q_note R r)).length = (q_w R).length + 1 := by
        show (q_w R ++ [r]).length = _
        rw [List.length_append]
        rfl
      omega
    refine bX2_work_7 (bc1 := 0) (bs1 := 0) (P := fun v V1 => v = none ∧ vex [207, 203, 204] V V1 ∧ crep D E (q_note R r) sp lk w0 V1) hR.2.2.1.1 (cM_le (by omega) (c_noteWorked (d := 0) hR hrn hql (fun V1 w1 w2 => ⟨rfl, w1, w2⟩))) (Nat.zero_le _) (Nat.zero_le _) ?_
    rintro v V1 ⟨rfl, w1, w2⟩
    exact main (q_note R r) V1 _ _ hJ2 ⟨rfl, fun _ _ => rfl⟩ hr0 rfl hZ w2 (vk.vex hR hJ.lt w1 (by decide)) b1 b2
/-- what comes behind the look -/
def zmk2 (f : zF) (E : zE) (r : Nat) (Z : Option zO × zQ) : zO × zQ := match Z with
  | (some o, R2) => (o, q_close R2 r o)
  | (none, R2) => ((zwork f E r 30 zw0 (if e_f E = true then R2 else q_note R2 r)).1, q_close (zwork f E r 30 zw0 (if e_f E = true then R2 else q_note R2 r)).2 r (zwork f E r 30 zw0 (if e_f E = true then R2 else q_note R2 r)).1)
theorem zmake_2 {f : zF} {E : zE} {R : zQ} {r : Nat} : zmake f E R r = zmk2 f E r (if e_f E = true then (none, q_push R r) else zlook f r (q_t R r) 0 (q_push R r)) := rfl
/-- the contract of makeRule -/
def CMake (Fg : Nat → Prop) (h0 : hp) (D : cD) (E : zE) (d : Nat) : Prop := ∀ (R : zQ) (r : Nat) (fs : List (Nat × zP)) (sp : Nat → Option (List zR)) (lk w0 : Int32) (V : kV) (bc bs e : Nat) (Q : Option sV → kV → Prop), zJ E fs R → r < e_n E → q_m R r = none → r ∉ q_s R → q_r R r = none → 24 ≤ d + (q_s R).length + 1 → crep D E R sp lk w0 V → 10 * zU R ≤ bc + 10 * zU (zmake (zout E d) E R r).2 → 100 * zU R ≤ bs + 100 * zU (zmake (zout E d) E R r).2 → (∀ a V2, vk D R V V2 → kO V2 a = some (zmake (zout E d) E R r).1 → crep D E (zmake (zout E d) E R r).2 sp lk w0 V2 → Q (some (sR (some a))) V2) → cM (5 * d + e + 8) Fg h0 13 [sR (some (dO D)), sR (some (dA D r))] V bc bs Q
theorem c_makeRule {Fg : Nat → Prop} {h0 : hp} {d : Nat} (hkd : ∀ r, r < e_n E → 1 ≤ e_k E r ∧ e_k E r ≤ 6) (hC : COut Fg h0 D E d) : CMake Fg h0 D E d := by
  intro R r fs sp lk w0 V bc bs e Q hJ hrn hm hns hq0 hd hR b1 b2 hQ
  have hE := hJ.1.1.1
  have hg : zget E R (r + 16) = none := by
    unfold zget
    rw [if_neg (by omega), Nat.add_sub_cancel, if_neg (by omega), hm]
    simp [hns]
  have hWp := zWF_push hJ.1 hg
  rw [Nat.add_sub_cancel] at hWp
  have hJp : zJ E ((r, .inl (0, 0)) :: fs) (q_push R r) := ⟨hWp, hJ.2.push hns⟩
  have hcr := hR.push hE hrn hns
  have hnd : (q_s (q_push R r)).Nodup := hWp.2.1.2.2.1
  have hdp : 24 ≤ d + (q_s (q_push R r)).length := by show 24 ≤ d + ((q_s R).length + 1); omega
  have hspn : va_up (va_up sp r none) r none = va_up sp r none := va_upup _ _ _ _
  have k9 := hR.2.2.1.2.2.2.2.2.2
  refine cM_of (ls := [sR (some (dO D)), sR (some (dA D r)), sU]) rfl (Nat.le_of_ble_eq_true rfl) rfl ?_
  have hcl : ∀ (R2 : zQ) (o : zO), q_m R2 r = none → zU (q_close R2 r o) + 1 = zU R2 := fun R2 o h => (zun_up (q_m R2) r o 24).2 (by omega) h
  -- closing
  have close : ∀ (a : Nat) (V2 : kV) (o : zO) (R2 : zQ) (bc bs : Nat), vo V V2 → (∀ x ∈ q_s R, kB V2 306 (dA D x) = kB V 306 (dA D x)) → q_s R2 = r :: q_s R → kO V2 a = some o → crep D E R2 (va_up sp r none) lk w0 V2 → zmake (zout E d) E R r = (o, q_close R2 r o) → cWP (5 * d + e + 7) Fg h0 13 Q 45 [sR (some (dO D)), sR (some (dA D r)), sR (some a)] [] V2 bc bs := by
    intro a V2 o R2 bc bs h1 h2 h3 h4 h5 h6
    have k92 := h5.2.2.1.2.2.2.2.2.2
    refine bX2_makeRule_45 (h5.kc hrn) h5.2.2.1.1 ?_
    rw [k92, h3]
    show Q _ (uI (uI (uR V2 308 (dA D r) (some a)) 311 (dA D r) 0) 209 (dO D) (nI ((q_s R).length + 1) - 1))
    rw [nI_pred]
    have c5 := h5.close (n := 0) hE hrn h3 (by rw [h3]; exact hnd) h4
    rw [h6] at hQ
    refine hQ a _ ⟨h1, h2⟩ h4 (c5.spl (fun x hx => ?_))
    right
    rw [va_up_ne _ _ (fun z => ?_)]
    have hx : x ∈ (q_s R2).tail := hx
    rw [h3, z] at hx
    exact hns hx
  have kb0 : ∀ V2, (∀ x ∈ q_s (q_push R r), x ≠ r → kB V2 306 (dA D x) = kB V 306 (dA D x)) → ∀ x ∈ q_s R, kB V2 306 (dA D x) = kB V 306 (dA D x) := fun V2 h x hx => h x (List.mem_cons_of_mem _ hx) (fun z => hns (by rw [← z]; exact hx))
  -- working
  have work : ∀ (R1 : zQ) (k' : Nat) (V1 : kV) (bc bs : Nat), zJ E ((r, .inl (k', 0)) :: fs) R1 → (e_f E = true ∨ (q_t R1 r).length ≤ k') → zkp (q_push R r) R1 → q_r R1 r = none → crep D E R1 (va_up sp r none) lk w0 V1 → vk D (q_push R r) V V1 → zmake (zout E d) E R r = ((zwork (zout E d) E r 30 zw0 (if e_f E = true then R1 else q_note R1 r)).1, q_close (zwork (zout E d) E r 30 zw0 (if e_f E = true then R1 else q_note R1 r)).2 r (zwork (zout E d) E r 30 zw0 (if e_f E = true then R1 else q_note R1 r)).1) → 10 * zU R1 ≤ bc + 10 * zU (zmake (zout E d) E R r).2 → 100 * zU R1 ≤ bs + 100 * zU (zmake (zout E d) E R r).2 → cWP (5 * d + e + 7) Fg h0 13 Q 34 [sR (some (dO D)), sR (some (dA D r)), sU] [sR none] V1 bc bs := by
    intro R1 k' V1 bc bs g1 g2 g3 g4 g5 g6 g7 g8 g9
    have es1 : q_s R1 = r :: q_s R := g3.1
    refine bX2_makeRule_34 (fun z => absurd rfl z) (fun _ => ?_)
    generalize hz : zwork (zout E d) E r 30 zw0 (if e_f E = true then R1 else q_note R1 r) = Z at g7
    -- the room that is left
    have hmZ : q_s Z.2 = q_s R1 → q_m Z.2 r = none → 10 * zU R1 ≤ bc + 10 * (zU Z.2 - 1) ∧ 100 * zU R1 ≤ bs + 100 * (zU Z.2 - 1) ∧ 1 ≤ zU Z.2 := fun _ h => by
      have := hcl Z.2 Z.1 h
      rw [g7] at g8 g9
      have g8 : 10 * zU R1 ≤ bc + 10 * zU (q_close Z.2 r Z.1) := g8
      have g9 : 100 * zU R1 ≤ bs + 100 * zU (q_close Z.2 r Z.1) := g9
      omega
    have hW2 := zWF_goes g1.1
    have hS2 := zSt_goes g1.1 g1.2
    rw [zg_b g2] at hW2 hS2
    have hop := zwork_open (d := d) 30 zw0 _ ⟨hW2, hS2⟩ (by
      have e1 : q_s (if e_f E = true then R1 else q_note R1 r) = r :: q_s R := by split <;> exact es1
      show 24 ≤ d + (q_s (if e_f E = true then R1 else q_note R1 r)).length
      rw [e1]
      simp only [List.length_cons]
      omega)
    have hop1 : q_m (zwork (zout E d) E r 30 zw0 (if e_f E = true then R1 else q_note R1 r)).2 r = none := hop.1
    have hop2 : q_s (zwork (zout E d) E r 30 zw0 (if e_f E = true then R1 else q_note R1 r)).2 = q_s (if e_f E = true then R1 else q_note R1 r) := hop.2
    rw [hz] at hop1 hop2
    have hqZ : q_s Z.2 = q_s R1 := by
      rw [hop2]
      split <;> rfl
    have hmm : q_m Z.2 r = none := hop1
    obtain ⟨m1, m2, m3⟩ := hmZ hqZ hmm
    refine bX2_makeRule_39 (bc1 := bc) (bs1 := bs) (P := fun v V2 => ∃ a, v = some (sR (some a)) ∧ vo V1 V2 ∧ (∀ x ∈ q_s R1, x ≠ r → kB V2 306 (dA D x) = kB V1 306 (dA D x)) ∧ kO V2 a = some Z.1 ∧ crep D E Z.2 (va_up sp r none) lk w0 V2) g5.2.2.1.1 (c_work e hC (hkd r hrn) g1 g2 (by rw [es1]; simp only [List.length_cons]; omega) g5 hspn g4 hz (by omega) (by omega) (fun a V2 w1 w2 w3 w4 w5 w6 => ⟨a, rfl, w1, w2, w5, w6⟩)) (Nat.le_refl _) (Nat.le_refl _) ?_
    rintro v V2 ⟨a, rfl, w1, w2, w5, w6⟩
    refine bX2_makeRule_44 ?_
    exact close a V2 Z.1 Z.2 _ _ (g6.1.tr w1) (fun x hx => by
      have hx1 : x ∈ q_s (q_push R r) := List.mem_cons_of_mem _ hx
      rw [w2 x (by rw [es1]; exact List.mem_cons_of_mem _ hx) (fun z => hns (by rw [← z]; exact hx)), g6.2 x hx1]) (hqZ.trans es1) w5 w6 g7
  refine bX2_makeRule_0 hR.2.2.1.1 (hR.kc hrn) (fun z => ?_) (fun z => ?_)
  · have hf := hR.f01.1 z
    rw [k9, nI_1]
    generalize hz : zlook (zout E d) r (q_t R r) 0 (q_push R r) = Z
    have hqr : q_r (q_push R r) r = none := hq0
    have hmk : zmake (zout E d) E R r = zmk2 (zout E d) E r Z := by
      rw [zmake_2, if_neg (by rw [hf]; simp), hz]
    have huZ : zU (zmake (zout E d) E R r).2 ≤ zU Z.2 := by
      rw [hmk]
      obtain ⟨oo, R2⟩ := Z
      have hc : ∀ (R2 : zQ) (o : zO), zU (q_close R2 r o) ≤ zU R2 := fun R2 o => (zun_up (q_m R2) r o 24).1
      cases oo with
      | some o => exact hc _ _
      | none =>
        refine Nat.le_trans (hc _ _) (Nat.le_trans (zU_work (zU_out d) r 30 zw0 _) ?_)
        split <;> exact Nat.le_refl _
    have huZ2 : zU Z.2 ≤ zU R := by rw [← hz]; exact zU_look (zU_out d) r (q_t R r) 0 (q_push R r)
    refine bX2_makeRule_29 (bc1 := 10 * zU R - 10 * zU Z.2) (bs1 := 100 * zU R - 100 * zU Z.2) (P := fun v V2 => (∃ a o, v = some (sR (some a)) ∧ vo (uI (uI V 209 (dO D) (nI ((q_s R).length + 1))) 311 (dA D r) (nI ((q_s R).length + 1))) V2 ∧ (∀ x ∈ q_s (q_push R r), x ≠ r → kB V2 306 (dA D x) = kB V 306 (dA D x)) ∧ Z.1 = some o ∧ q_s Z.2 = q_s (q_push R r) ∧ kO V2 a = some o ∧ crep D E Z.2 (va_up sp r none) lk w0 V2) ∨ ∃ k', v = some (sR none) ∧ vk D (q_push R r) V V2 ∧ Z.1 = none ∧ zJ E ((r, .inl (k', 0)) :: fs) Z.2 ∧ (q_t Z.2 r).length ≤ k' ∧ zkp (q_push R r) Z.2 ∧ q_r Z.2 r = none ∧ crep D E Z.2 (va_up sp r none) lk w0 V2) hcr.2.2.1.1 (c_lookAt e hC hf hJp hdp hcr hspn hqr hz (show 10 * zU R ≤ _ by omega) (show 100 * zU R ≤ _ by omega) (fun a V2 o w1 w2 w3 w4 w5 w6 w7 => .inl ⟨a, o, rfl, w1, w2, w3, w4, w6, w7⟩) (fun V2 k' w1 w2 w3 w4 w5 w6 w7 => .inr ⟨k', rfl, w1, w2, w3, w4, w5, w6, w7⟩)) (by omega) (by omega) ?_
    rintro v V2 (⟨a, o, rfl, w1, w2, w3, w4, w6, w7⟩ | ⟨k', rfl, w1, w2, w3, w4, w5, w6, w7⟩)
    · refine bX2_makeRule_34 (fun _ => ?_) (fun z => by cases z)
      obtain ⟨oo, R2⟩ := Z
      cases w3
      exact close a V2 o R2 _ _ w1 (kb0 V2 w2) w4 w6 w7 hmk
    · obtain ⟨oo, R2⟩ := Z
      have w2 : oo = none := w2
      subst w2
      refine work R2 k' V2 _ _ w3 (.inr w4) w5 w6 w7 w1 hmk ?_ ?_
      · have h1 : zU R2 ≤ zU R := huZ2
        have h2 : zU (zmake (zout E d) E R r).2 ≤ zU R2 := huZ
        show 10 * zU R2 ≤ bc - (10 * zU R - 10 * zU R2) + _
        omega
      · have h1 : zU R2 ≤ zU R := huZ2
        have h2 : zU (zmake (zout E d) E R r).2 ≤ zU R2 := huZ
        show 100 * zU R2 ≤ bs - (100 * zU R - 100 * zU R2) + _
        omega
  · have hf := hR.f01.2 z
    rw [k9, nI_1]
    refine bX2_makeRule_25 (work (q_push R r) 0 _ bc bs hJp (.inl hf) zkp.rf hq0 hcr ⟨fun _ _ h => h, fun _ _ => rfl⟩ ?_ b1 b2)
    unfold zmake
    rw [if_pos hf]
end
