section
variable {D : cD} {E : zE} {R : zQ} {sp : Nat → Option (List zR)} {lk w0 : Int32} {V V2 : kV}
/-- a trace whose fields are as they were -/
theorem cTr.same {t : Nat} {gs : List zR} (h : cTr V t gs) (hc : kC V2 t = kC V t) (ho : ∀ a o, kO V a = some o → kO V2 a = some o) (hs : ∀ f, kI V2 f t = kI V f t ∧ kA V2 f t = kA V f t ∧ kB V2 f t = kB V f t) : cTr V2 t gs := by
  obtain ⟨h1, h2, h3⟩ := h
  refine ⟨hc.trans h1, (hs 500).1.trans h2, fun i hi => ?_⟩
  obtain ⟨a1, a, a2, a3⟩ := h3 i hi
  exact ⟨by rw [(hs 502).2.1]; exact a1, a, by rw [(hs 503).2.2]; exact a2, ho a _ a3⟩
/-- the spare trace of an open rule is written -/
theorem crep.write (h : crep D E R sp lk w0 V) {r t : Nat} (hr : r < e_n E) (hl : (q_t R r).length < 5) (ht : kB V 306 (dA D r) (q_t R r).length = some t) (v : vex [500, 501, 502, 503] V V2) (hs : ∀ u, u ≠ t → ∀ f, kI V2 f u = kI V f u ∧ kR V2 f u = kR V f u ∧ kA V2 f u = kA V f u ∧ kB V2 f u = kB V f u) {gs : Option (List zR)} (hg : ∀ g, gs = some g → cTr V2 t g) (hlen : ∀ x, x < e_n E → (q_t R x).length < 5) : crep D E R (va_up sp r gs) lk w0 V2 := by
  refine ⟨h.1.cg v (by decide), h.2.1.cg v (by decide), h.2.2.1.cg v (by decide), fun s hs2 => ⟨(h.2.2.2.1 s hs2).1.cg v (by decide), ?_, (h.2.2.2.1 s hs2).2.2.cg (h.k0 hs2) v (by decide)⟩, h.2.2.2.2.cg (fun r hr => h.k0 hr) v (by decide)⟩
  obtain ⟨h1, h2, h3, h4⟩ := (h.2.2.2.1 s hs2).2.1
  have c0 := h.k0 hs2
  have e6 := (v.2.2 306 _ c0 (by decide)).2.2.2
  have hne : ∀ k y, k < 5 → kB V 306 (dA D s) k = some y → (s ≠ r ∨ k ≠ (q_t R r).length) → y ≠ t := fun k y hk hy hne e => by
    rw [e] at hy
    have := h.2.2.2.2 s r k _ t hs2 hr hk hl hy ht
    rcases hne with z | z
    · exact z this.1
    · exact z this.2
  have cs : ∀ y gs, y ≠ t → cTr V y gs → cTr V2 y gs := fun y gs hy hc => hc.same (v.1 y (by rw [hc.1]; decide)).1 v.2.1 (fun f => ⟨(hs y hy f).1, (hs y hy f).2.2⟩)
  have hls := hlen s hs2
  refine ⟨by rw [(v.2.2 305 _ c0 (by decide)).1]; exact h1, fun k hk => ?_, fun k u hk hu => ?_, fun hm g hgs => ?_⟩
  · obtain ⟨y, y1, y2, y3⟩ := h2 k hk
    have yt : y ≠ t := hne k y (by omega) y1 (by by_cases e : s = r; exact .inr (by rw [← e]; omega); exact .inl e)
    refine ⟨y, by rw [e6]; exact y1, cs y _ yt y2, ?_⟩
    rw [(hs y yt 501).2.1]
    exact y3.cg v
  · rw [e6] at hu
    have := h3 k u hk hu
    rw [(v.1 u (by rw [this]; decide)).1]
    exact this
  · by_cases e : s = r
    · subst e
      rw [va_up_self] at hgs
      exact ⟨t, by rw [e6]; exact ht, hg g hgs⟩
    · rw [va_up_ne _ _ e] at hgs
      obtain ⟨u, u1, u2⟩ := h4 hm g hgs
      exact ⟨u, by rw [e6]; exact u1, cs u _ (hne _ u hls u1 (.inl e)) u2⟩
/-- a spare trace comes -/
theorem crep.spare (hE : e_n E ≤ 24) (h : crep D E R sp lk w0 V) {r t : Nat} {rr : Nat → Nat} (hr : r < e_n E) (hn : kB V 306 (dA D r) (q_t R r).length = none) (ht : ¬ kD V t) : crep D E R sp lk w0 (uB (uX V t 6 rr) 306 (dA D r) (q_t R r).length (some t)) := by
  have h1 := h.le (vex.x (y := t) (c := 6) (rr := rr) ht)
  generalize hV1 : uX V t 6 rr = V1 at h1 ⊢
  have v := vex.b (V := V1) 306 (dA D r) (q_t R r).length (some t)
  have e6 : ∀ s, s < e_n E → kB V1 306 (dA D s) = kB V 306 (dA D s) := fun s hs => by
    rw [← hV1]
    exact ((vex.x (y := t) (c := 6) (rr := rr) ht).2.2 306 _ (h.k0 hs) List.not_mem_nil).2.2.2
  have ct : kC V1 t = 6 := by rw [← hV1]; exact va_up_self _ _ _
  have old : ∀ s k y, s < e_n E → k < 5 → kB V1 306 (dA D s) k = some y → y ≠ t := fun s k y hs hk hy e => by
    rw [e6 s hs] at hy
    have := (h.2.2.2.1 s hs).2.1.2.2.1 k y hk hy
    exact ht (.inl (by rw [← e, this]; decide))
  have rd : ∀ s k, s < e_n E → kB (uB V1 306 (dA D r) (q_t R r).length (some t)) 306 (dA D s) k = if s = r ∧ k = (q_t R r).length then some t else kB V1 306 (dA D s) k := fun s k hs => by
    rw [kB_uB]
    by_cases e : s = r
    · subst e
      rw [if_pos ⟨rfl, rfl⟩]
      unfold va_up
      by_cases ek : k = (q_t R s).length
      · rw [if_pos ek, if_pos ⟨rfl, ek⟩]
      · rw [if_neg ek, if_neg (fun z => ek z.2)]
    · rw [if_neg (fun z => e (h.inj hE hs hr z.2)), if_neg (fun z => e z.1)]
  have hn1 : kB V1 306 (dA D r) (q_t R r).length = none := by rw [e6 r hr]; exact hn
  refine ⟨h1.1.cg v (by decide), h1.2.1.cg v (by decide), h1.2.2.1.cg v (by decide), fun s hs2 => ⟨(h1.2.2.2.1 s hs2).1.cg v (by decide), ?_, (h1.2.2.2.1 s hs2).2.2.cg (h1.k0 hs2) v (by decide)⟩, fun a b k k' u ha hb hk hk' hu hu' => ?_⟩
  · obtain ⟨a1, a2, a3, a4⟩ := (h1.2.2.2.1 s hs2).2.1
    refine ⟨a1, fun k hk => ?_, fun k u hk hu => ?_, fun hm g hg => ?_⟩
    · obtain ⟨y, y1, y2, y3⟩ := a2 k hk
      refine ⟨y, ?_, y2, y3⟩
      rw [rd s k hs2, if_neg (fun z => by obtain ⟨z1, z2⟩ := z; rw [z1, z2] at y1; rw [hn1] at y1; cases y1)]
      exact y1
    · rw [rd s k hs2] at hu
      split at hu
      · cases hu; exact ct
      · exact a3 k u hk hu
    · obtain ⟨y, y1, y2⟩ := a4 hm g hg
      refine ⟨y, ?_, y2⟩
      rw [rd s _ hs2, if_neg (fun z => by obtain ⟨z1, z2⟩ := z; rw [z1] at y1; rw [hn1] at y1; cases y1)]
      exact y1
  · rw [rd a k ha] at hu
    rw [rd b k' hb] at hu'
    split at hu
    · next e1 =>
      cases hu
      split at hu'
      · next e2 => exact ⟨e1.1.trans e2.1.symm, e1.2.trans e2.2.symm⟩
      · exact absurd rfl (old b k' t hb hk' hu')
    · split at hu'
      · cases hu'
        exact absurd rfl (old a k t ha hk hu)
      · exact h1.2.2.2.2 a b k k' u ha hb hk hk' hu hu'
/-- the traces of a rule come in another order -/
theorem crep.perm (hE : e_n E ≤ 24) (h : crep D E R sp lk w0 V) {r : Nat} {l : List zT} {p : Nat → Nat} (hr : r < e_n E) (v : vex [305, 306] V V2) (hs : ∀ u, kC V u ≠ 0 → u ≠ dA D r → kI V2 305 u = kI V 305 u ∧ kB V2 306 u = kB V 306 u) (h5 : kI V2 305 (dA D r) = nI l.length) (hp : ∀ k, k < 5 → p k < 5 ∧ kB V2 306 (dA D r) k = kB V 306 (dA D r) (p k)) (hpi : ∀ j k, j < 5 → k < 5 → p j = p k → j = k) (hl : l.length ≤ 4) (ht : ∀ k, k < l.length → cTk V (dA D r) (p k) (l.getD k zt0)) : crep D E (q_tr R r l) (va_up sp r none) lk w0 V2 := by
  have hu : ∀ s, s < e_n E → s ≠ r → dA D s ≠ dA D r := fun s hs e z => e (h.inj hE hs hr z)
  refine ⟨h.1.cg v (by decide), h.2.1.cg v (by decide), h.2.2.1.cg v (by decide), fun s hs2 => ⟨(h.2.2.2.1 s hs2).1.cg v (by decide), ?_, (h.2.2.2.1 s hs2).2.2.cg (h.k0 hs2) v (by decide)⟩, fun a b k k' u ha hb hk hk' h1 h2 => ?_⟩
  · obtain ⟨a1, a2, a3, a4⟩ := (h.2.2.2.1 s hs2).2.1
    have cc : ∀ k y, k < 5 → kB V 306 (dA D s) k = some y → kC V2 y = 6 := fun k y hk hy => by
      have := a3 k y hk hy
      rw [(v.1 y (by rw [this]; decide)).1]
      exact this
    by_cases e : s = r
    · subst e
      have el : q_t (q_tr R s l) s = l := va_up_self _ _ _
      refine ⟨by rw [el]; exact h5, fun k hk => ?_, fun k y hk hy => ?_, fun _ g hg => by rw [va_up_self] at hg; cases hg⟩
      · rw [el] at hk ⊢
        obtain ⟨y, y1, y2, y3⟩ := ht k hk
        refine ⟨y, by rw [(hp k (by omega)).2]; exact y1, y2.cg v (by decide), ?_⟩
        rw [(v.2.2 501 y (by rw [y2.1]; decide) (by decide)).2.1]
        exact y3.cg v
      · rw [(hp k hk).2] at hy
        exact cc (p k) y (hp k hk).1 hy
    · have el : q_t (q_tr R r l) s = q_t R s := va_up_ne _ _ e
      have eb := hs _ (h.k0 hs2) (hu s hs2 e)
      refine ⟨by rw [el, eb.1]; exact a1, fun k hk => ?_, fun k y hk hy => ?_, fun hm g hg => ?_⟩
      · rw [el] at hk ⊢
        obtain ⟨y, y1, y2, y3⟩ := a2 k hk
        refine ⟨y, by rw [eb.2]; exact y1, y2.cg v (by decide), ?_⟩
        rw [(v.2.2 501 y (by rw [y2.1]; decide) (by decide)).2.1]
        exact y3.cg v
      · rw [eb.2] at hy
        exact cc k y hk hy
      · rw [va_up_ne _ _ e] at hg
        rw [el, eb.2]
        obtain ⟨y, y1, y2⟩ := a4 hm g hg
        exact ⟨y, y1, y2.cg v (by decide)⟩
  · have rd : ∀ s k, s < e_n E → k < 5 → ∃ k2, k2 < 5 ∧ kB V2 306 (dA D s) k = kB V 306 (dA D s) k2 ∧ (s = r → k2 = p k) ∧ (s ≠ r → k2 = k) := fun s k hs3 hk => by
      by_cases e : s = r
      · subst e
        exact ⟨p k, (hp k hk).1, (hp k hk).2, fun _ => rfl, fun z => absurd rfl z⟩
      · exact ⟨k, hk, by rw [(hs _ (h.k0 hs3) (hu s hs3 e)).2], fun z => absurd z e, fun _ => rfl⟩
    obtain ⟨k2, b1, b2, b3, b4⟩ := rd a k ha hk
    obtain ⟨k3, c1, c2, c3, c4⟩ := rd b k' hb hk'
    rw [b2] at h1
    rw [c2] at h2
    obtain ⟨e1, e2⟩ := h.2.2.2.2 a b k2 k3 u ha hb b1 c1 h1 h2
    refine ⟨e1, ?_⟩
    by_cases e : a = r
    · rw [b3 e, c3 (e1 ▸ e)] at e2
      exact hpi k k' hk hk' e2
    · rw [b4 e, c4 (fun z => e (e1.trans z))] at e2
      exact e2
end
/-- a row is brought forward -/
def zfwd (k j : Nat) : Nat := if j = 0 then k else if j ≤ k then j - 1 else j
theorem zfwd_lt {k j : Nat} (hk : k < 5) (hj : j < 5) : zfwd k j < 5 := by unfold zfwd; split; omega; split <;> omega
theorem zfwd_inj {k i j : Nat} (h : zfwd k i = zfwd k j) : i = j := by
  unfold zfwd at h
  split at h <;> split at h <;> first | omega | (split at h <;> first | omega | (split at h <;> omega))
theorem c_bringForward {d : Nat} {Fg : Nat → Prop} {h0 : hp} {V : kV} {bc bs : Nat} {Q : Option sV → kV → Prop} {a k : Nat} (hc : kC V a = 4) (hk : k < 5) (ha : ∀ k t, k < 5 → kB V 306 a k = some t → kC V t = 6) (hQ : ∀ V2, vex [306] V V2 → (∀ u, u ≠ a → kB V2 306 u = kB V 306 u) → (∀ j, j < 5 → kB V2 306 a j = kB V 306 a (zfwd k j)) → Q none V2) : cM (d + 1) Fg h0 29 [sR (some a), sI (nI k)] V bc bs Q := by
  refine cM_of (ls := [sR (some a), sI (nI k), sU, sU]) rfl (Nat.le_of_ble_eq_true rfl) rfl ?_
  refine bX3_bringForward_0 (fun z => absurd z (nI_pos (by omega))) (fun _ => ?_)
  refine bX3_bringForward_4 (fun _ => ?_) (fun z => absurd (show nI k ≤ nI 4 from nI_le (by omega) (by omega)) z)
  refine bX3_bringForward_10 hc (vin k rfl hk (by decide)) ?_
  rw [nix k rfl (by omega)]
  have loop : ∀ (i : Nat) (W : kV), i ≤ k → vex [306] V W → (∀ u, u ≠ a → kB W 306 u = kB V 306 u) → (∀ j, j < 5 → kB W 306 a j = if i < j ∧ j ≤ k then kB V 306 a (j - 1) else kB V 306 a j) → cWP d Fg h0 29 Q 19 [sR (some a), sI (nI k), sR (kB V 306 a k), sI (nI i)] [] W bc bs := by
    intro i
    induction i with
    | zero =>
      intro W hi v h1 h2
      have hcW : kC W a = 4 := (v.1 a (by rw [hc]; decide)).1.trans hc
      refine bX3_bringForward_19 (fun _ => ?_) (fun z => absurd (by rw [nI_0]; decide) z)
      refine bX3_bringForward_43 hcW (vin 0 rfl (by omega) (by decide)) (fun b hb => ?_) (hQ _ (v.tr (vex.b 306 a _ _) (fun f hf => hf) (fun f hf => hf)) (fun u hu => ?_) (fun j hj => ?_))
      · have := ha k b hk hb
        rw [(v.1 b (by rw [this]; decide)).1]
        exact this
      · rw [kB_uB, if_neg (fun z => hu z.2)]
        exact h1 u hu
      · rw [kB_uB, if_pos ⟨rfl, rfl⟩]
        show va_up (kB W 306 a) 0 (kB V 306 a k) j = _
        unfold zfwd
        by_cases e : j = 0
        · rw [e, va_up_self, if_pos rfl]
        · rw [va_up_ne _ _ e, if_neg e, h2 j hj]
          by_cases e2 : j ≤ k
          · rw [if_pos ⟨by omega, e2⟩, if_pos e2]
          · rw [if_neg (fun z => e2 z.2), if_neg e2]
    | succ i ih =>
      intro W hi v h1 h2
      have hcW : kC W a = 4 := (v.1 a (by rw [hc]; decide)).1.trans hc
      have e2 : nI (i + 1) - 1 = nI i := nI_pred i
      refine bX3_bringForward_19 (fun z => absurd z (nI_nle (by omega) (by omega))) (fun _ => ?_)
      have hW : kB W 306 a i = kB V 306 a i := by rw [h2 i (by omega), if_neg (by omega)]
      refine bX3_bringForward_23 hcW (vin i e2 (by omega) (by decide)) (vin (i + 1) rfl (by omega) (by decide)) (fun b hb => ?_) ?_
      · rw [nix i e2 (by omega), hW] at hb
        have := ha i b (by omega) hb
        rw [(v.1 b (by rw [this]; decide)).1]
        exact this
      · rw [nix i e2 (by omega), nix (i + 1) rfl (by omega), nc4r, hW]
        refine ih _ (by omega) (v.tr (vex.b 306 a _ _) (fun f hf => hf) (fun f hf => hf)) (fun u hu => ?_) (fun j hj => ?_)
        · rw [kB_uB, if_neg (fun z => hu z.2)]
          exact h1 u hu
        · rw [kB_uB, if_pos ⟨rfl, rfl⟩]
          by_cases e : j = i + 1
          · subst e
            rw [va_up_self, if_pos (by omega), Nat.add_sub_cancel]
          · rw [va_up_ne _ _ e, h2 j hj]
            by_cases e3 : i + 1 < j ∧ j ≤ k
            · rw [if_pos e3, if_pos ⟨by omega, e3.2⟩]
            · rw [if_neg e3, if_neg (by omega)]
  exact loop k V (Nat.le_refl _) vex.rf (fun _ _ => rfl) (fun j hj => by rw [if_neg (by omega)])
