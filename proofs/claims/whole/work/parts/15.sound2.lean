section SOUND2
variable {p : Program} {l : Launch} {e : Env} {s : State} {m : MethodId} {args : Array Value} {below : List Frame} {meth : Method} {c : Code} {R : Room} {A : Nat → Prop} {D : va_G} {cy : Nat → ClassId} {M d mc ms : Nat} {Q : Option sV → hp → Prop} {Z : sZ} {O : sO} {Qw : State → Prop} {pc : Nat} {ls st : List sV} {h : hp} {bc bs : Nat}
theorem sS_getfield {idx : Nat} (F : sFix p s m args meth c R A D cy M d mc ms Z) (hd : decode (sm M).2.1 pc = .ok (.getfield idx, 3)) (hp : sP O Z M Q (sGo p l e R s m args below meth c A D cy (sm M).2.2.1 mc ms Qw) pc ls st h bc bs (.getfield idx) 3) : sGo p l e R s m args below meth c A D cy (sm M).2.2.1 mc ms Qw pc ls st h bc bs := by
  obtain ⟨hx, hb, hml, hown, hnm, hts, hK, hX, hA, hRc, hRs, hRf, hRl, hZ⟩ := F
  obtain ⟨c0, k, a, st', rfl, ⟨q, hq, hkN, hlink⟩, hg, hk⟩ := hp
  intro H locs cells slots lsM hW hS hl hll hc hs
  obtain ⟨L, hL, h24, hP, hD⟩ := id hW
  obtain ⟨c8, cN, cW, cT, cM, cI, cZ⟩ := sCl c0 q hq
  have haL : a ∈ L := (hL a).mpr (by rw [hg]; omega)
  obtain ⟨pk, hpk⟩ := va_pl_get (X := []) (f := sE cy h) haL
  have he := hpk
  rw [sE_obj hg c8] at he
  show W p l e R s m args below meth c H locs cells slots Qw (F0 m pc lsM (.ref a :: st'.map sv))
  refine va_get (D := D) (ci := c0) (v := sv (sF h c0 k a)) (C := q.1) (T := q.2.1) (N := q.2.2) hx hb hts cW hown hK hP pk he hq k hkN (hts _ hlink) (fun _ z => z) ?_ hd (hk H locs cells slots lsM hW hS hl hll hc hs)
  rw [cN]
  simp [hkN]
theorem sS_putfield {idx : Nat} (F : sFix p s m args meth c R A D cy M d mc ms Z) (hd : decode (sm M).2.1 pc = .ok (.putfield idx, 3)) (hp : sP O Z M Q (sGo p l e R s m args below meth c A D cy (sm M).2.2.1 mc ms Qw) pc ls st h bc bs (.putfield idx) 3) : sGo p l e R s m args below meth c A D cy (sm M).2.2.1 mc ms Qw pc ls st h bc bs := by
  obtain ⟨hx, hb, hml, hown, hnm, hts, hK, hX, hA, hRc, hRs, hRf, hRl, hZ⟩ := F
  obtain ⟨c0, k, a, v, st', rfl, ⟨q, hq, hkN, hlink, hfin⟩, hg, hk⟩ := hp
  intro H locs cells slots lsM hW hS hl hll hc hs
  obtain ⟨L, hL, h24, hP, hD⟩ := id hW
  obtain ⟨c8, cN, cW, cT, cM, cI, cZ⟩ := sCl c0 q hq
  have haL : a ∈ L := (hL a).mpr (by rw [hg]; omega)
  obtain ⟨pk, hpk⟩ := va_pl_get (X := []) (f := sE cy h) haL
  have he := hpk
  rw [sE_obj hg c8] at he
  have hkN' : k < sN c0 := by rw [cN]; exact hkN
  show W p l e R s m args below meth c H locs cells slots Qw (F0 m pc lsM (sv v :: .ref a :: st'.map sv))
  have key : narrow (sT c0 k) (sv v) = sv v → fits (sT c0 k) (sv v) = true → (∀ (H1 : Heap) (locs1 : List Loc), va_P D vwCl (([] ++ va_pl L (sE cy h)).set pk (a, .inr (c0, ((List.range (sN c0)).map (fun k => sv (sF h c0 k a))).set k (sv v)))) H1 → va_D A (([] ++ va_pl L (sE cy h)).set pk (a, .inr (c0, ((List.range (sN c0)).map (fun k => sv (sF h c0 k a))).set k (sv v)))) → va_S A s.heap H1 locs1 → W p l e R s m args below meth c H1 locs1 cells slots Qw (F0 m (pc + 3) lsM (st'.map sv))) → W p l e R s m args below meth c H locs cells slots Qw (F0 m pc lsM (sv v :: .ref a :: st'.map sv)) := by
    intro hn hfit kk
    rcases hfin with hf | ⟨hf, hi, ho⟩
    · exact va_put (D := D) (ci := c0) (v := sv v) (ty := sT c0 k) (C := q.1) (T := q.2.1) (N := q.2.2) hx hb hts cW (sT c0) cT cM hown hK hP hD hS pk he hq k hkN (hts _ hlink) (fun _ z => z) hf (cT k hkN) hn hfit (by simpa using hkN') hd kk
    · exact va_putF (D := D) (ci := c0) (v := sv v) (ty := sT c0 k) (C := q.1) (T := q.2.1) (N := q.2.2) hx hb hts cW (sT c0) cT cM hown hK hP hD hS pk he hq k hkN (hts _ hlink) (fun _ z => z) hf (hnm.trans hi) ho (cT k hkN) hn hfit (by simpa using hkN') hd kk
  rcases hk with ⟨hB, x, rfl, hn, hfit, hk⟩ | ⟨hB, r, rfl, hn, hfit, hk⟩
  · exact key hn hfit (fun H1 locs1 hP1 hD1 hS1 => hk H1 locs1 cells slots lsM (sWd.put hL h24 hD hpk haL (fun b => gk_wi) (sE_wi hg c8 hkN' hB) hP1 hD1) hS1 hl hll hc hs)
  · exact key hn hfit (fun H1 locs1 hP1 hD1 hS1 => hk H1 locs1 cells slots lsM (sWd.put hL h24 hD hpk haL (fun b => gk_wr) (sE_wr hg c8 hkN' hB) hP1 hD1) hS1 hl hll hc hs)
theorem sS_iaload (F : sFix p s m args meth c R A D cy M d mc ms Z) (hd : decode (sm M).2.1 pc = .ok (.iaload, 1)) (hp : sP O Z M Q (sGo p l e R s m args below meth c A D cy (sm M).2.2.1 mc ms Qw) pc ls st h bc bs .iaload 1) : sGo p l e R s m args below meth c A D cy (sm M).2.2.1 mc ms Qw pc ls st h bc bs := by
  obtain ⟨hx, hb, hml, hown, hnm, hts, hK, hX, hA, hRc, hRs, hRf, hRl, hZ⟩ := F
  obtain ⟨j, a, st', rfl, hk⟩ := hp
  intro H locs cells slots lsM hW hS hl hll hc hs
  show W p l e R s m args below meth c H locs cells slots Qw (F0 m pc lsM (.int j :: .ref a :: st'.map sv))
  rcases hk with ⟨hg, hin, hk⟩ | ⟨L0, xs, rfl, hin, hk⟩
  · obtain ⟨L, hL, h24, hP, hD⟩ := id hW
    have haL : a ∈ L := (hL a).mpr (by rw [hg]; omega)
    obtain ⟨pk, hpk⟩ := va_pl_get (X := []) (f := sE cy h) haL
    rw [sE_int hg] at hpk
    exact va_iald hx hb hK hP pk 0 hpk rfl hin hd (hk H locs cells slots lsM hW hS hl hll hc hs)
  · obtain ⟨z1, z2, z3⟩ := hZ _ _ _ rfl
    exact va_sld hx hb z1 z2 z3 hS hin hd (hk H locs cells slots lsM hW hS hl hll hc hs)
theorem sS_baload (F : sFix p s m args meth c R A D cy M d mc ms Z) (hd : decode (sm M).2.1 pc = .ok (.baload, 1)) (hp : sP O Z M Q (sGo p l e R s m args below meth c A D cy (sm M).2.2.1 mc ms Qw) pc ls st h bc bs .baload 1) : sGo p l e R s m args below meth c A D cy (sm M).2.2.1 mc ms Qw pc ls st h bc bs := by
  obtain ⟨hx, hb, hml, hown, hnm, hts, hK, hX, hA, hRc, hRs, hRf, hRl, hZ⟩ := F
  obtain ⟨j, a, st', rfl, hg, hin, hk⟩ := hp
  intro H locs cells slots lsM hW hS hl hll hc hs
  show W p l e R s m args below meth c H locs cells slots Qw (F0 m pc lsM (.int j :: .ref a :: st'.map sv))
  obtain ⟨L, hL, h24, hP, hD⟩ := id hW
  have haL : a ∈ L := (hL a).mpr (by rw [hg]; omega)
  obtain ⟨pk, hpk⟩ := va_pl_get (X := []) (f := sE cy h) haL
  rw [sE_bool hg] at hpk
  exact va_zald hx hb hK hP pk 1 hpk rfl hin hd (hk H locs cells slots lsM hW hS hl hll hc hs)
theorem sS_aaload (F : sFix p s m args meth c R A D cy M d mc ms Z) (hd : decode (sm M).2.1 pc = .ok (.aaload, 1)) (hp : sP O Z M Q (sGo p l e R s m args below meth c A D cy (sm M).2.2.1 mc ms Qw) pc ls st h bc bs .aaload 1) : sGo p l e R s m args below meth c A D cy (sm M).2.2.1 mc ms Qw pc ls st h bc bs := by
  obtain ⟨hx, hb, hml, hown, hnm, hts, hK, hX, hA, hRc, hRs, hRf, hRl, hZ⟩ := F
  obtain ⟨j, a, st', rfl, hg, hin, hk⟩ := hp
  intro H locs cells slots lsM hW hS hl hll hc hs
  show W p l e R s m args below meth c H locs cells slots Qw (F0 m pc lsM (.int j :: .ref a :: st'.map sv))
  obtain ⟨L, hL, h24, hP, hD⟩ := id hW
  have haL : a ∈ L := (hL a).mpr (by omega)
  obtain ⟨pk, hpk⟩ := va_pl_get (X := []) (f := sE cy h) haL
  rw [sE_ref hg] at hpk
  obtain ⟨q, -, hty⟩ := stys cy hg (h24 a)
  exact va_aldq hx hb hK hP pk _ hpk hty hin hd (hk H locs cells slots lsM hW hS hl hll hc hs)
theorem sS_iastore (F : sFix p s m args meth c R A D cy M d mc ms Z) (hd : decode (sm M).2.1 pc = .ok (.iastore, 1)) (hp : sP O Z M Q (sGo p l e R s m args below meth c A D cy (sm M).2.2.1 mc ms Qw) pc ls st h bc bs .iastore 1) : sGo p l e R s m args below meth c A D cy (sm M).2.2.1 mc ms Qw pc ls st h bc bs := by
  obtain ⟨hx, hb, hml, hown, hnm, hts, hK, hX, hA, hRc, hRs, hRf, hRl, hZ⟩ := F
  obtain ⟨x, j, a, st', rfl, hg, hin, hk⟩ := hp
  intro H locs cells slots lsM hW hS hl hll hc hs
  show W p l e R s m args below meth c H locs cells slots Qw (F0 m pc lsM (.int x :: .int j :: .ref a :: st'.map sv))
  obtain ⟨L, hL, h24, hP, hD⟩ := id hW
  have haL : a ∈ L := (hL a).mpr (by rw [hg]; omega)
  obtain ⟨pk, hpk⟩ := va_pl_get (X := []) (f := sE cy h) haL
  have he := hpk
  rw [sE_int hg] at he
  exact va_iast hx hb hK hP hD hS pk 0 he rfl hin hd (fun H1 locs1 hP1 hD1 hS1 => hk H1 locs1 cells slots lsM (sWd.put hL h24 hD hpk haL (fun b => gk_wA) (sE_wA (t := 0) hg (by omega)) hP1 hD1) hS1 hl hll hc hs)
theorem sS_bastore (F : sFix p s m args meth c R A D cy M d mc ms Z) (hd : decode (sm M).2.1 pc = .ok (.bastore, 1)) (hp : sP O Z M Q (sGo p l e R s m args below meth c A D cy (sm M).2.2.1 mc ms Qw) pc ls st h bc bs .bastore 1) : sGo p l e R s m args below meth c A D cy (sm M).2.2.1 mc ms Qw pc ls st h bc bs := by
  obtain ⟨hx, hb, hml, hown, hnm, hts, hK, hX, hA, hRc, hRs, hRf, hRl, hZ⟩ := F
  obtain ⟨x, j, a, st', rfl, hg, hin, hnr, hk⟩ := hp
  intro H locs cells slots lsM hW hS hl hll hc hs
  show W p l e R s m args below meth c H locs cells slots Qw (F0 m pc lsM (.int x :: .int j :: .ref a :: st'.map sv))
  obtain ⟨L, hL, h24, hP, hD⟩ := id hW
  have haL : a ∈ L := (hL a).mpr (by rw [hg]; omega)
  obtain ⟨pk, hpk⟩ := va_pl_get (X := []) (f := sE cy h) haL
  have he := hpk
  rw [sE_bool hg] at he
  refine va_zast hx hb hK hP hD hS pk 1 he rfl hin hd (fun H1 locs1 hP1 hD1 hS1 => ?_)
  rw [hnr] at hP1 hD1
  exact hk H1 locs1 cells slots lsM (sWd.put hL h24 hD hpk haL (fun b => gk_wA) (sE_wA (t := 1) hg (by omega)) hP1 hD1) hS1 hl hll hc hs
theorem sS_aastore (F : sFix p s m args meth c R A D cy M d mc ms Z) (hd : decode (sm M).2.1 pc = .ok (.aastore, 1)) (hp : sP O Z M Q (sGo p l e R s m args below meth c A D cy (sm M).2.2.1 mc ms Qw) pc ls st h bc bs .aastore 1) : sGo p l e R s m args below meth c A D cy (sm M).2.2.1 mc ms Qw pc ls st h bc bs := by
  obtain ⟨hx, hb, hml, hown, hnm, hts, hK, hX, hA, hRc, hRs, hRf, hRl, hZ⟩ := F
  obtain ⟨r, j, a, st', rfl, hg, hin, hv, hk⟩ := hp
  intro H locs cells slots lsM hW hS hl hll hc hs
  obtain ⟨L, hL, h24, hP, hD⟩ := id hW
  have haL : a ∈ L := (hL a).mpr (by omega)
  obtain ⟨pk, hpk⟩ := va_pl_get (X := []) (f := sE cy h) haL
  have he := hpk
  rw [sE_ref hg] at he
  obtain ⟨q, hq, hty⟩ := stys cy hg (h24 a)
  obtain ⟨c8, -⟩ := sCl _ q hq
  cases r with
  | none =>
    show W p l e R s m args below meth c H locs cells slots Qw (F0 m pc lsM (.null :: .int j :: .ref a :: st'.map sv))
    exact va_astqN hx hb hK hP hD hS pk _ he hty hin hd (fun H1 locs1 hP1 hD1 hS1 => hk H1 locs1 cells slots lsM (sWd.put hL h24 hD hpk haL (fun b => gk_wq) (sE_wq hg) hP1 hD1) hS1 hl hll hc hs)
  | some b =>
    show W p l e R s m args below meth c H locs cells slots Qw (F0 m pc lsM (.ref b :: .int j :: .ref a :: st'.map sv))
    have hgb := hv b rfl
    have hbL : b ∈ L := (hL b).mpr (by rw [hgb]; omega)
    obtain ⟨pb, hpb⟩ := va_pl_get (X := []) (f := sE cy h) hbL
    rw [sE_obj hgb c8] at hpb
    exact va_astq hx hb hK hP hD hS pk _ pb _ he hty hpb hq hin hd (fun H1 locs1 hP1 hD1 hS1 => hk H1 locs1 cells slots lsM (sWd.put hL h24 hD hpk haL (fun b => gk_wq) (sE_wq hg) hP1 hD1) hS1 hl hll hc hs)
theorem sS_arraylength (F : sFix p s m args meth c R A D cy M d mc ms Z) (hd : decode (sm M).2.1 pc = .ok (.arraylength, 1)) (hp : sP O Z M Q (sGo p l e R s m args below meth c A D cy (sm M).2.2.1 mc ms Qw) pc ls st h bc bs .arraylength 1) : sGo p l e R s m args below meth c A D cy (sm M).2.2.1 mc ms Qw pc ls st h bc bs := by
  obtain ⟨hx, hb, hml, hown, hnm, hts, hK, hX, hA, hRc, hRs, hRf, hRl, hZ⟩ := F
  obtain ⟨a, st', rfl, hk⟩ := hp
  intro H locs cells slots lsM hW hS hl hll hc hs
  show W p l e R s m args below meth c H locs cells slots Qw (F0 m pc lsM (.ref a :: st'.map sv))
  rcases hk with ⟨hg, hk⟩ | ⟨L0, xs, rfl, hk⟩
  · obtain ⟨L, hL, h24, hP, hD⟩ := id hW
    have haL : a ∈ L := (hL a).mpr (by omega)
    obtain ⟨pk, hpk⟩ := va_pl_get (X := []) (f := sE cy h) haL
    rcases (show gk h a = 20 ∨ gk h a = 21 ∨ 22 ≤ gk h a by omega) with h1 | h1 | h1
    · rw [sE_int h1] at hpk
      exact va_alen hx hb hK hP pk 0 hpk (ty := .int) rfl rfl hd (hk H locs cells slots lsM hW hS hl hll hc hs)
    · rw [sE_bool h1] at hpk
      exact va_alen hx hb hK hP pk 1 hpk (ty := .boolean) rfl rfl hd (hk H locs cells slots lsM hW hS hl hll hc hs)
    · rw [sE_ref h1] at hpk
      obtain ⟨q, -, hty⟩ := stys cy h1 (h24 a)
      exact va_alen hx hb hK hP pk _ hpk hty rfl hd (hk H locs cells slots lsM hW hS hl hll hc hs)
  · obtain ⟨z1, z2, z3⟩ := hZ _ _ _ rfl
    exact va_slen hx hb z1 z2 z3 hS hd (hk H locs cells slots lsM hW hS hl hll hc hs)
theorem sS_newarray {ty : ArrayType} (F : sFix p s m args meth c R A D cy M d mc ms Z) (hd : decode (sm M).2.1 pc = .ok (.newarray ty, 2)) (hp : sP O Z M Q (sGo p l e R s m args below meth c A D cy (sm M).2.2.1 mc ms Qw) pc ls st h bc bs (.newarray ty) 2) : sGo p l e R s m args below meth c A D cy (sm M).2.2.1 mc ms Qw pc ls st h bc bs := by
  obtain ⟨hx, hb, hml, hown, hnm, hts, hK, hX, hA, hRc, hRs, hRf, hRl, hZ⟩ := F
  obtain ⟨k, j, N, st', rfl, hty, hj, hN, hN1, hbc, hbs, hk⟩ := hp
  intro H locs cells slots lsM hW hS hl hll hc hs
  show W p l e R s m args below meth c H locs cells slots Qw (F0 m pc lsM (.int j :: st'.map sv))
  obtain ⟨L, hL, h24, hP, hD⟩ := id hW
  rcases hty with ⟨rfl, rfl⟩ | ⟨rfl, rfl⟩
  · refine va_newa (atype := .int) (ty := .int) (a0 := (N, .inl (fun _ => 0))) hx hb (hts _ sArI) rfl hK hP hD hS hA (fun _ => rfl) hj hN (by show N * 4 ≤ _; omega) (by rw [hRc]; omega) (by rw [hRs]; omega) hd (fun q cA H1 hK1 hP1 hD1 hS1 => ?_)
    have hq := snotin rfl hD1
    have hcA : cA = cy 0 := by
      have h1 := (hK1.2 5 (cA, .int) rfl).2
      have h2 := (hK1.2 0 (cy 0, .int) rfl).2
      exact Option.some.inj (h1.symm.trans h2)
    subst hcA
    exact hk q (sfree (H := H) hL hq) H1 locs (cells + 1) (slots + N) lsM (sWd.new hL h24 (by decide) hq (fun b => gk_nw) (sE_nw (by rw [sE_int (by rw [gk_nw, if_pos rfl]), gl_nw, ga_nw, if_pos rfl, if_pos rfl])) hP1 hD1) hS1 hl hll (by omega) (by omega)
  · refine va_newa (atype := .boolean) (ty := .boolean) (a0 := (N, .inl (fun _ => 0))) hx hb (hts _ sArZ) rfl hK hP hD hS hA (fun _ => rfl) hj hN (by show N * 1 ≤ _; omega) (by rw [hRc]; omega) (by rw [hRs]; omega) hd (fun q cA H1 hK1 hP1 hD1 hS1 => ?_)
    have hq := snotin rfl hD1
    have hcA : cA = cy 1 := by
      have h1 := (hK1.2 5 (cA, .boolean) rfl).2
      have h2 := (hK1.2 1 (cy 1, .boolean) rfl).2
      exact Option.some.inj (h1.symm.trans h2)
    subst hcA
    exact hk q (sfree (H := H) hL hq) H1 locs (cells + 1) (slots + N) lsM (sWd.new hL h24 (by decide) hq (fun b => gk_nw) (sE_nw (by rw [sE_bool (by rw [gk_nw, if_pos rfl]), gl_nw, ga_nw, if_pos rfl, if_pos rfl])) hP1 hD1) hS1 hl hll (by omega) (by omega)
theorem sAO {t : Nat} {s : State} (hX : sX s) {q : vw_C} (hq : vwCl[sAe t]? = some q) : va_AO q.1 s := by
  unfold sAe at hq
  split at hq
  · cases hq; exact hX.1
  · cases hq; exact hX.2.1
  · cases hq; exact hX.2.2.1
theorem sS_anewarray {idx : Nat} (F : sFix p s m args meth c R A D cy M d mc ms Z) (hd : decode (sm M).2.1 pc = .ok (.anewarray idx, 3)) (hp : sP O Z M Q (sGo p l e R s m args below meth c A D cy (sm M).2.2.1 mc ms Qw) pc ls st h bc bs (.anewarray idx) 3) : sGo p l e R s m args below meth c A D cy (sm M).2.2.1 mc ms Qw pc ls st h bc bs := by
  obtain ⟨hx, hb, hml, hown, hnm, hts, hK, hX, hA, hRc, hRs, hRf, hRl, hZ⟩ := F
  obtain ⟨c0, k, j, N, st', rfl, hk1, hk2, rfl, ⟨q0, hq0, hlink⟩, hj, hN, hN1, hbc, hbs, hk⟩ := hp
  intro H locs cells slots lsM hW hS hl hll hc hs
  show W p l e R s m args below meth c H locs cells slots Qw (F0 m pc lsM (.int j :: st'.map sv))
  obtain ⟨L, hL, h24, hP, hD⟩ := id hW
  obtain ⟨q1, hq1, hty⟩ := stys cy hk1 hk2
  cases hq0.symm.trans hq1
  refine va_newq hx hb hown (hts _ hlink) (sAO hX hq0) hK hP hD hS hA hj hN (by omega) (by rw [hRc]; omega) (by rw [hRs]; omega) hd (fun q cA H1 hK1 hP1 hD1 hS1 => ?_)
  have hq := snotin rfl hD1
  have hcA : cA = cy (k - 20) := by
    obtain ⟨_, _, _, _, _, h1⟩ := (hK1.2 5 (cA, .object q0.1) rfl).2
    have h3 : (sy cy ++ [(cA, FieldType.object q0.1)])[k - 20]? = some (cy (k - 20), .object q0.1) := by
      rw [List.getElem?_append_left (by show k - 20 < 5; omega)]
      exact hty
    obtain ⟨_, _, _, _, _, h2⟩ := (hK1.2 (k - 20) _ h3).2
    exact Option.some.inj (h1.symm.trans h2)
  subst hcA
  exact hk q (sfree (H := H) hL hq) H1 locs (cells + 1) (slots + N) lsM (sWd.new hL h24 ⟨by omega, hk2⟩ hq (fun b => gk_nw) (sE_nw (by rw [sE_ref (by rw [gk_nw, if_pos rfl]; exact hk1), gl_nw, gq_nw, gk_nw, if_pos rfl, if_pos rfl, if_pos rfl])) hP1 hD1) hS1 hl hll (by omega) (by omega)
theorem sDef (ty : FieldType) (h : sB ty = true ∨ (∃ n, ty = .object n) ∨ ∃ t, ty = .array t) : defaultValue ty = sv (if sB ty = true then sI 0 else sR none) := by
  rcases h with h | ⟨n, rfl⟩ | ⟨t, rfl⟩
  · cases ty <;> first | rfl | cases h
  · rfl
  · rfl
theorem sTk (c k : Nat) : sB (sT c k) = true ∨ (∃ n, sT c k = .object n) ∨ ∃ t, sT c k = .array t := by
  unfold sT
  split <;> first
    | (unfold tyX0; split <;> first | exact Or.inl rfl | exact Or.inr (Or.inl ⟨_, rfl⟩) | exact Or.inr (Or.inr ⟨_, rfl⟩))
    | (unfold tyX1; split <;> first | exact Or.inl rfl | exact Or.inr (Or.inl ⟨_, rfl⟩) | exact Or.inr (Or.inr ⟨_, rfl⟩))
    | (unfold tyX2; split <;> first | exact Or.inl rfl | exact Or.inr (Or.inl ⟨_, rfl⟩) | exact Or.inr (Or.inr ⟨_, rfl⟩))
    | (unfold tyX3; split <;> first | exact Or.inl rfl | exact Or.inr (Or.inl ⟨_, rfl⟩) | exact Or.inr (Or.inr ⟨_, rfl⟩))
    | (unfold tyX4; split <;> first | exact Or.inl rfl | exact Or.inr (Or.inl ⟨_, rfl⟩) | exact Or.inr (Or.inr ⟨_, rfl⟩))
    | (unfold tyX5; split <;> first | exact Or.inl rfl | exact Or.inr (Or.inl ⟨_, rfl⟩) | exact Or.inr (Or.inr ⟨_, rfl⟩))
    | (unfold tyX6; split <;> first | exact Or.inl rfl | exact Or.inr (Or.inl ⟨_, rfl⟩) | exact Or.inr (Or.inr ⟨_, rfl⟩))
    | (unfold tyX7; split <;> first | exact Or.inl rfl | exact Or.inr (Or.inl ⟨_, rfl⟩) | exact Or.inr (Or.inr ⟨_, rfl⟩))
theorem sS_new {idx : Nat} (F : sFix p s m args meth c R A D cy M d mc ms Z) (hd : decode (sm M).2.1 pc = .ok (.new idx, 3)) (hp : sP O Z M Q (sGo p l e R s m args below meth c A D cy (sm M).2.2.1 mc ms Qw) pc ls st h bc bs (.new idx) 3) : sGo p l e R s m args below meth c A D cy (sm M).2.2.1 mc ms Qw pc ls st h bc bs := by
  obtain ⟨hx, hb, hml, hown, hnm, hts, hK, hX, hA, hRc, hRs, hRf, hRl, hZ⟩ := F
  obtain ⟨c0, ⟨q0, hq0, hlink⟩, hbc, hbs, hk⟩ := hp
  intro H locs cells slots lsM hW hS hl hll hc hs
  obtain ⟨L, hL, h24, hP, hD⟩ := id hW
  obtain ⟨c8, cN, cW, cT, cM, cI, cZ⟩ := sCl c0 q0 hq0
  refine va_new (ci := c0) (fs := (List.range (sN c0)).map (fun k => sv (if sB (sT c0 k) = true then sI 0 else sR none))) (C := q0.1) (T := q0.2.1) (N := q0.2.2) hx hb hts cW (sT c0) cT hown (hts _ hlink) (hts _ cI) (hts _ cZ) hK hP hD hS hA hq0 (fun j hj => ?_) (by rw [hRc]; omega) (by rw [hRs]; omega) hd (fun q H1 hP1 hD1 hS1 => ?_)
  · have hj' : j < sN c0 := by rw [cN]; exact hj
    rw [sDef _ (sTk c0 j)]
    simp [vp_V, hj']
  · have hq := snotin rfl hD1
    have := hk q (sfree (H := H) hL hq) H1 locs (cells + 1) (slots + sN c0) lsM (sWd.new hL h24 ⟨by omega, by omega⟩ hq (fun b => gk_nw) (sE_nw (sE_born c8)) hP1 hD1) hS1 hl hll (by omega) (by omega)
    rw [cN] at this
    exact this
theorem sS_checkcast {idx : Nat} (F : sFix p s m args meth c R A D cy M d mc ms Z) (hd : decode (sm M).2.1 pc = .ok (.checkcast idx, 3)) (hp : sP O Z M Q (sGo p l e R s m args below meth c A D cy (sm M).2.2.1 mc ms Qw) pc ls st h bc bs (.checkcast idx) 3) : sGo p l e R s m args below meth c A D cy (sm M).2.2.1 mc ms Qw pc ls st h bc bs := by
  obtain ⟨hx, hb, hml, hown, hnm, hts, hK, hX, hA, hRc, hRs, hRf, hRl, hZ⟩ := F
  obtain ⟨a, st', rfl, hlink, hg, hk⟩ := hp
  intro H locs cells slots lsM hW hS hl hll hc hs
  show W p l e R s m args below meth c H locs cells slots Qw (F0 m pc lsM (.ref a :: st'.map sv))
  obtain ⟨L, hL, h24, hP, hD⟩ := id hW
  have haL : a ∈ L := (hL a).mpr (by rw [hg]; omega)
  obtain ⟨pk, hpk⟩ := va_pl_get (X := []) (f := sE cy h) haL
  rw [sE_int hg] at hpk
  exact va_castA hx hb hown (hts _ hlink) hP pk hpk (va_nm_int (hK.2 0 (cy 0, .int) rfl).2) hd (hk H locs cells slots lsM hW hS hl hll hc hs)
end SOUND2
