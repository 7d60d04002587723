section SOUND3
variable {p : Program} {l : Launch} {e : Env} {s : State} {m : MethodId} {args : Array Value} {below : List Frame} {meth : Method} {c : Code} {R : Room} {A : Nat → Prop} {D : va_G} {cy : Nat → ClassId} {M d mc ms : Nat} {Q : Option sV → hp → Prop} {Z : sZ} {O : sO} {Qw : State → Prop} {pc : Nat} {ls st : List sV} {h : hp} {bc bs : Nat}
def sOr (l : Launch) (A : Nat → Prop) (D : va_G) (cy : Nat → ClassId) (d : Nat) (O : sO) : Prop := ∀ (N : Nat) (vs : List sV) (h : hp) (bc bs : Nat) (P : Option sV → hp → Prop), O N vs h bc bs P → ∀ n, sOk N n → Met l (sm N).1 (sws N) (sRm d bc bs) (sPre A D cy vs h) (sPost A D cy P) bc bs A
theorem sNfw : nativeFrameWords "java/lang/System" "arraycopy" 5 = 7 := by decide +kernel
theorem sTop (r : Option sV) (st : List sV) : (r.map sv).toList ++ st.map sv = (r.toList ++ st).map sv := by cases r <;> rfl
theorem sS_virtual {idx : Nat} (F : sFix p s m args meth c R A D cy M d mc ms Z) (hO : sOr l A D cy d O) (hd : decode (sm M).2.1 pc = .ok (.invokevirtual idx, 3)) (hp : sP O Z M Q (sGo p l e R s m args below meth c A D cy (sm M).2.2.1 mc ms Qw) pc ls st h bc bs (.invokevirtual idx) 3) : sGo p l e R s m args below meth c A D cy (sm M).2.2.1 mc ms Qw pc ls st h bc bs := by
  obtain ⟨hx, hb, hml, hown, hnm, hts, hK, hX, hA, hRc, hRs, hRf, hRl, hZ⟩ := F
  rcases hp with ⟨N, k, c0, a, As, st', bc', bs', P, rfl, hlen, hset, ⟨hok, hlk, hin, hsel, q, hq, hqn⟩, hg, hsum, hbc, hbs, hcall, hk⟩ | ⟨a, st', rfl, hlk, hg, hsum, hbc, hbs, hk⟩
  · intro H locs cells slots lsM hW hS hl hll hc hs
    obtain ⟨L, hL, h24, hP, hD⟩ := id hW
    obtain ⟨c8, -⟩ := sCl c0 q hq
    have haL : a ∈ L := (hL a).mpr (by rw [hg]; omega)
    obtain ⟨pk, hpk⟩ := va_pl_get (X := []) (f := sE cy h) haL
    rw [sE_obj hg c8] at hpk
    have hM := hO N _ h bc' bs' P hcall k hok
    obtain ⟨o1, o2, o3, o4, o5, o6, o7⟩ := hok
    refine sCallRow (rest := st'.map sv) (va_runV (C := q.1) (As := As.map sv) (rest := st'.map sv) (Ts := sW) ⟨hx, hb, hml, hown, hts⟩ hM (n := k) (bytes := (sm N).2.1) (maxL := (sm N).2.2.1) (ret := (sm N).2.2.2) ⟨⟨rfl, rfl, hRf, by show 8 + ((sm N).2.2.1 + 11) + 40 * d ≤ R.locals; omega, pay_in hts (sGoodIn o2), List.mem_cons_self, hts _ o2, hts _ o3, ⟨o4, o5⟩, fun sig h => ?_, hts _ hlk⟩, hts _ hin, by rw [hqn]; exact hts _ hsel⟩ ⟨sPre_blind, va_recv hK hP hq hpk, fun U hU hWm => ⟨rfl, by rw [hU]; exact hW, va_K.moved hWm.alike hK, sX.moved hWm hX, fun z hz => hA z (Nat.le_trans hS.1 (by rw [← hU]; exact hz))⟩⟩ rfl (by rw [List.length_map]; exact hlen) hl.1 ?_ ?_ hd ?_) hS (fun r h' H1 locs1 hPr hW1 hS1 => ?_)
    · rw [h] at o6
      exact (Option.some.inj o6).symm
    · show ((As.reverse ++ sR (some a) :: st').map sv) = _
      rw [List.map_append, List.map_reverse]
      rfl
    · exact lv_room (by rw [sCat]; exact hsum)
    · rw [hRc, hRs]; omega
    · have := hk r h' hPr H1 locs1 (cells + bc') (slots + bs') lsM hW1 hS1 hl hll (by omega) (by omega)
      rw [← sTop] at this
      exact this
  · intro H locs cells slots lsM hW hS hl hll hc hs
    show W p l e R s m args below meth c H locs cells slots Qw (F0 m pc lsM (.ref a :: st'.map sv))
    obtain ⟨L, hL, h24, hP, hD⟩ := id hW
    have haL : a ∈ L := (hL a).mpr (by rw [hg]; omega)
    obtain ⟨pk, hpk⟩ := va_pl_get (X := []) (f := sE cy h) haL
    rw [sE_int hg] at hpk
    refine va_clone (ty := .int) hx hb (hml.trans hl.1.symm) hown (hts _ hlk) (hts _ sClS) (hts _ sClN) (hts _ sClI) (hts _ sClX) hX.2.2.2.1 hK hP hD hS hA pk 0 hpk rfl (va_nm_int (hK.2 0 (cy 0, .int) rfl).2) (va_fit (fun i _ => rfl)) (by omega) (by rw [sCat]; omega) (by rw [hRc]; omega) (by rw [hRs]; show slots + gl h a ≤ ms; omega) hd (fun q H1 hK1 hP1 hD1 hS1 => ?_)
    have hq := snotin rfl hD1
    exact hk q (sfree (H := H) hL hq) H1 locs (cells + 1) (slots + gl h a) lsM (sWd.new hL h24 (kn := 20) (by decide) hq (fun b => by rw [gk_wA, gk_nw]) sE_nwA hP1 hD1) hS1 hl hll (by omega) (by omega)
theorem sS_static {idx : Nat} (F : sFix p s m args meth c R A D cy M d mc ms Z) (hO : sOr l A D cy d O) (hd : decode (sm M).2.1 pc = .ok (.invokestatic idx, 3)) (hp : sP O Z M Q (sGo p l e R s m args below meth c A D cy (sm M).2.2.1 mc ms Qw) pc ls st h bc bs (.invokestatic idx) 3) : sGo p l e R s m args below meth c A D cy (sm M).2.2.1 mc ms Qw pc ls st h bc bs := by
  obtain ⟨hx, hb, hml, hown, hnm, hts, hK, hX, hA, hRc, hRs, hRf, hRl, hZ⟩ := F
  rcases hp with ⟨N, k, As, st', bc', bs', P, rfl, hlen, hset, ⟨hok, hstt, hlk⟩, hsum, hbc, hbs, hcall, hk⟩ | ⟨a, b, u, v, w, st', rfl, hlk, hg, hg2, hsum, hu, hv, hw, hu2, hv2, hk⟩
  · intro H locs cells slots lsM hW hS hl hll hc hs
    have hM := hO N _ h bc' bs' P hcall k hok
    obtain ⟨o1, o2, o3, o4, o5, o6, o7⟩ := hok
    have hpre : PreS s H (sPre A D cy As h) (As.map sv) := ⟨sPre_blind, fun U hU hWm => ⟨rfl, by rw [hU]; exact hW, va_K.moved hWm.alike hK, sX.moved hWm hX, fun z hz => hA z (Nat.le_trans hS.1 (by rw [← hU]; exact hz))⟩⟩
    have hst : (F0 m pc lsM ((As.reverse ++ st').map sv)).stack = (As.map sv).reverse ++ st'.map sv := by
      show (As.reverse ++ st').map sv = _
      rw [List.map_append, List.map_reverse]
    have hln : ∀ sig, parseMethodDescriptor (sm N).1.desc = some sig → k = sig.parameters.length := fun sig h => by
      rw [h] at o6
      exact (Option.some.inj o6).symm
    have hrun : va_Run p l e R s m args below meth c H locs cells slots bc' bs' (F0 m pc lsM ((As.reverse ++ st').map sv)) (st'.map sv) (sPost A D cy P (As.map sv).toArray) A := by
      rcases hlk with hlk | ⟨host, hlk⟩
      · exact va_runS (As := As.map sv) (rest := st'.map sv) (Ts := sW) ⟨hx, hb, hml, hown, hts⟩ hM (n := k) (bytes := (sm N).2.1) (maxL := (sm N).2.2.1) (ret := (sm N).2.2.2) ⟨⟨rfl, rfl, hRf, by show 8 + ((sm N).2.2.1 + 11) + 40 * d ≤ R.locals; omega, pay_in hts (sGoodIn o2), List.mem_cons_self, hts _ o2, hts _ o3, ⟨o4, o5⟩, hln, hts _ hlk⟩, hts _ hstt⟩ hpre rfl (by rw [List.length_map]; exact hlen) hl.1 hst (lv_room (by rw [sCat]; exact hsum)) hd (by rw [hRc, hRs]; omega)
      · exact va_runSN (As := As.map sv) (rest := st'.map sv) (Ts := sW) ⟨hx, hb, hml, hown, hts⟩ hM (n := k) (bytes := (sm N).2.1) (maxL := (sm N).2.2.1) (ret := (sm N).2.2.2) (host := host) ⟨⟨⟨rfl, rfl, hRf, by show 8 + ((sm N).2.2.1 + 11) + 40 * d ≤ R.locals; omega, pay_in hts (sGoodIn o2), List.mem_cons_self⟩, hts _ o2, hts _ o3, ⟨o4, o5⟩, hln, va_Nw.use rfl (hX.2.2.2.2 _ hlk)⟩, hts _ hstt, trivial⟩ hpre rfl (by rw [List.length_map]; exact hlen) hl.1 hst (lv_room (by rw [sCat]; exact hsum)) hd (by rw [hRc, hRs]; omega)
    refine sCallRow hrun hS (fun r h' H1 locs1 hPr hW1 hS1 => ?_)
    have := hk r h' hPr H1 locs1 (cells + bc') (slots + bs') lsM hW1 hS1 hl hll (by omega) (by omega)
    rw [← sTop] at this
    exact this
  · intro H locs cells slots lsM hW hS hl hll hc hs
    show W p l e R s m args below meth c H locs cells slots Qw (F0 m pc lsM (.int w :: .int v :: .ref b :: .int u :: .ref a :: st'.map sv))
    obtain ⟨L, hL, h24, hP, hD⟩ := id hW
    have haL : a ∈ L := (hL a).mpr (by rw [hg]; omega)
    obtain ⟨pk, hpk⟩ := va_pl_get (X := []) (f := sE cy h) haL
    rw [sE_int hg] at hpk
    have hbL : b ∈ L := (hL b).mpr (by rw [hg2]; omega)
    obtain ⟨pb, hpb⟩ := va_pl_get (X := []) (f := sE cy h) hbL
    have he := hpb
    rw [sE_int hg2] at he
    exact va_copyi (ty := .int) hx hb (hml.trans hl.1.symm) hown (hts _ hlk) (hts _ sCpN) (hts _ sCpS) (hts _ sCpI) hK hP hD hS pk pb 0 0 hpk he rfl rfl rfl hu hv hw hu2 hv2 (fun i _ => rfl) (by omega) (by rw [sCat, sNfw]; omega) hd (fun H1 locs1 hP1 hD1 hS1 => hk H1 locs1 cells slots lsM (sWd.put hL h24 hD hpb hbL (fun b => gk_wA) (sE_wA (t := 0) hg2 (by omega)) hP1 hD1) hS1 hl hll hc hs)
theorem sS_special {idx : Nat} (F : sFix p s m args meth c R A D cy M d mc ms Z) (hO : sOr l A D cy d O) (hd : decode (sm M).2.1 pc = .ok (.invokespecial idx, 3)) (hp : sP O Z M Q (sGo p l e R s m args below meth c A D cy (sm M).2.2.1 mc ms Qw) pc ls st h bc bs (.invokespecial idx) 3) : sGo p l e R s m args below meth c A D cy (sm M).2.2.1 mc ms Qw pc ls st h bc bs := by
  obtain ⟨hx, hb, hml, hown, hnm, hts, hK, hX, hA, hRc, hRs, hRf, hRl, hZ⟩ := F
  rcases hp with ⟨N, k, a, As, st', bc', bs', P, rfl, hlen, hset, ⟨hok, hin, hni, hrn, hlk⟩, hsum, hbc, hbs, hcall, hk⟩ | ⟨a, st', rfl, hlk, hsum, hk⟩
  · intro H locs cells slots lsM hW hS hl hll hc hs
    have hM := hO N _ h bc' bs' P hcall k hok
    obtain ⟨o1, o2, o3, o4, o5, o6, o7⟩ := hok
    have hpre : PreS s H (sPre A D cy (sR (some a) :: As) h) (.ref a :: As.map sv) := ⟨sPre_blind, fun U hU hWm => ⟨rfl, by rw [hU]; exact hW, va_K.moved hWm.alike hK, sX.moved hWm hX, fun z hz => hA z (Nat.le_trans hS.1 (by rw [← hU]; exact hz))⟩⟩
    have hst : (F0 m pc lsM ((As.reverse ++ sR (some a) :: st').map sv)).stack = (As.map sv).reverse ++ .ref a :: st'.map sv := by
      show (As.reverse ++ sR (some a) :: st').map sv = _
      rw [List.map_append, List.map_reverse]
      rfl
    have hln : ∀ sig, parseMethodDescriptor (sm N).1.desc = some sig → k = sig.parameters.length := fun sig h => by
      rw [h] at o6
      exact (Option.some.inj o6).symm
    have o2' : Cond.code (sm N).1 (sm N).2.1 (sm N).2.2.1 none ∈ sW := by rw [← hrn]; exact o2
    have o2'' : Cond.code (sm N).1 (sm N).2.1 (sm N).2.2.1 none ∈ sws N := by unfold sws; rw [hrn]; exact List.mem_cons_self
    have hrun : va_Run p l e R s m args below meth c H locs cells slots bc' bs' (F0 m pc lsM ((As.reverse ++ sR (some a) :: st').map sv)) (st'.map sv) (sPost A D cy P (Value.ref a :: As.map sv).toArray) A := by
      rcases hlk with hlk | ⟨host, hlk⟩
      · exact va_runI (b := a) (As := As.map sv) (rest := st'.map sv) (Ts := sW) ⟨hx, hb, hml, hown, hts⟩ hM (n := k) (bytes := (sm N).2.1) (maxL := (sm N).2.2.1) ⟨⟨rfl, rfl, hRf, by show 8 + ((sm N).2.2.1 + 11) + 40 * d ≤ R.locals; omega, pay_in hts (sGoodIn o2), o2'', hts _ o2', hts _ o3, ⟨o4, o5⟩, hln, hts _ hlk⟩, hni, hts _ hin⟩ hpre rfl (by rw [List.length_map]; exact hlen) hl.1 hst (lv_room (by rw [sCat]; exact hsum)) hd (by rw [hRc, hRs]; omega)
      · exact va_runIN (b := a) (As := As.map sv) (rest := st'.map sv) (Ts := sW) ⟨hx, hb, hml, hown, hts⟩ hM (n := k) (bytes := (sm N).2.1) (maxL := (sm N).2.2.1) (host := host) ⟨⟨⟨rfl, rfl, hRf, by show 8 + ((sm N).2.2.1 + 11) + 40 * d ≤ R.locals; omega, pay_in hts (sGoodIn o2), o2''⟩, hts _ o2', hts _ o3, ⟨o4, o5⟩, hln, va_Nw.use rfl (hX.2.2.2.2 _ hlk)⟩, hni, hts _ hin⟩ hpre rfl (by rw [List.length_map]; exact hlen) hl.1 hst (lv_room (by rw [sCat]; exact hsum)) hd (by rw [hRc, hRs]; omega)
    refine sCallRow hrun hS (fun r h' H1 locs1 hPr hW1 hS1 => ?_)
    have := hk r h' hPr H1 locs1 (cells + bc') (slots + bs') lsM hW1 hS1 hl hll (by omega) (by omega)
    rw [← sTop] at this
    exact this
  · intro H locs cells slots lsM hW hS hl hll hc hs
    show W p l e R s m args below meth c H locs cells slots Qw (F0 m pc lsM (.ref a :: st'.map sv))
    refine W.objInit hx hb hown (hts _ hlk) (hts _ sObjI) (hts _ sObjC) rfl (by rw [hml]; exact hl.1) rfl hd (by omega) ?_ ?_
    · have h1 := lv_room (m := m) (pc := pc) (ls := lsM) (rest := .ref a :: st'.map sv) (st := st'.map sv) (by rw [sCat]; exact hsum)
      omega
    · exact hk H locs cells slots lsM hW hS hl hll hc hs
end SOUND3
