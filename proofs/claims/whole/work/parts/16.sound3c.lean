section SOUND3
variable {p : Program} {l : Launch} {e : Env} {s : State} {m : MethodId} {args : Array Value} {below : List Frame} {meth : Method} {c : Code} {R : Room} {A : Nat → Prop} {D : va_G} {cy : Nat → ClassId} {M d mc ms : Nat} {Q : Option sV → hp → Prop} {Z : sZ} {O : sO} {Qw : State → Prop} {pc : Nat} {ls st : List sV} {h : hp} {bc bs : Nat}
theorem sS_special {idx : Nat} (F : sFix p s m args meth c R A D cy M d mc ms Z) (hO : sOr l A D cy d O) (hd : decode (sm M).2.1 pc = .ok (.invokespecial idx, 3)) (hp : sP O Z M Q (sGo p l e R s m args below meth c A D cy (sm M).2.2.1 mc ms Qw) pc ls st h bc bs (.invokespecial idx) 3) : sGo p l e R s m args below meth c A D cy (sm M).2.2.1 mc ms Qw pc ls st h bc bs := by
  obtain ⟨hx, hb, hml, hown, hnm, hts, hK, hX, hA, hRc, hRs, hRf, hRl, hZ⟩ := F
  rcases hp with ⟨N, k, a, As, st', bc', bs', P, rfl, hlen, hset, ⟨hok, hin, hni, hrn, hlk⟩, hsum, hbc, hbs, hcall, hk⟩ | ⟨a, st', rfl, hlk, hsum, hk⟩
  · intro H locs cells slots lsM hW hS hl hll hc hs
    have hM := hO N _ h bc' bs' P hcall k hok
    obtain ⟨o1, o2, o3, o4, o5, o6, o7⟩ := hok
    have hpre : PreS s H (sPre A D cy (sR (some a) :: As) h) (.ref a :: As.map sv) := ⟨sPre_blind, fun U hU hWm => ⟨rfl, by rw [hU]; exact hW, va_K.moved hWm.alike hK, sX.moved hWm hX, fun z hz => hA z (Nat.le_trans hS.1 (by rw [← hU]; exact hz))⟩⟩
    have hst : (F0 m pc lsM ((As.reverse ++ sR (some a) :: st').map sv)).stack = (As.map sv).reverse ++ .ref a :: st'.map sv := by
      show (As.reverse ++ sR (some a) :: st').map sv = _
      rw [List.map_append, List.map_reverse]
      rfl
    have hln : ∀ sig, parseMethodDescriptor (sm N).1.desc = some sig → k = sig.parameters.length := fun sig h => by
      rw [h] at o6
      exact (Option.some.inj o6).symm
    have o2' : Cond.code (sm N).1 (sm N).2.1 (sm N).2.2.1 none ∈ sW := by rw [← hrn]; exact o2
    have o2'' : Cond.code (sm N).1 (sm N).2.1 (sm N).2.2.1 none ∈ sws N := by unfold sws; rw [hrn]; exact List.mem_cons_self
    have hrun : va_Run p l e R s m args below meth c H locs cells slots bc' bs' (F0 m pc lsM ((As.reverse ++ sR (some a) :: st').map sv)) (st'.map sv) (sPost A D cy P (Value.ref a :: As.map sv).toArray) A := by
      rcases hlk with hlk | ⟨host, hlk⟩
      · exact va_runI (b := a) (As := As.map sv) (rest := st'.map sv) (Ts := sW) ⟨hx, hb, hml, hown, hts⟩ hM (n := k) (bytes := (sm N).2.1) (maxL := (sm N).2.2.1) ⟨⟨rfl, rfl, hRf, by show 8 + ((sm N).2.2.1 + 11) + 40 * d ≤ R.locals; omega, pay_in hts (sGoodIn o2), o2'', hts _ o2', hts _ o3, ⟨o4, o5⟩, hln, hts _ hlk⟩, hni, hts _ hin⟩ hpre rfl (by rw [List.length_map]; exact hlen) hl.1 hst (lv_room (by rw [sCat]; exact hsum)) hd (by rw [hRc, hRs]; omega)
      · exact va_runIN (b := a) (As := As.map sv) (rest := st'.map sv) (Ts := sW) ⟨hx, hb, hml, hown, hts⟩ hM (n := k) (bytes := (sm N).2.1) (maxL := (sm N).2.2.1) (host := host) ⟨⟨⟨rfl, rfl, hRf, by show 8 + ((sm N).2.2.1 + 11) + 40 * d ≤ R.locals; omega, pay_in hts (sGoodIn o2), o2''⟩, hts _ o2', hts _ o3, ⟨o4, o5⟩, hln, va_Nw.use rfl (hX.2.2.2.2 _ hlk)⟩, hni, hts _ hin⟩ hpre rfl (by rw [List.length_map]; exact hlen) hl.1 hst (lv_room (by rw [sCat]; exact hsum)) hd (by rw [hRc, hRs]; omega)
    refine sCallRow hrun hS (fun r h' H1 locs1 hPr hW1 hS1 => ?_)
    have := hk r h' hPr H1 locs1 (cells + bc') (slots + bs') lsM hW1 hS1 hl hll (by omega) (by omega)
    rw [← sTop] at this
    exact this
  · intro H locs cells slots lsM hW hS hl hll hc hs
    show W p l e R s m args below meth c H locs cells slots Qw (F0 m pc lsM (.ref a :: st'.map sv))
    refine W.objInit hx hb hown (hts _ hlk) (hts _ sObjI) (hts _ sObjC) rfl (by rw [hml]; exact hl.1) rfl hd (by omega) ?_ ?_
    · have h1 := lv_room (m := m) (pc := pc) (ls := lsM) (rest := .ref a :: st'.map sv) (st := st'.map sv) (by rw [sCat]; exact hsum)
      omega
    · exact hk H locs cells slots lsM hW hS hl hll hc hs
end SOUND3
