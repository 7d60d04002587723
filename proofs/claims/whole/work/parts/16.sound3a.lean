section SOUND3
variable {p : Program} {l : Launch} {e : Env} {s : State} {m : MethodId} {args : Array Value} {below : List Frame} {meth : Method} {c : Code} {R : Room} {A : Nat → Prop} {D : va_G} {cy : Nat → ClassId} {M d mc ms : Nat} {Q : Option sV → hp → Prop} {Z : sZ} {O : sO} {Qw : State → Prop} {pc : Nat} {ls st : List sV} {h : hp} {bc bs : Nat}
def sOr (l : Launch) (A : Nat → Prop) (D : va_G) (cy : Nat → ClassId) (d : Nat) (O : sO) : Prop := ∀ (N : Nat) (vs : List sV) (h : hp) (bc bs : Nat) (P : Option sV → hp → Prop), O N vs h bc bs P → ∀ n, sOk N n → Met l (sm N).1 (sws N) (sRm d bc bs) (sPre A D cy vs h) (sPost A D cy P) bc bs A
theorem sNfw : nativeFrameWords "java/lang/System" "arraycopy" 5 = 7 := by decide +kernel
theorem sTop (r : Option sV) (st : List sV) : (r.map sv).toList ++ st.map sv = (r.toList ++ st).map sv := by cases r <;> rfl
theorem sS_virtual {idx : Nat} (F : sFix p s m args meth c R A D cy M d mc ms Z) (hO : sOr l A D cy d O) (hd : decode (sm M).2.1 pc = .ok (.invokevirtual idx, 3)) (hp : sP O Z M Q (sGo p l e R s m args below meth c A D cy (sm M).2.2.1 mc ms Qw) pc ls st h bc bs (.invokevirtual idx) 3) : sGo p l e R s m args below meth c A D cy (sm M).2.2.1 mc ms Qw pc ls st h bc bs := by
  obtain ⟨hx, hb, hml, hown, hnm, hts, hK, hX, hA, hRc, hRs, hRf, hRl, hZ⟩ := F
  rcases hp with ⟨N, k, c0, a, As, st', bc', bs', P, rfl, hlen, hset, ⟨hok, hlk, hin, hsel, q, hq, hqn⟩, hg, hsum, hbc, hbs, hcall, hk⟩ | ⟨a, st', rfl, hlk, hg, hsum, hbc, hbs, hk⟩
  · intro H locs cells slots lsM hW hS hl hll hc hs
    obtain ⟨L, hL, h24, hP, hD⟩ := id hW
    obtain ⟨c8, -⟩ := sCl c0 q hq
    have haL : a ∈ L := (hL a).mpr (by rw [hg]; omega)
    obtain ⟨pk, hpk⟩ := va_pl_get (X := []) (f := sE cy h) haL
    rw [sE_obj hg c8] at hpk
    have hM := hO N _ h bc' bs' P hcall k hok
    obtain ⟨o1, o2, o3, o4, o5, o6, o7⟩ := hok
    refine sCallRow (rest := st'.map sv) (va_runV (C := q.1) (As := As.map sv) (rest := st'.map sv) (Ts := sW) ⟨hx, hb, hml, hown, hts⟩ hM (n := k) (bytes := (sm N).2.1) (maxL := (sm N).2.2.1) (ret := (sm N).2.2.2) ⟨⟨rfl, rfl, hRf, by show 8 + ((sm N).2.2.1 + 11) + 40 * d ≤ R.locals; omega, pay_in hts (sGoodIn o2), List.mem_cons_self, hts _ o2, hts _ o3, ⟨o4, o5⟩, fun sig h => ?_, hts _ hlk⟩, hts _ hin, by rw [hqn]; exact hts _ hsel⟩ ⟨sPre_blind, va_recv hK hP hq hpk, fun U hU hWm => ⟨rfl, by rw [hU]; exact hW, va_K.moved hWm.alike hK, sX.moved hWm hX, fun z hz => hA z (Nat.le_trans hS.1 (by rw [← hU]; exact hz))⟩⟩ rfl (by rw [List.length_map]; exact hlen) hl.1 ?_ ?_ hd ?_) hS (fun r h' H1 locs1 hPr hW1 hS1 => ?_)
    · rw [h] at o6
      exact (Option.some.inj o6).symm
    · show ((As.reverse ++ sR (some a) :: st').map sv) = _
      rw [List.map_append, List.map_reverse]
      rfl
    · exact lv_room (by rw [sCat]; exact hsum)
    · rw [hRc, hRs]; omega
    · have := hk r h' hPr H1 locs1 (cells + bc') (slots + bs') lsM hW1 hS1 hl hll (by omega) (by omega)
      rw [← sTop] at this
      exact this
  · intro H locs cells slots lsM hW hS hl hll hc hs
    show W p l e R s m args below meth c H locs cells slots Qw (F0 m pc lsM (.ref a :: st'.map sv))
    obtain ⟨L, hL, h24, hP, hD⟩ := id hW
    have haL : a ∈ L := (hL a).mpr (by rw [hg]; omega)
    obtain ⟨pk, hpk⟩ := va_pl_get (X := []) (f := sE cy h) haL
    rw [sE_int hg] at hpk
    refine va_clone (ty := .int) hx hb (hml.trans hl.1.symm) hown (hts _ hlk) (hts _ sClS) (hts _ sClN) (hts _ sClI) (hts _ sClX) hX.2.2.2.1 hK hP hD hS hA pk 0 hpk rfl (va_nm_int (hK.2 0 (cy 0, .int) rfl).2) (va_fit (fun i _ => rfl)) (by omega) (by rw [sCat]; omega) (by rw [hRc]; omega) (by rw [hRs]; show slots + gl h a ≤ ms; omega) hd (fun q H1 hK1 hP1 hD1 hS1 => ?_)
    have hq := snotin rfl hD1
    exact hk q (sfree (H := H) hL hq) H1 locs (cells + 1) (slots + gl h a) lsM (sWd.new hL h24 (kn := 20) (by decide) hq (fun b => by rw [gk_wA, gk_nw]) sE_nwA hP1 hD1) hS1 hl hll (by omega) (by omega)
end SOUND3
