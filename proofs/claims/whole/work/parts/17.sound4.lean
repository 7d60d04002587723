section SOUND4
variable {p : Program} {l : Launch} {e : Env} {s : State} {m : MethodId} {args : Array Value} {below : List Frame} {meth : Method} {c : Code} {R : Room} {A : Nat → Prop} {D : va_G} {cy : Nat → ClassId} {M d mc ms : Nat} {Q : Option sV → hp → Prop} {Z : sZ} {O : sO} {Qw : State → Prop}
def sRet (p : Program) (l : Launch) (e : Env) (R : Room) (s : State) (m : MethodId) (args : Array Value) (below : List Frame) (meth : Method) (c : Code) (A : Nat → Prop) (D : va_G) (cy : Nat → ClassId) (M mc ms : Nat) (Q : Option sV → hp → Prop) (Qw : State → Prop) : Prop := ∀ (pc : Nat) (lsM : Array Slot) (h : hp) (H : Heap) (locs : List Loc) (cells slots : Nat), sWd A D cy h H → va_S A s.heap H locs → cells ≤ mc → slots ≤ ms →
  (∀ (x : Int32) (ty : FieldType), decode (sm M).2.1 pc = .ok (.ireturn, 1) → (sm M).2.2.2 = some ty → narrow ty (.int x) = .int x → Q (some (sI x)) h → W p l e R s m args below meth c H locs cells slots Qw (F0 m pc lsM [.int x])) ∧
  (∀ (r : Option Nat) (ty : FieldType), decode (sm M).2.1 pc = .ok (.areturn, 1) → (sm M).2.2.2 = some ty → ((∃ z, ty = .object z) ∨ ∃ z, ty = .array z) → Q (some (sR r)) h → W p l e R s m args below meth c H locs cells slots Qw (F0 m pc lsM [va_rf r])) ∧
  (decode (sm M).2.1 pc = .ok (.return_, 1) → (sm M).2.2.2 = none → Q none h → W p l e R s m args below meth c H locs cells slots Qw (F0 m pc lsM []))
theorem sLen {i : Instr} {n k : Nat} (h : slen i = 0 ∨ n = slen i) (hk : slen i = k) (h0 : k ≠ 0) : n = k := by
  rcases h with h | h
  · exact absurd (hk.symm.trans h) h0
  · exact h.trans hk
theorem sStore {pc n i : Nat} {ls st' : List sV} {h : hp} {bc bs : Nat} {v : sV} {H : Heap} {locs : List Loc} {cells slots : Nat} {nL : Nat} (hv : sset v = true) (hk : sGo p l e R s m args below meth c A D cy nL mc ms Qw (pc + n) (ls.set i v) st' h bc bs) (hW : sWd A D cy h H) (hS : va_S A s.heap H locs) (hll : ls.length = nL) (hc : cells + bc ≤ mc) (hs : slots + bs ≤ ms) (lsM : Array Slot) (hl : lv_has lsM nL ((i, sv v) :: (sprs ls).filter (fun q => !(q.1 == i) && !(q.1 + 1 == i && q.2.category == 2)))) : W p l e R s m args below meth c H locs cells slots Qw (F0 m (pc + n) lsM (st'.map sv)) :=
  hk H locs cells slots lsM hW hS (sLs_set hv hl) (by rw [List.length_set]; exact hll) hc hs
set_option maxHeartbeats 4000000 in
theorem sSound (F : sFix p s m args meth c R A D cy M d mc ms Z) (hO : sOr l A D cy d O) (hret : sRet p l e R s m args below meth c A D cy M mc ms Q Qw) {pc : Nat} {ls st : List sV} {h : hp} {bc bs : Nat} (HW : sWP O Z M Q pc ls st h bc bs) : sGo p l e R s m args below meth c A D cy (sm M).2.2.1 mc ms Qw pc ls st h bc bs := by
  apply HW (sGo p l e R s m args below meth c A D cy (sm M).2.2.1 mc ms Qw)
  clear HW pc ls st h bc bs
  rintro pc ls st h bc bs ⟨i, n, hd, hn, hp⟩
  have hx := F.1
  have hb := F.2.1
  have hown := F.2.2.2.1
  have hts := F.2.2.2.2.2.1
  cases i
  case iconst k =>
    obtain rfl := sLen (k := 1) hn rfl (by decide)
    intro H locs cells slots lsM hW hS hl hll hc hs
    exact lv_iconst hx hb hd rfl (hp H locs cells slots lsM hW hS hl hll hc hs)
  case bipush k =>
    obtain rfl := sLen (k := 2) hn rfl (by decide)
    intro H locs cells slots lsM hW hS hl hll hc hs
    exact lv_bipush hx hb hd rfl (hp H locs cells slots lsM hW hS hl hll hc hs)
  case sipush k =>
    obtain rfl := sLen (k := 3) hn rfl (by decide)
    intro H locs cells slots lsM hW hS hl hll hc hs
    exact lv_sipush hx hb hd rfl (hp H locs cells slots lsM hW hS hl hll hc hs)
  case ldc k =>
    obtain rfl := sLen (k := 2) hn rfl (by decide)
    obtain ⟨v, hv, hp⟩ := hp
    intro H locs cells slots lsM hW hS hl hll hc hs
    exact lv_ldc hx hb hown (hts _ hv) hd (hp H locs cells slots lsM hW hS hl hll hc hs)
  case aconst_null =>
    obtain rfl := sLen (k := 1) hn rfl (by decide)
    intro H locs cells slots lsM hW hS hl hll hc hs
    exact lv_null hx hb hd (hp H locs cells slots lsM hW hS hl hll hc hs)
  case iload_n k =>
    obtain rfl := sLen (k := 1) hn rfl (by decide)
    obtain ⟨x, hi, hp⟩ := hp
    intro H locs cells slots lsM hW hS hl hll hc hs
    exact lv_iload_n hx hb hd rfl (sLs_get hl hi rfl) (hp H locs cells slots lsM hW hS hl hll hc hs)
  case iload k =>
    obtain rfl := sLen (k := 2) hn rfl (by decide)
    obtain ⟨x, hi, hp⟩ := hp
    intro H locs cells slots lsM hW hS hl hll hc hs
    exact lv_iload hx hb hd (sLs_get hl hi rfl) (hp H locs cells slots lsM hW hS hl hll hc hs)
  case aload_n k =>
    obtain rfl := sLen (k := 1) hn rfl (by decide)
    obtain ⟨r, hi, hp⟩ := hp
    intro H locs cells slots lsM hW hS hl hll hc hs
    cases r with
    | none => exact lv_aload_nN hx hb hd rfl (sLs_get hl hi rfl) (hp H locs cells slots lsM hW hS hl hll hc hs)
    | some a => exact lv_aload_n hx hb hd rfl (sLs_get hl hi rfl) (hp H locs cells slots lsM hW hS hl hll hc hs)
  case aload k =>
    obtain rfl := sLen (k := 2) hn rfl (by decide)
    obtain ⟨r, hi, hp⟩ := hp
    intro H locs cells slots lsM hW hS hl hll hc hs
    cases r with
    | none => exact lv_aloadN hx hb hd (sLs_get hl hi rfl) (hp H locs cells slots lsM hW hS hl hll hc hs)
    | some a => exact lv_aload hx hb hd (sLs_get hl hi rfl) (hp H locs cells slots lsM hW hS hl hll hc hs)
  case istore_n k =>
    obtain rfl := sLen (k := 1) hn rfl (by decide)
    obtain ⟨x, st', rfl, hi, hp⟩ := hp
    intro H locs cells slots lsM hW hS hl hll hc hs
    exact lv_istore_n hx hb hd rfl hl (by rw [← hll]; exact hi) rfl (fun ls' hl' => sStore rfl hp hW hS hll hc hs ls' hl')
  case istore k =>
    obtain rfl := sLen (k := 2) hn rfl (by decide)
    obtain ⟨x, st', rfl, hi, hp⟩ := hp
    intro H locs cells slots lsM hW hS hl hll hc hs
    exact lv_istore hx hb hd hl (by rw [← hll]; exact hi) rfl (fun ls' hl' => sStore rfl hp hW hS hll hc hs ls' hl')
  case astore_n k =>
    obtain rfl := sLen (k := 1) hn rfl (by decide)
    obtain ⟨r, st', rfl, hi, hp⟩ := hp
    intro H locs cells slots lsM hW hS hl hll hc hs
    cases r with
    | none => exact lv_astore_nN hx hb hd rfl hl (by rw [← hll]; exact hi) rfl (fun ls' hl' => sStore rfl hp hW hS hll hc hs ls' hl')
    | some a => exact lv_astore_n hx hb hd rfl hl (by rw [← hll]; exact hi) rfl (fun ls' hl' => sStore rfl hp hW hS hll hc hs ls' hl')
  case astore k =>
    obtain rfl := sLen (k := 2) hn rfl (by decide)
    obtain ⟨r, st', rfl, hi, hp⟩ := hp
    intro H locs cells slots lsM hW hS hl hll hc hs
    cases r with
    | none => exact lv_astoreN hx hb hd hl (by rw [← hll]; exact hi) rfl (fun ls' hl' => sStore rfl hp hW hS hll hc hs ls' hl')
    | some a => exact lv_astore hx hb hd hl (by rw [← hll]; exact hi) rfl (fun ls' hl' => sStore rfl hp hW hS hll hc hs ls' hl')
  case iinc k z =>
    obtain rfl := sLen (k := 3) hn rfl (by decide)
    obtain ⟨x, hi, hp⟩ := hp
    intro H locs cells slots lsM hW hS hl hll hc hs
    obtain ⟨j, hj⟩ := List.getElem?_of_mem (sprs_mem.mpr ⟨sI x, hi, rfl, rfl⟩ : (k, Value.int x) ∈ sprs ls)
    exact lv_iinc hx hb hd hl hj rfl (by rw [← hll]; exact (List.getElem?_eq_some_iff.mp hi).1) rfl (fun ls' hl' => sStore (v := sI (x + Int32.ofInt z)) rfl hp hW hS hll hc hs ls' hl')
  case i2l =>
    obtain rfl := sLen (k := 1) hn rfl (by decide)
    obtain ⟨x, st', rfl, hp⟩ := hp
    intro H locs cells slots lsM hW hS hl hll hc hs
    exact lv_i2l hx hb hd rfl (hp H locs cells slots lsM hW hS hl hll hc hs)
  case ladd =>
    obtain rfl := sLen (k := 1) hn rfl (by decide)
    obtain ⟨x, y, st', rfl, hp⟩ := hp
    intro H locs cells slots lsM hW hS hl hll hc hs
    exact lv_ladd hx hb hd (hp H locs cells slots lsM hW hS hl hll hc hs)
  case lcmp =>
    obtain rfl := sLen (k := 1) hn rfl (by decide)
    obtain ⟨x, y, st', rfl, hp⟩ := hp
    intro H locs cells slots lsM hW hS hl hll hc hs
    exact W.lcmp hx hb hd (hp H locs cells slots lsM hW hS hl hll hc hs)
  case dup =>
    obtain rfl := sLen (k := 1) hn rfl (by decide)
    obtain ⟨v, st', rfl, hv, hp⟩ := hp
    intro H locs cells slots lsM hW hS hl hll hc hs
    exact lv_dup hx hb hd ((sw_cat v).trans hv) (hp H locs cells slots lsM hW hS hl hll hc hs)
  case dup2 =>
    obtain rfl := sLen (k := 1) hn rfl (by decide)
    obtain ⟨v, u, st', rfl, hv, hu, hp⟩ := hp
    intro H locs cells slots lsM hW hS hl hll hc hs
    exact lv_dup2_11 hx hb hd ((sw_cat v).trans hv) ((sw_cat u).trans hu) (hp H locs cells slots lsM hW hS hl hll hc hs)
  case goto off =>
    obtain rfl := sLen (k := 3) hn rfl (by decide)
    obtain ⟨t, ht, hp⟩ := hp
    intro H locs cells slots lsM hW hS hl hll hc hs
    exact lv_goto hx hb hd ht (hp H locs cells slots lsM hW hS hl hll hc hs)
  case ifCond cnd off =>
    obtain rfl := sLen (k := 3) hn rfl (by decide)
    obtain ⟨x, st', t, rfl, ht, k1, k2⟩ := hp
    intro H locs cells slots lsM hW hS hl hll hc hs
    cases cnd
    · exact lv_if_eq hx hb hd ht (fun z => k1 z H locs cells slots lsM hW hS hl hll hc hs) (fun z => k2 z H locs cells slots lsM hW hS hl hll hc hs)
    · exact lv_if_ne hx hb hd ht (fun z => k1 z H locs cells slots lsM hW hS hl hll hc hs) (fun z => k2 (fun y => y z) H locs cells slots lsM hW hS hl hll hc hs)
    · exact lv_if_lt hx hb hd ht (fun z => k1 z H locs cells slots lsM hW hS hl hll hc hs) (fun z => k2 z H locs cells slots lsM hW hS hl hll hc hs)
    · exact lv_if_ge hx hb hd ht (fun z => k1 z H locs cells slots lsM hW hS hl hll hc hs) (fun z => k2 z H locs cells slots lsM hW hS hl hll hc hs)
    · exact lv_if_gt hx hb hd ht (fun z => k1 z H locs cells slots lsM hW hS hl hll hc hs) (fun z => k2 z H locs cells slots lsM hW hS hl hll hc hs)
    · exact lv_if_le hx hb hd ht (fun z => k1 z H locs cells slots lsM hW hS hl hll hc hs) (fun z => k2 z H locs cells slots lsM hW hS hl hll hc hs)
  case if_icmp cnd off =>
    obtain rfl := sLen (k := 3) hn rfl (by decide)
    obtain ⟨x, y, st', t, rfl, ht, k1, k2⟩ := hp
    intro H locs cells slots lsM hW hS hl hll hc hs
    cases cnd
    · exact lv_icmp_eq hx hb hd ht (fun z => k1 z H locs cells slots lsM hW hS hl hll hc hs) (fun z => k2 z H locs cells slots lsM hW hS hl hll hc hs)
    · exact lv_icmp_ne hx hb hd ht (fun z => k1 z H locs cells slots lsM hW hS hl hll hc hs) (fun z => k2 (fun y => y z) H locs cells slots lsM hW hS hl hll hc hs)
    · exact lv_icmp_lt hx hb hd ht (fun z => k1 z H locs cells slots lsM hW hS hl hll hc hs) (fun z => k2 z H locs cells slots lsM hW hS hl hll hc hs)
    · exact lv_icmp_ge hx hb hd ht (fun z => k1 z H locs cells slots lsM hW hS hl hll hc hs) (fun z => k2 z H locs cells slots lsM hW hS hl hll hc hs)
    · exact lv_icmp_gt hx hb hd ht (fun z => k1 z H locs cells slots lsM hW hS hl hll hc hs) (fun z => k2 z H locs cells slots lsM hW hS hl hll hc hs)
    · exact lv_icmp_le hx hb hd ht (fun z => k1 z H locs cells slots lsM hW hS hl hll hc hs) (fun z => k2 z H locs cells slots lsM hW hS hl hll hc hs)
  case ifnull off =>
    obtain rfl := sLen (k := 3) hn rfl (by decide)
    obtain ⟨r, st', t, rfl, ht, k1, k2⟩ := hp
    intro H locs cells slots lsM hW hS hl hll hc hs
    cases r with
    | none => exact lv_ifnullN hx hb hd ht (k1 rfl H locs cells slots lsM hW hS hl hll hc hs)
    | some a => exact lv_ifnull hx hb hd (k2 (fun z => by cases z) H locs cells slots lsM hW hS hl hll hc hs)
  case ifnonnull off =>
    obtain rfl := sLen (k := 3) hn rfl (by decide)
    obtain ⟨r, st', t, rfl, ht, k1, k2⟩ := hp
    intro H locs cells slots lsM hW hS hl hll hc hs
    cases r with
    | none => exact lv_ifnonnullN hx hb hd (k1 rfl H locs cells slots lsM hW hS hl hll hc hs)
    | some a => exact lv_ifnonnull hx hb hd ht (k2 (fun z => by cases z) H locs cells slots lsM hW hS hl hll hc hs)
  case tableswitch df lo hi offs =>
    obtain ⟨x, st', rfl, k1, k2⟩ := hp
    intro H locs cells slots lsM hW hS hl hll hc hs
    by_cases hx2 : x.toInt < lo ∨ hi < x.toInt
    · obtain ⟨t, ht, hk⟩ := k1 hx2
      exact lv_tableOut hx hb hd hx2 ht (hk H locs cells slots lsM hW hS hl hll hc hs)
    · obtain ⟨off, t, ho, ht, hk⟩ := k2 hx2
      exact lv_tableIn hx hb hd (fun z => hx2 (Or.inl z)) (fun z => hx2 (Or.inr z)) ho ht (hk H locs cells slots lsM hW hS hl hll hc hs)
  case lookupswitch df ps =>
    obtain ⟨x, st', t, rfl, h1, h2, hk⟩ := hp
    intro H locs cells slots lsM hW hS hl hll hc hs
    exact lv_lookup hx hb hd h1 rfl h2 (hk H locs cells slots lsM hW hS hl hll hc hs)
  case getfield idx => obtain rfl := sLen (k := 3) hn rfl (by decide); exact sS_getfield F hd hp
  case putfield idx => obtain rfl := sLen (k := 3) hn rfl (by decide); exact sS_putfield F hd hp
  case iaload => obtain rfl := sLen (k := 1) hn rfl (by decide); exact sS_iaload F hd hp
  case baload => obtain rfl := sLen (k := 1) hn rfl (by decide); exact sS_baload F hd hp
  case aaload => obtain rfl := sLen (k := 1) hn rfl (by decide); exact sS_aaload F hd hp
  case iastore => obtain rfl := sLen (k := 1) hn rfl (by decide); exact sS_iastore F hd hp
  case bastore => obtain rfl := sLen (k := 1) hn rfl (by decide); exact sS_bastore F hd hp
  case aastore => obtain rfl := sLen (k := 1) hn rfl (by decide); exact sS_aastore F hd hp
  case arraylength => obtain rfl := sLen (k := 1) hn rfl (by decide); exact sS_arraylength F hd hp
  case newarray ty => obtain rfl := sLen (k := 2) hn rfl (by decide); exact sS_newarray F hd hp
  case anewarray idx => obtain rfl := sLen (k := 3) hn rfl (by decide); exact sS_anewarray F hd hp
  case new idx => obtain rfl := sLen (k := 3) hn rfl (by decide); exact sS_new F hd hp
  case checkcast idx => obtain rfl := sLen (k := 3) hn rfl (by decide); exact sS_checkcast F hd hp
  case invokevirtual idx => obtain rfl := sLen (k := 3) hn rfl (by decide); exact sS_virtual F hO hd hp
  case invokestatic idx => obtain rfl := sLen (k := 3) hn rfl (by decide); exact sS_static F hO hd hp
  case invokespecial idx => obtain rfl := sLen (k := 3) hn rfl (by decide); exact sS_special F hO hd hp
  case ireturn =>
    obtain rfl := sLen (k := 1) hn rfl (by decide)
    obtain ⟨x, ty, rfl, h1, h2, h3⟩ := hp
    intro H locs cells slots lsM hW hS hl hll hc hs
    exact (hret pc lsM h H locs cells slots hW hS (by omega) (by omega)).1 x ty hd h1 h2 h3
  case areturn =>
    obtain rfl := sLen (k := 1) hn rfl (by decide)
    obtain ⟨x, ty, rfl, h1, h2, h3⟩ := hp
    intro H locs cells slots lsM hW hS hl hll hc hs
    exact (hret pc lsM h H locs cells slots hW hS (by omega) (by omega)).2.1 x ty hd h1 h2 h3
  case return_ =>
    obtain rfl := sLen (k := 1) hn rfl (by decide)
    obtain ⟨rfl, h1, h3⟩ := hp
    intro H locs cells slots lsM hW hS hl hll hc hs
    exact (hret pc lsM h H locs cells slots hW hS (by omega) (by omega)).2.2 hd h1 h3
  case iadd =>
    obtain rfl := sLen (k := 1) hn rfl (by decide)
    obtain ⟨x, y, z, st', rfl, hz, hp⟩ := hp
    cases hz
    intro H locs cells slots lsM hW hS hl hll hc hs
    exact lv_iadd hx hb hd (hp H locs cells slots lsM hW hS hl hll hc hs)
  case isub =>
    obtain rfl := sLen (k := 1) hn rfl (by decide)
    obtain ⟨x, y, z, st', rfl, hz, hp⟩ := hp
    cases hz
    intro H locs cells slots lsM hW hS hl hll hc hs
    exact lv_isub hx hb hd (hp H locs cells slots lsM hW hS hl hll hc hs)
  case imul =>
    obtain rfl := sLen (k := 1) hn rfl (by decide)
    obtain ⟨x, y, z, st', rfl, hz, hp⟩ := hp
    cases hz
    intro H locs cells slots lsM hW hS hl hll hc hs
    exact lv_imul hx hb hd (hp H locs cells slots lsM hW hS hl hll hc hs)
  case iand =>
    obtain rfl := sLen (k := 1) hn rfl (by decide)
    obtain ⟨x, y, z, st', rfl, hz, hp⟩ := hp
    cases hz
    intro H locs cells slots lsM hW hS hl hll hc hs
    exact lv_iand hx hb hd (hp H locs cells slots lsM hW hS hl hll hc hs)
  case ior =>
    obtain rfl := sLen (k := 1) hn rfl (by decide)
    obtain ⟨x, y, z, st', rfl, hz, hp⟩ := hp
    cases hz
    intro H locs cells slots lsM hW hS hl hll hc hs
    exact lv_ior hx hb hd (hp H locs cells slots lsM hW hS hl hll hc hs)
  case ixor =>
    obtain rfl := sLen (k := 1) hn rfl (by decide)
    obtain ⟨x, y, z, st', rfl, hz, hp⟩ := hp
    cases hz
    intro H locs cells slots lsM hW hS hl hll hc hs
    exact lv_ixor hx hb hd (hp H locs cells slots lsM hW hS hl hll hc hs)
  case ishl =>
    obtain rfl := sLen (k := 1) hn rfl (by decide)
    obtain ⟨x, y, z, st', rfl, hz, hp⟩ := hp
    cases hz
    intro H locs cells slots lsM hW hS hl hll hc hs
    exact lv_ishl hx hb hd (hp H locs cells slots lsM hW hS hl hll hc hs)
  case ishr =>
    obtain rfl := sLen (k := 1) hn rfl (by decide)
    obtain ⟨x, y, z, st', rfl, hz, hp⟩ := hp
    cases hz
    intro H locs cells slots lsM hW hS hl hll hc hs
    exact lv_ishr hx hb hd (hp H locs cells slots lsM hW hS hl hll hc hs)
  case irem =>
    obtain rfl := sLen (k := 1) hn rfl (by decide)
    obtain ⟨x, y, z, st', rfl, hz, hp⟩ := hp
    by_cases hy : y = 0
    · simp [sbin, hy] at hz
    · simp only [sbin, if_neg hy, Option.some.injEq] at hz
      subst hz
      intro H locs cells slots lsM hW hS hl hll hc hs
      exact lv_irem hx hb hd hy (hp H locs cells slots lsM hW hS hl hll hc hs)
  all_goals (obtain ⟨x, y, z, st', _, hz, _⟩ := hp; cases hz)
/-- THE CONTRACT: what sCall says of a method holds of the machine -/
theorem sMet (l : Launch) (A : Nat → Prop) (D : va_G) (cy : Nat → ClassId) : ∀ d, sOr l A D cy d (sCall d) := by
  intro d
  induction d with
  | zero => intro N vs h bc bs P hc; exact hc.elim
  | succ d ih =>
    intro N vs h bc bs P hc n hok
    obtain ⟨h1, h2, h3⟩ := hc
    refine MetFree.of_bodySF (code := (sm N).2.1) (maxLocals := (sm N).2.2.1) (ret := (sm N).2.2.2) hok.1 ?_ ?_
    · intro args s m h hn
      obtain ⟨meth, c, h1, h2, h3, h4, h5, h6, -, -⟩ := Cond.code_spec hn (atoms_spec (ws := sws N) h _ List.mem_cons_self)
      exact ⟨meth, c, h1, h2, h3, h4, h5, h6⟩
    intro p e s m args below meth c s₁ B hml hv _
    obtain ⟨rfl, hW, hK, hX, hA⟩ := hv
    have hts0 := atoms_spec (ws := sws N) B.pre
    have hF : sFix p s m (vs.map sv).toArray meth c (sRm (d + 1) bc bs) A D cy N d bc bs none := ⟨B.exec, B.bytes, hml, findClass_of_methodNamed B.named, (name_of_methodNamed B.named B.method).1, fun w hw => hts0 w (List.mem_cons_of_mem _ hw), hK, hX, hA, rfl, rfl, Nat.le_refl _, Nat.le_refl _, fun b L xs z => by cases z⟩
    have hlocks := B.notSynchronized
    have hret : sRet p l e (sRm (d + 1) bc bs) s m (vs.map sv).toArray below meth c A D cy N bc bs P (MQ below (sPost A D cy P) (vs.map sv).toArray s bc bs A) := by
      intro pc lsM h H locs cells slots hW hS hc hs
      refine ⟨fun x ty hd hr hn hq => ?_, fun r ty hd hr hn hq => ?_, fun hd hr hq => ?_⟩
      · refine W.widen hc hs ?_
        exact W.zret B.exec B.bytes (B.returns.trans hr) hn (fun t ht hWm => ⟨⟨some (sI x), h, rfl, hq, by rw [ht]; exact hW⟩, hS.F ht⟩) hS.2.2 hd hlocks
      · refine W.widen hc hs ?_
        refine W.aret B.exec B.bytes (B.returns.trans hr) hn (by cases r with | none => exact Or.inl rfl | some a => exact Or.inr ⟨a, rfl⟩) (fun t ht hWm => ⟨⟨some (sR r), h, rfl, hq, by rw [ht]; exact hW⟩, hS.F ht⟩) hS.2.2 hd hlocks
      · refine W.widen hc hs ?_
        exact W.vret B.exec B.bytes (B.returns.trans hr) (fun t ht hWm => ⟨⟨none, h, rfl, hq, by rw [ht]; exact hW⟩, hS.F ht⟩) hS.2.2 hd hlocks
    have key : W p l e (headSpec (sws N) (sRm (d + 1) bc bs)).room s m (vs.map sv).toArray below meth c s.heap [] 0 0 (MQ below (sPost A D cy P) (vs.map sv).toArray s bc bs A) (entryFrame m (vs.map sv).toArray (sm N).2.2.1) := by
      rw [lg_entry_eq]
      exact sSound (below := below) hF ih hret h3 s.heap [] 0 0 _ hW va_S.rf (sLs_entry h1 h2) (by rw [List.length_append, List.length_replicate]; omega) (by omega) (by omega)
    have hh0 : s₁.heap = s.heap := by rw [B.state]; rfl
    obtain ⟨t, a1, o, b1, b2, b3⟩ := key s₁ hh0 (Stand.of_body B)
    exact ⟨t, o, a1, b1, b2, ⟨b3.1, b3.2⟩⟩
end SOUND4
