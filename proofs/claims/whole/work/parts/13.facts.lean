def sRm (d mc ms : Nat) : Room := { frames := d, cells := mc, slots := ms, locals := 40 * d }
def sPre (A : Nat → Prop) (D : va_G) (cy : Nat → ClassId) (vs : List sV) (h : hp) : Array Value → State → Prop := va_Pc (vs.map sv) (fun U => sWd A D cy h U.heap ∧ va_K D vwCl (sy cy) U ∧ sX U ∧ ∀ q, U.heap.size ≤ q → A q)
def sPost (A : Nat → Prop) (D : va_G) (cy : Nat → ClassId) (P : Option sV → hp → Prop) : Array Value → State → Outcome → State → Prop := fun _ st oc t => (∃ (r : Option sV) (h : hp), oc = .returned (r.map sv) ∧ P r h ∧ sWd A D cy h t.heap) ∧ va_F A st t
theorem sX.moved {u U : State} (hW : u.WarmedH U.vm) (h : sX u) : sX U := ⟨h.1.moved hW.alike, h.2.1.moved hW.alike, h.2.2.1.moved hW.alike, va_Nw.warmC hW h.2.2.2.1, fun q hq => va_Nw.warmM hW (h.2.2.2.2 q hq)⟩
theorem sX.same {u U : State} (hv : u.vm = U.vm) (h : sX u) : sX U := ⟨h.1.moved (by rw [hv]; exact Vm.Alike.refl _), h.2.1.moved (by rw [hv]; exact Vm.Alike.refl _), h.2.2.1.moved (by rw [hv]; exact Vm.Alike.refl _), va_Nw.same rfl hv h.2.2.2.1, fun q hq => va_Nw.same rfl hv (h.2.2.2.2 q hq)⟩
theorem sPre_blind {A : Nat → Prop} {D : va_G} {cy : Nat → ClassId} {vs : List sV} {h : hp} : FrameBlind (sPre A D cy vs h) := fun a U g mk q => ⟨q.1, q.2.1, va_K.moved (u := U) (U := U.calling g mk a) (Vm.Alike.refl U.vm) q.2.2.1, sX.same (u := U) (U := U.calling g mk a) rfl q.2.2.2.1, q.2.2.2.2⟩
theorem sW_good : ∀ w ∈ sW, goodWord w = true := fun w hw => (List.mem_filter.mp hw).2
theorem sW_in {w : Cond} (h : w ∈ lw_tbl) (hg : goodWord w = true) : w ∈ sW := List.mem_filter.mpr ⟨h, hg⟩
theorem sGoodIn {M : Nat} (h : Cond.code (sm M).1 (sm M).2.1 (sm M).2.2.1 (sm M).2.2.2 ∈ sW) : GoodIn sW (sws M) := fun w hw => by
  rcases List.mem_cons.mp hw with rfl | hw
  · exact ⟨h, good_of_word (sW_good _ h)⟩
  · exact ⟨hw, good_of_word (sW_good _ hw)⟩
-- the classes, once for all
theorem sCl (c : Nat) (q : vw_C) (hq : vwCl[c]? = some q) : c < 8 ∧ sN c = q.2.2 ∧ (∀ w ∈ u_ws q.1 q.2.1 q.2.2, w ∈ sW) ∧ (∀ k, k < q.2.2 → parseFieldDescriptor (q.2.1 k).2.2.1 = some (sT c k)) ∧ (∀ a, a < q.2.2 → ∀ b, b < q.2.2 → a ≠ b → (q.2.1 a).2.1 ≠ (q.2.1 b).2.1) ∧ Cond.instantiable q.1 q.2.2 ∈ sW ∧ Cond.initialized q.1 ∈ sW := by
  match c, hq with
  | 0, hq => cases hq; exact ⟨by decide, rfl, by decide +kernel, tyX0_ok, nmX0, by decide +kernel, by decide +kernel⟩
  | 1, hq => cases hq; exact ⟨by decide, rfl, by decide +kernel, tyX1_ok, nmX1, by decide +kernel, by decide +kernel⟩
  | 2, hq => cases hq; exact ⟨by decide, rfl, by decide +kernel, tyX2_ok, nmX2, by decide +kernel, by decide +kernel⟩
  | 3, hq => cases hq; exact ⟨by decide, rfl, by decide +kernel, tyX3_ok, nmX3, by decide +kernel, by decide +kernel⟩
  | 4, hq => cases hq; exact ⟨by decide, rfl, by decide +kernel, tyX4_ok, nmX4, by decide +kernel, by decide +kernel⟩
  | 5, hq => cases hq; exact ⟨by decide, rfl, by decide +kernel, tyX5_ok, nmX5, by decide +kernel, by decide +kernel⟩
  | 6, hq => cases hq; exact ⟨by decide, rfl, by decide +kernel, tyX6_ok, nmX6, by decide +kernel, by decide +kernel⟩
  | 7, hq => cases hq; exact ⟨by decide, rfl, by decide +kernel, tyX7_ok, nmX7, by decide +kernel, by decide +kernel⟩
  | c + 8, hq => simp [vwCl] at hq
theorem sObjI : Cond.instanceMethod objectInit ∈ sW := by decide +kernel
theorem sObjC : Cond.code objectInit ⟨#[0xb1]⟩ 1 none ∈ sW := by decide +kernel
theorem sCpN : Cond.native arraycopyName ∈ sW := by decide +kernel
theorem sCpS : Cond.static arraycopyName ∈ sW := by decide +kernel
theorem sCpI : Cond.initialized "java/lang/System" ∈ sW := by decide +kernel
theorem sClS : Cond.sameMethod "[I" "java/lang/Object" "clone" "()Ljava/lang/Object;" ∈ sW := by decide +kernel
theorem sClN : Cond.native ⟨"java/lang/Object", "clone", "()Ljava/lang/Object;"⟩ ∈ sW := by decide +kernel
theorem sClI : Cond.instanceMethod ⟨"java/lang/Object", "clone", "()Ljava/lang/Object;"⟩ ∈ sW := by decide +kernel
theorem sClX : Cond.selects "[I" ⟨"[I", "clone", "()Ljava/lang/Object;"⟩ ⟨"java/lang/Object", "clone", "()Ljava/lang/Object;"⟩ ∈ sW := by decide +kernel
theorem sArI : Cond.arrayClass .int ∈ sW := by decide +kernel
theorem sArZ : Cond.arrayClass .boolean ∈ sW := by decide +kernel
