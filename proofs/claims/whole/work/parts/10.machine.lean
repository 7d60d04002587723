/-! A small machine: values, a heap of typed fields, the step of an instruction as a predicate transformer; its least fixed point is sWP -/
abbrev sV : Type := Int32 ⊕ (Option Nat ⊕ (Int64 ⊕ Unit))
abbrev sI (x : Int32) : sV := Sum.inl x
abbrev sR (r : Option Nat) : sV := Sum.inr (Sum.inl r)
abbrev sL (x : Int64) : sV := Sum.inr (Sum.inr (Sum.inl x))
abbrev sU : sV := Sum.inr (Sum.inr (Sum.inr ()))
def sv (v : sV) : Value := match v with
  | .inl x => .int x
  | .inr (.inl r) => va_rf r
  | .inr (.inr (.inl x)) => .long x
  | .inr (.inr (.inr _)) => .null
def sw (v : sV) : Nat := match v with
  | .inl _ => 1
  | .inr (.inl _) => 1
  | .inr (.inr (.inl _)) => 2
  | .inr (.inr (.inr _)) => 1
def sset (v : sV) : Bool := match v with
  | .inl _ => true
  | .inr (.inl _) => true
  | .inr (.inr _) => false
theorem sw_cat (v : sV) : (sv v).category = sw v := by
  rcases v with x | ⟨(_ | a)⟩ | x | x <;> rfl
abbrev hp : Type := (Nat → Nat) × (Nat → Nat → Int32) × (Nat → Nat → Option Nat) × (Nat → Nat) × (Nat → Nat → Int32) × (Nat → Nat → Option Nat)
def gk (h : hp) (a : Nat) : Nat := h.1 a
def gi (h : hp) (f a : Nat) : Int32 := h.2.1 f a
def gr (h : hp) (f a : Nat) : Option Nat := h.2.2.1 f a
def gl (h : hp) (a : Nat) : Nat := h.2.2.2.1 a
def ga (h : hp) (a j : Nat) : Int32 := h.2.2.2.2.1 a j
def gq (h : hp) (a j : Nat) : Option Nat := h.2.2.2.2.2 a j
def wi (h : hp) (f a : Nat) (v : Int32) : hp := (h.1, (fun g b => if g = f ∧ b = a then v else h.2.1 g b), h.2.2)
def wr (h : hp) (f a : Nat) (v : Option Nat) : hp := (h.1, h.2.1, (fun g b => if g = f ∧ b = a then v else h.2.2.1 g b), h.2.2.2)
def wA (h : hp) (a : Nat) (f : Nat → Int32) : hp := (h.1, h.2.1, h.2.2.1, h.2.2.2.1, (fun b => if b = a then f else h.2.2.2.2.1 b), h.2.2.2.2.2)
def wa (h : hp) (a j : Nat) (v : Int32) : hp := wA h a (upd (ga h a) j v)
def wq (h : hp) (a j : Nat) (v : Option Nat) : hp := (h.1, h.2.1, h.2.2.1, h.2.2.2.1, h.2.2.2.2.1, (fun b => if b = a then va_up (gq h a) j v else h.2.2.2.2.2 b))
def nw (h : hp) (a k n : Nat) : hp := ((fun b => if b = a then k else h.1 b), (fun g b => if b = a then 0 else h.2.1 g b), (fun g b => if b = a then none else h.2.2.1 g b), (fun b => if b = a then n else h.2.2.2.1 b), (fun b => if b = a then (fun _ => 0) else h.2.2.2.2.1 b), (fun b => if b = a then (fun _ => none) else h.2.2.2.2.2 b))
-- fields
def sB (ty : FieldType) : Bool := match ty with
  | .int => true
  | .boolean => true
  | _ => false
def sN (c : Nat) : Nat := match vwCl[c]? with
  | some q => q.2.2
  | none => 0
def sF (h : hp) (c k a : Nat) : sV := if sB (sT c k) = true then sI (gi h (100 * c + k) a) else sR (gr h (100 * c + k) a)
def sE (cy : Nat → ClassId) (h : hp) (a : Nat) : va_E :=
  if gk h a < 20 then .inr (gk h a - 1, (List.range (sN (gk h a - 1))).map (fun k => sv (sF h (gk h a - 1) k a)))
  else if gk h a < 22 then .inl (cy (gk h a - 20), gl h a, .inl (ga h a))
  else .inl (cy (gk h a - 20), gl h a, .inr (.inr (.inr (.inr (gq h a)))))
def sy (cy : Nat → ClassId) : List (ClassId × FieldType) := [(cy 0, .int), (cy 1, .boolean), (cy 2, .object RX1), (cy 3, .object RX3), (cy 4, .object RX5)]
/-- the element class of the arrays of references: kinds 22, 23, 24 hold objects of classes 1, 3, 5 -/
def sAe (k : Nat) : Nat := match k with
  | 22 => 1
  | 23 => 3
  | _ => 5
def sWd (A : Nat → Prop) (D : va_G) (cy : Nat → ClassId) (h : hp) (H : Heap) : Prop :=
  ∃ L : List Nat, (∀ a, a ∈ L ↔ gk h a ≠ 0) ∧ (∀ a, gk h a ≤ 24) ∧ va_P D vwCl ([] ++ va_pl L (sE cy h)) H ∧ va_D A ([] ++ va_pl L (sE cy h))
-- words
def sW : List Cond := lw_tbl.filter goodWord
def sws (M : Nat) : List Cond := Cond.code (sm M).1 (sm M).2.1 (sm M).2.2.1 (sm M).2.2.2 :: sW
def sNest : List (String × Nat × MethodName × String) := [(RX6, 11, yX0_init, RX6), (RX6, 18, yX2_init, RX6), (RX4, 26, yX6_failureOf, RX6), (RX3, 35, yX6_failureOf, RX6), (RX3, 58, yX5_init, RX6)]
def sX (U : State) : Prop := va_AO RX1 U ∧ va_AO RX3 U ∧ va_AO RX5 U ∧ va_Nw (.castable "[I" "java/lang/Cloneable") U ∧ ∀ q ∈ sNest, va_Nw (.methodLinkNest q.1 q.2.1 q.2.2.1 q.2.2.2) U
-- links
def sLf (own : String) (idx c k : Nat) : Prop := ∃ q, vwCl[c]? = some q ∧ k < q.2.2 ∧ Cond.fieldLink own idx (q.2.1 k).1 (q.2.1 k).2.1 (q.2.1 k).2.2.1 ∈ sW
def sLp (own : String) (ini : String) (idx c k : Nat) : Prop := ∃ q, vwCl[c]? = some q ∧ k < q.2.2 ∧ Cond.fieldLink own idx (q.2.1 k).1 (q.2.1 k).2.1 (q.2.1 k).2.2.1 ∈ sW ∧ ((q.2.1 k).2.2.2 = false ∨ ((q.2.1 k).2.2.2 = true ∧ ini = "<init>" ∧ (q.2.1 k).1 = own))
def sOk (M n : Nat) : Prop := plainFor (sm M).1 = true ∧ Cond.code (sm M).1 (sm M).2.1 (sm M).2.2.1 (sm M).2.2.2 ∈ sW ∧ Cond.initialized (sm M).1.cls ∈ sW ∧ (sm M).1.cls ≠ "java/lang/invoke/MethodHandle" ∧ (sm M).1.cls ≠ "java/lang/invoke/VarHandle" ∧ (parseMethodDescriptor (sm M).1.desc).map (fun d => d.parameters.length) = some n ∧ (sm M).2.2.1 ≤ 21
def sLv (own : String) (idx M n c : Nat) : Prop := sOk M n ∧ Cond.methodLink own idx (sm M).1 ∈ sW ∧ Cond.instanceMethod (sm M).1 ∈ sW ∧ Cond.selects (sm M).1.cls (sm M).1 (sm M).1 ∈ sW ∧ ∃ q, vwCl[c]? = some q ∧ q.1 = (sm M).1.cls
def sLs (own : String) (idx M n : Nat) : Prop := sOk M n ∧ Cond.static (sm M).1 ∈ sW ∧ (Cond.methodLink own idx (sm M).1 ∈ sW ∨ ∃ host, (own, idx, (sm M).1, host) ∈ sNest)
def sLi (own : String) (idx M n : Nat) : Prop := sOk M n ∧ Cond.instanceMethod (sm M).1 ∈ sW ∧ (sm M).1.name = "<init>" ∧ (sm M).2.2.2 = none ∧ (Cond.methodLink own idx (sm M).1 ∈ sW ∨ ∃ host, (own, idx, (sm M).1, host) ∈ sNest)
def sLo (own : String) (idx : Nat) : Prop := Cond.methodLink own idx objectInit ∈ sW
def sLc (own : String) (idx : Nat) : Prop := Cond.methodLink own idx arraycopyName ∈ sW
def sLn (own : String) (idx c : Nat) : Prop := ∃ q, vwCl[c]? = some q ∧ Cond.classLink own idx q.1 ∈ sW
def sLk (own : String) (idx : Nat) : Prop := Cond.methodLink own idx ⟨"[I", "clone", "()Ljava/lang/Object;"⟩ ∈ sW
abbrev sO : Type := Nat → List sV → hp → Nat → Nat → (Option sV → hp → Prop) → Prop
abbrev sZ : Type := Option (Nat × Nat × (Nat → Int32))
abbrev sCf : Type := Nat → List sV → List sV → hp → Nat → Nat → Prop
def sC0 (c : ClassFile.Cond) (x : Int32) : Prop := match c with
  | .eq => x = 0
  | .ne => ¬ x = 0
  | .lt => x < 0
  | .ge => 0 ≤ x
  | .gt => 0 < x
  | .le => x ≤ 0
def sC2 (c : ClassFile.Cond) (x y : Int32) : Prop := match c with
  | .eq => x = y
  | .ne => ¬ x = y
  | .lt => x < y
  | .ge => y ≤ x
  | .gt => y < x
  | .le => x ≤ y
def sbin (i : Instr) (x y : Int32) : Option Int32 := match i with
  | .iadd => some (x + y)
  | .isub => some (x - y)
  | .imul => some (x * y)
  | .iand => some (x &&& y)
  | .ior => some (x ||| y)
  | .ixor => some (x ^^^ y)
  | .ishl => some (x <<< (y &&& 31))
  | .ishr => some (x >>> (y &&& 31))
  | .irem => if y = 0 then none else some (x - x / y * y)
  | _ => none
def slen (i : Instr) : Nat := match i with
  | .aconst_null => 1
  | .iload_n _ => 1
  | .aload_n _ => 1
  | .istore_n _ => 1
  | .astore_n _ => 1
  | .iadd => 1
  | .isub => 1
  | .imul => 1
  | .iand => 1
  | .ior => 1
  | .ixor => 1
  | .ishl => 1
  | .ishr => 1
  | .irem => 1
  | .i2l => 1
  | .ladd => 1
  | .lcmp => 1
  | .dup => 1
  | .dup2 => 1
  | .iaload => 1
  | .baload => 1
  | .aaload => 1
  | .iastore => 1
  | .bastore => 1
  | .aastore => 1
  | .arraylength => 1
  | .ireturn => 1
  | .areturn => 1
  | .return_ => 1
  | .iconst _ => 1
  | .bipush _ => 2
  | .ldc _ => 2
  | .iload _ => 2
  | .aload _ => 2
  | .istore _ => 2
  | .astore _ => 2
  | .newarray _ => 2
  | .sipush _ => 3
  | .iinc _ _ => 3
  | .goto _ => 3
  | .ifCond _ _ => 3
  | .if_icmp _ _ => 3
  | .ifnull _ => 3
  | .ifnonnull _ => 3
  | .getfield _ => 3
  | .putfield _ => 3
  | .anewarray _ => 3
  | .new _ => 3
  | .checkcast _ => 3
  | .invokevirtual _ => 3
  | .invokestatic _ => 3
  | .invokespecial _ => 3
  | _ => 0
/-- one instruction, backwards: what must hold ahead of it, X being what must hold behind it -/
def sP (O : sO) (Z : sZ) (M : Nat) (Q : Option sV → hp → Prop) (X : sCf) (pc : Nat) (ls st : List sV) (h : hp) (bc bs : Nat) (i : Instr) (n : Nat) : Prop := match i with
  | .iconst k => X (pc + n) ls (sI (Int32.ofInt k) :: st) h bc bs
  | .bipush k => X (pc + n) ls (sI (Int8.ofInt k).toInt32 :: st) h bc bs
  | .sipush k => X (pc + n) ls (sI (Int16.ofInt k).toInt32 :: st) h bc bs
  | .ldc idx => ∃ v, Cond.constant (sm M).1.cls idx v ∈ sW ∧ X (pc + n) ls (sI v :: st) h bc bs
  | .aconst_null => X (pc + n) ls (sR none :: st) h bc bs
  | .iload_n k => ∃ x, ls[k.val]? = some (sI x) ∧ X (pc + n) ls (sI x :: st) h bc bs
  | .iload k => ∃ x, ls[k]? = some (sI x) ∧ X (pc + n) ls (sI x :: st) h bc bs
  | .aload_n k => ∃ r, ls[k.val]? = some (sR r) ∧ X (pc + n) ls (sR r :: st) h bc bs
  | .aload k => ∃ r, ls[k]? = some (sR r) ∧ X (pc + n) ls (sR r :: st) h bc bs
  | .istore_n k => ∃ x st', st = sI x :: st' ∧ k.val < ls.length ∧ X (pc + n) (ls.set k.val (sI x)) st' h bc bs
  | .istore k => ∃ x st', st = sI x :: st' ∧ k < ls.length ∧ X (pc + n) (ls.set k (sI x)) st' h bc bs
  | .astore_n k => ∃ r st', st = sR r :: st' ∧ k.val < ls.length ∧ X (pc + n) (ls.set k.val (sR r)) st' h bc bs
  | .astore k => ∃ r st', st = sR r :: st' ∧ k < ls.length ∧ X (pc + n) (ls.set k (sR r)) st' h bc bs
  | .iinc k z => ∃ x, ls[k]? = some (sI x) ∧ X (pc + n) (ls.set k (sI (x + Int32.ofInt z))) st h bc bs
  | .i2l => ∃ x st', st = sI x :: st' ∧ X (pc + n) ls (sL x.toInt64 :: st') h bc bs
  | .ladd => ∃ x y st', st = sL y :: sL x :: st' ∧ X (pc + n) ls (sL (x + y) :: st') h bc bs
  | .lcmp => ∃ x y st', st = sL y :: sL x :: st' ∧ X (pc + n) ls (sI (lg_cmp x y) :: st') h bc bs
  | .dup => ∃ v st', st = v :: st' ∧ sw v = 1 ∧ X (pc + n) ls (v :: v :: st') h bc bs
  | .dup2 => ∃ v u st', st = v :: u :: st' ∧ sw v = 1 ∧ sw u = 1 ∧ X (pc + n) ls (v :: u :: v :: u :: st') h bc bs
  | .goto off => ∃ t : Nat, (pc : Int) + off = (t : Int) ∧ X t ls st h bc bs
  | .ifCond c off => ∃ (x : Int32) (st' : List sV) (t : Nat), st = sI x :: st' ∧ (pc : Int) + off = (t : Int) ∧ (sC0 c x → X t ls st' h bc bs) ∧ (¬ sC0 c x → X (pc + n) ls st' h bc bs)
  | .if_icmp c off => ∃ (x y : Int32) (st' : List sV) (t : Nat), st = sI y :: sI x :: st' ∧ (pc : Int) + off = (t : Int) ∧ (sC2 c x y → X t ls st' h bc bs) ∧ (¬ sC2 c x y → X (pc + n) ls st' h bc bs)
  | .ifnull off => ∃ (r : Option Nat) (st' : List sV) (t : Nat), st = sR r :: st' ∧ (pc : Int) + off = (t : Int) ∧ (r = none → X t ls st' h bc bs) ∧ (¬ r = none → X (pc + n) ls st' h bc bs)
  | .ifnonnull off => ∃ (r : Option Nat) (st' : List sV) (t : Nat), st = sR r :: st' ∧ (pc : Int) + off = (t : Int) ∧ (r = none → X (pc + n) ls st' h bc bs) ∧ (¬ r = none → X t ls st' h bc bs)
  | .tableswitch d lo hi offs => ∃ (x : Int32) (st' : List sV), st = sI x :: st' ∧ (x.toInt < lo ∨ hi < x.toInt → ∃ t : Nat, (pc : Int) + d = (t : Int) ∧ X t ls st' h bc bs) ∧ (¬ (x.toInt < lo ∨ hi < x.toInt) → ∃ (off : Int) (t : Nat), offs[(x.toInt - lo).toNat]? = some off ∧ (pc : Int) + off = (t : Int) ∧ X t ls st' h bc bs)
  | .lookupswitch d ps => ∃ (x : Int32) (st' : List sV) (t : Nat), st = sI x :: st' ∧ (ps.toList.zip (ps.toList.drop 1)).all (fun (a, next) => a.1 < next.1) = true ∧ (pc : Int) + Op.lookupswitch.offset ps.toList d x.toInt = (t : Int) ∧ X t ls st' h bc bs
  | .getfield idx => ∃ (c k a : Nat) (st' : List sV), st = sR (some a) :: st' ∧ sLf (sm M).1.cls idx c k ∧ gk h a = c + 1 ∧ X (pc + n) ls (sF h c k a :: st') h bc bs
  | .putfield idx => ∃ (c k a : Nat) (v : sV) (st' : List sV), st = v :: sR (some a) :: st' ∧ sLp (sm M).1.cls (sm M).1.name idx c k ∧ gk h a = c + 1 ∧ ((sB (sT c k) = true ∧ ∃ x, v = sI x ∧ narrow (sT c k) (.int x) = .int x ∧ fits (sT c k) (.int x) = true ∧ X (pc + n) ls st' (wi h (100 * c + k) a x) bc bs) ∨ (sB (sT c k) = false ∧ ∃ r, v = sR r ∧ narrow (sT c k) (va_rf r) = va_rf r ∧ fits (sT c k) (va_rf r) = true ∧ X (pc + n) ls st' (wr h (100 * c + k) a r) bc bs))
  | .iaload => ∃ (j : Int32) (a : Nat) (st' : List sV), st = sI j :: sR (some a) :: st' ∧ ((gk h a = 20 ∧ vp_in j (gl h a) ∧ X (pc + n) ls (sI (ga h a j.toNatClampNeg) :: st') h bc bs) ∨ ∃ (L : Nat) (xs : Nat → Int32), Z = some (a, L, xs) ∧ vp_in j L ∧ X (pc + n) ls (sI (xs j.toNatClampNeg) :: st') h bc bs)
  | .baload => ∃ (j : Int32) (a : Nat) (st' : List sV), st = sI j :: sR (some a) :: st' ∧ gk h a = 21 ∧ vp_in j (gl h a) ∧ X (pc + n) ls (sI (ga h a j.toNatClampNeg) :: st') h bc bs
  | .aaload => ∃ (j : Int32) (a : Nat) (st' : List sV), st = sI j :: sR (some a) :: st' ∧ 22 ≤ gk h a ∧ vp_in j (gl h a) ∧ X (pc + n) ls (sR (gq h a j.toNatClampNeg) :: st') h bc bs
  | .iastore => ∃ (x j : Int32) (a : Nat) (st' : List sV), st = sI x :: sI j :: sR (some a) :: st' ∧ gk h a = 20 ∧ vp_in j (gl h a) ∧ X (pc + n) ls st' (wa h a j.toNatClampNeg x) bc bs
  | .bastore => ∃ (x j : Int32) (a : Nat) (st' : List sV), st = sI x :: sI j :: sR (some a) :: st' ∧ gk h a = 21 ∧ vp_in j (gl h a) ∧ vp_nar .boolean x = x ∧ X (pc + n) ls st' (wa h a j.toNatClampNeg x) bc bs
  | .aastore => ∃ (r : Option Nat) (j : Int32) (a : Nat) (st' : List sV), st = sR r :: sI j :: sR (some a) :: st' ∧ 22 ≤ gk h a ∧ vp_in j (gl h a) ∧ (∀ b, r = some b → gk h b = sAe (gk h a) + 1) ∧ X (pc + n) ls st' (wq h a j.toNatClampNeg r) bc bs
  | .arraylength => ∃ (a : Nat) (st' : List sV), st = sR (some a) :: st' ∧ ((20 ≤ gk h a ∧ X (pc + n) ls (sI (Int32.ofNat (gl h a)) :: st') h bc bs) ∨ ∃ (L : Nat) (xs : Nat → Int32), Z = some (a, L, xs) ∧ X (pc + n) ls (sI (Int32.ofNat L) :: st') h bc bs)
  | .newarray ty => ∃ (k : Nat) (j : Int32) (N : Nat) (st' : List sV), st = sI j :: st' ∧ ((ty = .int ∧ k = 20) ∨ (ty = .boolean ∧ k = 21)) ∧ ¬ j < 0 ∧ j.toNatClampNeg = N ∧ N ≤ 100000 ∧ 1 ≤ bc ∧ N ≤ bs ∧ ∀ q, gk h q = 0 → X (pc + n) ls (sR (some q) :: st') (nw h q k N) (bc - 1) (bs - N)
  | .anewarray idx => ∃ (c k : Nat) (j : Int32) (N : Nat) (st' : List sV), st = sI j :: st' ∧ 22 ≤ k ∧ k ≤ 24 ∧ sAe k = c ∧ sLn (sm M).1.cls idx c ∧ ¬ j < 0 ∧ j.toNatClampNeg = N ∧ N ≤ 100000 ∧ 1 ≤ bc ∧ N ≤ bs ∧ ∀ q, gk h q = 0 → X (pc + n) ls (sR (some q) :: st') (nw h q k N) (bc - 1) (bs - N)
  | .new idx => ∃ c : Nat, sLn (sm M).1.cls idx c ∧ 1 ≤ bc ∧ sN c ≤ bs ∧ ∀ q, gk h q = 0 → X (pc + n) ls (sR (some q) :: st) (nw h q (c + 1) 0) (bc - 1) (bs - sN c)
  | .checkcast idx => ∃ (a : Nat) (st' : List sV), st = sR (some a) :: st' ∧ Cond.classLink (sm M).1.cls idx "[I" ∈ sW ∧ gk h a = 20 ∧ X (pc + n) ls st h bc bs
  | .invokevirtual idx => (∃ (N k c a : Nat) (As st' : List sV) (bc' bs' : Nat) (P : Option sV → hp → Prop), st = As.reverse ++ sR (some a) :: st' ∧ As.length = k ∧ As.all sset = true ∧ sLv (sm M).1.cls idx N k c ∧ gk h a = c + 1 ∧ (st'.map sw).sum ≤ 8 ∧ bc' ≤ bc ∧ bs' ≤ bs ∧ O N (sR (some a) :: As) h bc' bs' P ∧ ∀ r h', P r h' → X (pc + n) ls (r.toList ++ st') h' (bc - bc') (bs - bs'))
      ∨ (∃ (a : Nat) (st' : List sV), st = sR (some a) :: st' ∧ sLk (sm M).1.cls idx ∧ gk h a = 20 ∧ (st'.map sw).sum ≤ 8 ∧ 1 ≤ bc ∧ gl h a ≤ bs ∧ ∀ q, gk h q = 0 → X (pc + n) ls (sR (some q) :: st') (wA (nw h q 20 (gl h a)) q (ga h a)) (bc - 1) (bs - gl h a))
  | .invokestatic idx => (∃ (N k : Nat) (As st' : List sV) (bc' bs' : Nat) (P : Option sV → hp → Prop), st = As.reverse ++ st' ∧ As.length = k ∧ As.all sset = true ∧ sLs (sm M).1.cls idx N k ∧ (st'.map sw).sum ≤ 8 ∧ bc' ≤ bc ∧ bs' ≤ bs ∧ O N As h bc' bs' P ∧ ∀ r h', P r h' → X (pc + n) ls (r.toList ++ st') h' (bc - bc') (bs - bs'))
      ∨ (∃ (a b : Nat) (u v w : Int32) (st' : List sV), st = sI w :: sI v :: sR (some b) :: sI u :: sR (some a) :: st' ∧ sLc (sm M).1.cls idx ∧ gk h a = 20 ∧ gk h b = 20 ∧ (st'.map sw).sum ≤ 8 ∧ ¬ u < 0 ∧ ¬ v < 0 ∧ ¬ w < 0 ∧ u.toNatClampNeg + w.toNatClampNeg ≤ gl h a ∧ v.toNatClampNeg + w.toNatClampNeg ≤ gl h b ∧ X (pc + n) ls st' (wA h b (va_cpy (ga h a) (ga h b) u.toNatClampNeg v.toNatClampNeg w.toNatClampNeg)) bc bs)
  | .invokespecial idx => (∃ (N k a : Nat) (As st' : List sV) (bc' bs' : Nat) (P : Option sV → hp → Prop), st = As.reverse ++ sR (some a) :: st' ∧ As.length = k ∧ As.all sset = true ∧ sLi (sm M).1.cls idx N k ∧ (st'.map sw).sum ≤ 8 ∧ bc' ≤ bc ∧ bs' ≤ bs ∧ O N (sR (some a) :: As) h bc' bs' P ∧ ∀ r h', P r h' → X (pc + n) ls (r.toList ++ st') h' (bc - bc') (bs - bs'))
      ∨ (∃ (a : Nat) (st' : List sV), st = sR (some a) :: st' ∧ sLo (sm M).1.cls idx ∧ (st'.map sw).sum ≤ 8 ∧ X (pc + n) ls st' h bc bs)
  | .ireturn => ∃ (x : Int32) (ty : FieldType), st = [sI x] ∧ (sm M).2.2.2 = some ty ∧ narrow ty (.int x) = .int x ∧ Q (some (sI x)) h
  | .areturn => ∃ (r : Option Nat) (ty : FieldType), st = [sR r] ∧ (sm M).2.2.2 = some ty ∧ ((∃ z, ty = .object z) ∨ ∃ z, ty = .array z) ∧ Q (some (sR r)) h
  | .return_ => st = [] ∧ (sm M).2.2.2 = none ∧ Q none h
  | i => ∃ (x y z : Int32) (st' : List sV), st = sI y :: sI x :: st' ∧ sbin i x y = some z ∧ X (pc + n) ls (sI z :: st') h bc bs
def sSt (O : sO) (Z : sZ) (M : Nat) (Q : Option sV → hp → Prop) (X : sCf) (pc : Nat) (ls st : List sV) (h : hp) (bc bs : Nat) : Prop := ∃ i n, decode (sm M).2.1 pc = .ok (i, n) ∧ (slen i = 0 ∨ n = slen i) ∧ sP O Z M Q X pc ls st h bc bs i n
def sWP (O : sO) (Z : sZ) (M : Nat) (Q : Option sV → hp → Prop) (pc : Nat) (ls st : List sV) (h : hp) (bc bs : Nat) : Prop := ∀ X : sCf, (∀ pc ls st h bc bs, sSt O Z M Q X pc ls st h bc bs → X pc ls st h bc bs) → X pc ls st h bc bs
/-- a call, at most d calls deep -/
def sCall : Nat → sO
  | 0 => fun _ _ _ _ _ _ => False
  | d + 1 => fun M vs h bc bs Q => vs.all sset = true ∧ vs.length ≤ (sm M).2.2.1 ∧ sWP (sCall d) none M Q 0 (vs ++ List.replicate ((sm M).2.2.1 - vs.length) sU) [] h bc bs
