section ROWS
variable {O : sO} {Z : sZ} {M : Nat} {Q : Option sV → hp → Prop} {pc : Nat} {ls st : List sV} {h : hp} {bc bs : Nat} {cc : ByteArray}
theorem w_iconst (hb : (sm M).2.1 = cc) {k : Int} (hd : decode cc pc = .ok (.iconst k, 1)) (q : Nat) (hq : pc + 1 = q) (v : Int32) (hv : Int32.ofInt k = v) (K : sWP O Z M Q q ls (sI v :: st) h bc bs) : sWP O Z M Q pc ls st h bc bs := by
  subst hq
  rw [sWP_at hb hd (Or.inr rfl)]
  exact by subst hv; exact K

theorem w_bipush (hb : (sm M).2.1 = cc) {k : Int} (hd : decode cc pc = .ok (.bipush k, 2)) (q : Nat) (hq : pc + 2 = q) (v : Int32) (hv : (Int8.ofInt k).toInt32 = v) (K : sWP O Z M Q q ls (sI v :: st) h bc bs) : sWP O Z M Q pc ls st h bc bs := by
  subst hq
  rw [sWP_at hb hd (Or.inr rfl)]
  exact by subst hv; exact K

theorem w_sipush (hb : (sm M).2.1 = cc) {k : Int} (hd : decode cc pc = .ok (.sipush k, 3)) (q : Nat) (hq : pc + 3 = q) (v : Int32) (hv : (Int16.ofInt k).toInt32 = v) (K : sWP O Z M Q q ls (sI v :: st) h bc bs) : sWP O Z M Q pc ls st h bc bs := by
  subst hq
  rw [sWP_at hb hd (Or.inr rfl)]
  exact by subst hv; exact K

theorem w_ldc (hb : (sm M).2.1 = cc) {k : Nat} (hd : decode cc pc = .ok (.ldc k, 2)) (q : Nat) (hq : pc + 2 = q) (v : Int32) (hv : Cond.constant (sm M).1.cls k v ∈ sW) (K : sWP O Z M Q q ls (sI v :: st) h bc bs) : sWP O Z M Q pc ls st h bc bs := by
  subst hq
  rw [sWP_at hb hd (Or.inr rfl)]
  exact ⟨v, hv, K⟩

theorem w_null (hb : (sm M).2.1 = cc)  (hd : decode cc pc = .ok (.aconst_null, 1)) (q : Nat) (hq : pc + 1 = q)  (K : sWP O Z M Q q ls (sR none :: st) h bc bs) : sWP O Z M Q pc ls st h bc bs := by
  subst hq
  rw [sWP_at hb hd (Or.inr rfl)]
  exact K

theorem w_iload_n (hb : (sm M).2.1 = cc) {k : Fin 4} (hd : decode cc pc = .ok (.iload_n k, 1)) (q : Nat) (hq : pc + 1 = q) {x : Int32} (hl : ls[k.val]? = some (sI x)) (K : sWP O Z M Q q ls (sI x :: st) h bc bs) : sWP O Z M Q pc ls st h bc bs := by
  subst hq
  rw [sWP_at hb hd (Or.inr rfl)]
  exact ⟨x, hl, K⟩

theorem w_iload (hb : (sm M).2.1 = cc) {k : Nat} (hd : decode cc pc = .ok (.iload k, 2)) (q : Nat) (hq : pc + 2 = q) {x : Int32} (hl : ls[k]? = some (sI x)) (K : sWP O Z M Q q ls (sI x :: st) h bc bs) : sWP O Z M Q pc ls st h bc bs := by
  subst hq
  rw [sWP_at hb hd (Or.inr rfl)]
  exact ⟨x, hl, K⟩

theorem w_aload_n (hb : (sm M).2.1 = cc) {k : Fin 4} (hd : decode cc pc = .ok (.aload_n k, 1)) (q : Nat) (hq : pc + 1 = q) {x : Option Nat} (hl : ls[k.val]? = some (sR x)) (K : sWP O Z M Q q ls (sR x :: st) h bc bs) : sWP O Z M Q pc ls st h bc bs := by
  subst hq
  rw [sWP_at hb hd (Or.inr rfl)]
  exact ⟨x, hl, K⟩

theorem w_aload (hb : (sm M).2.1 = cc) {k : Nat} (hd : decode cc pc = .ok (.aload k, 2)) (q : Nat) (hq : pc + 2 = q) {x : Option Nat} (hl : ls[k]? = some (sR x)) (K : sWP O Z M Q q ls (sR x :: st) h bc bs) : sWP O Z M Q pc ls st h bc bs := by
  subst hq
  rw [sWP_at hb hd (Or.inr rfl)]
  exact ⟨x, hl, K⟩

theorem w_istore_n (hb : (sm M).2.1 = cc) {k : Fin 4} (hd : decode cc pc = .ok (.istore_n k, 1)) (q : Nat) (hq : pc + 1 = q) {x : Int32} (ls1 : List sV) (hl : k.val < ls.length) (hs : ls.set k.val (sI x) = ls1) (K : sWP O Z M Q q ls1 (st) h bc bs) : sWP O Z M Q pc ls (sI x :: st) h bc bs := by
  subst hq
  rw [sWP_at hb hd (Or.inr rfl)]
  exact ⟨x, st, rfl, hl, by rw [hs]; exact K⟩

theorem w_istore (hb : (sm M).2.1 = cc) {k : Nat} (hd : decode cc pc = .ok (.istore k, 2)) (q : Nat) (hq : pc + 2 = q) {x : Int32} (ls1 : List sV) (hl : k < ls.length) (hs : ls.set k (sI x) = ls1) (K : sWP O Z M Q q ls1 (st) h bc bs) : sWP O Z M Q pc ls (sI x :: st) h bc bs := by
  subst hq
  rw [sWP_at hb hd (Or.inr rfl)]
  exact ⟨x, st, rfl, hl, by rw [hs]; exact K⟩

theorem w_astore_n (hb : (sm M).2.1 = cc) {k : Fin 4} (hd : decode cc pc = .ok (.astore_n k, 1)) (q : Nat) (hq : pc + 1 = q) {x : Option Nat} (ls1 : List sV) (hl : k.val < ls.length) (hs : ls.set k.val (sR x) = ls1) (K : sWP O Z M Q q ls1 (st) h bc bs) : sWP O Z M Q pc ls (sR x :: st) h bc bs := by
  subst hq
  rw [sWP_at hb hd (Or.inr rfl)]
  exact ⟨x, st, rfl, hl, by rw [hs]; exact K⟩

theorem w_astore (hb : (sm M).2.1 = cc) {k : Nat} (hd : decode cc pc = .ok (.astore k, 2)) (q : Nat) (hq : pc + 2 = q) {x : Option Nat} (ls1 : List sV) (hl : k < ls.length) (hs : ls.set k (sR x) = ls1) (K : sWP O Z M Q q ls1 (st) h bc bs) : sWP O Z M Q pc ls (sR x :: st) h bc bs := by
  subst hq
  rw [sWP_at hb hd (Or.inr rfl)]
  exact ⟨x, st, rfl, hl, by rw [hs]; exact K⟩

theorem w_iinc (hb : (sm M).2.1 = cc) {k : Nat} {z : Int} (hd : decode cc pc = .ok (.iinc k z, 3)) (q : Nat) (hq : pc + 3 = q) {x : Int32} (hl : ls[k]? = some (sI x)) (v : Int32) (hv : x + Int32.ofInt z = v) (ls1 : List sV) (hs : ls.set k (sI v) = ls1) (K : sWP O Z M Q q ls1 (st) h bc bs) : sWP O Z M Q pc ls st h bc bs := by
  subst hq
  rw [sWP_at hb hd (Or.inr rfl)]
  exact ⟨x, hl, by rw [hv, hs]; exact K⟩

theorem w_iadd (hb : (sm M).2.1 = cc)  (hd : decode cc pc = .ok (.iadd, 1)) (q : Nat) (hq : pc + 1 = q) {x y : Int32} (K : sWP O Z M Q q ls (sI (x + y) :: st) h bc bs) : sWP O Z M Q pc ls (sI y :: sI x :: st) h bc bs := by
  subst hq
  rw [sWP_at hb hd (Or.inr rfl)]
  exact ⟨x, y, _, st, rfl, rfl, K⟩

theorem w_isub (hb : (sm M).2.1 = cc)  (hd : decode cc pc = .ok (.isub, 1)) (q : Nat) (hq : pc + 1 = q) {x y : Int32} (K : sWP O Z M Q q ls (sI (x - y) :: st) h bc bs) : sWP O Z M Q pc ls (sI y :: sI x :: st) h bc bs := by
  subst hq
  rw [sWP_at hb hd (Or.inr rfl)]
  exact ⟨x, y, _, st, rfl, rfl, K⟩

theorem w_imul (hb : (sm M).2.1 = cc)  (hd : decode cc pc = .ok (.imul, 1)) (q : Nat) (hq : pc + 1 = q) {x y : Int32} (K : sWP O Z M Q q ls (sI (x * y) :: st) h bc bs) : sWP O Z M Q pc ls (sI y :: sI x :: st) h bc bs := by
  subst hq
  rw [sWP_at hb hd (Or.inr rfl)]
  exact ⟨x, y, _, st, rfl, rfl, K⟩

theorem w_iand (hb : (sm M).2.1 = cc)  (hd : decode cc pc = .ok (.iand, 1)) (q : Nat) (hq : pc + 1 = q) {x y : Int32} (K : sWP O Z M Q q ls (sI (x &&& y) :: st) h bc bs) : sWP O Z M Q pc ls (sI y :: sI x :: st) h bc bs := by
  subst hq
  rw [sWP_at hb hd (Or.inr rfl)]
  exact ⟨x, y, _, st, rfl, rfl, K⟩

theorem w_ior (hb : (sm M).2.1 = cc)  (hd : decode cc pc = .ok (.ior, 1)) (q : Nat) (hq : pc + 1 = q) {x y : Int32} (K : sWP O Z M Q q ls (sI (x ||| y) :: st) h bc bs) : sWP O Z M Q pc ls (sI y :: sI x :: st) h bc bs := by
  subst hq
  rw [sWP_at hb hd (Or.inr rfl)]
  exact ⟨x, y, _, st, rfl, rfl, K⟩

theorem w_ixor (hb : (sm M).2.1 = cc)  (hd : decode cc pc = .ok (.ixor, 1)) (q : Nat) (hq : pc + 1 = q) {x y : Int32} (K : sWP O Z M Q q ls (sI (x ^^^ y) :: st) h bc bs) : sWP O Z M Q pc ls (sI y :: sI x :: st) h bc bs := by
  subst hq
  rw [sWP_at hb hd (Or.inr rfl)]
  exact ⟨x, y, _, st, rfl, rfl, K⟩

theorem w_ishl (hb : (sm M).2.1 = cc)  (hd : decode cc pc = .ok (.ishl, 1)) (q : Nat) (hq : pc + 1 = q) {x y : Int32} (K : sWP O Z M Q q ls (sI (x <<< (y &&& 31)) :: st) h bc bs) : sWP O Z M Q pc ls (sI y :: sI x :: st) h bc bs := by
  subst hq
  rw [sWP_at hb hd (Or.inr rfl)]
  exact ⟨x, y, _, st, rfl, rfl, K⟩

theorem w_ishr (hb : (sm M).2.1 = cc)  (hd : decode cc pc = .ok (.ishr, 1)) (q : Nat) (hq : pc + 1 = q) {x y : Int32} (K : sWP O Z M Q q ls (sI (x >>> (y &&& 31)) :: st) h bc bs) : sWP O Z M Q pc ls (sI y :: sI x :: st) h bc bs := by
  subst hq
  rw [sWP_at hb hd (Or.inr rfl)]
  exact ⟨x, y, _, st, rfl, rfl, K⟩

theorem w_irem (hb : (sm M).2.1 = cc)  (hd : decode cc pc = .ok (.irem, 1)) (q : Nat) (hq : pc + 1 = q) {x y : Int32} (hy : ¬ y = 0) (K : sWP O Z M Q q ls (sI (x - x / y * y) :: st) h bc bs) : sWP O Z M Q pc ls (sI y :: sI x :: st) h bc bs := by
  subst hq
  rw [sWP_at hb hd (Or.inr rfl)]
  exact ⟨x, y, _, st, rfl, by simp only [sbin, if_neg hy], K⟩

theorem w_i2l (hb : (sm M).2.1 = cc)  (hd : decode cc pc = .ok (.i2l, 1)) (q : Nat) (hq : pc + 1 = q) {x : Int32} (K : sWP O Z M Q q ls (sL x.toInt64 :: st) h bc bs) : sWP O Z M Q pc ls (sI x :: st) h bc bs := by
  subst hq
  rw [sWP_at hb hd (Or.inr rfl)]
  exact ⟨x, st, rfl, K⟩

theorem w_ladd (hb : (sm M).2.1 = cc)  (hd : decode cc pc = .ok (.ladd, 1)) (q : Nat) (hq : pc + 1 = q) {x y : Int64} (K : sWP O Z M Q q ls (sL (x + y) :: st) h bc bs) : sWP O Z M Q pc ls (sL y :: sL x :: st) h bc bs := by
  subst hq
  rw [sWP_at hb hd (Or.inr rfl)]
  exact ⟨x, y, st, rfl, K⟩

theorem w_lcmp (hb : (sm M).2.1 = cc)  (hd : decode cc pc = .ok (.lcmp, 1)) (q : Nat) (hq : pc + 1 = q) {x y : Int64} (K : sWP O Z M Q q ls (sI (lg_cmp x y) :: st) h bc bs) : sWP O Z M Q pc ls (sL y :: sL x :: st) h bc bs := by
  subst hq
  rw [sWP_at hb hd (Or.inr rfl)]
  exact ⟨x, y, st, rfl, K⟩

theorem w_dup (hb : (sm M).2.1 = cc)  (hd : decode cc pc = .ok (.dup, 1)) (q : Nat) (hq : pc + 1 = q) {v : sV} (hv : sw v = 1) (K : sWP O Z M Q q ls (v :: v :: st) h bc bs) : sWP O Z M Q pc ls (v :: st) h bc bs := by
  subst hq
  rw [sWP_at hb hd (Or.inr rfl)]
  exact ⟨v, st, rfl, hv, K⟩

theorem w_dup2 (hb : (sm M).2.1 = cc)  (hd : decode cc pc = .ok (.dup2, 1)) (q : Nat) (hq : pc + 1 = q) {v u : sV} (hv : sw v = 1) (hu : sw u = 1) (K : sWP O Z M Q q ls (v :: u :: v :: u :: st) h bc bs) : sWP O Z M Q pc ls (v :: u :: st) h bc bs := by
  subst hq
  rw [sWP_at hb hd (Or.inr rfl)]
  exact ⟨v, u, st, rfl, hv, hu, K⟩

theorem w_goto (hb : (sm M).2.1 = cc) {off : Int} (hd : decode cc pc = .ok (.goto off, 3)) (t : Nat) (ht : (pc : Int) + off = (t : Int)) (K : sWP O Z M Q t ls (st) h bc bs) : sWP O Z M Q pc ls st h bc bs := by
  rw [sWP_at hb hd (Or.inr rfl)]
  exact ⟨t, ht, K⟩

theorem w_if_eq (hb : (sm M).2.1 = cc) {off : Int} (hd : decode cc pc = .ok (.ifCond .eq off, 3)) (t q : Nat) (ht : (pc : Int) + off = (t : Int)) (hq : pc + 3 = q) {x : Int32} (K1 : x = 0 → sWP O Z M Q t ls (st) h bc bs) (K2 : ¬ x = 0 → sWP O Z M Q q ls (st) h bc bs) : sWP O Z M Q pc ls (sI x :: st) h bc bs := by
  subst hq
  rw [sWP_at hb hd (Or.inr rfl)]
  exact ⟨x, st, t, rfl, ht, K1, K2⟩

theorem w_if_ne (hb : (sm M).2.1 = cc) {off : Int} (hd : decode cc pc = .ok (.ifCond .ne off, 3)) (t q : Nat) (ht : (pc : Int) + off = (t : Int)) (hq : pc + 3 = q) {x : Int32} (K1 : ¬ x = 0 → sWP O Z M Q t ls (st) h bc bs) (K2 : x = 0 → sWP O Z M Q q ls (st) h bc bs) : sWP O Z M Q pc ls (sI x :: st) h bc bs := by
  subst hq
  rw [sWP_at hb hd (Or.inr rfl)]
  exact ⟨x, st, t, rfl, ht, K1, fun z => K2 (Classical.byContradiction fun w => z w)⟩

theorem w_if_lt (hb : (sm M).2.1 = cc) {off : Int} (hd : decode cc pc = .ok (.ifCond .lt off, 3)) (t q : Nat) (ht : (pc : Int) + off = (t : Int)) (hq : pc + 3 = q) {x : Int32} (K1 : x < 0 → sWP O Z M Q t ls (st) h bc bs) (K2 : ¬ x < 0 → sWP O Z M Q q ls (st) h bc bs) : sWP O Z M Q pc ls (sI x :: st) h bc bs := by
  subst hq
  rw [sWP_at hb hd (Or.inr rfl)]
  exact ⟨x, st, t, rfl, ht, K1, K2⟩

theorem w_if_ge (hb : (sm M).2.1 = cc) {off : Int} (hd : decode cc pc = .ok (.ifCond .ge off, 3)) (t q : Nat) (ht : (pc : Int) + off = (t : Int)) (hq : pc + 3 = q) {x : Int32} (K1 : 0 ≤ x → sWP O Z M Q t ls (st) h bc bs) (K2 : ¬ 0 ≤ x → sWP O Z M Q q ls (st) h bc bs) : sWP O Z M Q pc ls (sI x :: st) h bc bs := by
  subst hq
  rw [sWP_at hb hd (Or.inr rfl)]
  exact ⟨x, st, t, rfl, ht, K1, K2⟩

theorem w_if_gt (hb : (sm M).2.1 = cc) {off : Int} (hd : decode cc pc = .ok (.ifCond .gt off, 3)) (t q : Nat) (ht : (pc : Int) + off = (t : Int)) (hq : pc + 3 = q) {x : Int32} (K1 : 0 < x → sWP O Z M Q t ls (st) h bc bs) (K2 : ¬ 0 < x → sWP O Z M Q q ls (st) h bc bs) : sWP O Z M Q pc ls (sI x :: st) h bc bs := by
  subst hq
  rw [sWP_at hb hd (Or.inr rfl)]
  exact ⟨x, st, t, rfl, ht, K1, K2⟩

theorem w_if_le (hb : (sm M).2.1 = cc) {off : Int} (hd : decode cc pc = .ok (.ifCond .le off, 3)) (t q : Nat) (ht : (pc : Int) + off = (t : Int)) (hq : pc + 3 = q) {x : Int32} (K1 : x ≤ 0 → sWP O Z M Q t ls (st) h bc bs) (K2 : ¬ x ≤ 0 → sWP O Z M Q q ls (st) h bc bs) : sWP O Z M Q pc ls (sI x :: st) h bc bs := by
  subst hq
  rw [sWP_at hb hd (Or.inr rfl)]
  exact ⟨x, st, t, rfl, ht, K1, K2⟩

theorem w_icmp_eq (hb : (sm M).2.1 = cc) {off : Int} (hd : decode cc pc = .ok (.if_icmp .eq off, 3)) (t q : Nat) (ht : (pc : Int) + off = (t : Int)) (hq : pc + 3 = q) {x y : Int32} (K1 : x = y → sWP O Z M Q t ls (st) h bc bs) (K2 : ¬ x = y → sWP O Z M Q q ls (st) h bc bs) : sWP O Z M Q pc ls (sI y :: sI x :: st) h bc bs := by
  subst hq
  rw [sWP_at hb hd (Or.inr rfl)]
  exact ⟨x, y, st, t, rfl, ht, K1, K2⟩

theorem w_icmp_ne (hb : (sm M).2.1 = cc) {off : Int} (hd : decode cc pc = .ok (.if_icmp .ne off, 3)) (t q : Nat) (ht : (pc : Int) + off = (t : Int)) (hq : pc + 3 = q) {x y : Int32} (K1 : ¬ x = y → sWP O Z M Q t ls (st) h bc bs) (K2 : x = y → sWP O Z M Q q ls (st) h bc bs) : sWP O Z M Q pc ls (sI y :: sI x :: st) h bc bs := by
  subst hq
  rw [sWP_at hb hd (Or.inr rfl)]
  exact ⟨x, y, st, t, rfl, ht, K1, fun z => K2 (Classical.byContradiction fun w => z w)⟩

theorem w_icmp_lt (hb : (sm M).2.1 = cc) {off : Int} (hd : decode cc pc = .ok (.if_icmp .lt off, 3)) (t q : Nat) (ht : (pc : Int) + off = (t : Int)) (hq : pc + 3 = q) {x y : Int32} (K1 : x < y → sWP O Z M Q t ls (st) h bc bs) (K2 : ¬ x < y → sWP O Z M Q q ls (st) h bc bs) : sWP O Z M Q pc ls (sI y :: sI x :: st) h bc bs := by
  subst hq
  rw [sWP_at hb hd (Or.inr rfl)]
  exact ⟨x, y, st, t, rfl, ht, K1, K2⟩

theorem w_icmp_ge (hb : (sm M).2.1 = cc) {off : Int} (hd : decode cc pc = .ok (.if_icmp .ge off, 3)) (t q : Nat) (ht : (pc : Int) + off = (t : Int)) (hq : pc + 3 = q) {x y : Int32} (K1 : y ≤ x → sWP O Z M Q t ls (st) h bc bs) (K2 : ¬ y ≤ x → sWP O Z M Q q ls (st) h bc bs) : sWP O Z M Q pc ls (sI y :: sI x :: st) h bc bs := by
  subst hq
  rw [sWP_at hb hd (Or.inr rfl)]
  exact ⟨x, y, st, t, rfl, ht, K1, K2⟩

theorem w_icmp_gt (hb : (sm M).2.1 = cc) {off : Int} (hd : decode cc pc = .ok (.if_icmp .gt off, 3)) (t q : Nat) (ht : (pc : Int) + off = (t : Int)) (hq : pc + 3 = q) {x y : Int32} (K1 : y < x → sWP O Z M Q t ls (st) h bc bs) (K2 : ¬ y < x → sWP O Z M Q q ls (st) h bc bs) : sWP O Z M Q pc ls (sI y :: sI x :: st) h bc bs := by
  subst hq
  rw [sWP_at hb hd (Or.inr rfl)]
  exact ⟨x, y, st, t, rfl, ht, K1, K2⟩

theorem w_icmp_le (hb : (sm M).2.1 = cc) {off : Int} (hd : decode cc pc = .ok (.if_icmp .le off, 3)) (t q : Nat) (ht : (pc : Int) + off = (t : Int)) (hq : pc + 3 = q) {x y : Int32} (K1 : x ≤ y → sWP O Z M Q t ls (st) h bc bs) (K2 : ¬ x ≤ y → sWP O Z M Q q ls (st) h bc bs) : sWP O Z M Q pc ls (sI y :: sI x :: st) h bc bs := by
  subst hq
  rw [sWP_at hb hd (Or.inr rfl)]
  exact ⟨x, y, st, t, rfl, ht, K1, K2⟩

theorem w_ifnull (hb : (sm M).2.1 = cc) {off : Int} (hd : decode cc pc = .ok (.ifnull off, 3)) (t q : Nat) (ht : (pc : Int) + off = (t : Int)) (hq : pc + 3 = q) {r : Option Nat} (K1 : r = none → sWP O Z M Q t ls (st) h bc bs) (K2 : ¬ r = none → sWP O Z M Q q ls (st) h bc bs) : sWP O Z M Q pc ls (sR r :: st) h bc bs := by
  subst hq
  rw [sWP_at hb hd (Or.inr rfl)]
  exact ⟨r, st, t, rfl, ht, K1, K2⟩

theorem w_ifnonnull (hb : (sm M).2.1 = cc) {off : Int} (hd : decode cc pc = .ok (.ifnonnull off, 3)) (t q : Nat) (ht : (pc : Int) + off = (t : Int)) (hq : pc + 3 = q) {r : Option Nat} (K1 : ¬ r = none → sWP O Z M Q t ls (st) h bc bs) (K2 : r = none → sWP O Z M Q q ls (st) h bc bs) : sWP O Z M Q pc ls (sR r :: st) h bc bs := by
  subst hq
  rw [sWP_at hb hd (Or.inr rfl)]
  exact ⟨r, st, t, rfl, ht, K2, K1⟩

theorem w_geti (hb : (sm M).2.1 = cc) {idx : Nat} (hd : decode cc pc = .ok (.getfield idx, 3)) (q : Nat) (hq : pc + 3 = q) {c k a : Nat} (f : Nat) (hL : sLf (sm M).1.cls idx c k) (hB : sB (sT c k) = true) (hf : 100 * c + k = f) (hg : gk h a = c + 1) (K : sWP O Z M Q q ls (sI (gi h f a) :: st) h bc bs) : sWP O Z M Q pc ls (sR (some a) :: st) h bc bs := by
  subst hq
  rw [sWP_at hb hd (Or.inr rfl)]
  exact ⟨c, k, a, st, rfl, hL, hg, by subst hf; unfold sF; rw [if_pos hB]; exact K⟩

theorem w_getr (hb : (sm M).2.1 = cc) {idx : Nat} (hd : decode cc pc = .ok (.getfield idx, 3)) (q : Nat) (hq : pc + 3 = q) {c k a : Nat} (f : Nat) (hL : sLf (sm M).1.cls idx c k) (hB : sB (sT c k) = false) (hf : 100 * c + k = f) (hg : gk h a = c + 1) (K : sWP O Z M Q q ls (sR (gr h f a) :: st) h bc bs) : sWP O Z M Q pc ls (sR (some a) :: st) h bc bs := by
  subst hq
  rw [sWP_at hb hd (Or.inr rfl)]
  exact ⟨c, k, a, st, rfl, hL, hg, by subst hf; unfold sF; rw [if_neg (by rw [hB]; decide)]; exact K⟩

theorem w_puti (hb : (sm M).2.1 = cc) {idx : Nat} (hd : decode cc pc = .ok (.putfield idx, 3)) (q : Nat) (hq : pc + 3 = q) {c k a : Nat} {x : Int32} (f : Nat) (hL : sLp (sm M).1.cls (sm M).1.name idx c k) (hB : sT c k = .int) (hf : 100 * c + k = f) (hg : gk h a = c + 1) (K : sWP O Z M Q q ls (st) (wi h f a x) bc bs) : sWP O Z M Q pc ls (sI x :: sR (some a) :: st) h bc bs := by
  subst hq
  rw [sWP_at hb hd (Or.inr rfl)]
  exact ⟨c, k, a, sI x, st, rfl, hL, hg, Or.inl ⟨by rw [hB]; rfl, x, rfl, by rw [hB]; rfl, by rw [hB]; rfl, by subst hf; exact K⟩⟩

theorem w_putz (hb : (sm M).2.1 = cc) {idx : Nat} (hd : decode cc pc = .ok (.putfield idx, 3)) (q : Nat) (hq : pc + 3 = q) {c k a : Nat} {x : Int32} (f : Nat) (hL : sLp (sm M).1.cls (sm M).1.name idx c k) (hB : sT c k = .boolean) (hf : 100 * c + k = f) (hg : gk h a = c + 1) (hz : x = 0 ∨ x = 1) (K : sWP O Z M Q q ls (st) (wi h f a x) bc bs) : sWP O Z M Q pc ls (sI x :: sR (some a) :: st) h bc bs := by
  subst hq
  rw [sWP_at hb hd (Or.inr rfl)]
  exact ⟨c, k, a, sI x, st, rfl, hL, hg, Or.inl ⟨by rw [hB]; rfl, x, rfl, by rw [hB]; rcases hz with rfl | rfl <;> rfl, by rw [hB]; rcases hz with rfl | rfl <;> rfl, by subst hf; exact K⟩⟩

theorem sRfit {ty : FieldType} (h : (∃ z, ty = .object z) ∨ ∃ z, ty = .array z) (r : Option Nat) : narrow ty (va_rf r) = va_rf r ∧ fits ty (va_rf r) = true ∧ sB ty = false := by
  rcases h with ⟨z, rfl⟩ | ⟨z, rfl⟩ <;> cases r <;> exact ⟨rfl, rfl, rfl⟩

theorem w_putr (hb : (sm M).2.1 = cc) {idx : Nat} (hd : decode cc pc = .ok (.putfield idx, 3)) (q : Nat) (hq : pc + 3 = q) {c k a : Nat} {x : Option Nat} (f : Nat) (hL : sLp (sm M).1.cls (sm M).1.name idx c k) (hB : (∃ z, sT c k = .object z) ∨ ∃ z, sT c k = .array z) (hf : 100 * c + k = f) (hg : gk h a = c + 1) (K : sWP O Z M Q q ls (st) (wr h f a x) bc bs) : sWP O Z M Q pc ls (sR x :: sR (some a) :: st) h bc bs := by
  subst hq
  rw [sWP_at hb hd (Or.inr rfl)]
  exact ⟨c, k, a, sR x, st, rfl, hL, hg, Or.inr ⟨(sRfit hB x).2.2, x, rfl, (sRfit hB x).1, (sRfit hB x).2.1, by subst hf; exact K⟩⟩

theorem w_iaload (hb : (sm M).2.1 = cc)  (hd : decode cc pc = .ok (.iaload, 1)) (q : Nat) (hq : pc + 1 = q) {j : Int32} {a : Nat} (hg : gk h a = 20) (hi : vp_in j (gl h a)) (K : sWP O Z M Q q ls (sI (ga h a j.toNatClampNeg) :: st) h bc bs) : sWP O Z M Q pc ls (sI j :: sR (some a) :: st) h bc bs := by
  subst hq
  rw [sWP_at hb hd (Or.inr rfl)]
  exact ⟨j, a, st, rfl, Or.inl ⟨hg, hi, K⟩⟩

theorem w_sload (hb : (sm M).2.1 = cc) {a N : Nat} {xs : Nat → Int32} (hd : decode cc pc = .ok (.iaload, 1)) (q : Nat) (hq : pc + 1 = q) {j : Int32} (hi : vp_in j N) (K : sWP O (some (a, N, xs)) M Q q ls (sI (xs j.toNatClampNeg) :: st) h bc bs) : sWP O (some (a, N, xs)) M Q pc ls (sI j :: sR (some a) :: st) h bc bs := by
  subst hq
  rw [sWP_at hb hd (Or.inr rfl)]
  exact ⟨j, a, st, rfl, Or.inr ⟨N, xs, rfl, hi, K⟩⟩

theorem w_slen (hb : (sm M).2.1 = cc) {a N : Nat} {xs : Nat → Int32} (hd : decode cc pc = .ok (.arraylength, 1)) (q : Nat) (hq : pc + 1 = q) (K : sWP O (some (a, N, xs)) M Q q ls (sI (Int32.ofNat N) :: st) h bc bs) : sWP O (some (a, N, xs)) M Q pc ls (sR (some a) :: st) h bc bs := by
  subst hq
  rw [sWP_at hb hd (Or.inr rfl)]
  exact ⟨a, st, rfl, Or.inr ⟨N, xs, rfl, K⟩⟩

theorem w_baload (hb : (sm M).2.1 = cc)  (hd : decode cc pc = .ok (.baload, 1)) (q : Nat) (hq : pc + 1 = q) {j : Int32} {a : Nat} (hg : gk h a = 21) (hi : vp_in j (gl h a)) (K : sWP O Z M Q q ls (sI (ga h a j.toNatClampNeg) :: st) h bc bs) : sWP O Z M Q pc ls (sI j :: sR (some a) :: st) h bc bs := by
  subst hq
  rw [sWP_at hb hd (Or.inr rfl)]
  exact ⟨j, a, st, rfl, hg, hi, K⟩

theorem w_aaload (hb : (sm M).2.1 = cc)  (hd : decode cc pc = .ok (.aaload, 1)) (q : Nat) (hq : pc + 1 = q) {j : Int32} {a : Nat} (hg : 22 ≤ gk h a) (hi : vp_in j (gl h a)) (K : sWP O Z M Q q ls (sR (gq h a j.toNatClampNeg) :: st) h bc bs) : sWP O Z M Q pc ls (sI j :: sR (some a) :: st) h bc bs := by
  subst hq
  rw [sWP_at hb hd (Or.inr rfl)]
  exact ⟨j, a, st, rfl, hg, hi, K⟩

theorem w_iastore (hb : (sm M).2.1 = cc)  (hd : decode cc pc = .ok (.iastore, 1)) (q : Nat) (hq : pc + 1 = q) {j x : Int32} {a : Nat} (hg : gk h a = 20) (hi : vp_in j (gl h a)) (K : sWP O Z M Q q ls (st) (wa h a j.toNatClampNeg x) bc bs) : sWP O Z M Q pc ls (sI x :: sI j :: sR (some a) :: st) h bc bs := by
  subst hq
  rw [sWP_at hb hd (Or.inr rfl)]
  exact ⟨x, j, a, st, rfl, hg, hi, K⟩

theorem w_bastore (hb : (sm M).2.1 = cc)  (hd : decode cc pc = .ok (.bastore, 1)) (q : Nat) (hq : pc + 1 = q) {j x : Int32} {a : Nat} (hg : gk h a = 21) (hi : vp_in j (gl h a)) (hz : x = 0 ∨ x = 1) (K : sWP O Z M Q q ls (st) (wa h a j.toNatClampNeg x) bc bs) : sWP O Z M Q pc ls (sI x :: sI j :: sR (some a) :: st) h bc bs := by
  subst hq
  rw [sWP_at hb hd (Or.inr rfl)]
  exact ⟨x, j, a, st, rfl, hg, hi, by rcases hz with rfl | rfl <;> rfl, K⟩

theorem w_aastore (hb : (sm M).2.1 = cc)  (hd : decode cc pc = .ok (.aastore, 1)) (q : Nat) (hq : pc + 1 = q) {j : Int32} {r : Option Nat} {a : Nat} (hg : 22 ≤ gk h a) (hi : vp_in j (gl h a)) (hv : ∀ b, r = some b → gk h b = sAe (gk h a) + 1) (K : sWP O Z M Q q ls (st) (wq h a j.toNatClampNeg r) bc bs) : sWP O Z M Q pc ls (sR r :: sI j :: sR (some a) :: st) h bc bs := by
  subst hq
  rw [sWP_at hb hd (Or.inr rfl)]
  exact ⟨r, j, a, st, rfl, hg, hi, hv, K⟩

theorem w_alen (hb : (sm M).2.1 = cc)  (hd : decode cc pc = .ok (.arraylength, 1)) (q : Nat) (hq : pc + 1 = q) {a : Nat} (hg : 20 ≤ gk h a) (K : sWP O Z M Q q ls (sI (Int32.ofNat (gl h a)) :: st) h bc bs) : sWP O Z M Q pc ls (sR (some a) :: st) h bc bs := by
  subst hq
  rw [sWP_at hb hd (Or.inr rfl)]
  exact ⟨a, st, rfl, Or.inl ⟨hg, K⟩⟩

theorem w_newi (hb : (sm M).2.1 = cc)  (hd : decode cc pc = .ok (.newarray .int, 2)) (q : Nat) (hq : pc + 2 = q) {j : Int32} (N : Nat) (hj : ¬ j < 0) (hN : j.toNatClampNeg = N) (hm : N ≤ 100000) (hbc : 1 ≤ bc) (hbs : N ≤ bs) (K : ∀ y, gk h y = 0 → sWP O Z M Q q ls (sR (some y) :: st) (nw h y 20 N) (bc - 1) (bs - N)) : sWP O Z M Q pc ls (sI j :: st) h bc bs := by
  subst hq
  rw [sWP_at hb hd (Or.inr rfl)]
  exact ⟨20, j, N, st, rfl, Or.inl ⟨rfl, rfl⟩, hj, hN, hm, hbc, hbs, K⟩

theorem w_newz (hb : (sm M).2.1 = cc)  (hd : decode cc pc = .ok (.newarray .boolean, 2)) (q : Nat) (hq : pc + 2 = q) {j : Int32} (N : Nat) (hj : ¬ j < 0) (hN : j.toNatClampNeg = N) (hm : N ≤ 100000) (hbc : 1 ≤ bc) (hbs : N ≤ bs) (K : ∀ y, gk h y = 0 → sWP O Z M Q q ls (sR (some y) :: st) (nw h y 21 N) (bc - 1) (bs - N)) : sWP O Z M Q pc ls (sI j :: st) h bc bs := by
  subst hq
  rw [sWP_at hb hd (Or.inr rfl)]
  exact ⟨21, j, N, st, rfl, Or.inr ⟨rfl, rfl⟩, hj, hN, hm, hbc, hbs, K⟩

theorem w_newq (hb : (sm M).2.1 = cc) {idx : Nat} (hd : decode cc pc = .ok (.anewarray idx, 3)) (q : Nat) (hq : pc + 3 = q) {j : Int32} (k N : Nat) (hk : 22 ≤ k ∧ k ≤ 24) (hL : sLn (sm M).1.cls idx (sAe k)) (hj : ¬ j < 0) (hN : j.toNatClampNeg = N) (hm : N ≤ 100000) (hbc : 1 ≤ bc) (hbs : N ≤ bs) (K : ∀ y, gk h y = 0 → sWP O Z M Q q ls (sR (some y) :: st) (nw h y k N) (bc - 1) (bs - N)) : sWP O Z M Q pc ls (sI j :: st) h bc bs := by
  subst hq
  rw [sWP_at hb hd (Or.inr rfl)]
  exact ⟨sAe k, k, j, N, st, rfl, hk.1, hk.2, rfl, hL, hj, hN, hm, hbc, hbs, K⟩

theorem w_new (hb : (sm M).2.1 = cc) {idx : Nat} (hd : decode cc pc = .ok (.new idx, 3)) (q : Nat) (hq : pc + 3 = q) (k c N : Nat) (hk : c + 1 = k) (hL : sLn (sm M).1.cls idx c) (hN : sN c = N) (hbc : 1 ≤ bc) (hbs : N ≤ bs) (K : ∀ y, gk h y = 0 → sWP O Z M Q q ls (sR (some y) :: st) (nw h y k 0) (bc - 1) (bs - N)) : sWP O Z M Q pc ls st h bc bs := by
  subst hq
  rw [sWP_at hb hd (Or.inr rfl)]
  exact ⟨c, hL, hbc, by rw [hN]; exact hbs, by subst hk hN; exact K⟩

theorem w_cast (hb : (sm M).2.1 = cc) {idx : Nat} (hd : decode cc pc = .ok (.checkcast idx, 3)) (q : Nat) (hq : pc + 3 = q) {a : Nat} (hL : Cond.classLink (sm M).1.cls idx "[I" ∈ sW) (hg : gk h a = 20) (K : sWP O Z M Q q ls (sR (some a) :: st) h bc bs) : sWP O Z M Q pc ls (sR (some a) :: st) h bc bs := by
  subst hq
  rw [sWP_at hb hd (Or.inr rfl)]
  exact ⟨a, st, rfl, hL, hg, K⟩

theorem w_clone (hb : (sm M).2.1 = cc) {idx : Nat} (hd : decode cc pc = .ok (.invokevirtual idx, 3)) (q : Nat) (hq : pc + 3 = q) {a : Nat} (hL : sLk (sm M).1.cls idx) (hg : gk h a = 20) (hw : (st.map sw).sum ≤ 8) (hbc : 1 ≤ bc) (hbs : gl h a ≤ bs) (K : ∀ y, gk h y = 0 → sWP O Z M Q q ls (sR (some y) :: st) (wA (nw h y 20 (gl h a)) y (ga h a)) (bc - 1) (bs - gl h a)) : sWP O Z M Q pc ls (sR (some a) :: st) h bc bs := by
  subst hq
  rw [sWP_at hb hd (Or.inr rfl)]
  exact Or.inr ⟨a, st, rfl, hL, hg, hw, hbc, hbs, K⟩

theorem w_copy (hb : (sm M).2.1 = cc) {idx : Nat} (hd : decode cc pc = .ok (.invokestatic idx, 3)) (q : Nat) (hq : pc + 3 = q) {a b : Nat} {u v w : Int32} (hL : sLc (sm M).1.cls idx) (hg : gk h a = 20) (hg2 : gk h b = 20) (hw : (st.map sw).sum ≤ 8) (h1 : ¬ u < 0) (h2 : ¬ v < 0) (h3 : ¬ w < 0) (h4 : u.toNatClampNeg + w.toNatClampNeg ≤ gl h a) (h5 : v.toNatClampNeg + w.toNatClampNeg ≤ gl h b) (K : sWP O Z M Q q ls (st) (wA h b (va_cpy (ga h a) (ga h b) u.toNatClampNeg v.toNatClampNeg w.toNatClampNeg)) bc bs) : sWP O Z M Q pc ls (sI w :: sI v :: sR (some b) :: sI u :: sR (some a) :: st) h bc bs := by
  subst hq
  rw [sWP_at hb hd (Or.inr rfl)]
  exact Or.inr ⟨a, b, u, v, w, st, rfl, hL, hg, hg2, hw, h1, h2, h3, h4, h5, K⟩

theorem w_object (hb : (sm M).2.1 = cc) {idx : Nat} (hd : decode cc pc = .ok (.invokespecial idx, 3)) (q : Nat) (hq : pc + 3 = q) {a : Nat} (hL : sLo (sm M).1.cls idx) (hw : (st.map sw).sum ≤ 8) (K : sWP O Z M Q q ls (st) h bc bs) : sWP O Z M Q pc ls (sR (some a) :: st) h bc bs := by
  subst hq
  rw [sWP_at hb hd (Or.inr rfl)]
  exact Or.inr ⟨a, st, rfl, hL, hw, K⟩

theorem w_virtual (hb : (sm M).2.1 = cc) {idx : Nat} (hd : decode cc pc = .ok (.invokevirtual idx, 3)) (q : Nat) (hq : pc + 3 = q) {a c : Nat} (N k : Nat) (As stk : List sV) (hst : As.reverse ++ sR (some a) :: st = stk) (hk : As.length = k) (hA : As.all sset = true) (hL : sLv (sm M).1.cls idx N k c) (hg : gk h a = c + 1) (hw : (st.map sw).sum ≤ 8) {bc' bs' : Nat} {P : Option sV → hp → Prop} (C : O N (sR (some a) :: As) h bc' bs' P) (hbc : bc' ≤ bc) (hbs : bs' ≤ bs) (K : ∀ r h', P r h' → sWP O Z M Q q ls (r.toList ++ st) h' (bc - bc') (bs - bs')) : sWP O Z M Q pc ls stk h bc bs := by
  subst hq
  rw [sWP_at hb hd (Or.inr rfl)]
  exact Or.inl ⟨N, k, c, a, As, st, _, _, P, hst.symm, hk, hA, hL, hg, hw, hbc, hbs, C, K⟩

theorem w_static (hb : (sm M).2.1 = cc) {idx : Nat} (hd : decode cc pc = .ok (.invokestatic idx, 3)) (q : Nat) (hq : pc + 3 = q) (N k : Nat) (As stk : List sV) (hst : As.reverse ++ st = stk) (hk : As.length = k) (hA : As.all sset = true) (hL : sLs (sm M).1.cls idx N k) (hw : (st.map sw).sum ≤ 8) {bc' bs' : Nat} {P : Option sV → hp → Prop} (C : O N As h bc' bs' P) (hbc : bc' ≤ bc) (hbs : bs' ≤ bs) (K : ∀ r h', P r h' → sWP O Z M Q q ls (r.toList ++ st) h' (bc - bc') (bs - bs')) : sWP O Z M Q pc ls stk h bc bs := by
  subst hq
  rw [sWP_at hb hd (Or.inr rfl)]
  exact Or.inl ⟨N, k, As, st, _, _, P, hst.symm, hk, hA, hL, hw, hbc, hbs, C, K⟩

theorem w_special (hb : (sm M).2.1 = cc) {idx : Nat} (hd : decode cc pc = .ok (.invokespecial idx, 3)) (q : Nat) (hq : pc + 3 = q) {a : Nat} (N k : Nat) (As stk : List sV) (hst : As.reverse ++ sR (some a) :: st = stk) (hk : As.length = k) (hA : As.all sset = true) (hL : sLi (sm M).1.cls idx N k) (hw : (st.map sw).sum ≤ 8) {bc' bs' : Nat} {P : Option sV → hp → Prop} (C : O N (sR (some a) :: As) h bc' bs' P) (hbc : bc' ≤ bc) (hbs : bs' ≤ bs) (K : ∀ r h', P r h' → sWP O Z M Q q ls (r.toList ++ st) h' (bc - bc') (bs - bs')) : sWP O Z M Q pc ls stk h bc bs := by
  subst hq
  rw [sWP_at hb hd (Or.inr rfl)]
  exact Or.inl ⟨N, k, a, As, st, _, _, P, hst.symm, hk, hA, hL, hw, hbc, hbs, C, K⟩

theorem w_iret (hb : (sm M).2.1 = cc) (hd : decode cc pc = .ok (.ireturn, 1)) {x : Int32} (hr : (sm M).2.2.2 = some .int) (K : Q (some (sI x)) h) : sWP O Z M Q pc ls [sI x] h bc bs := by
  rw [sWP_at hb hd (Or.inr rfl)]
  exact ⟨x, .int, rfl, hr, rfl, K⟩

theorem w_zret (hb : (sm M).2.1 = cc) (hd : decode cc pc = .ok (.ireturn, 1)) {x : Int32} (hr : (sm M).2.2.2 = some .boolean) (hz : x = 0 ∨ x = 1) (K : Q (some (sI x)) h) : sWP O Z M Q pc ls [sI x] h bc bs := by
  rw [sWP_at hb hd (Or.inr rfl)]
  exact ⟨x, .boolean, rfl, hr, by rcases hz with rfl | rfl <;> rfl, K⟩

theorem w_aret (hb : (sm M).2.1 = cc) (hd : decode cc pc = .ok (.areturn, 1)) {r : Option Nat} (ty : FieldType) (hr : (sm M).2.2.2 = some ty) (hz : (∃ z, ty = .object z) ∨ ∃ z, ty = .array z) (K : Q (some (sR r)) h) : sWP O Z M Q pc ls [sR r] h bc bs := by
  rw [sWP_at hb hd (Or.inr rfl)]
  exact ⟨r, ty, rfl, hr, hz, K⟩

theorem w_vret (hb : (sm M).2.1 = cc) (hd : decode cc pc = .ok (.return_, 1)) (hr : (sm M).2.2.2 = none) (K : Q none h) : sWP O Z M Q pc ls [] h bc bs := by
  rw [sWP_at hb hd (Or.inr rfl)]
  exact ⟨rfl, hr, K⟩

theorem w_table (hb : (sm M).2.1 = cc) {dt lo hi : Int} {offs : Array Int} {len : Nat} (hd : decode cc pc = .ok (.tableswitch dt lo hi offs, len)) {x : Int32} (K1 : x.toInt < lo ∨ hi < x.toInt → ∃ t : Nat, (pc : Int) + dt = (t : Int) ∧ sWP O Z M Q t ls (st) h bc bs) (K2 : ¬ (x.toInt < lo ∨ hi < x.toInt) → ∃ (off : Int) (t : Nat), offs[(x.toInt - lo).toNat]? = some off ∧ (pc : Int) + off = (t : Int) ∧ sWP O Z M Q t ls (st) h bc bs) : sWP O Z M Q pc ls (sI x :: st) h bc bs := by
  rw [sWP_at hb hd (Or.inl rfl)]
  exact ⟨x, st, rfl, K1, K2⟩

theorem w_lookup (hb : (sm M).2.1 = cc) {dt : Int} {ps : Array (Int × Int)} {len : Nat} (hd : decode cc pc = .ok (.lookupswitch dt ps, len)) (hp : (ps.toList.zip (ps.toList.drop 1)).all (fun (a, next) => a.1 < next.1) = true) {x : Int32} (t : Nat) (ht : (pc : Int) + Op.lookupswitch.offset ps.toList dt x.toInt = (t : Int)) (K : sWP O Z M Q t ls (st) h bc bs) : sWP O Z M Q pc ls (sI x :: st) h bc bs := by
  rw [sWP_at hb hd (Or.inl rfl)]
  exact ⟨x, st, t, rfl, hp, ht, K⟩

end ROWS
