/-! THE DOCUMENT'S STATE between calls, and its calls -/
abbrev zB : Type := zE × zQ × Int32 × Option (zO × List Nat) × Int32 × Int32 × (Nat → Int32)
abbrev b_e (A : zB) : zE := A.1
abbrev b_q (A : zB) : zQ := A.2.1
/-- how often was worked before the latest make -/
abbrev b_w (A : zB) : Int32 := A.2.2.1
/-- the latest outcome and its ring -/
abbrev b_l (A : zB) : Option (zO × List Nat) := A.2.2.2.1
abbrev b_m (A : zB) : Int32 := A.2.2.2.2.1
/-- the latest finding, the findings -/
abbrev b_t (A : zB) : Int32 := A.2.2.2.2.2.1
abbrev b_f (A : zB) : Nat → Int32 := A.2.2.2.2.2.2
def zdec (x : Int32) (n : Nat) : Option Nat := if 0 ≤ x ∧ x < nI n then some x.toNatClampNeg else none
def b_find (A : zB) (k : Nat) : Int32 × zB := (-3, (b_e A, b_q A, b_w A, b_l A, b_m A, nI k, va_up (b_f A) k (b_f A k + 1)))
def b_src (A : zB) (s : Nat) (o : Option (List Int32)) : zB := ((va_up (e_s (b_e A)) s o, (b_e A).2), A.2)
def b_upd (A : zB) (n r : Nat) (k : Int32) (t : Bool) (ins : List Nat) : zB := ((e_s (b_e A), n, va_up (e_k (b_e A)) r k, va_up (e_t (b_e A)) r t, va_up (e_i (b_e A)) r ins, e_f (b_e A)), q_tr (b_q A) r [], A.2.2)
def o_source (A : zB) (s n : Int32) : Int32 × zB := match zdec s 16 with
  | none => (-1, A)
  | some s => if n < 0 then b_find A 3 else match zdec n 17 with
    | none => (-1, A)
    | some n => (nI n, b_src A s (some (List.replicate n 0)))
def o_set (A : zB) (s i v : Int32) : Int32 × zB := match zdec s 16 with
  | none => b_find A 2
  | some s => match e_s (b_e A) s with
    | none => b_find A 1
    | some l => match zdec i l.length with
      | none => b_find A 2
      | some i => (1, b_src A s (some (l.set i v)))
def o_miss (A : zB) (s : Int32) : Int32 × zB := match zdec s 16 with
  | none => (-1, A)
  | some s => match e_s (b_e A) s with
    | none => (0, A)
    | some _ => (1, b_src A s none)
def o_copy (A : zB) (s a t b n : Int32) : Int32 × zB := match zdec s 16, zdec t 16 with
  | some s, some t => match e_s (b_e A) s, e_s (b_e A) t with
    | some l, some l2 => match zdec a (l.length + 1), zdec b (l2.length + 1), zdec n 17 with
      | some a, some b, some n => if a + n ≤ l.length ∧ b + n ≤ l2.length then (nI n, b_src A t (some (l2.take b ++ (l.drop a).take n ++ l2.drop (b + n)))) else b_find A 4
      | _, _, _ => b_find A 4
    | _, _ => b_find A 1
  | _, _ => (-1, A)
def o_size (A : zB) (s : Int32) : Int32 × zB := match zdec s 16 with
  | none => b_find A 2
  | some s => match e_s (b_e A) s with
    | none => b_find A 1
    | some l => (nI l.length, A)
def o_told (A : zB) (s i : Int32) : Int32 × zB := match zdec s 16 with
  | none => (0, A)
  | some s => match e_s (b_e A) s with
    | none => (0, A)
    | some l => match zdec i l.length with
      | none => (0, A)
      | some i => (l.getD i 0, A)
def o_rule (A : zB) (k t : Int32) : Int32 × zB := if k < 1 ∨ 6 < k then (-1, A) else if e_n (b_e A) = 24 then (-2, A) else (nI (e_n (b_e A)), b_upd A (e_n (b_e A) + 1) (e_n (b_e A)) k (!(t == 0)) [])
def o_input (A : zB) (r nm : Int32) : Int32 × zB := match zdec r (e_n (b_e A)), zdec nm 40 with
  | some r, some nm => if (e_i (b_e A) r).length = 6 then (-2, A) else (nI ((e_i (b_e A) r).length + 1), b_upd A (e_n (b_e A)) r (e_k (b_e A) r) (e_t (b_e A) r) (e_i (b_e A) r ++ [nm]))
  | _, _ => (-1, A)
def o_turn (A : zB) (r i nm : Int32) : Int32 × zB := match zdec r (e_n (b_e A)) with
  | none => (-1, A)
  | some r => match zdec i (e_i (b_e A) r).length, zdec nm 40 with
    | some i, some nm => if (e_i (b_e A) r).getD i 0 = nm then (0, A) else (1, b_upd A (e_n (b_e A)) r (e_k (b_e A) r) (e_t (b_e A) r) ((e_i (b_e A) r).set i nm))
    | _, _ => (-1, A)
def o_become (A : zB) (r k t : Int32) : Int32 × zB := match zdec r (e_n (b_e A)) with
  | none => (-1, A)
  | some r => if k < 1 ∨ 6 < k then (-1, A) else (1, b_upd A (e_n (b_e A)) r k (!(t == 0)) (e_i (b_e A) r))
def o_forget (A : zB) (r : Int32) : Int32 × zB := match zdec r (e_n (b_e A)) with
  | none => (-1, A)
  | some r => (nI (q_t (b_q A) r).length, b_upd A (e_n (b_e A)) r (e_k (b_e A) r) (e_t (b_e A) r) (e_i (b_e A) r))
def o_of (A : zB) (r w : Int32) : Int32 × zB := match zdec w 10 with
  | none => (-1, A)
  | some w => match zdec r (e_n (b_e A)) with
    | none => b_find A 2
    | some r => (if w = 0 then e_k (b_e A) r else if w = 1 then (if e_t (b_e A) r = true then 1 else 0) else if w = 2 then nI (e_i (b_e A) r).length else if w = 3 then nI (q_t (b_q A) r).length else if w - 4 < (e_i (b_e A) r).length then nI ((e_i (b_e A) r).getD (w - 4) 0) else -1, A)
def o_trace (A : zB) (r k i : Int32) : Int32 × zB := match zdec r (e_n (b_e A)) with
  | none => (-1, A)
  | some r => match zdec k (q_t (b_q A) r).length with
    | none => (-1, A)
    | some k => if i = -1 then (nI ((q_t (b_q A) r).getD k zt0).1.length, A) else match zdec i ((q_t (b_q A) r).getD k zt0).1.length with
      | none => (-1, A)
      | some i => (nI (((q_t (b_q A) r).getD k zt0).1.getD i zr0).1, A)
def zrest (R : zQ) : zQ := (q_t R, fun _ => none, fun _ => none, [], q_w R, q_l R, q_z R)
def zbeg (R : zQ) : zQ := (q_t R, fun _ => none, fun _ => none, [], [], 0, fun _ _ => -1)
def e_fr (E : zE) (f : Bool) : zE := (e_s E, e_n E, e_k E, e_t E, e_i E, f)
def zans (o : zO) : Int32 := if o.1 = 0 then nI o.2.2.length else -10 - o.1
def o_run (A : zB) (E : zE) (R : zQ) (w mk : Int32) (r : Nat) : Int32 × zB := (zans (zmake (zout E 24) E R r).1, (E, zrest (zmake (zout E 24) E R r).2, w, some ((zmake (zout E 24) E R r).1, zrb (zmake (zout E 24) E R r).2 (zmake (zout E 24) E R r).1), mk, b_t A, b_f A))
def o_make (A : zB) (r : Int32) : Int32 × zB := match zdec r (e_n (b_e A)) with
  | none => (-1, A)
  | some r => o_run A (e_fr (b_e A) false) (zbeg (b_q A)) (b_w A + nI (q_w (b_q A)).length) (b_m A + 1) r
def o_anew (A : zB) (r : Int32) : Int32 × zB := match zdec r (e_n (b_e A)) with
  | none => (-1, A)
  | some r => o_run A (e_fr (b_e A) true) (b_q A) (b_w A) (b_m A) r
def o_outcome (A : zB) (w : Int32) : Int32 × zB := match b_l A with
  | none => (-1, A)
  | some p => (if w = 0 then nI p.1.2.2.length else if w = 1 then p.1.1 else if w = 2 then p.1.2.1 else -1, A)
def o_part (A : zB) (i : Int32) : Int32 × zB := match b_l A with
  | none => (0, A)
  | some p => match zdec i p.1.2.2.length with
    | none => (0, A)
    | some i => (p.1.2.2.getD i 0, A)
/-- the i-th of a ring, from k on -/
def zrk (l : List Nat) (i : Int32) : Nat → Nat → Int32
  | 0, _ => -1
  | f + 1, k => if k ∈ l then (if i = 0 then nI k else zrk l (i - 1) f (k + 1)) else zrk l i f (k + 1)
def o_ring (A : zB) (i : Int32) : Int32 × zB := (zrk ((b_l A).elim [] (fun p => p.2)) i 24 0, A)
def o_worked (A : zB) (i : Int32) : Int32 × zB := match zdec i (q_w (b_q A)).length with
  | none => (-1, A)
  | some i => (nI ((q_w (b_q A)).getD i 0), A)
def o_looked (A : zB) : Int32 × zB := (q_l (b_q A), A)
def o_stale (A : zB) (r k : Int32) : Int32 × zB := match zdec r (e_n (b_e A)), zdec k 4 with
  | some r, some k => (q_z (b_q A) r k, A)
  | _, _ => (-1, A)
def zkc (T : Nat → List zT) : Nat → Int32
  | 0 => 0
  | n + 1 => zkc T n + nI (T n).length
def o_count (A : zB) (w : Int32) : Int32 × zB := (if w = 0 then nI (e_n (b_e A)) else if w = 1 then b_m A else if w = 2 then b_w A + nI (q_w (b_q A)).length else if w = 3 then zkc (q_t (b_q A)) (e_n (b_e A)) else -1, A)
def o_found (A : zB) (w : Int32) : Int32 × zB := (if w = 0 then b_t A else match zdec w 5 with
  | none => -1
  | some w => b_f A w, A)
theorem zdec_some {x : Int32} {n s : Nat} (hn : n < 2 ^ 31) (h : zdec x n = some s) : s < n ∧ x = nI s := by
  unfold zdec at h
  split at h
  · next hx =>
    cases h
    have h1 : x = nI x.toNatClampNeg := by
      apply Int32.toInt_inj.mp
      rw [nI_toInt (by have := Int32.toInt_lt x; unfold Int32.toNatClampNeg; omega)]
      have := Int32.le_iff_toInt_le.mp hx.1
      simp only [Int32.toInt_zero] at this
      unfold Int32.toNatClampNeg
      omega
    refine ⟨?_, h1⟩
    have h2 := hx.2
    rw [h1, nI_ltI (by have := Int32.toInt_lt x; unfold Int32.toNatClampNeg; omega) hn] at h2
    exact h2
  · cases h
theorem zdec_nI {n s : Nat} (hn : n < 2 ^ 31) (h : s < n) : zdec (nI s) n = some s := by
  unfold zdec
  rw [if_pos ⟨nI_le (a := 0) (by omega) (by omega), by rw [nI_ltI (by omega) hn]; exact h⟩, nI_clamp (by omega)]
theorem zdec_none {x : Int32} {n : Nat} (h : zdec x n = none) : x < 0 ∨ nI n ≤ x := by
  unfold zdec at h
  split at h
  · cases h
  · next hx =>
    by_cases h0 : 0 ≤ x
    · right
      have : ¬ x < nI n := fun y => hx ⟨h0, y⟩
      simpa using this
    · left; simpa using h0
theorem zdec_no {x : Int32} {n : Nat} (h : x < 0 ∨ nI n ≤ x) : zdec x n = none := by
  unfold zdec
  rw [if_neg]
  rintro ⟨h1, h2⟩
  rcases h with h | h
  · exact absurd h1 (by simpa using h)
  · exact absurd h2 (by simpa using h)
/-- what always holds between calls -/
def zNI (E : zE) (R : zQ) : Prop := ∀ r, e_n E ≤ r → q_t R r = [] ∧ e_i E r = [] ∧ ∀ k, q_z R r k = -1
def zBok (A : zB) : Prop := zEok (b_e A) ∧ (∀ r, (q_t (b_q A) r).length ≤ 4 ∧ ∀ t ∈ q_t (b_q A) r, ztok t ∧ zrt t) ∧ (∀ x, q_m (b_q A) x = none) ∧ (∀ x, q_r (b_q A) x = none) ∧ q_s (b_q A) = [] ∧ ((q_w (b_q A)).length ≤ 24 ∧ ∀ x ∈ q_w (b_q A), x < 24) ∧ zNI (b_e A) (b_q A) ∧ ∀ p, b_l A = some p → zok p.1
