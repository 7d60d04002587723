/-! THE DOCUMENT'S ROUND as a function. zO: kind, name, row of an OUTCOME; zR: a READ; zT: a TRACE -/
abbrev zO : Type := Int32 × Int32 × List Int32
abbrev zR : Type := Nat × zO
abbrev zT : Type := List zR × zO
/-- what a round doesn't change: sources, how many rules, their kinds, strict, inputs; from nothing -/
abbrev zE : Type := (Nat → Option (List Int32)) × Nat × (Nat → Int32) × (Nat → Bool) × (Nat → List Nat) × Bool
/-- what it changes: traces, outcomes made, rings, the open rules (the latest first), worked, looked, stale -/
abbrev zQ : Type := (Nat → List zT) × (Nat → Option zO) × (Nat → Option (List Nat)) × List Nat × List Nat × Int32 × (Nat → Nat → Int32)
abbrev e_s (E : zE) : Nat → Option (List Int32) := E.1
abbrev e_n (E : zE) : Nat := E.2.1
abbrev e_k (E : zE) : Nat → Int32 := E.2.2.1
abbrev e_t (E : zE) : Nat → Bool := E.2.2.2.1
abbrev e_i (E : zE) : Nat → List Nat := E.2.2.2.2.1
abbrev e_f (E : zE) : Bool := E.2.2.2.2.2
abbrev q_t (R : zQ) : Nat → List zT := R.1
abbrev q_m (R : zQ) : Nat → Option zO := R.2.1
abbrev q_r (R : zQ) : Nat → Option (List Nat) := R.2.2.1
abbrev q_s (R : zQ) : List Nat := R.2.2.2.1
abbrev q_w (R : zQ) : List Nat := R.2.2.2.2.1
abbrev q_l (R : zQ) : Int32 := R.2.2.2.2.2.1
abbrev q_z (R : zQ) : Nat → Nat → Int32 := R.2.2.2.2.2.2
def zmin (l : List Nat) : Nat := match l with
  | [] => 0
  | a :: l => l.foldl (fun x y => if y < x then y else x) a
def zring (l : List Nat) : zO := (3, nI (zmin l), [])
/-- the failure of a rule that is hit -/
def zhit (R : zQ) (r : Nat) : zO := match q_r R r with
  | some l => zring l
  | none => (0, 0, [])
/-- the part of a row that v goes behind, and the rest -/
def zins (l : List Int32) (v : Int32) : List Int32 := l.take (l.length - (l.reverse.takeWhile (fun x => v < x)).length) ++ v :: l.drop (l.length - (l.reverse.takeWhile (fun x => v < x)).length)
def zsort (l : List Int32) : List Int32 := l.foldl zins []
def zadd (x : Int32) (l : List Int32) : Int32 := l.foldl (fun a b => a + b) x
/-- work under way: reads, row, sum, ended, kind and name of the failure that it ends with -/
abbrev zW : Type := List zR × List Int32 × Int32 × Bool × Int32 × Int32
def zw0 : zW := ([], [], 0, false, 0, 0)
def zmod (x : Int32) (n : Nat) : Nat := (x.toInt % (n : Int)).toNat
/-- the name of the next read -/
def znext (k : Int32) (ins : List Nat) (w : zW) : Option Nat :=
  if w.2.2.2.1 = true then none
  else if k < 5 then ins[w.1.length]?
  else match w.1 with
    | [] => ins[0]?
    | g :: _ => if ins.length = 1 then none else
        match (if k = 5 then g.2.2.2.take 1 else g.2.2.2)[w.1.length - 1]? with
        | none => none
        | some x => ins[1 + zmod x (ins.length - 1)]?
/-- a read is taken -/
def ztake (k : Int32) (t : Bool) (r : Nat) (w : zW) (nm : Nat) (o : zO) : zW :=
  if ¬ o.1 = 0 ∧ t = true then (w.1 ++ [(nm, o)], w.2.1, w.2.2.1, true, o.1, o.2.1)
  else if k = 2 then (w.1 ++ [(nm, o)], w.2.1, zadd w.2.2.1 o.2.2, w.2.2.2)
  else if k < 5 ∨ 0 < w.1.length then
    if 24 < w.2.1.length + o.2.2.length then (w.1 ++ [(nm, o)], w.2.1, w.2.2.1, true, 2, nI r)
    else (w.1 ++ [(nm, o)], w.2.1 ++ o.2.2, w.2.2.1, (w.2.2.2.1 || (k == 4 && 0 < o.2.2.length)), w.2.2.2.2)
  else (w.1 ++ [(nm, o)], w.2)
/-- what comes of it -/
def zend (k : Int32) (w : zW) : zO := if ¬ w.2.2.2.2.1 = 0 then (w.2.2.2.2.1, w.2.2.2.2.2, []) else if k = 2 then (0, 0, [w.2.2.1]) else if k = 3 then (0, 0, zsort w.2.1) else (0, 0, w.2.1)
abbrev zF : Type := zQ → Nat → zO × zQ
def q_push (R : zQ) (r : Nat) : zQ := (q_t R, q_m R, q_r R, r :: q_s R, q_w R, q_l R, q_z R)
def q_close (R : zQ) (r : Nat) (o : zO) : zQ := (q_t R, va_up (q_m R) r (some o), q_r R, (q_s R).tail, q_w R, q_l R, q_z R)
def q_note (R : zQ) (r : Nat) : zQ := (q_t R, q_m R, q_r R, q_s R, q_w R ++ [r], q_l R, q_z R)
def q_look (R : zQ) : zQ := (q_t R, q_m R, q_r R, q_s R, q_w R, q_l R + 1, q_z R)
def q_stale (R : zQ) (r k : Nat) (x : Int32) : zQ := (q_t R, q_m R, q_r R, q_s R, q_w R, q_l R, va_up (q_z R) r (va_up (q_z R r) k x))
def q_tr (R : zQ) (r : Nat) (l : List zT) : zQ := (va_up (q_t R) r l, q_m R, q_r R, q_s R, q_w R, q_l R, q_z R)
/-- the k-th comes to the front -/
def zfront (l : List zT) (k : Nat) : List zT := match l[k]? with
  | some t => t :: l.eraseIdx k
  | none => l
/-- one more is kept, at most four -/
def zkeep (l : List zT) (t : zT) : List zT := t :: l.take 3
def q_hit (R : zQ) (r : Nat) : zO × zQ :=
  (zring ((q_s R).takeWhile (fun x => x != r) ++ [r]), (q_t R, q_m R, (fun k => if k ∈ (q_s R).takeWhile (fun x => x != r) ++ [r] then some ((q_s R).takeWhile (fun x => x != r) ++ [r]) else q_r R k), q_s R, q_w R, q_l R, q_z R))
/-- the reads of a trace are gone over: -1 hit, -2 it fits, else the first that is another one -/
def zcmp (f : zF) (r : Nat) : List zR → Nat → zQ → Int32 × zQ
  | [], _, R => (-2, R)
  | g :: gs, i, R =>
    if (q_r (q_look (f R g.1).2) r).isSome = true then (-1, q_look (f R g.1).2)
    else if (f R g.1).1 = g.2 then zcmp f r gs (i + 1) (q_look (f R g.1).2)
    else (nI i, q_look (f R g.1).2)
/-- the traces of a rule are gone over -/
def zlook (f : zF) (r : Nat) : List zT → Nat → zQ → Option zO × zQ
  | [], _, R => (none, R)
  | t :: ts, k, R =>
    if (zcmp f r t.1 0 R).1 = -1 then (some (zhit (zcmp f r t.1 0 R).2 r), (zcmp f r t.1 0 R).2)
    else if (zcmp f r t.1 0 R).1 = -2 then (some t.2, q_tr (q_stale (zcmp f r t.1 0 R).2 r k (-2)) r (zfront (q_t (zcmp f r t.1 0 R).2 r) k))
    else zlook f r ts (k + 1) (q_stale (zcmp f r t.1 0 R).2 r k (zcmp f r t.1 0 R).1)
/-- a rule is worked: at most n reads more -/
def zwork (f : zF) (E : zE) (r : Nat) : Nat → zW → zQ → zO × zQ
  | 0, _, R => ((0, 0, []), R)
  | n + 1, w, R => match znext (e_k E r) (e_i E r) w with
    | none => (zend (e_k E r) w, if e_f E = true then R else q_tr R r (zkeep (q_t R r) (w.1, zend (e_k E r) w)))
    | some nm => if (q_r (f R nm).2 r).isSome = true then (zhit (f R nm).2 r, (f R nm).2) else zwork f E r n (ztake (e_k E r) (e_t E r) r w nm (f R nm).1) (f R nm).2
def zmake (f : zF) (E : zE) (R : zQ) (r : Nat) : zO × zQ :=
  match (if e_f E = true then (none, q_push R r) else zlook f r (q_t R r) 0 (q_push R r)) with
  | (some o, R2) => (o, q_close R2 r o)
  | (none, R2) => ((zwork f E r 30 zw0 (if e_f E = true then R2 else q_note R2 r)).1, q_close (zwork f E r 30 zw0 (if e_f E = true then R2 else q_note R2 r)).2 r (zwork f E r 30 zw0 (if e_f E = true then R2 else q_note R2 r)).1)
def zsrc (E : zE) (s : Nat) : zO := match e_s E s with
  | some l => (0, 0, l)
  | none => (1, nI s, [])
/-- the outcome of a name, at most d rules deeper -/
def zout (E : zE) : Nat → zF
  | 0, R, nm => if nm < 16 then (zsrc E nm, R) else if e_n E ≤ nm - 16 then ((4, nI nm, []), R) else match q_m R (nm - 16) with
    | some o => (o, R)
    | none => if nm - 16 ∈ q_s R then q_hit R (nm - 16) else ((0, 0, []), R)
  | d + 1, R, nm => if nm < 16 then (zsrc E nm, R) else if e_n E ≤ nm - 16 then ((4, nI nm, []), R) else match q_m R (nm - 16) with
    | some o => (o, R)
    | none => if nm - 16 ∈ q_s R then q_hit R (nm - 16) else zmake (zout E d) E R (nm - 16)
