-- bits (the first rows are the kit's BITS.to-paste)
def bt (x : Int32) (i : Nat) : Bool := x.toBitVec.getLsbD i
theorem b_ext {x y : Int32} (h : ∀ i, i < 32 → bt x i = bt y i) : x = y := Int32.toBitVec_inj.mp (BitVec.eq_of_getLsbD_eq (fun i hi => h i hi))
theorem b_or (x y : Int32) (i : Nat) : bt (x ||| y) i = (bt x i || bt y i) := by unfold bt; rw [Int32.toBitVec_or, BitVec.getLsbD_or]
theorem b_and (x y : Int32) (i : Nat) : bt (x &&& y) i = (bt x i && bt y i) := by unfold bt; rw [Int32.toBitVec_and, BitVec.getLsbD_and]
theorem b_big {x : Int32} {i : Nat} (h : 32 ≤ i) : bt x i = false := BitVec.getLsbD_of_ge _ _ h
theorem b_0 (i : Nat) : bt 0 i = false := BitVec.getLsbD_zero
theorem s_l : ∀ n, n < 32 → ((nI n &&& 31).toBitVec.smod 32).toNat = n := by decide +kernel
theorem b_shl (n : Nat) (hn : n < 32) (x : Int32) {i : Nat} (hi : i < 32) : bt (x <<< (nI n &&& 31)) i = (decide (n ≤ i) && bt x (i - n)) := by
  unfold bt
  rw [Int32.toBitVec_shiftLeft]
  show (x.toBitVec <<< ((nI n &&& 31).toBitVec.smod 32).toNat).getLsbD i = _
  rw [s_l n hn, BitVec.getLsbD_shiftLeft]
  rcases Nat.lt_or_ge i n with h | h
  · simp [h, Nat.not_le.mpr h]
  · simp [hi, h, Nat.not_lt.mpr h]
theorem b_sshr (n : Nat) (hn : n < 32) (x : Int32) {i : Nat} (hi : i < 32) : bt (x >>> (nI n &&& 31)) i = if n + i < 32 then bt x (n + i) else bt x 31 := by
  unfold bt
  rw [Int32.toBitVec_shiftRight]
  show (x.toBitVec.sshiftRight ((nI n &&& 31).toBitVec.smod 32).toNat).getLsbD i = _
  rw [s_l n hn, BitVec.getLsbD_sshiftRight, BitVec.msb_eq_getLsbD_last]
  simp [hi]
theorem b_1 : ∀ i, i < 32 → bt 1 i = decide (i = 0) := by decide +kernel
theorem b_one {x : Int32} {k : Nat} (hk : k < 32) : (x >>> (nI k &&& 31)) &&& 1 = 0 ↔ bt x k = false := by
  constructor
  · intro h
    have := congrArg (fun z => bt z 0) h
    simp only [b_and, b_0, b_1 0 (by decide), b_sshr k hk x (show 0 < 32 by decide)] at this
    simpa [hk] using this
  · intro h
    apply b_ext
    intro i hi
    rw [b_and, b_0, b_1 i hi]
    by_cases h0 : i = 0
    · subst h0
      rw [b_sshr k hk x (by decide)]
      simp [hk, h]
    · simp [h0]
theorem b_put {x : Int32} {j k : Nat} (hj : j < 32) (hk : k < 32) : bt (x ||| ((1 : Int32) <<< (nI j &&& 31))) k = (bt x k || decide (k = j)) := by
  rw [b_or, b_shl j hj 1 hk]
  by_cases h : j ≤ k
  · rw [b_1 _ (by omega)]
    simp only [h, decide_true, Bool.true_and]
    congr 1
    simp only [decide_eq_decide]
    omega
  · simp only [h, decide_false, Bool.false_and, Bool.or_false]
    rw [decide_eq_false (by omega)]
    simp
theorem zmin_fold (l : List Nat) : ∀ a, l.foldl (fun x y => if y < x then y else x) a ≤ a ∧ (∀ y ∈ l, l.foldl (fun x y => if y < x then y else x) a ≤ y) ∧ (l.foldl (fun x y => if y < x then y else x) a = a ∨ l.foldl (fun x y => if y < x then y else x) a ∈ l) := by
  induction l with
  | nil => intro a; simp
  | cons b l ih =>
    intro a
    rw [List.foldl_cons]
    obtain ⟨h1, h2, h3⟩ := ih (if b < a then b else a)
    have ha : (if b < a then b else a) ≤ a ∧ (if b < a then b else a) ≤ b := by split <;> omega
    refine ⟨by omega, fun y hy => ?_, ?_⟩
    · rcases List.mem_cons.mp hy with rfl | hy
      · omega
      · exact h2 y hy
    · rcases h3 with h3 | h3
      · by_cases hb : b < a
        · rw [if_pos hb] at h3
          right
          rw [if_pos hb, h3]
          exact List.mem_cons_self
        · rw [if_neg hb] at h3
          left
          rw [if_neg hb, h3]
      · right
        exact List.mem_cons_of_mem _ h3
theorem zmin_in {l : List Nat} (h : ¬ l = []) : zmin l ∈ l ∧ ∀ y ∈ l, zmin l ≤ y := by
  cases l with
  | nil => exact absurd rfl h
  | cons a l =>
    obtain ⟨h1, h2, h3⟩ := zmin_fold l a
    simp only [zmin]
    refine ⟨?_, fun y hy => ?_⟩
    · rcases h3 with h3 | h3
      · rw [h3]; exact List.mem_cons_self
      · exact List.mem_cons_of_mem _ h3
    · rcases List.mem_cons.mp hy with rfl | hy
      · exact h1
      · exact h2 y hy
theorem r_least {d : Nat} {h0 : hp} {m : Nat} {ad : Nat → Nat} {S : rS} {G : rG} {Q : Option sV → rS → rG → Prop} {x : Int32} {l : List Nat} (hB : rB l x) (hQ : Q (some (sI (nI (zmin l)))) S G) : rM (d + 1) h0 m ad 95 [sI x] S G Q := by
  refine rM_of (ls := [sI x, sU]) rfl (Nat.le_of_ble_eq_true rfl) rfl ?_
  refine bX7_least_0 ?_
  obtain ⟨⟨h1, h2⟩, h3⟩ := hB
  obtain ⟨z1, z2⟩ := zmin_in h1
  have hz := h2 _ z1
  have key : ∀ e j : Nat, j + e = zmin l → rWP d h0 m ad 95 Q 2 [sI x, sI (nI j)] [] S G := by
    intro e
    induction e with
    | zero =>
      intro j hj
      refine bX7_least_2 (fun _ => ?_) (fun z => absurd z1 ((h3 _ hz).mp (by rw [← show j = zmin l by omega]; exact z)))
      rw [show j = zmin l by omega]
      exact bX7_least_16 hQ
    | succ e ih =>
      intro j hj
      refine bX7_least_2 (fun z => absurd ((h3 j (by omega)).mpr (fun hm => by have := z2 j hm; omega)) z) (fun _ => ?_)
      refine bX7_least_10 ?_
      rw [nI_1]
      exact ih (j + 1) (by omega)
  exact key (zmin l) 0 (by omega)
theorem rF_at {G : rG} : ∀ (a : List (Nat × zP)) (f : Nat × zP) (b : List (Nat × zP)), rF G (a ++ f :: b) → rFr G b.length f := by
  intro a
  induction a with
  | nil => intro f b h; exact h.1
  | cons x a ih => intro f b h; exact ih f b h.2
/-- the bits of a list of rules -/
def zbits (l : List Nat) : Int32 := l.foldl (fun x j => x ||| ((1 : Int32) <<< (nI j &&& 31))) 0
theorem zbits_snoc (l : List Nat) (j : Nat) : zbits (l ++ [j]) = zbits l ||| ((1 : Int32) <<< (nI j &&& 31)) := by
  unfold zbits
  rw [List.foldl_append]
  rfl
theorem zbits_bt : ∀ (l : List Nat), (∀ j ∈ l, j < 24) → ∀ k, k < 32 → bt (zbits l) k = decide (k ∈ l) := by
  have key : ∀ (l : List Nat) (x : Int32), (∀ j ∈ l, j < 24) → ∀ k, k < 32 → bt (l.foldl (fun x j => x ||| ((1 : Int32) <<< (nI j &&& 31))) x) k = (bt x k || decide (k ∈ l)) := by
    intro l
    induction l with
    | nil => intro x _ k _; simp
    | cons a l ih =>
      intro x hl k hk
      rw [List.foldl_cons, ih _ (fun j hj => hl j (List.mem_cons_of_mem _ hj)) k hk, b_put (by have := hl a List.mem_cons_self; omega) hk]
      simp only [List.mem_cons, Bool.or_assoc]
      congr 1
      simp
  intro l hl k hk
  unfold zbits
  rw [key l 0 hl k hk, b_0]
  simp
theorem zbits_rB {l : List Nat} (h1 : ¬ l = []) (h2 : ∀ k ∈ l, k < 24) : rB l (zbits l) := by
  refine ⟨⟨h1, h2⟩, fun k hk => ?_⟩
  rw [b_one (by omega), zbits_bt l h2 k (by omega)]
  simp
def gring (G : rG) (l : List Nat) (n : Nat) (x : Int32) : rG := va_up (va_up G 26 (fun j => if j < n ∧ j ∈ l then 1 else G 26 j)) 23 (fun j => if j < n ∧ j ∈ l then x else G 23 j)
theorem gring_0 (G : rG) (l : List Nat) (x : Int32) : gring G l 0 x = G := by
  unfold gring
  simp only [Nat.not_lt_zero, false_and, if_false]
  rw [show (fun j => G 26 j) = G 26 from rfl, show (fun j => G 23 j) = G 23 from rfl, va_upe, va_upe]
theorem gring_no {G : rG} {l : List Nat} {n : Nat} {x : Int32} (h : n ∉ l) : gring G l (n + 1) x = gring G l n x := by
  unfold gring
  congr 1
  · congr 1
    funext j
    by_cases hj : j = n
    · subst hj; simp [h]
    · simp [show j < n + 1 ↔ j < n by omega]
  · funext j
    by_cases hj : j = n
    · subst hj; simp [h]
    · simp [show j < n + 1 ↔ j < n by omega]
theorem gring_yes {G : rG} {l : List Nat} {n : Nat} {x : Int32} (h : n ∈ l) : gup (gup (gring G l n x) 26 n 1) 23 n x = gring G l (n + 1) x := by
  funext k j
  unfold gring gup
  by_cases h23 : k = 23
  · subst h23
    simp only [va_up, upd, if_true]
    by_cases hj : j = n
    · subst hj; simp [h]
    · simp [hj, show j < n + 1 ↔ j < n by omega]
  · by_cases h26 : k = 26
    · subst h26
      simp only [va_up, upd, if_true, if_neg h23]
      by_cases hj : j = n
      · subst hj; simp [h]
      · simp [hj, show j < n + 1 ↔ j < n by omega]
    · simp only [va_up, if_neg h23, if_neg h26]
/-- isRing(r): the open rules from the top down to r are hit -/
theorem r_isRing {d : Nat} {h0 : hp} {m : Nat} {ad : Nat → Nat} {S : rS} {G : rG} {Q : Option sV → rS → rG → Prop} {fs : List (Nat × zP)} {r n : Nat} (hn : n ≤ 24) (hS6 : S 6 = nI n) (hS : S 32 = nI fs.length) (hF : rF G fs) (h24 : fs.length ≤ 24) (hlt : ∀ f ∈ fs, f.1 < n) (hr : r ∈ fs.map (fun f => f.1)) {l : List Nat} (hl : (fs.map (fun f => f.1)).takeWhile (fun x => x != r) ++ [r] = l) (hQ : Q none (va_up (va_up (va_up S 44 0) 45 3) 46 (nI (zmin l))) (gring G l n (zbits l))) : rM (d + 3) h0 m ad 94 [sR (some m), sI (nI r)] S G Q := by
  refine rM_of (ls := [sR (some m), sI (nI r), sU, sU]) rfl (Nat.le_of_ble_eq_true rfl) rfl ?_
  refine bX7_isRing_0 ?_
  rw [hS]
  have hrn : r < n := by
    obtain ⟨f, hf, rfl⟩ := List.mem_map.mp hr
    exact hlt f hf
  have hln : ∀ k ∈ l, k < n := by
    intro k hk
    rw [← hl] at hk
    rcases List.mem_append.mp hk with hk | hk
    · obtain ⟨f, hf, rfl⟩ := List.mem_map.mp ((List.takeWhile_sublist _).subset hk)
      exact hlt f hf
    · rw [List.mem_singleton.mp hk]
      exact hrn
  have hB : rB l (zbits l) := zbits_rB (by rw [← hl]; simp) (fun k hk => by have := hln k hk; omega)
  -- the second loop
  have loop2 : ∀ e k : Nat, k + e = n → rWP (d + 2) h0 m ad 94 Q 44 [sR (some m), sI (nI r), sI (zbits l), sI (nI k)] [] S (gring G l k (zbits l)) := by
    intro e
    induction e with
    | zero =>
      intro k hk
      refine bX7_isRing_44 (fun _ => ?_) (fun z => absurd (by rw [hS6]; exact nI_le (by omega) (by omega)) z)
      refine bX7_isRing_83 (r_least (Q := fun v S' G' => v = some (sI (nI (zmin l))) ∧ S' = S ∧ G' = gring G l k (zbits l)) hB ⟨rfl, rfl, rfl⟩) ?_
      rintro v S1 G1 ⟨rfl, rfl, rfl⟩
      refine bX7_isRing_89 (r_gotFailure (Q := fun v S' G' => v = none ∧ S' = va_up (va_up (va_up S1 44 0) 45 3) 46 (nI (zmin l)) ∧ G' = gring G l k (zbits l)) ⟨rfl, rfl, rfl⟩) ?_
      rintro v S2 G2 ⟨rfl, rfl, rfl⟩
      rw [show k = n by omega]
      exact bX7_isRing_92 hQ
    | succ e ih =>
      intro k hk
      refine bX7_isRing_44 (fun z => absurd z (by rw [hS6, nI_leI (by omega) (by omega)]; omega)) (fun _ => ?_)
      refine bX7_isRing_52 (fun z => ?_) (fun z => ?_)
      · have hm : k ∈ l := Classical.byContradiction fun hm => z ((hB.2 k (by omega)).mpr hm)
        refine bX7_isRing_63 (vin k rfl (by omega) (by decide)) ?_
        rw [nix k rfl (by omega), gring_yes hm]
        refine bX7_isRing_77 ?_
        rw [nI_1]
        exact ih (k + 1) (by omega)
      · have hm : k ∉ l := (hB.2 k (by omega)).mp z
        refine bX7_isRing_60 (bX7_isRing_77 ?_)
        rw [nI_1, ← gring_no hm]
        exact ih (k + 1) (by omega)
  -- the first loop
  have loop1 : ∀ (b a : List (Nat × zP)), fs = a ++ b → (∀ f ∈ a, f.1 ≠ r) → r ∈ b.map (fun f => f.1) → rWP (d + 2) h0 m ad 94 Q 9 [sR (some m), sI (nI r), sI (zbits (a.map (fun f => f.1))), sI (nI b.length - 1)] [] S G := by
    intro b
    induction b with
    | nil => intro a _ _ h; simp at h
    | cons f b ih =>
      intro a hab ha hrb
      have hfr := (rF_at a f b (by rw [← hab]; exact hF)).1
      have hbl : b.length < 24 := by
        rw [hab, List.length_append, List.length_cons] at h24
        omega
      have hff : f.1 < n := hlt f (by rw [hab]; exact List.mem_append_right _ List.mem_cons_self)
      rw [List.length_cons, nI_pred]
      refine bX7_isRing_9 (vin b.length rfl hbl (by decide)) (fun z => ?_) (fun z => ?_)
      · rw [nix b.length rfl (by omega), hfr, nI_eq (by omega) (by omega)] at z
        refine bX7_isRing_36 ?_
        have e1 : l = a.map (fun f => f.1) ++ [r] := by
          rw [← hl, hab, List.map_append, List.map_cons, z, List.takeWhile_append_of_pos (by
            intro x hx
            obtain ⟨g, hg, rfl⟩ := List.mem_map.mp hx
            simpa using ha g hg), List.takeWhile_cons]
          simp
        rw [← zbits_snoc, ← e1]
        have := loop2 n 0 (by omega)
        rw [gring_0] at this
        exact this
      · rw [nix b.length rfl (by omega), hfr, nI_eq (by omega) (by omega)] at z
        refine bX7_isRing_19 (vin b.length rfl hbl (by decide)) ?_
        rw [nix b.length rfl (by omega), hfr, ← zbits_snoc, show nI b.length + (-1) = nI b.length - 1 from (Int32.sub_eq_add_neg (nI b.length) 1).symm]
        have := ih (a ++ [f]) (by rw [hab]; simp) (by
          intro g hg
          rcases List.mem_append.mp hg with hg | hg
          · exact ha g hg
          · rw [List.mem_singleton.mp hg]; exact z) (by
          rw [List.map_cons] at hrb
          rcases List.mem_cons.mp hrb with h | h
          · exact absurd h.symm z
          · exact h)
        rw [List.map_append] at this
        exact this
  exact loop1 fs [] rfl (fun f hf => by cases hf) hr
