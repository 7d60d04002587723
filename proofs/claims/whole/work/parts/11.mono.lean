theorem sP_mono {O : sO} {Z : sZ} {M : Nat} {Q Q' : Option sV → hp → Prop} {X Y : sCf} (hX : ∀ pc ls st h bc bs, X pc ls st h bc bs → Y pc ls st h bc bs) (hQ : ∀ r h, Q r h → Q' r h) {pc : Nat} {ls st : List sV} {h : hp} {bc bs : Nat} {i : Instr} {n : Nat} (H : sP O Z M Q X pc ls st h bc bs i n) : sP O Z M Q' Y pc ls st h bc bs i n := by
  cases i <;> (dsimp only [sP] at H ⊢) <;> first
    | exact hX _ _ _ _ _ _ H
    | (obtain ⟨a1, a2, a3⟩ := H; exact ⟨a1, a2, hX _ _ _ _ _ _ a3⟩)
    | (obtain ⟨a1, a2, a3, a4⟩ := H; exact ⟨a1, a2, a3, hX _ _ _ _ _ _ a4⟩)
    | (obtain ⟨a1, a2, a3, a4, a5⟩ := H; exact ⟨a1, a2, a3, a4, hX _ _ _ _ _ _ a5⟩)
    | (obtain ⟨a1, a2, a3, a4, a5, a6⟩ := H; exact ⟨a1, a2, a3, a4, a5, hX _ _ _ _ _ _ a6⟩)
    | (obtain ⟨a1, a2, a3, a4, a5, a6, a7⟩ := H; exact ⟨a1, a2, a3, a4, a5, a6, hX _ _ _ _ _ _ a7⟩)
    | (obtain ⟨a1, a2, a3, a4, a5, a6, a7, a8⟩ := H; exact ⟨a1, a2, a3, a4, a5, a6, a7, hX _ _ _ _ _ _ a8⟩)
    | (obtain ⟨a1, a2, a3, a4, a5, a6, a7, a8, a9⟩ := H; exact ⟨a1, a2, a3, a4, a5, a6, a7, a8, hX _ _ _ _ _ _ a9⟩)
    | (obtain ⟨a1, a2, a3, a4, a5, a6, a7⟩ := H; exact ⟨a1, a2, a3, a4, a5, fun z => hX _ _ _ _ _ _ (a6 z), fun z => hX _ _ _ _ _ _ (a7 z)⟩)
    | (obtain ⟨a1, a2, a3, a4, a5, a6, a7, a8⟩ := H; exact ⟨a1, a2, a3, a4, a5, a6, fun z => hX _ _ _ _ _ _ (a7 z), fun z => hX _ _ _ _ _ _ (a8 z)⟩)
    | (obtain ⟨a1, a2, a3, a4, a5⟩ := H; exact ⟨a1, a2, a3, fun z => (a4 z).elim fun t q => ⟨t, q.1, hX _ _ _ _ _ _ q.2⟩, fun z => by obtain ⟨o, t, q1, q2, q3⟩ := a5 z; exact ⟨o, t, q1, q2, hX _ _ _ _ _ _ q3⟩⟩)
    | (obtain ⟨a1, a2, a3, a4, a5, a6, a7, a8, a9⟩ := H; refine ⟨a1, a2, a3, a4, a5, a6, a7, a8, ?_⟩; rcases a9 with ⟨z1, x, z2, z3, z4, z5⟩ | ⟨z1, x, z2, z3, z4, z5⟩; exact Or.inl ⟨z1, x, z2, z3, z4, hX _ _ _ _ _ _ z5⟩; exact Or.inr ⟨z1, x, z2, z3, z4, hX _ _ _ _ _ _ z5⟩)
    | (obtain ⟨a1, a2, a3, a4, a5⟩ := H; refine ⟨a1, a2, a3, a4, ?_⟩; rcases a5 with ⟨z1, z2, z3⟩ | ⟨z1, z2, z3, z4, z5⟩; exact Or.inl ⟨z1, z2, hX _ _ _ _ _ _ z3⟩; exact Or.inr ⟨z1, z2, z3, z4, hX _ _ _ _ _ _ z5⟩)
    | (obtain ⟨a1, a2, a3, a4⟩ := H; refine ⟨a1, a2, a3, ?_⟩; rcases a4 with ⟨z1, z2⟩ | ⟨z1, z2, z3, z4⟩; exact Or.inl ⟨z1, hX _ _ _ _ _ _ z2⟩; exact Or.inr ⟨z1, z2, z3, hX _ _ _ _ _ _ z4⟩)
    | (obtain ⟨a1, a2, a3, a4, a5, a6, a7, a8, a9, a10, a11, a12⟩ := H; exact ⟨a1, a2, a3, a4, a5, a6, a7, a8, a9, a10, a11, fun q z => hX _ _ _ _ _ _ (a12 q z)⟩)
    | (obtain ⟨a1, a2, a3, a4, a5, a6, a7, a8, a9, a10, a11, a12, a13, a14, a15, a16⟩ := H; exact ⟨a1, a2, a3, a4, a5, a6, a7, a8, a9, a10, a11, a12, a13, a14, a15, fun q z => hX _ _ _ _ _ _ (a16 q z)⟩)
    | (obtain ⟨a1, a2, a3, a4, a5⟩ := H; exact ⟨a1, a2, a3, a4, fun q z => hX _ _ _ _ _ _ (a5 q z)⟩)
    | (obtain ⟨a1, a2, a3, a4, a5⟩ := H; exact ⟨a1, a2, a3, a4, hQ _ _ a5⟩)
    | (obtain ⟨a1, a2, a3, a4, a5, a6⟩ := H; exact ⟨a1, a2, a3, a4, a5, hQ _ _ a6⟩)
    | (obtain ⟨a1, a2, a3⟩ := H; exact ⟨a1, a2, hQ _ _ a3⟩)
    | skip
  · rcases H with H | H
    · obtain ⟨a1, a2, a3, a4, a5, a6, a7, a8, a9, a10, a11, a12, a13, a14, a15, a16, a17⟩ := H
      exact Or.inl ⟨a1, a2, a3, a4, a5, a6, a7, a8, a9, a10, a11, a12, a13, a14, a15, a16, fun r h' z => hX _ _ _ _ _ _ (a17 r h' z)⟩
    · obtain ⟨a1, a2, a3, a4, a5, a6⟩ := H
      exact Or.inr ⟨a1, a2, a3, a4, a5, hX _ _ _ _ _ _ a6⟩
  · rcases H with H | H
    · obtain ⟨a1, a2, a3, a4, a5, a6, a7, a8, a9, a10, a11, a12, a13, a14, a15, a16⟩ := H
      exact Or.inl ⟨a1, a2, a3, a4, a5, a6, a7, a8, a9, a10, a11, a12, a13, a14, a15, fun r h' z => hX _ _ _ _ _ _ (a16 r h' z)⟩
    · obtain ⟨a1, a2, a3, a4, a5, a6, a7, a8, a9, a10, a11, a12, a13, a14, a15, a16, a17⟩ := H
      exact Or.inr ⟨a1, a2, a3, a4, a5, a6, a7, a8, a9, a10, a11, a12, a13, a14, a15, a16, hX _ _ _ _ _ _ a17⟩
  · rcases H with H | H
    · obtain ⟨a1, a2, a3, a4, a5, a6, a7, a8, a9, a10, a11, a12, a13, a14, a15, a16, a17, a18, a19⟩ := H
      exact Or.inl ⟨a1, a2, a3, a4, a5, a6, a7, a8, a9, a10, a11, a12, a13, a14, a15, a16, a17, a18, fun r h' z => hX _ _ _ _ _ _ (a19 r h' z)⟩
    · obtain ⟨a1, a2, a3, a4, a5, a6, a7, a8, a9⟩ := H
      exact Or.inr ⟨a1, a2, a3, a4, a5, a6, a7, a8, fun q z => hX _ _ _ _ _ _ (a9 q z)⟩
theorem sSt_mono {O : sO} {Z : sZ} {M : Nat} {Q Q' : Option sV → hp → Prop} {X Y : sCf} (hX : ∀ pc ls st h bc bs, X pc ls st h bc bs → Y pc ls st h bc bs) (hQ : ∀ r h, Q r h → Q' r h) {pc : Nat} {ls st : List sV} {h : hp} {bc bs : Nat} (H : sSt O Z M Q X pc ls st h bc bs) : sSt O Z M Q' Y pc ls st h bc bs := by
  obtain ⟨i, n, h1, h2, h3⟩ := H
  exact ⟨i, n, h1, h2, sP_mono hX hQ h3⟩
theorem sWP_fold {O : sO} {Z : sZ} {M : Nat} {Q : Option sV → hp → Prop} {pc : Nat} {ls st : List sV} {h : hp} {bc bs : Nat} (H : sSt O Z M Q (sWP O Z M Q) pc ls st h bc bs) : sWP O Z M Q pc ls st h bc bs := fun X hX => hX _ _ _ _ _ _ (sSt_mono (fun _ _ _ _ _ _ z => z X hX) (fun _ _ z => z) H)
theorem sWP_unfold {O : sO} {Z : sZ} {M : Nat} {Q : Option sV → hp → Prop} {pc : Nat} {ls st : List sV} {h : hp} {bc bs : Nat} (H : sWP O Z M Q pc ls st h bc bs) : sSt O Z M Q (sWP O Z M Q) pc ls st h bc bs := H (fun pc ls st h bc bs => sSt O Z M Q (sWP O Z M Q) pc ls st h bc bs) (fun _ _ _ _ _ _ z => sSt_mono (fun _ _ _ _ _ _ y => sWP_fold y) (fun _ _ y => y) z)
/-- at an instruction whose decoding is known -/
theorem sWP_at {O : sO} {Z : sZ} {M : Nat} {Q : Option sV → hp → Prop} {pc : Nat} {ls st : List sV} {h : hp} {bc bs : Nat} {cc : ByteArray} {i : Instr} {n : Nat} (hb : (sm M).2.1 = cc) (hd : decode cc pc = .ok (i, n)) (hn : slen i = 0 ∨ n = slen i) : sWP O Z M Q pc ls st h bc bs = sP O Z M Q (sWP O Z M Q) pc ls st h bc bs i n := by
  apply propext
  constructor
  · intro H
    obtain ⟨j, k, h1, -, h3⟩ := sWP_unfold H
    rw [hb, hd] at h1
    cases h1
    exact h3
  · intro H
    exact sWP_fold ⟨i, n, by rw [hb]; exact hd, hn, H⟩
theorem sWP_mono {O : sO} {Z : sZ} {M : Nat} {Q Q' : Option sV → hp → Prop} (hQ : ∀ r h, Q r h → Q' r h) {pc : Nat} {ls st : List sV} {h : hp} {bc bs : Nat} (H : sWP O Z M Q pc ls st h bc bs) : sWP O Z M Q' pc ls st h bc bs := H (sWP O Z M Q') (fun _ _ _ _ _ _ z => sWP_fold (sSt_mono (fun _ _ _ _ _ _ y => y) hQ z))
theorem sCall_mono {d M : Nat} {vs : List sV} {h : hp} {bc bs : Nat} {Q Q' : Option sV → hp → Prop} (hQ : ∀ r h, Q r h → Q' r h) (H : sCall d M vs h bc bs Q) : sCall d M vs h bc bs Q' := by
  cases d with
  | zero => exact H
  | succ d => exact ⟨H.1, H.2.1, sWP_mono hQ H.2.2⟩
