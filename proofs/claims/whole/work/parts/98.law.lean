/-! THE LAW: the class stands at B, the reference at A, beside one another in one heap -/
def LF (m : Nat) (ad : Nat → Nat) (a : Nat) : Prop := a = m ∨ ∃ k, rL k ≠ 0 ∧ a = ad k
def LJ (x m : Nat) (A B : zB) (h : hp) : Prop := ∃ ad S G D V, CS (LF m ad) h V h ∧ RS h m ad S G h ∧ cRs D B V ∧ restR A S G ∧ dX D = x
theorem LJ.x {x m : Nat} {A B : zB} {h : hp} (H : LJ x m A B h) : gk h x = 6 + 1 := by
  obtain ⟨ad, S, G, D, V, c, r, h1, h2, rfl⟩ := H
  exact c.k h1.1.1
theorem LJ.m {x m : Nat} {A B : zB} {h : hp} (H : LJ x m A B h) : gk h m = 7 + 1 := by
  obtain ⟨ad, S, G, D, V, c, r, h1, h2, e⟩ := H
  exact r.2.1
theorem RS.keep {h0 h h' : hp} {m : Nat} {ad : Nat → Nat} {S : rS} {G : rG} (R : RS h0 m ad S G h) (hs : ∀ a, LF m ad a → hsame h h' a) : RS h' m ad S G h' := by
  obtain ⟨r1, r2, r3, r4, r5⟩ := R
  have e := hs m (.inl rfl)
  refine ⟨r1, e.1.trans r2, fun k hk => ?_, fun k => (e.2.1 _).trans (r4 k), fun a _ _ => hsame.rf⟩
  have f := hs (ad k) (.inr ⟨k, hk, rfl⟩)
  obtain ⟨a1, a2, a3, a4⟩ := r3 k hk
  exact ⟨(e.2.2.1 _).trans a1, f.1.trans a2, f.2.2.2.1.trans a3, f.2.2.2.2.1.trans a4⟩
theorem RS.lv {h0 h : hp} {m : Nat} {ad : Nat → Nat} {S : rS} {G : rG} (R : RS h0 m ad S G h) {a : Nat} (ha : LF m ad a) : gk h a ≠ 0 := by
  rcases ha with rfl | ⟨k, hk, rfl⟩
  · rw [R.2.1]; decide
  · rw [(R.2.2.1 k hk).2.1]
    have := rK_ge k
    omega
theorem l_cls {A : zB} {x m d M bc bs : Nat} {h : hp} {p : Int32 × zB} {As : List sV} (H : LJ x m A A h) (C : ∀ (Fg : Nat → Prop) (V : kV) (D : cD) (Q : Option sV → kV → Prop), cRs D A V → cQ D p Q → cM d Fg h M (sR (some (dX D)) :: As) V bc bs Q) : sCall d M (sR (some x) :: As) h bc bs (fun r h' => r = some (sI p.1) ∧ LJ x m A p.2 h') := by
  obtain ⟨ad, S, G, D, V, c, r, h1, h2, rfl⟩ := H
  refine sCall_mono ?_ (C _ V D (fun r V2 => r = some (sI p.1) ∧ ∃ D2, dX D2 = dX D ∧ cRs D2 p.2 V2) h1 (fun V2 D2 e q => ⟨rfl, D2, e, q⟩) h c)
  rintro r' h' ⟨V', c', e, D2, e2, q⟩
  refine ⟨e, ad, S, G, D2, V', ?_, r.keep (fun a ha => (c'.2.2.2.2.2.2.2 a ha).2.1), q, h2, e2⟩
  exact c'.cg (fun a _ _ => hsame.rf) (fun a ha => c'.lv (.inr ha))
theorem l_ref {A : zB} {x m d M bc bs : Nat} {h : hp} {p : Int32 × zB} {As : List sV} (H : LJ x m A p.2 h) (C : ∀ (ad : Nat → Nat) (S : rS) (G : rG) (Q : Option sV → rS → rG → Prop), restR A S G → (∀ S' G', restR p.2 S' G' → Q (some (sI p.1)) S' G') → rM d h m ad M (sR (some m) :: As) S G Q) : sCall d M (sR (some m) :: As) h bc bs (fun r h' => r = some (sI p.1) ∧ LJ x m p.2 p.2 h') := by
  obtain ⟨ad, S, G, D, V, c, r, h1, h2, e⟩ := H
  refine sCall_mono ?_ (C ad S G (fun r S2 G2 => r = some (sI p.1) ∧ restR p.2 S2 G2) h2 (fun S' G' q => ⟨rfl, q⟩) h bc bs r)
  rintro r' h' ⟨S2, G2, R2, e3, q⟩
  refine ⟨e3, ad, S2, G2, D, V, ?_, R2.keep (fun a _ => hsame.rf), h1, q, e⟩
  refine c.cg (fun a ha _ => R2.2.2.2.2 a (fun z => ha (.inl z)) (fun k hk z => ha (.inr ⟨k, hk, z⟩))) (fun a ha => R2.lv ha)
theorem l_source {b L i x m : Nat} {xs : Nat → Int32} {Q : Option sV → hp → Prop} {h : hp} {bc bs : Nat} {A : zB} (hv : vp_in (nI i + 1) L ∧ vp_in (nI i + 2) L ∧ vp_in (nI i + 3) L ∧ vp_in (nI i + 4) L ∧ vp_in (nI i + 5) L) (hA : zBok A) (H : LJ x m A A h) (hbc : 300 ≤ bc) (hbs : 3000 ≤ bs) (K : ∀ A' h', zBok A' → LJ x m A' A' h' → ∀ bc' bs', bc - 300 ≤ bc' → bs - 3000 ≤ bs' → sWP (sCall 140) (some (b, L, xs)) 200 Q 871 [sR (some b), sR (some x), sR (some m), sI (nI i)] [] h' bc' bs') : sWP (sCall 140) (some (b, L, xs)) 200 Q 140 [sR (some b), sR (some x), sR (some m), sI (nI i)] [] h bc bs := by
  refine w_aload_n mb200 dL_law_140 141 rfl rfl ?_
  refine w_aload_n mb200 dL_law_141 142 rfl rfl ?_
  refine w_iload_n mb200 dL_law_142 143 rfl rfl ?_
  refine w_iconst mb200 dL_law_143 144 rfl 1 (by decide) ?_
  refine w_iadd mb200 dL_law_144 145 rfl ?_
  refine w_sload mb200 dL_law_145 146 rfl hv.1 ?_
  refine w_aload_n mb200 dL_law_146 147 rfl rfl ?_
  refine w_iload_n mb200 dL_law_147 148 rfl rfl ?_
  refine w_iconst mb200 dL_law_148 149 rfl 2 (by decide) ?_
  refine w_iadd mb200 dL_law_149 150 rfl ?_
  refine w_sload mb200 dL_law_150 151 rfl hv.2.1 ?_
  refine w_virtual (a := x) (st := []) mb200 dL_law_151 154 rfl 45 2 [sI (xs (nI i + 1).toNatClampNeg), sI (xs (nI i + 2).toNatClampNeg)] _ rfl rfl rfl lcL_13 H.x (Nat.le_of_ble_eq_true rfl) (l_cls (p := o_source A (xs (nI i + 1).toNatClampNeg) (xs (nI i + 2).toNatClampNeg)) H (fun Fg V D Q hR hQ => c_source (d := 131) hR (Nat.le_refl _) (Nat.le_refl _) hQ)) hbc hbs ?_
  rintro r h1 ⟨rfl, H1⟩
  refine w_aload_n mb200 dL_law_154 155 rfl rfl ?_
  refine w_aload_n mb200 dL_law_155 156 rfl rfl ?_
  refine w_iload_n mb200 dL_law_156 157 rfl rfl ?_
  refine w_iconst mb200 dL_law_157 158 rfl 1 (by decide) ?_
  refine w_iadd mb200 dL_law_158 159 rfl ?_
  refine w_sload mb200 dL_law_159 160 rfl hv.1 ?_
  refine w_aload_n mb200 dL_law_160 161 rfl rfl ?_
  refine w_iload_n mb200 dL_law_161 162 rfl rfl ?_
  refine w_iconst mb200 dL_law_162 163 rfl 2 (by decide) ?_
  refine w_iadd mb200 dL_law_163 164 rfl ?_
  refine w_sload mb200 dL_law_164 165 rfl hv.2.1 ?_
  refine w_virtual (a := m) (st := [sI (o_source A (xs (nI i + 1).toNatClampNeg) (xs (nI i + 2).toNatClampNeg)).1]) mb200 dL_law_165 168 rfl 77 2 [sI (xs (nI i + 1).toNatClampNeg), sI (xs (nI i + 2).toNatClampNeg)] _ rfl rfl rfl lcL_17 H1.m (Nat.le_of_ble_eq_true rfl) (l_ref (bc := 0) (bs := 0) (p := o_source A (xs (nI i + 1).toNatClampNeg) (xs (nI i + 2).toNatClampNeg)) H1 (fun ad S G Q hR hQ => r_source (d := 138) hA hR hQ)) (Nat.zero_le _) (Nat.zero_le _) ?_
  rintro r h2 ⟨rfl, H2⟩
  exact w_icmp_eq (st := []) mb200 dL_law_168 871 171 rfl rfl (fun _ => K _ _ (zBok_source hA) H2 _ _ (by omega) (by omega)) (fun y => absurd rfl y)
theorem l_set {b L i x m : Nat} {xs : Nat → Int32} {Q : Option sV → hp → Prop} {h : hp} {bc bs : Nat} {A : zB} (hv : vp_in (nI i + 1) L ∧ vp_in (nI i + 2) L ∧ vp_in (nI i + 3) L ∧ vp_in (nI i + 4) L ∧ vp_in (nI i + 5) L) (hA : zBok A) (H : LJ x m A A h) (hbc : 300 ≤ bc) (hbs : 3000 ≤ bs) (K : ∀ A' h', zBok A' → LJ x m A' A' h' → ∀ bc' bs', bc - 300 ≤ bc' → bs - 3000 ≤ bs' → sWP (sCall 140) (some (b, L, xs)) 200 Q 871 [sR (some b), sR (some x), sR (some m), sI (nI i)] [] h' bc' bs') : sWP (sCall 140) (some (b, L, xs)) 200 Q 173 [sR (some b), sR (some x), sR (some m), sI (nI i)] [] h bc bs := by
  refine w_aload_n mb200 dL_law_173 174 rfl rfl ?_
  refine w_aload_n mb200 dL_law_174 175 rfl rfl ?_
  refine w_iload_n mb200 dL_law_175 176 rfl rfl ?_
  refine w_iconst mb200 dL_law_176 177 rfl 1 (by decide) ?_
  refine w_iadd mb200 dL_law_177 178 rfl ?_
  refine w_sload mb200 dL_law_178 179 rfl hv.1 ?_
  refine w_aload_n mb200 dL_law_179 180 rfl rfl ?_
  refine w_iload_n mb200 dL_law_180 181 rfl rfl ?_
  refine w_iconst mb200 dL_law_181 182 rfl 2 (by decide) ?_
  refine w_iadd mb200 dL_law_182 183 rfl ?_
  refine w_sload mb200 dL_law_183 184 rfl hv.2.1 ?_
  refine w_aload_n mb200 dL_law_184 185 rfl rfl ?_
  refine w_iload_n mb200 dL_law_185 186 rfl rfl ?_
  refine w_iconst mb200 dL_law_186 187 rfl 3 (by decide) ?_
  refine w_iadd mb200 dL_law_187 188 rfl ?_
  refine w_sload mb200 dL_law_188 189 rfl hv.2.2.1 ?_
  refine w_virtual (a := x) (st := []) mb200 dL_law_189 192 rfl 46 3 [sI (xs (nI i + 1).toNatClampNeg), sI (xs (nI i + 2).toNatClampNeg), sI (xs (nI i + 3).toNatClampNeg)] _ rfl rfl rfl lcL_18 H.x (Nat.le_of_ble_eq_true rfl) (l_cls (p := o_set A (xs (nI i + 1).toNatClampNeg) (xs (nI i + 2).toNatClampNeg) (xs (nI i + 3).toNatClampNeg)) H (fun Fg V D Q hR hQ => c_set (d := 131) hA hR (Nat.le_refl _) (Nat.le_refl _) hQ)) hbc hbs ?_
  rintro r h1 ⟨rfl, H1⟩
  refine w_aload_n mb200 dL_law_192 193 rfl rfl ?_
  refine w_aload_n mb200 dL_law_193 194 rfl rfl ?_
  refine w_iload_n mb200 dL_law_194 195 rfl rfl ?_
  refine w_iconst mb200 dL_law_195 196 rfl 1 (by decide) ?_
  refine w_iadd mb200 dL_law_196 197 rfl ?_
  refine w_sload mb200 dL_law_197 198 rfl hv.1 ?_
  refine w_aload_n mb200 dL_law_198 199 rfl rfl ?_
  refine w_iload_n mb200 dL_law_199 200 rfl rfl ?_
  refine w_iconst mb200 dL_law_200 201 rfl 2 (by decide) ?_
  refine w_iadd mb200 dL_law_201 202 rfl ?_
  refine w_sload mb200 dL_law_202 203 rfl hv.2.1 ?_
  refine w_aload_n mb200 dL_law_203 204 rfl rfl ?_
  refine w_iload_n mb200 dL_law_204 205 rfl rfl ?_
  refine w_iconst mb200 dL_law_205 206 rfl 3 (by decide) ?_
  refine w_iadd mb200 dL_law_206 207 rfl ?_
  refine w_sload mb200 dL_law_207 208 rfl hv.2.2.1 ?_
  refine w_virtual (a := m) (st := [sI (o_set A (xs (nI i + 1).toNatClampNeg) (xs (nI i + 2).toNatClampNeg) (xs (nI i + 3).toNatClampNeg)).1]) mb200 dL_law_208 211 rfl 78 3 [sI (xs (nI i + 1).toNatClampNeg), sI (xs (nI i + 2).toNatClampNeg), sI (xs (nI i + 3).toNatClampNeg)] _ rfl rfl rfl lcL_22 H1.m (Nat.le_of_ble_eq_true rfl) (l_ref (bc := 0) (bs := 0) (p := o_set A (xs (nI i + 1).toNatClampNeg) (xs (nI i + 2).toNatClampNeg) (xs (nI i + 3).toNatClampNeg)) H1 (fun ad S G Q hR hQ => r_set (d := 138) hA hR hQ)) (Nat.zero_le _) (Nat.zero_le _) ?_
  rintro r h2 ⟨rfl, H2⟩
  exact w_icmp_eq (st := []) mb200 dL_law_211 871 214 rfl rfl (fun _ => K _ _ (zBok_set hA) H2 _ _ (by omega) (by omega)) (fun y => absurd rfl y)
theorem l_miss {b L i x m : Nat} {xs : Nat → Int32} {Q : Option sV → hp → Prop} {h : hp} {bc bs : Nat} {A : zB} (hv : vp_in (nI i + 1) L ∧ vp_in (nI i + 2) L ∧ vp_in (nI i + 3) L ∧ vp_in (nI i + 4) L ∧ vp_in (nI i + 5) L) (hA : zBok A) (H : LJ x m A A h) (hbc : 300 ≤ bc) (hbs : 3000 ≤ bs) (K : ∀ A' h', zBok A' → LJ x m A' A' h' → ∀ bc' bs', bc - 300 ≤ bc' → bs - 3000 ≤ bs' → sWP (sCall 140) (some (b, L, xs)) 200 Q 871 [sR (some b), sR (some x), sR (some m), sI (nI i)] [] h' bc' bs') : sWP (sCall 140) (some (b, L, xs)) 200 Q 216 [sR (some b), sR (some x), sR (some m), sI (nI i)] [] h bc bs := by
  refine w_aload_n mb200 dL_law_216 217 rfl rfl ?_
  refine w_aload_n mb200 dL_law_217 218 rfl rfl ?_
  refine w_iload_n mb200 dL_law_218 219 rfl rfl ?_
  refine w_iconst mb200 dL_law_219 220 rfl 1 (by decide) ?_
  refine w_iadd mb200 dL_law_220 221 rfl ?_
  refine w_sload mb200 dL_law_221 222 rfl hv.1 ?_
  refine w_virtual (a := x) (st := []) mb200 dL_law_222 225 rfl 47 1 [sI (xs (nI i + 1).toNatClampNeg)] _ rfl rfl rfl lcL_23 H.x (Nat.le_of_ble_eq_true rfl) (l_cls (p := o_miss A (xs (nI i + 1).toNatClampNeg)) H (fun Fg V D Q hR hQ => c_miss (d := 131) hR (Nat.le_refl _) (Nat.le_refl _) hQ)) hbc hbs ?_
  rintro r h1 ⟨rfl, H1⟩
  refine w_aload_n mb200 dL_law_225 226 rfl rfl ?_
  refine w_aload_n mb200 dL_law_226 227 rfl rfl ?_
  refine w_iload_n mb200 dL_law_227 228 rfl rfl ?_
  refine w_iconst mb200 dL_law_228 229 rfl 1 (by decide) ?_
  refine w_iadd mb200 dL_law_229 230 rfl ?_
  refine w_sload mb200 dL_law_230 231 rfl hv.1 ?_
  refine w_virtual (a := m) (st := [sI (o_miss A (xs (nI i + 1).toNatClampNeg)).1]) mb200 dL_law_231 234 rfl 79 1 [sI (xs (nI i + 1).toNatClampNeg)] _ rfl rfl rfl lcL_27 H1.m (Nat.le_of_ble_eq_true rfl) (l_ref (bc := 0) (bs := 0) (p := o_miss A (xs (nI i + 1).toNatClampNeg)) H1 (fun ad S G Q hR hQ => r_miss (d := 138) hA hR hQ)) (Nat.zero_le _) (Nat.zero_le _) ?_
  rintro r h2 ⟨rfl, H2⟩
  exact w_icmp_eq (st := []) mb200 dL_law_234 871 237 rfl rfl (fun _ => K _ _ (zBok_miss hA) H2 _ _ (by omega) (by omega)) (fun y => absurd rfl y)
theorem l_copy {b L i x m : Nat} {xs : Nat → Int32} {Q : Option sV → hp → Prop} {h : hp} {bc bs : Nat} {A : zB} (hv : vp_in (nI i + 1) L ∧ vp_in (nI i + 2) L ∧ vp_in (nI i + 3) L ∧ vp_in (nI i + 4) L ∧ vp_in (nI i + 5) L) (hA : zBok A) (H : LJ x m A A h) (hbc : 300 ≤ bc) (hbs : 3000 ≤ bs) (K : ∀ A' h', zBok A' → LJ x m A' A' h' → ∀ bc' bs', bc - 300 ≤ bc' → bs - 3000 ≤ bs' → sWP (sCall 140) (some (b, L, xs)) 200 Q 871 [sR (some b), sR (some x), sR (some m), sI (nI i)] [] h' bc' bs') : sWP (sCall 140) (some (b, L, xs)) 200 Q 239 [sR (some b), sR (some x), sR (some m), sI (nI i)] [] h bc bs := by
  refine w_aload_n mb200 dL_law_239 240 rfl rfl ?_
  refine w_aload_n mb200 dL_law_240 241 rfl rfl ?_
  refine w_iload_n mb200 dL_law_241 242 rfl rfl ?_
  refine w_iconst mb200 dL_law_242 243 rfl 1 (by decide) ?_
  refine w_iadd mb200 dL_law_243 244 rfl ?_
  refine w_sload mb200 dL_law_244 245 rfl hv.1 ?_
  refine w_aload_n mb200 dL_law_245 246 rfl rfl ?_
  refine w_iload_n mb200 dL_law_246 247 rfl rfl ?_
  refine w_iconst mb200 dL_law_247 248 rfl 2 (by decide) ?_
  refine w_iadd mb200 dL_law_248 249 rfl ?_
  refine w_sload mb200 dL_law_249 250 rfl hv.2.1 ?_
  refine w_aload_n mb200 dL_law_250 251 rfl rfl ?_
  refine w_iload_n mb200 dL_law_251 252 rfl rfl ?_
  refine w_iconst mb200 dL_law_252 253 rfl 3 (by decide) ?_
  refine w_iadd mb200 dL_law_253 254 rfl ?_
  refine w_sload mb200 dL_law_254 255 rfl hv.2.2.1 ?_
  refine w_aload_n mb200 dL_law_255 256 rfl rfl ?_
  refine w_iload_n mb200 dL_law_256 257 rfl rfl ?_
  refine w_iconst mb200 dL_law_257 258 rfl 4 (by decide) ?_
  refine w_iadd mb200 dL_law_258 259 rfl ?_
  refine w_sload mb200 dL_law_259 260 rfl hv.2.2.2.1 ?_
  refine w_aload_n mb200 dL_law_260 261 rfl rfl ?_
  refine w_iload_n mb200 dL_law_261 262 rfl rfl ?_
  refine w_iconst mb200 dL_law_262 263 rfl 5 (by decide) ?_
  refine w_iadd mb200 dL_law_263 264 rfl ?_
  refine w_sload mb200 dL_law_264 265 rfl hv.2.2.2.2 ?_
  refine w_virtual (a := x) (st := []) mb200 dL_law_265 268 rfl 48 5 [sI (xs (nI i + 1).toNatClampNeg), sI (xs (nI i + 2).toNatClampNeg), sI (xs (nI i + 3).toNatClampNeg), sI (xs (nI i + 4).toNatClampNeg), sI (xs (nI i + 5).toNatClampNeg)] _ rfl rfl rfl lcL_28 H.x (Nat.le_of_ble_eq_true rfl) (l_cls (p := o_copy A (xs (nI i + 1).toNatClampNeg) (xs (nI i + 2).toNatClampNeg) (xs (nI i + 3).toNatClampNeg) (xs (nI i + 4).toNatClampNeg) (xs (nI i + 5).toNatClampNeg)) H (fun Fg V D Q hR hQ => c_copy (d := 131) hA hR (Nat.le_refl _) (Nat.le_refl _) hQ)) hbc hbs ?_
  rintro r h1 ⟨rfl, H1⟩
  refine w_aload_n mb200 dL_law_268 269 rfl rfl ?_
  refine w_aload_n mb200 dL_law_269 270 rfl rfl ?_
  refine w_iload_n mb200 dL_law_270 271 rfl rfl ?_
  refine w_iconst mb200 dL_law_271 272 rfl 1 (by decide) ?_
  refine w_iadd mb200 dL_law_272 273 rfl ?_
  refine w_sload mb200 dL_law_273 274 rfl hv.1 ?_
  refine w_aload_n mb200 dL_law_274 275 rfl rfl ?_
  refine w_iload_n mb200 dL_law_275 276 rfl rfl ?_
  refine w_iconst mb200 dL_law_276 277 rfl 2 (by decide) ?_
  refine w_iadd mb200 dL_law_277 278 rfl ?_
  refine w_sload mb200 dL_law_278 279 rfl hv.2.1 ?_
  refine w_aload_n mb200 dL_law_279 280 rfl rfl ?_
  refine w_iload_n mb200 dL_law_280 281 rfl rfl ?_
  refine w_iconst mb200 dL_law_281 282 rfl 3 (by decide) ?_
  refine w_iadd mb200 dL_law_282 283 rfl ?_
  refine w_sload mb200 dL_law_283 284 rfl hv.2.2.1 ?_
  refine w_aload_n mb200 dL_law_284 285 rfl rfl ?_
  refine w_iload_n mb200 dL_law_285 286 rfl rfl ?_
  refine w_iconst mb200 dL_law_286 287 rfl 4 (by decide) ?_
  refine w_iadd mb200 dL_law_287 288 rfl ?_
  refine w_sload mb200 dL_law_288 289 rfl hv.2.2.2.1 ?_
  refine w_aload_n mb200 dL_law_289 290 rfl rfl ?_
  refine w_iload_n mb200 dL_law_290 291 rfl rfl ?_
  refine w_iconst mb200 dL_law_291 292 rfl 5 (by decide) ?_
  refine w_iadd mb200 dL_law_292 293 rfl ?_
  refine w_sload mb200 dL_law_293 294 rfl hv.2.2.2.2 ?_
  refine w_virtual (a := m) (st := [sI (o_copy A (xs (nI i + 1).toNatClampNeg) (xs (nI i + 2).toNatClampNeg) (xs (nI i + 3).toNatClampNeg) (xs (nI i + 4).toNatClampNeg) (xs (nI i + 5).toNatClampNeg)).1]) mb200 dL_law_294 297 rfl 80 5 [sI (xs (nI i + 1).toNatClampNeg), sI (xs (nI i + 2).toNatClampNeg), sI (xs (nI i + 3).toNatClampNeg), sI (xs (nI i + 4).toNatClampNeg), sI (xs (nI i + 5).toNatClampNeg)] _ rfl rfl rfl lcL_32 H1.m (Nat.le_of_ble_eq_true rfl) (l_ref (bc := 0) (bs := 0) (p := o_copy A (xs (nI i + 1).toNatClampNeg) (xs (nI i + 2).toNatClampNeg) (xs (nI i + 3).toNatClampNeg) (xs (nI i + 4).toNatClampNeg) (xs (nI i + 5).toNatClampNeg)) H1 (fun ad S G Q hR hQ => r_copy (d := 138) hA hR hQ)) (Nat.zero_le _) (Nat.zero_le _) ?_
  rintro r h2 ⟨rfl, H2⟩
  exact w_icmp_eq (st := []) mb200 dL_law_297 871 300 rfl rfl (fun _ => K _ _ (zBok_copy hA) H2 _ _ (by omega) (by omega)) (fun y => absurd rfl y)
theorem l_size {b L i x m : Nat} {xs : Nat → Int32} {Q : Option sV → hp → Prop} {h : hp} {bc bs : Nat} {A : zB} (hv : vp_in (nI i + 1) L ∧ vp_in (nI i + 2) L ∧ vp_in (nI i + 3) L ∧ vp_in (nI i + 4) L ∧ vp_in (nI i + 5) L) (hA : zBok A) (H : LJ x m A A h) (hbc : 300 ≤ bc) (hbs : 3000 ≤ bs) (K : ∀ A' h', zBok A' → LJ x m A' A' h' → ∀ bc' bs', bc - 300 ≤ bc' → bs - 3000 ≤ bs' → sWP (sCall 140) (some (b, L, xs)) 200 Q 871 [sR (some b), sR (some x), sR (some m), sI (nI i)] [] h' bc' bs') : sWP (sCall 140) (some (b, L, xs)) 200 Q 302 [sR (some b), sR (some x), sR (some m), sI (nI i)] [] h bc bs := by
  refine w_aload_n mb200 dL_law_302 303 rfl rfl ?_
  refine w_aload_n mb200 dL_law_303 304 rfl rfl ?_
  refine w_iload_n mb200 dL_law_304 305 rfl rfl ?_
  refine w_iconst mb200 dL_law_305 306 rfl 1 (by decide) ?_
  refine w_iadd mb200 dL_law_306 307 rfl ?_
  refine w_sload mb200 dL_law_307 308 rfl hv.1 ?_
  refine w_virtual (a := x) (st := []) mb200 dL_law_308 311 rfl 49 1 [sI (xs (nI i + 1).toNatClampNeg)] _ rfl rfl rfl lcL_33 H.x (Nat.le_of_ble_eq_true rfl) (l_cls (p := o_size A (xs (nI i + 1).toNatClampNeg)) H (fun Fg V D Q hR hQ => c_size (d := 131) hA hR hQ)) hbc hbs ?_
  rintro r h1 ⟨rfl, H1⟩
  refine w_aload_n mb200 dL_law_311 312 rfl rfl ?_
  refine w_aload_n mb200 dL_law_312 313 rfl rfl ?_
  refine w_iload_n mb200 dL_law_313 314 rfl rfl ?_
  refine w_iconst mb200 dL_law_314 315 rfl 1 (by decide) ?_
  refine w_iadd mb200 dL_law_315 316 rfl ?_
  refine w_sload mb200 dL_law_316 317 rfl hv.1 ?_
  refine w_virtual (a := m) (st := [sI (o_size A (xs (nI i + 1).toNatClampNeg)).1]) mb200 dL_law_317 320 rfl 81 1 [sI (xs (nI i + 1).toNatClampNeg)] _ rfl rfl rfl lcL_36 H1.m (Nat.le_of_ble_eq_true rfl) (l_ref (bc := 0) (bs := 0) (p := o_size A (xs (nI i + 1).toNatClampNeg)) H1 (fun ad S G Q hR hQ => r_size (d := 138) hA hR hQ)) (Nat.zero_le _) (Nat.zero_le _) ?_
  rintro r h2 ⟨rfl, H2⟩
  exact w_icmp_eq (st := []) mb200 dL_law_320 871 323 rfl rfl (fun _ => K _ _ (zBok_size hA) H2 _ _ (by omega) (by omega)) (fun y => absurd rfl y)
theorem l_told {b L i x m : Nat} {xs : Nat → Int32} {Q : Option sV → hp → Prop} {h : hp} {bc bs : Nat} {A : zB} (hv : vp_in (nI i + 1) L ∧ vp_in (nI i + 2) L ∧ vp_in (nI i + 3) L ∧ vp_in (nI i + 4) L ∧ vp_in (nI i + 5) L) (hA : zBok A) (H : LJ x m A A h) (hbc : 300 ≤ bc) (hbs : 3000 ≤ bs) (K : ∀ A' h', zBok A' → LJ x m A' A' h' → ∀ bc' bs', bc - 300 ≤ bc' → bs - 3000 ≤ bs' → sWP (sCall 140) (some (b, L, xs)) 200 Q 871 [sR (some b), sR (some x), sR (some m), sI (nI i)] [] h' bc' bs') : sWP (sCall 140) (some (b, L, xs)) 200 Q 325 [sR (some b), sR (some x), sR (some m), sI (nI i)] [] h bc bs := by
  refine w_aload_n mb200 dL_law_325 326 rfl rfl ?_
  refine w_aload_n mb200 dL_law_326 327 rfl rfl ?_
  refine w_iload_n mb200 dL_law_327 328 rfl rfl ?_
  refine w_iconst mb200 dL_law_328 329 rfl 1 (by decide) ?_
  refine w_iadd mb200 dL_law_329 330 rfl ?_
  refine w_sload mb200 dL_law_330 331 rfl hv.1 ?_
  refine w_aload_n mb200 dL_law_331 332 rfl rfl ?_
  refine w_iload_n mb200 dL_law_332 333 rfl rfl ?_
  refine w_iconst mb200 dL_law_333 334 rfl 2 (by decide) ?_
  refine w_iadd mb200 dL_law_334 335 rfl ?_
  refine w_sload mb200 dL_law_335 336 rfl hv.2.1 ?_
  refine w_virtual (a := x) (st := []) mb200 dL_law_336 339 rfl 50 2 [sI (xs (nI i + 1).toNatClampNeg), sI (xs (nI i + 2).toNatClampNeg)] _ rfl rfl rfl lcL_37 H.x (Nat.le_of_ble_eq_true rfl) (l_cls (p := o_told A (xs (nI i + 1).toNatClampNeg) (xs (nI i + 2).toNatClampNeg)) H (fun Fg V D Q hR hQ => c_told (d := 131) hA hR hQ)) hbc hbs ?_
  rintro r h1 ⟨rfl, H1⟩
  refine w_aload_n mb200 dL_law_339 340 rfl rfl ?_
  refine w_aload_n mb200 dL_law_340 341 rfl rfl ?_
  refine w_iload_n mb200 dL_law_341 342 rfl rfl ?_
  refine w_iconst mb200 dL_law_342 343 rfl 1 (by decide) ?_
  refine w_iadd mb200 dL_law_343 344 rfl ?_
  refine w_sload mb200 dL_law_344 345 rfl hv.1 ?_
  refine w_aload_n mb200 dL_law_345 346 rfl rfl ?_
  refine w_iload_n mb200 dL_law_346 347 rfl rfl ?_
  refine w_iconst mb200 dL_law_347 348 rfl 2 (by decide) ?_
  refine w_iadd mb200 dL_law_348 349 rfl ?_
  refine w_sload mb200 dL_law_349 350 rfl hv.2.1 ?_
  refine w_virtual (a := m) (st := [sI (o_told A (xs (nI i + 1).toNatClampNeg) (xs (nI i + 2).toNatClampNeg)).1]) mb200 dL_law_350 353 rfl 82 2 [sI (xs (nI i + 1).toNatClampNeg), sI (xs (nI i + 2).toNatClampNeg)] _ rfl rfl rfl lcL_40 H1.m (Nat.le_of_ble_eq_true rfl) (l_ref (bc := 0) (bs := 0) (p := o_told A (xs (nI i + 1).toNatClampNeg) (xs (nI i + 2).toNatClampNeg)) H1 (fun ad S G Q hR hQ => r_told (d := 138) hA hR hQ)) (Nat.zero_le _) (Nat.zero_le _) ?_
  rintro r h2 ⟨rfl, H2⟩
  exact w_icmp_eq (st := []) mb200 dL_law_353 871 356 rfl rfl (fun _ => K _ _ (zBok_told hA) H2 _ _ (by omega) (by omega)) (fun y => absurd rfl y)
theorem l_rule {b L i x m : Nat} {xs : Nat → Int32} {Q : Option sV → hp → Prop} {h : hp} {bc bs : Nat} {A : zB} (hv : vp_in (nI i + 1) L ∧ vp_in (nI i + 2) L ∧ vp_in (nI i + 3) L ∧ vp_in (nI i + 4) L ∧ vp_in (nI i + 5) L) (hA : zBok A) (H : LJ x m A A h) (hbc : 300 ≤ bc) (hbs : 3000 ≤ bs) (K : ∀ A' h', zBok A' → LJ x m A' A' h' → ∀ bc' bs', bc - 300 ≤ bc' → bs - 3000 ≤ bs' → sWP (sCall 140) (some (b, L, xs)) 200 Q 871 [sR (some b), sR (some x), sR (some m), sI (nI i)] [] h' bc' bs') : sWP (sCall 140) (some (b, L, xs)) 200 Q 358 [sR (some b), sR (some x), sR (some m), sI (nI i)] [] h bc bs := by
  refine w_aload_n mb200 dL_law_358 359 rfl rfl ?_
  refine w_aload_n mb200 dL_law_359 360 rfl rfl ?_
  refine w_iload_n mb200 dL_law_360 361 rfl rfl ?_
  refine w_iconst mb200 dL_law_361 362 rfl 1 (by decide) ?_
  refine w_iadd mb200 dL_law_362 363 rfl ?_
  refine w_sload mb200 dL_law_363 364 rfl hv.1 ?_
  refine w_aload_n mb200 dL_law_364 365 rfl rfl ?_
  refine w_iload_n mb200 dL_law_365 366 rfl rfl ?_
  refine w_iconst mb200 dL_law_366 367 rfl 2 (by decide) ?_
  refine w_iadd mb200 dL_law_367 368 rfl ?_
  refine w_sload mb200 dL_law_368 369 rfl hv.2.1 ?_
  refine w_if_eq mb200 dL_law_369 376 372 rfl rfl (fun z => ?_) (fun z => ?_)
  · skip
    refine w_iconst mb200 dL_law_376 377 rfl 0 (by decide) ?_
    refine w_virtual (a := x) (st := []) mb200 dL_law_377 380 rfl 51 2 [sI (xs (nI i + 1).toNatClampNeg), sI 0] _ rfl rfl rfl lcL_41 H.x (Nat.le_of_ble_eq_true rfl) (l_cls (p := o_rule A (xs (nI i + 1).toNatClampNeg) 0) H (fun Fg V D Q hR hQ => c_rule (d := 131) (Or.inl rfl) hA hR (Nat.le_refl _) (Nat.le_refl _) hQ)) hbc hbs ?_
    rintro r h1 ⟨rfl, H1⟩
    refine w_aload_n mb200 dL_law_380 381 rfl rfl ?_
    refine w_aload_n mb200 dL_law_381 382 rfl rfl ?_
    refine w_iload_n mb200 dL_law_382 383 rfl rfl ?_
    refine w_iconst mb200 dL_law_383 384 rfl 1 (by decide) ?_
    refine w_iadd mb200 dL_law_384 385 rfl ?_
    refine w_sload mb200 dL_law_385 386 rfl hv.1 ?_
    refine w_aload_n mb200 dL_law_386 387 rfl rfl ?_
    refine w_iload_n mb200 dL_law_387 388 rfl rfl ?_
    refine w_iconst mb200 dL_law_388 389 rfl 2 (by decide) ?_
    refine w_iadd mb200 dL_law_389 390 rfl ?_
    refine w_sload mb200 dL_law_390 391 rfl hv.2.1 ?_
    refine w_if_eq mb200 dL_law_391 398 394 rfl rfl (fun _ => ?_) (fun y => absurd z y)
    refine w_iconst mb200 dL_law_398 399 rfl 0 (by decide) ?_
    refine w_virtual (a := m) (st := [sI (o_rule A (xs (nI i + 1).toNatClampNeg) 0).1]) mb200 dL_law_399 402 rfl 83 2 [sI (xs (nI i + 1).toNatClampNeg), sI 0] _ rfl rfl rfl lcL_45 H1.m (Nat.le_of_ble_eq_true rfl) (l_ref (bc := 0) (bs := 0) (p := o_rule A (xs (nI i + 1).toNatClampNeg) 0) H1 (fun ad S G Q hR hQ => r_rule (d := 138) (Or.inl rfl) hA hR hQ)) (Nat.zero_le _) (Nat.zero_le _) ?_
    rintro r h2 ⟨rfl, H2⟩
    exact w_icmp_eq (st := []) mb200 dL_law_402 871 405 rfl rfl (fun _ => K _ _ (zBok_rule hA) H2 _ _ (by omega) (by omega)) (fun y => absurd rfl y)
  · skip
    refine w_iconst mb200 dL_law_372 373 rfl 1 (by decide) ?_
    refine w_goto mb200 dL_law_373 377 rfl ?_
    refine w_virtual (a := x) (st := []) mb200 dL_law_377 380 rfl 51 2 [sI (xs (nI i + 1).toNatClampNeg), sI 1] _ rfl rfl rfl lcL_41 H.x (Nat.le_of_ble_eq_true rfl) (l_cls (p := o_rule A (xs (nI i + 1).toNatClampNeg) 1) H (fun Fg V D Q hR hQ => c_rule (d := 131) (Or.inr rfl) hA hR (Nat.le_refl _) (Nat.le_refl _) hQ)) hbc hbs ?_
    rintro r h1 ⟨rfl, H1⟩
    refine w_aload_n mb200 dL_law_380 381 rfl rfl ?_
    refine w_aload_n mb200 dL_law_381 382 rfl rfl ?_
    refine w_iload_n mb200 dL_law_382 383 rfl rfl ?_
    refine w_iconst mb200 dL_law_383 384 rfl 1 (by decide) ?_
    refine w_iadd mb200 dL_law_384 385 rfl ?_
    refine w_sload mb200 dL_law_385 386 rfl hv.1 ?_
    refine w_aload_n mb200 dL_law_386 387 rfl rfl ?_
    refine w_iload_n mb200 dL_law_387 388 rfl rfl ?_
    refine w_iconst mb200 dL_law_388 389 rfl 2 (by decide) ?_
    refine w_iadd mb200 dL_law_389 390 rfl ?_
    refine w_sload mb200 dL_law_390 391 rfl hv.2.1 ?_
    refine w_if_eq mb200 dL_law_391 398 394 rfl rfl (fun y => absurd y z) (fun _ => ?_)
    refine w_iconst mb200 dL_law_394 395 rfl 1 (by decide) ?_
    refine w_goto mb200 dL_law_395 399 rfl ?_
    refine w_virtual (a := m) (st := [sI (o_rule A (xs (nI i + 1).toNatClampNeg) 1).1]) mb200 dL_law_399 402 rfl 83 2 [sI (xs (nI i + 1).toNatClampNeg), sI 1] _ rfl rfl rfl lcL_45 H1.m (Nat.le_of_ble_eq_true rfl) (l_ref (bc := 0) (bs := 0) (p := o_rule A (xs (nI i + 1).toNatClampNeg) 1) H1 (fun ad S G Q hR hQ => r_rule (d := 138) (Or.inr rfl) hA hR hQ)) (Nat.zero_le _) (Nat.zero_le _) ?_
    rintro r h2 ⟨rfl, H2⟩
    exact w_icmp_eq (st := []) mb200 dL_law_402 871 405 rfl rfl (fun _ => K _ _ (zBok_rule hA) H2 _ _ (by omega) (by omega)) (fun y => absurd rfl y)
theorem l_input {b L i x m : Nat} {xs : Nat → Int32} {Q : Option sV → hp → Prop} {h : hp} {bc bs : Nat} {A : zB} (hv : vp_in (nI i + 1) L ∧ vp_in (nI i + 2) L ∧ vp_in (nI i + 3) L ∧ vp_in (nI i + 4) L ∧ vp_in (nI i + 5) L) (hA : zBok A) (H : LJ x m A A h) (hbc : 300 ≤ bc) (hbs : 3000 ≤ bs) (K : ∀ A' h', zBok A' → LJ x m A' A' h' → ∀ bc' bs', bc - 300 ≤ bc' → bs - 3000 ≤ bs' → sWP (sCall 140) (some (b, L, xs)) 200 Q 871 [sR (some b), sR (some x), sR (some m), sI (nI i)] [] h' bc' bs') : sWP (sCall 140) (some (b, L, xs)) 200 Q 407 [sR (some b), sR (some x), sR (some m), sI (nI i)] [] h bc bs := by
  refine w_aload_n mb200 dL_law_407 408 rfl rfl ?_
  refine w_aload_n mb200 dL_law_408 409 rfl rfl ?_
  refine w_iload_n mb200 dL_law_409 410 rfl rfl ?_
  refine w_iconst mb200 dL_law_410 411 rfl 1 (by decide) ?_
  refine w_iadd mb200 dL_law_411 412 rfl ?_
  refine w_sload mb200 dL_law_412 413 rfl hv.1 ?_
  refine w_aload_n mb200 dL_law_413 414 rfl rfl ?_
  refine w_iload_n mb200 dL_law_414 415 rfl rfl ?_
  refine w_iconst mb200 dL_law_415 416 rfl 2 (by decide) ?_
  refine w_iadd mb200 dL_law_416 417 rfl ?_
  refine w_sload mb200 dL_law_417 418 rfl hv.2.1 ?_
  refine w_virtual (a := x) (st := []) mb200 dL_law_418 421 rfl 52 2 [sI (xs (nI i + 1).toNatClampNeg), sI (xs (nI i + 2).toNatClampNeg)] _ rfl rfl rfl lcL_46 H.x (Nat.le_of_ble_eq_true rfl) (l_cls (p := o_input A (xs (nI i + 1).toNatClampNeg) (xs (nI i + 2).toNatClampNeg)) H (fun Fg V D Q hR hQ => c_input (d := 131) hA hR hQ)) hbc hbs ?_
  rintro r h1 ⟨rfl, H1⟩
  refine w_aload_n mb200 dL_law_421 422 rfl rfl ?_
  refine w_aload_n mb200 dL_law_422 423 rfl rfl ?_
  refine w_iload_n mb200 dL_law_423 424 rfl rfl ?_
  refine w_iconst mb200 dL_law_424 425 rfl 1 (by decide) ?_
  refine w_iadd mb200 dL_law_425 426 rfl ?_
  refine w_sload mb200 dL_law_426 427 rfl hv.1 ?_
  refine w_aload_n mb200 dL_law_427 428 rfl rfl ?_
  refine w_iload_n mb200 dL_law_428 429 rfl rfl ?_
  refine w_iconst mb200 dL_law_429 430 rfl 2 (by decide) ?_
  refine w_iadd mb200 dL_law_430 431 rfl ?_
  refine w_sload mb200 dL_law_431 432 rfl hv.2.1 ?_
  refine w_virtual (a := m) (st := [sI (o_input A (xs (nI i + 1).toNatClampNeg) (xs (nI i + 2).toNatClampNeg)).1]) mb200 dL_law_432 435 rfl 84 2 [sI (xs (nI i + 1).toNatClampNeg), sI (xs (nI i + 2).toNatClampNeg)] _ rfl rfl rfl lcL_49 H1.m (Nat.le_of_ble_eq_true rfl) (l_ref (bc := 0) (bs := 0) (p := o_input A (xs (nI i + 1).toNatClampNeg) (xs (nI i + 2).toNatClampNeg)) H1 (fun ad S G Q hR hQ => r_input (d := 138) hA hR hQ)) (Nat.zero_le _) (Nat.zero_le _) ?_
  rintro r h2 ⟨rfl, H2⟩
  exact w_icmp_eq (st := []) mb200 dL_law_435 871 438 rfl rfl (fun _ => K _ _ (zBok_input hA) H2 _ _ (by omega) (by omega)) (fun y => absurd rfl y)
theorem l_turn {b L i x m : Nat} {xs : Nat → Int32} {Q : Option sV → hp → Prop} {h : hp} {bc bs : Nat} {A : zB} (hv : vp_in (nI i + 1) L ∧ vp_in (nI i + 2) L ∧ vp_in (nI i + 3) L ∧ vp_in (nI i + 4) L ∧ vp_in (nI i + 5) L) (hA : zBok A) (H : LJ x m A A h) (hbc : 300 ≤ bc) (hbs : 3000 ≤ bs) (K : ∀ A' h', zBok A' → LJ x m A' A' h' → ∀ bc' bs', bc - 300 ≤ bc' → bs - 3000 ≤ bs' → sWP (sCall 140) (some (b, L, xs)) 200 Q 871 [sR (some b), sR (some x), sR (some m), sI (nI i)] [] h' bc' bs') : sWP (sCall 140) (some (b, L, xs)) 200 Q 440 [sR (some b), sR (some x), sR (some m), sI (nI i)] [] h bc bs := by
  refine w_aload_n mb200 dL_law_440 441 rfl rfl ?_
  refine w_aload_n mb200 dL_law_441 442 rfl rfl ?_
  refine w_iload_n mb200 dL_law_442 443 rfl rfl ?_
  refine w_iconst mb200 dL_law_443 444 rfl 1 (by decide) ?_
  refine w_iadd mb200 dL_law_444 445 rfl ?_
  refine w_sload mb200 dL_law_445 446 rfl hv.1 ?_
  refine w_aload_n mb200 dL_law_446 447 rfl rfl ?_
  refine w_iload_n mb200 dL_law_447 448 rfl rfl ?_
  refine w_iconst mb200 dL_law_448 449 rfl 2 (by decide) ?_
  refine w_iadd mb200 dL_law_449 450 rfl ?_
  refine w_sload mb200 dL_law_450 451 rfl hv.2.1 ?_
  refine w_aload_n mb200 dL_law_451 452 rfl rfl ?_
  refine w_iload_n mb200 dL_law_452 453 rfl rfl ?_
  refine w_iconst mb200 dL_law_453 454 rfl 3 (by decide) ?_
  refine w_iadd mb200 dL_law_454 455 rfl ?_
  refine w_sload mb200 dL_law_455 456 rfl hv.2.2.1 ?_
  refine w_virtual (a := x) (st := []) mb200 dL_law_456 459 rfl 53 3 [sI (xs (nI i + 1).toNatClampNeg), sI (xs (nI i + 2).toNatClampNeg), sI (xs (nI i + 3).toNatClampNeg)] _ rfl rfl rfl lcL_50 H.x (Nat.le_of_ble_eq_true rfl) (l_cls (p := o_turn A (xs (nI i + 1).toNatClampNeg) (xs (nI i + 2).toNatClampNeg) (xs (nI i + 3).toNatClampNeg)) H (fun Fg V D Q hR hQ => c_turn (d := 131) hA hR hQ)) hbc hbs ?_
  rintro r h1 ⟨rfl, H1⟩
  refine w_aload_n mb200 dL_law_459 460 rfl rfl ?_
  refine w_aload_n mb200 dL_law_460 461 rfl rfl ?_
  refine w_iload_n mb200 dL_law_461 462 rfl rfl ?_
  refine w_iconst mb200 dL_law_462 463 rfl 1 (by decide) ?_
  refine w_iadd mb200 dL_law_463 464 rfl ?_
  refine w_sload mb200 dL_law_464 465 rfl hv.1 ?_
  refine w_aload_n mb200 dL_law_465 466 rfl rfl ?_
  refine w_iload_n mb200 dL_law_466 467 rfl rfl ?_
  refine w_iconst mb200 dL_law_467 468 rfl 2 (by decide) ?_
  refine w_iadd mb200 dL_law_468 469 rfl ?_
  refine w_sload mb200 dL_law_469 470 rfl hv.2.1 ?_
  refine w_aload_n mb200 dL_law_470 471 rfl rfl ?_
  refine w_iload_n mb200 dL_law_471 472 rfl rfl ?_
  refine w_iconst mb200 dL_law_472 473 rfl 3 (by decide) ?_
  refine w_iadd mb200 dL_law_473 474 rfl ?_
  refine w_sload mb200 dL_law_474 475 rfl hv.2.2.1 ?_
  refine w_virtual (a := m) (st := [sI (o_turn A (xs (nI i + 1).toNatClampNeg) (xs (nI i + 2).toNatClampNeg) (xs (nI i + 3).toNatClampNeg)).1]) mb200 dL_law_475 478 rfl 85 3 [sI (xs (nI i + 1).toNatClampNeg), sI (xs (nI i + 2).toNatClampNeg), sI (xs (nI i + 3).toNatClampNeg)] _ rfl rfl rfl lcL_53 H1.m (Nat.le_of_ble_eq_true rfl) (l_ref (bc := 0) (bs := 0) (p := o_turn A (xs (nI i + 1).toNatClampNeg) (xs (nI i + 2).toNatClampNeg) (xs (nI i + 3).toNatClampNeg)) H1 (fun ad S G Q hR hQ => r_turn (d := 138) hA hR hQ)) (Nat.zero_le _) (Nat.zero_le _) ?_
  rintro r h2 ⟨rfl, H2⟩
  exact w_icmp_eq (st := []) mb200 dL_law_478 871 481 rfl rfl (fun _ => K _ _ (zBok_turn hA) H2 _ _ (by omega) (by omega)) (fun y => absurd rfl y)
theorem l_become {b L i x m : Nat} {xs : Nat → Int32} {Q : Option sV → hp → Prop} {h : hp} {bc bs : Nat} {A : zB} (hv : vp_in (nI i + 1) L ∧ vp_in (nI i + 2) L ∧ vp_in (nI i + 3) L ∧ vp_in (nI i + 4) L ∧ vp_in (nI i + 5) L) (hA : zBok A) (H : LJ x m A A h) (hbc : 300 ≤ bc) (hbs : 3000 ≤ bs) (K : ∀ A' h', zBok A' → LJ x m A' A' h' → ∀ bc' bs', bc - 300 ≤ bc' → bs - 3000 ≤ bs' → sWP (sCall 140) (some (b, L, xs)) 200 Q 871 [sR (some b), sR (some x), sR (some m), sI (nI i)] [] h' bc' bs') : sWP (sCall 140) (some (b, L, xs)) 200 Q 483 [sR (some b), sR (some x), sR (some m), sI (nI i)] [] h bc bs := by
  refine w_aload_n mb200 dL_law_483 484 rfl rfl ?_
  refine w_aload_n mb200 dL_law_484 485 rfl rfl ?_
  refine w_iload_n mb200 dL_law_485 486 rfl rfl ?_
  refine w_iconst mb200 dL_law_486 487 rfl 1 (by decide) ?_
  refine w_iadd mb200 dL_law_487 488 rfl ?_
  refine w_sload mb200 dL_law_488 489 rfl hv.1 ?_
  refine w_aload_n mb200 dL_law_489 490 rfl rfl ?_
  refine w_iload_n mb200 dL_law_490 491 rfl rfl ?_
  refine w_iconst mb200 dL_law_491 492 rfl 2 (by decide) ?_
  refine w_iadd mb200 dL_law_492 493 rfl ?_
  refine w_sload mb200 dL_law_493 494 rfl hv.2.1 ?_
  refine w_aload_n mb200 dL_law_494 495 rfl rfl ?_
  refine w_iload_n mb200 dL_law_495 496 rfl rfl ?_
  refine w_iconst mb200 dL_law_496 497 rfl 3 (by decide) ?_
  refine w_iadd mb200 dL_law_497 498 rfl ?_
  refine w_sload mb200 dL_law_498 499 rfl hv.2.2.1 ?_
  refine w_if_eq mb200 dL_law_499 506 502 rfl rfl (fun z => ?_) (fun z => ?_)
  · skip
    refine w_iconst mb200 dL_law_506 507 rfl 0 (by decide) ?_
    refine w_virtual (a := x) (st := []) mb200 dL_law_507 510 rfl 54 3 [sI (xs (nI i + 1).toNatClampNeg), sI (xs (nI i + 2).toNatClampNeg), sI 0] _ rfl rfl rfl lcL_54 H.x (Nat.le_of_ble_eq_true rfl) (l_cls (p := o_become A (xs (nI i + 1).toNatClampNeg) (xs (nI i + 2).toNatClampNeg) 0) H (fun Fg V D Q hR hQ => c_become (d := 131) (Or.inl rfl) hA hR hQ)) hbc hbs ?_
    rintro r h1 ⟨rfl, H1⟩
    refine w_aload_n mb200 dL_law_510 511 rfl rfl ?_
    refine w_aload_n mb200 dL_law_511 512 rfl rfl ?_
    refine w_iload_n mb200 dL_law_512 513 rfl rfl ?_
    refine w_iconst mb200 dL_law_513 514 rfl 1 (by decide) ?_
    refine w_iadd mb200 dL_law_514 515 rfl ?_
    refine w_sload mb200 dL_law_515 516 rfl hv.1 ?_
    refine w_aload_n mb200 dL_law_516 517 rfl rfl ?_
    refine w_iload_n mb200 dL_law_517 518 rfl rfl ?_
    refine w_iconst mb200 dL_law_518 519 rfl 2 (by decide) ?_
    refine w_iadd mb200 dL_law_519 520 rfl ?_
    refine w_sload mb200 dL_law_520 521 rfl hv.2.1 ?_
    refine w_aload_n mb200 dL_law_521 522 rfl rfl ?_
    refine w_iload_n mb200 dL_law_522 523 rfl rfl ?_
    refine w_iconst mb200 dL_law_523 524 rfl 3 (by decide) ?_
    refine w_iadd mb200 dL_law_524 525 rfl ?_
    refine w_sload mb200 dL_law_525 526 rfl hv.2.2.1 ?_
    refine w_if_eq mb200 dL_law_526 533 529 rfl rfl (fun _ => ?_) (fun y => absurd z y)
    refine w_iconst mb200 dL_law_533 534 rfl 0 (by decide) ?_
    refine w_virtual (a := m) (st := [sI (o_become A (xs (nI i + 1).toNatClampNeg) (xs (nI i + 2).toNatClampNeg) 0).1]) mb200 dL_law_534 537 rfl 86 3 [sI (xs (nI i + 1).toNatClampNeg), sI (xs (nI i + 2).toNatClampNeg), sI 0] _ rfl rfl rfl lcL_58 H1.m (Nat.le_of_ble_eq_true rfl) (l_ref (bc := 0) (bs := 0) (p := o_become A (xs (nI i + 1).toNatClampNeg) (xs (nI i + 2).toNatClampNeg) 0) H1 (fun ad S G Q hR hQ => r_become (d := 138) (Or.inl rfl) hA hR hQ)) (Nat.zero_le _) (Nat.zero_le _) ?_
    rintro r h2 ⟨rfl, H2⟩
    exact w_icmp_eq (st := []) mb200 dL_law_537 871 540 rfl rfl (fun _ => K _ _ (zBok_become hA) H2 _ _ (by omega) (by omega)) (fun y => absurd rfl y)
  · skip
    refine w_iconst mb200 dL_law_502 503 rfl 1 (by decide) ?_
    refine w_goto mb200 dL_law_503 507 rfl ?_
    refine w_virtual (a := x) (st := []) mb200 dL_law_507 510 rfl 54 3 [sI (xs (nI i + 1).toNatClampNeg), sI (xs (nI i + 2).toNatClampNeg), sI 1] _ rfl rfl rfl lcL_54 H.x (Nat.le_of_ble_eq_true rfl) (l_cls (p := o_become A (xs (nI i + 1).toNatClampNeg) (xs (nI i + 2).toNatClampNeg) 1) H (fun Fg V D Q hR hQ => c_become (d := 131) (Or.inr rfl) hA hR hQ)) hbc hbs ?_
    rintro r h1 ⟨rfl, H1⟩
    refine w_aload_n mb200 dL_law_510 511 rfl rfl ?_
    refine w_aload_n mb200 dL_law_511 512 rfl rfl ?_
    refine w_iload_n mb200 dL_law_512 513 rfl rfl ?_
    refine w_iconst mb200 dL_law_513 514 rfl 1 (by decide) ?_
    refine w_iadd mb200 dL_law_514 515 rfl ?_
    refine w_sload mb200 dL_law_515 516 rfl hv.1 ?_
    refine w_aload_n mb200 dL_law_516 517 rfl rfl ?_
    refine w_iload_n mb200 dL_law_517 518 rfl rfl ?_
    refine w_iconst mb200 dL_law_518 519 rfl 2 (by decide) ?_
    refine w_iadd mb200 dL_law_519 520 rfl ?_
    refine w_sload mb200 dL_law_520 521 rfl hv.2.1 ?_
    refine w_aload_n mb200 dL_law_521 522 rfl rfl ?_
    refine w_iload_n mb200 dL_law_522 523 rfl rfl ?_
    refine w_iconst mb200 dL_law_523 524 rfl 3 (by decide) ?_
    refine w_iadd mb200 dL_law_524 525 rfl ?_
    refine w_sload mb200 dL_law_525 526 rfl hv.2.2.1 ?_
    refine w_if_eq mb200 dL_law_526 533 529 rfl rfl (fun y => absurd y z) (fun _ => ?_)
    refine w_iconst mb200 dL_law_529 530 rfl 1 (by decide) ?_
    refine w_goto mb200 dL_law_530 534 rfl ?_
    refine w_virtual (a := m) (st := [sI (o_become A (xs (nI i + 1).toNatClampNeg) (xs (nI i + 2).toNatClampNeg) 1).1]) mb200 dL_law_534 537 rfl 86 3 [sI (xs (nI i + 1).toNatClampNeg), sI (xs (nI i + 2).toNatClampNeg), sI 1] _ rfl rfl rfl lcL_58 H1.m (Nat.le_of_ble_eq_true rfl) (l_ref (bc := 0) (bs := 0) (p := o_become A (xs (nI i + 1).toNatClampNeg) (xs (nI i + 2).toNatClampNeg) 1) H1 (fun ad S G Q hR hQ => r_become (d := 138) (Or.inr rfl) hA hR hQ)) (Nat.zero_le _) (Nat.zero_le _) ?_
    rintro r h2 ⟨rfl, H2⟩
    exact w_icmp_eq (st := []) mb200 dL_law_537 871 540 rfl rfl (fun _ => K _ _ (zBok_become hA) H2 _ _ (by omega) (by omega)) (fun y => absurd rfl y)
theorem l_forget {b L i x m : Nat} {xs : Nat → Int32} {Q : Option sV → hp → Prop} {h : hp} {bc bs : Nat} {A : zB} (hv : vp_in (nI i + 1) L ∧ vp_in (nI i + 2) L ∧ vp_in (nI i + 3) L ∧ vp_in (nI i + 4) L ∧ vp_in (nI i + 5) L) (hA : zBok A) (H : LJ x m A A h) (hbc : 300 ≤ bc) (hbs : 3000 ≤ bs) (K : ∀ A' h', zBok A' → LJ x m A' A' h' → ∀ bc' bs', bc - 300 ≤ bc' → bs - 3000 ≤ bs' → sWP (sCall 140) (some (b, L, xs)) 200 Q 871 [sR (some b), sR (some x), sR (some m), sI (nI i)] [] h' bc' bs') : sWP (sCall 140) (some (b, L, xs)) 200 Q 542 [sR (some b), sR (some x), sR (some m), sI (nI i)] [] h bc bs := by
  refine w_aload_n mb200 dL_law_542 543 rfl rfl ?_
  refine w_aload_n mb200 dL_law_543 544 rfl rfl ?_
  refine w_iload_n mb200 dL_law_544 545 rfl rfl ?_
  refine w_iconst mb200 dL_law_545 546 rfl 1 (by decide) ?_
  refine w_iadd mb200 dL_law_546 547 rfl ?_
  refine w_sload mb200 dL_law_547 548 rfl hv.1 ?_
  refine w_virtual (a := x) (st := []) mb200 dL_law_548 551 rfl 55 1 [sI (xs (nI i + 1).toNatClampNeg)] _ rfl rfl rfl lcL_59 H.x (Nat.le_of_ble_eq_true rfl) (l_cls (p := o_forget A (xs (nI i + 1).toNatClampNeg)) H (fun Fg V D Q hR hQ => c_forget (d := 131) hA hR hQ)) hbc hbs ?_
  rintro r h1 ⟨rfl, H1⟩
  refine w_aload_n mb200 dL_law_551 552 rfl rfl ?_
  refine w_aload_n mb200 dL_law_552 553 rfl rfl ?_
  refine w_iload_n mb200 dL_law_553 554 rfl rfl ?_
  refine w_iconst mb200 dL_law_554 555 rfl 1 (by decide) ?_
  refine w_iadd mb200 dL_law_555 556 rfl ?_
  refine w_sload mb200 dL_law_556 557 rfl hv.1 ?_
  refine w_virtual (a := m) (st := [sI (o_forget A (xs (nI i + 1).toNatClampNeg)).1]) mb200 dL_law_557 560 rfl 87 1 [sI (xs (nI i + 1).toNatClampNeg)] _ rfl rfl rfl lcL_62 H1.m (Nat.le_of_ble_eq_true rfl) (l_ref (bc := 0) (bs := 0) (p := o_forget A (xs (nI i + 1).toNatClampNeg)) H1 (fun ad S G Q hR hQ => r_forget (d := 138) hA hR hQ)) (Nat.zero_le _) (Nat.zero_le _) ?_
  rintro r h2 ⟨rfl, H2⟩
  exact w_icmp_eq (st := []) mb200 dL_law_560 871 563 rfl rfl (fun _ => K _ _ (zBok_forget hA) H2 _ _ (by omega) (by omega)) (fun y => absurd rfl y)
theorem l_of {b L i x m : Nat} {xs : Nat → Int32} {Q : Option sV → hp → Prop} {h : hp} {bc bs : Nat} {A : zB} (hv : vp_in (nI i + 1) L ∧ vp_in (nI i + 2) L ∧ vp_in (nI i + 3) L ∧ vp_in (nI i + 4) L ∧ vp_in (nI i + 5) L) (hA : zBok A) (H : LJ x m A A h) (hbc : 300 ≤ bc) (hbs : 3000 ≤ bs) (K : ∀ A' h', zBok A' → LJ x m A' A' h' → ∀ bc' bs', bc - 300 ≤ bc' → bs - 3000 ≤ bs' → sWP (sCall 140) (some (b, L, xs)) 200 Q 871 [sR (some b), sR (some x), sR (some m), sI (nI i)] [] h' bc' bs') : sWP (sCall 140) (some (b, L, xs)) 200 Q 565 [sR (some b), sR (some x), sR (some m), sI (nI i)] [] h bc bs := by
  refine w_aload_n mb200 dL_law_565 566 rfl rfl ?_
  refine w_aload_n mb200 dL_law_566 567 rfl rfl ?_
  refine w_iload_n mb200 dL_law_567 568 rfl rfl ?_
  refine w_iconst mb200 dL_law_568 569 rfl 1 (by decide) ?_
  refine w_iadd mb200 dL_law_569 570 rfl ?_
  refine w_sload mb200 dL_law_570 571 rfl hv.1 ?_
  refine w_aload_n mb200 dL_law_571 572 rfl rfl ?_
  refine w_iload_n mb200 dL_law_572 573 rfl rfl ?_
  refine w_iconst mb200 dL_law_573 574 rfl 2 (by decide) ?_
  refine w_iadd mb200 dL_law_574 575 rfl ?_
  refine w_sload mb200 dL_law_575 576 rfl hv.2.1 ?_
  refine w_virtual (a := x) (st := []) mb200 dL_law_576 579 rfl 56 2 [sI (xs (nI i + 1).toNatClampNeg), sI (xs (nI i + 2).toNatClampNeg)] _ rfl rfl rfl lcL_63 H.x (Nat.le_of_ble_eq_true rfl) (l_cls (p := o_of A (xs (nI i + 1).toNatClampNeg) (xs (nI i + 2).toNatClampNeg)) H (fun Fg V D Q hR hQ => c_of (d := 131) hA hR hQ)) hbc hbs ?_
  rintro r h1 ⟨rfl, H1⟩
  refine w_aload_n mb200 dL_law_579 580 rfl rfl ?_
  refine w_aload_n mb200 dL_law_580 581 rfl rfl ?_
  refine w_iload_n mb200 dL_law_581 582 rfl rfl ?_
  refine w_iconst mb200 dL_law_582 583 rfl 1 (by decide) ?_
  refine w_iadd mb200 dL_law_583 584 rfl ?_
  refine w_sload mb200 dL_law_584 585 rfl hv.1 ?_
  refine w_aload_n mb200 dL_law_585 586 rfl rfl ?_
  refine w_iload_n mb200 dL_law_586 587 rfl rfl ?_
  refine w_iconst mb200 dL_law_587 588 rfl 2 (by decide) ?_
  refine w_iadd mb200 dL_law_588 589 rfl ?_
  refine w_sload mb200 dL_law_589 590 rfl hv.2.1 ?_
  refine w_virtual (a := m) (st := [sI (o_of A (xs (nI i + 1).toNatClampNeg) (xs (nI i + 2).toNatClampNeg)).1]) mb200 dL_law_590 593 rfl 88 2 [sI (xs (nI i + 1).toNatClampNeg), sI (xs (nI i + 2).toNatClampNeg)] _ rfl rfl rfl lcL_66 H1.m (Nat.le_of_ble_eq_true rfl) (l_ref (bc := 0) (bs := 0) (p := o_of A (xs (nI i + 1).toNatClampNeg) (xs (nI i + 2).toNatClampNeg)) H1 (fun ad S G Q hR hQ => r_of (d := 138) hA hR hQ)) (Nat.zero_le _) (Nat.zero_le _) ?_
  rintro r h2 ⟨rfl, H2⟩
  exact w_icmp_eq (st := []) mb200 dL_law_593 871 596 rfl rfl (fun _ => K _ _ (zBok_of hA) H2 _ _ (by omega) (by omega)) (fun y => absurd rfl y)
theorem l_trace {b L i x m : Nat} {xs : Nat → Int32} {Q : Option sV → hp → Prop} {h : hp} {bc bs : Nat} {A : zB} (hv : vp_in (nI i + 1) L ∧ vp_in (nI i + 2) L ∧ vp_in (nI i + 3) L ∧ vp_in (nI i + 4) L ∧ vp_in (nI i + 5) L) (hA : zBok A) (H : LJ x m A A h) (hbc : 300 ≤ bc) (hbs : 3000 ≤ bs) (K : ∀ A' h', zBok A' → LJ x m A' A' h' → ∀ bc' bs', bc - 300 ≤ bc' → bs - 3000 ≤ bs' → sWP (sCall 140) (some (b, L, xs)) 200 Q 871 [sR (some b), sR (some x), sR (some m), sI (nI i)] [] h' bc' bs') : sWP (sCall 140) (some (b, L, xs)) 200 Q 598 [sR (some b), sR (some x), sR (some m), sI (nI i)] [] h bc bs := by
  refine w_aload_n mb200 dL_law_598 599 rfl rfl ?_
  refine w_aload_n mb200 dL_law_599 600 rfl rfl ?_
  refine w_iload_n mb200 dL_law_600 601 rfl rfl ?_
  refine w_iconst mb200 dL_law_601 602 rfl 1 (by decide) ?_
  refine w_iadd mb200 dL_law_602 603 rfl ?_
  refine w_sload mb200 dL_law_603 604 rfl hv.1 ?_
  refine w_aload_n mb200 dL_law_604 605 rfl rfl ?_
  refine w_iload_n mb200 dL_law_605 606 rfl rfl ?_
  refine w_iconst mb200 dL_law_606 607 rfl 2 (by decide) ?_
  refine w_iadd mb200 dL_law_607 608 rfl ?_
  refine w_sload mb200 dL_law_608 609 rfl hv.2.1 ?_
  refine w_aload_n mb200 dL_law_609 610 rfl rfl ?_
  refine w_iload_n mb200 dL_law_610 611 rfl rfl ?_
  refine w_iconst mb200 dL_law_611 612 rfl 3 (by decide) ?_
  refine w_iadd mb200 dL_law_612 613 rfl ?_
  refine w_sload mb200 dL_law_613 614 rfl hv.2.2.1 ?_
  refine w_virtual (a := x) (st := []) mb200 dL_law_614 617 rfl 57 3 [sI (xs (nI i + 1).toNatClampNeg), sI (xs (nI i + 2).toNatClampNeg), sI (xs (nI i + 3).toNatClampNeg)] _ rfl rfl rfl lcL_67 H.x (Nat.le_of_ble_eq_true rfl) (l_cls (p := o_trace A (xs (nI i + 1).toNatClampNeg) (xs (nI i + 2).toNatClampNeg) (xs (nI i + 3).toNatClampNeg)) H (fun Fg V D Q hR hQ => c_trace (d := 131) hA hR hQ)) hbc hbs ?_
  rintro r h1 ⟨rfl, H1⟩
  refine w_aload_n mb200 dL_law_617 618 rfl rfl ?_
  refine w_aload_n mb200 dL_law_618 619 rfl rfl ?_
  refine w_iload_n mb200 dL_law_619 620 rfl rfl ?_
  refine w_iconst mb200 dL_law_620 621 rfl 1 (by decide) ?_
  refine w_iadd mb200 dL_law_621 622 rfl ?_
  refine w_sload mb200 dL_law_622 623 rfl hv.1 ?_
  refine w_aload_n mb200 dL_law_623 624 rfl rfl ?_
  refine w_iload_n mb200 dL_law_624 625 rfl rfl ?_
  refine w_iconst mb200 dL_law_625 626 rfl 2 (by decide) ?_
  refine w_iadd mb200 dL_law_626 627 rfl ?_
  refine w_sload mb200 dL_law_627 628 rfl hv.2.1 ?_
  refine w_aload_n mb200 dL_law_628 629 rfl rfl ?_
  refine w_iload_n mb200 dL_law_629 630 rfl rfl ?_
  refine w_iconst mb200 dL_law_630 631 rfl 3 (by decide) ?_
  refine w_iadd mb200 dL_law_631 632 rfl ?_
  refine w_sload mb200 dL_law_632 633 rfl hv.2.2.1 ?_
  refine w_virtual (a := m) (st := [sI (o_trace A (xs (nI i + 1).toNatClampNeg) (xs (nI i + 2).toNatClampNeg) (xs (nI i + 3).toNatClampNeg)).1]) mb200 dL_law_633 636 rfl 89 3 [sI (xs (nI i + 1).toNatClampNeg), sI (xs (nI i + 2).toNatClampNeg), sI (xs (nI i + 3).toNatClampNeg)] _ rfl rfl rfl lcL_70 H1.m (Nat.le_of_ble_eq_true rfl) (l_ref (bc := 0) (bs := 0) (p := o_trace A (xs (nI i + 1).toNatClampNeg) (xs (nI i + 2).toNatClampNeg) (xs (nI i + 3).toNatClampNeg)) H1 (fun ad S G Q hR hQ => r_trace (d := 138) hA hR hQ)) (Nat.zero_le _) (Nat.zero_le _) ?_
  rintro r h2 ⟨rfl, H2⟩
  exact w_icmp_eq (st := []) mb200 dL_law_636 871 639 rfl rfl (fun _ => K _ _ (zBok_trace hA) H2 _ _ (by omega) (by omega)) (fun y => absurd rfl y)
theorem l_make {b L i x m : Nat} {xs : Nat → Int32} {Q : Option sV → hp → Prop} {h : hp} {bc bs : Nat} {A : zB} (hv : vp_in (nI i + 1) L ∧ vp_in (nI i + 2) L ∧ vp_in (nI i + 3) L ∧ vp_in (nI i + 4) L ∧ vp_in (nI i + 5) L) (hA : zBok A) (H : LJ x m A A h) (hbc : 300 ≤ bc) (hbs : 3000 ≤ bs) (K : ∀ A' h', zBok A' → LJ x m A' A' h' → ∀ bc' bs', bc - 300 ≤ bc' → bs - 3000 ≤ bs' → sWP (sCall 140) (some (b, L, xs)) 200 Q 871 [sR (some b), sR (some x), sR (some m), sI (nI i)] [] h' bc' bs') : sWP (sCall 140) (some (b, L, xs)) 200 Q 641 [sR (some b), sR (some x), sR (some m), sI (nI i)] [] h bc bs := by
  refine w_aload_n mb200 dL_law_641 642 rfl rfl ?_
  refine w_aload_n mb200 dL_law_642 643 rfl rfl ?_
  refine w_iload_n mb200 dL_law_643 644 rfl rfl ?_
  refine w_iconst mb200 dL_law_644 645 rfl 1 (by decide) ?_
  refine w_iadd mb200 dL_law_645 646 rfl ?_
  refine w_sload mb200 dL_law_646 647 rfl hv.1 ?_
  refine w_virtual (a := x) (st := []) mb200 dL_law_647 650 rfl 58 1 [sI (xs (nI i + 1).toNatClampNeg)] _ rfl rfl rfl lcL_71 H.x (Nat.le_of_ble_eq_true rfl) (l_cls (p := o_make A (xs (nI i + 1).toNatClampNeg)) H (fun Fg V D Q hR hQ => c_make (d := 9) hA hR (Nat.le_refl _) (Nat.le_refl _) hQ)) hbc hbs ?_
  rintro r h1 ⟨rfl, H1⟩
  refine w_aload_n mb200 dL_law_650 651 rfl rfl ?_
  refine w_aload_n mb200 dL_law_651 652 rfl rfl ?_
  refine w_iload_n mb200 dL_law_652 653 rfl rfl ?_
  refine w_iconst mb200 dL_law_653 654 rfl 1 (by decide) ?_
  refine w_iadd mb200 dL_law_654 655 rfl ?_
  refine w_sload mb200 dL_law_655 656 rfl hv.1 ?_
  refine w_virtual (a := m) (st := [sI (o_make A (xs (nI i + 1).toNatClampNeg)).1]) mb200 dL_law_656 659 rfl 115 1 [sI (xs (nI i + 1).toNatClampNeg)] _ rfl rfl rfl lcL_74 H1.m (Nat.le_of_ble_eq_true rfl) (l_ref (bc := 0) (bs := 0) (p := o_make A (xs (nI i + 1).toNatClampNeg)) H1 (fun ad S G Q hR hQ => r_make (d := 133) hA hR hQ)) (Nat.zero_le _) (Nat.zero_le _) ?_
  rintro r h2 ⟨rfl, H2⟩
  exact w_icmp_eq (st := []) mb200 dL_law_659 871 662 rfl rfl (fun _ => K _ _ (zBok_make hA) H2 _ _ (by omega) (by omega)) (fun y => absurd rfl y)
theorem l_anew {b L i x m : Nat} {xs : Nat → Int32} {Q : Option sV → hp → Prop} {h : hp} {bc bs : Nat} {A : zB} (hv : vp_in (nI i + 1) L ∧ vp_in (nI i + 2) L ∧ vp_in (nI i + 3) L ∧ vp_in (nI i + 4) L ∧ vp_in (nI i + 5) L) (hA : zBok A) (H : LJ x m A A h) (hbc : 300 ≤ bc) (hbs : 3000 ≤ bs) (K : ∀ A' h', zBok A' → LJ x m A' A' h' → ∀ bc' bs', bc - 300 ≤ bc' → bs - 3000 ≤ bs' → sWP (sCall 140) (some (b, L, xs)) 200 Q 871 [sR (some b), sR (some x), sR (some m), sI (nI i)] [] h' bc' bs') : sWP (sCall 140) (some (b, L, xs)) 200 Q 664 [sR (some b), sR (some x), sR (some m), sI (nI i)] [] h bc bs := by
  refine w_aload_n mb200 dL_law_664 665 rfl rfl ?_
  refine w_aload_n mb200 dL_law_665 666 rfl rfl ?_
  refine w_iload_n mb200 dL_law_666 667 rfl rfl ?_
  refine w_iconst mb200 dL_law_667 668 rfl 1 (by decide) ?_
  refine w_iadd mb200 dL_law_668 669 rfl ?_
  refine w_sload mb200 dL_law_669 670 rfl hv.1 ?_
  refine w_virtual (a := x) (st := []) mb200 dL_law_670 673 rfl 59 1 [sI (xs (nI i + 1).toNatClampNeg)] _ rfl rfl rfl lcL_75 H.x (Nat.le_of_ble_eq_true rfl) (l_cls (p := o_anew A (xs (nI i + 1).toNatClampNeg)) H (fun Fg V D Q hR hQ => c_anew (d := 9) hA hR (Nat.le_refl _) (Nat.le_refl _) hQ)) hbc hbs ?_
  rintro r h1 ⟨rfl, H1⟩
  refine w_aload_n mb200 dL_law_673 674 rfl rfl ?_
  refine w_aload_n mb200 dL_law_674 675 rfl rfl ?_
  refine w_iload_n mb200 dL_law_675 676 rfl rfl ?_
  refine w_iconst mb200 dL_law_676 677 rfl 1 (by decide) ?_
  refine w_iadd mb200 dL_law_677 678 rfl ?_
  refine w_sload mb200 dL_law_678 679 rfl hv.1 ?_
  refine w_virtual (a := m) (st := [sI (o_anew A (xs (nI i + 1).toNatClampNeg)).1]) mb200 dL_law_679 682 rfl 116 1 [sI (xs (nI i + 1).toNatClampNeg)] _ rfl rfl rfl lcL_78 H1.m (Nat.le_of_ble_eq_true rfl) (l_ref (bc := 0) (bs := 0) (p := o_anew A (xs (nI i + 1).toNatClampNeg)) H1 (fun ad S G Q hR hQ => r_anew (d := 133) hA hR hQ)) (Nat.zero_le _) (Nat.zero_le _) ?_
  rintro r h2 ⟨rfl, H2⟩
  exact w_icmp_eq (st := []) mb200 dL_law_682 871 685 rfl rfl (fun _ => K _ _ (zBok_anew hA) H2 _ _ (by omega) (by omega)) (fun y => absurd rfl y)
theorem l_outcome {b L i x m : Nat} {xs : Nat → Int32} {Q : Option sV → hp → Prop} {h : hp} {bc bs : Nat} {A : zB} (hv : vp_in (nI i + 1) L ∧ vp_in (nI i + 2) L ∧ vp_in (nI i + 3) L ∧ vp_in (nI i + 4) L ∧ vp_in (nI i + 5) L) (hA : zBok A) (H : LJ x m A A h) (hbc : 300 ≤ bc) (hbs : 3000 ≤ bs) (K : ∀ A' h', zBok A' → LJ x m A' A' h' → ∀ bc' bs', bc - 300 ≤ bc' → bs - 3000 ≤ bs' → sWP (sCall 140) (some (b, L, xs)) 200 Q 871 [sR (some b), sR (some x), sR (some m), sI (nI i)] [] h' bc' bs') : sWP (sCall 140) (some (b, L, xs)) 200 Q 687 [sR (some b), sR (some x), sR (some m), sI (nI i)] [] h bc bs := by
  refine w_aload_n mb200 dL_law_687 688 rfl rfl ?_
  refine w_aload_n mb200 dL_law_688 689 rfl rfl ?_
  refine w_iload_n mb200 dL_law_689 690 rfl rfl ?_
  refine w_iconst mb200 dL_law_690 691 rfl 1 (by decide) ?_
  refine w_iadd mb200 dL_law_691 692 rfl ?_
  refine w_sload mb200 dL_law_692 693 rfl hv.1 ?_
  refine w_virtual (a := x) (st := []) mb200 dL_law_693 696 rfl 60 1 [sI (xs (nI i + 1).toNatClampNeg)] _ rfl rfl rfl lcL_79 H.x (Nat.le_of_ble_eq_true rfl) (l_cls (p := o_outcome A (xs (nI i + 1).toNatClampNeg)) H (fun Fg V D Q hR hQ => c_outcome (d := 131) hR hQ)) hbc hbs ?_
  rintro r h1 ⟨rfl, H1⟩
  refine w_aload_n mb200 dL_law_696 697 rfl rfl ?_
  refine w_aload_n mb200 dL_law_697 698 rfl rfl ?_
  refine w_iload_n mb200 dL_law_698 699 rfl rfl ?_
  refine w_iconst mb200 dL_law_699 700 rfl 1 (by decide) ?_
  refine w_iadd mb200 dL_law_700 701 rfl ?_
  refine w_sload mb200 dL_law_701 702 rfl hv.1 ?_
  refine w_virtual (a := m) (st := [sI (o_outcome A (xs (nI i + 1).toNatClampNeg)).1]) mb200 dL_law_702 705 rfl 117 1 [sI (xs (nI i + 1).toNatClampNeg)] _ rfl rfl rfl lcL_82 H1.m (Nat.le_of_ble_eq_true rfl) (l_ref (bc := 0) (bs := 0) (p := o_outcome A (xs (nI i + 1).toNatClampNeg)) H1 (fun ad S G Q hR hQ => r_outcome (d := 138) hA hR hQ)) (Nat.zero_le _) (Nat.zero_le _) ?_
  rintro r h2 ⟨rfl, H2⟩
  exact w_icmp_eq (st := []) mb200 dL_law_705 871 708 rfl rfl (fun _ => K _ _ (zBok_outcome hA) H2 _ _ (by omega) (by omega)) (fun y => absurd rfl y)
theorem l_part {b L i x m : Nat} {xs : Nat → Int32} {Q : Option sV → hp → Prop} {h : hp} {bc bs : Nat} {A : zB} (hv : vp_in (nI i + 1) L ∧ vp_in (nI i + 2) L ∧ vp_in (nI i + 3) L ∧ vp_in (nI i + 4) L ∧ vp_in (nI i + 5) L) (hA : zBok A) (H : LJ x m A A h) (hbc : 300 ≤ bc) (hbs : 3000 ≤ bs) (K : ∀ A' h', zBok A' → LJ x m A' A' h' → ∀ bc' bs', bc - 300 ≤ bc' → bs - 3000 ≤ bs' → sWP (sCall 140) (some (b, L, xs)) 200 Q 871 [sR (some b), sR (some x), sR (some m), sI (nI i)] [] h' bc' bs') : sWP (sCall 140) (some (b, L, xs)) 200 Q 710 [sR (some b), sR (some x), sR (some m), sI (nI i)] [] h bc bs := by
  refine w_aload_n mb200 dL_law_710 711 rfl rfl ?_
  refine w_aload_n mb200 dL_law_711 712 rfl rfl ?_
  refine w_iload_n mb200 dL_law_712 713 rfl rfl ?_
  refine w_iconst mb200 dL_law_713 714 rfl 1 (by decide) ?_
  refine w_iadd mb200 dL_law_714 715 rfl ?_
  refine w_sload mb200 dL_law_715 716 rfl hv.1 ?_
  refine w_virtual (a := x) (st := []) mb200 dL_law_716 719 rfl 61 1 [sI (xs (nI i + 1).toNatClampNeg)] _ rfl rfl rfl lcL_83 H.x (Nat.le_of_ble_eq_true rfl) (l_cls (p := o_part A (xs (nI i + 1).toNatClampNeg)) H (fun Fg V D Q hR hQ => c_part (d := 131) hA hR hQ)) hbc hbs ?_
  rintro r h1 ⟨rfl, H1⟩
  refine w_aload_n mb200 dL_law_719 720 rfl rfl ?_
  refine w_aload_n mb200 dL_law_720 721 rfl rfl ?_
  refine w_iload_n mb200 dL_law_721 722 rfl rfl ?_
  refine w_iconst mb200 dL_law_722 723 rfl 1 (by decide) ?_
  refine w_iadd mb200 dL_law_723 724 rfl ?_
  refine w_sload mb200 dL_law_724 725 rfl hv.1 ?_
  refine w_virtual (a := m) (st := [sI (o_part A (xs (nI i + 1).toNatClampNeg)).1]) mb200 dL_law_725 728 rfl 118 1 [sI (xs (nI i + 1).toNatClampNeg)] _ rfl rfl rfl lcL_86 H1.m (Nat.le_of_ble_eq_true rfl) (l_ref (bc := 0) (bs := 0) (p := o_part A (xs (nI i + 1).toNatClampNeg)) H1 (fun ad S G Q hR hQ => r_part (d := 138) hA hR hQ)) (Nat.zero_le _) (Nat.zero_le _) ?_
  rintro r h2 ⟨rfl, H2⟩
  exact w_icmp_eq (st := []) mb200 dL_law_728 871 731 rfl rfl (fun _ => K _ _ (zBok_part hA) H2 _ _ (by omega) (by omega)) (fun y => absurd rfl y)
theorem l_ring {b L i x m : Nat} {xs : Nat → Int32} {Q : Option sV → hp → Prop} {h : hp} {bc bs : Nat} {A : zB} (hv : vp_in (nI i + 1) L ∧ vp_in (nI i + 2) L ∧ vp_in (nI i + 3) L ∧ vp_in (nI i + 4) L ∧ vp_in (nI i + 5) L) (hA : zBok A) (H : LJ x m A A h) (hbc : 300 ≤ bc) (hbs : 3000 ≤ bs) (K : ∀ A' h', zBok A' → LJ x m A' A' h' → ∀ bc' bs', bc - 300 ≤ bc' → bs - 3000 ≤ bs' → sWP (sCall 140) (some (b, L, xs)) 200 Q 871 [sR (some b), sR (some x), sR (some m), sI (nI i)] [] h' bc' bs') : sWP (sCall 140) (some (b, L, xs)) 200 Q 733 [sR (some b), sR (some x), sR (some m), sI (nI i)] [] h bc bs := by
  refine w_aload_n mb200 dL_law_733 734 rfl rfl ?_
  refine w_aload_n mb200 dL_law_734 735 rfl rfl ?_
  refine w_iload_n mb200 dL_law_735 736 rfl rfl ?_
  refine w_iconst mb200 dL_law_736 737 rfl 1 (by decide) ?_
  refine w_iadd mb200 dL_law_737 738 rfl ?_
  refine w_sload mb200 dL_law_738 739 rfl hv.1 ?_
  refine w_virtual (a := x) (st := []) mb200 dL_law_739 742 rfl 62 1 [sI (xs (nI i + 1).toNatClampNeg)] _ rfl rfl rfl lcL_87 H.x (Nat.le_of_ble_eq_true rfl) (l_cls (p := o_ring A (xs (nI i + 1).toNatClampNeg)) H (fun Fg V D Q hR hQ => c_ring (d := 131) hR hQ)) hbc hbs ?_
  rintro r h1 ⟨rfl, H1⟩
  refine w_aload_n mb200 dL_law_742 743 rfl rfl ?_
  refine w_aload_n mb200 dL_law_743 744 rfl rfl ?_
  refine w_iload_n mb200 dL_law_744 745 rfl rfl ?_
  refine w_iconst mb200 dL_law_745 746 rfl 1 (by decide) ?_
  refine w_iadd mb200 dL_law_746 747 rfl ?_
  refine w_sload mb200 dL_law_747 748 rfl hv.1 ?_
  refine w_virtual (a := m) (st := [sI (o_ring A (xs (nI i + 1).toNatClampNeg)).1]) mb200 dL_law_748 751 rfl 119 1 [sI (xs (nI i + 1).toNatClampNeg)] _ rfl rfl rfl lcL_90 H1.m (Nat.le_of_ble_eq_true rfl) (l_ref (bc := 0) (bs := 0) (p := o_ring A (xs (nI i + 1).toNatClampNeg)) H1 (fun ad S G Q hR hQ => r_ring (d := 138) hR hQ)) (Nat.zero_le _) (Nat.zero_le _) ?_
  rintro r h2 ⟨rfl, H2⟩
  exact w_icmp_eq (st := []) mb200 dL_law_751 871 754 rfl rfl (fun _ => K _ _ (hA) H2 _ _ (by omega) (by omega)) (fun y => absurd rfl y)
theorem l_worked {b L i x m : Nat} {xs : Nat → Int32} {Q : Option sV → hp → Prop} {h : hp} {bc bs : Nat} {A : zB} (hv : vp_in (nI i + 1) L ∧ vp_in (nI i + 2) L ∧ vp_in (nI i + 3) L ∧ vp_in (nI i + 4) L ∧ vp_in (nI i + 5) L) (hA : zBok A) (H : LJ x m A A h) (hbc : 300 ≤ bc) (hbs : 3000 ≤ bs) (K : ∀ A' h', zBok A' → LJ x m A' A' h' → ∀ bc' bs', bc - 300 ≤ bc' → bs - 3000 ≤ bs' → sWP (sCall 140) (some (b, L, xs)) 200 Q 871 [sR (some b), sR (some x), sR (some m), sI (nI i)] [] h' bc' bs') : sWP (sCall 140) (some (b, L, xs)) 200 Q 756 [sR (some b), sR (some x), sR (some m), sI (nI i)] [] h bc bs := by
  refine w_aload_n mb200 dL_law_756 757 rfl rfl ?_
  refine w_aload_n mb200 dL_law_757 758 rfl rfl ?_
  refine w_iload_n mb200 dL_law_758 759 rfl rfl ?_
  refine w_iconst mb200 dL_law_759 760 rfl 1 (by decide) ?_
  refine w_iadd mb200 dL_law_760 761 rfl ?_
  refine w_sload mb200 dL_law_761 762 rfl hv.1 ?_
  refine w_virtual (a := x) (st := []) mb200 dL_law_762 765 rfl 63 1 [sI (xs (nI i + 1).toNatClampNeg)] _ rfl rfl rfl lcL_91 H.x (Nat.le_of_ble_eq_true rfl) (l_cls (p := o_worked A (xs (nI i + 1).toNatClampNeg)) H (fun Fg V D Q hR hQ => c_worked (d := 131) hA hR hQ)) hbc hbs ?_
  rintro r h1 ⟨rfl, H1⟩
  refine w_aload_n mb200 dL_law_765 766 rfl rfl ?_
  refine w_aload_n mb200 dL_law_766 767 rfl rfl ?_
  refine w_iload_n mb200 dL_law_767 768 rfl rfl ?_
  refine w_iconst mb200 dL_law_768 769 rfl 1 (by decide) ?_
  refine w_iadd mb200 dL_law_769 770 rfl ?_
  refine w_sload mb200 dL_law_770 771 rfl hv.1 ?_
  refine w_virtual (a := m) (st := [sI (o_worked A (xs (nI i + 1).toNatClampNeg)).1]) mb200 dL_law_771 774 rfl 120 1 [sI (xs (nI i + 1).toNatClampNeg)] _ rfl rfl rfl lcL_94 H1.m (Nat.le_of_ble_eq_true rfl) (l_ref (bc := 0) (bs := 0) (p := o_worked A (xs (nI i + 1).toNatClampNeg)) H1 (fun ad S G Q hR hQ => r_worked (d := 138) hA hR hQ)) (Nat.zero_le _) (Nat.zero_le _) ?_
  rintro r h2 ⟨rfl, H2⟩
  exact w_icmp_eq (st := []) mb200 dL_law_774 871 777 rfl rfl (fun _ => K _ _ (zBok_worked hA) H2 _ _ (by omega) (by omega)) (fun y => absurd rfl y)
theorem l_looked {b L i x m : Nat} {xs : Nat → Int32} {Q : Option sV → hp → Prop} {h : hp} {bc bs : Nat} {A : zB} (hv : vp_in (nI i + 1) L ∧ vp_in (nI i + 2) L ∧ vp_in (nI i + 3) L ∧ vp_in (nI i + 4) L ∧ vp_in (nI i + 5) L) (hA : zBok A) (H : LJ x m A A h) (hbc : 300 ≤ bc) (hbs : 3000 ≤ bs) (K : ∀ A' h', zBok A' → LJ x m A' A' h' → ∀ bc' bs', bc - 300 ≤ bc' → bs - 3000 ≤ bs' → sWP (sCall 140) (some (b, L, xs)) 200 Q 871 [sR (some b), sR (some x), sR (some m), sI (nI i)] [] h' bc' bs') : sWP (sCall 140) (some (b, L, xs)) 200 Q 779 [sR (some b), sR (some x), sR (some m), sI (nI i)] [] h bc bs := by
  refine w_aload_n mb200 dL_law_779 780 rfl rfl ?_
  refine w_virtual (a := x) (st := []) mb200 dL_law_780 783 rfl 64 0 [] _ rfl rfl rfl lcL_95 H.x (Nat.le_of_ble_eq_true rfl) (l_cls (p := o_looked A) H (fun Fg V D Q hR hQ => c_looked (d := 131) hR hQ)) hbc hbs ?_
  rintro r h1 ⟨rfl, H1⟩
  refine w_aload_n mb200 dL_law_783 784 rfl rfl ?_
  refine w_virtual (a := m) (st := [sI (o_looked A).1]) mb200 dL_law_784 787 rfl 121 0 [] _ rfl rfl rfl lcL_99 H1.m (Nat.le_of_ble_eq_true rfl) (l_ref (bc := 0) (bs := 0) (p := o_looked A) H1 (fun ad S G Q hR hQ => r_looked (d := 138) hR hQ)) (Nat.zero_le _) (Nat.zero_le _) ?_
  rintro r h2 ⟨rfl, H2⟩
  exact w_icmp_eq (st := []) mb200 dL_law_787 871 790 rfl rfl (fun _ => K _ _ (hA) H2 _ _ (by omega) (by omega)) (fun y => absurd rfl y)
theorem l_stale {b L i x m : Nat} {xs : Nat → Int32} {Q : Option sV → hp → Prop} {h : hp} {bc bs : Nat} {A : zB} (hv : vp_in (nI i + 1) L ∧ vp_in (nI i + 2) L ∧ vp_in (nI i + 3) L ∧ vp_in (nI i + 4) L ∧ vp_in (nI i + 5) L) (hA : zBok A) (H : LJ x m A A h) (hbc : 300 ≤ bc) (hbs : 3000 ≤ bs) (K : ∀ A' h', zBok A' → LJ x m A' A' h' → ∀ bc' bs', bc - 300 ≤ bc' → bs - 3000 ≤ bs' → sWP (sCall 140) (some (b, L, xs)) 200 Q 871 [sR (some b), sR (some x), sR (some m), sI (nI i)] [] h' bc' bs') : sWP (sCall 140) (some (b, L, xs)) 200 Q 792 [sR (some b), sR (some x), sR (some m), sI (nI i)] [] h bc bs := by
  refine w_aload_n mb200 dL_law_792 793 rfl rfl ?_
  refine w_aload_n mb200 dL_law_793 794 rfl rfl ?_
  refine w_iload_n mb200 dL_law_794 795 rfl rfl ?_
  refine w_iconst mb200 dL_law_795 796 rfl 1 (by decide) ?_
  refine w_iadd mb200 dL_law_796 797 rfl ?_
  refine w_sload mb200 dL_law_797 798 rfl hv.1 ?_
  refine w_aload_n mb200 dL_law_798 799 rfl rfl ?_
  refine w_iload_n mb200 dL_law_799 800 rfl rfl ?_
  refine w_iconst mb200 dL_law_800 801 rfl 2 (by decide) ?_
  refine w_iadd mb200 dL_law_801 802 rfl ?_
  refine w_sload mb200 dL_law_802 803 rfl hv.2.1 ?_
  refine w_virtual (a := x) (st := []) mb200 dL_law_803 806 rfl 65 2 [sI (xs (nI i + 1).toNatClampNeg), sI (xs (nI i + 2).toNatClampNeg)] _ rfl rfl rfl lcL_100 H.x (Nat.le_of_ble_eq_true rfl) (l_cls (p := o_stale A (xs (nI i + 1).toNatClampNeg) (xs (nI i + 2).toNatClampNeg)) H (fun Fg V D Q hR hQ => c_stale (d := 131) hA hR hQ)) hbc hbs ?_
  rintro r h1 ⟨rfl, H1⟩
  refine w_aload_n mb200 dL_law_806 807 rfl rfl ?_
  refine w_aload_n mb200 dL_law_807 808 rfl rfl ?_
  refine w_iload_n mb200 dL_law_808 809 rfl rfl ?_
  refine w_iconst mb200 dL_law_809 810 rfl 1 (by decide) ?_
  refine w_iadd mb200 dL_law_810 811 rfl ?_
  refine w_sload mb200 dL_law_811 812 rfl hv.1 ?_
  refine w_aload_n mb200 dL_law_812 813 rfl rfl ?_
  refine w_iload_n mb200 dL_law_813 814 rfl rfl ?_
  refine w_iconst mb200 dL_law_814 815 rfl 2 (by decide) ?_
  refine w_iadd mb200 dL_law_815 816 rfl ?_
  refine w_sload mb200 dL_law_816 817 rfl hv.2.1 ?_
  refine w_virtual (a := m) (st := [sI (o_stale A (xs (nI i + 1).toNatClampNeg) (xs (nI i + 2).toNatClampNeg)).1]) mb200 dL_law_817 820 rfl 122 2 [sI (xs (nI i + 1).toNatClampNeg), sI (xs (nI i + 2).toNatClampNeg)] _ rfl rfl rfl lcL_103 H1.m (Nat.le_of_ble_eq_true rfl) (l_ref (bc := 0) (bs := 0) (p := o_stale A (xs (nI i + 1).toNatClampNeg) (xs (nI i + 2).toNatClampNeg)) H1 (fun ad S G Q hR hQ => r_stale (d := 138) hA hR hQ)) (Nat.zero_le _) (Nat.zero_le _) ?_
  rintro r h2 ⟨rfl, H2⟩
  exact w_icmp_eq (st := []) mb200 dL_law_820 871 823 rfl rfl (fun _ => K _ _ (zBok_stale hA) H2 _ _ (by omega) (by omega)) (fun y => absurd rfl y)
theorem l_count {b L i x m : Nat} {xs : Nat → Int32} {Q : Option sV → hp → Prop} {h : hp} {bc bs : Nat} {A : zB} (hv : vp_in (nI i + 1) L ∧ vp_in (nI i + 2) L ∧ vp_in (nI i + 3) L ∧ vp_in (nI i + 4) L ∧ vp_in (nI i + 5) L) (hA : zBok A) (H : LJ x m A A h) (hbc : 300 ≤ bc) (hbs : 3000 ≤ bs) (K : ∀ A' h', zBok A' → LJ x m A' A' h' → ∀ bc' bs', bc - 300 ≤ bc' → bs - 3000 ≤ bs' → sWP (sCall 140) (some (b, L, xs)) 200 Q 871 [sR (some b), sR (some x), sR (some m), sI (nI i)] [] h' bc' bs') : sWP (sCall 140) (some (b, L, xs)) 200 Q 825 [sR (some b), sR (some x), sR (some m), sI (nI i)] [] h bc bs := by
  refine w_aload_n mb200 dL_law_825 826 rfl rfl ?_
  refine w_aload_n mb200 dL_law_826 827 rfl rfl ?_
  refine w_iload_n mb200 dL_law_827 828 rfl rfl ?_
  refine w_iconst mb200 dL_law_828 829 rfl 1 (by decide) ?_
  refine w_iadd mb200 dL_law_829 830 rfl ?_
  refine w_sload mb200 dL_law_830 831 rfl hv.1 ?_
  refine w_virtual (a := x) (st := []) mb200 dL_law_831 834 rfl 66 1 [sI (xs (nI i + 1).toNatClampNeg)] _ rfl rfl rfl lcL_104 H.x (Nat.le_of_ble_eq_true rfl) (l_cls (p := o_count A (xs (nI i + 1).toNatClampNeg)) H (fun Fg V D Q hR hQ => c_count (d := 131) hA hR hQ)) hbc hbs ?_
  rintro r h1 ⟨rfl, H1⟩
  refine w_aload_n mb200 dL_law_834 835 rfl rfl ?_
  refine w_aload_n mb200 dL_law_835 836 rfl rfl ?_
  refine w_iload_n mb200 dL_law_836 837 rfl rfl ?_
  refine w_iconst mb200 dL_law_837 838 rfl 1 (by decide) ?_
  refine w_iadd mb200 dL_law_838 839 rfl ?_
  refine w_sload mb200 dL_law_839 840 rfl hv.1 ?_
  refine w_virtual (a := m) (st := [sI (o_count A (xs (nI i + 1).toNatClampNeg)).1]) mb200 dL_law_840 843 rfl 123 1 [sI (xs (nI i + 1).toNatClampNeg)] _ rfl rfl rfl lcL_107 H1.m (Nat.le_of_ble_eq_true rfl) (l_ref (bc := 0) (bs := 0) (p := o_count A (xs (nI i + 1).toNatClampNeg)) H1 (fun ad S G Q hR hQ => r_count (d := 138) hA hR hQ)) (Nat.zero_le _) (Nat.zero_le _) ?_
  rintro r h2 ⟨rfl, H2⟩
  exact w_icmp_eq (st := []) mb200 dL_law_843 871 846 rfl rfl (fun _ => K _ _ (hA) H2 _ _ (by omega) (by omega)) (fun y => absurd rfl y)
theorem l_found {b L i x m : Nat} {xs : Nat → Int32} {Q : Option sV → hp → Prop} {h : hp} {bc bs : Nat} {A : zB} (hv : vp_in (nI i + 1) L ∧ vp_in (nI i + 2) L ∧ vp_in (nI i + 3) L ∧ vp_in (nI i + 4) L ∧ vp_in (nI i + 5) L) (hA : zBok A) (H : LJ x m A A h) (hbc : 300 ≤ bc) (hbs : 3000 ≤ bs) (K : ∀ A' h', zBok A' → LJ x m A' A' h' → ∀ bc' bs', bc - 300 ≤ bc' → bs - 3000 ≤ bs' → sWP (sCall 140) (some (b, L, xs)) 200 Q 871 [sR (some b), sR (some x), sR (some m), sI (nI i)] [] h' bc' bs') : sWP (sCall 140) (some (b, L, xs)) 200 Q 848 [sR (some b), sR (some x), sR (some m), sI (nI i)] [] h bc bs := by
  refine w_aload_n mb200 dL_law_848 849 rfl rfl ?_
  refine w_aload_n mb200 dL_law_849 850 rfl rfl ?_
  refine w_iload_n mb200 dL_law_850 851 rfl rfl ?_
  refine w_iconst mb200 dL_law_851 852 rfl 1 (by decide) ?_
  refine w_iadd mb200 dL_law_852 853 rfl ?_
  refine w_sload mb200 dL_law_853 854 rfl hv.1 ?_
  refine w_virtual (a := x) (st := []) mb200 dL_law_854 857 rfl 67 1 [sI (xs (nI i + 1).toNatClampNeg)] _ rfl rfl rfl lcL_108 H.x (Nat.le_of_ble_eq_true rfl) (l_cls (p := o_found A (xs (nI i + 1).toNatClampNeg)) H (fun Fg V D Q hR hQ => c_found (d := 131) hR hQ)) hbc hbs ?_
  rintro r h1 ⟨rfl, H1⟩
  refine w_aload_n mb200 dL_law_857 858 rfl rfl ?_
  refine w_aload_n mb200 dL_law_858 859 rfl rfl ?_
  refine w_iload_n mb200 dL_law_859 860 rfl rfl ?_
  refine w_iconst mb200 dL_law_860 861 rfl 1 (by decide) ?_
  refine w_iadd mb200 dL_law_861 862 rfl ?_
  refine w_sload mb200 dL_law_862 863 rfl hv.1 ?_
  refine w_virtual (a := m) (st := [sI (o_found A (xs (nI i + 1).toNatClampNeg)).1]) mb200 dL_law_863 866 rfl 124 1 [sI (xs (nI i + 1).toNatClampNeg)] _ rfl rfl rfl lcL_111 H1.m (Nat.le_of_ble_eq_true rfl) (l_ref (bc := 0) (bs := 0) (p := o_found A (xs (nI i + 1).toNatClampNeg)) H1 (fun ad S G Q hR hQ => r_found (d := 138) hR hQ)) (Nat.zero_le _) (Nat.zero_le _) ?_
  rintro r h2 ⟨rfl, H2⟩
  exact w_icmp_eq (st := []) mb200 dL_law_866 871 869 rfl rfl (fun _ => K _ _ (hA) H2 _ _ (by omega) (by omega)) (fun y => absurd rfl y)
theorem l_le {L i : Nat} (hL : L ≤ 3072) (hi : i ≤ 4000) : (nI L - 6 < nI i) ↔ L < i + 6 := by
  have e1 := nI_toInt (n := L) (by omega)
  have e2 := nI_toInt (n := i) (by omega)
  have e3 : (nI L - 6).toInt = (L : Int) - 6 := by
    rw [Int32.toInt_sub, e1, show (6 : Int32).toInt = 6 from rfl]
    exact Int.bmod_eq_of_le (by omega) (by omega)
  rw [Int32.lt_iff_toInt_lt, e2, e3]
  omega
theorem l_in {L i : Nat} (hL : L ≤ 3072) (hi : i + 6 ≤ L) : vp_in (nI i + 1) L ∧ vp_in (nI i + 2) L ∧ vp_in (nI i + 3) L ∧ vp_in (nI i + 4) L ∧ vp_in (nI i + 5) L :=
  ⟨vin (i + 1) (nI_add i 1) (by omega) (by omega), vin (i + 2) (nI_add i 2) (by omega) (by omega), vin (i + 3) (nI_add i 3) (by omega) (by omega), vin (i + 4) (nI_add i 4) (by omega) (by omega), vin (i + 5) (nI_add i 5) (by omega) (by omega)⟩
theorem l_loop {b L x m : Nat} {xs : Nat → Int32} {Q : Option sV → hp → Prop} (hL : L ≤ 3072) (hQ : ∀ h, Q (some (sI 1)) h) : ∀ (e i : Nat) (h : hp) (bc bs : Nat) (A : zB), L < i + 6 * e + 6 → i ≤ 3072 → 300 * e ≤ bc → 3000 * e ≤ bs → zBok A → LJ x m A A h → sWP (sCall 140) (some (b, L, xs)) 200 Q 18 [sR (some b), sR (some x), sR (some m), sI (nI i)] [] h bc bs := by
  intro e
  induction e with
  | zero =>
    intro i h bc bs A he hi _ _ hA H
    refine w_iload_n mb200 dL_law_18 19 rfl rfl ?_
    refine w_aload_n mb200 dL_law_19 20 rfl rfl ?_
    refine w_slen mb200 dL_law_20 21 rfl ?_
    refine w_bipush mb200 dL_law_21 23 rfl 6 (by decide) ?_
    refine w_isub mb200 dL_law_23 24 rfl ?_
    refine w_icmp_gt (st := []) mb200 dL_law_24 877 27 rfl rfl (fun _ => ?_) (fun z => absurd ((l_le hL (by omega)).mpr (by omega)) z)
    refine w_iconst mb200 dL_law_877 878 rfl 1 (by decide) ?_
    exact w_zret mb200 dL_law_878 rfl (Or.inr rfl) (hQ h)
  | succ e ih =>
    intro i h bc bs A he hi hbc hbs hA H
    refine w_iload_n mb200 dL_law_18 19 rfl rfl ?_
    refine w_aload_n mb200 dL_law_19 20 rfl rfl ?_
    refine w_slen mb200 dL_law_20 21 rfl ?_
    refine w_bipush mb200 dL_law_21 23 rfl 6 (by decide) ?_
    refine w_isub mb200 dL_law_23 24 rfl ?_
    refine w_icmp_gt (st := []) mb200 dL_law_24 877 27 rfl rfl (fun _ => ?_) (fun z => ?_)
    · refine w_iconst mb200 dL_law_877 878 rfl 1 (by decide) ?_
      exact w_zret mb200 dL_law_878 rfl (Or.inr rfl) (hQ h)
    have hi6 : i + 6 ≤ L := by
      by_cases q : L < i + 6
      · exact absurd ((l_le hL (by omega)).mpr q) z
      · omega
    have hv := l_in hL hi6
    have K : ∀ A' h', zBok A' → LJ x m A' A' h' → ∀ bc' bs', bc - 300 ≤ bc' → bs - 3000 ≤ bs' → sWP (sCall 140) (some (b, L, xs)) 200 Q 871 [sR (some b), sR (some x), sR (some m), sI (nI i)] [] h' bc' bs' := by
      intro A' h' hA' H' bc' bs' q1 q2
      refine w_iinc mb200 dL_law_871 874 rfl rfl (nI (i + 6)) (nI_add i 6) [sR (some b), sR (some x), sR (some m), sI (nI (i + 6))] rfl ?_
      refine w_goto mb200 dL_law_874 18 rfl ?_
      exact ih (i + 6) h' bc' bs' A' (by omega) (by omega) (by omega) (by omega) hA' H'
    have b1 : 300 ≤ bc := by omega
    have b2 : 3000 ≤ bs := by omega
    refine w_aload_n mb200 dL_law_27 28 rfl rfl ?_
    refine w_iload_n mb200 dL_law_28 29 rfl rfl ?_
    refine w_sload mb200 dL_law_29 30 rfl (vin i rfl (by omega) (by omega)) ?_
    refine w_bipush mb200 dL_law_30 32 rfl 31 (by decide) ?_
    refine w_iand mb200 dL_law_32 33 rfl ?_
    generalize xs (nI i).toNatClampNeg &&& 31 = w
    refine w_table (st := []) mb200 dL_law_33 (fun _ => ⟨871, rfl, K _ _ hA H _ _ (Nat.sub_le _ _) (Nat.sub_le _ _)⟩) (fun q => ?_)
    obtain ⟨n, hn⟩ : ∃ n, (w.toInt - 0).toNat = n := ⟨_, rfl⟩
    have n22 : n < 23 := by omega
    rw [hn]
    clear hn q
    match n, n22 with
    | 0, _ => exact ⟨107, 140, rfl, rfl, l_source hv hA H b1 b2 K⟩
    | 1, _ => exact ⟨140, 173, rfl, rfl, l_set hv hA H b1 b2 K⟩
    | 2, _ => exact ⟨183, 216, rfl, rfl, l_miss hv hA H b1 b2 K⟩
    | 3, _ => exact ⟨206, 239, rfl, rfl, l_copy hv hA H b1 b2 K⟩
    | 4, _ => exact ⟨269, 302, rfl, rfl, l_size hv hA H b1 b2 K⟩
    | 5, _ => exact ⟨292, 325, rfl, rfl, l_told hv hA H b1 b2 K⟩
    | 6, _ => exact ⟨325, 358, rfl, rfl, l_rule hv hA H b1 b2 K⟩
    | 7, _ => exact ⟨374, 407, rfl, rfl, l_input hv hA H b1 b2 K⟩
    | 8, _ => exact ⟨407, 440, rfl, rfl, l_turn hv hA H b1 b2 K⟩
    | 9, _ => exact ⟨450, 483, rfl, rfl, l_become hv hA H b1 b2 K⟩
    | 10, _ => exact ⟨509, 542, rfl, rfl, l_forget hv hA H b1 b2 K⟩
    | 11, _ => exact ⟨532, 565, rfl, rfl, l_of hv hA H b1 b2 K⟩
    | 12, _ => exact ⟨565, 598, rfl, rfl, l_trace hv hA H b1 b2 K⟩
    | 13, _ => exact ⟨608, 641, rfl, rfl, l_make hv hA H b1 b2 K⟩
    | 14, _ => exact ⟨631, 664, rfl, rfl, l_anew hv hA H b1 b2 K⟩
    | 15, _ => exact ⟨654, 687, rfl, rfl, l_outcome hv hA H b1 b2 K⟩
    | 16, _ => exact ⟨677, 710, rfl, rfl, l_part hv hA H b1 b2 K⟩
    | 17, _ => exact ⟨700, 733, rfl, rfl, l_ring hv hA H b1 b2 K⟩
    | 18, _ => exact ⟨723, 756, rfl, rfl, l_worked hv hA H b1 b2 K⟩
    | 19, _ => exact ⟨746, 779, rfl, rfl, l_looked hv hA H b1 b2 K⟩
    | 20, _ => exact ⟨759, 792, rfl, rfl, l_stale hv hA H b1 b2 K⟩
    | 21, _ => exact ⟨792, 825, rfl, rfl, l_count hv hA H b1 b2 K⟩
    | 22, _ => exact ⟨815, 848, rfl, rfl, l_found hv hA H b1 b2 K⟩
    | n + 23, q => omega
theorem cL6 {f : Nat} (h : f / 100 = 6) : cL f = 0 := by
  unfold cL
  split <;> first | rfl | omega
def v0 : kV := (fun _ => 0, fun _ _ => 0, fun _ _ => none, fun _ _ => 0, fun _ _ _ => 0, fun _ _ _ => none, fun _ => none, fun _ => 0, fun _ => none)
theorem v0_kD (a : Nat) : ¬ kD v0 a := by
  rintro (h | ⟨o, h⟩ | ⟨p, h⟩ | ⟨f, b, h, -⟩ | ⟨b, o, h, -⟩)
  · exact h rfl
  · cases h
  · cases h
  · exact absurd h.1 (by show ¬ 0 = f / 100 + 1; omega)
  · cases h
theorem v0_CS (h0 h : hp) : CS (fun _ => False) h0 v0 h := by
  refine ⟨fun a ha => absurd rfl ha, fun a f ha => absurd ha ?_, fun a f ha => absurd ha ?_, fun f a hl => absurd hl.1 ?_, fun f a g b hl => absurd hl.1 ?_, fun a o ho => (by cases ho), fun b p hp => (by cases hp), fun a ha => ha.elim⟩
  all_goals show ¬ 0 = f / 100 + 1
  all_goals omega
/-- the law, from its entry, in a heap of nothing -/
theorem law_body {b L : Nat} {xs : Nat → Int32} (hL : L ≤ 3072) {h : hp} (h0 : ∀ a, gk h a = 0) : sWP (sCall 140) (some (b, L, xs)) 200 (fun r _ => r = some (sI 1)) 0 [sR (some b), sU, sU, sU] [] h 600000 7302250 := by
  refine w_new mb200 dL_law_0 3 rfl 7 6 3 rfl lnL_7 rfl (Nat.le_of_ble_eq_true rfl) (Nat.le_of_ble_eq_true rfl) (fun x hx => ?_)
  refine w_dup mb200 dL_law_3 4 rfl rfl ?_
  have R0 : CS (fun _ => False) h (uX v0 x 7 (fun _ => 0)) (nw h x 7 0) := by
    refine (v0_CS h h).grow (c := 6) hx (by decide) (by decide) (fun a ha => absurd (h0 a) ha) (by rw [gk_nw, if_pos rfl]) (fun f => by rw [gi_nw, if_pos rfl]) (fun f _ _ => by rw [gr_nw, if_pos rfl]) (fun f hf hn => absurd (cL6 hf) hn) (fun f g hf _ hn => absurd (cL6 hf) hn)
  refine w_special (a := x) (st := [sR (some x)]) mb200 dL_law_4 7 rfl 44 0 [] _ rfl rfl rfl lcL_9 (Nat.le_of_ble_eq_true rfl) (c_Xinit (d := 135) (Q := fun r V2 => r = none ∧ ∃ D, dX D = x ∧ cRs D zA0 V2) (v0_kD x) R0 (fun V2 D e q => ⟨rfl, D, e, q⟩)) (Nat.le_of_ble_eq_true rfl) (Nat.le_of_ble_eq_true rfl) ?_
  rintro r h1 ⟨V, R1, rfl, D, eD, hD⟩
  refine w_astore_n (st := []) mb200 dL_law_7 8 rfl [sR (some b), sR (some x), sU, sU] (Nat.le_of_ble_eq_true rfl) rfl ?_
  refine w_new mb200 dL_law_8 11 rfl 8 7 61 rfl lnL_10 rfl (Nat.le_of_ble_eq_true rfl) (Nat.le_of_ble_eq_true rfl) (fun m hm => ?_)
  refine w_dup mb200 dL_law_11 12 rfl rfl ?_
  refine w_special (a := m) (st := [sR (some m)]) mb200 dL_law_12 15 rfl 72 0 [] _ rfl rfl rfl lcL_12 (Nat.le_of_ble_eq_true rfl) (c_Minit (d := 139) (Q := fun r h2 => r = none ∧ LJ x m zA0 zA0 h2) hm (fun ad S G h2 R2 hz q => ⟨rfl, ?_⟩)) (Nat.le_of_ble_eq_true rfl) (Nat.le_of_ble_eq_true rfl) ?_
  · have nF : ∀ a, LF m ad a → gk h1 a = 0 := by
      rintro a (rfl | ⟨k, hk, rfl⟩)
      · exact hm
      · exact hz k hk
    have R3 := R1.same (h2 := h2) (fun a ha => R2.2.2.2.2 a (fun z => R1.lv ha (nF a (.inl z))) (fun k hk z => R1.lv ha (nF a (.inr ⟨k, hk, z⟩))))
    obtain ⟨c1, c2, c3, c4, c5, c6, c7, -⟩ := R3
    exact ⟨ad, S, G, D, V, ⟨c1, c2, c3, c4, c5, c6, c7, fun a ha => ⟨R2.lv ha, hsame.rf, fun z => R1.live z (nF a ha)⟩⟩, R2.keep (fun a _ => hsame.rf), hD, q, eD⟩
  rintro r h2 ⟨rfl, H2⟩
  refine w_astore_n (st := []) mb200 dL_law_15 16 rfl [sR (some b), sR (some x), sR (some m), sU] (Nat.le_of_ble_eq_true rfl) rfl ?_
  refine w_iconst mb200 dL_law_16 17 rfl 0 (by decide) ?_
  refine w_istore_n (st := []) mb200 dL_law_17 18 rfl [sR (some b), sR (some x), sR (some m), sI (nI 0)] (Nat.le_of_ble_eq_true rfl) rfl ?_
  exact l_loop hL (fun _ => rfl) 512 0 h2 _ _ zA0 (by omega) (by omega) (Nat.le_of_ble_eq_true rfl) (Nat.le_of_ble_eq_true rfl) zBok_0 H2
