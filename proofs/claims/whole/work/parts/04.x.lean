/-! ===== the component's own methods, each with a general post ===== -/
section
variable {cl lm sz oc rs ch al hE en fr ph fn fe vf vl ve : Int32} {K A B C BN BE NX LN FN FE FL FH : Nat → Int32}
variable {cl' lm' sz' oc' rs' ch' al' hE' en' fr' ph' fn' fe' vf' vl' ve' : Int32} {K' A' B' C' BN' BE' NX' LN' FN' FE' FL' FH' : Nat → Int32}
theorem lx_ex1 {post : Int32 → Prop} {n z : Nat} (h : n < z) (hz : z < 2 ^ 31) (hp : post 1) : wpX_exists post (cl, lm, nI z, oc, rs, ch, al, hE, en, fr, ph, fn, fe, vf, vl, ve, K, A, B, C, BN, BE, NX, LN, FN, FE, FL, FH) (nI n) :=
  br_f (nI_pos (by omega)) (br_f (nI_ge h hz) hp)
theorem lx_ex0 {post : Int32 → Prop} {x : Int32} (h : x < 0 ∨ sz ≤ x) (hp : post 0) : wpX_exists post (cl, lm, sz, oc, rs, ch, al, hE, en, fr, ph, fn, fe, vf, vl, ve, K, A, B, C, BN, BE, NX, LN, FN, FE, FL, FH) x := by
  by_cases h0 : x < 0
  · exact br_t h0 hp
  · exact br_f h0 (br_t (h.resolve_left h0) hp)
theorem lx_chg1 {post : Int32 → SX → Prop} {c1 : Int32} (h : ch < al) (e : ch + 1 = c1) (hp : post 1 (cl, lm, sz, oc, rs, c1, al, hE, en, fr, ph, fn, fe, vf, vl, ve, K, A, B, C, BN, BE, NX, LN, FN, FE, FL, FH)) : wpX_chargeOne post (cl, lm, sz, oc, rs, ch, al, hE, en, fr, ph, fn, fe, vf, vl, ve, K, A, B, C, BN, BE, NX, LN, FN, FE, FL, FH) :=
  br_t h (nm_r e hp)
theorem lx_chg0 {post : Int32 → SX → Prop} (h : ¬ ch < al) (hp : post 0 (cl, lm, sz, 3, 0, ch, al, hE, en, fr, 2, fn, fe, vf, vl, ve, K, A, B, C, BN, BE, NX, LN, FN, FE, FL, FH)) : wpX_chargeOne post (cl, lm, sz, oc, rs, ch, al, hE, en, fr, ph, fn, fe, vf, vl, ve, K, A, B, C, BN, BE, NX, LN, FN, FE, FL, FH) :=
  br_f h hp
theorem lx_ext {post : Int32 → SX → Prop} {E p : Nat} {x y : Int32} (hEE : E < 241) (hp' : p < 241)
    (hp : post (nI E) (cl, lm, sz, oc, rs, ch, al, hE, nI (E + 1), fr, ph, fn, fe, vf, vl, ve, K, A, B, C, upd BN E x, upd BE E y, upd NX E (nI p), upd LN E (LN p + 1), FN, FE, FL, FH)) : wpX_extend post (cl, lm, sz, oc, rs, ch, al, hE, nI E, fr, ph, fn, fe, vf, vl, ve, K, A, B, C, BN, BE, NX, LN, FN, FE, FL, FH) (nI p) x y := by
  have i1 : vp_in (nI E) 241 := vp_in_nI hEE (by decide)
  have i2 : vp_in (nI p) 241 := vp_in_nI hp' (by decide)
  have e1 : (nI E).toNatClampNeg = E := nI_clamp (by omega)
  have e2 : (nI p).toNatClampNeg = p := nI_clamp (by omega)
  have f1 : upd BN (nI E).toNatClampNeg x = upd BN E x := by rw [e1]
  have f2 : upd BE (nI E).toNatClampNeg y = upd BE E y := by rw [e1]
  have f3 : upd NX (nI E).toNatClampNeg (nI p) = upd NX E (nI p) := by rw [e1]
  have f4 : upd LN (nI E).toNatClampNeg (LN (nI p).toNatClampNeg + 1) = upd LN E (LN p + 1) := by rw [e1, e2]
  exact ⟨i1, nm_r f1 ⟨i1, nm_r f2 ⟨i1, nm_r f3 ⟨i2, i1, nm_r f4 (nm_r (nI_1 E) hp)⟩⟩⟩⟩
theorem lx_push {post : SX → Prop} {d : Nat} {x y : Int32} (hd : d < 240)
    (hp : post (cl, lm, sz, oc, rs, ch, al, hE, en, nI (d + 1), ph, fn, fe, vf, vl, ve, K, A, B, C, BN, BE, NX, LN, upd FN d x, upd FE d y, FL, upd FH d 0)) : wpX_pushFrame post (cl, lm, sz, oc, rs, ch, al, hE, en, nI d, ph, fn, fe, vf, vl, ve, K, A, B, C, BN, BE, NX, LN, FN, FE, FL, FH) x y := by
  have i1 : vp_in (nI d) 240 := vp_in_nI hd (by decide)
  have e1 : (nI d).toNatClampNeg = d := nI_clamp (by omega)
  have f1 : upd FN (nI d).toNatClampNeg x = upd FN d x := by rw [e1]
  have f2 : upd FE (nI d).toNatClampNeg y = upd FE d y := by rw [e1]
  have f3 : upd FH (nI d).toNatClampNeg (vp_nar .boolean 0) = upd FH d 0 := by rw [e1, lk_b0]
  exact ⟨i1, nm_r f1 ⟨i1, nm_r f2 ⟨i1, nm_r f3 (nm_r (nI_1 d) hp)⟩⟩⟩
theorem lx_hasn {post : Int32 → Prop} {x i : Int32} (h : i < 0) (hp : post 0) : wpX_hasBinding post (cl, lm, sz, oc, rs, ch, al, hE, en, fr, ph, fn, fe, vf, vl, ve, K, A, B, C, BN, BE, NX, LN, FN, FE, FL, FH) x i := br_t h hp
theorem lx_has0 {post : Int32 → Prop} {z E e i : Nat} (h : lk_En z E BN BE NX LN) (he : e < E) (hi : i < 2 ^ 31) (ha : lk_an NX i e = 0) (hp : post 0) : wpX_hasBinding post (cl, lm, sz, oc, rs, ch, al, hE, en, fr, ph, fn, fe, vf, vl, ve, K, A, B, C, BN, BE, NX, LN, FN, FE, FL, FH) (nI e) (nI i) := by
  obtain ⟨l, hl, hL⟩ := lk_len h he
  have kE := h.2.1
  have e1 : (nI e).toNatClampNeg = e := nI_clamp (by omega)
  have q : ¬ i < l := fun z => (lk_an_len h i e l he hl hL).mpr z ha
  have c : LN (nI e).toNatClampNeg ≤ nI i := by rw [e1, hL]; exact nI_le (by omega) hi
  exact br_f (nI_pos hi) ⟨vp_in_nI (by omega) (by decide), br_t c hp⟩
theorem lx_has1 {post : Int32 → Prop} {z E e i : Nat} (h : lk_En z E BN BE NX LN) (he : e < E) (hi : i < 2 ^ 31) (ha : lk_an NX i e ≠ 0) (hp : post 1) : wpX_hasBinding post (cl, lm, sz, oc, rs, ch, al, hE, en, fr, ph, fn, fe, vf, vl, ve, K, A, B, C, BN, BE, NX, LN, FN, FE, FL, FH) (nI e) (nI i) := by
  obtain ⟨l, hl, hL⟩ := lk_len h he
  have kE := h.2.1
  have e1 : (nI e).toNatClampNeg = e := nI_clamp (by omega)
  have q : i < l := (lk_an_len h i e l he hl hL).mp ha
  have c : ¬ LN (nI e).toNatClampNeg ≤ nI i := by rw [e1, hL]; exact nI_ge q (by omega)
  exact br_f (nI_pos hi) ⟨vp_in_nI (by omega) (by decide), br_f c hp⟩
theorem lx_bind5 {post : Int32 → Prop} {z E : Nat} (h : lk_En z E BN BE NX LN) : ∀ j k e n : Nat, e < E → k + j < 2 ^ 31 → j < n → lk_an NX j e ≠ 0 → post (nI (lk_an NX j e)) →
    wX_bindingOf_5 post (nI (k + j)) cl lm sz oc rs ch al hE en fr ph fn fe vf vl ve K A B C BN BE NX LN FN FE FL FH n (nI e) (nI k) := by
  have kE := h.2.1
  intro j
  induction j with
  | zero =>
    intro k e n he hk hn ha hp
    obtain ⟨n', rfl⟩ : ∃ n', n = n' + 1 := ⟨n - 1, by omega⟩
    exact br_t (Int32.le_refl _) hp
  | succ j ih =>
    intro k e n he hk hn ha hp
    obtain ⟨n', rfl⟩ : ∃ n', n = n' + 1 := ⟨n - 1, by omega⟩
    have e0 : e ≠ 0 := by
      intro q
      subst q
      exact ha (lk_an0 NX (j + 1))
    obtain ⟨m, d, p, l, -, -, h3, -, -, -, h7, -, -⟩ := h.2.2.2 e (by omega) he
    have hp31 : p < 2 ^ 31 := by omega
    rw [lk_anS e0 hp31 h7] at ha hp
    have e1 : (nI e).toNatClampNeg = e := nI_clamp (by omega)
    have f1 : NX (nI e).toNatClampNeg = nI p := by rw [e1]; exact h7
    have e2 : k + (j + 1) = (k + 1) + j := by omega
    rw [e2]
    exact br_f (nI_ge (by omega) (by omega)) ⟨vp_in_nI (by omega) (by decide), nm_r f1 (nm_r (nI_1 k) (ih (k + 1) p n' (by omega) (by omega) (by omega) ha hp))⟩
theorem lx_bind {post : Int32 → Prop} {z E e i : Nat} (h : lk_En z E BN BE NX LN) (he : e < E) (hi : i < 2 ^ 31) (ha : lk_an NX i e ≠ 0) (hp : post (nI (lk_an NX i e))) : wpX_bindingOf post (cl, lm, sz, oc, rs, ch, al, hE, en, fr, ph, fn, fe, vf, vl, ve, K, A, B, C, BN, BE, NX, LN, FN, FE, FL, FH) (nI e) (nI i) := by
  have w := lx_bind5 (post := post) (cl := cl) (lm := lm) (sz := sz) (oc := oc) (rs := rs) (ch := ch) (al := al) (hE := hE) (en := en) (fr := fr) (ph := ph) (fn := fn) (fe := fe) (vf := vf) (vl := vl) (ve := ve) (K := K) (A := A) (B := B) (C := C) (BN := BN) (BE := BE) (NX := NX) (LN := LN) (FN := FN) (FE := FE) (FL := FL) (FH := FH) h i 0 e (i + 1) he (by omega) (by omega) ha hp
  rw [Nat.zero_add, nI_0] at w
  exact ⟨i + 1, w⟩
theorem lx_end {m s : Nat} (hs : s ≤ 1000) : lk_WX m s (cl, lm, sz, oc, rs, ch, al, hE, en, fr, 2, fn, fe, vf, vl, ve, K, A, B, C, BN, BE, NX, LN, FN, FE, FL, FH) cl lm sz oc rs ch al hE en fr 2 fn fe vf vl ve K A B C BN BE NX LN FN FE FL FH := by
  intro post hp n hn
  obtain ⟨n', rfl⟩ : ∃ n', n = n' + 1 := ⟨n - 1, by omega⟩
  exact br_f (lk_s1 hs) (br_t rfl hp)
theorem lx_s0 {m s : Nat} {u' : SX} (hs : s ≤ 1000) (h : ∀ post : SX → Prop, post (cl', lm', sz', oc', rs', ch', al', hE', en', fr', ph', fn', fe', vf', vl', ve', K', A', B', C', BN', BE', NX', LN', FN', FE', FL', FH') → wpX_evaluateFocus post (cl, lm, sz, oc, rs, ch, al, hE, en, fr, 0, fn, fe, vf, vl, ve, K, A, B, C, BN, BE, NX, LN, FN, FE, FL, FH)) (w : lk_WX m (s + 1) u' cl' lm' sz' oc' rs' ch' al' hE' en' fr' ph' fn' fe' vf' vl' ve' K' A' B' C' BN' BE' NX' LN' FN' FE' FL' FH') : lk_WX (m + 1) s u' cl lm sz oc rs ch al hE en fr 0 fn fe vf vl ve K A B C BN BE NX LN FN FE FL FH := by
  intro post hp n hn
  obtain ⟨n', rfl⟩ : ∃ n', n = n' + 1 := ⟨n - 1, by omega⟩
  exact br_f (lk_s1 hs) (br_f (by decide) (br_t rfl (h _ (nm_r (nI_1 s) (w post hp n' (by omega))))))
theorem lx_sT {m s : Nat} {u' : SX} (hs : s ≤ 1000) (h : ∀ post : SX → Prop, post (cl', lm', sz', oc', rs', ch', al', hE', en', fr', ph', fn', fe', vf', vl', ve', K', A', B', C', BN', BE', NX', LN', FN', FE', FL', FH') → wpX_takeValue post (cl, lm, sz, oc, rs, ch, al, hE, en, nI 0, 1, fn, fe, vf, vl, ve, K, A, B, C, BN, BE, NX, LN, FN, FE, FL, FH)) (w : lk_WX m (s + 1) u' cl' lm' sz' oc' rs' ch' al' hE' en' fr' ph' fn' fe' vf' vl' ve' K' A' B' C' BN' BE' NX' LN' FN' FE' FL' FH') : lk_WX (m + 1) s u' cl lm sz oc rs ch al hE en (nI 0) 1 fn fe vf vl ve K A B C BN BE NX LN FN FE FL FH := by
  intro post hp n hn
  obtain ⟨n', rfl⟩ : ∃ n', n = n' + 1 := ⟨n - 1, by omega⟩
  exact br_f (lk_s1 hs) (br_f (by decide) (br_f (by decide) (br_t (show nI 0 ≤ 0 by decide) (h _ (nm_r (nI_1 s) (w post hp n' (by omega)))))))
theorem lx_sR {m s d : Nat} {u' : SX} (hs : s ≤ 1000) (hd : d < 240) (h : ∀ post : SX → Prop, post (cl', lm', sz', oc', rs', ch', al', hE', en', fr', ph', fn', fe', vf', vl', ve', K', A', B', C', BN', BE', NX', LN', FN', FE', FL', FH') → wpX_resumeFrame post (cl, lm, sz, oc, rs, ch, al, hE, en, nI (d + 1), 1, fn, fe, vf, vl, ve, K, A, B, C, BN, BE, NX, LN, FN, FE, FL, FH)) (w : lk_WX m (s + 1) u' cl' lm' sz' oc' rs' ch' al' hE' en' fr' ph' fn' fe' vf' vl' ve' K' A' B' C' BN' BE' NX' LN' FN' FE' FL' FH') : lk_WX (m + 1) s u' cl lm sz oc rs ch al hE en (nI (d + 1)) 1 fn fe vf vl ve K A B C BN BE NX LN FN FE FL FH := by
  intro post hp n hn
  obtain ⟨n', rfl⟩ : ∃ n', n = n' + 1 := ⟨n - 1, by omega⟩
  exact br_f (lk_s1 hs) (br_f (by decide) (br_f (by decide) (br_f (nI_nle (by omega) (by omega)) (h _ (nm_r (nI_1 s) (w post hp n' (by omega)))))))
theorem lf_exh {post : SX → Prop} (h : ¬ ch < al) (hp : post (cl, lm, sz, 3, 0, ch, al, hE, en, fr, 2, fn, fe, vf, vl, ve, K, A, B, C, BN, BE, NX, LN, FN, FE, FL, FH)) : wpX_evaluateFocus post (cl, lm, sz, oc, rs, ch, al, hE, en, fr, 0, fn, fe, vf, vl, ve, K, A, B, C, BN, BE, NX, LN, FN, FE, FL, FH) := by
  unfold wpX_evaluateFocus
  refine lx_chg0 h ?_
  exact br_t rfl hp
theorem lf_lit {post : SX → Prop} {c1 a : Int32} (hc : ch < al) (hc1 : ch + 1 = c1) (hin : vp_in fn 32) (hK : K fn.toNatClampNeg = 0) (hA : A fn.toNatClampNeg = a)
    (hp : post (cl, lm, sz, oc, rs, c1, al, hE, en, fr, 1, fn, fe, 0, a, ve, K, A, B, C, BN, BE, NX, LN, FN, FE, FL, FH)) : wpX_evaluateFocus post (cl, lm, sz, oc, rs, ch, al, hE, en, fr, 0, fn, fe, vf, vl, ve, K, A, B, C, BN, BE, NX, LN, FN, FE, FL, FH) := by
  subst hA
  unfold wpX_evaluateFocus
  refine lx_chg1 hc hc1 ?_
  exact br_f (by decide) ⟨hin, nm_r hK (br_f (by decide) (br_f (by decide) (br_t rfl ⟨hin, hp⟩)))⟩
theorem lj_unb {post : SX → Prop} {x y a : Int32} (hin : vp_in x 32) (hA : A x.toNatClampNeg = a) (hb : ∀ Q : Int32 → Prop, Q 0 → wpX_hasBinding Q (cl, lm, sz, oc, rs, ch, al, hE, en, fr, ph, fn, fe, vf, vl, ve, K, A, B, C, BN, BE, NX, LN, FN, FE, FL, FH) y a)
    (hp : post (cl, lm, sz, 4, x, ch, al, hE, en, fr, 2, fn, fe, vf, vl, ve, K, A, B, C, BN, BE, NX, LN, FN, FE, FL, FH)) : wpX_evaluateVariable post (cl, lm, sz, oc, rs, ch, al, hE, en, fr, ph, fn, fe, vf, vl, ve, K, A, B, C, BN, BE, NX, LN, FN, FE, FL, FH) x y := by
  unfold wpX_evaluateVariable
  exact ⟨hin, nm_r hA (hb _ (br_t rfl hp))⟩
theorem lj_bnd {post : SX → Prop} {x y a b n' e' : Int32} (hin : vp_in x 32) (hA : A x.toNatClampNeg = a) (hb1 : ∀ Q : Int32 → Prop, Q 1 → wpX_hasBinding Q (cl, lm, sz, oc, rs, ch, al, hE, en, fr, ph, fn, fe, vf, vl, ve, K, A, B, C, BN, BE, NX, LN, FN, FE, FL, FH) y a)
    (hb2 : ∀ Q : Int32 → Prop, Q b → wpX_bindingOf Q (cl, lm, sz, oc, rs, ch, al, hE, en, fr, ph, fn, fe, vf, vl, ve, K, A, B, C, BN, BE, NX, LN, FN, FE, FL, FH) y a) (hi : vp_in b 241) (hN : BN b.toNatClampNeg = n') (hEE : BE b.toNatClampNeg = e')
    (hp : post (cl, lm, sz, oc, rs, ch, al, hE, en, fr, 0, n', e', vf, vl, ve, K, A, B, C, BN, BE, NX, LN, FN, FE, FL, FH)) : wpX_evaluateVariable post (cl, lm, sz, oc, rs, ch, al, hE, en, fr, ph, fn, fe, vf, vl, ve, K, A, B, C, BN, BE, NX, LN, FN, FE, FL, FH) x y := by
  subst hN hEE
  unfold wpX_evaluateVariable
  exact ⟨hin, nm_r hA (hb1 _ (br_f (by decide) (hb2 _ ⟨hi, hi, hp⟩)))⟩
theorem lf_var {post : SX → Prop} {c1 : Int32} (hc : ch < al) (hc1 : ch + 1 = c1) (hin : vp_in fn 32) (hK : K fn.toNatClampNeg = 1)
    (hv : ∀ Q : SX → Prop, Q (cl', lm', sz', oc', rs', ch', al', hE', en', fr', ph', fn', fe', vf', vl', ve', K', A', B', C', BN', BE', NX', LN', FN', FE', FL', FH') → wpX_evaluateVariable Q (cl, lm, sz, oc, rs, c1, al, hE, en, fr, 0, fn, fe, vf, vl, ve, K, A, B, C, BN, BE, NX, LN, FN, FE, FL, FH) fn fe) (hp : post (cl', lm', sz', oc', rs', ch', al', hE', en', fr', ph', fn', fe', vf', vl', ve', K', A', B', C', BN', BE', NX', LN', FN', FE', FL', FH')) : wpX_evaluateFocus post (cl, lm, sz, oc, rs, ch, al, hE, en, fr, 0, fn, fe, vf, vl, ve, K, A, B, C, BN, BE, NX, LN, FN, FE, FL, FH) := by
  unfold wpX_evaluateFocus
  refine lx_chg1 hc hc1 ?_
  exact br_f (by decide) ⟨hin, nm_r hK (br_f (by decide) (br_f (by decide) (br_f (by decide) (br_t rfl (hv _ hp)))))⟩
theorem lf_lam {post : SX → Prop} {c1 : Int32} (hc : ch < al) (hc1 : ch + 1 = c1) (hin : vp_in fn 32) (hK : K fn.toNatClampNeg = 2)
    (hp : post (cl, lm, sz, oc, rs, c1, al, hE, en, fr, 1, fn, fe, 1, fn, fe, K, A, B, C, BN, BE, NX, LN, FN, FE, FL, FH)) : wpX_evaluateFocus post (cl, lm, sz, oc, rs, ch, al, hE, en, fr, 0, fn, fe, vf, vl, ve, K, A, B, C, BN, BE, NX, LN, FN, FE, FL, FH) := by
  unfold wpX_evaluateFocus
  refine lx_chg1 hc hc1 ?_
  exact br_f (by decide) ⟨hin, nm_r hK (br_f (by decide) (br_f (by decide) (br_f (by decide) (br_f (by decide) (br_t rfl hp)))))⟩
theorem lf_rec {post : SX → Prop} {c1 a : Int32} {E e : Nat} (hc : ch < al) (hc1 : ch + 1 = c1) (hin : vp_in fn 32) (hK : K fn.toNatClampNeg = 3) (hA : A fn.toNatClampNeg = a) (hEE : E < 241) (he : e < 241)
    (hp : post (cl, lm, sz, oc, rs, c1, al, hE, nI (E + 1), fr, 0, a, nI E, vf, vl, ve, K, A, B, C, upd BN E fn, upd BE E (nI e), upd NX E (nI e), upd LN E (LN e + 1), FN, FE, FL, FH)) : wpX_evaluateFocus post (cl, lm, sz, oc, rs, ch, al, hE, nI E, fr, 0, fn, nI e, vf, vl, ve, K, A, B, C, BN, BE, NX, LN, FN, FE, FL, FH) := by
  subst hA
  unfold wpX_evaluateFocus
  refine lx_chg1 hc hc1 ?_
  refine br_f (by decide) ⟨hin, nm_r hK (br_f (by decide) (br_f (by decide) (br_f (by decide) (br_f (by decide) (br_f (by decide) (br_t rfl ?_))))))⟩
  unfold wpX_evaluateRecursive
  exact lx_ext hEE he ⟨hin, hp⟩
theorem lf_push {post : SX → Prop} {c1 a kk : Int32} {d : Nat} (hc : ch < al) (hc1 : ch + 1 = c1) (hin : vp_in fn 32) (hK : K fn.toNatClampNeg = kk) (h0 : ¬ kk < 0) (h3 : 3 < kk) (hA : A fn.toNatClampNeg = a) (hd : d < 240)
    (hp : post (cl, lm, sz, oc, rs, c1, al, hE, en, nI (d + 1), 0, a, fe, vf, vl, ve, K, A, B, C, BN, BE, NX, LN, upd FN d fn, upd FE d fe, FL, upd FH d 0)) : wpX_evaluateFocus post (cl, lm, sz, oc, rs, ch, al, hE, en, nI d, 0, fn, fe, vf, vl, ve, K, A, B, C, BN, BE, NX, LN, FN, FE, FL, FH) := by
  subst hA
  unfold wpX_evaluateFocus
  refine lx_chg1 hc hc1 ?_
  refine br_f (by decide) ⟨hin, nm_r hK (br_f h0 (br_t h3 ?_))⟩
  exact lx_push hd ⟨hin, hp⟩
theorem lj_int {post : SX → Prop} (hp : post (cl, lm, sz, 1, vl, ch, al, 0, en, fr, 2, fn, fe, 0, vl, ve, K, A, B, C, BN, BE, NX, LN, FN, FE, FL, FH)) : wpX_takeValue post (cl, lm, sz, oc, rs, ch, al, hE, en, fr, ph, fn, fe, 0, vl, ve, K, A, B, C, BN, BE, NX, LN, FN, FE, FL, FH) := br_t rfl (br_t rfl hp)
theorem lj_fun {post : SX → Prop} (hp : post (cl, lm, sz, 2, vl, ch, al, ve, en, fr, 2, fn, fe, 1, vl, ve, K, A, B, C, BN, BE, NX, LN, FN, FE, FL, FH)) : wpX_takeValue post (cl, lm, sz, oc, rs, ch, al, hE, en, fr, ph, fn, fe, 1, vl, ve, K, A, B, C, BN, BE, NX, LN, FN, FE, FL, FH) := br_f (by decide) (br_f (by decide) hp)
theorem lo_zd {post : SX → Prop} {x l r : Int32} (hin : vp_in x 32) (hK : K x.toNatClampNeg = 9) (hr : r = 0) (hp : post (cl, lm, sz, 7, x, ch, al, hE, en, fr, 2, fn, fe, vf, vl, ve, K, A, B, C, BN, BE, NX, LN, FN, FE, FL, FH)) : wpX_operate post (cl, lm, sz, oc, rs, ch, al, hE, en, fr, ph, fn, fe, vf, vl, ve, K, A, B, C, BN, BE, NX, LN, FN, FE, FL, FH) x l r := by
  unfold wpX_operate
  exact ⟨hin, nm_r hK (br_f (by decide) (br_f (by decide) (br_f (by decide) (br_f (by decide) (br_f (by decide) (br_t rfl (br_t hr hp)))))))⟩
theorem lo_op {post : SX → Prop} {x l r : Int32} {k : Nat} (h6 : 6 ≤ k) (hk : k < 12) (hin : vp_in x 32) (hK : K x.toNatClampNeg = nI k) (hr : k = 9 → ¬ r = 0)
    (hp : post (cl, lm, sz, oc, rs, ch, al, hE, en, fr, 1, fn, fe, 0, lk_op k l r, ve, K, A, B, C, BN, BE, NX, LN, FN, FE, FL, FH)) : wpX_operate post (cl, lm, sz, oc, rs, ch, al, hE, en, fr, ph, fn, fe, vf, vl, ve, K, A, B, C, BN, BE, NX, LN, FN, FE, FL, FH) x l r := by
  rcases (show k = 6 ∨ k = 7 ∨ k = 8 ∨ k = 9 ∨ k = 10 ∨ k = 11 by omega) with rfl | rfl | rfl | rfl | rfl | rfl
  · have q : K x.toNatClampNeg = 6 := hK
    have f : lk_op 6 l r = l + r := rfl
    rw [f] at hp
    unfold wpX_operate
    exact ⟨hin, nm_r q (br_f (by decide) (br_f (by decide) (br_t rfl hp)))⟩
  · have q : K x.toNatClampNeg = 7 := hK
    have f : lk_op 7 l r = l - r := rfl
    rw [f] at hp
    unfold wpX_operate
    exact ⟨hin, nm_r q (br_f (by decide) (br_f (by decide) (br_f (by decide) (br_t rfl hp))))⟩
  · have q : K x.toNatClampNeg = 8 := hK
    have f : lk_op 8 l r = l * r := rfl
    rw [f] at hp
    unfold wpX_operate
    exact ⟨hin, nm_r q (br_f (by decide) (br_f (by decide) (br_f (by decide) (br_f (by decide) (br_t rfl hp)))))⟩
  · have q : K x.toNatClampNeg = 9 := hK
    have f : lk_op 9 l r = l / r := rfl
    rw [f] at hp
    unfold wpX_operate
    exact ⟨hin, nm_r q (br_f (by decide) (br_f (by decide) (br_f (by decide) (br_f (by decide) (br_f (by decide) (br_t rfl (br_f (hr rfl) ⟨hr rfl, hp⟩)))))))⟩
  · have q : K x.toNatClampNeg = 10 := hK
    have f : lk_op 10 l r = if r ≤ l then 0 else 1 := rfl
    rw [f] at hp
    unfold wpX_operate
    refine ⟨hin, nm_r q (br_f (by decide) (br_f (by decide) (br_f (by decide) (br_f (by decide) (br_f (by decide) (br_f (by decide) (br_t rfl ?_)))))))⟩
    by_cases c : r ≤ l
    · rw [if_pos c] at hp
      exact br_t c hp
    · rw [if_neg c] at hp
      exact br_f c hp
  · have q : K x.toNatClampNeg = 11 := hK
    have f : lk_op 11 l r = if l = r then 1 else 0 := rfl
    rw [f] at hp
    unfold wpX_operate
    refine ⟨hin, nm_r q (br_f (by decide) (br_f (by decide) (br_f (by decide) (br_f (by decide) (br_f (by decide) (br_f (by decide) (br_f (by decide) (br_t rfl ?_))))))))⟩
    by_cases c : l = r
    · rw [if_pos c] at hp
      exact br_t c hp
    · rw [if_neg c] at hp
      exact br_f c hp
theorem lr_nf {post : SX → Prop} {d : Nat} {f e : Int32} (hd : d < 240) (hN : FN d = f) (hF : FE d = e) (hin : vp_in f 32) (hK : K f.toNatClampNeg = 4)
    (hp : post (cl, lm, sz, 5, f, ch, al, hE, en, nI d, 2, fn, fe, 0, vl, ve, K, A, B, C, BN, BE, NX, LN, FN, FE, FL, FH)) : wpX_resumeFrame post (cl, lm, sz, oc, rs, ch, al, hE, en, nI (d + 1), ph, fn, fe, 0, vl, ve, K, A, B, C, BN, BE, NX, LN, FN, FE, FL, FH) := by
  have i1 : vp_in (nI d) 240 := vp_in_nI hd (by decide)
  have e1 : (nI d).toNatClampNeg = d := nI_clamp (by omega)
  have gN : FN (nI d).toNatClampNeg = f := by rw [e1]; exact hN
  have gF : FE (nI d).toNatClampNeg = e := by rw [e1]; exact hF
  unfold wpX_resumeFrame
  refine nm_r (nI_pred d) ⟨i1, nm_r gN ⟨i1, nm_r gF ⟨hin, ?_⟩⟩⟩
  exact br_t hK (br_t rfl hp)
theorem lr_ap {post : SX → Prop} {d : Nat} {f e a b : Int32} (hd : d < 240) (hN : FN d = f) (hF : FE d = e) (hin : vp_in f 32) {E p : Nat} (hK : K f.toNatClampNeg = 4) (hEE : E < 241) (hp' : p < 241) (hv : vp_in vl 32) (hA : A vl.toNatClampNeg = a) (hB : B f.toNatClampNeg = b)
    (hp : post (cl, lm, sz, oc, rs, ch, al, hE, nI (E + 1), nI d, 0, a, nI E, 1, vl, nI p, K, A, B, C, upd BN E b, upd BE E e, upd NX E (nI p), upd LN E (LN p + 1), FN, FE, FL, FH)) : wpX_resumeFrame post (cl, lm, sz, oc, rs, ch, al, hE, nI E, nI (d + 1), ph, fn, fe, 1, vl, nI p, K, A, B, C, BN, BE, NX, LN, FN, FE, FL, FH) := by
  subst hA hB
  have i1 : vp_in (nI d) 240 := vp_in_nI hd (by decide)
  have e1 : (nI d).toNatClampNeg = d := nI_clamp (by omega)
  have gN : FN (nI d).toNatClampNeg = f := by rw [e1]; exact hN
  have gF : FE (nI d).toNatClampNeg = e := by rw [e1]; exact hF
  unfold wpX_resumeFrame
  refine nm_r (nI_pred d) ⟨i1, nm_r gN ⟨i1, nm_r gF ⟨hin, ?_⟩⟩⟩
  refine br_t hK (br_f (by decide) ⟨hin, ?_⟩)
  exact lx_ext hEE hp' ⟨hv, hp⟩
theorem lr_ni {post : SX → Prop} {d : Nat} {f e : Int32} (hd : d < 240) (hN : FN d = f) (hF : FE d = e) (hin : vp_in f 32) (hK : ¬ K f.toNatClampNeg = 4)
    (hp : post (cl, lm, sz, 6, f, ch, al, hE, en, nI d, 2, fn, fe, 1, vl, ve, K, A, B, C, BN, BE, NX, LN, FN, FE, FL, FH)) : wpX_resumeFrame post (cl, lm, sz, oc, rs, ch, al, hE, en, nI (d + 1), ph, fn, fe, 1, vl, ve, K, A, B, C, BN, BE, NX, LN, FN, FE, FL, FH) := by
  have i1 : vp_in (nI d) 240 := vp_in_nI hd (by decide)
  have e1 : (nI d).toNatClampNeg = d := nI_clamp (by omega)
  have gN : FN (nI d).toNatClampNeg = f := by rw [e1]; exact hN
  have gF : FE (nI d).toNatClampNeg = e := by rw [e1]; exact hF
  unfold wpX_resumeFrame
  refine nm_r (nI_pred d) ⟨i1, nm_r gN ⟨i1, nm_r gF ⟨hin, ?_⟩⟩⟩
  exact br_f hK (br_f (by decide) hp)
theorem lr_b0 {post : SX → Prop} {d : Nat} {f e c : Int32} (hd : d < 240) (hN : FN d = f) (hF : FE d = e) (hin : vp_in f 32) (h4 : ¬ K f.toNatClampNeg = 4) (hK : K f.toNatClampNeg = 5) (hv : vl = 0) (hC : C f.toNatClampNeg = c)
    (hp : post (cl, lm, sz, oc, rs, ch, al, hE, en, nI d, 0, c, e, 0, vl, ve, K, A, B, C, BN, BE, NX, LN, FN, FE, FL, FH)) : wpX_resumeFrame post (cl, lm, sz, oc, rs, ch, al, hE, en, nI (d + 1), ph, fn, fe, 0, vl, ve, K, A, B, C, BN, BE, NX, LN, FN, FE, FL, FH) := by
  subst hC
  have i1 : vp_in (nI d) 240 := vp_in_nI hd (by decide)
  have e1 : (nI d).toNatClampNeg = d := nI_clamp (by omega)
  have gN : FN (nI d).toNatClampNeg = f := by rw [e1]; exact hN
  have gF : FE (nI d).toNatClampNeg = e := by rw [e1]; exact hF
  unfold wpX_resumeFrame
  refine nm_r (nI_pred d) ⟨i1, nm_r gN ⟨i1, nm_r gF ⟨hin, ?_⟩⟩⟩
  exact br_f h4 (br_t rfl ⟨hin, br_t hK (br_t hv ⟨hin, hp⟩)⟩)
theorem lr_b1 {post : SX → Prop} {d : Nat} {f e b : Int32} (hd : d < 240) (hN : FN d = f) (hF : FE d = e) (hin : vp_in f 32) (h4 : ¬ K f.toNatClampNeg = 4) (hK : K f.toNatClampNeg = 5) (hv : ¬ vl = 0) (hB : B f.toNatClampNeg = b)
    (hp : post (cl, lm, sz, oc, rs, ch, al, hE, en, nI d, 0, b, e, 0, vl, ve, K, A, B, C, BN, BE, NX, LN, FN, FE, FL, FH)) : wpX_resumeFrame post (cl, lm, sz, oc, rs, ch, al, hE, en, nI (d + 1), ph, fn, fe, 0, vl, ve, K, A, B, C, BN, BE, NX, LN, FN, FE, FL, FH) := by
  subst hB
  have i1 : vp_in (nI d) 240 := vp_in_nI hd (by decide)
  have e1 : (nI d).toNatClampNeg = d := nI_clamp (by omega)
  have gN : FN (nI d).toNatClampNeg = f := by rw [e1]; exact hN
  have gF : FE (nI d).toNatClampNeg = e := by rw [e1]; exact hF
  unfold wpX_resumeFrame
  refine nm_r (nI_pred d) ⟨i1, nm_r gN ⟨i1, nm_r gF ⟨hin, ?_⟩⟩⟩
  exact br_f h4 (br_t rfl ⟨hin, br_t hK (br_f hv ⟨hin, hp⟩)⟩)
theorem lr_lf {post : SX → Prop} {d : Nat} {f e b : Int32} (hd : d < 240) (hN : FN d = f) (hF : FE d = e) (hin : vp_in f 32) (h4 : ¬ K f.toNatClampNeg = 4) (h5 : ¬ K f.toNatClampNeg = 5) (hH : FH d = 0) (hB : B f.toNatClampNeg = b)
    (hp : post (cl, lm, sz, oc, rs, ch, al, hE, en, nI (d + 1), 0, b, e, 0, vl, ve, K, A, B, C, BN, BE, NX, LN, FN, FE, upd FL d vl, upd FH d 1)) : wpX_resumeFrame post (cl, lm, sz, oc, rs, ch, al, hE, en, nI (d + 1), ph, fn, fe, 0, vl, ve, K, A, B, C, BN, BE, NX, LN, FN, FE, FL, FH) := by
  subst hB
  have i1 : vp_in (nI d) 240 := vp_in_nI hd (by decide)
  have e1 : (nI d).toNatClampNeg = d := nI_clamp (by omega)
  have gN : FN (nI d).toNatClampNeg = f := by rw [e1]; exact hN
  have gF : FE (nI d).toNatClampNeg = e := by rw [e1]; exact hF
  have gH : FH (nI d).toNatClampNeg = 0 := by rw [e1]; exact hH
  have f1 : upd FL (nI d).toNatClampNeg vl = upd FL d vl := by rw [e1]
  have f2 : upd FH (nI d).toNatClampNeg (vp_nar .boolean 1) = upd FH d 1 := by rw [e1, lk_b1]
  unfold wpX_resumeFrame
  refine nm_r (nI_pred d) ⟨i1, nm_r gN ⟨i1, nm_r gF ⟨hin, ?_⟩⟩⟩
  exact br_f h4 (br_t rfl ⟨hin, br_f h5 ⟨i1, br_t gH ⟨i1, nm_r f1 ⟨i1, nm_r f2 (nm_r (nI_1 d) ⟨hin, hp⟩)⟩⟩⟩⟩)
theorem lr_op {post : SX → Prop} {d : Nat} {f e l : Int32} (hd : d < 240) (hN : FN d = f) (hF : FE d = e) (hin : vp_in f 32) (h4 : ¬ K f.toNatClampNeg = 4) (h5 : ¬ K f.toNatClampNeg = 5) (hH : FH d = 1) (hL : FL d = l) (hO : ∀ Q : SX → Prop, Q (cl', lm', sz', oc', rs', ch', al', hE', en', fr', ph', fn', fe', vf', vl', ve', K', A', B', C', BN', BE', NX', LN', FN', FE', FL', FH') → wpX_operate Q (cl, lm, sz, oc, rs, ch, al, hE, en, nI d, ph, fn, fe, 0, vl, ve, K, A, B, C, BN, BE, NX, LN, FN, FE, FL, FH) f l vl)
    (hp : post (cl', lm', sz', oc', rs', ch', al', hE', en', fr', ph', fn', fe', vf', vl', ve', K', A', B', C', BN', BE', NX', LN', FN', FE', FL', FH')) : wpX_resumeFrame post (cl, lm, sz, oc, rs, ch, al, hE, en, nI (d + 1), ph, fn, fe, 0, vl, ve, K, A, B, C, BN, BE, NX, LN, FN, FE, FL, FH) := by
  have i1 : vp_in (nI d) 240 := vp_in_nI hd (by decide)
  have e1 : (nI d).toNatClampNeg = d := nI_clamp (by omega)
  have gN : FN (nI d).toNatClampNeg = f := by rw [e1]; exact hN
  have gF : FE (nI d).toNatClampNeg = e := by rw [e1]; exact hF
  have gH : ¬ FH (nI d).toNatClampNeg = 0 := by rw [e1, hH]; decide
  have gL : FL (nI d).toNatClampNeg = l := by rw [e1]; exact hL
  subst gL
  unfold wpX_resumeFrame
  refine nm_r (nI_pred d) ⟨i1, nm_r gN ⟨i1, nm_r gF ⟨hin, ?_⟩⟩⟩
  exact br_f h4 (br_t rfl ⟨hin, br_f h5 ⟨i1, br_f gH ⟨i1, hO _ hp⟩⟩⟩)
end
