/-! ===== the reference's own methods and the steps of its loop ===== -/
section
variable {cl lm sz oc rs hY ch al en : Int32} {K P bn be nx FN FE FL FH : Nat → Int32}
variable {x3 x4 x7 x8 x9 : Int32}
theorem ly_ex1 {post : Int32 → Prop} {n z : Nat} (h : n < z) (hz : z < 2 ^ 31) (hp : post 1) : wpY_exists post (cl, lm, nI z, oc, rs, hY, ch, al, en, K, P, bn, be, nx, FN, FE, FL, FH) (nI n) :=
  br_f (nI_pos (by omega)) (br_f (nI_ge h hz) hp)
theorem ly_ex0 {post : Int32 → Prop} {x : Int32} (h : x < 0 ∨ sz ≤ x) (hp : post 0) : wpY_exists post (cl, lm, sz, oc, rs, hY, ch, al, en, K, P, bn, be, nx, FN, FE, FL, FH) x := by
  by_cases h0 : x < 0
  · exact br_t h0 hp
  · exact br_f h0 (br_t (h.resolve_left h0) hp)
theorem ly_ext {post : Int32 → SY → Prop} {g : Nat} {p x y : Int32} (hg : g + 1 < 256)
    (hp : post (nI (g + 1)) (cl, lm, sz, oc, rs, hY, ch, al, nI (g + 1), K, P, upd bn (g + 1) x, upd be (g + 1) y, upd nx (g + 1) p, FN, FE, FL, FH)) : wpY_extend post (cl, lm, sz, oc, rs, hY, ch, al, nI g, K, P, bn, be, nx, FN, FE, FL, FH) p x y := by
  have i1 : vp_in (nI (g + 1)) 256 := vp_in_nI hg (by decide)
  have e1 : (nI (g + 1)).toNatClampNeg = g + 1 := nI_clamp (by omega)
  have f1 : upd bn (nI (g + 1)).toNatClampNeg x = upd bn (g + 1) x := by rw [e1]
  have f2 : upd be (nI (g + 1)).toNatClampNeg y = upd be (g + 1) y := by rw [e1]
  have f3 : upd nx (nI (g + 1)).toNatClampNeg p = upd nx (g + 1) p := by rw [e1]
  exact nm_r (nI_1 g) ⟨i1, nm_r f1 ⟨i1, nm_r f2 ⟨i1, nm_r f3 hp⟩⟩⟩
theorem ly_find13 {post : Int32 → Prop} {z E : Nat} {BN BE NX LN : Nat → Int32} (h : lk_En z E BN BE NX LN) (ag : lk_Ag E BN BE NX bn be nx) : ∀ n j k e : Nat, e < E → e < n → k + j < 2 ^ 31 → post (nI (lk_an NX j e)) →
    wY_find_13 post (nI (k + j)) cl lm sz oc rs hY ch al en K P bn be nx FN FE FL FH n (nI e) (nI k) := by
  have kE := h.2.1
  intro n
  induction n with
  | zero => intro j k e _ hn; omega
  | succ n ih =>
    intro j k e he hn hk hp
    cases j with
    | zero => exact br_t (Int32.le_refl _) hp
    | succ j =>
      have e2 : k + (j + 1) = (k + 1) + j := by omega
      rw [e2]
      by_cases e0 : e = 0
      · subst e0
        rw [lk_an0] at hp
        exact br_f (nI_ge (by omega) (by omega)) (br_t nI_0 hp)
      · obtain ⟨m, d, p, l, -, -, h3, -, -, -, h7, -, -⟩ := h.2.2.2 e (by omega) he
        have hp31 : p < 2 ^ 31 := by omega
        rw [lk_anS e0 hp31 h7] at hp
        have e1 : (nI e).toNatClampNeg = e := nI_clamp (by omega)
        have f1 : nx (nI e).toNatClampNeg = nI p := by rw [e1, (ag e (by omega) he).2.2]; exact h7
        exact br_f (nI_ge (by omega) (by omega)) (br_f (nI_ne0 (by omega) (by omega)) ⟨vp_in_nI (by omega) (by decide), nm_r f1 (nm_r (nI_1 k) (ih j (k + 1) p (by omega) (by omega) (by omega) hp))⟩)
theorem ly_find {post : Int32 → Prop} {z E e i : Nat} {BN BE NX LN : Nat → Int32} (h : lk_En z E BN BE NX LN) (ag : lk_Ag E BN BE NX bn be nx) (he : e < E) (hi : i < 2 ^ 31) (hp : post (nI (lk_an NX i e))) : wpY_find post (cl, lm, sz, oc, rs, hY, ch, al, en, K, P, bn, be, nx, FN, FE, FL, FH) (nI e) (nI i) := by
  have w := ly_find13 (post := post) (cl := cl) (lm := lm) (sz := sz) (oc := oc) (rs := rs) (hY := hY) (ch := ch) (al := al) (en := en) (K := K) (P := P) (bn := bn) (be := be) (nx := nx) (FN := FN) (FE := FE) (FL := FL) (FH := FH) h ag (e + 1) i 0 e he (by omega) (by omega) hp
  rw [Nat.zero_add, nI_0] at w
  exact br_t (nI_pos' hi) ⟨e + 1, w⟩
theorem ly_find0 {post : Int32 → Prop} {i : Int32} (hp : post 0) : wpY_find post (cl, lm, sz, oc, rs, hY, ch, al, en, K, P, bn, be, nx, FN, FE, FL, FH) 0 i := by
  have w : wY_find_13 post i cl lm sz oc rs hY ch al en K P bn be nx FN FE FL FH 1 0 0 := by
    by_cases c : i ≤ 0
    · exact br_t c hp
    · exact br_f c (br_t rfl hp)
  exact br_c (fun _ => ⟨1, w⟩) (fun _ => ⟨1, w⟩)
theorem ly_findn {post : Int32 → Prop} {x i : Int32} (h : i < 0) (hp : post 0) : wpY_find post (cl, lm, sz, oc, rs, hY, ch, al, en, K, P, bn, be, nx, FN, FE, FL, FH) x i := by
  have w : wY_find_13 post i cl lm sz oc rs hY ch al en K P bn be nx FN FE FL FH 1 0 0 := by
    by_cases c : i ≤ 0
    · exact br_t c hp
    · exact br_f c (br_t rfl hp)
  exact br_f (Int32.not_le.mpr h) ⟨1, w⟩
theorem ly_opr {post : Int32 → Prop} {k : Nat} {l r : Int32} (h6 : 6 ≤ k) (hk : k < 12) (hr : k = 9 → ¬ r = 0) (hp : post (lk_op k l r)) : wpY_operate post (cl, lm, sz, oc, rs, hY, ch, al, en, K, P, bn, be, nx, FN, FE, FL, FH) (nI k) l r := by
  rcases (show k = 6 ∨ k = 7 ∨ k = 8 ∨ k = 9 ∨ k = 10 ∨ k = 11 by omega) with rfl | rfl | rfl | rfl | rfl | rfl
  · have f : lk_op 6 l r = l + r := rfl
    rw [f] at hp
    exact br_t rfl hp
  · have f : lk_op 7 l r = l - r := rfl
    rw [f] at hp
    exact br_f (by decide) (br_t rfl hp)
  · have f : lk_op 8 l r = l * r := rfl
    rw [f] at hp
    exact br_f (by decide) (br_f (by decide) (br_t rfl hp))
  · have f : lk_op 9 l r = l / r := rfl
    rw [f] at hp
    exact br_f (by decide) (br_f (by decide) (br_f (by decide) (br_t rfl (br_f (hr rfl) ⟨hr rfl, hp⟩))))
  · have f : lk_op 10 l r = if r ≤ l then 0 else 1 := rfl
    rw [f] at hp
    by_cases c : r ≤ l
    · rw [if_pos c] at hp
      exact br_f (by decide) (br_f (by decide) (br_f (by decide) (br_f (by decide) (br_t rfl (br_t c hp)))))
    · rw [if_neg c] at hp
      exact br_f (by decide) (br_f (by decide) (br_f (by decide) (br_f (by decide) (br_t rfl (br_f c hp)))))
  · have f : lk_op 11 l r = if l = r then 1 else 0 := rfl
    rw [f] at hp
    by_cases c : l = r
    · rw [if_pos c] at hp
      exact br_f (by decide) (br_f (by decide) (br_f (by decide) (br_f (by decide) (br_f (by decide) (br_t c hp)))))
    · rw [if_neg c] at hp
      exact br_f (by decide) (br_f (by decide) (br_f (by decide) (br_f (by decide) (br_f (by decide) (br_f c hp)))))
theorem ly_exh {m s : Nat} {x5 : Int32} (hs : s ≤ 1000) (hca : ch = al)
    : lk_WY (m + 1) s 3 (cl, lm, sz, 3, 0, 0, ch, al, en, K, P, bn, be, nx, FN, FE, FL, FH) x3 x4 x5 0 x7 x8 x9 cl lm sz oc rs hY ch al en K P bn be nx FN FE FL FH := by
  intro post hp n hn
  obtain ⟨n', rfl⟩ : ∃ n', n = n' + 1 := ⟨n - 1, by omega⟩
  exact br_f (lk_s2 hs) (br_t rfl (br_t hca hp))
theorem ly_lit {m s : Nat} {r : Int32} {v' : SY} {x5 c1 a : Int32} (hs : s ≤ 1000) (hca : ¬ ch = al) (hc1 : ch + 1 = c1) (hin : vp_in x3 32) (hK : K x3.toNatClampNeg = 0) (hi3 : vp_in (3 * x3) 96) (hP : P (3 * x3).toNatClampNeg = a)
    (w : lk_WY m (s + 1) r v' x3 x4 x5 1 0 a 0 cl lm sz oc rs hY c1 al en K P bn be nx FN FE FL FH) : lk_WY (m + 1) s r v' x3 x4 x5 0 x7 x8 x9 cl lm sz oc rs hY ch al en K P bn be nx FN FE FL FH := by
  subst hP
  intro post hp n hn
  obtain ⟨n', rfl⟩ : ∃ n', n = n' + 1 := ⟨n - 1, by omega⟩
  exact br_f (lk_s2 hs) (br_t rfl (br_f hca (nm_r hc1 ⟨hin, nm_r hK (br_t rfl (br_f (by decide) (br_t rfl ⟨hi3, br_t rfl (nm_r (nI_1 s) (w post hp n' (by omega)))⟩)))⟩)))
theorem ly_lam {m s : Nat} {r : Int32} {v' : SY} {x5 c1 : Int32} (hs : s ≤ 1000) (hca : ¬ ch = al) (hc1 : ch + 1 = c1) (hin : vp_in x3 32) (hK : K x3.toNatClampNeg = 2)
    (w : lk_WY m (s + 1) r v' x3 x4 x5 1 1 x3 x4 cl lm sz oc rs hY c1 al en K P bn be nx FN FE FL FH) : lk_WY (m + 1) s r v' x3 x4 x5 0 x7 x8 x9 cl lm sz oc rs hY ch al en K P bn be nx FN FE FL FH := by
  intro post hp n hn
  obtain ⟨n', rfl⟩ : ∃ n', n = n' + 1 := ⟨n - 1, by omega⟩
  exact br_f (lk_s2 hs) (br_t rfl (br_f hca (nm_r hc1 ⟨hin, nm_r hK (br_f (by decide) (br_t rfl (br_t rfl (br_f (by decide) (br_f (by decide) (nm_r (nI_1 s) (w post hp n' (by omega))))))))⟩)))
theorem ly_unb {m s : Nat} {x5 c1 a : Int32} (hs : s ≤ 1000) (hca : ¬ ch = al) (hc1 : ch + 1 = c1) (hin : vp_in x3 32) (hK : K x3.toNatClampNeg = 1) (hi3 : vp_in (3 * x3) 96) (hP : P (3 * x3).toNatClampNeg = a) (hf : ∀ Q : Int32 → Prop, Q 0 → wpY_find Q (cl, lm, sz, oc, rs, hY, c1, al, en, K, P, bn, be, nx, FN, FE, FL, FH) x4 a)
    : lk_WY (m + 1) s 4 (cl, lm, sz, 4, x3, 0, c1, al, en, K, P, bn, be, nx, FN, FE, FL, FH) x3 x4 x5 0 x7 x8 x9 cl lm sz oc rs hY ch al en K P bn be nx FN FE FL FH := by
  subst hP
  intro post hp n hn
  obtain ⟨n', rfl⟩ : ∃ n', n = n' + 1 := ⟨n - 1, by omega⟩
  exact br_f (lk_s2 hs) (br_t rfl (br_f hca (nm_r hc1 ⟨hin, nm_r hK (br_f (by decide) (br_f (by decide) (br_t rfl ⟨hi3, hf _ (br_t rfl hp)⟩)))⟩)))
theorem ly_bnd {m s : Nat} {r : Int32} {v' : SY} {x5 c1 a b n1 e1 : Int32} (hs : s ≤ 1000) (hca : ¬ ch = al) (hc1 : ch + 1 = c1) (hin : vp_in x3 32) (hK : K x3.toNatClampNeg = 1) (hi3 : vp_in (3 * x3) 96) (hP : P (3 * x3).toNatClampNeg = a) (hf : ∀ Q : Int32 → Prop, Q b → wpY_find Q (cl, lm, sz, oc, rs, hY, c1, al, en, K, P, bn, be, nx, FN, FE, FL, FH) x4 a) (hb : ¬ b = 0) (hi : vp_in b 256) (hN : bn b.toNatClampNeg = n1) (hF : be b.toNatClampNeg = e1)
    (w : lk_WY m (s + 1) r v' n1 e1 x5 0 x7 x8 x9 cl lm sz oc rs hY c1 al en K P bn be nx FN FE FL FH) : lk_WY (m + 1) s r v' x3 x4 x5 0 x7 x8 x9 cl lm sz oc rs hY ch al en K P bn be nx FN FE FL FH := by
  subst hP
  intro post hp n hn
  obtain ⟨n', rfl⟩ : ∃ n', n = n' + 1 := ⟨n - 1, by omega⟩
  exact br_f (lk_s2 hs) (br_t rfl (br_f hca (nm_r hc1 ⟨hin, nm_r hK (br_f (by decide) (br_f (by decide) (br_t rfl ⟨hi3, hf _ (br_f hb ⟨hi, nm_r hN ⟨hi, nm_r hF (nm_r (nI_1 s) (w post hp n' (by omega)))⟩⟩)⟩)))⟩)))
theorem ly_rec {m s : Nat} {r : Int32} {v' : SY} {x5 c1 a : Int32} {g : Nat} (hs : s ≤ 1000) (hca : ¬ ch = al) (hc1 : ch + 1 = c1) (hin : vp_in x3 32) (hK : K x3.toNatClampNeg = 3) (hg : g + 1 < 256) (hi3 : vp_in (3 * x3) 96) (hP : P (3 * x3).toNatClampNeg = a)
    (w : lk_WY m (s + 1) r v' a (nI (g + 1)) x5 0 x7 x8 x9 cl lm sz oc rs hY c1 al (nI (g + 1)) K P (upd bn (g + 1) x3) (upd be (g + 1) x4) (upd nx (g + 1) x4) FN FE FL FH) : lk_WY (m + 1) s r v' x3 x4 x5 0 x7 x8 x9 cl lm sz oc rs hY ch al (nI g) K P bn be nx FN FE FL FH := by
  intro post hp n hn
  obtain ⟨n', rfl⟩ : ∃ n', n = n' + 1 := ⟨n - 1, by omega⟩
  exact br_f (lk_s2 hs) (br_t rfl (br_f hca (nm_r hc1 ⟨hin, nm_r hK (br_f (by decide) (br_f (by decide) (br_f (by decide) (br_t rfl (ly_ext hg ⟨hi3, nm_r hP (nm_r (nI_1 s) (w post hp n' (by omega)))⟩)))))⟩)))
theorem ly_push {m s : Nat} {r : Int32} {v' : SY} {c1 a kk : Int32} {d : Nat} (hs : s ≤ 1000) (hca : ¬ ch = al) (hc1 : ch + 1 = c1) (hin : vp_in x3 32) (hd : d < 240) (hK : K x3.toNatClampNeg = kk) (k0 : ¬ kk = 0) (k2 : ¬ kk = 2) (k1 : ¬ kk = 1) (k3 : ¬ kk = 3) (hi3 : vp_in (3 * x3) 96) (hP : P (3 * x3).toNatClampNeg = a)
    (w : lk_WY m (s + 1) r v' a x4 (nI (d + 1)) 0 x7 x8 x9 cl lm sz oc rs hY c1 al en K P bn be nx (upd FN d x3) (upd FE d x4) FL (upd FH d 0)) : lk_WY (m + 1) s r v' x3 x4 (nI d) 0 x7 x8 x9 cl lm sz oc rs hY ch al en K P bn be nx FN FE FL FH := by
  intro post hp n hn
  obtain ⟨n', rfl⟩ : ∃ n', n = n' + 1 := ⟨n - 1, by omega⟩
  have i1 : vp_in (nI d) 256 := vp_in_nI (by omega) (by decide)
  have e1 : (nI d).toNatClampNeg = d := nI_clamp (by omega)
  have f1 : upd FN (nI d).toNatClampNeg x3 = upd FN d x3 := by rw [e1]
  have f2 : upd FE (nI d).toNatClampNeg x4 = upd FE d x4 := by rw [e1]
  have f3 : upd FH (nI d).toNatClampNeg (vp_nar .boolean 0) = upd FH d 0 := by rw [e1, lk_b0]
  exact br_f (lk_s2 hs) (br_t rfl (br_f hca (nm_r hc1 ⟨hin, nm_r hK (br_f k0 (br_f k2 (br_f k1 (br_f k3 ⟨i1, nm_r f1 ⟨i1, nm_r f2 ⟨i1, nm_r f3 (nm_r (nI_1 d) ⟨hi3, nm_r hP (nm_r (nI_1 s) (w post hp n' (by omega)))⟩)⟩⟩⟩))))⟩)))
theorem ly_int {m s : Nat} (hs : s ≤ 1000) 
    : lk_WY (m + 1) s 1 (cl, lm, sz, 1, x8, x9, ch, al, en, K, P, bn, be, nx, FN, FE, FL, FH) x3 x4 (nI 0) 1 0 x8 x9 cl lm sz oc rs hY ch al en K P bn be nx FN FE FL FH := by
  intro post hp n hn
  obtain ⟨n', rfl⟩ : ∃ n', n = n' + 1 := ⟨n - 1, by omega⟩
  exact br_f (lk_s2 hs) (br_f (by decide) (br_t nI_0 (br_t rfl hp)))
theorem ly_fun {m s : Nat} (hs : s ≤ 1000) 
    : lk_WY (m + 1) s 2 (cl, lm, sz, 2, x8, x9, ch, al, en, K, P, bn, be, nx, FN, FE, FL, FH) x3 x4 (nI 0) 1 1 x8 x9 cl lm sz oc rs hY ch al en K P bn be nx FN FE FL FH := by
  intro post hp n hn
  obtain ⟨n', rfl⟩ : ∃ n', n = n' + 1 := ⟨n - 1, by omega⟩
  exact br_f (lk_s2 hs) (br_f (by decide) (br_t nI_0 (br_f (by decide) hp)))
theorem ly_nf {m s : Nat} {f e hh : Int32} {d : Nat} (hs : s ≤ 1000) (hd : d < 240) (hN : FN d = f) (hF : FE d = e) (hin : vp_in f 32) (hK : K f.toNatClampNeg = 4) (hH : FH d = hh) 
    : lk_WY (m + 1) s 5 (cl, lm, sz, 5, f, 0, ch, al, en, K, P, bn, be, nx, FN, FE, FL, FH) x3 x4 (nI (d + 1)) 1 0 x8 x9 cl lm sz oc rs hY ch al en K P bn be nx FN FE FL FH := by
  intro post hp n hn
  obtain ⟨n', rfl⟩ : ∃ n', n = n' + 1 := ⟨n - 1, by omega⟩
  have i1 : vp_in (nI d) 256 := vp_in_nI (by omega) (by decide)
  have e1 : (nI d).toNatClampNeg = d := nI_clamp (by omega)
  have gN : FN (nI d).toNatClampNeg = f := by rw [e1]; exact hN
  have gF : FE (nI d).toNatClampNeg = e := by rw [e1]; exact hF
  have gH : FH (nI d).toNatClampNeg = hh := by rw [e1]; exact hH
  exact br_f (lk_s2 hs) (br_f (by decide) (br_f (nI_ne0 (by omega) (by omega)) (nm_r (pk_m1 d) ⟨i1, nm_r gN ⟨hin, nm_r hK ⟨i1, nm_r gH ⟨i1, nm_r gF (br_t rfl (br_t rfl hp))⟩⟩⟩⟩)))
theorem ly_ap {m s : Nat} {r : Int32} {v' : SY} {f e a b : Int32} {d : Nat} (hs : s ≤ 1000) (hd : d < 240) (hN : FN d = f) (hF : FE d = e) (hin : vp_in f 32) (hK : K f.toNatClampNeg = 4) (hH : FH d = 0) {g : Nat} (hg : g + 1 < 256) (hi1 : vp_in (3 * f + 1) 96) (hB : P (3 * f + 1).toNatClampNeg = b) (hi8 : vp_in (3 * x8) 96) (hA : P (3 * x8).toNatClampNeg = a)
    (w : lk_WY m (s + 1) r v' a (nI (g + 1)) (nI d) 0 1 x8 x9 cl lm sz oc rs hY ch al (nI (g + 1)) K P (upd bn (g + 1) b) (upd be (g + 1) e) (upd nx (g + 1) x9) FN FE FL FH) : lk_WY (m + 1) s r v' x3 x4 (nI (d + 1)) 1 1 x8 x9 cl lm sz oc rs hY ch al (nI g) K P bn be nx FN FE FL FH := by
  subst hB
  intro post hp n hn
  obtain ⟨n', rfl⟩ : ∃ n', n = n' + 1 := ⟨n - 1, by omega⟩
  have i1 : vp_in (nI d) 256 := vp_in_nI (by omega) (by decide)
  have e1 : (nI d).toNatClampNeg = d := nI_clamp (by omega)
  have gN : FN (nI d).toNatClampNeg = f := by rw [e1]; exact hN
  have gF : FE (nI d).toNatClampNeg = e := by rw [e1]; exact hF
  have gH : FH (nI d).toNatClampNeg = 0 := by rw [e1]; exact hH
  exact br_f (lk_s2 hs) (br_f (by decide) (br_f (nI_ne0 (by omega) (by omega)) (nm_r (pk_m1 d) ⟨i1, nm_r gN ⟨hin, nm_r hK ⟨i1, nm_r gH ⟨i1, nm_r gF (br_t rfl (br_f (by decide) (br_t rfl (br_f (by decide) (br_t rfl (br_t rfl ⟨hi1, ly_ext hg ⟨hi8, nm_r hA (nm_r (nI_1 s) (w post hp n' (by omega)))⟩⟩))))))⟩⟩⟩⟩)))
theorem ly_ni {m s : Nat} {f e kk hh : Int32} {d : Nat} (hs : s ≤ 1000) (hd : d < 240) (hN : FN d = f) (hF : FE d = e) (hin : vp_in f 32) (hK : K f.toNatClampNeg = kk) (hH : FH d = hh) (k4 : ¬ kk = 4)
    : lk_WY (m + 1) s 6 (cl, lm, sz, 6, f, 0, ch, al, en, K, P, bn, be, nx, FN, FE, FL, FH) x3 x4 (nI (d + 1)) 1 1 x8 x9 cl lm sz oc rs hY ch al en K P bn be nx FN FE FL FH := by
  intro post hp n hn
  obtain ⟨n', rfl⟩ : ∃ n', n = n' + 1 := ⟨n - 1, by omega⟩
  have i1 : vp_in (nI d) 256 := vp_in_nI (by omega) (by decide)
  have e1 : (nI d).toNatClampNeg = d := nI_clamp (by omega)
  have gN : FN (nI d).toNatClampNeg = f := by rw [e1]; exact hN
  have gF : FE (nI d).toNatClampNeg = e := by rw [e1]; exact hF
  have gH : FH (nI d).toNatClampNeg = hh := by rw [e1]; exact hH
  exact br_f (lk_s2 hs) (br_f (by decide) (br_f (nI_ne0 (by omega) (by omega)) (nm_r (pk_m1 d) ⟨i1, nm_r gN ⟨hin, nm_r hK ⟨i1, nm_r gH ⟨i1, nm_r gF (br_f k4 (br_f k4 (br_f (by decide) hp)))⟩⟩⟩⟩)))
theorem ly_b0 {m s : Nat} {r : Int32} {v' : SY} {f e c : Int32} {d : Nat} (hs : s ≤ 1000) (hd : d < 240) (hN : FN d = f) (hF : FE d = e) (hin : vp_in f 32) (hK : K f.toNatClampNeg = 5) (hH : FH d = 0) (hv : x8 = 0) (hi2 : vp_in (3 * f + 2) 96) (hC : P (3 * f + 2).toNatClampNeg = c)
    (w : lk_WY m (s + 1) r v' c e (nI d) 0 0 x8 x9 cl lm sz oc rs hY ch al en K P bn be nx FN FE FL FH) : lk_WY (m + 1) s r v' x3 x4 (nI (d + 1)) 1 0 x8 x9 cl lm sz oc rs hY ch al en K P bn be nx FN FE FL FH := by
  intro post hp n hn
  obtain ⟨n', rfl⟩ : ∃ n', n = n' + 1 := ⟨n - 1, by omega⟩
  have i1 : vp_in (nI d) 256 := vp_in_nI (by omega) (by decide)
  have e1 : (nI d).toNatClampNeg = d := nI_clamp (by omega)
  have gN : FN (nI d).toNatClampNeg = f := by rw [e1]; exact hN
  have gF : FE (nI d).toNatClampNeg = e := by rw [e1]; exact hF
  have gH : FH (nI d).toNatClampNeg = 0 := by rw [e1]; exact hH
  exact br_f (lk_s2 hs) (br_f (by decide) (br_f (nI_ne0 (by omega) (by omega)) (nm_r (pk_m1 d) ⟨i1, nm_r gN ⟨hin, nm_r hK ⟨i1, nm_r gH ⟨i1, nm_r gF (br_f (by decide) (br_f (by decide) (br_t rfl (br_f (by decide) (br_t rfl (br_f (by decide) (br_t rfl (br_t hv ⟨hi2, nm_r hC (nm_r (nI_1 s) (w post hp n' (by omega)))⟩))))))))⟩⟩⟩⟩)))
theorem ly_b1 {m s : Nat} {r : Int32} {v' : SY} {f e b : Int32} {d : Nat} (hs : s ≤ 1000) (hd : d < 240) (hN : FN d = f) (hF : FE d = e) (hin : vp_in f 32) (hK : K f.toNatClampNeg = 5) (hH : FH d = 0) (hv : ¬ x8 = 0) (hi1 : vp_in (3 * f + 1) 96) (hB : P (3 * f + 1).toNatClampNeg = b)
    (w : lk_WY m (s + 1) r v' b e (nI d) 0 0 x8 x9 cl lm sz oc rs hY ch al en K P bn be nx FN FE FL FH) : lk_WY (m + 1) s r v' x3 x4 (nI (d + 1)) 1 0 x8 x9 cl lm sz oc rs hY ch al en K P bn be nx FN FE FL FH := by
  intro post hp n hn
  obtain ⟨n', rfl⟩ : ∃ n', n = n' + 1 := ⟨n - 1, by omega⟩
  have i1 : vp_in (nI d) 256 := vp_in_nI (by omega) (by decide)
  have e1 : (nI d).toNatClampNeg = d := nI_clamp (by omega)
  have gN : FN (nI d).toNatClampNeg = f := by rw [e1]; exact hN
  have gF : FE (nI d).toNatClampNeg = e := by rw [e1]; exact hF
  have gH : FH (nI d).toNatClampNeg = 0 := by rw [e1]; exact hH
  exact br_f (lk_s2 hs) (br_f (by decide) (br_f (nI_ne0 (by omega) (by omega)) (nm_r (pk_m1 d) ⟨i1, nm_r gN ⟨hin, nm_r hK ⟨i1, nm_r gH ⟨i1, nm_r gF (br_f (by decide) (br_f (by decide) (br_t rfl (br_f (by decide) (br_t rfl (br_f (by decide) (br_t rfl (br_f hv ⟨hi1, nm_r hB (nm_r (nI_1 s) (w post hp n' (by omega)))⟩))))))))⟩⟩⟩⟩)))
theorem ly_lf {m s : Nat} {r : Int32} {v' : SY} {f e b kk : Int32} {d : Nat} (hs : s ≤ 1000) (hd : d < 240) (hN : FN d = f) (hF : FE d = e) (hin : vp_in f 32) (hK : K f.toNatClampNeg = kk) (hH : FH d = 0) (k4 : ¬ kk = 4) (k5 : ¬ kk = 5) (hi1 : vp_in (3 * f + 1) 96) (hB : P (3 * f + 1).toNatClampNeg = b)
    (w : lk_WY m (s + 1) r v' b e (nI (d + 1)) 0 0 x8 x9 cl lm sz oc rs hY ch al en K P bn be nx FN FE (upd FL d x8) (upd FH d 1)) : lk_WY (m + 1) s r v' x3 x4 (nI (d + 1)) 1 0 x8 x9 cl lm sz oc rs hY ch al en K P bn be nx FN FE FL FH := by
  intro post hp n hn
  obtain ⟨n', rfl⟩ : ∃ n', n = n' + 1 := ⟨n - 1, by omega⟩
  have i1 : vp_in (nI d) 256 := vp_in_nI (by omega) (by decide)
  have e1 : (nI d).toNatClampNeg = d := nI_clamp (by omega)
  have gN : FN (nI d).toNatClampNeg = f := by rw [e1]; exact hN
  have gF : FE (nI d).toNatClampNeg = e := by rw [e1]; exact hF
  have gH : FH (nI d).toNatClampNeg = 0 := by rw [e1]; exact hH
  have f1 : upd FL (nI d).toNatClampNeg x8 = upd FL d x8 := by rw [e1]
  have f2 : upd FH (nI d).toNatClampNeg (vp_nar .boolean 1) = upd FH d 1 := by rw [e1, lk_b1]
  exact br_f (lk_s2 hs) (br_f (by decide) (br_f (nI_ne0 (by omega) (by omega)) (nm_r (pk_m1 d) ⟨i1, nm_r gN ⟨hin, nm_r hK ⟨i1, nm_r gH ⟨i1, nm_r gF (br_f k4 (br_f k4 (br_t rfl (br_c (fun _ => br_t rfl (br_t rfl (br_f k4 (br_f k5 ⟨i1, nm_r f1 ⟨i1, nm_r f2 (nm_r (nI_1 d) ⟨hi1, nm_r hB (nm_r (nI_1 s) (w post hp n' (by omega)))⟩)⟩⟩)))) (fun _ => br_t rfl (br_f k4 (br_f k5 ⟨i1, nm_r f1 ⟨i1, nm_r f2 (nm_r (nI_1 d) ⟨hi1, nm_r hB (nm_r (nI_1 s) (w post hp n' (by omega)))⟩)⟩⟩)))))))⟩⟩⟩⟩)))
theorem ly_op {m s : Nat} {r : Int32} {v' : SY} {f e kk l o : Int32} {d : Nat} (hs : s ≤ 1000) (hd : d < 240) (hN : FN d = f) (hF : FE d = e) (hin : vp_in f 32) (hK : K f.toNatClampNeg = kk) (hH : FH d = 1) (k4 : ¬ kk = 4) (k9 : kk = 9 → ¬ x8 = 0) (hL : FL d = l) (hO : ∀ Q : Int32 → Prop, Q o → wpY_operate Q (cl, lm, sz, oc, rs, hY, ch, al, en, K, P, bn, be, nx, FN, FE, FL, FH) kk l x8)
    (w : lk_WY m (s + 1) r v' x3 e (nI d) 1 0 o x9 cl lm sz oc rs hY ch al en K P bn be nx FN FE FL FH) : lk_WY (m + 1) s r v' x3 x4 (nI (d + 1)) 1 0 x8 x9 cl lm sz oc rs hY ch al en K P bn be nx FN FE FL FH := by
  intro post hp n hn
  obtain ⟨n', rfl⟩ : ∃ n', n = n' + 1 := ⟨n - 1, by omega⟩
  have i1 : vp_in (nI d) 256 := vp_in_nI (by omega) (by decide)
  have e1 : (nI d).toNatClampNeg = d := nI_clamp (by omega)
  have gN : FN (nI d).toNatClampNeg = f := by rw [e1]; exact hN
  have gF : FE (nI d).toNatClampNeg = e := by rw [e1]; exact hF
  have gH : FH (nI d).toNatClampNeg = 1 := by rw [e1]; exact hH
  have gL : FL (nI d).toNatClampNeg = l := by rw [e1]; exact hL
  subst gL
  exact br_f (lk_s2 hs) (br_f (by decide) (br_f (nI_ne0 (by omega) (by omega)) (nm_r (pk_m1 d) ⟨i1, nm_r gN ⟨hin, nm_r hK ⟨i1, nm_r gH ⟨i1, nm_r gF (br_f k4 (br_f k4 (br_t rfl (br_c (fun z => br_f (by decide) (br_f (k9 z) (br_f (by decide) ⟨i1, hO _ (nm_r (nI_1 s) (w post hp n' (by omega)))⟩))) (fun _ => br_f (by decide) ⟨i1, hO _ (nm_r (nI_1 s) (w post hp n' (by omega)))⟩)))))⟩⟩⟩⟩)))
theorem ly_zd {m s : Nat} {f e : Int32} {d : Nat} (hs : s ≤ 1000) (hd : d < 240) (hN : FN d = f) (hF : FE d = e) (hin : vp_in f 32) (hK : K f.toNatClampNeg = 9) (hH : FH d = 1) (hv : x8 = 0)
    : lk_WY (m + 1) s 7 (cl, lm, sz, 7, f, 0, ch, al, en, K, P, bn, be, nx, FN, FE, FL, FH) x3 x4 (nI (d + 1)) 1 0 x8 x9 cl lm sz oc rs hY ch al en K P bn be nx FN FE FL FH := by
  intro post hp n hn
  obtain ⟨n', rfl⟩ : ∃ n', n = n' + 1 := ⟨n - 1, by omega⟩
  have i1 : vp_in (nI d) 256 := vp_in_nI (by omega) (by decide)
  have e1 : (nI d).toNatClampNeg = d := nI_clamp (by omega)
  have gN : FN (nI d).toNatClampNeg = f := by rw [e1]; exact hN
  have gF : FE (nI d).toNatClampNeg = e := by rw [e1]; exact hF
  have gH : FH (nI d).toNatClampNeg = 1 := by rw [e1]; exact hH
  exact br_f (lk_s2 hs) (br_f (by decide) (br_f (nI_ne0 (by omega) (by omega)) (nm_r (pk_m1 d) ⟨i1, nm_r gN ⟨hin, nm_r hK ⟨i1, nm_r gH ⟨i1, nm_r gF (br_f (by decide) (br_f (by decide) (br_t rfl (br_t rfl (br_f (by decide) (br_t hv hp))))))⟩⟩⟩⟩)))
end
