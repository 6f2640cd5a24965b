/-! ===== making a node ===== -/
theorem lx_ch0 {post : Int32 → Prop} {k : Nat} (h : k < 2) (hp : post 0) : wpX_childrenOf post (nI k) := by
  rcases (show k = 0 ∨ k = 1 by omega) with rfl | rfl
  · exact (br_f (by decide) (br_f (by decide) (br_t rfl hp)) : wpX_childrenOf post 0)
  · exact (br_f (by decide) (br_f (by decide) (br_f (by decide) (br_t rfl hp))) : wpX_childrenOf post 1)
theorem lx_ch1 {post : Int32 → Prop} {k : Nat} (h2 : 2 ≤ k) (h : k < 4) (hp : post 1) : wpX_childrenOf post (nI k) := by
  rcases (show k = 2 ∨ k = 3 by omega) with rfl | rfl
  · exact (br_f (by decide) (br_f (by decide) (br_f (by decide) (br_f (by decide) (br_t rfl hp)))) : wpX_childrenOf post 2)
  · exact (br_f (by decide) (br_f (by decide) (br_f (by decide) (br_f (by decide) (br_f (by decide) (br_t rfl hp))))) : wpX_childrenOf post 3)
theorem lx_ch3 {post : Int32 → Prop} (hp : post 3) : wpX_childrenOf post 5 :=
  br_f (by decide) (br_f (by decide) (br_f (by decide) (br_f (by decide) (br_f (by decide) (br_f (by decide) (br_f (by decide) (br_t rfl hp)))))))
theorem lx_ch2 {post : Int32 → Prop} {k : Nat} (h4 : 4 ≤ k) (h5 : k ≠ 5) (h : k < 12) (hp : post 2) : wpX_childrenOf post (nI k) := by
  by_cases z : k = 4
  · subst z
    exact (br_f (by decide) (br_f (by decide) (br_f (by decide) (br_f (by decide) (br_f (by decide) (br_f (by decide) (br_t rfl hp)))))) : wpX_childrenOf post 4)
  · exact br_f (nI_pos (by omega)) (br_t (nI_lt (a := 5) (by omega) (by omega)) hp)
section
variable {cl lm sz oc rs ch al hE en fr ph fn fe vf vl ve : Int32} {K A B C BN BE NX LN FN FE FL FH : Nat → Int32}
theorem lx_store {post : Int32 → SX → Prop} {n : Nat} {k a b c b' c' x5 : Int32} (hn : n < 32) (hb : (x5 < 2 ∧ b' = 0) ∨ (¬ x5 < 2 ∧ b' = b)) (hc : (x5 < 3 ∧ c' = 0) ∨ (¬ x5 < 3 ∧ c' = c))
    (hp : post (nI n) (cl, lm, nI (n + 1), oc, rs, ch, al, hE, en, fr, ph, fn, fe, vf, vl, ve, upd K n k, upd A n a, upd B n b', upd C n c', BN, BE, NX, LN, FN, FE, FL, FH)) : wX_add_91 post k a b c x5 cl lm (nI n) oc rs ch al hE en fr ph fn fe vf vl ve K A B C BN BE NX LN FN FE FL FH := by
  have i1 : vp_in (nI n) 32 := vp_in_nI hn (by decide)
  have e1 : (nI n).toNatClampNeg = n := nI_clamp (by omega)
  have f1 : upd K (nI n).toNatClampNeg k = upd K n k := by rw [e1]
  have f2 : upd A (nI n).toNatClampNeg a = upd A n a := by rw [e1]
  have f3 : upd B (nI n).toNatClampNeg b' = upd B n b' := by rw [e1]
  have f4 : upd C (nI n).toNatClampNeg c' = upd C n c' := by rw [e1]
  rcases hb with ⟨hb, rfl⟩ | ⟨hb, rfl⟩
  · rcases hc with ⟨hc, rfl⟩ | ⟨hc, rfl⟩
    · exact ⟨i1, nm_r f1 ⟨i1, nm_r f2 (br_t hb ⟨i1, nm_r f3 (br_t hc ⟨i1, nm_r f4 (nm_r (nI_1 n) hp)⟩)⟩)⟩⟩
    · exact ⟨i1, nm_r f1 ⟨i1, nm_r f2 (br_t hb ⟨i1, nm_r f3 (br_f hc ⟨i1, nm_r f4 (nm_r (nI_1 n) hp)⟩)⟩)⟩⟩
  · rcases hc with ⟨hc, rfl⟩ | ⟨hc, rfl⟩
    · exact ⟨i1, nm_r f1 ⟨i1, nm_r f2 (br_f hb ⟨i1, nm_r f3 (br_t hc ⟨i1, nm_r f4 (nm_r (nI_1 n) hp)⟩)⟩)⟩⟩
    · exact ⟨i1, nm_r f1 ⟨i1, nm_r f2 (br_f hb ⟨i1, nm_r f3 (br_f hc ⟨i1, nm_r f4 (nm_r (nI_1 n) hp)⟩)⟩)⟩⟩
end
section
variable {cl lm sz oc rs hY ch al en : Int32} {K P bn be nx FN FE FL FH : Nat → Int32}
theorem ly_store {post : Int32 → SY → Prop} {n : Nat} {k a b c b' c' : Int32} (hn : n < 32) (hb : (k < 4 ∧ b' = 0) ∨ (¬ k < 4 ∧ b' = b)) (hc : (k = 5 ∧ c' = c) ∨ (¬ k = 5 ∧ c' = 0))
    (hp : post (nI n) (cl, lm, nI (n + 1), oc, rs, hY, ch, al, en, upd K n k, upd (upd (upd P (3 * n) a) (3 * n + 1) b') (3 * n + 2) c', bn, be, nx, FN, FE, FL, FH)) : wY_add_86 post k a b c cl lm (nI n) oc rs hY ch al en K P bn be nx FN FE FL FH := by
  have i1 : vp_in (nI n) 32 := vp_in_nI hn (by decide)
  have i3 : vp_in (3 * nI n) 96 := by rw [lk_3]; exact vp_in_nI (by omega) (by decide)
  have i4 : vp_in (3 * nI n + 1) 96 := by rw [lk_31]; exact vp_in_nI (by omega) (by decide)
  have i5 : vp_in (3 * nI n + 2) 96 := by rw [lk_32]; exact vp_in_nI (by omega) (by decide)
  have e1 : (nI n).toNatClampNeg = n := nI_clamp (by omega)
  have e3 : (3 * nI n).toNatClampNeg = 3 * n := by rw [lk_3]; exact nI_clamp (by omega)
  have e4 : (3 * nI n + 1).toNatClampNeg = 3 * n + 1 := by rw [lk_31]; exact nI_clamp (by omega)
  have e5 : (3 * nI n + 2).toNatClampNeg = 3 * n + 2 := by rw [lk_32]; exact nI_clamp (by omega)
  have f1 : upd K (nI n).toNatClampNeg k = upd K n k := by rw [e1]
  have f2 : upd P (3 * nI n).toNatClampNeg a = upd P (3 * n) a := by rw [e3]
  have f3 : upd (upd P (3 * n) a) (3 * nI n + 1).toNatClampNeg b' = upd (upd P (3 * n) a) (3 * n + 1) b' := by rw [e4]
  have f4 : upd (upd (upd P (3 * n) a) (3 * n + 1) b') (3 * nI n + 2).toNatClampNeg c' = upd (upd (upd P (3 * n) a) (3 * n + 1) b') (3 * n + 2) c' := by rw [e5]
  have hp' : post (nI (n + 1) - 1) (cl, lm, nI (n + 1), oc, rs, hY, ch, al, en, upd K n k, upd (upd (upd P (3 * n) a) (3 * n + 1) b') (3 * n + 2) c', bn, be, nx, FN, FE, FL, FH) := by
    rw [nI_pred]; exact hp
  rcases hb with ⟨hb, rfl⟩ | ⟨hb, rfl⟩
  · rcases hc with ⟨hc, rfl⟩ | ⟨hc, rfl⟩
    · exact ⟨i1, nm_r f1 ⟨i3, nm_r f2 (br_t hb ⟨i4, nm_r f3 (br_t hc ⟨i5, nm_r f4 (nm_r (nI_1 n) hp')⟩)⟩)⟩⟩
    · exact ⟨i1, nm_r f1 ⟨i3, nm_r f2 (br_t hb ⟨i4, nm_r f3 (br_f hc ⟨i5, nm_r f4 (nm_r (nI_1 n) hp')⟩)⟩)⟩⟩
  · rcases hc with ⟨hc, rfl⟩ | ⟨hc, rfl⟩
    · exact ⟨i1, nm_r f1 ⟨i3, nm_r f2 (br_f hb ⟨i4, nm_r f3 (br_t hc ⟨i5, nm_r f4 (nm_r (nI_1 n) hp')⟩)⟩)⟩⟩
    · exact ⟨i1, nm_r f1 ⟨i3, nm_r f2 (br_f hb ⟨i4, nm_r f3 (br_f hc ⟨i5, nm_r f4 (nm_r (nI_1 n) hp')⟩)⟩)⟩⟩
end
/-- the rest of add: both refuse, or both make the node -/
def lk_AD (n k : Nat) (a b c : Int32) (cl lm sz oc rs ch al hE en fr ph fn fe vf vl ve : Int32) (K A B C BN BE NX LN FN FE FL FH : Nat → Int32) (eY hY : Int32) (P bn be nx : Nat → Int32) : Prop :=
  ((∀ post : Int32 → SX → Prop, post (-1) (cl, lm, nI n, oc, rs, ch, al, hE, en, fr, ph, fn, fe, vf, vl, ve, K, A, B, C, BN, BE, NX, LN, FN, FE, FL, FH) → wX_add_40 post (nI k) a b c cl lm (nI n) oc rs ch al hE en fr ph fn fe vf vl ve K A B C BN BE NX LN FN FE FL FH) ∧
    (∀ post : Int32 → SY → Prop, post (-1) (cl, lm, nI n, oc, rs, hY, ch, al, eY, K, P, bn, be, nx, FN, FE, FL, FH) → wY_add_40 post (nI k) a b c cl lm (nI n) oc rs hY ch al eY K P bn be nx FN FE FL FH)) ∨
  ∃ b' c' : Int32, (2 ≤ k → ∃ j : Nat, j < n ∧ a = nI j) ∧ (4 ≤ k → ∃ j : Nat, j < n ∧ b' = nI j) ∧ (k = 5 → ∃ j : Nat, j < n ∧ c' = nI j) ∧
    (∀ post : Int32 → SX → Prop, post (nI n) (cl, lm, nI (n + 1), oc, rs, ch, al, hE, en, fr, ph, fn, fe, vf, vl, ve, upd K n (nI k), upd A n a, upd B n b', upd C n c', BN, BE, NX, LN, FN, FE, FL, FH) → wX_add_40 post (nI k) a b c cl lm (nI n) oc rs ch al hE en fr ph fn fe vf vl ve K A B C BN BE NX LN FN FE FL FH) ∧
    (∀ post : Int32 → SY → Prop, post (nI n) (cl, lm, nI (n + 1), oc, rs, hY, ch, al, eY, upd K n (nI k), upd (upd (upd P (3 * n) a) (3 * n + 1) b') (3 * n + 2) c', bn, be, nx, FN, FE, FL, FH) → wY_add_40 post (nI k) a b c cl lm (nI n) oc rs hY ch al eY K P bn be nx FN FE FL FH)
section
variable {cl lm sz oc rs ch al hE en fr ph fn fe vf vl ve : Int32} {K A B C BN BE NX LN FN FE FL FH : Nat → Int32}
variable {eY hY : Int32} {P bn be nx : Nat → Int32}
theorem lk_add {n k : Nat} {a b c : Int32} (hn : n < 32) (hk : k < 12) : lk_AD n k a b c cl lm (nI n) oc rs ch al hE en fr ph fn fe vf vl ve K A B C BN BE NX LN FN FE FL FH eY hY P bn be nx := by
  unfold lk_AD
  have n31 : n < 2 ^ 31 := by omega
  by_cases k2 : k < 2
  · have q2 : nI k < 2 := nI_lt (b := 2) k2 (by decide)
    have q4 : nI k < 4 := nI_lt (b := 4) (by omega) (by decide)
    have q5 : ¬ nI k = 5 := lk_ne (b := 5) (by omega) (by omega) (by omega)
    refine Or.inr ⟨0, 0, fun z => absurd z (by omega), fun z => absurd z (by omega), fun z => absurd z (by omega), fun post hp => ?_, fun post hp => ?_⟩
    · unfold wX_add_40
      exact lx_ch0 k2 (br_t (by decide) (br_t (by decide) (br_t (by decide) (lx_store hn (Or.inl ⟨by decide, rfl⟩) (Or.inl ⟨by decide, rfl⟩) hp))))
    · exact br_t q2 (br_t q4 (br_f q5 (ly_store hn (Or.inl ⟨q4, rfl⟩) (Or.inr ⟨q5, rfl⟩) hp)))
  · have q2 : ¬ nI k < 2 := nI_nlt (b := 2) (by omega) (by omega)
    by_cases k4 : k < 4
    · have q4 : nI k < 4 := nI_lt (b := 4) k4 (by decide)
      have q5 : ¬ nI k = 5 := lk_ne (b := 5) (by omega) (by omega) (by omega)
      rcases lk_exi a n31 with ea | ⟨j, hj, rfl⟩
      · refine Or.inl ⟨fun post hp => ?_, fun post hp => ?_⟩
        · unfold wX_add_40
          exact lx_ch1 (by omega) k4 (br_f (by decide) (lx_ex0 ea (br_t rfl hp)))
        · exact br_f q2 (ly_ex0 ea (br_t rfl hp))
      · refine Or.inr ⟨0, 0, fun z => ⟨j, hj, rfl⟩, fun z => absurd z (by omega), fun z => absurd z (by omega), fun post hp => ?_, fun post hp => ?_⟩
        · unfold wX_add_40
          exact lx_ch1 (by omega) k4 (br_f (by decide) (lx_ex1 hj n31 (br_f (by decide) (br_t (by decide) (br_t (by decide) (lx_store hn (Or.inl ⟨by decide, rfl⟩) (Or.inl ⟨by decide, rfl⟩) hp))))))
        · exact br_f q2 (ly_ex1 hj n31 (br_f (by decide) (br_t q4 (br_f q5 (ly_store hn (Or.inl ⟨q4, rfl⟩) (Or.inr ⟨q5, rfl⟩) hp)))))
    · have q4 : ¬ nI k < 4 := nI_nlt (b := 4) (by omega) (by omega)
      by_cases k5 : k = 5
      · subst k5
        rcases lk_exi a n31 with ea | ⟨j, hj, rfl⟩
        · refine Or.inl ⟨fun post hp => ?_, fun post hp => ?_⟩
          · unfold wX_add_40
            exact lx_ch3 (br_f (by decide) (lx_ex0 ea (br_t rfl hp)))
          · exact br_f q2 (ly_ex0 ea (br_t rfl hp))
        · rcases lk_exi b n31 with eb | ⟨jb, hjb, rfl⟩
          · refine Or.inl ⟨fun post hp => ?_, fun post hp => ?_⟩
            · unfold wX_add_40
              exact lx_ch3 (br_f (by decide) (lx_ex1 hj n31 (br_f (by decide) (br_f (by decide) (lx_ex0 eb (br_t rfl hp))))))
            · exact br_f q2 (ly_ex1 hj n31 (br_f (by decide) (br_f q4 (ly_ex0 eb (br_t rfl hp)))))
          · rcases lk_exi c n31 with ec | ⟨jc, hjc, rfl⟩
            · refine Or.inl ⟨fun post hp => ?_, fun post hp => ?_⟩
              · unfold wX_add_40
                exact lx_ch3 (br_f (by decide) (lx_ex1 hj n31 (br_f (by decide) (br_f (by decide) (lx_ex1 hjb n31 (br_f (by decide) (br_f (by decide) (lx_ex0 ec (br_t rfl hp)))))))))
              · exact br_f q2 (ly_ex1 hj n31 (br_f (by decide) (br_f q4 (ly_ex1 hjb n31 (br_f (by decide) (br_t rfl (ly_ex0 ec (br_t rfl hp))))))))
            · refine Or.inr ⟨nI jb, nI jc, fun z => ⟨j, hj, rfl⟩, fun z => ⟨jb, hjb, rfl⟩, fun z => ⟨jc, hjc, rfl⟩, fun post hp => ?_, fun post hp => ?_⟩
              · unfold wX_add_40
                exact lx_ch3 (br_f (by decide) (lx_ex1 hj n31 (br_f (by decide) (br_f (by decide) (lx_ex1 hjb n31 (br_f (by decide) (br_f (by decide) (lx_ex1 hjc n31 (br_f (by decide) (lx_store hn (Or.inr ⟨by decide, rfl⟩) (Or.inr ⟨by decide, rfl⟩) hp))))))))))
              · exact br_f q2 (ly_ex1 hj n31 (br_f (by decide) (br_f q4 (ly_ex1 hjb n31 (br_f (by decide) (br_t rfl (ly_ex1 hjc n31 (br_f (by decide) (ly_store hn (Or.inr ⟨q4, rfl⟩) (Or.inl ⟨rfl, rfl⟩) hp)))))))))
      · have q5 : ¬ nI k = 5 := lk_ne (b := 5) k5 (by omega) (by omega)
        rcases lk_exi a n31 with ea | ⟨j, hj, rfl⟩
        · refine Or.inl ⟨fun post hp => ?_, fun post hp => ?_⟩
          · unfold wX_add_40
            exact lx_ch2 (by omega) k5 hk (br_f (by decide) (lx_ex0 ea (br_t rfl hp)))
          · exact br_f q2 (ly_ex0 ea (br_t rfl hp))
        · rcases lk_exi b n31 with eb | ⟨jb, hjb, rfl⟩
          · refine Or.inl ⟨fun post hp => ?_, fun post hp => ?_⟩
            · unfold wX_add_40
              exact lx_ch2 (by omega) k5 hk (br_f (by decide) (lx_ex1 hj n31 (br_f (by decide) (br_f (by decide) (lx_ex0 eb (br_t rfl hp))))))
            · exact br_f q2 (ly_ex1 hj n31 (br_f (by decide) (br_f q4 (ly_ex0 eb (br_t rfl hp)))))
          · refine Or.inr ⟨nI jb, 0, fun z => ⟨j, hj, rfl⟩, fun z => ⟨jb, hjb, rfl⟩, fun z => absurd z k5, fun post hp => ?_, fun post hp => ?_⟩
            · unfold wX_add_40
              exact lx_ch2 (by omega) k5 hk (br_f (by decide) (lx_ex1 hj n31 (br_f (by decide) (br_f (by decide) (lx_ex1 hjb n31 (br_f (by decide) (br_t (by decide) (lx_store hn (Or.inr ⟨by decide, rfl⟩) (Or.inl ⟨by decide, rfl⟩) hp))))))))
            · exact br_f q2 (ly_ex1 hj n31 (br_f (by decide) (br_f q4 (ly_ex1 hjb n31 (br_f (by decide) (br_f q5 (ly_store hn (Or.inr ⟨q4, rfl⟩) (Or.inr ⟨q5, rfl⟩) hp)))))))
end
theorem lk_En_mono {sz z E : Nat} {BN BE NX LN : Nat → Int32} (h : lk_En sz E BN BE NX LN) (hz : sz ≤ z) : lk_En z E BN BE NX LN := by
  obtain ⟨h1, h2, h3, h4⟩ := h
  refine ⟨h1, h2, h3, fun e h0 he => ?_⟩
  obtain ⟨m, d, p, l, a1, a2⟩ := h4 e h0 he
  exact ⟨m, d, p, l, by omega, a2⟩
theorem lk_H_add {sz c : Nat} {rs hE hY eX eY x : Int32} {K BN BE NX LN bn be nx : Nat → Int32} (h : lk_H sz c rs hE hY eX eY K BN BE NX LN bn be nx) : lk_H (sz + 1) c rs hE hY eX eY (upd K sz x) BN BE NX LN bn be nx := by
  obtain ⟨g, h, m, a1, a2, a3, a4, a5, a6, a7, a8, a9, a10, a11⟩ := h
  have n1 : m ≠ sz := by omega
  exact ⟨g, h, m, a1, a2, a3, a4, a5, a6, by omega, (pk_un n1).trans a8, a9, lk_En_mono a10 (by omega), a11⟩
theorem i_vc_add {k : Nat} {u : SX} {v : SY} (I : i_Rel k u v) (hk : k + 5 ≤ 2562) (v1 : Int32) (v2 : Int32) (v3 : Int32) (v4 : Int32) : wpX_add (fun r u' => wpY_add (fun r' v' => r' = r ∧ i_Rel (k + 5) u' v') v v1 v2 v3 v4) u v1 v2 v3 v4 := by
  have J := i_up I
  obtain ⟨r, cl, lm, sz, al, c, rs, hE, hY, eX, eY, fr, ph, fn, fe, vf, vl, ve, K, A, B, C, BN, BE, NX, LN, P, bn, be, nx, FN, FE, FL, FH, rfl, rfl, hB, hO⟩ := I
  obtain ⟨b1, b2, b3, b4, b5, b6, b7, hAr, hPt, hL0⟩ := hB
  by_cases c0 : v1 < 0
  · exact br_t c0 (br_t c0 ⟨rfl, J⟩)
  · by_cases c1 : 11 < v1
    · exact br_f c0 (br_t c1 (br_f c0 (br_t c1 ⟨rfl, J⟩)))
    · by_cases cs : nI sz < nI cl
      · obtain ⟨kk, hkk, rfl⟩ := nI_of2 (x := v1) (M := 11) (n := 11) (by decide) c0 (Int32.not_lt.mp c1)
        have hs : sz < cl := (nI_ltI (by omega) (by omega)).mp cs
        have key : (kk = 1 → ∃ j : Nat, j < 32 ∧ v2 = nI j) →
            wX_add_40 (fun ra u' => wpY_add (fun r' v' => r' = ra ∧ i_Rel (k + 5) u' v') (nI cl, nI lm, nI sz, r, rs, hY, nI c, nI al, eY, K, P, bn, be, nx, FN, FE, FL, FH) (nI kk) v2 v3 v4) (nI kk) v2 v3 v4 (nI cl) (nI lm) (nI sz) r rs (nI c) (nI al) hE eX fr ph fn fe vf vl ve K A B C BN BE NX LN FN FE FL FH := by
          intro hv
          have yy : ∀ post : Int32 → SY → Prop, wY_add_40 post (nI kk) v2 v3 v4 (nI cl) (nI lm) (nI sz) r rs hY (nI c) (nI al) eY K P bn be nx FN FE FL FH → wpY_add post (nI cl, nI lm, nI sz, r, rs, hY, nI c, nI al, eY, K, P, bn, be, nx, FN, FE, FL, FH) (nI kk) v2 v3 v4 := by
            intro post w
            refine br_f c0 (br_f c1 (br_t cs (br_c (fun z => ?_) (fun _ => w))))
            obtain ⟨j, hj, e⟩ := hv ((nI_eq (b := 1) (by omega) (by omega)).mp z)
            have g0 : ¬ v2 < 0 := by rw [e]; exact nI_pos (by omega)
            have g1 : v2 ≤ 31 := by rw [e]; exact nI_le (b := 31) (by omega) (by decide)
            exact br_f g0 (br_t g1 w)
          rcases lk_add (n := sz) (k := kk) (a := v2) (b := v3) (c := v4) (cl := nI cl) (lm := nI lm) (oc := r) (rs := rs) (ch := nI c) (al := nI al) (hE := hE) (en := eX) (fr := fr) (ph := ph) (fn := fn) (fe := fe) (vf := vf) (vl := vl) (ve := ve) (K := K) (A := A) (B := B) (C := C) (BN := BN) (BE := BE) (NX := NX) (LN := LN) (FN := FN) (FE := FE) (FL := FL) (FH := FH) (eY := eY) (hY := hY) (P := P) (bn := bn) (be := be) (nx := nx) (by omega) (by omega) with ⟨hx, hy⟩ | ⟨b', c', ga, gb, gc, hx, hy⟩
          · exact hx _ (yy _ (hy _ ⟨rfl, J⟩))
          · refine hx _ (yy _ (hy _ ⟨rfl, r, ?_⟩))
            have hB2 : lk_B cl lm (sz + 1) al c (upd K sz (nI kk)) (upd A sz v2) (upd B sz b') (upd C sz c') (upd (upd (upd P (3 * sz) v2) (3 * sz + 1) b') (3 * sz + 2) c') LN :=
              ⟨by omega, b2, b3, b4, b5, b6, b7, lk_Ar_add hAr (by omega) hv ga gb gc, lk_Pt_add hPt sz v2 b' c', hL0⟩
            rcases hO with ⟨r2, h0⟩ | ⟨r2, hH⟩
            · subst h0
              exact lk_R_stop hB2 r2 rfl rfl rfl
            · subst r2
              exact lk_R_held hB2 (lk_H_add hH)
        refine br_f c0 (br_f c1 (br_t cs (br_c (fun z => ?_) (fun z => key (fun q => (z (congrArg nI q)).elim)))))
        have y0 : ∀ post : Int32 → SY → Prop, (v2 < 0 ∨ ¬ v2 ≤ 31) → post (-1) (nI cl, nI lm, nI sz, r, rs, hY, nI c, nI al, eY, K, P, bn, be, nx, FN, FE, FL, FH) → wpY_add post (nI cl, nI lm, nI sz, r, rs, hY, nI c, nI al, eY, K, P, bn, be, nx, FN, FE, FL, FH) (nI kk) v2 v3 v4 := by
          intro post hv hp
          refine br_f c0 (br_f c1 (br_t cs (br_t z ?_)))
          by_cases g0 : v2 < 0
          · exact br_t g0 hp
          · exact br_f g0 (br_f (hv.resolve_left g0) hp)
        by_cases g0 : v2 < 0
        · exact br_t g0 (y0 _ (Or.inl g0) ⟨rfl, J⟩)
        · by_cases g1 : v2 ≤ 31
          · refine br_f g0 (br_t g1 (key (fun _ => ?_)))
            obtain ⟨j, hj, e⟩ := nI_of2 (x := v2) (M := 31) (n := 31) (by decide) g0 g1
            exact ⟨j, by omega, e⟩
          · exact br_f g0 (br_f g1 (y0 _ (Or.inr g1) ⟨rfl, J⟩))
      · exact br_f c0 (br_f c1 (br_f cs (br_f c0 (br_f c1 (br_f cs ⟨rfl, J⟩)))))
