/-! ===== the run: both loops in step, by the measure ===== -/
def lk_I (cl lm sz al c g d : Nat) (K A B C P BN BE NX LN bn be nx FN FE FH : Nat → Int32) : Prop :=
  lk_B cl lm sz al c K A B C P LN ∧ g + d ≤ c ∧ lk_En sz (g + 1) BN BE NX LN ∧ lk_Ag (g + 1) BN BE NX bn be nx ∧ lk_Fr sz (g + 1) d K FN FE FH
def lk_V (sz g : Nat) (K : Nat → Int32) (vf vl ve x9 : Int32) : Prop :=
  (vf = 0 ∧ x9 = 0) ∨ (vf = 1 ∧ ∃ w p : Nat, w < sz ∧ K w = nI 2 ∧ vl = nI w ∧ p < g + 1 ∧ ve = nI p ∧ x9 = nI p)
/-- from a node to evaluate -/
def lk_T0 (m : Nat) : Prop :=
  ∀ (cl lm sz al s c g d n e : Nat) (oc rs hE vf vl ve oy ry hY x7 x8 x9 : Int32) (K A B C P BN BE NX LN bn be nx FN FE FL FH : Nat → Int32),
    lk_I cl lm sz al c g d K A B C P BN BE NX LN bn be nx FN FE FH → n < sz → e < g + 1 → 3 * (al - c) + lk_po FH d < m → s + m ≤ 1000 →
    ∃ (r : Int32) (u' : SX) (v' : SY), lk_R r u' v' ∧
      lk_WX m s u' (nI cl) (nI lm) (nI sz) oc rs (nI c) (nI al) hE (nI (g + 1)) (nI d) 0 (nI n) (nI e) vf vl ve K A B C BN BE NX LN FN FE FL FH ∧
      lk_WY m s r v' (nI n) (nI e) (nI d) 0 x7 x8 x9 (nI cl) (nI lm) (nI sz) oy ry hY (nI c) (nI al) (nI g) K P bn be nx FN FE FL FH
/-- from a value to return -/
def lk_T1 (m : Nat) : Prop :=
  ∀ (cl lm sz al s c g d : Nat) (oc rs hE fn fe vf vl ve oy ry hY x3 x4 x9 : Int32) (K A B C P BN BE NX LN bn be nx FN FE FL FH : Nat → Int32),
    lk_I cl lm sz al c g d K A B C P BN BE NX LN bn be nx FN FE FH → lk_V sz g K vf vl ve x9 → 3 * (al - c) + lk_po FH d < m → s + m ≤ 1000 →
    ∃ (r : Int32) (u' : SX) (v' : SY), lk_R r u' v' ∧
      lk_WX m s u' (nI cl) (nI lm) (nI sz) oc rs (nI c) (nI al) hE (nI (g + 1)) (nI d) 1 fn fe vf vl ve K A B C BN BE NX LN FN FE FL FH ∧
      lk_WY m s r v' x3 x4 (nI d) 1 vf vl x9 (nI cl) (nI lm) (nI sz) oy ry hY (nI c) (nI al) (nI g) K P bn be nx FN FE FL FH
theorem lk_ne {a b : Nat} (h : a ≠ b) (ha : a < 2 ^ 31) (hb : b < 2 ^ 31) : ¬ nI a = nI b := fun q => h ((nI_eq ha hb).mp q)
theorem lk_T0s {m : Nat} (h0 : lk_T0 m) (h1 : lk_T1 m) : lk_T0 (m + 1) := by
  intro cl lm sz al s c g d n e oc rs hE vf vl ve oy ry hY x7 x8 x9 K A B C P BN BE NX LN bn be nx FN FE FL FH I hn he hm hs
  obtain ⟨hB, hgd, hEn, hAg, hFr⟩ := I
  have hB' := hB
  obtain ⟨b1, b2, b3, b4, b5, b6, b7, hAr, hPt, hL0⟩ := hB'
  have hs1 : s ≤ 1000 := by omega
  by_cases hca : c = al
  · subst hca
    refine ⟨3, _, _, ?_, lx_s0 hs1 (fun post hp => lf_exh Int32.lt_irrefl hp) (lx_end (by omega)), ly_exh hs1 rfl⟩
    exact lk_R_stop hB (by decide) rfl rfl rfl
  · have hc : c < al := by omega
    have hcl : nI c < nI al := nI_lt hc (by omega)
    have hcn : ¬ nI c = nI al := lk_ne hca (by omega) (by omega)
    have hin : vp_in (nI n) 32 := vp_in_nI (by omega) (by decide)
    have qn : (nI n).toNatClampNeg = n := nI_clamp (by omega)
    have i3 : vp_in (3 * nI n) 96 := by rw [lk_3]; exact vp_in_nI (by omega) (by decide)
    have q3 : (3 * nI n).toNatClampNeg = 3 * n := by rw [lk_3]; exact nI_clamp (by omega)
    have hPA : P (3 * nI n).toNatClampNeg = A n := by rw [q3]; exact (hPt n).1
    have hAA : A (nI n).toNatClampNeg = A n := by rw [qn]
    have hB1 : lk_B cl lm sz al (c + 1) K A B C P LN := ⟨b1, b2, b3, b4, b5, b6, by omega, hAr, hPt, hL0⟩
    obtain ⟨k, k12, hK, kv, ka, kb, kc⟩ := hAr n hn
    have hKn : K (nI n).toNatClampNeg = nI k := by rw [qn]; exact hK
    rcases (show k = 0 ∨ k = 1 ∨ k = 2 ∨ k = 3 ∨ 4 ≤ k by omega) with z | z | z | z | k4
    · subst z
      have hK0 : K (nI n).toNatClampNeg = 0 := hKn
      clear kv ka kb kc
      obtain ⟨r, u', v', hR, wx, wy⟩ := h1 cl lm sz al (s + 1) (c + 1) g d oc rs hE (nI n) (nI e) 0 (A n) ve oy ry hY (nI n) (nI e) 0 K A B C P BN BE NX LN bn be nx FN FE FL FH ⟨hB1, by omega, hEn, hAg, hFr⟩ (Or.inl ⟨rfl, rfl⟩) (by omega) (by omega)
      exact ⟨r, u', v', hR, lx_s0 hs1 (fun post hp => lf_lit hcl (nI_1 c) hin hK0 hAA hp) wx, ly_lit hs1 hcn (nI_1 c) hin hK0 i3 hPA wy⟩
    · subst z
      have hK1 : K (nI n).toNatClampNeg = 1 := hKn
      obtain ⟨i, i32, hi⟩ := kv rfl
      clear kv ka kb kc
      have hi31 : i < 2 ^ 31 := by omega
      have hAi : A (nI n).toNatClampNeg = nI i := hAA.trans hi
      have hPi : P (3 * nI n).toNatClampNeg = nI i := hPA.trans hi
      by_cases z : lk_an NX i e = 0
      · refine ⟨4, _, _, ?_, lx_s0 hs1 (fun post hp => lf_var hcl (nI_1 c) hin hK1 (fun Q hQ => lj_unb hin hAi (fun Q' h' => lx_has0 hEn he hi31 z h') hQ) hp) (lx_end (by omega)),
          ly_unb hs1 hcn (nI_1 c) hin hK1 i3 hPi (fun Q hQ => ly_find hEn hAg he hi31 (by rw [z, nI_0]; exact hQ))⟩
        exact lk_R_stop hB1 (by decide) rfl rfl rfl
      · have bE : lk_an NX i e < g + 1 := lk_an_lt hEn i e he
        have gE := hEn.2.1
        obtain ⟨n1, e1, p1, l1, a1, a2, -, -, a5, a6, -, -, -⟩ := hEn.2.2.2 (lk_an NX i e) (by omega) bE
        have qb : (nI (lk_an NX i e)).toNatClampNeg = lk_an NX i e := nI_clamp (by omega)
        have ga := hAg (lk_an NX i e) (by omega) bE
        have hbN : BN (nI (lk_an NX i e)).toNatClampNeg = nI n1 := by rw [qb]; exact a5
        have hbE : BE (nI (lk_an NX i e)).toNatClampNeg = nI e1 := by rw [qb]; exact a6
        have hyN : bn (nI (lk_an NX i e)).toNatClampNeg = nI n1 := by rw [qb, ga.1]; exact a5
        have hyE : be (nI (lk_an NX i e)).toNatClampNeg = nI e1 := by rw [qb, ga.2.1]; exact a6
        obtain ⟨r, u', v', hR, wx, wy⟩ := h0 cl lm sz al (s + 1) (c + 1) g d n1 e1 oc rs hE vf vl ve oy ry hY x7 x8 x9 K A B C P BN BE NX LN bn be nx FN FE FL FH ⟨hB1, by omega, hEn, hAg, hFr⟩ a1 (by omega) (by omega) (by omega)
        exact ⟨r, u', v', hR, lx_s0 hs1 (fun post hp => lf_var hcl (nI_1 c) hin hK1 (fun Q hQ => lj_bnd hin hAi (fun Q' h' => lx_has1 hEn he hi31 z h') (fun Q' h' => lx_bind hEn he hi31 z h') (vp_in_nI (by omega) (by decide)) hbN hbE hQ) hp) wx,
          ly_bnd hs1 hcn (nI_1 c) hin hK1 i3 hPi (fun Q hQ => ly_find hEn hAg he hi31 hQ) (nI_ne0 (by omega) (by omega)) (vp_in_nI (by omega) (by decide)) hyN hyE wy⟩
    · subst z
      have hK2 : K (nI n).toNatClampNeg = 2 := hKn
      clear kv ka kb kc
      obtain ⟨r, u', v', hR, wx, wy⟩ := h1 cl lm sz al (s + 1) (c + 1) g d oc rs hE (nI n) (nI e) 1 (nI n) (nI e) oy ry hY (nI n) (nI e) (nI e) K A B C P BN BE NX LN bn be nx FN FE FL FH ⟨hB1, by omega, hEn, hAg, hFr⟩ (Or.inr ⟨rfl, n, e, hn, hK, rfl, he, rfl, rfl⟩) (by omega) (by omega)
      exact ⟨r, u', v', hR, lx_s0 hs1 (fun post hp => lf_lam hcl (nI_1 c) hin hK2 hp) wx, ly_lam hs1 hcn (nI_1 c) hin hK2 wy⟩
    · subst z
      have hK3 : K (nI n).toNatClampNeg = 3 := hKn
      obtain ⟨a, ha, hAa⟩ := ka (by omega)
      clear kv ka kb kc
      have hX := lk_En_ext hEn (by omega) hn he he
      have hB2 : lk_B cl lm sz al (c + 1) K A B C P (upd LN (g + 1) (LN e + 1)) := ⟨b1, b2, b3, b4, b5, b6, by omega, hAr, hPt, hX.2.2.1⟩
      obtain ⟨r, u', v', hR, wx, wy⟩ := h0 cl lm sz al (s + 1) (c + 1) (g + 1) d a (g + 1) oc rs hE vf vl ve oy ry hY x7 x8 x9 K A B C P (upd BN (g + 1) (nI n)) (upd BE (g + 1) (nI e)) (upd NX (g + 1) (nI e)) (upd LN (g + 1) (LN e + 1)) (upd bn (g + 1) (nI n)) (upd be (g + 1) (nI e)) (upd nx (g + 1) (nI e)) FN FE FL FH
        ⟨hB2, by omega, hX, lk_Ag_ext hAg _ _ _, lk_Fr_mono hFr (by omega) (Nat.le_refl _)⟩ ha (by omega) (by omega) (by omega)
      exact ⟨r, u', v', hR, lx_s0 hs1 (fun post hp => lf_rec hcl (nI_1 c) hin hK3 (hAA.trans hAa) (by omega) (by omega) hp) wx, ly_rec hs1 hcn (nI_1 c) hin hK3 (by omega) i3 (hPA.trans hAa) wy⟩
    · obtain ⟨a, ha, hAa⟩ := ka (by omega)
      clear kv ka kb kc
      have hpo := lk_po_push (FH := FH) (d := d)
      obtain ⟨r, u', v', hR, wx, wy⟩ := h0 cl lm sz al (s + 1) (c + 1) g (d + 1) a e oc rs hE vf vl ve oy ry hY x7 x8 x9 K A B C P BN BE NX LN bn be nx (upd FN d (nI n)) (upd FE d (nI e)) FL (upd FH d 0)
        ⟨hB1, by omega, hEn, hAg, lk_Fr_push hFr hn he k4 k12 hK⟩ ha he (by omega) (by omega)
      exact ⟨r, u', v', hR, lx_s0 hs1 (fun post hp => lf_push hcl (nI_1 c) hin hKn (nI_pos (by omega)) (nI_lt (a := 3) (by omega) (by omega)) (hAA.trans hAa) (by omega) hp) wx,
        ly_push hs1 hcn (nI_1 c) hin (by omega) hKn (lk_ne (b := 0) (by omega) (by omega) (by omega)) (lk_ne (b := 2) (by omega) (by omega) (by omega)) (lk_ne (b := 1) (by omega) (by omega) (by omega)) (lk_ne (b := 3) (by omega) (by omega) (by omega)) i3 (hPA.trans hAa) wy⟩
theorem lk_T1s {m : Nat} (h0 : lk_T0 m) (h1 : lk_T1 m) : lk_T1 (m + 1) := by
  intro cl lm sz al s c g d oc rs hE fn fe vf vl ve oy ry hY x3 x4 x9 K A B C P BN BE NX LN bn be nx FN FE FL FH I V hm hs
  obtain ⟨hB, hgd, hEn, hAg, hFr⟩ := I
  have hB' := hB
  obtain ⟨b1, b2, b3, b4, b5, b6, b7, hAr, hPt, hL0⟩ := hB'
  have hs1 : s ≤ 1000 := by omega
  rcases Nat.eq_zero_or_pos d with dz | dp
  · subst dz
    rcases V with ⟨v0, v9⟩ | ⟨v1, w, p, hw, hKw, vw, hp, vp, v9⟩
    · subst v0 v9
      refine ⟨1, _, _, ?_, lx_sT hs1 (fun post hp => lj_int hp) (lx_end (by omega)), ly_int hs1⟩
      exact lk_R_stop hB (by decide) rfl rfl rfl
    · subst v1 vw vp v9
      refine ⟨2, _, _, ?_, lx_sT hs1 (fun post hp => lj_fun hp) (lx_end (by omega)), ly_fun hs1⟩
      exact lk_R_held hB ⟨g, p, w, rfl, rfl, rfl, rfl, hp, rfl, hw, hKw, by omega, hEn, hAg⟩
  · obtain ⟨t, rfl⟩ : ∃ t, d = t + 1 := ⟨d - 1, by omega⟩
    have ht : t < 240 := by omega
    obtain ⟨f, e, k, hf, he, k4, k12, hN, hF, hK, hH⟩ := hFr t (by omega)
    have hin : vp_in (nI f) 32 := vp_in_nI (by omega) (by decide)
    have qf : (nI f).toNatClampNeg = f := nI_clamp (by omega)
    have hKf : K (nI f).toNatClampNeg = nI k := by rw [qf]; exact hK
    have i1 : vp_in (3 * nI f + 1) 96 := by rw [lk_31]; exact vp_in_nI (by omega) (by decide)
    have i2 : vp_in (3 * nI f + 2) 96 := by rw [lk_32]; exact vp_in_nI (by omega) (by decide)
    have q1 : (3 * nI f + 1).toNatClampNeg = 3 * f + 1 := by rw [lk_31]; exact nI_clamp (by omega)
    have q2 : (3 * nI f + 2).toNatClampNeg = 3 * f + 2 := by rw [lk_32]; exact nI_clamp (by omega)
    have hPB : P (3 * nI f + 1).toNatClampNeg = B f := by rw [q1]; exact (hPt f).2.1
    have hPC : P (3 * nI f + 2).toNatClampNeg = C f := by rw [q2]; exact (hPt f).2.2
    have hBB : B (nI f).toNatClampNeg = B f := by rw [qf]
    have hCC : C (nI f).toNatClampNeg = C f := by rw [qf]
    have hFt : lk_Fr sz (g + 1) t K FN FE FH := lk_Fr_mono hFr (Nat.le_refl _) (by omega)
    obtain ⟨k', k12', hK', kv, ka, kb, kc⟩ := hAr f hf
    have ek : k' = k := (nI_eq (by omega) (by omega)).mp (hK'.symm.trans hK)
    subst ek
    obtain ⟨b, hb, hBb⟩ := kb k4
    by_cases z4 : k' = 4
    · have hK4 : K (nI f).toNatClampNeg = 4 := hKf.trans (congrArg nI (z4))
      have hH0 : FH t = 0 := hH.resolve_right (fun q => absurd q.2 (by omega))
      have hpo := lk_po_0 hH0
      rcases V with ⟨v0, v9⟩ | ⟨v1, w, p, hw, hKw, vw, hp, vp, v9⟩
      · subst v0 v9
        refine ⟨5, _, _, ?_, lx_sR hs1 ht (fun post hp => lr_nf ht hN hF hin hK4 hp) (lx_end (by omega)), ly_nf hs1 ht hN hF hin hK4 rfl⟩
        exact lk_R_stop hB (by decide) rfl rfl rfl
      · subst v1 vw vp v9
        obtain ⟨kw, kw12, hKw', -, kwa, -, -⟩ := hAr w hw
        have ekw : kw = 2 := (nI_eq (by omega) (by omega)).mp (hKw'.symm.trans hKw)
        obtain ⟨a, ha, hAa⟩ := kwa (by omega)
        have qw : (nI w).toNatClampNeg = w := nI_clamp (by omega)
        have iw : vp_in (nI w) 32 := vp_in_nI (by omega) (by decide)
        have hAw : A (nI w).toNatClampNeg = nI a := by rw [qw]; exact hAa
        have i8 : vp_in (3 * nI w) 96 := by rw [lk_3]; exact vp_in_nI (by omega) (by decide)
        have q8 : (3 * nI w).toNatClampNeg = 3 * w := by rw [lk_3]; exact nI_clamp (by omega)
        have hPw : P (3 * nI w).toNatClampNeg = nI a := by rw [q8, (hPt w).1]; exact hAa
        have hX := lk_En_ext hEn (by omega) hb he hp
        have hB2 : lk_B cl lm sz al c K A B C P (upd LN (g + 1) (LN p + 1)) := ⟨b1, b2, b3, b4, b5, b6, b7, hAr, hPt, hX.2.2.1⟩
        obtain ⟨r, u', v', hR, wx, wy⟩ := h0 cl lm sz al (s + 1) c (g + 1) t a (g + 1) oc rs hE 1 (nI w) (nI p) oy ry hY 1 (nI w) (nI p) K A B C P (upd BN (g + 1) (nI b)) (upd BE (g + 1) (nI e)) (upd NX (g + 1) (nI p)) (upd LN (g + 1) (LN p + 1)) (upd bn (g + 1) (nI b)) (upd be (g + 1) (nI e)) (upd nx (g + 1) (nI p)) FN FE FL FH
          ⟨hB2, by omega, hX, lk_Ag_ext hAg _ _ _, lk_Fr_mono hFt (by omega) (Nat.le_refl _)⟩ ha (by omega) (by omega) (by omega)
        exact ⟨r, u', v', hR, lx_sR hs1 ht (fun post hp' => lr_ap ht hN hF hin hK4 (by omega) (by omega) iw hAw (hBB.trans hBb) hp') wx,
          ly_ap hs1 ht hN hF hin hK4 hH0 (by omega) i1 (hPB.trans hBb) i8 hPw wy⟩
    · have n4 : ¬ K (nI f).toNatClampNeg = 4 := by rw [hKf]; exact lk_ne (b := 4) z4 (by omega) (by omega)
      have k4n : ¬ nI k' = 4 := lk_ne (b := 4) z4 (by omega) (by omega)
      rcases V with ⟨v0, v9⟩ | ⟨v1, w, p, hw, hKw, vw, hp, vp, v9⟩
      · subst v0 v9
        by_cases z5 : k' = 5
        · have hK5 : K (nI f).toNatClampNeg = 5 := hKf.trans (congrArg nI (z5))
          have hH0 : FH t = 0 := hH.resolve_right (fun q => absurd q.2 (by omega))
          have hpo := lk_po_0 hH0
          obtain ⟨cc, hcc, hCc⟩ := kc z5
          by_cases zv : vl = 0
          · obtain ⟨r, u', v', hR, wx, wy⟩ := h0 cl lm sz al (s + 1) c g t cc e oc rs hE 0 vl ve oy ry hY 0 vl 0 K A B C P BN BE NX LN bn be nx FN FE FL FH ⟨hB, by omega, hEn, hAg, hFt⟩ hcc he (by omega) (by omega)
            exact ⟨r, u', v', hR, lx_sR hs1 ht (fun post hp' => lr_b0 ht hN hF hin n4 hK5 zv (hCC.trans hCc) hp') wx, ly_b0 hs1 ht hN hF hin hK5 hH0 zv i2 (hPC.trans hCc) wy⟩
          · obtain ⟨r, u', v', hR, wx, wy⟩ := h0 cl lm sz al (s + 1) c g t b e oc rs hE 0 vl ve oy ry hY 0 vl 0 K A B C P BN BE NX LN bn be nx FN FE FL FH ⟨hB, by omega, hEn, hAg, hFt⟩ hb he (by omega) (by omega)
            exact ⟨r, u', v', hR, lx_sR hs1 ht (fun post hp' => lr_b1 ht hN hF hin n4 hK5 zv (hBB.trans hBb) hp') wx, ly_b1 hs1 ht hN hF hin hK5 hH0 zv i1 (hPB.trans hBb) wy⟩
        · have n5 : ¬ K (nI f).toNatClampNeg = 5 := by rw [hKf]; exact lk_ne (b := 5) z5 (by omega) (by omega)
          have k5n : ¬ nI k' = 5 := lk_ne (b := 5) z5 (by omega) (by omega)
          have h6 : 6 ≤ k' := by omega
          rcases hH with hH0 | ⟨hH1, -⟩
          · have hpo := lk_po_0 hH0
            have hpl := lk_po_left (FH := FH) (d := t)
            obtain ⟨r, u', v', hR, wx, wy⟩ := h0 cl lm sz al (s + 1) c g (t + 1) b e oc rs hE 0 vl ve oy ry hY 0 vl 0 K A B C P BN BE NX LN bn be nx FN FE (upd FL t vl) (upd FH t 1) ⟨hB, by omega, hEn, hAg, lk_Fr_left hFt hf he h6 k12 hN hF hK⟩ hb he (by omega) (by omega)
            exact ⟨r, u', v', hR, lx_sR hs1 ht (fun post hp' => lr_lf ht hN hF hin n4 n5 hH0 (hBB.trans hBb) hp') wx, ly_lf hs1 ht hN hF hin hKf hH0 k4n k5n i1 (hPB.trans hBb) wy⟩
          · have hpo := lk_po_1 hH1
            by_cases zd : k' = 9 ∧ vl = 0
            · have hK9 : K (nI f).toNatClampNeg = 9 := hKf.trans (congrArg nI (zd.1))
              refine ⟨7, _, _, ?_, lx_sR hs1 ht (fun post hp' => lr_op ht hN hF hin n4 n5 hH1 rfl (fun Q hQ => lo_zd hin hK9 zd.2 hQ) hp') (lx_end (by omega)), ly_zd hs1 ht hN hF hin hK9 hH1 zd.2⟩
              exact lk_R_stop hB (by decide) rfl rfl rfl
            · have hr : k' = 9 → ¬ vl = 0 := fun q1 q2 => zd ⟨q1, q2⟩
              obtain ⟨r, u', v', hR, wx, wy⟩ := h1 cl lm sz al (s + 1) c g t oc rs hE fn fe 0 (lk_op k' (FL t) vl) ve oy ry hY x3 (nI e) 0 K A B C P BN BE NX LN bn be nx FN FE FL FH ⟨hB, by omega, hEn, hAg, hFt⟩ (Or.inl ⟨rfl, rfl⟩) (by omega) (by omega)
              exact ⟨r, u', v', hR, lx_sR hs1 ht (fun post hp' => lr_op ht hN hF hin n4 n5 hH1 rfl (fun Q hQ => lo_op h6 k12 hin hKf hr hQ) hp') wx,
                ly_op hs1 ht hN hF hin hKf hH1 k4n (fun q => hr ((nI_eq (b := 9) (by omega) (by omega)).mp q)) rfl (fun Q hQ => ly_opr h6 k12 hr hQ) wy⟩
      · subst v1 vw vp v9
        refine ⟨6, _, _, ?_, lx_sR hs1 ht (fun post hp' => lr_ni ht hN hF hin n4 hp') (lx_end (by omega)), ly_ni hs1 ht hN hF hin hKf rfl k4n⟩
        exact lk_R_stop hB (by decide) rfl rfl rfl
theorem lk_T : ∀ m : Nat, lk_T0 m ∧ lk_T1 m := by
  intro m
  induction m with
  | zero => exact ⟨by intro cl lm sz al s c g d n e oc rs hE vf vl ve oy ry hY x7 x8 x9 K A B C P BN BE NX LN bn be nx FN FE FL FH I hn he hm hs; omega, by intro cl lm sz al s c g d oc rs hE fn fe vf vl ve oy ry hY x3 x4 x9 K A B C P BN BE NX LN bn be nx FN FE FL FH I V hm hs; omega⟩
  | succ m ih => exact ⟨lk_T0s ih.1 ih.2, lk_T1s ih.1 ih.2⟩
/-- an evaluation asked for by a call -/
theorem lk_go {cl lm sz al c g n e : Nat} {oc rs hE fr ph fn fe vf vl ve oy ry hY ch eX eY pn pe : Int32} {K A B C P BN BE NX LN bn be nx FN FE FL FH : Nat → Int32}
    (hB : lk_B cl lm sz al c K A B C P LN) (hg : g ≤ c) (hEn : lk_En sz (g + 1) BN BE NX LN) (hAg : lk_Ag (g + 1) BN BE NX bn be nx) (hn : n < sz) (he : e < g + 1)
    (e1 : ch = nI c) (e2 : eX = nI (g + 1)) (e3 : eY = nI g) (e4 : pn = nI n) (e5 : pe = nI e) :
    ∃ (r : Int32) (u' : SX) (v' : SY), lk_R r u' v' ∧
      (∀ post : SX → Prop, post u' → wpX_evaluate post (nI cl, nI lm, nI sz, oc, rs, ch, nI al, hE, eX, fr, ph, fn, fe, vf, vl, ve, K, A, B, C, BN, BE, NX, LN, FN, FE, FL, FH) pn pe) ∧
      (∀ post : Int32 → SY → Prop, post r v' → wpY_evaluate post (nI cl, nI lm, nI sz, oy, ry, hY, ch, nI al, eY, K, P, bn, be, nx, FN, FE, FL, FH) pn pe) := by
  subst e1 e2 e3 e4 e5
  have b5 := hB.2.2.2.2.1
  have b6 := hB.2.2.2.2.2.1
  obtain ⟨r, u', v', hR, wx, wy⟩ := (lk_T 721).1 cl lm sz al 0 c g 0 n e oc rs hE vf vl ve oy ry hY 0 0 0 K A B C P BN BE NX LN bn be nx FN FE FL FH ⟨hB, by omega, hEn, hAg, fun j hj => absurd hj (Nat.not_lt_zero j)⟩ hn he (show 3 * (al - c) + 0 < 721 by omega) (by omega)
  refine ⟨r, u', v', hR, fun post hp => ?_, fun post hp => ?_⟩
  · have w := wx post hp 722 (Nat.le_refl _)
    rw [nI_0] at w
    unfold wpX_evaluate
    exact ⟨722, w⟩
  · have w := wy post hp 721 (Nat.le_refl _)
    rw [nI_0] at w
    unfold wpY_evaluate
    exact ⟨721, w⟩
