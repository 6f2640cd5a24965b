/-! ===== the session's methods ===== -/
theorem lk_En0 {sz : Nat} {BN BE NX LN : Nat → Int32} (h : LN 0 = nI 0) : lk_En sz (0 + 1) BN BE NX LN := ⟨by omega, by omega, h, fun e h0 he => absurd h0 (by omega)⟩
theorem lk_Ag0 {BN BE NX bn be nx : Nat → Int32} : lk_Ag (0 + 1) BN BE NX bn be nx := fun e h0 he => absurd h0 (by omega)
theorem i_vc_start {k : Nat} {u : SX} {v : SY} (I : i_Rel k u v) (hk : k + 5 ≤ 2562) (v1 : Int32) (v2 : Int32) : wpX_start (fun r u' => wpY_start (fun r' v' => r' = r ∧ i_Rel (k + 5) u' v') v v1 v2) u v1 v2 := by
  have J := i_up I
  obtain ⟨o, cl, lm, sz, al, c, rs, hE, hY, eX, eY, fr, ph, fn, fe, vf, vl, ve, K, A, B, C, BN, BE, NX, LN, P, bn, be, nx, FN, FE, FL, FH, rfl, rfl, hB, hO⟩ := I
  obtain ⟨b1, b2, b3, b4, b5, b6, b7, hAr, hPt, hL0⟩ := hB
  unfold wpX_start
  rcases lk_exi v1 (sz := sz) (by omega) with q | ⟨j, hj, rfl⟩
  · refine lx_ex0 q (br_t rfl ?_)
    unfold wpY_start
    exact ly_ex0 q (br_t rfl ⟨rfl, J⟩)
  · obtain ⟨a, a1, a2, ax, ay⟩ := lk_clamp v2 (L := 1) (H := nI lm) (lo := 1) (hi := lm) (by decide) rfl (by omega) (by omega)
    have hB2 : lk_B cl lm sz a 0 K A B C P LN := ⟨b1, b2, b3, b4, b5, a2, by omega, hAr, hPt, hL0⟩
    obtain ⟨r, u', v', hR, wx, wy⟩ := lk_go (oc := 0) (rs := 0) (hE := 0) (fr := fr) (ph := ph) (fn := fn) (fe := fe) (vf := vf) (vl := vl) (ve := ve) (oy := o) (ry := rs) (hY := hY) (ch := 0) (eX := 1) (eY := 0) (pn := nI j) (pe := 0) (FN := FN) (FE := FE) (FL := FL) (FH := FH) (e := 0) (n := j)
      hB2 (Nat.le_refl 0) (lk_En0 hL0) (lk_Ag0 (BN := BN) (BE := BE) (NX := NX) (bn := bn) (be := be) (nx := nx)) hj (by omega) (by decide) (by decide) (by decide) rfl (by decide)
    have hR2 := hR
    obtain ⟨cl1, lm1, sz1, al1, c1, rs1, hE1, hY1, eX1, eY1, fr1, ph1, fn1, fe1, vf1, vl1, ve1, K1, A1, B1, C1, BN1, BE1, NX1, LN1, P1, bn1, be1, nx1, FN1, FE1, FL1, FH1, rfl, rfl, -⟩ := hR
    refine lx_ex1 hj (by omega) (br_f (by decide) ?_)
    unfold wpX_resetSession
    refine ax _ (wx _ ?_)
    show wpY_start _ _ _ _
    unfold wpY_start
    exact ly_ex1 hj (by omega) (br_f (by decide) (ay _ _ _ _ _ _ _ _ _ _ _ _ _ _ _ _ _ _ _ (wy _ ⟨rfl, r, hR2⟩)))
theorem i_vc_supply {k : Nat} {u : SX} {v : SY} (I : i_Rel k u v) (hk : k + 5 ≤ 2562) (v1 : Int32) : wpX_supply (fun r u' => wpY_supply (fun r' v' => r' = r ∧ i_Rel (k + 5) u' v') v v1) u v1 := by
  have J := i_up I
  obtain ⟨o, cl, lm, sz, al, c, rs, hE, hY, eX, eY, fr, ph, fn, fe, vf, vl, ve, K, A, B, C, BN, BE, NX, LN, P, bn, be, nx, FN, FE, FL, FH, rfl, rfl, hB, hO⟩ := I
  have hB' := hB
  obtain ⟨b1, b2, b3, b4, b5, b6, b7, hAr, hPt, hL0⟩ := hB'
  rcases hO with ⟨o2, -⟩ | ⟨o2, hH⟩
  · exact br_f o2 (br_f o2 ⟨rfl, J⟩)
  · subst o2
    rcases lk_exi v1 (sz := sz) (by omega) with q | ⟨j, hj, rfl⟩
    · exact br_t rfl (lx_ex0 q (br_t rfl (br_t rfl (ly_ex0 q (br_t rfl ⟨rfl, J⟩)))))
    · obtain ⟨g, h, m, rfl, rfl, rfl, rfl, hh, rfl, hm, hKm, hgc, hEn, hAg⟩ := hH
      have gE := hEn.2.1
      obtain ⟨km, km12, hKm', -, kma, -, -⟩ := hAr m hm
      have ekm : km = 2 := (nI_eq (by omega) (by omega)).mp (hKm'.symm.trans hKm)
      obtain ⟨a, ha, hAa⟩ := kma (by omega)
      have im : vp_in (nI m) 32 := vp_in_nI (by omega) (by decide)
      have qm : (nI m).toNatClampNeg = m := nI_clamp (by omega)
      have hAm : A (nI m).toNatClampNeg = nI a := by rw [qm]; exact hAa
      have i3 : vp_in (3 * nI m) 96 := by rw [lk_3]; exact vp_in_nI (by omega) (by decide)
      have q3 : (3 * nI m).toNatClampNeg = 3 * m := by rw [lk_3]; exact nI_clamp (by omega)
      have hPm : P (3 * nI m).toNatClampNeg = nI a := by rw [q3, (hPt m).1]; exact hAa
      by_cases hca : c = al
      · subst hca
        refine br_t rfl (lx_ex1 hj (by omega) (br_f (by decide) (lx_chg0 Int32.lt_irrefl (br_t rfl ?_))))
        refine br_t rfl (ly_ex1 hj (by omega) (br_f (by decide) (ly_ext (by omega) ⟨i3, br_t rfl ⟨rfl, 3, ?_⟩⟩)))
        exact lk_R_stop hB (by decide) rfl rfl rfl
      · have hX := lk_En_ext (m := j) (d := 0) (p := h) hEn (by omega) hj (by omega) hh
        have hB2 : lk_B cl lm sz al (c + 1) K A B C P (upd LN (g + 1) (LN h + 1)) := ⟨b1, b2, b3, b4, b5, b6, by omega, hAr, hPt, hX.2.2.1⟩
        obtain ⟨r, u', v', hR, wx, wy⟩ := lk_go (oc := 2) (rs := nI m) (hE := nI h) (fr := fr) (ph := ph) (fn := fn) (fe := fe) (vf := vf) (vl := vl) (ve := ve) (oy := 2) (ry := nI m) (hY := nI h) (ch := nI (c + 1)) (eX := nI (g + 1 + 1)) (eY := nI (g + 1)) (pn := nI a) (pe := nI (g + 1)) (FN := FN) (FE := FE) (FL := FL) (FH := FH) (e := g + 1) (n := a) (g := g + 1) (bn := upd bn (g + 1) (nI j)) (be := upd be (g + 1) (nI 0)) (nx := upd nx (g + 1) (nI h))
          hB2 (by omega) hX (lk_Ag_ext hAg _ _ _) ha (by omega) rfl rfl rfl rfl rfl
        have hR2 := hR
        obtain ⟨cl1, lm1, sz1, al1, c1, rs1, hE1, hY1, eX1, eY1, fr1, ph1, fn1, fe1, vf1, vl1, ve1, K1, A1, B1, C1, BN1, BE1, NX1, LN1, P1, bn1, be1, nx1, FN1, FE1, FL1, FH1, rfl, rfl, -⟩ := hR
        rw [nI_0, ← hAm] at wx
        rw [nI_0, ← hPm] at wy
        refine br_t rfl (lx_ex1 hj (by omega) (br_f (by decide) (lx_chg1 (nI_lt (by omega) (by omega)) (nI_1 c) (br_f (by decide) (lx_ext (by omega) (by omega) ⟨im, wx _ ?_⟩)))))
        exact br_t rfl (ly_ex1 hj (by omega) (br_f (by decide) (ly_ext (by omega) ⟨i3, br_f (lk_ne hca (by omega) (by omega)) (nm_r (nI_1 c) (wy _ ⟨rfl, r, hR2⟩))⟩)))
/-- an index has a binding, or not -/
theorem lk_idx {NX : Nat → Int32} (x : Int32) (h : Nat) : (x < 0 ∨ ∃ i : Nat, i < 2 ^ 31 ∧ x = nI i ∧ lk_an NX i h = 0) ∨ ∃ i : Nat, i < 2 ^ 31 ∧ x = nI i ∧ lk_an NX i h ≠ 0 := by
  by_cases c : x < 0
  · exact Or.inl (Or.inl c)
  · obtain ⟨i, hi, e⟩ := nI_of c
    by_cases z : lk_an NX i h = 0
    · exact Or.inl (Or.inr ⟨i, hi, e, z⟩)
    · exact Or.inr ⟨i, hi, e, z⟩
section
variable {cl lm sz oc rs ch al hE en fr ph fn fe vf vl ve : Int32} {K A B C BN BE NX LN FN FE FL FH : Nat → Int32}
theorem lx_no {post : Int32 → Prop} {z E h : Nat} {x : Int32} (hEn : lk_En z E BN BE NX LN) (hh : h < E) (q : x < 0 ∨ ∃ i : Nat, i < 2 ^ 31 ∧ x = nI i ∧ lk_an NX i h = 0) (hp : post 0) : wpX_hasBinding post (cl, lm, sz, oc, rs, ch, al, hE, en, fr, ph, fn, fe, vf, vl, ve, K, A, B, C, BN, BE, NX, LN, FN, FE, FL, FH) (nI h) x := by
  rcases q with q | ⟨i, hi, rfl, z0⟩
  · exact lx_hasn q hp
  · exact lx_has0 hEn hh hi z0 hp
end
section
variable {cl lm sz oc rs hY ch al en : Int32} {K P bn be nx FN FE FL FH : Nat → Int32}
theorem ly_no {post : Int32 → Prop} {z E h : Nat} {x : Int32} {BN BE NX LN : Nat → Int32} (hEn : lk_En z E BN BE NX LN) (hAg : lk_Ag E BN BE NX bn be nx) (hh : h < E) (q : x < 0 ∨ ∃ i : Nat, i < 2 ^ 31 ∧ x = nI i ∧ lk_an NX i h = 0) (hp : post 0) : wpY_find post (cl, lm, sz, oc, rs, hY, ch, al, en, K, P, bn, be, nx, FN, FE, FL, FH) (nI h) x := by
  rcases q with q | ⟨i, hi, rfl, z0⟩
  · exact ly_findn q hp
  · exact ly_find hEn hAg hh hi (by rw [z0, nI_0]; exact hp)
end
theorem i_vc_demand {k : Nat} {u : SX} {v : SY} (I : i_Rel k u v) (hk : k + 5 ≤ 2562) (v1 : Int32) : wpX_demand (fun r u' => wpY_demand (fun r' v' => r' = r ∧ i_Rel (k + 5) u' v') v v1) u v1 := by
  have J := i_up I
  obtain ⟨o, cl, lm, sz, al, c, rs, hE, hY, eX, eY, fr, ph, fn, fe, vf, vl, ve, K, A, B, C, BN, BE, NX, LN, P, bn, be, nx, FN, FE, FL, FH, rfl, rfl, hB, hO⟩ := I
  have hB' := hB
  obtain ⟨b1, b2, b3, b4, b5, b6, b7, hAr, hPt, hL0⟩ := hB'
  rcases hO with ⟨o2, h0⟩ | ⟨o2, hH⟩
  · subst h0
    refine br_f o2 ?_
    unfold wpY_demand
    exact ly_find0 (br_f o2 ⟨rfl, J⟩)
  · subst o2
    obtain ⟨g, h, m, rfl, rfl, rfl, rfl, hh, rfl, hm, hKm, hgc, hEn, hAg⟩ := hH
    have gE := hEn.2.1
    rcases lk_idx (NX := NX) v1 h with q | ⟨i, hi, rfl, z⟩
    · refine br_t rfl (lx_no hEn hh q (br_t rfl ?_))
      unfold wpY_demand
      exact ly_no hEn hAg hh q (br_t rfl (br_t rfl ⟨rfl, J⟩))
    · have bE : lk_an NX i h < g + 1 := lk_an_lt hEn i h hh
      obtain ⟨n1, e1, p1, l1, a1, a2, -, -, a5, a6, -, -, -⟩ := hEn.2.2.2 (lk_an NX i h) (by omega) bE
      have qb : (nI (lk_an NX i h)).toNatClampNeg = lk_an NX i h := nI_clamp (by omega)
      have ga := hAg (lk_an NX i h) (by omega) bE
      have hbN : BN (nI (lk_an NX i h)).toNatClampNeg = nI n1 := by rw [qb]; exact a5
      have hbE : BE (nI (lk_an NX i h)).toNatClampNeg = nI e1 := by rw [qb]; exact a6
      have hyN : bn (nI (lk_an NX i h)).toNatClampNeg = nI n1 := by rw [qb, ga.1]; exact a5
      have hyE : be (nI (lk_an NX i h)).toNatClampNeg = nI e1 := by rw [qb, ga.2.1]; exact a6
      have ib : vp_in (nI (lk_an NX i h)) 241 := vp_in_nI (by omega) (by decide)
      have iy : vp_in (nI (lk_an NX i h)) 256 := vp_in_nI (by omega) (by decide)
      have b0 : ¬ nI (lk_an NX i h) = 0 := nI_ne0 (by omega) (by omega)
      by_cases hca : c = al
      · subst hca
        refine br_t rfl (lx_has1 hEn hh hi z (br_f (by decide) (lx_chg0 Int32.lt_irrefl (br_t rfl ?_))))
        show wpY_demand _ _ _
        unfold wpY_demand
        refine ly_find hEn hAg hh hi (br_t rfl (br_f b0 ⟨iy, iy, br_t rfl ⟨rfl, 3, ?_⟩⟩))
        exact lk_R_stop hB (by decide) rfl rfl rfl
      · have hB2 : lk_B cl lm sz al (c + 1) K A B C P LN := ⟨b1, b2, b3, b4, b5, b6, by omega, hAr, hPt, hL0⟩
        obtain ⟨r, u', v', hR, wx, wy⟩ := lk_go (oc := 2) (rs := nI m) (hE := nI h) (fr := fr) (ph := ph) (fn := fn) (fe := fe) (vf := vf) (vl := vl) (ve := ve) (oy := 2) (ry := nI m) (hY := nI h) (ch := nI (c + 1)) (eX := nI (g + 1)) (eY := nI g) (pn := nI n1) (pe := nI e1) (FN := FN) (FE := FE) (FL := FL) (FH := FH) (e := e1) (n := n1) (g := g)
          hB2 (by omega) hEn hAg a1 (by omega) rfl rfl rfl rfl rfl
        have hR2 := hR
        obtain ⟨cl1, lm1, sz1, al1, c1, rs1, hE1, hY1, eX1, eY1, fr1, ph1, fn1, fe1, vf1, vl1, ve1, K1, A1, B1, C1, BN1, BE1, NX1, LN1, P1, bn1, be1, nx1, FN1, FE1, FL1, FH1, rfl, rfl, -⟩ := hR
        rw [← hbN, ← hbE] at wx
        rw [← hyN, ← hyE] at wy
        refine br_t rfl (lx_has1 hEn hh hi z (br_f (by decide) (lx_chg1 (nI_lt (by omega) (by omega)) (nI_1 c) (br_f (by decide) (lx_bind hEn hh hi z ⟨ib, ib, wx _ ?_⟩)))))
        show wpY_demand _ _ _
        unfold wpY_demand
        exact ly_find hEn hAg hh hi (br_t rfl (br_f b0 ⟨iy, iy, br_f (lk_ne hca (by omega) (by omega)) (nm_r (nI_1 c) (wy _ ⟨rfl, r, hR2⟩))⟩))
theorem i_vc_captured {k : Nat} {u : SX} {v : SY} (I : i_Rel k u v) (hk : k + 5 ≤ 2562) (v1 : Int32) : wpX_captured (fun r => wpY_captured (fun r' => r' = r ∧ i_Rel (k + 5) u v) v v1) u v1 := by
  have J := i_up I
  obtain ⟨o, cl, lm, sz, al, c, rs, hE, hY, eX, eY, fr, ph, fn, fe, vf, vl, ve, K, A, B, C, BN, BE, NX, LN, P, bn, be, nx, FN, FE, FL, FH, rfl, rfl, hB, hO⟩ := I
  rcases hO with ⟨o2, h0⟩ | ⟨o2, hH⟩
  · subst h0
    refine br_f o2 ?_
    unfold wpY_captured
    exact ly_find0 (br_f o2 ⟨rfl, J⟩)
  · subst o2
    obtain ⟨g, h, m, rfl, rfl, rfl, rfl, hh, rfl, hm, hKm, hgc, hEn, hAg⟩ := hH
    have gE := hEn.2.1
    rcases lk_idx (NX := NX) v1 h with q | ⟨i, hi, rfl, z⟩
    · refine br_t rfl (lx_no hEn hh q (br_t rfl ?_))
      unfold wpY_captured
      exact ly_no hEn hAg hh q (br_t rfl (br_t rfl ⟨rfl, J⟩))
    · have bE : lk_an NX i h < g + 1 := lk_an_lt hEn i h hh
      have qb : (nI (lk_an NX i h)).toNatClampNeg = lk_an NX i h := nI_clamp (by omega)
      have ga := hAg (lk_an NX i h) (by omega) bE
      have ib : vp_in (nI (lk_an NX i h)) 241 := vp_in_nI (by omega) (by decide)
      have iy : vp_in (nI (lk_an NX i h)) 256 := vp_in_nI (by omega) (by decide)
      have b0 : ¬ nI (lk_an NX i h) = 0 := nI_ne0 (by omega) (by omega)
      refine br_t rfl (lx_has1 hEn hh hi z (br_f (by decide) (lx_bind hEn hh hi z ⟨ib, ?_⟩)))
      unfold wpY_captured
      exact ly_find hEn hAg hh hi (br_t rfl (br_f b0 ⟨iy, by rw [qb, ga.1], J⟩))
