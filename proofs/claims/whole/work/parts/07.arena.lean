/-! ===== the constructor, the arena's methods ===== -/
theorem lk_clamp (x : Int32) {lo hi : Nat} {L H : Int32} (hl : L = nI lo) (hh : H = nI hi) (h : lo ≤ hi) (h31 : hi < 2 ^ 31) :
    ∃ a : Nat, lo ≤ a ∧ a ≤ hi ∧ (∀ post : Int32 → Prop, post (nI a) → wpX_clamped post x L H) ∧
      (∀ (post : Int32 → Prop) (cl lm sz oc rs hY ch al en : Int32) (K P bn be nx FN FE FL FH : Nat → Int32), post (nI a) → wpY_clamp post (cl, lm, sz, oc, rs, hY, ch, al, en, K, P, bn, be, nx, FN, FE, FL, FH) x L H) := by
  subst hl hh
  by_cases c : nI lo ≤ x
  · have x0 : ¬ x < 0 := by
      intro q
      have := nI_pos' (n := lo) (by omega)
      exact absurd (Int32.lt_of_le_of_lt (Int32.le_trans this c) q) Int32.lt_irrefl
    obtain ⟨j, hj, rfl⟩ := nI_of x0
    have lj : lo ≤ j := (nI_leI (by omega) hj).mp c
    by_cases c2 : nI j ≤ nI hi
    · have jh : j ≤ hi := (nI_leI hj h31).mp c2
      exact ⟨j, lj, jh, fun post hp => br_t c (br_t c2 hp), fun post cl lm sz oc rs hY ch al en K P bn be nx FN FE FL FH hp => br_t c (br_t c2 hp)⟩
    · exact ⟨hi, h, Nat.le_refl _, fun post hp => br_t c (br_f c2 hp), fun post cl lm sz oc rs hY ch al en K P bn be nx FN FE FL FH hp => br_t c (br_f c2 hp)⟩
  · exact ⟨lo, Nat.le_refl _, h, fun post hp => br_f c hp, fun post cl lm sz oc rs hY ch al en K P bn be nx FN FE FL FH hp => br_f c hp⟩
theorem lk_Ar0 (K A B C : Nat → Int32) : lk_Ar 0 K A B C := fun n hn => absurd hn (Nat.not_lt_zero n)
theorem i_vc0 (k0 : Int32) (k1 : Int32) : wpX_init (fun u => wpY_init (fun v => i_Rel 2 u v) k0 k1) k0 k1 := by
  obtain ⟨a, a1, a2, ax, ay⟩ := lk_clamp k0 (L := 8) (H := 32) (lo := 8) (hi := 32) (by decide) (by decide) (by decide) (by decide)
  obtain ⟨b, b1, b2, bx, bw⟩ := lk_clamp k1 (L := 16) (H := 240) (lo := 16) (hi := 240) (by decide) (by decide) (by decide) (by decide)
  have hB : lk_B a b 0 0 0 (fun _ => 0) (fun _ => 0) (fun _ => 0) (fun _ => 0) (fun _ => 0) (fun _ => 0) :=
    ⟨by omega, a1, a2, b1, b2, by omega, by omega, lk_Ar0 _ _ _ _, fun n => ⟨rfl, rfl, rfl⟩, rfl⟩
  unfold wpX_init
  refine ax _ (bx _ ?_)
  unfold wpX_resetSession
  show wpY_init _ k0 k1
  unfold wpY_init
  refine ay _ _ _ _ _ _ _ _ _ _ _ _ _ _ _ _ _ _ _ (bw _ _ _ _ _ _ _ _ _ _ _ _ _ _ _ _ _ _ _ ?_)
  exact ⟨0, lk_R_stop hB (by decide) (by decide) (by decide) (by decide)⟩
theorem i_vc_size {k : Nat} {u : SX} {v : SY} (I : i_Rel k u v) (hk : k + 5 ≤ 2562) : wpX_size (fun r => wpY_size (fun r' => r' = r ∧ i_Rel (k + 5) u v) v) u := by
  have J := i_up I
  obtain ⟨r, cl, lm, sz, al, c, rs, hE, hY, eX, eY, fr, ph, fn, fe, vf, vl, ve, K, A, B, C, BN, BE, NX, LN, P, bn, be, nx, FN, FE, FL, FH, rfl, rfl, -⟩ := I
  exact ⟨rfl, J⟩
theorem i_vc_outcome {k : Nat} {u : SX} {v : SY} (I : i_Rel k u v) (hk : k + 5 ≤ 2562) : wpX_outcome (fun r => wpY_outcome (fun r' => r' = r ∧ i_Rel (k + 5) u v) v) u := by
  have J := i_up I
  obtain ⟨r, cl, lm, sz, al, c, rs, hE, hY, eX, eY, fr, ph, fn, fe, vf, vl, ve, K, A, B, C, BN, BE, NX, LN, P, bn, be, nx, FN, FE, FL, FH, rfl, rfl, -⟩ := I
  exact ⟨rfl, J⟩
theorem i_vc_result {k : Nat} {u : SX} {v : SY} (I : i_Rel k u v) (hk : k + 5 ≤ 2562) : wpX_result (fun r => wpY_result (fun r' => r' = r ∧ i_Rel (k + 5) u v) v) u := by
  have J := i_up I
  obtain ⟨r, cl, lm, sz, al, c, rs, hE, hY, eX, eY, fr, ph, fn, fe, vf, vl, ve, K, A, B, C, BN, BE, NX, LN, P, bn, be, nx, FN, FE, FL, FH, rfl, rfl, -⟩ := I
  exact ⟨rfl, J⟩
theorem i_vc_charge {k : Nat} {u : SX} {v : SY} (I : i_Rel k u v) (hk : k + 5 ≤ 2562) : wpX_charge (fun r => wpY_charge (fun r' => r' = r ∧ i_Rel (k + 5) u v) v) u := by
  have J := i_up I
  obtain ⟨r, cl, lm, sz, al, c, rs, hE, hY, eX, eY, fr, ph, fn, fe, vf, vl, ve, K, A, B, C, BN, BE, NX, LN, P, bn, be, nx, FN, FE, FL, FH, rfl, rfl, -⟩ := I
  exact ⟨rfl, J⟩
theorem i_vc_allowance {k : Nat} {u : SX} {v : SY} (I : i_Rel k u v) (hk : k + 5 ≤ 2562) : wpX_allowance (fun r => wpY_allowance (fun r' => r' = r ∧ i_Rel (k + 5) u v) v) u := by
  have J := i_up I
  obtain ⟨r, cl, lm, sz, al, c, rs, hE, hY, eX, eY, fr, ph, fn, fe, vf, vl, ve, K, A, B, C, BN, BE, NX, LN, P, bn, be, nx, FN, FE, FL, FH, rfl, rfl, -⟩ := I
  exact ⟨rfl, J⟩
theorem i_vc_clear {k : Nat} {u : SX} {v : SY} (I : i_Rel k u v) (hk : k + 5 ≤ 2562) : wpX_clear (fun u' => wpY_clear (fun v' => i_Rel (k + 5) u' v') v) u := by
  obtain ⟨r, cl, lm, sz, al, c, rs, hE, hY, eX, eY, fr, ph, fn, fe, vf, vl, ve, K, A, B, C, BN, BE, NX, LN, P, bn, be, nx, FN, FE, FL, FH, rfl, rfl, hB, -⟩ := I
  obtain ⟨b1, b2, b3, b4, b5, b6, b7, hAr, hPt, hL0⟩ := hB
  have hB : lk_B cl lm 0 0 0 K A B C P LN := ⟨by omega, b2, b3, b4, b5, by omega, by omega, lk_Ar0 _ _ _ _, hPt, hL0⟩
  unfold wpX_clear wpX_resetSession
  show wpY_clear _ _
  unfold wpY_clear wpY_finish
  exact ⟨0, lk_R_stop hB (by decide) (by decide) (by decide) (by decide)⟩
/-- a node exists, or not -/
theorem lk_exi (x : Int32) {sz : Nat} (h : sz < 2 ^ 31) : (x < 0 ∨ nI sz ≤ x) ∨ ∃ j : Nat, j < sz ∧ x = nI j := by
  rcases pk_ix x h with q | q | q
  · exact Or.inl (Or.inl q)
  · exact Or.inl (Or.inr q)
  · exact Or.inr q
theorem i_vc_kind {k : Nat} {u : SX} {v : SY} (I : i_Rel k u v) (hk : k + 5 ≤ 2562) (v1 : Int32) : wpX_kind (fun r => wpY_kind (fun r' => r' = r ∧ i_Rel (k + 5) u v) v v1) u v1 := by
  have J := i_up I
  obtain ⟨r, cl, lm, sz, al, c, rs, hE, hY, eX, eY, fr, ph, fn, fe, vf, vl, ve, K, A, B, C, BN, BE, NX, LN, P, bn, be, nx, FN, FE, FL, FH, rfl, rfl, hB, -⟩ := I
  obtain ⟨b1, b2, b3, b4, b5, b6, b7, hAr, hPt, hL0⟩ := hB
  unfold wpX_kind
  rcases lk_exi v1 (sz := sz) (by omega) with q | ⟨j, hj, rfl⟩
  · refine lx_ex0 q (br_t rfl ?_)
    unfold wpY_kind
    exact ly_ex0 q (br_t rfl ⟨rfl, J⟩)
  · have i1 : vp_in (nI j) 32 := vp_in_nI (by omega) (by decide)
    refine lx_ex1 hj (by omega) (br_f (by decide) ⟨i1, ?_⟩)
    unfold wpY_kind
    exact ly_ex1 hj (by omega) (br_f (by decide) ⟨i1, rfl, J⟩)
theorem i_vc_part {k : Nat} {u : SX} {v : SY} (I : i_Rel k u v) (hk : k + 5 ≤ 2562) (v1 : Int32) (v2 : Int32) : wpX_part (fun r => wpY_part (fun r' => r' = r ∧ i_Rel (k + 5) u v) v v1 v2) u v1 v2 := by
  have J := i_up I
  obtain ⟨r, cl, lm, sz, al, c, rs, hE, hY, eX, eY, fr, ph, fn, fe, vf, vl, ve, K, A, B, C, BN, BE, NX, LN, P, bn, be, nx, FN, FE, FL, FH, rfl, rfl, hB, -⟩ := I
  obtain ⟨b1, b2, b3, b4, b5, b6, b7, hAr, hPt, hL0⟩ := hB
  unfold wpX_part
  rcases lk_exi v1 (sz := sz) (by omega) with q | ⟨j, hj, rfl⟩
  · refine lx_ex0 q (br_t rfl ?_)
    unfold wpY_part
    exact ly_ex0 q (br_t rfl ⟨rfl, J⟩)
  · have i1 : vp_in (nI j) 32 := vp_in_nI (by omega) (by decide)
    have qj : (nI j).toNatClampNeg = j := nI_clamp (by omega)
    refine lx_ex1 hj (by omega) (br_f (by decide) ?_)
    by_cases c0 : v2 < 0
    · refine br_t c0 ?_
      unfold wpY_part
      exact ly_ex1 hj (by omega) (br_f (by decide) (br_t c0 ⟨rfl, J⟩))
    · refine br_f c0 ?_
      by_cases c2 : 2 < v2
      · refine br_t c2 ?_
        unfold wpY_part
        exact ly_ex1 hj (by omega) (br_f (by decide) (br_f c0 (br_t c2 ⟨rfl, J⟩)))
      · refine br_f c2 ?_
        obtain ⟨w, hw, rfl⟩ := nI_of2 (x := v2) (M := 2) (n := 2) (by decide) c0 (Int32.not_lt.mp c2)
        have a3 : 3 * nI j + nI w = nI (3 * j + w) := by rw [lk_3, nI_add]
        have i3 : vp_in (3 * nI j + nI w) 96 := by rw [a3]; exact vp_in_nI (by omega) (by decide)
        have q3 : (3 * nI j + nI w).toNatClampNeg = 3 * j + w := by rw [a3]; exact nI_clamp (by omega)
        rcases (show w = 0 ∨ w = 1 ∨ w = 2 by omega) with z | z | z
        · subst z
          refine br_t nI_0 ⟨i1, ?_⟩
          unfold wpY_part
          refine ly_ex1 hj (by omega) (br_f (by decide) (br_f c0 (br_f c2 ⟨i3, ?_, J⟩)))
          rw [q3, qj]; exact (hPt j).1
        · subst z
          refine br_f (by decide) (br_t rfl ⟨i1, ?_⟩)
          unfold wpY_part
          refine ly_ex1 hj (by omega) (br_f (by decide) (br_f c0 (br_f c2 ⟨i3, ?_, J⟩)))
          rw [q3, qj]; exact (hPt j).2.1
        · subst z
          refine br_f (by decide) (br_f (by decide) (br_t rfl ⟨i1, ?_⟩))
          unfold wpY_part
          refine ly_ex1 hj (by omega) (br_f (by decide) (br_f c0 (br_f c2 ⟨i3, ?_, J⟩)))
          rw [q3, qj]; exact (hPt j).2.2
