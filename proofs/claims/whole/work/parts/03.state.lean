/-! ===== the two states, the relation, the walks of the two evaluation loops ===== -/
def lk_B (cl lm sz al c : Nat) (K A B C P LN : Nat → Int32) : Prop :=
  sz ≤ cl ∧ 8 ≤ cl ∧ cl ≤ 32 ∧ 16 ≤ lm ∧ lm ≤ 240 ∧ al ≤ lm ∧ c ≤ al ∧ lk_Ar sz K A B C ∧ lk_Pt A B C P ∧ LN 0 = nI 0
/-- the held function: node m, environment h, on both sides -/
def lk_H (sz c : Nat) (rs hE hY eX eY : Int32) (K BN BE NX LN bn be nx : Nat → Int32) : Prop :=
  ∃ g h m : Nat, eX = nI (g + 1) ∧ eY = nI g ∧ hE = nI h ∧ hY = nI h ∧ h < g + 1 ∧ rs = nI m ∧ m < sz ∧ K m = nI 2 ∧ g ≤ c ∧
    lk_En sz (g + 1) BN BE NX LN ∧ lk_Ag (g + 1) BN BE NX bn be nx
def lk_R (r : Int32) (u : SX) (v : SY) : Prop :=
  ∃ (cl lm sz al c : Nat) (rs hE hY eX eY fr ph fn fe vf vl ve : Int32) (K A B C BN BE NX LN P bn be nx FN FE FL FH : Nat → Int32),
    u = (nI cl, nI lm, nI sz, r, rs, nI c, nI al, hE, eX, fr, ph, fn, fe, vf, vl, ve, K, A, B, C, BN, BE, NX, LN, FN, FE, FL, FH) ∧
    v = (nI cl, nI lm, nI sz, r, rs, hY, nI c, nI al, eY, K, P, bn, be, nx, FN, FE, FL, FH) ∧
    lk_B cl lm sz al c K A B C P LN ∧ ((r ≠ 2 ∧ hY = 0) ∨ (r = 2 ∧ lk_H sz c rs hE hY eX eY K BN BE NX LN bn be nx))
def i_Rel (_k : Nat) (u : SX) (v : SY) : Prop := ∃ r : Int32, lk_R r u v
theorem i_up {k : Nat} {u : SX} {v : SY} (h : i_Rel k u v) : i_Rel (k + 5) u v := h
theorem lk_R_stop {cl lm sz al c : Nat} {r rs hE eX eY fr ph fn fe vf vl ve szI chI alI : Int32} {K A B C BN BE NX LN P bn be nx FN FE FL FH : Nat → Int32}
    (hB : lk_B cl lm sz al c K A B C P LN) (h2 : r ≠ 2) (e1 : szI = nI sz) (e2 : chI = nI c) (e3 : alI = nI al) :
    lk_R r (nI cl, nI lm, szI, r, rs, chI, alI, hE, eX, fr, ph, fn, fe, vf, vl, ve, K, A, B, C, BN, BE, NX, LN, FN, FE, FL, FH) (nI cl, nI lm, szI, r, rs, 0, chI, alI, eY, K, P, bn, be, nx, FN, FE, FL, FH) := by
  subst e1 e2 e3
  exact ⟨cl, lm, sz, al, c, rs, hE, 0, eX, eY, fr, ph, fn, fe, vf, vl, ve, K, A, B, C, BN, BE, NX, LN, P, bn, be, nx, FN, FE, FL, FH, rfl, rfl, hB, Or.inl ⟨h2, rfl⟩⟩
theorem lk_R_held {cl lm sz al c : Nat} {rs hE hY eX eY fr ph fn fe vf vl ve : Int32} {K A B C BN BE NX LN P bn be nx FN FE FL FH : Nat → Int32}
    (hB : lk_B cl lm sz al c K A B C P LN) (hH : lk_H sz c rs hE hY eX eY K BN BE NX LN bn be nx) :
    lk_R 2 (nI cl, nI lm, nI sz, 2, rs, nI c, nI al, hE, eX, fr, ph, fn, fe, vf, vl, ve, K, A, B, C, BN, BE, NX, LN, FN, FE, FL, FH) (nI cl, nI lm, nI sz, 2, rs, hY, nI c, nI al, eY, K, P, bn, be, nx, FN, FE, FL, FH) :=
  ⟨cl, lm, sz, al, c, rs, hE, hY, eX, eY, fr, ph, fn, fe, vf, vl, ve, K, A, B, C, BN, BE, NX, LN, P, bn, be, nx, FN, FE, FL, FH, rfl, rfl, hB, Or.inr ⟨rfl, hH⟩⟩
/-- the component's loop at step s ends in u', whatever is asked there -/
def lk_WX (m s : Nat) (u' : SX) (cl lm sz oc rs ch al hE en fr ph fn fe vf vl ve : Int32) (K A B C BN BE NX LN FN FE FL FH : Nat → Int32) : Prop :=
  ∀ post : SX → Prop, post u' → ∀ n : Nat, m + 1 ≤ n → wX_evaluate_13 post n (nI s) cl lm sz oc rs ch al hE en fr ph fn fe vf vl ve K A B C BN BE NX LN FN FE FL FH
/-- the reference's loop at step s answers r and ends in v' -/
def lk_WY (m s : Nat) (r : Int32) (v' : SY) (x3 x4 x5 x6 x7 x8 x9 : Int32) (cl lm sz oc rs hY ch al en : Int32) (K P bn be nx FN FE FL FH : Nat → Int32) : Prop :=
  ∀ post : Int32 → SY → Prop, post r v' → ∀ n : Nat, m ≤ n → wY_evaluate_23 post n x3 x4 x5 x6 x7 x8 x9 (nI s) cl lm sz oc rs hY ch al en K P bn be nx FN FE FL FH
theorem lk_s1 {s : Nat} (hs : s ≤ 1000) : ¬ (1000000 : Int32) ≤ nI s := nI_ge (b := 1000000) (by omega) (by decide)
theorem lk_s2 {s : Nat} (hs : s ≤ 1000) : ¬ (1024 : Int32) ≤ nI s := nI_ge (b := 1024) (by omega) (by decide)
theorem lk_b0 : vp_nar .boolean 0 = 0 := by decide
theorem lk_b1 : vp_nar .boolean 1 = 1 := by decide
theorem lk_3 (n : Nat) : (3 : Int32) * nI n = nI (3 * n) := pk_mul 3 n
theorem lk_31 (n : Nat) : (3 : Int32) * nI n + 1 = nI (3 * n + 1) := by rw [lk_3, nI_1]
theorem lk_32 (n : Nat) : (3 : Int32) * nI n + 2 = nI (3 * n + 2) := by rw [lk_3]; exact nI_add (3 * n) 2
/-- the six operators -/
def lk_op (k : Nat) (l r : Int32) : Int32 :=
  if k = 6 then l + r else if k = 7 then l - r else if k = 8 then l * r else if k = 9 then l / r else if k = 10 then (if r ≤ l then 0 else 1) else (if l = r then 1 else 0)
