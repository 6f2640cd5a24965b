section
/-! rows of kit/rows/PURE-ROWS that this claim uses (given for pasting) -/
theorem pk_us {f : Nat → Int32} {k : Nat} {x : Int32} : upd f k x k = x := if_pos rfl
theorem pk_un {f : Nat → Int32} {k j : Nat} {x : Int32} (h : j ≠ k) : upd f k x j = f j := if_neg h
theorem pk_sub {a b : Nat} (h : b ≤ a) : nI a - nI b = nI (a - b) := by
  obtain ⟨c, rfl⟩ : ∃ c, a = c + b := ⟨a - b, by omega⟩
  rw [← nI_add, Int32.add_sub_cancel, Nat.add_sub_cancel]
theorem pk_m1 (n : Nat) : nI (n + 1) + (-1) = nI n := by
  rw [← nI_1, Int32.add_assoc, show (1 : Int32) + (-1) = 0 from rfl, Int32.add_zero]
theorem pk_mul (a b : Nat) : nI a * nI b = nI (a * b) := (Int32.ofNat_mul a b).symm
theorem pk_ix (x : Int32) {n : Nat} (hn : n < 2 ^ 31) : x < 0 ∨ nI n ≤ x ∨ ∃ j : Nat, j < n ∧ x = nI j := by
  by_cases h : x < 0
  · exact Or.inl h
  · obtain ⟨j, hj, rfl⟩ := nI_of h
    by_cases h2 : j < n
    · exact Or.inr (Or.inr ⟨j, h2, rfl⟩)
    · exact Or.inr (Or.inl (nI_le (by omega) hj))
theorem pk_le {x y : Int32} {A B : Prop} (a b : Nat) (f : a ≤ b → A) (g : b < a → B) (hx : x = nI a := by rfl) (hy : y = nI b := by rfl) (ha : a < 2 ^ 31 := by omega) (hb : b < 2 ^ 31 := by omega) : (x ≤ y → A) ∧ (¬ x ≤ y → B) := by
  subst hx hy
  rw [nI_leI ha hb]
  exact ⟨f, fun z => g (by omega)⟩
theorem pk_lt {x y : Int32} {A B : Prop} (a b : Nat) (f : a < b → A) (g : b ≤ a → B) (hx : x = nI a := by rfl) (hy : y = nI b := by rfl) (ha : a < 2 ^ 31 := by omega) (hb : b < 2 ^ 31 := by omega) : (x < y → A) ∧ (¬ x < y → B) := by
  subst hx hy
  rw [nI_ltI ha hb]
  exact ⟨f, fun z => g (by omega)⟩
theorem pk_eq {x y : Int32} {A B : Prop} (a b : Nat) (f : a = b → A) (g : a ≠ b → B) (hx : x = nI a := by rfl) (hy : y = nI b := by rfl) (ha : a < 2 ^ 31 := by omega) (hb : b < 2 ^ 31 := by omega) : (x = y → A) ∧ (¬ x = y → B) := by
  subst hx hy
  rw [nI_eq ha hb]
  exact ⟨f, g⟩
theorem pk_in {x : Int32} (n N : Nat) (h : n < N) (hx : x = nI n := by rfl) (hN : N < 2 ^ 31 := by omega) : vp_in x N := by
  subst hx
  exact vp_in_nI h hN
theorem pk_cl {x : Int32} (n : Nat) (hx : x = nI n := by rfl) (h : n < 2 ^ 31 := by omega) : x.toNatClampNeg = n := by
  subst hx
  exact nI_clamp h
end
section
/-! ===== the arena, the environments, the frames: what both sides keep ===== -/
/-- the nodes below sz: kinds 0 to 11, their indices and children -/
def lk_Ar (sz : Nat) (K A B C : Nat → Int32) : Prop :=
  ∀ n, n < sz → ∃ k : Nat, k < 12 ∧ K n = nI k ∧ (k = 1 → ∃ j : Nat, j < 32 ∧ A n = nI j) ∧ (2 ≤ k → ∃ j : Nat, j < sz ∧ A n = nI j) ∧
    (4 ≤ k → ∃ j : Nat, j < sz ∧ B n = nI j) ∧ (k = 5 → ∃ j : Nat, j < sz ∧ C n = nI j)
/-- the reference's one array of parts holds the component's three -/
def lk_Pt (A B C P : Nat → Int32) : Prop := ∀ n, P (3 * n) = A n ∧ P (3 * n + 1) = B n ∧ P (3 * n + 2) = C n
theorem lk_Ar_add {sz k : Nat} {K A B C : Nat → Int32} {a b c : Int32} (h : lk_Ar sz K A B C) (hk : k < 12) (h1 : k = 1 → ∃ j : Nat, j < 32 ∧ a = nI j)
    (h2 : 2 ≤ k → ∃ j : Nat, j < sz ∧ a = nI j) (h4 : 4 ≤ k → ∃ j : Nat, j < sz ∧ b = nI j) (h5 : k = 5 → ∃ j : Nat, j < sz ∧ c = nI j) :
    lk_Ar (sz + 1) (upd K sz (nI k)) (upd A sz a) (upd B sz b) (upd C sz c) := by
  have up : ∀ x : Int32, (∃ j : Nat, j < sz ∧ x = nI j) → ∃ j : Nat, j < sz + 1 ∧ x = nI j := by
    intro x ⟨j, hj, e⟩
    exact ⟨j, by omega, e⟩
  intro n hn
  by_cases e : n = sz
  · subst e
    refine ⟨k, hk, pk_us, ?_, ?_, ?_, ?_⟩
    · intro z; rw [pk_us]; exact h1 z
    · intro z; rw [pk_us]; exact up _ (h2 z)
    · intro z; rw [pk_us]; exact up _ (h4 z)
    · intro z; rw [pk_us]; exact up _ (h5 z)
  · obtain ⟨k', g0, g1, g2, g3, g4, g5⟩ := h n (by omega)
    refine ⟨k', g0, ?_, ?_, ?_, ?_, ?_⟩
    · rw [pk_un e]; exact g1
    · intro z; rw [pk_un e]; exact g2 z
    · intro z; rw [pk_un e]; exact up _ (g3 z)
    · intro z; rw [pk_un e]; exact up _ (g4 z)
    · intro z; rw [pk_un e]; exact up _ (g5 z)
theorem lk_Pt_add {A B C P : Nat → Int32} (h : lk_Pt A B C P) (n : Nat) (a b c : Int32) :
    lk_Pt (upd A n a) (upd B n b) (upd C n c) (upd (upd (upd P (3 * n) a) (3 * n + 1) b) (3 * n + 2) c) := by
  intro m
  by_cases e : m = n
  · subst e
    refine ⟨?_, ?_, ?_⟩
    · rw [pk_un (show 3 * m ≠ 3 * m + 2 by omega), pk_un (show 3 * m ≠ 3 * m + 1 by omega), pk_us, pk_us]
    · rw [pk_un (show 3 * m + 1 ≠ 3 * m + 2 by omega), pk_us, pk_us]
    · rw [pk_us, pk_us]
  · refine ⟨?_, ?_, ?_⟩
    · rw [pk_un (show 3 * m ≠ 3 * n + 2 by omega), pk_un (show 3 * m ≠ 3 * n + 1 by omega), pk_un (show 3 * m ≠ 3 * n by omega), pk_un e]
      exact (h m).1
    · rw [pk_un (show 3 * m + 1 ≠ 3 * n + 2 by omega), pk_un (show 3 * m + 1 ≠ 3 * n + 1 by omega), pk_un (show 3 * m + 1 ≠ 3 * n by omega), pk_un e]
      exact (h m).2.1
    · rw [pk_un (show 3 * m + 2 ≠ 3 * n + 2 by omega), pk_un (show 3 * m + 2 ≠ 3 * n + 1 by omega), pk_un (show 3 * m + 2 ≠ 3 * n by omega), pk_un e]
      exact (h m).2.2
/-- environment e: its binding 0, what it extends, its length -/
def lk_E1 (sz e : Nat) (BN BE NX LN : Nat → Int32) : Prop :=
  ∃ m d p l : Nat, m < sz ∧ d < e ∧ p < e ∧ l ≤ p ∧ BN e = nI m ∧ BE e = nI d ∧ NX e = nI p ∧ LN p = nI l ∧ LN e = nI (l + 1)
def lk_En (sz E : Nat) (BN BE NX LN : Nat → Int32) : Prop :=
  0 < E ∧ E ≤ 241 ∧ LN 0 = nI 0 ∧ ∀ e, 0 < e → e < E → lk_E1 sz e BN BE NX LN
/-- the two sides' environments are the same below E -/
def lk_Ag (E : Nat) (BN BE NX bn be nx : Nat → Int32) : Prop := ∀ e, 0 < e → e < E → bn e = BN e ∧ be e = BE e ∧ nx e = NX e
/-- i steps up from environment e; 0 if there are not so many -/
def lk_an (NX : Nat → Int32) : Nat → Nat → Nat
  | 0, e => e
  | i + 1, e => if e = 0 then 0 else lk_an NX i (NX e).toNatClampNeg
theorem lk_an0 (NX : Nat → Int32) : ∀ i, lk_an NX i 0 = 0
  | 0 => rfl
  | _ + 1 => if_pos rfl
theorem lk_anS {NX : Nat → Int32} {e p : Nat} (he : e ≠ 0) (hp : p < 2 ^ 31) (h : NX e = nI p) (i : Nat) : lk_an NX (i + 1) e = lk_an NX i p := by
  show (if e = 0 then 0 else lk_an NX i (NX e).toNatClampNeg) = _
  rw [if_neg he, h, nI_clamp hp]
theorem lk_len {sz E : Nat} {BN BE NX LN : Nat → Int32} (h : lk_En sz E BN BE NX LN) {e : Nat} (he : e < E) : ∃ l : Nat, l ≤ e ∧ LN e = nI l := by
  rcases Nat.eq_zero_or_pos e with z | h0
  · subst z; exact ⟨0, Nat.le_refl _, h.2.2.1⟩
  · obtain ⟨m, d, p, l, -, -, h3, h4, -, -, -, -, h9⟩ := h.2.2.2 e h0 he
    exact ⟨l + 1, by omega, h9⟩
theorem lk_an_lt {sz E : Nat} {BN BE NX LN : Nat → Int32} (h : lk_En sz E BN BE NX LN) : ∀ i e, e < E → lk_an NX i e < E := by
  intro i
  induction i with
  | zero => exact fun e he => he
  | succ i ih =>
    intro e he
    rcases Nat.eq_zero_or_pos e with z | h0
    · subst z; rw [lk_an0]; exact he
    · obtain ⟨m, d, p, l, -, -, h3, -, -, -, h7, -, -⟩ := h.2.2.2 e h0 he
      have hE := h.2.1
      have e0 : e ≠ 0 := by omega
      have hp : p < 2 ^ 31 := by omega
      rw [lk_anS e0 hp h7]
      exact ih p (by omega)
theorem lk_an_len {sz E : Nat} {BN BE NX LN : Nat → Int32} (h : lk_En sz E BN BE NX LN) : ∀ i e l, e < E → l ≤ e → LN e = nI l → (lk_an NX i e ≠ 0 ↔ i < l) := by
  have hE := h.2.1
  intro i
  induction i with
  | zero =>
    intro e l he hl hL
    show e ≠ 0 ↔ 0 < l
    rcases Nat.eq_zero_or_pos e with z | h0
    · omega
    · obtain ⟨m, d, p, l', -, -, h3, h4, -, -, -, -, h9⟩ := h.2.2.2 e h0 he
      have e1 : l = l' + 1 := (nI_eq (by omega) (by omega)).mp (hL.symm.trans h9)
      omega
  | succ i ih =>
    intro e l he hl hL
    rcases Nat.eq_zero_or_pos e with z | h0
    · subst z; rw [lk_an0]; omega
    · obtain ⟨m, d, p, l', -, -, h3, h4, -, -, h7, h8, h9⟩ := h.2.2.2 e h0 he
      have e1 : l = l' + 1 := (nI_eq (by omega) (by omega)).mp (hL.symm.trans h9)
      have e0 : e ≠ 0 := by omega
      have hp : p < 2 ^ 31 := by omega
      rw [lk_anS e0 hp h7, ih p l' (by omega) h4 h8]
      omega
theorem lk_an_ag {sz E : Nat} {BN BE NX LN bn be nx : Nat → Int32} (h : lk_En sz E BN BE NX LN) (g : lk_Ag E BN BE NX bn be nx) : ∀ i e, e < E → lk_an nx i e = lk_an NX i e := by
  have hE := h.2.1
  intro i
  induction i with
  | zero => exact fun e he => rfl
  | succ i ih =>
    intro e he
    rcases Nat.eq_zero_or_pos e with z | h0
    · subst z; rw [lk_an0, lk_an0]
    · obtain ⟨m, d, p, l, -, -, h3, -, -, -, h7, -, -⟩ := h.2.2.2 e h0 he
      have e0 : e ≠ 0 := by omega
      have hp : p < 2 ^ 31 := by omega
      rw [lk_anS e0 hp h7, lk_anS e0 hp ((g e h0 he).2.2.trans h7)]
      exact ih p (by omega)
theorem lk_En_ext {sz E m d p : Nat} {BN BE NX LN : Nat → Int32} (h : lk_En sz E BN BE NX LN) (hE : E ≤ 240) (hm : m < sz) (hd : d < E) (hp : p < E) :
    lk_En sz (E + 1) (upd BN E (nI m)) (upd BE E (nI d)) (upd NX E (nI p)) (upd LN E (LN p + 1)) := by
  obtain ⟨l, hl, hL⟩ := lk_len h hp
  have n0 : 0 ≠ E := by have := h.1; omega
  refine ⟨by omega, by omega, ?_, fun e h0 he => ?_⟩
  · rw [pk_un n0]; exact h.2.2.1
  · by_cases q : e = E
    · subst q
      have n2 : p ≠ e := by omega
      refine ⟨m, d, p, l, hm, hd, hp, hl, pk_us, pk_us, pk_us, ?_, ?_⟩
      · rw [pk_un n2]; exact hL
      · rw [pk_us, hL, nI_1]
    · obtain ⟨m', d', p', l', a1, a2, a3, a4, a5, a6, a7, a8, a9⟩ := h.2.2.2 e h0 (by omega)
      have n2 : p' ≠ E := by omega
      refine ⟨m', d', p', l', a1, a2, a3, a4, ?_, ?_, ?_, ?_, ?_⟩
      · rw [pk_un q]; exact a5
      · rw [pk_un q]; exact a6
      · rw [pk_un q]; exact a7
      · rw [pk_un n2]; exact a8
      · rw [pk_un q]; exact a9
theorem lk_Ag_ext {E : Nat} {BN BE NX bn be nx : Nat → Int32} (g : lk_Ag E BN BE NX bn be nx) (x y z : Int32) :
    lk_Ag (E + 1) (upd BN E x) (upd BE E y) (upd NX E z) (upd bn E x) (upd be E y) (upd nx E z) := by
  intro e h0 he
  by_cases q : e = E
  · subst q
    exact ⟨pk_us.trans pk_us.symm, pk_us.trans pk_us.symm, pk_us.trans pk_us.symm⟩
  · have w := g e h0 (by omega)
    exact ⟨(pk_un q).trans (w.1.trans (pk_un q).symm), (pk_un q).trans (w.2.1.trans (pk_un q).symm), (pk_un q).trans (w.2.2.trans (pk_un q).symm)⟩
/-- the frames below d: a node of kind 4 to 11 and its environment; one that has its left operand is an operator's -/
def lk_Fr (sz E d : Nat) (K FN FE FH : Nat → Int32) : Prop :=
  ∀ j, j < d → ∃ f e k : Nat, f < sz ∧ e < E ∧ 4 ≤ k ∧ k < 12 ∧ FN j = nI f ∧ FE j = nI e ∧ K f = nI k ∧ (FH j = 0 ∨ (FH j = 1 ∧ 6 ≤ k))
theorem lk_Fr_mono {sz E E' d d' : Nat} {K FN FE FH : Nat → Int32} (h : lk_Fr sz E d K FN FE FH) (hE : E ≤ E') (hd : d' ≤ d) : lk_Fr sz E' d' K FN FE FH := by
  intro j hj
  obtain ⟨f, e, k, a1, a2, a3⟩ := h j (by omega)
  exact ⟨f, e, k, a1, by omega, a3⟩
theorem lk_Fr_push {sz E d f e k : Nat} {K FN FE FH : Nat → Int32} (h : lk_Fr sz E d K FN FE FH) (hf : f < sz) (he : e < E) (h4 : 4 ≤ k) (hk : k < 12) (hK : K f = nI k) :
    lk_Fr sz E (d + 1) K (upd FN d (nI f)) (upd FE d (nI e)) (upd FH d 0) := by
  intro j hj
  by_cases q : j = d
  · subst q
    exact ⟨f, e, k, hf, he, h4, hk, pk_us, pk_us, hK, Or.inl pk_us⟩
  · obtain ⟨f', e', k', a1, a2, a3, a4, a5, a6, a7, a8⟩ := h j (by omega)
    refine ⟨f', e', k', a1, a2, a3, a4, (pk_un q).trans a5, (pk_un q).trans a6, a7, ?_⟩
    rw [pk_un q]; exact a8
theorem lk_Fr_left {sz E d f e k : Nat} {K FN FE FH : Nat → Int32} (h : lk_Fr sz E d K FN FE FH) (hf : f < sz) (he : e < E) (h6 : 6 ≤ k) (hk : k < 12) (hN : FN d = nI f) (hE : FE d = nI e) (hK : K f = nI k) :
    lk_Fr sz E (d + 1) K FN FE (upd FH d 1) := by
  intro j hj
  by_cases q : j = d
  · subst q
    exact ⟨f, e, k, hf, he, by omega, hk, hN, hE, hK, Or.inr ⟨pk_us, h6⟩⟩
  · obtain ⟨f', e', k', a1, a2, a3, a4, a5, a6, a7, a8⟩ := h j (by omega)
    refine ⟨f', e', k', a1, a2, a3, a4, a5, a6, a7, ?_⟩
    rw [pk_un q]; exact a8
/-- how often the frames below d will yet be resumed -/
def lk_po (FH : Nat → Int32) : Nat → Nat
  | 0 => 0
  | d + 1 => lk_po FH d + (if FH d = 0 then 2 else 1)
theorem lk_po_upd {FH : Nat → Int32} {k : Nat} {x : Int32} : ∀ d, d ≤ k → lk_po (upd FH k x) d = lk_po FH d := by
  intro d
  induction d with
  | zero => exact fun _ => rfl
  | succ d ih =>
    intro hd
    have n1 : d ≠ k := by omega
    show lk_po (upd FH k x) d + (if upd FH k x d = 0 then 2 else 1) = lk_po FH d + (if FH d = 0 then 2 else 1)
    rw [ih (by omega), pk_un n1]
theorem lk_po_push {FH : Nat → Int32} {d : Nat} : lk_po (upd FH d 0) (d + 1) = lk_po FH d + 2 := by
  show lk_po (upd FH d 0) d + (if upd FH d 0 d = 0 then 2 else 1) = _
  rw [lk_po_upd d (Nat.le_refl _), pk_us, if_pos rfl]
theorem lk_po_left {FH : Nat → Int32} {d : Nat} : lk_po (upd FH d 1) (d + 1) = lk_po FH d + 1 := by
  show lk_po (upd FH d 1) d + (if upd FH d 1 d = 0 then 2 else 1) = _
  rw [lk_po_upd d (Nat.le_refl _), pk_us, if_neg (by decide)]
theorem lk_po_0 {FH : Nat → Int32} {d : Nat} (h : FH d = 0) : lk_po FH (d + 1) = lk_po FH d + 2 := by
  show lk_po FH d + (if FH d = 0 then 2 else 1) = _
  rw [if_pos h]
theorem lk_po_1 {FH : Nat → Int32} {d : Nat} (h : FH d = 1) : lk_po FH (d + 1) = lk_po FH d + 1 := by
  show lk_po FH d + (if FH d = 0 then 2 else 1) = _
  rw [h, if_neg (by decide)]
end
section
/-! ===== the two states, the relation, the walks of the two evaluation loops ===== -/
def lk_B (cl lm sz al c : Nat) (K A B C P LN : Nat → Int32) : Prop :=
  sz ≤ cl ∧ 8 ≤ cl ∧ cl ≤ 32 ∧ 16 ≤ lm ∧ lm ≤ 240 ∧ al ≤ lm ∧ c ≤ al ∧ lk_Ar sz K A B C ∧ lk_Pt A B C P ∧ LN 0 = nI 0
/-- the held function: node m, environment h, on both sides -/
def lk_H (sz c : Nat) (rs hE hY eX eY : Int32) (K BN BE NX LN bn be nx : Nat → Int32) : Prop :=
  ∃ g h m : Nat, eX = nI (g + 1) ∧ eY = nI g ∧ hE = nI h ∧ hY = nI h ∧ h < g + 1 ∧ rs = nI m ∧ m < sz ∧ K m = nI 2 ∧ g ≤ c ∧
    lk_En sz (g + 1) BN BE NX LN ∧ lk_Ag (g + 1) BN BE NX bn be nx
def lk_R (r : Int32) (u : SX) (v : SY) : Prop :=
  ∃ (cl lm sz al c : Nat) (rs hE hY eX eY fr ph fn fe vf vl ve : Int32) (K A B C BN BE NX LN P bn be nx FN FE FL FH : Nat → Int32),
    u = (nI cl, nI lm, nI sz, r, rs, nI c, nI al, hE, eX, fr, ph, fn, fe, vf, vl, ve, K, A, B, C, BN, BE, NX, LN, FN, FE, FL, FH) ∧
    v = (nI cl, nI lm, nI sz, r, rs, hY, nI c, nI al, eY, K, P, bn, be, nx, FN, FE, FL, FH) ∧
    lk_B cl lm sz al c K A B C P LN ∧ ((r ≠ 2 ∧ hY = 0) ∨ (r = 2 ∧ lk_H sz c rs hE hY eX eY K BN BE NX LN bn be nx))
def i_Rel (_k : Nat) (u : SX) (v : SY) : Prop := ∃ r : Int32, lk_R r u v
theorem i_up {k : Nat} {u : SX} {v : SY} (h : i_Rel k u v) : i_Rel (k + 5) u v := h
theorem lk_R_stop {cl lm sz al c : Nat} {r rs hE eX eY fr ph fn fe vf vl ve szI chI alI : Int32} {K A B C BN BE NX LN P bn be nx FN FE FL FH : Nat → Int32}
    (hB : lk_B cl lm sz al c K A B C P LN) (h2 : r ≠ 2) (e1 : szI = nI sz) (e2 : chI = nI c) (e3 : alI = nI al) :
    lk_R r (nI cl, nI lm, szI, r, rs, chI, alI, hE, eX, fr, ph, fn, fe, vf, vl, ve, K, A, B, C, BN, BE, NX, LN, FN, FE, FL, FH) (nI cl, nI lm, szI, r, rs, 0, chI, alI, eY, K, P, bn, be, nx, FN, FE, FL, FH) := by
  subst e1 e2 e3
  exact ⟨cl, lm, sz, al, c, rs, hE, 0, eX, eY, fr, ph, fn, fe, vf, vl, ve, K, A, B, C, BN, BE, NX, LN, P, bn, be, nx, FN, FE, FL, FH, rfl, rfl, hB, Or.inl ⟨h2, rfl⟩⟩
theorem lk_R_held {cl lm sz al c : Nat} {rs hE hY eX eY fr ph fn fe vf vl ve : Int32} {K A B C BN BE NX LN P bn be nx FN FE FL FH : Nat → Int32}
    (hB : lk_B cl lm sz al c K A B C P LN) (hH : lk_H sz c rs hE hY eX eY K BN BE NX LN bn be nx) :
    lk_R 2 (nI cl, nI lm, nI sz, 2, rs, nI c, nI al, hE, eX, fr, ph, fn, fe, vf, vl, ve, K, A, B, C, BN, BE, NX, LN, FN, FE, FL, FH) (nI cl, nI lm, nI sz, 2, rs, hY, nI c, nI al, eY, K, P, bn, be, nx, FN, FE, FL, FH) :=
  ⟨cl, lm, sz, al, c, rs, hE, hY, eX, eY, fr, ph, fn, fe, vf, vl, ve, K, A, B, C, BN, BE, NX, LN, P, bn, be, nx, FN, FE, FL, FH, rfl, rfl, hB, Or.inr ⟨rfl, hH⟩⟩
/-- the component's loop at step s ends in u', whatever is asked there -/
def lk_WX (m s : Nat) (u' : SX) (cl lm sz oc rs ch al hE en fr ph fn fe vf vl ve : Int32) (K A B C BN BE NX LN FN FE FL FH : Nat → Int32) : Prop :=
  ∀ post : SX → Prop, post u' → ∀ n : Nat, m + 1 ≤ n → wX_evaluate_13 post n (nI s) cl lm sz oc rs ch al hE en fr ph fn fe vf vl ve K A B C BN BE NX LN FN FE FL FH
/-- the reference's loop at step s answers r and ends in v' -/
def lk_WY (m s : Nat) (r : Int32) (v' : SY) (x3 x4 x5 x6 x7 x8 x9 : Int32) (cl lm sz oc rs hY ch al en : Int32) (K P bn be nx FN FE FL FH : Nat → Int32) : Prop :=
  ∀ post : Int32 → SY → Prop, post r v' → ∀ n : Nat, m ≤ n → wY_evaluate_23 post n x3 x4 x5 x6 x7 x8 x9 (nI s) cl lm sz oc rs hY ch al en K P bn be nx FN FE FL FH
theorem lk_s1 {s : Nat} (hs : s ≤ 1000) : ¬ (1000000 : Int32) ≤ nI s := nI_ge (b := 1000000) (by omega) (by decide)
theorem lk_s2 {s : Nat} (hs : s ≤ 1000) : ¬ (1024 : Int32) ≤ nI s := nI_ge (b := 1024) (by omega) (by decide)
theorem lk_b0 : vp_nar .boolean 0 = 0 := by decide
theorem lk_b1 : vp_nar .boolean 1 = 1 := by decide
theorem lk_3 (n : Nat) : (3 : Int32) * nI n = nI (3 * n) := pk_mul 3 n
theorem lk_31 (n : Nat) : (3 : Int32) * nI n + 1 = nI (3 * n + 1) := by rw [lk_3, nI_1]
theorem lk_32 (n : Nat) : (3 : Int32) * nI n + 2 = nI (3 * n + 2) := by rw [lk_3]; exact nI_add (3 * n) 2
/-- the six operators -/
def lk_op (k : Nat) (l r : Int32) : Int32 :=
  if k = 6 then l + r else if k = 7 then l - r else if k = 8 then l * r else if k = 9 then l / r else if k = 10 then (if r ≤ l then 0 else 1) else (if l = r then 1 else 0)
end
section
/-! ===== the component's own methods, each with a general post ===== -/
section
variable {cl lm sz oc rs ch al hE en fr ph fn fe vf vl ve : Int32} {K A B C BN BE NX LN FN FE FL FH : Nat → Int32}
variable {cl' lm' sz' oc' rs' ch' al' hE' en' fr' ph' fn' fe' vf' vl' ve' : Int32} {K' A' B' C' BN' BE' NX' LN' FN' FE' FL' FH' : Nat → Int32}
theorem lx_ex1 {post : Int32 → Prop} {n z : Nat} (h : n < z) (hz : z < 2 ^ 31) (hp : post 1) : wpX_exists post (cl, lm, nI z, oc, rs, ch, al, hE, en, fr, ph, fn, fe, vf, vl, ve, K, A, B, C, BN, BE, NX, LN, FN, FE, FL, FH) (nI n) :=
  br_f (nI_pos (by omega)) (br_f (nI_ge h hz) hp)
theorem lx_ex0 {post : Int32 → Prop} {x : Int32} (h : x < 0 ∨ sz ≤ x) (hp : post 0) : wpX_exists post (cl, lm, sz, oc, rs, ch, al, hE, en, fr, ph, fn, fe, vf, vl, ve, K, A, B, C, BN, BE, NX, LN, FN, FE, FL, FH) x := by
  by_cases h0 : x < 0
  · exact br_t h0 hp
  · exact br_f h0 (br_t (h.resolve_left h0) hp)
theorem lx_chg1 {post : Int32 → SX → Prop} {c1 : Int32} (h : ch < al) (e : ch + 1 = c1) (hp : post 1 (cl, lm, sz, oc, rs, c1, al, hE, en, fr, ph, fn, fe, vf, vl, ve, K, A, B, C, BN, BE, NX, LN, FN, FE, FL, FH)) : wpX_chargeOne post (cl, lm, sz, oc, rs, ch, al, hE, en, fr, ph, fn, fe, vf, vl, ve, K, A, B, C, BN, BE, NX, LN, FN, FE, FL, FH) :=
  br_t h (nm_r e hp)
theorem lx_chg0 {post : Int32 → SX → Prop} (h : ¬ ch < al) (hp : post 0 (cl, lm, sz, 3, 0, ch, al, hE, en, fr, 2, fn, fe, vf, vl, ve, K, A, B, C, BN, BE, NX, LN, FN, FE, FL, FH)) : wpX_chargeOne post (cl, lm, sz, oc, rs, ch, al, hE, en, fr, ph, fn, fe, vf, vl, ve, K, A, B, C, BN, BE, NX, LN, FN, FE, FL, FH) :=
  br_f h hp
theorem lx_ext {post : Int32 → SX → Prop} {E p : Nat} {x y : Int32} (hEE : E < 241) (hp' : p < 241)
    (hp : post (nI E) (cl, lm, sz, oc, rs, ch, al, hE, nI (E + 1), fr, ph, fn, fe, vf, vl, ve, K, A, B, C, upd BN E x, upd BE E y, upd NX E (nI p), upd LN E (LN p + 1), FN, FE, FL, FH)) : wpX_extend post (cl, lm, sz, oc, rs, ch, al, hE, nI E, fr, ph, fn, fe, vf, vl, ve, K, A, B, C, BN, BE, NX, LN, FN, FE, FL, FH) (nI p) x y := by
  have i1 : vp_in (nI E) 241 := vp_in_nI hEE (by decide)
  have i2 : vp_in (nI p) 241 := vp_in_nI hp' (by decide)
  have e1 : (nI E).toNatClampNeg = E := nI_clamp (by omega)
  have e2 : (nI p).toNatClampNeg = p := nI_clamp (by omega)
  have f1 : upd BN (nI E).toNatClampNeg x = upd BN E x := by rw [e1]
  have f2 : upd BE (nI E).toNatClampNeg y = upd BE E y := by rw [e1]
  have f3 : upd NX (nI E).toNatClampNeg (nI p) = upd NX E (nI p) := by rw [e1]
  have f4 : upd LN (nI E).toNatClampNeg (LN (nI p).toNatClampNeg + 1) = upd LN E (LN p + 1) := by rw [e1, e2]
  exact ⟨i1, nm_r f1 ⟨i1, nm_r f2 ⟨i1, nm_r f3 ⟨i2, i1, nm_r f4 (nm_r (nI_1 E) hp)⟩⟩⟩⟩
theorem lx_push {post : SX → Prop} {d : Nat} {x y : Int32} (hd : d < 240)
    (hp : post (cl, lm, sz, oc, rs, ch, al, hE, en, nI (d + 1), ph, fn, fe, vf, vl, ve, K, A, B, C, BN, BE, NX, LN, upd FN d x, upd FE d y, FL, upd FH d 0)) : wpX_pushFrame post (cl, lm, sz, oc, rs, ch, al, hE, en, nI d, ph, fn, fe, vf, vl, ve, K, A, B, C, BN, BE, NX, LN, FN, FE, FL, FH) x y := by
  have i1 : vp_in (nI d) 240 := vp_in_nI hd (by decide)
  have e1 : (nI d).toNatClampNeg = d := nI_clamp (by omega)
  have f1 : upd FN (nI d).toNatClampNeg x = upd FN d x := by rw [e1]
  have f2 : upd FE (nI d).toNatClampNeg y = upd FE d y := by rw [e1]
  have f3 : upd FH (nI d).toNatClampNeg (vp_nar .boolean 0) = upd FH d 0 := by rw [e1, lk_b0]
  exact ⟨i1, nm_r f1 ⟨i1, nm_r f2 ⟨i1, nm_r f3 (nm_r (nI_1 d) hp)⟩⟩⟩
theorem lx_hasn {post : Int32 → Prop} {x i : Int32} (h : i < 0) (hp : post 0) : wpX_hasBinding post (cl, lm, sz, oc, rs, ch, al, hE, en, fr, ph, fn, fe, vf, vl, ve, K, A, B, C, BN, BE, NX, LN, FN, FE, FL, FH) x i := br_t h hp
theorem lx_has0 {post : Int32 → Prop} {z E e i : Nat} (h : lk_En z E BN BE NX LN) (he : e < E) (hi : i < 2 ^ 31) (ha : lk_an NX i e = 0) (hp : post 0) : wpX_hasBinding post (cl, lm, sz, oc, rs, ch, al, hE, en, fr, ph, fn, fe, vf, vl, ve, K, A, B, C, BN, BE, NX, LN, FN, FE, FL, FH) (nI e) (nI i) := by
  obtain ⟨l, hl, hL⟩ := lk_len h he
  have kE := h.2.1
  have e1 : (nI e).toNatClampNeg = e := nI_clamp (by omega)
  have q : ¬ i < l := fun z => (lk_an_len h i e l he hl hL).mpr z ha
  have c : LN (nI e).toNatClampNeg ≤ nI i := by rw [e1, hL]; exact nI_le (by omega) hi
  exact br_f (nI_pos hi) ⟨vp_in_nI (by omega) (by decide), br_t c hp⟩
theorem lx_has1 {post : Int32 → Prop} {z E e i : Nat} (h : lk_En z E BN BE NX LN) (he : e < E) (hi : i < 2 ^ 31) (ha : lk_an NX i e ≠ 0) (hp : post 1) : wpX_hasBinding post (cl, lm, sz, oc, rs, ch, al, hE, en, fr, ph, fn, fe, vf, vl, ve, K, A, B, C, BN, BE, NX, LN, FN, FE, FL, FH) (nI e) (nI i) := by
  obtain ⟨l, hl, hL⟩ := lk_len h he
  have kE := h.2.1
  have e1 : (nI e).toNatClampNeg = e := nI_clamp (by omega)
  have q : i < l := (lk_an_len h i e l he hl hL).mp ha
  have c : ¬ LN (nI e).toNatClampNeg ≤ nI i := by rw [e1, hL]; exact nI_ge q (by omega)
  exact br_f (nI_pos hi) ⟨vp_in_nI (by omega) (by decide), br_f c hp⟩
theorem lx_bind5 {post : Int32 → Prop} {z E : Nat} (h : lk_En z E BN BE NX LN) : ∀ j k e n : Nat, e < E → k + j < 2 ^ 31 → j < n → lk_an NX j e ≠ 0 → post (nI (lk_an NX j e)) →
    wX_bindingOf_5 post (nI (k + j)) cl lm sz oc rs ch al hE en fr ph fn fe vf vl ve K A B C BN BE NX LN FN FE FL FH n (nI e) (nI k) := by
  have kE := h.2.1
  intro j
  induction j with
  | zero =>
    intro k e n he hk hn ha hp
    obtain ⟨n', rfl⟩ : ∃ n', n = n' + 1 := ⟨n - 1, by omega⟩
    exact br_t (Int32.le_refl _) hp
  | succ j ih =>
    intro k e n he hk hn ha hp
    obtain ⟨n', rfl⟩ : ∃ n', n = n' + 1 := ⟨n - 1, by omega⟩
    have e0 : e ≠ 0 := by
      intro q
      subst q
      exact ha (lk_an0 NX (j + 1))
    obtain ⟨m, d, p, l, -, -, h3, -, -, -, h7, -, -⟩ := h.2.2.2 e (by omega) he
    have hp31 : p < 2 ^ 31 := by omega
    rw [lk_anS e0 hp31 h7] at ha hp
    have e1 : (nI e).toNatClampNeg = e := nI_clamp (by omega)
    have f1 : NX (nI e).toNatClampNeg = nI p := by rw [e1]; exact h7
    have e2 : k + (j + 1) = (k + 1) + j := by omega
    rw [e2]
    exact br_f (nI_ge (by omega) (by omega)) ⟨vp_in_nI (by omega) (by decide), nm_r f1 (nm_r (nI_1 k) (ih (k + 1) p n' (by omega) (by omega) (by omega) ha hp))⟩
theorem lx_bind {post : Int32 → Prop} {z E e i : Nat} (h : lk_En z E BN BE NX LN) (he : e < E) (hi : i < 2 ^ 31) (ha : lk_an NX i e ≠ 0) (hp : post (nI (lk_an NX i e))) : wpX_bindingOf post (cl, lm, sz, oc, rs, ch, al, hE, en, fr, ph, fn, fe, vf, vl, ve, K, A, B, C, BN, BE, NX, LN, FN, FE, FL, FH) (nI e) (nI i) := by
  have w := lx_bind5 (post := post) (cl := cl) (lm := lm) (sz := sz) (oc := oc) (rs := rs) (ch := ch) (al := al) (hE := hE) (en := en) (fr := fr) (ph := ph) (fn := fn) (fe := fe) (vf := vf) (vl := vl) (ve := ve) (K := K) (A := A) (B := B) (C := C) (BN := BN) (BE := BE) (NX := NX) (LN := LN) (FN := FN) (FE := FE) (FL := FL) (FH := FH) h i 0 e (i + 1) he (by omega) (by omega) ha hp
  rw [Nat.zero_add, nI_0] at w
  exact ⟨i + 1, w⟩
theorem lx_end {m s : Nat} (hs : s ≤ 1000) : lk_WX m s (cl, lm, sz, oc, rs, ch, al, hE, en, fr, 2, fn, fe, vf, vl, ve, K, A, B, C, BN, BE, NX, LN, FN, FE, FL, FH) cl lm sz oc rs ch al hE en fr 2 fn fe vf vl ve K A B C BN BE NX LN FN FE FL FH := by
  intro post hp n hn
  obtain ⟨n', rfl⟩ : ∃ n', n = n' + 1 := ⟨n - 1, by omega⟩
  exact br_f (lk_s1 hs) (br_t rfl hp)
theorem lx_s0 {m s : Nat} {u' : SX} (hs : s ≤ 1000) (h : ∀ post : SX → Prop, post (cl', lm', sz', oc', rs', ch', al', hE', en', fr', ph', fn', fe', vf', vl', ve', K', A', B', C', BN', BE', NX', LN', FN', FE', FL', FH') → wpX_evaluateFocus post (cl, lm, sz, oc, rs, ch, al, hE, en, fr, 0, fn, fe, vf, vl, ve, K, A, B, C, BN, BE, NX, LN, FN, FE, FL, FH)) (w : lk_WX m (s + 1) u' cl' lm' sz' oc' rs' ch' al' hE' en' fr' ph' fn' fe' vf' vl' ve' K' A' B' C' BN' BE' NX' LN' FN' FE' FL' FH') : lk_WX (m + 1) s u' cl lm sz oc rs ch al hE en fr 0 fn fe vf vl ve K A B C BN BE NX LN FN FE FL FH := by
  intro post hp n hn
  obtain ⟨n', rfl⟩ : ∃ n', n = n' + 1 := ⟨n - 1, by omega⟩
  exact br_f (lk_s1 hs) (br_f (by decide) (br_t rfl (h _ (nm_r (nI_1 s) (w post hp n' (by omega))))))
theorem lx_sT {m s : Nat} {u' : SX} (hs : s ≤ 1000) (h : ∀ post : SX → Prop, post (cl', lm', sz', oc', rs', ch', al', hE', en', fr', ph', fn', fe', vf', vl', ve', K', A', B', C', BN', BE', NX', LN', FN', FE', FL', FH') → wpX_takeValue post (cl, lm, sz, oc, rs, ch, al, hE, en, nI 0, 1, fn, fe, vf, vl, ve, K, A, B, C, BN, BE, NX, LN, FN, FE, FL, FH)) (w : lk_WX m (s + 1) u' cl' lm' sz' oc' rs' ch' al' hE' en' fr' ph' fn' fe' vf' vl' ve' K' A' B' C' BN' BE' NX' LN' FN' FE' FL' FH') : lk_WX (m + 1) s u' cl lm sz oc rs ch al hE en (nI 0) 1 fn fe vf vl ve K A B C BN BE NX LN FN FE FL FH := by
  intro post hp n hn
  obtain ⟨n', rfl⟩ : ∃ n', n = n' + 1 := ⟨n - 1, by omega⟩
  exact br_f (lk_s1 hs) (br_f (by decide) (br_f (by decide) (br_t (show nI 0 ≤ 0 by decide) (h _ (nm_r (nI_1 s) (w post hp n' (by omega)))))))
theorem lx_sR {m s d : Nat} {u' : SX} (hs : s ≤ 1000) (hd : d < 240) (h : ∀ post : SX → Prop, post (cl', lm', sz', oc', rs', ch', al', hE', en', fr', ph', fn', fe', vf', vl', ve', K', A', B', C', BN', BE', NX', LN', FN', FE', FL', FH') → wpX_resumeFrame post (cl, lm, sz, oc, rs, ch, al, hE, en, nI (d + 1), 1, fn, fe, vf, vl, ve, K, A, B, C, BN, BE, NX, LN, FN, FE, FL, FH)) (w : lk_WX m (s + 1) u' cl' lm' sz' oc' rs' ch' al' hE' en' fr' ph' fn' fe' vf' vl' ve' K' A' B' C' BN' BE' NX' LN' FN' FE' FL' FH') : lk_WX (m + 1) s u' cl lm sz oc rs ch al hE en (nI (d + 1)) 1 fn fe vf vl ve K A B C BN BE NX LN FN FE FL FH := by
  intro post hp n hn
  obtain ⟨n', rfl⟩ : ∃ n', n = n' + 1 := ⟨n - 1, by omega⟩
  exact br_f (lk_s1 hs) (br_f (by decide) (br_f (by decide) (br_f (nI_nle (by omega) (by omega)) (h _ (nm_r (nI_1 s) (w post hp n' (by omega)))))))
theorem lf_exh {post : SX → Prop} (h : ¬ ch < al) (hp : post (cl, lm, sz, 3, 0, ch, al, hE, en, fr, 2, fn, fe, vf, vl, ve, K, A, B, C, BN, BE, NX, LN, FN, FE, FL, FH)) : wpX_evaluateFocus post (cl, lm, sz, oc, rs, ch, al, hE, en, fr, 0, fn, fe, vf, vl, ve, K, A, B, C, BN, BE, NX, LN, FN, FE, FL, FH) := by
  unfold wpX_evaluateFocus
  refine lx_chg0 h ?_
  exact br_t rfl hp
theorem lf_lit {post : SX → Prop} {c1 a : Int32} (hc : ch < al) (hc1 : ch + 1 = c1) (hin : vp_in fn 32) (hK : K fn.toNatClampNeg = 0) (hA : A fn.toNatClampNeg = a)
    (hp : post (cl, lm, sz, oc, rs, c1, al, hE, en, fr, 1, fn, fe, 0, a, ve, K, A, B, C, BN, BE, NX, LN, FN, FE, FL, FH)) : wpX_evaluateFocus post (cl, lm, sz, oc, rs, ch, al, hE, en, fr, 0, fn, fe, vf, vl, ve, K, A, B, C, BN, BE, NX, LN, FN, FE, FL, FH) := by
  subst hA
  unfold wpX_evaluateFocus
  refine lx_chg1 hc hc1 ?_
  exact br_f (by decide) ⟨hin, nm_r hK (br_f (by decide) (br_f (by decide) (br_t rfl ⟨hin, hp⟩)))⟩
theorem lj_unb {post : SX → Prop} {x y a : Int32} (hin : vp_in x 32) (hA : A x.toNatClampNeg = a) (hb : ∀ Q : Int32 → Prop, Q 0 → wpX_hasBinding Q (cl, lm, sz, oc, rs, ch, al, hE, en, fr, ph, fn, fe, vf, vl, ve, K, A, B, C, BN, BE, NX, LN, FN, FE, FL, FH) y a)
    (hp : post (cl, lm, sz, 4, x, ch, al, hE, en, fr, 2, fn, fe, vf, vl, ve, K, A, B, C, BN, BE, NX, LN, FN, FE, FL, FH)) : wpX_evaluateVariable post (cl, lm, sz, oc, rs, ch, al, hE, en, fr, ph, fn, fe, vf, vl, ve, K, A, B, C, BN, BE, NX, LN, FN, FE, FL, FH) x y := by
  unfold wpX_evaluateVariable
  exact ⟨hin, nm_r hA (hb _ (br_t rfl hp))⟩
theorem lj_bnd {post : SX → Prop} {x y a b n' e' : Int32} (hin : vp_in x 32) (hA : A x.toNatClampNeg = a) (hb1 : ∀ Q : Int32 → Prop, Q 1 → wpX_hasBinding Q (cl, lm, sz, oc, rs, ch, al, hE, en, fr, ph, fn, fe, vf, vl, ve, K, A, B, C, BN, BE, NX, LN, FN, FE, FL, FH) y a)
    (hb2 : ∀ Q : Int32 → Prop, Q b → wpX_bindingOf Q (cl, lm, sz, oc, rs, ch, al, hE, en, fr, ph, fn, fe, vf, vl, ve, K, A, B, C, BN, BE, NX, LN, FN, FE, FL, FH) y a) (hi : vp_in b 241) (hN : BN b.toNatClampNeg = n') (hEE : BE b.toNatClampNeg = e')
    (hp : post (cl, lm, sz, oc, rs, ch, al, hE, en, fr, 0, n', e', vf, vl, ve, K, A, B, C, BN, BE, NX, LN, FN, FE, FL, FH)) : wpX_evaluateVariable post (cl, lm, sz, oc, rs, ch, al, hE, en, fr, ph, fn, fe, vf, vl, ve, K, A, B, C, BN, BE, NX, LN, FN, FE, FL, FH) x y := by
  subst hN hEE
  unfold wpX_evaluateVariable
  exact ⟨hin, nm_r hA (hb1 _ (br_f (by decide) (hb2 _ ⟨hi, hi, hp⟩)))⟩
theorem lf_var {post : SX → Prop} {c1 : Int32} (hc : ch < al) (hc1 : ch + 1 = c1) (hin : vp_in fn 32) (hK : K fn.toNatClampNeg = 1)
    (hv : ∀ Q : SX → Prop, Q (cl', lm', sz', oc', rs', ch', al', hE', en', fr', ph', fn', fe', vf', vl', ve', K', A', B', C', BN', BE', NX', LN', FN', FE', FL', FH') → wpX_evaluateVariable Q (cl, lm, sz, oc, rs, c1, al, hE, en, fr, 0, fn, fe, vf, vl, ve, K, A, B, C, BN, BE, NX, LN, FN, FE, FL, FH) fn fe) (hp : post (cl', lm', sz', oc', rs', ch', al', hE', en', fr', ph', fn', fe', vf', vl', ve', K', A', B', C', BN', BE', NX', LN', FN', FE', FL', FH')) : wpX_evaluateFocus post (cl, lm, sz, oc, rs, ch, al, hE, en, fr, 0, fn, fe, vf, vl, ve, K, A, B, C, BN, BE, NX, LN, FN, FE, FL, FH) := by
  unfold wpX_evaluateFocus
  refine lx_chg1 hc hc1 ?_
  exact br_f (by decide) ⟨hin, nm_r hK (br_f (by decide) (br_f (by decide) (br_f (by decide) (br_t rfl (hv _ hp)))))⟩
theorem lf_lam {post : SX → Prop} {c1 : Int32} (hc : ch < al) (hc1 : ch + 1 = c1) (hin : vp_in fn 32) (hK : K fn.toNatClampNeg = 2)
    (hp : post (cl, lm, sz, oc, rs, c1, al, hE, en, fr, 1, fn, fe, 1, fn, fe, K, A, B, C, BN, BE, NX, LN, FN, FE, FL, FH)) : wpX_evaluateFocus post (cl, lm, sz, oc, rs, ch, al, hE, en, fr, 0, fn, fe, vf, vl, ve, K, A, B, C, BN, BE, NX, LN, FN, FE, FL, FH) := by
  unfold wpX_evaluateFocus
  refine lx_chg1 hc hc1 ?_
  exact br_f (by decide) ⟨hin, nm_r hK (br_f (by decide) (br_f (by decide) (br_f (by decide) (br_f (by decide) (br_t rfl hp)))))⟩
theorem lf_rec {post : SX → Prop} {c1 a : Int32} {E e : Nat} (hc : ch < al) (hc1 : ch + 1 = c1) (hin : vp_in fn 32) (hK : K fn.toNatClampNeg = 3) (hA : A fn.toNatClampNeg = a) (hEE : E < 241) (he : e < 241)
    (hp : post (cl, lm, sz, oc, rs, c1, al, hE, nI (E + 1), fr, 0, a, nI E, vf, vl, ve, K, A, B, C, upd BN E fn, upd BE E (nI e), upd NX E (nI e), upd LN E (LN e + 1), FN, FE, FL, FH)) : wpX_evaluateFocus post (cl, lm, sz, oc, rs, ch, al, hE, nI E, fr, 0, fn, nI e, vf, vl, ve, K, A, B, C, BN, BE, NX, LN, FN, FE, FL, FH) := by
  subst hA
  unfold wpX_evaluateFocus
  refine lx_chg1 hc hc1 ?_
  refine br_f (by decide) ⟨hin, nm_r hK (br_f (by decide) (br_f (by decide) (br_f (by decide) (br_f (by decide) (br_f (by decide) (br_t rfl ?_))))))⟩
  unfold wpX_evaluateRecursive
  exact lx_ext hEE he ⟨hin, hp⟩
theorem lf_push {post : SX → Prop} {c1 a kk : Int32} {d : Nat} (hc : ch < al) (hc1 : ch + 1 = c1) (hin : vp_in fn 32) (hK : K fn.toNatClampNeg = kk) (h0 : ¬ kk < 0) (h3 : 3 < kk) (hA : A fn.toNatClampNeg = a) (hd : d < 240)
    (hp : post (cl, lm, sz, oc, rs, c1, al, hE, en, nI (d + 1), 0, a, fe, vf, vl, ve, K, A, B, C, BN, BE, NX, LN, upd FN d fn, upd FE d fe, FL, upd FH d 0)) : wpX_evaluateFocus post (cl, lm, sz, oc, rs, ch, al, hE, en, nI d, 0, fn, fe, vf, vl, ve, K, A, B, C, BN, BE, NX, LN, FN, FE, FL, FH) := by
  subst hA
  unfold wpX_evaluateFocus
  refine lx_chg1 hc hc1 ?_
  refine br_f (by decide) ⟨hin, nm_r hK (br_f h0 (br_t h3 ?_))⟩
  exact lx_push hd ⟨hin, hp⟩
theorem lj_int {post : SX → Prop} (hp : post (cl, lm, sz, 1, vl, ch, al, 0, en, fr, 2, fn, fe, 0, vl, ve, K, A, B, C, BN, BE, NX, LN, FN, FE, FL, FH)) : wpX_takeValue post (cl, lm, sz, oc, rs, ch, al, hE, en, fr, ph, fn, fe, 0, vl, ve, K, A, B, C, BN, BE, NX, LN, FN, FE, FL, FH) := br_t rfl (br_t rfl hp)
theorem lj_fun {post : SX → Prop} (hp : post (cl, lm, sz, 2, vl, ch, al, ve, en, fr, 2, fn, fe, 1, vl, ve, K, A, B, C, BN, BE, NX, LN, FN, FE, FL, FH)) : wpX_takeValue post (cl, lm, sz, oc, rs, ch, al, hE, en, fr, ph, fn, fe, 1, vl, ve, K, A, B, C, BN, BE, NX, LN, FN, FE, FL, FH) := br_f (by decide) (br_f (by decide) hp)
theorem lo_zd {post : SX → Prop} {x l r : Int32} (hin : vp_in x 32) (hK : K x.toNatClampNeg = 9) (hr : r = 0) (hp : post (cl, lm, sz, 7, x, ch, al, hE, en, fr, 2, fn, fe, vf, vl, ve, K, A, B, C, BN, BE, NX, LN, FN, FE, FL, FH)) : wpX_operate post (cl, lm, sz, oc, rs, ch, al, hE, en, fr, ph, fn, fe, vf, vl, ve, K, A, B, C, BN, BE, NX, LN, FN, FE, FL, FH) x l r := by
  unfold wpX_operate
  exact ⟨hin, nm_r hK (br_f (by decide) (br_f (by decide) (br_f (by decide) (br_f (by decide) (br_f (by decide) (br_t rfl (br_t hr hp)))))))⟩
theorem lo_op {post : SX → Prop} {x l r : Int32} {k : Nat} (h6 : 6 ≤ k) (hk : k < 12) (hin : vp_in x 32) (hK : K x.toNatClampNeg = nI k) (hr : k = 9 → ¬ r = 0)
    (hp : post (cl, lm, sz, oc, rs, ch, al, hE, en, fr, 1, fn, fe, 0, lk_op k l r, ve, K, A, B, C, BN, BE, NX, LN, FN, FE, FL, FH)) : wpX_operate post (cl, lm, sz, oc, rs, ch, al, hE, en, fr, ph, fn, fe, vf, vl, ve, K, A, B, C, BN, BE, NX, LN, FN, FE, FL, FH) x l r := by
  rcases (show k = 6 ∨ k = 7 ∨ k = 8 ∨ k = 9 ∨ k = 10 ∨ k = 11 by omega) with rfl | rfl | rfl | rfl | rfl | rfl
  · have q : K x.toNatClampNeg = 6 := hK
    have f : lk_op 6 l r = l + r := rfl
    rw [f] at hp
    unfold wpX_operate
    exact ⟨hin, nm_r q (br_f (by decide) (br_f (by decide) (br_t rfl hp)))⟩
  · have q : K x.toNatClampNeg = 7 := hK
    have f : lk_op 7 l r = l - r := rfl
    rw [f] at hp
    unfold wpX_operate
    exact ⟨hin, nm_r q (br_f (by decide) (br_f (by decide) (br_f (by decide) (br_t rfl hp))))⟩
  · have q : K x.toNatClampNeg = 8 := hK
    have f : lk_op 8 l r = l * r := rfl
    rw [f] at hp
    unfold wpX_operate
    exact ⟨hin, nm_r q (br_f (by decide) (br_f (by decide) (br_f (by decide) (br_f (by decide) (br_t rfl hp)))))⟩
  · have q : K x.toNatClampNeg = 9 := hK
    have f : lk_op 9 l r = l / r := rfl
    rw [f] at hp
    unfold wpX_operate
    exact ⟨hin, nm_r q (br_f (by decide) (br_f (by decide) (br_f (by decide) (br_f (by decide) (br_f (by decide) (br_t rfl (br_f (hr rfl) ⟨hr rfl, hp⟩)))))))⟩
  · have q : K x.toNatClampNeg = 10 := hK
    have f : lk_op 10 l r = if r ≤ l then 0 else 1 := rfl
    rw [f] at hp
    unfold wpX_operate
    refine ⟨hin, nm_r q (br_f (by decide) (br_f (by decide) (br_f (by decide) (br_f (by decide) (br_f (by decide) (br_f (by decide) (br_t rfl ?_)))))))⟩
    by_cases c : r ≤ l
    · rw [if_pos c] at hp
      exact br_t c hp
    · rw [if_neg c] at hp
      exact br_f c hp
  · have q : K x.toNatClampNeg = 11 := hK
    have f : lk_op 11 l r = if l = r then 1 else 0 := rfl
    rw [f] at hp
    unfold wpX_operate
    refine ⟨hin, nm_r q (br_f (by decide) (br_f (by decide) (br_f (by decide) (br_f (by decide) (br_f (by decide) (br_f (by decide) (br_f (by decide) (br_t rfl ?_))))))))⟩
    by_cases c : l = r
    · rw [if_pos c] at hp
      exact br_t c hp
    · rw [if_neg c] at hp
      exact br_f c hp
theorem lr_nf {post : SX → Prop} {d : Nat} {f e : Int32} (hd : d < 240) (hN : FN d = f) (hF : FE d = e) (hin : vp_in f 32) (hK : K f.toNatClampNeg = 4)
    (hp : post (cl, lm, sz, 5, f, ch, al, hE, en, nI d, 2, fn, fe, 0, vl, ve, K, A, B, C, BN, BE, NX, LN, FN, FE, FL, FH)) : wpX_resumeFrame post (cl, lm, sz, oc, rs, ch, al, hE, en, nI (d + 1), ph, fn, fe, 0, vl, ve, K, A, B, C, BN, BE, NX, LN, FN, FE, FL, FH) := by
  have i1 : vp_in (nI d) 240 := vp_in_nI hd (by decide)
  have e1 : (nI d).toNatClampNeg = d := nI_clamp (by omega)
  have gN : FN (nI d).toNatClampNeg = f := by rw [e1]; exact hN
  have gF : FE (nI d).toNatClampNeg = e := by rw [e1]; exact hF
  unfold wpX_resumeFrame
  refine nm_r (nI_pred d) ⟨i1, nm_r gN ⟨i1, nm_r gF ⟨hin, ?_⟩⟩⟩
  exact br_t hK (br_t rfl hp)
theorem lr_ap {post : SX → Prop} {d : Nat} {f e a b : Int32} (hd : d < 240) (hN : FN d = f) (hF : FE d = e) (hin : vp_in f 32) {E p : Nat} (hK : K f.toNatClampNeg = 4) (hEE : E < 241) (hp' : p < 241) (hv : vp_in vl 32) (hA : A vl.toNatClampNeg = a) (hB : B f.toNatClampNeg = b)
    (hp : post (cl, lm, sz, oc, rs, ch, al, hE, nI (E + 1), nI d, 0, a, nI E, 1, vl, nI p, K, A, B, C, upd BN E b, upd BE E e, upd NX E (nI p), upd LN E (LN p + 1), FN, FE, FL, FH)) : wpX_resumeFrame post (cl, lm, sz, oc, rs, ch, al, hE, nI E, nI (d + 1), ph, fn, fe, 1, vl, nI p, K, A, B, C, BN, BE, NX, LN, FN, FE, FL, FH) := by
  subst hA hB
  have i1 : vp_in (nI d) 240 := vp_in_nI hd (by decide)
  have e1 : (nI d).toNatClampNeg = d := nI_clamp (by omega)
  have gN : FN (nI d).toNatClampNeg = f := by rw [e1]; exact hN
  have gF : FE (nI d).toNatClampNeg = e := by rw [e1]; exact hF
  unfold wpX_resumeFrame
  refine nm_r (nI_pred d) ⟨i1, nm_r gN ⟨i1, nm_r gF ⟨hin, ?_⟩⟩⟩
  refine br_t hK (br_f (by decide) ⟨hin, ?_⟩)
  exact lx_ext hEE hp' ⟨hv, hp⟩
theorem lr_ni {post : SX → Prop} {d : Nat} {f e : Int32} (hd : d < 240) (hN : FN d = f) (hF : FE d = e) (hin : vp_in f 32) (hK : ¬ K f.toNatClampNeg = 4)
    (hp : post (cl, lm, sz, 6, f, ch, al, hE, en, nI d, 2, fn, fe, 1, vl, ve, K, A, B, C, BN, BE, NX, LN, FN, FE, FL, FH)) : wpX_resumeFrame post (cl, lm, sz, oc, rs, ch, al, hE, en, nI (d + 1), ph, fn, fe, 1, vl, ve, K, A, B, C, BN, BE, NX, LN, FN, FE, FL, FH) := by
  have i1 : vp_in (nI d) 240 := vp_in_nI hd (by decide)
  have e1 : (nI d).toNatClampNeg = d := nI_clamp (by omega)
  have gN : FN (nI d).toNatClampNeg = f := by rw [e1]; exact hN
  have gF : FE (nI d).toNatClampNeg = e := by rw [e1]; exact hF
  unfold wpX_resumeFrame
  refine nm_r (nI_pred d) ⟨i1, nm_r gN ⟨i1, nm_r gF ⟨hin, ?_⟩⟩⟩
  exact br_f hK (br_f (by decide) hp)
theorem lr_b0 {post : SX → Prop} {d : Nat} {f e c : Int32} (hd : d < 240) (hN : FN d = f) (hF : FE d = e) (hin : vp_in f 32) (h4 : ¬ K f.toNatClampNeg = 4) (hK : K f.toNatClampNeg = 5) (hv : vl = 0) (hC : C f.toNatClampNeg = c)
    (hp : post (cl, lm, sz, oc, rs, ch, al, hE, en, nI d, 0, c, e, 0, vl, ve, K, A, B, C, BN, BE, NX, LN, FN, FE, FL, FH)) : wpX_resumeFrame post (cl, lm, sz, oc, rs, ch, al, hE, en, nI (d + 1), ph, fn, fe, 0, vl, ve, K, A, B, C, BN, BE, NX, LN, FN, FE, FL, FH) := by
  subst hC
  have i1 : vp_in (nI d) 240 := vp_in_nI hd (by decide)
  have e1 : (nI d).toNatClampNeg = d := nI_clamp (by omega)
  have gN : FN (nI d).toNatClampNeg = f := by rw [e1]; exact hN
  have gF : FE (nI d).toNatClampNeg = e := by rw [e1]; exact hF
  unfold wpX_resumeFrame
  refine nm_r (nI_pred d) ⟨i1, nm_r gN ⟨i1, nm_r gF ⟨hin, ?_⟩⟩⟩
  exact br_f h4 (br_t rfl ⟨hin, br_t hK (br_t hv ⟨hin, hp⟩)⟩)
theorem lr_b1 {post : SX → Prop} {d : Nat} {f e b : Int32} (hd : d < 240) (hN : FN d = f) (hF : FE d = e) (hin : vp_in f 32) (h4 : ¬ K f.toNatClampNeg = 4) (hK : K f.toNatClampNeg = 5) (hv : ¬ vl = 0) (hB : B f.toNatClampNeg = b)
    (hp : post (cl, lm, sz, oc, rs, ch, al, hE, en, nI d, 0, b, e, 0, vl, ve, K, A, B, C, BN, BE, NX, LN, FN, FE, FL, FH)) : wpX_resumeFrame post (cl, lm, sz, oc, rs, ch, al, hE, en, nI (d + 1), ph, fn, fe, 0, vl, ve, K, A, B, C, BN, BE, NX, LN, FN, FE, FL, FH) := by
  subst hB
  have i1 : vp_in (nI d) 240 := vp_in_nI hd (by decide)
  have e1 : (nI d).toNatClampNeg = d := nI_clamp (by omega)
  have gN : FN (nI d).toNatClampNeg = f := by rw [e1]; exact hN
  have gF : FE (nI d).toNatClampNeg = e := by rw [e1]; exact hF
  unfold wpX_resumeFrame
  refine nm_r (nI_pred d) ⟨i1, nm_r gN ⟨i1, nm_r gF ⟨hin, ?_⟩⟩⟩
  exact br_f h4 (br_t rfl ⟨hin, br_t hK (br_f hv ⟨hin, hp⟩)⟩)
theorem lr_lf {post : SX → Prop} {d : Nat} {f e b : Int32} (hd : d < 240) (hN : FN d = f) (hF : FE d = e) (hin : vp_in f 32) (h4 : ¬ K f.toNatClampNeg = 4) (h5 : ¬ K f.toNatClampNeg = 5) (hH : FH d = 0) (hB : B f.toNatClampNeg = b)
    (hp : post (cl, lm, sz, oc, rs, ch, al, hE, en, nI (d + 1), 0, b, e, 0, vl, ve, K, A, B, C, BN, BE, NX, LN, FN, FE, upd FL d vl, upd FH d 1)) : wpX_resumeFrame post (cl, lm, sz, oc, rs, ch, al, hE, en, nI (d + 1), ph, fn, fe, 0, vl, ve, K, A, B, C, BN, BE, NX, LN, FN, FE, FL, FH) := by
  subst hB
  have i1 : vp_in (nI d) 240 := vp_in_nI hd (by decide)
  have e1 : (nI d).toNatClampNeg = d := nI_clamp (by omega)
  have gN : FN (nI d).toNatClampNeg = f := by rw [e1]; exact hN
  have gF : FE (nI d).toNatClampNeg = e := by rw [e1]; exact hF
  have gH : FH (nI d).toNatClampNeg = 0 := by rw [e1]; exact hH
  have f1 : upd FL (nI d).toNatClampNeg vl = upd FL d vl := by rw [e1]
  have f2 : upd FH (nI d).toNatClampNeg (vp_nar .boolean 1) = upd FH d 1 := by rw [e1, lk_b1]
  unfold wpX_resumeFrame
  refine nm_r (nI_pred d) ⟨i1, nm_r gN ⟨i1, nm_r gF ⟨hin, ?_⟩⟩⟩
  exact br_f h4 (br_t rfl ⟨hin, br_f h5 ⟨i1, br_t gH ⟨i1, nm_r f1 ⟨i1, nm_r f2 (nm_r (nI_1 d) ⟨hin, hp⟩)⟩⟩⟩⟩)
theorem lr_op {post : SX → Prop} {d : Nat} {f e l : Int32} (hd : d < 240) (hN : FN d = f) (hF : FE d = e) (hin : vp_in f 32) (h4 : ¬ K f.toNatClampNeg = 4) (h5 : ¬ K f.toNatClampNeg = 5) (hH : FH d = 1) (hL : FL d = l) (hO : ∀ Q : SX → Prop, Q (cl', lm', sz', oc', rs', ch', al', hE', en', fr', ph', fn', fe', vf', vl', ve', K', A', B', C', BN', BE', NX', LN', FN', FE', FL', FH') → wpX_operate Q (cl, lm, sz, oc, rs, ch, al, hE, en, nI d, ph, fn, fe, 0, vl, ve, K, A, B, C, BN, BE, NX, LN, FN, FE, FL, FH) f l vl)
    (hp : post (cl', lm', sz', oc', rs', ch', al', hE', en', fr', ph', fn', fe', vf', vl', ve', K', A', B', C', BN', BE', NX', LN', FN', FE', FL', FH')) : wpX_resumeFrame post (cl, lm, sz, oc, rs, ch, al, hE, en, nI (d + 1), ph, fn, fe, 0, vl, ve, K, A, B, C, BN, BE, NX, LN, FN, FE, FL, FH) := by
  have i1 : vp_in (nI d) 240 := vp_in_nI hd (by decide)
  have e1 : (nI d).toNatClampNeg = d := nI_clamp (by omega)
  have gN : FN (nI d).toNatClampNeg = f := by rw [e1]; exact hN
  have gF : FE (nI d).toNatClampNeg = e := by rw [e1]; exact hF
  have gH : ¬ FH (nI d).toNatClampNeg = 0 := by rw [e1, hH]; decide
  have gL : FL (nI d).toNatClampNeg = l := by rw [e1]; exact hL
  subst gL
  unfold wpX_resumeFrame
  refine nm_r (nI_pred d) ⟨i1, nm_r gN ⟨i1, nm_r gF ⟨hin, ?_⟩⟩⟩
  exact br_f h4 (br_t rfl ⟨hin, br_f h5 ⟨i1, br_f gH ⟨i1, hO _ hp⟩⟩⟩)
end
end
section
/-! ===== the reference's own methods and the steps of its loop ===== -/
section
variable {cl lm sz oc rs hY ch al en : Int32} {K P bn be nx FN FE FL FH : Nat → Int32}
variable {x3 x4 x7 x8 x9 : Int32}
theorem ly_ex1 {post : Int32 → Prop} {n z : Nat} (h : n < z) (hz : z < 2 ^ 31) (hp : post 1) : wpY_exists post (cl, lm, nI z, oc, rs, hY, ch, al, en, K, P, bn, be, nx, FN, FE, FL, FH) (nI n) :=
  br_f (nI_pos (by omega)) (br_f (nI_ge h hz) hp)
theorem ly_ex0 {post : Int32 → Prop} {x : Int32} (h : x < 0 ∨ sz ≤ x) (hp : post 0) : wpY_exists post (cl, lm, sz, oc, rs, hY, ch, al, en, K, P, bn, be, nx, FN, FE, FL, FH) x := by
  by_cases h0 : x < 0
  · exact br_t h0 hp
  · exact br_f h0 (br_t (h.resolve_left h0) hp)
theorem ly_ext {post : Int32 → SY → Prop} {g : Nat} {p x y : Int32} (hg : g + 1 < 256)
    (hp : post (nI (g + 1)) (cl, lm, sz, oc, rs, hY, ch, al, nI (g + 1), K, P, upd bn (g + 1) x, upd be (g + 1) y, upd nx (g + 1) p, FN, FE, FL, FH)) : wpY_extend post (cl, lm, sz, oc, rs, hY, ch, al, nI g, K, P, bn, be, nx, FN, FE, FL, FH) p x y := by
  have i1 : vp_in (nI (g + 1)) 256 := vp_in_nI hg (by decide)
  have e1 : (nI (g + 1)).toNatClampNeg = g + 1 := nI_clamp (by omega)
  have f1 : upd bn (nI (g + 1)).toNatClampNeg x = upd bn (g + 1) x := by rw [e1]
  have f2 : upd be (nI (g + 1)).toNatClampNeg y = upd be (g + 1) y := by rw [e1]
  have f3 : upd nx (nI (g + 1)).toNatClampNeg p = upd nx (g + 1) p := by rw [e1]
  exact nm_r (nI_1 g) ⟨i1, nm_r f1 ⟨i1, nm_r f2 ⟨i1, nm_r f3 hp⟩⟩⟩
theorem ly_find13 {post : Int32 → Prop} {z E : Nat} {BN BE NX LN : Nat → Int32} (h : lk_En z E BN BE NX LN) (ag : lk_Ag E BN BE NX bn be nx) : ∀ n j k e : Nat, e < E → e < n → k + j < 2 ^ 31 → post (nI (lk_an NX j e)) →
    wY_find_13 post (nI (k + j)) cl lm sz oc rs hY ch al en K P bn be nx FN FE FL FH n (nI e) (nI k) := by
  have kE := h.2.1
  intro n
  induction n with
  | zero => intro j k e _ hn; omega
  | succ n ih =>
    intro j k e he hn hk hp
    cases j with
    | zero => exact br_t (Int32.le_refl _) hp
    | succ j =>
      have e2 : k + (j + 1) = (k + 1) + j := by omega
      rw [e2]
      by_cases e0 : e = 0
      · subst e0
        rw [lk_an0] at hp
        exact br_f (nI_ge (by omega) (by omega)) (br_t nI_0 hp)
      · obtain ⟨m, d, p, l, -, -, h3, -, -, -, h7, -, -⟩ := h.2.2.2 e (by omega) he
        have hp31 : p < 2 ^ 31 := by omega
        rw [lk_anS e0 hp31 h7] at hp
        have e1 : (nI e).toNatClampNeg = e := nI_clamp (by omega)
        have f1 : nx (nI e).toNatClampNeg = nI p := by rw [e1, (ag e (by omega) he).2.2]; exact h7
        exact br_f (nI_ge (by omega) (by omega)) (br_f (nI_ne0 (by omega) (by omega)) ⟨vp_in_nI (by omega) (by decide), nm_r f1 (nm_r (nI_1 k) (ih j (k + 1) p (by omega) (by omega) (by omega) hp))⟩)
theorem ly_find {post : Int32 → Prop} {z E e i : Nat} {BN BE NX LN : Nat → Int32} (h : lk_En z E BN BE NX LN) (ag : lk_Ag E BN BE NX bn be nx) (he : e < E) (hi : i < 2 ^ 31) (hp : post (nI (lk_an NX i e))) : wpY_find post (cl, lm, sz, oc, rs, hY, ch, al, en, K, P, bn, be, nx, FN, FE, FL, FH) (nI e) (nI i) := by
  have w := ly_find13 (post := post) (cl := cl) (lm := lm) (sz := sz) (oc := oc) (rs := rs) (hY := hY) (ch := ch) (al := al) (en := en) (K := K) (P := P) (bn := bn) (be := be) (nx := nx) (FN := FN) (FE := FE) (FL := FL) (FH := FH) h ag (e + 1) i 0 e he (by omega) (by omega) hp
  rw [Nat.zero_add, nI_0] at w
  exact br_t (nI_pos' hi) ⟨e + 1, w⟩
theorem ly_find0 {post : Int32 → Prop} {i : Int32} (hp : post 0) : wpY_find post (cl, lm, sz, oc, rs, hY, ch, al, en, K, P, bn, be, nx, FN, FE, FL, FH) 0 i := by
  have w : wY_find_13 post i cl lm sz oc rs hY ch al en K P bn be nx FN FE FL FH 1 0 0 := by
    by_cases c : i ≤ 0
    · exact br_t c hp
    · exact br_f c (br_t rfl hp)
  exact br_c (fun _ => ⟨1, w⟩) (fun _ => ⟨1, w⟩)
theorem ly_findn {post : Int32 → Prop} {x i : Int32} (h : i < 0) (hp : post 0) : wpY_find post (cl, lm, sz, oc, rs, hY, ch, al, en, K, P, bn, be, nx, FN, FE, FL, FH) x i := by
  have w : wY_find_13 post i cl lm sz oc rs hY ch al en K P bn be nx FN FE FL FH 1 0 0 := by
    by_cases c : i ≤ 0
    · exact br_t c hp
    · exact br_f c (br_t rfl hp)
  exact br_f (Int32.not_le.mpr h) ⟨1, w⟩
theorem ly_opr {post : Int32 → Prop} {k : Nat} {l r : Int32} (h6 : 6 ≤ k) (hk : k < 12) (hr : k = 9 → ¬ r = 0) (hp : post (lk_op k l r)) : wpY_operate post (cl, lm, sz, oc, rs, hY, ch, al, en, K, P, bn, be, nx, FN, FE, FL, FH) (nI k) l r := by
  rcases (show k = 6 ∨ k = 7 ∨ k = 8 ∨ k = 9 ∨ k = 10 ∨ k = 11 by omega) with rfl | rfl | rfl | rfl | rfl | rfl
  · have f : lk_op 6 l r = l + r := rfl
    rw [f] at hp
    exact br_t rfl hp
  · have f : lk_op 7 l r = l - r := rfl
    rw [f] at hp
    exact br_f (by decide) (br_t rfl hp)
  · have f : lk_op 8 l r = l * r := rfl
    rw [f] at hp
    exact br_f (by decide) (br_f (by decide) (br_t rfl hp))
  · have f : lk_op 9 l r = l / r := rfl
    rw [f] at hp
    exact br_f (by decide) (br_f (by decide) (br_f (by decide) (br_t rfl (br_f (hr rfl) ⟨hr rfl, hp⟩))))
  · have f : lk_op 10 l r = if r ≤ l then 0 else 1 := rfl
    rw [f] at hp
    by_cases c : r ≤ l
    · rw [if_pos c] at hp
      exact br_f (by decide) (br_f (by decide) (br_f (by decide) (br_f (by decide) (br_t rfl (br_t c hp)))))
    · rw [if_neg c] at hp
      exact br_f (by decide) (br_f (by decide) (br_f (by decide) (br_f (by decide) (br_t rfl (br_f c hp)))))
  · have f : lk_op 11 l r = if l = r then 1 else 0 := rfl
    rw [f] at hp
    by_cases c : l = r
    · rw [if_pos c] at hp
      exact br_f (by decide) (br_f (by decide) (br_f (by decide) (br_f (by decide) (br_f (by decide) (br_t c hp)))))
    · rw [if_neg c] at hp
      exact br_f (by decide) (br_f (by decide) (br_f (by decide) (br_f (by decide) (br_f (by decide) (br_f c hp)))))
theorem ly_exh {m s : Nat} {x5 : Int32} (hs : s ≤ 1000) (hca : ch = al)
    : lk_WY (m + 1) s 3 (cl, lm, sz, 3, 0, 0, ch, al, en, K, P, bn, be, nx, FN, FE, FL, FH) x3 x4 x5 0 x7 x8 x9 cl lm sz oc rs hY ch al en K P bn be nx FN FE FL FH := by
  intro post hp n hn
  obtain ⟨n', rfl⟩ : ∃ n', n = n' + 1 := ⟨n - 1, by omega⟩
  exact br_f (lk_s2 hs) (br_t rfl (br_t hca hp))
theorem ly_lit {m s : Nat} {r : Int32} {v' : SY} {x5 c1 a : Int32} (hs : s ≤ 1000) (hca : ¬ ch = al) (hc1 : ch + 1 = c1) (hin : vp_in x3 32) (hK : K x3.toNatClampNeg = 0) (hi3 : vp_in (3 * x3) 96) (hP : P (3 * x3).toNatClampNeg = a)
    (w : lk_WY m (s + 1) r v' x3 x4 x5 1 0 a 0 cl lm sz oc rs hY c1 al en K P bn be nx FN FE FL FH) : lk_WY (m + 1) s r v' x3 x4 x5 0 x7 x8 x9 cl lm sz oc rs hY ch al en K P bn be nx FN FE FL FH := by
  subst hP
  intro post hp n hn
  obtain ⟨n', rfl⟩ : ∃ n', n = n' + 1 := ⟨n - 1, by omega⟩
  exact br_f (lk_s2 hs) (br_t rfl (br_f hca (nm_r hc1 ⟨hin, nm_r hK (br_t rfl (br_f (by decide) (br_t rfl ⟨hi3, br_t rfl (nm_r (nI_1 s) (w post hp n' (by omega)))⟩)))⟩)))
theorem ly_lam {m s : Nat} {r : Int32} {v' : SY} {x5 c1 : Int32} (hs : s ≤ 1000) (hca : ¬ ch = al) (hc1 : ch + 1 = c1) (hin : vp_in x3 32) (hK : K x3.toNatClampNeg = 2)
    (w : lk_WY m (s + 1) r v' x3 x4 x5 1 1 x3 x4 cl lm sz oc rs hY c1 al en K P bn be nx FN FE FL FH) : lk_WY (m + 1) s r v' x3 x4 x5 0 x7 x8 x9 cl lm sz oc rs hY ch al en K P bn be nx FN FE FL FH := by
  intro post hp n hn
  obtain ⟨n', rfl⟩ : ∃ n', n = n' + 1 := ⟨n - 1, by omega⟩
  exact br_f (lk_s2 hs) (br_t rfl (br_f hca (nm_r hc1 ⟨hin, nm_r hK (br_f (by decide) (br_t rfl (br_t rfl (br_f (by decide) (br_f (by decide) (nm_r (nI_1 s) (w post hp n' (by omega))))))))⟩)))
theorem ly_unb {m s : Nat} {x5 c1 a : Int32} (hs : s ≤ 1000) (hca : ¬ ch = al) (hc1 : ch + 1 = c1) (hin : vp_in x3 32) (hK : K x3.toNatClampNeg = 1) (hi3 : vp_in (3 * x3) 96) (hP : P (3 * x3).toNatClampNeg = a) (hf : ∀ Q : Int32 → Prop, Q 0 → wpY_find Q (cl, lm, sz, oc, rs, hY, c1, al, en, K, P, bn, be, nx, FN, FE, FL, FH) x4 a)
    : lk_WY (m + 1) s 4 (cl, lm, sz, 4, x3, 0, c1, al, en, K, P, bn, be, nx, FN, FE, FL, FH) x3 x4 x5 0 x7 x8 x9 cl lm sz oc rs hY ch al en K P bn be nx FN FE FL FH := by
  subst hP
  intro post hp n hn
  obtain ⟨n', rfl⟩ : ∃ n', n = n' + 1 := ⟨n - 1, by omega⟩
  exact br_f (lk_s2 hs) (br_t rfl (br_f hca (nm_r hc1 ⟨hin, nm_r hK (br_f (by decide) (br_f (by decide) (br_t rfl ⟨hi3, hf _ (br_t rfl hp)⟩)))⟩)))
theorem ly_bnd {m s : Nat} {r : Int32} {v' : SY} {x5 c1 a b n1 e1 : Int32} (hs : s ≤ 1000) (hca : ¬ ch = al) (hc1 : ch + 1 = c1) (hin : vp_in x3 32) (hK : K x3.toNatClampNeg = 1) (hi3 : vp_in (3 * x3) 96) (hP : P (3 * x3).toNatClampNeg = a) (hf : ∀ Q : Int32 → Prop, Q b → wpY_find Q (cl, lm, sz, oc, rs, hY, c1, al, en, K, P, bn, be, nx, FN, FE, FL, FH) x4 a) (hb : ¬ b = 0) (hi : vp_in b 256) (hN : bn b.toNatClampNeg = n1) (hF : be b.toNatClampNeg = e1)
    (w : lk_WY m (s + 1) r v' n1 e1 x5 0 x7 x8 x9 cl lm sz oc rs hY c1 al en K P bn be nx FN FE FL FH) : lk_WY (m + 1) s r v' x3 x4 x5 0 x7 x8 x9 cl lm sz oc rs hY ch al en K P bn be nx FN FE FL FH := by
  subst hP
  intro post hp n hn
  obtain ⟨n', rfl⟩ : ∃ n', n = n' + 1 := ⟨n - 1, by omega⟩
  exact br_f (lk_s2 hs) (br_t rfl (br_f hca (nm_r hc1 ⟨hin, nm_r hK (br_f (by decide) (br_f (by decide) (br_t rfl ⟨hi3, hf _ (br_f hb ⟨hi, nm_r hN ⟨hi, nm_r hF (nm_r (nI_1 s) (w post hp n' (by omega)))⟩⟩)⟩)))⟩)))
theorem ly_rec {m s : Nat} {r : Int32} {v' : SY} {x5 c1 a : Int32} {g : Nat} (hs : s ≤ 1000) (hca : ¬ ch = al) (hc1 : ch + 1 = c1) (hin : vp_in x3 32) (hK : K x3.toNatClampNeg = 3) (hg : g + 1 < 256) (hi3 : vp_in (3 * x3) 96) (hP : P (3 * x3).toNatClampNeg = a)
    (w : lk_WY m (s + 1) r v' a (nI (g + 1)) x5 0 x7 x8 x9 cl lm sz oc rs hY c1 al (nI (g + 1)) K P (upd bn (g + 1) x3) (upd be (g + 1) x4) (upd nx (g + 1) x4) FN FE FL FH) : lk_WY (m + 1) s r v' x3 x4 x5 0 x7 x8 x9 cl lm sz oc rs hY ch al (nI g) K P bn be nx FN FE FL FH := by
  intro post hp n hn
  obtain ⟨n', rfl⟩ : ∃ n', n = n' + 1 := ⟨n - 1, by omega⟩
  exact br_f (lk_s2 hs) (br_t rfl (br_f hca (nm_r hc1 ⟨hin, nm_r hK (br_f (by decide) (br_f (by decide) (br_f (by decide) (br_t rfl (ly_ext hg ⟨hi3, nm_r hP (nm_r (nI_1 s) (w post hp n' (by omega)))⟩)))))⟩)))
theorem ly_push {m s : Nat} {r : Int32} {v' : SY} {c1 a kk : Int32} {d : Nat} (hs : s ≤ 1000) (hca : ¬ ch = al) (hc1 : ch + 1 = c1) (hin : vp_in x3 32) (hd : d < 240) (hK : K x3.toNatClampNeg = kk) (k0 : ¬ kk = 0) (k2 : ¬ kk = 2) (k1 : ¬ kk = 1) (k3 : ¬ kk = 3) (hi3 : vp_in (3 * x3) 96) (hP : P (3 * x3).toNatClampNeg = a)
    (w : lk_WY m (s + 1) r v' a x4 (nI (d + 1)) 0 x7 x8 x9 cl lm sz oc rs hY c1 al en K P bn be nx (upd FN d x3) (upd FE d x4) FL (upd FH d 0)) : lk_WY (m + 1) s r v' x3 x4 (nI d) 0 x7 x8 x9 cl lm sz oc rs hY ch al en K P bn be nx FN FE FL FH := by
  intro post hp n hn
  obtain ⟨n', rfl⟩ : ∃ n', n = n' + 1 := ⟨n - 1, by omega⟩
  have i1 : vp_in (nI d) 256 := vp_in_nI (by omega) (by decide)
  have e1 : (nI d).toNatClampNeg = d := nI_clamp (by omega)
  have f1 : upd FN (nI d).toNatClampNeg x3 = upd FN d x3 := by rw [e1]
  have f2 : upd FE (nI d).toNatClampNeg x4 = upd FE d x4 := by rw [e1]
  have f3 : upd FH (nI d).toNatClampNeg (vp_nar .boolean 0) = upd FH d 0 := by rw [e1, lk_b0]
  exact br_f (lk_s2 hs) (br_t rfl (br_f hca (nm_r hc1 ⟨hin, nm_r hK (br_f k0 (br_f k2 (br_f k1 (br_f k3 ⟨i1, nm_r f1 ⟨i1, nm_r f2 ⟨i1, nm_r f3 (nm_r (nI_1 d) ⟨hi3, nm_r hP (nm_r (nI_1 s) (w post hp n' (by omega)))⟩)⟩⟩⟩))))⟩)))
theorem ly_int {m s : Nat} (hs : s ≤ 1000) 
    : lk_WY (m + 1) s 1 (cl, lm, sz, 1, x8, x9, ch, al, en, K, P, bn, be, nx, FN, FE, FL, FH) x3 x4 (nI 0) 1 0 x8 x9 cl lm sz oc rs hY ch al en K P bn be nx FN FE FL FH := by
  intro post hp n hn
  obtain ⟨n', rfl⟩ : ∃ n', n = n' + 1 := ⟨n - 1, by omega⟩
  exact br_f (lk_s2 hs) (br_f (by decide) (br_t nI_0 (br_t rfl hp)))
theorem ly_fun {m s : Nat} (hs : s ≤ 1000) 
    : lk_WY (m + 1) s 2 (cl, lm, sz, 2, x8, x9, ch, al, en, K, P, bn, be, nx, FN, FE, FL, FH) x3 x4 (nI 0) 1 1 x8 x9 cl lm sz oc rs hY ch al en K P bn be nx FN FE FL FH := by
  intro post hp n hn
  obtain ⟨n', rfl⟩ : ∃ n', n = n' + 1 := ⟨n - 1, by omega⟩
  exact br_f (lk_s2 hs) (br_f (by decide) (br_t nI_0 (br_f (by decide) hp)))
theorem ly_nf {m s : Nat} {f e hh : Int32} {d : Nat} (hs : s ≤ 1000) (hd : d < 240) (hN : FN d = f) (hF : FE d = e) (hin : vp_in f 32) (hK : K f.toNatClampNeg = 4) (hH : FH d = hh) 
    : lk_WY (m + 1) s 5 (cl, lm, sz, 5, f, 0, ch, al, en, K, P, bn, be, nx, FN, FE, FL, FH) x3 x4 (nI (d + 1)) 1 0 x8 x9 cl lm sz oc rs hY ch al en K P bn be nx FN FE FL FH := by
  intro post hp n hn
  obtain ⟨n', rfl⟩ : ∃ n', n = n' + 1 := ⟨n - 1, by omega⟩
  have i1 : vp_in (nI d) 256 := vp_in_nI (by omega) (by decide)
  have e1 : (nI d).toNatClampNeg = d := nI_clamp (by omega)
  have gN : FN (nI d).toNatClampNeg = f := by rw [e1]; exact hN
  have gF : FE (nI d).toNatClampNeg = e := by rw [e1]; exact hF
  have gH : FH (nI d).toNatClampNeg = hh := by rw [e1]; exact hH
  exact br_f (lk_s2 hs) (br_f (by decide) (br_f (nI_ne0 (by omega) (by omega)) (nm_r (pk_m1 d) ⟨i1, nm_r gN ⟨hin, nm_r hK ⟨i1, nm_r gH ⟨i1, nm_r gF (br_t rfl (br_t rfl hp))⟩⟩⟩⟩)))
theorem ly_ap {m s : Nat} {r : Int32} {v' : SY} {f e a b : Int32} {d : Nat} (hs : s ≤ 1000) (hd : d < 240) (hN : FN d = f) (hF : FE d = e) (hin : vp_in f 32) (hK : K f.toNatClampNeg = 4) (hH : FH d = 0) {g : Nat} (hg : g + 1 < 256) (hi1 : vp_in (3 * f + 1) 96) (hB : P (3 * f + 1).toNatClampNeg = b) (hi8 : vp_in (3 * x8) 96) (hA : P (3 * x8).toNatClampNeg = a)
    (w : lk_WY m (s + 1) r v' a (nI (g + 1)) (nI d) 0 1 x8 x9 cl lm sz oc rs hY ch al (nI (g + 1)) K P (upd bn (g + 1) b) (upd be (g + 1) e) (upd nx (g + 1) x9) FN FE FL FH) : lk_WY (m + 1) s r v' x3 x4 (nI (d + 1)) 1 1 x8 x9 cl lm sz oc rs hY ch al (nI g) K P bn be nx FN FE FL FH := by
  subst hB
  intro post hp n hn
  obtain ⟨n', rfl⟩ : ∃ n', n = n' + 1 := ⟨n - 1, by omega⟩
  have i1 : vp_in (nI d) 256 := vp_in_nI (by omega) (by decide)
  have e1 : (nI d).toNatClampNeg = d := nI_clamp (by omega)
  have gN : FN (nI d).toNatClampNeg = f := by rw [e1]; exact hN
  have gF : FE (nI d).toNatClampNeg = e := by rw [e1]; exact hF
  have gH : FH (nI d).toNatClampNeg = 0 := by rw [e1]; exact hH
  exact br_f (lk_s2 hs) (br_f (by decide) (br_f (nI_ne0 (by omega) (by omega)) (nm_r (pk_m1 d) ⟨i1, nm_r gN ⟨hin, nm_r hK ⟨i1, nm_r gH ⟨i1, nm_r gF (br_t rfl (br_f (by decide) (br_t rfl (br_f (by decide) (br_t rfl (br_t rfl ⟨hi1, ly_ext hg ⟨hi8, nm_r hA (nm_r (nI_1 s) (w post hp n' (by omega)))⟩⟩))))))⟩⟩⟩⟩)))
theorem ly_ni {m s : Nat} {f e kk hh : Int32} {d : Nat} (hs : s ≤ 1000) (hd : d < 240) (hN : FN d = f) (hF : FE d = e) (hin : vp_in f 32) (hK : K f.toNatClampNeg = kk) (hH : FH d = hh) (k4 : ¬ kk = 4)
    : lk_WY (m + 1) s 6 (cl, lm, sz, 6, f, 0, ch, al, en, K, P, bn, be, nx, FN, FE, FL, FH) x3 x4 (nI (d + 1)) 1 1 x8 x9 cl lm sz oc rs hY ch al en K P bn be nx FN FE FL FH := by
  intro post hp n hn
  obtain ⟨n', rfl⟩ : ∃ n', n = n' + 1 := ⟨n - 1, by omega⟩
  have i1 : vp_in (nI d) 256 := vp_in_nI (by omega) (by decide)
  have e1 : (nI d).toNatClampNeg = d := nI_clamp (by omega)
  have gN : FN (nI d).toNatClampNeg = f := by rw [e1]; exact hN
  have gF : FE (nI d).toNatClampNeg = e := by rw [e1]; exact hF
  have gH : FH (nI d).toNatClampNeg = hh := by rw [e1]; exact hH
  exact br_f (lk_s2 hs) (br_f (by decide) (br_f (nI_ne0 (by omega) (by omega)) (nm_r (pk_m1 d) ⟨i1, nm_r gN ⟨hin, nm_r hK ⟨i1, nm_r gH ⟨i1, nm_r gF (br_f k4 (br_f k4 (br_f (by decide) hp)))⟩⟩⟩⟩)))
theorem ly_b0 {m s : Nat} {r : Int32} {v' : SY} {f e c : Int32} {d : Nat} (hs : s ≤ 1000) (hd : d < 240) (hN : FN d = f) (hF : FE d = e) (hin : vp_in f 32) (hK : K f.toNatClampNeg = 5) (hH : FH d = 0) (hv : x8 = 0) (hi2 : vp_in (3 * f + 2) 96) (hC : P (3 * f + 2).toNatClampNeg = c)
    (w : lk_WY m (s + 1) r v' c e (nI d) 0 0 x8 x9 cl lm sz oc rs hY ch al en K P bn be nx FN FE FL FH) : lk_WY (m + 1) s r v' x3 x4 (nI (d + 1)) 1 0 x8 x9 cl lm sz oc rs hY ch al en K P bn be nx FN FE FL FH := by
  intro post hp n hn
  obtain ⟨n', rfl⟩ : ∃ n', n = n' + 1 := ⟨n - 1, by omega⟩
  have i1 : vp_in (nI d) 256 := vp_in_nI (by omega) (by decide)
  have e1 : (nI d).toNatClampNeg = d := nI_clamp (by omega)
  have gN : FN (nI d).toNatClampNeg = f := by rw [e1]; exact hN
  have gF : FE (nI d).toNatClampNeg = e := by rw [e1]; exact hF
  have gH : FH (nI d).toNatClampNeg = 0 := by rw [e1]; exact hH
  exact br_f (lk_s2 hs) (br_f (by decide) (br_f (nI_ne0 (by omega) (by omega)) (nm_r (pk_m1 d) ⟨i1, nm_r gN ⟨hin, nm_r hK ⟨i1, nm_r gH ⟨i1, nm_r gF (br_f (by decide) (br_f (by decide) (br_t rfl (br_f (by decide) (br_t rfl (br_f (by decide) (br_t rfl (br_t hv ⟨hi2, nm_r hC (nm_r (nI_1 s) (w post hp n' (by omega)))⟩))))))))⟩⟩⟩⟩)))
theorem ly_b1 {m s : Nat} {r : Int32} {v' : SY} {f e b : Int32} {d : Nat} (hs : s ≤ 1000) (hd : d < 240) (hN : FN d = f) (hF : FE d = e) (hin : vp_in f 32) (hK : K f.toNatClampNeg = 5) (hH : FH d = 0) (hv : ¬ x8 = 0) (hi1 : vp_in (3 * f + 1) 96) (hB : P (3 * f + 1).toNatClampNeg = b)
    (w : lk_WY m (s + 1) r v' b e (nI d) 0 0 x8 x9 cl lm sz oc rs hY ch al en K P bn be nx FN FE FL FH) : lk_WY (m + 1) s r v' x3 x4 (nI (d + 1)) 1 0 x8 x9 cl lm sz oc rs hY ch al en K P bn be nx FN FE FL FH := by
  intro post hp n hn
  obtain ⟨n', rfl⟩ : ∃ n', n = n' + 1 := ⟨n - 1, by omega⟩
  have i1 : vp_in (nI d) 256 := vp_in_nI (by omega) (by decide)
  have e1 : (nI d).toNatClampNeg = d := nI_clamp (by omega)
  have gN : FN (nI d).toNatClampNeg = f := by rw [e1]; exact hN
  have gF : FE (nI d).toNatClampNeg = e := by rw [e1]; exact hF
  have gH : FH (nI d).toNatClampNeg = 0 := by rw [e1]; exact hH
  exact br_f (lk_s2 hs) (br_f (by decide) (br_f (nI_ne0 (by omega) (by omega)) (nm_r (pk_m1 d) ⟨i1, nm_r gN ⟨hin, nm_r hK ⟨i1, nm_r gH ⟨i1, nm_r gF (br_f (by decide) (br_f (by decide) (br_t rfl (br_f (by decide) (br_t rfl (br_f (by decide) (br_t rfl (br_f hv ⟨hi1, nm_r hB (nm_r (nI_1 s) (w post hp n' (by omega)))⟩))))))))⟩⟩⟩⟩)))
theorem ly_lf {m s : Nat} {r : Int32} {v' : SY} {f e b kk : Int32} {d : Nat} (hs : s ≤ 1000) (hd : d < 240) (hN : FN d = f) (hF : FE d = e) (hin : vp_in f 32) (hK : K f.toNatClampNeg = kk) (hH : FH d = 0) (k4 : ¬ kk = 4) (k5 : ¬ kk = 5) (hi1 : vp_in (3 * f + 1) 96) (hB : P (3 * f + 1).toNatClampNeg = b)
    (w : lk_WY m (s + 1) r v' b e (nI (d + 1)) 0 0 x8 x9 cl lm sz oc rs hY ch al en K P bn be nx FN FE (upd FL d x8) (upd FH d 1)) : lk_WY (m + 1) s r v' x3 x4 (nI (d + 1)) 1 0 x8 x9 cl lm sz oc rs hY ch al en K P bn be nx FN FE FL FH := by
  intro post hp n hn
  obtain ⟨n', rfl⟩ : ∃ n', n = n' + 1 := ⟨n - 1, by omega⟩
  have i1 : vp_in (nI d) 256 := vp_in_nI (by omega) (by decide)
  have e1 : (nI d).toNatClampNeg = d := nI_clamp (by omega)
  have gN : FN (nI d).toNatClampNeg = f := by rw [e1]; exact hN
  have gF : FE (nI d).toNatClampNeg = e := by rw [e1]; exact hF
  have gH : FH (nI d).toNatClampNeg = 0 := by rw [e1]; exact hH
  have f1 : upd FL (nI d).toNatClampNeg x8 = upd FL d x8 := by rw [e1]
  have f2 : upd FH (nI d).toNatClampNeg (vp_nar .boolean 1) = upd FH d 1 := by rw [e1, lk_b1]
  exact br_f (lk_s2 hs) (br_f (by decide) (br_f (nI_ne0 (by omega) (by omega)) (nm_r (pk_m1 d) ⟨i1, nm_r gN ⟨hin, nm_r hK ⟨i1, nm_r gH ⟨i1, nm_r gF (br_f k4 (br_f k4 (br_t rfl (br_c (fun _ => br_t rfl (br_t rfl (br_f k4 (br_f k5 ⟨i1, nm_r f1 ⟨i1, nm_r f2 (nm_r (nI_1 d) ⟨hi1, nm_r hB (nm_r (nI_1 s) (w post hp n' (by omega)))⟩)⟩⟩)))) (fun _ => br_t rfl (br_f k4 (br_f k5 ⟨i1, nm_r f1 ⟨i1, nm_r f2 (nm_r (nI_1 d) ⟨hi1, nm_r hB (nm_r (nI_1 s) (w post hp n' (by omega)))⟩)⟩⟩)))))))⟩⟩⟩⟩)))
theorem ly_op {m s : Nat} {r : Int32} {v' : SY} {f e kk l o : Int32} {d : Nat} (hs : s ≤ 1000) (hd : d < 240) (hN : FN d = f) (hF : FE d = e) (hin : vp_in f 32) (hK : K f.toNatClampNeg = kk) (hH : FH d = 1) (k4 : ¬ kk = 4) (k9 : kk = 9 → ¬ x8 = 0) (hL : FL d = l) (hO : ∀ Q : Int32 → Prop, Q o → wpY_operate Q (cl, lm, sz, oc, rs, hY, ch, al, en, K, P, bn, be, nx, FN, FE, FL, FH) kk l x8)
    (w : lk_WY m (s + 1) r v' x3 e (nI d) 1 0 o x9 cl lm sz oc rs hY ch al en K P bn be nx FN FE FL FH) : lk_WY (m + 1) s r v' x3 x4 (nI (d + 1)) 1 0 x8 x9 cl lm sz oc rs hY ch al en K P bn be nx FN FE FL FH := by
  intro post hp n hn
  obtain ⟨n', rfl⟩ : ∃ n', n = n' + 1 := ⟨n - 1, by omega⟩
  have i1 : vp_in (nI d) 256 := vp_in_nI (by omega) (by decide)
  have e1 : (nI d).toNatClampNeg = d := nI_clamp (by omega)
  have gN : FN (nI d).toNatClampNeg = f := by rw [e1]; exact hN
  have gF : FE (nI d).toNatClampNeg = e := by rw [e1]; exact hF
  have gH : FH (nI d).toNatClampNeg = 1 := by rw [e1]; exact hH
  have gL : FL (nI d).toNatClampNeg = l := by rw [e1]; exact hL
  subst gL
  exact br_f (lk_s2 hs) (br_f (by decide) (br_f (nI_ne0 (by omega) (by omega)) (nm_r (pk_m1 d) ⟨i1, nm_r gN ⟨hin, nm_r hK ⟨i1, nm_r gH ⟨i1, nm_r gF (br_f k4 (br_f k4 (br_t rfl (br_c (fun z => br_f (by decide) (br_f (k9 z) (br_f (by decide) ⟨i1, hO _ (nm_r (nI_1 s) (w post hp n' (by omega)))⟩))) (fun _ => br_f (by decide) ⟨i1, hO _ (nm_r (nI_1 s) (w post hp n' (by omega)))⟩)))))⟩⟩⟩⟩)))
theorem ly_zd {m s : Nat} {f e : Int32} {d : Nat} (hs : s ≤ 1000) (hd : d < 240) (hN : FN d = f) (hF : FE d = e) (hin : vp_in f 32) (hK : K f.toNatClampNeg = 9) (hH : FH d = 1) (hv : x8 = 0)
    : lk_WY (m + 1) s 7 (cl, lm, sz, 7, f, 0, ch, al, en, K, P, bn, be, nx, FN, FE, FL, FH) x3 x4 (nI (d + 1)) 1 0 x8 x9 cl lm sz oc rs hY ch al en K P bn be nx FN FE FL FH := by
  intro post hp n hn
  obtain ⟨n', rfl⟩ : ∃ n', n = n' + 1 := ⟨n - 1, by omega⟩
  have i1 : vp_in (nI d) 256 := vp_in_nI (by omega) (by decide)
  have e1 : (nI d).toNatClampNeg = d := nI_clamp (by omega)
  have gN : FN (nI d).toNatClampNeg = f := by rw [e1]; exact hN
  have gF : FE (nI d).toNatClampNeg = e := by rw [e1]; exact hF
  have gH : FH (nI d).toNatClampNeg = 1 := by rw [e1]; exact hH
  exact br_f (lk_s2 hs) (br_f (by decide) (br_f (nI_ne0 (by omega) (by omega)) (nm_r (pk_m1 d) ⟨i1, nm_r gN ⟨hin, nm_r hK ⟨i1, nm_r gH ⟨i1, nm_r gF (br_f (by decide) (br_f (by decide) (br_t rfl (br_t rfl (br_f (by decide) (br_t hv hp))))))⟩⟩⟩⟩)))
end
end
section
/-! ===== the run: both loops in step, by the measure ===== -/
def lk_I (cl lm sz al c g d : Nat) (K A B C P BN BE NX LN bn be nx FN FE FH : Nat → Int32) : Prop :=
  lk_B cl lm sz al c K A B C P LN ∧ g + d ≤ c ∧ lk_En sz (g + 1) BN BE NX LN ∧ lk_Ag (g + 1) BN BE NX bn be nx ∧ lk_Fr sz (g + 1) d K FN FE FH
def lk_V (sz g : Nat) (K : Nat → Int32) (vf vl ve x9 : Int32) : Prop :=
  (vf = 0 ∧ x9 = 0) ∨ (vf = 1 ∧ ∃ w p : Nat, w < sz ∧ K w = nI 2 ∧ vl = nI w ∧ p < g + 1 ∧ ve = nI p ∧ x9 = nI p)
/-- from a node to evaluate -/
def lk_T0 (m : Nat) : Prop :=
  ∀ (cl lm sz al s c g d n e : Nat) (oc rs hE vf vl ve oy ry hY x7 x8 x9 : Int32) (K A B C P BN BE NX LN bn be nx FN FE FL FH : Nat → Int32),
    lk_I cl lm sz al c g d K A B C P BN BE NX LN bn be nx FN FE FH → n < sz → e < g + 1 → 3 * (al - c) + lk_po FH d < m → s + m ≤ 1000 →
    ∃ (r : Int32) (u' : SX) (v' : SY), lk_R r u' v' ∧
      lk_WX m s u' (nI cl) (nI lm) (nI sz) oc rs (nI c) (nI al) hE (nI (g + 1)) (nI d) 0 (nI n) (nI e) vf vl ve K A B C BN BE NX LN FN FE FL FH ∧
      lk_WY m s r v' (nI n) (nI e) (nI d) 0 x7 x8 x9 (nI cl) (nI lm) (nI sz) oy ry hY (nI c) (nI al) (nI g) K P bn be nx FN FE FL FH
/-- from a value to return -/
def lk_T1 (m : Nat) : Prop :=
  ∀ (cl lm sz al s c g d : Nat) (oc rs hE fn fe vf vl ve oy ry hY x3 x4 x9 : Int32) (K A B C P BN BE NX LN bn be nx FN FE FL FH : Nat → Int32),
    lk_I cl lm sz al c g d K A B C P BN BE NX LN bn be nx FN FE FH → lk_V sz g K vf vl ve x9 → 3 * (al - c) + lk_po FH d < m → s + m ≤ 1000 →
    ∃ (r : Int32) (u' : SX) (v' : SY), lk_R r u' v' ∧
      lk_WX m s u' (nI cl) (nI lm) (nI sz) oc rs (nI c) (nI al) hE (nI (g + 1)) (nI d) 1 fn fe vf vl ve K A B C BN BE NX LN FN FE FL FH ∧
      lk_WY m s r v' x3 x4 (nI d) 1 vf vl x9 (nI cl) (nI lm) (nI sz) oy ry hY (nI c) (nI al) (nI g) K P bn be nx FN FE FL FH
theorem lk_ne {a b : Nat} (h : a ≠ b) (ha : a < 2 ^ 31) (hb : b < 2 ^ 31) : ¬ nI a = nI b := fun q => h ((nI_eq ha hb).mp q)
theorem lk_T0s {m : Nat} (h0 : lk_T0 m) (h1 : lk_T1 m) : lk_T0 (m + 1) := by
  intro cl lm sz al s c g d n e oc rs hE vf vl ve oy ry hY x7 x8 x9 K A B C P BN BE NX LN bn be nx FN FE FL FH I hn he hm hs
  obtain ⟨hB, hgd, hEn, hAg, hFr⟩ := I
  have hB' := hB
  obtain ⟨b1, b2, b3, b4, b5, b6, b7, hAr, hPt, hL0⟩ := hB'
  have hs1 : s ≤ 1000 := by omega
  by_cases hca : c = al
  · subst hca
    refine ⟨3, _, _, ?_, lx_s0 hs1 (fun post hp => lf_exh Int32.lt_irrefl hp) (lx_end (by omega)), ly_exh hs1 rfl⟩
    exact lk_R_stop hB (by decide) rfl rfl rfl
  · have hc : c < al := by omega
    have hcl : nI c < nI al := nI_lt hc (by omega)
    have hcn : ¬ nI c = nI al := lk_ne hca (by omega) (by omega)
    have hin : vp_in (nI n) 32 := vp_in_nI (by omega) (by decide)
    have qn : (nI n).toNatClampNeg = n := nI_clamp (by omega)
    have i3 : vp_in (3 * nI n) 96 := by rw [lk_3]; exact vp_in_nI (by omega) (by decide)
    have q3 : (3 * nI n).toNatClampNeg = 3 * n := by rw [lk_3]; exact nI_clamp (by omega)
    have hPA : P (3 * nI n).toNatClampNeg = A n := by rw [q3]; exact (hPt n).1
    have hAA : A (nI n).toNatClampNeg = A n := by rw [qn]
    have hB1 : lk_B cl lm sz al (c + 1) K A B C P LN := ⟨b1, b2, b3, b4, b5, b6, by omega, hAr, hPt, hL0⟩
    obtain ⟨k, k12, hK, kv, ka, kb, kc⟩ := hAr n hn
    have hKn : K (nI n).toNatClampNeg = nI k := by rw [qn]; exact hK
    rcases (show k = 0 ∨ k = 1 ∨ k = 2 ∨ k = 3 ∨ 4 ≤ k by omega) with z | z | z | z | k4
    · subst z
      have hK0 : K (nI n).toNatClampNeg = 0 := hKn
      clear kv ka kb kc
      obtain ⟨r, u', v', hR, wx, wy⟩ := h1 cl lm sz al (s + 1) (c + 1) g d oc rs hE (nI n) (nI e) 0 (A n) ve oy ry hY (nI n) (nI e) 0 K A B C P BN BE NX LN bn be nx FN FE FL FH ⟨hB1, by omega, hEn, hAg, hFr⟩ (Or.inl ⟨rfl, rfl⟩) (by omega) (by omega)
      exact ⟨r, u', v', hR, lx_s0 hs1 (fun post hp => lf_lit hcl (nI_1 c) hin hK0 hAA hp) wx, ly_lit hs1 hcn (nI_1 c) hin hK0 i3 hPA wy⟩
    · subst z
      have hK1 : K (nI n).toNatClampNeg = 1 := hKn
      obtain ⟨i, i32, hi⟩ := kv rfl
      clear kv ka kb kc
      have hi31 : i < 2 ^ 31 := by omega
      have hAi : A (nI n).toNatClampNeg = nI i := hAA.trans hi
      have hPi : P (3 * nI n).toNatClampNeg = nI i := hPA.trans hi
      by_cases z : lk_an NX i e = 0
      · refine ⟨4, _, _, ?_, lx_s0 hs1 (fun post hp => lf_var hcl (nI_1 c) hin hK1 (fun Q hQ => lj_unb hin hAi (fun Q' h' => lx_has0 hEn he hi31 z h') hQ) hp) (lx_end (by omega)),
          ly_unb hs1 hcn (nI_1 c) hin hK1 i3 hPi (fun Q hQ => ly_find hEn hAg he hi31 (by rw [z, nI_0]; exact hQ))⟩
        exact lk_R_stop hB1 (by decide) rfl rfl rfl
      · have bE : lk_an NX i e < g + 1 := lk_an_lt hEn i e he
        have gE := hEn.2.1
        obtain ⟨n1, e1, p1, l1, a1, a2, -, -, a5, a6, -, -, -⟩ := hEn.2.2.2 (lk_an NX i e) (by omega) bE
        have qb : (nI (lk_an NX i e)).toNatClampNeg = lk_an NX i e := nI_clamp (by omega)
        have ga := hAg (lk_an NX i e) (by omega) bE
        have hbN : BN (nI (lk_an NX i e)).toNatClampNeg = nI n1 := by rw [qb]; exact a5
        have hbE : BE (nI (lk_an NX i e)).toNatClampNeg = nI e1 := by rw [qb]; exact a6
        have hyN : bn (nI (lk_an NX i e)).toNatClampNeg = nI n1 := by rw [qb, ga.1]; exact a5
        have hyE : be (nI (lk_an NX i e)).toNatClampNeg = nI e1 := by rw [qb, ga.2.1]; exact a6
        obtain ⟨r, u', v', hR, wx, wy⟩ := h0 cl lm sz al (s + 1) (c + 1) g d n1 e1 oc rs hE vf vl ve oy ry hY x7 x8 x9 K A B C P BN BE NX LN bn be nx FN FE FL FH ⟨hB1, by omega, hEn, hAg, hFr⟩ a1 (by omega) (by omega) (by omega)
        exact ⟨r, u', v', hR, lx_s0 hs1 (fun post hp => lf_var hcl (nI_1 c) hin hK1 (fun Q hQ => lj_bnd hin hAi (fun Q' h' => lx_has1 hEn he hi31 z h') (fun Q' h' => lx_bind hEn he hi31 z h') (vp_in_nI (by omega) (by decide)) hbN hbE hQ) hp) wx,
          ly_bnd hs1 hcn (nI_1 c) hin hK1 i3 hPi (fun Q hQ => ly_find hEn hAg he hi31 hQ) (nI_ne0 (by omega) (by omega)) (vp_in_nI (by omega) (by decide)) hyN hyE wy⟩
    · subst z
      have hK2 : K (nI n).toNatClampNeg = 2 := hKn
      clear kv ka kb kc
      obtain ⟨r, u', v', hR, wx, wy⟩ := h1 cl lm sz al (s + 1) (c + 1) g d oc rs hE (nI n) (nI e) 1 (nI n) (nI e) oy ry hY (nI n) (nI e) (nI e) K A B C P BN BE NX LN bn be nx FN FE FL FH ⟨hB1, by omega, hEn, hAg, hFr⟩ (Or.inr ⟨rfl, n, e, hn, hK, rfl, he, rfl, rfl⟩) (by omega) (by omega)
      exact ⟨r, u', v', hR, lx_s0 hs1 (fun post hp => lf_lam hcl (nI_1 c) hin hK2 hp) wx, ly_lam hs1 hcn (nI_1 c) hin hK2 wy⟩
    · subst z
      have hK3 : K (nI n).toNatClampNeg = 3 := hKn
      obtain ⟨a, ha, hAa⟩ := ka (by omega)
      clear kv ka kb kc
      have hX := lk_En_ext hEn (by omega) hn he he
      have hB2 : lk_B cl lm sz al (c + 1) K A B C P (upd LN (g + 1) (LN e + 1)) := ⟨b1, b2, b3, b4, b5, b6, by omega, hAr, hPt, hX.2.2.1⟩
      obtain ⟨r, u', v', hR, wx, wy⟩ := h0 cl lm sz al (s + 1) (c + 1) (g + 1) d a (g + 1) oc rs hE vf vl ve oy ry hY x7 x8 x9 K A B C P (upd BN (g + 1) (nI n)) (upd BE (g + 1) (nI e)) (upd NX (g + 1) (nI e)) (upd LN (g + 1) (LN e + 1)) (upd bn (g + 1) (nI n)) (upd be (g + 1) (nI e)) (upd nx (g + 1) (nI e)) FN FE FL FH
        ⟨hB2, by omega, hX, lk_Ag_ext hAg _ _ _, lk_Fr_mono hFr (by omega) (Nat.le_refl _)⟩ ha (by omega) (by omega) (by omega)
      exact ⟨r, u', v', hR, lx_s0 hs1 (fun post hp => lf_rec hcl (nI_1 c) hin hK3 (hAA.trans hAa) (by omega) (by omega) hp) wx, ly_rec hs1 hcn (nI_1 c) hin hK3 (by omega) i3 (hPA.trans hAa) wy⟩
    · obtain ⟨a, ha, hAa⟩ := ka (by omega)
      clear kv ka kb kc
      have hpo := lk_po_push (FH := FH) (d := d)
      obtain ⟨r, u', v', hR, wx, wy⟩ := h0 cl lm sz al (s + 1) (c + 1) g (d + 1) a e oc rs hE vf vl ve oy ry hY x7 x8 x9 K A B C P BN BE NX LN bn be nx (upd FN d (nI n)) (upd FE d (nI e)) FL (upd FH d 0)
        ⟨hB1, by omega, hEn, hAg, lk_Fr_push hFr hn he k4 k12 hK⟩ ha he (by omega) (by omega)
      exact ⟨r, u', v', hR, lx_s0 hs1 (fun post hp => lf_push hcl (nI_1 c) hin hKn (nI_pos (by omega)) (nI_lt (a := 3) (by omega) (by omega)) (hAA.trans hAa) (by omega) hp) wx,
        ly_push hs1 hcn (nI_1 c) hin (by omega) hKn (lk_ne (b := 0) (by omega) (by omega) (by omega)) (lk_ne (b := 2) (by omega) (by omega) (by omega)) (lk_ne (b := 1) (by omega) (by omega) (by omega)) (lk_ne (b := 3) (by omega) (by omega) (by omega)) i3 (hPA.trans hAa) wy⟩
theorem lk_T1s {m : Nat} (h0 : lk_T0 m) (h1 : lk_T1 m) : lk_T1 (m + 1) := by
  intro cl lm sz al s c g d oc rs hE fn fe vf vl ve oy ry hY x3 x4 x9 K A B C P BN BE NX LN bn be nx FN FE FL FH I V hm hs
  obtain ⟨hB, hgd, hEn, hAg, hFr⟩ := I
  have hB' := hB
  obtain ⟨b1, b2, b3, b4, b5, b6, b7, hAr, hPt, hL0⟩ := hB'
  have hs1 : s ≤ 1000 := by omega
  rcases Nat.eq_zero_or_pos d with dz | dp
  · subst dz
    rcases V with ⟨v0, v9⟩ | ⟨v1, w, p, hw, hKw, vw, hp, vp, v9⟩
    · subst v0 v9
      refine ⟨1, _, _, ?_, lx_sT hs1 (fun post hp => lj_int hp) (lx_end (by omega)), ly_int hs1⟩
      exact lk_R_stop hB (by decide) rfl rfl rfl
    · subst v1 vw vp v9
      refine ⟨2, _, _, ?_, lx_sT hs1 (fun post hp => lj_fun hp) (lx_end (by omega)), ly_fun hs1⟩
      exact lk_R_held hB ⟨g, p, w, rfl, rfl, rfl, rfl, hp, rfl, hw, hKw, by omega, hEn, hAg⟩
  · obtain ⟨t, rfl⟩ : ∃ t, d = t + 1 := ⟨d - 1, by omega⟩
    have ht : t < 240 := by omega
    obtain ⟨f, e, k, hf, he, k4, k12, hN, hF, hK, hH⟩ := hFr t (by omega)
    have hin : vp_in (nI f) 32 := vp_in_nI (by omega) (by decide)
    have qf : (nI f).toNatClampNeg = f := nI_clamp (by omega)
    have hKf : K (nI f).toNatClampNeg = nI k := by rw [qf]; exact hK
    have i1 : vp_in (3 * nI f + 1) 96 := by rw [lk_31]; exact vp_in_nI (by omega) (by decide)
    have i2 : vp_in (3 * nI f + 2) 96 := by rw [lk_32]; exact vp_in_nI (by omega) (by decide)
    have q1 : (3 * nI f + 1).toNatClampNeg = 3 * f + 1 := by rw [lk_31]; exact nI_clamp (by omega)
    have q2 : (3 * nI f + 2).toNatClampNeg = 3 * f + 2 := by rw [lk_32]; exact nI_clamp (by omega)
    have hPB : P (3 * nI f + 1).toNatClampNeg = B f := by rw [q1]; exact (hPt f).2.1
    have hPC : P (3 * nI f + 2).toNatClampNeg = C f := by rw [q2]; exact (hPt f).2.2
    have hBB : B (nI f).toNatClampNeg = B f := by rw [qf]
    have hCC : C (nI f).toNatClampNeg = C f := by rw [qf]
    have hFt : lk_Fr sz (g + 1) t K FN FE FH := lk_Fr_mono hFr (Nat.le_refl _) (by omega)
    obtain ⟨k', k12', hK', kv, ka, kb, kc⟩ := hAr f hf
    have ek : k' = k := (nI_eq (by omega) (by omega)).mp (hK'.symm.trans hK)
    subst ek
    obtain ⟨b, hb, hBb⟩ := kb k4
    by_cases z4 : k' = 4
    · have hK4 : K (nI f).toNatClampNeg = 4 := hKf.trans (congrArg nI (z4))
      have hH0 : FH t = 0 := hH.resolve_right (fun q => absurd q.2 (by omega))
      have hpo := lk_po_0 hH0
      rcases V with ⟨v0, v9⟩ | ⟨v1, w, p, hw, hKw, vw, hp, vp, v9⟩
      · subst v0 v9
        refine ⟨5, _, _, ?_, lx_sR hs1 ht (fun post hp => lr_nf ht hN hF hin hK4 hp) (lx_end (by omega)), ly_nf hs1 ht hN hF hin hK4 rfl⟩
        exact lk_R_stop hB (by decide) rfl rfl rfl
      · subst v1 vw vp v9
        obtain ⟨kw, kw12, hKw', -, kwa, -, -⟩ := hAr w hw
        have ekw : kw = 2 := (nI_eq (by omega) (by omega)).mp (hKw'.symm.trans hKw)
        obtain ⟨a, ha, hAa⟩ := kwa (by omega)
        have qw : (nI w).toNatClampNeg = w := nI_clamp (by omega)
        have iw : vp_in (nI w) 32 := vp_in_nI (by omega) (by decide)
        have hAw : A (nI w).toNatClampNeg = nI a := by rw [qw]; exact hAa
        have i8 : vp_in (3 * nI w) 96 := by rw [lk_3]; exact vp_in_nI (by omega) (by decide)
        have q8 : (3 * nI w).toNatClampNeg = 3 * w := by rw [lk_3]; exact nI_clamp (by omega)
        have hPw : P (3 * nI w).toNatClampNeg = nI a := by rw [q8, (hPt w).1]; exact hAa
        have hX := lk_En_ext hEn (by omega) hb he hp
        have hB2 : lk_B cl lm sz al c K A B C P (upd LN (g + 1) (LN p + 1)) := ⟨b1, b2, b3, b4, b5, b6, b7, hAr, hPt, hX.2.2.1⟩
        obtain ⟨r, u', v', hR, wx, wy⟩ := h0 cl lm sz al (s + 1) c (g + 1) t a (g + 1) oc rs hE 1 (nI w) (nI p) oy ry hY 1 (nI w) (nI p) K A B C P (upd BN (g + 1) (nI b)) (upd BE (g + 1) (nI e)) (upd NX (g + 1) (nI p)) (upd LN (g + 1) (LN p + 1)) (upd bn (g + 1) (nI b)) (upd be (g + 1) (nI e)) (upd nx (g + 1) (nI p)) FN FE FL FH
          ⟨hB2, by omega, hX, lk_Ag_ext hAg _ _ _, lk_Fr_mono hFt (by omega) (Nat.le_refl _)⟩ ha (by omega) (by omega) (by omega)
        exact ⟨r, u', v', hR, lx_sR hs1 ht (fun post hp' => lr_ap ht hN hF hin hK4 (by omega) (by omega) iw hAw (hBB.trans hBb) hp') wx,
          ly_ap hs1 ht hN hF hin hK4 hH0 (by omega) i1 (hPB.trans hBb) i8 hPw wy⟩
    · have n4 : ¬ K (nI f).toNatClampNeg = 4 := by rw [hKf]; exact lk_ne (b := 4) z4 (by omega) (by omega)
      have k4n : ¬ nI k' = 4 := lk_ne (b := 4) z4 (by omega) (by omega)
      rcases V with ⟨v0, v9⟩ | ⟨v1, w, p, hw, hKw, vw, hp, vp, v9⟩
      · subst v0 v9
        by_cases z5 : k' = 5
        · have hK5 : K (nI f).toNatClampNeg = 5 := hKf.trans (congrArg nI (z5))
          have hH0 : FH t = 0 := hH.resolve_right (fun q => absurd q.2 (by omega))
          have hpo := lk_po_0 hH0
          obtain ⟨cc, hcc, hCc⟩ := kc z5
          by_cases zv : vl = 0
          · obtain ⟨r, u', v', hR, wx, wy⟩ := h0 cl lm sz al (s + 1) c g t cc e oc rs hE 0 vl ve oy ry hY 0 vl 0 K A B C P BN BE NX LN bn be nx FN FE FL FH ⟨hB, by omega, hEn, hAg, hFt⟩ hcc he (by omega) (by omega)
            exact ⟨r, u', v', hR, lx_sR hs1 ht (fun post hp' => lr_b0 ht hN hF hin n4 hK5 zv (hCC.trans hCc) hp') wx, ly_b0 hs1 ht hN hF hin hK5 hH0 zv i2 (hPC.trans hCc) wy⟩
          · obtain ⟨r, u', v', hR, wx, wy⟩ := h0 cl lm sz al (s + 1) c g t b e oc rs hE 0 vl ve oy ry hY 0 vl 0 K A B C P BN BE NX LN bn be nx FN FE FL FH ⟨hB, by omega, hEn, hAg, hFt⟩ hb he (by omega) (by omega)
            exact ⟨r, u', v', hR, lx_sR hs1 ht (fun post hp' => lr_b1 ht hN hF hin n4 hK5 zv (hBB.trans hBb) hp') wx, ly_b1 hs1 ht hN hF hin hK5 hH0 zv i1 (hPB.trans hBb) wy⟩
        · have n5 : ¬ K (nI f).toNatClampNeg = 5 := by rw [hKf]; exact lk_ne (b := 5) z5 (by omega) (by omega)
          have k5n : ¬ nI k' = 5 := lk_ne (b := 5) z5 (by omega) (by omega)
          have h6 : 6 ≤ k' := by omega
          rcases hH with hH0 | ⟨hH1, -⟩
          · have hpo := lk_po_0 hH0
            have hpl := lk_po_left (FH := FH) (d := t)
            obtain ⟨r, u', v', hR, wx, wy⟩ := h0 cl lm sz al (s + 1) c g (t + 1) b e oc rs hE 0 vl ve oy ry hY 0 vl 0 K A B C P BN BE NX LN bn be nx FN FE (upd FL t vl) (upd FH t 1) ⟨hB, by omega, hEn, hAg, lk_Fr_left hFt hf he h6 k12 hN hF hK⟩ hb he (by omega) (by omega)
            exact ⟨r, u', v', hR, lx_sR hs1 ht (fun post hp' => lr_lf ht hN hF hin n4 n5 hH0 (hBB.trans hBb) hp') wx, ly_lf hs1 ht hN hF hin hKf hH0 k4n k5n i1 (hPB.trans hBb) wy⟩
          · have hpo := lk_po_1 hH1
            by_cases zd : k' = 9 ∧ vl = 0
            · have hK9 : K (nI f).toNatClampNeg = 9 := hKf.trans (congrArg nI (zd.1))
              refine ⟨7, _, _, ?_, lx_sR hs1 ht (fun post hp' => lr_op ht hN hF hin n4 n5 hH1 rfl (fun Q hQ => lo_zd hin hK9 zd.2 hQ) hp') (lx_end (by omega)), ly_zd hs1 ht hN hF hin hK9 hH1 zd.2⟩
              exact lk_R_stop hB (by decide) rfl rfl rfl
            · have hr : k' = 9 → ¬ vl = 0 := fun q1 q2 => zd ⟨q1, q2⟩
              obtain ⟨r, u', v', hR, wx, wy⟩ := h1 cl lm sz al (s + 1) c g t oc rs hE fn fe 0 (lk_op k' (FL t) vl) ve oy ry hY x3 (nI e) 0 K A B C P BN BE NX LN bn be nx FN FE FL FH ⟨hB, by omega, hEn, hAg, hFt⟩ (Or.inl ⟨rfl, rfl⟩) (by omega) (by omega)
              exact ⟨r, u', v', hR, lx_sR hs1 ht (fun post hp' => lr_op ht hN hF hin n4 n5 hH1 rfl (fun Q hQ => lo_op h6 k12 hin hKf hr hQ) hp') wx,
                ly_op hs1 ht hN hF hin hKf hH1 k4n (fun q => hr ((nI_eq (b := 9) (by omega) (by omega)).mp q)) rfl (fun Q hQ => ly_opr h6 k12 hr hQ) wy⟩
      · subst v1 vw vp v9
        refine ⟨6, _, _, ?_, lx_sR hs1 ht (fun post hp' => lr_ni ht hN hF hin n4 hp') (lx_end (by omega)), ly_ni hs1 ht hN hF hin hKf rfl k4n⟩
        exact lk_R_stop hB (by decide) rfl rfl rfl
theorem lk_T : ∀ m : Nat, lk_T0 m ∧ lk_T1 m := by
  intro m
  induction m with
  | zero => exact ⟨by intro cl lm sz al s c g d n e oc rs hE vf vl ve oy ry hY x7 x8 x9 K A B C P BN BE NX LN bn be nx FN FE FL FH I hn he hm hs; omega, by intro cl lm sz al s c g d oc rs hE fn fe vf vl ve oy ry hY x3 x4 x9 K A B C P BN BE NX LN bn be nx FN FE FL FH I V hm hs; omega⟩
  | succ m ih => exact ⟨lk_T0s ih.1 ih.2, lk_T1s ih.1 ih.2⟩
/-- an evaluation asked for by a call -/
theorem lk_go {cl lm sz al c g n e : Nat} {oc rs hE fr ph fn fe vf vl ve oy ry hY ch eX eY pn pe : Int32} {K A B C P BN BE NX LN bn be nx FN FE FL FH : Nat → Int32}
    (hB : lk_B cl lm sz al c K A B C P LN) (hg : g ≤ c) (hEn : lk_En sz (g + 1) BN BE NX LN) (hAg : lk_Ag (g + 1) BN BE NX bn be nx) (hn : n < sz) (he : e < g + 1)
    (e1 : ch = nI c) (e2 : eX = nI (g + 1)) (e3 : eY = nI g) (e4 : pn = nI n) (e5 : pe = nI e) :
    ∃ (r : Int32) (u' : SX) (v' : SY), lk_R r u' v' ∧
      (∀ post : SX → Prop, post u' → wpX_evaluate post (nI cl, nI lm, nI sz, oc, rs, ch, nI al, hE, eX, fr, ph, fn, fe, vf, vl, ve, K, A, B, C, BN, BE, NX, LN, FN, FE, FL, FH) pn pe) ∧
      (∀ post : Int32 → SY → Prop, post r v' → wpY_evaluate post (nI cl, nI lm, nI sz, oy, ry, hY, ch, nI al, eY, K, P, bn, be, nx, FN, FE, FL, FH) pn pe) := by
  subst e1 e2 e3 e4 e5
  have b5 := hB.2.2.2.2.1
  have b6 := hB.2.2.2.2.2.1
  obtain ⟨r, u', v', hR, wx, wy⟩ := (lk_T 721).1 cl lm sz al 0 c g 0 n e oc rs hE vf vl ve oy ry hY 0 0 0 K A B C P BN BE NX LN bn be nx FN FE FL FH ⟨hB, by omega, hEn, hAg, fun j hj => absurd hj (Nat.not_lt_zero j)⟩ hn he (show 3 * (al - c) + 0 < 721 by omega) (by omega)
  refine ⟨r, u', v', hR, fun post hp => ?_, fun post hp => ?_⟩
  · have w := wx post hp 722 (Nat.le_refl _)
    rw [nI_0] at w
    unfold wpX_evaluate
    exact ⟨722, w⟩
  · have w := wy post hp 721 (Nat.le_refl _)
    rw [nI_0] at w
    unfold wpY_evaluate
    exact ⟨721, w⟩
end
section
/-! ===== the constructor, the arena's methods ===== -/
theorem lk_clamp (x : Int32) {lo hi : Nat} {L H : Int32} (hl : L = nI lo) (hh : H = nI hi) (h : lo ≤ hi) (h31 : hi < 2 ^ 31) :
    ∃ a : Nat, lo ≤ a ∧ a ≤ hi ∧ (∀ post : Int32 → Prop, post (nI a) → wpX_clamped post x L H) ∧
      (∀ (post : Int32 → Prop) (cl lm sz oc rs hY ch al en : Int32) (K P bn be nx FN FE FL FH : Nat → Int32), post (nI a) → wpY_clamp post (cl, lm, sz, oc, rs, hY, ch, al, en, K, P, bn, be, nx, FN, FE, FL, FH) x L H) := by
  subst hl hh
  by_cases c : nI lo ≤ x
  · have x0 : ¬ x < 0 := by
      intro q
      have := nI_pos' (n := lo) (by omega)
      exact absurd (Int32.lt_of_le_of_lt (Int32.le_trans this c) q) Int32.lt_irrefl
    obtain ⟨j, hj, rfl⟩ := nI_of x0
    have lj : lo ≤ j := (nI_leI (by omega) hj).mp c
    by_cases c2 : nI j ≤ nI hi
    · have jh : j ≤ hi := (nI_leI hj h31).mp c2
      exact ⟨j, lj, jh, fun post hp => br_t c (br_t c2 hp), fun post cl lm sz oc rs hY ch al en K P bn be nx FN FE FL FH hp => br_t c (br_t c2 hp)⟩
    · exact ⟨hi, h, Nat.le_refl _, fun post hp => br_t c (br_f c2 hp), fun post cl lm sz oc rs hY ch al en K P bn be nx FN FE FL FH hp => br_t c (br_f c2 hp)⟩
  · exact ⟨lo, Nat.le_refl _, h, fun post hp => br_f c hp, fun post cl lm sz oc rs hY ch al en K P bn be nx FN FE FL FH hp => br_f c hp⟩
theorem lk_Ar0 (K A B C : Nat → Int32) : lk_Ar 0 K A B C := fun n hn => absurd hn (Nat.not_lt_zero n)
theorem i_vc0 (k0 : Int32) (k1 : Int32) : wpX_init (fun u => wpY_init (fun v => i_Rel 2 u v) k0 k1) k0 k1 := by
  obtain ⟨a, a1, a2, ax, ay⟩ := lk_clamp k0 (L := 8) (H := 32) (lo := 8) (hi := 32) (by decide) (by decide) (by decide) (by decide)
  obtain ⟨b, b1, b2, bx, bw⟩ := lk_clamp k1 (L := 16) (H := 240) (lo := 16) (hi := 240) (by decide) (by decide) (by decide) (by decide)
  have hB : lk_B a b 0 0 0 (fun _ => 0) (fun _ => 0) (fun _ => 0) (fun _ => 0) (fun _ => 0) (fun _ => 0) :=
    ⟨by omega, a1, a2, b1, b2, by omega, by omega, lk_Ar0 _ _ _ _, fun n => ⟨rfl, rfl, rfl⟩, rfl⟩
  unfold wpX_init
  refine ax _ (bx _ ?_)
  unfold wpX_resetSession
  show wpY_init _ k0 k1
  unfold wpY_init
  refine ay _ _ _ _ _ _ _ _ _ _ _ _ _ _ _ _ _ _ _ (bw _ _ _ _ _ _ _ _ _ _ _ _ _ _ _ _ _ _ _ ?_)
  exact ⟨0, lk_R_stop hB (by decide) (by decide) (by decide) (by decide)⟩
theorem i_vc_size {k : Nat} {u : SX} {v : SY} (I : i_Rel k u v) (hk : k + 5 ≤ 2562) : wpX_size (fun r => wpY_size (fun r' => r' = r ∧ i_Rel (k + 5) u v) v) u := by
  have J := i_up I
  obtain ⟨r, cl, lm, sz, al, c, rs, hE, hY, eX, eY, fr, ph, fn, fe, vf, vl, ve, K, A, B, C, BN, BE, NX, LN, P, bn, be, nx, FN, FE, FL, FH, rfl, rfl, -⟩ := I
  exact ⟨rfl, J⟩
theorem i_vc_outcome {k : Nat} {u : SX} {v : SY} (I : i_Rel k u v) (hk : k + 5 ≤ 2562) : wpX_outcome (fun r => wpY_outcome (fun r' => r' = r ∧ i_Rel (k + 5) u v) v) u := by
  have J := i_up I
  obtain ⟨r, cl, lm, sz, al, c, rs, hE, hY, eX, eY, fr, ph, fn, fe, vf, vl, ve, K, A, B, C, BN, BE, NX, LN, P, bn, be, nx, FN, FE, FL, FH, rfl, rfl, -⟩ := I
  exact ⟨rfl, J⟩
theorem i_vc_result {k : Nat} {u : SX} {v : SY} (I : i_Rel k u v) (hk : k + 5 ≤ 2562) : wpX_result (fun r => wpY_result (fun r' => r' = r ∧ i_Rel (k + 5) u v) v) u := by
  have J := i_up I
  obtain ⟨r, cl, lm, sz, al, c, rs, hE, hY, eX, eY, fr, ph, fn, fe, vf, vl, ve, K, A, B, C, BN, BE, NX, LN, P, bn, be, nx, FN, FE, FL, FH, rfl, rfl, -⟩ := I
  exact ⟨rfl, J⟩
theorem i_vc_charge {k : Nat} {u : SX} {v : SY} (I : i_Rel k u v) (hk : k + 5 ≤ 2562) : wpX_charge (fun r => wpY_charge (fun r' => r' = r ∧ i_Rel (k + 5) u v) v) u := by
  have J := i_up I
  obtain ⟨r, cl, lm, sz, al, c, rs, hE, hY, eX, eY, fr, ph, fn, fe, vf, vl, ve, K, A, B, C, BN, BE, NX, LN, P, bn, be, nx, FN, FE, FL, FH, rfl, rfl, -⟩ := I
  exact ⟨rfl, J⟩
theorem i_vc_allowance {k : Nat} {u : SX} {v : SY} (I : i_Rel k u v) (hk : k + 5 ≤ 2562) : wpX_allowance (fun r => wpY_allowance (fun r' => r' = r ∧ i_Rel (k + 5) u v) v) u := by
  have J := i_up I
  obtain ⟨r, cl, lm, sz, al, c, rs, hE, hY, eX, eY, fr, ph, fn, fe, vf, vl, ve, K, A, B, C, BN, BE, NX, LN, P, bn, be, nx, FN, FE, FL, FH, rfl, rfl, -⟩ := I
  exact ⟨rfl, J⟩
theorem i_vc_clear {k : Nat} {u : SX} {v : SY} (I : i_Rel k u v) (hk : k + 5 ≤ 2562) : wpX_clear (fun u' => wpY_clear (fun v' => i_Rel (k + 5) u' v') v) u := by
  obtain ⟨r, cl, lm, sz, al, c, rs, hE, hY, eX, eY, fr, ph, fn, fe, vf, vl, ve, K, A, B, C, BN, BE, NX, LN, P, bn, be, nx, FN, FE, FL, FH, rfl, rfl, hB, -⟩ := I
  obtain ⟨b1, b2, b3, b4, b5, b6, b7, hAr, hPt, hL0⟩ := hB
  have hB : lk_B cl lm 0 0 0 K A B C P LN := ⟨by omega, b2, b3, b4, b5, by omega, by omega, lk_Ar0 _ _ _ _, hPt, hL0⟩
  unfold wpX_clear wpX_resetSession
  show wpY_clear _ _
  unfold wpY_clear wpY_finish
  exact ⟨0, lk_R_stop hB (by decide) (by decide) (by decide) (by decide)⟩
/-- a node exists, or not -/
theorem lk_exi (x : Int32) {sz : Nat} (h : sz < 2 ^ 31) : (x < 0 ∨ nI sz ≤ x) ∨ ∃ j : Nat, j < sz ∧ x = nI j := by
  rcases pk_ix x h with q | q | q
  · exact Or.inl (Or.inl q)
  · exact Or.inl (Or.inr q)
  · exact Or.inr q
theorem i_vc_kind {k : Nat} {u : SX} {v : SY} (I : i_Rel k u v) (hk : k + 5 ≤ 2562) (v1 : Int32) : wpX_kind (fun r => wpY_kind (fun r' => r' = r ∧ i_Rel (k + 5) u v) v v1) u v1 := by
  have J := i_up I
  obtain ⟨r, cl, lm, sz, al, c, rs, hE, hY, eX, eY, fr, ph, fn, fe, vf, vl, ve, K, A, B, C, BN, BE, NX, LN, P, bn, be, nx, FN, FE, FL, FH, rfl, rfl, hB, -⟩ := I
  obtain ⟨b1, b2, b3, b4, b5, b6, b7, hAr, hPt, hL0⟩ := hB
  unfold wpX_kind
  rcases lk_exi v1 (sz := sz) (by omega) with q | ⟨j, hj, rfl⟩
  · refine lx_ex0 q (br_t rfl ?_)
    unfold wpY_kind
    exact ly_ex0 q (br_t rfl ⟨rfl, J⟩)
  · have i1 : vp_in (nI j) 32 := vp_in_nI (by omega) (by decide)
    refine lx_ex1 hj (by omega) (br_f (by decide) ⟨i1, ?_⟩)
    unfold wpY_kind
    exact ly_ex1 hj (by omega) (br_f (by decide) ⟨i1, rfl, J⟩)
theorem i_vc_part {k : Nat} {u : SX} {v : SY} (I : i_Rel k u v) (hk : k + 5 ≤ 2562) (v1 : Int32) (v2 : Int32) : wpX_part (fun r => wpY_part (fun r' => r' = r ∧ i_Rel (k + 5) u v) v v1 v2) u v1 v2 := by
  have J := i_up I
  obtain ⟨r, cl, lm, sz, al, c, rs, hE, hY, eX, eY, fr, ph, fn, fe, vf, vl, ve, K, A, B, C, BN, BE, NX, LN, P, bn, be, nx, FN, FE, FL, FH, rfl, rfl, hB, -⟩ := I
  obtain ⟨b1, b2, b3, b4, b5, b6, b7, hAr, hPt, hL0⟩ := hB
  unfold wpX_part
  rcases lk_exi v1 (sz := sz) (by omega) with q | ⟨j, hj, rfl⟩
  · refine lx_ex0 q (br_t rfl ?_)
    unfold wpY_part
    exact ly_ex0 q (br_t rfl ⟨rfl, J⟩)
  · have i1 : vp_in (nI j) 32 := vp_in_nI (by omega) (by decide)
    have qj : (nI j).toNatClampNeg = j := nI_clamp (by omega)
    refine lx_ex1 hj (by omega) (br_f (by decide) ?_)
    by_cases c0 : v2 < 0
    · refine br_t c0 ?_
      unfold wpY_part
      exact ly_ex1 hj (by omega) (br_f (by decide) (br_t c0 ⟨rfl, J⟩))
    · refine br_f c0 ?_
      by_cases c2 : 2 < v2
      · refine br_t c2 ?_
        unfold wpY_part
        exact ly_ex1 hj (by omega) (br_f (by decide) (br_f c0 (br_t c2 ⟨rfl, J⟩)))
      · refine br_f c2 ?_
        obtain ⟨w, hw, rfl⟩ := nI_of2 (x := v2) (M := 2) (n := 2) (by decide) c0 (Int32.not_lt.mp c2)
        have a3 : 3 * nI j + nI w = nI (3 * j + w) := by rw [lk_3, nI_add]
        have i3 : vp_in (3 * nI j + nI w) 96 := by rw [a3]; exact vp_in_nI (by omega) (by decide)
        have q3 : (3 * nI j + nI w).toNatClampNeg = 3 * j + w := by rw [a3]; exact nI_clamp (by omega)
        rcases (show w = 0 ∨ w = 1 ∨ w = 2 by omega) with z | z | z
        · subst z
          refine br_t nI_0 ⟨i1, ?_⟩
          unfold wpY_part
          refine ly_ex1 hj (by omega) (br_f (by decide) (br_f c0 (br_f c2 ⟨i3, ?_, J⟩)))
          rw [q3, qj]; exact (hPt j).1
        · subst z
          refine br_f (by decide) (br_t rfl ⟨i1, ?_⟩)
          unfold wpY_part
          refine ly_ex1 hj (by omega) (br_f (by decide) (br_f c0 (br_f c2 ⟨i3, ?_, J⟩)))
          rw [q3, qj]; exact (hPt j).2.1
        · subst z
          refine br_f (by decide) (br_f (by decide) (br_t rfl ⟨i1, ?_⟩))
          unfold wpY_part
          refine ly_ex1 hj (by omega) (br_f (by decide) (br_f c0 (br_f c2 ⟨i3, ?_, J⟩)))
          rw [q3, qj]; exact (hPt j).2.2
end
section
/-! ===== making a node ===== -/
theorem lx_ch0 {post : Int32 → Prop} {k : Nat} (h : k < 2) (hp : post 0) : wpX_childrenOf post (nI k) := by
  rcases (show k = 0 ∨ k = 1 by omega) with rfl | rfl
  · exact (br_f (by decide) (br_f (by decide) (br_t rfl hp)) : wpX_childrenOf post 0)
  · exact (br_f (by decide) (br_f (by decide) (br_f (by decide) (br_t rfl hp))) : wpX_childrenOf post 1)
theorem lx_ch1 {post : Int32 → Prop} {k : Nat} (h2 : 2 ≤ k) (h : k < 4) (hp : post 1) : wpX_childrenOf post (nI k) := by
  rcases (show k = 2 ∨ k = 3 by omega) with rfl | rfl
  · exact (br_f (by decide) (br_f (by decide) (br_f (by decide) (br_f (by decide) (br_t rfl hp)))) : wpX_childrenOf post 2)
  · exact (br_f (by decide) (br_f (by decide) (br_f (by decide) (br_f (by decide) (br_f (by decide) (br_t rfl hp))))) : wpX_childrenOf post 3)
theorem lx_ch3 {post : Int32 → Prop} (hp : post 3) : wpX_childrenOf post 5 :=
  br_f (by decide) (br_f (by decide) (br_f (by decide) (br_f (by decide) (br_f (by decide) (br_f (by decide) (br_f (by decide) (br_t rfl hp)))))))
theorem lx_ch2 {post : Int32 → Prop} {k : Nat} (h4 : 4 ≤ k) (h5 : k ≠ 5) (h : k < 12) (hp : post 2) : wpX_childrenOf post (nI k) := by
  by_cases z : k = 4
  · subst z
    exact (br_f (by decide) (br_f (by decide) (br_f (by decide) (br_f (by decide) (br_f (by decide) (br_f (by decide) (br_t rfl hp)))))) : wpX_childrenOf post 4)
  · exact br_f (nI_pos (by omega)) (br_t (nI_lt (a := 5) (by omega) (by omega)) hp)
section
variable {cl lm sz oc rs ch al hE en fr ph fn fe vf vl ve : Int32} {K A B C BN BE NX LN FN FE FL FH : Nat → Int32}
theorem lx_store {post : Int32 → SX → Prop} {n : Nat} {k a b c b' c' x5 : Int32} (hn : n < 32) (hb : (x5 < 2 ∧ b' = 0) ∨ (¬ x5 < 2 ∧ b' = b)) (hc : (x5 < 3 ∧ c' = 0) ∨ (¬ x5 < 3 ∧ c' = c))
    (hp : post (nI n) (cl, lm, nI (n + 1), oc, rs, ch, al, hE, en, fr, ph, fn, fe, vf, vl, ve, upd K n k, upd A n a, upd B n b', upd C n c', BN, BE, NX, LN, FN, FE, FL, FH)) : wX_add_91 post k a b c x5 cl lm (nI n) oc rs ch al hE en fr ph fn fe vf vl ve K A B C BN BE NX LN FN FE FL FH := by
  have i1 : vp_in (nI n) 32 := vp_in_nI hn (by decide)
  have e1 : (nI n).toNatClampNeg = n := nI_clamp (by omega)
  have f1 : upd K (nI n).toNatClampNeg k = upd K n k := by rw [e1]
  have f2 : upd A (nI n).toNatClampNeg a = upd A n a := by rw [e1]
  have f3 : upd B (nI n).toNatClampNeg b' = upd B n b' := by rw [e1]
  have f4 : upd C (nI n).toNatClampNeg c' = upd C n c' := by rw [e1]
  rcases hb with ⟨hb, rfl⟩ | ⟨hb, rfl⟩
  · rcases hc with ⟨hc, rfl⟩ | ⟨hc, rfl⟩
    · exact ⟨i1, nm_r f1 ⟨i1, nm_r f2 (br_t hb ⟨i1, nm_r f3 (br_t hc ⟨i1, nm_r f4 (nm_r (nI_1 n) hp)⟩)⟩)⟩⟩
    · exact ⟨i1, nm_r f1 ⟨i1, nm_r f2 (br_t hb ⟨i1, nm_r f3 (br_f hc ⟨i1, nm_r f4 (nm_r (nI_1 n) hp)⟩)⟩)⟩⟩
  · rcases hc with ⟨hc, rfl⟩ | ⟨hc, rfl⟩
    · exact ⟨i1, nm_r f1 ⟨i1, nm_r f2 (br_f hb ⟨i1, nm_r f3 (br_t hc ⟨i1, nm_r f4 (nm_r (nI_1 n) hp)⟩)⟩)⟩⟩
    · exact ⟨i1, nm_r f1 ⟨i1, nm_r f2 (br_f hb ⟨i1, nm_r f3 (br_f hc ⟨i1, nm_r f4 (nm_r (nI_1 n) hp)⟩)⟩)⟩⟩
end
section
variable {cl lm sz oc rs hY ch al en : Int32} {K P bn be nx FN FE FL FH : Nat → Int32}
theorem ly_store {post : Int32 → SY → Prop} {n : Nat} {k a b c b' c' : Int32} (hn : n < 32) (hb : (k < 4 ∧ b' = 0) ∨ (¬ k < 4 ∧ b' = b)) (hc : (k = 5 ∧ c' = c) ∨ (¬ k = 5 ∧ c' = 0))
    (hp : post (nI n) (cl, lm, nI (n + 1), oc, rs, hY, ch, al, en, upd K n k, upd (upd (upd P (3 * n) a) (3 * n + 1) b') (3 * n + 2) c', bn, be, nx, FN, FE, FL, FH)) : wY_add_86 post k a b c cl lm (nI n) oc rs hY ch al en K P bn be nx FN FE FL FH := by
  have i1 : vp_in (nI n) 32 := vp_in_nI hn (by decide)
  have i3 : vp_in (3 * nI n) 96 := by rw [lk_3]; exact vp_in_nI (by omega) (by decide)
  have i4 : vp_in (3 * nI n + 1) 96 := by rw [lk_31]; exact vp_in_nI (by omega) (by decide)
  have i5 : vp_in (3 * nI n + 2) 96 := by rw [lk_32]; exact vp_in_nI (by omega) (by decide)
  have e1 : (nI n).toNatClampNeg = n := nI_clamp (by omega)
  have e3 : (3 * nI n).toNatClampNeg = 3 * n := by rw [lk_3]; exact nI_clamp (by omega)
  have e4 : (3 * nI n + 1).toNatClampNeg = 3 * n + 1 := by rw [lk_31]; exact nI_clamp (by omega)
  have e5 : (3 * nI n + 2).toNatClampNeg = 3 * n + 2 := by rw [lk_32]; exact nI_clamp (by omega)
  have f1 : upd K (nI n).toNatClampNeg k = upd K n k := by rw [e1]
  have f2 : upd P (3 * nI n).toNatClampNeg a = upd P (3 * n) a := by rw [e3]
  have f3 : upd (upd P (3 * n) a) (3 * nI n + 1).toNatClampNeg b' = upd (upd P (3 * n) a) (3 * n + 1) b' := by rw [e4]
  have f4 : upd (upd (upd P (3 * n) a) (3 * n + 1) b') (3 * nI n + 2).toNatClampNeg c' = upd (upd (upd P (3 * n) a) (3 * n + 1) b') (3 * n + 2) c' := by rw [e5]
  have hp' : post (nI (n + 1) - 1) (cl, lm, nI (n + 1), oc, rs, hY, ch, al, en, upd K n k, upd (upd (upd P (3 * n) a) (3 * n + 1) b') (3 * n + 2) c', bn, be, nx, FN, FE, FL, FH) := by
    rw [nI_pred]; exact hp
  rcases hb with ⟨hb, rfl⟩ | ⟨hb, rfl⟩
  · rcases hc with ⟨hc, rfl⟩ | ⟨hc, rfl⟩
    · exact ⟨i1, nm_r f1 ⟨i3, nm_r f2 (br_t hb ⟨i4, nm_r f3 (br_t hc ⟨i5, nm_r f4 (nm_r (nI_1 n) hp')⟩)⟩)⟩⟩
    · exact ⟨i1, nm_r f1 ⟨i3, nm_r f2 (br_t hb ⟨i4, nm_r f3 (br_f hc ⟨i5, nm_r f4 (nm_r (nI_1 n) hp')⟩)⟩)⟩⟩
  · rcases hc with ⟨hc, rfl⟩ | ⟨hc, rfl⟩
    · exact ⟨i1, nm_r f1 ⟨i3, nm_r f2 (br_f hb ⟨i4, nm_r f3 (br_t hc ⟨i5, nm_r f4 (nm_r (nI_1 n) hp')⟩)⟩)⟩⟩
    · exact ⟨i1, nm_r f1 ⟨i3, nm_r f2 (br_f hb ⟨i4, nm_r f3 (br_f hc ⟨i5, nm_r f4 (nm_r (nI_1 n) hp')⟩)⟩)⟩⟩
end
/-- the rest of add: both refuse, or both make the node -/
def lk_AD (n k : Nat) (a b c : Int32) (cl lm sz oc rs ch al hE en fr ph fn fe vf vl ve : Int32) (K A B C BN BE NX LN FN FE FL FH : Nat → Int32) (eY hY : Int32) (P bn be nx : Nat → Int32) : Prop :=
  ((∀ post : Int32 → SX → Prop, post (-1) (cl, lm, nI n, oc, rs, ch, al, hE, en, fr, ph, fn, fe, vf, vl, ve, K, A, B, C, BN, BE, NX, LN, FN, FE, FL, FH) → wX_add_40 post (nI k) a b c cl lm (nI n) oc rs ch al hE en fr ph fn fe vf vl ve K A B C BN BE NX LN FN FE FL FH) ∧
    (∀ post : Int32 → SY → Prop, post (-1) (cl, lm, nI n, oc, rs, hY, ch, al, eY, K, P, bn, be, nx, FN, FE, FL, FH) → wY_add_40 post (nI k) a b c cl lm (nI n) oc rs hY ch al eY K P bn be nx FN FE FL FH)) ∨
  ∃ b' c' : Int32, (2 ≤ k → ∃ j : Nat, j < n ∧ a = nI j) ∧ (4 ≤ k → ∃ j : Nat, j < n ∧ b' = nI j) ∧ (k = 5 → ∃ j : Nat, j < n ∧ c' = nI j) ∧
    (∀ post : Int32 → SX → Prop, post (nI n) (cl, lm, nI (n + 1), oc, rs, ch, al, hE, en, fr, ph, fn, fe, vf, vl, ve, upd K n (nI k), upd A n a, upd B n b', upd C n c', BN, BE, NX, LN, FN, FE, FL, FH) → wX_add_40 post (nI k) a b c cl lm (nI n) oc rs ch al hE en fr ph fn fe vf vl ve K A B C BN BE NX LN FN FE FL FH) ∧
    (∀ post : Int32 → SY → Prop, post (nI n) (cl, lm, nI (n + 1), oc, rs, hY, ch, al, eY, upd K n (nI k), upd (upd (upd P (3 * n) a) (3 * n + 1) b') (3 * n + 2) c', bn, be, nx, FN, FE, FL, FH) → wY_add_40 post (nI k) a b c cl lm (nI n) oc rs hY ch al eY K P bn be nx FN FE FL FH)
section
variable {cl lm sz oc rs ch al hE en fr ph fn fe vf vl ve : Int32} {K A B C BN BE NX LN FN FE FL FH : Nat → Int32}
variable {eY hY : Int32} {P bn be nx : Nat → Int32}
theorem lk_add {n k : Nat} {a b c : Int32} (hn : n < 32) (hk : k < 12) : lk_AD n k a b c cl lm (nI n) oc rs ch al hE en fr ph fn fe vf vl ve K A B C BN BE NX LN FN FE FL FH eY hY P bn be nx := by
  unfold lk_AD
  have n31 : n < 2 ^ 31 := by omega
  by_cases k2 : k < 2
  · have q2 : nI k < 2 := nI_lt (b := 2) k2 (by decide)
    have q4 : nI k < 4 := nI_lt (b := 4) (by omega) (by decide)
    have q5 : ¬ nI k = 5 := lk_ne (b := 5) (by omega) (by omega) (by omega)
    refine Or.inr ⟨0, 0, fun z => absurd z (by omega), fun z => absurd z (by omega), fun z => absurd z (by omega), fun post hp => ?_, fun post hp => ?_⟩
    · unfold wX_add_40
      exact lx_ch0 k2 (br_t (by decide) (br_t (by decide) (br_t (by decide) (lx_store hn (Or.inl ⟨by decide, rfl⟩) (Or.inl ⟨by decide, rfl⟩) hp))))
    · exact br_t q2 (br_t q4 (br_f q5 (ly_store hn (Or.inl ⟨q4, rfl⟩) (Or.inr ⟨q5, rfl⟩) hp)))
  · have q2 : ¬ nI k < 2 := nI_nlt (b := 2) (by omega) (by omega)
    by_cases k4 : k < 4
    · have q4 : nI k < 4 := nI_lt (b := 4) k4 (by decide)
      have q5 : ¬ nI k = 5 := lk_ne (b := 5) (by omega) (by omega) (by omega)
      rcases lk_exi a n31 with ea | ⟨j, hj, rfl⟩
      · refine Or.inl ⟨fun post hp => ?_, fun post hp => ?_⟩
        · unfold wX_add_40
          exact lx_ch1 (by omega) k4 (br_f (by decide) (lx_ex0 ea (br_t rfl hp)))
        · exact br_f q2 (ly_ex0 ea (br_t rfl hp))
      · refine Or.inr ⟨0, 0, fun z => ⟨j, hj, rfl⟩, fun z => absurd z (by omega), fun z => absurd z (by omega), fun post hp => ?_, fun post hp => ?_⟩
        · unfold wX_add_40
          exact lx_ch1 (by omega) k4 (br_f (by decide) (lx_ex1 hj n31 (br_f (by decide) (br_t (by decide) (br_t (by decide) (lx_store hn (Or.inl ⟨by decide, rfl⟩) (Or.inl ⟨by decide, rfl⟩) hp))))))
        · exact br_f q2 (ly_ex1 hj n31 (br_f (by decide) (br_t q4 (br_f q5 (ly_store hn (Or.inl ⟨q4, rfl⟩) (Or.inr ⟨q5, rfl⟩) hp)))))
    · have q4 : ¬ nI k < 4 := nI_nlt (b := 4) (by omega) (by omega)
      by_cases k5 : k = 5
      · subst k5
        rcases lk_exi a n31 with ea | ⟨j, hj, rfl⟩
        · refine Or.inl ⟨fun post hp => ?_, fun post hp => ?_⟩
          · unfold wX_add_40
            exact lx_ch3 (br_f (by decide) (lx_ex0 ea (br_t rfl hp)))
          · exact br_f q2 (ly_ex0 ea (br_t rfl hp))
        · rcases lk_exi b n31 with eb | ⟨jb, hjb, rfl⟩
          · refine Or.inl ⟨fun post hp => ?_, fun post hp => ?_⟩
            · unfold wX_add_40
              exact lx_ch3 (br_f (by decide) (lx_ex1 hj n31 (br_f (by decide) (br_f (by decide) (lx_ex0 eb (br_t rfl hp))))))
            · exact br_f q2 (ly_ex1 hj n31 (br_f (by decide) (br_f q4 (ly_ex0 eb (br_t rfl hp)))))
          · rcases lk_exi c n31 with ec | ⟨jc, hjc, rfl⟩
            · refine Or.inl ⟨fun post hp => ?_, fun post hp => ?_⟩
              · unfold wX_add_40
                exact lx_ch3 (br_f (by decide) (lx_ex1 hj n31 (br_f (by decide) (br_f (by decide) (lx_ex1 hjb n31 (br_f (by decide) (br_f (by decide) (lx_ex0 ec (br_t rfl hp)))))))))
              · exact br_f q2 (ly_ex1 hj n31 (br_f (by decide) (br_f q4 (ly_ex1 hjb n31 (br_f (by decide) (br_t rfl (ly_ex0 ec (br_t rfl hp))))))))
            · refine Or.inr ⟨nI jb, nI jc, fun z => ⟨j, hj, rfl⟩, fun z => ⟨jb, hjb, rfl⟩, fun z => ⟨jc, hjc, rfl⟩, fun post hp => ?_, fun post hp => ?_⟩
              · unfold wX_add_40
                exact lx_ch3 (br_f (by decide) (lx_ex1 hj n31 (br_f (by decide) (br_f (by decide) (lx_ex1 hjb n31 (br_f (by decide) (br_f (by decide) (lx_ex1 hjc n31 (br_f (by decide) (lx_store hn (Or.inr ⟨by decide, rfl⟩) (Or.inr ⟨by decide, rfl⟩) hp))))))))))
              · exact br_f q2 (ly_ex1 hj n31 (br_f (by decide) (br_f q4 (ly_ex1 hjb n31 (br_f (by decide) (br_t rfl (ly_ex1 hjc n31 (br_f (by decide) (ly_store hn (Or.inr ⟨q4, rfl⟩) (Or.inl ⟨rfl, rfl⟩) hp)))))))))
      · have q5 : ¬ nI k = 5 := lk_ne (b := 5) k5 (by omega) (by omega)
        rcases lk_exi a n31 with ea | ⟨j, hj, rfl⟩
        · refine Or.inl ⟨fun post hp => ?_, fun post hp => ?_⟩
          · unfold wX_add_40
            exact lx_ch2 (by omega) k5 hk (br_f (by decide) (lx_ex0 ea (br_t rfl hp)))
          · exact br_f q2 (ly_ex0 ea (br_t rfl hp))
        · rcases lk_exi b n31 with eb | ⟨jb, hjb, rfl⟩
          · refine Or.inl ⟨fun post hp => ?_, fun post hp => ?_⟩
            · unfold wX_add_40
              exact lx_ch2 (by omega) k5 hk (br_f (by decide) (lx_ex1 hj n31 (br_f (by decide) (br_f (by decide) (lx_ex0 eb (br_t rfl hp))))))
            · exact br_f q2 (ly_ex1 hj n31 (br_f (by decide) (br_f q4 (ly_ex0 eb (br_t rfl hp)))))
          · refine Or.inr ⟨nI jb, 0, fun z => ⟨j, hj, rfl⟩, fun z => ⟨jb, hjb, rfl⟩, fun z => absurd z k5, fun post hp => ?_, fun post hp => ?_⟩
            · unfold wX_add_40
              exact lx_ch2 (by omega) k5 hk (br_f (by decide) (lx_ex1 hj n31 (br_f (by decide) (br_f (by decide) (lx_ex1 hjb n31 (br_f (by decide) (br_t (by decide) (lx_store hn (Or.inr ⟨by decide, rfl⟩) (Or.inl ⟨by decide, rfl⟩) hp))))))))
            · exact br_f q2 (ly_ex1 hj n31 (br_f (by decide) (br_f q4 (ly_ex1 hjb n31 (br_f (by decide) (br_f q5 (ly_store hn (Or.inr ⟨q4, rfl⟩) (Or.inr ⟨q5, rfl⟩) hp)))))))
end
theorem lk_En_mono {sz z E : Nat} {BN BE NX LN : Nat → Int32} (h : lk_En sz E BN BE NX LN) (hz : sz ≤ z) : lk_En z E BN BE NX LN := by
  obtain ⟨h1, h2, h3, h4⟩ := h
  refine ⟨h1, h2, h3, fun e h0 he => ?_⟩
  obtain ⟨m, d, p, l, a1, a2⟩ := h4 e h0 he
  exact ⟨m, d, p, l, by omega, a2⟩
theorem lk_H_add {sz c : Nat} {rs hE hY eX eY x : Int32} {K BN BE NX LN bn be nx : Nat → Int32} (h : lk_H sz c rs hE hY eX eY K BN BE NX LN bn be nx) : lk_H (sz + 1) c rs hE hY eX eY (upd K sz x) BN BE NX LN bn be nx := by
  obtain ⟨g, h, m, a1, a2, a3, a4, a5, a6, a7, a8, a9, a10, a11⟩ := h
  have n1 : m ≠ sz := by omega
  exact ⟨g, h, m, a1, a2, a3, a4, a5, a6, by omega, (pk_un n1).trans a8, a9, lk_En_mono a10 (by omega), a11⟩
theorem i_vc_add {k : Nat} {u : SX} {v : SY} (I : i_Rel k u v) (hk : k + 5 ≤ 2562) (v1 : Int32) (v2 : Int32) (v3 : Int32) (v4 : Int32) : wpX_add (fun r u' => wpY_add (fun r' v' => r' = r ∧ i_Rel (k + 5) u' v') v v1 v2 v3 v4) u v1 v2 v3 v4 := by
  have J := i_up I
  obtain ⟨r, cl, lm, sz, al, c, rs, hE, hY, eX, eY, fr, ph, fn, fe, vf, vl, ve, K, A, B, C, BN, BE, NX, LN, P, bn, be, nx, FN, FE, FL, FH, rfl, rfl, hB, hO⟩ := I
  obtain ⟨b1, b2, b3, b4, b5, b6, b7, hAr, hPt, hL0⟩ := hB
  by_cases c0 : v1 < 0
  · exact br_t c0 (br_t c0 ⟨rfl, J⟩)
  · by_cases c1 : 11 < v1
    · exact br_f c0 (br_t c1 (br_f c0 (br_t c1 ⟨rfl, J⟩)))
    · by_cases cs : nI sz < nI cl
      · obtain ⟨kk, hkk, rfl⟩ := nI_of2 (x := v1) (M := 11) (n := 11) (by decide) c0 (Int32.not_lt.mp c1)
        have hs : sz < cl := (nI_ltI (by omega) (by omega)).mp cs
        have key : (kk = 1 → ∃ j : Nat, j < 32 ∧ v2 = nI j) →
            wX_add_40 (fun ra u' => wpY_add (fun r' v' => r' = ra ∧ i_Rel (k + 5) u' v') (nI cl, nI lm, nI sz, r, rs, hY, nI c, nI al, eY, K, P, bn, be, nx, FN, FE, FL, FH) (nI kk) v2 v3 v4) (nI kk) v2 v3 v4 (nI cl) (nI lm) (nI sz) r rs (nI c) (nI al) hE eX fr ph fn fe vf vl ve K A B C BN BE NX LN FN FE FL FH := by
          intro hv
          have yy : ∀ post : Int32 → SY → Prop, wY_add_40 post (nI kk) v2 v3 v4 (nI cl) (nI lm) (nI sz) r rs hY (nI c) (nI al) eY K P bn be nx FN FE FL FH → wpY_add post (nI cl, nI lm, nI sz, r, rs, hY, nI c, nI al, eY, K, P, bn, be, nx, FN, FE, FL, FH) (nI kk) v2 v3 v4 := by
            intro post w
            refine br_f c0 (br_f c1 (br_t cs (br_c (fun z => ?_) (fun _ => w))))
            obtain ⟨j, hj, e⟩ := hv ((nI_eq (b := 1) (by omega) (by omega)).mp z)
            have g0 : ¬ v2 < 0 := by rw [e]; exact nI_pos (by omega)
            have g1 : v2 ≤ 31 := by rw [e]; exact nI_le (b := 31) (by omega) (by decide)
            exact br_f g0 (br_t g1 w)
          rcases lk_add (n := sz) (k := kk) (a := v2) (b := v3) (c := v4) (cl := nI cl) (lm := nI lm) (oc := r) (rs := rs) (ch := nI c) (al := nI al) (hE := hE) (en := eX) (fr := fr) (ph := ph) (fn := fn) (fe := fe) (vf := vf) (vl := vl) (ve := ve) (K := K) (A := A) (B := B) (C := C) (BN := BN) (BE := BE) (NX := NX) (LN := LN) (FN := FN) (FE := FE) (FL := FL) (FH := FH) (eY := eY) (hY := hY) (P := P) (bn := bn) (be := be) (nx := nx) (by omega) (by omega) with ⟨hx, hy⟩ | ⟨b', c', ga, gb, gc, hx, hy⟩
          · exact hx _ (yy _ (hy _ ⟨rfl, J⟩))
          · refine hx _ (yy _ (hy _ ⟨rfl, r, ?_⟩))
            have hB2 : lk_B cl lm (sz + 1) al c (upd K sz (nI kk)) (upd A sz v2) (upd B sz b') (upd C sz c') (upd (upd (upd P (3 * sz) v2) (3 * sz + 1) b') (3 * sz + 2) c') LN :=
              ⟨by omega, b2, b3, b4, b5, b6, b7, lk_Ar_add hAr (by omega) hv ga gb gc, lk_Pt_add hPt sz v2 b' c', hL0⟩
            rcases hO with ⟨r2, h0⟩ | ⟨r2, hH⟩
            · subst h0
              exact lk_R_stop hB2 r2 rfl rfl rfl
            · subst r2
              exact lk_R_held hB2 (lk_H_add hH)
        refine br_f c0 (br_f c1 (br_t cs (br_c (fun z => ?_) (fun z => key (fun q => (z (congrArg nI q)).elim)))))
        have y0 : ∀ post : Int32 → SY → Prop, (v2 < 0 ∨ ¬ v2 ≤ 31) → post (-1) (nI cl, nI lm, nI sz, r, rs, hY, nI c, nI al, eY, K, P, bn, be, nx, FN, FE, FL, FH) → wpY_add post (nI cl, nI lm, nI sz, r, rs, hY, nI c, nI al, eY, K, P, bn, be, nx, FN, FE, FL, FH) (nI kk) v2 v3 v4 := by
          intro post hv hp
          refine br_f c0 (br_f c1 (br_t cs (br_t z ?_)))
          by_cases g0 : v2 < 0
          · exact br_t g0 hp
          · exact br_f g0 (br_f (hv.resolve_left g0) hp)
        by_cases g0 : v2 < 0
        · exact br_t g0 (y0 _ (Or.inl g0) ⟨rfl, J⟩)
        · by_cases g1 : v2 ≤ 31
          · refine br_f g0 (br_t g1 (key (fun _ => ?_)))
            obtain ⟨j, hj, e⟩ := nI_of2 (x := v2) (M := 31) (n := 31) (by decide) g0 g1
            exact ⟨j, by omega, e⟩
          · exact br_f g0 (br_f g1 (y0 _ (Or.inr g1) ⟨rfl, J⟩))
      · exact br_f c0 (br_f c1 (br_f cs (br_f c0 (br_f c1 (br_f cs ⟨rfl, J⟩)))))
end
section
/-! ===== the session's methods ===== -/
theorem lk_En0 {sz : Nat} {BN BE NX LN : Nat → Int32} (h : LN 0 = nI 0) : lk_En sz (0 + 1) BN BE NX LN := ⟨by omega, by omega, h, fun e h0 he => absurd h0 (by omega)⟩
theorem lk_Ag0 {BN BE NX bn be nx : Nat → Int32} : lk_Ag (0 + 1) BN BE NX bn be nx := fun e h0 he => absurd h0 (by omega)
theorem i_vc_start {k : Nat} {u : SX} {v : SY} (I : i_Rel k u v) (hk : k + 5 ≤ 2562) (v1 : Int32) (v2 : Int32) : wpX_start (fun r u' => wpY_start (fun r' v' => r' = r ∧ i_Rel (k + 5) u' v') v v1 v2) u v1 v2 := by
  have J := i_up I
  obtain ⟨o, cl, lm, sz, al, c, rs, hE, hY, eX, eY, fr, ph, fn, fe, vf, vl, ve, K, A, B, C, BN, BE, NX, LN, P, bn, be, nx, FN, FE, FL, FH, rfl, rfl, hB, hO⟩ := I
  obtain ⟨b1, b2, b3, b4, b5, b6, b7, hAr, hPt, hL0⟩ := hB
  unfold wpX_start
  rcases lk_exi v1 (sz := sz) (by omega) with q | ⟨j, hj, rfl⟩
  · refine lx_ex0 q (br_t rfl ?_)
    unfold wpY_start
    exact ly_ex0 q (br_t rfl ⟨rfl, J⟩)
  · obtain ⟨a, a1, a2, ax, ay⟩ := lk_clamp v2 (L := 1) (H := nI lm) (lo := 1) (hi := lm) (by decide) rfl (by omega) (by omega)
    have hB2 : lk_B cl lm sz a 0 K A B C P LN := ⟨b1, b2, b3, b4, b5, a2, by omega, hAr, hPt, hL0⟩
    obtain ⟨r, u', v', hR, wx, wy⟩ := lk_go (oc := 0) (rs := 0) (hE := 0) (fr := fr) (ph := ph) (fn := fn) (fe := fe) (vf := vf) (vl := vl) (ve := ve) (oy := o) (ry := rs) (hY := hY) (ch := 0) (eX := 1) (eY := 0) (pn := nI j) (pe := 0) (FN := FN) (FE := FE) (FL := FL) (FH := FH) (e := 0) (n := j)
      hB2 (Nat.le_refl 0) (lk_En0 hL0) (lk_Ag0 (BN := BN) (BE := BE) (NX := NX) (bn := bn) (be := be) (nx := nx)) hj (by omega) (by decide) (by decide) (by decide) rfl (by decide)
    have hR2 := hR
    obtain ⟨cl1, lm1, sz1, al1, c1, rs1, hE1, hY1, eX1, eY1, fr1, ph1, fn1, fe1, vf1, vl1, ve1, K1, A1, B1, C1, BN1, BE1, NX1, LN1, P1, bn1, be1, nx1, FN1, FE1, FL1, FH1, rfl, rfl, -⟩ := hR
    refine lx_ex1 hj (by omega) (br_f (by decide) ?_)
    unfold wpX_resetSession
    refine ax _ (wx _ ?_)
    show wpY_start _ _ _ _
    unfold wpY_start
    exact ly_ex1 hj (by omega) (br_f (by decide) (ay _ _ _ _ _ _ _ _ _ _ _ _ _ _ _ _ _ _ _ (wy _ ⟨rfl, r, hR2⟩)))
theorem i_vc_supply {k : Nat} {u : SX} {v : SY} (I : i_Rel k u v) (hk : k + 5 ≤ 2562) (v1 : Int32) : wpX_supply (fun r u' => wpY_supply (fun r' v' => r' = r ∧ i_Rel (k + 5) u' v') v v1) u v1 := by
  have J := i_up I
  obtain ⟨o, cl, lm, sz, al, c, rs, hE, hY, eX, eY, fr, ph, fn, fe, vf, vl, ve, K, A, B, C, BN, BE, NX, LN, P, bn, be, nx, FN, FE, FL, FH, rfl, rfl, hB, hO⟩ := I
  have hB' := hB
  obtain ⟨b1, b2, b3, b4, b5, b6, b7, hAr, hPt, hL0⟩ := hB'
  rcases hO with ⟨o2, -⟩ | ⟨o2, hH⟩
  · exact br_f o2 (br_f o2 ⟨rfl, J⟩)
  · subst o2
    rcases lk_exi v1 (sz := sz) (by omega) with q | ⟨j, hj, rfl⟩
    · exact br_t rfl (lx_ex0 q (br_t rfl (br_t rfl (ly_ex0 q (br_t rfl ⟨rfl, J⟩)))))
    · obtain ⟨g, h, m, rfl, rfl, rfl, rfl, hh, rfl, hm, hKm, hgc, hEn, hAg⟩ := hH
      have gE := hEn.2.1
      obtain ⟨km, km12, hKm', -, kma, -, -⟩ := hAr m hm
      have ekm : km = 2 := (nI_eq (by omega) (by omega)).mp (hKm'.symm.trans hKm)
      obtain ⟨a, ha, hAa⟩ := kma (by omega)
      have im : vp_in (nI m) 32 := vp_in_nI (by omega) (by decide)
      have qm : (nI m).toNatClampNeg = m := nI_clamp (by omega)
      have hAm : A (nI m).toNatClampNeg = nI a := by rw [qm]; exact hAa
      have i3 : vp_in (3 * nI m) 96 := by rw [lk_3]; exact vp_in_nI (by omega) (by decide)
      have q3 : (3 * nI m).toNatClampNeg = 3 * m := by rw [lk_3]; exact nI_clamp (by omega)
      have hPm : P (3 * nI m).toNatClampNeg = nI a := by rw [q3, (hPt m).1]; exact hAa
      by_cases hca : c = al
      · subst hca
        refine br_t rfl (lx_ex1 hj (by omega) (br_f (by decide) (lx_chg0 Int32.lt_irrefl (br_t rfl ?_))))
        refine br_t rfl (ly_ex1 hj (by omega) (br_f (by decide) (ly_ext (by omega) ⟨i3, br_t rfl ⟨rfl, 3, ?_⟩⟩)))
        exact lk_R_stop hB (by decide) rfl rfl rfl
      · have hX := lk_En_ext (m := j) (d := 0) (p := h) hEn (by omega) hj (by omega) hh
        have hB2 : lk_B cl lm sz al (c + 1) K A B C P (upd LN (g + 1) (LN h + 1)) := ⟨b1, b2, b3, b4, b5, b6, by omega, hAr, hPt, hX.2.2.1⟩
        obtain ⟨r, u', v', hR, wx, wy⟩ := lk_go (oc := 2) (rs := nI m) (hE := nI h) (fr := fr) (ph := ph) (fn := fn) (fe := fe) (vf := vf) (vl := vl) (ve := ve) (oy := 2) (ry := nI m) (hY := nI h) (ch := nI (c + 1)) (eX := nI (g + 1 + 1)) (eY := nI (g + 1)) (pn := nI a) (pe := nI (g + 1)) (FN := FN) (FE := FE) (FL := FL) (FH := FH) (e := g + 1) (n := a) (g := g + 1) (bn := upd bn (g + 1) (nI j)) (be := upd be (g + 1) (nI 0)) (nx := upd nx (g + 1) (nI h))
          hB2 (by omega) hX (lk_Ag_ext hAg _ _ _) ha (by omega) rfl rfl rfl rfl rfl
        have hR2 := hR
        obtain ⟨cl1, lm1, sz1, al1, c1, rs1, hE1, hY1, eX1, eY1, fr1, ph1, fn1, fe1, vf1, vl1, ve1, K1, A1, B1, C1, BN1, BE1, NX1, LN1, P1, bn1, be1, nx1, FN1, FE1, FL1, FH1, rfl, rfl, -⟩ := hR
        rw [nI_0, ← hAm] at wx
        rw [nI_0, ← hPm] at wy
        refine br_t rfl (lx_ex1 hj (by omega) (br_f (by decide) (lx_chg1 (nI_lt (by omega) (by omega)) (nI_1 c) (br_f (by decide) (lx_ext (by omega) (by omega) ⟨im, wx _ ?_⟩)))))
        exact br_t rfl (ly_ex1 hj (by omega) (br_f (by decide) (ly_ext (by omega) ⟨i3, br_f (lk_ne hca (by omega) (by omega)) (nm_r (nI_1 c) (wy _ ⟨rfl, r, hR2⟩))⟩)))
/-- an index has a binding, or not -/
theorem lk_idx {NX : Nat → Int32} (x : Int32) (h : Nat) : (x < 0 ∨ ∃ i : Nat, i < 2 ^ 31 ∧ x = nI i ∧ lk_an NX i h = 0) ∨ ∃ i : Nat, i < 2 ^ 31 ∧ x = nI i ∧ lk_an NX i h ≠ 0 := by
  by_cases c : x < 0
  · exact Or.inl (Or.inl c)
  · obtain ⟨i, hi, e⟩ := nI_of c
    by_cases z : lk_an NX i h = 0
    · exact Or.inl (Or.inr ⟨i, hi, e, z⟩)
    · exact Or.inr ⟨i, hi, e, z⟩
section
variable {cl lm sz oc rs ch al hE en fr ph fn fe vf vl ve : Int32} {K A B C BN BE NX LN FN FE FL FH : Nat → Int32}
theorem lx_no {post : Int32 → Prop} {z E h : Nat} {x : Int32} (hEn : lk_En z E BN BE NX LN) (hh : h < E) (q : x < 0 ∨ ∃ i : Nat, i < 2 ^ 31 ∧ x = nI i ∧ lk_an NX i h = 0) (hp : post 0) : wpX_hasBinding post (cl, lm, sz, oc, rs, ch, al, hE, en, fr, ph, fn, fe, vf, vl, ve, K, A, B, C, BN, BE, NX, LN, FN, FE, FL, FH) (nI h) x := by
  rcases q with q | ⟨i, hi, rfl, z0⟩
  · exact lx_hasn q hp
  · exact lx_has0 hEn hh hi z0 hp
end
section
variable {cl lm sz oc rs hY ch al en : Int32} {K P bn be nx FN FE FL FH : Nat → Int32}
theorem ly_no {post : Int32 → Prop} {z E h : Nat} {x : Int32} {BN BE NX LN : Nat → Int32} (hEn : lk_En z E BN BE NX LN) (hAg : lk_Ag E BN BE NX bn be nx) (hh : h < E) (q : x < 0 ∨ ∃ i : Nat, i < 2 ^ 31 ∧ x = nI i ∧ lk_an NX i h = 0) (hp : post 0) : wpY_find post (cl, lm, sz, oc, rs, hY, ch, al, en, K, P, bn, be, nx, FN, FE, FL, FH) (nI h) x := by
  rcases q with q | ⟨i, hi, rfl, z0⟩
  · exact ly_findn q hp
  · exact ly_find hEn hAg hh hi (by rw [z0, nI_0]; exact hp)
end
theorem i_vc_demand {k : Nat} {u : SX} {v : SY} (I : i_Rel k u v) (hk : k + 5 ≤ 2562) (v1 : Int32) : wpX_demand (fun r u' => wpY_demand (fun r' v' => r' = r ∧ i_Rel (k + 5) u' v') v v1) u v1 := by
  have J := i_up I
  obtain ⟨o, cl, lm, sz, al, c, rs, hE, hY, eX, eY, fr, ph, fn, fe, vf, vl, ve, K, A, B, C, BN, BE, NX, LN, P, bn, be, nx, FN, FE, FL, FH, rfl, rfl, hB, hO⟩ := I
  have hB' := hB
  obtain ⟨b1, b2, b3, b4, b5, b6, b7, hAr, hPt, hL0⟩ := hB'
  rcases hO with ⟨o2, h0⟩ | ⟨o2, hH⟩
  · subst h0
    refine br_f o2 ?_
    unfold wpY_demand
    exact ly_find0 (br_f o2 ⟨rfl, J⟩)
  · subst o2
    obtain ⟨g, h, m, rfl, rfl, rfl, rfl, hh, rfl, hm, hKm, hgc, hEn, hAg⟩ := hH
    have gE := hEn.2.1
    rcases lk_idx (NX := NX) v1 h with q | ⟨i, hi, rfl, z⟩
    · refine br_t rfl (lx_no hEn hh q (br_t rfl ?_))
      unfold wpY_demand
      exact ly_no hEn hAg hh q (br_t rfl (br_t rfl ⟨rfl, J⟩))
    · have bE : lk_an NX i h < g + 1 := lk_an_lt hEn i h hh
      obtain ⟨n1, e1, p1, l1, a1, a2, -, -, a5, a6, -, -, -⟩ := hEn.2.2.2 (lk_an NX i h) (by omega) bE
      have qb : (nI (lk_an NX i h)).toNatClampNeg = lk_an NX i h := nI_clamp (by omega)
      have ga := hAg (lk_an NX i h) (by omega) bE
      have hbN : BN (nI (lk_an NX i h)).toNatClampNeg = nI n1 := by rw [qb]; exact a5
      have hbE : BE (nI (lk_an NX i h)).toNatClampNeg = nI e1 := by rw [qb]; exact a6
      have hyN : bn (nI (lk_an NX i h)).toNatClampNeg = nI n1 := by rw [qb, ga.1]; exact a5
      have hyE : be (nI (lk_an NX i h)).toNatClampNeg = nI e1 := by rw [qb, ga.2.1]; exact a6
      have ib : vp_in (nI (lk_an NX i h)) 241 := vp_in_nI (by omega) (by decide)
      have iy : vp_in (nI (lk_an NX i h)) 256 := vp_in_nI (by omega) (by decide)
      have b0 : ¬ nI (lk_an NX i h) = 0 := nI_ne0 (by omega) (by omega)
      by_cases hca : c = al
      · subst hca
        refine br_t rfl (lx_has1 hEn hh hi z (br_f (by decide) (lx_chg0 Int32.lt_irrefl (br_t rfl ?_))))
        show wpY_demand _ _ _
        unfold wpY_demand
        refine ly_find hEn hAg hh hi (br_t rfl (br_f b0 ⟨iy, iy, br_t rfl ⟨rfl, 3, ?_⟩⟩))
        exact lk_R_stop hB (by decide) rfl rfl rfl
      · have hB2 : lk_B cl lm sz al (c + 1) K A B C P LN := ⟨b1, b2, b3, b4, b5, b6, by omega, hAr, hPt, hL0⟩
        obtain ⟨r, u', v', hR, wx, wy⟩ := lk_go (oc := 2) (rs := nI m) (hE := nI h) (fr := fr) (ph := ph) (fn := fn) (fe := fe) (vf := vf) (vl := vl) (ve := ve) (oy := 2) (ry := nI m) (hY := nI h) (ch := nI (c + 1)) (eX := nI (g + 1)) (eY := nI g) (pn := nI n1) (pe := nI e1) (FN := FN) (FE := FE) (FL := FL) (FH := FH) (e := e1) (n := n1) (g := g)
          hB2 (by omega) hEn hAg a1 (by omega) rfl rfl rfl rfl rfl
        have hR2 := hR
        obtain ⟨cl1, lm1, sz1, al1, c1, rs1, hE1, hY1, eX1, eY1, fr1, ph1, fn1, fe1, vf1, vl1, ve1, K1, A1, B1, C1, BN1, BE1, NX1, LN1, P1, bn1, be1, nx1, FN1, FE1, FL1, FH1, rfl, rfl, -⟩ := hR
        rw [← hbN, ← hbE] at wx
        rw [← hyN, ← hyE] at wy
        refine br_t rfl (lx_has1 hEn hh hi z (br_f (by decide) (lx_chg1 (nI_lt (by omega) (by omega)) (nI_1 c) (br_f (by decide) (lx_bind hEn hh hi z ⟨ib, ib, wx _ ?_⟩)))))
        show wpY_demand _ _ _
        unfold wpY_demand
        exact ly_find hEn hAg hh hi (br_t rfl (br_f b0 ⟨iy, iy, br_f (lk_ne hca (by omega) (by omega)) (nm_r (nI_1 c) (wy _ ⟨rfl, r, hR2⟩))⟩))
theorem i_vc_captured {k : Nat} {u : SX} {v : SY} (I : i_Rel k u v) (hk : k + 5 ≤ 2562) (v1 : Int32) : wpX_captured (fun r => wpY_captured (fun r' => r' = r ∧ i_Rel (k + 5) u v) v v1) u v1 := by
  have J := i_up I
  obtain ⟨o, cl, lm, sz, al, c, rs, hE, hY, eX, eY, fr, ph, fn, fe, vf, vl, ve, K, A, B, C, BN, BE, NX, LN, P, bn, be, nx, FN, FE, FL, FH, rfl, rfl, hB, hO⟩ := I
  rcases hO with ⟨o2, h0⟩ | ⟨o2, hH⟩
  · subst h0
    refine br_f o2 ?_
    unfold wpY_captured
    exact ly_find0 (br_f o2 ⟨rfl, J⟩)
  · subst o2
    obtain ⟨g, h, m, rfl, rfl, rfl, rfl, hh, rfl, hm, hKm, hgc, hEn, hAg⟩ := hH
    have gE := hEn.2.1
    rcases lk_idx (NX := NX) v1 h with q | ⟨i, hi, rfl, z⟩
    · refine br_t rfl (lx_no hEn hh q (br_t rfl ?_))
      unfold wpY_captured
      exact ly_no hEn hAg hh q (br_t rfl (br_t rfl ⟨rfl, J⟩))
    · have bE : lk_an NX i h < g + 1 := lk_an_lt hEn i h hh
      have qb : (nI (lk_an NX i h)).toNatClampNeg = lk_an NX i h := nI_clamp (by omega)
      have ga := hAg (lk_an NX i h) (by omega) bE
      have ib : vp_in (nI (lk_an NX i h)) 241 := vp_in_nI (by omega) (by decide)
      have iy : vp_in (nI (lk_an NX i h)) 256 := vp_in_nI (by omega) (by decide)
      have b0 : ¬ nI (lk_an NX i h) = 0 := nI_ne0 (by omega) (by omega)
      refine br_t rfl (lx_has1 hEn hh hi z (br_f (by decide) (lx_bind hEn hh hi z ⟨ib, ?_⟩)))
      unfold wpY_captured
      exact ly_find hEn hAg hh hi (br_t rfl (br_f b0 ⟨iy, by rw [qb, ga.1], J⟩))
end
