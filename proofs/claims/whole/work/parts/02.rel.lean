/-! ===== the arena, the environments, the frames: what both sides keep ===== -/
/-- the nodes below sz: kinds 0 to 11, their indices and children -/
def lk_Ar (sz : Nat) (K A B C : Nat → Int32) : Prop :=
  ∀ n, n < sz → ∃ k : Nat, k < 12 ∧ K n = nI k ∧ (k = 1 → ∃ j : Nat, j < 32 ∧ A n = nI j) ∧ (2 ≤ k → ∃ j : Nat, j < sz ∧ A n = nI j) ∧
    (4 ≤ k → ∃ j : Nat, j < sz ∧ B n = nI j) ∧ (k = 5 → ∃ j : Nat, j < sz ∧ C n = nI j)
/-- the reference's one array of parts holds the component's three -/
def lk_Pt (A B C P : Nat → Int32) : Prop := ∀ n, P (3 * n) = A n ∧ P (3 * n + 1) = B n ∧ P (3 * n + 2) = C n
theorem lk_Ar_add {sz k : Nat} {K A B C : Nat → Int32} {a b c : Int32} (h : lk_Ar sz K A B C) (hk : k < 12) (h1 : k = 1 → ∃ j : Nat, j < 32 ∧ a = nI j)
    (h2 : 2 ≤ k → ∃ j : Nat, j < sz ∧ a = nI j) (h4 : 4 ≤ k → ∃ j : Nat, j < sz ∧ b = nI j) (h5 : k = 5 → ∃ j : Nat, j < sz ∧ c = nI j) :
    lk_Ar (sz + 1) (upd K sz (nI k)) (upd A sz a) (upd B sz b) (upd C sz c) := by
  have up : ∀ x : Int32, (∃ j : Nat, j < sz ∧ x = nI j) → ∃ j : Nat, j < sz + 1 ∧ x = nI j := by
    intro x ⟨j, hj, e⟩
    exact ⟨j, by omega, e⟩
  intro n hn
  by_cases e : n = sz
  · subst e
    refine ⟨k, hk, pk_us, ?_, ?_, ?_, ?_⟩
    · intro z; rw [pk_us]; exact h1 z
    · intro z; rw [pk_us]; exact up _ (h2 z)
    · intro z; rw [pk_us]; exact up _ (h4 z)
    · intro z; rw [pk_us]; exact up _ (h5 z)
  · obtain ⟨k', g0, g1, g2, g3, g4, g5⟩ := h n (by omega)
    refine ⟨k', g0, ?_, ?_, ?_, ?_, ?_⟩
    · rw [pk_un e]; exact g1
    · intro z; rw [pk_un e]; exact g2 z
    · intro z; rw [pk_un e]; exact up _ (g3 z)
    · intro z; rw [pk_un e]; exact up _ (g4 z)
    · intro z; rw [pk_un e]; exact up _ (g5 z)
theorem lk_Pt_add {A B C P : Nat → Int32} (h : lk_Pt A B C P) (n : Nat) (a b c : Int32) :
    lk_Pt (upd A n a) (upd B n b) (upd C n c) (upd (upd (upd P (3 * n) a) (3 * n + 1) b) (3 * n + 2) c) := by
  intro m
  by_cases e : m = n
  · subst e
    refine ⟨?_, ?_, ?_⟩
    · rw [pk_un (show 3 * m ≠ 3 * m + 2 by omega), pk_un (show 3 * m ≠ 3 * m + 1 by omega), pk_us, pk_us]
    · rw [pk_un (show 3 * m + 1 ≠ 3 * m + 2 by omega), pk_us, pk_us]
    · rw [pk_us, pk_us]
  · refine ⟨?_, ?_, ?_⟩
    · rw [pk_un (show 3 * m ≠ 3 * n + 2 by omega), pk_un (show 3 * m ≠ 3 * n + 1 by omega), pk_un (show 3 * m ≠ 3 * n by omega), pk_un e]
      exact (h m).1
    · rw [pk_un (show 3 * m + 1 ≠ 3 * n + 2 by omega), pk_un (show 3 * m + 1 ≠ 3 * n + 1 by omega), pk_un (show 3 * m + 1 ≠ 3 * n by omega), pk_un e]
      exact (h m).2.1
    · rw [pk_un (show 3 * m + 2 ≠ 3 * n + 2 by omega), pk_un (show 3 * m + 2 ≠ 3 * n + 1 by omega), pk_un (show 3 * m + 2 ≠ 3 * n by omega), pk_un e]
      exact (h m).2.2
/-- environment e: its binding 0, what it extends, its length -/
def lk_E1 (sz e : Nat) (BN BE NX LN : Nat → Int32) : Prop :=
  ∃ m d p l : Nat, m < sz ∧ d < e ∧ p < e ∧ l ≤ p ∧ BN e = nI m ∧ BE e = nI d ∧ NX e = nI p ∧ LN p = nI l ∧ LN e = nI (l + 1)
def lk_En (sz E : Nat) (BN BE NX LN : Nat → Int32) : Prop :=
  0 < E ∧ E ≤ 241 ∧ LN 0 = nI 0 ∧ ∀ e, 0 < e → e < E → lk_E1 sz e BN BE NX LN
/-- the two sides' environments are the same below E -/
def lk_Ag (E : Nat) (BN BE NX bn be nx : Nat → Int32) : Prop := ∀ e, 0 < e → e < E → bn e = BN e ∧ be e = BE e ∧ nx e = NX e
/-- i steps up from environment e; 0 if there are not so many -/
def lk_an (NX : Nat → Int32) : Nat → Nat → Nat
  | 0, e => e
  | i + 1, e => if e = 0 then 0 else lk_an NX i (NX e).toNatClampNeg
theorem lk_an0 (NX : Nat → Int32) : ∀ i, lk_an NX i 0 = 0
  | 0 => rfl
  | _ + 1 => if_pos rfl
theorem lk_anS {NX : Nat → Int32} {e p : Nat} (he : e ≠ 0) (hp : p < 2 ^ 31) (h : NX e = nI p) (i : Nat) : lk_an NX (i + 1) e = lk_an NX i p := by
  show (if e = 0 then 0 else lk_an NX i (NX e).toNatClampNeg) = _
  rw [if_neg he, h, nI_clamp hp]
theorem lk_len {sz E : Nat} {BN BE NX LN : Nat → Int32} (h : lk_En sz E BN BE NX LN) {e : Nat} (he : e < E) : ∃ l : Nat, l ≤ e ∧ LN e = nI l := by
  rcases Nat.eq_zero_or_pos e with z | h0
  · subst z; exact ⟨0, Nat.le_refl _, h.2.2.1⟩
  · obtain ⟨m, d, p, l, -, -, h3, h4, -, -, -, -, h9⟩ := h.2.2.2 e h0 he
    exact ⟨l + 1, by omega, h9⟩
theorem lk_an_lt {sz E : Nat} {BN BE NX LN : Nat → Int32} (h : lk_En sz E BN BE NX LN) : ∀ i e, e < E → lk_an NX i e < E := by
  intro i
  induction i with
  | zero => exact fun e he => he
  | succ i ih =>
    intro e he
    rcases Nat.eq_zero_or_pos e with z | h0
    · subst z; rw [lk_an0]; exact he
    · obtain ⟨m, d, p, l, -, -, h3, -, -, -, h7, -, -⟩ := h.2.2.2 e h0 he
      have hE := h.2.1
      have e0 : e ≠ 0 := by omega
      have hp : p < 2 ^ 31 := by omega
      rw [lk_anS e0 hp h7]
      exact ih p (by omega)
theorem lk_an_len {sz E : Nat} {BN BE NX LN : Nat → Int32} (h : lk_En sz E BN BE NX LN) : ∀ i e l, e < E → l ≤ e → LN e = nI l → (lk_an NX i e ≠ 0 ↔ i < l) := by
  have hE := h.2.1
  intro i
  induction i with
  | zero =>
    intro e l he hl hL
    show e ≠ 0 ↔ 0 < l
    rcases Nat.eq_zero_or_pos e with z | h0
    · omega
    · obtain ⟨m, d, p, l', -, -, h3, h4, -, -, -, -, h9⟩ := h.2.2.2 e h0 he
      have e1 : l = l' + 1 := (nI_eq (by omega) (by omega)).mp (hL.symm.trans h9)
      omega
  | succ i ih =>
    intro e l he hl hL
    rcases Nat.eq_zero_or_pos e with z | h0
    · subst z; rw [lk_an0]; omega
    · obtain ⟨m, d, p, l', -, -, h3, h4, -, -, h7, h8, h9⟩ := h.2.2.2 e h0 he
      have e1 : l = l' + 1 := (nI_eq (by omega) (by omega)).mp (hL.symm.trans h9)
      have e0 : e ≠ 0 := by omega
      have hp : p < 2 ^ 31 := by omega
      rw [lk_anS e0 hp h7, ih p l' (by omega) h4 h8]
      omega
theorem lk_an_ag {sz E : Nat} {BN BE NX LN bn be nx : Nat → Int32} (h : lk_En sz E BN BE NX LN) (g : lk_Ag E BN BE NX bn be nx) : ∀ i e, e < E → lk_an nx i e = lk_an NX i e := by
  have hE := h.2.1
  intro i
  induction i with
  | zero => exact fun e he => rfl
  | succ i ih =>
    intro e he
    rcases Nat.eq_zero_or_pos e with z | h0
    · subst z; rw [lk_an0, lk_an0]
    · obtain ⟨m, d, p, l, -, -, h3, -, -, -, h7, -, -⟩ := h.2.2.2 e h0 he
      have e0 : e ≠ 0 := by omega
      have hp : p < 2 ^ 31 := by omega
      rw [lk_anS e0 hp h7, lk_anS e0 hp ((g e h0 he).2.2.trans h7)]
      exact ih p (by omega)
theorem lk_En_ext {sz E m d p : Nat} {BN BE NX LN : Nat → Int32} (h : lk_En sz E BN BE NX LN) (hE : E ≤ 240) (hm : m < sz) (hd : d < E) (hp : p < E) :
    lk_En sz (E + 1) (upd BN E (nI m)) (upd BE E (nI d)) (upd NX E (nI p)) (upd LN E (LN p + 1)) := by
  obtain ⟨l, hl, hL⟩ := lk_len h hp
  have n0 : 0 ≠ E := by have := h.1; omega
  refine ⟨by omega, by omega, ?_, fun e h0 he => ?_⟩
  · rw [pk_un n0]; exact h.2.2.1
  · by_cases q : e = E
    · subst q
      have n2 : p ≠ e := by omega
      refine ⟨m, d, p, l, hm, hd, hp, hl, pk_us, pk_us, pk_us, ?_, ?_⟩
      · rw [pk_un n2]; exact hL
      · rw [pk_us, hL, nI_1]
    · obtain ⟨m', d', p', l', a1, a2, a3, a4, a5, a6, a7, a8, a9⟩ := h.2.2.2 e h0 (by omega)
      have n2 : p' ≠ E := by omega
      refine ⟨m', d', p', l', a1, a2, a3, a4, ?_, ?_, ?_, ?_, ?_⟩
      · rw [pk_un q]; exact a5
      · rw [pk_un q]; exact a6
      · rw [pk_un q]; exact a7
      · rw [pk_un n2]; exact a8
      · rw [pk_un q]; exact a9
theorem lk_Ag_ext {E : Nat} {BN BE NX bn be nx : Nat → Int32} (g : lk_Ag E BN BE NX bn be nx) (x y z : Int32) :
    lk_Ag (E + 1) (upd BN E x) (upd BE E y) (upd NX E z) (upd bn E x) (upd be E y) (upd nx E z) := by
  intro e h0 he
  by_cases q : e = E
  · subst q
    exact ⟨pk_us.trans pk_us.symm, pk_us.trans pk_us.symm, pk_us.trans pk_us.symm⟩
  · have w := g e h0 (by omega)
    exact ⟨(pk_un q).trans (w.1.trans (pk_un q).symm), (pk_un q).trans (w.2.1.trans (pk_un q).symm), (pk_un q).trans (w.2.2.trans (pk_un q).symm)⟩
/-- the frames below d: a node of kind 4 to 11 and its environment; one that has its left operand is an operator's -/
def lk_Fr (sz E d : Nat) (K FN FE FH : Nat → Int32) : Prop :=
  ∀ j, j < d → ∃ f e k : Nat, f < sz ∧ e < E ∧ 4 ≤ k ∧ k < 12 ∧ FN j = nI f ∧ FE j = nI e ∧ K f = nI k ∧ (FH j = 0 ∨ (FH j = 1 ∧ 6 ≤ k))
theorem lk_Fr_mono {sz E E' d d' : Nat} {K FN FE FH : Nat → Int32} (h : lk_Fr sz E d K FN FE FH) (hE : E ≤ E') (hd : d' ≤ d) : lk_Fr sz E' d' K FN FE FH := by
  intro j hj
  obtain ⟨f, e, k, a1, a2, a3⟩ := h j (by omega)
  exact ⟨f, e, k, a1, by omega, a3⟩
theorem lk_Fr_push {sz E d f e k : Nat} {K FN FE FH : Nat → Int32} (h : lk_Fr sz E d K FN FE FH) (hf : f < sz) (he : e < E) (h4 : 4 ≤ k) (hk : k < 12) (hK : K f = nI k) :
    lk_Fr sz E (d + 1) K (upd FN d (nI f)) (upd FE d (nI e)) (upd FH d 0) := by
  intro j hj
  by_cases q : j = d
  · subst q
    exact ⟨f, e, k, hf, he, h4, hk, pk_us, pk_us, hK, Or.inl pk_us⟩
  · obtain ⟨f', e', k', a1, a2, a3, a4, a5, a6, a7, a8⟩ := h j (by omega)
    refine ⟨f', e', k', a1, a2, a3, a4, (pk_un q).trans a5, (pk_un q).trans a6, a7, ?_⟩
    rw [pk_un q]; exact a8
theorem lk_Fr_left {sz E d f e k : Nat} {K FN FE FH : Nat → Int32} (h : lk_Fr sz E d K FN FE FH) (hf : f < sz) (he : e < E) (h6 : 6 ≤ k) (hk : k < 12) (hN : FN d = nI f) (hE : FE d = nI e) (hK : K f = nI k) :
    lk_Fr sz E (d + 1) K FN FE (upd FH d 1) := by
  intro j hj
  by_cases q : j = d
  · subst q
    exact ⟨f, e, k, hf, he, by omega, hk, hN, hE, hK, Or.inr ⟨pk_us, h6⟩⟩
  · obtain ⟨f', e', k', a1, a2, a3, a4, a5, a6, a7, a8⟩ := h j (by omega)
    refine ⟨f', e', k', a1, a2, a3, a4, a5, a6, a7, ?_⟩
    rw [pk_un q]; exact a8
/-- how often the frames below d will yet be resumed -/
def lk_po (FH : Nat → Int32) : Nat → Nat
  | 0 => 0
  | d + 1 => lk_po FH d + (if FH d = 0 then 2 else 1)
theorem lk_po_upd {FH : Nat → Int32} {k : Nat} {x : Int32} : ∀ d, d ≤ k → lk_po (upd FH k x) d = lk_po FH d := by
  intro d
  induction d with
  | zero => exact fun _ => rfl
  | succ d ih =>
    intro hd
    have n1 : d ≠ k := by omega
    show lk_po (upd FH k x) d + (if upd FH k x d = 0 then 2 else 1) = lk_po FH d + (if FH d = 0 then 2 else 1)
    rw [ih (by omega), pk_un n1]
theorem lk_po_push {FH : Nat → Int32} {d : Nat} : lk_po (upd FH d 0) (d + 1) = lk_po FH d + 2 := by
  show lk_po (upd FH d 0) d + (if upd FH d 0 d = 0 then 2 else 1) = _
  rw [lk_po_upd d (Nat.le_refl _), pk_us, if_pos rfl]
theorem lk_po_left {FH : Nat → Int32} {d : Nat} : lk_po (upd FH d 1) (d + 1) = lk_po FH d + 1 := by
  show lk_po (upd FH d 1) d + (if upd FH d 1 d = 0 then 2 else 1) = _
  rw [lk_po_upd d (Nat.le_refl _), pk_us, if_neg (by decide)]
theorem lk_po_0 {FH : Nat → Int32} {d : Nat} (h : FH d = 0) : lk_po FH (d + 1) = lk_po FH d + 2 := by
  show lk_po FH d + (if FH d = 0 then 2 else 1) = _
  rw [if_pos h]
theorem lk_po_1 {FH : Nat → Int32} {d : Nat} (h : FH d = 1) : lk_po FH (d + 1) = lk_po FH d + 1 := by
  show lk_po FH d + (if FH d = 0 then 2 else 1) = _
  rw [h, if_neg (by decide)]
