/-! what was seen, and which placings fit it -/
def sA (m : Nat → Int32) (i : Nat) : Nat := (m (77 + i)).toNatClampNeg / 2
def sB (m : Nat → Int32) (i : Nat) : Nat := (m (77 + i)).toNatClampNeg % 2
theorem RT.see {T : ZI} {m ah : Nat → Int32} {um : Int32} (h : RT T m ah um) : ∃ w, w ≤ 8 ∧ T 7 0 = nI w ∧ m 76 = nI w ∧ ∀ i, i < w → sA m i ≤ 63 ∧ sB m i ≤ 1 ∧ T 5 i = nI (sA m i) ∧ T 6 i = nI (sB m i) ∧ m (77 + i) = nI (2 * sA m i + sB m i) := by
  obtain ⟨h5, w, hw, e, f⟩ := h.2.2.2.2.1
  refine ⟨w, hw, h5.trans e, e, fun i hi => ?_⟩
  obtain ⟨a, b, ha, hb, r1, r2, r3⟩ := f i hi
  have e1 : sA m i = a := by
    unfold sA
    rw [r3, ncl (by omega)]
    omega
  have e2 : sB m i = b := by
    unfold sB
    rw [r3, ncl (by omega)]
    omega
  rw [e1, e2]
  exact ⟨ha, hb, r1, r2, r3⟩
def snb (A B : Nat → Nat) (b : Nat) : Nat → Nat → Bool
  | 0, _ => false
  | i + 1, c => snb A B b i c || (decide (B i = b) && decide (A i = c))
theorem snb_iff {A B : Nat → Nat} {b : Nat} (n c : Nat) : snb A B b n c = true ↔ ∃ i, i < n ∧ B i = b ∧ A i = c := by
  induction n with
  | zero => exact ⟨fun h => Bool.noConfusion h, fun ⟨i, hi, _⟩ => absurd hi (by omega)⟩
  | succ n ih =>
    show (snb A B b n c || (decide (B n = b) && decide (A n = c))) = true ↔ _
    rw [Bool.or_eq_true, ih, Bool.and_eq_true, decide_eq_true_iff, decide_eq_true_iff]
    constructor
    · rintro (⟨i, h1, h2⟩ | h)
      · exact ⟨i, by omega, h2⟩
      · exact ⟨n, by omega, h⟩
    · rintro ⟨i, h1, h2⟩
      by_cases q : i = n
      · subst q
        exact Or.inr h2
      · exact Or.inl ⟨i, by omega, h2⟩
theorem s_seen {T : ZI} {w b : Nat} {A B : Nat → Nat} (hw : w ≤ 8) (hb : b ≤ 1) (e7 : T 7 0 = nI w) (hA : ∀ i, i < w → A i ≤ 63 ∧ B i ≤ 1 ∧ T 5 i = nI (A i) ∧ T 6 i = nI (B i)) {post : Int64 → ZI → Prop} (h : ∀ mk, (∀ c, c < 64 → lb mk c = snb A B b w c) → post mk T) : w_X2_seenCellsOf T (nI b) post := by
  refine ⟨w + 1, it_up _ _ (fun (i : Nat) (rec : Int64 → Int32 → Prop) => ∀ mk, (∀ c, c < 64 → lb mk c = snb A B b i c) → rec mk (nI i)) w (fun i hi rec ih mk hm => ?_) (fun rec mk hm => ?_) 0 (fun c _ => lb_0 c)⟩
  · unfold w_X2_seenCellsOf_L5
    obtain ⟨r1, r2, r3, r4⟩ := hA i hi
    rw [e7, ncl (by omega), r3, r4, nI_1]
    refine bF (nI_ge (b := w) hi (by omega)) ⟨in_ (by omega) (by decide), fun q => ?_, fun q => ⟨in_ (by omega) (by decide), ?_⟩⟩
    · refine ih mk (fun c hc => ?_)
      rw [hm c hc]
      show _ = (snb A B b i c || (decide (B i = b) && decide (A i = c)))
      rw [decide_eq_false (show ¬ B i = b from fun e => q (by rw [e])), Bool.false_and, Bool.or_false]
    · rintro v1 rfl
      refine ih _ (fun c hc => ?_)
      show _ = (snb A B b i c || (decide (B i = b) && decide (A i = c)))
      rw [lb_or, hm c hc, lb_shl (by omega), decide_eq_true (nI_ij (by omega) (by omega) q), Bool.true_and]
  · unfold w_X2_seenCellsOf_L5
    rw [e7]
    exact bT (nI_le (Nat.le_refl w) (by omega)) (h mk hm)
def fbb (P : Nat → Bool) (A B : Nat → Nat) : Nat → Bool
  | 0 => true
  | i + 1 => fbb P A B i && (decide (B i = 1) == P (A i))
theorem fbb_iff {P : Nat → Bool} {A B : Nat → Nat} (n : Nat) : fbb P A B n = true ↔ ∀ i, i < n → decide (B i = 1) = P (A i) := by
  induction n with
  | zero => exact ⟨fun _ i hi => absurd hi (by omega), fun _ => rfl⟩
  | succ n ih =>
    show (fbb P A B n && (decide (B n = 1) == P (A n))) = true ↔ _
    rw [Bool.and_eq_true, ih, beq_iff_eq]
    constructor
    · rintro ⟨h1, h2⟩ i hi
      by_cases q : i = n
      · subst q
        exact h2
      · exact h1 i (by omega)
    · exact fun h => ⟨fun i hi => h i (by omega), h n (by omega)⟩
theorem fit_iff {mk s1 s0 : Int64} {P : Nat → Bool} {A B : Nat → Nat} {w : Nat} (hA : ∀ i, i < w → A i ≤ 63 ∧ B i ≤ 1) (h1 : ∀ c, c < 64 → lb s1 c = snb A B 1 w c) (h0 : ∀ c, c < 64 → lb s0 c = snb A B 0 w c) (hm : ∀ c, c < 64 → lb mk c = P c) : (s1 &&& (mk ^^^ (-1)) = 0 ∧ s0 &&& mk = 0) ↔ fbb P A B w = true := by
  rw [fbb_iff, eq0_iff, eq0_iff]
  constructor
  · rintro ⟨g1, g0⟩ i hi
    obtain ⟨a1, a2⟩ := hA i hi
    have k1 := g1 (A i) (by omega)
    have k0 := g0 (A i) (by omega)
    rw [lb_and, lb_xor, lb_m1 (by omega), h1 _ (by omega), hm _ (by omega)] at k1
    rw [lb_and, h0 _ (by omega), hm _ (by omega)] at k0
    by_cases q : B i = 1
    · rw [(snb_iff w (A i)).mpr ⟨i, hi, q, rfl⟩] at k1
      rw [decide_eq_true q]
      cases hp : P (A i)
      · rw [hp] at k1
        cases k1
      · rfl
    · rw [(snb_iff w (A i)).mpr ⟨i, hi, by omega, rfl⟩] at k0
      rw [decide_eq_false q]
      cases hp : P (A i)
      · rfl
      · rw [hp] at k0
        cases k0
  · intro g
    constructor
    · intro c hc
      rw [lb_and, lb_xor, lb_m1 hc, h1 c hc, hm c hc]
      cases hs : snb A B 1 w c
      · rfl
      · obtain ⟨i, hi, q1, q2⟩ := (snb_iff w c).mp hs
        have := g i hi
        rw [decide_eq_true q1, q2] at this
        rw [← this]
        rfl
    · intro c hc
      rw [lb_and, h0 c hc, hm c hc]
      cases hs : snb A B 0 w c
      · rfl
      · obtain ⟨i, hi, q1, q2⟩ := (snb_iff w c).mp hs
        have := g i hi
        rw [decide_eq_false (by omega), q2] at this
        rw [← this]
        rfl
theorem s_fits {mk s1 s0 : Int64} {P : Nat → Bool} {A B : Nat → Nat} {w : Nat} (hA : ∀ i, i < w → A i ≤ 63 ∧ B i ≤ 1) (h1 : ∀ c, c < 64 → lb s1 c = snb A B 1 w c) (h0 : ∀ c, c < 64 → lb s0 c = snb A B 0 w c) (hm : ∀ c, c < 64 → lb mk c = P c) {post : Int32 → Prop} (h : post (if fbb P A B w then 1 else 0)) : w_X4_fits mk s1 s0 post := by
  have E := fit_iff hA h1 h0 hm
  unfold w_X4_fits
  rw [lc_eq, lc_eq]
  refine ⟨fun q => ?_, fun q => ⟨fun q2 => ?_, fun q2 => ?_⟩⟩
  · rw [if_neg (fun e => q (E.mpr e).1)] at h
    exact h
  · rw [if_neg (fun e => q2 (E.mpr e).2)] at h
    exact h
  · rw [if_pos (E.mp ⟨q, q2⟩)] at h
    exact h
theorem T_hb : ∀ n, n < 128 → nI n / 2 = nI (n / 2) ∧ jrem (nI n) 2 = nI (n % 2) := by decide +kernel
theorem s5_canBe {M : ZI} {L : ZL} {z v w i : Nat} {A B : Nat → Nat} (hz : z ≤ 1) (hi : i < 256) (hv : v < 65536) (e : M 0 (65 + z) = nI v) (hw : w ≤ 8) (ew : M 0 76 = nI w) (hA : ∀ i, i < w → A i ≤ 63 ∧ B i ≤ 1 ∧ M 0 (77 + i) = nI (2 * A i + B i)) {post : Int32 → ZI → ZL → Prop} (h : post (if fbb (cvi (lk v (i / 64)) (i % 8) (i / 8 % 8) 16) A B w then 1 else 0) M L) : w_X5_canBe M L (nI z) (nI i) post := by
  unfold w_X5_canBe
  rw [(T_wh i hi).2.2]
  refine s_looksOf hz (by omega) e hv ?_
  refine ⟨w + 1, it_up _ _ (fun (j : Nat) (rec : Int32 → Int32 → Prop) => rec (if fbb (cvi (lk v (i / 64)) (i % 8) (i / 8 % 8) 16) A B j then 1 else 0) (nI j)) w (fun j hj rec ih => ?_) (fun rec => ?_)⟩
  · unfold w_X5_canBe_L16
    obtain ⟨a1, a2, a3⟩ := hA j hj
    rw [ew, show (77 : Int32) + nI j = nI (77 + j) from nI_add 77 j, ncl (by omega), a3, nI_1, (T_wh i hi).1, (T_wh i hi).2.1]
    refine bF (nI_ge (b := w) hj (by omega)) ⟨in_ (by omega) (by decide), ?_⟩
    rintro v4 rfl
    rw [(T_hb _ (by omega)).1, (T_hb _ (by omega)).2, show (2 * A j + B j) / 2 = A j by omega, show (2 * A j + B j) % 2 = B j by omega]
    have ej : fbb (cvi (lk v (i / 64)) (i % 8) (i / 8 % 8) 16) A B (j + 1) = (fbb (cvi (lk v (i / 64)) (i % 8) (i / 8 % 8) 16) A B j && (decide (B j = 1) == cvi (lk v (i / 64)) (i % 8) (i / 8 % 8) 16 (A j))) := rfl
    rw [ej] at ih
    cases hf : fbb (cvi (lk v (i / 64)) (i % 8) (i / 8 % 8) 16) A B j
    · rw [hf] at ih
      exact b0 ih
    · rw [hf, Bool.true_and] at ih
      refine b1 (s5_covers (lk_lt v (by omega)) (by omega) (by omega) (by omega) ?_)
      refine ⟨fun q => ?_, fun q => ?_⟩
      · rw [decide_eq_false (show ¬ B j = 1 from fun e => q (by rw [e]; rfl))] at ih
        cases hc : cvi (lk v (i / 64)) (i % 8) (i / 8 % 8) 16 (A j)
        · rw [hc] at ih
          exact b0n ih
        · rw [hc] at ih
          exact b1n ih
      · rw [decide_eq_true (show B j = 1 from nI_ij (b := 1) (by omega) (by decide) q)] at ih
        cases hc : cvi (lk v (i / 64)) (i % 8) (i / 8 % 8) 16 (A j)
        · rw [hc] at ih
          exact nF (by decide) ih
        · rw [hc] at ih
          exact nT rfl ih
  · unfold w_X5_canBe_L16
    rw [ew]
    refine bT (nI_le (Nat.le_refl w) (by omega)) ⟨?_, h⟩
    split <;> rfl
