/-! bitten -/
def exb (f : Nat → Bool) : Nat → Bool
  | 0 => false
  | n + 1 => exb f n || f n
def alb (f : Nat → Bool) : Nat → Bool
  | 0 => true
  | n + 1 => alb f n && f n
theorem exb_iff {f : Nat → Bool} (n : Nat) : exb f n = true ↔ ∃ i, i < n ∧ f i = true := by
  induction n with
  | zero => exact ⟨fun h => Bool.noConfusion h, fun ⟨i, hi, _⟩ => absurd hi (by omega)⟩
  | succ n ih =>
    show (exb f n || f n) = true ↔ _
    rw [Bool.or_eq_true, ih]
    constructor
    · rintro (⟨i, h1, h2⟩ | h)
      · exact ⟨i, by omega, h2⟩
      · exact ⟨n, by omega, h⟩
    · rintro ⟨i, h1, h2⟩
      by_cases q : i = n
      · subst q
        exact Or.inr h2
      · exact Or.inl ⟨i, by omega, h2⟩
theorem alb_iff {f : Nat → Bool} (n : Nat) : alb f n = true ↔ ∀ i, i < n → f i = true := by
  induction n with
  | zero => exact ⟨fun _ i hi => absurd hi (by omega), fun _ => rfl⟩
  | succ n ih =>
    show (alb f n && f n) = true ↔ _
    rw [Bool.and_eq_true, ih]
    constructor
    · rintro ⟨h1, h2⟩ i hi
      by_cases q : i = n
      · subst q
        exact h2
      · exact h1 i (by omega)
    · exact fun h => ⟨fun i hi => h i (by omega), h n (by omega)⟩
theorem and2 (v c : Nat) : v &&& 2 ^ c = if v.testBit c then 2 ^ c else 0 := by
  apply Nat.eq_of_testBit_eq
  intro j
  rw [Nat.testBit_and, Nat.testBit_two_pow]
  by_cases e : c = j
  · subst e
    cases hb : v.testBit c
    · simp
    · simp
  · rw [decide_eq_false e, Bool.and_false]
    split
    · rw [Nat.testBit_two_pow, decide_eq_false e]
    · rw [Nat.zero_testBit]
theorem lk0 (t j : Nat) : (lk 0 t).testBit j = false := by
  rw [Bool.eq_false_iff]
  intro h
  obtain ⟨i, _, h2, _⟩ := (orb_bit _ _ _ _).mp h
  rw [Nat.zero_testBit] at h2
  cases h2
theorem lk2 {c t j : Nat} (hc : c < 16) : (lk (2 ^ c) t).testBit j = true ↔ lnd c t = j := by
  refine (orb_bit _ _ _ _).trans ⟨?_, fun h => ⟨c, hc, Nat.testBit_two_pow_self, h⟩⟩
  rintro ⟨i, h1, h2, h3⟩
  rw [Nat.testBit_two_pow] at h2
  rw [of_decide_eq_true h2]
  exact h3
theorem lnd_inj : ∀ t, t < 4 → ∀ c, c < 16 → ∀ d, d < 16 → lnd d t = lnd c t → d = c := by decide +kernel
theorem lkv {v c t : Nat} (ht : t < 4) (hc : c < 16) : (lk v t).testBit (lnd c t) = true ↔ v.testBit c = true := by
  refine (orb_bit _ _ _ _).trans ⟨?_, fun h => ⟨c, hc, h, rfl⟩⟩
  rintro ⟨i, h1, h2, h3⟩
  rw [← lnd_inj t ht c hc i h1 h3]
  exact h2
def ix (x y a : Nat) : Nat := 4 * (a / 8 - y) + (a % 8 - x)
def ing (x y a : Nat) : Prop := (x ≤ a % 8 ∧ a % 8 ≤ x + 3) ∧ y ≤ a / 8 ∧ a / 8 ≤ y + 3
theorem cov_iff {s x y a : Nat} : cvi s x y 16 a = true ↔ ing x y a ∧ s.testBit (ix x y a) = true := by
  unfold cvi ing ix
  rw [Bool.and_eq_true, decide_eq_true_iff]
  constructor
  · rintro ⟨h1, h2⟩
    exact ⟨by omega, h2⟩
  · rintro ⟨h1, h2⟩
    exact ⟨by omega, h2⟩
def bw (v t x y : Nat) (A B : Nat → Nat) (w c : Nat) : Bool := v.testBit c && exb (fun i => decide (B i = 0) && cvi (lk (2 ^ c) t) x y 16 (A i)) w
def bm (v t x y : Nat) (A B : Nat → Nat) (w : Nat) : Nat := orb (fun i => decide (B i = 0) && cvi (lk v t) x y 16 (A i)) (fun i => ix x y (A i)) w
theorem bm_bit {v t x y w c : Nat} {A B : Nat → Nat} (ht : t < 4) (hc : c < 16) : (bm v t x y A B w).testBit (lnd c t) = bw v t x y A B w c := by
  rw [Bool.eq_iff_iff]
  refine (orb_bit _ _ _ _).trans ?_
  unfold bw
  rw [Bool.and_eq_true, exb_iff]
  constructor
  · rintro ⟨i, h1, h2, h3⟩
    rw [Bool.and_eq_true, cov_iff] at h2
    have h3 : ix x y (A i) = lnd c t := h3
    rw [h3, lkv ht hc] at h2
    refine ⟨h2.2.2, i, h1, ?_⟩
    rw [Bool.and_eq_true, cov_iff, lk2 hc]
    exact ⟨h2.1, h2.2.1, h3.symm⟩
  · rintro ⟨h0, i, h1, h2⟩
    rw [Bool.and_eq_true, cov_iff, lk2 hc] at h2
    refine ⟨i, h1, ?_, h2.2.2.symm⟩
    rw [Bool.and_eq_true, cov_iff, ← h2.2.2, lkv ht hc]
    exact ⟨h2.1, h2.2.1, h0⟩
theorem s_cutAway {N D X PM : ZI} {PL : ZL} {v t x y w : Nat} {A B : Nat → Nat} (hv : v < 65536) (ht : t ≤ 3) (hx : x ≤ 7) (hy : y ≤ 7) (hw : w ≤ 8) (e7 : N 7 0 = nI w) (hA : ∀ i, i < w → A i ≤ 63 ∧ B i ≤ 1 ∧ N 5 i = nI (A i) ∧ N 6 i = nI (B i)) {post : Int32 → ZI → ZI → ZI → ZI → ZL → Prop} (h : post (nI (orb (bw v t x y A B w) id 16)) N D X PM PL) : w_X4_cutAway N D X PM PL (nI v) (nI x) (nI y) (nI t) post := by
  unfold w_X4_cutAway
  refine s_seen (b := 0) hw (by decide) e7 hA (fun s0 h0 => ?_)
  refine ⟨17, it_up _ _ (fun (c : Nat) (rec : Int32 → Int32 → Prop) => rec (nI (orb (bw v t x y A B w) id c)) (nI c)) 16 (fun c hc rec ih => ?_) (fun rec => ?_)⟩
  · unfold w_X4_cutAway_L16
    refine bF (nI_ge (b := 16) hc (by decide)) ?_
    rw [sh1 c (by omega), nand, and2, nI_1]
    rintro v3 rfl
    obtain ⟨s1, s2⟩ := orb_step (n := c) (rec := fun z => rec z (nI (c + 1))) ih
    have hlt : (if v.testBit c = true then 2 ^ c else 0) < 65536 := by
      split
      · exact Nat.lt_of_lt_of_le (Nat.pow_lt_pow_right (by decide) hc) (by decide)
      · decide
    refine s_printed hlt ht (s_placed (lk_lt _ ht) (by omega) hy (fun m hm => ?_))
    rw [lc_eq, eq0_iff]
    have key : (∀ a, a < 64 → lb (m &&& s0) a = false) ↔ ¬ bw v t x y A B w c = true := by
      unfold bw
      rw [Bool.and_eq_true, exb_iff]
      constructor
      · rintro g ⟨g1, i, g2, g3⟩
        obtain ⟨a1, _⟩ := hA i g2
        have := g (A i) (by omega)
        rw [Bool.and_eq_true, decide_eq_true_iff] at g3
        rw [lb_and, hm _ (by omega), h0 _ (by omega), if_pos g1, g3.2, (snb_iff w (A i)).mpr ⟨i, g2, g3.1, rfl⟩] at this
        cases this
      · intro g a ha
        rw [lb_and, hm a ha, h0 a ha, Bool.eq_false_iff]
        intro q
        rw [Bool.and_eq_true, snb_iff] at q
        obtain ⟨q1, i, q2, q3, q4⟩ := q
        cases hb : v.testBit c
        · rw [hb, if_neg (by decide), cov_iff, lk0] at q1
          exact absurd q1.2 (by decide)
        · rw [hb, if_pos rfl] at q1
          refine g ⟨hb, i, q2, ?_⟩
          rw [decide_eq_true q3, Bool.true_and, q4]
          exact q1
    rw [key]
    refine ⟨fun q => s2 q, fun q => ?_⟩
    rintro v6 rfl
    have q : bw v t x y A B w c = true := by
      cases hb : bw v t x y A B w c
      · exact absurd (by rw [hb]; decide) q
      · rfl
    have hb : v.testBit c = true := by
      unfold bw at q
      exact ((Bool.and_eq_true _ _).mp q).1
    rw [if_pos hb]
    exact s1 q
  · unfold w_X4_cutAway_L16
    exact bT (nI_le (a := 16) (b := 16) (by decide) (by decide)) h
