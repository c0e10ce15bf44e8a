/-! slips -/
theorem s_bit {m : Int64} {c : Nat} (hc : c < 64) {b : Bool} (e : lb m c = b) {post : Int32 → Prop} (h : post (if b then 1 else 0)) : (¬ (lg_cmp ((jlushr m (nI c)) &&& 1) 1) = 0 → post 0) ∧ ((lg_cmp ((jlushr m (nI c)) &&& 1) 1) = 0 → post 1) := by
  rw [lc_eq, lb_shr1 m hc, e]
  cases b
  · exact ⟨fun _ => h, fun q => absurd q (by decide)⟩
  · exact ⟨fun q => absurd rfl q, fun _ => h⟩
theorem s0_inks {k p s x y c : Nat} (hk : k ≤ 5) (hp : p ≤ 12) (hs : s < 65536) (hx : x ≤ 8) (hy : y ≤ 7) (hc : c < 64) {post : Int32 → Prop} (h : post (if decide (0 < ink k p s x y c) then 1 else 0)) : w_X0_inks (nI k) (nI p) (nI s) (nI x) (nI y) (nI c) post := by
  unfold w_X0_inks
  have hd := dkn_le k (by omega) p (by omega)
  refine s0_dark hk hp ?_
  rw [T_hf _ (by omega)]
  have e0 : ∀ n, n < 2 ^ 31 → (nI n ≤ 0 ↔ n = 0) := fun n hn => (le_iff (b := 0) hn (by decide)).trans (by omega)
  rw [e0 _ (by omega), e0 _ (by omega)]
  by_cases h0 : dkn k p = 0
  · refine bT h0 (bT (by omega) (s_bit (m := 0) (b := false) hc (lb_0 c) ?_))
    have : ink k p s x y c = 0 := by
      unfold ink
      rw [h0]
      split
      · rfl
      · split <;> rfl
    rw [this] at h
    exact h
  · refine bF h0 (s0_full hk hp hs hx hy (fun m hm => ?_))
    by_cases h1 : dkn k p / 2 = 0
    · refine bT h1 (s_bit hc (hm c hc) ?_)
      have : decide (0 < ink k p s x y c) = fl k p s x y c := by
        unfold ink
        cases fl k p s x y c
        · rw [if_neg (by decide)]
          cases hl k p s x y c
          · rfl
          · rw [if_pos rfl]
            exact decide_eq_false (by omega)
        · rw [if_pos rfl]
          exact decide_eq_true (by omega)
      rw [this] at h
      exact h
    · refine bF h1 (s0_half hk hp hs hx hy (fun m2 hm2 => ?_))
      rintro v6 rfl
      refine s_bit hc (b := fl k p s x y c || hl k p s x y c) (by rw [lb_or, hm c hc, hm2 c hc]) ?_
      have : decide (0 < ink k p s x y c) = (fl k p s x y c || hl k p s x y c) := by
        unfold ink
        cases fl k p s x y c
        · rw [if_neg (by decide)]
          cases hl k p s x y c
          · rfl
          · rw [if_pos rfl]
            exact decide_eq_true (by omega)
        · rw [if_pos rfl]
          exact decide_eq_true (by omega)
      rw [this] at h
      exact h
def fac (a : Nat) (i1 i2 : Bool) : Nat := (if i1 then 0 else 10 - a) + (if i2 then 0 else a)
theorem T_f4 : ∀ a, a < 11 → ((10 : Int32) - 0).toInt64 = lN (fac a false false) ∧ (10 - (0 + nI a)).toInt64 = lN (fac a false true) ∧ (10 - (0 + (10 - nI a))).toInt64 = lN (fac a true false) ∧ (10 - (0 + (10 - nI a) + nI a)).toInt64 = lN (fac a true true) := by decide +kernel
theorem T_f5 : ∀ a, a < 11 → ((10 : Int64) - (nI a).toInt64) + (nI a).toInt64 = lN (fac a false false) ∧ ((10 : Int64) - (nI a).toInt64) + 0 = lN (fac a false true) ∧ (0 : Int64) + (nI a).toInt64 = lN (fac a true false) ∧ (0 : Int64) + 0 = lN (fac a true true) := by decide +kernel
theorem fac_le {a : Nat} (h : a ≤ 10) (i1 i2 : Bool) : fac a i1 i2 ≤ 10 := by
  unfold fac
  cases i1 <;> cases i2 <;> simp <;> omega
/-- the paint and the factors' product after i prints -/
def slp (k s x y c a p : Nat) : Nat → Nat × Nat
  | 0 => (p, 1)
  | i + 1 => ((slp k s x y c a p i).1 - tkn k (slp k s x y c a p i).1, (slp k s x y c a p i).2 * fac a (decide (0 < ink k (slp k s x y c a p i).1 s x y c)) (decide (0 < ink k (slp k s x y c a p i).1 s (x + 1) y c)))
theorem slp_in {k s x y c a p : Nat} (ha : a ≤ 10) (hp : p ≤ 12) : ∀ i, (slp k s x y c a p i).1 ≤ 12 ∧ (slp k s x y c a p i).2 ≤ 10 ^ i := by
  intro i
  induction i with
  | zero => exact ⟨hp, Nat.le_refl _⟩
  | succ i ih =>
    refine ⟨Nat.le_trans (Nat.sub_le _ _) ih.1, ?_⟩
    rw [Nat.pow_succ]
    exact Nat.mul_le_mul ih.2 (fac_le ha _ _)
