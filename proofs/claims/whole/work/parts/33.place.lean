/-! placings -/
theorem T_d8 : ∀ c, c < 64 → jrem (nI c) 8 = nI (c % 8) ∧ nI c / 8 = nI (c / 8) := by decide +kernel
theorem T_neg : ∀ a, a < 8 → ∀ x, x < 8 → a < x → nI a - nI x < nI 0 := by decide +kernel
theorem vsub {a x : Nat} (ha : a < 8) (hx : x < 8) (h : vld (nI a - nI x) 0 3) : x ≤ a ∧ a ≤ x + 3 := by
  by_cases q : x ≤ a
  · rw [nsub q] at h
    obtain ⟨k, -, hk, e⟩ := h
    have := nI_ij (by omega) (by omega) e
    omega
  · exact absurd (T_neg a ha x hx (by omega)) ((vld_iff (by decide) (by decide)).mp h).1
theorem vsub_mk {a x : Nat} (h : x ≤ a ∧ a ≤ x + 3) : vld (nI a - nI x) 0 3 := by
  rw [nsub h.1]
  exact ⟨_, Nat.zero_le _, by omega, rfl⟩
theorem s5_covers {s x y c : Nat} (hs : s < 65536) (hx : x ≤ 7) (hy : y ≤ 7) (hc : c < 64) {post : Int32 → Prop} (h : post (if cvi s x y 16 c then 1 else 0)) : w_X5_covers (nI s) (nI x) (nI y) (nI c) post := by
  unfold w_X5_covers
  rw [(T_d8 c hc).1, (T_d8 c hc).2]
  rintro v1 rfl v2 rfl
  by_cases hr : (x ≤ c % 8 ∧ c % 8 ≤ x + 3) ∧ y ≤ c / 8 ∧ c / 8 ≤ y + 3
  · refine s_in (a := 0) (b := 3) (by decide) (by decide) (fun _ => b1 (s_in (a := 0) (b := 3) (by decide) (by decide) (fun _ => b1 ?_) (fun q => absurd (vsub_mk hr.2) q))) (fun q => absurd (vsub_mk hr.1) q)
    rw [nsub hr.1.1, nsub hr.2.1, show (4 : Int32) * nI (c / 8 - y) + nI (c % 8 - x) = nI (4 * (c / 8 - y) + (c % 8 - x)) from mc 4 _ _]
    refine s_has (by omega) (by omega) ?_
    unfold cvi at h
    rw [decide_eq_true (by omega), Bool.true_and] at h
    cases hb : s.testBit (4 * (c / 8 - y) + (c % 8 - x))
    · rw [hb] at h
      exact b0 h
    · rw [hb] at h
      exact b1 h
  · have h0 : post 0 := by
      unfold cvi at h
      rw [decide_eq_false (by omega), Bool.false_and] at h
      exact h
    refine s_in (a := 0) (b := 3) (by decide) (by decide) (fun q1 => b1 (s_in (a := 0) (b := 3) (by decide) (by decide) (fun q2 => ?_) (fun q => b0 h0))) (fun q => b0 h0)
    exact absurd ⟨vsub (by omega) (by omega) q1, vsub (by omega) (by omega) q2⟩ hr
def EV (v : Nat) (P : ZL) (n : Nat) : Prop := ∀ i, i < n → ∀ c, c < 64 → lb (P 4 i) c = cvi (lk v (i / 64)) (i % 8) (i / 8 % 8) 16 c
theorem s_every {N D X PM : ZI} {PL : ZL} {v : Nat} (hv : v < 65536) {post : ZI → ZI → ZI → ZI → ZL → Prop} (h : ∀ P : ZL, (∀ a, ¬ a = 4 → P a = PL a) → EV v P 256 → post N D X PM P) : w_X4_placeEverywhere N D X PM PL (nI v) post := by
  refine ⟨5, it_up _ _ (fun (t : Nat) (rec : ZL → Int32 → Prop) => ∀ P : ZL, (∀ a, ¬ a = 4 → P a = PL a) → EV v P (64 * t) → rec P (nI t)) 4 (fun t ht rec ih P h1 h2 => ?_) (fun rec P h1 h2 => ?_) PL (fun _ _ => rfl) (fun i hi => absurd hi (by omega))⟩
  · unfold w_X4_placeEverywhere_L2
    refine bF (nI_nlt (a := 3) (b := t) (by omega) (by decide)) (s_printed hv (by omega) ?_)
    refine ⟨65, it_up _ _ (fun (q : Nat) (rec2 : ZL → Int32 → Prop) => ∀ P : ZL, (∀ a, ¬ a = 4 → P a = PL a) → EV v P (64 * t + q) → rec2 P (nI q)) 64 (fun q hq rec2 ih2 P g1 g2 => ?_) (fun rec2 P g1 g2 => ?_) P h1 h2⟩
    · unfold w_X4_placeEverywhere_L16
      refine bF (nI_nlt (a := 63) (b := q) (by omega) (by decide)) ?_
      rw [(T_d8 q hq).1, (T_d8 q hq).2]
      refine s_placed (lk_lt v (by omega)) (by omega) (by omega) (fun m hm => ?_)
      rw [show (64 : Int32) * nI t + nI q = nI (64 * t + q) from mc 64 t q, ncl (by omega), nI_1]
      refine ⟨in_ (by omega) (by decide), ?_⟩
      rintro P3 rfl
      refine ih2 _ (fun a ha => (if_neg ha).trans (g1 a ha)) (fun i hi c hc => ?_)
      by_cases e : i = 64 * t + q
      · subst e
        rw [show (64 * t + q) / 64 = t by omega, show (64 * t + q) % 8 = q % 8 by omega, show (64 * t + q) / 8 % 8 = q / 8 by omega, ← hm c hc]
        exact congrArg (fun z => lb z c) (if_pos rfl)
      · rw [← g2 i (by omega) c hc]
        exact congrArg (fun z => lb z c) (if_neg e)
    · unfold w_X4_placeEverywhere_L16
      refine bT (nI_lt (a := 63) (b := 64) (by decide) (by decide)) ?_
      show rec P (nI t + 1)
      rw [nI_1]
      exact ih P g1 g2
  · unfold w_X4_placeEverywhere_L2
    exact bT (nI_lt (a := 3) (b := 4) (by decide) (by decide)) (h P h1 h2)
def vl (i : Nat) : Bool := decide (i / 8 % 8 ≤ 4) && decide (i % 8 ≤ 4)
theorem T_vl : ∀ i, i < 256 → vl i = true → cnt vl i / 25 = i / 64 ∧ cnt vl i % 5 = i % 8 ∧ cnt vl i / 5 % 5 = i / 8 % 8 ∧ cnt vl i < 100 := by decide +kernel
theorem T_vn : cnt vl 256 = 100 := by decide +kernel
theorem T_wh : ∀ i, i < 256 → jrem (nI i / 8) 8 = nI (i / 8 % 8) ∧ jrem (nI i) 8 = nI (i % 8) ∧ nI i / 64 = nI (i / 64) := by decide +kernel
theorem T_mh : ∀ j, j < 100 → nI j / 25 = nI (j / 25) ∧ jrem (nI j / 5) 5 = nI (j / 5 % 5) ∧ jrem (nI j) 5 = nI (j % 5) := by decide +kernel
theorem mnum (a b c : Nat) : (((100 : Int32) * nI a) + (10 * nI b)) + nI c = nI (100 * a + 10 * b + c) := by
  rw [show (100 : Int32) * nI a = nI (100 * a) from pk_mul 100 a, show (10 : Int32) * nI b = nI (10 * b) from pk_mul 10 b, nI_add, nI_add]
theorem s_wholly {i : Nat} (hi : i < 256) {post : Int32 → Prop} (h : post (if vl i then 1 else 0)) : w_X4_isWhollyOnSheet (nI i) post := by
  unfold w_X4_isWhollyOnSheet
  rw [(T_wh i hi).1, (T_wh i hi).2.1]
  unfold vl at h
  by_cases h1 : i / 8 % 8 ≤ 4
  · refine bF (nI_nlt (a := 4) h1 (by decide)) ?_
    rw [decide_eq_true h1, Bool.true_and] at h
    by_cases h2 : i % 8 ≤ 4
    · rw [decide_eq_true h2] at h
      exact bF (nI_nlt (a := 4) h2 (by decide)) h
    · rw [decide_eq_false h2] at h
      exact bT (nI_lt (a := 4) (by omega) (by omega)) h
  · rw [decide_eq_false h1, Bool.false_and] at h
    exact bT (nI_lt (a := 4) (by omega) (by omega)) h
def hc (v : Nat) (m : Nat → Int32) (t x y : Nat) : Nat := cnt (fun c => cvi (lk v t) x y 16 c && pd (m c)) 64
def bs (f : Nat → Nat) (g : Nat → Nat) : Nat → Nat × Int32
  | 0 => (0, -1)
  | j + 1 => if f j ≤ (bs f g j).1 then bs f g j else (f j, nI (g j))
theorem bs_in {f g : Nat → Nat} (hf : ∀ j, f j ≤ 64) (hg : ∀ j, j < 100 → g j < 1000) : ∀ j, j ≤ 100 → (bs f g j).1 ≤ 64 ∧ ((bs f g j).1 = 0 ∧ (bs f g j).2 = -1 ∨ 0 < (bs f g j).1 ∧ ∃ n, n < 1000 ∧ (bs f g j).2 = nI n) := by
  intro j
  induction j with
  | zero => exact fun _ => ⟨Nat.zero_le 64, Or.inl ⟨rfl, rfl⟩⟩
  | succ j ih =>
    intro hj
    have ih := ih (by omega)
    have e : bs f g (j + 1) = if f j ≤ (bs f g j).1 then bs f g j else (f j, nI (g j)) := rfl
    rw [e]
    by_cases q : f j ≤ (bs f g j).1
    · rw [if_pos q]
      exact ih
    · rw [if_neg q]
      exact ⟨hf j, Or.inr ⟨by show 0 < f j; omega, g j, hg j (by omega), rfl⟩⟩
