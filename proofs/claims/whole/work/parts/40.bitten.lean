theorem al_fits {pm s1 : Int64} {P : Nat → Bool} {A B : Nat → Nat} {w : Nat} (hA : ∀ i, i < w → A i ≤ 63) (h1 : ∀ c, c < 64 → lb s1 c = snb A B 1 w c) (hm : ∀ c, c < 64 → lb pm c = P c) : s1 &&& (pm ^^^ (-1)) = 0 ↔ alb (fun i => !decide (B i = 1) || P (A i)) w = true := by
  rw [eq0_iff, alb_iff]
  constructor
  · intro g i hi
    have a1 := hA i hi
    have k1 := g (A i) (by omega)
    rw [lb_and, lb_xor, lb_m1 (by omega), h1 _ (by omega), hm _ (by omega)] at k1
    by_cases q : B i = 1
    · rw [(snb_iff w (A i)).mpr ⟨i, hi, q, rfl⟩] at k1
      cases hp : P (A i)
      · rw [hp] at k1
        cases k1
      · rw [Bool.or_true]
    · rw [decide_eq_false q]
      rfl
  · intro g c hc
    rw [lb_and, lb_xor, lb_m1 hc, h1 c hc, hm c hc]
    cases hs : snb A B 1 w c
    · rfl
    · obtain ⟨i, hi, q1, q2⟩ := (snb_iff w c).mp hs
      have := g i hi
      rw [decide_eq_true q1, q2] at this
      rw [show P c = true from this]
      rfl
theorem s5_bl {M : ZI} {L : ZL} {v t x y w : Nat} {A B : Nat → Nat} {x1 x4 x5 : Int32} (hv : v < 65536) (ht : t ≤ 3) (hx : x ≤ 7) (hy : y ≤ 7) (hw : w ≤ 8) (ew : M 0 76 = nI w) (hA : ∀ i, i < w → A i ≤ 63 ∧ B i ≤ 1 ∧ M 0 (77 + i) = nI (2 * A i + B i)) {post : Int32 → ZI → ZL → Prop} {K : Int32 → Int32 → Int32 → Prop} (h : K (nI (bm v t x y A B w)) (if alb (fun i => !decide (B i = 1) || cvi (lk v t) x y 16 (A i)) w then 1 else 0) (nI w)) : ∃ n, itF (w_X5_bitten_L59 M L x1 (nI x) (nI y) x4 x5 (nI (lk v t)) post K) (fun _ _ _ => False) n 0 1 0 := by
  refine ⟨w + 1, it_up _ _ (fun (i : Nat) (rec : Int32 → Int32 → Int32 → Prop) => rec (nI (bm v t x y A B i)) (if alb (fun i => !decide (B i = 1) || cvi (lk v t) x y 16 (A i)) i then 1 else 0) (nI i)) w (fun i hi rec ih => ?_) (fun rec => ?_)⟩
  · unfold w_X5_bitten_L59
    obtain ⟨a1, a2, a3⟩ := hA i hi
    rw [ew, show (77 : Int32) + nI i = nI (77 + i) from nI_add 77 i, ncl (by omega), a3, (T_hb _ (by omega)).1, (T_hb _ (by omega)).2, show (2 * A i + B i) / 2 = A i by omega, show (2 * A i + B i) % 2 = B i by omega, nI_1 i]
    refine bF (nI_ge (b := w) hi (by omega)) ⟨in_ (by omega) (by decide), ?_⟩
    rintro v17 rfl
    refine s5_covers (lk_lt v ht) hx hy (by omega) ⟨in_ (by omega) (by decide), fun q => ?_, fun q => ?_⟩
    · have q : ¬ B i = 1 := fun e => q (by rw [e]; rfl)
      have ea : alb (fun i => !decide (B i = 1) || cvi (lk v t) x y 16 (A i)) (i + 1) = alb (fun i => !decide (B i = 1) || cvi (lk v t) x y 16 (A i)) i := by
        show (alb _ i && (!decide (B i = 1) || _)) = _
        rw [decide_eq_false q, Bool.not_false, Bool.true_or, Bool.and_true]
      rw [ea] at ih
      obtain ⟨s1, s2⟩ := orb_step (n := i) (rec := fun z => rec z (if alb (fun i => !decide (B i = 1) || cvi (lk v t) x y 16 (A i)) i then 1 else 0) (nI (i + 1))) ih
      cases hcv : cvi (lk v t) x y 16 (A i)
      · exact b0 (s2 (by rw [hcv, Bool.and_false]; decide))
      · refine b1 ?_
        obtain ⟨⟨g1, g2⟩, g3, g4⟩ := (cov_iff.mp hcv).1
        rw [(T_d8 (A i) (by omega)).1, (T_d8 (A i) (by omega)).2, nsub g3, show (4 : Int32) * nI (A i / 8 - y) + nI (A i % 8) = nI (4 * (A i / 8 - y) + A i % 8) from mc 4 _ _, nsub (by omega), show 4 * (A i / 8 - y) + A i % 8 - x = ix x y (A i) by unfold ix; omega, sh1 _ (by unfold ix; omega)]
        rintro v19 rfl
        exact s1 (by rw [hcv, decide_eq_true (show B i = 0 by omega)]; rfl)
    · have q : B i = 1 := nI_ij (b := 1) (by omega) (by decide) q
      have ea : alb (fun i => !decide (B i = 1) || cvi (lk v t) x y 16 (A i)) (i + 1) = (alb (fun i => !decide (B i = 1) || cvi (lk v t) x y 16 (A i)) i && cvi (lk v t) x y 16 (A i)) := by
        show (alb _ i && (!decide (B i = 1) || _)) = _
        rw [decide_eq_true q, Bool.not_true, Bool.false_or]
      rw [ea] at ih
      obtain ⟨s1, s2⟩ := orb_step (n := i) (rec := fun z => rec z (if (alb (fun i => !decide (B i = 1) || cvi (lk v t) x y 16 (A i)) i && cvi (lk v t) x y 16 (A i)) = true then 1 else 0) (nI (i + 1))) ih
      have s2 := s2 (by rw [decide_eq_false (show ¬ B i = 0 by omega), Bool.false_and]; decide)
      cases ha : alb (fun i => !decide (B i = 1) || cvi (lk v t) x y 16 (A i)) i
      · rw [ha, Bool.false_and] at s2
        exact b0 s2
      · rw [ha, Bool.true_and] at s2
        refine b1 ?_
        cases hcv : cvi (lk v t) x y 16 (A i)
        · rw [hcv] at s2
          exact b0 s2
        · rw [hcv] at s2
          exact b1 s2
  · unfold w_X5_bitten_L59
    rw [ew]
    exact bT (nI_le (Nat.le_refl w) (by omega)) h
theorem bm_lt {v t x y w : Nat} {A B : Nat → Nat} (h : ∀ i, i < w → A i ≤ 63) : bm v t x y A B w < 2 ^ 31 := by
  have g : ∀ n, n ≤ w → bm v t x y A B n < 2 ^ 16 := by
    intro n
    induction n with
    | zero => exact fun _ => (show 0 < 2 ^ 16 by decide)
    | succ n ih =>
      intro hn
      have ih := ih (by omega)
      have e : bm v t x y A B (n + 1) = if (decide (B n = 0) && cvi (lk v t) x y 16 (A n)) then bm v t x y A B n ||| 2 ^ ix x y (A n) else bm v t x y A B n := rfl
      rw [e]
      split
      · rename_i q
        have := (cov_iff.mp ((Bool.and_eq_true _ _).mp q).2).1
        refine Nat.or_lt_two_pow ih (Nat.pow_lt_pow_right (by decide) ?_)
        unfold ing at this
        unfold ix
        omega
      · exact ih
  exact Nat.lt_of_lt_of_le (g w (Nat.le_refl w)) (by decide)
theorem s5_bits {M : ZI} {L : ZL} {mm t : Nat} {x1 x2 x3 x5 z6 z8 : Int32} (hm : mm < 2 ^ 31) (ht : t ≤ 3) {post : Int32 → ZI → ZL → Prop} {K : Int32 → Int32 → Prop} (h : K (nI (orb (fun c => mm.testBit (lnd c t)) id 16)) (nI 16)) : ∃ n, itF (w_X5_bitten_L190 M L x1 x2 x3 (nI t) x5 z6 (nI mm) z8 post K) (fun _ _ => False) n 0 0 := by
  refine ⟨17, it_up _ _ (fun (c : Nat) (rec : Int32 → Int32 → Prop) => rec (nI (orb (fun c => mm.testBit (lnd c t)) id c)) (nI c)) 16 (fun c hc rec ih => ?_) (fun rec => ?_)⟩
  · unfold w_X5_bitten_L190
    have hl := lnd_lt t (by omega) c hc
    refine bF (nI_ge (b := 16) hc (by decide)) (s_lands hc ht (s_has hm (by omega) ?_))
    rw [nI_1, sh1 c (by omega), or0]
    obtain ⟨s1, s2⟩ := orb_step (n := c) (rec := fun z => rec z (nI (c + 1))) ih
    cases hb : mm.testBit (lnd c t)
    · refine b0 ?_
      rintro v25 rfl
      exact s2 (by rw [hb]; decide)
    · refine b1 ?_
      rintro v26 rfl
      exact s1 hb
  · unfold w_X5_bitten_L190
    exact bT (nI_le (a := 16) (b := 16) (by decide) (by decide)) h
theorem p_bitten : st_bitten Inv := by
  intro N D X PM PL i0 i1 M L x1 x2 x3 x4 x5 hI
  have bad : ¬ (vpr 0 x1 x2 x3 x4 ∧ vld x5 0 1) → w_X5_bitten M L x1 x2 x3 x4 x5 (fun r2 M' L' => (-2 : Int32) = r2 ∧ Inv N D X (mu PM 7 0 (PM 7 0 + 1)) PL i0 i1 M' L') := by
    intro vv
    unfold w_X5_bitten
    exact s_isWhat (fun g1 => b1 (s5_isPlace (fun g2 => b1 (s_in (a := 0) (b := 3) (by decide) (by decide) (fun g3 => b1 (s_isWhat (fun g4 => absurd ⟨⟨⟨0, Nat.zero_le _, by decide, rfl⟩, g1, g2, g3⟩, g4⟩ vv) (fun _ => b0n (s5_bad ⟨rfl, inv_bad hI⟩)))) (fun _ => b0 (s5_bad ⟨rfl, inv_bad hI⟩)))) (fun _ => b0 (s5_bad ⟨rfl, inv_bad hI⟩)))) (fun _ => b0 (s5_bad ⟨rfl, inv_bad hI⟩))
  unfold w_X4_bitten
  refine s4_isPrint (fun vv => b1 ?_) (fun vv => b0 (s4_bad (bad (fun q => vv q.1))))
  refine s_within (a := 0) (b := 1) (by decide) (by decide) (fun v5 => b1n ?_) (fun v5 => b0n (s4_bad (bad (fun q => v5 q.2))))
  obtain ⟨-, ⟨z, -, hz, rfl⟩, ⟨⟨x, -, hx, rfl⟩, ⟨y, -, hy, rfl⟩⟩, ⟨t, -, ht, rfl⟩⟩ := id vv
  obtain ⟨b, -, hb, rfl⟩ := id v5
  obtain ⟨v, hv, e1, e2⟩ := hI.1.pot hz
  obtain ⟨w, hw, w1, w2, hA⟩ := hI.1.see
  have hA2 : ∀ i, i < w → sA (M 0) i ≤ 63 ∧ sB (M 0) i ≤ 1 ∧ N 5 i = nI (sA (M 0) i) ∧ N 6 i = nI (sB (M 0) i) := fun i hi => ⟨(hA i hi).1, (hA i hi).2.1, (hA i hi).2.2.1, (hA i hi).2.2.2.1⟩
  have hA3 : ∀ i, i < w → sA (M 0) i ≤ 63 ∧ sB (M 0) i ≤ 1 ∧ M 0 (77 + i) = nI (2 * sA (M 0) i + sB (M 0) i) := fun i hi => ⟨(hA i hi).1, (hA i hi).2.1, (hA i hi).2.2.2.2⟩
  refine ⟨in_ (by omega) (by decide), ?_⟩
  rw [ncl (by omega), e1]
  rintro v9 rfl
  have hm : ∀ r : Int32, (¬ b = 1 → r = nI (orb (bw v t x y (sA (M 0)) (sB (M 0)) w) id 16)) → (b = 1 → r = if alb (fun i => !decide (sB (M 0) i = 1) || cvi (lk v t) x y 16 (sA (M 0) i)) w then 1 else 0) → w_X5_bitten M L (nI z) (nI x) (nI y) (nI t) (nI b) (fun r2 M' L' => r = r2 ∧ Inv N D X PM PL i0 i1 M' L') := by
    intro r r0 r1
    unfold w_X5_bitten
    refine s_isWhat (fun _ => b1 (s5_isPlace (fun _ => b1 (s_in (a := 0) (b := 3) (by decide) (by decide) (fun _ => b1 (s_isWhat (fun _ => b1n (s_looksOf hz ht e2 hv ?_)) (fun q => absurd v5 q))) (fun q => absurd vv.2.2.2 q))) (fun q => absurd vv.2.2.1 q))) (fun q => absurd vv.2.1 q)
    refine s5_bl hv ht hx hy hw w2 hA3 ⟨fun q => ?_, fun q => ?_⟩
    · have q : ¬ b = 1 := fun e => q (by rw [e]; rfl)
      refine s5_bits (bm_lt (fun i hi => (hA i hi).1)) ht ⟨?_, hI⟩
      rw [r0 q, orb_congr (fun c hc => (bm_bit (by omega) hc))]
    · have q : b = 1 := nI_ij (b := 1) (by omega) (by decide) q
      have r1 := r1 q
      cases ha : alb (fun i => !decide (sB (M 0) i = 1) || cvi (lk v t) x y 16 (sA (M 0) i)) w
      · rw [ha] at r1
        exact b0 ⟨r1, hI⟩
      · rw [ha] at r1
        exact b1 ⟨r1, hI⟩
  refine ⟨fun q => ?_, fun q => ?_⟩
  · have q : b = 1 := by
      by_cases e : b = 0
      · exact absurd (by rw [e]; rfl) q
      · omega
    refine s_printed hv ht (s_placed (lk_lt v ht) (by omega) hy (fun pm hpm => s_seen (b := 1) hw (by decide) w1 hA2 (fun s1 h1 => ?_)))
    have E := al_fits (fun i hi => (hA i hi).1) h1 hpm
    rw [lc_eq, E]
    refine ⟨fun g => hm 0 (fun e => absurd q e) (fun _ => ?_), fun g => hm 1 (fun e => absurd q e) (fun _ => ?_)⟩
    · rw [if_neg g]
    · rw [if_pos g]
  · have q : b = 0 := nI_ij (b := 0) (by omega) (by decide) q
    exact s_cutAway hv ht hx hy hw w1 hA2 (hm _ (fun _ => rfl) (fun e => absurd e (by omega)))
