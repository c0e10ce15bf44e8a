theorem l10 (i : Nat) : lN (10 ^ i) * 10 = lN (10 ^ (i + 1)) := by
  rw [Nat.pow_succ]
  exact lN_mul (10 ^ i) 10
theorem s4_sll {N D X PM : ZI} {PL : ZL} {k s x y c a p n : Nat} (hk : k ≤ 5) (hp : p ≤ 12) (hs : s < 65536) (hx : x ≤ 7) (hy : y ≤ 7) (hc : c < 64) (ha : a ≤ 10) (hn : n ≤ 5) {x2 : Int32} {post : Int32 → ZI → ZI → ZI → ZI → ZL → Prop} {K : Int32 → Int64 → Int64 → Int32 → Prop} (h : K (nI (slp k s x y c a p n).1) (lN (slp k s x y c a p n).2) (lN (10 ^ n)) (nI n)) : ∃ q, itF (w_X4_slips_L84 N D X PM PL (nI k) x2 (nI x) (nI y) (nI n) (nI a) (nI c) (nI s) post K) (fun _ _ _ _ => False) q (nI p) 1 1 0 := by
  refine ⟨n + 1, it_up _ _ (fun (i : Nat) (rec : Int32 → Int64 → Int64 → Int32 → Prop) => rec (nI (slp k s x y c a p i).1) (lN (slp k s x y c a p i).2) (lN (10 ^ i)) (nI i)) n (fun i hi rec ih => ?_) (fun rec => ?_)⟩
  · unfold w_X4_slips_L84
    obtain ⟨hq, -⟩ := slp_in (k := k) (s := s) (x := x) (y := y) (c := c) ha hp i
    have e : slp k s x y c a p (i + 1) = ((slp k s x y c a p i).1 - tkn k (slp k s x y c a p i).1, (slp k s x y c a p i).2 * fac a (decide (0 < ink k (slp k s x y c a p i).1 s x y c)) (decide (0 < ink k (slp k s x y c a p i).1 s (x + 1) y c))) := rfl
    rw [e] at ih
    have go : ∀ f : Int64, f = lN (fac a (decide (0 < ink k (slp k s x y c a p i).1 s x y c)) (decide (0 < ink k (slp k s x y c a p i).1 s (x + 1) y c))) → w_X0_paintTaken (nI k) (nI (slp k s x y c a p i).1) (fun r29 => ∀ v30 : Int32, v30 = nI (slp k s x y c a p i).1 - r29 → rec v30 (lN (slp k s x y c a p i).2 * f) (lN (10 ^ i) * 10) (nI i + 1)) := by
      intro f ef
      refine s0_take hk hq ?_
      rw [nsub (tkn_le k (by omega) _ (by omega)).1, ef, lN_mul, l10, nI_1]
      rintro v30 rfl
      exact ih
    obtain ⟨f1, f2, f3, f4⟩ := T_f4 a (by omega)
    rw [nI_1 x]
    refine bF (nI_ge (b := n) hi (by omega)) (s0_inks hk hq hs (by omega) hy hc ?_)
    cases h1 : decide (0 < ink k (slp k s x y c a p i).1 s x y c)
    · rw [h1] at go
      refine b0 (s0_inks hk hq hs (by omega) hy hc ?_)
      cases h2 : decide (0 < ink k (slp k s x y c a p i).1 s (x + 1) y c)
      · rw [h2] at go
        refine b0 ?_
        rintro v27 rfl v28 rfl
        exact go _ f1
      · rw [h2] at go
        refine b1 ?_
        rintro v31 rfl v27 rfl v28 rfl
        exact go _ f2
    · rw [h1] at go
      refine b1 ?_
      rintro v36 rfl
      refine s0_inks hk hq hs (by omega) hy hc ?_
      cases h2 : decide (0 < ink k (slp k s x y c a p i).1 s (x + 1) y c)
      · rw [h2] at go
        refine b0 ?_
        rintro v27 rfl v28 rfl
        exact go _ f3
      · rw [h2] at go
        refine b1 ?_
        rintro v31 rfl v27 rfl v28 rfl
        exact go _ f4
  · unfold w_X4_slips_L84
    exact bT (nI_le (Nat.le_refl n) (by omega)) h
theorem s5_sll {M : ZI} {L : ZL} {k s x y c a p n : Nat} (hk : k ≤ 5) (hp : p ≤ 12) (hs : s < 65536) (hx : x ≤ 7) (hy : y ≤ 7) (hc : c < 64) (ha : a ≤ 10) (hn : n ≤ 5) {x2 : Int32} {post : Int32 → ZI → ZL → Prop} {K : ZI → ZL → Int64 → Int64 → Int32 → Int32 → Prop} (h : ∀ Q : ZI, (∀ a, ¬ a = 4 → Q a = M a) → K Q L (lN (slp k s x y c a p n).2) (lN (10 ^ n)) (nI (slp k s x y c a p n).1) (nI n)) : ∃ q, itF (w_X5_slips_L82 (nI k) x2 (nI x) (nI y) (nI n) (nI a) (nI c) (nI s) post K) (fun _ _ _ _ _ _ => False) q M L 1 1 (nI p) 0 := by
  refine ⟨n + 1, it_up _ _ (fun (i : Nat) (rec : ZI → ZL → Int64 → Int64 → Int32 → Int32 → Prop) => ∀ Q : ZI, (∀ a, ¬ a = 4 → Q a = M a) → rec Q L (lN (slp k s x y c a p i).2) (lN (10 ^ i)) (nI (slp k s x y c a p i).1) (nI i)) n (fun i hi rec ih Q q1 => ?_) (fun rec Q q1 => ?_) M (fun _ _ => rfl)⟩
  · unfold w_X5_slips_L82
    obtain ⟨hq, -⟩ := slp_in (k := k) (s := s) (x := x) (y := y) (c := c) ha hp i
    have e : slp k s x y c a p (i + 1) = ((slp k s x y c a p i).1 - tkn k (slp k s x y c a p i).1, (slp k s x y c a p i).2 * fac a (decide (0 < ink k (slp k s x y c a p i).1 s x y c)) (decide (0 < ink k (slp k s x y c a p i).1 s (x + 1) y c))) := rfl
    rw [e] at ih
    have go : ∀ (R : ZI) (f : Int64), (∀ a, ¬ a = 4 → R a = M a) → f = lN (fac a (decide (0 < ink k (slp k s x y c a p i).1 s x y c)) (decide (0 < ink k (slp k s x y c a p i).1 s (x + 1) y c))) → w_X5_takesBy (nI k) (nI (slp k s x y c a p i).1) (fun r29 => ∀ v30 : Int32, v30 = nI (slp k s x y c a p i).1 - r29 → rec R L (lN (slp k s x y c a p i).2 * f) (lN (10 ^ i) * 10) v30 (nI i + 1)) := by
      intro R f hR ef
      refine s5_take hk hq ?_
      rw [nsub (tkn_le k (by omega) _ (by omega)).1, ef, lN_mul, l10, nI_1]
      rintro v30 rfl
      exact ih R hR
    obtain ⟨f1, f2, f3, f4⟩ := T_f5 a (by omega)
    rw [nI_1 x]
    have e0 : ∀ m, m < 2 ^ 31 → (nI m ≤ 0 ↔ m = 0) := fun m hm => (le_iff (b := 0) hm (by decide)).trans (by omega)
    have k1 := ink_le (s := s) (x := x) (y := y) (c := c) hk hq
    have k2 := ink_le (s := s) (x := x + 1) (y := y) (c := c) hk hq
    refine bF (nI_ge (b := n) hi (by omega)) (s5_ink hk hq hs (by omega) hy (fun M1 r1 r2 => ⟨in_ hc (by decide), ?_⟩))
    rw [ncl (by omega), r2 c hc, e0 _ (by omega)]
    refine ⟨fun g1 => ?_, fun g1 => ?_⟩
    · rw [decide_eq_false (show ¬ 0 < ink k (slp k s x y c a p i).1 s x y c by omega)] at go
      rintro v20 rfl
      refine s5_ink hk hq hs (by omega) hy (fun M2 u1 u2 => ⟨in_ hc (by decide), ?_⟩)
      have hR : ∀ a, ¬ a = 4 → M2 a = M a := fun a ha => (u1 a ha).trans ((r1 a ha).trans (q1 a ha))
      rw [u2 c hc, e0 _ (by omega)]
      refine ⟨fun g2 => ?_, fun g2 => ?_⟩
      · rw [decide_eq_false (show ¬ 0 < ink k (slp k s x y c a p i).1 s (x + 1) y c by omega)] at go
        rintro v23 rfl v24 rfl v25 rfl
        exact go M2 _ hR f1
      · rw [decide_eq_true (show 0 < ink k (slp k s x y c a p i).1 s (x + 1) y c by omega)] at go
        rintro v23 rfl v24 rfl v25 rfl
        exact go M2 _ hR f2
    · rw [decide_eq_true (show 0 < ink k (slp k s x y c a p i).1 s x y c by omega)] at go
      refine s5_ink hk hq hs (by omega) hy (fun M2 u1 u2 => ⟨in_ hc (by decide), ?_⟩)
      have hR : ∀ a, ¬ a = 4 → M2 a = M a := fun a ha => (u1 a ha).trans ((r1 a ha).trans (q1 a ha))
      rw [u2 c hc, e0 _ (by omega)]
      refine ⟨fun g2 => ?_, fun g2 => ?_⟩
      · rw [decide_eq_false (show ¬ 0 < ink k (slp k s x y c a p i).1 s (x + 1) y c by omega)] at go
        rintro v23 rfl v24 rfl v25 rfl
        exact go M2 _ hR f3
      · rw [decide_eq_true (show 0 < ink k (slp k s x y c a p i).1 s (x + 1) y c by omega)] at go
        rintro v23 rfl v24 rfl v25 rfl
        exact go M2 _ hR f4
  · unfold w_X5_slips_L82
    exact bT (nI_le (Nat.le_refl n) (by omega)) (h Q q1)
theorem p_slips : st_slips Inv := by
  intro N D X PM PL i0 i1 M L x1 x2 x3 x4 x5 x6 x7 hI
  have bad : ¬ (vpr x1 x2 x3 x4 0 ∧ vld x5 0 5 ∧ vld x6 0 10 ∧ vld x7 0 63) → w_X5_slips M L x1 x2 x3 x4 x5 x6 x7 (fun r2 M' L' => (-2 : Int32) = r2 ∧ Inv N D X (mu PM 7 0 (PM 7 0 + 1)) PL i0 i1 M' L') := by
    intro vv
    unfold w_X5_slips
    exact s5_isPrint (fun g1 => b1 (s_in (a := 0) (b := 5) (by decide) (by decide) (fun g2 => b1 (s_in (a := 0) (b := 10) (by decide) (by decide) (fun g3 => b1 (s_in (a := 0) (b := 63) (by decide) (by decide) (fun g4 => absurd ⟨g1, g2, g3, g4⟩ vv) (fun _ => b0n (s5_bad ⟨rfl, inv_bad hI⟩)))) (fun _ => b0 (s5_bad ⟨rfl, inv_bad hI⟩)))) (fun _ => b0 (s5_bad ⟨rfl, inv_bad hI⟩)))) (fun _ => b0 (s5_bad ⟨rfl, inv_bad hI⟩))
  unfold w_X4_slips
  refine s4_isPrint (fun vv => b1 ?_) (fun vv => b0 (s4_bad (bad (fun q => vv q.1))))
  refine s_within (a := 0) (b := 5) (by decide) (by decide) (fun v5 => b1 ?_) (fun v5 => b0 (s4_bad (bad (fun q => v5 q.2.1))))
  refine s_within (a := 0) (b := 10) (by decide) (by decide) (fun v6 => b1 ?_) (fun v6 => b0 (s4_bad (bad (fun q => v6 q.2.2.1))))
  refine s_within (a := 0) (b := 63) (by decide) (by decide) (fun v7 => b1n ?_) (fun v7 => b0n (s4_bad (bad (fun q => v7 q.2.2.2))))
  obtain ⟨⟨k, -, hk, rfl⟩, ⟨z, -, hz, rfl⟩, ⟨⟨x, -, hx, rfl⟩, ⟨y, -, hy, rfl⟩⟩, -⟩ := id vv
  obtain ⟨n, -, hn, rfl⟩ := id v5
  obtain ⟨a, -, ha, rfl⟩ := id v6
  obtain ⟨c, -, hc, rfl⟩ := id v7
  obtain ⟨v, hv, e1, e2⟩ := hI.1.pot hz
  obtain ⟨p, hp, p1, p2⟩ := hI.1.pnt
  have h10 : 10 ^ n ≤ 100000 := (Nat.pow_le_pow_right (n := 10) (by decide) hn)
  have h11 : 0 < 10 ^ n := Nat.pow_pos (by decide)
  have hu := (slp_in (k := k) (s := lk v 0) (x := x) (y := y) (c := c) ha hp n).2
  refine ⟨in_ (by omega) (by decide), ?_⟩
  rw [ncl (by omega), e1, p1]
  refine s_printed (t := 0) hv (by decide) ?_
  rintro v24 rfl
  refine s4_sll hk hp (lk_lt v (by decide)) hx hy (by omega) ha hn ?_
  rw [lN_sub hu]
  refine s4_frac (Nat.sub_le _ _) h11 h10 ?_
  unfold w_X5_slips
  refine s5_isPrint (fun _ => b1 (s_in (a := 0) (b := 5) (by decide) (by decide) (fun _ => b1 (s_in (a := 0) (b := 10) (by decide) (by decide) (fun _ => b1 (s_in (a := 0) (b := 63) (by decide) (by decide) (fun _ => b1n ?_) (fun q => absurd v7 q))) (fun q => absurd v6 q))) (fun q => absurd v5 q))) (fun q => absurd vv q)
  refine s_looksOf (t := 0) hz (by decide) e2 hv ?_
  rw [p2]
  rintro v17 rfl
  refine s5_sll hk hp (lk_lt v (by decide)) hx hy (by omega) ha hn (fun Q q1 => ?_)
  rw [lN_sub hu]
  refine s5_frac (Nat.sub_le _ _) h11 h10 ⟨rfl, ?_⟩
  refine hI.re ?_ (q1 3 (by decide)) (q1 7 (by decide)) (q1 8 (by decide)) (q1 18 (by decide)) (q1 19 (by decide)) (q1 20 (by decide)) (q1 21 (by decide)) rfl rfl
  rw [q1 0 (by decide), q1 5 (by decide), q1 6 (by decide)]
  exact hI.1
