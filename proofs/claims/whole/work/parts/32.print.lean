theorem s_takeP {T O : ZI} {post : ZI → Prop} (h : ∀ T' : ZI, (∀ k, k < 2 → T' 0 k = O 0 k) → (∀ k, k < 64 → T' 1 k = O 1 k) → T' 2 0 = O 2 0 → post T') : w_X2_takeOverPrints T O post := by
  unfold w_X2_takeOverPrints
  rintro T1 rfl T2 rfl T3 rfl
  exact h _ (fun k hk => c0 hk) (fun k hk => c0 hk) rfl
theorem p_print : st_print Inv := by
  intro N D X PM PL i0 i1 M L x1 x2 x3 x4 x5 hI
  unfold w_X4_print
  refine s4_isPrint (fun vv => b1n ?_) (fun vv => b0n (s4_bad ?_))
  · obtain ⟨⟨k, -, hk, rfl⟩, ⟨z, -, hz, rfl⟩, ⟨⟨x, -, hx, rfl⟩, ⟨y, -, hy, rfl⟩⟩, ⟨t, -, ht, rfl⟩⟩ := id vv
    obtain ⟨p, hp, p1, p2⟩ := hI.1.pnt
    rw [p1]
    by_cases h0 : p = 0
    · subst h0
      refine b0n (s4_no ?_)
      unfold w_X5_print
      refine s5_isPrint (fun _ => b1n ?_) (fun q => absurd vv q)
      rw [p2]
      exact b0n (s5_no ⟨rfl, inv_no hI⟩)
    · have hp0 : ¬ nI p = 0 := nI_ne0 (by omega) (by omega)
      obtain ⟨w, hw, e1, e2⟩ := hI.1.um
      obtain ⟨v, hv, v1, v2⟩ := hI.1.pot hz
      refine nF hp0 (s_remember hw e2 (fun T' t1 t2 t3 t4 t5 => ?_))
      refine s_put (g := fun c => (M 0 c).toNatClampNeg) hk hz hx hy ht hv hp (by rw [t1 0 (by decide)]; exact v1) (by rw [t1 2 (by decide)]; exact p1) (fun c hc => by rw [t1 1 (by decide)]; exact ⟨(hI.1.cel hc).1, (hI.1.cel hc).2.2⟩) (fun T2 a1 a2 a3 => ?_)
      unfold w_X5_print
      refine s5_isPrint (fun _ => b1n ?_) (fun q => absurd vv q)
      rw [p2]
      refine nF hp0 (s_note hw e1 (fun M' g1 g2 g3 g4 => ?_))
      have m0 : M' 0 = M 0 := g1 0 (by decide) (by decide)
      refine s5_one (g := fun c => (M 0 c).toNatClampNeg) hk hz hx hy ht hv hp (by rw [m0]; exact v2) (by rw [m0]; exact p2) (fun c hc => by rw [m0]; exact ⟨(hI.1.cel hc).2.1, (hI.1.cel hc).2.2⟩) (fun M2 b1 b2 b3 b4 => ⟨rfl, ?_⟩)
      have hR : RT T' (M' 0) (M' 5) (M' 6 0) := by
        rw [g2, m0]
        exact RT_note hw (by rw [← e1]; exact hI.1) t1 t2 t3 t4 t5 g3 g4
      have hb : ∀ a, ¬ a = 0 → ¬ a = 4 → ¬ a = 5 → ¬ a = 6 → M2 a = M a := fun a q1 q2 q3 q4 => (b1 a q1 q2).trans (g1 a q3 q4)
      refine hI.re ?_ (hb 3 (by decide) (by decide) (by decide) (by decide)) (hb 7 (by decide) (by decide) (by decide) (by decide)) (hb 8 (by decide) (by decide) (by decide) (by decide)) (hb 18 (by decide) (by decide) (by decide) (by decide)) (hb 19 (by decide) (by decide) (by decide) (by decide)) (hb 20 (by decide) (by decide) (by decide) (by decide)) (hb 21 (by decide) (by decide) (by decide) (by decide)) hI.2.2.2.2.2.1 hI.2.2.2.2.2.2
      rw [b1 5 (by decide) (by decide), b1 6 (by decide) (by decide)]
      exact RT_put hR a1 (by omega) a2 (fun c hc => mx_le (hI.1.cel hc).2.2 (ink_le hk hp)) a3 b3 b2 b4
  · unfold w_X5_print
    exact s5_isPrint (fun q => absurd q vv) (fun _ => b0n (s5_bad ⟨rfl, inv_bad hI⟩))
theorem p_adds : st_adds Inv := by
  intro N D X PM PL i0 i1 M L x1 x2 x3 x4 x5 hI
  unfold w_X4_adds
  refine s4_isPrint (fun vv => b1n ?_) (fun vv => b0n (s4_bad ?_))
  · obtain ⟨⟨k, -, hk, rfl⟩, ⟨z, -, hz, rfl⟩, ⟨⟨x, -, hx, rfl⟩, ⟨y, -, hy, rfl⟩⟩, ⟨t, -, ht, rfl⟩⟩ := id vv
    obtain ⟨p, hp, p1, p2⟩ := hI.1.pnt
    rw [p1]
    by_cases h0 : p = 0
    · subst h0
      refine b0n (s4_no ?_)
      unfold w_X5_adds
      refine s5_isPrint (fun _ => b1n ?_) (fun q => absurd vv q)
      rw [p2]
      exact b0n (s5_no ⟨rfl, inv_no hI⟩)
    · have hp0 : ¬ nI p = 0 := nI_ne0 (by omega) (by omega)
      obtain ⟨v, hv, v1, v2⟩ := hI.1.pot hz
      refine nF hp0 (s_takeP (fun T' t0 t1 t2 => ?_))
      refine s_put (g := fun c => (M 0 c).toNatClampNeg) hk hz hx hy ht hv hp ((t0 z (by omega)).trans v1) (t2.trans p1) (fun c hc => ⟨(t1 c hc).trans (hI.1.cel hc).1, (hI.1.cel hc).2.2⟩) (fun T2 a1 a2 a3 => ?_)
      unfold w_X5_adds
      refine s5_isPrint (fun _ => b1n ?_) (fun q => absurd vv q)
      rw [p2]
      refine nF hp0 (s_looksOf hz ht v2 hv ?_)
      rw [p2]
      refine s5_ink hk hp (lk_lt v ht) (by omega) hy (fun M4 r1 r2 => ?_)
      have m0 : M4 0 = M 0 := r1 0 (by decide)
      refine s5_darker (g := fun c => (M 0 c).toNatClampNeg) (fun c hc => ⟨r2 c hc, ink_le hk hp⟩) (fun c hc => by rw [m0]; exact ⟨(hI.1.cel hc).2.1, (hI.1.cel hc).2.2⟩) ⟨rfl, ?_⟩
      refine hI.re ?_ (r1 3 (by decide)) (r1 7 (by decide)) (r1 8 (by decide)) (r1 18 (by decide)) (r1 19 (by decide)) (r1 20 (by decide)) (r1 21 (by decide)) hI.2.2.2.2.2.1 hI.2.2.2.2.2.2
      rw [m0, r1 5 (by decide), r1 6 (by decide)]
      exact hI.1
  · unfold w_X5_adds
    exact s5_isPrint (fun q => absurd q vv) (fun _ => b0n (s5_bad ⟨rfl, inv_bad hI⟩))
