/-! the calls that only keep, tell or change a number -/
theorem up_eq {f : Nat → Int32} {k : Nat} {x : Int32} {j : Nat} (h : j = k) : upd f k x j = x := if_pos h
theorem up_ne {f : Nat → Int32} {k : Nat} {x : Int32} {j : Nat} (h : ¬ j = k) : upd f k x j = f j := if_neg h
theorem p_clear : st_clear Inv := by
  intro N D X PM PL i0 i1 M L hI
  obtain ⟨h1, h2, h3, ⟨h4, w, hw, e, hx⟩, h5, h6⟩ := hI
  rintro v1 rfl X2 rfl
  rintro v2 rfl M2 rfl
  exact ⟨h4, h1, h2, h3, ⟨rfl, 0, by omega, rfl, fun i hi => absurd hi (by omega)⟩, h5, h6⟩
theorem byte_id : ∀ k, k < 128 → vp_nar .byte (nI k).toInt8.toInt32 = nI k := by decide +kernel
set_option maxRecDepth 10000 in
theorem p_type : st_type Inv := by
  intro N D X PM PL i0 i1 M L x1 hI
  unfold w_X4_type
  refine s_within (a := 0) (b := 127) (by decide) (by decide) (fun v => b1n ?_) (fun v => b0n (s4_bad ?_))
  · obtain ⟨h1, h2, h3, ⟨h4, w, hw, e, hx⟩, h5, h6⟩ := id hI
    obtain ⟨k, -, hk, rfl⟩ := id v
    have e1 : X 1 0 = nI w := h4.trans e
    by_cases hlt : w < 150
    · refine bT (by rw [e1]; exact nI_lt (b := 150) hlt (by decide)) (bF (by rw [e1]; exact nI_ge (b := 150) hlt (by decide)) ⟨by rw [e1]; exact in_ hlt (by decide), ?_⟩)
      rintro X1 rfl X2 rfl
      unfold w_X5_type
      refine s_in (a := 0) (b := 127) (by decide) (by decide) (fun _ => b1n (nF (by rw [e]; intro q; have := (nI_eq (b := 150) (by omega) (by decide)).mp q; omega) ⟨by rw [e]; exact in_ hlt (by decide), ?_⟩)) (fun v2 => absurd v v2)
      rintro M2 rfl M3 rfl
      refine ⟨congrArg (· + 1) h4, h1, h2, h3, ⟨congrArg (· + 1) h4, w + 1, by omega, by show M 8 0 + 1 = _; rw [e]; exact nI_1 w, fun i hi => ?_⟩, h5, h6⟩
      show upd (X 0) (X 1 0).toNatClampNeg (vp_nar .byte (nI k).toInt8.toInt32) i = upd (M 7) (M 8 0).toNatClampNeg (nI k) i ∧ bd (upd (M 7) (M 8 0).toNatClampNeg (nI k) i) 127
      rw [e1, e, ncl (by omega), byte_id k (by omega)]
      by_cases hi2 : i = w
      · rw [up_eq hi2, up_eq hi2]
        exact ⟨rfl, k, hk, rfl⟩
      · rw [up_ne hi2, up_ne hi2]
        exact hx i (by omega)
    · have hw2 : w = 150 := by omega
      subst hw2
      refine bF (by rw [e1]; exact nI_nlt (a := 150) (b := 150) (by decide) (by decide)) (s4_full ?_)
      unfold w_X5_type
      exact s_in (a := 0) (b := 127) (by decide) (by decide) (fun _ => b1n (nT e (s5_full ⟨rfl, inv_full hI⟩))) (fun v2 => absurd v v2)
  · unfold w_X5_type
    exact s_in (a := 0) (b := 127) (by decide) (by decide) (fun v2 => absurd v2 v) (fun _ => b0n (s5_bad ⟨rfl, inv_bad hI⟩))
theorem p_part : st_part Inv := by
  intro N D X PM PL i0 i1 M L x1 hI
  unfold w_X4_part
  refine s_within (a := 0) (b := 1) (by decide) (by decide) (fun v => b1n ?_) (fun v => b0n (s4_bad ?_))
  · obtain ⟨k, -, hk, rfl⟩ := id v
    rcases (show k = 0 ∨ k = 1 by omega) with rfl | rfl
    · exact nT rfl (nT rfl ⟨hI.2.2.2.2.2.1, hI⟩)
    · exact nF (by decide) (nF (by decide) (nT rfl ⟨hI.2.2.2.2.2.2, hI⟩))
  · exact nF (fun q => v ⟨0, by omega, by omega, q⟩) (nF (fun q => v ⟨1, by omega, by omega, q⟩) (s5_bad ⟨rfl, inv_bad hI⟩))
theorem p_status : st_status Inv := by
  intro N D X PM PL i0 i1 M L x1 hI
  unfold w_X4_status
  by_cases v : vld x1 0 2
  · obtain ⟨k, -, hk, rfl⟩ := id v
    have hm : ∀ r : Int32, r = M 3 k → w_X5_status M L (nI k) (fun r2 M L => r = r2 ∧ Inv N D X PM PL i0 i1 M L) := fun r hr => by
      unfold w_X5_status
      refine s_in (a := 0) (b := 2) (by decide) (by decide) (fun _ => b1n ⟨in_ (by omega) (by decide), ?_, hI⟩) (fun v2 => absurd v v2)
      rw [ncl (by omega)]
      exact hr
    rcases (show k = 0 ∨ k = 1 ∨ k = 2 by omega) with rfl | rfl | rfl
    · exact bT rfl (hm _ hI.2.2.2.2.1.1)
    · exact bF (by decide) (bT rfl (hm _ hI.2.2.2.2.1.2.1))
    · exact bF (by decide) (bF (by decide) (bT rfl (hm _ hI.2.2.2.2.1.2.2)))
  · refine bF (fun q => v ⟨0, by omega, by omega, q⟩) (bF (fun q => v ⟨1, by omega, by omega, q⟩) (bF (fun q => v ⟨2, by omega, by omega, q⟩) (s4_bad ?_)))
    unfold w_X5_status
    exact s_in (a := 0) (b := 2) (by decide) (by decide) (fun v2 => absurd v2 v) (fun _ => b0n (s5_bad ⟨rfl, inv_bad hI⟩))
theorem RT_cut {T : ZI} {m ah : Nat → Int32} {um : Int32} (h : RT T m ah um) {k v : Nat} (hk : k < 2) (hv : v ≤ 65535) : RT (mu (mu T 0 k (nI v)) 10 0 0) (upd m (65 + k) (nI v)) ah 0 := by
  obtain ⟨h1, h2, h3, h4, h5, h6⟩ := h
  have z : ∀ i, ¬ i = 65 + k → upd m (65 + k) (nI v) i = m i := fun i hi => up_ne hi
  refine ⟨fun i hi => ?_, fun c hc => ?_, ?_, ?_, ?_, rfl, 0, by omega, rfl, fun j hj => absurd hj (by omega)⟩
  · show upd (T 0) k (nI v) i = _ ∧ _
    by_cases hik : i = k
    · rw [up_eq hik, up_eq (by omega)]
      exact ⟨rfl, v, hv, rfl⟩
    · rw [up_ne hik, z _ (by omega)]
      exact h1 i hi
  · show T 1 c = _ ∧ _
    rw [z _ (by omega)]
    exact h2 c hc
  · show T 2 0 = _ ∧ _
    rw [z _ (by omega)]
    exact h3
  · show T 4 0 = _ ∧ ∃ w, w ≤ 8 ∧ _ = nI w ∧ ∀ i, i < w → T 3 i = _ ∧ _
    rw [z _ (by omega)]
    obtain ⟨a, w, b, e, f⟩ := h4
    exact ⟨a, w, b, e, fun i hi => by rw [z _ (by omega)]; exact f i hi⟩
  · show T 7 0 = _ ∧ ∃ w, w ≤ 8 ∧ _ = nI w ∧ ∀ i, i < w → ∃ a b : Nat, a ≤ 63 ∧ b ≤ 1 ∧ T 5 i = nI a ∧ T 6 i = nI b ∧ _
    rw [z _ (by omega)]
    obtain ⟨a, w, b, e, f⟩ := h5
    exact ⟨a, w, b, e, fun i hi => by rw [z _ (by omega)]; exact f i hi⟩
theorem p_cut : st_cut Inv := by
  intro N D X PM PL i0 i1 M L x1 x2 hI
  unfold w_X4_cut
  have hbad : (¬ (vld x1 0 1 ∧ vld x2 0 65535)) → w_X5_cut M L x1 x2 (fun r2 M L => (-2 : Int32) = r2 ∧ Inv N D X (mu PM 7 0 (PM 7 0 + 1)) PL i0 i1 M L) := fun hn => by
    unfold w_X5_cut
    exact s_isWhat (fun v1 => b1 (s_in (a := 0) (b := 65535) (by decide) (by decide) (fun v2 => absurd ⟨v1, v2⟩ hn) (fun _ => b0n (s5_bad ⟨rfl, inv_bad hI⟩)))) (fun _ => b0 (s5_bad ⟨rfl, inv_bad hI⟩))
  refine s_within (a := 0) (b := 1) (by decide) (by decide) (fun v1 => b1 (s_within (a := 0) (b := 65535) (by decide) (by decide) (fun v2 => b1n ?_) (fun v2 => b0n (s4_bad (hbad (fun q => v2 q.2)))))) (fun v1 => b0 (s4_bad (hbad (fun q => v1 q.1))))
  obtain ⟨k, -, hk, rfl⟩ := id v1
  obtain ⟨v, -, hv, rfl⟩ := id v2
  have a1 : (65 : Int32) + nI k = nI (65 + k) := nI_add 65 k
  refine ⟨in_ (by omega) (by decide), ?_⟩
  rintro r rfl
  refine ⟨in_ (by omega) (by decide), ?_⟩
  rintro N1 rfl N2 rfl
  unfold w_X5_cut
  refine s_isWhat (fun _ => b1 (s_in (a := 0) (b := 65535) (by decide) (by decide) (fun _ => b1n ?_) (fun q => absurd v2 q))) (fun q => absurd v1 q)
  rw [a1, ncl (by omega), ncl (by omega)]
  refine ⟨in_ (by omega) (by decide), ?_⟩
  rintro r2 rfl
  refine ⟨in_ (by omega) (by decide), ?_⟩
  rintro M1 rfl M2 rfl
  obtain ⟨h1, h2⟩ := hI
  exact ⟨(h1.1 k (by omega)).1, RT_cut h1 (by omega) hv, h2⟩
theorem p_dark : st_dark Inv := by
  intro N D X PM PL i0 i1 M L x1 x2 hI
  unfold w_X4_dark
  refine s4_isPlace (fun v => b1n ?_) (fun v => b0n (s4_bad ?_))
  · obtain ⟨⟨x, -, hx, rfl⟩, ⟨y, -, hy, rfl⟩⟩ := id v
    have a1 : (8 : Int32) * nI y + nI x = nI (8 * y + x) := by rw [show (8 : Int32) * nI y = nI (8 * y) from pk_mul 8 y, nI_add]
    have a2 : (0 : Int32) + 8 * nI y + nI x = nI (8 * y + x) := by rw [show (0 : Int32) + 8 * nI y = nI (8 * y) by rw [show (8 : Int32) * nI y = nI (8 * y) from pk_mul 8 y]; exact (nI_add 0 (8 * y)).trans (by rw [Nat.zero_add]), nI_add]
    rw [a1]
    refine ⟨in_ (by omega) (by decide), ?_⟩
    unfold w_X5_dark
    refine s5_isPlace (fun _ => b1 ?_) (fun q => absurd v q)
    rw [a2, ncl (by omega)]
    exact ⟨in_ (by omega) (by decide), (hI.1.2.1 _ (by omega)).1, hI⟩
  · unfold w_X5_dark
    exact s5_isPlace (fun q => absurd q v) (fun _ => b0 (s5_bad ⟨rfl, inv_bad hI⟩))
theorem RT_forget0 {T : ZI} {m ah : Nat → Int32} {um : Int32} (h : RT T m ah um) : RT (mu T 4 0 0) (upd m 67 0) ah um := by
  obtain ⟨h1, h2, h3, h4, h5, h6⟩ := h
  have z : ∀ i, ¬ i = 67 → upd m 67 0 i = m i := fun i hi => up_ne hi
  refine ⟨fun i hi => ?_, fun c hc => ?_, ?_, ⟨rfl, 0, by omega, rfl, fun j hj => absurd hj (by omega)⟩, ?_, h6⟩
  · rw [z _ (by omega)]
    exact h1 i hi
  · rw [z _ (by omega)]
    exact h2 c hc
  · rw [z _ (by omega)]
    exact h3
  · rw [z _ (by omega)]
    obtain ⟨a, w, b, e, f⟩ := h5
    exact ⟨a, w, b, e, fun i hi => by rw [z _ (by omega)]; exact f i hi⟩
theorem RT_forget1 {T : ZI} {m ah : Nat → Int32} {um : Int32} (h : RT T m ah um) : RT (mu T 7 0 0) (upd m 76 0) ah um := by
  obtain ⟨h1, h2, h3, h4, h5, h6⟩ := h
  have z : ∀ i, ¬ i = 76 → upd m 76 0 i = m i := fun i hi => up_ne hi
  refine ⟨fun i hi => ?_, fun c hc => ?_, ?_, ?_, ⟨rfl, 0, by omega, rfl, fun j hj => absurd hj (by omega)⟩, h6⟩
  · rw [z _ (by omega)]
    exact h1 i hi
  · rw [z _ (by omega)]
    exact h2 c hc
  · rw [z _ (by omega)]
    exact h3
  · rw [z _ (by omega)]
    obtain ⟨a, w, b, e, f⟩ := h4
    exact ⟨a, w, b, e, fun i hi => by rw [z _ (by omega)]; exact f i hi⟩
theorem p_forget : st_forget Inv := by
  intro N D X PM PL i0 i1 M L x1 hI
  unfold w_X4_forget
  refine s_within (a := 0) (b := 1) (by decide) (by decide) (fun v => b1n ?_) (fun v => b0n (s4_bad ?_))
  · obtain ⟨k, -, hk, rfl⟩ := id v
    rcases (show k = 0 ∨ k = 1 by omega) with rfl | rfl
    · refine nT rfl ?_
      rintro r rfl N1 rfl
      unfold w_X5_forget
      refine s_isWhat (fun _ => b1n (nT rfl ?_)) (fun q => absurd v q)
      rintro r2 rfl M1 rfl
      exact ⟨hI.1.2.2.2.1.1, RT_forget0 hI.1, hI.2⟩
    · refine nF (by decide) ?_
      rintro r rfl N1 rfl
      unfold w_X5_forget
      refine s_isWhat (fun _ => b1n (nF (by decide) ?_)) (fun q => absurd v q)
      rintro r2 rfl M1 rfl
      exact ⟨hI.1.2.2.2.2.1.1, RT_forget1 hI.1, hI.2⟩
  · unfold w_X5_forget
    exact s_isWhat (fun q => absurd q v) (fun _ => b0n (s5_bad ⟨rfl, inv_bad hI⟩))
