/-! image and from: whole tables are copied -/
theorem mc (c z k : Nat) : nI c * nI z + nI k = nI (c * z + k) := by rw [show nI c * nI z = nI (c * z) from pk_mul c z, nI_add]
theorem c0 {f g : Nat → Int32} {n k : Nat} (h : k < n) : va_cpy f g 0 0 n k = f k := by
  rw [cpy_in ⟨Nat.zero_le _, by omega⟩, Nat.zero_add, Nat.sub_zero]
theorem cd {f g : Nat → Int32} {d n k : Nat} (h : k < n) : va_cpy f g 0 d n (d + k) = f k := by
  rw [cpy_in ⟨by omega, by omega⟩, Nat.zero_add, show d + k - d = k by omega]
theorem cs0 {f g : Nat → Int32} {s n k : Nat} (h : k < n) : va_cpy f g s 0 n k = f (s + k) := by
  rw [cpy_in ⟨Nat.zero_le _, by omega⟩, Nat.sub_zero]
theorem mf_step {M : ZI} {a : Nat} {f g : Nat → Int32} {s d k i : Nat} {x : Int32} (e : i = d + k) (ex : x = f (s + k)) : mu (mf M a (va_cpy f g s d k)) a i x = mf M a (va_cpy f g s d (k + 1)) := by
  subst e
  subst ex
  funext b
  by_cases hb : b = a
  · subst hb
    unfold mu mf
    rw [if_pos rfl, if_pos rfl, if_pos rfl]
    funext j
    unfold upd va_cpy
    by_cases hj : j = d + k
    · rw [if_pos hj, if_pos (by omega), hj]
      congr 1
      omega
    · rw [if_neg hj]
      by_cases hq : d ≤ j ∧ j < d + k
      · rw [if_pos hq, if_pos (by omega)]
      · rw [if_neg hq, if_neg (by omega)]
  · unfold mu mf
    rw [if_neg hb, if_neg hb, if_neg hb]
theorem mf_id (M : ZI) (a : Nat) (f : Nat → Int32) (s d : Nat) : M = mf M a (va_cpy f (M a) s d 0) := by
  funext b
  unfold mf
  by_cases hb : b = a
  · rw [if_pos hb, hb]
    funext j
    rw [cpy_out (by omega)]
  · rw [if_neg hb]
theorem s_takeOver {T O : ZI} {post : ZI → Prop} (h : ∀ T' : ZI, (∀ k, k < 2 → T' 0 k = O 0 k) → (∀ k, k < 64 → T' 1 k = O 1 k) → T' 2 0 = O 2 0 → (∀ k, k < 8 → T' 3 k = O 3 k) → T' 4 0 = O 4 0 → (∀ k, k < 8 → T' 5 k = O 5 k) → (∀ k, k < 8 → T' 6 k = O 6 k) → T' 7 0 = O 7 0 → (∀ k, k < 512 → T' 8 k = O 8 k) → (∀ k, k < 8 → T' 9 k = O 9 k) → T' 10 0 = O 10 0 → post T') : w_X2_takeOver T O post := by
  unfold w_X2_takeOver w_X2_takeOverPrints
  rintro T1 rfl T2 rfl T3 rfl U2 rfl U3 rfl U4 rfl U5 rfl U6 rfl U7 rfl U8 rfl U9 rfl
  exact h _ (fun k hk => c0 hk) (fun k hk => c0 hk) rfl (fun k hk => c0 hk) rfl (fun k hk => c0 hk) (fun k hk => c0 hk) rfl (fun k hk => c0 hk) (fun k hk => c0 hk) rfl
theorem RT_same {T T' : ZI} {m m' ah ah' : Nat → Int32} {um um' : Int32} (h : RT T m ah um) (t0 : ∀ k, k < 2 → T' 0 k = T 0 k) (t1 : ∀ k, k < 64 → T' 1 k = T 1 k) (t2 : T' 2 0 = T 2 0) (t3 : ∀ k, k < 8 → T' 3 k = T 3 k) (t4 : T' 4 0 = T 4 0) (t5 : ∀ k, k < 8 → T' 5 k = T 5 k) (t6 : ∀ k, k < 8 → T' 6 k = T 6 k) (t7 : T' 7 0 = T 7 0) (t8 : ∀ k, k < 512 → T' 8 k = T 8 k) (t9 : ∀ k, k < 8 → T' 9 k = T 9 k) (t10 : T' 10 0 = T 10 0) (hm : ∀ i, i < 99 → m' i = m i) (ha : ∀ i, i < 520 → ah' i = ah i) (hu : um' = um) : RT T' m' ah' um' := by
  obtain ⟨h1, h2, h3, ⟨h4, w4, hw4, e4, f4⟩, ⟨h5, w5, hw5, e5, f5⟩, h6, w6, hw6, e6, f6⟩ := h
  subst hu
  refine ⟨fun k hk => ?_, fun c hc => ?_, ?_, ⟨?_, w4, hw4, ?_, fun i hi => ?_⟩, ⟨?_, w5, hw5, ?_, fun i hi => ?_⟩, ?_, w6, hw6, e6, fun j hj => ⟨fun c hc => ?_, ?_⟩⟩
  · rw [t0 k hk, hm _ (by omega)]
    exact h1 k hk
  · rw [t1 c hc, hm _ (by omega)]
    exact h2 c hc
  · rw [t2, hm _ (by decide)]
    exact h3
  · rw [t4, hm _ (by decide)]
    exact h4
  · rw [hm _ (by decide)]
    exact e4
  · rw [t3 i (by omega), hm _ (by omega)]
    exact f4 i hi
  · rw [t7, hm _ (by decide)]
    exact h5
  · rw [hm _ (by decide)]
    exact e5
  · rw [t5 i (by omega), t6 i (by omega), hm _ (by omega)]
    exact f5 i hi
  · rw [t10]
    exact h6
  · rw [t8 _ (by omega), ha _ (by omega)]
    exact (f6 j hj).1 c hc
  · rw [t9 _ (by omega), ha _ (by omega)]
    exact (f6 j hj).2
theorem RI_same {i : Option ZI} {f f' : Int32} {m m' ah ah' : Nat → Int32} {um um' : Int32} (h : RI i f m ah um) (hf : f' = f) (hm : ∀ i, i < 99 → m' i = m i) (ha : ∀ i, i < 520 → ah' i = ah i) (hu : um' = um) : RI i f' m' ah' um' := by
  subst hf
  cases i with
  | none => exact h
  | some I =>
    obtain ⟨h1, h2⟩ := h
    exact ⟨h1, RT_same h2 (fun _ _ => rfl) (fun _ _ => rfl) rfl (fun _ _ => rfl) rfl (fun _ _ => rfl) (fun _ _ => rfl) rfl (fun _ _ => rfl) (fun _ _ => rfl) rfl hm ha hu⟩
theorem s5_image {M : ZI} {L : ZL} {z : Nat} (hz : z ≤ 1) {post : Int32 → ZI → ZL → Prop} (h : post 1 (mu (mu (mf (mf M 19 (va_cpy (M 0) (M 19) 0 (99 * z) 99)) 20 (va_cpy (M 5) (M 20) 0 (520 * z) 520)) 21 z (M 6 0)) 18 z 1) L) : w_X5_image M L (nI z) post := by
  unfold w_X5_image
  refine s_isWhat (fun _ => b1n ?_) (fun q => absurd ⟨z, Nat.zero_le _, hz, rfl⟩ q)
  refine ⟨100, it_up _ _ (fun (k : Nat) (rec : ZI → Int32 → Prop) => ∀ Q, Q = mf M 19 (va_cpy (M 0) (M 19) 0 (99 * z) k) → rec Q (nI k)) 99 (fun k hk rec ih Q hQ => ?_) (fun rec Q hQ => ?_) M (mf_id M 19 _ _ _)⟩
  · subst hQ
    unfold w_X5_image_L14
    refine bF (nI_ge (b := 99) hk (by decide)) ⟨in_ hk (by decide), ?_⟩
    rw [show (99 : Int32) * nI z + nI k = nI (99 * z + k) from mc 99 z k, ncl (by omega), ncl (by omega), nI_1]
    exact ⟨in_ (by omega) (by decide), fun M2 e => ih M2 (e.trans (mf_step rfl (by rw [Nat.zero_add]; rfl)))⟩
  · subst hQ
    unfold w_X5_image_L14
    refine bT (nI_le (a := 99) (b := 99) (by decide) (by decide)) ?_
    refine ⟨521, it_up _ _ (fun (k : Nat) (rec : ZI → Int32 → Prop) => ∀ Q, Q = mf (mf M 19 (va_cpy (M 0) (M 19) 0 (99 * z) 99)) 20 (va_cpy (M 5) (M 20) 0 (520 * z) k) → rec Q (nI k)) 520 (fun k hk rec ih Q hQ => ?_) (fun rec Q hQ => ?_) _ (mf_id (mf M 19 (va_cpy (M 0) (M 19) 0 (99 * z) 99)) 20 _ _ _)⟩
    · subst hQ
      unfold w_X5_image_L45
      refine bF (nI_ge (b := 520) hk (by decide)) ⟨in_ hk (by decide), ?_⟩
      rw [show (520 : Int32) * nI z + nI k = nI (520 * z + k) from mc 520 z k, ncl (by omega), ncl (by omega), nI_1]
      exact ⟨in_ (by omega) (by decide), fun M2 e => ih M2 (e.trans (mf_step rfl (by rw [Nat.zero_add]; rfl)))⟩
    · subst hQ
      unfold w_X5_image_L45
      refine bT (nI_le (a := 520) (b := 520) (by decide) (by decide)) ⟨in_ (by omega) (by decide), ?_⟩
      rw [ncl (by omega)]
      rintro M8 rfl
      refine ⟨in_ (by omega) (by decide), ?_⟩
      rintro M9 rfl
      exact h
theorem s5_from {M : ZI} {L : ZL} {z : Nat} (hz : z ≤ 1) (hf : M 18 z = 1) {post : Int32 → ZI → ZL → Prop} (h : post 1 (mu (mf (mf M 0 (va_cpy (M 19) (M 0) (99 * z) 0 99)) 5 (va_cpy (M 20) (M 5) (520 * z) 0 520)) 6 0 (M 21 z)) L) : w_X5_from M L (nI z) post := by
  unfold w_X5_from
  refine s_isWhat (fun _ => b1n ⟨in_ (by omega) (by decide), ?_⟩) (fun q => absurd ⟨z, Nat.zero_le _, hz, rfl⟩ q)
  rw [ncl (by omega), hf]
  refine b1n ?_
  refine ⟨100, it_up _ _ (fun (k : Nat) (rec : ZI → Int32 → Prop) => ∀ Q, Q = mf M 0 (va_cpy (M 19) (M 0) (99 * z) 0 k) → rec Q (nI k)) 99 (fun k hk rec ih Q hQ => ?_) (fun rec Q hQ => ?_) M (mf_id M 0 _ _ _)⟩
  · subst hQ
    unfold w_X5_from_L28
    refine bF (nI_ge (b := 99) hk (by decide)) ?_
    rw [show (99 : Int32) * nI z + nI k = nI (99 * z + k) from mc 99 z k, ncl (by omega), ncl (by omega), nI_1]
    exact ⟨in_ (by omega) (by decide), in_ hk (by decide), fun M2 e => ih M2 (e.trans (mf_step (Nat.zero_add k).symm rfl))⟩
  · subst hQ
    unfold w_X5_from_L28
    refine bT (nI_le (a := 99) (b := 99) (by decide) (by decide)) ?_
    refine ⟨521, it_up _ _ (fun (k : Nat) (rec : ZI → Int32 → Prop) => ∀ Q, Q = mf (mf M 0 (va_cpy (M 19) (M 0) (99 * z) 0 99)) 5 (va_cpy (M 20) (M 5) (520 * z) 0 k) → rec Q (nI k)) 520 (fun k hk rec ih Q hQ => ?_) (fun rec Q hQ => ?_) _ (mf_id (mf M 0 (va_cpy (M 19) (M 0) (99 * z) 0 99)) 5 _ _ _)⟩
    · subst hQ
      unfold w_X5_from_L59
      refine bF (nI_ge (b := 520) hk (by decide)) ?_
      rw [show (520 : Int32) * nI z + nI k = nI (520 * z + k) from mc 520 z k, ncl (by omega), ncl (by omega), nI_1]
      exact ⟨in_ (by omega) (by decide), in_ hk (by decide), fun M2 e => ih M2 (e.trans (mf_step (Nat.zero_add k).symm rfl))⟩
    · subst hQ
      unfold w_X5_from_L59
      refine bT (nI_le (a := 520) (b := 520) (by decide) (by decide)) ⟨in_ (by omega) (by decide), ?_⟩
      rintro M8 rfl
      exact h
theorem s5_from0 {M : ZI} {L : ZL} {z : Nat} (hz : z ≤ 1) (hf : M 18 z = 0) {post : Int32 → ZI → ZL → Prop} (h : w_X5_no M L post) : w_X5_from M L (nI z) post := by
  unfold w_X5_from
  refine s_isWhat (fun _ => b1n ⟨in_ (by omega) (by decide), ?_⟩) (fun q => absurd ⟨z, Nat.zero_le _, hz, rfl⟩ q)
  rw [ncl (by omega), hf]
  exact b0n h
theorem p_image : st_image Inv := by
  intro N D X PM PL i0 i1 M L x1 hI
  unfold w_X4_image
  refine s_within (a := 0) (b := 1) (by decide) (by decide) (fun v1 => b1n ?_) (fun v1 => b0n (s4_bad ?_))
  · obtain ⟨z, -, hz, rfl⟩ := id v1
    obtain ⟨g1, g2, g3, g4, g5, g6⟩ := hI
    rcases (show z = 0 ∨ z = 1 by omega) with rfl | rfl
    · refine bT rfl (s_takeOver (fun T' t0 t1 t2 t3 t4 t5 t6 t7 t8 t9 t10 => s5_image (by decide) ⟨rfl, g1, ⟨rfl, RT_same g1 t0 t1 t2 t3 t4 t5 t6 t7 t8 t9 t10 (fun i hi => c0 hi) (fun i hi => c0 hi) rfl⟩, ?_, g4, g5, g6⟩))
      exact RI_same g3 rfl (fun i hi => cpy_out (by omega)) (fun i hi => cpy_out (by omega)) rfl
    · refine bF (by decide) ⟨rfl, s_takeOver (fun T' t0 t1 t2 t3 t4 t5 t6 t7 t8 t9 t10 => s5_image (by decide) ⟨rfl, g1, ?_, ⟨rfl, RT_same g1 t0 t1 t2 t3 t4 t5 t6 t7 t8 t9 t10 (fun i hi => cd (d := 99) hi) (fun i hi => cd (d := 520) hi) rfl⟩, g4, g5, g6⟩)⟩
      exact RI_same g2 rfl (fun i hi => cpy_out (by omega)) (fun i hi => cpy_out (by omega)) rfl
  · unfold w_X5_image
    exact s_isWhat (fun q => absurd q v1) (fun _ => b0n (s5_bad ⟨rfl, inv_bad hI⟩))
theorem p_from : st_from Inv := by
  intro N D X PM PL i0 i1 M L x1 hI
  unfold w_X4_from
  refine s_within (a := 0) (b := 1) (by decide) (by decide) (fun v1 => b1n ?_) (fun v1 => b0n (s4_bad ?_))
  · obtain ⟨z, -, hz, rfl⟩ := id v1
    rcases (show z = 0 ∨ z = 1 by omega) with rfl | rfl
    · refine bT rfl ?_
      cases i0 with
      | none =>
        rw [Option.elim_none]
        exact s4_no (s5_from0 (by decide) hI.2.1 (s5_no ⟨rfl, inv_no hI⟩))
      | some I =>
        obtain ⟨g1, ⟨f, g2⟩, g3, g4, g5, g6⟩ := hI
        exact s_takeOver (fun T' t0 t1 t2 t3 t4 t5 t6 t7 t8 t9 t10 => s5_from (by decide) f ⟨rfl, RT_same g2 t0 t1 t2 t3 t4 t5 t6 t7 t8 t9 t10 (fun i hi => c0 hi) (fun i hi => c0 hi) rfl, ⟨f, g2⟩, g3, g4, g5, g6⟩)
    · refine bF (by decide) ⟨rfl, ?_⟩
      cases i1 with
      | none =>
        rw [Option.elim_none]
        exact s4_no (s5_from0 (by decide) hI.2.2.1 (s5_no ⟨rfl, inv_no hI⟩))
      | some I =>
        obtain ⟨g1, g2, ⟨f, g3⟩, g4, g5, g6⟩ := hI
        exact s_takeOver (fun T' t0 t1 t2 t3 t4 t5 t6 t7 t8 t9 t10 => s5_from (by decide) f ⟨rfl, RT_same g3 t0 t1 t2 t3 t4 t5 t6 t7 t8 t9 t10 (fun i hi => cs0 (s := 99) hi) (fun i hi => cs0 (s := 520) hi) rfl, g2, ⟨f, g3⟩, g4, g5, g6⟩)
  · unfold w_X5_from
    exact s_isWhat (fun q => absurd q v1) (fun _ => b0n (s5_bad ⟨rfl, inv_bad hI⟩))
