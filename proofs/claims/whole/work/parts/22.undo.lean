/-! wanted, seen; dip and undo -/
theorem RT_want {T : ZI} {m ah : Nat → Int32} {um : Int32} (h : RT T m ah um) {w v : Nat} (hw : w < 8) (e : m 67 = nI w) (hv : v ≤ 63) : RT (mu (mu T 3 w (nI v)) 4 0 (nI (w + 1))) (upd (upd m (68 + w) (nI v)) 67 (nI (w + 1))) ah um := by
  obtain ⟨h1, h2, h3, h4, h5, h6⟩ := h
  have z : ∀ i, ¬ i = 67 → ¬ i = 68 + w → upd (upd m (68 + w) (nI v)) 67 (nI (w + 1)) i = m i := fun i hi hj => by rw [up_ne hi, up_ne hj]
  refine ⟨fun i hi => ?_, fun c hc => ?_, ?_, ⟨rfl, w + 1, by omega, rfl, fun i hi => ?_⟩, ?_, h6⟩
  · rw [z _ (by omega) (by omega)]
    exact h1 i hi
  · rw [z _ (by omega) (by omega)]
    exact h2 c hc
  · rw [z _ (by omega) (by omega)]
    exact h3
  · show upd (T 3) w (nI v) i = _ ∧ _
    by_cases hi2 : i = w
    · rw [up_eq hi2, up_ne (by omega), up_eq (by omega)]
      exact ⟨rfl, v, hv, rfl⟩
    · rw [up_ne hi2, z _ (by omega) (by omega)]
      obtain ⟨a, w', b, e', f⟩ := h4
      have : w' = w := (nI_eq (by omega) (by omega)).mp (e'.symm.trans e)
      subst this
      exact f i (by omega)
  · rw [z _ (by omega) (by omega)]
    obtain ⟨a, w', b, e', f⟩ := h5
    exact ⟨a, w', b, e', fun i hi => by rw [z _ (by omega) (by omega)]; exact f i hi⟩
theorem m8 (y x : Nat) : (8 : Int32) * nI y + nI x = nI (8 * y + x) := by rw [show (8 : Int32) * nI y = nI (8 * y) from pk_mul 8 y, nI_add]
theorem p_want : st_want Inv := by
  intro N D X PM PL i0 i1 M L x1 x2 hI
  unfold w_X4_want
  refine s4_isPlace (fun v => b1n ?_) (fun v => b0n (s4_bad ?_))
  · obtain ⟨⟨x, -, hx, rfl⟩, ⟨y, -, hy, rfl⟩⟩ := id v
    obtain ⟨hR, hI2⟩ := id hI
    obtain ⟨a4, w, hw, e, f⟩ := hR.2.2.2.1
    have e4 : N 4 0 = nI w := a4.trans e
    by_cases hlt : w < 8
    · refine bT (by rw [e4]; exact nI_lt (b := 8) hlt (by decide)) ⟨by rw [e4]; exact in_ hlt (by decide), ?_⟩
      rintro N2 rfl N3 rfl
      unfold w_X5_want
      refine s5_isPlace (fun _ => b1n (nF (by rw [e]; intro q; have := (nI_eq (b := 8) (by omega) (by decide)).mp q; omega) ?_)) (fun q => absurd v q)
      rw [e, show (68 : Int32) + nI w = nI (68 + w) from nI_add 68 w]
      refine ⟨in_ (by omega) (by decide), ?_⟩
      rintro M2 rfl M3 rfl
      have q1 : (mu N 3 (N 4 0).toNatClampNeg (8 * nI y + nI x)) 4 0 + 1 = nI (w + 1) := by show N 4 0 + 1 = _; rw [e4]; exact nI_1 w
      have q2 : (mu M 0 (nI (68 + w)).toNatClampNeg (8 * nI y + nI x)) 0 67 + 1 = nI (w + 1) := by
        show upd (M 0) (nI (68 + w)).toNatClampNeg (8 * nI y + nI x) 67 + 1 = _
        rw [ncl (by omega), up_ne (by omega), e]
        exact nI_1 w
      rw [q1, q2, e4, ncl (by omega), ncl (by omega), m8]
      exact ⟨rfl, RT_want hR hlt e (by omega), hI2⟩
    · have hw2 : w = 8 := by omega
      subst hw2
      refine bF (by rw [e4]; exact nI_nlt (a := 8) (b := 8) (by decide) (by decide)) (s4_full ?_)
      unfold w_X5_want
      exact s5_isPlace (fun _ => b1n (nT e (s5_full ⟨rfl, inv_full hI⟩))) (fun q => absurd v q)
  · unfold w_X5_want
    exact s5_isPlace (fun q => absurd q v) (fun _ => b0n (s5_bad ⟨rfl, inv_bad hI⟩))
theorem RT_seen {T : ZI} {m ah : Nat → Int32} {um : Int32} (h : RT T m ah um) {w v b : Nat} (hw : w < 8) (e : m 76 = nI w) (hv : v ≤ 63) (hb : b ≤ 1) : RT (mu (mu (mu T 5 w (nI v)) 6 w (nI b)) 7 0 (nI (w + 1))) (upd (upd m (77 + w) (nI (2 * v + b))) 76 (nI (w + 1))) ah um := by
  obtain ⟨h1, h2, h3, h4, h5, h6⟩ := h
  have z : ∀ i, ¬ i = 76 → ¬ i = 77 + w → upd (upd m (77 + w) (nI (2 * v + b))) 76 (nI (w + 1)) i = m i := fun i hi hj => by rw [up_ne hi, up_ne hj]
  refine ⟨fun i hi => ?_, fun c hc => ?_, ?_, ?_, ⟨rfl, w + 1, by omega, rfl, fun i hi => ?_⟩, h6⟩
  · rw [z _ (by omega) (by omega)]
    exact h1 i hi
  · rw [z _ (by omega) (by omega)]
    exact h2 c hc
  · rw [z _ (by omega) (by omega)]
    exact h3
  · rw [z _ (by omega) (by omega)]
    obtain ⟨a, w', b, e', f⟩ := h4
    exact ⟨a, w', b, e', fun i hi => by rw [z _ (by omega) (by omega)]; exact f i hi⟩
  · show ∃ a b2 : Nat, a ≤ 63 ∧ b2 ≤ 1 ∧ upd (T 5) w (nI v) i = nI a ∧ upd (T 6) w (nI b) i = nI b2 ∧ _
    by_cases hi2 : i = w
    · refine ⟨v, b, hv, hb, up_eq hi2, up_eq hi2, ?_⟩
      rw [up_ne (by omega), up_eq (by omega)]
    · obtain ⟨a, w', q, e', f⟩ := h5
      have : w' = w := (nI_eq (by omega) (by omega)).mp (e'.symm.trans e)
      subst this
      obtain ⟨a1, b1, g1, g2, g3, g4, g5⟩ := f i (by omega)
      exact ⟨a1, b1, g1, g2, (up_ne hi2).trans g3, by rw [up_ne hi2]; exact g4, by rw [z _ (by omega) (by omega)]; exact g5⟩
theorem p_seen : st_seen Inv := by
  intro N D X PM PL i0 i1 M L x1 x2 x3 hI
  unfold w_X4_seen
  have hbad : (¬ ((vld x1 0 7 ∧ vld x2 0 7) ∧ vld x3 0 1)) → w_X5_seen M L x1 x2 x3 (fun r2 M L => (-2 : Int32) = r2 ∧ Inv N D X (mu PM 7 0 (PM 7 0 + 1)) PL i0 i1 M L) := fun hn => by
    unfold w_X5_seen
    exact s5_isPlace (fun v1 => b1 (s_isWhat (fun v2 => absurd ⟨v1, v2⟩ hn) (fun _ => b0n (s5_bad ⟨rfl, inv_bad hI⟩)))) (fun _ => b0 (s5_bad ⟨rfl, inv_bad hI⟩))
  refine s4_isPlace (fun v => b1 (s_within (a := 0) (b := 1) (by decide) (by decide) (fun v2 => b1n ?_) (fun v2 => b0n (s4_bad (hbad (fun q => v2 q.2)))))) (fun v => b0 (s4_bad (hbad (fun q => v q.1))))
  obtain ⟨⟨x, -, hx, rfl⟩, ⟨y, -, hy, rfl⟩⟩ := id v
  obtain ⟨b, -, hb, rfl⟩ := id v2
  obtain ⟨hR, hI2⟩ := id hI
  obtain ⟨a4, w, hw, e, f⟩ := hR.2.2.2.2.1
  have e4 : N 7 0 = nI w := a4.trans e
  by_cases hlt : w < 8
  · refine bT (by rw [e4]; exact nI_lt (b := 8) hlt (by decide)) ⟨by rw [e4]; exact in_ hlt (by decide), ?_⟩
    rintro N2 rfl
    refine ⟨by show vp_in (N 7 0) 8; rw [e4]; exact in_ hlt (by decide), ?_⟩
    rintro N3 rfl N4 rfl
    unfold w_X5_seen
    refine s5_isPlace (fun _ => b1 (s_isWhat (fun _ => b1n (nF (by rw [e]; intro q; have := (nI_eq (b := 8) (by omega) (by decide)).mp q; omega) ?_)) (fun q => absurd v2 q))) (fun q => absurd v q)
    rw [e, show (77 : Int32) + nI w = nI (77 + w) from nI_add 77 w]
    refine ⟨in_ (by omega) (by decide), ?_⟩
    rintro M2 rfl M3 rfl
    have q0 : (2 : Int32) * (8 * nI y + nI x) + nI b = nI (2 * (8 * y + x) + b) := by rw [m8, show (2 : Int32) * nI (8 * y + x) = nI (2 * (8 * y + x)) from pk_mul 2 _, nI_add]
    have q1 : (mu (mu N 5 (N 7 0).toNatClampNeg (8 * nI y + nI x)) 6 ((mu N 5 (N 7 0).toNatClampNeg (8 * nI y + nI x)) 7 0).toNatClampNeg (nI b)) 7 0 + 1 = nI (w + 1) := by show N 7 0 + 1 = _; rw [e4]; exact nI_1 w
    have q3 : ((mu N 5 (N 7 0).toNatClampNeg (8 * nI y + nI x)) 7 0).toNatClampNeg = w := by show (N 7 0).toNatClampNeg = w; rw [e4]; exact ncl (by omega)
    have q2 : (mu M 0 (nI (77 + w)).toNatClampNeg (2 * (8 * nI y + nI x) + nI b)) 0 76 + 1 = nI (w + 1) := by
      show upd (M 0) (nI (77 + w)).toNatClampNeg (2 * (8 * nI y + nI x) + nI b) 76 + 1 = _
      rw [ncl (by omega), up_ne (by omega), e]
      exact nI_1 w
    rw [q1, q2, q3, e4, ncl (by omega), ncl (by omega), q0, m8]
    exact ⟨rfl, RT_seen hR hlt e (by omega) (by omega), hI2⟩
  · have hw2 : w = 8 := by omega
    subst hw2
    refine bF (by rw [e4]; exact nI_nlt (a := 8) (b := 8) (by decide) (by decide)) (s4_full ?_)
    unfold w_X5_seen
    exact s5_isPlace (fun _ => b1 (s_isWhat (fun _ => b1n (nT e (s5_full ⟨rfl, inv_full hI⟩))) (fun q => absurd v2 q))) (fun q => absurd v q)
/-! undo's rows -/
def rc (w : Nat) : Nat := if w < 8 then w + 1 else 8
def sh (w : Nat) : Nat := if w < 8 then 0 else 1
theorem cpy_in {f g : Nat → Int32} {sp dp n k : Nat} (h : dp ≤ k ∧ k < dp + n) : va_cpy f g sp dp n k = f (sp + (k - dp)) := if_pos h
theorem cpy_out {f g : Nat → Int32} {sp dp n k : Nat} (h : ¬ (dp ≤ k ∧ k < dp + n)) : va_cpy f g sp dp n k = g k := if_neg h
theorem s_remember {T : ZI} {post : ZI → Prop} {w : Nat} (hw : w ≤ 8) (e : T 10 0 = nI w)
    (h : ∀ T' : ZI, (∀ k, k < 8 → T' k = T k) → T' 10 0 = nI (rc w) → (∀ j, j + 1 < rc w → (∀ c, c < 64 → T' 8 (64 * j + c) = T 8 (64 * (j + sh w) + c)) ∧ T' 9 j = T 9 (j + sh w)) → (∀ c, c < 64 → T' 8 (64 * (rc w - 1) + c) = T 1 c) → T' 9 (rc w - 1) = T 2 0 → post T') : w_X2_remember T post := by
  have m64 : nI w * 64 = nI (w * 64) := pk_mul w 64
  unfold w_X2_remember
  by_cases hlt : w < 8
  · have r1 : rc w = w + 1 := if_pos hlt
    have s1 : sh w = 0 := if_pos hlt
    refine bT (by rw [e]; exact nI_lt (b := 8) hlt (by decide)) ?_
    rw [e, m64, ncl (by omega)]
    refine ⟨⟨by decide, nI_pos (by omega), by decide, by decide, by omega⟩, ?_⟩
    rintro T1 rfl
    refine ⟨by show vp_in (T 10 0) 8; rw [e]; exact in_ hlt (by decide), ?_⟩
    rintro T2 rfl T3 rfl
    rw [r1, s1] at h
    apply h
    · intro k hk
      simp only [mu, mf]
      rw [if_neg (by omega), if_neg (by omega), if_neg (by omega)]
    · show T 10 0 + 1 = _
      rw [e]
      exact nI_1 w
    · intro j hj
      refine ⟨fun c hc => ?_, ?_⟩
      · show va_cpy (T 1) (T 8) 0 (w * 64) 64 (64 * j + c) = _
        rw [cpy_out (by omega), Nat.add_zero]
      · show upd (T 9) (T 10 0).toNatClampNeg (T 2 0) j = _
        rw [e, ncl (by omega), up_ne (by omega), Nat.add_zero]
    · intro c hc
      show va_cpy (T 1) (T 8) 0 (w * 64) 64 (64 * (w + 1 - 1) + c) = _
      rw [cpy_in (by omega)]
      exact congrArg (T 1) (by omega)
    · show upd (T 9) (T 10 0).toNatClampNeg (T 2 0) (w + 1 - 1) = _
      rw [e, ncl (by omega), up_eq (by omega)]
  · have hw8 : w = 8 := by omega
    subst hw8
    have r1 : rc 8 = 8 := rfl
    have s1 : sh 8 = 1 := rfl
    refine bF (by rw [e]; exact nI_nlt (a := 8) (b := 8) (by decide) (by decide)) ?_
    rintro T4 rfl T5 rfl T6 rfl
    have q7 : (mu (mf (mf T 8 (va_cpy (T 8) (T 8) 64 0 448)) 9 (va_cpy ((mf T 8 (va_cpy (T 8) (T 8) 64 0 448)) 9) ((mf T 8 (va_cpy (T 8) (T 8) 64 0 448)) 9) 1 0 7)) 10 0 7) 10 0 = nI 7 := rfl
    rw [q7, show nI 7 * 64 = nI 448 from pk_mul 7 64, ncl (by decide)]
    refine ⟨⟨by decide, nI_pos (by decide), by decide, by decide, by decide⟩, ?_⟩
    rintro T7 rfl
    refine ⟨in_ (a := 7) (by decide) (by decide), ?_⟩
    rintro T8 rfl T9 rfl
    rw [r1, s1] at h
    apply h
    · intro k hk
      simp only [mu, mf]
      rw [if_neg (by omega), if_neg (by omega), if_neg (by omega), if_neg (by omega), if_neg (by omega), if_neg (by omega)]
    · rfl
    · intro j hj
      refine ⟨fun c hc => ?_, ?_⟩
      · show va_cpy (T 1) (va_cpy (T 8) (T 8) 64 0 448) 0 448 64 (64 * j + c) = _
        rw [cpy_out (by omega), cpy_in (by omega)]
        exact congrArg (T 8) (by omega)
      · show upd (va_cpy (T 9) (T 9) 1 0 7) 7 (T 2 0) j = _
        rw [up_ne (by omega), cpy_in (by omega)]
        exact congrArg (T 9) (by omega)
    · intro c hc
      show va_cpy (T 1) (va_cpy (T 8) (T 8) 64 0 448) 0 448 64 (64 * (8 - 1) + c) = _
      rw [cpy_in (by omega)]
      exact congrArg (T 1) (by omega)
    · show upd (va_cpy (T 9) (T 9) 1 0 7) 7 (T 2 0) (8 - 1) = _
      exact up_eq rfl
theorem s_note {M : ZI} {L : ZL} {post : ZI → ZL → Prop} {w : Nat} (hw : w ≤ 8) (e : M 6 0 = nI w)
    (h : ∀ M' : ZI, (∀ k, ¬ k = 5 → ¬ k = 6 → M' k = M k) → M' 6 0 = nI (rc w) → (∀ j, j + 1 < rc w → ∀ c, c < 65 → M' 5 (65 * j + c) = M 5 (65 * (j + sh w) + c)) → (∀ c, c < 65 → M' 5 (65 * (rc w - 1) + c) = M 0 c) → post M' L) : w_X5_note M L post := by
  -- the second loop, from any rows ahead
  have copy : ∀ (M1 : ZI) (w1 : Nat), w1 < 8 → M1 6 0 = nI w1 → ∀ K : ZI → Int32 → Prop, (∀ M2 : ZI, (∀ k, ¬ k = 5 → M2 k = M1 k) → (∀ i, i < 65 * w1 → M2 5 i = M1 5 i) → (∀ c, c < 65 → M2 5 (65 * w1 + c) = M1 0 c) → K M2 (nI 65)) → ∃ n : Nat, itF (w_X5_note_L51 L post K) (fun _ _ => False) n M1 0 := by
    intro M1 w1 hw1 e1 K hK
    refine ⟨66, it_up _ _ (fun (k : Nat) (rec : ZI → Int32 → Prop) => ∀ M2 : ZI, (∀ a, ¬ a = 5 → M2 a = M1 a) → (∀ i, i < 65 * w1 → M2 5 i = M1 5 i) → (∀ c, c < k → M2 5 (65 * w1 + c) = M1 0 c) → rec M2 (nI k)) 65 (fun k hk rec ih M2 g1 g2 g3 => ?_) (fun rec M2 g1 g2 g3 => ?_) M1 (fun _ _ => rfl) (fun _ _ => rfl) (fun c hc => absurd hc (by omega))⟩
    · have e2 : M2 6 0 = nI w1 := by rw [g1 6 (by decide)]; exact e1
      have e3 : (65 : Int32) * M2 6 0 + nI k = nI (65 * w1 + k) := by rw [e2, show (65 : Int32) * nI w1 = nI (65 * w1) from pk_mul 65 w1, nI_add]
      unfold w_X5_note_L51
      refine bF (nI_ge (b := 65) hk (by decide)) ⟨in_ (by omega) (by decide), ?_⟩
      rw [e3]
      refine ⟨in_ (by omega) (by decide), ?_⟩
      rintro M3 rfl
      rw [nI_1, ncl (by omega), ncl (by omega)]
      refine ih _ (fun a ha => ?_) (fun i hi => ?_) (fun c hc => ?_)
      · simp only [mu]
        rw [if_neg ha]
        exact g1 a ha
      · show upd (M2 5) (65 * w1 + k) (M2 0 k) i = _
        rw [up_ne (by omega)]
        exact g2 i hi
      · show upd (M2 5) (65 * w1 + k) (M2 0 k) (65 * w1 + c) = _
        by_cases hck : c = k
        · rw [up_eq (by omega), g1 0 (by decide), hck]
        · rw [up_ne (by omega)]
          exact g3 c (by omega)
    · unfold w_X5_note_L51
      exact bT (nI_le (a := 65) (b := 65) (by decide) (by decide)) (hK M2 g1 g2 g3)
  unfold w_X5_note
  by_cases hlt : w < 8
  · have r1 : rc w = w + 1 := if_pos hlt
    have s1 : sh w = 0 := if_pos hlt
    refine nF (by rw [e]; intro q; have := (nI_eq (b := 8) (by omega) (by decide)).mp q; omega) (copy M w hlt e _ ?_)
    intro M2 g1 g2 g3
    rintro M4 rfl
    rw [r1, s1] at h
    refine h _ (fun k h5 h6 => ?_) ?_ (fun j hj c hc => ?_) (fun c hc => ?_)
    · simp only [mu]
      rw [if_neg h6]
      exact g1 k h5
    · show M2 6 0 + 1 = _
      rw [g1 6 (by decide), e]
      exact nI_1 w
    · show M2 5 (65 * j + c) = _
      rw [g2 _ (by omega), Nat.add_zero]
    · show M2 5 (65 * (w + 1 - 1) + c) = _
      exact g3 c hc
  · have hw8 : w = 8 := by omega
    subst hw8
    refine nT e ⟨456, it_up _ _ (fun (k : Nat) (rec : ZI → Int32 → Prop) => ∀ M2 : ZI, (∀ a, ¬ a = 5 → M2 a = M a) → (∀ i, i < k → M2 5 i = M 5 (i + 65)) → (∀ i, k ≤ i → M2 5 i = M 5 i) → rec M2 (nI k)) 455 (fun k hk rec ih M2 g1 g2 g3 => ?_) (fun rec M2 g1 g2 g3 => ?_) M (fun _ _ => rfl) (fun i hi => absurd hi (by omega)) (fun _ _ => rfl)⟩
    · unfold w_X5_note_L11
      refine bF (nI_ge (b := 455) hk (by decide)) ?_
      rw [show nI k + 65 = nI (k + 65) from nI_add k 65]
      refine ⟨in_ (by omega) (by decide), in_ (by omega) (by decide), ?_⟩
      rintro M3 rfl
      rw [nI_1, ncl (by omega), ncl (by omega)]
      refine ih _ (fun a ha => ?_) (fun i hi => ?_) (fun i hi => ?_)
      · simp only [mu]
        rw [if_neg ha]
        exact g1 a ha
      · show upd (M2 5) k (M2 5 (k + 65)) i = _
        by_cases hik : i = k
        · rw [up_eq hik, g3 _ (by omega), hik]
        · rw [up_ne hik]
          exact g2 i (by omega)
      · show upd (M2 5) k (M2 5 (k + 65)) i = _
        rw [up_ne (by omega)]
        exact g3 i (by omega)
    · unfold w_X5_note_L11
      refine bT (nI_le (a := 455) (b := 455) (by decide) (by decide)) ?_
      rintro M9 rfl
      have e7 : (mu M2 6 0 (M2 6 0 - 1)) 6 0 = nI 7 := by
        show M2 6 0 - 1 = nI 7
        rw [g1 6 (by decide), e]
        rfl
      refine copy _ 7 (by decide) e7 _ ?_
      intro M10 f1 f2 f3
      rintro M12 rfl
      refine h _ (fun k h5 h6 => ?_) ?_ (fun j hj c hc => ?_) (fun c hc => ?_)
      · simp only [mu]
        rw [if_neg h6, f1 k h5]
        simp only [mu]
        rw [if_neg h6]
        exact g1 k h5
      · show M10 6 0 + 1 = nI 8
        rw [f1 6 (by decide), e7]
        rfl
      · have hj : j + 1 < 8 := hj
        show M10 5 (65 * j + c) = M 5 (65 * (j + 1) + c)
        rw [f2 _ (by omega)]
        show M2 5 (65 * j + c) = _
        rw [g2 _ (by omega)]
        exact congrArg (M 5) (by omega)
      · show M10 5 (65 * 7 + c) = M 0 c
        rw [f3 c hc]
        show M2 0 c = M 0 c
        rw [g1 0 (by decide)]
theorem RT_note {T T' : ZI} {m ah ah' : Nat → Int32} {w : Nat} (hw : w ≤ 8) (h : RT T m ah (nI w)) (t1 : ∀ k, k < 8 → T' k = T k) (t2 : T' 10 0 = nI (rc w)) (t3 : ∀ j, j + 1 < rc w → (∀ c, c < 64 → T' 8 (64 * j + c) = T 8 (64 * (j + sh w) + c)) ∧ T' 9 j = T 9 (j + sh w)) (t4 : ∀ c, c < 64 → T' 8 (64 * (rc w - 1) + c) = T 1 c) (t5 : T' 9 (rc w - 1) = T 2 0) (m3 : ∀ j, j + 1 < rc w → ∀ c, c < 65 → ah' (65 * j + c) = ah (65 * (j + sh w) + c)) (m4 : ∀ c, c < 65 → ah' (65 * (rc w - 1) + c) = m c) : RT T' m ah' (nI (rc w)) := by
  obtain ⟨h1, h2, h3, h4, h5, -, w', hw', e', h6⟩ := h
  have : w' = w := (nI_eq (by omega) (by omega)).mp e'.symm
  subst this
  have hr : rc w' ≤ 8 ∧ 1 ≤ rc w' ∧ ∀ j, j + 1 < rc w' → j + sh w' < w' := by
    unfold rc sh
    split
    · exact ⟨by omega, by omega, fun j hj => by omega⟩
    · exact ⟨by omega, by omega, fun j hj => by omega⟩
  refine ⟨fun k hk => by rw [t1 0 (by decide)]; exact h1 k hk, fun c hc => by rw [t1 1 (by decide)]; exact h2 c hc, by rw [t1 2 (by decide)]; exact h3, by rw [t1 3 (by decide), t1 4 (by decide)]; exact h4, by rw [t1 5 (by decide), t1 6 (by decide), t1 7 (by decide)]; exact h5, t2, rc w', hr.1, rfl, fun j hj => ?_⟩
  by_cases hl : j + 1 < rc w'
  · obtain ⟨g1, g2, g3⟩ := h6 (j + sh w') (hr.2.2 j hl)
    obtain ⟨f1, f2⟩ := t3 j hl
    refine ⟨fun c hc => ?_, ?_, ?_⟩
    · rw [f1 c hc, m3 j hl c (by omega)]
      exact g1 c hc
    · rw [f2, m3 j hl 64 (by omega)]
      exact g2
    · rw [m3 j hl 64 (by omega)]
      exact g3
  · have hj2 : j = rc w' - 1 := by omega
    subst hj2
    refine ⟨fun c hc => ?_, ?_, ?_⟩
    · rw [t4 c hc, m4 c (by omega)]
      exact h2 c hc
    · rw [t5, m4 64 (by omega)]
      exact h3.1
    · rw [m4 64 (by omega)]
      exact h3.2
theorem RT_paint {T : ZI} {m ah : Nat → Int32} {um : Int32} (h : RT T m ah um) {v : Nat} (hv : v ≤ 12) : RT (mu T 2 0 (nI v)) (upd m 64 (nI v)) ah um := by
  obtain ⟨h1, h2, h3, h4, h5, h6⟩ := h
  have z : ∀ i, ¬ i = 64 → upd m 64 (nI v) i = m i := fun i hi => up_ne hi
  refine ⟨fun i hi => ?_, fun c hc => ?_, ⟨rfl, v, hv, rfl⟩, ?_, ?_, h6⟩
  · rw [z _ (by omega)]
    exact h1 i hi
  · rw [z _ (by omega)]
    exact h2 c hc
  · rw [z _ (by omega)]
    obtain ⟨a, w, b, e, f⟩ := h4
    exact ⟨a, w, b, e, fun i hi => by rw [z _ (by omega)]; exact f i hi⟩
  · rw [z _ (by omega)]
    obtain ⟨a, w, b, e, f⟩ := h5
    exact ⟨a, w, b, e, fun i hi => by rw [z _ (by omega)]; exact f i hi⟩
theorem RT.um {T : ZI} {m ah : Nat → Int32} {um : Int32} (h : RT T m ah um) : ∃ w, w ≤ 8 ∧ um = nI w ∧ T 10 0 = nI w := by
  obtain ⟨-, -, -, -, -, e0, w, hw, e, -⟩ := h
  exact ⟨w, hw, e, e0.trans e⟩
/-- what a changed reference keeps -/
theorem Inv.re {N N' D D' X PM : ZI} {PL PL' : ZL} {i0 i1 : Option ZI} {M M' : ZI} {L L' : ZL} (h : Inv N D X PM PL i0 i1 M L) (hR : RT N' (M' 0) (M' 5) (M' 6 0)) (h3 : M' 3 = M 3) (h7 : M' 7 = M 7) (h8 : M' 8 = M 8) (ha : M' 18 = M 18) (hb : M' 19 = M 19) (hc : M' 20 = M 20) (hd : M' 21 = M 21) (p5 : PL' 5 0 = L' 1 0) (p6 : PL' 6 0 = L' 2 0) : Inv N' D' X PM PL' i0 i1 M' L' := by
  obtain ⟨g1, g2, g3, g4, g5, g6⟩ := h
  refine ⟨hR, ?_, ?_, ?_, ?_, p5, p6⟩
  · rw [ha, hb, hc, hd]
    exact g2
  · rw [ha, hb, hc, hd]
    exact g3
  · rw [h7, h8]
    exact g4
  · rw [h3]
    exact g5
theorem p_dip : st_dip Inv := by
  intro N D X PM PL i0 i1 M L x1 hI
  unfold w_X4_dip
  refine s_within (a := 0) (b := 12) (by decide) (by decide) (fun v => b1n ?_) (fun v => b0n (s4_bad ?_))
  · obtain ⟨k, -, hk, rfl⟩ := id v
    obtain ⟨w, hw, e1, e2⟩ := hI.1.um
    rintro r rfl
    refine s_remember hw e2 (fun T' t1 t2 t3 t4 t5 => ?_)
    rintro N4 rfl
    unfold w_X5_dip
    refine s_in (a := 0) (b := 12) (by decide) (by decide) (fun _ => b1n (s_note hw e1 (fun M' g1 g2 g3 g4 => ?_))) (fun q => absurd v q)
    rintro r2 rfl M5 rfl
    have hR : RT T' (M' 0) (M' 5) (M' 6 0) := by
      rw [g2, g1 0 (by decide) (by decide)]
      exact RT_note hw (by rw [← e1]; exact hI.1) t1 t2 t3 t4 t5 g3 g4
    refine ⟨?_, hI.re (RT_paint hR hk) (g1 3 (by decide) (by decide)) (g1 7 (by decide) (by decide)) (g1 8 (by decide) (by decide)) (g1 18 (by decide) (by decide)) (g1 19 (by decide) (by decide)) (g1 20 (by decide) (by decide)) (g1 21 (by decide) (by decide)) hI.2.2.2.2.2.1 hI.2.2.2.2.2.2⟩
    rw [g1 0 (by decide) (by decide)]
    exact hI.1.2.2.1.1
  · unfold w_X5_dip
    exact s_in (a := 0) (b := 12) (by decide) (by decide) (fun q => absurd q v) (fun _ => b0n (s5_bad ⟨rfl, inv_bad hI⟩))
theorem p_undo : st_undo Inv := by
  intro N D X PM PL i0 i1 M L hI
  unfold w_X4_undo
  obtain ⟨w, hw, e1, e2⟩ := hI.1.um
  by_cases h0 : w = 0
  · subst h0
    refine nT e2 (s4_no ?_)
    unfold w_X5_undo
    exact nT e1 (s5_no ⟨rfl, inv_no hI⟩)
  · have hp : (nI w : Int32) - 1 = nI (w - 1) := nsub (b := 1) (by omega)
    refine nF (by rw [e2]; exact nI_ne0 (by omega) (by omega)) ?_
    unfold w_X2_stepBack
    refine bF (by rw [e2]; exact nI_nle (by omega) (by omega)) ?_
    rintro T1 rfl
    have q1 : (mu N 10 0 (N 10 0 - 1)) 10 0 = nI (w - 1) := by show N 10 0 - 1 = _; rw [e2, hp]
    rw [q1, show nI (w - 1) * 64 = nI ((w - 1) * 64) from pk_mul (w - 1) 64, ncl (by omega)]
    refine ⟨⟨nI_pos (by omega), by decide, by decide, by omega, by decide⟩, ?_⟩
    rintro T2 rfl
    refine ⟨by show vp_in ((mu N 10 0 (N 10 0 - 1)) 10 0) 8; rw [q1]; exact in_ (by omega) (by decide), ?_⟩
    rintro T3 rfl
    have hR := hI.1
    rw [e1] at hR
    obtain ⟨r1, r2, r3, r4, r5, -, w', hw', e', r6⟩ := id hR
    have : w' = w := (nI_eq (by omega) (by omega)).mp e'.symm
    subst this
    obtain ⟨l1, l2, l3⟩ := r6 (w' - 1) (by omega)
    have hq2 : (mu N 10 0 (N 10 0 - 1)) 9 ((mu N 10 0 (N 10 0 - 1)) 10 0).toNatClampNeg = M 5 (65 * (w' - 1) + 64) := by
      rw [q1, ncl (by omega)]
      exact l2
    unfold w_X5_undo
    refine nF (by rw [e1]; exact nI_ne0 (by omega) (by omega)) ?_
    rintro M1 rfl
    refine ⟨66, it_up _ _ (fun (k : Nat) (rec : ZI → Int32 → Prop) => ∀ M2 : ZI, (∀ a, ¬ a = 0 → M2 a = (mu M 6 0 (M 6 0 - 1)) a) → (∀ i, i < k → M2 0 i = M 5 (65 * (w' - 1) + i)) → (∀ i, k ≤ i → M2 0 i = M 0 i) → rec M2 (nI k)) 65 (fun k hk rec ih M2 g1 g2 g3 => ?_) (fun rec M2 g1 g2 g3 => ?_) _ (fun _ _ => rfl) (fun i hi => absurd hi (by omega)) (fun _ _ => rfl)⟩
    · have e3 : M2 6 0 = nI (w' - 1) := by
        rw [g1 6 (by decide)]
        show M 6 0 - 1 = _
        rw [e1, hp]
      have e4 : (65 : Int32) * M2 6 0 + nI k = nI (65 * (w' - 1) + k) := by rw [e3, show (65 : Int32) * nI (w' - 1) = nI (65 * (w' - 1)) from pk_mul 65 _, nI_add]
      unfold w_X5_undo_L24
      refine bF (nI_ge (b := 65) hk (by decide)) ?_
      rw [e4]
      refine ⟨in_ (by omega) (by decide), in_ (by omega) (by decide), ?_⟩
      rintro M3 rfl
      rw [nI_1, ncl (by omega), ncl (by omega)]
      refine ih _ (fun a ha => ?_) (fun i hi => ?_) (fun i hi => ?_)
      · simp only [mu]
        rw [if_neg ha]
        exact g1 a ha
      · show upd (M2 0) k (M2 5 (65 * (w' - 1) + k)) i = _
        by_cases hik : i = k
        · rw [up_eq hik, g1 5 (by decide), hik]
          rfl
        · rw [up_ne hik]
          exact g2 i (by omega)
      · show upd (M2 0) k (M2 5 (65 * (w' - 1) + k)) i = _
        rw [up_ne (by omega)]
        exact g3 i (by omega)
    · unfold w_X5_undo_L24
      refine bT (nI_le (a := 65) (b := 65) (by decide) (by decide)) ⟨?_, ?_⟩
      · show (mu N 10 0 (N 10 0 - 1)) 9 ((mu N 10 0 (N 10 0 - 1)) 10 0).toNatClampNeg = M2 0 64
        rw [hq2, g2 64 (by omega)]
      · have g6 : M2 6 0 = nI (w' - 1) := by
          rw [g1 6 (by decide)]
          show M 6 0 - 1 = _
          rw [e1, hp]
        refine hI.re ?_ (g1 3 (by decide)) (g1 7 (by decide)) (g1 8 (by decide)) (g1 18 (by decide)) (g1 19 (by decide)) (g1 20 (by decide)) (g1 21 (by decide)) hI.2.2.2.2.2.1 hI.2.2.2.2.2.2
        rw [g6, g1 5 (by decide)]
        refine ⟨fun k hk => ?_, fun c hc => ?_, ⟨?_, ?_⟩, ?_, ?_, q1, w' - 1, by omega, rfl, fun j hj => r6 j (by omega)⟩
        · rw [g3 _ (by omega)]
          exact r1 k hk
        · show va_cpy (N 8) (N 1) ((w' - 1) * 64) 0 64 c = _ ∧ _
          rw [cpy_in (by omega), g2 _ (by omega), show (w' - 1) * 64 + (c - 0) = 64 * (w' - 1) + c by omega]
          exact l1 c hc
        · show (mu N 10 0 (N 10 0 - 1)) 9 ((mu N 10 0 (N 10 0 - 1)) 10 0).toNatClampNeg = M2 0 64
          rw [hq2, g2 64 (by omega)]
        · rw [g2 64 (by omega)]
          exact l3
        · rw [g3 67 (by omega)]
          obtain ⟨a, w, b, e, f⟩ := r4
          exact ⟨a, w, b, e, fun i hi => by rw [g3 _ (by omega)]; exact f i hi⟩
        · rw [g3 76 (by omega)]
          obtain ⟨a, w, b, e, f⟩ := r5
          exact ⟨a, w, b, e, fun i hi => by rw [g3 _ (by omega)]; exact f i hi⟩
