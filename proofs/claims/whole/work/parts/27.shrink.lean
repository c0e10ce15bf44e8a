/-! shrinks, gone -/
def upi (v : Nat) (x y : Int) : Bool := decide (0 ≤ x ∧ x ≤ 3 ∧ 0 ≤ y ∧ y ≤ 3) && v.testBit (4 * y + x).toNat
theorem vld_int {X : Int32} : vld X 0 3 ↔ 0 ≤ X.toInt ∧ X.toInt ≤ 3 := by
  rw [vld_iff (by decide) (by decide), Int32.lt_iff_toInt_lt, Int32.lt_iff_toInt_lt, nI_toInt (by decide), nI_toInt (by decide)]
  omega
theorem and_bit {v k : Nat} (hk : k < 31) : nI v &&& nI (2 ^ k) = 0 ↔ v.testBit k = false := by
  have h2 : (2 : Nat) ^ k < 2 ^ 31 := Nat.pow_lt_pow_right (by decide) hk
  have hle : v &&& 2 ^ k ≤ 2 ^ k := Nat.and_le_right
  have e : v &&& 2 ^ k = 0 ↔ v.testBit k = false := by
    constructor
    · intro h
      have h1 : (v &&& 2 ^ k).testBit k = false := by rw [h]; simp
      rw [Nat.testBit_and, Nat.testBit_two_pow] at h1
      simpa using h1
    · intro h
      apply Nat.eq_of_testBit_eq
      intro i
      rw [Nat.testBit_and, Nat.testBit_two_pow, Nat.zero_testBit]
      by_cases hi : k = i
      · subst hi
        simp [h]
      · simp [hi]
  rw [nand, show (0 : Int32) = nI 0 from rfl, nI_eq (by omega) (by decide), e]
theorem s_isUp {v : Nat} {X Y : Int32} {post : Int32 → Prop} (h : post (if upi v X.toInt Y.toInt then 1 else 0)) : w_X1_isUp (nI v) X Y post := by
  unfold w_X1_isUp
  have out : (¬ (vld X 0 3 ∧ vld Y 0 3)) → post 0 := fun hn => by
    have : upi v X.toInt Y.toInt = false := by
      unfold upi
      have : ¬ (0 ≤ X.toInt ∧ X.toInt ≤ 3 ∧ 0 ≤ Y.toInt ∧ Y.toInt ≤ 3) := fun q => hn ⟨vld_int.mpr ⟨q.1, q.2.1⟩, vld_int.mpr q.2.2⟩
      simp [this]
    rw [this] at h
    exact h
  refine s_within (a := 0) (b := 3) (by decide) (by decide) (fun v1 => b1 (s_within (a := 0) (b := 3) (by decide) (by decide) (fun v2 => b1 ?_) (fun v2 => b0 (out (fun q => v2 q.2))))) (fun v1 => b0 (out (fun q => v1 q.1)))
  obtain ⟨x, -, hx, rfl⟩ := v1
  obtain ⟨y, -, hy, rfl⟩ := v2
  rw [nI_toInt (by omega), nI_toInt (by omega)] at h
  have e : upi v x y = v.testBit (4 * y + x) := by
    unfold upi
    have h1 : (0 : Int) ≤ (x : Int) ∧ (x : Int) ≤ 3 ∧ (0 : Int) ≤ (y : Int) ∧ (y : Int) ≤ 3 := by omega
    have h2 : (4 * (y : Int) + (x : Int)).toNat = 4 * y + x := by omega
    rw [h2]
    simp [h1]
  rw [e] at h
  unfold w_X1_bitOf
  rw [show (4 : Int32) * nI y + nI x = nI (4 * y + x) by rw [show (4 : Int32) * nI y = nI (4 * y) from pk_mul 4 y, nI_add], sh1 _ (by omega)]
  by_cases hb : v.testBit (4 * y + x) = true
  · rw [if_pos hb] at h
    exact bF (fun q => by have := (and_bit (by omega)).mp q; rw [hb] at this; cases this) h
  · rw [if_neg hb] at h
    exact bT ((and_bit (by omega)).mpr (by simpa using hb)) h
def inn (v c : Nat) : Bool := upi v ((c % 4 : Nat) - 1 : Int) (c / 4 : Nat) && (upi v ((c % 4 : Nat) + 1 : Int) (c / 4 : Nat) && (upi v (c % 4 : Nat) ((c / 4 : Nat) - 1 : Int) && (upi v (c % 4 : Nat) ((c / 4 : Nat) + 1 : Int) && upi v (c % 4 : Nat) (c / 4 : Nat))))
def shr (v : Nat) : Nat := orb (inn v) id 16
theorem shr_lt (v : Nat) : shr v < 65536 := orb_lt (b := 16) 16 (fun i hi => hi)
theorem ti_m1 : ∀ x, x < 4 → (nI x - 1).toInt = (x : Int) - 1 := by decide +kernel
theorem ti_p1 : ∀ x, x < 4 → (nI x + 1).toInt = (x : Int) + 1 := by decide +kernel
theorem T_bit : ∀ y, y < 4 → ∀ x, x < 4 → (1 : Int32) <<< (((4 * nI y) + nI x) &&& 31) = nI (2 ^ (4 * y + x)) := by decide +kernel
theorem b_ite {b : Bool} {A B : Prop} (h0 : b = false → A) (h1 : b = true → B) : ((if b then (1 : Int32) else 0) = 0 → A) ∧ (¬ (if b then (1 : Int32) else 0) = 0 → B) := by
  cases b
  · exact ⟨fun _ => h0 rfl, fun q => absurd rfl q⟩
  · exact ⟨fun q => absurd q (by decide), fun _ => h1 rfl⟩
theorem s4_shrunk {v : Nat} {post : Int32 → Prop} (h : post (nI (shr v))) : w_X1_shrunk (nI v) post := by
  refine ⟨5, it_up _ _ (fun (y : Nat) (rec : Int32 → Int32 → Prop) => rec (nI (orb (inn v) id (4 * y))) (nI y)) 4 (fun y hy rec ih => ?_) (fun rec => ?_)⟩
  · unfold w_X1_shrunk_L4
    refine bF (nI_ge (b := 4) hy (by decide)) ?_
    refine ⟨5, it_up _ _ (fun (x : Nat) (rec2 : Int32 → Int32 → Prop) => rec2 (nI (orb (inn v) id (4 * y + x))) (nI x)) 4 (fun x hx rec2 ih2 => ?_) (fun rec2 => ?_)⟩
    · unfold w_X1_shrunk_L11
      obtain ⟨s1, s2⟩ := orb_step (n := 4 * y + x) (rec := fun z => rec2 z (nI x + 1)) (by rw [nI_1]; exact ih2)
      have hq : (4 * y + x) % 4 = x ∧ (4 * y + x) / 4 = y := by omega
      have hin : inn v (4 * y + x) = (upi v ((x : Int) - 1) y && (upi v ((x : Int) + 1) y && (upi v x ((y : Int) - 1) && (upi v x ((y : Int) + 1) && upi v x y)))) := by
        unfold inn
        rw [hq.1, hq.2]
      have no : inn v (4 * y + x) = false → rec2 (nI (orb (inn v) id (4 * y + x))) (nI x + 1) := fun e => s2 (by rw [e]; decide)
      have tx : (nI x).toInt = (x : Int) := nI_toInt (by omega)
      have ty : (nI y).toInt = (y : Int) := nI_toInt (by omega)
      refine bF (nI_ge (b := 4) hx (by decide)) (s_isUp ?_)
      rw [ti_m1 x hx, ty]
      refine b_ite (fun e1 => s_isUp ?_) (fun e1 => s_isUp ?_)
      · have := no (by rw [hin, e1]; rfl)
        exact b_ite (fun _ => this) (fun _ => this)
      rw [ti_p1 x hx, ty]
      refine b_ite (fun e2 => s_isUp ?_) (fun e2 => s_isUp ?_)
      · have := no (by rw [hin, e1, e2]; rfl)
        exact b_ite (fun _ => this) (fun _ => this)
      rw [ti_m1 y hy, tx]
      refine b_ite (fun e3 => s_isUp ?_) (fun e3 => s_isUp ?_)
      · have := no (by rw [hin, e1, e2, e3]; rfl)
        exact b_ite (fun _ => this) (fun _ => this)
      rw [ti_p1 y hy, tx]
      refine b_ite (fun e4 => s_isUp ?_) (fun e4 => s_isUp ?_)
      · have := no (by rw [hin, e1, e2, e3, e4]; rfl)
        exact b_ite (fun _ => this) (fun _ => this)
      rw [tx, ty]
      refine b_ite (fun e5 => no (by rw [hin, e1, e2, e3, e4, e5]; rfl)) (fun e5 => ?_)
      unfold w_X1_bitOf
      rw [T_bit y hy x hx]
      rintro v11 rfl
      exact s1 (by rw [hin, e1, e2, e3, e4, e5]; rfl)
    · unfold w_X1_shrunk_L11
      refine bT (nI_le (a := 4) (b := 4) (by decide) (by decide)) ?_
      show rec (nI (orb (inn v) id (4 * y + 4))) (nI y + 1)
      rw [nI_1]
      exact ih
  · unfold w_X1_shrunk_L4
    exact bT (nI_le (a := 4) (b := 4) (by decide) (by decide)) h
theorem upi_at {v x y : Nat} (hx : x ≤ 3) (hy : y ≤ 3) : upi v x y = v.testBit (4 * y + x) := by
  unfold upi
  have h1 : (0 : Int) ≤ (x : Int) ∧ (x : Int) ≤ 3 ∧ (0 : Int) ≤ (y : Int) ∧ (y : Int) ≤ 3 := by omega
  have h2 : (4 * (y : Int) + (x : Int)).toNat = 4 * y + x := by omega
  rw [h2]
  simp [h1]
theorem upi_out {v : Nat} {x y : Int} (h : ¬ (0 ≤ x ∧ x ≤ 3 ∧ 0 ≤ y ∧ y ≤ 3)) : upi v x y = false := by
  unfold upi
  simp [h]
/-- inside, with all four beside it -/
theorem inn_in {v c : Nat} (hc : c < 16) (hi : 0 < c % 4 ∧ c % 4 < 3 ∧ 0 < c / 4 ∧ c / 4 < 3) : inn v c = (v.testBit (c - 1) && (v.testBit (c + 1) && (v.testBit (c - 4) && (v.testBit (c + 4) && v.testBit c)))) := by
  unfold inn
  have e1 : upi v ((c % 4 : Nat) - 1 : Int) (c / 4 : Nat) = v.testBit (c - 1) := by
    rw [show ((c % 4 : Nat) - 1 : Int) = ((c % 4 - 1 : Nat) : Int) by omega, upi_at (by omega) (by omega)]
    exact congrArg v.testBit (by omega)
  have e2 : upi v ((c % 4 : Nat) + 1 : Int) (c / 4 : Nat) = v.testBit (c + 1) := by
    rw [show ((c % 4 : Nat) + 1 : Int) = ((c % 4 + 1 : Nat) : Int) by omega, upi_at (by omega) (by omega)]
    exact congrArg v.testBit (by omega)
  have e3 : upi v (c % 4 : Nat) ((c / 4 : Nat) - 1 : Int) = v.testBit (c - 4) := by
    rw [show ((c / 4 : Nat) - 1 : Int) = ((c / 4 - 1 : Nat) : Int) by omega, upi_at (by omega) (by omega)]
    exact congrArg v.testBit (by omega)
  have e4 : upi v (c % 4 : Nat) ((c / 4 : Nat) + 1 : Int) = v.testBit (c + 4) := by
    rw [show ((c / 4 : Nat) + 1 : Int) = ((c / 4 + 1 : Nat) : Int) by omega, upi_at (by omega) (by omega)]
    exact congrArg v.testBit (by omega)
  have e5 : upi v (c % 4 : Nat) (c / 4 : Nat) = v.testBit c := by
    rw [upi_at (by omega) (by omega)]
    exact congrArg v.testBit (by omega)
  rw [e1, e2, e3, e4, e5]
theorem inn_out {v c : Nat} (hc : c < 16) (hi : ¬ (0 < c % 4 ∧ c % 4 < 3 ∧ 0 < c / 4 ∧ c / 4 < 3)) : inn v c = false := by
  unfold inn
  by_cases h1 : c % 4 = 0
  · rw [upi_out (v := v) (x := ((c % 4 : Nat) - 1 : Int)) (by omega)]
    rfl
  · by_cases h2 : c % 4 = 3
    · rw [upi_out (v := v) (x := ((c % 4 : Nat) + 1 : Int)) (by omega)]
      simp
    · by_cases h3 : c / 4 = 0
      · rw [upi_out (v := v) (y := ((c / 4 : Nat) - 1 : Int)) (by omega)]
        simp
      · rw [upi_out (v := v) (y := ((c / 4 : Nat) + 1 : Int)) (by omega)]
        simp
theorem T_qr : ∀ c, c < 16 → jrem (nI c) 4 = nI (c % 4) ∧ nI c / 4 = nI (c / 4) := by decide +kernel
theorem s5_shrunk {v : Nat} (hv : v < 65536) {post : Int32 → Prop} (h : post (nI (shr v))) : w_X5_shrunk (nI v) post := by
  refine ⟨17, it_up _ _ (fun (c : Nat) (rec : Int32 → Int32 → Prop) => rec (nI (orb (inn v) id c)) (nI c)) 16 (fun c hc rec ih => ?_) (fun rec => ?_)⟩
  · unfold w_X5_shrunk_L4
    obtain ⟨s1, s2⟩ := orb_step (rec := fun z => rec z (nI (c + 1))) ih
    have no : inn v c = false → ∀ z : Int32, z = nI (orb (inn v) id c) ||| 0 → rec z (nI (c + 1)) := fun e z hz => by
      subst hz
      rw [or0]
      exact s2 (by rw [e]; decide)
    rw [nI_1, (T_qr c hc).1, (T_qr c hc).2]
    refine bF (nI_ge (b := 16) hc (by decide)) ?_
    rintro v1 rfl v2 rfl
    by_cases h1 : c % 4 = 0
    · refine bT (by rw [h1]; exact nI_le (a := 0) (b := 0) (by decide) (by decide)) (no (inn_out hc (by omega)))
    refine bF (nI_nle (by omega) (by omega)) ?_
    by_cases h2 : 3 ≤ c % 4
    · exact bT (nI_le (a := 3) h2 (by omega)) (no (inn_out hc (by omega)))
    refine bF (nI_ge (b := 3) (by omega) (by decide)) ?_
    by_cases h3 : c / 4 = 0
    · refine bT (by rw [h3]; exact nI_le (a := 0) (b := 0) (by decide) (by decide)) (no (inn_out hc (by omega)))
    refine bF (nI_nle (by omega) (by omega)) ?_
    by_cases h4 : 3 ≤ c / 4
    · exact bT (nI_le (a := 3) h4 (by omega)) (no (inn_out hc (by omega)))
    refine bF (nI_ge (b := 3) (by omega) (by decide)) ?_
    have hin := inn_in (v := v) hc (by omega)
    have a1 : nI c - 1 = nI (c - 1) := nsub (b := 1) (by omega)
    have a4 : nI c - 4 = nI (c - 4) := nsub (b := 4) (by omega)
    have p4 : nI c + 4 = nI (c + 4) := nI_add c 4
    have p1 : nI c + 1 = nI (c + 1) := nI_1 c
    rw [a1, a4, p4]
    refine s_has (by omega) (by omega) (b_ite (fun e0 => no (by rw [hin, e0]; simp)) (fun e0 => s_has (by omega) (by omega) (b_ite (fun e1 => no (by rw [hin, e1]; rfl)) (fun e1 => ?_))))
    refine s_has (k := c + 1) (by omega) (by omega) (b_ite (fun e2 => no (by rw [hin, e2]; simp)) (fun e2 => s_has (by omega) (by omega) (b_ite (fun e3 => no (by rw [hin, e3]; simp)) (fun e3 => s_has (by omega) (by omega) (b_ite (fun e4 => no (by rw [hin, e4]; simp)) (fun e4 => ?_))))))
    rw [sh1 c (by omega)]
    rintro v17 rfl
    exact s1 (by rw [hin, e0, e1, e2, e3, e4]; rfl)
  · unfold w_X5_shrunk_L4
    exact bT (nI_le (a := 16) (b := 16) (by decide) (by decide)) h
def shi (v : Nat) : Nat → Nat
  | 0 => v
  | k + 1 => shr (shi v k)
theorem shi_lt {v : Nat} (hv : v < 65536) : ∀ k, shi v k < 65536 := by
  intro k
  cases k with
  | zero => exact hv
  | succ k => exact shr_lt _
theorem p_shrinks : st_shrinks Inv := by
  intro N D X PM PL i0 i1 M L x1 x2 hI
  unfold w_X4_shrinks
  have hbad : (¬ (vld x1 0 1 ∧ vld x2 0 4)) → w_X5_shrinks M L x1 x2 (fun r2 M L => (-2 : Int32) = r2 ∧ Inv N D X (mu PM 7 0 (PM 7 0 + 1)) PL i0 i1 M L) := fun hn => by
    unfold w_X5_shrinks
    exact s_isWhat (fun v1 => b1 (s_in (a := 0) (b := 4) (by decide) (by decide) (fun v2 => absurd ⟨v1, v2⟩ hn) (fun _ => b0n (s5_bad ⟨rfl, inv_bad hI⟩)))) (fun _ => b0 (s5_bad ⟨rfl, inv_bad hI⟩))
  refine s_within (a := 0) (b := 1) (by decide) (by decide) (fun v1 => b1 (s_within (a := 0) (b := 4) (by decide) (by decide) (fun v2 => b1n ?_) (fun v2 => b0n (s4_bad (hbad (fun q => v2 q.2)))))) (fun v1 => b0 (s4_bad (hbad (fun q => v1 q.1))))
  obtain ⟨k, -, hk, rfl⟩ := id v1
  obtain ⟨t, -, ht, rfl⟩ := id v2
  obtain ⟨v, hv, e1, e2⟩ := hI.1.pot hk
  refine ⟨in_ (by omega) (by decide), ?_⟩
  rw [ncl (by omega), e1]
  rintro v9 rfl
  refine ⟨t + 1, it_up _ _ (fun (i : Nat) (rec : Int32 → Int32 → Prop) => rec (nI (shi v i)) (nI i)) t (fun i hi rec ih => ?_) (fun rec => ?_)⟩
  · unfold w_X4_shrinks_L38
    refine bF (nI_ge hi (by omega)) (s4_shrunk ?_)
    rw [nI_1]
    exact ih
  unfold w_X4_shrinks_L38
  refine bT (nI_le (Nat.le_refl t) (by omega)) ?_
  unfold w_X5_shrinks
  refine s_isWhat (fun _ => b1 (s_in (a := 0) (b := 4) (by decide) (by decide) (fun _ => b1n ?_) (fun q => absurd v2 q))) (fun q => absurd v1 q)
  rw [show (65 : Int32) + nI k = nI (65 + k) from nI_add 65 k, ncl (by omega), e2]
  refine ⟨in_ (by omega) (by decide), ?_⟩
  rintro v6 rfl
  refine ⟨t + 1, it_up _ _ (fun (i : Nat) (rec : Int32 → Int32 → Prop) => rec (nI (shi v i)) (nI i)) t (fun i hi rec ih => ?_) (fun rec => ?_)⟩
  · unfold w_X5_shrinks_L37
    refine bF (nI_ge hi (by omega)) (s5_shrunk (shi_lt hv i) ?_)
    rw [nI_1]
    exact ih
  unfold w_X5_shrinks_L37
  exact bT (nI_le (Nat.le_refl t) (by omega)) ⟨rfl, hI⟩
theorem shr_bit_in {v c : Nat} (h : (shr v).testBit c = true) : c < 16 ∧ 0 < c % 4 ∧ c % 4 < 3 ∧ 0 < c / 4 ∧ c / 4 < 3 := by
  obtain ⟨i, h1, h2, h3⟩ := (orb_bit _ _ _ _).mp h
  have h3 : i = c := h3
  subst h3
  by_cases hi : 0 < i % 4 ∧ i % 4 < 3 ∧ 0 < i / 4 ∧ i / 4 < 3
  · exact ⟨h1, hi⟩
  · rw [inn_out h1 hi] at h2
    cases h2
theorem shr2 (v : Nat) : shr (shr v) = 0 := by
  apply eq_bits
  intro j
  rw [Nat.zero_testBit]
  constructor
  · intro h
    obtain ⟨i, h1, h2, h3⟩ := (orb_bit _ _ _ _).mp h
    have h3 : i = j := h3
    subst h3
    obtain ⟨g1, g2⟩ := shr_bit_in h
    rw [inn_in g1 g2] at h2
    simp only [Bool.and_eq_true] at h2
    have q1 := shr_bit_in h2.1
    have q2 := shr_bit_in h2.2.1
    omega
  · intro h
    cases h
def gon (v : Nat) : Nat := if v = 0 then 0 else if shr v = 0 then 1 else 2
theorem p_gone : st_gone Inv := by
  intro N D X PM PL i0 i1 M L x1 hI
  unfold w_X4_gone
  refine s_within (a := 0) (b := 1) (by decide) (by decide) (fun v1 => b1n ?_) (fun v1 => b0n (s4_bad ?_))
  · obtain ⟨k, -, hk, rfl⟩ := id v1
    obtain ⟨v, hv, e1, e2⟩ := hI.1.pot hk
    refine ⟨in_ (by omega) (by decide), ?_⟩
    rw [ncl (by omega), e1]
    rintro v2 rfl
    have ne : ∀ w, w < 65536 → ¬ w = 0 → ¬ nI w = 0 := fun w h1 h2 => nI_ne0 (by omega) (by omega)
    have hs := shr_lt v
    have hm : w_X5_gone M L (nI k) (fun r2 M L => nI (gon v) = r2 ∧ Inv N D X PM PL i0 i1 M L) := by
      unfold w_X5_gone
      refine s_isWhat (fun _ => b1n ?_) (fun q => absurd v1 q)
      rw [show (65 : Int32) + nI k = nI (65 + k) from nI_add 65 k, ncl (by omega), e2]
      refine ⟨in_ (by omega) (by decide), ?_⟩
      rintro v6 rfl
      refine ⟨3, ?_⟩
      show w_X5_gone_L24 _ _ _ _ _ (itF _ _ 2) 0 (nI v)
      unfold w_X5_gone_L24
      by_cases h0 : v = 0
      · subst h0
        exact bT rfl ⟨rfl, hI⟩
      · refine bF (ne v hv h0) (s5_shrunk hv ?_)
        show (_ → _) ∧ (_ → _)
        by_cases h1 : shr v = 0
        · refine bT (by rw [h1]; rfl) ⟨?_, hI⟩
          show nI (gon v) = 0 + 1
          rw [gon, if_neg h0, if_pos h1]
          rfl
        · refine bF (ne _ hs h1) (s5_shrunk hs ?_)
          rw [shr2]
          show (_ → _) ∧ (_ → _)
          refine bT rfl ⟨?_, hI⟩
          show nI (gon v) = 0 + 1 + 1
          rw [gon, if_neg h0, if_neg h1]
          rfl
    refine ⟨3, ?_⟩
    show w_X4_gone_L28 _ _ _ _ _ _ _ _ (itF _ _ 2) (nI v) 0
    unfold w_X4_gone_L28
    by_cases h0 : v = 0
    · subst h0
      exact bT rfl hm
    · refine bF (ne v hv h0) (bF (by decide) (s4_shrunk ?_))
      show (_ → _) ∧ (_ → _)
      by_cases h1 : shr v = 0
      · refine bT (by rw [h1]; rfl) ?_
        rw [gon, if_neg h0, if_pos h1] at hm
        exact hm
      · refine bF (ne _ hs h1) (bF (by decide) (s4_shrunk ?_))
        rw [shr2]
        show (_ → _) ∧ (_ → _)
        refine bT rfl ?_
        rw [gon, if_neg h0, if_neg h1] at hm
        exact hm
  · unfold w_X5_gone
    exact s_isWhat (fun q => absurd q v1) (fun _ => b0n (s5_bad ⟨rfl, inv_bad hI⟩))
