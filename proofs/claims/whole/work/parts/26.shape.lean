/-! a potato's cells: looks, alike, shrinks, gone -/
theorem nor (a b : Nat) : nI a ||| nI b = nI (a ||| b) := by
  apply Int32.toBitVec_inj.1
  show BitVec.ofNat 32 a ||| BitVec.ofNat 32 b = BitVec.ofNat 32 (a ||| b)
  apply BitVec.eq_of_getLsbD_eq
  intro i hi
  simp [hi]
theorem nand (a b : Nat) : nI a &&& nI b = nI (a &&& b) := by
  apply Int32.toBitVec_inj.1
  show BitVec.ofNat 32 a &&& BitVec.ofNat 32 b = BitVec.ofNat 32 (a &&& b)
  apply BitVec.eq_of_getLsbD_eq
  intro i hi
  simp [hi]
theorem tb_sh : ∀ k, k < 32 → ((nI k &&& 31).toBitVec.smod 32).toNat = k := by decide +kernel
theorem tb_us : ∀ k, k < 32 → (((nI k).toUInt32 &&& Int32.toUInt32 31).toBitVec % 32).toNat = k := by decide +kernel
theorem sh1 : ∀ k, k < 31 → (1 : Int32) <<< (nI k &&& 31) = nI (2 ^ k) := by decide +kernel
theorem and1 {n : Nat} (h : n < 2 ^ 32) : nI n &&& 1 = nI (n % 2) := pk_andN h 1 rfl
theorem bit_iff {n k : Nat} : n / 2 ^ k % 2 = 1 ↔ n.testBit k = true := by rw [Nat.testBit_eq_decide_div_mod_eq, decide_eq_true_iff]
theorem one_iff {n : Nat} : nI (n % 2) = 1 ↔ n % 2 = 1 := by
  rw [show (1 : Int32) = nI 1 from rfl]
  exact nI_eq (by omega) (by decide)
theorem shr_bit {v k : Nat} (hv : v < 2 ^ 31) (hk : k < 32) : ((nI v >>> (nI k &&& 31)) &&& 1) = 1 ↔ v.testBit k = true := by
  have hq : v / 2 ^ k ≤ v := Nat.div_le_self _ _
  rw [pk_shrN hv _ k (tb_sh k hk), and1 (by omega), one_iff, bit_iff]
theorem ush_bit {v k : Nat} (hv : v < 2 ^ 31) (hk : k < 32) : ((jushr (nI v) (nI k)) &&& 1) = 1 ↔ v.testBit k = true := by
  have hq : v / 2 ^ k ≤ v := Nat.div_le_self _ _
  unfold jushr
  rw [pk_ushrN (by omega) _ k (tb_us k hk), and1 (by omega), one_iff, bit_iff]
theorem s_has {v k : Nat} (hv : v < 2 ^ 31) (hk : k < 32) {post : Int32 → Prop} (h : post (if v.testBit k then 1 else 0)) : w_X5_has (nI v) (nI k) post := by
  unfold w_X5_has
  by_cases hb : v.testBit k = true
  · rw [if_pos hb] at h
    exact nT ((shr_bit hv hk).mpr hb) h
  · rw [if_neg hb] at h
    exact nF (fun q => hb ((shr_bit hv hk).mp q)) h
def orb (f : Nat → Bool) (g : Nat → Nat) : Nat → Nat
  | 0 => 0
  | n + 1 => if f n then orb f g n ||| 2 ^ g n else orb f g n
theorem orb_bit (f : Nat → Bool) (g : Nat → Nat) (n j : Nat) : (orb f g n).testBit j = true ↔ ∃ i, i < n ∧ f i = true ∧ g i = j := by
  induction n with
  | zero =>
    constructor
    · intro h
      rw [show orb f g 0 = 0 from rfl, Nat.zero_testBit] at h
      cases h
    · rintro ⟨i, hi, -⟩
      omega
  | succ n ih =>
    have e : orb f g (n + 1) = if f n then orb f g n ||| 2 ^ g n else orb f g n := rfl
    rw [e]
    by_cases hf : f n = true
    · rw [if_pos hf, Nat.testBit_or, Bool.or_eq_true, ih, Nat.testBit_two_pow, decide_eq_true_iff]
      constructor
      · rintro (⟨i, h1, h2⟩ | h)
        · exact ⟨i, by omega, h2⟩
        · exact ⟨n, by omega, hf, h⟩
      · rintro ⟨i, h1, h2, h3⟩
        by_cases hin : i = n
        · subst hin
          exact Or.inr h3
        · exact Or.inl ⟨i, by omega, h2, h3⟩
    · rw [if_neg hf, ih]
      constructor
      · rintro ⟨i, h1, h2⟩
        exact ⟨i, by omega, h2⟩
      · rintro ⟨i, h1, h2, h3⟩
        by_cases hin : i = n
        · subst hin
          exact absurd h2 hf
        · exact ⟨i, by omega, h2, h3⟩
theorem orb_lt {f : Nat → Bool} {g : Nat → Nat} {b : Nat} : ∀ n, (∀ i, i < n → g i < b) → orb f g n < 2 ^ b := by
  intro n
  induction n with
  | zero =>
    intro _
    exact Nat.two_pow_pos b
  | succ n ih =>
    intro h
    have h1 := ih (fun i hi => h i (by omega))
    have e : orb f g (n + 1) = if f n then orb f g n ||| 2 ^ g n else orb f g n := rfl
    rw [e]
    split
    · exact Nat.or_lt_two_pow h1 (Nat.pow_lt_pow_right (by decide) (h n (by omega)))
    · exact h1
theorem eq_bits {a b : Nat} (h : ∀ j, a.testBit j = true ↔ b.testBit j = true) : a = b := Nat.eq_of_testBit_eq (fun i => Bool.eq_iff_iff.mpr (h i))
theorem orb_congr {f f' : Nat → Bool} {g : Nat → Nat} {n : Nat} (h : ∀ i, i < n → f i = f' i) : orb f g n = orb f' g n := by
  induction n with
  | zero => rfl
  | succ n ih =>
    show (if f n then orb f g n ||| 2 ^ g n else orb f g n) = (if f' n then orb f' g n ||| 2 ^ g n else orb f' g n)
    rw [h n (by omega), ih (fun i hi => h i (by omega))]
/-- one more bit, if it is to be -/
theorem orb_step {f : Nat → Bool} {g : Nat → Nat} {n : Nat} {rec : Int32 → Prop} (h : rec (nI (orb f g (n + 1)))) : (f n = true → rec (nI (orb f g n) ||| nI (2 ^ g n))) ∧ (¬ f n = true → rec (nI (orb f g n))) := by
  have e : orb f g (n + 1) = if f n then orb f g n ||| 2 ^ g n else orb f g n := rfl
  rw [e] at h
  constructor
  · intro hf
    rw [if_pos hf, ← nor] at h
    exact h
  · intro hf
    rw [if_neg hf] at h
    exact h
def mir (i : Nat) : Nat := 4 * (i / 4) + (3 - i % 4)
def tur (i : Nat) : Nat := 4 * (i % 4) + (3 - i / 4)
theorem T_mir : ∀ i, i < 16 → (1 : Int32) <<< (((4 * (nI i / 4)) + (3 - (jrem (nI i) 4))) &&& 31) = nI (2 ^ mir i) := by decide +kernel
theorem T_tur : ∀ i, i < 16 → (1 : Int32) <<< (((4 * (jrem (nI i) 4)) + (3 - (nI i / 4))) &&& 31) = nI (2 ^ tur i) := by decide +kernel
theorem s_mirrored {v : Nat} (hv : v < 65536) {post : Int32 → Prop} (h : post (nI (orb v.testBit mir 16))) : w_X1_mirrored (nI v) post := by
  refine ⟨17, it_up _ _ (fun (k : Nat) (rec : Int32 → Int32 → Prop) => rec (nI (orb v.testBit mir k)) (nI k)) 16 (fun k hk rec ih => ?_) (fun rec => ?_)⟩
  · unfold w_X1_mirrored_L4
    refine bF (nI_ge (b := 16) hk (by decide)) ?_
    obtain ⟨s1, s2⟩ := orb_step (rec := fun z => rec z (nI (k + 1))) ih
    by_cases hb : v.testBit k = true
    · refine nT ((ush_bit (by omega) (by omega)).mpr hb) ?_
      unfold w_X1_bitOf
      rw [T_mir k hk]
      rintro v2 rfl
      rw [nI_1]
      exact s1 hb
    · refine nF (fun q => hb ((ush_bit (by omega) (by omega)).mp q)) ?_
      rw [nI_1]
      exact s2 hb
  · unfold w_X1_mirrored_L4
    exact bT (nI_le (a := 16) (b := 16) (by decide) (by decide)) h
theorem s_turnedOnce {v : Nat} (hv : v < 65536) {post : Int32 → Prop} (h : post (nI (orb v.testBit tur 16))) : w_X1_turnedOnce (nI v) post := by
  refine ⟨17, it_up _ _ (fun (k : Nat) (rec : Int32 → Int32 → Prop) => rec (nI (orb v.testBit tur k)) (nI k)) 16 (fun k hk rec ih => ?_) (fun rec => ?_)⟩
  · unfold w_X1_turnedOnce_L4
    refine bF (nI_ge (b := 16) hk (by decide)) ?_
    obtain ⟨s1, s2⟩ := orb_step (rec := fun z => rec z (nI (k + 1))) ih
    by_cases hb : v.testBit k = true
    · refine nT ((ush_bit (by omega) (by omega)).mpr hb) ?_
      unfold w_X1_bitOf
      rw [T_tur k hk]
      rintro v2 rfl
      rw [nI_1]
      exact s1 hb
    · refine nF (fun q => hb ((ush_bit (by omega) (by omega)).mp q)) ?_
      rw [nI_1]
      exact s2 hb
  · unfold w_X1_turnedOnce_L4
    exact bT (nI_le (a := 16) (b := 16) (by decide) (by decide)) h
def lnd (c : Nat) : Nat → Nat
  | 0 => mir c
  | t + 1 => tur (lnd c t)
theorem lnd_lt : ∀ t, t < 4 → ∀ c, c < 16 → lnd c t < 16 := by decide +kernel
def lk (v t : Nat) : Nat := orb v.testBit (fun c => lnd c t) 16
theorem lk_lt (v : Nat) {t : Nat} (ht : t ≤ 3) : lk v t < 65536 := orb_lt (b := 16) 16 (fun i hi => lnd_lt t (by omega) i hi)
theorem lk_turn (v : Nat) {t : Nat} (ht : t ≤ 2) : orb (lk v t).testBit tur 16 = lk v (t + 1) := by
  apply eq_bits
  intro j
  unfold lk
  rw [orb_bit, orb_bit]
  constructor
  · rintro ⟨i, h1, h2, h3⟩
    obtain ⟨c, g1, g2, g3⟩ := (orb_bit _ _ _ _).mp h2
    exact ⟨c, g1, g2, by rw [← h3, ← g3]; rfl⟩
  · rintro ⟨c, g1, g2, g3⟩
    exact ⟨lnd c t, lnd_lt t (by omega) c g1, (orb_bit _ _ _ _).mpr ⟨c, g1, g2, rfl⟩, g3⟩
theorem s_printed {v t : Nat} (hv : v < 65536) (ht : t ≤ 3) {post : Int32 → Prop} (h : post (nI (lk v t))) : w_X1_printed (nI v) (nI t) post := by
  unfold w_X1_printed
  refine s_mirrored hv ⟨t + 1, it_up _ _ (fun (k : Nat) (rec : Int32 → Int32 → Prop) => rec (nI (lk v k)) (nI k)) t (fun k hk rec ih => ?_) (fun rec => ?_)⟩
  · unfold w_X1_printed_L7
    refine bF (nI_ge hk (by omega)) (bF (nI_nlt (a := 3) (b := k) (by omega) (by decide)) (s_turnedOnce (lk_lt v (by omega)) ?_))
    rw [lk_turn v (by omega), nI_1]
    exact ih
  · unfold w_X1_printed_L7
    exact bT (nI_le (Nat.le_refl t) (by omega)) h
def lxy (c : Nat) : Nat → Nat × Nat
  | 0 => (3 - c % 4, c / 4)
  | t + 1 => (3 - (lxy c t).2, (lxy c t).1)
theorem lxy_ok : ∀ t, t < 4 → ∀ c, c < 16 → (lxy c t).1 ≤ 3 ∧ (lxy c t).2 ≤ 3 ∧ lnd c t = 4 * (lxy c t).2 + (lxy c t).1 := by decide +kernel
theorem T_l0 : ∀ c, c < 16 → (3 : Int32) - (jrem (nI c) 4) = nI (3 - c % 4) ∧ nI c / 4 = nI (c / 4) := by decide +kernel
theorem s_lands {c t : Nat} (hc : c < 16) (ht : t ≤ 3) {post : Int32 → Prop} (h : post (nI (lnd c t))) : w_X5_lands (nI c) (nI t) post := by
  rintro v1 rfl v2 rfl
  rw [(T_l0 c hc).1, (T_l0 c hc).2]
  refine ⟨t + 1, it_up _ _ (fun (k : Nat) (rec : Int32 → Int32 → Int32 → Prop) => rec (nI (lxy c k).1) (nI (lxy c k).2) (nI k)) t (fun k hk rec ih => ?_) (fun rec => ?_)⟩
  · unfold w_X5_lands_L13
    refine bF (nI_ge hk (by omega)) ?_
    rintro v3 rfl
    have e : (3 : Int32) - nI (lxy c k).2 = nI (3 - (lxy c k).2) := nsub (a := 3) (lxy_ok k (by omega) c hc).2.1
    rw [e, nI_1]
    exact ih
  · unfold w_X5_lands_L13
    refine bT (nI_le (Nat.le_refl t) (by omega)) ?_
    have e : (4 : Int32) * nI (lxy c t).2 + nI (lxy c t).1 = nI (lnd c t) := by
      rw [show (4 : Int32) * nI (lxy c t).2 = nI (4 * (lxy c t).2) from pk_mul 4 _, nI_add, (lxy_ok t (by omega) c hc).2.2]
    show post (4 * nI (lxy c t).2 + nI (lxy c t).1)
    rw [e]
    exact h
theorem or0 (a : Nat) : nI a ||| 0 = nI a := by
  rw [show (0 : Int32) = nI 0 from rfl, nor, Nat.or_zero]
theorem s_looksOf {M : ZI} {L : ZL} {k t v : Nat} (hk : k ≤ 1) (ht : t ≤ 3) (e : M 0 (65 + k) = nI v) (hv : v < 65536) {post : Int32 → ZI → ZL → Prop} (h : post (nI (lk v t)) M L) : w_X5_looksOf M L (nI k) (nI t) post := by
  refine ⟨17, it_up _ _ (fun (c : Nat) (rec : Int32 → Int32 → Prop) => rec (nI (orb v.testBit (fun c => lnd c t) c)) (nI c)) 16 (fun c hc rec ih => ?_) (fun rec => ?_)⟩
  · unfold w_X5_looksOf_L5
    rw [show (65 : Int32) + nI k = nI (65 + k) from nI_add 65 k, ncl (by omega), e]
    refine bF (nI_ge (b := 16) hc (by decide)) ⟨in_ (by omega) (by decide), s_has (by omega) (by omega) ?_⟩
    obtain ⟨s1, s2⟩ := orb_step (rec := fun z => rec z (nI (c + 1))) ih
    by_cases hb : v.testBit c = true
    · rw [if_pos hb]
      refine b1 (s_lands hc ht ?_)
      rw [sh1 _ (by have := lnd_lt t (by omega) c hc; omega)]
      rintro v4 rfl
      rw [nI_1]
      exact s1 hb
    · rw [if_neg hb]
      refine b0 ?_
      rintro v4 rfl
      rw [or0, nI_1]
      exact s2 hb
  · unfold w_X5_looksOf_L5
    exact bT (nI_le (a := 16) (b := 16) (by decide) (by decide)) h
theorem RT.pot {T : ZI} {m ah : Nat → Int32} {um : Int32} (h : RT T m ah um) {k : Nat} (hk : k ≤ 1) : ∃ v, v < 65536 ∧ T 0 k = nI v ∧ m (65 + k) = nI v := by
  obtain ⟨a, v, hv, e⟩ := h.1 k (by omega)
  exact ⟨v, by omega, a.trans e, e⟩
theorem p_looks : st_looks Inv := by
  intro N D X PM PL i0 i1 M L x1 x2 hI
  unfold w_X4_looks
  have hbad : (¬ (vld x1 0 1 ∧ vld x2 0 3)) → w_X5_looks M L x1 x2 (fun r2 M L => (-2 : Int32) = r2 ∧ Inv N D X (mu PM 7 0 (PM 7 0 + 1)) PL i0 i1 M L) := fun hn => by
    unfold w_X5_looks
    exact s_isWhat (fun v1 => b1 (s_in (a := 0) (b := 3) (by decide) (by decide) (fun v2 => absurd ⟨v1, v2⟩ hn) (fun _ => b0 (s5_bad ⟨rfl, inv_bad hI⟩)))) (fun _ => b0 (s5_bad ⟨rfl, inv_bad hI⟩))
  refine s_within (a := 0) (b := 1) (by decide) (by decide) (fun v1 => b1 (s_within (a := 0) (b := 3) (by decide) (by decide) (fun v2 => b1n ?_) (fun v2 => b0n (s4_bad (hbad (fun q => v2 q.2)))))) (fun v1 => b0 (s4_bad (hbad (fun q => v1 q.1))))
  obtain ⟨k, -, hk, rfl⟩ := id v1
  obtain ⟨t, -, ht, rfl⟩ := id v2
  obtain ⟨v, hv, e1, e2⟩ := hI.1.pot hk
  refine ⟨in_ (by omega) (by decide), ?_⟩
  rw [ncl (by omega), e1]
  refine s_printed hv ht ?_
  unfold w_X5_looks
  exact s_isWhat (fun _ => b1 (s_in (a := 0) (b := 3) (by decide) (by decide) (fun _ => b1 (s_looksOf hk ht e2 hv ⟨rfl, hI⟩)) (fun q => absurd v2 q))) (fun q => absurd v1 q)
theorem p_alike : st_alike Inv := by
  intro N D X PM PL i0 i1 M L x1 hI
  unfold w_X4_alike
  refine s_within (a := 0) (b := 1) (by decide) (by decide) (fun v1 => b1n ?_) (fun v1 => b0n (s4_bad ?_))
  · obtain ⟨k, -, hk, rfl⟩ := id v1
    obtain ⟨v, hv, e1, e2⟩ := hI.1.pot hk
    refine ⟨in_ (by omega) (by decide), ?_⟩
    rw [ncl (by omega), e1]
    refine s_printed (t := 0) hv (by omega) ?_
    have l0 := lk_lt v (t := 0) (by omega)
    refine ⟨5, it_up _ _ (fun (t : Nat) (rec : Int32 → Int32 → Prop) => rec (nI (orb (fun t => decide (lk v t = lk v 0)) id t)) (nI t)) 4 (fun t ht rec ih => ?_) (fun rec => ?_)⟩
    · unfold w_X4_alike_L35
      rw [ncl (by omega), e1]
      refine bF (nI_nlt (a := 3) (b := t) (by omega) (by decide)) ⟨in_ (by omega) (by decide), s_printed hv (by omega) ?_⟩
      have lt := lk_lt v (t := t) (by omega)
      obtain ⟨s1, s2⟩ := orb_step (rec := fun z => rec z (nI (t + 1))) ih
      rw [nI_1]
      by_cases hb : lk v t = lk v 0
      · refine nT (by rw [hb]) ?_
        rw [sh1 t (by omega)]
        rintro v4 rfl
        exact s1 (by simp [hb])
      · exact nF (fun q => hb ((nI_eq (by omega) (by omega)).mp q)) (s2 (by simp [hb]))
    · unfold w_X4_alike_L35
      refine bT (nI_lt (a := 3) (b := 4) (by decide) (by decide)) ?_
      unfold w_X5_alike
      refine s_isWhat (fun _ => b1n ?_) (fun q => absurd v1 q)
      refine ⟨5, it_up _ _ (fun (t : Nat) (rec : ZI → ZL → Int32 → Int32 → Prop) => rec M L (nI (orb (fun t => decide (lk v t = lk v 0)) id t)) (nI t)) 4 (fun t ht rec ih => ?_) (fun rec => ?_)⟩
      · unfold w_X5_alike_L16
        refine bF (nI_ge (b := 4) ht (by decide)) (s_looksOf hk (by omega) e2 hv (s_looksOf (t := 0) hk (by omega) e2 hv ?_))
        have lt := lk_lt v (t := t) (by omega)
        obtain ⟨s1, s2⟩ := orb_step (rec := fun z => rec M L z (nI (t + 1))) ih
        rw [nI_1]
        by_cases hb : lk v t = lk v 0
        · refine nT (by rw [hb]) ?_
          rw [sh1 t (by omega)]
          rintro v4 rfl
          exact s1 (by simp [hb])
        · refine nF (fun q => hb ((nI_eq (by omega) (by omega)).mp q)) ?_
          rintro v4 rfl
          rw [or0]
          exact s2 (by simp [hb])
      · unfold w_X5_alike_L16
        exact bT (nI_le (a := 4) (b := 4) (by decide) (by decide)) ⟨rfl, hI⟩
  · unfold w_X5_alike
    exact s_isWhat (fun q => absurd q v1) (fun _ => b0n (s5_bad ⟨rfl, inv_bad hI⟩))
