/-! bits of longs; how many are set -/
def un (x : Int64) : Nat := x.toUInt64.toNat
theorem un_lt (x : Int64) : un x < 2 ^ 64 := x.toUInt64.toNat_lt
theorem un_inj {x y : Int64} (h : un x = un y) : x = y := Int64.toBitVec_inj.mp (BitVec.eq_of_toNat_eq h)
theorem un_and (a b : Int64) : un (a &&& b) = un a &&& un b := by simp [un]
theorem un_or (a b : Int64) : un (a ||| b) = un a ||| un b := by simp [un]
theorem un_xor (a b : Int64) : un (a ^^^ b) = un a ^^^ un b := by simp [un]
theorem un_add (a b : Int64) : un (a + b) = (un a + un b) % 2 ^ 64 := by simp [un]
theorem un_sub {a b : Int64} (h : un b ≤ un a) : un (a - b) = un a - un b := by
  have h1 := un_lt a
  have h2 : un (a - b) = (2 ^ 64 - un b + un a) % 2 ^ 64 := BitVec.toNat_sub a.toBitVec b.toBitVec
  rw [h2]
  omega
def lb (x : Int64) (c : Nat) : Bool := (un x).testBit c
theorem lb_or (a b : Int64) (c : Nat) : lb (a ||| b) c = (lb a c || lb b c) := by simp [lb, un_or]
theorem lb_and (a b : Int64) (c : Nat) : lb (a &&& b) c = (lb a c && lb b c) := by simp [lb, un_and]
theorem lb_xor (a b : Int64) (c : Nat) : lb (a ^^^ b) c = (lb a c != lb b c) := by simp [lb, un_xor]
theorem lb_0 (c : Nat) : lb 0 c = false := Nat.zero_testBit c
theorem un_m1 : un (-1) = 2 ^ 64 - 1 := by decide
theorem lb_m1 {c : Nat} (h : c < 64) : lb (-1) c = true := by
  unfold lb
  rw [un_m1, Nat.testBit_two_pow_sub_one]
  simpa using h
theorem lb_big {x : Int64} {c : Nat} (h : 64 ≤ c) : lb x c = false := Nat.testBit_lt_two_pow (Nat.lt_of_lt_of_le (un_lt x) (Nat.pow_le_pow_right (by decide) h))
theorem lb_ext {x y : Int64} (h : ∀ c, c < 64 → lb x c = lb y c) : x = y := by
  apply un_inj
  apply Nat.eq_of_testBit_eq
  intro i
  rcases Nat.lt_or_ge i 64 with q | q
  · exact h i q
  · exact (lb_big q).trans (lb_big q).symm
theorem eq0_iff {x : Int64} : x = 0 ↔ ∀ c, c < 64 → lb x c = false := by
  constructor
  · rintro rfl c -
    exact lb_0 c
  · intro h
    exact lb_ext (fun c hc => (h c hc).trans (lb_0 c).symm)
theorem shl_tab : ∀ k, k < 64 → un (jlshl 1 (nI k)) = 2 ^ k := by decide +kernel
theorem lb_shl {k : Nat} (hk : k < 64) (c : Nat) : lb (jlshl 1 (nI k)) c = decide (k = c) := by
  unfold lb
  rw [shl_tab k hk, Nat.testBit_two_pow]
theorem ush_tab : ∀ k, k < 64 → ((nI k).toInt64.toUInt64 &&& Int64.toUInt64 63) = UInt64.ofNat k := by decide +kernel
theorem un_shr (x : Int64) {k : Nat} (hk : k < 64) : un (jlushr x (nI k)) = un x / 2 ^ k := by
  unfold un jlushr
  rw [ush_tab k hk]
  have e : (UInt64.ofNat k).toNat % 64 = k := by simp; omega
  simp [Nat.shiftRight_eq_div_pow]
  congr 2
  omega
theorem lb_shr1 (x : Int64) {k : Nat} (hk : k < 64) : (jlushr x (nI k)) &&& 1 = 1 ↔ lb x k = true := by
  have e1 : un (jlushr x (nI k) &&& 1) = (un x / 2 ^ k) % 2 := by
    rw [un_and, un_shr x hk, show un 1 = 2 ^ 1 - 1 from rfl, Nat.and_two_pow_sub_one_eq_mod]
  have e2 : lb x k = decide (un x / 2 ^ k % 2 = 1) := by unfold lb; rw [Nat.testBit_eq_decide_div_mod_eq]
  rw [e2, decide_eq_true_iff]
  constructor
  · intro h
    rw [← e1, h]
    rfl
  · intro h
    apply un_inj
    rw [e1, h]
    rfl
def cnt (f : Nat → Bool) : Nat → Nat
  | 0 => 0
  | n + 1 => cnt f n + (if f n then 1 else 0)
theorem cnt_le (f : Nat → Bool) (n : Nat) : cnt f n ≤ n := by
  induction n with
  | zero => exact Nat.le_refl 0
  | succ n ih =>
    show cnt f n + (if f n then 1 else 0) ≤ n + 1
    split <;> omega
theorem cnt_congr {f g : Nat → Bool} {n : Nat} (h : ∀ i, i < n → f i = g i) : cnt f n = cnt g n := by
  induction n with
  | zero => rfl
  | succ n ih =>
    show cnt f n + (if f n then 1 else 0) = cnt g n + (if g n then 1 else 0)
    rw [ih (fun i hi => h i (by omega)), h n (by omega)]
theorem cnt_add (f : Nat → Bool) (a b : Nat) : cnt f (a + b) = cnt f a + cnt (fun i => f (a + i)) b := by
  induction b with
  | zero => rfl
  | succ b ih =>
    show cnt f (a + b) + (if f (a + b) then 1 else 0) = cnt f a + (cnt (fun i => f (a + i)) b + (if f (a + b) then 1 else 0))
    omega
/-! eight bits by eight -/
def mkb (b : Nat) : Nat → Nat
  | 0 => 0
  | n + 1 => 256 * mkb b n + b
theorem and256 {a b c d : Nat} (hb : b < 256) (hd : d < 256) : (256 * a + b) &&& (256 * c + d) = 256 * (a &&& c) + (b &&& d) := by
  have hbd : b &&& d < 2 ^ 8 := Nat.and_lt_two_pow b hd
  apply Nat.eq_of_testBit_eq
  intro i
  rw [Nat.testBit_and, show 256 = 2 ^ 8 from rfl, Nat.testBit_two_pow_mul_add a hb, Nat.testBit_two_pow_mul_add c hd, Nat.testBit_two_pow_mul_add _ hbd]
  split <;> simp
def pf1 (n u : Nat) : Nat := u - (u / 2 &&& mkb 85 n)
def pf2 (n u : Nat) : Nat := (u &&& mkb 51 n) + (u / 4 &&& mkb 51 n)
def pf3 (n u : Nat) : Nat := (u + u / 16) &&& mkb 15 n
def pg1 (r : Nat) : Nat := r - (r / 2 &&& 85)
def pg2 (r : Nat) : Nat := (r &&& 51) + (r / 4 &&& 51)
def pg3 (r : Nat) : Nat := (r + r / 16) &&& 15
theorem tb1 : ∀ e, e < 2 → ∀ r, r < 256 → (128 * e + r / 2) &&& 85 = (r / 2 &&& 85) := by decide +kernel
theorem tb2 : ∀ e, e < 4 → ∀ r, r < 256 → (64 * e + r / 4) &&& 51 = (r / 4 &&& 51) := by decide +kernel
theorem tb3 : ∀ e, e < 5 → ∀ r, r < 69 → (r + 16 * e + r / 16) &&& 15 = ((r + r / 16) &&& 15) := by decide +kernel
theorem tbr : ∀ r, r < 256 → pg1 r < 256 ∧ pg2 (pg1 r) < 69 ∧ pg2 (pg1 r) % 16 < 5 ∧ pg3 (pg2 (pg1 r)) = cnt (fun i => r.testBit i) 8 := by decide +kernel
theorem pf1_s {n q r : Nat} (hr : r < 256) : pf1 (n + 1) (256 * q + r) = 256 * pf1 n q + pg1 r := by
  unfold pf1 pg1
  have e1 : (256 * q + r) / 2 = 256 * (q / 2) + (128 * (q % 2) + r / 2) := by omega
  have e2 : ((256 * q + r) / 2) &&& mkb 85 (n + 1) = 256 * (q / 2 &&& mkb 85 n) + (r / 2 &&& 85) := by
    rw [e1]
    show (256 * (q / 2) + (128 * (q % 2) + r / 2)) &&& (256 * mkb 85 n + 85) = _
    rw [and256 (by omega) (by decide), tb1 (q % 2) (by omega) r hr]
  rw [e2]
  have h1 : (q / 2 &&& mkb 85 n) ≤ q / 2 := Nat.and_le_left
  have h2 : (r / 2 &&& 85) ≤ r / 2 := Nat.and_le_left
  omega
theorem pf2_s {n q r : Nat} (hr : r < 256) : pf2 (n + 1) (256 * q + r) = 256 * pf2 n q + pg2 r := by
  unfold pf2 pg2
  have e1 : (256 * q + r) / 4 = 256 * (q / 4) + (64 * (q % 4) + r / 4) := by omega
  have e2 : ((256 * q + r) / 4) &&& mkb 51 (n + 1) = 256 * (q / 4 &&& mkb 51 n) + (r / 4 &&& 51) := by
    rw [e1]
    show (256 * (q / 4) + (64 * (q % 4) + r / 4)) &&& (256 * mkb 51 n + 51) = _
    rw [and256 (by omega) (by decide), tb2 (q % 4) (by omega) r hr]
  have e3 : (256 * q + r) &&& mkb 51 (n + 1) = 256 * (q &&& mkb 51 n) + (r &&& 51) := and256 hr (by decide)
  rw [e2, e3]
  omega
theorem pf3_s {n q r : Nat} (hr : r < 69) (hq : q % 16 < 5) : pf3 (n + 1) (256 * q + r) = 256 * pf3 n q + pg3 r := by
  unfold pf3 pg3
  have e1 : (256 * q + r) + (256 * q + r) / 16 = 256 * (q + q / 16) + (r + 16 * (q % 16) + r / 16) := by omega
  rw [e1]
  show (256 * (q + q / 16) + (r + 16 * (q % 16) + r / 16)) &&& (256 * mkb 15 n + 15) = _
  rw [and256 (by omega) (by decide), tb3 (q % 16) hq r hr]
def dig : Nat → Nat → Nat
  | 0, _ => 0
  | n + 1, u => 256 * dig n (u / 256) + cnt (fun i => (u % 256).testBit i) 8
theorem pf_dig (n : Nat) : ∀ u, u < 256 ^ n → pf3 n (pf2 n (pf1 n u)) = dig n u ∧ pf2 n (pf1 n u) % 16 < 5 ∧ pf1 n u < 2 * 256 ^ n ∧ pf2 n (pf1 n u) < 2 * 256 ^ n := by
  induction n with
  | zero =>
    intro u hu
    have : u = 0 := by omega
    subst this
    decide
  | succ n ih =>
    intro u hu
    have hp : 256 ^ (n + 1) = 256 * 256 ^ n := by rw [Nat.pow_succ]; omega
    obtain ⟨i1, i2, i3, i4⟩ := ih (u / 256) (by omega)
    obtain ⟨t1, t2, t3, t4⟩ := tbr (u % 256) (by omega)
    have hu2 : u = 256 * (u / 256) + u % 256 := by omega
    have f1 : pf1 (n + 1) u = 256 * pf1 n (u / 256) + pg1 (u % 256) := by
      conv => lhs; rw [hu2]
      exact pf1_s (by omega)
    have f2 : pf2 (n + 1) (pf1 (n + 1) u) = 256 * pf2 n (pf1 n (u / 256)) + pg2 (pg1 (u % 256)) := by
      rw [f1]
      exact pf2_s t1
    have f3 : pf3 (n + 1) (pf2 (n + 1) (pf1 (n + 1) u)) = 256 * pf3 n (pf2 n (pf1 n (u / 256))) + pg3 (pg2 (pg1 (u % 256))) := by
      rw [f2]
      exact pf3_s t2 i2
    refine ⟨?_, ?_, ?_, ?_⟩
    · rw [f3, i1, t4]
      rfl
    · rw [f2]
      omega
    · rw [f1]
      omega
    · rw [f2]
      omega
theorem tb_byte (u i : Nat) (h : i < 8) : (u % 256).testBit i = u.testBit i := by
  rw [show 256 = 2 ^ 8 from rfl, Nat.testBit_mod_two_pow]
  simp [h]
theorem tb_div (u i : Nat) : (u / 256).testBit i = u.testBit (8 + i) := by
  rw [show 256 = 2 ^ 8 from rfl, ← Nat.shiftRight_eq_div_pow, Nat.testBit_shiftRight]
def sumb : Nat → Nat → Nat
  | 0, _ => 0
  | n + 1, u => cnt (fun i => (u % 256).testBit i) 8 + sumb n (u / 256)
theorem sumb_cnt (n : Nat) : ∀ u, sumb n u = cnt (fun i => u.testBit i) (8 * n) := by
  induction n with
  | zero => intro u; rfl
  | succ n ih =>
    intro u
    show cnt (fun i => (u % 256).testBit i) 8 + sumb n (u / 256) = _
    rw [ih, show 8 * (n + 1) = 8 + 8 * n by omega, cnt_add]
    rw [cnt_congr (f := fun i => (u % 256).testBit i) (g := fun i => u.testBit i) (fun i hi => tb_byte u i hi), cnt_congr (f := fun i => (u / 256).testBit i) (g := fun i => u.testBit (8 + i)) (fun i _ => tb_div u i)]
theorem fold_core {p0 p1 p2 p3 p4 p5 p6 p7 a1 a2 a3 a4 a5 a6 : Nat} (b0 : p0 ≤ 8) (b1 : p1 ≤ 8) (b2 : p2 ≤ 8) (b3 : p3 ≤ 8) (b4 : p4 ≤ 8) (b5 : p5 ≤ 8) (b6 : p6 ≤ 8) (b7 : p7 ≤ 8) (h1 : a1 = 256 * a2 + p1) (h2 : a2 = 256 * a3 + p2) (h3 : a3 = 256 * a4 + p3) (h4 : a4 = 256 * a5 + p4) (h5 : a5 = 256 * a6 + p5) (h6 : a6 = 256 * p7 + p6) (v3 v4 v5 v6 : Nat) (e3 : v3 = 256 * a1 + p0) (e4 : v4 = v3 + v3 / 256) (e5 : v5 = v4 + v4 / 65536) (e6 : v6 = v5 + v5 / 4294967296) : v6 % 128 = p0 + p1 + p2 + p3 + p4 + p5 + p6 + p7 ∧ v6 < 2 ^ 64 ∧ v3 < 2 ^ 60 := by
  have q1 : v3 / 256 = a1 := by omega
  have q2 : v4 = 65536 * (a2 + a3) + (256 * (p1 + p2) + (p0 + p1)) := by rw [e4, q1, e3]; omega
  have q3 : v4 / 65536 = a2 + a3 := by
    clear e3 e4 e5 e6 q1 h1 h2 h3 h4 h5 h6
    omega
  have q4 : a2 + a3 = 65536 * (a4 + a5) + (256 * (p3 + p4) + (p2 + p3)) := by
    clear e3 e4 e5 e6 q1 q2 q3 h1
    omega
  have q5 : a4 + a5 = 65536 * (a6 + p7) + (256 * (p5 + p6) + (p4 + p5)) := by
    clear e3 e4 e5 e6 q1 q2 q3 q4 h1 h2 h3
    omega
  have q6 : v5 = 4294967296 * (a4 + a5 + (a6 + p7)) + (65536 * (256 * (p3 + p4) + (p2 + p3)) + 65536 * (256 * (p5 + p6) + (p4 + p5)) + (256 * (p3 + p4) + (p2 + p3)) + (256 * (p1 + p2) + (p0 + p1))) := by
    rw [e5, q3, q2, q4]
    clear e3 e4 e5 e6 q1 q2 q3 q4 h1 h2 h3 h4 h5 h6
    omega
  have q7 : v5 / 4294967296 = a4 + a5 + (a6 + p7) := by
    clear e3 e4 e5 e6 q1 q2 q3 q4 q5 h1 h2 h3 h4 h5 h6
    omega
  have q8 : v5 % 128 = p0 + p1 + p2 + p3 := by
    clear e3 e4 e5 e6 q1 q2 q3 q4 q5 q7 h1 h2 h3 h4 h5 h6
    omega
  have q9 : (a4 + a5 + (a6 + p7)) % 128 = p4 + p5 + p6 + p7 := by
    clear e3 e4 e5 e6 q1 q2 q3 q4 q5 q6 q7 q8 h1 h2 h3
    omega
  have q10 : a4 + a5 + (a6 + p7) < 2 ^ 30 := by
    clear e3 e4 e5 e6 q1 q2 q3 q4 q5 q6 q7 q8 q9 h1 h2 h3
    omega
  have q11 : a1 < 2 ^ 52 := by
    clear e3 e4 e5 e6 q1 q2 q3 q4 q5 q6 q7 q8 q9
    omega
  have q12 : v5 < 2 ^ 63 := by
    clear e3 e4 e5 e6 q1 q2 q3 q4 q5 q7 q8 q9 h1 h2 h3 h4 h5 h6
    omega
  refine ⟨?_, ?_, ?_⟩
  · rw [e6, q7, Nat.add_mod, q8, q9]
    clear e3 e4 e5 e6 q1 q2 q3 q4 q5 q6 q7 q8 q9 q10 q11 q12 h1 h2 h3 h4 h5 h6
    omega
  · rw [e6, q7]
    omega
  · rw [e3]
    clear e3 e4 e5 e6 q1 q2 q3 q4 q5 q6 q7 q8 q9 q10 q12 h1 h2 h3 h4 h5 h6
    omega
theorem fold8 (u v4 v5 v6 : Nat) (e4 : v4 = dig 8 u + dig 8 u / 256) (e5 : v5 = v4 + v4 / 65536) (e6 : v6 = v5 + v5 / 4294967296) : v6 % 128 = sumb 8 u ∧ v6 < 2 ^ 64 ∧ dig 8 u < 2 ^ 60 := by
  have h := fold_core (cnt_le (fun i => (u % 256).testBit i) 8) (cnt_le (fun i => (u / 256 % 256).testBit i) 8) (cnt_le (fun i => (u / 256 / 256 % 256).testBit i) 8) (cnt_le (fun i => (u / 256 / 256 / 256 % 256).testBit i) 8) (cnt_le (fun i => (u / 256 / 256 / 256 / 256 % 256).testBit i) 8) (cnt_le (fun i => (u / 256 / 256 / 256 / 256 / 256 % 256).testBit i) 8) (cnt_le (fun i => (u / 256 / 256 / 256 / 256 / 256 / 256 % 256).testBit i) 8) (cnt_le (fun i => (u / 256 / 256 / 256 / 256 / 256 / 256 / 256 % 256).testBit i) 8) (a1 := dig 7 (u / 256)) (a2 := dig 6 (u / 256 / 256)) (a3 := dig 5 (u / 256 / 256 / 256)) (a4 := dig 4 (u / 256 / 256 / 256 / 256)) (a5 := dig 3 (u / 256 / 256 / 256 / 256 / 256)) (a6 := dig 2 (u / 256 / 256 / 256 / 256 / 256 / 256)) rfl rfl rfl rfl rfl (by show 256 * (256 * 0 + _) + _ = _; rw [Nat.mul_zero, Nat.zero_add]) (dig 8 u) v4 v5 v6 rfl e4 e5 e6
  refine ⟨?_, h.2⟩
  rw [h.1]
  simp only [sumb]
  omega
theorem low7 (v : Int64) : v.toInt32 &&& 127 = nI (un v % 128) := by
  have hlt : un v % 128 < 2 ^ 32 := by omega
  apply Int32.toBitVec_inj.mp
  apply BitVec.eq_of_toNat_eq
  have e1 : (v.toInt32 &&& 127).toBitVec.toNat = (un v % 2 ^ 32) &&& 127 := by
    rw [Int32.toBitVec_and, BitVec.toNat_and, Int64.toBitVec_toInt32, BitVec.signExtend_eq_setWidth_of_le _ (by decide), BitVec.toNat_setWidth]
    rfl
  have e2 : (nI (un v % 128)).toBitVec.toNat = un v % 128 := by
    show (BitVec.ofNat 32 (un v % 128)).toNat = _
    rw [BitVec.toNat_ofNat, Nat.mod_eq_of_lt hlt]
  rw [e1, e2, show 127 = 2 ^ 7 - 1 from rfl, Nat.and_two_pow_sub_one_eq_mod]
  omega
theorem s_bitCount {x : Int64} {post : Int32 → Prop} (h : post (nI (cnt (lb x) 64))) : w_J13_bitCount_95d88 x post := by
  obtain ⟨d1, -, d3, d4⟩ := pf_dig 8 (un x) (un_lt x)
  have m5 : un 6148914691236517205 = mkb 85 8 := by decide +kernel
  have m3 : un 3689348814741910323 = mkb 51 8 := by decide +kernel
  have mf' : un 1085102592571150095 = mkb 15 8 := by decide +kernel
  rintro v1 e1 v2 e2 v3 e3 v4 e4 v5 e5 v6 e6
  have q1 : un v1 = pf1 8 (un x) := by
    have a1 : un (jlushr x 1 &&& 6148914691236517205) = (un x / 2 &&& mkb 85 8) := by rw [un_and, show (1 : Int32) = nI 1 from rfl, un_shr x (by decide), m5]
    rw [e1, un_sub (by rw [a1]; exact Nat.le_trans Nat.and_le_left (Nat.div_le_self _ _)), a1]
    rfl
  have q2 : un v2 = pf2 8 (pf1 8 (un x)) := by
    have a1 : un (jlushr v1 2 &&& 3689348814741910323) = (un v1 / 4 &&& mkb 51 8) := by rw [un_and, show (2 : Int32) = nI 2 from rfl, un_shr v1 (by decide), m3]
    rw [e2, un_add, a1, un_and, m3, q1]
    apply Nat.mod_eq_of_lt
    have z1 : (pf1 8 (un x) &&& mkb 51 8) ≤ mkb 51 8 := Nat.and_le_right
    have z2 : (pf1 8 (un x) / 4 &&& mkb 51 8) ≤ mkb 51 8 := Nat.and_le_right
    have z3 : mkb 51 8 = 3689348814741910323 := by decide +kernel
    omega
  have q3 : un v3 = dig 8 (un x) := by
    have z0 : pf2 8 (pf1 8 (un x)) ≤ 2 * 3689348814741910323 := by
      have z1 : (pf1 8 (un x) &&& mkb 51 8) ≤ mkb 51 8 := Nat.and_le_right
      have z2 : (pf1 8 (un x) / 4 &&& mkb 51 8) ≤ mkb 51 8 := Nat.and_le_right
      have z3 : mkb 51 8 = 3689348814741910323 := by decide +kernel
      unfold pf2
      omega
    have a1 : un (v2 + jlushr v2 4) = un v2 + un v2 / 16 := by
      rw [un_add, show (4 : Int32) = nI 4 from rfl, un_shr v2 (by decide)]
      apply Nat.mod_eq_of_lt
      rw [q2]
      omega
    rw [e3, un_and, a1, mf', q2, ← d1]
    rfl
  obtain ⟨g1, g2, g3⟩ := fold8 (un x) _ _ _ rfl rfl rfl
  have q4 : un v4 = dig 8 (un x) + dig 8 (un x) / 256 := by
    rw [e4, un_add, show (8 : Int32) = nI 8 from rfl, un_shr v3 (by decide), q3]
    apply Nat.mod_eq_of_lt
    omega
  have q5 : un v5 = un v4 + un v4 / 65536 := by
    rw [e5, un_add, show (16 : Int32) = nI 16 from rfl, un_shr v4 (by decide)]
    apply Nat.mod_eq_of_lt
    clear g1 g2 d1 d3 d4
    generalize dig 8 (un x) = z at *
    omega
  have q6 : un v6 = un v5 + un v5 / 4294967296 := by
    rw [e6, un_add, show (32 : Int32) = nI 32 from rfl, un_shr v5 (by decide)]
    apply Nat.mod_eq_of_lt
    clear g1 g2 d1 d3 d4
    generalize dig 8 (un x) = z at *
    omega
  rw [low7, q6, q5, q4, g1, sumb_cnt]
  exact h
