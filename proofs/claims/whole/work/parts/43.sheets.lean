/-! sheets -/
theorem ldiv {a b : Nat} (ha : a < 2 ^ 63) (hb : b < 2 ^ 63) : lN a / lN b = lN (a / b) := (Int64.ofNat_div ha hb).symm
theorem lrem {a b : Nat} (ha : a < 2 ^ 63) (hb : b < 2 ^ 63) : jlrem (lN a) (lN b) = lN (a % b) := by
  show lN a - lN a / lN b * lN b = _
  have h1 : a / b * b ≤ a := Nat.div_mul_le_self a b
  rw [ldiv ha hb, lN_mul, lN_sub h1]
  congr 1
  have := Nat.div_add_mod a b
  rw [Nat.mul_comm] at this
  omega
def nx (s : Nat) : Nat := (s * 1103515245 + 12345) % 2147483648
def dw (s n : Nat) : Nat := s / 65536 % n
theorem nx_lt (s : Nat) : nx s < 2 ^ 31 := Nat.mod_lt _ (by decide)
theorem nx_l {s : Nat} (hs : s < 2 ^ 31) : jlrem (lN s * 1103515245 + 12345) 2147483648 = lN (nx s) := by
  have e : lN s * 1103515245 + 12345 = lN (s * 1103515245 + 12345) := by
    rw [show (1103515245 : Int64) = lN 1103515245 from rfl, show (12345 : Int64) = lN 12345 from rfl, lN_mul, lN_add]
  rw [e]
  exact lrem (b := 2147483648) (by omega) (by decide)
theorem dw_l {s n : Nat} (hs : s < 2 ^ 31) (hn : n < 2 ^ 31) : (jlrem (lN s / 65536) (lN n)).toInt32 = nI (dw s n) := by
  rw [show lN s / 65536 = lN (s / 65536) from ldiv (b := 65536) (by omega) (by decide), lrem (by omega) (by omega), lN_i]
  rfl
theorem T_w : ∀ k, k < 100 → (nI k).toInt64 = lN k := by decide +kernel
theorem s4_next {s : Nat} (hs : s < 2 ^ 31) {post : Int64 → Prop} (h : post (lN (nx s))) : w_X4_nextNumber (lN s) post := by
  unfold w_X4_nextNumber
  rw [nx_l hs]
  exact h
theorem s4_drawn {s k : Nat} (hs : s < 2 ^ 31) (hk : k ≤ 63) {post : Int32 → Prop} (h : post (nI (dw s (k + 1)))) : w_X4_drawn (lN s) (nI k) post := by
  unfold w_X4_drawn
  refine bT (nI_le (a := 0) (Nat.zero_le _) (by omega)) ?_
  rw [nI_1, T_w _ (by omega), dw_l hs (by omega)]
  refine ⟨fun e => ?_, h⟩
  have := (lN_eq (a := k + 1) (b := 0) (by omega) (by decide)).mp e
  omega
theorem s5_draw {M : ZI} {L : ZL} {s n : Nat} (hs : s < 2 ^ 31) (hn : 0 < n ∧ n ≤ 64) (e : L 17 0 = lN s) {post : Int32 → ZI → ZL → Prop} (h : post (nI (dw (nx s) n)) M (ml L 17 0 (lN (nx s)))) : w_X5_draw M L (nI n) post := by
  unfold w_X5_draw
  rw [e, nx_l hs, T_w n (by omega)]
  rintro L1 rfl
  refine ⟨fun e => ?_, ?_⟩
  · have := (lN_eq (a := n) (b := 0) (by omega) (by decide)).mp e
    omega
  · show post (jlrem (lN (nx s) / 65536) (lN n)).toInt32 M _
    rw [dw_l (nx_lt s) (by omega)]
    exact h
def pf (p : Nat) : Nat := if p = 0 then 12 else p
def shs (V : Nat → Nat) (s0 p0 : Nat) (g0 : Nat → Nat) : Nat → Nat × Nat × (Nat → Nat)
  | 0 => (s0, p0, g0)
  | i + 1 => (nx (nx (nx (nx (shs V s0 p0 g0 i).1))), pf (shs V s0 p0 g0 i).2.1 - tkn (dw (nx (shs V s0 p0 g0 i).1) 6) (pf (shs V s0 p0 g0 i).2.1), fun c => mx ((shs V s0 p0 g0 i).2.2 c) (ink (dw (nx (shs V s0 p0 g0 i).1) 6) (pf (shs V s0 p0 g0 i).2.1) (lk (V (dw (nx (nx (shs V s0 p0 g0 i).1)) 2)) (dw (nx (nx (nx (nx (shs V s0 p0 g0 i).1)))) 4)) (dw (nx (nx (nx (shs V s0 p0 g0 i).1))) 64 % 8) (dw (nx (nx (nx (shs V s0 p0 g0 i).1))) 64 / 8) c))
theorem dw_lt {s n : Nat} (hn : 0 < n) : dw s n < n := Nat.mod_lt _ hn
theorem shs_in {V : Nat → Nat} {s0 p0 : Nat} {g0 : Nat → Nat} (hs : s0 < 2 ^ 31) (hp : p0 ≤ 12) (hg : ∀ c, c < 64 → g0 c ≤ 9) : ∀ i, (shs V s0 p0 g0 i).1 < 2 ^ 31 ∧ (shs V s0 p0 g0 i).2.1 ≤ 12 ∧ ∀ c, c < 64 → (shs V s0 p0 g0 i).2.2 c ≤ 9 := by
  intro i
  induction i with
  | zero => exact ⟨hs, hp, hg⟩
  | succ i ih =>
    obtain ⟨h1, h2, h3⟩ := ih
    have hpf : pf (shs V s0 p0 g0 i).2.1 ≤ 12 := by
      unfold pf
      split <;> omega
    refine ⟨nx_lt _, Nat.le_trans (Nat.sub_le _ _) hpf, fun c hc => mx_le (h3 c hc) (ink_le ?_ hpf)⟩
    have := dw_lt (s := nx (shs V s0 p0 g0 i).1) (n := 6) (by decide)
    omega
theorem s4_shl {N X PM : ZI} {PL : ZL} {V : Nat → Nat} {s0 p0 n : Nat} {g0 : Nat → Nat} (hV : ∀ z, z ≤ 1 → V z < 65536) (hs : s0 < 2 ^ 31) (hp : p0 ≤ 12) (hg : ∀ c, c < 64 → g0 c ≤ 9) (hn : n ≤ 30) {T : ZI} (t0 : ∀ z, z ≤ 1 → T 0 z = nI (V z)) (t2 : T 2 0 = nI p0) (t1 : ∀ c, c < 64 → T 1 c = nI (g0 c)) {x1 : Int32} {post : Int32 → ZI → ZI → ZI → ZI → ZL → Prop} {K : ZI → Int64 → Int32 → Prop} (h : ∀ T' y z, (∀ c, c < 64 → T' 1 c = nI ((shs V s0 p0 g0 n).2.2 c)) → K T' y z) : ∃ k, itF (w_X4_sheets_L44 N X PM PL x1 (nI n) post K) (fun _ _ _ => False) k T (lN s0) 0 := by
  refine ⟨n + 1, it_up _ _ (fun (i : Nat) (rec : ZI → Int64 → Int32 → Prop) => ∀ T : ZI, (∀ z, z ≤ 1 → T 0 z = nI (V z)) → T 2 0 = nI (shs V s0 p0 g0 i).2.1 → (∀ c, c < 64 → T 1 c = nI ((shs V s0 p0 g0 i).2.2 c)) → rec T (lN (shs V s0 p0 g0 i).1) (nI i)) n (fun i hi rec ih T t0 t2 t1 => ?_) (fun rec T t0 t2 t1 => ?_) T t0 t2 t1⟩
  · unfold w_X4_sheets_L44
    obtain ⟨b1', b2', b3'⟩ := shs_in (V := V) hs hp hg i
    have b4 := shs_in (V := V) hs hp hg (i + 1)
    refine bF (nI_ge (b := n) hi (by omega)) (s4_next b1' (s4_drawn (k := 5) (nx_lt _) (by decide) (s4_next (nx_lt _) (s4_drawn (k := 1) (nx_lt _) (by decide) (s4_next (nx_lt _) (s4_drawn (k := 63) (nx_lt _) (by decide) (s4_next (nx_lt _) (s4_drawn (k := 3) (nx_lt _) (by decide) ?_))))))))
    have d1 := dw_lt (s := nx (shs V s0 p0 g0 i).1) (n := 6) (by decide)
    have d2 := dw_lt (s := nx (nx (shs V s0 p0 g0 i).1)) (n := 2) (by decide)
    have d3 := dw_lt (s := nx (nx (nx (shs V s0 p0 g0 i).1))) (n := 64) (by decide)
    have d4 := dw_lt (s := nx (nx (nx (nx (shs V s0 p0 g0 i).1)))) (n := 4) (by decide)
    rw [(T_d8 _ d3).1, (T_d8 _ d3).2, nI_1]
    have hpf : pf (shs V s0 p0 g0 i).2.1 ≤ 12 := by
      unfold pf
      split <;> omega
    have go : ∀ Tq : ZI, (∀ z, z ≤ 1 → Tq 0 z = nI (V z)) → Tq 2 0 = nI (pf (shs V s0 p0 g0 i).2.1) → (∀ c, c < 64 → Tq 1 c = nI ((shs V s0 p0 g0 i).2.2 c)) → w_X2_putPrint Tq (nI (dw (nx (shs V s0 p0 g0 i).1) 6)) (nI (dw (nx (nx (shs V s0 p0 g0 i).1)) 2)) (nI (dw (nx (nx (nx (shs V s0 p0 g0 i).1))) 64 % 8)) (nI (dw (nx (nx (nx (shs V s0 p0 g0 i).1))) 64 / 8)) (nI (dw (nx (nx (nx (nx (shs V s0 p0 g0 i).1)))) 4)) (fun r19 D20 => rec D20 (lN (nx (nx (nx (nx (shs V s0 p0 g0 i).1))))) (nI (i + 1))) := by
      intro Tq u0 u2 u1
      refine s_put (by omega) (by omega) (by omega) (by omega) (by omega) (hV _ (by omega)) hpf (u0 _ (by omega)) u2 (fun c hc => ⟨u1 c hc, b3' c hc⟩) (fun T' a1 a2 a3 => ?_)
      exact ih T' (fun z hz => by rw [a1 0 (by decide) (by decide)]; exact u0 z hz) a2 a3
    rw [t2]
    refine ⟨fun q => go T t0 ?_ t1, fun q => ?_⟩
    · rw [t2, pf, if_neg (show ¬ (shs V s0 p0 g0 i).2.1 = 0 from fun e => q (by rw [e]; rfl))]
    · rintro D21 rfl
      refine go _ t0 ?_ t1
      rw [pf, if_pos (nI_ij (b := 0) (by omega) (by decide) q)]
      rfl
  · unfold w_X4_sheets_L44
    exact bT (nI_le (Nat.le_refl n) (by omega)) (h T _ _ t1)
