/-! cover -/
def sC (m : Nat → Int32) (i : Nat) : Nat := (m (68 + i)).toNatClampNeg
theorem RT.wnt {T : ZI} {m ah : Nat → Int32} {um : Int32} (h : RT T m ah um) : ∃ w, w ≤ 8 ∧ T 4 0 = nI w ∧ m 67 = nI w ∧ ∀ i, i < w → sC m i ≤ 63 ∧ T 3 i = nI (sC m i) ∧ m (68 + i) = nI (sC m i) := by
  obtain ⟨h5, w, hw, e, f⟩ := h.2.2.2.1
  refine ⟨w, hw, h5.trans e, e, fun i hi => ?_⟩
  obtain ⟨r1, a, ha, r2⟩ := f i hi
  have e1 : sC m i = a := by
    unfold sC
    rw [r2, ncl (by omega)]
  rw [e1]
  exact ⟨ha, r1.trans r2, r2⟩
theorem s_wanted {T : ZI} {w : Nat} {C : Nat → Nat} (hw : w ≤ 8) (e4 : T 4 0 = nI w) (hC : ∀ i, i < w → C i ≤ 63 ∧ T 3 i = nI (C i)) {post : Int64 → ZI → Prop} (h : ∀ mk, (∀ c, c < 64 → lb mk c = exb (fun j => decide (C j = c)) w) → post mk T) : w_X2_wantedCells T post := by
  refine ⟨w + 1, it_up _ _ (fun (i : Nat) (rec : Int64 → Int32 → Prop) => ∀ mk, (∀ c, c < 64 → lb mk c = exb (fun j => decide (C j = c)) i) → rec mk (nI i)) w (fun i hi rec ih mk hm => ?_) (fun rec mk hm => ?_) 0 (fun c _ => lb_0 c)⟩
  · unfold w_X2_wantedCells_L4
    obtain ⟨r1, r2⟩ := hC i hi
    rw [e4, ncl (by omega), r2, nI_1]
    refine bF (nI_ge (b := w) hi (by omega)) ⟨in_ (by omega) (by decide), ?_⟩
    rintro v1 rfl
    refine ih _ (fun c hc => ?_)
    show _ = (exb (fun j => decide (C j = c)) i || decide (C i = c))
    rw [lb_or, hm c hc, lb_shl (by omega)]
  · unfold w_X2_wantedCells_L4
    rw [e4]
    exact bT (nI_le (Nat.le_refl w) (by omega)) (h mk hm)
theorem ni_lt {i : Nat} (h : i < 256) : ni i < 1000 := by
  unfold ni
  omega
theorem T_m1 : ∀ n, n < 1000 → ¬ nI n = -1 := by decide +kernel
theorem ff_at {f : Nat → Bool} {g : Nat → Nat} {i : Nat} (hi : i < 256) : ff f g (256 - i) i = if f i then nI (g i) else ff f g (256 - (i + 1)) (i + 1) := by
  rw [show 256 - i = (256 - (i + 1)) + 1 by omega]
  rfl
theorem ff_no {f : Nat → Bool} {g : Nat → Nat} : ∀ n k, (∀ j, k ≤ j → j < k + n → f j = false) → ff f g n k = -1 := by
  intro n
  induction n with
  | zero => exact fun k _ => rfl
  | succ n ih =>
    intro k h
    show (if f k then nI (g k) else ff f g n (k + 1)) = -1
    rw [h k (Nat.le_refl _) (by omega), if_neg (by decide)]
    exact ih (k + 1) (fun j h1 h2 => h j (by omega) (by omega))
theorem ff_m1 {f : Nat → Bool} : ∀ n k, k + n ≤ 256 → ff f ni n k = -1 → ∀ j, k ≤ j → j < k + n → f j = false := by
  intro n
  induction n with
  | zero => exact fun k _ _ j h1 h2 => absurd h2 (by omega)
  | succ n ih =>
    intro k hk h j h1 h2
    have h : (if f k then nI (ni k) else ff f ni n (k + 1)) = -1 := h
    cases hf : f k
    · rw [hf, if_neg (by decide)] at h
      by_cases e : j = k
      · rw [e]
        exact hf
      · exact ih (k + 1) (by omega) h j (by omega) (by omega)
    · rw [hf, if_pos rfl] at h
      exact absurd h (T_m1 _ (ni_lt (by omega)))
theorem ff_congr {f f' : Nat → Bool} {g : Nat → Nat} : ∀ n k, (∀ j, k ≤ j → j < k + n → f j = f' j) → ff f g n k = ff f' g n k := by
  intro n
  induction n with
  | zero => exact fun k _ => rfl
  | succ n ih =>
    intro k h
    show (if f k then nI (g k) else ff f g n (k + 1)) = (if f' k then nI (g k) else ff f' g n (k + 1))
    rw [h k (Nat.le_refl _) (by omega), ih (k + 1) (fun j h1 h2 => h j (by omega) (by omega))]
theorem s_first {N D X PM : ZI} {PL : ZL} {x : Int64} {g : Nat → Bool} (hg : ∀ i, i < 256 → (x &&& ((PL 4 i) ^^^ (-1)) = 0 ↔ g i = true)) {post : Int32 → ZI → ZI → ZI → ZI → ZL → Prop} (h : post (ff g ni 256 0) N D X PM PL) : w_X4_firstCovering N D X PM PL x post := by
  refine ⟨257, it_up _ _ (fun (i : Nat) (rec : Int32 → Prop) => ff g ni (256 - i) i = ff g ni 256 0 → rec (nI i)) 256 (fun i hi rec ih e => ?_) (fun rec e => ?_) rfl⟩
  · unfold w_X4_firstCovering_L2
    rw [ncl (by omega), lc_eq, hg i hi, nI_1]
    rw [ff_at hi] at e
    refine bF (nI_ge (b := 256) hi (by decide)) ⟨in_ hi (by decide), fun q => ?_, fun q => s4_num hi ?_⟩
    · rw [if_neg q] at e
      exact ih e
    · rw [if_pos q] at e
      rw [e]
      exact h
  · unfold w_X4_firstCovering_L2
    refine bT (nI_le (a := 256) (b := 256) (by decide) (by decide)) ?_
    rw [Nat.sub_self] at e
    show post (-1) N D X PM PL
    rw [show (-1 : Int32) = ff g ni 256 0 from e]
    exact h
def pc (v i c : Nat) : Bool := cvi (lk v (i / 64)) (i % 8) (i / 8 % 8) 16 c
def g1 (v : Nat) (C : Nat → Nat) (w i : Nat) : Bool := alb (fun j => pc v i (C j)) w
def g2 (v : Nat) (C : Nat → Nat) (w i k : Nat) : Bool := alb (fun j => pc v i (C j) || pc v k (C j)) w
def gH (v : Nat) (C : Nat → Nat) (w i : Nat) : Bool := exb (g2 v C w i) 256
theorem wm_iff {W : Int64} {P : Nat → Bool} {C : Nat → Nat} {w : Nat} {pm : Int64} (hC : ∀ i, i < w → C i ≤ 63) (hW : ∀ c, c < 64 → lb W c = exb (fun j => decide (C j = c)) w) (hm : ∀ c, c < 64 → lb pm c = P c) : W &&& (pm ^^^ (-1)) = 0 ↔ alb (fun j => P (C j)) w = true := by
  rw [eq0_iff, alb_iff]
  constructor
  · intro g i hi
    have a1 := hC i hi
    have k1 := g (C i) (by omega)
    rw [lb_and, lb_xor, lb_m1 (by omega), hW _ (by omega), hm _ (by omega), (exb_iff w).mpr ⟨i, hi, decide_eq_true rfl⟩] at k1
    cases hp : P (C i)
    · rw [hp] at k1
      cases k1
    · rfl
  · intro g c hc
    rw [lb_and, lb_xor, lb_m1 hc, hW c hc, hm c hc]
    cases hs : exb (fun j => decide (C j = c)) w
    · rfl
    · obtain ⟨i, hi, q1⟩ := (exb_iff w).mp hs
      have := g i hi
      rw [of_decide_eq_true q1] at this
      rw [this]
      rfl
theorem s_two {N D X PM : ZI} {PL : ZL} {W : Int64} {v w : Nat} {C : Nat → Nat} (hE : EV v PL 256) (hC : ∀ i, i < w → C i ≤ 63) (hW : ∀ c, c < 64 → lb W c = exb (fun j => decide (C j = c)) w) (no : ∀ k, k < 256 → g1 v C w k = false) {post : Int32 → ZI → ZI → ZI → ZI → ZL → Prop} (h : post (ff (gH v C w) ni 256 0) N D X PM PL) : w_X4_firstOfTwoCovering N D X PM PL W post := by
  refine ⟨257, it_up _ _ (fun (i : Nat) (rec : ZI → ZI → ZI → ZI → ZL → Int32 → Prop) => ff (gH v C w) ni (256 - i) i = ff (gH v C w) ni 256 0 → rec N D X PM PL (nI i)) 256 (fun i hi rec ih e => ?_) (fun rec e => ?_) rfl⟩
  · unfold w_X4_firstOfTwoCovering_L2
    rw [ncl (by omega), lc_eq, nI_1]
    rw [ff_at hi] at e
    have hk : ∀ k, k < 256 → ((W &&& ((PL 4 i) ^^^ (-1))) &&& ((PL 4 k) ^^^ (-1)) = 0 ↔ g2 v C w i k = true) := by
      intro k hk
      refine Iff.trans ?_ (wm_iff (P := fun c => pc v i c || pc v k c) (pm := PL 4 i ||| PL 4 k) hC hW (fun c hc => by rw [lb_or, hE i hi c hc, hE k hk c hc]; rfl))
      have e9 : (W &&& ((PL 4 i) ^^^ (-1))) &&& ((PL 4 k) ^^^ (-1)) = W &&& ((PL 4 i ||| PL 4 k) ^^^ (-1)) := by
        refine lb_ext (fun c hc => ?_)
        rw [lb_and, lb_and, lb_and, lb_xor, lb_xor, lb_xor, lb_or, lb_m1 hc]
        cases lb W c <;> cases lb (PL 4 i) c <;> cases lb (PL 4 k) c <;> rfl
      rw [e9]
    refine bF (nI_ge (b := 256) hi (by decide)) ⟨in_ hi (by decide), fun q => ?_, fun q => ⟨in_ hi (by decide), s_first hk ?_⟩⟩
    · have hf : gH v C w i = false := by
        rw [Bool.eq_false_iff]
        intro g
        obtain ⟨k, k1, k2⟩ := (exb_iff 256).mp g
        have k3 := no k k1
        rw [Bool.eq_false_iff] at k3
        refine k3 ((alb_iff w).mpr (fun j hj => ?_))
        have k4 := (alb_iff w).mp k2 j hj
        have a1 := hC j hj
        have q1 := eq0_iff.mp q (C j) (by omega)
        rw [lb_and, hW _ (by omega), hE i hi _ (by omega), (exb_iff w).mpr ⟨j, hj, decide_eq_true rfl⟩, Bool.true_and] at q1
        rw [show pc v i (C j) = false from q1, Bool.false_or] at k4
        exact k4
      rw [hf, if_neg (by decide)] at e
      exact ih e
    · refine ⟨fun r => ?_, fun r => s4_num hi ?_⟩
      · have hf : gH v C w i = false := by
          rw [Bool.eq_false_iff]
          intro g
          obtain ⟨k, k1, k2⟩ := (exb_iff 256).mp g
          rw [ff_m1 256 0 (by decide) r k (Nat.zero_le _) (by omega)] at k2
          cases k2
        rw [hf, if_neg (by decide)] at e
        exact ih e
      · have hf : gH v C w i = true := by
          cases g : gH v C w i
          · refine absurd (ff_no 256 0 (fun k _ k2 => ?_)) r
            rw [Bool.eq_false_iff] at g ⊢
            exact fun k3 => g ((exb_iff 256).mpr ⟨k, by omega, k3⟩)
          · rfl
        rw [hf, if_pos rfl] at e
        rw [e]
        exact h
  · unfold w_X4_firstOfTwoCovering_L2
    refine bT (nI_le (a := 256) (b := 256) (by decide) (by decide)) ?_
    rw [Nat.sub_self] at e
    show post (-1) N D X PM PL
    rw [show (-1 : Int32) = ff (gH v C w) ni 256 0 from e]
    exact h
