/-! what a print covers -/
theorem le_iff {a b : Nat} (ha : a < 2 ^ 31) (hb : b < 2 ^ 31) : nI a ≤ nI b ↔ a ≤ b := ⟨fun h => Nat.le_of_not_lt (fun q => nI_ge (b := a) q ha h), fun h => nI_le h hb⟩
theorem T_q : ∀ i, i < 16 → jrem (nI i) 4 = nI (i % 4) ∧ nI i / 4 = nI (i / 4) := by decide +kernel
theorem T_r2 : ∀ n, n < 40 → jrem (nI n) 2 = nI (n % 2) := by decide +kernel
def cvi (s x y i c : Nat) : Bool := decide (x ≤ c % 8 ∧ c % 8 ≤ x + 3 ∧ y ≤ c / 8 ∧ c / 8 ≤ y + 3 ∧ 4 * (c / 8 - y) + (c % 8 - x) < i) && s.testBit (4 * (c / 8 - y) + (c % 8 - x))
def par (c : Nat) : Bool := decide ((c % 8 + c / 8) % 2 = 0)
theorem cvi_0 (s x y c : Nat) : cvi s x y 0 c = false := by
  unfold cvi
  rw [decide_eq_false (by omega)]
  rfl
theorem cvi_no {s x y i c : Nat} (hc : c < 64) (hi : i < 16) (h : s.testBit i = false ∨ 8 ≤ x + i % 4 ∨ 8 ≤ y + i / 4) : cvi s x y (i + 1) c = cvi s x y i c := by
  unfold cvi
  by_cases q : 4 * (c / 8 - y) + (c % 8 - x) = i
  · by_cases r : x ≤ c % 8 ∧ c % 8 ≤ x + 3 ∧ y ≤ c / 8 ∧ c / 8 ≤ y + 3
    · have : s.testBit i = false := by
        rcases h with h | h | h
        · exact h
        · omega
        · omega
      rw [q, this, Bool.and_false, Bool.and_false]
    · rw [decide_eq_false (by omega), decide_eq_false (by omega)]
  · congr 1
    exact decide_eq_decide.mpr (by omega)
theorem cvi_ne {s x y i c : Nat} (q : ¬ 8 * (y + i / 4) + (x + i % 4) = c) : cvi s x y (i + 1) c = cvi s x y i c := by
  unfold cvi
  congr 1
  exact decide_eq_decide.mpr (by omega)
theorem cvi_at {s x y i c : Nat} (hi : i < 16) (hb : s.testBit i = true) (hx : x + i % 4 < 8) (q : 8 * (y + i / 4) + (x + i % 4) = c) : cvi s x y (i + 1) c = true ∧ cvi s x y i c = false := by
  have h1 : c % 8 = x + i % 4 ∧ c / 8 = y + i / 4 := by omega
  unfold cvi
  rw [show 4 * (c / 8 - y) + (c % 8 - x) = i by omega, hb, decide_eq_true (by omega), decide_eq_false (by omega)]
  exact ⟨rfl, rfl⟩
theorem cvi_yes {s x y i c : Nat} (hi : i < 16) (hb : s.testBit i = true) (hx : x + i % 4 < 8) : cvi s x y (i + 1) c = (cvi s x y i c || decide (8 * (y + i / 4) + (x + i % 4) = c)) := by
  by_cases q : 8 * (y + i / 4) + (x + i % 4) = c
  · rw [decide_eq_true q, Bool.or_true, (cvi_at hi hb hx q).1]
  · rw [decide_eq_false q, Bool.or_false, cvi_ne q]
theorem s_placed {s x y : Nat} (hs : s < 65536) (hx : x ≤ 20) (hy : y ≤ 7) {post : Int64 → Prop} (h : ∀ m, (∀ c, c < 64 → lb m c = cvi s x y 16 c) → post m) : w_X1_placed (nI s) (nI x) (nI y) post := by
  refine ⟨17, it_up _ _ (fun (i : Nat) (rec : Int64 → Int32 → Prop) => ∀ m, (∀ c, c < 64 → lb m c = cvi s x y i c) → rec m (nI i)) 16 (fun i hi rec ih m hm => ?_) (fun rec m hm => ?_) 0 (fun c _ => by rw [lb_0, cvi_0])⟩
  · unfold w_X1_placed_L5
    refine bF (nI_ge (b := 16) hi (by decide)) ?_
    rw [(T_q i hi).1, (T_q i hi).2, nI_add, nI_add, nI_1]
    rintro v1 rfl v2 rfl
    have no : (s.testBit i = false ∨ 8 ≤ x + i % 4 ∨ 8 ≤ y + i / 4) → rec m (nI (i + 1)) := fun q => ih m (fun c hc => by rw [hm c hc, cvi_no hc hi q])
    by_cases hb : s.testBit i = true
    · refine nT ((ush_bit (by omega) (by omega)).mpr hb) ?_
      by_cases h1 : x + i % 4 < 8
      · refine bF (nI_ge (b := 8) h1 (by decide)) ?_
        by_cases h2 : y + i / 4 < 8
        · refine bF (nI_ge (b := 8) h2 (by decide)) ?_
          rw [m8]
          rintro v3 rfl
          exact ih _ (fun c hc => by rw [lb_or, hm c hc, lb_shl (by omega), cvi_yes hi hb h1])
        · exact bT (nI_le (a := 8) (by omega) (by omega)) (no (Or.inr (Or.inr (by omega))))
      · exact bT (nI_le (a := 8) (by omega) (by omega)) (no (Or.inr (Or.inl (by omega))))
    · exact nF (fun q => hb ((ush_bit (by omega) (by omega)).mp q)) (no (Or.inl (by simpa using hb)))
  · unfold w_X1_placed_L5
    exact bT (nI_le (a := 16) (b := 16) (by decide) (by decide)) (h m hm)
def mx (a b : Nat) : Nat := if a < b then b else a
theorem s_lay {M : ZI} {L : ZL} {s x y d hf : Nat} (hs : s < 65536) (hx : x ≤ 20) (hy : y ≤ 7) (hd : d ≤ 9) (hh : hf ≤ 1) {f : Nat → Nat} (hM : ∀ c, c < 64 → M 4 c = nI (f c) ∧ f c ≤ 9) {post : ZI → ZL → Prop} (h : ∀ M' : ZI, (∀ a, ¬ a = 4 → M' a = M a) → (∀ c, c < 64 → M' 4 c = nI (if cvi s x y 16 c && (decide (hf = 0) || par c) then mx (f c) d else f c)) → post M' L) : w_X5_layLooks M L (nI s) (nI x) (nI y) (nI d) (nI hf) post := by
  refine ⟨17, it_up _ _ (fun (i : Nat) (rec : ZI → Int32 → Prop) => ∀ Q : ZI, (∀ a, ¬ a = 4 → Q a = M a) → (∀ c, c < 64 → Q 4 c = nI (if cvi s x y i c && (decide (hf = 0) || par c) then mx (f c) d else f c)) → rec Q (nI i)) 16 (fun i hi rec ih Q h1 h2 => ?_) (fun rec Q h1 h2 => ?_) M (fun _ _ => rfl) (fun c hc => by rw [cvi_0, Bool.false_and, if_neg (by decide), (hM c hc).1])⟩
  · unfold w_X5_layLooks_L3
    refine bF (nI_ge (b := 16) hi (by decide)) ?_
    rw [(T_q i hi).1, (T_q i hi).2, nI_add, nI_add, nI_1]
    rintro v1 rfl v2 rfl
    have no : (s.testBit i = false ∨ 8 ≤ x + i % 4 ∨ 8 ≤ y + i / 4) → rec Q (nI (i + 1)) := fun q => ih Q h1 (fun c hc => by rw [h2 c hc, cvi_no hc hi q])
    refine s_has (by omega) (by omega) ?_
    by_cases hb : s.testBit i = true
    · rw [if_pos hb]
      refine b1 (s5_isPlace (fun hv => b1 ?_) (fun hv => b0 (no (Or.inr ?_))))
      · obtain ⟨⟨a, -, ha, ea⟩, b, -, hb', eb⟩ := hv
        have g1 : x + i % 4 < 8 := by
          have := (le_iff (a := x + i % 4) (b := 7) (by omega) (by decide)).mp (by rw [ea]; exact nI_le ha (by decide))
          omega
        have g2 : y + i / 4 < 8 := by
          have := (le_iff (a := y + i / 4) (b := 7) (by omega) (by decide)).mp (by rw [eb]; exact nI_le hb' (by decide))
          omega
        have hl : 8 * (y + i / 4) + (x + i % 4) < 64 := by omega
        obtain ⟨c1, c0⟩ := cvi_at (y := y) hi hb g1 rfl
        have hq : Q 4 (8 * (y + i / 4) + (x + i % 4)) = nI (f (8 * (y + i / 4) + (x + i % 4))) := by rw [h2 _ hl, c0, Bool.false_and, if_neg (by decide)]
        have go : ∀ Q' : ZI, (∀ a, ¬ a = 4 → Q' a = Q a) → (∀ c, ¬ 8 * (y + i / 4) + (x + i % 4) = c → Q' 4 c = Q 4 c) → Q' 4 (8 * (y + i / 4) + (x + i % 4)) = nI (if (decide (hf = 0) || par (8 * (y + i / 4) + (x + i % 4))) then mx (f (8 * (y + i / 4) + (x + i % 4))) d else f (8 * (y + i / 4) + (x + i % 4))) → rec Q' (nI (i + 1)) := by
          intro Q' r1 r2 r3
          refine ih Q' (fun a ha => (r1 a ha).trans (h1 a ha)) (fun c hc => ?_)
          by_cases q : 8 * (y + i / 4) + (x + i % 4) = c
          · rw [← q, r3, c1, Bool.true_and]
          · rw [r2 c q, h2 c hc, cvi_ne q]
        rw [m8, ncl (by omega), hq]
        have hf1 := (hM _ hl).2
        have st : (decide (hf = 0) || par (8 * (y + i / 4) + (x + i % 4))) = true → vp_in (nI (8 * (y + i / 4) + (x + i % 4))) 64 ∧ ((nI d ≤ nI (f (8 * (y + i / 4) + (x + i % 4))) → rec Q (nI (i + 1))) ∧ (¬ nI d ≤ nI (f (8 * (y + i / 4) + (x + i % 4))) → vp_in (nI (8 * (y + i / 4) + (x + i % 4))) 64 ∧ ∀ M5 : ZI, M5 = mu Q 4 (8 * (y + i / 4) + (x + i % 4)) (nI d) → rec M5 (nI (i + 1)))) := by
          intro hp
          refine ⟨in_ hl (by decide), fun q => ?_, fun q => ⟨in_ hl (by decide), ?_⟩⟩
          · have q := (le_iff (by omega) (by omega)).mp q
            refine go Q (fun _ _ => rfl) (fun _ _ => rfl) ?_
            rw [hp, if_pos rfl, hq, mx, if_neg (by omega)]
          · rintro M5 rfl
            have q : ¬ d ≤ f (8 * (y + i / 4) + (x + i % 4)) := fun e => q ((le_iff (by omega) (by omega)).mpr e)
            refine go _ (fun a ha => if_neg ha) (fun c hc => up_ne (fun e => hc e.symm)) ?_
            rw [hp, if_pos rfl, mx, if_pos (by omega)]
            exact up_eq rfl
        rcases (show hf = 0 ∨ hf = 1 by omega) with rfl | rfl
        · exact bT rfl (st rfl)
        · refine bF (by decide) ?_
          rw [nI_add, T_r2 _ (by omega)]
          by_cases hp : (x + i % 4 + (y + i / 4)) % 2 = 1
          · rw [hp]
            refine bT rfl (go Q (fun _ _ => rfl) (fun _ _ => rfl) ?_)
            rw [show (decide ((1 : Nat) = 0) || par (8 * (y + i / 4) + (x + i % 4))) = false by unfold par; rw [decide_eq_false (by omega), decide_eq_false (by omega)]; rfl, if_neg (by decide), hq]
          · rw [show (x + i % 4 + (y + i / 4)) % 2 = 0 by omega]
            refine bF (by decide) (st ?_)
            unfold par
            rw [decide_eq_true (p := ((8 * (y + i / 4) + (x + i % 4)) % 8 + (8 * (y + i / 4) + (x + i % 4)) / 8) % 2 = 0) (by omega), Bool.or_true]
      · by_cases q : x + i % 4 < 8
        · refine Or.inr ?_
          by_cases q2 : y + i / 4 < 8
          · exact absurd ⟨⟨_, Nat.zero_le _, by omega, rfl⟩, ⟨_, Nat.zero_le _, by omega, rfl⟩⟩ hv
          · omega
        · exact Or.inl (by omega)
    · rw [if_neg hb]
      exact b0 (no (Or.inl (by simpa using hb)))
  · unfold w_X5_layLooks_L3
    exact bT (nI_le (a := 16) (b := 16) (by decide) (by decide)) (h Q h1 h2)
