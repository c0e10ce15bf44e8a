theorem gcd_st (a b : Nat) : Nat.gcd a b = Nat.gcd b (a % b) := by
  rw [Nat.gcd_comm a b, Nat.gcd_rec b a, Nat.gcd_comm]
theorem lpos {b : Nat} (hb : 0 < b) (h : b < 2 ^ 31) : ¬ lg_cmp (lN b) 0 ≤ 0 ∧ ¬ lN b = 0 ∧ ¬ lg_cmp (lN b) 0 = 0 := by
  have h1 : 0 < lg_cmp (lN b) 0 := (lc_gt _ _).mpr ((lN_lt (a := 0) (by decide) h).mpr hb)
  have h2 : ¬ lN b = 0 := fun e => absurd ((lN_eq (b := 0) h (by decide)).mp e) (by omega)
  exact ⟨fun q => absurd h1 (Int32.not_lt.mpr q), h2, fun q => h2 ((lc_eq _ _).mp q)⟩
theorem s4_frac {N D X PM : ZI} {PL : ZL} {A B : Nat} (hAB : A ≤ B) (hB : 0 < B) (hB2 : B ≤ 100000) {post : ZI → ZI → ZI → ZI → ZL → Prop} (h : post N D X PM (ml (ml PL 5 0 (lN (A / Nat.gcd B A))) 6 0 (lN (B / Nat.gcd B A)))) : w_X4_setFraction N D X PM PL (lN A) (lN B) post := by
  have hG : 0 < Nat.gcd B A := Nat.gcd_pos_of_pos_left A hB
  have hG2 : Nat.gcd B A ≤ B := Nat.gcd_le_left A hB
  unfold w_X4_setFraction
  have fin : ∀ y : Int32, ∀ b : Int64, (((lg_cmp (lN (Nat.gcd B A)) 0) ≤ 0 → post N D X PM PL) ∧ (¬ (lg_cmp (lN (Nat.gcd B A)) 0) ≤ 0 → ¬ lN (Nat.gcd B A) = 0 ∧ ∀ PL5 : ZL, PL5 = ml PL 5 0 (lN A / lN (Nat.gcd B A)) → ¬ lN (Nat.gcd B A) = 0 ∧ ∀ PL6 : ZL, PL6 = ml PL5 6 0 (lN B / lN (Nat.gcd B A)) → post N D X PM PL6)) := by
    intro _ _
    obtain ⟨g1, g2, _⟩ := lpos hG (by omega)
    rw [ldiv (by omega) (by omega), ldiv (by omega) (by omega)]
    refine bF g1 ⟨g2, ?_⟩
    rintro PL5 rfl
    refine ⟨g2, ?_⟩
    rintro PL6 rfl
    exact h
  refine ⟨36, it_up _ _ (fun (i : Nat) (rec : Int64 → Int64 → Int32 → Prop) => ∀ a b : Nat, b ≤ a → a ≤ 100000 → Nat.gcd a b = Nat.gcd B A → (b = 0 ∨ a * b < 2 ^ (35 - i)) → rec (lN a) (lN b) (nI i)) 35 (fun i hi rec ih a b h1 h2 h3 h4 => ?_) (fun rec a b h1 h2 h3 h4 => ?_) B A hAB hB2 rfl (Or.inr ?_)⟩
  · unfold w_X4_setFraction_L9
    refine bF (nI_ge (b := 100) (by omega) (by decide)) ?_
    by_cases hb : b = 0
    · subst hb
      rw [Nat.gcd_zero_right] at h3
      refine bT (by decide) ?_
      rw [h3]
      exact fin (nI i) (lN 0)
    · obtain ⟨g1, g2, _⟩ := lpos (b := b) (by omega) (by omega)
      refine bF g1 ⟨g2, ?_⟩
      rw [lrem (by omega) (by omega), nI_1]
      rintro v1 rfl
      have hm : a % b < b := Nat.mod_lt _ (by omega)
      refine ih b (a % b) (by omega) (by omega) ((gcd_st a b).symm.trans h3) (Or.inr ?_)
      have h4 : a * b < 2 ^ (35 - i) := by
        rcases h4 with q | q
        · exact absurd q hb
        · exact q
      have hr : 2 * (a % b) ≤ a := by
        have e := Nat.div_add_mod a b
        have hq : 1 ≤ a / b := (Nat.one_le_div_iff (by omega)).mpr h1
        have := Nat.mul_le_mul_left b hq
        omega
      have h5 : b * (2 * (a % b)) ≤ b * a := Nat.mul_le_mul_left b hr
      rw [show 35 - i = (35 - (i + 1)) + 1 by omega, Nat.pow_succ] at h4
      have e1 : b * (2 * (a % b)) = 2 * (b * (a % b)) := by rw [Nat.mul_left_comm]
      have e2 : b * a = a * b := Nat.mul_comm b a
      omega
  · unfold w_X4_setFraction_L9
    refine bF (by decide) ?_
    have hb : b = 0 := by
      rcases h4 with q | q
      · exact q
      · by_cases e : b = 0
        · exact e
        · have := Nat.mul_pos (show 0 < a by omega) (show 0 < b by omega)
          omega
    subst hb
    rw [Nat.gcd_zero_right] at h3
    refine bT (by decide) ?_
    rw [h3]
    exact fin (nI 35) (lN 0)
  · have : B * A ≤ 100000 * 100000 := Nat.mul_le_mul hB2 (by omega)
    omega
theorem s5_eu {M : ZI} {L : ZL} {x1 x3 : Int64} {G : Nat} {post : ZI → ZL → Prop} {K : Int64 → Int64 → Prop} (h : K (lN G) (lN 0)) : ∀ b a : Nat, a ≤ 100000 → b ≤ 100000 → Nat.gcd a b = G → ∃ n, itF (w_X5_setFraction_L6 M L x1 x3 post K) (fun _ _ => False) n (lN a) (lN b) := by
  intro b
  induction b using Nat.strongRecOn with
  | _ b ih =>
    intro a ha hb hG
    by_cases h0 : b = 0
    · subst h0
      rw [Nat.gcd_zero_right] at hG
      refine ⟨1, ?_⟩
      show w_X5_setFraction_L6 M L x1 x3 post K _ (lN a) (lN 0)
      unfold w_X5_setFraction_L6
      refine bT (by decide) ?_
      rw [hG]
      exact h
    · have hm : a % b < b := Nat.mod_lt _ (by omega)
      obtain ⟨n, hn⟩ := ih (a % b) hm b hb (by omega) ((gcd_st a b).symm.trans hG)
      refine ⟨n + 1, ?_⟩
      show w_X5_setFraction_L6 M L x1 x3 post K _ (lN a) (lN b)
      unfold w_X5_setFraction_L6
      obtain ⟨_, g2, g3⟩ := lpos (b := b) (by omega) (by omega)
      refine bF g3 ⟨g2, ?_⟩
      rw [lrem (by omega) (by omega)]
      rintro v1 rfl
      exact hn
theorem s5_frac {M : ZI} {L : ZL} {A B : Nat} (hAB : A ≤ B) (hB : 0 < B) (hB2 : B ≤ 100000) {post : ZI → ZL → Prop} (h : post M (ml (ml L 1 0 (lN (A / Nat.gcd B A))) 2 0 (lN (B / Nat.gcd B A)))) : w_X5_setFraction M L (lN A) (lN B) post := by
  have hG : 0 < Nat.gcd B A := Nat.gcd_pos_of_pos_left A hB
  have hG2 : Nat.gcd B A ≤ B := Nat.gcd_le_left A hB
  unfold w_X5_setFraction
  refine s5_eu (G := Nat.gcd B A) ?_ B A (by omega) hB2 (Nat.gcd_comm A B)
  obtain ⟨_, g2, _⟩ := lpos hG (by omega)
  show ¬ lN (Nat.gcd B A) = 0 ∧ ∀ L4 : ZL, L4 = ml L 1 0 (lN A / lN (Nat.gcd B A)) → ¬ lN (Nat.gcd B A) = 0 ∧ ∀ L5 : ZL, L5 = ml L4 2 0 (lN B / lN (Nat.gcd B A)) → post M L5
  rw [ldiv (by omega) (by omega), ldiv (by omega) (by omega)]
  refine ⟨g2, ?_⟩
  rintro L4 rfl
  refine ⟨g2, ?_⟩
  rintro L5 rfl
  exact h
