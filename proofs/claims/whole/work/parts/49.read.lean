theorem TX.re {X Y : ZI} {b : Nat → Nat} {w : Nat} (h : TX X b w) (h0 : Y 0 = X 0) (h1 : Y 1 = X 1) : TX Y b w := by
  unfold TX
  rw [h0, h1]
  exact h
theorem s3_within {X : ZI} {b : Nat → Nat} {w e lo hi : Nat} (hX : TX X b w) (he : e ≤ 150) (hlo : lo ≤ 127) (hhi : hi ≤ 127) {post : Int32 → ZI → Prop} (h : post (if decide (e < w) && (decide (lo ≤ b e) && decide (b e ≤ hi)) then 1 else 0) X) : w_X3_isWithin X (nI e) (nI lo) (nI hi) post := by
  obtain ⟨hw, x1, xb⟩ := hX
  unfold w_X3_isWithin
  rw [x1]
  by_cases h1 : e < w
  · obtain ⟨c1, c2⟩ := xb e h1
    rw [decide_eq_true h1, Bool.true_and] at h
    rw [ncl (by omega), c1]
    refine bF (nI_ge h1 (by omega)) ⟨in_ (by omega) (by decide), fun q => ?_, fun q => ⟨in_ (by omega) (by decide), fun q2 => ?_, fun q2 => ?_⟩⟩
    · have q := (nI_ltI (by omega) (by omega)).mp q
      rw [decide_eq_false (show ¬ lo ≤ b e by omega), Bool.false_and] at h
      exact h
    · have q2 := (nI_ltI (by omega) (by omega)).mp q2
      rw [decide_eq_false (show ¬ b e ≤ hi by omega), Bool.and_false] at h
      exact h
    · have q : ¬ b e < lo := fun e9 => q ((nI_ltI (by omega) (by omega)).mpr e9)
      have q2 : ¬ hi < b e := fun e9 => q2 ((nI_ltI (by omega) (by omega)).mpr e9)
      rw [decide_eq_true (show lo ≤ b e by omega), decide_eq_true (show b e ≤ hi by omega)] at h
      exact h
  · rw [decide_eq_false h1, Bool.false_and] at h
    exact bT (nI_le (by omega) (by omega)) h
def isl (b : Nat → Nat) (i : Nat) : Bool := decide (97 ≤ b i) && decide (b i ≤ 122)
def isd (b : Nat → Nat) (i : Nat) : Bool := decide (48 ≤ b i) && decide (b i ≤ 57)
theorem s3_letters {X : ZI} {b : Nat → Nat} {w : Nat} (hX : TX X b w) {post : ZI → Prop} {K : ZI → Prop} : ∀ n e, e ≤ w → w - e ≤ n → ∀ Y : ZI, (∀ a, ¬ a = 3 → Y a = X a) → Y 3 0 = nI e → (∀ Z : ZI, (∀ a, ¬ a = 3 → Z a = X a) → Z 3 0 = nI (ru (isl b) w e) → K Z) → ∃ q, itF (w_X3_takeWord_L0 post K) (fun _ => False) q Y := by
  have hw := hX.1
  have x1 := hX.2.1
  intro n
  induction n with
  | zero =>
    intro e h1 h2 Y y1 y2 h
    refine ⟨1, ?_⟩
    show w_X3_takeWord_L0 post K _ Y
    unfold w_X3_takeWord_L0
    rw [y1 1 (by decide), x1, y2]
    exact bT (nI_le (by omega) (by omega)) (h Y y1 (by rw [y2, ru_out (by omega)]))
  | succ n ih =>
    intro e h1 h2 Y y1 y2 h
    by_cases hs : e < w
    · have hY : TX Y b w := hX.re (y1 0 (by decide)) (y1 1 (by decide))
      cases hb : isl b e
      · refine ⟨1, ?_⟩
        show w_X3_takeWord_L0 post K _ Y
        unfold w_X3_takeWord_L0
        rw [y1 1 (by decide), x1, y2]
        refine bF (nI_ge hs (by omega)) (s3_within (lo := 97) (hi := 122) hY (by omega) (by decide) (by decide) ?_)
        rw [show (decide (97 ≤ b e) && decide (b e ≤ 122)) = isl b e from rfl, hb, Bool.and_false]
        exact b0 (h Y y1 (by rw [y2, ru_no (fun _ => hb)]))
      · rw [ru_yes hs hb] at h
        obtain ⟨q, hq⟩ := ih (e + 1) (by omega) (by omega) (mu Y 3 0 (nI (e + 1))) (fun a ha => (if_neg ha).trans (y1 a ha)) rfl h
        refine ⟨q + 1, ?_⟩
        show w_X3_takeWord_L0 post K _ Y
        unfold w_X3_takeWord_L0
        rw [y1 1 (by decide), x1, y2]
        refine bF (nI_ge hs (by omega)) (s3_within (lo := 97) (hi := 122) hY (by omega) (by decide) (by decide) ?_)
        rw [show (decide (97 ≤ b e) && decide (b e ≤ 122)) = isl b e from rfl, hb, decide_eq_true hs]
        refine b1 ?_
        rw [y2, nI_1]
        rintro X2 rfl
        exact hq
    · refine ⟨1, ?_⟩
      show w_X3_takeWord_L0 post K _ Y
      unfold w_X3_takeWord_L0
      rw [y1 1 (by decide), x1, y2]
      exact bT (nI_le (by omega) (by omega)) (h Y y1 (by rw [y2, ru_out (by omega)]))
