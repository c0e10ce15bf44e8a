def qw (v : Nat) (C : Nat → Nat) (w i : Nat) : Nat := orb (fun j => pc v i (C j)) id w
theorem orb_full {f : Nat → Bool} {w : Nat} : orb f id w = 2 ^ w - 1 ↔ alb f w = true := by
  rw [alb_iff]
  constructor
  · intro h i hi
    have : (orb f id w).testBit i = true := by
      rw [h, Nat.testBit_two_pow_sub_one, decide_eq_true hi]
    obtain ⟨j, _, h2, h3⟩ := (orb_bit _ _ _ _).mp this
    have h3 : j = i := h3
    rw [← h3]
    exact h2
  · intro h
    refine eq_bits (fun j => (orb_bit _ _ _ _).trans ?_)
    rw [Nat.testBit_two_pow_sub_one, decide_eq_true_iff]
    constructor
    · rintro ⟨i, h1, h2, h3⟩
      have h3 : i = j := h3
      omega
    · exact fun hj => ⟨j, hj, h j hj, rfl⟩
theorem orb_or {f g : Nat → Bool} {w : Nat} : orb f id w ||| orb g id w = orb (fun j => f j || g j) id w := by
  refine eq_bits (fun j => ?_)
  rw [Nat.testBit_or, Bool.or_eq_true, orb_bit, orb_bit, orb_bit]
  constructor
  · rintro (⟨i, h1, h2, h3⟩ | ⟨i, h1, h2, h3⟩)
    · exact ⟨i, h1, by rw [h2]; rfl, h3⟩
    · exact ⟨i, h1, by rw [h2, Bool.or_true], h3⟩
  · rintro ⟨i, h1, h2, h3⟩
    rcases (Bool.or_eq_true _ _).mp h2 with q | q
    · exact Or.inl ⟨i, h1, q, h3⟩
    · exact Or.inr ⟨i, h1, q, h3⟩
theorem qw_lt (v : Nat) (C : Nat → Nat) {w : Nat} (hw : w ≤ 8) (i : Nat) : qw v C w i < 256 := orb_lt (b := 8) w (fun j hj => (show j < 8 by omega))
theorem p2w : ∀ w, w < 9 → ((1 : Int32) <<< (nI w &&& 31)) - 1 = nI (2 ^ w - 1) ∧ 2 ^ w - 1 < 256 ∧ (0 < w → 0 < 2 ^ w - 1) := by decide +kernel
theorem s5_find {M : ZI} {L : ZL} {z v w : Nat} {C : Nat → Nat} (hz : z ≤ 1) (hv : v < 65536) (e : M 0 (65 + z) = nI v) (hw : w ≤ 8) (ew : M 0 67 = nI w) (hC : ∀ i, i < w → C i ≤ 63 ∧ M 0 (68 + i) = nI (C i)) {post : ZI → ZL → Prop} (h : ∀ Q : ZI, (∀ a, ¬ a = 14 → Q a = M a) → (∀ i, i < 256 → Q 14 i = nI (qw v C w i)) → post Q L) : w_X5_findWanted M L (nI z) post := by
  refine ⟨257, it_up _ _ (fun (i : Nat) (rec : ZI → ZL → Int32 → Prop) => ∀ Q : ZI, (∀ a, ¬ a = 14 → Q a = M a) → (∀ j, j < i → Q 14 j = nI (qw v C w j)) → rec Q L (nI i)) 256 (fun i hi rec ih Q h1 h2 => ?_) (fun rec Q h1 h2 => ?_) M (fun _ _ => rfl) (fun j hj => absurd hj (by omega))⟩
  · unfold w_X5_findWanted_L2
    have q0 : Q 0 = M 0 := h1 0 (by decide)
    rw [(T_wh i hi).2.2, ncl (by omega), nI_1]
    refine bF (nI_ge (b := 256) hi (by decide)) (s_looksOf hz (by omega) (by rw [q0]; exact e) hv ⟨in_ hi (by decide), ?_⟩)
    rintro M4 rfl
    refine ⟨w + 1, it_up _ _ (fun (j : Nat) (rec2 : ZI → Int32 → Prop) => ∀ R : ZI, (∀ a, ¬ a = 14 → R a = M a) → (∀ k, k < i → R 14 k = nI (qw v C w k)) → R 14 i = nI (qw v C j i) → rec2 R (nI j)) w (fun j hj rec2 ih2 R r1 r2 r3 => ?_) (fun rec2 R r1 r2 r3 => ?_) (mu Q 14 i 0) (fun a ha => (if_neg ha).trans (h1 a ha)) (fun k hk => (up_ne (by omega)).trans (h2 k hk)) (show upd (Q 14) i 0 i = _ from up_eq rfl)⟩
    · unfold w_X5_findWanted_L29
      obtain ⟨c1, c2⟩ := hC j hj
      rw [r1 0 (by decide), ew, show (68 : Int32) + nI j = nI (68 + j) from nI_add 68 j, ncl (by omega), ncl (by omega), c2, (T_wh i hi).1, (T_wh i hi).2.1, r3, nI_1, sh1 j (by omega), or0]
      refine bF (nI_ge (b := w) hj (by omega)) ⟨in_ hi (by decide), in_ (by omega) (by decide), s5_covers (lk_lt v (by omega)) (by omega) (by omega) (by omega) ?_⟩
      have go : ∀ x : Int32, x = nI (qw v C (j + 1) i) → rec2 (mu R 14 i x) (nI (j + 1)) := fun x ex => ih2 _ (fun a ha => (if_neg ha).trans (r1 a ha)) (fun k hk => (up_ne (by omega)).trans (r2 k hk)) (show upd (R 14) i x i = _ from (up_eq rfl).trans ex)
      obtain ⟨s1, s2⟩ := orb_step (f := fun j => pc v i (C j)) (g := id) (n := j) (rec := fun z => z = nI (qw v C (j + 1) i)) rfl
      cases hcv : cvi (lk v (i / 64)) (i % 8) (i / 8 % 8) 16 (C j)
      · refine b0 ⟨in_ hi (by decide), ?_⟩
        rintro M6 rfl
        exact go _ (s2 (by rw [show pc v i (C j) = false from hcv]; decide))
      · refine b1 ⟨in_ hi (by decide), ?_⟩
        rintro M6 rfl
        exact go _ (s1 hcv)
    · unfold w_X5_findWanted_L29
      rw [r1 0 (by decide), ew]
      refine bT (nI_le (Nat.le_refl w) (by omega)) (ih R r1 (fun k hk => ?_))
      by_cases q : k = i
      · rw [q]
        exact r3
      · exact r2 k (by omega)
  · unfold w_X5_findWanted_L2
    exact bT (nI_le (a := 256) (b := 256) (by decide) (by decide)) (h Q h1 h2)
theorem s5_c1 {M : ZI} {L : ZL} {v w : Nat} {C : Nat → Nat} {x1 x2 : Int32} (hw : w ≤ 8) (hM : ∀ i, i < 256 → M 14 i = nI (qw v C w i)) {post : Int32 → ZI → ZL → Prop} {K : Int32 → Prop} (h0 : ff (g1 v C w) ni 256 0 = -1 → K (nI 256)) (h1 : ¬ ff (g1 v C w) ni 256 0 = -1 → (¬ x2 = 0 → post (ff (g1 v C w) ni 256 0) M L) ∧ (x2 = 0 → post 1 M L)) : ∃ n, itF (w_X5_cover_L56 M L x1 x2 (nI (2 ^ w - 1)) post K) (fun _ => False) n 0 := by
  have p2 := (p2w w (by omega)).2.1
  refine ⟨257, it_up _ _ (fun (i : Nat) (rec : Int32 → Prop) => ff (g1 v C w) ni (256 - i) i = ff (g1 v C w) ni 256 0 → rec (nI i)) 256 (fun i hi rec ih e => ?_) (fun rec e => ?_) rfl⟩
  · unfold w_X5_cover_L56
    have hq := qw_lt v C hw i
    have E : nI (qw v C w i) = nI (2 ^ w - 1) ↔ g1 v C w i = true := (nI_eq (by omega) (by omega)).trans orb_full
    rw [ncl (by omega), hM i hi, E, nI_1]
    rw [ff_at hi] at e
    refine bF (nI_ge (b := 256) hi (by decide)) ⟨in_ hi (by decide), fun q => ?_, fun q => ?_⟩
    · rw [if_neg q] at e
      exact ih e
    · rw [if_pos q] at e
      have h1 := h1 (by rw [← e]; exact T_m1 _ (ni_lt hi))
      exact ⟨fun g => s5_num hi (by rw [e]; exact h1.1 g), h1.2⟩
  · unfold w_X5_cover_L56
    rw [Nat.sub_self] at e
    exact bT (nI_le (a := 256) (b := 256) (by decide) (by decide)) (h0 e.symm)
theorem s5_c2 {M : ZI} {L : ZL} {v w : Nat} {C : Nat → Nat} {x1 x2 : Int32} (hw : w ≤ 8) (hM : ∀ i, i < 256 → M 14 i = nI (qw v C w i)) {post : Int32 → ZI → ZL → Prop} {K : Int32 → Prop} (h0 : ff (gH v C w) ni 256 0 = -1 → K (nI 256)) (h1 : ¬ ff (gH v C w) ni 256 0 = -1 → (¬ x2 = 0 → post (ff (gH v C w) ni 256 0) M L) ∧ (x2 = 0 → post 2 M L)) : ∃ n, itF (w_X5_cover_L98 M L x1 x2 (nI (2 ^ w - 1)) post K) (fun _ => False) n 0 := by
  have p2 := (p2w w (by omega)).2.1
  refine ⟨257, it_up _ _ (fun (i : Nat) (rec : Int32 → Prop) => ff (gH v C w) ni (256 - i) i = ff (gH v C w) ni 256 0 → rec (nI i)) 256 (fun i hi rec ih e => ?_) (fun rec e => ?_) rfl⟩
  · unfold w_X5_cover_L98
    rw [ff_at hi] at e
    refine bF (nI_ge (b := 256) hi (by decide)) ?_
    refine ⟨257, it_up _ _ (fun (k : Nat) (rec2 : Int32 → Prop) => exb (g2 v C w i) k = false → rec2 (nI k)) 256 (fun k hk rec2 ih2 ek => ?_) (fun rec2 ek => ?_) rfl⟩
    · unfold w_X5_cover_L109
      have hq := qw_lt v C hw i
      have E : nI (qw v C w i) ||| nI (qw v C w k) = nI (2 ^ w - 1) ↔ g2 v C w i k = true := by
        have hb : qw v C w i ||| qw v C w k < 256 := Nat.or_lt_two_pow (n := 8) hq (qw_lt v C hw k)
        rw [nor]
        refine (nI_eq (by omega) (by omega)).trans ?_
        unfold qw
        rw [orb_or]
        exact orb_full
      rw [ncl (by omega), ncl (by omega), hM i hi, hM k hk, E, nI_1 k]
      refine bF (nI_ge (b := 256) hk (by decide)) ⟨in_ hi (by decide), in_ hk (by decide), fun q => ih2 ?_, fun q => ?_⟩
      · show (exb (g2 v C w i) k || g2 v C w i k) = false
        rw [ek, Bool.false_or, Bool.eq_false_iff]
        exact q
      · rw [if_pos (show gH v C w i = true from (exb_iff 256).mpr ⟨k, hk, q⟩)] at e
        have h1 := h1 (by rw [← e]; exact T_m1 _ (ni_lt hi))
        exact ⟨fun g => s5_num hi (by rw [e]; exact h1.1 g), h1.2⟩
    · unfold w_X5_cover_L109
      refine bT (nI_le (a := 256) (b := 256) (by decide) (by decide)) ?_
      rw [show gH v C w i = false from ek, if_neg (by decide)] at e
      show rec (nI i + 1)
      rw [nI_1]
      exact ih e
  · unfold w_X5_cover_L98
    rw [Nat.sub_self] at e
    exact bT (nI_le (a := 256) (b := 256) (by decide) (by decide)) (h0 e.symm)
theorem p_cover : st_cover Inv := by
  intro N D X PM PL i0 i1 M L x1 x2 hI
  unfold w_X4_cover
  refine s_within (a := 0) (b := 1) (by decide) (by decide) (fun v1 => b1 ?_) (fun v1 => b0 (s4_bad ?_))
  · refine s_within (a := 0) (b := 1) (by decide) (by decide) (fun v2 => b1n ?_) (fun v2 => b0n (s4_bad ?_))
    · obtain ⟨z, -, hz, rfl⟩ := id v1
      obtain ⟨b, -, hb, rfl⟩ := id v2
      obtain ⟨v, hv, e1, e2⟩ := hI.1.pot hz
      obtain ⟨w, hw, w1, w2, hC⟩ := hI.1.wnt
      obtain ⟨p1, p2, p3⟩ := p2w w (by omega)
      refine s_wanted hw w1 (fun i hi => ⟨(hC i hi).1, (hC i hi).2.1⟩) (fun W hW => ?_)
      have hC1 : ∀ i, i < w → sC (M 0) i ≤ 63 := fun i hi => (hC i hi).1
      rw [lc_eq]
      by_cases h0 : w = 0
      · subst h0
        refine nT (eq0_iff.mpr (fun c hc => hW c hc)) ?_
        have hm : ∀ r : Int32, (¬ nI b = 0 → r = -1) → (nI b = 0 → r = 0) → w_X5_cover M L (nI z) (nI b) (fun r2 M' L' => r = r2 ∧ Inv N D X PM PL i0 i1 M' L') := by
          intro r q1 q2
          unfold w_X5_cover
          refine s_isWhat (fun _ => b1 (s_isWhat (fun _ => b1n ?_) (fun q => absurd v2 q))) (fun q => absurd v1 q)
          rw [w2, p1]
          rintro v6 rfl
          exact nT rfl ⟨fun q => ⟨q1 q, hI⟩, fun q => ⟨q2 q, hI⟩⟩
        exact ⟨fun q => hm _ (fun _ => rfl) (fun e => absurd e q), fun q => hm _ (fun e => absurd q e) (fun _ => rfl)⟩
      · have hW0 : ¬ W = 0 := by
          intro e
          have := eq0_iff.mp e (sC (M 0) 0) (by have := hC1 0 (by omega); omega)
          rw [hW _ (by have := hC1 0 (by omega); omega), (exb_iff w).mpr ⟨0, by omega, decide_eq_true rfl⟩] at this
          cases this
        refine nF hW0 ⟨in_ (by omega) (by decide), ?_⟩
        rw [ncl (by omega), e1]
        refine s_every hv (fun P q1 hE => s_first (g := g1 v (sC (M 0)) w) (fun i hi => wm_iff hC1 hW (hE i hi)) ?_)
        have hm : ∀ r : Int32, (¬ ff (g1 v (sC (M 0)) w) ni 256 0 = -1 → (¬ nI b = 0 → r = ff (g1 v (sC (M 0)) w) ni 256 0) ∧ (nI b = 0 → r = 1)) → (ff (g1 v (sC (M 0)) w) ni 256 0 = -1 → (ff (gH v (sC (M 0)) w) ni 256 0 = -1 → r = -1) ∧ (¬ ff (gH v (sC (M 0)) w) ni 256 0 = -1 → (¬ nI b = 0 → r = ff (gH v (sC (M 0)) w) ni 256 0) ∧ (nI b = 0 → r = 2))) → w_X5_cover M L (nI z) (nI b) (fun r2 M' L' => r = r2 ∧ Inv N D X PM P i0 i1 M' L') := by
          intro r r1 r2
          unfold w_X5_cover
          refine s_isWhat (fun _ => b1 (s_isWhat (fun _ => b1n ?_) (fun q => absurd v2 q))) (fun q => absurd v1 q)
          rw [w2, p1]
          rintro v6 rfl
          refine nF (nI_ne0 (p3 (by omega)) (by omega)) (s5_find hz hv e2 hw w2 (fun i hi => ⟨(hC i hi).1, (hC i hi).2.2⟩) (fun Q m1 m2 => ?_))
          have fin : Inv N D X PM P i0 i1 Q L := by
            refine hI.re ?_ (m1 3 (by decide)) (m1 7 (by decide)) (m1 8 (by decide)) (m1 18 (by decide)) (m1 19 (by decide)) (m1 20 (by decide)) (m1 21 (by decide)) ?_ ?_
            · rw [m1 0 (by decide), m1 5 (by decide), m1 6 (by decide)]
              exact hI.1
            · rw [q1 5 (by decide)]
              exact hI.2.2.2.2.2.1
            · rw [q1 6 (by decide)]
              exact hI.2.2.2.2.2.2
          refine s5_c1 hw m2 (fun e => s5_c2 hw m2 (fun e' => ⟨(r2 e).1 e', fin⟩) (fun e' => ⟨fun q => ⟨((r2 e).2 e').1 q, fin⟩, fun q => ⟨((r2 e).2 e').2 q, fin⟩⟩)) (fun e => ⟨fun q => ⟨(r1 e).1 q, fin⟩, fun q => ⟨(r1 e).2 q, fin⟩⟩)
        refine ⟨fun e => ?_, fun e => ⟨fun q => hm _ (fun _ => ⟨fun _ => rfl, fun g => absurd g q⟩) (fun g => absurd g e), fun q => hm _ (fun _ => ⟨fun g => absurd q g, fun _ => rfl⟩) (fun g => absurd g e)⟩⟩
        have no : ∀ k, k < 256 → g1 v (sC (M 0)) w k = false := fun k hk => ff_m1 256 0 (by decide) e k (Nat.zero_le _) (by omega)
        refine s_two hE hC1 hW no ⟨fun q => ?_, fun q => ⟨fun e' => ?_, fun e' => ?_⟩⟩
        · exact hm _ (fun g => absurd e g) (fun _ => ⟨fun e' => e', fun e' => ⟨fun _ => rfl, fun g => absurd g q⟩⟩)
        · exact hm _ (fun g => absurd e g) (fun _ => ⟨fun _ => e', fun g => absurd e' g⟩)
        · exact hm _ (fun g => absurd e g) (fun _ => ⟨fun g => absurd g e', fun _ => ⟨fun g => absurd q g, fun _ => rfl⟩⟩)
    · unfold w_X5_cover
      exact s_isWhat (fun _ => b1 (s_isWhat (fun q => absurd q v2) (fun _ => b0n (s5_bad ⟨rfl, inv_bad hI⟩)))) (fun q => absurd v1 q)
  · unfold w_X5_cover
    exact s_isWhat (fun q => absurd q v1) (fun _ => b0 (s5_bad ⟨rfl, inv_bad hI⟩))
