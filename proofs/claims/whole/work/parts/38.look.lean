theorem s5_lk1 {M : ZI} {L : ZL} {z v w : Nat} {A B : Nat → Nat} (hz : z ≤ 1) (hv : v < 65536) (e : M 0 (65 + z) = nI v) (hw : w ≤ 8) (ew : M 0 76 = nI w) (hA : ∀ i, i < w → A i ≤ 63 ∧ B i ≤ 1 ∧ M 0 (77 + i) = nI (2 * A i + B i)) (M3 : ZI) (m1 : ∀ a, ¬ a = 15 → M3 a = M a) (m2 : ∀ c, c < 64 → M3 15 c = 0) {post : Int32 → ZI → ZL → Prop} {K : ZI → ZL → Int32 → Int32 → Prop} (h : ∀ Q : ZI, (∀ a, ¬ a = 15 → Q a = M a) → (∀ c, c < 64 → Q 15 c = nI (cnt (uw v A B w c) 256)) → K Q L (nI (cnt (fw v A B w) 256)) (nI 256)) : ∃ n, itF (w_X5_look_L37 (nI z) post K) (fun _ _ _ _ => False) n M3 L 0 0 := by
  refine ⟨257, it_up _ _ (fun (i : Nat) (rec : ZI → ZL → Int32 → Int32 → Prop) => ∀ Q : ZI, (∀ a, ¬ a = 15 → Q a = M a) → (∀ c, c < 64 → Q 15 c = nI (cnt (uw v A B w c) i)) → rec Q L (nI (cnt (fw v A B w) i)) (nI i)) 256 (fun i hi rec ih Q q1 q2 => ?_) (fun rec Q q1 q2 => ?_) M3 m1 m2⟩
  · unfold w_X5_look_L37
    have q0 : Q 0 = M 0 := q1 0 (by decide)
    refine bF (nI_ge (b := 256) hi (by decide)) (s5_canBe (A := A) (B := B) hz hi hv (by rw [q0]; exact e) hw (by rw [q0]; exact ew) (by rw [q0]; exact hA) ?_)
    rw [show fbb (cvi (lk v (i / 64)) (i % 8) (i / 8 % 8) 16) A B w = fw v A B w i from rfl, nI_1 i]
    cases hf : fw v A B w i
    · refine b0 ?_
      rw [cnt_no hf] at ih
      exact ih Q q1 (fun c hc => by rw [q2 c hc, cnt_no (show uw v A B w c i = false by unfold uw; rw [hf]; rfl)])
    · refine b1 ?_
      rw [(T_wh i hi).2.2, nI_1]
      refine s_looksOf hz (by omega) (by rw [q0]; exact e) hv ?_
      rw [cnt_yes hf] at ih
      refine ⟨65, it_up _ _ (fun (c : Nat) (rec2 : ZI → Int32 → Prop) => ∀ R : ZI, (∀ a, ¬ a = 15 → R a = M a) → (∀ d, d < 64 → R 15 d = nI (cnt (uw v A B w d) (if d < c then i + 1 else i))) → rec2 R (nI c)) 64 (fun c hc rec2 ih2 R r1 r2 => ?_) (fun rec2 R r1 r2 => ?_) Q q1 (fun d hd => by rw [q2 d hd, if_neg (by omega)])⟩
      · unfold w_X5_look_L70
        refine bF (nI_ge (b := 64) hc (by decide)) ⟨in_ hc (by decide), ?_⟩
        rw [(T_wh i hi).1, (T_wh i hi).2.1, ncl (by omega), r2 c hc, if_neg (by omega), nI_1 c]
        refine s5_covers (lk_lt v (by omega)) (by omega) (by omega) hc ?_
        have go : ∀ x : Int32, x = nI (cnt (uw v A B w c) (i + 1)) → rec2 (mu R 15 c x) (nI (c + 1)) := by
          intro x ex
          refine ih2 _ (fun a ha => (if_neg ha).trans (r1 a ha)) (fun d hd => ?_)
          by_cases q : d = c
          · subst q
            rw [if_pos (by omega), ← ex]
            exact up_eq rfl
          · refine (up_ne q).trans ((r2 d hd).trans ?_)
            by_cases q2 : d < c
            · rw [if_pos q2, if_pos (by omega)]
            · rw [if_neg q2, if_neg (by omega)]
        cases hcv : cvi (lk v (i / 64)) (i % 8) (i / 8 % 8) 16 c
        · refine b0 ⟨in_ hc (by decide), ?_⟩
          rintro M12 rfl
          refine go _ ?_
          rw [cnt_no (show uw v A B w c i = false by unfold uw; rw [hf, hcv]; rfl)]
          exact nI_add _ 0
        · refine b1 ⟨in_ hc (by decide), ?_⟩
          rintro M12 rfl
          refine go _ ?_
          rw [cnt_yes (show uw v A B w c i = true by unfold uw; rw [hf, hcv]; rfl), nI_1]
      · unfold w_X5_look_L70
        refine bT (nI_le (a := 64) (b := 64) (by decide) (by decide)) ?_
        exact ih R r1 (fun d hd => by rw [r2 d hd, if_pos hd])
  · unfold w_X5_look_L37
    exact bT (nI_le (a := 256) (b := 256) (by decide) (by decide)) (h Q q1 q2)
theorem s5_lk2 {M : ZI} {L : ZL} {v w : Nat} {A B : Nat → Nat} {x1 : Int32} (hM : ∀ c, c < 64 → M 15 c = nI (cnt (uw v A B w c) 256)) {post : Int32 → ZI → ZL → Prop} {K : Int32 → Int32 → Int32 → Prop} (h0 : cnt (fw v A B w) 256 = 0 → ∀ y, K (-1) y (-1)) (h : 0 < cnt (fw v A B w) 256 → ∀ r y, isf (vw v A B w) r → K (nI r) y (-1)) : ∃ n, itF (w_X5_look_L134 M L x1 (nI (cnt (fw v A B w) 256)) post K) (fun _ _ _ => False) n (-1) (nI (cnt (fw v A B w) 256)) 63 := by
  have hn := cnt_le (fw v A B w) 256
  refine ⟨65, it_dn _ _ (fun (n : Nat) (rec : Int32 → Int32 → Int32 → Prop) => n ≤ 64 → ∀ (a : Int32) (q : Nat) (c : Int32), q ≤ 256 → c = pr n → ((cnt (fw v A B w) 256 = 0 ∨ n = 64) ∧ a = -1 ∧ q = cnt (fw v A B w) 256 ∨ (0 < cnt (fw v A B w) 256 ∧ ∃ r, a = nI r ∧ n ≤ r ∧ r < 64 ∧ q = vw v A B w r ∧ (∀ c, n ≤ c → c < 64 → vw v A B w r ≤ vw v A B w c) ∧ (∀ c, n ≤ c → c < r → vw v A B w r < vw v A B w c))) → rec a (nI q) c) (fun rec _ a q c hq ec hr => ?_) (fun n rec ih hn' a q c hq ec hr => ?_) 64 (Nat.le_refl 64) (-1) (cnt (fw v A B w) 256) 63 hn rfl (Or.inl ⟨Or.inr rfl, rfl, rfl⟩)⟩
  · subst ec
    unfold w_X5_look_L134
    refine bT (by decide) ?_
    rcases hr with ⟨r1, r2, r3⟩ | ⟨r1, r, r2, r3, r4, r5, r6, r7⟩
    · rw [r2]
      exact h0 (by omega) _
    · rw [r2]
      exact h r1 r _ ⟨r4, fun c hc => r6 c (Nat.zero_le _) hc, fun c hc => r7 c (Nat.zero_le _) hc⟩
  · subst ec
    unfold w_X5_look_L134
    show (nI n < 0 → _) ∧ (¬ nI n < 0 → _)
    refine bF (nI_nlt (a := n) (b := 0) (Nat.zero_le _) (by omega)) ?_
    show vp_in (nI n) 64 ∧ vp_in (nI n) 64 ∧ (((M 15 (nI n).toNatClampNeg) ≤ (nI (cnt (fw v A B w) 256) - (M 15 (nI n).toNatClampNeg)) → vp_in (nI n) 64 ∧ ∀ v21 : Int32, v21 = nI (cnt (fw v A B w) 256) - (M 15 (nI n).toNatClampNeg) → ((nI q < v21 → rec a (nI q) (nI n + (-1))) ∧ (¬ nI q < v21 → ((nI (cnt (fw v A B w) 256) ≤ 0 → rec a (nI q) (nI n + (-1))) ∧ (¬ nI (cnt (fw v A B w) 256) ≤ 0 → rec (nI n) v21 (nI n + (-1))))))) ∧ (¬ (M 15 (nI n).toNatClampNeg) ≤ (nI (cnt (fw v A B w) 256) - (M 15 (nI n).toNatClampNeg)) → vp_in (nI n) 64 ∧ ∀ v22 : Int32, v22 = M 15 (nI n).toNatClampNeg → ((nI q < v22 → rec a (nI q) (nI n + (-1))) ∧ (¬ nI q < v22 → ((nI (cnt (fw v A B w) 256) ≤ 0 → rec a (nI q) (nI n + (-1))) ∧ (¬ nI (cnt (fw v A B w) 256) ≤ 0 → rec (nI n) v22 (nI n + (-1))))))))
    have hu := uw_le v A B w n 256
    have hv := vw_le v A B w n
    rw [ncl (by omega), hM n (by omega), nsub hu, pr_dn]
    have ih := ih (by omega)
    have st : ∀ x, x = vw v A B w n → ∀ v21 : Int32, v21 = nI x → ((nI q < v21 → rec a (nI q) (pr n)) ∧ (¬ nI q < v21 → ((nI (cnt (fw v A B w) 256) ≤ 0 → rec a (nI q) (pr n)) ∧ (¬ nI (cnt (fw v A B w) 256) ≤ 0 → rec (nI n) v21 (pr n))))) := by
      rintro x rfl v21 rfl
      refine ⟨fun g => ?_, fun g => ⟨fun g2 => ?_, fun g2 => ?_⟩⟩
      · have g := (nI_ltI (by omega) (by omega)).mp g
        rcases hr with ⟨r1, r2, r3⟩ | ⟨r1, r, r2, r3, r4, r5, r6, r7⟩
        · omega
        · refine ih a q _ hq rfl (Or.inr ⟨r1, r, r2, by omega, r4, r5, fun c c1 c2 => ?_, fun c c1 c2 => ?_⟩)
          · by_cases e : c = n
            · subst e
              omega
            · exact r6 c (by omega) c2
          · by_cases e : c = n
            · subst e
              omega
            · exact r7 c (by omega) c2
      · have hz : cnt (fw v A B w) 256 = 0 := by
          by_cases q : 0 < cnt (fw v A B w) 256
          · exact absurd g2 (nI_nle q (by omega))
          · omega
        rcases hr with ⟨r1, r2, r3⟩ | ⟨r1, r, r2, r3, r4, r5, r6, r7⟩
        · exact ih a q _ hq rfl (Or.inl ⟨Or.inl hz, r2, r3⟩)
        · omega
      · have hz : 0 < cnt (fw v A B w) 256 := by
          by_cases q : 0 < cnt (fw v A B w) 256
          · exact q
          · exact absurd (nI_le (a := cnt (fw v A B w) 256) (b := 0) (by omega) (by decide)) g2
        have g : ¬ q < vw v A B w n := fun e => g ((nI_ltI (by omega) (by omega)).mpr e)
        refine ih (nI n) (vw v A B w n) _ (by omega) rfl (Or.inr ⟨hz, n, rfl, Nat.le_refl _, by omega, rfl, fun c c1 c2 => ?_, fun c c1 c2 => absurd c2 (by omega)⟩)
        by_cases e : c = n
        · rw [e]
          exact Nat.le_refl _
        · rcases hr with ⟨r1, r2, r3⟩ | ⟨r1, r, r2, r3, r4, r5, r6, r7⟩
          · omega
          · have := r6 c (by omega) c2
            omega
    refine ⟨in_ (by omega) (by decide), in_ (by omega) (by decide), fun g => ⟨in_ (by omega) (by decide), st _ ?_⟩, fun g => ⟨in_ (by omega) (by decide), st _ ?_⟩⟩
    · have g := (le_iff (by omega) (by omega)).mp g
      unfold vw
      split <;> omega
    · have g : ¬ cnt (uw v A B w n) 256 ≤ cnt (fw v A B w) 256 - cnt (uw v A B w n) 256 := fun e => g ((le_iff (by omega) (by omega)).mpr e)
      unfold vw
      rw [if_neg (by omega)]
theorem p_look : st_look Inv := by
  intro N D X PM PL i0 i1 M L x1 hI
  unfold w_X4_look
  refine s_within (a := 0) (b := 1) (by decide) (by decide) (fun v1 => b1n ?_) (fun v1 => b0n (s4_bad ?_))
  · obtain ⟨z, -, hz, rfl⟩ := id v1
    obtain ⟨v, hv, e1, e2⟩ := hI.1.pot hz
    obtain ⟨w, hw, w1, w2, hA⟩ := hI.1.see
    have hA2 : ∀ i, i < w → sA (M 0) i ≤ 63 ∧ sB (M 0) i ≤ 1 ∧ N 5 i = nI (sA (M 0) i) ∧ N 6 i = nI (sB (M 0) i) := fun i hi => ⟨(hA i hi).1, (hA i hi).2.1, (hA i hi).2.2.1, (hA i hi).2.2.2.1⟩
    have hA3 : ∀ i, i < w → sA (M 0) i ≤ 63 ∧ sB (M 0) i ≤ 1 ∧ M 0 (77 + i) = nI (2 * sA (M 0) i + sB (M 0) i) := fun i hi => ⟨(hA i hi).1, (hA i hi).2.1, (hA i hi).2.2.2.2⟩
    have hn := cnt_le (fw v (sA (M 0)) (sB (M 0)) w) 256
    refine ⟨in_ (by omega) (by decide), ?_⟩
    rw [ncl (by omega), e1]
    refine s_every hv (fun P p1 p2 => s_keep p2 hw w1 hA2 (fun P2 g1 g2 => ?_))
    have hm : ∀ r : Int32, (cnt (fw v (sA (M 0)) (sB (M 0)) w) 256 = 0 → r = -1) → (0 < cnt (fw v (sA (M 0)) (sB (M 0)) w) 256 → ∃ s, isf (vw v (sA (M 0)) (sB (M 0)) w) s ∧ r = nI s) → w_X5_look M L (nI z) (fun r2 M L => r = r2 ∧ Inv N D X PM P2 i0 i1 M L) := by
      intro r r0 rp
      unfold w_X5_look
      refine s_isWhat (fun _ => b1n ?_) (fun q => absurd v1 q)
      refine ⟨65, it_up _ _ (fun (i : Nat) (rec : ZI → Int32 → Prop) => ∀ Q : ZI, (∀ a, ¬ a = 15 → Q a = M a) → (∀ c, c < i → Q 15 c = 0) → rec Q (nI i)) 64 (fun i hi rec ih Q h1 h2 => ?_) (fun rec Q h1 h2 => ?_) M (fun _ _ => rfl) (fun c hc => absurd hc (by omega))⟩
      · unfold w_X5_look_L14
        refine bF (nI_ge (b := 64) hi (by decide)) ⟨in_ hi (by decide), ?_⟩
        rw [ncl (by omega), nI_1]
        rintro M1 rfl
        refine ih _ (fun a ha => (if_neg ha).trans (h1 a ha)) (fun c hc => ?_)
        by_cases q : c = i
        · exact up_eq q
        · exact (up_ne q).trans (h2 c (by omega))
      · unfold w_X5_look_L14
        refine bT (nI_le (a := 64) (b := 64) (by decide) (by decide)) (s5_lk1 hz hv e2 hw w2 hA3 Q h1 h2 (fun R r1 r2 => s5_lk2 r2 (fun z0 y => ?_) (fun zp s y hs => ?_)))
        · refine ⟨r0 z0, hI.re ?_ (r1 3 (by decide)) (r1 7 (by decide)) (r1 8 (by decide)) (r1 18 (by decide)) (r1 19 (by decide)) (r1 20 (by decide)) (r1 21 (by decide)) ?_ ?_⟩
          · rw [r1 0 (by decide), r1 5 (by decide), r1 6 (by decide)]
            exact hI.1
          · rw [g1 5 (by decide), p1 5 (by decide)]
            exact hI.2.2.2.2.2.1
          · rw [g1 6 (by decide), p1 6 (by decide)]
            exact hI.2.2.2.2.2.2
        · obtain ⟨s', hs', er⟩ := rp zp
          refine ⟨by rw [er, isf_eq hs' hs], hI.re ?_ (r1 3 (by decide)) (r1 7 (by decide)) (r1 8 (by decide)) (r1 18 (by decide)) (r1 19 (by decide)) (r1 20 (by decide)) (r1 21 (by decide)) ?_ ?_⟩
          · rw [r1 0 (by decide), r1 5 (by decide), r1 6 (by decide)]
            exact hI.1
          · rw [g1 5 (by decide), p1 5 (by decide)]
            exact hI.2.2.2.2.2.1
          · rw [g1 6 (by decide), p1 6 (by decide)]
            exact hI.2.2.2.2.2.2
    refine ⟨fun q => ?_, fun q => ?_⟩
    · rintro v13 rfl
      have zp : 0 < cnt (fw v (sA (M 0)) (sB (M 0)) w) 256 := by
        by_cases e : 0 < cnt (fw v (sA (M 0)) (sB (M 0)) w) 256
        · exact e
        · exact absurd (by rw [show cnt (fw v (sA (M 0)) (sB (M 0)) w) 256 = 0 by omega]; rfl) q
      exact s4_lkl g2 (fun r y5 hr => hm (nI r) (fun e => absurd e (by omega)) (fun _ => ⟨r, hr, rfl⟩))
    · have e0 : cnt (fw v (sA (M 0)) (sB (M 0)) w) 256 = 0 := nI_ij (b := 0) (by omega) (by decide) q
      exact hm (-1) (fun _ => rfl) (fun zp => absurd e0 (by omega))
  · unfold w_X5_look
    exact s_isWhat (fun q => absurd q v1) (fun _ => b0n (s5_bad ⟨rfl, inv_bad hI⟩))
