/-! read: words and numbers, in the reference -/
theorem isl_59 {b : Nat → Nat} {s : Nat} (h : b s = 59) : isl b s = false ∧ isd b s = false := by
  unfold isl isd
  rw [h]
  exact ⟨rfl, rfl⟩
theorem mk2 {b : Nat → Nat} {w s : Nat} : mk b w s = 2 ↔ kk b w s = 2 := by
  unfold mk kk
  by_cases h1 : w ≤ s
  · rw [if_pos h1, if_pos h1]
    decide
  · rw [if_neg h1, if_neg h1]
    by_cases h2 : b s = 59
    · rw [(isl_59 h2).1, (isl_59 h2).2, if_pos h2, if_pos h2]
      change (4 : Nat) = 2 ↔ (3 : Nat) = 2
      decide
    · rw [if_neg h2, if_neg h2]
      cases hl : isl b s
      · cases hd : isd b s
        · change (0 : Nat) = 2 ↔ (4 : Nat) = 2
          decide
        · change (if ru (isd b) w s ≤ s + 2 then (2 : Nat) else 0) = 2 ↔ (if ru (isd b) w s ≤ s + 2 then (2 : Nat) else 4) = 2
          split <;> decide
      · change (1 : Nat) = 2 ↔ (if wd b s (ru (isl b) w s) < 3 then (1 : Nat) else 4) = 2
        split <;> decide
theorem mk3 {b : Nat → Nat} {w s : Nat} : mk b w s = 4 ↔ kk b w s = 3 := by
  unfold mk kk
  by_cases h1 : w ≤ s
  · rw [if_pos h1, if_pos h1]
    decide
  · rw [if_neg h1, if_neg h1]
    by_cases h2 : b s = 59
    · rw [(isl_59 h2).1, (isl_59 h2).2, if_pos h2, if_pos h2]
      change (4 : Nat) = 4 ↔ (3 : Nat) = 3
      decide
    · rw [if_neg h2, if_neg h2]
      cases hl : isl b s
      · cases hd : isd b s
        · change (0 : Nat) = 4 ↔ (4 : Nat) = 3
          decide
        · change (if ru (isd b) w s ≤ s + 2 then (2 : Nat) else 0) = 4 ↔ (if ru (isd b) w s ≤ s + 2 then (2 : Nat) else 4) = 3
          split <;> decide
      · change (1 : Nat) = 4 ↔ (if wd b s (ru (isl b) w s) < 3 then (1 : Nat) else 4) = 3
        split <;> decide
theorem mk0 {b : Nat → Nat} {w s : Nat} : mk b w s = 3 ↔ kk b w s = 0 := by
  unfold mk kk
  by_cases h1 : w ≤ s
  · rw [if_pos h1, if_pos h1]
    decide
  · rw [if_neg h1, if_neg h1]
    by_cases h2 : b s = 59
    · rw [(isl_59 h2).1, (isl_59 h2).2, if_pos h2, if_pos h2]
      change (4 : Nat) = 3 ↔ (3 : Nat) = 0
      decide
    · rw [if_neg h2, if_neg h2]
      cases hl : isl b s
      · cases hd : isd b s
        · change (0 : Nat) = 3 ↔ (4 : Nat) = 0
          decide
        · change (if ru (isd b) w s ≤ s + 2 then (2 : Nat) else 0) = 3 ↔ (if ru (isd b) w s ≤ s + 2 then (2 : Nat) else 4) = 0
          split <;> decide
      · change (1 : Nat) = 3 ↔ (if wd b s (ru (isl b) w s) < 3 then (1 : Nat) else 4) = 0
        split <;> decide
theorem mk_le (b : Nat → Nat) (w s : Nat) : mk b w s ≤ 4 := by
  unfold mk
  repeat' split
  all_goals omega
/-- a word of the reference: kk and kv by the words -/
theorem mk1 {b : Nat → Nat} {w s : Nat} (h : mk b w s = 1) : s < w ∧ isl b s = true ∧ ke b w s = ru (isl b) w s ∧ kv b w s = wd b s (ke b w s) ∧ (kk b w s = 1 ↔ kv b w s < 3) := by
  unfold mk at h
  by_cases h1 : w ≤ s
  · rw [if_pos h1] at h
    cases h
  · rw [if_neg h1] at h
    cases hl : isl b s
    · rw [hl, if_neg (by decide)] at h
      split at h
      · split at h <;> cases h
      · split at h <;> cases h
    · have h2 : ¬ b s = 59 := fun q => by rw [(isl_59 q).1] at hl; cases hl
      have e1 : ke b w s = ru (isl b) w s := by
        unfold ke
        rw [if_neg h1, if_neg h2, hl, if_pos rfl]
      have e2 : kv b w s = wd b s (ru (isl b) w s) := by
        unfold kv
        rw [hl, if_pos rfl]
      refine ⟨by omega, rfl, e1, by rw [e1, e2], ?_⟩
      rw [e2]
      unfold kk
      rw [if_neg h1, if_neg h2, hl, if_pos rfl]
      split
      · next q => exact ⟨fun _ => q, fun _ => rfl⟩
      · next q => exact ⟨fun q2 => absurd q2 (by decide), fun q2 => absurd q2 q⟩
theorem kk_mk {b : Nat → Nat} {w s : Nat} (h : kk b w s = 1) : mk b w s = 1 := by
  obtain ⟨h1, h2, -⟩ := kk1 h
  unfold mk
  rw [if_neg (by omega), h2, if_pos rfl]
theorem isw_no {b : Nat → Nat} {s e si i : Nat} (hi : i < wln si) (h : ¬ b (s + i) = wch si i) : isw b s e si = false := by
  cases g : isw b s e si
  · rfl
  · unfold isw at g
    rw [Bool.and_eq_true, alb_iff] at g
    exact absurd (of_decide_eq_true (g.2 i hi)) h
theorem isw_len {b : Nat → Nat} {s e si : Nat} (h : ¬ e - s = wln si) : isw b s e si = false := by
  unfold isw
  rw [decide_eq_false h]
  rfl
theorem isw_yes {b : Nat → Nat} {s e si : Nat} (h : e - s = wln si) (h2 : ∀ i, i < wln si → b (s + i) = wch si i) : isw b s e si = true := by
  unfold isw
  rw [Bool.and_eq_true, alb_iff]
  exact ⟨decide_eq_true h, fun i hi => decide_eq_true (h2 i hi)⟩
theorem s5_chars {M : ZI} {L : ZL} {b : Nat → Nat} {w s e si : Nat} (hM : TM M b w) (hsi : si < 3) (hl : (wln si = 5 ∧ wch si 5 = 0) ∨ (wln si = 6 ∧ ¬ wch si 5 = 0)) (m12 : M 12 0 = nI s) (he : e ≤ w) (hse : s ≤ e) (hlen : e - s = wln si) {post : Int32 → ZI → ZL → Prop} (h : post (if isw b s e si then 1 else 0) M L) : vp_in (M 12 0) 150 ∧ ((¬ (M 7 (M 12 0).toNatClampNeg) = nI (wch si 0) → post 0 M L) ∧ ((M 7 (M 12 0).toNatClampNeg) = nI (wch si 0) → vp_in ((M 12 0) + 1) 150 ∧ ((¬ (M 7 ((M 12 0) + 1).toNatClampNeg) = nI (wch si 1) → post 0 M L) ∧ ((M 7 ((M 12 0) + 1).toNatClampNeg) = nI (wch si 1) → vp_in ((M 12 0) + 2) 150 ∧ ((¬ (M 7 ((M 12 0) + 2).toNatClampNeg) = nI (wch si 2) → post 0 M L) ∧ ((M 7 ((M 12 0) + 2).toNatClampNeg) = nI (wch si 2) → vp_in ((M 12 0) + 3) 150 ∧ ((¬ (M 7 ((M 12 0) + 3).toNatClampNeg) = nI (wch si 3) → post 0 M L) ∧ ((M 7 ((M 12 0) + 3).toNatClampNeg) = nI (wch si 3) → vp_in ((M 12 0) + 4) 150 ∧ ((¬ (M 7 ((M 12 0) + 4).toNatClampNeg) = nI (wch si 4) → post 0 M L) ∧ ((M 7 ((M 12 0) + 4).toNatClampNeg) = nI (wch si 4) → ((nI (wch si 5) = 0 → post 1 M L) ∧ (¬ nI (wch si 5) = 0 → vp_in ((M 12 0) + 5) 150 ∧ ((¬ (M 7 ((M 12 0) + 5).toNatClampNeg) = nI (wch si 5) → post 0 M L) ∧ ((M 7 ((M 12 0) + 5).toNatClampNeg) = nI (wch si 5) → post 1 M L)))))))))))))) := by
  obtain ⟨hw, -, mb⟩ := hM
  have no : ∀ i, i < wln si → ¬ nI (b (s + i)) = nI (wch si i) → post 0 M L := fun i hi q => by
    rw [isw_no hi (fun q2 => q (by rw [q2]))] at h
    exact h
  have yes : (∀ i, i < wln si → b (s + i) = wch si i) → post 1 M L := fun q => by
    rw [isw_yes hlen q] at h
    exact h
  have hb : ∀ i, i < wln si → (M 12 0 + nI i) = nI (s + i) ∧ M 7 (nI (s + i)).toNatClampNeg = nI (b (s + i)) ∧ vp_in (nI (s + i)) 150 := fun i hi => by
    rw [m12, nI_add, ncl (by omega)]
    exact ⟨rfl, (mb (s + i) (by omega)).1, in_ (by omega) (by decide)⟩
  have eq : ∀ i, i < wln si → nI (b (s + i)) = nI (wch si i) → b (s + i) = wch si i := fun i hi q => by
    have b1 := (mb (s + i) (by omega)).2
    have b2 := (T_sch si hsi i (by omega)).2
    exact nI_ij (by omega) (by omega) q
  have l5 : 5 ≤ wln si := by omega
  have e0 : M 12 0 = nI (s + 0) := m12
  have e1 : M 12 0 + 1 = nI (s + 1) := (hb 1 (by omega)).1
  have e2 : M 12 0 + 2 = nI (s + 2) := (hb 2 (by omega)).1
  have e3 : M 12 0 + 3 = nI (s + 3) := (hb 3 (by omega)).1
  have e4 : M 12 0 + 4 = nI (s + 4) := (hb 4 (by omega)).1
  rw [e1, e2, e3, e4, (hb 1 (by omega)).2.1, (hb 2 (by omega)).2.1, (hb 3 (by omega)).2.1, (hb 4 (by omega)).2.1]
  have f0 : M 7 (M 12 0).toNatClampNeg = nI (b (s + 0)) := by rw [e0]; exact (hb 0 (by omega)).2.1
  have v0 : vp_in (M 12 0) 150 := by rw [e0]; exact (hb 0 (by omega)).2.2
  rw [f0]
  refine ⟨v0, no 0 (by omega), fun q0 => ⟨(hb 1 (by omega)).2.2, no 1 (by omega), fun q1 => ⟨(hb 2 (by omega)).2.2, no 2 (by omega), fun q2 => ⟨(hb 3 (by omega)).2.2, no 3 (by omega), fun q3 => ⟨(hb 4 (by omega)).2.2, no 4 (by omega), fun q4 => ?_⟩⟩⟩⟩⟩
  have q0 := eq 0 (by omega) q0
  have q1 := eq 1 (by omega) q1
  have q2 := eq 2 (by omega) q2
  have q3 := eq 3 (by omega) q3
  have q4 := eq 4 (by omega) q4
  rcases hl with ⟨l1, l2⟩ | ⟨l1, l2⟩
  · rw [l2]
    refine bT rfl (yes (fun i hi => ?_))
    rcases (show i = 0 ∨ i = 1 ∨ i = 2 ∨ i = 3 ∨ i = 4 by omega) with rfl | rfl | rfl | rfl | rfl
    · exact q0
    · exact q1
    · exact q2
    · exact q3
    · exact q4
  · have b2 := (T_sch si hsi 5 (by omega)).2
    have e5 : M 12 0 + 5 = nI (s + 5) := (hb 5 (by omega)).1
    rw [e5, (hb 5 (by omega)).2.1]
    refine bF (nI_ne0 (by omega) (by omega)) ⟨(hb 5 (by omega)).2.2, no 5 (by omega), fun q5 => yes (fun i hi => ?_)⟩
    have q5 := eq 5 (by omega) q5
    rcases (show i = 0 ∨ i = 1 ∨ i = 2 ∨ i = 3 ∨ i = 4 ∨ i = 5 by omega) with rfl | rfl | rfl | rfl | rfl | rfl
    · exact q0
    · exact q1
    · exact q2
    · exact q3
    · exact q4
    · exact q5
theorem T_wl : ∀ si, si < 3 → (wln si = 5 ∧ wch si 5 = 0) ∨ (wln si = 6 ∧ ¬ wch si 5 = 0) := by decide +kernel
theorem s5_word {M : ZI} {L : ZL} {b : Nat → Nat} {w s si : Nat} (hM : TM M b w) (hsi : si < 3) (m10 : M 10 0 = nI (mk b w s)) (m12 : M 12 0 = nI s) (m9 : ¬ mk b w s = 0 → M 9 0 = nI (ke b w s)) (hs : s ≤ w) {post : Int32 → ZI → ZL → Prop} (h : post (if decide (mk b w s = 1) && isw b s (ke b w s) si then 1 else 0) M L) : w_X5_isWord M L (nI (wch si 0)) (nI (wch si 1)) (nI (wch si 2)) (nI (wch si 3)) (nI (wch si 4)) (nI (wch si 5)) post := by
  unfold w_X5_isWord
  have hw := hM.1
  obtain ⟨k1, k2⟩ := ke_le (b := b) hs
  by_cases g : mk b w s = 1
  · have m9 := m9 (by omega)
    rw [decide_eq_true g, Bool.true_and] at h
    refine nT (by rw [m10, g]; rfl) ?_
    have ed : M 9 0 - M 12 0 = nI (ke b w s - s) := by rw [m9, m12, nsub k1]
    have hn : ¬ ke b w s - s = wln si → post 0 M L := fun q => by
      rw [isw_len q] at h
      exact h
    have b2 := (T_sch si hsi 5 (by omega)).2
    rw [ed]
    rcases T_wl si hsi with ⟨l1, l2⟩ | ⟨l1, l2⟩
    · refine nT (by rw [l2]; rfl) ?_
      by_cases q : ke b w s - s = 5
      · refine nT (by rw [q]; rfl) ?_
        exact s5_chars hM hsi (Or.inl ⟨l1, l2⟩) m12 k2 k1 (by omega) h
      · exact nF (fun q2 => q (nI_ij (b := 5) (by omega) (by decide) q2)) (hn (by omega))
    · refine nF (nI_ne0 (by omega) (by omega)) ?_
      by_cases q : ke b w s - s = 6
      · refine nT (by rw [q]; rfl) ?_
        exact s5_chars hM hsi (Or.inr ⟨l1, l2⟩) m12 k2 k1 (by omega) h
      · exact nF (fun q2 => q (nI_ij (b := 6) (by omega) (by decide) q2)) (hn (by omega))
  · rw [decide_eq_false g, Bool.false_and] at h
    refine nF (fun q => g ?_) h
    rw [m10] at q
    exact nI_ij (b := 1) (Nat.lt_of_le_of_lt (mk_le b w s) (by decide)) (by decide) q
