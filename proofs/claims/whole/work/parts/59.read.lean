/-! read: an item, in the reference -/
theorem T_wu : ∀ si, si < 3 → ∀ sj, sj < 3 → wln si = wln sj → wch si 0 = wch sj 0 → si = sj := by decide +kernel
theorem isw_un {b : Nat → Nat} {s e si sj : Nat} (hi : si < 3) (hj : sj < 3) (h1 : isw b s e si = true) (h2 : isw b s e sj = true) : si = sj := by
  unfold isw at h1 h2
  rw [Bool.and_eq_true, alb_iff] at h1 h2
  have a1 := of_decide_eq_true h1.1
  have a2 := of_decide_eq_true h2.1
  have c1 := of_decide_eq_true (h1.2 0 (by have := (T_wln si hi).2.1; omega))
  have c2 := of_decide_eq_true (h2.2 0 (by have := (T_wln sj hj).2.1; omega))
  exact T_wu si hi sj hj (a1.symm.trans a2) (c1.symm.trans c2)
theorem wd_iff {b : Nat → Nat} {s e si : Nat} (hi : si < 3) : wd b s e = si ↔ isw b s e si = true := by
  constructor
  · intro h
    unfold wd at h
    by_cases g0 : isw b s e 0 = true
    · rw [if_pos g0] at h
      exact h ▸ g0
    · rw [if_neg g0] at h
      by_cases g1 : isw b s e 1 = true
      · rw [if_pos g1] at h
        exact h ▸ g1
      · rw [if_neg g1] at h
        by_cases g2 : isw b s e 2 = true
        · rw [if_pos g2] at h
          exact h ▸ g2
        · rw [if_neg g2] at h
          omega
  · intro h
    unfold wd
    by_cases g0 : isw b s e 0 = true
    · rw [if_pos g0]
      exact isw_un (by decide) hi g0 h
    · rw [if_neg g0]
      by_cases g1 : isw b s e 1 = true
      · rw [if_pos g1]
        exact isw_un (by decide) hi g1 h
      · rw [if_neg g1]
        by_cases g2 : isw b s e 2 = true
        · rw [if_pos g2]
          exact isw_un (by decide) hi g2 h
        · rcases (show si = 0 ∨ si = 1 ∨ si = 2 by omega) with rfl | rfl | rfl
          · exact absurd h g0
          · exact absurd h g1
          · exact absurd h g2
theorem wk {b : Nat → Nat} {w s si : Nat} (hi : si < 3) : (decide (mk b w s = 1) && isw b s (ke b w s) si) = decide (kk b w s = 1 ∧ kv b w s = si) := by
  apply Bool.eq_iff_iff.mpr
  rw [Bool.and_eq_true, decide_eq_true_eq, decide_eq_true_eq]
  constructor
  · rintro ⟨h1, h2⟩
    obtain ⟨-, -, -, m4, m5⟩ := mk1 h1
    have e := (wd_iff hi).mpr h2
    rw [← m4] at e
    exact ⟨m5.mpr (by omega), e⟩
  · rintro ⟨h1, h2⟩
    have g := kk_mk h1
    obtain ⟨-, -, -, m4, m5⟩ := mk1 g
    rw [m4] at h2
    exact ⟨g, (wd_iff hi).mp h2⟩
def MF (M Y : ZI) : Prop := ∀ a, ¬ (9 ≤ a ∧ a ≤ 13) → Y a = M a
def MS (M Y : ZI) (b : Nat → Nat) (w e i : Nat) : Prop := MF M Y ∧ Y 9 0 = nI (eN b w e i) ∧ ∀ j, j < i → Y 13 j = nI (kv b w (tN b w e j))
theorem s5_rd {M0 M : ZI} {L : ZL} {b : Nat → Nat} {w v e n i l : Nat} {o : Option Nat} (hv : v < 3) (hi : i < 5) (hl : lmt v i = l) (hM0 : TM M0 b w) (he : e ≤ w) (hS : MS M0 M b w e i) (hn : fN b w v e (n + 1) i = o) {post : Int32 → ZI → ZL → Prop} (hf : ∀ s Y, o = some s → MF M0 Y → Y 12 0 = nI s → post 0 Y L) (hk : fN b w v e n (i + 1) = o → ∀ Y, MS M0 Y b w e (i + 1) → post 1 Y L) : w_X5_reads M L (nI i) (nI l) post := by
  unfold w_X5_reads
  obtain ⟨f1, f2, f3⟩ := hS
  have hM : TM M b w := hM0.re (f1 7 (by decide)) (f1 8 (by decide))
  refine s5_next hM f2 (eN_le he i).2 (fun Y hY => ?_)
  obtain ⟨y1, y12, y10, y9, y11⟩ := hY
  have l15 := (T_lim v hv i hi).2
  refine ⟨in_ hi (by decide), ?_⟩
  rw [ncl (by omega)]
  rintro M3 rfl
  have z10 : mu Y 13 i (Y 11 0) 10 0 = nI (mk b w (tN b w e i)) := y10
  have z11 : mu Y 13 i (Y 11 0) 11 0 = Y 11 0 := rfl
  have z12 : mu Y 13 i (Y 11 0) 12 0 = nI (tN b w e i) := y12
  have zf : MF M0 (mu Y 13 i (Y 11 0)) := fun a ha => (if_neg (by omega)).trans ((y1 a (by omega) (by omega) (by omega) (by omega)).trans (f1 a ha))
  rw [z10, z11]
  by_cases g : kk b w (tN b w e i) = 2
  · have m2 := mk2.mpr g
    have k9 := kv_le g
    have e11 : Y 11 0 = nI (kv b w (tN b w e i)) := by
      refine (y11 m2).trans ?_
      unfold kv
      rw [(kk2 g).2.1, if_neg (by decide)]
      rfl
    refine nT (by rw [m2]; rfl) ⟨fun q => ?_, fun q => ?_⟩
    · rw [e11] at q
      have q := (nI_ltI (by omega) (by omega)).mp q
      have ho : ¬ okN b w v e i := fun o => by have := o.2; omega
      rw [fN_no ho] at hn
      exact hf _ _ hn.symm zf z12
    · rw [e11, nI_ltI (by omega) (by omega)] at q
      have ho : okN b w v e i := ⟨g, by omega⟩
      rw [fN_ok ho] at hn
      refine hk hn _ ⟨zf, y9 (by rw [show mk b w (ts b w (eN b w e i)) = 2 from m2]; decide), fun j hj => ?_⟩
      by_cases hji : j = i
      · subst hji
        exact (up_eq rfl).trans e11
      · refine (up_ne hji).trans ?_
        rw [y1 13 (by decide) (by decide) (by decide) (by decide)]
        exact f3 j (by omega)
  · have ho : ¬ okN b w v e i := fun o => g o.1
    rw [fN_no ho] at hn
    refine nF (fun q => g (mk2.mp ?_)) (hf _ _ hn.symm zf z12)
    exact nI_ij (b := 2) (Nat.lt_of_le_of_lt (mk_le b w _) (by decide)) (by decide) q
def tl5 (v : Nat) (z : Int32) (post : Int32 → ZI → ZL → Prop) (Y : ZI) (L : ZL) : Prop :=
  (v = 0 → ((z = 0 → post 1 Y L) ∧ (¬ z = 0 → w_X5_anew Y L (Y 13 0) (fun M47 L48 => post 1 M47 L48)))) ∧
  (v = 1 → ((z = 0 → post 1 Y L) ∧ (¬ z = 0 → vp_in (65 + (Y 13 0)) 99 ∧ ∀ M40 : ZI, M40 = mu Y 0 (65 + (Y 13 0)).toNatClampNeg ((((Y 13 1) ||| ((Y 13 2) <<< (4 &&& 31))) ||| ((Y 13 3) <<< (8 &&& 31))) ||| ((Y 13 4) <<< (12 &&& 31))) → post 1 M40 L))) ∧
  (v = 2 → ((z = 0 → post 1 Y L) ∧ (¬ z = 0 → (((Y 0 64) ≤ 0 → post 1 Y L) ∧ (¬ (Y 0 64) ≤ 0 → w_X5_printOne Y L (Y 13 0) (Y 13 1) (Y 13 2) (Y 13 3) (Y 13 4) (fun r22 M23 L24 => post 1 M23 L24))))))
theorem s5_item {M : ZI} {L : ZL} {b : Nat → Nat} {w s y : Nat} {z : Int32} (hM : TM M b w) (hs : s ≤ w) (m12 : M 12 0 = nI s) (m10 : M 10 0 = nI (mk b w s)) (m9 : ¬ mk b w s = 0 → M 9 0 = nI (ke b w s)) {post : Int32 → ZI → ZL → Prop} (hw : ¬ (kk b w s = 1 ∧ (kv b w s = 0 ↔ y = 0)) → post 0 M L) (hf : kk b w s = 1 ∧ (kv b w s = 0 ↔ y = 0) → ∀ f Y, fN b w (kv b w s) (ke b w s) (lml (kv b w s)) 0 = some f → MF M Y → Y 12 0 = nI f → post 0 Y L) (hk : kk b w s = 1 ∧ (kv b w s = 0 ↔ y = 0) → fN b w (kv b w s) (ke b w s) (lml (kv b w s)) 0 = none → ∀ Y, MS M Y b w (ke b w s) (lml (kv b w s)) → tl5 (kv b w s) z post Y L) : w_X5_readItem M L (if y = 0 then 1 else 0) z post := by
  have he := (ke_le (b := b) hs).2
  unfold w_X5_readItem
  have start : ∀ v, kk b w s = 1 ∧ kv b w s = v → MS M M b w (ke b w s) 0 := fun v g => ⟨fun a _ => rfl, m9 (by rw [kk_mk g.1]; decide), fun j hj => absurd hj (Nat.not_lt_zero _)⟩
  by_cases hy : y = 0
  · rw [if_pos hy]
    refine bF (by decide) (s5_word (si := 0) hM (by decide) m10 m12 m9 hs ?_)
    rw [wk (by decide)]
    by_cases g : kk b w s = 1 ∧ kv b w s = 0
    · have gg : kk b w s = 1 ∧ (kv b w s = 0 ↔ y = 0) := ⟨g.1, fun _ => hy, fun _ => g.2⟩
      have hf := hf gg
      have hk := hk gg
      rw [g.2] at hf hk
      rw [decide_eq_true g]
      refine b1 (s5_rd (v := 0) (n := 0) (i := 0) (l := 12) (o := fN b w 0 (ke b w s) (lml 0) 0) (by decide) (by decide) rfl hM he (start 0 g) rfl (fun f Y q1 q2 q3 => b0 (hf f Y q1 q2 q3)) (fun q Y hY => b1 ?_))
      exact (hk q.symm Y hY).1 rfl
    · rw [decide_eq_false g]
      exact b0 (hw (fun q => g ⟨q.1, q.2.mpr hy⟩))
  · rw [if_neg hy]
    refine bT rfl (s5_word (si := 1) hM (by decide) m10 m12 m9 hs ?_)
    rw [wk (by decide)]
    by_cases g : kk b w s = 1 ∧ kv b w s = 1
    · have gg : kk b w s = 1 ∧ (kv b w s = 0 ↔ y = 0) := ⟨g.1, fun q => absurd (q.symm.trans g.2) (by decide), fun q => absurd q hy⟩
      have hf := hf gg
      have hk := hk gg
      rw [g.2] at hf hk
      rw [decide_eq_true g]
      refine b1 (s5_rd (v := 1) (n := 4) (i := 0) (l := 1) (o := fN b w 1 (ke b w s) (lml 1) 0) (by decide) (by decide) rfl hM he (start 1 g) rfl (fun f Y q1 q2 q3 => b0 (hf f Y q1 q2 q3)) (fun q Y1 h1 => b1 ?_))
      refine s5_rd (v := 1) (n := 3) (i := 1) (l := 15) (by decide) (by decide) rfl hM he h1 q (fun f Y q1 q2 q3 => b0 (hf f Y q1 q2 q3)) (fun q Y2 h2 => b1 ?_)
      refine s5_rd (v := 1) (n := 2) (i := 2) (l := 15) (by decide) (by decide) rfl hM he h2 q (fun f Y q1 q2 q3 => b0 (hf f Y q1 q2 q3)) (fun q Y3 h3 => b1 ?_)
      refine s5_rd (v := 1) (n := 1) (i := 3) (l := 15) (by decide) (by decide) rfl hM he h3 q (fun f Y q1 q2 q3 => b0 (hf f Y q1 q2 q3)) (fun q Y4 h4 => b1 ?_)
      refine s5_rd (v := 1) (n := 0) (i := 4) (l := 15) (by decide) (by decide) rfl hM he h4 q (fun f Y q1 q2 q3 => b0 (hf f Y q1 q2 q3)) (fun q Y5 h5 => b1 ?_)
      exact (hk q.symm Y5 h5).2.1 rfl
    · rw [decide_eq_false g]
      refine b0 (s5_word (si := 2) hM (by decide) m10 m12 m9 hs ?_)
      rw [wk (by decide)]
      by_cases g2 : kk b w s = 1 ∧ kv b w s = 2
      · have gg : kk b w s = 1 ∧ (kv b w s = 0 ↔ y = 0) := ⟨g2.1, fun q => absurd (q.symm.trans g2.2) (by decide), fun q => absurd q hy⟩
        have hf := hf gg
        have hk := hk gg
        rw [g2.2] at hf hk
        rw [decide_eq_true g2]
        refine b1 (s5_rd (v := 2) (n := 4) (i := 0) (l := 5) (o := fN b w 2 (ke b w s) (lml 2) 0) (by decide) (by decide) rfl hM he (start 2 g2) rfl (fun f Y q1 q2 q3 => b0 (hf f Y q1 q2 q3)) (fun q Y1 h1 => b1 ?_))
        refine s5_rd (v := 2) (n := 3) (i := 1) (l := 1) (by decide) (by decide) rfl hM he h1 q (fun f Y q1 q2 q3 => b0 (hf f Y q1 q2 q3)) (fun q Y2 h2 => b1 ?_)
        refine s5_rd (v := 2) (n := 2) (i := 2) (l := 7) (by decide) (by decide) rfl hM he h2 q (fun f Y q1 q2 q3 => b0 (hf f Y q1 q2 q3)) (fun q Y3 h3 => b1 ?_)
        refine s5_rd (v := 2) (n := 1) (i := 3) (l := 7) (by decide) (by decide) rfl hM he h3 q (fun f Y q1 q2 q3 => b0 (hf f Y q1 q2 q3)) (fun q Y4 h4 => b1 ?_)
        refine s5_rd (v := 2) (n := 0) (i := 4) (l := 3) (by decide) (by decide) rfl hM he h4 q (fun f Y q1 q2 q3 => b0 (hf f Y q1 q2 q3)) (fun q Y5 h5 => b1 ?_)
        exact (hk q.symm Y5 h5).2.2 rfl
      · rw [decide_eq_false g2]
        refine b0 (hw (fun q => ?_))
        have := (kk1 q.1).2.2.2
        have q0 : ¬ kv b w s = 0 := fun q3 => hy (q.2.mp q3)
        have q1 : ¬ kv b w s = 1 := fun q3 => g ⟨q.1, q3⟩
        have q2 : ¬ kv b w s = 2 := fun q3 => g2 ⟨q.1, q3⟩
        omega
