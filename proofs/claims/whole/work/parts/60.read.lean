/-! read: the reference's two ways through the text -/
def SG (M : ZI) (b : Nat → Nat) (w e : Nat) : Prop := M 12 0 = nI (ts b w e) ∧ M 10 0 = nI (mk b w (ts b w e)) ∧ (¬ mk b w (ts b w e) = 0 → M 9 0 = nI (ke b w (ts b w e)))
theorem TK.sg {M Y : ZI} {b : Nat → Nat} {w e : Nat} (h : TK M Y b w (ts b w e)) : SG Y b w e := ⟨h.2.1, h.2.2.1, h.2.2.2.1⟩
theorem TK.mf {M Y : ZI} {b : Nat → Nat} {w s : Nat} (h : TK M Y b w s) : MF M Y := fun a ha => h.1 a (by omega) (by omega) (by omega) (by omega)
theorem MF.tr {A B C : ZI} (h1 : MF A B) (h2 : MF B C) : MF A C := fun a ha => (h2 a ha).trans (h1 a ha)
theorem L11_go {z : Int32} {post : Int32 → ZI → ZL → Prop} {K : ZI → ZL → Int32 → Prop} {rec : ZI → ZL → Int32 → Prop} {M : ZI} {L : ZL} {b : Nat → Nat} {w e y : Nat} (hy : y ≤ 150) (hS : SG M b w e) (h0 : ¬ (kk b w (ts b w e) = 0 ∧ 0 < y)) (h : w_X5_readItem M L (if y = 0 then 1 else 0) z (fun r4 M5 L6 => ((¬ r4 = 0 → w_X5_nextToken M5 L6  (fun M7 L8 => (((M7 10 0) = 4 → w_X5_nextToken M7 L8  (fun M9 L10 => rec M9 L10 (nI (y + 1)))) ∧ (¬ (M7 10 0) = 4 → post (-1) M7 L8)))) ∧ (r4 = 0 → post (-1) M5 L6)))) : w_X5_readText_L11 z post K rec M L (nI y) := by
  unfold w_X5_readText_L11
  rw [nI_1]
  by_cases hy0 : y = 0
  · subst hy0
    exact bT rfl (nT rfl h)
  · rw [if_neg hy0] at h
    have hy1 : ¬ nI y = 0 := nI_ne0 (by omega) (by omega)
    refine bF hy1 (bF ?_ (nF hy1 h))
    rw [hS.2.1]
    intro q
    exact h0 ⟨mk0.mp (nI_ij (b := 3) (Nat.lt_of_le_of_lt (mk_le b w _) (by decide)) (by decide) q), by omega⟩
theorem L11_end {z : Int32} {post : Int32 → ZI → ZL → Prop} {K : ZI → ZL → Int32 → Prop} {rec : ZI → ZL → Int32 → Prop} {M : ZI} {L : ZL} {b : Nat → Nat} {w e y : Nat} (hy : y ≤ 150) (hS : SG M b w e) (h0 : kk b w (ts b w e) = 0 ∧ 0 < y) (h : K M L (nI y)) : w_X5_readText_L11 z post K rec M L (nI y) := by
  unfold w_X5_readText_L11
  refine bF (nI_ne0 h0.2 (by omega)) (bT ?_ h)
  rw [hS.2.1, mk0.mpr h0.1]
  rfl
theorem s5_semi {M : ZI} {L : ZL} {b : Nat → Nat} {w e i : Nat} (hM : TM M b w) (he : e ≤ w) (m9 : M 9 0 = nI (eN b w e i)) {post : Int32 → ZI → ZL → Prop} {G : ZI → ZL → Prop} (hf : ¬ kk b w (tN b w e i) = 3 → ∀ Z, MF M Z → Z 12 0 = nI (tN b w e i) → post (-1) Z L) (hk : kk b w (tN b w e i) = 3 → ∀ Z, MF M Z → SG Z b w (eN b w e (i + 1)) → G Z L) : w_X5_nextToken M L (fun M7 L8 => (((M7 10 0) = 4 → w_X5_nextToken M7 L8  (fun M9 L10 => G M9 L10)) ∧ (¬ (M7 10 0) = 4 → post (-1) M7 L8))) := by
  refine s5_next hM m9 (eN_le he i).2 (fun Y hY => ?_)
  have y10 : Y 10 0 = nI (mk b w (tN b w e i)) := hY.2.2.1
  have y12 : Y 12 0 = nI (tN b w e i) := hY.2.1
  have hYM : TM Y b w := hM.re (hY.mf 7 (by decide)) (hY.mf 8 (by decide))
  rw [y10]
  by_cases g : kk b w (tN b w e i) = 3
  · have m4 := mk3.mpr g
    have y9 : Y 9 0 = nI (eN b w e (i + 1)) := hY.2.2.2.1 (by rw [show mk b w (ts b w (eN b w e i)) = 4 from m4]; decide)
    refine bT (by rw [m4]; rfl) (s5_next hYM y9 (eN_le he (i + 1)).2 (fun Z hZ => hk g Z (hY.mf.tr hZ.mf) hZ.sg))
  · exact bF (fun q => g (mk3.mp (nI_ij (b := 4) (Nat.lt_of_le_of_lt (mk_le b w _) (by decide)) (by decide) q))) (hf g Y hY.mf y12)
theorem iz_w {b : Nat → Nat} {w e y : Nat} (h : ¬ (kk b w (ts b w e) = 1 ∧ (kv b w (ts b w e) = 0 ↔ y = 0))) : iz b w e y = some (ts b w e) := if_neg h
theorem iz_j {b : Nat → Nat} {w e y : Nat} (h : kk b w (ts b w e) = 1 ∧ (kv b w (ts b w e) = 0 ↔ y = 0)) : iz b w e y = jz b w (kv b w (ts b w e)) (ke b w (ts b w e)) := if_pos h
theorem s5_b0 {M : ZI} {L : ZL} {b : Nat → Nat} {w e y : Nat} (hM : TM M b w) (he : e ≤ w) (hy : y ≤ e) (hS : SG M b w e) {post : Int32 → ZI → ZL → Prop} {K : ZI → ZL → Int32 → Prop} {rec : ZI → ZL → Int32 → Prop} (hend : kk b w (ts b w e) = 0 ∧ 0 < y → K M L (nI y)) (hf : ¬ (kk b w (ts b w e) = 0 ∧ 0 < y) → ∀ s Y, iz b w e y = some s → MF M Y → Y 12 0 = nI s → post (-1) Y L) (hk : iz b w e y = none → ∀ Y, MF M Y → SG Y b w (ie b w e) → rec Y L (nI (y + 1))) : w_X5_readText_L11 0 post K rec M L (nI y) := by
  have hw := hM.1
  obtain ⟨t1, t2⟩ := ts_le (b := b) he
  have k2 := (ke_le (b := b) t2).2
  by_cases h0 : kk b w (ts b w e) = 0 ∧ 0 < y
  · exact L11_end (by omega) hS h0 (hend h0)
  · have hf := hf h0
    have go : ∀ g : kk b w (ts b w e) = 1 ∧ (kv b w (ts b w e) = 0 ↔ y = 0), fN b w (kv b w (ts b w e)) (ke b w (ts b w e)) (lml (kv b w (ts b w e))) 0 = none → ∀ Y, MS M Y b w (ke b w (ts b w e)) (lml (kv b w (ts b w e))) → w_X5_nextToken Y L  (fun M7 L8 => (((M7 10 0) = 4 → w_X5_nextToken M7 L8  (fun M9 L10 => rec M9 L10 (nI (y + 1)))) ∧ (¬ (M7 10 0) = 4 → post (-1) M7 L8))) := fun g q Y hY => by
      have hj := jz_none q
      have hYM : TM Y b w := hM.re (hY.1 7 (by decide)) (hY.1 8 (by decide))
      refine s5_semi (G := fun M9 L10 => rec M9 L10 (nI (y + 1))) hYM k2 hY.2.1 (fun q3 Z z1 z2 => ?_) (fun q3 Z z1 z2 => ?_)
      · rw [if_neg q3] at hj
        exact hf _ Z ((iz_j g).trans hj) (hY.1.tr z1) z2
      · rw [if_pos q3] at hj
        exact hk ((iz_j g).trans hj) Z (hY.1.tr z1) z2
    refine L11_go (by omega) hS h0 (s5_item hM t2 hS.1 hS.2.1 hS.2.2 (fun q => b0n (hf _ M (iz_w q) (fun a _ => rfl) hS.1)) (fun g f Y q1 q2 q3 => b0n (hf f Y ((iz_j g).trans (jz_some q1)) q2 q3)) (fun g q Y hY => ⟨fun _ => bT rfl (b1n (go g q Y hY)), fun _ => bT rfl (b1n (go g q Y hY)), fun _ => bT rfl (b1n (go g q Y hY))⟩))
theorem s5_pass0 {M0 : ZI} {L : ZL} {b : Nat → Nat} {w : Nat} {o : Option Nat} (hM0 : TM M0 b w) {post : Int32 → ZI → ZL → Prop} (hf : ∀ s Y, o = some s → MF M0 Y → Y 12 0 = nI s → post (-1) Y L) (hk : o = none → ∀ y Y, y ≤ 150 → MF M0 Y → post (nI y) Y L) : ∀ n e y, w - e ≤ n → e ≤ w → y ≤ e → rz b w (n + 1) e y = o → ∀ M, MF M0 M → SG M b w e → itF (w_X5_readText_L11 0 post (fun (M32 : ZI) (L33 : ZL) (v34 : Int32) => post v34 M32 L33)) (fun _ _ _ => False) (n + 1) M L (nI y) := by
  have hw := hM0.1
  intro n
  induction n with
  | zero =>
    intro e y h1 h2 h3 ho M hM hS
    show w_X5_readText_L11 0 post _ _ M L (nI y)
    refine s5_b0 (hM0.re (hM 7 (by decide)) (hM 8 (by decide))) h2 h3 hS (fun q => hk ((rz_end q).symm.trans ho).symm y M (by omega) hM) (fun q0 s Y q1 q2 q3 => hf s Y ((rz_some q0 q1).symm.trans ho).symm (hM.tr q2) q3) (fun q1 => ?_)
    have := ie_gt h2 q1
    omega
  | succ n ih =>
    intro e y h1 h2 h3 ho M hM hS
    show w_X5_readText_L11 0 post _ _ M L (nI y)
    refine s5_b0 (hM0.re (hM 7 (by decide)) (hM 8 (by decide))) h2 h3 hS (fun q => hk ((rz_end q).symm.trans ho).symm y M (by omega) hM) (fun q0 s Y q1 q2 q3 => hf s Y ((rz_some q0 q1).symm.trans ho).symm (hM.tr q2) q3) (fun q1 Y q2 q3 => ?_)
    obtain ⟨g1, g2⟩ := ie_gt h2 q1
    exact ih (ie b w e) (y + 1) (by omega) g2 (by omega) ((rz_none (iz_n0 q1) q1).symm.trans ho) Y (hM.tr q2) q3
