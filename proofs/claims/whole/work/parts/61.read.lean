def MG (M Y : ZI) : Prop := ∀ a, ¬ (a = 0 ∨ a = 4 ∨ a = 6 ∨ (9 ≤ a ∧ a ≤ 13)) → Y a = M a
theorem MF.mg {M Y : ZI} (h : MF M Y) : MG M Y := fun a ha => h a (by omega)
theorem MG.tr {A B C : ZI} (h1 : MG A B) (h2 : MG B C) : MG A C := fun a ha => (h2 a ha).trans (h1 a ha)
theorem ink_0 {k s x y c : Nat} (hk : k ≤ 5) : ink k 0 s x y c = 0 := by
  have h : dkn k 0 = 0 := (show ∀ k, k < 6 → dkn k 0 = 0 by decide +kernel) k (by omega)
  unfold ink
  rw [h]
  repeat' split
  all_goals rfl
theorem tkn_0 {k : Nat} (hk : k ≤ 5) : tkn k 0 = 0 := (show ∀ k, k < 6 → tkn k 0 = 0 by decide +kernel) k (by omega)
theorem mx_0 (a : Nat) : mx a 0 = a := if_neg (Nat.not_lt_zero a)
/-- the second way: the item's change, on both sides -/
theorem s5_put {Y T T' : ZI} {L : ZL} {v : Nat} {f : Nat → Nat} (hv : v < 3) (hl : ∀ j, j < lml v → f j ≤ lmt v j) (y13 : ∀ j, j < lml v → Y 13 j = nI (f j)) (hI : IS v f T T') (hR : ¬ v = 0 → RT T (Y 0) (Y 5) (Y 6 0)) {post : Int32 → ZI → ZL → Prop} (h : ∀ Z : ZI, (∀ a, ¬ (a = 0 ∨ a = 4 ∨ a = 6) → Z a = Y a) → RT T' (Z 0) (Z 5) (Z 6 0) → post 1 Z L) : tl5 v 1 post Y L := by
  obtain ⟨i0, i1, i2⟩ := hI
  refine ⟨?_, ?_, ?_⟩
  · rintro rfl
    obtain ⟨t0, t1, t2, t4, t7, t10⟩ := i0 rfl
    refine bF (by decide) ?_
    rw [y13 0 (by decide)]
    refine s_anew (fun Z z1 z2 z3 => h Z (fun a ha => z1 a (by omega) (by omega)) ?_)
    rw [z3]
    exact RT_anew (show f 0 ≤ 12 from hl 0 (by decide)) t0 t1 t2 t4 t7 t10 z2
  · rintro rfl
    have e := i1 rfl
    subst e
    have hp : pv f < 65536 := pv_lt (hl 1 (by decide)) (hl 2 (by decide)) (hl 3 (by decide)) (hl 4 (by decide))
    have h0 : f 0 ≤ 1 := hl 0 (by decide)
    refine bF (by decide) ?_
    rw [y13 0 (by decide), y13 1 (by decide), y13 2 (by decide), y13 3 (by decide), y13 4 (by decide), pv_eq (hl 2 (by decide)) (hl 3 (by decide)) (hl 4 (by decide)), show (65 : Int32) + nI (f 0) = nI (65 + f 0) from nI_add 65 (f 0), ncl (by omega)]
    refine ⟨in_ (by omega) (by decide), ?_⟩
    rintro Z rfl
    exact h _ (fun a ha => if_neg (by omega)) (RT_pot (hR (by decide)) (by omega) (by omega))
  · rintro rfl
    have hR := hR (by decide)
    obtain ⟨p1, p2, p3, p4, p5⟩ := hR.tel
    have h0 : f 0 ≤ 5 := hl 0 (by decide)
    have h1 : f 1 ≤ 1 := hl 1 (by decide)
    obtain ⟨a1, a2, a3⟩ := i2 rfl
    have gq : ∀ c, c < 64 → mx (T 1 c).toNatClampNeg (ink (f 0) (T 2 0).toNatClampNeg (lk (T 0 (f 1)).toNatClampNeg (f 4)) (f 2) (f 3) c) ≤ 9 := fun c hc => mx_le (p5 c hc).1 (ink_le h0 p1)
    refine bF (by decide) ?_
    rw [p3, y13 0 (by decide), y13 1 (by decide), y13 2 (by decide), y13 3 (by decide), y13 4 (by decide)]
    by_cases hp0 : (T 2 0).toNatClampNeg = 0
    · refine bT (by rw [hp0]; decide) (h Y (fun a _ => rfl) ?_)
      rw [hp0, tkn_0 h0] at a2
      refine RT_put hR a1 (Nat.zero_le 12) a2 (G := fun c => (T 1 c).toNatClampNeg) (fun c hc => (p5 c hc).1) (fun c hc => ?_) (fun c hc => (p5 c hc).2.2) (by rw [p3, hp0]) (fun i hi => rfl)
      rw [a3 c hc, hp0, ink_0 h0, mx_0]
    · refine bF (nI_nle (by omega) (by omega)) (s5_one (g := fun c => (T 1 c).toNatClampNeg) h0 h1 (hl 2 (by decide)) (hl 3 (by decide)) (hl 4 (by decide)) (p4 (f 1) h1).1 p1 (p4 (f 1) h1).2.2 p3 (fun c hc => ⟨(p5 c hc).2.2, (p5 c hc).1⟩) (fun Z z1 z2 z3 z4 => h Z (fun a ha => z1 a (by omega) (by omega)) ?_))
      rw [z1 5 (by decide) (by decide), z1 6 (by decide) (by decide)]
      exact RT_put hR a1 (by omega) a2 gq a3 z3 z2 z4
theorem s5_b1 {M T T' : ZI} {L : ZL} {b : Nat → Nat} {w e y : Nat} (hM : TM M b w) (he : e ≤ w) (hy : y ≤ e) (hS : SG M b w e) (hz : iz b w e y = none) (hI : IS (kv b w (ts b w e)) (nmv b w e) T T') (hR : 0 < y → RT T (M 0) (M 5) (M 6 0)) {post : Int32 → ZI → ZL → Prop} {K : ZI → ZL → Int32 → Prop} {rec : ZI → ZL → Int32 → Prop} (hk : ∀ Z, MG M Z → SG Z b w (ie b w e) → RT T' (Z 0) (Z 5) (Z 6 0) → rec Z L (nI (y + 1))) : w_X5_readText_L11 1 post K rec M L (nI y) := by
  have hw := hM.1
  obtain ⟨t1, t2⟩ := ts_le (b := b) he
  have k2 := (ke_le (b := b) t2).2
  obtain ⟨i1, i2, i3⟩ := iz_ok hz
  obtain ⟨j1, j2⟩ := jz_ok i3
  have hv := (kk1 i1).2.2.2
  refine L11_go (by omega) hS (iz_n0 hz) (s5_item hM t2 hS.1 hS.2.1 hS.2.2 (fun q => absurd ⟨i1, i2⟩ q) (fun g f Y q1 q2 q3 => by rw [j1] at q1; cases q1) (fun g q Y hY => ?_))
  refine s5_put (f := nmv b w e) hv (fun j hj => (fN_none _ _ j1 j (Nat.zero_le _) (by omega)).2) hY.2.2 hI (fun q => ?_) (fun Z z1 z2 => ?_)
  · rw [hY.1 0 (by decide), hY.1 5 (by decide), hY.1 6 (by decide)]
    exact hR (by omega)
  · have hZM : TM Z b w := hM.re ((z1 7 (by decide)).trans (hY.1 7 (by decide))) ((z1 8 (by decide)).trans (hY.1 8 (by decide)))
    refine b1n (s5_semi (G := fun M9 L10 => rec M9 L10 (nI (y + 1))) hZM k2 ((congrFun (z1 9 (by decide)) 0).trans hY.2.1) (fun q3 => absurd j2 q3) (fun _ W w1 w2 => ?_))
    refine hk W (fun a ha => (w1 a (by omega)).trans ((z1 a (by omega)).trans (hY.1 a (by omega)))) w2 ?_
    rw [w1 0 (by decide), w1 5 (by decide), w1 6 (by decide)]
    exact z2
