/-! the same print in the law's table -/
theorem ink_a {k p s x y c X hf : Nat} (h5 : ¬ k = 5) (eX : sld k p x = X) (eh : hf = 0 ↔ ¬ (k = 4 ∧ p < 4)) : (if cvi s X y 16 c && (decide (hf = 0) || par c) then mx 0 (dkn k p) else 0) = ink k p s x y c := by
  subst eX
  unfold ink fl hl
  rw [decide_eq_decide.mpr eh, decide_eq_false h5, Bool.false_and, mx0, if_neg (c := false = true) (by decide)]
theorem ink_b {p s x y c X : Nat} (eX : sld 5 p x = X) : (if cvi s (X + 1) y 16 c && (decide ((0 : Nat) = 0) || par c) then mx (if cvi s X y 16 c && (decide ((0 : Nat) = 0) || par c) then mx 0 (dkn 5 p) else 0) (dkn 5 p / 2) else (if cvi s X y 16 c && (decide ((0 : Nat) = 0) || par c) then mx 0 (dkn 5 p) else 0)) = ink 5 p s x y c := by
  subst eX
  unfold ink fl hl
  rw [decide_eq_true (p := (0 : Nat) = 0) rfl, decide_eq_true (p := ¬ ((5 : Nat) = 4 ∧ p < 4)) (by omega), decide_eq_true (p := (5 : Nat) = 5) rfl, Bool.true_or, Bool.and_true, Bool.and_true, Bool.true_and, mx0]
  generalize dkn 5 p = d
  cases cvi s (sld 5 p x) y 16 c <;> cases cvi s (sld 5 p x + 1) y 16 c <;> simp [mx] <;> omega
theorem s5_ink {M : ZI} {L : ZL} {k p s x y : Nat} (hk : k ≤ 5) (hp : p ≤ 12) (hs : s < 65536) (hx : x ≤ 8) (hy : y ≤ 7) {post : ZI → ZL → Prop} (h : ∀ M' : ZI, (∀ a, ¬ a = 4 → M' a = M a) → (∀ c, c < 64 → M' 4 c = nI (ink k p s x y c)) → post M' L) : w_X5_inkBy M L (nI k) (nI s) (nI x) (nI y) (nI p) post := by
  refine ⟨65, it_up _ _ (fun (i : Nat) (rec : ZI → Int32 → Prop) => ∀ Q : ZI, (∀ a, ¬ a = 4 → Q a = M a) → (∀ c, c < i → Q 4 c = 0) → rec Q (nI i)) 64 (fun i hi rec ih Q h1 h2 => ?_) (fun rec Q h1 h2 => ?_) M (fun _ _ => rfl) (fun c hc => absurd hc (by omega))⟩
  · unfold w_X5_inkBy_L3
    refine bF (nI_ge (b := 64) hi (by decide)) ⟨in_ hi (by decide), ?_⟩
    rw [ncl (by omega), nI_1]
    rintro M1 rfl
    refine ih _ (fun a ha => (if_neg ha).trans (h1 a ha)) (fun c hc => ?_)
    by_cases q : c = i
    · exact up_eq q
    · exact (up_ne q).trans (h2 c (by omega))
  · unfold w_X5_inkBy_L3
    refine bT (nI_le (a := 64) (b := 64) (by decide) (by decide)) (s5_dark hk hp ?_)
    have hd := dkn_le k (by omega) p (by omega)
    have h0 : ∀ c, c < 64 → Q 4 c = nI ((fun _ => 0) c) ∧ (fun _ : Nat => (0 : Nat)) c ≤ 9 := fun c hc => ⟨h2 c hc, Nat.zero_le _⟩
    have le8 : nI p ≤ 8 ↔ p ≤ 8 := le_iff (b := 8) (by omega) (by decide)
    have fin : ¬ k = 5 → ∀ (X hf : Nat) (M5 : ZI), sld k p x = X → (hf = 0 ↔ ¬ (k = 4 ∧ p < 4)) → (∀ a, ¬ a = 4 → M5 a = Q a) → (∀ c, c < 64 → M5 4 c = nI (if cvi s X y 16 c && (decide (hf = 0) || par c) then mx 0 (dkn k p) else 0)) → post M5 L := fun h5 X hf M5 eX eh r1 r2 => h M5 (fun a ha => (r1 a ha).trans (h1 a ha)) (fun c hc => by rw [r2 c hc, ink_a h5 eX eh])
    rw [nI_1]
    rcases (show k = 0 ∨ k = 1 ∨ k = 2 ∨ k = 3 ∨ k = 4 ∨ k = 5 by omega) with rfl | rfl | rfl | rfl | rfl | rfl
    · exact bF (by decide) (nF (by decide) (nF (by decide) (s_lay (hf := 0) hs (by omega) hy hd (by decide) h0 (fun M5 r1 r2 => nF (by decide) (fin (by decide) x 0 M5 (by unfold sld; rw [if_neg (by omega)]) (by omega) r1 r2)))))
    · exact bF (by decide) (nF (by decide) (nF (by decide) (s_lay (hf := 0) hs (by omega) hy hd (by decide) h0 (fun M5 r1 r2 => nF (by decide) (fin (by decide) x 0 M5 (by unfold sld; rw [if_neg (by omega)]) (by omega) r1 r2)))))
    · exact bF (by decide) (nF (by decide) (nF (by decide) (s_lay (hf := 0) hs (by omega) hy hd (by decide) h0 (fun M5 r1 r2 => nF (by decide) (fin (by decide) x 0 M5 (by unfold sld; rw [if_neg (by omega)]) (by omega) r1 r2)))))
    · refine bT rfl ⟨fun q => ?_, fun q => ?_⟩
      · have q := le8.mp q
        exact nF (by decide) (s_lay (hf := 0) hs (by omega) hy hd (by decide) h0 (fun M5 r1 r2 => nF (by decide) (fin (by decide) x 0 M5 (by unfold sld; rw [if_neg (by omega)]) (by omega) r1 r2)))
      · have q : ¬ p ≤ 8 := fun e => q (le8.mpr e)
        rintro v17 rfl
        exact nF (by decide) (s_lay (hf := 0) hs (by omega) hy hd (by decide) h0 (fun M5 r1 r2 => nF (by decide) (fin (by decide) (x + 1) 0 M5 (by unfold sld; rw [if_pos (by omega)]) (by omega) r1 r2)))
    · refine bF (by decide) (nF (by decide) (nT rfl ⟨fun q => ?_, fun q => ?_⟩))
      · have q : 4 ≤ p := (le_iff (a := 4) (by decide) (by omega)).mp q
        exact s_lay (hf := 0) hs (by omega) hy hd (by decide) h0 (fun M5 r1 r2 => nF (by decide) (fin (by decide) x 0 M5 (by unfold sld; rw [if_neg (by omega)]) (by omega) r1 r2))
      · have q : ¬ 4 ≤ p := fun e => q ((le_iff (a := 4) (by decide) (by omega)).mpr e)
        exact s_lay (hf := 1) hs (by omega) hy hd (by decide) h0 (fun M5 r1 r2 => nF (by decide) (fin (by decide) x 1 M5 (by unfold sld; rw [if_neg (by omega)]) (by omega) r1 r2))
    · have fin5 : ∀ X, X ≤ 9 → sld 5 p x = X → w_X5_layLooks Q L (nI s) (nI X) (nI y) (nI (dkn 5 p)) 0 (fun M5 L6 => ((¬ nI 5 = 5 → post M5 L6) ∧ (nI 5 = 5 → w_X5_layLooks M5 L6 (nI s) (nI (X + 1)) (nI y) (nI (dkn 5 p) / 2) 0 (fun M7 L8 => post M7 L8)))) := by
        intro X hX eX
        rw [T_hf _ (by omega)]
        refine s_lay (hf := 0) hs (by omega) hy hd (by decide) h0 (fun M5 r1 r2 => nT rfl ?_)
        refine s_lay (hf := 0) hs (by omega) hy (by omega) (by decide) (fun c hc => ⟨r2 c hc, ?_⟩) (fun M7 u1 u2 => ?_)
        · split
          · rw [mx0]
            exact hd
          · exact Nat.zero_le _
        · exact h M7 (fun a ha => (u1 a ha).trans ((r1 a ha).trans (h1 a ha))) (fun c hc => by rw [u2 c hc, ink_b eX])
      refine bF (by decide) (nT rfl ⟨fun q => ?_, fun q => ?_⟩)
      · have q := le8.mp q
        exact nF (by decide) (fin5 x (by omega) (by unfold sld; rw [if_neg (by omega)]))
      · have q : ¬ p ≤ 8 := fun e => q (le8.mpr e)
        rintro v17 rfl
        rw [nI_1]
        exact nF (by decide) (fin5 (x + 1) (by omega) (by unfold sld; rw [if_pos (by omega)]))
theorem s5_darker {M : ZI} {L : ZL} {f g : Nat → Nat} (hf : ∀ c, c < 64 → M 4 c = nI (f c) ∧ f c ≤ 9) (hg : ∀ c, c < 64 → M 0 c = nI (g c) ∧ g c ≤ 9) {post : Int32 → ZI → ZL → Prop} (h : post (nI (cnt (fun c => decide (g c < f c)) 64)) M L) : w_X5_darker M L post := by
  refine ⟨65, it_up _ _ (fun (i : Nat) (rec : Int32 → Int32 → Prop) => rec (nI (cnt (fun c => decide (g c < f c)) i)) (nI i)) 64 (fun i hi rec ih => ?_) (fun rec => ?_)⟩
  · unfold w_X5_darker_L4
    refine bF (nI_ge (b := 64) hi (by decide)) ⟨in_ hi (by decide), ?_⟩
    rw [z0, ncl (by omega), (hf i hi).1, (hg i hi).1, nI_1]
    have a1 := (hf i hi).2
    have a2 := (hg i hi).2
    refine ⟨in_ (by omega) (by decide), fun q => ?_, fun q => ?_⟩
    · have q := (le_iff (by omega) (by omega)).mp q
      rintro v1 rfl
      rw [cnt_no (F := fun c => decide (g c < f c)) (decide_eq_false (by omega))] at ih
      rw [show ∀ n : Nat, nI n + 0 = nI n from fun n => nI_add n 0]
      exact ih
    · have q : ¬ f i ≤ g i := fun e => q ((le_iff (by omega) (by omega)).mpr e)
      rintro v1 rfl
      rw [cnt_yes (F := fun c => decide (g c < f c)) (decide_eq_true (by omega))] at ih
      rw [nI_1]
      exact ih
  · unfold w_X5_darker_L4
    exact bT (nI_le (a := 64) (b := 64) (by decide) (by decide)) h
theorem s5_one {M : ZI} {L : ZL} {k z x y t v p : Nat} (hk : k ≤ 5) (hz : z ≤ 1) (hx : x ≤ 7) (hy : y ≤ 7) (ht : t ≤ 3) (hv : v < 65536) (hp : p ≤ 12) (e0 : M 0 (65 + z) = nI v) (e2 : M 0 64 = nI p) {g : Nat → Nat} (hg : ∀ c, c < 64 → M 0 c = nI (g c) ∧ g c ≤ 9) {post : Int32 → ZI → ZL → Prop} (h : ∀ M' : ZI, (∀ a, ¬ a = 0 → ¬ a = 4 → M' a = M a) → M' 0 64 = nI (p - tkn k p) → (∀ c, c < 64 → M' 0 c = nI (mx (g c) (ink k p (lk v t) x y c))) → (∀ i, 64 < i → M' 0 i = M 0 i) → post (nI (cnt (fun c => decide (g c < ink k p (lk v t) x y c)) 64)) M' L) : w_X5_printOne M L (nI k) (nI z) (nI x) (nI y) (nI t) post := by
  unfold w_X5_printOne
  refine s_looksOf hz ht e0 hv ?_
  rw [e2]
  refine s5_ink hk hp (lk_lt v ht) (by omega) hy (fun M4 a1 a2 => ?_)
  have hf : ∀ c, c < 64 → M4 4 c = nI (ink k p (lk v t) x y c) ∧ ink k p (lk v t) x y c ≤ 9 := fun c hc => ⟨a2 c hc, ink_le hk hp⟩
  have hm : M4 0 = M 0 := a1 0 (by decide)
  refine s5_darker hf (fun c hc => by rw [hm]; exact hg c hc) ?_
  refine ⟨65, it_up _ _ (fun (i : Nat) (rec : ZI → Int32 → Prop) => ∀ Q : ZI, (∀ a, ¬ a = 0 → Q a = M4 a) → (∀ c, c < 64 → Q 0 c = nI (if c < i then mx (g c) (ink k p (lk v t) x y c) else g c)) → (∀ j, 64 ≤ j → Q 0 j = M 0 j) → rec Q (nI i)) 64 (fun i hi rec ih Q h1 h2 h3 => ?_) (fun rec Q h1 h2 h3 => ?_) M4 (fun _ _ => rfl) (fun c hc => ?_) (fun j _ => by rw [hm])⟩
  · unfold w_X5_printOne_L31
    refine bF (nI_ge (b := 64) hi (by decide)) ⟨in_ hi (by decide), ?_⟩
    have hq : Q 0 i = nI (g i) := by rw [h2 i hi, if_neg (by omega)]
    rw [z0, ncl (by omega), hq, h1 4 (by decide), a2 i hi, nI_1]
    have b1 := (hg i hi).2
    have b2 := (hf i hi).2
    have go : ∀ w, w = mx (g i) (ink k p (lk v t) x y i) → rec (mu Q 0 i (nI w)) (nI (i + 1)) := by
      intro w ew
      refine ih _ (fun a ha => (if_neg ha).trans (h1 a ha)) (fun c hc => ?_) (fun j hj => (up_ne (by omega)).trans (h3 j hj))
      by_cases q : c = i
      · subst q
        rw [if_pos (by omega), ← ew]
        exact up_eq rfl
      · refine (up_ne q).trans ((h2 c hc).trans ?_)
        by_cases q2 : c < i
        · rw [if_pos q2, if_pos (by omega)]
        · rw [if_neg q2, if_neg (by omega)]
    refine ⟨in_ (by omega) (by decide), fun q => ⟨in_ (by omega) (by decide), in_ (by omega) (by decide), ?_⟩, fun q => ⟨in_ hi (by decide), in_ (by omega) (by decide), ?_⟩⟩
    · have q := (le_iff (by omega) (by omega)).mp q
      rintro M9 rfl
      exact go _ (by rw [mx, if_neg (by omega)])
    · have q : ¬ ink k p (lk v t) x y i ≤ g i := fun e => q ((le_iff (by omega) (by omega)).mpr e)
      rintro M9 rfl
      exact go _ (by rw [mx, if_pos (by omega)])
  · unfold w_X5_printOne_L31
    refine bT (nI_le (a := 64) (b := 64) (by decide) (by decide)) ?_
    show w_X5_takesBy (nI k) (Q 0 64) (fun r13 => ∀ M14 : ZI, M14 = mu Q 0 64 (Q 0 64 - r13) → _)
    rw [h3 64 (by decide), e2]
    refine s5_take hk hp ?_
    rw [nsub (tkn_le k (by omega) p (by omega)).1]
    rintro M14 rfl
    refine h _ (fun a q1 q2 => (if_neg q1).trans ((h1 a q1).trans (a1 a q2))) (show upd (Q 0) 64 _ 64 = _ from up_eq rfl) (fun c hc => ?_) (fun i hi => (up_ne (by omega)).trans (h3 i (by omega)))
    refine (up_ne (by omega)).trans ?_
    rw [h2 c hc, if_pos hc]
  · rw [hm, (hg c hc).1, if_neg (by omega)]
theorem RT.cel {T : ZI} {m ah : Nat → Int32} {um : Int32} (h : RT T m ah um) {c : Nat} (hc : c < 64) : T 1 c = nI (m c).toNatClampNeg ∧ m c = nI (m c).toNatClampNeg ∧ (m c).toNatClampNeg ≤ 9 := by
  obtain ⟨e, v, hv, ev⟩ := h.2.1 c hc
  rw [e, ev, ncl (by omega)]
  exact ⟨rfl, rfl, hv⟩
theorem RT.pnt {T : ZI} {m ah : Nat → Int32} {um : Int32} (h : RT T m ah um) : ∃ p, p ≤ 12 ∧ T 2 0 = nI p ∧ m 64 = nI p := by
  obtain ⟨e, v, hv, ev⟩ := h.2.2.1
  exact ⟨v, hv, e.trans ev, ev⟩
theorem RT_put {T T' : ZI} {m m' ah : Nat → Int32} {um : Int32} (h : RT T m ah um) (t : ∀ a, ¬ a = 1 → ¬ a = 2 → T' a = T a) {q : Nat} (hq : q ≤ 12) (t2 : T' 2 0 = nI q) {G : Nat → Nat} (hG : ∀ c, c < 64 → G c ≤ 9) (t1 : ∀ c, c < 64 → T' 1 c = nI (G c)) (m1 : ∀ c, c < 64 → m' c = nI (G c)) (m2 : m' 64 = nI q) (m3 : ∀ i, 64 < i → m' i = m i) : RT T' m' ah um := by
  obtain ⟨h1, h2, h3, h4, h5, h6⟩ := h
  refine ⟨fun k hk => ?_, fun c hc => ⟨(t1 c hc).trans (m1 c hc).symm, G c, hG c hc, m1 c hc⟩, ⟨t2.trans m2.symm, q, hq, m2⟩, ?_, ?_, ?_⟩
  · rw [t 0 (by decide) (by decide), m3 _ (by omega)]
    exact h1 k hk
  · obtain ⟨a, w, hw, b, cc⟩ := h4
    rw [t 4 (by decide) (by decide), t 3 (by decide) (by decide), m3 67 (by decide)]
    exact ⟨a, w, hw, b, fun i hi => by rw [m3 _ (by omega)]; exact cc i hi⟩
  · obtain ⟨a, w, hw, b, cc⟩ := h5
    rw [t 7 (by decide) (by decide), t 5 (by decide) (by decide), t 6 (by decide) (by decide), m3 76 (by decide)]
    exact ⟨a, w, hw, b, fun i hi => by rw [m3 _ (by omega)]; exact cc i hi⟩
  · rw [t 10 (by decide) (by decide), t 8 (by decide) (by decide), t 9 (by decide) (by decide)]
    exact h6
