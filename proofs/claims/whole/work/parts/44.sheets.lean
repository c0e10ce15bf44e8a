def sm (f : Nat → Nat) : Nat → Int32
  | 0 => 0
  | n + 1 => sm f n + nI (f n)
theorem s_inAll {T : ZI} {g : Nat → Nat} (hg : ∀ c, c < 64 → T 1 c = nI (g c)) {post : Int32 → ZI → Prop} (h : post (sm g 64) T) : w_X2_darknessInAll T post := by
  refine ⟨65, it_up _ _ (fun (i : Nat) (rec : Int32 → Int32 → Prop) => rec (sm g i) (nI i)) 64 (fun i hi rec ih => ?_) (fun rec => ?_)⟩
  · unfold w_X2_darknessInAll_L4
    refine bF (nI_ge (b := 64) hi (by decide)) ⟨in_ hi (by decide), ?_⟩
    rw [ncl (by omega), hg i hi, nI_1]
    rintro v1 rfl
    exact ih
  · unfold w_X2_darknessInAll_L4
    exact bT (nI_le (a := 64) (b := 64) (by decide) (by decide)) h
theorem ml0 (L : ZL) (x : Int64) : ml L 17 0 x 17 0 = x := by
  unfold ml vp_updL
  rw [if_pos rfl, if_pos rfl]
theorem s5_shl {M : ZI} {L : ZL} {V : Nat → Nat} {s0 p0 n : Nat} {g0 : Nat → Nat} (hV : ∀ z, z ≤ 1 → V z < 65536) (hs : s0 < 2 ^ 31) (hp : p0 ≤ 12) (hg : ∀ c, c < 64 → g0 c ≤ 9) (hn : n ≤ 30) (t0 : ∀ z, z ≤ 1 → M 0 (65 + z) = nI (V z)) (t2 : M 0 64 = nI p0) (t1 : ∀ c, c < 64 → M 0 c = nI (g0 c)) (tL : L 17 0 = lN s0) {x1 : Int32} {post : Int32 → ZI → ZL → Prop} {K : ZI → ZL → Int32 → Prop} (h : ∀ M' L' y, (∀ a, ¬ a = 0 → ¬ a = 4 → M' a = M a) → (∀ a, ¬ a = 17 → L' a = L a) → (∀ c, c < 64 → M' 0 c = nI ((shs V s0 p0 g0 n).2.2 c)) → K M' L' y) : ∃ k, itF (w_X5_sheets_L63 x1 (nI n) post K) (fun _ _ _ => False) k M L 0 := by
  refine ⟨n + 1, it_up _ _ (fun (i : Nat) (rec : ZI → ZL → Int32 → Prop) => ∀ (Q : ZI) (R : ZL), (∀ a, ¬ a = 0 → ¬ a = 4 → Q a = M a) → (∀ a, ¬ a = 17 → R a = L a) → (∀ z, z ≤ 1 → Q 0 (65 + z) = nI (V z)) → Q 0 64 = nI (shs V s0 p0 g0 i).2.1 → (∀ c, c < 64 → Q 0 c = nI ((shs V s0 p0 g0 i).2.2 c)) → R 17 0 = lN (shs V s0 p0 g0 i).1 → rec Q R (nI i)) n (fun i hi rec ih Q R m1 m2 t0 t2 t1 tL => ?_) (fun rec Q R m1 m2 t0 t2 t1 tL => ?_) M L (fun _ _ _ => rfl) (fun _ _ => rfl) t0 t2 t1 tL⟩
  · unfold w_X5_sheets_L63
    obtain ⟨b1', b2', b3'⟩ := shs_in (V := V) hs hp hg i
    refine bF (nI_ge (b := n) hi (by omega)) ?_
    refine s5_draw (n := 6) b1' (by decide) tL ?_
    refine s5_draw (s := nx (shs V s0 p0 g0 i).1) (n := 2) (nx_lt _) (by decide) (ml0 _ _) ?_
    refine s5_draw (s := nx (nx (shs V s0 p0 g0 i).1)) (n := 64) (nx_lt _) (by decide) (ml0 _ _) ?_
    refine s5_draw (s := nx (nx (nx (shs V s0 p0 g0 i).1))) (n := 4) (nx_lt _) (by decide) (ml0 _ _) ?_
    have d1 := dw_lt (s := nx (shs V s0 p0 g0 i).1) (n := 6) (by decide)
    have d2 := dw_lt (s := nx (nx (shs V s0 p0 g0 i).1)) (n := 2) (by decide)
    have d3 := dw_lt (s := nx (nx (nx (shs V s0 p0 g0 i).1))) (n := 64) (by decide)
    have d4 := dw_lt (s := nx (nx (nx (nx (shs V s0 p0 g0 i).1)))) (n := 4) (by decide)
    rw [(T_d8 _ d3).1, (T_d8 _ d3).2, nI_1]
    have hpf : pf (shs V s0 p0 g0 i).2.1 ≤ 12 := by
      unfold pf
      split <;> omega
    have go : ∀ x : Int32, x = nI (pf (shs V s0 p0 g0 i).2.1) → ∀ Rq : ZL, (∀ a, ¬ a = 17 → Rq a = L a) → Rq 17 0 = lN (nx (nx (nx (nx (shs V s0 p0 g0 i).1)))) → w_X5_printOne (mu Q 0 64 x) Rq (nI (dw (nx (shs V s0 p0 g0 i).1) 6)) (nI (dw (nx (nx (shs V s0 p0 g0 i).1)) 2)) (nI (dw (nx (nx (nx (shs V s0 p0 g0 i).1))) 64 % 8)) (nI (dw (nx (nx (nx (shs V s0 p0 g0 i).1))) 64 / 8)) (nI (dw (nx (nx (nx (nx (shs V s0 p0 g0 i).1)))) 4)) (fun r23 M24 L25 => rec M24 L25 (nI (i + 1))) := by
      intro x ex Rq hR hR17
      have z0' : ∀ j, ¬ j = 64 → mu Q 0 64 x 0 j = Q 0 j := fun j hj => up_ne hj
      refine s5_one (by omega) (by omega) (by omega) (by omega) (by omega) (hV _ (by omega)) hpf ((z0' _ (by omega)).trans (t0 _ (by omega))) (show upd (Q 0) 64 x 64 = _ from (up_eq rfl).trans ex) (fun c hc => ⟨(z0' c (by omega)).trans (t1 c hc), b3' c hc⟩) (fun M' a1 a2 a3 a4 => ?_)
      refine ih M' Rq (fun a q1 q2 => (a1 a q1 q2).trans ((if_neg q1).trans (m1 a q1 q2))) hR (fun z hz => ?_) a2 a3 hR17
      rw [a4 _ (by omega), z0' _ (by omega)]
      exact t0 z hz
    have hR : ∀ a, ¬ a = 17 → (ml (ml (ml (ml R 17 0 (lN (nx (shs V s0 p0 g0 i).1))) 17 0 (lN (nx (nx (shs V s0 p0 g0 i).1)))) 17 0 (lN (nx (nx (nx (shs V s0 p0 g0 i).1))))) 17 0 (lN (nx (nx (nx (nx (shs V s0 p0 g0 i).1)))))) a = L a := fun a ha => (if_neg ha).trans ((if_neg ha).trans ((if_neg ha).trans ((if_neg ha).trans (m2 a ha))))
    refine ⟨fun q => ?_, fun q => ?_⟩
    · rintro M22 rfl
      refine go _ ?_ _ hR (ml0 _ _)
      rw [t2] at q ⊢
      rw [pf, if_neg (show ¬ (shs V s0 p0 g0 i).2.1 = 0 from fun e => q (by rw [e]; rfl))]
    · rintro M22 rfl
      refine go _ ?_ _ hR (ml0 _ _)
      rw [t2] at q
      rw [pf, if_pos (nI_ij (b := 0) (by omega) (by decide) q)]
      rfl
  · unfold w_X5_sheets_L63
    exact bT (nI_le (Nat.le_refl n) (by omega)) (h Q R _ m1 m2 t1)
theorem p_sheets : st_sheets Inv := by
  intro N D X PM PL i0 i1 M L x1 x2 hI
  unfold w_X4_sheets
  refine s_within (a := 0) (b := 999999) (by decide) (by decide) (fun v1 => b1 ?_) (fun v1 => b0 (s4_bad ?_))
  · refine s_within (a := 0) (b := 30) (by decide) (by decide) (fun v2 => b1n ?_) (fun v2 => b0n (s4_bad ?_))
    · obtain ⟨s, -, hs, rfl⟩ := id v1
      obtain ⟨n, -, hn, rfl⟩ := id v2
      obtain ⟨p, hp, p1, p2⟩ := hI.1.pnt
      have hV : ∀ z, z ≤ 1 → (M 0 (65 + z)).toNatClampNeg < 65536 ∧ N 0 z = nI (M 0 (65 + z)).toNatClampNeg ∧ M 0 (65 + z) = nI (M 0 (65 + z)).toNatClampNeg := by
        intro z hz
        obtain ⟨v, hv, e1, e2⟩ := hI.1.pot hz
        rw [e1, e2, ncl (by omega)]
        exact ⟨hv, rfl, rfl⟩
      have es : (nI s).toInt64 = lN s := by
        apply Int64.toInt_inj.mp
        rw [wide_toInt, nI_toInt (by omega), lN_toInt (by omega)]
      refine s_takeP (fun T' t0 t1 t2 => ?_)
      rw [es]
      rintro v10 rfl
      refine s4_shl (V := fun z => (M 0 (65 + z)).toNatClampNeg) (s0 := s) (p0 := p) (g0 := fun c => (M 0 c).toNatClampNeg) (fun z hz => (hV z hz).1) (by omega) hp (fun c hc => (hI.1.cel hc).2.2) hn (fun z hz => (t0 z (by omega)).trans (hV z hz).2.1) (t2.trans p1) (fun c hc => (t1 c hc).trans (hI.1.cel hc).1) (fun D2 y y' d1 => s_inAll d1 ?_)
      unfold w_X5_sheets
      refine s_in (a := 0) (b := 999999) (by decide) (by decide) (fun _ => b1 (s_in (a := 0) (b := 30) (by decide) (by decide) (fun _ => b1n ?_) (fun q => absurd v2 q))) (fun q => absurd v1 q)
      refine ⟨100, it_up _ _ (fun (k : Nat) (rec : ZI → Int32 → Prop) => ∀ Q, Q = mf M 16 (va_cpy (M 0) (M 16) 0 0 k) → rec Q (nI k)) 99 (fun k hk rec ih Q hQ => ?_) (fun rec Q hQ => ?_) M (mf_id M 16 _ _ _)⟩
      · subst hQ
        unfold w_X5_sheets_L31
        rw [ncl (by omega), nI_1]
        exact bF (nI_ge (b := 99) hk (by decide)) ⟨in_ hk (by decide), in_ hk (by decide), fun M2 e => ih M2 (e.trans (mf_step (Nat.zero_add k).symm (by rw [Nat.zero_add]; rfl)))⟩
      · subst hQ
        unfold w_X5_sheets_L31
        refine bT (nI_le (a := 99) (b := 99) (by decide) (by decide)) ?_
        rw [es]
        rintro L9 rfl
        refine s5_shl (M := mf M 16 (va_cpy (M 0) (M 16) 0 0 99)) (L := ml L 17 0 (lN s)) (V := fun z => (M 0 (65 + z)).toNatClampNeg) (s0 := s) (p0 := p) (g0 := fun c => (M 0 c).toNatClampNeg) (fun z hz => (hV z hz).1) (by omega) hp (fun c hc => (hI.1.cel hc).2.2) hn (fun z hz => (hV z hz).2.2) p2 (fun c hc => (hI.1.cel hc).2.1) (ml0 _ _) (fun M30 L31 y m1 m2 m3 => ?_)
        refine ⟨65, it_up _ _ (fun (i : Nat) (rec : Int32 → Int32 → Prop) => rec (sm (shs (fun z => (M 0 (65 + z)).toNatClampNeg) s p (fun c => (M 0 c).toNatClampNeg) n).2.2 i) (nI i)) 64 (fun i hi rec ih => ?_) (fun rec => ?_)⟩
        · unfold w_X5_sheets_L159
          refine bF (nI_ge (b := 64) hi (by decide)) ?_
          rw [z0, ncl (by omega), m3 i hi, nI_1]
          refine ⟨in_ (by omega) (by decide), ?_⟩
          rintro v33 rfl
          exact ih
        · unfold w_X5_sheets_L159
          refine bT (nI_le (a := 64) (b := 64) (by decide) (by decide)) ?_
          refine ⟨100, it_up _ _ (fun (k : Nat) (rec : ZI → Int32 → Prop) => ∀ Q, Q = mf M30 0 (va_cpy (M30 16) (M30 0) 0 0 k) → rec Q (nI k)) 99 (fun k hk rec ih Q hQ => ?_) (fun rec Q hQ => ?_) M30 (mf_id M30 0 _ _ _)⟩
          · subst hQ
            unfold w_X5_sheets_L187
            rw [ncl (by omega), nI_1]
            exact bF (nI_ge (b := 99) hk (by decide)) ⟨in_ hk (by decide), in_ hk (by decide), fun M2 e => ih M2 (e.trans (mf_step (Nat.zero_add k).symm (by rw [Nat.zero_add]; rfl)))⟩
          · subst hQ
            unfold w_X5_sheets_L187
            refine bT (nI_le (a := 99) (b := 99) (by decide) (by decide)) ⟨rfl, ?_⟩
            have hb : ∀ a, ¬ a = 0 → ¬ a = 4 → ¬ a = 16 → mf M30 0 (va_cpy (M30 16) (M30 0) 0 0 99) a = M a := fun a q1 q2 q3 => (if_neg q1).trans ((m1 a q1 q2).trans (if_neg q3))
            refine hI.re ?_ (hb 3 (by decide) (by decide) (by decide)) (hb 7 (by decide) (by decide) (by decide)) (hb 8 (by decide) (by decide) (by decide)) (hb 18 (by decide) (by decide) (by decide)) (hb 19 (by decide) (by decide) (by decide)) (hb 20 (by decide) (by decide) (by decide)) (hb 21 (by decide) (by decide) (by decide)) ?_ ?_
            · refine RT_same hI.1 (fun _ _ => rfl) (fun _ _ => rfl) rfl (fun _ _ => rfl) rfl (fun _ _ => rfl) (fun _ _ => rfl) rfl (fun _ _ => rfl) (fun _ _ => rfl) rfl (fun i hi => ?_) (fun i _ => congrFun (hb 5 (by decide) (by decide) (by decide)) i) (congrFun (hb 6 (by decide) (by decide) (by decide)) 0)
              refine (show va_cpy (M30 16) (M30 0) 0 0 99 i = _ from c0 hi).trans ?_
              rw [m1 16 (by decide) (by decide)]
              exact c0 hi
            · rw [m2 1 (by decide)]
              exact hI.2.2.2.2.2.1
            · rw [m2 2 (by decide)]
              exact hI.2.2.2.2.2.2
    · unfold w_X5_sheets
      exact s_in (a := 0) (b := 999999) (by decide) (by decide) (fun _ => b1 (s_in (a := 0) (b := 30) (by decide) (by decide) (fun q => absurd q v2) (fun _ => b0n (s5_bad ⟨rfl, inv_bad hI⟩)))) (fun q => absurd v1 q)
  · unfold w_X5_sheets
    exact s_in (a := 0) (b := 999999) (by decide) (by decide) (fun q => absurd q v1) (fun _ => b0 (s5_bad ⟨rfl, inv_bad hI⟩))
