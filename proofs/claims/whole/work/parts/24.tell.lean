/-! table, count, digest; force, fromOne, dips, edge, gap -/
theorem z0 (k : Nat) : (0 : Int32) + nI k = nI k := (nI_add 0 k).trans (by rw [Nat.zero_add])
def pd (x : Int32) : Bool := decide (¬ x ≤ 0)
theorem s_darkMany {M : ZI} {L : ZL} {post : Int32 → ZI → ZL → Prop} (h : post (nI (cnt (fun c => pd (M 0 c)) 64)) M L) : w_X5_darkMany M L post := by
  refine ⟨65, it_up _ _ (fun (k : Nat) (rec : Int32 → Int32 → Prop) => rec (nI (cnt (fun c => pd (M 0 c)) k)) (nI k)) 64 (fun k hk rec ih => ?_) (fun rec => ?_)⟩
  · unfold w_X5_darkMany_L4
    rw [z0, ncl (by omega), nI_1]
    refine bF (nI_ge (b := 64) hk (by decide)) ⟨in_ (by omega) (by decide), ?_⟩
    have e : cnt (fun c => pd (M 0 c)) (k + 1) = cnt (fun c => pd (M 0 c)) k + (if pd (M 0 k) then 1 else 0) := rfl
    rw [e] at ih
    by_cases hc : M 0 k ≤ 0
    · refine bT hc ?_
      rintro v rfl
      have hp : pd (M 0 k) = false := by simp [pd, hc]
      rw [hp] at ih
      rw [show nI (cnt (fun c => pd (M 0 c)) k) + 0 = nI (cnt (fun c => pd (M 0 c)) k + 0) from nI_add _ 0]
      exact ih
    · refine bF hc ?_
      rintro v rfl
      have hp : pd (M 0 k) = true := by simp [pd, hc]
      rw [hp] at ih
      rw [nI_1]
      exact ih
  · unfold w_X5_darkMany_L4
    exact bT (nI_le (a := 64) (b := 64) (by decide) (by decide)) h
theorem s_darkCells {T : ZI} {post : Int64 → ZI → Prop} (h : ∀ x : Int64, (∀ c, c < 64 → lb x c = pd (T 1 c)) → post x T) : w_X2_darkCells T post := by
  refine ⟨65, it_up _ _ (fun (k : Nat) (rec : Int64 → Int32 → Prop) => ∀ x : Int64, (∀ c, lb x c = (decide (c < k) && pd (T 1 c))) → rec x (nI k)) 64 (fun k hk rec ih x hx => ?_) (fun rec x hx => ?_) 0 (fun c => by rw [lb_0]; simp)⟩
  · unfold w_X2_darkCells_L4
    rw [ncl (by omega), nI_1]
    refine bF (nI_ge (b := 64) hk (by decide)) ⟨in_ (by omega) (by decide), ?_⟩
    by_cases hc : T 1 k ≤ 0
    · refine bT hc (ih x (fun c => ?_))
      rw [hx c]
      by_cases hck : c = k
      · subst hck
        have hp : pd (T 1 c) = false := by simp [pd, hc]
        simp [hp]
      · have : decide (c < k) = decide (c < k + 1) := by simp; omega
        rw [this]
    · refine bF hc ?_
      rintro v rfl
      refine ih _ (fun c => ?_)
      rw [lb_or, hx c, lb_shl hk]
      by_cases hck : c = k
      · subst hck
        have hp : pd (T 1 c) = true := by simp [pd, hc]
        simp [hp]
      · have h1 : decide (c < k) = decide (c < k + 1) := by simp; omega
        have h2 : decide (k = c) = false := by simp; omega
        rw [h1, h2, Bool.or_false]
  · unfold w_X2_darkCells_L4
    refine bT (nI_le (a := 64) (b := 64) (by decide) (by decide)) (h x (fun c hc => ?_))
    rw [hx c]
    simp [hc]
theorem s_fill {n : Nat} (hn : n < 2 ^ 31) {f : Nat → Int32} {v : Int32} {post : (Nat → Int32) → Prop} (h : ∀ f' : Nat → Int32, (∀ i, i < n → f' i = v) → post f') : w_J7_fill_53178 n f v post := by
  rintro w rfl
  refine ⟨n + 1, it_up _ _ (fun (k : Nat) (rec : (Nat → Int32) → Int32 → Prop) => ∀ g : Nat → Int32, (∀ i, i < k → g i = v) → rec g (nI k)) n (fun k hk rec ih g hg => ?_) (fun rec g hg => ?_) f (fun i hi => absurd hi (by omega))⟩
  · unfold w_J7_fill_53178_L5
    refine bF (nI_ge hk hn) ⟨in_ hk hn, ?_⟩
    rintro g2 rfl
    rw [nI_1, ncl (by omega)]
    refine ih _ (fun i hi => ?_)
    by_cases hik : i = k
    · exact up_eq hik
    · rw [up_ne hik]
      exact hg i (by omega)
  · unfold w_J7_fill_53178_L5
    exact bT (nI_le (Nat.le_refl n) hn) (h g hg)
theorem s_beginAnew {T : ZI} {v : Int32} {post : ZI → Prop} (h : ∀ T' : ZI, (∀ k, k < 2 → T' 0 k = 0) → (∀ c, c < 64 → T' 1 c = 0) → T' 2 0 = v → T' 4 0 = 0 → T' 7 0 = 0 → T' 10 0 = 0 → post T') : w_X2_beginAnew T v post := by
  unfold w_X2_beginAnew
  refine s_fill (by decide) (fun f hf => ?_)
  rintro T2 rfl
  refine s_fill (by decide) (fun g hg => ?_)
  rintro T4 rfl T5 rfl T6 rfl T7 rfl T8 rfl
  exact h _ hf hg rfl rfl rfl rfl
theorem s_anew {M : ZI} {L : ZL} {v : Int32} {post : ZI → ZL → Prop} (h : ∀ M' : ZI, (∀ k, ¬ k = 0 → ¬ k = 6 → M' k = M k) → (∀ i, i < 99 → M' 0 i = if i = 64 then v else 0) → M' 6 0 = 0 → post M' L) : w_X5_anew M L v post := by
  refine ⟨100, it_up _ _ (fun (k : Nat) (rec : ZI → Int32 → Prop) => ∀ M2 : ZI, (∀ a, ¬ a = 0 → M2 a = M a) → (∀ i, i < k → M2 0 i = 0) → rec M2 (nI k)) 99 (fun k hk rec ih M2 g1 g2 => ?_) (fun rec M2 g1 g2 => ?_) M (fun _ _ => rfl) (fun i hi => absurd hi (by omega))⟩
  · unfold w_X5_anew_L2
    refine bF (nI_ge (b := 99) hk (by decide)) ⟨in_ hk (by decide), ?_⟩
    rintro M3 rfl
    rw [nI_1, ncl (by omega)]
    refine ih _ (fun a ha => ?_) (fun i hi => ?_)
    · simp only [mu]
      rw [if_neg ha]
      exact g1 a ha
    · show upd (M2 0) k 0 i = 0
      by_cases hik : i = k
      · exact up_eq hik
      · rw [up_ne hik]
        exact g2 i (by omega)
  · unfold w_X5_anew_L2
    refine bT (nI_le (a := 99) (b := 99) (by decide) (by decide)) ?_
    rintro M4 rfl M5 rfl
    refine h _ (fun k h0 h6 => ?_) (fun i hi => ?_) rfl
    · simp only [mu]
      rw [if_neg h6, if_neg h0]
      exact g1 k h0
    · show upd (M2 0) 64 v i = _
      by_cases h64 : i = 64
      · rw [up_eq h64, if_pos h64]
      · rw [up_ne h64, if_neg h64]
        exact g2 i hi
theorem RT_anew {T : ZI} {m ah : Nat → Int32} {v : Nat} (hv : v ≤ 12) (t0 : ∀ k, k < 2 → T 0 k = 0) (t1 : ∀ c, c < 64 → T 1 c = 0) (t2 : T 2 0 = nI v) (t4 : T 4 0 = 0) (t7 : T 7 0 = 0) (t10 : T 10 0 = 0) (hm : ∀ i, i < 99 → m i = if i = 64 then nI v else 0) : RT T m ah 0 := by
  have z : ∀ i, i < 99 → ¬ i = 64 → m i = 0 := fun i hi h64 => by rw [hm i hi, if_neg h64]
  refine ⟨fun k hk => ?_, fun c hc => ?_, ?_, ⟨?_, 0, by omega, z 67 (by omega) (by omega), fun i hi => absurd hi (by omega)⟩, ⟨?_, 0, by omega, z 76 (by omega) (by omega), fun i hi => absurd hi (by omega)⟩, t10, 0, by omega, rfl, fun i hi => absurd hi (by omega)⟩
  · rw [t0 k hk, z _ (by omega) (by omega)]
    exact ⟨rfl, 0, by omega, rfl⟩
  · rw [t1 c hc, z _ (by omega) (by omega)]
    exact ⟨rfl, 0, by omega, rfl⟩
  · rw [t2, hm 64 (by omega), if_pos rfl]
    exact ⟨rfl, v, hv, rfl⟩
  · rw [t4, z 67 (by omega) (by omega)]
  · rw [t7, z 76 (by omega) (by omega)]
theorem cnt_same {T : ZI} {m ah : Nat → Int32} {um : Int32} (h : RT T m ah um) {x : Int64} (hx : ∀ c, c < 64 → lb x c = pd (T 1 c)) : cnt (lb x) 64 = cnt (fun c => pd (m c)) 64 := cnt_congr (fun i hi => by rw [hx i hi, (h.2.1 i hi).1])
theorem p_table : st_table Inv := by
  intro N D X PM PL i0 i1 M L x1 hI
  unfold w_X4_table
  refine s_within (a := 0) (b := 12) (by decide) (by decide) (fun v => b1n ?_) (fun v => b0n (s4_bad ?_))
  · obtain ⟨k, -, hk, rfl⟩ := id v
    refine s_darkCells (fun x hx => s_bitCount (s_beginAnew (fun T' t0 t1 t2 t4 t7 t10 => ?_)))
    unfold w_X5_table
    refine s_in (a := 0) (b := 12) (by decide) (by decide) (fun _ => b1n (s_darkMany (s_anew (fun M' g1 g2 g3 => ?_)))) (fun q => absurd v q)
    refine ⟨by rw [cnt_same hI.1 hx], hI.re ?_ (g1 3 (by decide) (by decide)) (g1 7 (by decide) (by decide)) (g1 8 (by decide) (by decide)) (g1 18 (by decide) (by decide)) (g1 19 (by decide) (by decide)) (g1 20 (by decide) (by decide)) (g1 21 (by decide) (by decide)) hI.2.2.2.2.2.1 hI.2.2.2.2.2.2⟩
    rw [g3]
    exact RT_anew hk t0 t1 t2 t4 t7 t10 g2
  · unfold w_X5_table
    exact s_in (a := 0) (b := 12) (by decide) (by decide) (fun q => absurd q v) (fun _ => b0n (s5_bad ⟨rfl, inv_bad hI⟩))
/-- how many, of each kind -/
def cof (M : ZI) (k : Nat) : Int32 := match k with
  | 0 => nI (cnt (fun c => pd (M 0 c)) 64)
  | 1 => M 0 64
  | 2 => M 0 67
  | 3 => M 0 76
  | 4 => M 6 0
  | _ => M 8 0
theorem s_howMany {N D X PM : ZI} {PL : ZL} {i0 i1 : Option ZI} {M : ZI} {L : ZL} (hI : Inv N D X PM PL i0 i1 M L) {k : Nat} (hk : k ≤ 5) {post : Int32 → ZI → ZI → ZI → ZI → ZL → Prop} (h : post (cof M k) N D X PM PL) : w_X4_howMany N D X PM PL (nI k) post := by
  unfold w_X4_howMany
  rcases (show k = 0 ∨ k = 1 ∨ k = 2 ∨ k = 3 ∨ k = 4 ∨ k = 5 by omega) with rfl | rfl | rfl | rfl | rfl | rfl
  · refine bT rfl (s_darkCells (fun x hx => s_bitCount ?_))
    rw [cnt_same hI.1 hx]
    exact h
  · refine bF (by decide) (bT rfl ?_)
    rw [hI.1.2.2.1.1]
    exact h
  · refine bF (by decide) (bF (by decide) (bT rfl ?_))
    rw [hI.1.2.2.2.1.1]
    exact h
  · refine bF (by decide) (bF (by decide) (bF (by decide) (bT rfl ?_)))
    rw [hI.1.2.2.2.2.1.1]
    exact h
  · refine bF (by decide) (bF (by decide) (bF (by decide) (bF (by decide) (bT rfl ?_))))
    rw [hI.1.2.2.2.2.2.1]
    exact h
  · refine bF (by decide) (bF (by decide) (bF (by decide) (bF (by decide) (bF (by decide) ?_))))
    rw [hI.2.2.2.1.1]
    exact h
theorem s_countOf {M : ZI} {L : ZL} {k : Nat} (hk : k ≤ 5) {post : Int32 → ZI → ZL → Prop} (h : post (cof M k) M L) : w_X5_countOf M L (nI k) post := by
  unfold w_X5_countOf
  rcases (show k = 0 ∨ k = 1 ∨ k = 2 ∨ k = 3 ∨ k = 4 ∨ k = 5 by omega) with rfl | rfl | rfl | rfl | rfl | rfl
  · exact nT rfl (s_darkMany h)
  · exact nF (by decide) (nT rfl h)
  · exact nF (by decide) (nF (by decide) (nT rfl h))
  · exact nF (by decide) (nF (by decide) (nF (by decide) (nT rfl h)))
  · exact nF (by decide) (nF (by decide) (nF (by decide) (nF (by decide) (nT rfl h))))
  · exact nF (by decide) (nF (by decide) (nF (by decide) (nF (by decide) (nF (by decide) h))))
theorem p_count : st_count Inv := by
  intro N D X PM PL i0 i1 M L x1 hI
  unfold w_X4_count
  refine s_within (a := 0) (b := 5) (by decide) (by decide) (fun v => b1n ?_) (fun v => b0n (s4_bad ?_))
  · obtain ⟨k, -, hk, rfl⟩ := id v
    refine s_howMany hI hk ?_
    unfold w_X5_count
    exact s_in (a := 0) (b := 5) (by decide) (by decide) (fun _ => b1 (s_countOf hk ⟨rfl, hI⟩)) (fun q => absurd v q)
  · unfold w_X5_count
    exact s_in (a := 0) (b := 5) (by decide) (by decide) (fun q => absurd q v) (fun _ => b0 (s5_bad ⟨rfl, inv_bad hI⟩))
/-! digest -/
def dg (f : Nat → Int64) (h : Int64) : Nat → Int64
  | 0 => h
  | n + 1 => 31 * dg f h n + f n
theorem p_digest : st_digest Inv := by
  intro N D X PM PL i0 i1 M L hI
  obtain ⟨hR, hI2⟩ := id hI
  obtain ⟨a4, w, hw, e4, f4⟩ := hR.2.2.2.1
  obtain ⟨a7, u, hu, e7, f7⟩ := hR.2.2.2.2.1
  have n4 : N 4 0 = nI w := a4.trans e4
  have n7 : N 7 0 = nI u := a7.trans e7
  unfold w_X4_digest
  refine ⟨7, it_up _ _ (fun (k : Nat) (rec : ZI → ZI → ZI → ZI → ZL → Int64 → Int32 → Prop) => rec N D X PM PL (dg (fun i => (cof M i).toInt64) 1021 k) (nI k)) 6 (fun k hk rec ih => ?_) (fun rec => ?_)⟩
  · unfold w_X4_digest_L6
    refine bF (nI_nlt (a := 5) (b := k) (by omega) (by decide)) (s_howMany hI (by omega) ?_)
    rintro v rfl
    rw [nI_1]
    exact ih
  unfold w_X4_digest_L6
  refine bT (nI_lt (a := 5) (b := 6) (by decide) (by decide)) ?_
  refine ⟨3, it_up _ _ (fun (k : Nat) (rec : Int64 → Int32 → Prop) => rec (dg (fun i => (M 0 (65 + i)).toInt64) (dg (fun i => (cof M i).toInt64) 1021 6) k) (nI k)) 2 (fun k hk rec ih => ?_) (fun rec => ?_)⟩
  · unfold w_X4_digest_L32
    refine bF (nI_nlt (a := 1) (b := k) (by omega) (by decide)) ⟨in_ (by omega) (by decide), ?_⟩
    rintro v rfl
    rw [nI_1, ncl (by omega), (hR.1 k hk).1]
    exact ih
  unfold w_X4_digest_L32
  refine bT (nI_lt (a := 1) (b := 2) (by decide) (by decide)) ?_
  refine ⟨65, it_up _ _ (fun (k : Nat) (rec : Int64 → Int32 → Prop) => rec (dg (fun i => (M 0 i).toInt64) (dg (fun i => (M 0 (65 + i)).toInt64) (dg (fun i => (cof M i).toInt64) 1021 6) 2) k) (nI k)) 64 (fun k hk rec ih => ?_) (fun rec => ?_)⟩
  · unfold w_X4_digest_L62
    refine bF (nI_nlt (a := 63) (b := k) (by omega) (by decide)) ⟨in_ (by omega) (by decide), ?_⟩
    rintro v rfl
    rw [nI_1, ncl (by omega), (hR.2.1 k hk).1]
    exact ih
  unfold w_X4_digest_L62
  refine bT (nI_lt (a := 63) (b := 64) (by decide) (by decide)) ?_
  generalize hh2 : dg (fun i => (M 0 (65 + i)).toInt64) (dg (fun i => (cof M i).toInt64) 1021 6) 2 = h2
  refine ⟨w + 1, it_up _ _ (fun (k : Nat) (rec : Int64 → Int32 → Prop) => rec (dg (fun i => (M 0 (68 + i)).toInt64) (dg (fun i => (M 0 i).toInt64) h2 64) k) (nI k)) w (fun k hk rec ih => ?_) (fun rec => ?_)⟩
  · unfold w_X4_digest_L93
    rw [n4]
    refine bF (nI_ge hk (by omega)) ⟨in_ (by omega) (by decide), ?_⟩
    rintro v rfl
    rw [nI_1, ncl (by omega), (f4 k hk).1]
    exact ih
  unfold w_X4_digest_L93
  rw [n4]
  refine bT (nI_le (Nat.le_refl w) (by omega)) ?_
  have sc : ∃ sf : Nat → Int64 → Int64, ∀ i, i < u → ∃ a b : Nat, a ≤ 63 ∧ b ≤ 1 ∧ N 5 i = nI a ∧ N 6 i = nI b ∧ M 0 (77 + i) = nI (2 * a + b) ∧ ∀ h, sf i h = 31 * (31 * h + (nI a).toInt64) + (nI b).toInt64 := by
    refine ⟨fun i h => 31 * (31 * h + (N 5 i).toInt64) + (N 6 i).toInt64, fun i hi => ?_⟩
    obtain ⟨a, b, g1, g2, g3, g4, g5⟩ := f7 i hi
    exact ⟨a, b, g1, g2, g3, g4, g5, fun h => by show 31 * (31 * h + (N 5 i).toInt64) + (N 6 i).toInt64 = _; rw [g3, g4]⟩
  obtain ⟨sf, hsf⟩ := sc
  generalize hh4 : dg (fun i => (M 0 (68 + i)).toInt64) (dg (fun i => (M 0 i).toInt64) h2 64) w = h4
  obtain ⟨ss, ss0, ssS⟩ : ∃ ss : Nat → Int64, ss 0 = h4 ∧ ∀ k, ss (k + 1) = sf k (ss k) := ⟨fun k => Nat.rec h4 (fun i h => sf i h) k, rfl, fun _ => rfl⟩
  rw [← ss0]
  refine ⟨u + 1, it_up _ _ (fun (k : Nat) (rec : Int64 → Int32 → Prop) => rec (ss k) (nI k)) u (fun k hk rec ih => ?_) (fun rec => ?_)⟩
  · obtain ⟨a, b, g1, g2, g3, g4, g5, g6⟩ := hsf k hk
    unfold w_X4_digest_L129
    rw [n7]
    refine bF (nI_ge hk (by omega)) ⟨in_ (by omega) (by decide), ?_⟩
    rintro v rfl
    refine ⟨in_ (by omega) (by decide), ?_⟩
    rintro v2 rfl
    rw [nI_1, ncl (by omega), g3, g4, ← g6, ← ssS]
    exact ih
  unfold w_X4_digest_L129
  rw [n7]
  refine bT (nI_le (Nat.le_refl u) (by omega)) ?_
  rintro v28 rfl
  -- the reference
  unfold w_X5_digest
  refine ⟨7, it_up _ _ (fun (k : Nat) (rec : ZI → ZL → Int64 → Int32 → Prop) => rec M L (dg (fun i => (cof M i).toInt64) 1021 k) (nI k)) 6 (fun k hk rec ih => ?_) (fun rec => ?_)⟩
  · unfold w_X5_digest_L6
    refine bF (nI_ge (b := 6) hk (by decide)) (s_countOf (by omega) ?_)
    rintro v rfl
    rw [nI_1]
    exact ih
  unfold w_X5_digest_L6
  refine bT (nI_le (a := 6) (b := 6) (by decide) (by decide)) ?_
  rintro v9 rfl v10 e10
  have e10 : v10 = h2 := e10.trans hh2
  subst e10
  refine ⟨65, it_up _ _ (fun (k : Nat) (rec : Int64 → Int32 → Prop) => rec (dg (fun i => (M 0 i).toInt64) v10 k) (nI k)) 64 (fun k hk rec ih => ?_) (fun rec => ?_)⟩
  · unfold w_X5_digest_L63
    rw [z0]
    refine bF (nI_ge (b := 64) hk (by decide)) ⟨in_ (by omega) (by decide), ?_⟩
    rintro v rfl
    rw [nI_1, ncl (by omega)]
    exact ih
  unfold w_X5_digest_L63
  refine bT (nI_le (a := 64) (b := 64) (by decide) (by decide)) ?_
  refine ⟨w + 1, it_up _ _ (fun (k : Nat) (rec : Int64 → Int32 → Prop) => rec (dg (fun i => (M 0 (68 + i)).toInt64) (dg (fun i => (M 0 i).toInt64) v10 64) k) (nI k)) w (fun k hk rec ih => ?_) (fun rec => ?_)⟩
  · unfold w_X5_digest_L93
    rw [e4, show (68 : Int32) + nI k = nI (68 + k) from nI_add 68 k]
    refine bF (nI_ge hk (by omega)) ⟨in_ (by omega) (by decide), ?_⟩
    rintro v rfl
    rw [nI_1, ncl (by omega)]
    exact ih
  unfold w_X5_digest_L93
  rw [e4]
  refine bT (nI_le (Nat.le_refl w) (by omega)) ?_
  rw [hh4, ← ss0]
  refine ⟨u + 1, it_up _ _ (fun (k : Nat) (rec : Int64 → Int32 → Prop) => rec (ss k) (nI k)) u (fun k hk rec ih => ?_) (fun rec => ?_)⟩
  · obtain ⟨a, b, g1, g2, g3, g4, g5, g6⟩ := hsf k hk
    unfold w_X5_digest_L129
    rw [e7, show (77 : Int32) + nI k = nI (77 + k) from nI_add 77 k]
    refine bF (nI_ge hk (by omega)) ⟨in_ (by omega) (by decide), ?_⟩
    have d1 : nI (2 * a + b) / 2 = nI a := by
      rw [show (2 : Int32) = nI 2 from rfl, pk_div (by omega) (by decide) (by decide)]
      exact congrArg nI (by omega)
    rw [ncl (by omega), g5, d1]
    have d2 : jrem (nI (2 * a + b)) 2 = nI b := by
      show nI (2 * a + b) - nI (2 * a + b) / 2 * 2 = nI b
      rw [d1, show nI a * 2 = nI (a * 2) from pk_mul a 2, nsub (by omega)]
      exact congrArg nI (by omega)
    rintro v rfl
    refine ⟨in_ (by omega) (by decide), ?_⟩
    rintro v2 rfl
    rw [d2, nI_1, ← g6, ← ssS]
    exact ih
  unfold w_X5_digest_L129
  rw [e7]
  refine bT (nI_le (Nat.le_refl u) (by omega)) ?_
  rintro v21 rfl
  rw [hI.2.2.2.2.2.1, hI.2.2.2.2.2.2]
  exact ⟨rfl, hI⟩
