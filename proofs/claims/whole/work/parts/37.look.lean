/-! where to look -/
def uw (v : Nat) (A B : Nat → Nat) (w c i : Nat) : Bool := fw v A B w i && cvi (lk v (i / 64)) (i % 8) (i / 8 % 8) 16 c
def vw (v : Nat) (A B : Nat → Nat) (w c : Nat) : Nat := if cnt (uw v A B w c) 256 < cnt (fw v A B w) 256 - cnt (uw v A B w c) 256 then cnt (fw v A B w) 256 - cnt (uw v A B w c) 256 else cnt (uw v A B w c) 256
theorem cnt_sub {f g : Nat → Bool} (n : Nat) (h : ∀ i, f i = true → g i = true) : cnt f n ≤ cnt g n := by
  induction n with
  | zero => exact Nat.le_refl _
  | succ n ih =>
    cases hf : f n
    · rw [cnt_no hf]
      have : cnt g (n + 1) = cnt g n + (if g n then 1 else 0) := rfl
      omega
    · rw [cnt_yes hf, cnt_yes (h n hf)]
      omega
theorem uw_le (v : Nat) (A B : Nat → Nat) (w c n : Nat) : cnt (uw v A B w c) n ≤ cnt (fw v A B w) n := cnt_sub n (fun i h => ((Bool.and_eq_true _ _).mp h).1)
theorem vw_le (v : Nat) (A B : Nat → Nat) (w c : Nat) : vw v A B w c ≤ cnt (fw v A B w) 256 := by
  have := uw_le v A B w c 256
  unfold vw
  split <;> omega
def isf (f : Nat → Nat) (r : Nat) : Prop := r < 64 ∧ (∀ c, c < 64 → f r ≤ f c) ∧ (∀ c, c < r → f r < f c)
theorem isf_eq {f : Nat → Nat} {r s : Nat} (h : isf f r) (g : isf f s) : r = s := by
  obtain ⟨h1, h2, h3⟩ := h
  obtain ⟨g1, g2, g3⟩ := g
  rcases Nat.lt_trichotomy r s with q | q | q
  · have := g3 r q
    have := h2 s g1
    omega
  · exact q
  · have := h3 s q
    have := g2 r h1
    omega
theorem s_keep {N D X PM : ZI} {PL : ZL} {v w : Nat} {A B : Nat → Nat} (hE : EV v PL 256) (hw : w ≤ 8) (e7 : N 7 0 = nI w) (hA : ∀ i, i < w → A i ≤ 63 ∧ B i ≤ 1 ∧ N 5 i = nI (A i) ∧ N 6 i = nI (B i)) {post : Int32 → ZI → ZI → ZI → ZI → ZL → Prop} (h : ∀ P : ZL, (∀ a, ¬ a = 4 → P a = PL a) → (∀ c, c < 64 → cnt (fun j => lb (P 4 j) c) (cnt (fw v A B w) 256) = cnt (uw v A B w c) 256) → post (nI (cnt (fw v A B w) 256)) N D X PM P) : w_X4_keepFitting N D X PM PL post := by
  unfold w_X4_keepFitting
  refine s_seen (b := 1) hw (by decide) e7 hA (fun s1 h1 => s_seen (b := 0) hw (by decide) e7 hA (fun s0 h0 => ?_))
  refine ⟨257, it_up _ _ (fun (i : Nat) (rec : ZL → Int32 → Int32 → Prop) => ∀ P : ZL, (∀ a, ¬ a = 4 → P a = PL a) → (∀ j, i ≤ j → P 4 j = PL 4 j) → (∀ c, c < 64 → cnt (fun j => lb (P 4 j) c) (cnt (fw v A B w) i) = cnt (uw v A B w c) i) → rec P (nI (cnt (fw v A B w) i)) (nI i)) 256 (fun i hi rec ih P g1 g2 g3 => ?_) (fun rec P g1 g2 g3 => ?_) PL (fun _ _ => rfl) (fun _ _ => rfl) (fun _ _ => rfl)⟩
  · unfold w_X4_keepFitting_L24
    have hle := cnt_le (fw v A B w) i
    refine bF (nI_ge (b := 256) hi (by decide)) ⟨in_ hi (by decide), ?_⟩
    rw [ncl (by omega), ncl (by omega), nI_1 i]
    refine s_fits (P := cvi (lk v (i / 64)) (i % 8) (i / 8 % 8) 16) (fun i hi => ⟨(hA i hi).1, (hA i hi).2.1⟩) h1 h0 (fun c hc => by rw [g2 i (Nat.le_refl _)]; exact hE i hi c hc) ?_
    rw [show fbb (cvi (lk v (i / 64)) (i % 8) (i / 8 % 8) 16) A B w = fw v A B w i from rfl]
    cases hf : fw v A B w i
    · refine b0 ?_
      have := ih P g1 (fun j hj => g2 j (by omega))
      rw [cnt_no hf] at this
      exact this (fun c hc => by rw [g3 c hc, cnt_no (show uw v A B w c i = false by unfold uw; rw [hf]; rfl)])
    · refine b1 ⟨in_ hi (by decide), in_ (by omega) (by decide), ?_⟩
      rintro P6 rfl
      have := ih (ml P 4 (cnt (fw v A B w) i) (P 4 i)) (fun a ha => (if_neg ha).trans (g1 a ha)) (fun j hj => (show (if j = cnt (fw v A B w) i then P 4 i else P 4 j) = PL 4 j by rw [if_neg (by omega)]; exact g2 j (by omega)))
      rw [cnt_yes hf, ← nI_1] at this
      refine this (fun c hc => ?_)
      have k1 : cnt (fun j => lb (ml P 4 (cnt (fw v A B w) i) (P 4 i) 4 j) c) (cnt (fw v A B w) i) = cnt (uw v A B w c) i := by
        rw [← g3 c hc]
        exact cnt_congr (fun j hj => congrArg (fun z => lb z c) (if_neg (show ¬ j = cnt (fw v A B w) i by omega)))
      have k2 : lb (ml P 4 (cnt (fw v A B w) i) (P 4 i) 4 (cnt (fw v A B w) i)) c = cvi (lk v (i / 64)) (i % 8) (i / 8 % 8) 16 c := by
        rw [← hE i hi c hc, ← g2 i (Nat.le_refl _)]
        exact congrArg (fun z => lb z c) (if_pos rfl)
      cases hc' : cvi (lk v (i / 64)) (i % 8) (i / 8 % 8) 16 c
      · rw [cnt_no (F := fun j => lb (ml P 4 (cnt (fw v A B w) i) (P 4 i) 4 j) c) (k2.trans hc'), k1, cnt_no (show uw v A B w c i = false by unfold uw; rw [hf, hc']; rfl)]
      · rw [cnt_yes (F := fun j => lb (ml P 4 (cnt (fw v A B w) i) (P 4 i) 4 j) c) (k2.trans hc'), k1, cnt_yes (show uw v A B w c i = true by unfold uw; rw [hf, hc']; rfl)]
  · unfold w_X4_keepFitting_L24
    exact bT (nI_le (a := 256) (b := 256) (by decide) (by decide)) (h P g1 g3)
theorem s_hmi {N D X PM : ZI} {PL : ZL} {c n : Nat} (hc : c < 64) (hn : n ≤ 256) {post : Int32 → ZI → ZI → ZI → ZI → ZL → Prop} (h : post (nI (cnt (fun j => lb (PL 4 j) c) n)) N D X PM PL) : w_X4_howManyInk N D X PM PL (nI c) (nI n) post := by
  refine ⟨n + 1, it_up _ _ (fun (j : Nat) (rec : Int32 → Int32 → Prop) => rec (nI (cnt (fun j => lb (PL 4 j) c) j)) (nI j)) n (fun j hj rec ih => ?_) (fun rec => ?_)⟩
  · unfold w_X4_howManyInk_L5
    refine bF (nI_ge (b := n) hj (by omega)) (bF (nI_ge (b := 256) (by omega) (by decide)) ⟨in_ (by omega) (by decide), fun q => ?_, fun q => ?_⟩)
    · rw [ncl (by omega)] at q
      rw [cnt_no (F := fun j => lb (PL 4 j) c) (Bool.eq_false_iff.mpr (fun e => q ((lc_eq _ _).mpr ((lb_shr1 _ hc).mpr e))))] at ih
      rw [nI_1]
      exact ih
    · rw [ncl (by omega)] at q
      rw [cnt_yes (F := fun j => lb (PL 4 j) c) ((lb_shr1 _ hc).mp ((lc_eq _ _).mp q))] at ih
      rw [nI_1, nI_1]
      exact ih
  · unfold w_X4_howManyInk_L5
    exact bT (nI_le (Nat.le_refl n) (by omega)) h
theorem s4_lkl {N D X PM : ZI} {P : ZL} {v w : Nat} {A B : Nat → Nat} (hP : ∀ c, c < 64 → cnt (fun j => lb (P 4 j) c) (cnt (fw v A B w) 256) = cnt (uw v A B w c) 256) {x1 : Int32} {post : Int32 → ZI → ZI → ZI → ZI → ZL → Prop} {K : ZI → ZI → ZI → ZI → ZL → Int32 → Int32 → Int32 → Prop} (h : ∀ r y5, isf (vw v A B w) r → K N D X PM P (nI r) (nI (vw v A B w r)) y5) : ∃ n, itF (w_X4_look_L50 x1 (nI (cnt (fw v A B w) 256)) post K) (fun _ _ _ _ _ _ _ _ => False) n N D X PM P 0 (nI (cnt (fw v A B w) 256) + 1) 0 := by
  have hn := cnt_le (fw v A B w) 256
  rw [nI_1]
  refine ⟨65, it_up _ _ (fun (i : Nat) (rec : ZI → ZI → ZI → ZI → ZL → Int32 → Int32 → Int32 → Prop) => ∀ r q : Nat, q ≤ 257 → ((i = 0 ∧ q = cnt (fw v A B w) 256 + 1 ∧ r = 0) ∨ (r < i ∧ q = vw v A B w r ∧ (∀ c, c < i → vw v A B w r ≤ vw v A B w c) ∧ (∀ c, c < r → vw v A B w r < vw v A B w c))) → rec N D X PM P (nI r) (nI q) (nI i)) 64 (fun i hi rec ih r q hq hr => ?_) (fun rec r q hq hr => ?_) 0 (cnt (fw v A B w) 256 + 1) (by omega) (Or.inl ⟨rfl, rfl, rfl⟩)⟩
  · unfold w_X4_look_L50
    refine bF (nI_nlt (a := 63) (b := i) (by omega) (by decide)) (s_hmi hi hn ?_)
    have hu := uw_le v A B w i 256
    have hv := vw_le v A B w i
    rw [hP i hi, nsub hu, nI_1]
    have e : (if nI (cnt (uw v A B w i) 256) < nI (cnt (fw v A B w) 256 - cnt (uw v A B w i) 256) then nI (cnt (fw v A B w) 256 - cnt (uw v A B w i) 256) else nI (cnt (uw v A B w i) 256)) = nI (vw v A B w i) := by
      unfold vw
      by_cases q : cnt (uw v A B w i) 256 < cnt (fw v A B w) 256 - cnt (uw v A B w i) 256
      · rw [if_pos q, if_pos (nI_lt q (by omega))]
      · rw [if_neg q, if_neg (nI_nlt (by omega) (by omega))]
    rw [e]
    rintro v20 rfl
    refine ⟨fun g => ?_, fun g => ?_⟩
    · have g := (le_iff (by omega) (by omega)).mp g
      rcases hr with ⟨r1, r2, r3⟩ | ⟨r1, r2, r3, r4⟩
      · omega
      · refine ih r q hq (Or.inr ⟨by omega, r2, fun c hc => ?_, r4⟩)
        by_cases e : c = i
        · subst e
          omega
        · exact r3 c (by omega)
    · have g : ¬ q ≤ vw v A B w i := fun e => g ((le_iff (by omega) (by omega)).mpr e)
      refine ih i (vw v A B w i) (by omega) (Or.inr ⟨by omega, rfl, fun c hc => ?_, fun c hc => ?_⟩)
      · by_cases e : c = i
        · rw [e]
          exact Nat.le_refl _
        · rcases hr with ⟨r1, r2, r3⟩ | ⟨r1, r2, r3, r4⟩
          · omega
          · have := r3 c (by omega)
            omega
      · rcases hr with ⟨r1, r2, r3⟩ | ⟨r1, r2, r3, r4⟩
        · omega
        · have := r3 c (by omega)
          omega
  · unfold w_X4_look_L50
    refine bT (nI_lt (a := 63) (b := 64) (by decide) (by decide)) ?_
    rcases hr with ⟨r1, r2, r3⟩ | ⟨r1, r2, r3, r4⟩
    · exact absurd r1 (by decide)
    · rw [r2]
      exact h r _ ⟨r1, r3, r4⟩
