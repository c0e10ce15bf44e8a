/-! one print, on both sides -/
theorem nI_ij {a b : Nat} (ha : a < 2 ^ 31) (hb : b < 2 ^ 31) (h : nI a = nI b) : a = b := by
  have := congrArg Int32.toNatClampNeg h
  rwa [ncl ha, ncl hb] at this
theorem T_hf : ∀ d, d < 10 → nI d / 2 = nI (d / 2) := by decide +kernel
theorem T_par : ∀ c, c < 64 → lb (-6172840429334713771) c = par c := by decide +kernel
def sld (k p x : Nat) : Nat := if (k = 3 ∨ k = 5) ∧ ¬ p ≤ 8 then x + 1 else x
theorem sld_le (k p x : Nat) : sld k p x ≤ x + 1 := by
  unfold sld
  split <;> omega
def fl (k p s x y c : Nat) : Bool := cvi s (sld k p x) y 16 c && (decide (¬ (k = 4 ∧ p < 4)) || par c)
def hl (k p s x y c : Nat) : Bool := decide (k = 5) && cvi s (sld k p x + 1) y 16 c
def ink (k p s x y c : Nat) : Nat := if fl k p s x y c then dkn k p else if hl k p s x y c then dkn k p / 2 else 0
theorem ink_le {k p s x y c : Nat} (hk : k ≤ 5) (hp : p ≤ 12) : ink k p s x y c ≤ 9 := by
  have := dkn_le k (by omega) p (by omega)
  unfold ink
  split
  · exact this
  · split
    · omega
    · omega
theorem mx_le {a b : Nat} (ha : a ≤ 9) (hb : b ≤ 9) : mx a b ≤ 9 := by
  unfold mx
  split <;> assumption
theorem mx0 (d : Nat) : mx 0 d = d := by
  unfold mx
  split <;> omega
theorem s0_slid {k p x : Nat} (hp : p ≤ 12) (hk : k ≤ 5) {post : Int32 → Prop} (h : post (nI (sld k p x))) : w_X0_slidColumn (nI k) (nI p) (nI x) post := by
  unfold w_X0_slidColumn
  have le8 : nI p ≤ 8 ↔ p ≤ 8 := le_iff (b := 8) (by omega) (by decide)
  rw [nI_1]
  by_cases h3 : k = 3
  · subst h3
    refine bT rfl ⟨fun q => ?_, fun q => ?_⟩
    · rw [sld, if_neg (by have := le8.mp q; omega)] at h
      exact h
    · rw [sld, if_pos ⟨Or.inl rfl, fun e => q (le8.mpr e)⟩] at h
      exact h
  · refine bF (fun e => h3 (nI_ij (b := 3) (by omega) (by decide) e)) ?_
    by_cases h5 : k = 5
    · subst h5
      refine nT rfl ⟨fun q => ?_, fun q => ?_⟩
      · rw [sld, if_neg (by have := le8.mp q; omega)] at h
        exact h
      · rw [sld, if_pos ⟨Or.inr rfl, fun e => q (le8.mpr e)⟩] at h
        exact h
    · refine nF (fun e => h5 (nI_ij (b := 5) (by omega) (by decide) e)) ?_
      rw [sld, if_neg (by omega)] at h
      exact h
theorem s0_full {k p s x y : Nat} (hk : k ≤ 5) (hp : p ≤ 12) (hs : s < 65536) (hx : x ≤ 8) (hy : y ≤ 7) {post : Int64 → Prop} (h : ∀ m, (∀ c, c < 64 → lb m c = fl k p s x y c) → post m) : w_X0_fullCells (nI k) (nI p) (nI s) (nI x) (nI y) post := by
  unfold w_X0_fullCells
  refine s0_slid hp hk (s_placed hs (by have := sld_le k p x; omega) hy (fun m hm => ?_))
  by_cases h4 : k = 4
  · subst h4
    refine nT rfl ⟨fun q => h m (fun c hc => ?_), fun q => h _ (fun c hc => ?_)⟩
    · have q : 4 ≤ p := (le_iff (a := 4) (by decide) (by omega)).mp q
      rw [hm c hc, fl, decide_eq_true (by omega), Bool.true_or, Bool.and_true]
    · have q : ¬ 4 ≤ p := fun e => q ((le_iff (a := 4) (by decide) (by omega)).mpr e)
      rw [lb_and, hm c hc, T_par c hc, fl, decide_eq_false (by omega), Bool.false_or]
  · refine nF (fun e => h4 (nI_ij (b := 4) (by omega) (by decide) e)) (h m (fun c hc => ?_))
    rw [hm c hc, fl, decide_eq_true (by omega), Bool.true_or, Bool.and_true]
theorem s0_half {k p s x y : Nat} (hk : k ≤ 5) (hp : p ≤ 12) (hs : s < 65536) (hx : x ≤ 8) (hy : y ≤ 7) {post : Int64 → Prop} (h : ∀ m, (∀ c, c < 64 → lb m c = hl k p s x y c) → post m) : w_X0_halfCells (nI k) (nI p) (nI s) (nI x) (nI y) post := by
  unfold w_X0_halfCells
  by_cases h5 : k = 5
  · subst h5
    refine nT rfl (s0_slid hp hk ?_)
    rw [nI_1]
    refine s_placed hs (by have := sld_le 5 p x; omega) hy (fun m hm => h m (fun c hc => ?_))
    rw [hm c hc, hl, decide_eq_true rfl, Bool.true_and]
  · refine nF (fun e => h5 (nI_ij (b := 5) (by omega) (by decide) e)) (h 0 (fun c hc => ?_))
    rw [lb_0, hl, decide_eq_false h5, Bool.false_and]
theorem dc_ne {F : Nat → Bool} {i c : Nat} (q : ¬ c = i) : (decide (c < i + 1) && F c) = (decide (c < i) && F c) := by
  congr 1
  exact decide_eq_decide.mpr (by omega)
theorem dc_no {F : Nat → Bool} {i c : Nat} (h : F i = false) : (decide (c < i + 1) && F c) = (decide (c < i) && F c) := by
  by_cases q : c = i
  · subst q
    rw [h, Bool.and_false, Bool.and_false]
  · exact dc_ne q
theorem cnt_no {F : Nat → Bool} {i : Nat} (h : F i = false) : cnt F (i + 1) = cnt F i := by
  show cnt F i + (if F i then 1 else 0) = _
  rw [h]
  rfl
theorem cnt_yes {F : Nat → Bool} {i : Nat} (h : F i = true) : cnt F (i + 1) = cnt F i + 1 := by
  show cnt F i + (if F i then 1 else 0) = _
  rw [h]
  rfl
theorem cnt_or {f g h : Nat → Bool} {n : Nat} (hh : ∀ i, i < n → h i = (f i || g i)) (hd : ∀ i, i < n → ¬ (f i = true ∧ g i = true)) : cnt f n + cnt g n = cnt h n := by
  induction n with
  | zero => rfl
  | succ n ih =>
    have e := ih (fun i hi => hh i (by omega)) (fun i hi => hd i (by omega))
    have a := hh n (by omega)
    have b := hd n (by omega)
    cases hf : f n <;> cases hg : g n
    · rw [cnt_no hf, cnt_no hg, cnt_no (by rw [a, hf, hg]; rfl)]
      exact e
    · rw [cnt_no hf, cnt_yes hg, cnt_yes (by rw [a, hf, hg]; rfl)]
      omega
    · rw [cnt_yes hf, cnt_no hg, cnt_yes (by rw [a, hf, hg]; rfl)]
      omega
    · exact absurd ⟨hf, hg⟩ b
theorem s_darken {T : ZI} {mk : Int64} {d : Nat} (hd : d ≤ 9) {g : Nat → Nat} (hg : ∀ c, c < 64 → T 1 c = nI (g c) ∧ g c ≤ 9) {post : Int32 → ZI → Prop} (h : ∀ T' : ZI, (∀ a, ¬ a = 1 → T' a = T a) → (∀ c, c < 64 → T' 1 c = nI (if lb mk c && decide (g c < d) then d else g c)) → post (nI (cnt (fun c => lb mk c && decide (g c < d)) 64)) T') : w_X2_darken T mk (nI d) post := by
  refine ⟨65, it_up _ _ (fun (i : Nat) (rec : ZI → Int32 → Int32 → Prop) => ∀ Q : ZI, (∀ a, ¬ a = 1 → Q a = T a) → (∀ c, c < 64 → Q 1 c = nI (if decide (c < i) && (fun c => lb mk c && decide (g c < d)) c then d else g c)) → rec Q (nI (cnt (fun c => lb mk c && decide (g c < d)) i)) (nI i)) 64 (fun i hi rec ih Q h1 h2 => ?_) (fun rec Q h1 h2 => ?_) T (fun _ _ => rfl) (fun c hc => ?_)⟩
  · unfold w_X2_darken_L6
    refine bF (nI_ge (b := 64) hi (by decide)) ?_
    have hq : Q 1 i = nI (g i) := by rw [h2 i hi, decide_eq_false (by omega), Bool.false_and, if_neg (by decide)]
    rw [nI_1 i, ncl (by omega), hq]
    have no : (lb mk i && decide (g i < d)) = false → rec Q (nI (cnt (fun c => lb mk c && decide (g c < d)) i)) (nI (i + 1)) := by
      intro e
      have := ih Q h1 (fun c hc => by rw [h2 c hc, dc_no (F := fun c => lb mk c && decide (g c < d)) e])
      rw [cnt_no (F := fun c => lb mk c && decide (g c < d)) e] at this
      exact this
    have hgi := (hg i hi).2
    by_cases hb : lb mk i = true
    · refine nT ((lc_eq _ _).mpr ((lb_shr1 mk hi).mpr hb)) ⟨in_ hi (by decide), fun q => no ?_, fun q => ⟨in_ hi (by decide), ?_⟩⟩
      · have := (le_iff (by omega) (by omega)).mp q
        rw [decide_eq_false (by omega), Bool.and_false]
      · have q : ¬ d ≤ g i := fun e => q ((le_iff (by omega) (by omega)).mpr e)
        have e : (lb mk i && decide (g i < d)) = true := by rw [hb, decide_eq_true (by omega)]; rfl
        rintro T1 rfl
        have := ih (mu Q 1 i (nI d)) (fun a ha => (if_neg ha).trans (h1 a ha)) (fun c hc => ?_)
        · rw [cnt_yes (F := fun c => lb mk c && decide (g c < d)) e, ← nI_1] at this
          exact this
        · by_cases hci : c = i
          · subst hci
            rw [decide_eq_true (by omega), Bool.true_and, if_pos e]
            exact up_eq rfl
          · rw [dc_ne (F := fun c => lb mk c && decide (g c < d)) hci]
            exact (up_ne hci).trans (h2 c hc)
    · refine nF (fun q => hb ((lb_shr1 mk hi).mp ((lc_eq _ _).mp q))) (no ?_)
      rw [Bool.eq_false_iff.mpr hb, Bool.false_and]
  · unfold w_X2_darken_L6
    refine bT (nI_le (a := 64) (b := 64) (by decide) (by decide)) (h Q h1 (fun c hc => ?_))
    rw [h2 c hc, decide_eq_true hc, Bool.true_and]
  · rw [decide_eq_false (by omega), Bool.false_and, if_neg (by decide)]
    exact (hg c hc).1
theorem put_cell (A B : Bool) (g d : Nat) : (if (B && (A != true)) && decide ((if A && decide (g < d) then d else g) < d / 2) then d / 2 else (if A && decide (g < d) then d else g)) = mx g (if A then d else if B then d / 2 else 0) := by
  cases A <;> cases B <;> simp [mx]
theorem put_cnt (A B : Bool) (g d : Nat) : decide (g < (if A then d else if B then d / 2 else 0)) = ((A && decide (g < d)) || ((B && (A != true)) && decide ((if A && decide (g < d) then d else g) < d / 2))) := by
  cases A <;> cases B <;> simp
theorem s_put {T : ZI} {k z x y t v p : Nat} (hk : k ≤ 5) (hz : z ≤ 1) (hx : x ≤ 7) (hy : y ≤ 7) (ht : t ≤ 3) (hv : v < 65536) (hp : p ≤ 12) (e0 : T 0 z = nI v) (e2 : T 2 0 = nI p) {g : Nat → Nat} (hg : ∀ c, c < 64 → T 1 c = nI (g c) ∧ g c ≤ 9) {post : Int32 → ZI → Prop} (h : ∀ T' : ZI, (∀ a, ¬ a = 1 → ¬ a = 2 → T' a = T a) → T' 2 0 = nI (p - tkn k p) → (∀ c, c < 64 → T' 1 c = nI (mx (g c) (ink k p (lk v t) x y c))) → post (nI (cnt (fun c => decide (g c < ink k p (lk v t) x y c)) 64)) T') : w_X2_putPrint T (nI k) (nI z) (nI x) (nI y) (nI t) post := by
  unfold w_X2_putPrint
  refine ⟨in_ (by omega) (by decide), ?_⟩
  rw [ncl (by omega), e0, e2]
  refine s_printed hv ht (s0_dark hk hp (s0_full hk hp (lk_lt v ht) (by omega) hy (fun mm hf => s0_half hk hp (lk_lt v ht) (by omega) hy (fun mh hh => s0_take hk hp ?_))))
  rw [nsub (tkn_le k (by omega) p (by omega)).1]
  rintro T6 rfl
  have hd := dkn_le k (by omega) p (by omega)
  refine s_darken (T := mu T 2 0 (nI (p - tkn k p))) (g := g) hd (fun c hc => hg c hc) (fun T8 a1 a2 => ?_)
  rw [T_hf _ (by omega)]
  refine s_darken (by omega) (fun c hc => ⟨a2 c hc, ?_⟩) (fun T10 b1 b2 => ?_)
  · have := (hg c hc).2
    split <;> omega
  · rw [nI_add, cnt_or (h := fun c => decide (g c < ink k p (lk v t) x y c))]
    · refine h T10 (fun a q1 q2 => (b1 a q1).trans ((a1 a q1).trans (if_neg q2))) ?_ (fun c hc => ?_)
      · rw [b1 2 (by decide), a1 2 (by decide)]
        rfl
      · rw [b2 c hc, lb_and, lb_xor, lb_m1 hc, hf c hc, hh c hc, put_cell]
        rfl
    · intro c hc
      show decide (g c < ink k p (lk v t) x y c) = _
      rw [lb_and, lb_xor, lb_m1 hc, hf c hc, hh c hc, ← put_cnt]
      rfl
    · intro c hc
      show ¬ ((lb mm c && _) = true ∧ (lb _ c && _) = true)
      rw [lb_and, lb_xor, lb_m1 hc]
      cases lb mm c <;> simp
