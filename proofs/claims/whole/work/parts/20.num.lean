/-! numbers, loops, what is told -/
theorem it_dn {α : Sort _} (F : α → α) (b : α) (ap : Nat → α → Prop) (zero : ∀ rec, ap 0 (F rec)) (step : ∀ n rec, ap n rec → ap (n + 1) (F rec)) : ∀ n, ap n (itF F b (n + 1)) := by
  intro n
  induction n with
  | zero => exact zero _
  | succ n ih => exact step n _ ih
theorem it_up {α : Sort _} (F : α → α) (b : α) (ap : Nat → α → Prop) (N : Nat) (step : ∀ k, k < N → ∀ rec, ap (k + 1) rec → ap k (F rec)) (last : ∀ rec, ap N (F rec)) : ap 0 (itF F b (N + 1)) := by
  have h := it_dn F b (fun n rec => n ≤ N → ap (N - n) rec) (fun rec _ => last rec) (fun n rec ih hn => by
    have h1 := step (N - (n + 1)) (by omega) rec
    rw [show N - (n + 1) + 1 = N - n by omega] at h1
    exact h1 (ih (by omega))) N (Nat.le_refl N)
  simpa using h
def bd (x : Int32) (n : Nat) : Prop := ∃ v : Nat, v ≤ n ∧ x = nI v
def vld (x : Int32) (a b : Nat) : Prop := ∃ k : Nat, a ≤ k ∧ k ≤ b ∧ x = nI k
theorem vld_iff {x : Int32} {a b : Nat} (hb : b < 2 ^ 31) (ha : a < 2 ^ 31) : vld x a b ↔ ¬ x < nI a ∧ ¬ nI b < x := by
  have e1 := nI_toInt ha
  have e2 := nI_toInt hb
  rw [Int32.lt_iff_toInt_lt, Int32.lt_iff_toInt_lt, e1, e2]
  constructor
  · rintro ⟨k, h1, h2, rfl⟩
    rw [nI_toInt (by omega)]
    omega
  · rintro ⟨h1, h2⟩
    refine ⟨x.toInt.toNat, by omega, by omega, ?_⟩
    apply Int32.toInt_inj.mp
    rw [nI_toInt (by omega)]
    omega
theorem lc_lt (x y : Int64) : lg_cmp x y < 0 ↔ x < y := by
  unfold lg_cmp
  by_cases h1 : y < x
  · have h2 : ¬ x < y := by rw [Int64.lt_iff_toInt_lt] at h1 ⊢; omega
    simp [h1, h2]
  · by_cases h2 : x = y
    · subst h2
      simp
    · have h3 : x < y := by
        rw [Int64.lt_iff_toInt_lt] at h1 ⊢
        have : ¬ x.toInt = y.toInt := fun e => h2 (Int64.toInt_inj.mp e)
        omega
      simp [h1, h2, h3]
theorem lc_gt (x y : Int64) : 0 < lg_cmp x y ↔ y < x := by
  unfold lg_cmp
  by_cases h1 : y < x
  · simp [h1]
  · by_cases h2 : x = y
    · subst h2
      simp
    · simp [h1, h2]
theorem lc_eq (x y : Int64) : lg_cmp x y = 0 ↔ x = y := by
  unfold lg_cmp
  by_cases h1 : y < x
  · have h2 : ¬ x = y := fun e => by subst e; rw [Int64.lt_iff_toInt_lt] at h1; omega
    simp [h1, h2]
  · by_cases h2 : x = y
    · subst h2
      simp
    · simp [h1, h2]
theorem s_within {x : Int32} {a b : Nat} {post : Int32 → Prop} (hb : b < 2 ^ 31) (ha : a < 2 ^ 31) (h1 : vld x a b → post 1) (h0 : ¬ vld x a b → post 0) : w_X4_within x (nI a) (nI b) post :=
  ⟨fun c => h0 (fun v => ((vld_iff hb ha).mp v).1 c), fun c => ⟨fun d => h0 (fun v => ((vld_iff hb ha).mp v).2 d), fun d => h1 ((vld_iff hb ha).mpr ⟨c, d⟩)⟩⟩
theorem wide_toInt (x : Int32) : x.toInt64.toInt = x.toInt := by simp
theorem lN_toInt' {n : Nat} (h : n < 2 ^ 31) : (lN n).toInt = (n : Int) := lN_toInt h
theorem s_in {x : Int32} {a b : Nat} {post : Int32 → Prop} (hb : b < 2 ^ 31) (ha : a < 2 ^ 31) (h1 : vld x a b → post 1) (h0 : ¬ vld x a b → post 0) : w_X5_in x.toInt64 (lN a) (lN b) post := by
  have e1 : lg_cmp x.toInt64 (lN a) < 0 ↔ x < nI a := by rw [lc_lt, Int64.lt_iff_toInt_lt, Int32.lt_iff_toInt_lt, wide_toInt, lN_toInt ha, nI_toInt ha]
  have e2 : 0 < lg_cmp x.toInt64 (lN b) ↔ nI b < x := by rw [lc_gt, Int64.lt_iff_toInt_lt, Int32.lt_iff_toInt_lt, wide_toInt, lN_toInt hb, nI_toInt hb]
  unfold w_X5_in
  rw [e1, e2]
  exact ⟨fun c => h0 (fun v => ((vld_iff hb ha).mp v).1 c), fun c => ⟨fun d => h0 (fun v => ((vld_iff hb ha).mp v).2 d), fun d => h1 ((vld_iff hb ha).mpr ⟨c, d⟩)⟩⟩
theorem b1 {A B : Prop} (h : A) : ((1 : Int32) = 0 → B) ∧ (¬ (1 : Int32) = 0 → A) := ⟨fun c => absurd c (by decide), fun _ => h⟩
theorem b1n {A B : Prop} (h : A) : (¬ (1 : Int32) = 0 → A) ∧ ((1 : Int32) = 0 → B) := ⟨fun _ => h, fun c => absurd c (by decide)⟩
theorem b0 {A B : Prop} (h : B) : ((0 : Int32) = 0 → B) ∧ (¬ (0 : Int32) = 0 → A) := ⟨fun _ => h, fun c => absurd rfl c⟩
theorem b0n {A B : Prop} (h : B) : (¬ (0 : Int32) = 0 → A) ∧ ((0 : Int32) = 0 → B) := ⟨fun c => absurd rfl c, fun _ => h⟩
theorem bT {c A B : Prop} (hc : c) (h : A) : (c → A) ∧ (¬ c → B) := ⟨fun _ => h, fun n => absurd hc n⟩
theorem bF {c A B : Prop} (hc : ¬ c) (h : B) : (c → A) ∧ (¬ c → B) := ⟨fun y => absurd y hc, fun _ => h⟩
theorem nT {c A B : Prop} (hc : c) (h : B) : (¬ c → A) ∧ (c → B) := ⟨fun n => absurd hc n, fun _ => h⟩
theorem nF {c A B : Prop} (hc : ¬ c) (h : A) : (¬ c → A) ∧ (c → B) := ⟨fun _ => h, fun y => absurd y hc⟩
theorem nrw0 : narrow .boolean (.int 0) = .int 0 := rfl
theorem nrw1 : narrow .boolean (.int 1) = .int 1 := rfl
theorem s_isWhat {x : Int32} {post : Int32 → Prop} (h1 : vld x 0 1 → post 1) (h0 : ¬ vld x 0 1 → post 0) : w_X5_isWhat x post :=
  s_in (a := 0) (b := 1) (by decide) (by decide) (fun v => ⟨nrw1, h1 v⟩) (fun v => ⟨nrw0, h0 v⟩)
theorem s4_isPlace {x y : Int32} {post : Int32 → Prop} (h1 : vld x 0 7 ∧ vld y 0 7 → post 1) (h0 : ¬ (vld x 0 7 ∧ vld y 0 7) → post 0) : w_X4_isPlace x y post :=
  s_within (a := 0) (b := 7) (by decide) (by decide) (fun v => b1 (s_within (a := 0) (b := 7) (by decide) (by decide) (fun w => b1 (h1 ⟨v, w⟩)) (fun w => b0 (h0 (fun q => w q.2))))) (fun v => b0 (h0 (fun q => v q.1)))
theorem s5_isPlace {x y : Int32} {post : Int32 → Prop} (h1 : vld x 0 7 ∧ vld y 0 7 → post 1) (h0 : ¬ (vld x 0 7 ∧ vld y 0 7) → post 0) : w_X5_isPlace x y post :=
  s_in (a := 0) (b := 7) (by decide) (by decide) (fun v => b1 (s_in (a := 0) (b := 7) (by decide) (by decide) (fun w => b1 (h1 ⟨v, w⟩)) (fun w => b0 (h0 (fun q => w q.2))))) (fun v => b0 (h0 (fun q => v q.1)))
def vpr (kind k x y t : Int32) : Prop := vld kind 0 5 ∧ vld k 0 1 ∧ (vld x 0 7 ∧ vld y 0 7) ∧ vld t 0 3
theorem s4_isPrint {a b x y t : Int32} {post : Int32 → Prop} (h1 : vpr a b x y t → post 1) (h0 : ¬ vpr a b x y t → post 0) : w_X4_isPrint a b x y t post :=
  s_within (a := 0) (b := 5) (by decide) (by decide) (fun v1 => b1 (s_within (a := 0) (b := 1) (by decide) (by decide) (fun v2 => b1 (s4_isPlace (fun v3 => b1 (s_within (a := 0) (b := 3) (by decide) (by decide) (fun v4 => b1 (h1 ⟨v1, v2, v3, v4⟩)) (fun v => b0 (h0 (fun q => v q.2.2.2))))) (fun v => b0 (h0 (fun q => v q.2.2.1))))) (fun v => b0 (h0 (fun q => v q.2.1))))) (fun v => b0 (h0 (fun q => v q.1)))
theorem s5_isPrint {a b x y t : Int32} {post : Int32 → Prop} (h1 : vpr a b x y t → post 1) (h0 : ¬ vpr a b x y t → post 0) : w_X5_isPrint a b x y t post :=
  s_in (a := 0) (b := 5) (by decide) (by decide) (fun v1 => b1 (s_isWhat (fun v2 => b1 (s5_isPlace (fun v3 => b1 (s_in (a := 0) (b := 3) (by decide) (by decide) (fun v4 => b1 (h1 ⟨v1, v2, v3, v4⟩)) (fun v => b0 (h0 (fun q => v q.2.2.2))))) (fun v => b0 (h0 (fun q => v q.2.2.1))))) (fun v => b0 (h0 (fun q => v q.2.1))))) (fun v => b0 (h0 (fun q => v q.1)))
theorem s4_isDip {a p : Int32} {post : Int32 → Prop} (h1 : vld a 0 5 ∧ vld p 0 12 → post 1) (h0 : ¬ (vld a 0 5 ∧ vld p 0 12) → post 0) : w_X4_isDip a p post :=
  s_within (a := 0) (b := 5) (by decide) (by decide) (fun v => b1 (s_within (a := 0) (b := 12) (by decide) (by decide) (fun w => b1 (h1 ⟨v, w⟩)) (fun w => b0 (h0 (fun q => w q.2))))) (fun v => b0 (h0 (fun q => v q.1)))
/-! the relation -/
def RT (T : ZI) (m ah : Nat → Int32) (um : Int32) : Prop :=
  (∀ k, k < 2 → T 0 k = m (65 + k) ∧ bd (m (65 + k)) 65535) ∧
  (∀ c, c < 64 → T 1 c = m c ∧ bd (m c) 9) ∧
  (T 2 0 = m 64 ∧ bd (m 64) 12) ∧
  (T 4 0 = m 67 ∧ ∃ w, w ≤ 8 ∧ m 67 = nI w ∧ ∀ i, i < w → T 3 i = m (68 + i) ∧ bd (m (68 + i)) 63) ∧
  (T 7 0 = m 76 ∧ ∃ w, w ≤ 8 ∧ m 76 = nI w ∧ ∀ i, i < w → ∃ a b : Nat, a ≤ 63 ∧ b ≤ 1 ∧ T 5 i = nI a ∧ T 6 i = nI b ∧ m (77 + i) = nI (2 * a + b)) ∧
  (T 10 0 = um ∧ ∃ w, w ≤ 8 ∧ um = nI w ∧ ∀ j, j < w → (∀ c, c < 64 → T 8 (64 * j + c) = ah (65 * j + c) ∧ bd (ah (65 * j + c)) 9) ∧ T 9 j = ah (65 * j + 64) ∧ bd (ah (65 * j + 64)) 12)
def RI (i : Option ZI) (f : Int32) (m ah : Nat → Int32) (um : Int32) : Prop := match i with
  | none => f = 0
  | some I => f = 1 ∧ RT I m ah um
def RX (bx : Nat → Int32) (n : Int32) (tx : Nat → Int32) (n2 : Int32) : Prop := n = n2 ∧ ∃ w, w ≤ 150 ∧ n2 = nI w ∧ ∀ i, i < w → bx i = tx i ∧ bd (tx i) 127
def Inv (N D X PM : ZI) (PL : ZL) (i0 i1 : Option ZI) (M : ZI) (L : ZL) : Prop :=
  RT N (M 0) (M 5) (M 6 0) ∧ RI i0 (M 18 0) (M 19) (M 20) (M 21 0) ∧ RI i1 (M 18 1) (fun k => M 19 (99 + k)) (fun k => M 20 (520 + k)) (M 21 1) ∧ RX (X 0) (X 1 0) (M 7) (M 8 0) ∧ (PM 7 0 = M 3 0 ∧ PM 8 0 = M 3 1 ∧ PM 9 0 = M 3 2) ∧ (PL 5 0 = L 1 0 ∧ PL 6 0 = L 2 0)
theorem inv_bad {N D X PM : ZI} {PL : ZL} {i0 i1 : Option ZI} {M : ZI} {L : ZL} (h : Inv N D X PM PL i0 i1 M L) : Inv N D X (mu PM 7 0 (PM 7 0 + 1)) PL i0 i1 (mu M 3 0 (M 3 0 + 1)) L := by
  obtain ⟨h1, h2, h3, h4, ⟨h5, h6, h7⟩, h8⟩ := h
  exact ⟨h1, h2, h3, h4, ⟨congrArg (· + 1) h5, h6, h7⟩, h8⟩
theorem inv_no {N D X PM : ZI} {PL : ZL} {i0 i1 : Option ZI} {M : ZI} {L : ZL} (h : Inv N D X PM PL i0 i1 M L) : Inv N D X (mu PM 8 0 (PM 8 0 + 1)) PL i0 i1 (mu M 3 1 (M 3 1 + 1)) L := by
  obtain ⟨h1, h2, h3, h4, ⟨h5, h6, h7⟩, h8⟩ := h
  exact ⟨h1, h2, h3, h4, ⟨h5, congrArg (· + 1) h6, h7⟩, h8⟩
theorem inv_full {N D X PM : ZI} {PL : ZL} {i0 i1 : Option ZI} {M : ZI} {L : ZL} (h : Inv N D X PM PL i0 i1 M L) : Inv N D X (mu PM 9 0 (PM 9 0 + 1)) PL i0 i1 (mu M 3 2 (M 3 2 + 1)) L := by
  obtain ⟨h1, h2, h3, h4, ⟨h5, h6, h7⟩, h8⟩ := h
  exact ⟨h1, h2, h3, h4, ⟨h5, h6, congrArg (· + 1) h7⟩, h8⟩
theorem in_ {a n : Nat} (h : a < n) (hn : n < 2 ^ 31) : vp_in (nI a) n := vp_in_nI h hn
theorem s4_bad {N D X PM : ZI} {PL : ZL} {x : Int32} {post : Int32 → ZI → ZI → ZI → ZI → ZL → Prop} (h : post x N D X (mu PM 7 0 (PM 7 0 + 1)) PL) : w_X4_refuseBad N D X PM PL x post := fun _ e => e ▸ h
theorem s4_no {N D X PM : ZI} {PL : ZL} {post : Int32 → ZI → ZI → ZI → ZI → ZL → Prop} (h : post (-3) N D X (mu PM 8 0 (PM 8 0 + 1)) PL) : w_X4_refuseNo N D X PM PL post := fun _ e => e ▸ h
theorem s4_full {N D X PM : ZI} {PL : ZL} {post : Int32 → ZI → ZI → ZI → ZI → ZL → Prop} (h : post (-4) N D X (mu PM 9 0 (PM 9 0 + 1)) PL) : w_X4_refuseFull N D X PM PL post := fun _ e => e ▸ h
theorem s5_bad {M : ZI} {L : ZL} {post : Int32 → ZI → ZL → Prop} (h : post (-2) (mu M 3 0 (M 3 0 + 1)) L) : w_X5_bad M L post := fun _ e => e ▸ h
theorem s5_no {M : ZI} {L : ZL} {post : Int32 → ZI → ZL → Prop} (h : post (-3) (mu M 3 1 (M 3 1 + 1)) L) : w_X5_no M L post := fun _ e => e ▸ h
theorem s5_full {M : ZI} {L : ZL} {post : Int32 → ZI → ZL → Prop} (h : post (-4) (mu M 3 2 (M 3 2 + 1)) L) : w_X5_full M L post := fun _ e => e ▸ h
/-- both refuse -/
theorem r_bad {N D X PM : ZI} {PL : ZL} {i0 i1 : Option ZI} {M : ZI} {L : ZL} (h : Inv N D X PM PL i0 i1 M L) {f : Int32 → Int32} : w_X4_refuseBad N D X PM PL (-2) (fun r N D X PM PL => w_X5_bad M L (fun r2 M L => r = r2 ∧ Inv N D X PM PL i0 i1 M L)) := s4_bad (s5_bad ⟨rfl, inv_bad h⟩)
/-! the same loops on both sides: sums and bits over Nat -/
theorem nsub {a b : Nat} (h : b ≤ a) : nI a - nI b = nI (a - b) := pk_sub h
theorem ncl {n : Nat} (h : n < 2 ^ 31) : (nI n).toNatClampNeg = n := nI_clamp h
