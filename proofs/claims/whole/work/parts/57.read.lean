/-! read: an item, put -/
def WT (T : ZI) : Prop := ∃ m ah um, RT T m ah um
def pv (f : Nat → Nat) : Nat := ((f 1 ||| 16 * f 2) ||| 256 * f 3) ||| 4096 * f 4
theorem T_sh : ∀ b, b < 16 → nI b <<< ((4 : Int32) &&& 31) = nI (16 * b) ∧ nI b <<< ((8 : Int32) &&& 31) = nI (256 * b) ∧ nI b <<< ((12 : Int32) &&& 31) = nI (4096 * b) := by decide +kernel
theorem pv_lt {f : Nat → Nat} (h1 : f 1 ≤ 15) (h2 : f 2 ≤ 15) (h3 : f 3 ≤ 15) (h4 : f 4 ≤ 15) : pv f < 65536 := by
  unfold pv
  exact Nat.or_lt_two_pow (n := 16) (Nat.or_lt_two_pow (Nat.or_lt_two_pow (by omega) (by omega)) (by omega)) (by omega)
theorem pv_eq {f : Nat → Nat} (h2 : f 2 ≤ 15) (h3 : f 3 ≤ 15) (h4 : f 4 ≤ 15) : (((nI (f 1) ||| (nI (f 2) <<< ((4 : Int32) &&& 31))) ||| (nI (f 3) <<< ((8 : Int32) &&& 31))) ||| (nI (f 4) <<< ((12 : Int32) &&& 31))) = nI (pv f) := by
  rw [(T_sh (f 2) (by omega)).1, (T_sh (f 3) (by omega)).2.1, (T_sh (f 4) (by omega)).2.2, nor, nor, nor]
  rfl
def IS (v : Nat) (f : Nat → Nat) (T T' : ZI) : Prop :=
  (v = 0 → (∀ k, k < 2 → T' 0 k = 0) ∧ (∀ c, c < 64 → T' 1 c = 0) ∧ T' 2 0 = nI (f 0) ∧ T' 4 0 = 0 ∧ T' 7 0 = 0 ∧ T' 10 0 = 0) ∧
  (v = 1 → T' = mu T 0 (f 0) (nI (pv f))) ∧
  (v = 2 → (∀ a, ¬ a = 1 → ¬ a = 2 → T' a = T a) ∧ T' 2 0 = nI ((T 2 0).toNatClampNeg - tkn (f 0) (T 2 0).toNatClampNeg) ∧ ∀ c, c < 64 → T' 1 c = nI (mx ((T 1 c).toNatClampNeg) (ink (f 0) (T 2 0).toNatClampNeg (lk ((T 0 (f 1)).toNatClampNeg) (f 4)) (f 2) (f 3) c)))
theorem RT_pot {T : ZI} {m ah : Nat → Int32} {um : Int32} (h : RT T m ah um) {k v : Nat} (hk : k < 2) (hv : v ≤ 65535) : RT (mu T 0 k (nI v)) (upd m (65 + k) (nI v)) ah um := by
  obtain ⟨h1, h2, h3, h4, h5, h6⟩ := h
  have z : ∀ i, ¬ i = 65 + k → upd m (65 + k) (nI v) i = m i := fun i hi => up_ne hi
  refine ⟨fun i hi => ?_, fun c hc => ?_, ?_, ?_, ?_, h6⟩
  · show upd (T 0) k (nI v) i = _ ∧ _
    by_cases hik : i = k
    · rw [up_eq hik, up_eq (by omega)]
      exact ⟨rfl, v, hv, rfl⟩
    · rw [up_ne hik, z _ (by omega)]
      exact h1 i hi
  · show T 1 c = _ ∧ _
    rw [z _ (by omega)]
    exact h2 c hc
  · show T 2 0 = _ ∧ _
    rw [z _ (by omega)]
    exact h3
  · show T 4 0 = _ ∧ ∃ w, w ≤ 8 ∧ _ = nI w ∧ ∀ i, i < w → T 3 i = _ ∧ _
    rw [z _ (by omega)]
    obtain ⟨a, w, b, e, f⟩ := h4
    exact ⟨a, w, b, e, fun i hi => by rw [z _ (by omega)]; exact f i hi⟩
  · show T 7 0 = _ ∧ ∃ w, w ≤ 8 ∧ _ = nI w ∧ ∀ i, i < w → ∃ a b : Nat, a ≤ 63 ∧ b ≤ 1 ∧ T 5 i = nI a ∧ T 6 i = nI b ∧ _
    rw [z _ (by omega)]
    obtain ⟨a, w, b, e, f⟩ := h5
    exact ⟨a, w, b, e, fun i hi => by rw [z _ (by omega)]; exact f i hi⟩
/-- what stands in a table, as numbers -/
theorem RT.tel {T : ZI} {m ah : Nat → Int32} {um : Int32} (h : RT T m ah um) : (T 2 0).toNatClampNeg ≤ 12 ∧ T 2 0 = nI (T 2 0).toNatClampNeg ∧ m 64 = nI (T 2 0).toNatClampNeg ∧ (∀ k, k ≤ 1 → (T 0 k).toNatClampNeg < 65536 ∧ T 0 k = nI (T 0 k).toNatClampNeg ∧ m (65 + k) = nI (T 0 k).toNatClampNeg) ∧ ∀ c, c < 64 → (T 1 c).toNatClampNeg ≤ 9 ∧ T 1 c = nI (T 1 c).toNatClampNeg ∧ m c = nI (T 1 c).toNatClampNeg := by
  obtain ⟨p, hp, p1, p2⟩ := h.pnt
  refine ⟨?_, ?_, ?_, fun k hk => ?_, fun c hc => ?_⟩
  · rw [p1, ncl (by omega)]
    exact hp
  · rw [p1, ncl (by omega)]
  · rw [p1, ncl (by omega)]
    exact p2
  · obtain ⟨v, hv, v1, v2⟩ := h.pot hk
    rw [v1, ncl (by omega)]
    exact ⟨hv, rfl, v2⟩
  · obtain ⟨e, v, hv, ev⟩ := h.2.1 c hc
    rw [e, ev, ncl (by omega)]
    exact ⟨hv, rfl, rfl⟩
theorem IS_wt {v : Nat} {f : Nat → Nat} {T T' : ZI} (hv : v < 3) (hl : ∀ j, j < lml v → f j ≤ lmt v j) (hT : v = 0 ∨ WT T) (h : IS v f T T') : WT T' := by
  obtain ⟨i0, i1, i2⟩ := h
  rcases (show v = 0 ∨ v = 1 ∨ v = 2 by omega) with rfl | rfl | rfl
  · obtain ⟨t0, t1, t2, t4, t7, t10⟩ := i0 rfl
    exact ⟨fun i => if i = 64 then nI (f 0) else 0, fun _ => 0, 0, RT_anew (show f 0 ≤ 12 from hl 0 (by decide)) t0 t1 t2 t4 t7 t10 (fun i _ => rfl)⟩
  · obtain ⟨m, ah, um, hR⟩ := hT.resolve_left (by decide)
    have e := i1 rfl
    subst e
    have hp : pv f < 65536 := pv_lt (hl 1 (by decide)) (hl 2 (by decide)) (hl 3 (by decide)) (hl 4 (by decide))
    have h0 : f 0 ≤ 1 := hl 0 (by decide)
    exact ⟨_, ah, um, RT_pot hR (by omega) (by omega)⟩
  · obtain ⟨m, ah, um, hR⟩ := hT.resolve_left (by decide)
    obtain ⟨a1, a2, a3⟩ := i2 rfl
    obtain ⟨p1, p2, p3, p4, p5⟩ := hR.tel
    have h0 : f 0 ≤ 5 := hl 0 (by decide)
    exact ⟨fun i => if i < 64 then T' 1 i else if i = 64 then T' 2 0 else m i, ah, um, RT_put hR a1 (by omega) a2 (fun c hc => mx_le (p5 c hc).1 (ink_le h0 p1)) a3 (fun c hc => (if_pos hc).trans (a3 c hc)) a2 (fun i hi => (if_neg (by omega)).trans (if_neg (by omega)))⟩
theorem s3_put {X T : ZI} {v : Nat} {f : Nat → Nat} (hv : v < 3) (hl : ∀ j, j < lml v → f j ≤ lmt v j) (x6 : ∀ j, j < lml v → X 6 j = nI (f j)) (hT : v = 0 ∨ WT T) {post : ZI → ZI → Prop} (h : ∀ T', IS v f T T' → post X T') : w_X3_putItem X T (nI v) post := by
  unfold w_X3_putItem
  rcases (show v = 0 ∨ v = 1 ∨ v = 2 by omega) with rfl | rfl | rfl
  · rw [x6 0 (by decide)]
    exact bT rfl (s_beginAnew (fun T' t0 t1 t2 t4 t7 t10 => h T' ⟨fun _ => ⟨t0, t1, t2, t4, t7, t10⟩, fun q => absurd q (by decide), fun q => absurd q (by decide)⟩))
  · have h0 : f 0 ≤ 1 := hl 0 (by decide)
    refine bF (by decide) (bT rfl ?_)
    rw [x6 0 (by decide), x6 1 (by decide), x6 2 (by decide), x6 3 (by decide), x6 4 (by decide), pv_eq (hl 2 (by decide)) (hl 3 (by decide)) (hl 4 (by decide)), ncl (by omega)]
    refine ⟨in_ (by omega) (by decide), ?_⟩
    rintro T2 rfl
    exact h _ ⟨fun q => absurd q (by decide), fun _ => rfl, fun q => absurd q (by decide)⟩
  · obtain ⟨m, ah, um, hR⟩ := hT.resolve_left (by decide)
    obtain ⟨p1, p2, p3, p4, p5⟩ := hR.tel
    have h0 : f 0 ≤ 5 := hl 0 (by decide)
    have h1 : f 1 ≤ 1 := hl 1 (by decide)
    refine bF (by decide) (bF (by decide) ?_)
    rw [x6 0 (by decide), x6 1 (by decide), x6 2 (by decide), x6 3 (by decide), x6 4 (by decide)]
    refine s_put (g := fun c => (T 1 c).toNatClampNeg) h0 h1 (hl 2 (by decide)) (hl 3 (by decide)) (hl 4 (by decide)) (p4 (f 1) h1).1 p1 (p4 (f 1) h1).2.1 p2 (fun c hc => ⟨(p5 c hc).2.1, (p5 c hc).1⟩) (fun T' a1 a2 a3 => h T' ⟨fun q => absurd q (by decide), fun q => absurd q (by decide), fun _ => ⟨a1, a2, a3⟩⟩)
