def wln (si : Nat) : Nat := slens.getD si 0
def wch (si i : Nat) : Nat := ((([[116, 97, 98, 108, 101], [112, 111, 116, 97, 116, 111], [112, 114, 105, 110, 116]] : List (List Nat)).getD si []).getD i 0)
theorem T_sch : ∀ si, si < 3 → ∀ i, i < 6 → sch si i = nI (wch si i) ∧ wch si i < 128 := by decide +kernel
theorem T_wln : ∀ si, si < 3 → wln si ≤ 6 ∧ 1 ≤ wln si ∧ slen si = nI (wln si) := by decide +kernel
def isw (b : Nat → Nat) (s e si : Nat) : Bool := decide (e - s = wln si) && alb (fun i => decide (b (s + i) = wch si i)) (wln si)
theorem s3_isWord {X : ZI} {b : Nat → Nat} {w s e si : Nat} (hX : TX X b w) (x2 : X 2 0 = nI s) (x3 : X 3 0 = nI e) (hse : s ≤ e) (he : e ≤ w) (hsi : si < 3) {post : Int32 → ZI → Prop} (h : post (if isw b s e si then 1 else 0) X) : w_X3_isTheWord X si post := by
  obtain ⟨hw, x1, xb⟩ := hX
  obtain ⟨l1, l2, l3⟩ := T_wln si hsi
  unfold w_X3_isTheWord
  rw [x2, x3, nsub hse]
  intro r1 er
  rw [er, l3]
  unfold isw at h
  refine ⟨fun q => ?_, fun q => ?_⟩
  · have q : e - s = wln si := nI_ij (by omega) (by omega) q
    rw [decide_eq_true q, Bool.true_and] at h
    refine ⟨wln si + 1, it_up _ _ (fun (i : Nat) (rec : Int32 → Prop) => alb (fun i => decide (b (s + i) = wch si i)) i = true → rec (nI i)) (wln si) (fun i hi rec ih ha => ?_) (fun rec ha => ?_) rfl⟩
    · unfold w_X3_isTheWord_L20
      obtain ⟨c1, c2⟩ := xb (s + i) (by omega)
      obtain ⟨k1, k2⟩ := T_sch si hsi i (by omega)
      intro r2 er2
      rw [er2, l3, x1, x2, nI_add, ncl (by omega), ncl (by omega), c1, k1, nI_1]
      refine bF (nI_ge hi (by omega)) (bF (nI_ge (by omega) (by omega)) ⟨in_ (by omega) (by decide), in_ (n := wln si) hi (by omega), ?_⟩)
      rintro r3 rfl
      refine ⟨fun g => ih ?_, fun g => ?_⟩
      · show (alb (fun i => decide (b (s + i) = wch si i)) i && decide (b (s + i) = wch si i)) = true
        rw [ha, decide_eq_true (nI_ij (by omega) (by omega) g)]
        rfl
      · have hn : ¬ alb (fun i => decide (b (s + i) = wch si i)) (wln si) = true := fun g2 => g (by rw [of_decide_eq_true ((alb_iff _).mp g2 i hi)])
        rw [if_neg hn] at h
        exact h
    · unfold w_X3_isTheWord_L20
      intro r2 er2
      rw [er2, l3]
      rw [if_pos ha] at h
      exact bT (nI_le (Nat.le_refl _) (by omega)) h
  · have q : ¬ e - s = wln si := fun e9 => q (by rw [e9])
    rw [decide_eq_false q, Bool.false_and] at h
    exact h
def wd (b : Nat → Nat) (s e : Nat) : Nat := if isw b s e 0 then 0 else if isw b s e 1 then 1 else if isw b s e 2 then 2 else 3
theorem s3_takeWord {X : ZI} {b : Nat → Nat} {w s : Nat} (hX : TX X b w) (x2 : X 2 0 = nI s) (x3 : X 3 0 = nI s) (hs : s ≤ w) {post : ZI → Prop} (h : ∀ Y : ZI, Y 0 = X 0 → Y 1 = X 1 → Y 6 = X 6 → Y 2 0 = nI s → Y 3 0 = nI (ru (isl b) w s) → (wd b s (ru (isl b) w s) < 3 → Y 4 0 = nI 1 ∧ Y 5 0 = nI (wd b s (ru (isl b) w s))) → (¬ wd b s (ru (isl b) w s) < 3 → Y 4 0 = nI 4) → post Y) : w_X3_takeWord X post := by
  unfold w_X3_takeWord
  obtain ⟨r1, r2⟩ := ru_le (f := isl b) (w := w) (w - s) s (Nat.le_refl _)
  have r2 := r2 hs
  refine s3_letters hX (w - s) s hs (Nat.le_refl _) X (fun _ _ => rfl) x3 (fun Z z1 z2 => ?_)
  rintro X5 rfl
  have hZ : TX (mu Z 4 0 1) b w := hX.re (z1 0 (by decide)) (z1 1 (by decide))
  have y2 : mu Z 4 0 1 2 0 = nI s := (congrFun (z1 2 (by decide)) 0).trans x2
  have y3 : mu Z 4 0 1 3 0 = nI (ru (isl b) w s) := z2
  refine s3_isWord hZ y2 y3 r1 r2 (by decide) ?_
  cases i0 : isw b s (ru (isl b) w s) 0
  · refine b0 (s3_isWord hZ y2 y3 r1 r2 (by decide) ?_)
    cases i1 : isw b s (ru (isl b) w s) 1
    · refine b0 (s3_isWord hZ y2 y3 r1 r2 (by decide) ?_)
      cases i2 : isw b s (ru (isl b) w s) 2
      · have e : wd b s (ru (isl b) w s) = 3 := by
          unfold wd
          rw [i0, i1, i2]
          rfl
        rw [e] at h
        refine b0 ?_
        rintro X12 rfl
        exact h _ (z1 0 (by decide)) (z1 1 (by decide)) (z1 6 (by decide)) y2 y3 (fun q => absurd q (by decide)) (fun _ => rfl)
      · have e : wd b s (ru (isl b) w s) = 2 := by
          unfold wd
          rw [i0, i1, i2]
          rfl
        rw [e] at h
        refine b1 ?_
        rintro X12 rfl
        exact h _ (z1 0 (by decide)) (z1 1 (by decide)) (z1 6 (by decide)) y2 y3 (fun _ => ⟨rfl, rfl⟩) (fun q => absurd (by decide) q)
    · have e : wd b s (ru (isl b) w s) = 1 := by
        unfold wd
        rw [i0, i1]
        rfl
      rw [e] at h
      refine b1 ?_
      rintro X12 rfl
      exact h _ (z1 0 (by decide)) (z1 1 (by decide)) (z1 6 (by decide)) y2 y3 (fun _ => ⟨rfl, rfl⟩) (fun q => absurd (by decide) q)
  · have e : wd b s (ru (isl b) w s) = 0 := by
      unfold wd
      rw [i0]
      rfl
    rw [e] at h
    refine b1 ?_
    rintro X12 rfl
    exact h _ (z1 0 (by decide)) (z1 1 (by decide)) (z1 6 (by decide)) y2 y3 (fun _ => ⟨rfl, rfl⟩) (fun q => absurd (by decide) q)
