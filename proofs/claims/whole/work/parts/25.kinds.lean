/-! force, fromOne, dips, edge, gap -/
theorem br_ite {α : Sort _} {c : Prop} (dc : Decidable c) {a b : α} {post : α → Prop} {A B : Prop} (hA : post a → A) (hB : post b → B) (h : post (@ite α c dc a b)) : (c → A) ∧ (¬ c → B) :=
  ⟨fun hc => hA (by rw [if_pos hc] at h; exact h), fun hc => hB (by rw [if_neg hc] at h; exact h)⟩
theorem nr_ite {α : Sort _} {c : Prop} (dc : Decidable c) {a b : α} {post : α → Prop} {A B : Prop} (hA : post a → A) (hB : post b → B) (h : post (@ite α c dc a b)) : (¬ c → B) ∧ (c → A) := (br_ite dc hA hB h).symm
def dkn (k p : Nat) : Nat :=
  let v := if 9 < p then 9 else p
  let h := if v = 0 then 0 else if 9 < v + 2 then 9 else v + 2
  if k = 1 ∨ k = 3 then h else if k = 2 ∨ k = 4 then (v + 1) / 2 else if k = 5 then h - 1 else v
def tkn (k p : Nat) : Nat := if k = 1 ∨ k = 3 ∨ k = 5 then (if p < 2 then p else 2) else (if p < 1 then p else 1)
theorem dkn_le : ∀ k, k < 6 → ∀ p, p < 13 → dkn k p ≤ 9 := by decide +kernel
theorem tkn_le : ∀ k, k < 6 → ∀ p, p < 13 → tkn k p ≤ p ∧ (0 < p → 0 < tkn k p) := by decide +kernel
/-- what a tree of branches answers -/
def F_dark0 (x0 x1 : Int32) : Int32 :=
  let v1 : Int32 := if 9 < x1 then 9 else x1
  let v2 : Int32 := if 9 < (v1 + 2) then 9 else (v1 + 2)
  if 0 < v1 then (if x0 = 1 then v2 else if x0 = 2 then (v1 + 1) / 2 else if x0 = 3 then v2 else if x0 = 4 then (v1 + 1) / 2 else if x0 = 5 then v2 - 1 else v1) else 0
theorem F_dark0_ok {x0 x1 : Int32} {post : Int32 → Prop} (h : post (F_dark0 x0 x1)) : w_X0_darkness x0 x1 post := by
  rintro v1 rfl
  refine br_ite _ (fun h => ?_) id h
  rintro v2 rfl
  exact br_ite _ id (br_ite _ id (br_ite _ id (br_ite _ id (br_ite _ id id)))) h
theorem F_dark0_eq : ∀ k, k < 6 → ∀ p, p < 13 → F_dark0 (nI k) (nI p) = nI (dkn k p) := by decide +kernel
theorem s0_dark {k p : Nat} (hk : k ≤ 5) (hp : p ≤ 12) {post : Int32 → Prop} (h : post (nI (dkn k p))) : w_X0_darkness (nI k) (nI p) post := F_dark0_ok (by rw [F_dark0_eq k (by omega) p (by omega)]; exact h)
def F_dark5 (x0 x1 : Int32) : Int32 :=
  let r1 : Int32 := if x1 ≤ 9 then x1 else 9
  if x0 = 0 then r1 else if x0 = 2 then (r1 + 1) / 2 else if x0 = 4 then (r1 + 1) / 2 else
    if r1 = 0 then (if x0 = 5 then 0 else 0) else
      if (r1 + 2) ≤ 9 then (if x0 = 5 then (if r1 + 2 = 0 then 0 else r1 + 2 - 1) else r1 + 2) else (if x0 = 5 then (9 : Int32) - 1 else 9)
theorem F_dark5_ok {x0 x1 : Int32} {post : Int32 → Prop} (h : post (F_dark5 x0 x1)) : w_X5_darkBy x0 x1 post := by
  have key : ∀ r1 : Int32, post (if x0 = 0 then r1 else if x0 = 2 then (r1 + 1) / 2 else if x0 = 4 then (r1 + 1) / 2 else if r1 = 0 then (if x0 = 5 then 0 else 0) else if (r1 + 2) ≤ 9 then (if x0 = 5 then (if r1 + 2 = 0 then 0 else r1 + 2 - 1) else r1 + 2) else (if x0 = 5 then (9 : Int32) - 1 else 9)) → ((¬ x0 = 0 → ((x0 = 2 → post ((r1 + 1) / 2)) ∧ (¬ x0 = 2 → ((¬ x0 = 4 → ((¬ r1 = 0 → (((r1 + 2) ≤ 9 → ∀ v2 : Int32, v2 = r1 + 2 → ((x0 = 5 → ((¬ v2 = 0 → post (v2 - 1)) ∧ (v2 = 0 → post 0))) ∧ (¬ x0 = 5 → post v2))) ∧ (¬ (r1 + 2) ≤ 9 → ((x0 = 5 → post ((9 : Int32) - 1)) ∧ (¬ x0 = 5 → post 9))))) ∧ (r1 = 0 → ((x0 = 5 → post 0) ∧ (¬ x0 = 5 → post 0))))) ∧ (x0 = 4 → post ((r1 + 1) / 2)))))) ∧ (x0 = 0 → post r1)) := by
    intro r1 h
    refine nr_ite _ id (br_ite _ id (nr_ite _ id (nr_ite _ (br_ite _ id id) (br_ite _ (fun h => ?_) (br_ite _ id id))))) h
    rintro v2 rfl
    exact br_ite _ (nr_ite _ id id) id h
  unfold w_X5_darkBy w_X5_plain
  unfold F_dark5 at h
  by_cases hc : x1 ≤ 9
  · rw [if_pos hc] at h
    exact bT hc (key _ h)
  · rw [if_neg hc] at h
    exact bF hc (key _ h)
theorem F_dark5_eq : ∀ k, k < 6 → ∀ p, p < 13 → F_dark5 (nI k) (nI p) = nI (dkn k p) := by decide +kernel
theorem s5_dark {k p : Nat} (hk : k ≤ 5) (hp : p ≤ 12) {post : Int32 → Prop} (h : post (nI (dkn k p))) : w_X5_darkBy (nI k) (nI p) post := F_dark5_ok (by rw [F_dark5_eq k (by omega) p (by omega)]; exact h)
theorem s0_take {k p : Nat} (hk : k ≤ 5) (hp : p ≤ 12) {post : Int32 → Prop} (h : post (nI (tkn k p))) : w_X0_paintTaken (nI k) (nI p) post := by
  have t1 : ∀ k, k < 6 → (nI k = 1 ∨ nI k = 3 ∨ nI k = 5) ∨ (¬ nI k = 1 ∧ ¬ nI k = 3 ∧ ¬ nI k = 5) := by decide +kernel
  have t2 : ∀ k, k < 6 → ∀ p, p < 13 → (nI k = 1 ∨ nI k = 3 ∨ nI k = 5) → (if nI p < 2 then nI p else 2) = nI (tkn k p) := by decide +kernel
  have t3 : ∀ k, k < 6 → ∀ p, p < 13 → (¬ nI k = 1 ∧ ¬ nI k = 3 ∧ ¬ nI k = 5) → (if nI p < 1 then nI p else 1) = nI (tkn k p) := by decide +kernel
  unfold w_X0_paintTaken
  rcases t1 k (by omega) with c | c
  · have e := t2 k (by omega) p (by omega) c
    have hb : ((1 : Int32) = 0 → post (if nI p < 1 then nI p else 1)) ∧ (¬ (1 : Int32) = 0 → post (if nI p < 2 then nI p else 2)) := b1 (by rw [e]; exact h)
    unfold w_X0_isHard
    by_cases c1 : nI k = 1
    · exact bT c1 hb
    · by_cases c3 : nI k = 3
      · exact bF c1 (bT c3 hb)
      · have c5 : nI k = 5 := by rcases c with c | c | c; exact absurd c c1; exact absurd c c3; exact c
        exact bF c1 (bF c3 (nT c5 hb))
  · have e := t3 k (by omega) p (by omega) c
    exact bF c.1 (bF c.2.1 (nF c.2.2 (b0 (by rw [e]; exact h))))
theorem s5_take {k p : Nat} (hk : k ≤ 5) (hp : p ≤ 12) {post : Int32 → Prop} (h : post (nI (tkn k p))) : w_X5_takesBy (nI k) (nI p) post := by
  have t1 : ∀ k, k < 6 → (nI k = 1 ∨ nI k = 3 ∨ nI k = 5) ∨ (¬ nI k = 1 ∧ ¬ nI k = 3 ∧ ¬ nI k = 5) := by decide +kernel
  have t2 : ∀ k, k < 6 → ∀ p, p < 13 → (nI k = 1 ∨ nI k = 3 ∨ nI k = 5) → (if (2 : Int32) ≤ nI p then 2 else nI p) = nI (tkn k p) := by decide +kernel
  have t3 : ∀ k, k < 6 → ∀ p, p < 13 → (¬ nI k = 1 ∧ ¬ nI k = 3 ∧ ¬ nI k = 5) → (if (1 : Int32) ≤ nI p then 1 else nI p) = nI (tkn k p) := by decide +kernel
  unfold w_X5_takesBy
  rcases t1 k (by omega) with c | c
  · have e := t2 k (by omega) p (by omega) c
    have hb : ((2 : Int32) ≤ nI p → post 2) ∧ (¬ (2 : Int32) ≤ nI p → post (nI p)) := br_ite inferInstance id id (by rw [e]; exact h)
    by_cases c1 : nI k = 1
    · exact bT c1 hb
    · by_cases c3 : nI k = 3
      · exact bF c1 (bT c3 hb)
      · have c5 : nI k = 5 := by rcases c with c | c | c; exact absurd c c1; exact absurd c c3; exact c
        exact bF c1 (bF c3 (nT c5 hb))
  · have e := t3 k (by omega) p (by omega) c
    exact bF c.1 (bF c.2.1 (nF c.2.2 (br_ite inferInstance id id (by rw [e]; exact h))))
/-- how many prints from p -/
def npr (k d : Nat) : Nat → Nat → Nat
  | 0, _ => 0
  | f + 1, p => if p = 0 then 0 else if dkn k p < d then 0 else 1 + npr k d f (p - tkn k p)
theorem npr_le (k d : Nat) : ∀ f p, npr k d f p ≤ f := by
  intro f
  induction f with
  | zero => intro p; exact Nat.le_refl 0
  | succ f ih =>
    intro p
    unfold npr
    split
    · omega
    · split
      · omega
      · have := ih (p - tkn k p)
        omega
theorem npr_fuel {k d : Nat} (hk : k ≤ 5) : ∀ f p, p ≤ 12 → p ≤ f → npr k d (f + 1) p = npr k d f p := by
  intro f
  induction f with
  | zero =>
    intro p h1 h2
    have : p = 0 := by omega
    subst this
    rfl
  | succ f ih =>
    intro p h1 h2
    show (if p = 0 then 0 else if dkn k p < d then 0 else 1 + npr k d (f + 1) (p - tkn k p)) = (if p = 0 then 0 else if dkn k p < d then 0 else 1 + npr k d f (p - tkn k p))
    by_cases h0 : p = 0
    · rw [if_pos h0, if_pos h0]
    · have t := tkn_le k (by omega) p (by omega)
      rw [ih _ (by omega) (by have := t.2 (by omega); omega)]
theorem s0_prints {k p d : Nat} (hk : k ≤ 5) (hp : p ≤ 12) (hd : d ≤ 9) {post : Int32 → Prop} (h : post (nI (npr k d 13 p))) : w_X0_printsOfOneDip (nI k) (nI p) (nI d) post := by
  refine ⟨14, ?_⟩
  have H := it_dn (w_X0_printsOfOneDip_L5 (nI k) (nI p) (nI d) post (fun (v4 : Int32) (v5 : Int32) => post v5)) (fun _ _ => False) (fun (n : Nat) (rec : Int32 → Int32 → Prop) => ∀ q c : Nat, q ≤ n → q ≤ 12 → q + c ≤ 12 → c + npr k d (n + 1) q = npr k d 13 p → rec (nI q) (nI c)) (fun rec q c h1 h2 h3 e => ?_) (fun n rec ih q c h1 h2 h3 e => ?_) 13 p 0 (by omega) hp (by omega) (by rw [Nat.zero_add, npr_fuel hk 13 p hp (by omega)])
  · exact H
  · have : q = 0 := by omega
    subst this
    refine bT (nI_le (a := 0) (b := 0) (by decide) (by decide)) ?_
    rw [← e] at h
    exact h
  · by_cases h0 : q = 0
    · subst h0
      refine bT (nI_le (a := 0) (b := 0) (by decide) (by decide)) ?_
      rw [← e] at h
      exact h
    · refine bF (nI_nle (by omega) (by omega)) (bF (nI_ge (b := 12) (by omega) (by decide)) (s0_dark hk h2 ?_))
      have e1 : npr k d (n + 1 + 1) q = if q = 0 then 0 else if dkn k q < d then 0 else 1 + npr k d (n + 1) (q - tkn k q) := rfl
      rw [if_neg h0] at e1
      by_cases hlt : dkn k q < d
      · refine bT (nI_lt hlt (by omega)) ?_
        rw [if_pos hlt] at e1
        rw [← e, e1] at h
        exact h
      · have t := tkn_le k (by omega) q (by omega)
        have t2 := t.2 (by omega)
        refine bF (nI_nlt (by omega) (by have := dkn_le k (by omega) q (by omega); omega)) (s0_take hk h2 ?_)
        rintro v rfl
        rw [if_neg hlt] at e1
        rw [nsub t.1, nI_1]
        exact ih _ _ (by omega) (by omega) (by omega) (by rw [← e, e1]; omega)
theorem s5_prints {k p d : Nat} (hk : k ≤ 5) (hp : p ≤ 12) (hd : d ≤ 9) {post : Int32 → Prop} (h : post (nI (npr k d 13 p))) : w_X5_printsOf (nI k) (nI p) (nI d) post := by
  refine ⟨14, ?_⟩
  have H := it_dn (w_X5_printsOf_L5 (nI k) (nI p) (nI d) post (fun (v4 : Int32) (v5 : Int32) => post v5)) (fun _ _ => False) (fun (n : Nat) (rec : Int32 → Int32 → Prop) => ∀ q c : Nat, q ≤ n → q ≤ 12 → q + c ≤ 12 → c + npr k d (n + 1) q = npr k d 13 p → rec (nI q) (nI c)) (fun rec q c h1 h2 h3 e => ?_) (fun n rec ih q c h1 h2 h3 e => ?_) 13 p 0 (by omega) hp (by omega) (by rw [Nat.zero_add, npr_fuel hk 13 p hp (by omega)])
  · exact H
  · have : q = 0 := by omega
    subst this
    refine bT (nI_le (a := 0) (b := 0) (by decide) (by decide)) ?_
    rw [← e] at h
    exact h
  · by_cases h0 : q = 0
    · subst h0
      refine bT (nI_le (a := 0) (b := 0) (by decide) (by decide)) ?_
      rw [← e] at h
      exact h
    · refine bF (nI_nle (by omega) (by omega)) (s5_dark hk h2 ?_)
      have e1 : npr k d (n + 1 + 1) q = if q = 0 then 0 else if dkn k q < d then 0 else 1 + npr k d (n + 1) (q - tkn k q) := rfl
      rw [if_neg h0] at e1
      by_cases hlt : dkn k q < d
      · refine bT (nI_lt hlt (by omega)) ?_
        rw [if_pos hlt] at e1
        rw [← e, e1] at h
        exact h
      · have t := tkn_le k (by omega) q (by omega)
        have t2 := t.2 (by omega)
        refine bF (nI_nlt (by omega) (by have := dkn_le k (by omega) q (by omega); omega)) (s5_take hk h2 ?_)
        rintro v rfl
        rw [if_neg hlt] at e1
        rw [nsub t.1, nI_1]
        exact ih _ _ (by omega) (by omega) (by omega) (by rw [← e, e1]; omega)
theorem p_force : st_force Inv := by
  intro N D X PM PL i0 i1 M L x1 x2 x3 hI
  unfold w_X4_force
  have hbad : (¬ ((vld x1 0 5 ∧ vld x2 0 12) ∧ vld x3 0 1)) → w_X5_force M L x1 x2 x3 (fun r2 M L => (-2 : Int32) = r2 ∧ Inv N D X (mu PM 7 0 (PM 7 0 + 1)) PL i0 i1 M L) := fun hn => by
    unfold w_X5_force
    exact s_in (a := 0) (b := 5) (by decide) (by decide) (fun v1 => b1 (s_in (a := 0) (b := 12) (by decide) (by decide) (fun v2 => b1 (s_isWhat (fun v3 => absurd ⟨⟨v1, v2⟩, v3⟩ hn) (fun _ => b0n (s5_bad ⟨rfl, inv_bad hI⟩)))) (fun _ => b0 (s5_bad ⟨rfl, inv_bad hI⟩)))) (fun _ => b0 (s5_bad ⟨rfl, inv_bad hI⟩))
  refine s4_isDip (fun v => b1 (s_within (a := 0) (b := 1) (by decide) (by decide) (fun v3 => b1n ?_) (fun v3 => b0n (s4_bad (hbad (fun q => v3 q.2)))))) (fun v => b0 (s4_bad (hbad (fun q => v q.1))))
  obtain ⟨⟨k, -, hk, rfl⟩, ⟨p, -, hp, rfl⟩⟩ := id v
  obtain ⟨c, -, hc, rfl⟩ := id v3
  have go : ∀ A : Prop, ((¬ nI c = 0 → w_X5_takesBy (nI k) (nI p) (fun r10 => A)) ∧ (nI c = 0 → w_X5_darkBy (nI k) (nI p) (fun r11 => A))) → True := fun _ _ => trivial
  rcases (show c = 0 ∨ c = 1 by omega) with rfl | rfl
  · refine nT rfl (s0_dark hk hp ?_)
    unfold w_X5_force
    exact s_in (a := 0) (b := 5) (by decide) (by decide) (fun _ => b1 (s_in (a := 0) (b := 12) (by decide) (by decide) (fun _ => b1 (s_isWhat (fun _ => b1n (nT rfl (s5_dark hk hp ⟨rfl, hI⟩))) (fun q => absurd v3 q))) (fun q => absurd v.2 q))) (fun q => absurd v.1 q)
  · refine nF (by decide) (s0_take hk hp ?_)
    unfold w_X5_force
    exact s_in (a := 0) (b := 5) (by decide) (by decide) (fun _ => b1 (s_in (a := 0) (b := 12) (by decide) (by decide) (fun _ => b1 (s_isWhat (fun _ => b1n (nF (by decide) (s5_take hk hp ⟨rfl, hI⟩))) (fun q => absurd v3 q))) (fun q => absurd v.2 q))) (fun q => absurd v.1 q)
theorem p_fromOne : st_fromOne Inv := by
  intro N D X PM PL i0 i1 M L x1 x2 x3 hI
  unfold w_X4_fromOne
  have hbad : (¬ ((vld x1 0 5 ∧ vld x2 0 12) ∧ vld x3 1 9)) → w_X5_fromOne M L x1 x2 x3 (fun r2 M L => (-2 : Int32) = r2 ∧ Inv N D X (mu PM 7 0 (PM 7 0 + 1)) PL i0 i1 M L) := fun hn => by
    unfold w_X5_fromOne
    exact s_in (a := 0) (b := 5) (by decide) (by decide) (fun v1 => b1 (s_in (a := 0) (b := 12) (by decide) (by decide) (fun v2 => b1 (s_in (a := 1) (b := 9) (by decide) (by decide) (fun v3 => absurd ⟨⟨v1, v2⟩, v3⟩ hn) (fun _ => b0n (s5_bad ⟨rfl, inv_bad hI⟩)))) (fun _ => b0 (s5_bad ⟨rfl, inv_bad hI⟩)))) (fun _ => b0 (s5_bad ⟨rfl, inv_bad hI⟩))
  refine s4_isDip (fun v => b1 (s_within (a := 1) (b := 9) (by decide) (by decide) (fun v3 => b1n ?_) (fun v3 => b0n (s4_bad (hbad (fun q => v3 q.2)))))) (fun v => b0 (s4_bad (hbad (fun q => v q.1))))
  obtain ⟨⟨k, -, hk, rfl⟩, ⟨p, -, hp, rfl⟩⟩ := id v
  obtain ⟨d, hd1, hd, rfl⟩ := id v3
  refine s0_prints hk hp hd ?_
  unfold w_X5_fromOne
  exact s_in (a := 0) (b := 5) (by decide) (by decide) (fun _ => b1 (s_in (a := 0) (b := 12) (by decide) (by decide) (fun _ => b1 (s_in (a := 1) (b := 9) (by decide) (by decide) (fun _ => b1n (s5_prints hk hp hd ⟨rfl, hI⟩)) (fun q => absurd v3 q))) (fun q => absurd v.2 q))) (fun q => absurd v.1 q)
theorem p_dips : st_dips Inv := by
  intro N D X PM PL i0 i1 M L x1 x2 x3 x4 hI
  unfold w_X4_dips
  have hbad : (¬ ((vld x1 0 5 ∧ vld x2 0 12) ∧ vld x3 1 9 ∧ vld x4 0 60)) → w_X5_dips M L x1 x2 x3 x4 (fun r2 M L => (-2 : Int32) = r2 ∧ Inv N D X (mu PM 7 0 (PM 7 0 + 1)) PL i0 i1 M L) := fun hn => by
    unfold w_X5_dips
    exact s_in (a := 0) (b := 5) (by decide) (by decide) (fun v1 => b1 (s_in (a := 0) (b := 12) (by decide) (by decide) (fun v2 => b1 (s_in (a := 1) (b := 9) (by decide) (by decide) (fun v3 => b1 (s_in (a := 0) (b := 60) (by decide) (by decide) (fun v4 => absurd ⟨⟨v1, v2⟩, v3, v4⟩ hn) (fun _ => b0n (s5_bad ⟨rfl, inv_bad hI⟩)))) (fun _ => b0 (s5_bad ⟨rfl, inv_bad hI⟩)))) (fun _ => b0 (s5_bad ⟨rfl, inv_bad hI⟩)))) (fun _ => b0 (s5_bad ⟨rfl, inv_bad hI⟩))
  refine s4_isDip (fun v => b1 (s_within (a := 1) (b := 9) (by decide) (by decide) (fun v3 => b1 (s_within (a := 0) (b := 60) (by decide) (by decide) (fun v4 => b1n ?_) (fun v4 => b0n (s4_bad (hbad (fun q => v4 q.2.2)))))) (fun v3 => b0 (s4_bad (hbad (fun q => v3 q.2.1)))))) (fun v => b0 (s4_bad (hbad (fun q => v q.1))))
  obtain ⟨⟨k, -, hk, rfl⟩, ⟨p, -, hp, rfl⟩⟩ := id v
  obtain ⟨d, hd1, hd, rfl⟩ := id v3
  obtain ⟨n, -, hn, rfl⟩ := id v4
  have hm : ∀ (r : Int32), w_X5_printsOf (nI k) (nI p) (nI d) (fun r14 => ((¬ nI n = 0 → ((¬ r14 = 0 → ¬ r14 = 0 ∧ (r = ((nI n + r14) - 1) / r14 ∧ Inv N D X PM PL i0 i1 M L)) ∧ (r14 = 0 → (r = -1 ∧ Inv N D X PM PL i0 i1 M L)))) ∧ (nI n = 0 → (r = 0 ∧ Inv N D X PM PL i0 i1 M L)))) → w_X5_dips M L (nI k) (nI p) (nI d) (nI n) (fun r2 M L => r = r2 ∧ Inv N D X PM PL i0 i1 M L) := fun r h => by
    unfold w_X5_dips
    exact s_in (a := 0) (b := 5) (by decide) (by decide) (fun _ => b1 (s_in (a := 0) (b := 12) (by decide) (by decide) (fun _ => b1 (s_in (a := 1) (b := 9) (by decide) (by decide) (fun _ => b1 (s_in (a := 0) (b := 60) (by decide) (by decide) (fun _ => b1n h) (fun q => absurd v4 q))) (fun q => absurd v3 q))) (fun q => absurd v.2 q))) (fun q => absurd v.1 q)
  by_cases h0 : n = 0
  · subst h0
    exact nT rfl (hm _ (s5_prints hk hp hd (nT rfl ⟨rfl, hI⟩)))
  · have hn0 : ¬ nI n = 0 := nI_ne0 (by omega) (by omega)
    have hle := npr_le k d 13 p
    refine nF hn0 (s0_prints hk hp hd ?_)
    by_cases hz : npr k d 13 p = 0
    · rw [hz]
      refine bT (nI_le (a := 0) (b := 0) (by decide) (by decide)) (hm _ (s5_prints hk hp hd (nF hn0 ?_)))
      rw [hz]
      exact nT rfl ⟨rfl, hI⟩
    · have hr0 : ¬ nI (npr k d 13 p) = 0 := nI_ne0 (by omega) (by omega)
      exact bF (nI_nle (by omega) (by omega)) ⟨hr0, hm _ (s5_prints hk hp hd (nF hn0 (nF hr0 ⟨hr0, rfl, hI⟩)))⟩
/-! edges -/
def lfe (l g : Int32) : Int32 := (l + g) - (((l + g) / (4 + g)) * (4 + g))
theorem lfe_eq : ∀ l, l < 100 → ∀ g, g < 10 → (nI l - (4 * ((nI l + nI g) / (4 + nI g)))) - (nI g * (((nI l + nI g) / (4 + nI g)) - 1)) = lfe (nI l) (nI g) := by decide +kernel
theorem s_whole {l g : Nat} (hg : g ≤ 9) {post : Int32 → Prop} (h : post ((nI l + nI g) / (4 + nI g))) : w_X4_wholePrints (nI l) (nI g) post := by
  rintro v rfl
  have e : (4 : Int32) + nI g = nI (4 + g) := nI_add 4 g
  rw [e] at h ⊢
  exact bF (nI_nle (by omega) (by omega)) ⟨nI_ne0 (by omega) (by omega), h⟩
theorem s_lefte {l g : Nat} (hg : g ≤ 9) {post : Int32 → Prop} (h : post (lfe (nI l) (nI g))) : w_X4_leftOfEdge (nI l) (nI g) post := s_whole hg h
theorem s5_left {l g : Nat} (hl : l ≤ 99) (hg : g ≤ 9) {post : Int32 → Prop} (h : post (lfe (nI l) (nI g))) : w_X5_leftOf (nI l) (nI g) post := by
  refine ⟨?_, ?_⟩
  · rw [show (4 : Int32) + nI g = nI (4 + g) from nI_add 4 g]
    exact nI_ne0 (by omega) (by omega)
  · rintro v rfl
    rw [lfe_eq l (by omega) g (by omega)]
    exact h
theorem p_edge : st_edge Inv := by
  intro N D X PM PL i0 i1 M L x1 x2 x3 hI
  unfold w_X4_edge
  have hbad : (¬ (vld x1 4 99 ∧ vld x2 0 9 ∧ vld x3 0 1)) → w_X5_edge M L x1 x2 x3 (fun r2 M L => (-2 : Int32) = r2 ∧ Inv N D X (mu PM 7 0 (PM 7 0 + 1)) PL i0 i1 M L) := fun hn => by
    unfold w_X5_edge
    exact s_in (a := 4) (b := 99) (by decide) (by decide) (fun v1 => b1 (s_in (a := 0) (b := 9) (by decide) (by decide) (fun v2 => b1 (s_isWhat (fun v3 => absurd ⟨v1, v2, v3⟩ hn) (fun _ => b0n (s5_bad ⟨rfl, inv_bad hI⟩)))) (fun _ => b0 (s5_bad ⟨rfl, inv_bad hI⟩)))) (fun _ => b0 (s5_bad ⟨rfl, inv_bad hI⟩))
  refine s_within (a := 4) (b := 99) (by decide) (by decide) (fun v1 => b1 (s_within (a := 0) (b := 9) (by decide) (by decide) (fun v2 => b1 (s_within (a := 0) (b := 1) (by decide) (by decide) (fun v3 => b1n ?_) (fun v3 => b0n (s4_bad (hbad (fun q => v3 q.2.2)))))) (fun v2 => b0 (s4_bad (hbad (fun q => v2 q.2.1)))))) (fun v1 => b0 (s4_bad (hbad (fun q => v1 q.1))))
  obtain ⟨l, hl1, hl, rfl⟩ := id v1
  obtain ⟨g, -, hg, rfl⟩ := id v2
  obtain ⟨c, -, hc, rfl⟩ := id v3
  rcases (show c = 0 ∨ c = 1 by omega) with rfl | rfl
  · refine nT rfl (s_whole hg ?_)
    unfold w_X5_edge
    refine s_in (a := 4) (b := 99) (by decide) (by decide) (fun _ => b1 (s_in (a := 0) (b := 9) (by decide) (by decide) (fun _ => b1 (s_isWhat (fun _ => b1n (nT rfl ⟨?_, rfl, hI⟩)) (fun q => absurd v3 q))) (fun q => absurd v2 q))) (fun q => absurd v1 q)
    rw [show (4 : Int32) + nI g = nI (4 + g) from nI_add 4 g]
    exact nI_ne0 (by omega) (by omega)
  · refine nF (by decide) (s_lefte hg ?_)
    unfold w_X5_edge
    exact s_in (a := 4) (b := 99) (by decide) (by decide) (fun _ => b1 (s_in (a := 0) (b := 9) (by decide) (by decide) (fun _ => b1 (s_isWhat (fun _ => b1n (nF (by decide) (s5_left hl hg ⟨rfl, hI⟩))) (fun q => absurd v3 q))) (fun q => absurd v2 q))) (fun q => absurd v1 q)
def gpb (l : Nat) : Nat → Nat
  | 0 => 0
  | k + 1 => if lfe (nI l) (nI (gpb l k)) ≤ lfe (nI l) (nI (k + 1)) then gpb l k else k + 1
theorem gpb_le (l : Nat) : ∀ k, gpb l k ≤ k := by
  intro k
  induction k with
  | zero => exact Nat.le_refl 0
  | succ k ih =>
    unfold gpb
    split <;> omega
theorem p_gap : st_gap Inv := by
  intro N D X PM PL i0 i1 M L x1 hI
  unfold w_X4_gap
  refine s_within (a := 4) (b := 99) (by decide) (by decide) (fun v => b1n ?_) (fun v => b0n (s4_bad ?_))
  · obtain ⟨l, hl1, hl, rfl⟩ := id v
    refine ⟨10, it_up _ _ (fun (k : Nat) (rec : Int32 → Int32 → Prop) => rec (nI (gpb l k)) (nI (k + 1))) 9 (fun k hk rec ih => ?_) (fun rec => ?_)⟩
    · unfold w_X4_gap_L21
      have hb := gpb_le l k
      refine bF (nI_nlt (a := 9) (b := k + 1) (by omega) (by decide)) (s_lefte (by omega) (s_lefte (by omega) ?_))
      rw [nI_1]
      have e : gpb l (k + 1) = if lfe (nI l) (nI (gpb l k)) ≤ lfe (nI l) (nI (k + 1)) then gpb l k else k + 1 := rfl
      rw [e] at ih
      exact br_ite inferInstance (post := fun z : Nat => rec (nI z) (nI (k + 1 + 1))) id id ih
    · unfold w_X4_gap_L21
      refine bT (nI_lt (a := 9) (b := 10) (by decide) (by decide)) ?_
      unfold w_X5_gap
      refine s_in (a := 4) (b := 99) (by decide) (by decide) (fun _ => b1n ?_) (fun q => absurd v q)
      refine ⟨10, it_up _ _ (fun (k : Nat) (rec : Int32 → Int32 → Prop) => rec (nI (gpb l k)) (nI (k + 1))) 9 (fun k hk rec ih => ?_) (fun rec => ?_)⟩
      · unfold w_X5_gap_L23
        have hb := gpb_le l k
        refine bF (nI_nlt (a := 9) (b := k + 1) (by omega) (by decide)) (s5_left hl (by omega) (s5_left hl (by omega) ?_))
        rw [nI_1]
        have e : gpb l (k + 1) = if lfe (nI l) (nI (gpb l k)) ≤ lfe (nI l) (nI (k + 1)) then gpb l k else k + 1 := rfl
        rw [e] at ih
        exact br_ite inferInstance (post := fun z : Nat => rec (nI z) (nI (k + 1 + 1))) id id ih
      · unfold w_X5_gap_L23
        exact bT (nI_lt (a := 9) (b := 10) (by decide) (by decide)) ⟨rfl, hI⟩
  · unfold w_X5_gap
    exact s_in (a := 4) (b := 99) (by decide) (by decide) (fun q => absurd q v) (fun _ => b0n (s5_bad ⟨rfl, inv_bad hI⟩))
