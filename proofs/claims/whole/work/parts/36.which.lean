def ff (f : Nat → Bool) (g : Nat → Nat) : Nat → Nat → Int32
  | 0, _ => -1
  | n + 1, k => if f k then nI (g k) else ff f g n (k + 1)
def cnd (f : Nat → Bool) : Nat → Nat → Nat
  | 0, _ => 0
  | n + 1, k => cnd f n (k + 1) + (if f k then 1 else 0)
theorem cnd_cnt (f : Nat → Bool) : ∀ n k, cnt f k + cnd f n k = cnt f (k + n) := by
  intro n
  induction n with
  | zero => exact fun k => rfl
  | succ n ih =>
    intro k
    have := ih (k + 1)
    have e1 : cnt f (k + 1) = cnt f k + (if f k then 1 else 0) := rfl
    have e2 : cnd f (n + 1) k = cnd f n (k + 1) + (if f k then 1 else 0) := rfl
    rw [show k + (n + 1) = k + 1 + n by omega]
    omega
def pr : Nat → Int32
  | 0 => -1
  | n + 1 => nI n
theorem pr_dn (n : Nat) : nI n + (-1) = pr n := by
  cases n with
  | zero => rfl
  | succ n =>
    rw [← nI_1, Int32.add_assoc]
    show nI n + (1 + -1) = nI n
    rw [show (1 : Int32) + -1 = nI 0 from rfl, nI_add]
    rfl
def ni (i : Nat) : Nat := 100 * (i / 64) + 10 * (i / 8 % 8) + i % 8
theorem s4_num {i : Nat} (hi : i < 256) {post : Int32 → Prop} (h : post (nI (ni i))) : w_X4_placingNumber (nI i) post := by
  unfold w_X4_placingNumber
  rw [(T_wh i hi).1, (T_wh i hi).2.1, (T_wh i hi).2.2, mnum]
  exact h
theorem s5_num {i : Nat} (hi : i < 256) {post : Int32 → Prop} (h : post (nI (ni i))) : w_X5_numberBy (nI i) post := by
  unfold w_X5_numberBy w_X5_numberOf
  rw [(T_wh i hi).1, (T_wh i hi).2.1, (T_wh i hi).2.2, mnum]
  exact h
def fw (v : Nat) (A B : Nat → Nat) (w i : Nat) : Bool := fbb (cvi (lk v (i / 64)) (i % 8) (i / 8 % 8) 16) A B w
theorem s4_whl {N D X PM : ZI} {P : ZL} {v w : Nat} {A B : Nat → Nat} (hE : EV v P 256) {s1 s0 : Int64} (hA : ∀ i, i < w → A i ≤ 63 ∧ B i ≤ 1) (h1 : ∀ c, c < 64 → lb s1 c = snb A B 1 w c) (h0 : ∀ c, c < 64 → lb s0 c = snb A B 0 w c) {x1 x2 : Int32} {post : Int32 → ZI → ZI → ZI → ZI → ZL → Prop} {K : Int32 → Int32 → Int32 → Prop} (h : K (nI (cnt (fw v A B w) 256)) (ff (fw v A B w) ni 256 0) (nI 256)) : ∃ n, itF (w_X4_which_L66 N D X PM P x1 x2 s1 s0 post K) (fun _ _ _ => False) n 0 (-1) 0 := by
  refine ⟨257, it_up _ _ (fun (i : Nat) (rec : Int32 → Int32 → Int32 → Prop) => ∀ y : Int32, ((cnt (fw v A B w) i = 0 → y = -1 ∧ ff (fw v A B w) ni (256 - i) i = ff (fw v A B w) ni 256 0) ∧ (¬ cnt (fw v A B w) i = 0 → y = ff (fw v A B w) ni 256 0)) → rec (nI (cnt (fw v A B w) i)) y (nI i)) 256 (fun i hi rec ih y hy => ?_) (fun rec y hy => ?_) (-1) ⟨fun _ => ⟨rfl, rfl⟩, fun q => absurd rfl q⟩⟩
  · unfold w_X4_which_L66
    refine bF (nI_ge (b := 256) hi (by decide)) ⟨in_ hi (by decide), ?_⟩
    rw [ncl (by omega)]
    refine s_fits hA h1 h0 (hE i hi) ?_
    rw [show fbb (cvi (lk v (i / 64)) (i % 8) (i / 8 % 8) 16) A B w = fw v A B w i from rfl]
    have e0 : ff (fw v A B w) ni (256 - i) i = if fw v A B w i then nI (ni i) else ff (fw v A B w) ni (256 - (i + 1)) (i + 1) := by
      rw [show 256 - i = (256 - (i + 1)) + 1 by omega]
      rfl
    have hle := cnt_le (fw v A B w) i
    rw [e0] at hy
    rw [nI_1]
    cases hf : fw v A B w i
    · rw [hf] at hy
      have := ih y
      rw [cnt_no hf] at this
      exact b0 (this hy)
    · rw [hf] at hy
      have key : ∀ y', y' = ff (fw v A B w) ni 256 0 → rec (nI (cnt (fw v A B w) i) + 1) y' (nI (i + 1)) := by
        intro y' ey
        have := ih y'
        rw [cnt_yes hf, ← nI_1] at this
        exact this ⟨fun q => absurd q (by omega), fun _ => ey⟩
      refine b1 ⟨fun q => key y (hy.2 (fun e => q (by rw [e]; rfl))), fun q => s4_num hi (key _ ?_)⟩
      exact (hy.1 (nI_ij (b := 0) (by omega) (by decide) q)).2
  · unfold w_X4_which_L66
    refine bT (nI_le (a := 256) (b := 256) (by decide) (by decide)) ?_
    have : y = ff (fw v A B w) ni 256 0 := by
      by_cases q : cnt (fw v A B w) 256 = 0
      · exact (hy.1 q).1.trans (hy.1 q).2
      · exact hy.2 q
    rw [this]
    exact h
theorem s5_whl {M : ZI} {L : ZL} {z v w : Nat} {A B : Nat → Nat} (hz : z ≤ 1) (hv : v < 65536) (e : M 0 (65 + z) = nI v) (hw : w ≤ 8) (ew : M 0 76 = nI w) (hA : ∀ i, i < w → A i ≤ 63 ∧ B i ≤ 1 ∧ M 0 (77 + i) = nI (2 * A i + B i)) {x2 : Int32} {post : Int32 → ZI → ZL → Prop} {K : ZI → ZL → Int32 → Int32 → Int32 → Prop} (h : K M L (nI (cnt (fw v A B w) 256)) (ff (fw v A B w) ni 256 0) (-1)) : ∃ n, itF (w_X5_which_L32 (nI z) x2 post K) (fun _ _ _ _ _ => False) n M L 0 (-1) 255 := by
  have hcn : cnd (fw v A B w) 256 0 = cnt (fw v A B w) 256 := by
    have := cnd_cnt (fw v A B w) 256 0
    have e0 : cnt (fw v A B w) 0 = 0 := rfl
    rw [e0, Nat.zero_add, Nat.zero_add] at this
    exact this
  refine ⟨257, it_dn _ _ (fun (n : Nat) (rec : ZI → ZL → Int32 → Int32 → Int32 → Prop) => n ≤ 256 → ∀ a b c : Int32, a = nI (cnd (fw v A B w) (256 - n) n) → b = ff (fw v A B w) ni (256 - n) n → c = pr n → rec M L a b c) (fun rec _ a b c ea eb ec => ?_) (fun n rec ih hn a b c ea eb ec => ?_) 256 (Nat.le_refl 256) 0 (-1) 255 (by rw [Nat.sub_self]; rfl) (by rw [Nat.sub_self]; rfl) rfl⟩
  · subst ea
    subst eb
    subst ec
    unfold w_X5_which_L32
    refine bT (by decide) ?_
    rw [hcn]
    exact h
  · have ih := ih (by omega) _ _ _ rfl rfl rfl
    subst ea
    subst eb
    subst ec
    unfold w_X5_which_L32
    show (nI n < 0 → _) ∧ (¬ nI n < 0 → _)
    refine bF (nI_nlt (a := n) (b := 0) (Nat.zero_le _) (by omega)) ?_
    show w_X5_canBe M L (nI z) (nI n) _
    refine s5_canBe hz (by omega) hv e hw ew hA ?_
    rw [show fbb (cvi (lk v (n / 64)) (n % 8) (n / 8 % 8) 16) A B w = fw v A B w n from rfl]
    have e0 : ff (fw v A B w) ni (256 - n) n = if fw v A B w n then nI (ni n) else ff (fw v A B w) ni (256 - (n + 1)) (n + 1) := by
      rw [show 256 - n = (256 - (n + 1)) + 1 by omega]
      rfl
    have e1 : cnd (fw v A B w) (256 - n) n = cnd (fw v A B w) (256 - (n + 1)) (n + 1) + (if fw v A B w n then 1 else 0) := by
      rw [show 256 - n = (256 - (n + 1)) + 1 by omega]
      rfl
    rw [e0, e1] at ih
    show (_ → ∀ v9 : Int32, v9 = _ → ((_ → rec M L v9 _ (nI n + (-1))) ∧ (_ → w_X5_numberBy (nI n) _))) ∧ (_ → ∀ v9 : Int32, v9 = _ → ((_ → rec M L v9 _ (nI n + (-1))) ∧ (_ → w_X5_numberBy (nI n) (fun r12 => rec M L v9 r12 (nI n + (-1))))))
    rw [pr_dn]
    cases hf : fw v A B w n
    · rw [hf] at ih
      refine b0 (A := _) ?_
      rintro v9 rfl
      rw [show ∀ n : Nat, nI n + 0 = nI n from fun n => nI_add n 0]
      exact b0 ih
    · rw [hf] at ih
      refine b1 ?_
      rintro v9 rfl
      refine b1 (s5_num (by omega) ?_)
      rw [nI_1]
      exact ih
theorem p_which : st_which Inv := by
  intro N D X PM PL i0 i1 M L x1 x2 hI
  unfold w_X4_which
  refine s_within (a := 0) (b := 1) (by decide) (by decide) (fun v1 => b1 ?_) (fun v1 => b0 (s4_bad ?_))
  · refine s_within (a := 0) (b := 1) (by decide) (by decide) (fun v2 => b1n ?_) (fun v2 => b0n (s4_bad ?_))
    · obtain ⟨z, -, hz, rfl⟩ := id v1
      obtain ⟨b, -, hb, rfl⟩ := id v2
      obtain ⟨v, hv, e1, e2⟩ := hI.1.pot hz
      obtain ⟨w, hw, w1, w2, hA⟩ := hI.1.see
      have hA1 : ∀ i, i < w → sA (M 0) i ≤ 63 ∧ sB (M 0) i ≤ 1 := fun i hi => ⟨(hA i hi).1, (hA i hi).2.1⟩
      have hA2 : ∀ i, i < w → sA (M 0) i ≤ 63 ∧ sB (M 0) i ≤ 1 ∧ N 5 i = nI (sA (M 0) i) ∧ N 6 i = nI (sB (M 0) i) := fun i hi => ⟨(hA i hi).1, (hA i hi).2.1, (hA i hi).2.2.1, (hA i hi).2.2.2.1⟩
      have hA3 : ∀ i, i < w → sA (M 0) i ≤ 63 ∧ sB (M 0) i ≤ 1 ∧ M 0 (77 + i) = nI (2 * sA (M 0) i + sB (M 0) i) := fun i hi => ⟨(hA i hi).1, (hA i hi).2.1, (hA i hi).2.2.2.2⟩
      refine ⟨in_ (by omega) (by decide), ?_⟩
      rw [ncl (by omega), e1]
      refine s_every hv (fun P p1 p2 => s_seen (b := 1) hw (by decide) w1 hA2 (fun s1 h1 => s_seen (b := 0) hw (by decide) w1 hA2 (fun s0 h0 => s4_whl p2 hA1 h1 h0 ?_)))
      have hm : ∀ r, r = (if b = 0 then nI (cnt (fw v (sA (M 0)) (sB (M 0)) w) 256) else ff (fw v (sA (M 0)) (sB (M 0)) w) ni 256 0) → w_X5_which M L (nI z) (nI b) (fun r2 M L => r = r2 ∧ Inv N D X PM P i0 i1 M L) := by
        intro r er
        unfold w_X5_which
        refine s_isWhat (fun _ => b1 (s_isWhat (fun _ => b1n (s5_whl hz hv e2 hw w2 hA3 ?_)) (fun q => absurd v2 q))) (fun q => absurd v1 q)
        refine ⟨fun q => ⟨?_, hI.pl p1⟩, fun q => ⟨?_, hI.pl p1⟩⟩
        · rw [er, if_neg (show ¬ b = 0 from fun e0 => q (by rw [e0]; rfl))]
        · rw [er, if_pos (nI_ij (b := 0) (by omega) (by decide) q)]
      refine ⟨fun q => hm _ ?_, fun q => hm _ ?_⟩
      · rw [if_neg (show ¬ b = 0 from fun e0 => q (by rw [e0]; rfl))]
      · rw [if_pos (nI_ij (b := 0) (by omega) (by decide) q)]
    · unfold w_X5_which
      exact s_isWhat (fun _ => b1 (s_isWhat (fun q => absurd q v2) (fun _ => b0n (s5_bad ⟨rfl, inv_bad hI⟩)))) (fun q => absurd v1 q)
  · unfold w_X5_which
    exact s_isWhat (fun q => absurd q v1) (fun _ => b0 (s5_bad ⟨rfl, inv_bad hI⟩))
