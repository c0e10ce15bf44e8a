def hj (v : Nat) (m : Nat → Int32) (j : Nat) : Nat := hc v m (j / 25) (j % 5) (j / 5 % 5)
def nj (j : Nat) : Nat := 100 * (j / 25) + 10 * (j / 5 % 5) + j % 5
theorem hc_le (v : Nat) (m : Nat → Int32) (t x y : Nat) : hc v m t x y ≤ 64 := cnt_le _ 64
theorem bs_at {v : Nat} {m : Nat → Int32} : ∀ j, j ≤ 100 → (bs (hj v m) nj j).1 ≤ 64 ∧ ((bs (hj v m) nj j).1 = 0 ∧ (bs (hj v m) nj j).2 = -1 ∨ 0 < (bs (hj v m) nj j).1 ∧ ∃ n, n < 1000 ∧ (bs (hj v m) nj j).2 = nI n) := bs_in (fun j => hc_le _ _ _ _ _) (fun j hj => by unfold nj; omega)
def hres (b : Nat) (s : Nat × Int32) : Int32 := if b = 0 then (if s.1 = 0 then -1 else nI s.1) else s.2
theorem s4_hitl {N D X PM : ZI} {P : ZL} {v : Nat} {m : Nat → Int32} (hE : EV v P 256) {dk : Int64} (hd : ∀ c, c < 64 → lb dk c = pd (m c)) {x1 x2 : Int32} {post : Int32 → ZI → ZI → ZI → ZI → ZL → Prop} {K : Int32 → Int32 → Int32 → Prop} (h : K (nI (bs (hj v m) nj 100).1) (bs (hj v m) nj 100).2 (nI 256)) : ∃ n, itF (w_X4_hit_L55 N D X PM P x1 x2 dk post K) (fun _ _ _ => False) n 0 (-1) 0 := by
  refine ⟨257, it_up _ _ (fun (i : Nat) (rec : Int32 → Int32 → Int32 → Prop) => rec (nI (bs (hj v m) nj (cnt vl i)).1) (bs (hj v m) nj (cnt vl i)).2 (nI i)) 256 (fun i hi rec ih => ?_) (fun rec => ?_)⟩
  · unfold w_X4_hit_L55
    refine bF (nI_ge (b := 256) hi (by decide)) ⟨in_ hi (by decide), s_bitCount ?_⟩
    rw [ncl (by omega), nI_1]
    have ec : cnt (lb (P 4 i &&& dk)) 64 = hc v m (i / 64) (i % 8) (i / 8 % 8) := cnt_congr (fun c hc => by rw [lb_and, hE i hi c hc, hd c hc])
    rw [ec]
    refine s_wholly hi ?_
    cases hv : vl i
    · rw [cnt_no hv] at ih
      exact b0 ih
    · obtain ⟨t1, t2, t3, t4⟩ := T_vl i hi hv
      have hl := hc_le v m (i / 64) (i % 8) (i / 8 % 8)
      have hb := (bs_at (v := v) (m := m) (cnt vl i) (by omega)).1
      have ej : hj v m (cnt vl i) = hc v m (i / 64) (i % 8) (i / 8 % 8) := by unfold hj; rw [t1, t2, t3]
      have en : nj (cnt vl i) = 100 * (i / 64) + 10 * (i / 8 % 8) + i % 8 := by unfold nj; rw [t1, t2, t3]
      have e : bs (hj v m) nj (cnt vl i + 1) = if hj v m (cnt vl i) ≤ (bs (hj v m) nj (cnt vl i)).1 then bs (hj v m) nj (cnt vl i) else (hj v m (cnt vl i), nI (nj (cnt vl i))) := rfl
      rw [cnt_yes hv, e, ej, en] at ih
      refine b1 ⟨fun q => ?_, fun q => ?_⟩
      · rw [if_pos ((le_iff (by omega) (by omega)).mp q)] at ih
        exact ih
      · rw [if_neg (fun e => q ((le_iff (by omega) (by omega)).mpr e))] at ih
        unfold w_X4_placingNumber
        rw [(T_wh i hi).1, (T_wh i hi).2.1, (T_wh i hi).2.2, mnum]
        exact ih
  · unfold w_X4_hit_L55
    refine bT (nI_le (a := 256) (b := 256) (by decide) (by decide)) ?_
    rw [T_vn]
    exact h
theorem s5_hitl {M : ZI} {L : ZL} {z v : Nat} (hz : z ≤ 1) (hv : v < 65536) (e : M 0 (65 + z) = nI v) {x2 : Int32} {post : Int32 → ZI → ZL → Prop} {K : ZI → ZL → Int32 → Int32 → Int32 → Prop} (h : K M L (nI (bs (hj v (M 0)) nj 100).1) (bs (hj v (M 0)) nj 100).2 (nI 100)) : ∃ n, itF (w_X5_hit_L27 (nI z) x2 post K) (fun _ _ _ _ _ => False) n M L 0 (-1) 0 := by
  refine ⟨101, it_up _ _ (fun (j : Nat) (rec : ZI → ZL → Int32 → Int32 → Int32 → Prop) => rec M L (nI (bs (hj v (M 0)) nj j).1) (bs (hj v (M 0)) nj j).2 (nI j)) 100 (fun j hj' rec ih => ?_) (fun rec => ?_)⟩
  · unfold w_X5_hit_L27
    refine bF (nI_ge (b := 100) hj' (by decide)) ?_
    rw [(T_mh j hj').1, (T_mh j hj').2.1, (T_mh j hj').2.2, nI_1]
    rintro v6 rfl v7 rfl v8 rfl
    refine s_looksOf hz (by omega) e hv ?_
    refine ⟨65, it_up _ _ (fun (c : Nat) (rec2 : Int32 → Int32 → Prop) => rec2 (nI (cnt (fun c => cvi (lk v (j / 25)) (j % 5) (j / 5 % 5) 16 c && pd (M 0 c)) c)) (nI c)) 64 (fun c hc' rec2 ih2 => ?_) (fun rec2 => ?_)⟩
    · unfold w_X5_hit_L70
      refine bF (nI_ge (b := 64) hc' (by decide)) ?_
      rw [z0, ncl (by omega)]
      have no : (cvi (lk v (j / 25)) (j % 5) (j / 5 % 5) 16 c && pd (M 0 c)) = false → ∀ v12, v12 = nI (cnt (fun c => cvi (lk v (j / 25)) (j % 5) (j / 5 % 5) 16 c && pd (M 0 c)) c) + 0 → rec2 v12 (nI c + 1) := by
        intro q v12 e12
        rw [cnt_no (F := fun c => cvi (lk v (j / 25)) (j % 5) (j / 5 % 5) 16 c && pd (M 0 c)) q] at ih2
        rw [e12, nI_1, show ∀ n : Nat, nI n + 0 = nI n from fun n => nI_add n 0]
        exact ih2
      refine ⟨in_ (by omega) (by decide), fun q => no ?_, fun q => s5_covers (lk_lt v (by omega)) (by omega) (by omega) hc' ?_⟩
      · rw [pd, decide_eq_false (fun e => e q), Bool.and_false]
      · have hp : pd (M 0 c) = true := decide_eq_true q
        cases hcv : cvi (lk v (j / 25)) (j % 5) (j / 5 % 5) 16 c
        · exact b0 (no (by rw [hcv, Bool.false_and]))
        · refine b1 ?_
          rintro v15 rfl
          rw [cnt_yes (F := fun c => cvi (lk v (j / 25)) (j % 5) (j / 5 % 5) 16 c && pd (M 0 c)) (by rw [hcv, hp]; rfl)] at ih2
          rw [nI_1, nI_1]
          exact ih2
    · unfold w_X5_hit_L70
      refine bT (nI_le (a := 64) (b := 64) (by decide) (by decide)) ?_
      have hl := hc_le v (M 0) (j / 25) (j % 5) (j / 5 % 5)
      have hb := (bs_at (v := v) (m := M 0) j (by omega)).1
      have e : bs (hj v (M 0)) nj (j + 1) = if hj v (M 0) j ≤ (bs (hj v (M 0)) nj j).1 then bs (hj v (M 0)) nj j else (hj v (M 0) j, nI (nj j)) := rfl
      rw [e] at ih
      refine ⟨fun q => ?_, fun q => ?_⟩
      · rw [if_pos ((le_iff (a := hj v (M 0) j) (by unfold hj; omega) (by omega)).mp q)] at ih
        exact ih
      · rw [if_neg (fun e => q ((le_iff (a := hj v (M 0) j) (by unfold hj; omega) (by omega)).mpr e))] at ih
        unfold w_X5_numberOf
        rw [mnum]
        exact ih
  · unfold w_X5_hit_L27
    exact bT (nI_le (a := 100) (b := 100) (by decide) (by decide)) h
theorem Inv.pl {N D D' X PM : ZI} {PL PL' : ZL} {i0 i1 : Option ZI} {M : ZI} {L : ZL} (h : Inv N D X PM PL i0 i1 M L) (hp : ∀ a, ¬ a = 4 → PL' a = PL a) : Inv N D' X PM PL' i0 i1 M L := by
  obtain ⟨g1, g2, g3, g4, g5, g6⟩ := h
  refine ⟨g1, g2, g3, g4, g5, ?_⟩
  rw [hp 5 (by decide), hp 6 (by decide)]
  exact g6
theorem p_hit : st_hit Inv := by
  intro N D X PM PL i0 i1 M L x1 x2 hI
  unfold w_X4_hit
  refine s_within (a := 0) (b := 1) (by decide) (by decide) (fun v1 => b1 ?_) (fun v1 => b0 (s4_bad ?_))
  · refine s_within (a := 0) (b := 1) (by decide) (by decide) (fun v2 => b1n ?_) (fun v2 => b0n (s4_bad ?_))
    · obtain ⟨z, -, hz, rfl⟩ := id v1
      obtain ⟨b, -, hb, rfl⟩ := id v2
      obtain ⟨v, hv, e1, e2⟩ := hI.1.pot hz
      refine ⟨in_ (by omega) (by decide), ?_⟩
      rw [ncl (by omega), e1]
      refine s_every hv (fun P p1 p2 => s_darkCells (fun dk hd => s4_hitl (m := M 0) p2 (fun c hc => by rw [hd c hc, (hI.1.2.1 c hc).1]) ?_))
      have hm : ∀ r, r = hres b (bs (hj v (M 0)) nj 100) → w_X5_hit M L (nI z) (nI b) (fun r2 M L => r = r2 ∧ Inv N D X PM P i0 i1 M L) := by
        intro r er
        unfold w_X5_hit
        refine s_isWhat (fun _ => b1 (s_isWhat (fun _ => b1n (s5_hitl hz hv e2 ?_)) (fun q => absurd v2 q))) (fun q => absurd v1 q)
        obtain ⟨q1, ⟨q2, q3⟩ | ⟨q2, n, hn, q3⟩⟩ := bs_at (v := v) (m := M 0) 100 (by decide)
        · rw [q3]
          refine bF (by decide) ⟨?_, hI.pl p1⟩
          rw [er]
          unfold hres
          rw [if_pos q2, q3]
          split <;> rfl
        · rw [q3]
          refine bT (nI_le (a := 0) (Nat.zero_le _) (by omega)) ⟨fun e => ⟨?_, hI.pl p1⟩, fun e => ⟨?_, hI.pl p1⟩⟩
          · rw [er]
            unfold hres
            rw [if_neg (show ¬ b = 0 from fun e0 => e (by rw [e0]; rfl)), q3]
          · have hb0 : b = 0 := nI_ij (b := 0) (by omega) (by decide) e
            rw [er]
            unfold hres
            rw [if_pos hb0, if_neg (by omega)]
      obtain ⟨q1, ⟨q2, q3⟩ | ⟨q2, n, hn, q3⟩⟩ := bs_at (v := v) (m := M 0) 100 (by decide)
      · have e9 : hres b (bs (hj v (M 0)) nj 100) = -1 := by
          unfold hres
          rw [if_pos q2, q3]
          split <;> rfl
        rw [q2, q3]
        exact ⟨fun _ => hm _ e9.symm, fun _ => bT (by decide) (hm _ e9.symm)⟩
      · refine ⟨fun e => hm _ ?_, fun e => bF (nI_nle q2 (by omega)) (hm _ ?_)⟩
        · unfold hres
          rw [if_neg (show ¬ b = 0 from fun e0 => e (by rw [e0]; rfl))]
        · have hb0 : b = 0 := nI_ij (b := 0) (by omega) (by decide) e
          unfold hres
          rw [if_pos hb0, if_neg (by omega)]
    · unfold w_X5_hit
      exact s_isWhat (fun _ => b1 (s_isWhat (fun q => absurd q v2) (fun _ => b0n (s5_bad ⟨rfl, inv_bad hI⟩)))) (fun q => absurd v1 q)
  · unfold w_X5_hit
    exact s_isWhat (fun q => absurd q v1) (fun _ => b0 (s5_bad ⟨rfl, inv_bad hI⟩))
