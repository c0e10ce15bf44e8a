/-! THE CLAIM OUT OF ONE WALK OF THE LAW'S BODY. Your part is whole_start (and what it stands on); all else here is the same for every law, but numbers. -/
def R_law : String := "PotatoPrintsLaw"
def lw_P (b : Addr) (xs : List Int32) (args : Array Value) (s : State) : Prop := args = #[.ref b] ∧ s.IntsAt b xs ∧ xs.length ≤ 512 ∧ (Jvm.Cond.and given_1 narrow_1).before args s = true
def lw_Q (_ : Array Value) (s : State) (o : Outcome) (t : State) : Prop := o = .returned (some (.int 1)) ∧ Framed s o t [] 600000 7302250
def lw_Z (below : List Frame) (a : Array Value) (s : State) : State → Prop := fun t => ∃ o, t.status = .running ∧ Ended t below o ∧ lw_Q a s o t
/-- the law's own end, with 1 on the stack, nothing written that was there before, its room as the claim has it -/
theorem lw_ret {p : Program} {l : Launch} {e : Env} {s : State} {m : MethodId} {below : List Frame} {meth : Method} {c : Code} {b : Nat} (hx : p.tables.exec = Jvm.exec) (hb : c.code = code) (hr : meth.sig.returnType = ret) (hlocks : meth.locks = false) {pc : Nat} {H : Heap} {ls : Array Slot} (hdg : decode code pc = .ok (.ireturn, 1)) : W p l e room_1 s m #[Value.ref b] below meth c H [] 600000 7302250 (lw_Z below #[Value.ref b] s) (F0 m pc ls [.int 1]) := by
  intro T hT X
  obtain ⟨fs, hret, hrun, hended, hW, hframe⟩ := X.leave (v := some (.int 1)) (hlocks := hlocks) (fun h => by rw [hr] at h; cases h)
  have hmeth' : T.vm.method? m = some meth := X.method'
  refine ⟨T.setFrames fs, ?_, .returned (some (.int 1)), hrun, hended, rfl, ⟨_, rfl⟩, hW, hframe⟩
  jvm_step X.here [X.here.top, hx, hb, hdg, hmeth', hr, ret, narrow_b1]
  (try refine ⟨rfl, ?_⟩); (try refine ⟨rfl, ?_⟩)
  first | (intro acts; rw [hret _ acts rfl rfl rfl]) | rw [hret _ _ rfl rfl rfl]
  exact Steps.refl _
/-- what holds at the law's entry: the machine, the code, the tables' words (any of lw_tbl by 'hts w (by decide +kernel)'), the script of L ints xs at the cell b, what the Statement gives of the start (any of its parts by flat_of_before) -/
def lw_At (p : Program) (s : State) (m : MethodId) (meth : Method) (c : Code) (b L : Nat) (xs : Nat → Int32) : Prop :=
  p.tables.exec = Jvm.exec ∧ c.code = code ∧ meth.sig.returnType = ret ∧ c.maxLocals = 4 ∧ s.vm.findClass R_law = some m.cls ∧ (∀ w ∈ lw_tbl, w.before #[Value.ref b] s = true) ∧ va_X b L xs s s.heap ∧ b < s.heap.size ∧ meth.locks = false ∧ (Jvm.Cond.and given_1 narrow_1).before #[Value.ref b] s = true
def st_table (IV : ZI → ZI → ZI → ZI → ZL → Option ZI → Option ZI → ZI → ZL → Prop) : Prop := ∀ (N D X PM : ZI) (PL : ZL) (i0 i1 : Option ZI) (M : ZI) (L : ZL) (x1 : Int32), IV N D X PM PL i0 i1 M L → w_X4_table N D X PM PL x1 (fun r N D X PM PL => w_X5_table M L x1 (fun r2 M L => r = r2 ∧ IV N D X PM PL i0 i1 M L))
def st_cut (IV : ZI → ZI → ZI → ZI → ZL → Option ZI → Option ZI → ZI → ZL → Prop) : Prop := ∀ (N D X PM : ZI) (PL : ZL) (i0 i1 : Option ZI) (M : ZI) (L : ZL) (x1 : Int32) (x2 : Int32), IV N D X PM PL i0 i1 M L → w_X4_cut N D X PM PL x1 x2 (fun r N D X PM PL => w_X5_cut M L x1 x2 (fun r2 M L => r = r2 ∧ IV N D X PM PL i0 i1 M L))
def st_dip (IV : ZI → ZI → ZI → ZI → ZL → Option ZI → Option ZI → ZI → ZL → Prop) : Prop := ∀ (N D X PM : ZI) (PL : ZL) (i0 i1 : Option ZI) (M : ZI) (L : ZL) (x1 : Int32), IV N D X PM PL i0 i1 M L → w_X4_dip N D X PM PL x1 (fun r N D X PM PL => w_X5_dip M L x1 (fun r2 M L => r = r2 ∧ IV N D X PM PL i0 i1 M L))
def st_print (IV : ZI → ZI → ZI → ZI → ZL → Option ZI → Option ZI → ZI → ZL → Prop) : Prop := ∀ (N D X PM : ZI) (PL : ZL) (i0 i1 : Option ZI) (M : ZI) (L : ZL) (x1 : Int32) (x2 : Int32) (x3 : Int32) (x4 : Int32) (x5 : Int32), IV N D X PM PL i0 i1 M L → w_X4_print N D X PM PL x1 x2 x3 x4 x5 (fun r N D X PM PL => w_X5_print M L x1 x2 x3 x4 x5 (fun r2 M L => r = r2 ∧ IV N D X PM PL i0 i1 M L))
def st_undo (IV : ZI → ZI → ZI → ZI → ZL → Option ZI → Option ZI → ZI → ZL → Prop) : Prop := ∀ (N D X PM : ZI) (PL : ZL) (i0 i1 : Option ZI) (M : ZI) (L : ZL), IV N D X PM PL i0 i1 M L → w_X4_undo N D X PM PL  (fun r N D X PM PL => w_X5_undo M L  (fun r2 M L => r = r2 ∧ IV N D X PM PL i0 i1 M L))
def st_type (IV : ZI → ZI → ZI → ZI → ZL → Option ZI → Option ZI → ZI → ZL → Prop) : Prop := ∀ (N D X PM : ZI) (PL : ZL) (i0 i1 : Option ZI) (M : ZI) (L : ZL) (x1 : Int32), IV N D X PM PL i0 i1 M L → w_X4_type N D X PM PL x1 (fun r N D X PM PL => w_X5_type M L x1 (fun r2 M L => r = r2 ∧ IV N D X PM PL i0 i1 M L))
def st_clear (IV : ZI → ZI → ZI → ZI → ZL → Option ZI → Option ZI → ZI → ZL → Prop) : Prop := ∀ (N D X PM : ZI) (PL : ZL) (i0 i1 : Option ZI) (M : ZI) (L : ZL), IV N D X PM PL i0 i1 M L → w_X4_clear N D X PM PL  (fun r N D X PM PL => w_X5_clear M L  (fun r2 M L => r = r2 ∧ IV N D X PM PL i0 i1 M L))
def st_read (IV : ZI → ZI → ZI → ZI → ZL → Option ZI → Option ZI → ZI → ZL → Prop) : Prop := ∀ (N D X PM : ZI) (PL : ZL) (i0 i1 : Option ZI) (M : ZI) (L : ZL), IV N D X PM PL i0 i1 M L → w_X4_read N D X PM PL  (fun r N D X PM PL => w_X5_read M L  (fun r2 M L => r = r2 ∧ IV N D X PM PL i0 i1 M L))
def st_dark (IV : ZI → ZI → ZI → ZI → ZL → Option ZI → Option ZI → ZI → ZL → Prop) : Prop := ∀ (N D X PM : ZI) (PL : ZL) (i0 i1 : Option ZI) (M : ZI) (L : ZL) (x1 : Int32) (x2 : Int32), IV N D X PM PL i0 i1 M L → w_X4_dark N D X PM PL x1 x2 (fun r N D X PM PL => w_X5_dark M L x1 x2 (fun r2 M L => r = r2 ∧ IV N D X PM PL i0 i1 M L))
def st_looks (IV : ZI → ZI → ZI → ZI → ZL → Option ZI → Option ZI → ZI → ZL → Prop) : Prop := ∀ (N D X PM : ZI) (PL : ZL) (i0 i1 : Option ZI) (M : ZI) (L : ZL) (x1 : Int32) (x2 : Int32), IV N D X PM PL i0 i1 M L → w_X4_looks N D X PM PL x1 x2 (fun r N D X PM PL => w_X5_looks M L x1 x2 (fun r2 M L => r = r2 ∧ IV N D X PM PL i0 i1 M L))
def st_alike (IV : ZI → ZI → ZI → ZI → ZL → Option ZI → Option ZI → ZI → ZL → Prop) : Prop := ∀ (N D X PM : ZI) (PL : ZL) (i0 i1 : Option ZI) (M : ZI) (L : ZL) (x1 : Int32), IV N D X PM PL i0 i1 M L → w_X4_alike N D X PM PL x1 (fun r N D X PM PL => w_X5_alike M L x1 (fun r2 M L => r = r2 ∧ IV N D X PM PL i0 i1 M L))
def st_adds (IV : ZI → ZI → ZI → ZI → ZL → Option ZI → Option ZI → ZI → ZL → Prop) : Prop := ∀ (N D X PM : ZI) (PL : ZL) (i0 i1 : Option ZI) (M : ZI) (L : ZL) (x1 : Int32) (x2 : Int32) (x3 : Int32) (x4 : Int32) (x5 : Int32), IV N D X PM PL i0 i1 M L → w_X4_adds N D X PM PL x1 x2 x3 x4 x5 (fun r N D X PM PL => w_X5_adds M L x1 x2 x3 x4 x5 (fun r2 M L => r = r2 ∧ IV N D X PM PL i0 i1 M L))
def st_force (IV : ZI → ZI → ZI → ZI → ZL → Option ZI → Option ZI → ZI → ZL → Prop) : Prop := ∀ (N D X PM : ZI) (PL : ZL) (i0 i1 : Option ZI) (M : ZI) (L : ZL) (x1 : Int32) (x2 : Int32) (x3 : Int32), IV N D X PM PL i0 i1 M L → w_X4_force N D X PM PL x1 x2 x3 (fun r N D X PM PL => w_X5_force M L x1 x2 x3 (fun r2 M L => r = r2 ∧ IV N D X PM PL i0 i1 M L))
def st_fromOne (IV : ZI → ZI → ZI → ZI → ZL → Option ZI → Option ZI → ZI → ZL → Prop) : Prop := ∀ (N D X PM : ZI) (PL : ZL) (i0 i1 : Option ZI) (M : ZI) (L : ZL) (x1 : Int32) (x2 : Int32) (x3 : Int32), IV N D X PM PL i0 i1 M L → w_X4_fromOne N D X PM PL x1 x2 x3 (fun r N D X PM PL => w_X5_fromOne M L x1 x2 x3 (fun r2 M L => r = r2 ∧ IV N D X PM PL i0 i1 M L))
def st_dips (IV : ZI → ZI → ZI → ZI → ZL → Option ZI → Option ZI → ZI → ZL → Prop) : Prop := ∀ (N D X PM : ZI) (PL : ZL) (i0 i1 : Option ZI) (M : ZI) (L : ZL) (x1 : Int32) (x2 : Int32) (x3 : Int32) (x4 : Int32), IV N D X PM PL i0 i1 M L → w_X4_dips N D X PM PL x1 x2 x3 x4 (fun r N D X PM PL => w_X5_dips M L x1 x2 x3 x4 (fun r2 M L => r = r2 ∧ IV N D X PM PL i0 i1 M L))
def st_edge (IV : ZI → ZI → ZI → ZI → ZL → Option ZI → Option ZI → ZI → ZL → Prop) : Prop := ∀ (N D X PM : ZI) (PL : ZL) (i0 i1 : Option ZI) (M : ZI) (L : ZL) (x1 : Int32) (x2 : Int32) (x3 : Int32), IV N D X PM PL i0 i1 M L → w_X4_edge N D X PM PL x1 x2 x3 (fun r N D X PM PL => w_X5_edge M L x1 x2 x3 (fun r2 M L => r = r2 ∧ IV N D X PM PL i0 i1 M L))
def st_gap (IV : ZI → ZI → ZI → ZI → ZL → Option ZI → Option ZI → ZI → ZL → Prop) : Prop := ∀ (N D X PM : ZI) (PL : ZL) (i0 i1 : Option ZI) (M : ZI) (L : ZL) (x1 : Int32), IV N D X PM PL i0 i1 M L → w_X4_gap N D X PM PL x1 (fun r N D X PM PL => w_X5_gap M L x1 (fun r2 M L => r = r2 ∧ IV N D X PM PL i0 i1 M L))
def st_hit (IV : ZI → ZI → ZI → ZI → ZL → Option ZI → Option ZI → ZI → ZL → Prop) : Prop := ∀ (N D X PM : ZI) (PL : ZL) (i0 i1 : Option ZI) (M : ZI) (L : ZL) (x1 : Int32) (x2 : Int32), IV N D X PM PL i0 i1 M L → w_X4_hit N D X PM PL x1 x2 (fun r N D X PM PL => w_X5_hit M L x1 x2 (fun r2 M L => r = r2 ∧ IV N D X PM PL i0 i1 M L))
def st_want (IV : ZI → ZI → ZI → ZI → ZL → Option ZI → Option ZI → ZI → ZL → Prop) : Prop := ∀ (N D X PM : ZI) (PL : ZL) (i0 i1 : Option ZI) (M : ZI) (L : ZL) (x1 : Int32) (x2 : Int32), IV N D X PM PL i0 i1 M L → w_X4_want N D X PM PL x1 x2 (fun r N D X PM PL => w_X5_want M L x1 x2 (fun r2 M L => r = r2 ∧ IV N D X PM PL i0 i1 M L))
def st_cover (IV : ZI → ZI → ZI → ZI → ZL → Option ZI → Option ZI → ZI → ZL → Prop) : Prop := ∀ (N D X PM : ZI) (PL : ZL) (i0 i1 : Option ZI) (M : ZI) (L : ZL) (x1 : Int32) (x2 : Int32), IV N D X PM PL i0 i1 M L → w_X4_cover N D X PM PL x1 x2 (fun r N D X PM PL => w_X5_cover M L x1 x2 (fun r2 M L => r = r2 ∧ IV N D X PM PL i0 i1 M L))
def st_shrinks (IV : ZI → ZI → ZI → ZI → ZL → Option ZI → Option ZI → ZI → ZL → Prop) : Prop := ∀ (N D X PM : ZI) (PL : ZL) (i0 i1 : Option ZI) (M : ZI) (L : ZL) (x1 : Int32) (x2 : Int32), IV N D X PM PL i0 i1 M L → w_X4_shrinks N D X PM PL x1 x2 (fun r N D X PM PL => w_X5_shrinks M L x1 x2 (fun r2 M L => r = r2 ∧ IV N D X PM PL i0 i1 M L))
def st_gone (IV : ZI → ZI → ZI → ZI → ZL → Option ZI → Option ZI → ZI → ZL → Prop) : Prop := ∀ (N D X PM : ZI) (PL : ZL) (i0 i1 : Option ZI) (M : ZI) (L : ZL) (x1 : Int32), IV N D X PM PL i0 i1 M L → w_X4_gone N D X PM PL x1 (fun r N D X PM PL => w_X5_gone M L x1 (fun r2 M L => r = r2 ∧ IV N D X PM PL i0 i1 M L))
def st_seen (IV : ZI → ZI → ZI → ZI → ZL → Option ZI → Option ZI → ZI → ZL → Prop) : Prop := ∀ (N D X PM : ZI) (PL : ZL) (i0 i1 : Option ZI) (M : ZI) (L : ZL) (x1 : Int32) (x2 : Int32) (x3 : Int32), IV N D X PM PL i0 i1 M L → w_X4_seen N D X PM PL x1 x2 x3 (fun r N D X PM PL => w_X5_seen M L x1 x2 x3 (fun r2 M L => r = r2 ∧ IV N D X PM PL i0 i1 M L))
def st_forget (IV : ZI → ZI → ZI → ZI → ZL → Option ZI → Option ZI → ZI → ZL → Prop) : Prop := ∀ (N D X PM : ZI) (PL : ZL) (i0 i1 : Option ZI) (M : ZI) (L : ZL) (x1 : Int32), IV N D X PM PL i0 i1 M L → w_X4_forget N D X PM PL x1 (fun r N D X PM PL => w_X5_forget M L x1 (fun r2 M L => r = r2 ∧ IV N D X PM PL i0 i1 M L))
def st_which (IV : ZI → ZI → ZI → ZI → ZL → Option ZI → Option ZI → ZI → ZL → Prop) : Prop := ∀ (N D X PM : ZI) (PL : ZL) (i0 i1 : Option ZI) (M : ZI) (L : ZL) (x1 : Int32) (x2 : Int32), IV N D X PM PL i0 i1 M L → w_X4_which N D X PM PL x1 x2 (fun r N D X PM PL => w_X5_which M L x1 x2 (fun r2 M L => r = r2 ∧ IV N D X PM PL i0 i1 M L))
def st_look (IV : ZI → ZI → ZI → ZI → ZL → Option ZI → Option ZI → ZI → ZL → Prop) : Prop := ∀ (N D X PM : ZI) (PL : ZL) (i0 i1 : Option ZI) (M : ZI) (L : ZL) (x1 : Int32), IV N D X PM PL i0 i1 M L → w_X4_look N D X PM PL x1 (fun r N D X PM PL => w_X5_look M L x1 (fun r2 M L => r = r2 ∧ IV N D X PM PL i0 i1 M L))
def st_bitten (IV : ZI → ZI → ZI → ZI → ZL → Option ZI → Option ZI → ZI → ZL → Prop) : Prop := ∀ (N D X PM : ZI) (PL : ZL) (i0 i1 : Option ZI) (M : ZI) (L : ZL) (x1 : Int32) (x2 : Int32) (x3 : Int32) (x4 : Int32) (x5 : Int32), IV N D X PM PL i0 i1 M L → w_X4_bitten N D X PM PL x1 x2 x3 x4 x5 (fun r N D X PM PL => w_X5_bitten M L x1 x2 x3 x4 x5 (fun r2 M L => r = r2 ∧ IV N D X PM PL i0 i1 M L))
def st_slips (IV : ZI → ZI → ZI → ZI → ZL → Option ZI → Option ZI → ZI → ZL → Prop) : Prop := ∀ (N D X PM : ZI) (PL : ZL) (i0 i1 : Option ZI) (M : ZI) (L : ZL) (x1 : Int32) (x2 : Int32) (x3 : Int32) (x4 : Int32) (x5 : Int32) (x6 : Int32) (x7 : Int32), IV N D X PM PL i0 i1 M L → w_X4_slips N D X PM PL x1 x2 x3 x4 x5 x6 x7 (fun r N D X PM PL => w_X5_slips M L x1 x2 x3 x4 x5 x6 x7 (fun r2 M L => r = r2 ∧ IV N D X PM PL i0 i1 M L))
def st_sheets (IV : ZI → ZI → ZI → ZI → ZL → Option ZI → Option ZI → ZI → ZL → Prop) : Prop := ∀ (N D X PM : ZI) (PL : ZL) (i0 i1 : Option ZI) (M : ZI) (L : ZL) (x1 : Int32) (x2 : Int32), IV N D X PM PL i0 i1 M L → w_X4_sheets N D X PM PL x1 x2 (fun r N D X PM PL => w_X5_sheets M L x1 x2 (fun r2 M L => r = r2 ∧ IV N D X PM PL i0 i1 M L))
def st_part (IV : ZI → ZI → ZI → ZI → ZL → Option ZI → Option ZI → ZI → ZL → Prop) : Prop := ∀ (N D X PM : ZI) (PL : ZL) (i0 i1 : Option ZI) (M : ZI) (L : ZL) (x1 : Int32), IV N D X PM PL i0 i1 M L → w_X4_part N D X PM PL x1 (fun r N D X PM PL => w_X5_part M L x1 (fun r2 M L => r = r2 ∧ IV N D X PM PL i0 i1 M L))
def st_image (IV : ZI → ZI → ZI → ZI → ZL → Option ZI → Option ZI → ZI → ZL → Prop) : Prop := ∀ (N D X PM : ZI) (PL : ZL) (i0 i1 : Option ZI) (M : ZI) (L : ZL) (x1 : Int32), IV N D X PM PL i0 i1 M L → w_X4_image N D X PM PL i0 i1 x1 (fun r N D X PM PL i0 i1 => w_X5_image M L x1 (fun r2 M L => r = r2 ∧ IV N D X PM PL i0 i1 M L))
def st_from (IV : ZI → ZI → ZI → ZI → ZL → Option ZI → Option ZI → ZI → ZL → Prop) : Prop := ∀ (N D X PM : ZI) (PL : ZL) (i0 i1 : Option ZI) (M : ZI) (L : ZL) (x1 : Int32), IV N D X PM PL i0 i1 M L → w_X4_from N D X PM PL i0 i1 x1 (fun r N D X PM PL i0 i1 => w_X5_from M L x1 (fun r2 M L => r = r2 ∧ IV N D X PM PL i0 i1 M L))
def st_status (IV : ZI → ZI → ZI → ZI → ZL → Option ZI → Option ZI → ZI → ZL → Prop) : Prop := ∀ (N D X PM : ZI) (PL : ZL) (i0 i1 : Option ZI) (M : ZI) (L : ZL) (x1 : Int32), IV N D X PM PL i0 i1 M L → w_X4_status N D X PM PL x1 (fun r N D X PM PL => w_X5_status M L x1 (fun r2 M L => r = r2 ∧ IV N D X PM PL i0 i1 M L))
def st_count (IV : ZI → ZI → ZI → ZI → ZL → Option ZI → Option ZI → ZI → ZL → Prop) : Prop := ∀ (N D X PM : ZI) (PL : ZL) (i0 i1 : Option ZI) (M : ZI) (L : ZL) (x1 : Int32), IV N D X PM PL i0 i1 M L → w_X4_count N D X PM PL x1 (fun r N D X PM PL => w_X5_count M L x1 (fun r2 M L => r = r2 ∧ IV N D X PM PL i0 i1 M L))
def st_digest (IV : ZI → ZI → ZI → ZI → ZL → Option ZI → Option ZI → ZI → ZL → Prop) : Prop := ∀ (N D X PM : ZI) (PL : ZL) (i0 i1 : Option ZI) (M : ZI) (L : ZL), IV N D X PM PL i0 i1 M L → w_X4_digest N D X PM PL  (fun r N D X PM PL => w_X5_digest M L  (fun r2 M L => r = r2 ∧ IV N D X PM PL i0 i1 M L))
def LawSteps (IV : ZI → ZI → ZI → ZI → ZL → Option ZI → Option ZI → ZI → ZL → Prop) : Prop := st_table IV ∧ st_cut IV ∧ st_dip IV ∧ st_print IV ∧ st_undo IV ∧ st_type IV ∧ st_clear IV ∧ st_read IV ∧ st_dark IV ∧ st_looks IV ∧ st_alike IV ∧ st_adds IV ∧ st_force IV ∧ st_fromOne IV ∧ st_dips IV ∧ st_edge IV ∧ st_gap IV ∧ st_hit IV ∧ st_want IV ∧ st_cover IV ∧ st_shrinks IV ∧ st_gone IV ∧ st_seen IV ∧ st_forget IV ∧ st_which IV ∧ st_look IV ∧ st_bitten IV ∧ st_slips IV ∧ st_sheets IV ∧ st_part IV ∧ st_image IV ∧ st_from IV ∧ st_status IV ∧ st_count IV ∧ st_digest IV
theorem va_P.lf {D : va_G} {cl : List vw_C} {w1 w2 : va_W} {H : Heap} (h : va_P D cl (w1 ++ w2) H) : va_P D cl w1 H := fun k q hq => h k q (by rw [List.getElem?_append_left (List.getElem?_eq_some_iff.mp hq).1]; exact hq)
theorem va_P.rg {D : va_G} {cl : List vw_C} {w1 w2 : va_W} {H : Heap} (h : va_P D cl (w1 ++ w2) H) : va_P D cl w2 H := fun k q hq => h (w1.length + k) q (by rw [List.getElem?_append_right (by omega), show w1.length + k - w1.length = k by omega]; exact hq)
theorem va_D.lf {A : Nat → Prop} {w1 w2 : va_W} (h : va_D A (w1 ++ w2)) : va_D A w1 := by
  have key : ∀ (k : Nat) (q : Nat × va_E), w1[k]? = some q → (w1 ++ w2)[k]? = some q := fun k q hq => by rw [List.getElem?_append_left (List.getElem?_eq_some_iff.mp hq).1]; exact hq
  exact ⟨fun i j p q hp hq e => h.1 i j p q (key i p hp) (key j q hq) e, fun k q hq => h.2 k q (key k q hq)⟩
theorem va_D.rg {A : Nat → Prop} {w1 w2 : va_W} (h : va_D A (w1 ++ w2)) : va_D A w2 := by
  have key : ∀ (k : Nat) (q : Nat × va_E), w2[k]? = some q → (w1 ++ w2)[w1.length + k]? = some q := fun k q hq => by rw [List.getElem?_append_right (by omega), show w1.length + k - w1.length = k by omega]; exact hq
  exact ⟨fun i j p q hp hq e => by have := h.1 _ _ p q (key i p hp) (key j q hq) e; omega, fun k q hq => h.2 _ q (key k q hq)⟩
theorem va_D.ap {A : Nat → Prop} {w1 w2 : va_W} (h : va_D A (w1 ++ w2)) : ∀ (i j : Nat) (p q : Nat × va_E), w1[i]? = some p → w2[j]? = some q → p.1 ≠ q.1 := fun i j p q hp hq e => by
  have hi := (List.getElem?_eq_some_iff.mp hp).1
  have := h.1 i (w1.length + j) p q (by rw [List.getElem?_append_left hi]; exact hp) (by rw [List.getElem?_append_right (by omega), show w1.length + j - w1.length = j by omega]; exact hq) e
  omega
theorem va_P.cm {D : va_G} {cl : List vw_C} {w1 w2 : va_W} {H : Heap} (h : va_P D cl (w1 ++ w2) H) : va_P D cl (w2 ++ w1) H := h.rg.app h.lf
theorem va_D.cm {A : Nat → Prop} {w1 w2 : va_W} (h : va_D A (w1 ++ w2)) : va_D A (w2 ++ w1) := va_D.app h.rg h.lf (fun i j p q hp hq e => h.ap j i q p hq hp e.symm)
theorem ap_core {D : va_G} {A : Nat → Prop} {wc wr w1 : va_W} {H H1 : Heap} (hP : va_P D vwCl (wc ++ wr) H) (hD : va_D A (wc ++ wr)) (hF : ∀ q, va_A wc H.size q → A q) (hk : ∀ q : Nat, q < H.size → ¬ va_A wc H.size q → H1[q]? = H[q]?) (hP1 : va_P D vwCl w1 H1) (hD1 : va_D (va_A wc H.size) w1) : va_P D vwCl (w1 ++ wr) H1 ∧ va_D A (w1 ++ wr) := by
  have apart : ∀ (k : Nat) (q : Nat × va_E), wr[k]? = some q → q.1 < H.size ∧ ¬ va_A wc H.size q.1 := by
    intro k q hq
    have hl := (hP.rg k q hq).lt
    refine ⟨hl, fun h => ?_⟩
    rcases h with ⟨k2, e, h⟩ | h
    · exact hD.ap k2 k (q.1, e) q h hq rfl
    · omega
  refine ⟨va_P.app hP1 (fun k q hq => ?_), va_D.app (hD1.weaken (fun k q _ h => hF q.1 h)) hD.rg (fun i j x y hx hy hxy => ?_)⟩
  · obtain ⟨g1, g2⟩ := apart k q hq
    exact (hP.rg k q hq).kept (hk q.1 g1 g2)
  · exact (apart j y hy).2 (by rw [← hxy]; exact hD1.2 i x hx)
section LawCalls2
variable {p : Program} {l : Launch} {e : Env} {R : Room} {s : State} {m : MethodId} {args : Array Value} {below : List Frame} {meth : Method} {c : Code} {H : Heap} {locs : List Loc} {cells slots mc ms : Nat} {Q : State → Prop} {pc : Nat} {ls : Array Slot} {rest st0 : List Value} {D : va_G} {A : Nat → Prop} {wc wr : va_W}
theorem lw_i {S : Type} {post : Int32 → S → Prop} {w1 : S → va_W} {a : Array Value} (hr : va_Run p l e R s m args below meth c H locs cells slots mc ms (F0 m pc ls st0) rest (va_Qi post (CB D (va_A wc H.size) w1) (va_A wc H.size) a) (va_A wc H.size)) (hP : va_P D vwCl (wc ++ wr) H) (hD : va_D A (wc ++ wr)) (hS : va_S A s.heap H locs) (hA : ∀ q, s.heap.size ≤ q → A q)
    (kk : ∀ (r : Int32) (u : S) (H1 : Heap) (locs1 : List Loc), va_P D vwCl (w1 u ++ wr) H1 → va_D A (w1 u ++ wr) → va_S A s.heap H1 locs1 → post r u → W p l e R s m args below meth c H1 locs1 (cells + mc) (slots + ms) Q (F0 m (pc + 3) ls (.int r :: rest))) : W p l e R s m args below meth c H locs cells slots Q (F0 m pc ls st0) := by
  have hF := fr_of (wc := wc) hD.lf hS hA
  refine va_calli hr hS (fun q _ h => hF q h) hF (fun r u t H1 locs1 ht hvm hw hB hz1 hk1 hS => ?_)
  obtain ⟨h1, h2⟩ := ap_core hP hD hF hk1 (by rw [← ht]; exact hB.1) hB.2
  exact kk r u H1 locs1 h1 h2 hS hw
theorem lw_l {S : Type} {post : Int64 → S → Prop} {w1 : S → va_W} {a : Array Value} (hr : va_Run p l e R s m args below meth c H locs cells slots mc ms (F0 m pc ls st0) rest (va_Ql post (CB D (va_A wc H.size) w1) (va_A wc H.size) a) (va_A wc H.size)) (hP : va_P D vwCl (wc ++ wr) H) (hD : va_D A (wc ++ wr)) (hS : va_S A s.heap H locs) (hA : ∀ q, s.heap.size ≤ q → A q)
    (kk : ∀ (r : Int64) (u : S) (H1 : Heap) (locs1 : List Loc), va_P D vwCl (w1 u ++ wr) H1 → va_D A (w1 u ++ wr) → va_S A s.heap H1 locs1 → post r u → W p l e R s m args below meth c H1 locs1 (cells + mc) (slots + ms) Q (F0 m (pc + 3) ls (.long r :: rest))) : W p l e R s m args below meth c H locs cells slots Q (F0 m pc ls st0) := by
  have hF := fr_of (wc := wc) hD.lf hS hA
  refine va_calll hr hS (fun q _ h => hF q h) hF (fun r u t H1 locs1 ht hvm hw hB hz1 hk1 hS => ?_)
  obtain ⟨h1, h2⟩ := ap_core hP hD hF hk1 (by rw [← ht]; exact hB.1) hB.2
  exact kk r u H1 locs1 h1 h2 hS hw
theorem lw_v {S : Type} {post : S → Prop} {w1 : S → va_W} {a : Array Value} (hr : va_Run p l e R s m args below meth c H locs cells slots mc ms (F0 m pc ls st0) rest (va_Qv post (CB D (va_A wc H.size) w1) (va_A wc H.size) a) (va_A wc H.size)) (hP : va_P D vwCl (wc ++ wr) H) (hD : va_D A (wc ++ wr)) (hS : va_S A s.heap H locs) (hA : ∀ q, s.heap.size ≤ q → A q)
    (kk : ∀ (u : S) (H1 : Heap) (locs1 : List Loc), va_P D vwCl (w1 u ++ wr) H1 → va_D A (w1 u ++ wr) → va_S A s.heap H1 locs1 → post u → W p l e R s m args below meth c H1 locs1 (cells + mc) (slots + ms) Q (F0 m (pc + 3) ls rest)) : W p l e R s m args below meth c H locs cells slots Q (F0 m pc ls st0) := by
  have hF := fr_of (wc := wc) hD.lf hS hA
  refine va_callv hr hS (fun q _ h => hF q h) hF (fun u t H1 locs1 ht hvm hw hB hz1 hk1 hS => ?_)
  obtain ⟨h1, h2⟩ := ap_core hP hD hF hk1 (by rw [← ht]; exact hB.1) hB.2
  exact kk u H1 locs1 h1 h2 hS hw
end LawCalls2
abbrev rW (q j : Nat → Nat → Nat) (cs : Nat → Nat) (i0 i1 : Option ZI) : va_W := [(q 0 2, .inl (cs 4, 2, .inr (.inr (.inr (.inr (imf j i0 i1))))))] ++ (imc i0 (j 0) cs ++ imc i1 (j 1) cs)
theorem lw_cond {L k : Nat} (hL : L ≤ 512) (hk : 8 * k ≤ L) (h : ¬ (Int32.ofNat L - 8) < nI (8 * k)) : 8 * k + 8 ≤ L := by
  rcases Nat.lt_or_ge L (8 * k + 8) with q | q
  · exfalso
    apply h
    have e1 : (Int32.ofNat L).toInt = (L : Int) := nI_toInt (by omega)
    have e2 : (nI (8 * k)).toInt = ((8 * k : Nat) : Int) := nI_toInt (by omega)
    have e3 : (8 : Int32).toInt = 8 := rfl
    have e4 : ((L : Int) - 8).bmod (2 ^ 32) = (L : Int) - 8 := by
      simp only [Int.bmod]
      split <;> omega
    rw [Int32.lt_iff_toInt_lt, Int32.toInt_sub, e1, e2, e3, e4]
    omega
  · exact q
theorem ck_L_13 : CKV RL 13 yX4_table cX4_table 3 (some .int) 1 := ⟨(tb_m 190 (by decide +kernel)), (tb_m 193 (by decide +kernel)), (tb_m 54 (by decide +kernel)), (tb_m 191 (by decide +kernel)), (tb_m 192 (by decide +kernel)), by decide +kernel, by decide +kernel, by decide +kernel⟩
theorem ck_L_17 : CKV RL 17 yX5_table cX5_table 3 (some .int) 1 := ⟨(tb_m 708 (by decide +kernel)), (tb_m 711 (by decide +kernel)), (tb_m 57 (by decide +kernel)), (tb_m 709 (by decide +kernel)), (tb_m 710 (by decide +kernel)), by decide +kernel, by decide +kernel, by decide +kernel⟩
theorem ck_L_18 : CKV RL 18 yX4_cut cX4_cut 4 (some .int) 2 := ⟨(tb_m 218 (by decide +kernel)), (tb_m 221 (by decide +kernel)), (tb_m 54 (by decide +kernel)), (tb_m 219 (by decide +kernel)), (tb_m 220 (by decide +kernel)), by decide +kernel, by decide +kernel, by decide +kernel⟩
theorem ck_L_22 : CKV RL 22 yX5_cut cX5_cut 4 (some .int) 2 := ⟨(tb_m 728 (by decide +kernel)), (tb_m 731 (by decide +kernel)), (tb_m 57 (by decide +kernel)), (tb_m 729 (by decide +kernel)), (tb_m 730 (by decide +kernel)), by decide +kernel, by decide +kernel, by decide +kernel⟩
theorem ck_L_23 : CKV RL 23 yX4_dip cX4_dip 3 (some .int) 1 := ⟨(tb_m 223 (by decide +kernel)), (tb_m 226 (by decide +kernel)), (tb_m 54 (by decide +kernel)), (tb_m 224 (by decide +kernel)), (tb_m 225 (by decide +kernel)), by decide +kernel, by decide +kernel, by decide +kernel⟩
theorem ck_L_26 : CKV RL 26 yX5_dip cX5_dip 3 (some .int) 1 := ⟨(tb_m 736 (by decide +kernel)), (tb_m 739 (by decide +kernel)), (tb_m 57 (by decide +kernel)), (tb_m 737 (by decide +kernel)), (tb_m 738 (by decide +kernel)), by decide +kernel, by decide +kernel, by decide +kernel⟩
theorem ck_L_27 : CKV RL 27 yX4_print cX4_print 6 (some .int) 5 := ⟨(tb_m 234 (by decide +kernel)), (tb_m 237 (by decide +kernel)), (tb_m 54 (by decide +kernel)), (tb_m 235 (by decide +kernel)), (tb_m 236 (by decide +kernel)), by decide +kernel, by decide +kernel, by decide +kernel⟩
theorem ck_L_31 : CKV RL 31 yX5_print cX5_print 6 (some .int) 5 := ⟨(tb_m 744 (by decide +kernel)), (tb_m 747 (by decide +kernel)), (tb_m 57 (by decide +kernel)), (tb_m 745 (by decide +kernel)), (tb_m 746 (by decide +kernel)), by decide +kernel, by decide +kernel, by decide +kernel⟩
theorem ck_L_32 : CKV RL 32 yX4_undo cX4_undo 1 (some .int) 0 := ⟨(tb_m 294 (by decide +kernel)), (tb_m 297 (by decide +kernel)), (tb_m 54 (by decide +kernel)), (tb_m 295 (by decide +kernel)), (tb_m 296 (by decide +kernel)), by decide +kernel, by decide +kernel, by decide +kernel⟩
theorem ck_L_36 : CKV RL 36 yX5_undo cX5_undo 2 (some .int) 0 := ⟨(tb_m 796 (by decide +kernel)), (tb_m 799 (by decide +kernel)), (tb_m 57 (by decide +kernel)), (tb_m 797 (by decide +kernel)), (tb_m 798 (by decide +kernel)), by decide +kernel, by decide +kernel, by decide +kernel⟩
theorem ck_L_37 : CKV RL 37 yX4_type cX4_type 2 (some .int) 1 := ⟨(tb_m 302 (by decide +kernel)), (tb_m 305 (by decide +kernel)), (tb_m 54 (by decide +kernel)), (tb_m 303 (by decide +kernel)), (tb_m 304 (by decide +kernel)), by decide +kernel, by decide +kernel, by decide +kernel⟩
theorem ck_L_40 : CKV RL 40 yX5_type cX5_type 2 (some .int) 1 := ⟨(tb_m 800 (by decide +kernel)), (tb_m 803 (by decide +kernel)), (tb_m 57 (by decide +kernel)), (tb_m 801 (by decide +kernel)), (tb_m 802 (by decide +kernel)), by decide +kernel, by decide +kernel, by decide +kernel⟩
theorem ck_L_41 : CKV RL 41 yX4_clear cX4_clear 2 (some .int) 0 := ⟨(tb_m 314 (by decide +kernel)), (tb_m 317 (by decide +kernel)), (tb_m 54 (by decide +kernel)), (tb_m 315 (by decide +kernel)), (tb_m 316 (by decide +kernel)), by decide +kernel, by decide +kernel, by decide +kernel⟩
theorem ck_L_44 : CKV RL 44 yX5_clear cX5_clear 2 (some .int) 0 := ⟨(tb_m 809 (by decide +kernel)), (tb_m 812 (by decide +kernel)), (tb_m 57 (by decide +kernel)), (tb_m 810 (by decide +kernel)), (tb_m 811 (by decide +kernel)), by decide +kernel, by decide +kernel, by decide +kernel⟩
theorem ck_L_45 : CKV RL 45 yX4_read cX4_read 2 (some .int) 0 := ⟨(tb_m 318 (by decide +kernel)), (tb_m 321 (by decide +kernel)), (tb_m 54 (by decide +kernel)), (tb_m 319 (by decide +kernel)), (tb_m 320 (by decide +kernel)), by decide +kernel, by decide +kernel, by decide +kernel⟩
theorem ck_L_48 : CKV RL 48 yX5_read cX5_read 1 (some .int) 0 := ⟨(tb_m 813 (by decide +kernel)), (tb_m 816 (by decide +kernel)), (tb_m 57 (by decide +kernel)), (tb_m 814 (by decide +kernel)), (tb_m 815 (by decide +kernel)), by decide +kernel, by decide +kernel, by decide +kernel⟩
theorem ck_L_49 : CKV RL 49 yX4_dark cX4_dark 3 (some .int) 2 := ⟨(tb_m 424 (by decide +kernel)), (tb_m 427 (by decide +kernel)), (tb_m 54 (by decide +kernel)), (tb_m 425 (by decide +kernel)), (tb_m 426 (by decide +kernel)), by decide +kernel, by decide +kernel, by decide +kernel⟩
theorem ck_L_52 : CKV RL 52 yX5_dark cX5_dark 3 (some .int) 2 := ⟨(tb_m 845 (by decide +kernel)), (tb_m 848 (by decide +kernel)), (tb_m 57 (by decide +kernel)), (tb_m 846 (by decide +kernel)), (tb_m 847 (by decide +kernel)), by decide +kernel, by decide +kernel, by decide +kernel⟩
theorem ck_L_53 : CKV RL 53 yX4_looks cX4_looks 3 (some .int) 2 := ⟨(tb_m 428 (by decide +kernel)), (tb_m 431 (by decide +kernel)), (tb_m 54 (by decide +kernel)), (tb_m 429 (by decide +kernel)), (tb_m 430 (by decide +kernel)), by decide +kernel, by decide +kernel, by decide +kernel⟩
theorem ck_L_56 : CKV RL 56 yX5_looks cX5_looks 3 (some .int) 2 := ⟨(tb_m 849 (by decide +kernel)), (tb_m 852 (by decide +kernel)), (tb_m 57 (by decide +kernel)), (tb_m 850 (by decide +kernel)), (tb_m 851 (by decide +kernel)), by decide +kernel, by decide +kernel, by decide +kernel⟩
theorem ck_L_57 : CKV RL 57 yX4_alike cX4_alike 5 (some .int) 1 := ⟨(tb_m 433 (by decide +kernel)), (tb_m 436 (by decide +kernel)), (tb_m 54 (by decide +kernel)), (tb_m 434 (by decide +kernel)), (tb_m 435 (by decide +kernel)), by decide +kernel, by decide +kernel, by decide +kernel⟩
theorem ck_L_60 : CKV RL 60 yX5_alike cX5_alike 4 (some .int) 1 := ⟨(tb_m 853 (by decide +kernel)), (tb_m 856 (by decide +kernel)), (tb_m 57 (by decide +kernel)), (tb_m 854 (by decide +kernel)), (tb_m 855 (by decide +kernel)), by decide +kernel, by decide +kernel, by decide +kernel⟩
theorem ck_L_61 : CKV RL 61 yX4_adds cX4_adds 6 (some .int) 5 := ⟨(tb_m 437 (by decide +kernel)), (tb_m 440 (by decide +kernel)), (tb_m 54 (by decide +kernel)), (tb_m 438 (by decide +kernel)), (tb_m 439 (by decide +kernel)), by decide +kernel, by decide +kernel, by decide +kernel⟩
theorem ck_L_64 : CKV RL 64 yX5_adds cX5_adds 6 (some .int) 5 := ⟨(tb_m 857 (by decide +kernel)), (tb_m 860 (by decide +kernel)), (tb_m 57 (by decide +kernel)), (tb_m 858 (by decide +kernel)), (tb_m 859 (by decide +kernel)), by decide +kernel, by decide +kernel, by decide +kernel⟩
theorem ck_L_65 : CKV RL 65 yX4_force cX4_force 4 (some .int) 3 := ⟨(tb_m 442 (by decide +kernel)), (tb_m 445 (by decide +kernel)), (tb_m 54 (by decide +kernel)), (tb_m 443 (by decide +kernel)), (tb_m 444 (by decide +kernel)), by decide +kernel, by decide +kernel, by decide +kernel⟩
theorem ck_L_69 : CKV RL 69 yX5_force cX5_force 4 (some .int) 3 := ⟨(tb_m 861 (by decide +kernel)), (tb_m 864 (by decide +kernel)), (tb_m 57 (by decide +kernel)), (tb_m 862 (by decide +kernel)), (tb_m 863 (by decide +kernel)), by decide +kernel, by decide +kernel, by decide +kernel⟩
theorem ck_L_70 : CKV RL 70 yX4_fromOne cX4_fromOne 4 (some .int) 3 := ⟨(tb_m 451 (by decide +kernel)), (tb_m 454 (by decide +kernel)), (tb_m 54 (by decide +kernel)), (tb_m 452 (by decide +kernel)), (tb_m 453 (by decide +kernel)), by decide +kernel, by decide +kernel, by decide +kernel⟩
theorem ck_L_73 : CKV RL 73 yX5_fromOne cX5_fromOne 4 (some .int) 3 := ⟨(tb_m 865 (by decide +kernel)), (tb_m 868 (by decide +kernel)), (tb_m 57 (by decide +kernel)), (tb_m 866 (by decide +kernel)), (tb_m 867 (by decide +kernel)), by decide +kernel, by decide +kernel, by decide +kernel⟩
theorem ck_L_74 : CKV RL 74 yX4_dips cX4_dips 6 (some .int) 4 := ⟨(tb_m 460 (by decide +kernel)), (tb_m 463 (by decide +kernel)), (tb_m 54 (by decide +kernel)), (tb_m 461 (by decide +kernel)), (tb_m 462 (by decide +kernel)), by decide +kernel, by decide +kernel, by decide +kernel⟩
theorem ck_L_78 : CKV RL 78 yX5_dips cX5_dips 6 (some .int) 4 := ⟨(tb_m 873 (by decide +kernel)), (tb_m 876 (by decide +kernel)), (tb_m 57 (by decide +kernel)), (tb_m 874 (by decide +kernel)), (tb_m 875 (by decide +kernel)), by decide +kernel, by decide +kernel, by decide +kernel⟩
theorem ck_L_79 : CKV RL 79 yX4_edge cX4_edge 4 (some .int) 3 := ⟨(tb_m 464 (by decide +kernel)), (tb_m 467 (by decide +kernel)), (tb_m 54 (by decide +kernel)), (tb_m 465 (by decide +kernel)), (tb_m 466 (by decide +kernel)), by decide +kernel, by decide +kernel, by decide +kernel⟩
theorem ck_L_82 : CKV RL 82 yX5_edge cX5_edge 4 (some .int) 3 := ⟨(tb_m 878 (by decide +kernel)), (tb_m 881 (by decide +kernel)), (tb_m 57 (by decide +kernel)), (tb_m 879 (by decide +kernel)), (tb_m 880 (by decide +kernel)), by decide +kernel, by decide +kernel, by decide +kernel⟩
theorem ck_L_83 : CKV RL 83 yX4_gap cX4_gap 4 (some .int) 1 := ⟨(tb_m 474 (by decide +kernel)), (tb_m 477 (by decide +kernel)), (tb_m 54 (by decide +kernel)), (tb_m 475 (by decide +kernel)), (tb_m 476 (by decide +kernel)), by decide +kernel, by decide +kernel, by decide +kernel⟩
theorem ck_L_86 : CKV RL 86 yX5_gap cX5_gap 4 (some .int) 1 := ⟨(tb_m 887 (by decide +kernel)), (tb_m 890 (by decide +kernel)), (tb_m 57 (by decide +kernel)), (tb_m 888 (by decide +kernel)), (tb_m 889 (by decide +kernel)), by decide +kernel, by decide +kernel, by decide +kernel⟩
theorem ck_L_87 : CKV RL 87 yX4_hit cX4_hit 9 (some .int) 2 := ⟨(tb_m 478 (by decide +kernel)), (tb_m 481 (by decide +kernel)), (tb_m 54 (by decide +kernel)), (tb_m 479 (by decide +kernel)), (tb_m 480 (by decide +kernel)), by decide +kernel, by decide +kernel, by decide +kernel⟩
theorem ck_L_90 : CKV RL 90 yX5_hit cX5_hit 12 (some .int) 2 := ⟨(tb_m 891 (by decide +kernel)), (tb_m 894 (by decide +kernel)), (tb_m 57 (by decide +kernel)), (tb_m 892 (by decide +kernel)), (tb_m 893 (by decide +kernel)), by decide +kernel, by decide +kernel, by decide +kernel⟩
theorem ck_L_91 : CKV RL 91 yX4_want cX4_want 3 (some .int) 2 := ⟨(tb_m 493 (by decide +kernel)), (tb_m 496 (by decide +kernel)), (tb_m 54 (by decide +kernel)), (tb_m 494 (by decide +kernel)), (tb_m 495 (by decide +kernel)), by decide +kernel, by decide +kernel, by decide +kernel⟩
theorem ck_L_94 : CKV RL 94 yX5_want cX5_want 3 (some .int) 2 := ⟨(tb_m 901 (by decide +kernel)), (tb_m 904 (by decide +kernel)), (tb_m 57 (by decide +kernel)), (tb_m 902 (by decide +kernel)), (tb_m 903 (by decide +kernel)), by decide +kernel, by decide +kernel, by decide +kernel⟩
theorem ck_L_95 : CKV RL 95 yX4_cover cX4_cover 7 (some .int) 2 := ⟨(tb_m 497 (by decide +kernel)), (tb_m 500 (by decide +kernel)), (tb_m 54 (by decide +kernel)), (tb_m 498 (by decide +kernel)), (tb_m 499 (by decide +kernel)), by decide +kernel, by decide +kernel, by decide +kernel⟩
theorem ck_L_98 : CKV RL 98 yX5_cover cX5_cover 6 (some .int) 2 := ⟨(tb_m 905 (by decide +kernel)), (tb_m 908 (by decide +kernel)), (tb_m 57 (by decide +kernel)), (tb_m 906 (by decide +kernel)), (tb_m 907 (by decide +kernel)), by decide +kernel, by decide +kernel, by decide +kernel⟩
theorem ck_L_99 : CKV RL 99 yX4_shrinks cX4_shrinks 5 (some .int) 2 := ⟨(tb_m 514 (by decide +kernel)), (tb_m 517 (by decide +kernel)), (tb_m 54 (by decide +kernel)), (tb_m 515 (by decide +kernel)), (tb_m 516 (by decide +kernel)), by decide +kernel, by decide +kernel, by decide +kernel⟩
theorem ck_L_102 : CKV RL 102 yX5_shrinks cX5_shrinks 5 (some .int) 2 := ⟨(tb_m 916 (by decide +kernel)), (tb_m 919 (by decide +kernel)), (tb_m 57 (by decide +kernel)), (tb_m 917 (by decide +kernel)), (tb_m 918 (by decide +kernel)), by decide +kernel, by decide +kernel, by decide +kernel⟩
theorem ck_L_103 : CKV RL 103 yX4_gone cX4_gone 4 (some .int) 1 := ⟨(tb_m 525 (by decide +kernel)), (tb_m 528 (by decide +kernel)), (tb_m 54 (by decide +kernel)), (tb_m 526 (by decide +kernel)), (tb_m 527 (by decide +kernel)), by decide +kernel, by decide +kernel, by decide +kernel⟩
theorem ck_L_106 : CKV RL 106 yX5_gone cX5_gone 4 (some .int) 1 := ⟨(tb_m 923 (by decide +kernel)), (tb_m 926 (by decide +kernel)), (tb_m 57 (by decide +kernel)), (tb_m 924 (by decide +kernel)), (tb_m 925 (by decide +kernel)), by decide +kernel, by decide +kernel, by decide +kernel⟩
theorem ck_L_107 : CKV RL 107 yX4_seen cX4_seen 4 (some .int) 3 := ⟨(tb_m 529 (by decide +kernel)), (tb_m 532 (by decide +kernel)), (tb_m 54 (by decide +kernel)), (tb_m 530 (by decide +kernel)), (tb_m 531 (by decide +kernel)), by decide +kernel, by decide +kernel, by decide +kernel⟩
theorem ck_L_110 : CKV RL 110 yX5_seen cX5_seen 4 (some .int) 3 := ⟨(tb_m 927 (by decide +kernel)), (tb_m 930 (by decide +kernel)), (tb_m 57 (by decide +kernel)), (tb_m 928 (by decide +kernel)), (tb_m 929 (by decide +kernel)), by decide +kernel, by decide +kernel, by decide +kernel⟩
theorem ck_L_111 : CKV RL 111 yX4_forget cX4_forget 3 (some .int) 1 := ⟨(tb_m 533 (by decide +kernel)), (tb_m 536 (by decide +kernel)), (tb_m 54 (by decide +kernel)), (tb_m 534 (by decide +kernel)), (tb_m 535 (by decide +kernel)), by decide +kernel, by decide +kernel, by decide +kernel⟩
theorem ck_L_114 : CKV RL 114 yX5_forget cX5_forget 4 (some .int) 1 := ⟨(tb_m 931 (by decide +kernel)), (tb_m 934 (by decide +kernel)), (tb_m 57 (by decide +kernel)), (tb_m 932 (by decide +kernel)), (tb_m 933 (by decide +kernel)), by decide +kernel, by decide +kernel, by decide +kernel⟩
theorem ck_L_115 : CKV RL 115 yX4_which cX4_which 10 (some .int) 2 := ⟨(tb_m 537 (by decide +kernel)), (tb_m 540 (by decide +kernel)), (tb_m 54 (by decide +kernel)), (tb_m 538 (by decide +kernel)), (tb_m 539 (by decide +kernel)), by decide +kernel, by decide +kernel, by decide +kernel⟩
theorem ck_L_118 : CKV RL 118 yX5_which cX5_which 7 (some .int) 2 := ⟨(tb_m 935 (by decide +kernel)), (tb_m 938 (by decide +kernel)), (tb_m 57 (by decide +kernel)), (tb_m 936 (by decide +kernel)), (tb_m 937 (by decide +kernel)), by decide +kernel, by decide +kernel, by decide +kernel⟩
theorem ck_L_119 : CKV RL 119 yX4_look cX4_look 8 (some .int) 1 := ⟨(tb_m 548 (by decide +kernel)), (tb_m 551 (by decide +kernel)), (tb_m 54 (by decide +kernel)), (tb_m 549 (by decide +kernel)), (tb_m 550 (by decide +kernel)), by decide +kernel, by decide +kernel, by decide +kernel⟩
theorem ck_L_122 : CKV RL 122 yX5_look cX5_look 7 (some .int) 1 := ⟨(tb_m 943 (by decide +kernel)), (tb_m 946 (by decide +kernel)), (tb_m 57 (by decide +kernel)), (tb_m 944 (by decide +kernel)), (tb_m 945 (by decide +kernel)), by decide +kernel, by decide +kernel, by decide +kernel⟩
theorem ck_L_123 : CKV RL 123 yX4_bitten cX4_bitten 9 (some .int) 5 := ⟨(tb_m 563 (by decide +kernel)), (tb_m 566 (by decide +kernel)), (tb_m 54 (by decide +kernel)), (tb_m 564 (by decide +kernel)), (tb_m 565 (by decide +kernel)), by decide +kernel, by decide +kernel, by decide +kernel⟩
theorem ck_L_126 : CKV RL 126 yX5_bitten cX5_bitten 12 (some .int) 5 := ⟨(tb_m 947 (by decide +kernel)), (tb_m 950 (by decide +kernel)), (tb_m 57 (by decide +kernel)), (tb_m 948 (by decide +kernel)), (tb_m 949 (by decide +kernel)), by decide +kernel, by decide +kernel, by decide +kernel⟩
theorem ck_L_127 : CKV RL 127 yX4_slips cX4_slips 16 (some .int) 7 := ⟨(tb_m 571 (by decide +kernel)), (tb_m 574 (by decide +kernel)), (tb_m 54 (by decide +kernel)), (tb_m 572 (by decide +kernel)), (tb_m 573 (by decide +kernel)), by decide +kernel, by decide +kernel, by decide +kernel⟩
theorem ck_L_131 : CKV RL 131 yX5_slips cX5_slips 17 (some .int) 7 := ⟨(tb_m 951 (by decide +kernel)), (tb_m 954 (by decide +kernel)), (tb_m 57 (by decide +kernel)), (tb_m 952 (by decide +kernel)), (tb_m 953 (by decide +kernel)), by decide +kernel, by decide +kernel, by decide +kernel⟩
theorem ck_L_132 : CKV RL 132 yX4_sheets cX4_sheets 10 (some .int) 2 := ⟨(tb_m 585 (by decide +kernel)), (tb_m 588 (by decide +kernel)), (tb_m 54 (by decide +kernel)), (tb_m 586 (by decide +kernel)), (tb_m 587 (by decide +kernel)), by decide +kernel, by decide +kernel, by decide +kernel⟩
theorem ck_L_135 : CKV RL 135 yX5_sheets cX5_sheets 8 (some .int) 2 := ⟨(tb_m 961 (by decide +kernel)), (tb_m 964 (by decide +kernel)), (tb_m 57 (by decide +kernel)), (tb_m 962 (by decide +kernel)), (tb_m 963 (by decide +kernel)), by decide +kernel, by decide +kernel, by decide +kernel⟩
theorem ck_L_136 : CKV RL 136 yX4_part cX4_part 2 (some .long) 1 := ⟨(tb_m 604 (by decide +kernel)), (tb_m 607 (by decide +kernel)), (tb_m 54 (by decide +kernel)), (tb_m 605 (by decide +kernel)), (tb_m 606 (by decide +kernel)), by decide +kernel, by decide +kernel, by decide +kernel⟩
theorem ck_L_140 : CKV RL 140 yX5_part cX5_part 2 (some .long) 1 := ⟨(tb_m 975 (by decide +kernel)), (tb_m 978 (by decide +kernel)), (tb_m 57 (by decide +kernel)), (tb_m 976 (by decide +kernel)), (tb_m 977 (by decide +kernel)), by decide +kernel, by decide +kernel, by decide +kernel⟩
theorem ck_L_141 : CKV RL 141 yX4_image cX4_image 3 (some .int) 1 := ⟨(tb_m 608 (by decide +kernel)), (tb_m 611 (by decide +kernel)), (tb_m 54 (by decide +kernel)), (tb_m 609 (by decide +kernel)), (tb_m 610 (by decide +kernel)), by decide +kernel, by decide +kernel, by decide +kernel⟩
theorem ck_L_144 : CKV RL 144 yX5_image cX5_image 3 (some .int) 1 := ⟨(tb_m 979 (by decide +kernel)), (tb_m 982 (by decide +kernel)), (tb_m 57 (by decide +kernel)), (tb_m 980 (by decide +kernel)), (tb_m 981 (by decide +kernel)), by decide +kernel, by decide +kernel, by decide +kernel⟩
theorem ck_L_145 : CKV RL 145 yX4_from cX4_from 3 (some .int) 1 := ⟨(tb_m 612 (by decide +kernel)), (tb_m 615 (by decide +kernel)), (tb_m 54 (by decide +kernel)), (tb_m 613 (by decide +kernel)), (tb_m 614 (by decide +kernel)), by decide +kernel, by decide +kernel, by decide +kernel⟩
theorem ck_L_148 : CKV RL 148 yX5_from cX5_from 3 (some .int) 1 := ⟨(tb_m 983 (by decide +kernel)), (tb_m 986 (by decide +kernel)), (tb_m 57 (by decide +kernel)), (tb_m 984 (by decide +kernel)), (tb_m 985 (by decide +kernel)), by decide +kernel, by decide +kernel, by decide +kernel⟩
theorem ck_L_149 : CKV RL 149 yX4_status cX4_status 2 (some .int) 1 := ⟨(tb_m 616 (by decide +kernel)), (tb_m 619 (by decide +kernel)), (tb_m 54 (by decide +kernel)), (tb_m 617 (by decide +kernel)), (tb_m 618 (by decide +kernel)), by decide +kernel, by decide +kernel, by decide +kernel⟩
theorem ck_L_152 : CKV RL 152 yX5_status cX5_status 2 (some .int) 1 := ⟨(tb_m 987 (by decide +kernel)), (tb_m 990 (by decide +kernel)), (tb_m 57 (by decide +kernel)), (tb_m 988 (by decide +kernel)), (tb_m 989 (by decide +kernel)), by decide +kernel, by decide +kernel, by decide +kernel⟩
theorem ck_L_153 : CKV RL 153 yX4_count cX4_count 2 (some .int) 1 := ⟨(tb_m 620 (by decide +kernel)), (tb_m 623 (by decide +kernel)), (tb_m 54 (by decide +kernel)), (tb_m 621 (by decide +kernel)), (tb_m 622 (by decide +kernel)), by decide +kernel, by decide +kernel, by decide +kernel⟩
theorem ck_L_156 : CKV RL 156 yX5_count cX5_count 2 (some .int) 1 := ⟨(tb_m 992 (by decide +kernel)), (tb_m 995 (by decide +kernel)), (tb_m 57 (by decide +kernel)), (tb_m 993 (by decide +kernel)), (tb_m 994 (by decide +kernel)), by decide +kernel, by decide +kernel, by decide +kernel⟩
theorem ck_L_157 : CKV RL 157 yX4_digest cX4_digest 4 (some .long) 0 := ⟨(tb_m 628 (by decide +kernel)), (tb_m 631 (by decide +kernel)), (tb_m 54 (by decide +kernel)), (tb_m 629 (by decide +kernel)), (tb_m 630 (by decide +kernel)), by decide +kernel, by decide +kernel, by decide +kernel⟩
theorem ck_L_161 : CKV RL 161 yX5_digest cX5_digest 4 (some .long) 0 := ⟨(tb_m 1000 (by decide +kernel)), (tb_m 1003 (by decide +kernel)), (tb_m 57 (by decide +kernel)), (tb_m 1001 (by decide +kernel)), (tb_m 1002 (by decide +kernel)), by decide +kernel, by decide +kernel, by decide +kernel⟩
theorem lg_self (x : Int64) : lg_cmp x x = 0 := by simp [lg_cmp]
set_option maxRecDepth 100000 in
set_option maxHeartbeats 4000000 in
theorem law_loop {p : Program} {l : Launch} {e : Env} {s : State} {m : MethodId} {below : List Frame} {meth : Method} {c : Code} {G : va_G} {cs ts : Nat → Nat} {q : Nat → Nat → Nat} {a : Nat → Nat} {b L : Nat} {xs : Nat → Int32} (IV : ZI → ZI → ZI → ZI → ZL → Option ZI → Option ZI → ZI → ZL → Prop) (hst : LawSteps IV) (hL : L ≤ 512) (C0 : lw_At p s m meth c b L xs) (hT : TBok s) (hC : CX G cs ts (fun z : Nat => s.heap.size ≤ z) s) :
    ∀ (n k : Nat), 8 * k ≤ L → L + 1 ≤ 8 * k + n → ∀ (N D X PM : ZI) (PL : ZL) (i0 i1 : Option ZI) (M : ZI) (L9 : ZL), IV N D X PM PL i0 i1 M L9 → ∀ (j : Nat → Nat → Nat) (H : Heap) (locs : List Loc), va_P G vwCl (pW q cs N D X PM PL ++ (rW q j cs i0 i1 ++ mdW a cs M L9)) H → va_D (fun z : Nat => s.heap.size ≤ z) (pW q cs N D X PM PL ++ (rW q j cs i0 i1 ++ mdW a cs M L9)) → va_S (fun z : Nat => s.heap.size ≤ z) s.heap H locs → ∀ ls : Array Slot, lv_has ls 4 [(0, .ref b), (1, .ref (q 0 99)), (2, .ref (a 99)), (3, .int (nI (8 * k)))] → W p l e room_1 s m #[Value.ref b] below meth c H locs (36 + 8 * k) (4196 + 621 * k) (lw_Z below #[Value.ref b] s) (F0 m 18 ls []) := by
  obtain ⟨hx, hb, hr, hml, hown, hts, hX, hbl, hlocks, hgv⟩ := C0
  have hA : ∀ z : Nat, s.heap.size ≤ z → (fun z : Nat => s.heap.size ≤ z) z := fun _ h => h
  have hbA : ¬ (fun z : Nat => s.heap.size ≤ z) b := Nat.not_le.mpr hbl
  obtain ⟨s0, s1, s2, s3, s4, s5, s6, s7, s8, s9, s10, s11, s12, s13, s14, s15, s16, s17, s18, s19, s20, s21, s22, s23, s24, s25, s26, s27, s28, s29, s30, s31, s32, s33, s34⟩ := hst
  intro n
  induction n with
  | zero =>
    intro k h1 h2
    exact absurd h2 (by omega)
  | succ n ih =>
    intro k hk hkn N D X PM PL i0 i1 M L9 hI j H locs hP hD hS ls hl
    have hEnd : 8 * k + 8 ≤ L → ∀ (N D X PM : ZI) (PL : ZL) (i0 i1 : Option ZI) (M : ZI) (L9 : ZL), IV N D X PM PL i0 i1 M L9 → ∀ (j : Nat → Nat → Nat) (H : Heap) (locs : List Loc), va_P G vwCl (pW q cs N D X PM PL ++ (rW q j cs i0 i1 ++ mdW a cs M L9)) H → va_D (fun z : Nat => s.heap.size ≤ z) (pW q cs N D X PM PL ++ (rW q j cs i0 i1 ++ mdW a cs M L9)) → va_S (fun z : Nat => s.heap.size ≤ z) s.heap H locs → ∀ ls : Array Slot, lv_has ls 4 [(0, .ref b), (1, .ref (q 0 99)), (2, .ref (a 99)), (3, .int (nI (8 * k)))] → W p l e room_1 s m #[Value.ref b] below meth c H locs (36 + 8 * k + 8) (4196 + 621 * k + 621) (lw_Z below #[Value.ref b] s) (F0 m 1339 ls []) := by
      intro hk8 N D X PM PL i0 i1 M L9 hI j H locs hP hD hS ls hl
      refine lv_iinc (v := nI (8 * (k + 1))) (lv' := [(3, .int (nI (8 * (k + 1)))), (0, .ref b), (1, .ref (q 0 99)), (2, .ref (a 99))]) hx hb dL_law_1339 hl (k := 3) rfl (by rw [show 8 * (k + 1) = 8 * k + 8 by omega]; exact nI_add (8 * k) 8) (by decide) rfl (fun ls hl => ?_)
      refine lv_goto (tgt := 18) hx hb dL_law_1342 (by decide) ?_
      refine W.widen (k := 36 + 8 * (k + 1)) (n := 4196 + 621 * (k + 1)) (by omega) (by omega) ?_
      exact ih (k + 1) (by omega) (by omega) N D X PM PL i0 i1 M L9 hI j H locs hP hD hS ls (lv_sub hl [1, 2, 3, 0] rfl)
    refine lv_iload_n hx hb dL_law_18 rfl (lv_at hl 3 rfl) ?_
    refine lv_aload_n hx hb dL_law_19 rfl (lv_at hl 0 rfl) ?_
    refine va_slen hx hb hX hbl hbA hS dL_law_20 ?_
    refine lv_bipush (v := 8) hx hb dL_law_21 (by decide) ?_
    refine lv_isub hx hb dL_law_23 ?_
    refine lv_icmp_gt (tgt := 1345) hx hb dL_law_24 (by decide) (fun ct => ?_) (fun ct => ?_)
    · refine lv_iconst (v := 1) hx hb dL_law_1345 (by decide) ?_
      refine va_forget (fun z hz => hS.2.2 z hz) ?_
      refine W.widen (k := 600000) (n := 7302250) (by omega) (by omega) ?_
      exact lw_ret hx hb hr hlocks dL_law_1346
    · have hk8 := lw_cond hL hk ct
      have v0 : vp_in (nI (8 * k)) L := vp_in_nI (by omega) (by omega)
      have v1 : vp_in (nI (8 * k) + 1) L := by
        rw [show nI (8 * k) + 1 = nI (8 * k + 1) from nI_add (8 * k) 1]
        exact vp_in_nI (by omega) (by omega)
      have v2 : vp_in (nI (8 * k) + 2) L := by
        rw [show nI (8 * k) + 2 = nI (8 * k + 2) from nI_add (8 * k) 2]
        exact vp_in_nI (by omega) (by omega)
      have v3 : vp_in (nI (8 * k) + 3) L := by
        rw [show nI (8 * k) + 3 = nI (8 * k + 3) from nI_add (8 * k) 3]
        exact vp_in_nI (by omega) (by omega)
      have v4 : vp_in (nI (8 * k) + 4) L := by
        rw [show nI (8 * k) + 4 = nI (8 * k + 4) from nI_add (8 * k) 4]
        exact vp_in_nI (by omega) (by omega)
      have v5 : vp_in (nI (8 * k) + 5) L := by
        rw [show nI (8 * k) + 5 = nI (8 * k + 5) from nI_add (8 * k) 5]
        exact vp_in_nI (by omega) (by omega)
      have v6 : vp_in (nI (8 * k) + 6) L := by
        rw [show nI (8 * k) + 6 = nI (8 * k + 6) from nI_add (8 * k) 6]
        exact vp_in_nI (by omega) (by omega)
      have v7 : vp_in (nI (8 * k) + 7) L := by
        rw [show nI (8 * k) + 7 = nI (8 * k + 7) from nI_add (8 * k) 7]
        exact vp_in_nI (by omega) (by omega)
      refine lv_aload_n hx hb dL_law_27 rfl (lv_at hl 0 rfl) ?_
      refine lv_iload_n hx hb dL_law_28 rfl (lv_at hl 3 rfl) ?_
      refine va_sld hx hb hX hbl hbA hS v0 dL_law_29 ?_
      refine lv_bipush (v := 63) hx hb dL_law_30 (by decide) ?_
      refine lv_iand hx hb dL_law_32 ?_
      refine lv_topi (fun w ew => ?_)
      by_cases c0 : w = 0
      · refine lv_tableIn (tgt := 188) (off := 155) hx hb dL_law_33 (by rw [c0]; decide) (by rw [c0]; decide) (by rw [c0]; decide) (by decide) ?_
        have h := s0 N D X PM PL i0 i1 M L9 (xs (nI (8 * k) + 1).toNatClampNeg) hI
        refine lv_aload_n hx hb dL_law_188 rfl (lv_at hl 1 rfl) ?_
        refine lv_aload_n hx hb dL_law_189 rfl (lv_at hl 0 rfl) ?_
        refine lv_iload_n hx hb dL_law_190 rfl (lv_at hl 3 rfl) ?_
        refine lv_iconst (v := 1) hx hb dL_law_191 (by decide) ?_
        refine lv_iadd hx hb dL_law_192 ?_
        refine va_sld hx hb hX hbl hbA hS v1 dL_law_193 ?_
        refine lw_i (rn_V (rest := []) (ci := 2) (wc := pW q cs N D X PM PL) hx hb hml hown hT hl.1 hC hS hP.lf hD.lf 0 rfl rfl rfl ck_L_13 (c_X4_table l G cs ts q H.size N D X PM PL (xs (nI (8 * k) + 1).toNatClampNeg) _ h) ⟨rfl, rfl, (Nat.le_of_ble_eq_true rfl), (Nat.le_of_ble_eq_true rfl)⟩ ⟨by show _ ≤ 600000; omega, by show _ ≤ 7302250; omega⟩ rfl rfl (Nat.le_of_ble_eq_true rfl) dL_law_194) hP hD hS hA (fun r u H locs hP hD hS h => ?_)
        obtain ⟨N, D, X, PM, PL⟩ := u
        have hP : va_P G vwCl (pW q cs N D X PM PL ++ (rW q j cs i0 i1 ++ mdW a cs M L9)) H := hP
        have hD : va_D (fun z : Nat => s.heap.size ≤ z) (pW q cs N D X PM PL ++ (rW q j cs i0 i1 ++ mdW a cs M L9)) := hD
        refine W.widen (k := 36 + 8 * k + 8) (n := 4196 + 621 * k + 621) (by omega) (by omega) ?_
        have hP := va_P.cm ((List.append_assoc _ _ _).symm ▸ hP)
        have hD := va_D.cm ((List.append_assoc _ _ _).symm ▸ hD)
        refine lv_aload_n hx hb dL_law_197 rfl (lv_at hl 2 rfl) ?_
        refine lv_aload_n hx hb dL_law_198 rfl (lv_at hl 0 rfl) ?_
        refine lv_iload_n hx hb dL_law_199 rfl (lv_at hl 3 rfl) ?_
        refine lv_iconst (v := 1) hx hb dL_law_200 (by decide) ?_
        refine lv_iadd hx hb dL_law_201 ?_
        refine va_sld hx hb hX hbl hbA hS v1 dL_law_202 ?_
        refine lw_i (rn_V (rest := [.int r]) (ci := 3) (wc := mdW a cs M L9) hx hb hml hown hT hl.1 hC hS hP.lf hD.lf 0 rfl rfl rfl ck_L_17 (c_X5_table l G cs ts a H.size M L9 (xs (nI (8 * k) + 1).toNatClampNeg) _ h) ⟨rfl, rfl, (Nat.le_of_ble_eq_true rfl), (Nat.le_of_ble_eq_true rfl)⟩ ⟨by show _ ≤ 600000; omega, by show _ ≤ 7302250; omega⟩ rfl rfl (Nat.le_of_ble_eq_true rfl) dL_law_203) hP hD hS hA (fun r2 u H locs hP hD hS h => ?_)
        obtain ⟨M, L9⟩ := u
        obtain ⟨hrr, hI⟩ := h
        have hP : va_P G vwCl (pW q cs N D X PM PL ++ (rW q j cs i0 i1 ++ mdW a cs M L9)) H := by
          have h2 := va_P.cm hP
          rw [List.append_assoc] at h2
          exact h2
        have hD : va_D (fun z : Nat => s.heap.size ≤ z) (pW q cs N D X PM PL ++ (rW q j cs i0 i1 ++ mdW a cs M L9)) := by
          have h2 := va_D.cm hD
          rw [List.append_assoc] at h2
          exact h2
        refine lv_icmp_eq (tgt := 1339) hx hb dL_law_206 (by decide) (fun _ => ?_) (fun ct => absurd hrr ct)
        exact hEnd hk8 N D X PM PL i0 i1 M L9 hI j H locs hP hD hS ls hl
      · by_cases c1 : w = 1
        · refine lv_tableIn (tgt := 211) (off := 178) hx hb dL_law_33 (by rw [c1]; decide) (by rw [c1]; decide) (by rw [c1]; decide) (by decide) ?_
          have h := s1 N D X PM PL i0 i1 M L9 (xs (nI (8 * k) + 1).toNatClampNeg) (xs (nI (8 * k) + 2).toNatClampNeg) hI
          refine lv_aload_n hx hb dL_law_211 rfl (lv_at hl 1 rfl) ?_
          refine lv_aload_n hx hb dL_law_212 rfl (lv_at hl 0 rfl) ?_
          refine lv_iload_n hx hb dL_law_213 rfl (lv_at hl 3 rfl) ?_
          refine lv_iconst (v := 1) hx hb dL_law_214 (by decide) ?_
          refine lv_iadd hx hb dL_law_215 ?_
          refine va_sld hx hb hX hbl hbA hS v1 dL_law_216 ?_
          refine lv_aload_n hx hb dL_law_217 rfl (lv_at hl 0 rfl) ?_
          refine lv_iload_n hx hb dL_law_218 rfl (lv_at hl 3 rfl) ?_
          refine lv_iconst (v := 2) hx hb dL_law_219 (by decide) ?_
          refine lv_iadd hx hb dL_law_220 ?_
          refine va_sld hx hb hX hbl hbA hS v2 dL_law_221 ?_
          refine lw_i (rn_V (rest := []) (ci := 2) (wc := pW q cs N D X PM PL) hx hb hml hown hT hl.1 hC hS hP.lf hD.lf 0 rfl rfl rfl ck_L_18 (c_X4_cut l G cs ts q H.size N D X PM PL (xs (nI (8 * k) + 1).toNatClampNeg) (xs (nI (8 * k) + 2).toNatClampNeg) _ h) ⟨rfl, rfl, (Nat.le_of_ble_eq_true rfl), (Nat.le_of_ble_eq_true rfl)⟩ ⟨by show _ ≤ 600000; omega, by show _ ≤ 7302250; omega⟩ rfl rfl (Nat.le_of_ble_eq_true rfl) dL_law_222) hP hD hS hA (fun r u H locs hP hD hS h => ?_)
          obtain ⟨N, D, X, PM, PL⟩ := u
          have hP : va_P G vwCl (pW q cs N D X PM PL ++ (rW q j cs i0 i1 ++ mdW a cs M L9)) H := hP
          have hD : va_D (fun z : Nat => s.heap.size ≤ z) (pW q cs N D X PM PL ++ (rW q j cs i0 i1 ++ mdW a cs M L9)) := hD
          refine W.widen (k := 36 + 8 * k + 8) (n := 4196 + 621 * k + 621) (by omega) (by omega) ?_
          have hP := va_P.cm ((List.append_assoc _ _ _).symm ▸ hP)
          have hD := va_D.cm ((List.append_assoc _ _ _).symm ▸ hD)
          refine lv_aload_n hx hb dL_law_225 rfl (lv_at hl 2 rfl) ?_
          refine lv_aload_n hx hb dL_law_226 rfl (lv_at hl 0 rfl) ?_
          refine lv_iload_n hx hb dL_law_227 rfl (lv_at hl 3 rfl) ?_
          refine lv_iconst (v := 1) hx hb dL_law_228 (by decide) ?_
          refine lv_iadd hx hb dL_law_229 ?_
          refine va_sld hx hb hX hbl hbA hS v1 dL_law_230 ?_
          refine lv_aload_n hx hb dL_law_231 rfl (lv_at hl 0 rfl) ?_
          refine lv_iload_n hx hb dL_law_232 rfl (lv_at hl 3 rfl) ?_
          refine lv_iconst (v := 2) hx hb dL_law_233 (by decide) ?_
          refine lv_iadd hx hb dL_law_234 ?_
          refine va_sld hx hb hX hbl hbA hS v2 dL_law_235 ?_
          refine lw_i (rn_V (rest := [.int r]) (ci := 3) (wc := mdW a cs M L9) hx hb hml hown hT hl.1 hC hS hP.lf hD.lf 0 rfl rfl rfl ck_L_22 (c_X5_cut l G cs ts a H.size M L9 (xs (nI (8 * k) + 1).toNatClampNeg) (xs (nI (8 * k) + 2).toNatClampNeg) _ h) ⟨rfl, rfl, (Nat.le_of_ble_eq_true rfl), (Nat.le_of_ble_eq_true rfl)⟩ ⟨by show _ ≤ 600000; omega, by show _ ≤ 7302250; omega⟩ rfl rfl (Nat.le_of_ble_eq_true rfl) dL_law_236) hP hD hS hA (fun r2 u H locs hP hD hS h => ?_)
          obtain ⟨M, L9⟩ := u
          obtain ⟨hrr, hI⟩ := h
          have hP : va_P G vwCl (pW q cs N D X PM PL ++ (rW q j cs i0 i1 ++ mdW a cs M L9)) H := by
            have h2 := va_P.cm hP
            rw [List.append_assoc] at h2
            exact h2
          have hD : va_D (fun z : Nat => s.heap.size ≤ z) (pW q cs N D X PM PL ++ (rW q j cs i0 i1 ++ mdW a cs M L9)) := by
            have h2 := va_D.cm hD
            rw [List.append_assoc] at h2
            exact h2
          refine lv_icmp_eq (tgt := 1339) hx hb dL_law_239 (by decide) (fun _ => ?_) (fun ct => absurd hrr ct)
          exact hEnd hk8 N D X PM PL i0 i1 M L9 hI j H locs hP hD hS ls hl
        · by_cases c2 : w = 2
          · refine lv_tableIn (tgt := 244) (off := 211) hx hb dL_law_33 (by rw [c2]; decide) (by rw [c2]; decide) (by rw [c2]; decide) (by decide) ?_
            have h := s2 N D X PM PL i0 i1 M L9 (xs (nI (8 * k) + 1).toNatClampNeg) hI
            refine lv_aload_n hx hb dL_law_244 rfl (lv_at hl 1 rfl) ?_
            refine lv_aload_n hx hb dL_law_245 rfl (lv_at hl 0 rfl) ?_
            refine lv_iload_n hx hb dL_law_246 rfl (lv_at hl 3 rfl) ?_
            refine lv_iconst (v := 1) hx hb dL_law_247 (by decide) ?_
            refine lv_iadd hx hb dL_law_248 ?_
            refine va_sld hx hb hX hbl hbA hS v1 dL_law_249 ?_
            refine lw_i (rn_V (rest := []) (ci := 2) (wc := pW q cs N D X PM PL) hx hb hml hown hT hl.1 hC hS hP.lf hD.lf 0 rfl rfl rfl ck_L_23 (c_X4_dip l G cs ts q H.size N D X PM PL (xs (nI (8 * k) + 1).toNatClampNeg) _ h) ⟨rfl, rfl, (Nat.le_of_ble_eq_true rfl), (Nat.le_of_ble_eq_true rfl)⟩ ⟨by show _ ≤ 600000; omega, by show _ ≤ 7302250; omega⟩ rfl rfl (Nat.le_of_ble_eq_true rfl) dL_law_250) hP hD hS hA (fun r u H locs hP hD hS h => ?_)
            obtain ⟨N, D, X, PM, PL⟩ := u
            have hP : va_P G vwCl (pW q cs N D X PM PL ++ (rW q j cs i0 i1 ++ mdW a cs M L9)) H := hP
            have hD : va_D (fun z : Nat => s.heap.size ≤ z) (pW q cs N D X PM PL ++ (rW q j cs i0 i1 ++ mdW a cs M L9)) := hD
            refine W.widen (k := 36 + 8 * k + 8) (n := 4196 + 621 * k + 621) (by omega) (by omega) ?_
            have hP := va_P.cm ((List.append_assoc _ _ _).symm ▸ hP)
            have hD := va_D.cm ((List.append_assoc _ _ _).symm ▸ hD)
            refine lv_aload_n hx hb dL_law_253 rfl (lv_at hl 2 rfl) ?_
            refine lv_aload_n hx hb dL_law_254 rfl (lv_at hl 0 rfl) ?_
            refine lv_iload_n hx hb dL_law_255 rfl (lv_at hl 3 rfl) ?_
            refine lv_iconst (v := 1) hx hb dL_law_256 (by decide) ?_
            refine lv_iadd hx hb dL_law_257 ?_
            refine va_sld hx hb hX hbl hbA hS v1 dL_law_258 ?_
            refine lw_i (rn_V (rest := [.int r]) (ci := 3) (wc := mdW a cs M L9) hx hb hml hown hT hl.1 hC hS hP.lf hD.lf 0 rfl rfl rfl ck_L_26 (c_X5_dip l G cs ts a H.size M L9 (xs (nI (8 * k) + 1).toNatClampNeg) _ h) ⟨rfl, rfl, (Nat.le_of_ble_eq_true rfl), (Nat.le_of_ble_eq_true rfl)⟩ ⟨by show _ ≤ 600000; omega, by show _ ≤ 7302250; omega⟩ rfl rfl (Nat.le_of_ble_eq_true rfl) dL_law_259) hP hD hS hA (fun r2 u H locs hP hD hS h => ?_)
            obtain ⟨M, L9⟩ := u
            obtain ⟨hrr, hI⟩ := h
            have hP : va_P G vwCl (pW q cs N D X PM PL ++ (rW q j cs i0 i1 ++ mdW a cs M L9)) H := by
              have h2 := va_P.cm hP
              rw [List.append_assoc] at h2
              exact h2
            have hD : va_D (fun z : Nat => s.heap.size ≤ z) (pW q cs N D X PM PL ++ (rW q j cs i0 i1 ++ mdW a cs M L9)) := by
              have h2 := va_D.cm hD
              rw [List.append_assoc] at h2
              exact h2
            refine lv_icmp_eq (tgt := 1339) hx hb dL_law_262 (by decide) (fun _ => ?_) (fun ct => absurd hrr ct)
            exact hEnd hk8 N D X PM PL i0 i1 M L9 hI j H locs hP hD hS ls hl
          · by_cases c3 : w = 3
            · refine lv_tableIn (tgt := 267) (off := 234) hx hb dL_law_33 (by rw [c3]; decide) (by rw [c3]; decide) (by rw [c3]; decide) (by decide) ?_
              have h := s3 N D X PM PL i0 i1 M L9 (xs (nI (8 * k) + 1).toNatClampNeg) (xs (nI (8 * k) + 2).toNatClampNeg) (xs (nI (8 * k) + 3).toNatClampNeg) (xs (nI (8 * k) + 4).toNatClampNeg) (xs (nI (8 * k) + 5).toNatClampNeg) hI
              refine lv_aload_n hx hb dL_law_267 rfl (lv_at hl 1 rfl) ?_
              refine lv_aload_n hx hb dL_law_268 rfl (lv_at hl 0 rfl) ?_
              refine lv_iload_n hx hb dL_law_269 rfl (lv_at hl 3 rfl) ?_
              refine lv_iconst (v := 1) hx hb dL_law_270 (by decide) ?_
              refine lv_iadd hx hb dL_law_271 ?_
              refine va_sld hx hb hX hbl hbA hS v1 dL_law_272 ?_
              refine lv_aload_n hx hb dL_law_273 rfl (lv_at hl 0 rfl) ?_
              refine lv_iload_n hx hb dL_law_274 rfl (lv_at hl 3 rfl) ?_
              refine lv_iconst (v := 2) hx hb dL_law_275 (by decide) ?_
              refine lv_iadd hx hb dL_law_276 ?_
              refine va_sld hx hb hX hbl hbA hS v2 dL_law_277 ?_
              refine lv_aload_n hx hb dL_law_278 rfl (lv_at hl 0 rfl) ?_
              refine lv_iload_n hx hb dL_law_279 rfl (lv_at hl 3 rfl) ?_
              refine lv_iconst (v := 3) hx hb dL_law_280 (by decide) ?_
              refine lv_iadd hx hb dL_law_281 ?_
              refine va_sld hx hb hX hbl hbA hS v3 dL_law_282 ?_
              refine lv_aload_n hx hb dL_law_283 rfl (lv_at hl 0 rfl) ?_
              refine lv_iload_n hx hb dL_law_284 rfl (lv_at hl 3 rfl) ?_
              refine lv_iconst (v := 4) hx hb dL_law_285 (by decide) ?_
              refine lv_iadd hx hb dL_law_286 ?_
              refine va_sld hx hb hX hbl hbA hS v4 dL_law_287 ?_
              refine lv_aload_n hx hb dL_law_288 rfl (lv_at hl 0 rfl) ?_
              refine lv_iload_n hx hb dL_law_289 rfl (lv_at hl 3 rfl) ?_
              refine lv_iconst (v := 5) hx hb dL_law_290 (by decide) ?_
              refine lv_iadd hx hb dL_law_291 ?_
              refine va_sld hx hb hX hbl hbA hS v5 dL_law_292 ?_
              refine lw_i (rn_V (rest := []) (ci := 2) (wc := pW q cs N D X PM PL) hx hb hml hown hT hl.1 hC hS hP.lf hD.lf 0 rfl rfl rfl ck_L_27 (c_X4_print l G cs ts q H.size N D X PM PL (xs (nI (8 * k) + 1).toNatClampNeg) (xs (nI (8 * k) + 2).toNatClampNeg) (xs (nI (8 * k) + 3).toNatClampNeg) (xs (nI (8 * k) + 4).toNatClampNeg) (xs (nI (8 * k) + 5).toNatClampNeg) _ h) ⟨rfl, rfl, (Nat.le_of_ble_eq_true rfl), (Nat.le_of_ble_eq_true rfl)⟩ ⟨by show _ ≤ 600000; omega, by show _ ≤ 7302250; omega⟩ rfl rfl (Nat.le_of_ble_eq_true rfl) dL_law_293) hP hD hS hA (fun r u H locs hP hD hS h => ?_)
              obtain ⟨N, D, X, PM, PL⟩ := u
              have hP : va_P G vwCl (pW q cs N D X PM PL ++ (rW q j cs i0 i1 ++ mdW a cs M L9)) H := hP
              have hD : va_D (fun z : Nat => s.heap.size ≤ z) (pW q cs N D X PM PL ++ (rW q j cs i0 i1 ++ mdW a cs M L9)) := hD
              refine W.widen (k := 36 + 8 * k + 8) (n := 4196 + 621 * k + 621) (by omega) (by omega) ?_
              have hP := va_P.cm ((List.append_assoc _ _ _).symm ▸ hP)
              have hD := va_D.cm ((List.append_assoc _ _ _).symm ▸ hD)
              refine lv_aload_n hx hb dL_law_296 rfl (lv_at hl 2 rfl) ?_
              refine lv_aload_n hx hb dL_law_297 rfl (lv_at hl 0 rfl) ?_
              refine lv_iload_n hx hb dL_law_298 rfl (lv_at hl 3 rfl) ?_
              refine lv_iconst (v := 1) hx hb dL_law_299 (by decide) ?_
              refine lv_iadd hx hb dL_law_300 ?_
              refine va_sld hx hb hX hbl hbA hS v1 dL_law_301 ?_
              refine lv_aload_n hx hb dL_law_302 rfl (lv_at hl 0 rfl) ?_
              refine lv_iload_n hx hb dL_law_303 rfl (lv_at hl 3 rfl) ?_
              refine lv_iconst (v := 2) hx hb dL_law_304 (by decide) ?_
              refine lv_iadd hx hb dL_law_305 ?_
              refine va_sld hx hb hX hbl hbA hS v2 dL_law_306 ?_
              refine lv_aload_n hx hb dL_law_307 rfl (lv_at hl 0 rfl) ?_
              refine lv_iload_n hx hb dL_law_308 rfl (lv_at hl 3 rfl) ?_
              refine lv_iconst (v := 3) hx hb dL_law_309 (by decide) ?_
              refine lv_iadd hx hb dL_law_310 ?_
              refine va_sld hx hb hX hbl hbA hS v3 dL_law_311 ?_
              refine lv_aload_n hx hb dL_law_312 rfl (lv_at hl 0 rfl) ?_
              refine lv_iload_n hx hb dL_law_313 rfl (lv_at hl 3 rfl) ?_
              refine lv_iconst (v := 4) hx hb dL_law_314 (by decide) ?_
              refine lv_iadd hx hb dL_law_315 ?_
              refine va_sld hx hb hX hbl hbA hS v4 dL_law_316 ?_
              refine lv_aload_n hx hb dL_law_317 rfl (lv_at hl 0 rfl) ?_
              refine lv_iload_n hx hb dL_law_318 rfl (lv_at hl 3 rfl) ?_
              refine lv_iconst (v := 5) hx hb dL_law_319 (by decide) ?_
              refine lv_iadd hx hb dL_law_320 ?_
              refine va_sld hx hb hX hbl hbA hS v5 dL_law_321 ?_
              refine lw_i (rn_V (rest := [.int r]) (ci := 3) (wc := mdW a cs M L9) hx hb hml hown hT hl.1 hC hS hP.lf hD.lf 0 rfl rfl rfl ck_L_31 (c_X5_print l G cs ts a H.size M L9 (xs (nI (8 * k) + 1).toNatClampNeg) (xs (nI (8 * k) + 2).toNatClampNeg) (xs (nI (8 * k) + 3).toNatClampNeg) (xs (nI (8 * k) + 4).toNatClampNeg) (xs (nI (8 * k) + 5).toNatClampNeg) _ h) ⟨rfl, rfl, (Nat.le_of_ble_eq_true rfl), (Nat.le_of_ble_eq_true rfl)⟩ ⟨by show _ ≤ 600000; omega, by show _ ≤ 7302250; omega⟩ rfl rfl (Nat.le_of_ble_eq_true rfl) dL_law_322) hP hD hS hA (fun r2 u H locs hP hD hS h => ?_)
              obtain ⟨M, L9⟩ := u
              obtain ⟨hrr, hI⟩ := h
              have hP : va_P G vwCl (pW q cs N D X PM PL ++ (rW q j cs i0 i1 ++ mdW a cs M L9)) H := by
                have h2 := va_P.cm hP
                rw [List.append_assoc] at h2
                exact h2
              have hD : va_D (fun z : Nat => s.heap.size ≤ z) (pW q cs N D X PM PL ++ (rW q j cs i0 i1 ++ mdW a cs M L9)) := by
                have h2 := va_D.cm hD
                rw [List.append_assoc] at h2
                exact h2
              refine lv_icmp_eq (tgt := 1339) hx hb dL_law_325 (by decide) (fun _ => ?_) (fun ct => absurd hrr ct)
              exact hEnd hk8 N D X PM PL i0 i1 M L9 hI j H locs hP hD hS ls hl
            · by_cases c4 : w = 4
              · refine lv_tableIn (tgt := 330) (off := 297) hx hb dL_law_33 (by rw [c4]; decide) (by rw [c4]; decide) (by rw [c4]; decide) (by decide) ?_
                have h := s4 N D X PM PL i0 i1 M L9  hI
                refine lv_aload_n hx hb dL_law_330 rfl (lv_at hl 1 rfl) ?_
                refine lw_i (rn_V (rest := []) (ci := 2) (wc := pW q cs N D X PM PL) hx hb hml hown hT hl.1 hC hS hP.lf hD.lf 0 rfl rfl rfl ck_L_32 (c_X4_undo l G cs ts q H.size N D X PM PL  _ h) ⟨rfl, rfl, (Nat.le_of_ble_eq_true rfl), (Nat.le_of_ble_eq_true rfl)⟩ ⟨by show _ ≤ 600000; omega, by show _ ≤ 7302250; omega⟩ rfl rfl (Nat.le_of_ble_eq_true rfl) dL_law_331) hP hD hS hA (fun r u H locs hP hD hS h => ?_)
                obtain ⟨N, D, X, PM, PL⟩ := u
                have hP : va_P G vwCl (pW q cs N D X PM PL ++ (rW q j cs i0 i1 ++ mdW a cs M L9)) H := hP
                have hD : va_D (fun z : Nat => s.heap.size ≤ z) (pW q cs N D X PM PL ++ (rW q j cs i0 i1 ++ mdW a cs M L9)) := hD
                refine W.widen (k := 36 + 8 * k + 8) (n := 4196 + 621 * k + 621) (by omega) (by omega) ?_
                have hP := va_P.cm ((List.append_assoc _ _ _).symm ▸ hP)
                have hD := va_D.cm ((List.append_assoc _ _ _).symm ▸ hD)
                refine lv_aload_n hx hb dL_law_334 rfl (lv_at hl 2 rfl) ?_
                refine lw_i (rn_V (rest := [.int r]) (ci := 3) (wc := mdW a cs M L9) hx hb hml hown hT hl.1 hC hS hP.lf hD.lf 0 rfl rfl rfl ck_L_36 (c_X5_undo l G cs ts a H.size M L9  _ h) ⟨rfl, rfl, (Nat.le_of_ble_eq_true rfl), (Nat.le_of_ble_eq_true rfl)⟩ ⟨by show _ ≤ 600000; omega, by show _ ≤ 7302250; omega⟩ rfl rfl (Nat.le_of_ble_eq_true rfl) dL_law_335) hP hD hS hA (fun r2 u H locs hP hD hS h => ?_)
                obtain ⟨M, L9⟩ := u
                obtain ⟨hrr, hI⟩ := h
                have hP : va_P G vwCl (pW q cs N D X PM PL ++ (rW q j cs i0 i1 ++ mdW a cs M L9)) H := by
                  have h2 := va_P.cm hP
                  rw [List.append_assoc] at h2
                  exact h2
                have hD : va_D (fun z : Nat => s.heap.size ≤ z) (pW q cs N D X PM PL ++ (rW q j cs i0 i1 ++ mdW a cs M L9)) := by
                  have h2 := va_D.cm hD
                  rw [List.append_assoc] at h2
                  exact h2
                refine lv_icmp_eq (tgt := 1339) hx hb dL_law_338 (by decide) (fun _ => ?_) (fun ct => absurd hrr ct)
                exact hEnd hk8 N D X PM PL i0 i1 M L9 hI j H locs hP hD hS ls hl
              · by_cases c5 : w = 5
                · refine lv_tableIn (tgt := 343) (off := 310) hx hb dL_law_33 (by rw [c5]; decide) (by rw [c5]; decide) (by rw [c5]; decide) (by decide) ?_
                  have h := s5 N D X PM PL i0 i1 M L9 (xs (nI (8 * k) + 1).toNatClampNeg) hI
                  refine lv_aload_n hx hb dL_law_343 rfl (lv_at hl 1 rfl) ?_
                  refine lv_aload_n hx hb dL_law_344 rfl (lv_at hl 0 rfl) ?_
                  refine lv_iload_n hx hb dL_law_345 rfl (lv_at hl 3 rfl) ?_
                  refine lv_iconst (v := 1) hx hb dL_law_346 (by decide) ?_
                  refine lv_iadd hx hb dL_law_347 ?_
                  refine va_sld hx hb hX hbl hbA hS v1 dL_law_348 ?_
                  refine lw_i (rn_V (rest := []) (ci := 2) (wc := pW q cs N D X PM PL) hx hb hml hown hT hl.1 hC hS hP.lf hD.lf 0 rfl rfl rfl ck_L_37 (c_X4_type l G cs ts q H.size N D X PM PL (xs (nI (8 * k) + 1).toNatClampNeg) _ h) ⟨rfl, rfl, (Nat.le_of_ble_eq_true rfl), (Nat.le_of_ble_eq_true rfl)⟩ ⟨by show _ ≤ 600000; omega, by show _ ≤ 7302250; omega⟩ rfl rfl (Nat.le_of_ble_eq_true rfl) dL_law_349) hP hD hS hA (fun r u H locs hP hD hS h => ?_)
                  obtain ⟨N, D, X, PM, PL⟩ := u
                  have hP : va_P G vwCl (pW q cs N D X PM PL ++ (rW q j cs i0 i1 ++ mdW a cs M L9)) H := hP
                  have hD : va_D (fun z : Nat => s.heap.size ≤ z) (pW q cs N D X PM PL ++ (rW q j cs i0 i1 ++ mdW a cs M L9)) := hD
                  refine W.widen (k := 36 + 8 * k + 8) (n := 4196 + 621 * k + 621) (by omega) (by omega) ?_
                  have hP := va_P.cm ((List.append_assoc _ _ _).symm ▸ hP)
                  have hD := va_D.cm ((List.append_assoc _ _ _).symm ▸ hD)
                  refine lv_aload_n hx hb dL_law_352 rfl (lv_at hl 2 rfl) ?_
                  refine lv_aload_n hx hb dL_law_353 rfl (lv_at hl 0 rfl) ?_
                  refine lv_iload_n hx hb dL_law_354 rfl (lv_at hl 3 rfl) ?_
                  refine lv_iconst (v := 1) hx hb dL_law_355 (by decide) ?_
                  refine lv_iadd hx hb dL_law_356 ?_
                  refine va_sld hx hb hX hbl hbA hS v1 dL_law_357 ?_
                  refine lw_i (rn_V (rest := [.int r]) (ci := 3) (wc := mdW a cs M L9) hx hb hml hown hT hl.1 hC hS hP.lf hD.lf 0 rfl rfl rfl ck_L_40 (c_X5_type l G cs ts a H.size M L9 (xs (nI (8 * k) + 1).toNatClampNeg) _ h) ⟨rfl, rfl, (Nat.le_of_ble_eq_true rfl), (Nat.le_of_ble_eq_true rfl)⟩ ⟨by show _ ≤ 600000; omega, by show _ ≤ 7302250; omega⟩ rfl rfl (Nat.le_of_ble_eq_true rfl) dL_law_358) hP hD hS hA (fun r2 u H locs hP hD hS h => ?_)
                  obtain ⟨M, L9⟩ := u
                  obtain ⟨hrr, hI⟩ := h
                  have hP : va_P G vwCl (pW q cs N D X PM PL ++ (rW q j cs i0 i1 ++ mdW a cs M L9)) H := by
                    have h2 := va_P.cm hP
                    rw [List.append_assoc] at h2
                    exact h2
                  have hD : va_D (fun z : Nat => s.heap.size ≤ z) (pW q cs N D X PM PL ++ (rW q j cs i0 i1 ++ mdW a cs M L9)) := by
                    have h2 := va_D.cm hD
                    rw [List.append_assoc] at h2
                    exact h2
                  refine lv_icmp_eq (tgt := 1339) hx hb dL_law_361 (by decide) (fun _ => ?_) (fun ct => absurd hrr ct)
                  exact hEnd hk8 N D X PM PL i0 i1 M L9 hI j H locs hP hD hS ls hl
                · by_cases c6 : w = 6
                  · refine lv_tableIn (tgt := 366) (off := 333) hx hb dL_law_33 (by rw [c6]; decide) (by rw [c6]; decide) (by rw [c6]; decide) (by decide) ?_
                    have h := s6 N D X PM PL i0 i1 M L9  hI
                    refine lv_aload_n hx hb dL_law_366 rfl (lv_at hl 1 rfl) ?_
                    refine lw_i (rn_V (rest := []) (ci := 2) (wc := pW q cs N D X PM PL) hx hb hml hown hT hl.1 hC hS hP.lf hD.lf 0 rfl rfl rfl ck_L_41 (c_X4_clear l G cs ts q H.size N D X PM PL  _ h) ⟨rfl, rfl, (Nat.le_of_ble_eq_true rfl), (Nat.le_of_ble_eq_true rfl)⟩ ⟨by show _ ≤ 600000; omega, by show _ ≤ 7302250; omega⟩ rfl rfl (Nat.le_of_ble_eq_true rfl) dL_law_367) hP hD hS hA (fun r u H locs hP hD hS h => ?_)
                    obtain ⟨N, D, X, PM, PL⟩ := u
                    have hP : va_P G vwCl (pW q cs N D X PM PL ++ (rW q j cs i0 i1 ++ mdW a cs M L9)) H := hP
                    have hD : va_D (fun z : Nat => s.heap.size ≤ z) (pW q cs N D X PM PL ++ (rW q j cs i0 i1 ++ mdW a cs M L9)) := hD
                    refine W.widen (k := 36 + 8 * k + 8) (n := 4196 + 621 * k + 621) (by omega) (by omega) ?_
                    have hP := va_P.cm ((List.append_assoc _ _ _).symm ▸ hP)
                    have hD := va_D.cm ((List.append_assoc _ _ _).symm ▸ hD)
                    refine lv_aload_n hx hb dL_law_370 rfl (lv_at hl 2 rfl) ?_
                    refine lw_i (rn_V (rest := [.int r]) (ci := 3) (wc := mdW a cs M L9) hx hb hml hown hT hl.1 hC hS hP.lf hD.lf 0 rfl rfl rfl ck_L_44 (c_X5_clear l G cs ts a H.size M L9  _ h) ⟨rfl, rfl, (Nat.le_of_ble_eq_true rfl), (Nat.le_of_ble_eq_true rfl)⟩ ⟨by show _ ≤ 600000; omega, by show _ ≤ 7302250; omega⟩ rfl rfl (Nat.le_of_ble_eq_true rfl) dL_law_371) hP hD hS hA (fun r2 u H locs hP hD hS h => ?_)
                    obtain ⟨M, L9⟩ := u
                    obtain ⟨hrr, hI⟩ := h
                    have hP : va_P G vwCl (pW q cs N D X PM PL ++ (rW q j cs i0 i1 ++ mdW a cs M L9)) H := by
                      have h2 := va_P.cm hP
                      rw [List.append_assoc] at h2
                      exact h2
                    have hD : va_D (fun z : Nat => s.heap.size ≤ z) (pW q cs N D X PM PL ++ (rW q j cs i0 i1 ++ mdW a cs M L9)) := by
                      have h2 := va_D.cm hD
                      rw [List.append_assoc] at h2
                      exact h2
                    refine lv_icmp_eq (tgt := 1339) hx hb dL_law_374 (by decide) (fun _ => ?_) (fun ct => absurd hrr ct)
                    exact hEnd hk8 N D X PM PL i0 i1 M L9 hI j H locs hP hD hS ls hl
                  · by_cases c7 : w = 7
                    · refine lv_tableIn (tgt := 379) (off := 346) hx hb dL_law_33 (by rw [c7]; decide) (by rw [c7]; decide) (by rw [c7]; decide) (by decide) ?_
                      have h := s7 N D X PM PL i0 i1 M L9  hI
                      refine lv_aload_n hx hb dL_law_379 rfl (lv_at hl 1 rfl) ?_
                      refine lw_i (rn_V (rest := []) (ci := 2) (wc := pW q cs N D X PM PL) hx hb hml hown hT hl.1 hC hS hP.lf hD.lf 0 rfl rfl rfl ck_L_45 (c_X4_read l G cs ts q H.size N D X PM PL  _ h) ⟨rfl, rfl, (Nat.le_of_ble_eq_true rfl), (Nat.le_of_ble_eq_true rfl)⟩ ⟨by show _ ≤ 600000; omega, by show _ ≤ 7302250; omega⟩ rfl rfl (Nat.le_of_ble_eq_true rfl) dL_law_380) hP hD hS hA (fun r u H locs hP hD hS h => ?_)
                      obtain ⟨N, D, X, PM, PL⟩ := u
                      have hP : va_P G vwCl (pW q cs N D X PM PL ++ (rW q j cs i0 i1 ++ mdW a cs M L9)) H := hP
                      have hD : va_D (fun z : Nat => s.heap.size ≤ z) (pW q cs N D X PM PL ++ (rW q j cs i0 i1 ++ mdW a cs M L9)) := hD
                      refine W.widen (k := 36 + 8 * k + 8) (n := 4196 + 621 * k + 621) (by omega) (by omega) ?_
                      have hP := va_P.cm ((List.append_assoc _ _ _).symm ▸ hP)
                      have hD := va_D.cm ((List.append_assoc _ _ _).symm ▸ hD)
                      refine lv_aload_n hx hb dL_law_383 rfl (lv_at hl 2 rfl) ?_
                      refine lw_i (rn_V (rest := [.int r]) (ci := 3) (wc := mdW a cs M L9) hx hb hml hown hT hl.1 hC hS hP.lf hD.lf 0 rfl rfl rfl ck_L_48 (c_X5_read l G cs ts a H.size M L9  _ h) ⟨rfl, rfl, (Nat.le_of_ble_eq_true rfl), (Nat.le_of_ble_eq_true rfl)⟩ ⟨by show _ ≤ 600000; omega, by show _ ≤ 7302250; omega⟩ rfl rfl (Nat.le_of_ble_eq_true rfl) dL_law_384) hP hD hS hA (fun r2 u H locs hP hD hS h => ?_)
                      obtain ⟨M, L9⟩ := u
                      obtain ⟨hrr, hI⟩ := h
                      have hP : va_P G vwCl (pW q cs N D X PM PL ++ (rW q j cs i0 i1 ++ mdW a cs M L9)) H := by
                        have h2 := va_P.cm hP
                        rw [List.append_assoc] at h2
                        exact h2
                      have hD : va_D (fun z : Nat => s.heap.size ≤ z) (pW q cs N D X PM PL ++ (rW q j cs i0 i1 ++ mdW a cs M L9)) := by
                        have h2 := va_D.cm hD
                        rw [List.append_assoc] at h2
                        exact h2
                      refine lv_icmp_eq (tgt := 1339) hx hb dL_law_387 (by decide) (fun _ => ?_) (fun ct => absurd hrr ct)
                      exact hEnd hk8 N D X PM PL i0 i1 M L9 hI j H locs hP hD hS ls hl
                    · by_cases c8 : w = 8
                      · refine lv_tableIn (tgt := 392) (off := 359) hx hb dL_law_33 (by rw [c8]; decide) (by rw [c8]; decide) (by rw [c8]; decide) (by decide) ?_
                        have h := s8 N D X PM PL i0 i1 M L9 (xs (nI (8 * k) + 1).toNatClampNeg) (xs (nI (8 * k) + 2).toNatClampNeg) hI
                        refine lv_aload_n hx hb dL_law_392 rfl (lv_at hl 1 rfl) ?_
                        refine lv_aload_n hx hb dL_law_393 rfl (lv_at hl 0 rfl) ?_
                        refine lv_iload_n hx hb dL_law_394 rfl (lv_at hl 3 rfl) ?_
                        refine lv_iconst (v := 1) hx hb dL_law_395 (by decide) ?_
                        refine lv_iadd hx hb dL_law_396 ?_
                        refine va_sld hx hb hX hbl hbA hS v1 dL_law_397 ?_
                        refine lv_aload_n hx hb dL_law_398 rfl (lv_at hl 0 rfl) ?_
                        refine lv_iload_n hx hb dL_law_399 rfl (lv_at hl 3 rfl) ?_
                        refine lv_iconst (v := 2) hx hb dL_law_400 (by decide) ?_
                        refine lv_iadd hx hb dL_law_401 ?_
                        refine va_sld hx hb hX hbl hbA hS v2 dL_law_402 ?_
                        refine lw_i (rn_V (rest := []) (ci := 2) (wc := pW q cs N D X PM PL) hx hb hml hown hT hl.1 hC hS hP.lf hD.lf 0 rfl rfl rfl ck_L_49 (c_X4_dark l G cs ts q H.size N D X PM PL (xs (nI (8 * k) + 1).toNatClampNeg) (xs (nI (8 * k) + 2).toNatClampNeg) _ h) ⟨rfl, rfl, (Nat.le_of_ble_eq_true rfl), (Nat.le_of_ble_eq_true rfl)⟩ ⟨by show _ ≤ 600000; omega, by show _ ≤ 7302250; omega⟩ rfl rfl (Nat.le_of_ble_eq_true rfl) dL_law_403) hP hD hS hA (fun r u H locs hP hD hS h => ?_)
                        obtain ⟨N, D, X, PM, PL⟩ := u
                        have hP : va_P G vwCl (pW q cs N D X PM PL ++ (rW q j cs i0 i1 ++ mdW a cs M L9)) H := hP
                        have hD : va_D (fun z : Nat => s.heap.size ≤ z) (pW q cs N D X PM PL ++ (rW q j cs i0 i1 ++ mdW a cs M L9)) := hD
                        refine W.widen (k := 36 + 8 * k + 8) (n := 4196 + 621 * k + 621) (by omega) (by omega) ?_
                        have hP := va_P.cm ((List.append_assoc _ _ _).symm ▸ hP)
                        have hD := va_D.cm ((List.append_assoc _ _ _).symm ▸ hD)
                        refine lv_aload_n hx hb dL_law_406 rfl (lv_at hl 2 rfl) ?_
                        refine lv_aload_n hx hb dL_law_407 rfl (lv_at hl 0 rfl) ?_
                        refine lv_iload_n hx hb dL_law_408 rfl (lv_at hl 3 rfl) ?_
                        refine lv_iconst (v := 1) hx hb dL_law_409 (by decide) ?_
                        refine lv_iadd hx hb dL_law_410 ?_
                        refine va_sld hx hb hX hbl hbA hS v1 dL_law_411 ?_
                        refine lv_aload_n hx hb dL_law_412 rfl (lv_at hl 0 rfl) ?_
                        refine lv_iload_n hx hb dL_law_413 rfl (lv_at hl 3 rfl) ?_
                        refine lv_iconst (v := 2) hx hb dL_law_414 (by decide) ?_
                        refine lv_iadd hx hb dL_law_415 ?_
                        refine va_sld hx hb hX hbl hbA hS v2 dL_law_416 ?_
                        refine lw_i (rn_V (rest := [.int r]) (ci := 3) (wc := mdW a cs M L9) hx hb hml hown hT hl.1 hC hS hP.lf hD.lf 0 rfl rfl rfl ck_L_52 (c_X5_dark l G cs ts a H.size M L9 (xs (nI (8 * k) + 1).toNatClampNeg) (xs (nI (8 * k) + 2).toNatClampNeg) _ h) ⟨rfl, rfl, (Nat.le_of_ble_eq_true rfl), (Nat.le_of_ble_eq_true rfl)⟩ ⟨by show _ ≤ 600000; omega, by show _ ≤ 7302250; omega⟩ rfl rfl (Nat.le_of_ble_eq_true rfl) dL_law_417) hP hD hS hA (fun r2 u H locs hP hD hS h => ?_)
                        obtain ⟨M, L9⟩ := u
                        obtain ⟨hrr, hI⟩ := h
                        have hP : va_P G vwCl (pW q cs N D X PM PL ++ (rW q j cs i0 i1 ++ mdW a cs M L9)) H := by
                          have h2 := va_P.cm hP
                          rw [List.append_assoc] at h2
                          exact h2
                        have hD : va_D (fun z : Nat => s.heap.size ≤ z) (pW q cs N D X PM PL ++ (rW q j cs i0 i1 ++ mdW a cs M L9)) := by
                          have h2 := va_D.cm hD
                          rw [List.append_assoc] at h2
                          exact h2
                        refine lv_icmp_eq (tgt := 1339) hx hb dL_law_420 (by decide) (fun _ => ?_) (fun ct => absurd hrr ct)
                        exact hEnd hk8 N D X PM PL i0 i1 M L9 hI j H locs hP hD hS ls hl
                      · by_cases c9 : w = 9
                        · refine lv_tableIn (tgt := 425) (off := 392) hx hb dL_law_33 (by rw [c9]; decide) (by rw [c9]; decide) (by rw [c9]; decide) (by decide) ?_
                          have h := s9 N D X PM PL i0 i1 M L9 (xs (nI (8 * k) + 1).toNatClampNeg) (xs (nI (8 * k) + 2).toNatClampNeg) hI
                          refine lv_aload_n hx hb dL_law_425 rfl (lv_at hl 1 rfl) ?_
                          refine lv_aload_n hx hb dL_law_426 rfl (lv_at hl 0 rfl) ?_
                          refine lv_iload_n hx hb dL_law_427 rfl (lv_at hl 3 rfl) ?_
                          refine lv_iconst (v := 1) hx hb dL_law_428 (by decide) ?_
                          refine lv_iadd hx hb dL_law_429 ?_
                          refine va_sld hx hb hX hbl hbA hS v1 dL_law_430 ?_
                          refine lv_aload_n hx hb dL_law_431 rfl (lv_at hl 0 rfl) ?_
                          refine lv_iload_n hx hb dL_law_432 rfl (lv_at hl 3 rfl) ?_
                          refine lv_iconst (v := 2) hx hb dL_law_433 (by decide) ?_
                          refine lv_iadd hx hb dL_law_434 ?_
                          refine va_sld hx hb hX hbl hbA hS v2 dL_law_435 ?_
                          refine lw_i (rn_V (rest := []) (ci := 2) (wc := pW q cs N D X PM PL) hx hb hml hown hT hl.1 hC hS hP.lf hD.lf 0 rfl rfl rfl ck_L_53 (c_X4_looks l G cs ts q H.size N D X PM PL (xs (nI (8 * k) + 1).toNatClampNeg) (xs (nI (8 * k) + 2).toNatClampNeg) _ h) ⟨rfl, rfl, (Nat.le_of_ble_eq_true rfl), (Nat.le_of_ble_eq_true rfl)⟩ ⟨by show _ ≤ 600000; omega, by show _ ≤ 7302250; omega⟩ rfl rfl (Nat.le_of_ble_eq_true rfl) dL_law_436) hP hD hS hA (fun r u H locs hP hD hS h => ?_)
                          obtain ⟨N, D, X, PM, PL⟩ := u
                          have hP : va_P G vwCl (pW q cs N D X PM PL ++ (rW q j cs i0 i1 ++ mdW a cs M L9)) H := hP
                          have hD : va_D (fun z : Nat => s.heap.size ≤ z) (pW q cs N D X PM PL ++ (rW q j cs i0 i1 ++ mdW a cs M L9)) := hD
                          refine W.widen (k := 36 + 8 * k + 8) (n := 4196 + 621 * k + 621) (by omega) (by omega) ?_
                          have hP := va_P.cm ((List.append_assoc _ _ _).symm ▸ hP)
                          have hD := va_D.cm ((List.append_assoc _ _ _).symm ▸ hD)
                          refine lv_aload_n hx hb dL_law_439 rfl (lv_at hl 2 rfl) ?_
                          refine lv_aload_n hx hb dL_law_440 rfl (lv_at hl 0 rfl) ?_
                          refine lv_iload_n hx hb dL_law_441 rfl (lv_at hl 3 rfl) ?_
                          refine lv_iconst (v := 1) hx hb dL_law_442 (by decide) ?_
                          refine lv_iadd hx hb dL_law_443 ?_
                          refine va_sld hx hb hX hbl hbA hS v1 dL_law_444 ?_
                          refine lv_aload_n hx hb dL_law_445 rfl (lv_at hl 0 rfl) ?_
                          refine lv_iload_n hx hb dL_law_446 rfl (lv_at hl 3 rfl) ?_
                          refine lv_iconst (v := 2) hx hb dL_law_447 (by decide) ?_
                          refine lv_iadd hx hb dL_law_448 ?_
                          refine va_sld hx hb hX hbl hbA hS v2 dL_law_449 ?_
                          refine lw_i (rn_V (rest := [.int r]) (ci := 3) (wc := mdW a cs M L9) hx hb hml hown hT hl.1 hC hS hP.lf hD.lf 0 rfl rfl rfl ck_L_56 (c_X5_looks l G cs ts a H.size M L9 (xs (nI (8 * k) + 1).toNatClampNeg) (xs (nI (8 * k) + 2).toNatClampNeg) _ h) ⟨rfl, rfl, (Nat.le_of_ble_eq_true rfl), (Nat.le_of_ble_eq_true rfl)⟩ ⟨by show _ ≤ 600000; omega, by show _ ≤ 7302250; omega⟩ rfl rfl (Nat.le_of_ble_eq_true rfl) dL_law_450) hP hD hS hA (fun r2 u H locs hP hD hS h => ?_)
                          obtain ⟨M, L9⟩ := u
                          obtain ⟨hrr, hI⟩ := h
                          have hP : va_P G vwCl (pW q cs N D X PM PL ++ (rW q j cs i0 i1 ++ mdW a cs M L9)) H := by
                            have h2 := va_P.cm hP
                            rw [List.append_assoc] at h2
                            exact h2
                          have hD : va_D (fun z : Nat => s.heap.size ≤ z) (pW q cs N D X PM PL ++ (rW q j cs i0 i1 ++ mdW a cs M L9)) := by
                            have h2 := va_D.cm hD
                            rw [List.append_assoc] at h2
                            exact h2
                          refine lv_icmp_eq (tgt := 1339) hx hb dL_law_453 (by decide) (fun _ => ?_) (fun ct => absurd hrr ct)
                          exact hEnd hk8 N D X PM PL i0 i1 M L9 hI j H locs hP hD hS ls hl
                        · by_cases c10 : w = 10
                          · refine lv_tableIn (tgt := 458) (off := 425) hx hb dL_law_33 (by rw [c10]; decide) (by rw [c10]; decide) (by rw [c10]; decide) (by decide) ?_
                            have h := s10 N D X PM PL i0 i1 M L9 (xs (nI (8 * k) + 1).toNatClampNeg) hI
                            refine lv_aload_n hx hb dL_law_458 rfl (lv_at hl 1 rfl) ?_
                            refine lv_aload_n hx hb dL_law_459 rfl (lv_at hl 0 rfl) ?_
                            refine lv_iload_n hx hb dL_law_460 rfl (lv_at hl 3 rfl) ?_
                            refine lv_iconst (v := 1) hx hb dL_law_461 (by decide) ?_
                            refine lv_iadd hx hb dL_law_462 ?_
                            refine va_sld hx hb hX hbl hbA hS v1 dL_law_463 ?_
                            refine lw_i (rn_V (rest := []) (ci := 2) (wc := pW q cs N D X PM PL) hx hb hml hown hT hl.1 hC hS hP.lf hD.lf 0 rfl rfl rfl ck_L_57 (c_X4_alike l G cs ts q H.size N D X PM PL (xs (nI (8 * k) + 1).toNatClampNeg) _ h) ⟨rfl, rfl, (Nat.le_of_ble_eq_true rfl), (Nat.le_of_ble_eq_true rfl)⟩ ⟨by show _ ≤ 600000; omega, by show _ ≤ 7302250; omega⟩ rfl rfl (Nat.le_of_ble_eq_true rfl) dL_law_464) hP hD hS hA (fun r u H locs hP hD hS h => ?_)
                            obtain ⟨N, D, X, PM, PL⟩ := u
                            have hP : va_P G vwCl (pW q cs N D X PM PL ++ (rW q j cs i0 i1 ++ mdW a cs M L9)) H := hP
                            have hD : va_D (fun z : Nat => s.heap.size ≤ z) (pW q cs N D X PM PL ++ (rW q j cs i0 i1 ++ mdW a cs M L9)) := hD
                            refine W.widen (k := 36 + 8 * k + 8) (n := 4196 + 621 * k + 621) (by omega) (by omega) ?_
                            have hP := va_P.cm ((List.append_assoc _ _ _).symm ▸ hP)
                            have hD := va_D.cm ((List.append_assoc _ _ _).symm ▸ hD)
                            refine lv_aload_n hx hb dL_law_467 rfl (lv_at hl 2 rfl) ?_
                            refine lv_aload_n hx hb dL_law_468 rfl (lv_at hl 0 rfl) ?_
                            refine lv_iload_n hx hb dL_law_469 rfl (lv_at hl 3 rfl) ?_
                            refine lv_iconst (v := 1) hx hb dL_law_470 (by decide) ?_
                            refine lv_iadd hx hb dL_law_471 ?_
                            refine va_sld hx hb hX hbl hbA hS v1 dL_law_472 ?_
                            refine lw_i (rn_V (rest := [.int r]) (ci := 3) (wc := mdW a cs M L9) hx hb hml hown hT hl.1 hC hS hP.lf hD.lf 0 rfl rfl rfl ck_L_60 (c_X5_alike l G cs ts a H.size M L9 (xs (nI (8 * k) + 1).toNatClampNeg) _ h) ⟨rfl, rfl, (Nat.le_of_ble_eq_true rfl), (Nat.le_of_ble_eq_true rfl)⟩ ⟨by show _ ≤ 600000; omega, by show _ ≤ 7302250; omega⟩ rfl rfl (Nat.le_of_ble_eq_true rfl) dL_law_473) hP hD hS hA (fun r2 u H locs hP hD hS h => ?_)
                            obtain ⟨M, L9⟩ := u
                            obtain ⟨hrr, hI⟩ := h
                            have hP : va_P G vwCl (pW q cs N D X PM PL ++ (rW q j cs i0 i1 ++ mdW a cs M L9)) H := by
                              have h2 := va_P.cm hP
                              rw [List.append_assoc] at h2
                              exact h2
                            have hD : va_D (fun z : Nat => s.heap.size ≤ z) (pW q cs N D X PM PL ++ (rW q j cs i0 i1 ++ mdW a cs M L9)) := by
                              have h2 := va_D.cm hD
                              rw [List.append_assoc] at h2
                              exact h2
                            refine lv_icmp_eq (tgt := 1339) hx hb dL_law_476 (by decide) (fun _ => ?_) (fun ct => absurd hrr ct)
                            exact hEnd hk8 N D X PM PL i0 i1 M L9 hI j H locs hP hD hS ls hl
                          · by_cases c11 : w = 11
                            · refine lv_tableIn (tgt := 481) (off := 448) hx hb dL_law_33 (by rw [c11]; decide) (by rw [c11]; decide) (by rw [c11]; decide) (by decide) ?_
                              have h := s11 N D X PM PL i0 i1 M L9 (xs (nI (8 * k) + 1).toNatClampNeg) (xs (nI (8 * k) + 2).toNatClampNeg) (xs (nI (8 * k) + 3).toNatClampNeg) (xs (nI (8 * k) + 4).toNatClampNeg) (xs (nI (8 * k) + 5).toNatClampNeg) hI
                              refine lv_aload_n hx hb dL_law_481 rfl (lv_at hl 1 rfl) ?_
                              refine lv_aload_n hx hb dL_law_482 rfl (lv_at hl 0 rfl) ?_
                              refine lv_iload_n hx hb dL_law_483 rfl (lv_at hl 3 rfl) ?_
                              refine lv_iconst (v := 1) hx hb dL_law_484 (by decide) ?_
                              refine lv_iadd hx hb dL_law_485 ?_
                              refine va_sld hx hb hX hbl hbA hS v1 dL_law_486 ?_
                              refine lv_aload_n hx hb dL_law_487 rfl (lv_at hl 0 rfl) ?_
                              refine lv_iload_n hx hb dL_law_488 rfl (lv_at hl 3 rfl) ?_
                              refine lv_iconst (v := 2) hx hb dL_law_489 (by decide) ?_
                              refine lv_iadd hx hb dL_law_490 ?_
                              refine va_sld hx hb hX hbl hbA hS v2 dL_law_491 ?_
                              refine lv_aload_n hx hb dL_law_492 rfl (lv_at hl 0 rfl) ?_
                              refine lv_iload_n hx hb dL_law_493 rfl (lv_at hl 3 rfl) ?_
                              refine lv_iconst (v := 3) hx hb dL_law_494 (by decide) ?_
                              refine lv_iadd hx hb dL_law_495 ?_
                              refine va_sld hx hb hX hbl hbA hS v3 dL_law_496 ?_
                              refine lv_aload_n hx hb dL_law_497 rfl (lv_at hl 0 rfl) ?_
                              refine lv_iload_n hx hb dL_law_498 rfl (lv_at hl 3 rfl) ?_
                              refine lv_iconst (v := 4) hx hb dL_law_499 (by decide) ?_
                              refine lv_iadd hx hb dL_law_500 ?_
                              refine va_sld hx hb hX hbl hbA hS v4 dL_law_501 ?_
                              refine lv_aload_n hx hb dL_law_502 rfl (lv_at hl 0 rfl) ?_
                              refine lv_iload_n hx hb dL_law_503 rfl (lv_at hl 3 rfl) ?_
                              refine lv_iconst (v := 5) hx hb dL_law_504 (by decide) ?_
                              refine lv_iadd hx hb dL_law_505 ?_
                              refine va_sld hx hb hX hbl hbA hS v5 dL_law_506 ?_
                              refine lw_i (rn_V (rest := []) (ci := 2) (wc := pW q cs N D X PM PL) hx hb hml hown hT hl.1 hC hS hP.lf hD.lf 0 rfl rfl rfl ck_L_61 (c_X4_adds l G cs ts q H.size N D X PM PL (xs (nI (8 * k) + 1).toNatClampNeg) (xs (nI (8 * k) + 2).toNatClampNeg) (xs (nI (8 * k) + 3).toNatClampNeg) (xs (nI (8 * k) + 4).toNatClampNeg) (xs (nI (8 * k) + 5).toNatClampNeg) _ h) ⟨rfl, rfl, (Nat.le_of_ble_eq_true rfl), (Nat.le_of_ble_eq_true rfl)⟩ ⟨by show _ ≤ 600000; omega, by show _ ≤ 7302250; omega⟩ rfl rfl (Nat.le_of_ble_eq_true rfl) dL_law_507) hP hD hS hA (fun r u H locs hP hD hS h => ?_)
                              obtain ⟨N, D, X, PM, PL⟩ := u
                              have hP : va_P G vwCl (pW q cs N D X PM PL ++ (rW q j cs i0 i1 ++ mdW a cs M L9)) H := hP
                              have hD : va_D (fun z : Nat => s.heap.size ≤ z) (pW q cs N D X PM PL ++ (rW q j cs i0 i1 ++ mdW a cs M L9)) := hD
                              refine W.widen (k := 36 + 8 * k + 8) (n := 4196 + 621 * k + 621) (by omega) (by omega) ?_
                              have hP := va_P.cm ((List.append_assoc _ _ _).symm ▸ hP)
                              have hD := va_D.cm ((List.append_assoc _ _ _).symm ▸ hD)
                              refine lv_aload_n hx hb dL_law_510 rfl (lv_at hl 2 rfl) ?_
                              refine lv_aload_n hx hb dL_law_511 rfl (lv_at hl 0 rfl) ?_
                              refine lv_iload_n hx hb dL_law_512 rfl (lv_at hl 3 rfl) ?_
                              refine lv_iconst (v := 1) hx hb dL_law_513 (by decide) ?_
                              refine lv_iadd hx hb dL_law_514 ?_
                              refine va_sld hx hb hX hbl hbA hS v1 dL_law_515 ?_
                              refine lv_aload_n hx hb dL_law_516 rfl (lv_at hl 0 rfl) ?_
                              refine lv_iload_n hx hb dL_law_517 rfl (lv_at hl 3 rfl) ?_
                              refine lv_iconst (v := 2) hx hb dL_law_518 (by decide) ?_
                              refine lv_iadd hx hb dL_law_519 ?_
                              refine va_sld hx hb hX hbl hbA hS v2 dL_law_520 ?_
                              refine lv_aload_n hx hb dL_law_521 rfl (lv_at hl 0 rfl) ?_
                              refine lv_iload_n hx hb dL_law_522 rfl (lv_at hl 3 rfl) ?_
                              refine lv_iconst (v := 3) hx hb dL_law_523 (by decide) ?_
                              refine lv_iadd hx hb dL_law_524 ?_
                              refine va_sld hx hb hX hbl hbA hS v3 dL_law_525 ?_
                              refine lv_aload_n hx hb dL_law_526 rfl (lv_at hl 0 rfl) ?_
                              refine lv_iload_n hx hb dL_law_527 rfl (lv_at hl 3 rfl) ?_
                              refine lv_iconst (v := 4) hx hb dL_law_528 (by decide) ?_
                              refine lv_iadd hx hb dL_law_529 ?_
                              refine va_sld hx hb hX hbl hbA hS v4 dL_law_530 ?_
                              refine lv_aload_n hx hb dL_law_531 rfl (lv_at hl 0 rfl) ?_
                              refine lv_iload_n hx hb dL_law_532 rfl (lv_at hl 3 rfl) ?_
                              refine lv_iconst (v := 5) hx hb dL_law_533 (by decide) ?_
                              refine lv_iadd hx hb dL_law_534 ?_
                              refine va_sld hx hb hX hbl hbA hS v5 dL_law_535 ?_
                              refine lw_i (rn_V (rest := [.int r]) (ci := 3) (wc := mdW a cs M L9) hx hb hml hown hT hl.1 hC hS hP.lf hD.lf 0 rfl rfl rfl ck_L_64 (c_X5_adds l G cs ts a H.size M L9 (xs (nI (8 * k) + 1).toNatClampNeg) (xs (nI (8 * k) + 2).toNatClampNeg) (xs (nI (8 * k) + 3).toNatClampNeg) (xs (nI (8 * k) + 4).toNatClampNeg) (xs (nI (8 * k) + 5).toNatClampNeg) _ h) ⟨rfl, rfl, (Nat.le_of_ble_eq_true rfl), (Nat.le_of_ble_eq_true rfl)⟩ ⟨by show _ ≤ 600000; omega, by show _ ≤ 7302250; omega⟩ rfl rfl (Nat.le_of_ble_eq_true rfl) dL_law_536) hP hD hS hA (fun r2 u H locs hP hD hS h => ?_)
                              obtain ⟨M, L9⟩ := u
                              obtain ⟨hrr, hI⟩ := h
                              have hP : va_P G vwCl (pW q cs N D X PM PL ++ (rW q j cs i0 i1 ++ mdW a cs M L9)) H := by
                                have h2 := va_P.cm hP
                                rw [List.append_assoc] at h2
                                exact h2
                              have hD : va_D (fun z : Nat => s.heap.size ≤ z) (pW q cs N D X PM PL ++ (rW q j cs i0 i1 ++ mdW a cs M L9)) := by
                                have h2 := va_D.cm hD
                                rw [List.append_assoc] at h2
                                exact h2
                              refine lv_icmp_eq (tgt := 1339) hx hb dL_law_539 (by decide) (fun _ => ?_) (fun ct => absurd hrr ct)
                              exact hEnd hk8 N D X PM PL i0 i1 M L9 hI j H locs hP hD hS ls hl
                            · by_cases c12 : w = 12
                              · refine lv_tableIn (tgt := 544) (off := 511) hx hb dL_law_33 (by rw [c12]; decide) (by rw [c12]; decide) (by rw [c12]; decide) (by decide) ?_
                                have h := s12 N D X PM PL i0 i1 M L9 (xs (nI (8 * k) + 1).toNatClampNeg) (xs (nI (8 * k) + 2).toNatClampNeg) (xs (nI (8 * k) + 3).toNatClampNeg) hI
                                refine lv_aload_n hx hb dL_law_544 rfl (lv_at hl 1 rfl) ?_
                                refine lv_aload_n hx hb dL_law_545 rfl (lv_at hl 0 rfl) ?_
                                refine lv_iload_n hx hb dL_law_546 rfl (lv_at hl 3 rfl) ?_
                                refine lv_iconst (v := 1) hx hb dL_law_547 (by decide) ?_
                                refine lv_iadd hx hb dL_law_548 ?_
                                refine va_sld hx hb hX hbl hbA hS v1 dL_law_549 ?_
                                refine lv_aload_n hx hb dL_law_550 rfl (lv_at hl 0 rfl) ?_
                                refine lv_iload_n hx hb dL_law_551 rfl (lv_at hl 3 rfl) ?_
                                refine lv_iconst (v := 2) hx hb dL_law_552 (by decide) ?_
                                refine lv_iadd hx hb dL_law_553 ?_
                                refine va_sld hx hb hX hbl hbA hS v2 dL_law_554 ?_
                                refine lv_aload_n hx hb dL_law_555 rfl (lv_at hl 0 rfl) ?_
                                refine lv_iload_n hx hb dL_law_556 rfl (lv_at hl 3 rfl) ?_
                                refine lv_iconst (v := 3) hx hb dL_law_557 (by decide) ?_
                                refine lv_iadd hx hb dL_law_558 ?_
                                refine va_sld hx hb hX hbl hbA hS v3 dL_law_559 ?_
                                refine lw_i (rn_V (rest := []) (ci := 2) (wc := pW q cs N D X PM PL) hx hb hml hown hT hl.1 hC hS hP.lf hD.lf 0 rfl rfl rfl ck_L_65 (c_X4_force l G cs ts q H.size N D X PM PL (xs (nI (8 * k) + 1).toNatClampNeg) (xs (nI (8 * k) + 2).toNatClampNeg) (xs (nI (8 * k) + 3).toNatClampNeg) _ h) ⟨rfl, rfl, (Nat.le_of_ble_eq_true rfl), (Nat.le_of_ble_eq_true rfl)⟩ ⟨by show _ ≤ 600000; omega, by show _ ≤ 7302250; omega⟩ rfl rfl (Nat.le_of_ble_eq_true rfl) dL_law_560) hP hD hS hA (fun r u H locs hP hD hS h => ?_)
                                obtain ⟨N, D, X, PM, PL⟩ := u
                                have hP : va_P G vwCl (pW q cs N D X PM PL ++ (rW q j cs i0 i1 ++ mdW a cs M L9)) H := hP
                                have hD : va_D (fun z : Nat => s.heap.size ≤ z) (pW q cs N D X PM PL ++ (rW q j cs i0 i1 ++ mdW a cs M L9)) := hD
                                refine W.widen (k := 36 + 8 * k + 8) (n := 4196 + 621 * k + 621) (by omega) (by omega) ?_
                                have hP := va_P.cm ((List.append_assoc _ _ _).symm ▸ hP)
                                have hD := va_D.cm ((List.append_assoc _ _ _).symm ▸ hD)
                                refine lv_aload_n hx hb dL_law_563 rfl (lv_at hl 2 rfl) ?_
                                refine lv_aload_n hx hb dL_law_564 rfl (lv_at hl 0 rfl) ?_
                                refine lv_iload_n hx hb dL_law_565 rfl (lv_at hl 3 rfl) ?_
                                refine lv_iconst (v := 1) hx hb dL_law_566 (by decide) ?_
                                refine lv_iadd hx hb dL_law_567 ?_
                                refine va_sld hx hb hX hbl hbA hS v1 dL_law_568 ?_
                                refine lv_aload_n hx hb dL_law_569 rfl (lv_at hl 0 rfl) ?_
                                refine lv_iload_n hx hb dL_law_570 rfl (lv_at hl 3 rfl) ?_
                                refine lv_iconst (v := 2) hx hb dL_law_571 (by decide) ?_
                                refine lv_iadd hx hb dL_law_572 ?_
                                refine va_sld hx hb hX hbl hbA hS v2 dL_law_573 ?_
                                refine lv_aload_n hx hb dL_law_574 rfl (lv_at hl 0 rfl) ?_
                                refine lv_iload_n hx hb dL_law_575 rfl (lv_at hl 3 rfl) ?_
                                refine lv_iconst (v := 3) hx hb dL_law_576 (by decide) ?_
                                refine lv_iadd hx hb dL_law_577 ?_
                                refine va_sld hx hb hX hbl hbA hS v3 dL_law_578 ?_
                                refine lw_i (rn_V (rest := [.int r]) (ci := 3) (wc := mdW a cs M L9) hx hb hml hown hT hl.1 hC hS hP.lf hD.lf 0 rfl rfl rfl ck_L_69 (c_X5_force l G cs ts a H.size M L9 (xs (nI (8 * k) + 1).toNatClampNeg) (xs (nI (8 * k) + 2).toNatClampNeg) (xs (nI (8 * k) + 3).toNatClampNeg) _ h) ⟨rfl, rfl, (Nat.le_of_ble_eq_true rfl), (Nat.le_of_ble_eq_true rfl)⟩ ⟨by show _ ≤ 600000; omega, by show _ ≤ 7302250; omega⟩ rfl rfl (Nat.le_of_ble_eq_true rfl) dL_law_579) hP hD hS hA (fun r2 u H locs hP hD hS h => ?_)
                                obtain ⟨M, L9⟩ := u
                                obtain ⟨hrr, hI⟩ := h
                                have hP : va_P G vwCl (pW q cs N D X PM PL ++ (rW q j cs i0 i1 ++ mdW a cs M L9)) H := by
                                  have h2 := va_P.cm hP
                                  rw [List.append_assoc] at h2
                                  exact h2
                                have hD : va_D (fun z : Nat => s.heap.size ≤ z) (pW q cs N D X PM PL ++ (rW q j cs i0 i1 ++ mdW a cs M L9)) := by
                                  have h2 := va_D.cm hD
                                  rw [List.append_assoc] at h2
                                  exact h2
                                refine lv_icmp_eq (tgt := 1339) hx hb dL_law_582 (by decide) (fun _ => ?_) (fun ct => absurd hrr ct)
                                exact hEnd hk8 N D X PM PL i0 i1 M L9 hI j H locs hP hD hS ls hl
                              · by_cases c13 : w = 13
                                · refine lv_tableIn (tgt := 587) (off := 554) hx hb dL_law_33 (by rw [c13]; decide) (by rw [c13]; decide) (by rw [c13]; decide) (by decide) ?_
                                  have h := s13 N D X PM PL i0 i1 M L9 (xs (nI (8 * k) + 1).toNatClampNeg) (xs (nI (8 * k) + 2).toNatClampNeg) (xs (nI (8 * k) + 3).toNatClampNeg) hI
                                  refine lv_aload_n hx hb dL_law_587 rfl (lv_at hl 1 rfl) ?_
                                  refine lv_aload_n hx hb dL_law_588 rfl (lv_at hl 0 rfl) ?_
                                  refine lv_iload_n hx hb dL_law_589 rfl (lv_at hl 3 rfl) ?_
                                  refine lv_iconst (v := 1) hx hb dL_law_590 (by decide) ?_
                                  refine lv_iadd hx hb dL_law_591 ?_
                                  refine va_sld hx hb hX hbl hbA hS v1 dL_law_592 ?_
                                  refine lv_aload_n hx hb dL_law_593 rfl (lv_at hl 0 rfl) ?_
                                  refine lv_iload_n hx hb dL_law_594 rfl (lv_at hl 3 rfl) ?_
                                  refine lv_iconst (v := 2) hx hb dL_law_595 (by decide) ?_
                                  refine lv_iadd hx hb dL_law_596 ?_
                                  refine va_sld hx hb hX hbl hbA hS v2 dL_law_597 ?_
                                  refine lv_aload_n hx hb dL_law_598 rfl (lv_at hl 0 rfl) ?_
                                  refine lv_iload_n hx hb dL_law_599 rfl (lv_at hl 3 rfl) ?_
                                  refine lv_iconst (v := 3) hx hb dL_law_600 (by decide) ?_
                                  refine lv_iadd hx hb dL_law_601 ?_
                                  refine va_sld hx hb hX hbl hbA hS v3 dL_law_602 ?_
                                  refine lw_i (rn_V (rest := []) (ci := 2) (wc := pW q cs N D X PM PL) hx hb hml hown hT hl.1 hC hS hP.lf hD.lf 0 rfl rfl rfl ck_L_70 (c_X4_fromOne l G cs ts q H.size N D X PM PL (xs (nI (8 * k) + 1).toNatClampNeg) (xs (nI (8 * k) + 2).toNatClampNeg) (xs (nI (8 * k) + 3).toNatClampNeg) _ h) ⟨rfl, rfl, (Nat.le_of_ble_eq_true rfl), (Nat.le_of_ble_eq_true rfl)⟩ ⟨by show _ ≤ 600000; omega, by show _ ≤ 7302250; omega⟩ rfl rfl (Nat.le_of_ble_eq_true rfl) dL_law_603) hP hD hS hA (fun r u H locs hP hD hS h => ?_)
                                  obtain ⟨N, D, X, PM, PL⟩ := u
                                  have hP : va_P G vwCl (pW q cs N D X PM PL ++ (rW q j cs i0 i1 ++ mdW a cs M L9)) H := hP
                                  have hD : va_D (fun z : Nat => s.heap.size ≤ z) (pW q cs N D X PM PL ++ (rW q j cs i0 i1 ++ mdW a cs M L9)) := hD
                                  refine W.widen (k := 36 + 8 * k + 8) (n := 4196 + 621 * k + 621) (by omega) (by omega) ?_
                                  have hP := va_P.cm ((List.append_assoc _ _ _).symm ▸ hP)
                                  have hD := va_D.cm ((List.append_assoc _ _ _).symm ▸ hD)
                                  refine lv_aload_n hx hb dL_law_606 rfl (lv_at hl 2 rfl) ?_
                                  refine lv_aload_n hx hb dL_law_607 rfl (lv_at hl 0 rfl) ?_
                                  refine lv_iload_n hx hb dL_law_608 rfl (lv_at hl 3 rfl) ?_
                                  refine lv_iconst (v := 1) hx hb dL_law_609 (by decide) ?_
                                  refine lv_iadd hx hb dL_law_610 ?_
                                  refine va_sld hx hb hX hbl hbA hS v1 dL_law_611 ?_
                                  refine lv_aload_n hx hb dL_law_612 rfl (lv_at hl 0 rfl) ?_
                                  refine lv_iload_n hx hb dL_law_613 rfl (lv_at hl 3 rfl) ?_
                                  refine lv_iconst (v := 2) hx hb dL_law_614 (by decide) ?_
                                  refine lv_iadd hx hb dL_law_615 ?_
                                  refine va_sld hx hb hX hbl hbA hS v2 dL_law_616 ?_
                                  refine lv_aload_n hx hb dL_law_617 rfl (lv_at hl 0 rfl) ?_
                                  refine lv_iload_n hx hb dL_law_618 rfl (lv_at hl 3 rfl) ?_
                                  refine lv_iconst (v := 3) hx hb dL_law_619 (by decide) ?_
                                  refine lv_iadd hx hb dL_law_620 ?_
                                  refine va_sld hx hb hX hbl hbA hS v3 dL_law_621 ?_
                                  refine lw_i (rn_V (rest := [.int r]) (ci := 3) (wc := mdW a cs M L9) hx hb hml hown hT hl.1 hC hS hP.lf hD.lf 0 rfl rfl rfl ck_L_73 (c_X5_fromOne l G cs ts a H.size M L9 (xs (nI (8 * k) + 1).toNatClampNeg) (xs (nI (8 * k) + 2).toNatClampNeg) (xs (nI (8 * k) + 3).toNatClampNeg) _ h) ⟨rfl, rfl, (Nat.le_of_ble_eq_true rfl), (Nat.le_of_ble_eq_true rfl)⟩ ⟨by show _ ≤ 600000; omega, by show _ ≤ 7302250; omega⟩ rfl rfl (Nat.le_of_ble_eq_true rfl) dL_law_622) hP hD hS hA (fun r2 u H locs hP hD hS h => ?_)
                                  obtain ⟨M, L9⟩ := u
                                  obtain ⟨hrr, hI⟩ := h
                                  have hP : va_P G vwCl (pW q cs N D X PM PL ++ (rW q j cs i0 i1 ++ mdW a cs M L9)) H := by
                                    have h2 := va_P.cm hP
                                    rw [List.append_assoc] at h2
                                    exact h2
                                  have hD : va_D (fun z : Nat => s.heap.size ≤ z) (pW q cs N D X PM PL ++ (rW q j cs i0 i1 ++ mdW a cs M L9)) := by
                                    have h2 := va_D.cm hD
                                    rw [List.append_assoc] at h2
                                    exact h2
                                  refine lv_icmp_eq (tgt := 1339) hx hb dL_law_625 (by decide) (fun _ => ?_) (fun ct => absurd hrr ct)
                                  exact hEnd hk8 N D X PM PL i0 i1 M L9 hI j H locs hP hD hS ls hl
                                · by_cases c14 : w = 14
                                  · refine lv_tableIn (tgt := 630) (off := 597) hx hb dL_law_33 (by rw [c14]; decide) (by rw [c14]; decide) (by rw [c14]; decide) (by decide) ?_
                                    have h := s14 N D X PM PL i0 i1 M L9 (xs (nI (8 * k) + 1).toNatClampNeg) (xs (nI (8 * k) + 2).toNatClampNeg) (xs (nI (8 * k) + 3).toNatClampNeg) (xs (nI (8 * k) + 4).toNatClampNeg) hI
                                    refine lv_aload_n hx hb dL_law_630 rfl (lv_at hl 1 rfl) ?_
                                    refine lv_aload_n hx hb dL_law_631 rfl (lv_at hl 0 rfl) ?_
                                    refine lv_iload_n hx hb dL_law_632 rfl (lv_at hl 3 rfl) ?_
                                    refine lv_iconst (v := 1) hx hb dL_law_633 (by decide) ?_
                                    refine lv_iadd hx hb dL_law_634 ?_
                                    refine va_sld hx hb hX hbl hbA hS v1 dL_law_635 ?_
                                    refine lv_aload_n hx hb dL_law_636 rfl (lv_at hl 0 rfl) ?_
                                    refine lv_iload_n hx hb dL_law_637 rfl (lv_at hl 3 rfl) ?_
                                    refine lv_iconst (v := 2) hx hb dL_law_638 (by decide) ?_
                                    refine lv_iadd hx hb dL_law_639 ?_
                                    refine va_sld hx hb hX hbl hbA hS v2 dL_law_640 ?_
                                    refine lv_aload_n hx hb dL_law_641 rfl (lv_at hl 0 rfl) ?_
                                    refine lv_iload_n hx hb dL_law_642 rfl (lv_at hl 3 rfl) ?_
                                    refine lv_iconst (v := 3) hx hb dL_law_643 (by decide) ?_
                                    refine lv_iadd hx hb dL_law_644 ?_
                                    refine va_sld hx hb hX hbl hbA hS v3 dL_law_645 ?_
                                    refine lv_aload_n hx hb dL_law_646 rfl (lv_at hl 0 rfl) ?_
                                    refine lv_iload_n hx hb dL_law_647 rfl (lv_at hl 3 rfl) ?_
                                    refine lv_iconst (v := 4) hx hb dL_law_648 (by decide) ?_
                                    refine lv_iadd hx hb dL_law_649 ?_
                                    refine va_sld hx hb hX hbl hbA hS v4 dL_law_650 ?_
                                    refine lw_i (rn_V (rest := []) (ci := 2) (wc := pW q cs N D X PM PL) hx hb hml hown hT hl.1 hC hS hP.lf hD.lf 0 rfl rfl rfl ck_L_74 (c_X4_dips l G cs ts q H.size N D X PM PL (xs (nI (8 * k) + 1).toNatClampNeg) (xs (nI (8 * k) + 2).toNatClampNeg) (xs (nI (8 * k) + 3).toNatClampNeg) (xs (nI (8 * k) + 4).toNatClampNeg) _ h) ⟨rfl, rfl, (Nat.le_of_ble_eq_true rfl), (Nat.le_of_ble_eq_true rfl)⟩ ⟨by show _ ≤ 600000; omega, by show _ ≤ 7302250; omega⟩ rfl rfl (Nat.le_of_ble_eq_true rfl) dL_law_651) hP hD hS hA (fun r u H locs hP hD hS h => ?_)
                                    obtain ⟨N, D, X, PM, PL⟩ := u
                                    have hP : va_P G vwCl (pW q cs N D X PM PL ++ (rW q j cs i0 i1 ++ mdW a cs M L9)) H := hP
                                    have hD : va_D (fun z : Nat => s.heap.size ≤ z) (pW q cs N D X PM PL ++ (rW q j cs i0 i1 ++ mdW a cs M L9)) := hD
                                    refine W.widen (k := 36 + 8 * k + 8) (n := 4196 + 621 * k + 621) (by omega) (by omega) ?_
                                    have hP := va_P.cm ((List.append_assoc _ _ _).symm ▸ hP)
                                    have hD := va_D.cm ((List.append_assoc _ _ _).symm ▸ hD)
                                    refine lv_aload_n hx hb dL_law_654 rfl (lv_at hl 2 rfl) ?_
                                    refine lv_aload_n hx hb dL_law_655 rfl (lv_at hl 0 rfl) ?_
                                    refine lv_iload_n hx hb dL_law_656 rfl (lv_at hl 3 rfl) ?_
                                    refine lv_iconst (v := 1) hx hb dL_law_657 (by decide) ?_
                                    refine lv_iadd hx hb dL_law_658 ?_
                                    refine va_sld hx hb hX hbl hbA hS v1 dL_law_659 ?_
                                    refine lv_aload_n hx hb dL_law_660 rfl (lv_at hl 0 rfl) ?_
                                    refine lv_iload_n hx hb dL_law_661 rfl (lv_at hl 3 rfl) ?_
                                    refine lv_iconst (v := 2) hx hb dL_law_662 (by decide) ?_
                                    refine lv_iadd hx hb dL_law_663 ?_
                                    refine va_sld hx hb hX hbl hbA hS v2 dL_law_664 ?_
                                    refine lv_aload_n hx hb dL_law_665 rfl (lv_at hl 0 rfl) ?_
                                    refine lv_iload_n hx hb dL_law_666 rfl (lv_at hl 3 rfl) ?_
                                    refine lv_iconst (v := 3) hx hb dL_law_667 (by decide) ?_
                                    refine lv_iadd hx hb dL_law_668 ?_
                                    refine va_sld hx hb hX hbl hbA hS v3 dL_law_669 ?_
                                    refine lv_aload_n hx hb dL_law_670 rfl (lv_at hl 0 rfl) ?_
                                    refine lv_iload_n hx hb dL_law_671 rfl (lv_at hl 3 rfl) ?_
                                    refine lv_iconst (v := 4) hx hb dL_law_672 (by decide) ?_
                                    refine lv_iadd hx hb dL_law_673 ?_
                                    refine va_sld hx hb hX hbl hbA hS v4 dL_law_674 ?_
                                    refine lw_i (rn_V (rest := [.int r]) (ci := 3) (wc := mdW a cs M L9) hx hb hml hown hT hl.1 hC hS hP.lf hD.lf 0 rfl rfl rfl ck_L_78 (c_X5_dips l G cs ts a H.size M L9 (xs (nI (8 * k) + 1).toNatClampNeg) (xs (nI (8 * k) + 2).toNatClampNeg) (xs (nI (8 * k) + 3).toNatClampNeg) (xs (nI (8 * k) + 4).toNatClampNeg) _ h) ⟨rfl, rfl, (Nat.le_of_ble_eq_true rfl), (Nat.le_of_ble_eq_true rfl)⟩ ⟨by show _ ≤ 600000; omega, by show _ ≤ 7302250; omega⟩ rfl rfl (Nat.le_of_ble_eq_true rfl) dL_law_675) hP hD hS hA (fun r2 u H locs hP hD hS h => ?_)
                                    obtain ⟨M, L9⟩ := u
                                    obtain ⟨hrr, hI⟩ := h
                                    have hP : va_P G vwCl (pW q cs N D X PM PL ++ (rW q j cs i0 i1 ++ mdW a cs M L9)) H := by
                                      have h2 := va_P.cm hP
                                      rw [List.append_assoc] at h2
                                      exact h2
                                    have hD : va_D (fun z : Nat => s.heap.size ≤ z) (pW q cs N D X PM PL ++ (rW q j cs i0 i1 ++ mdW a cs M L9)) := by
                                      have h2 := va_D.cm hD
                                      rw [List.append_assoc] at h2
                                      exact h2
                                    refine lv_icmp_eq (tgt := 1339) hx hb dL_law_678 (by decide) (fun _ => ?_) (fun ct => absurd hrr ct)
                                    exact hEnd hk8 N D X PM PL i0 i1 M L9 hI j H locs hP hD hS ls hl
                                  · by_cases c15 : w = 15
                                    · refine lv_tableIn (tgt := 683) (off := 650) hx hb dL_law_33 (by rw [c15]; decide) (by rw [c15]; decide) (by rw [c15]; decide) (by decide) ?_
                                      have h := s15 N D X PM PL i0 i1 M L9 (xs (nI (8 * k) + 1).toNatClampNeg) (xs (nI (8 * k) + 2).toNatClampNeg) (xs (nI (8 * k) + 3).toNatClampNeg) hI
                                      refine lv_aload_n hx hb dL_law_683 rfl (lv_at hl 1 rfl) ?_
                                      refine lv_aload_n hx hb dL_law_684 rfl (lv_at hl 0 rfl) ?_
                                      refine lv_iload_n hx hb dL_law_685 rfl (lv_at hl 3 rfl) ?_
                                      refine lv_iconst (v := 1) hx hb dL_law_686 (by decide) ?_
                                      refine lv_iadd hx hb dL_law_687 ?_
                                      refine va_sld hx hb hX hbl hbA hS v1 dL_law_688 ?_
                                      refine lv_aload_n hx hb dL_law_689 rfl (lv_at hl 0 rfl) ?_
                                      refine lv_iload_n hx hb dL_law_690 rfl (lv_at hl 3 rfl) ?_
                                      refine lv_iconst (v := 2) hx hb dL_law_691 (by decide) ?_
                                      refine lv_iadd hx hb dL_law_692 ?_
                                      refine va_sld hx hb hX hbl hbA hS v2 dL_law_693 ?_
                                      refine lv_aload_n hx hb dL_law_694 rfl (lv_at hl 0 rfl) ?_
                                      refine lv_iload_n hx hb dL_law_695 rfl (lv_at hl 3 rfl) ?_
                                      refine lv_iconst (v := 3) hx hb dL_law_696 (by decide) ?_
                                      refine lv_iadd hx hb dL_law_697 ?_
                                      refine va_sld hx hb hX hbl hbA hS v3 dL_law_698 ?_
                                      refine lw_i (rn_V (rest := []) (ci := 2) (wc := pW q cs N D X PM PL) hx hb hml hown hT hl.1 hC hS hP.lf hD.lf 0 rfl rfl rfl ck_L_79 (c_X4_edge l G cs ts q H.size N D X PM PL (xs (nI (8 * k) + 1).toNatClampNeg) (xs (nI (8 * k) + 2).toNatClampNeg) (xs (nI (8 * k) + 3).toNatClampNeg) _ h) ⟨rfl, rfl, (Nat.le_of_ble_eq_true rfl), (Nat.le_of_ble_eq_true rfl)⟩ ⟨by show _ ≤ 600000; omega, by show _ ≤ 7302250; omega⟩ rfl rfl (Nat.le_of_ble_eq_true rfl) dL_law_699) hP hD hS hA (fun r u H locs hP hD hS h => ?_)
                                      obtain ⟨N, D, X, PM, PL⟩ := u
                                      have hP : va_P G vwCl (pW q cs N D X PM PL ++ (rW q j cs i0 i1 ++ mdW a cs M L9)) H := hP
                                      have hD : va_D (fun z : Nat => s.heap.size ≤ z) (pW q cs N D X PM PL ++ (rW q j cs i0 i1 ++ mdW a cs M L9)) := hD
                                      refine W.widen (k := 36 + 8 * k + 8) (n := 4196 + 621 * k + 621) (by omega) (by omega) ?_
                                      have hP := va_P.cm ((List.append_assoc _ _ _).symm ▸ hP)
                                      have hD := va_D.cm ((List.append_assoc _ _ _).symm ▸ hD)
                                      refine lv_aload_n hx hb dL_law_702 rfl (lv_at hl 2 rfl) ?_
                                      refine lv_aload_n hx hb dL_law_703 rfl (lv_at hl 0 rfl) ?_
                                      refine lv_iload_n hx hb dL_law_704 rfl (lv_at hl 3 rfl) ?_
                                      refine lv_iconst (v := 1) hx hb dL_law_705 (by decide) ?_
                                      refine lv_iadd hx hb dL_law_706 ?_
                                      refine va_sld hx hb hX hbl hbA hS v1 dL_law_707 ?_
                                      refine lv_aload_n hx hb dL_law_708 rfl (lv_at hl 0 rfl) ?_
                                      refine lv_iload_n hx hb dL_law_709 rfl (lv_at hl 3 rfl) ?_
                                      refine lv_iconst (v := 2) hx hb dL_law_710 (by decide) ?_
                                      refine lv_iadd hx hb dL_law_711 ?_
                                      refine va_sld hx hb hX hbl hbA hS v2 dL_law_712 ?_
                                      refine lv_aload_n hx hb dL_law_713 rfl (lv_at hl 0 rfl) ?_
                                      refine lv_iload_n hx hb dL_law_714 rfl (lv_at hl 3 rfl) ?_
                                      refine lv_iconst (v := 3) hx hb dL_law_715 (by decide) ?_
                                      refine lv_iadd hx hb dL_law_716 ?_
                                      refine va_sld hx hb hX hbl hbA hS v3 dL_law_717 ?_
                                      refine lw_i (rn_V (rest := [.int r]) (ci := 3) (wc := mdW a cs M L9) hx hb hml hown hT hl.1 hC hS hP.lf hD.lf 0 rfl rfl rfl ck_L_82 (c_X5_edge l G cs ts a H.size M L9 (xs (nI (8 * k) + 1).toNatClampNeg) (xs (nI (8 * k) + 2).toNatClampNeg) (xs (nI (8 * k) + 3).toNatClampNeg) _ h) ⟨rfl, rfl, (Nat.le_of_ble_eq_true rfl), (Nat.le_of_ble_eq_true rfl)⟩ ⟨by show _ ≤ 600000; omega, by show _ ≤ 7302250; omega⟩ rfl rfl (Nat.le_of_ble_eq_true rfl) dL_law_718) hP hD hS hA (fun r2 u H locs hP hD hS h => ?_)
                                      obtain ⟨M, L9⟩ := u
                                      obtain ⟨hrr, hI⟩ := h
                                      have hP : va_P G vwCl (pW q cs N D X PM PL ++ (rW q j cs i0 i1 ++ mdW a cs M L9)) H := by
                                        have h2 := va_P.cm hP
                                        rw [List.append_assoc] at h2
                                        exact h2
                                      have hD : va_D (fun z : Nat => s.heap.size ≤ z) (pW q cs N D X PM PL ++ (rW q j cs i0 i1 ++ mdW a cs M L9)) := by
                                        have h2 := va_D.cm hD
                                        rw [List.append_assoc] at h2
                                        exact h2
                                      refine lv_icmp_eq (tgt := 1339) hx hb dL_law_721 (by decide) (fun _ => ?_) (fun ct => absurd hrr ct)
                                      exact hEnd hk8 N D X PM PL i0 i1 M L9 hI j H locs hP hD hS ls hl
                                    · by_cases c16 : w = 16
                                      · refine lv_tableIn (tgt := 726) (off := 693) hx hb dL_law_33 (by rw [c16]; decide) (by rw [c16]; decide) (by rw [c16]; decide) (by decide) ?_
                                        have h := s16 N D X PM PL i0 i1 M L9 (xs (nI (8 * k) + 1).toNatClampNeg) hI
                                        refine lv_aload_n hx hb dL_law_726 rfl (lv_at hl 1 rfl) ?_
                                        refine lv_aload_n hx hb dL_law_727 rfl (lv_at hl 0 rfl) ?_
                                        refine lv_iload_n hx hb dL_law_728 rfl (lv_at hl 3 rfl) ?_
                                        refine lv_iconst (v := 1) hx hb dL_law_729 (by decide) ?_
                                        refine lv_iadd hx hb dL_law_730 ?_
                                        refine va_sld hx hb hX hbl hbA hS v1 dL_law_731 ?_
                                        refine lw_i (rn_V (rest := []) (ci := 2) (wc := pW q cs N D X PM PL) hx hb hml hown hT hl.1 hC hS hP.lf hD.lf 0 rfl rfl rfl ck_L_83 (c_X4_gap l G cs ts q H.size N D X PM PL (xs (nI (8 * k) + 1).toNatClampNeg) _ h) ⟨rfl, rfl, (Nat.le_of_ble_eq_true rfl), (Nat.le_of_ble_eq_true rfl)⟩ ⟨by show _ ≤ 600000; omega, by show _ ≤ 7302250; omega⟩ rfl rfl (Nat.le_of_ble_eq_true rfl) dL_law_732) hP hD hS hA (fun r u H locs hP hD hS h => ?_)
                                        obtain ⟨N, D, X, PM, PL⟩ := u
                                        have hP : va_P G vwCl (pW q cs N D X PM PL ++ (rW q j cs i0 i1 ++ mdW a cs M L9)) H := hP
                                        have hD : va_D (fun z : Nat => s.heap.size ≤ z) (pW q cs N D X PM PL ++ (rW q j cs i0 i1 ++ mdW a cs M L9)) := hD
                                        refine W.widen (k := 36 + 8 * k + 8) (n := 4196 + 621 * k + 621) (by omega) (by omega) ?_
                                        have hP := va_P.cm ((List.append_assoc _ _ _).symm ▸ hP)
                                        have hD := va_D.cm ((List.append_assoc _ _ _).symm ▸ hD)
                                        refine lv_aload_n hx hb dL_law_735 rfl (lv_at hl 2 rfl) ?_
                                        refine lv_aload_n hx hb dL_law_736 rfl (lv_at hl 0 rfl) ?_
                                        refine lv_iload_n hx hb dL_law_737 rfl (lv_at hl 3 rfl) ?_
                                        refine lv_iconst (v := 1) hx hb dL_law_738 (by decide) ?_
                                        refine lv_iadd hx hb dL_law_739 ?_
                                        refine va_sld hx hb hX hbl hbA hS v1 dL_law_740 ?_
                                        refine lw_i (rn_V (rest := [.int r]) (ci := 3) (wc := mdW a cs M L9) hx hb hml hown hT hl.1 hC hS hP.lf hD.lf 0 rfl rfl rfl ck_L_86 (c_X5_gap l G cs ts a H.size M L9 (xs (nI (8 * k) + 1).toNatClampNeg) _ h) ⟨rfl, rfl, (Nat.le_of_ble_eq_true rfl), (Nat.le_of_ble_eq_true rfl)⟩ ⟨by show _ ≤ 600000; omega, by show _ ≤ 7302250; omega⟩ rfl rfl (Nat.le_of_ble_eq_true rfl) dL_law_741) hP hD hS hA (fun r2 u H locs hP hD hS h => ?_)
                                        obtain ⟨M, L9⟩ := u
                                        obtain ⟨hrr, hI⟩ := h
                                        have hP : va_P G vwCl (pW q cs N D X PM PL ++ (rW q j cs i0 i1 ++ mdW a cs M L9)) H := by
                                          have h2 := va_P.cm hP
                                          rw [List.append_assoc] at h2
                                          exact h2
                                        have hD : va_D (fun z : Nat => s.heap.size ≤ z) (pW q cs N D X PM PL ++ (rW q j cs i0 i1 ++ mdW a cs M L9)) := by
                                          have h2 := va_D.cm hD
                                          rw [List.append_assoc] at h2
                                          exact h2
                                        refine lv_icmp_eq (tgt := 1339) hx hb dL_law_744 (by decide) (fun _ => ?_) (fun ct => absurd hrr ct)
                                        exact hEnd hk8 N D X PM PL i0 i1 M L9 hI j H locs hP hD hS ls hl
                                      · by_cases c17 : w = 17
                                        · refine lv_tableIn (tgt := 749) (off := 716) hx hb dL_law_33 (by rw [c17]; decide) (by rw [c17]; decide) (by rw [c17]; decide) (by decide) ?_
                                          have h := s17 N D X PM PL i0 i1 M L9 (xs (nI (8 * k) + 1).toNatClampNeg) (xs (nI (8 * k) + 2).toNatClampNeg) hI
                                          refine lv_aload_n hx hb dL_law_749 rfl (lv_at hl 1 rfl) ?_
                                          refine lv_aload_n hx hb dL_law_750 rfl (lv_at hl 0 rfl) ?_
                                          refine lv_iload_n hx hb dL_law_751 rfl (lv_at hl 3 rfl) ?_
                                          refine lv_iconst (v := 1) hx hb dL_law_752 (by decide) ?_
                                          refine lv_iadd hx hb dL_law_753 ?_
                                          refine va_sld hx hb hX hbl hbA hS v1 dL_law_754 ?_
                                          refine lv_aload_n hx hb dL_law_755 rfl (lv_at hl 0 rfl) ?_
                                          refine lv_iload_n hx hb dL_law_756 rfl (lv_at hl 3 rfl) ?_
                                          refine lv_iconst (v := 2) hx hb dL_law_757 (by decide) ?_
                                          refine lv_iadd hx hb dL_law_758 ?_
                                          refine va_sld hx hb hX hbl hbA hS v2 dL_law_759 ?_
                                          refine lw_i (rn_V (rest := []) (ci := 2) (wc := pW q cs N D X PM PL) hx hb hml hown hT hl.1 hC hS hP.lf hD.lf 0 rfl rfl rfl ck_L_87 (c_X4_hit l G cs ts q H.size N D X PM PL (xs (nI (8 * k) + 1).toNatClampNeg) (xs (nI (8 * k) + 2).toNatClampNeg) _ h) ⟨rfl, rfl, (Nat.le_of_ble_eq_true rfl), (Nat.le_of_ble_eq_true rfl)⟩ ⟨by show _ ≤ 600000; omega, by show _ ≤ 7302250; omega⟩ rfl rfl (Nat.le_of_ble_eq_true rfl) dL_law_760) hP hD hS hA (fun r u H locs hP hD hS h => ?_)
                                          obtain ⟨N, D, X, PM, PL⟩ := u
                                          have hP : va_P G vwCl (pW q cs N D X PM PL ++ (rW q j cs i0 i1 ++ mdW a cs M L9)) H := hP
                                          have hD : va_D (fun z : Nat => s.heap.size ≤ z) (pW q cs N D X PM PL ++ (rW q j cs i0 i1 ++ mdW a cs M L9)) := hD
                                          refine W.widen (k := 36 + 8 * k + 8) (n := 4196 + 621 * k + 621) (by omega) (by omega) ?_
                                          have hP := va_P.cm ((List.append_assoc _ _ _).symm ▸ hP)
                                          have hD := va_D.cm ((List.append_assoc _ _ _).symm ▸ hD)
                                          refine lv_aload_n hx hb dL_law_763 rfl (lv_at hl 2 rfl) ?_
                                          refine lv_aload_n hx hb dL_law_764 rfl (lv_at hl 0 rfl) ?_
                                          refine lv_iload_n hx hb dL_law_765 rfl (lv_at hl 3 rfl) ?_
                                          refine lv_iconst (v := 1) hx hb dL_law_766 (by decide) ?_
                                          refine lv_iadd hx hb dL_law_767 ?_
                                          refine va_sld hx hb hX hbl hbA hS v1 dL_law_768 ?_
                                          refine lv_aload_n hx hb dL_law_769 rfl (lv_at hl 0 rfl) ?_
                                          refine lv_iload_n hx hb dL_law_770 rfl (lv_at hl 3 rfl) ?_
                                          refine lv_iconst (v := 2) hx hb dL_law_771 (by decide) ?_
                                          refine lv_iadd hx hb dL_law_772 ?_
                                          refine va_sld hx hb hX hbl hbA hS v2 dL_law_773 ?_
                                          refine lw_i (rn_V (rest := [.int r]) (ci := 3) (wc := mdW a cs M L9) hx hb hml hown hT hl.1 hC hS hP.lf hD.lf 0 rfl rfl rfl ck_L_90 (c_X5_hit l G cs ts a H.size M L9 (xs (nI (8 * k) + 1).toNatClampNeg) (xs (nI (8 * k) + 2).toNatClampNeg) _ h) ⟨rfl, rfl, (Nat.le_of_ble_eq_true rfl), (Nat.le_of_ble_eq_true rfl)⟩ ⟨by show _ ≤ 600000; omega, by show _ ≤ 7302250; omega⟩ rfl rfl (Nat.le_of_ble_eq_true rfl) dL_law_774) hP hD hS hA (fun r2 u H locs hP hD hS h => ?_)
                                          obtain ⟨M, L9⟩ := u
                                          obtain ⟨hrr, hI⟩ := h
                                          have hP : va_P G vwCl (pW q cs N D X PM PL ++ (rW q j cs i0 i1 ++ mdW a cs M L9)) H := by
                                            have h2 := va_P.cm hP
                                            rw [List.append_assoc] at h2
                                            exact h2
                                          have hD : va_D (fun z : Nat => s.heap.size ≤ z) (pW q cs N D X PM PL ++ (rW q j cs i0 i1 ++ mdW a cs M L9)) := by
                                            have h2 := va_D.cm hD
                                            rw [List.append_assoc] at h2
                                            exact h2
                                          refine lv_icmp_eq (tgt := 1339) hx hb dL_law_777 (by decide) (fun _ => ?_) (fun ct => absurd hrr ct)
                                          exact hEnd hk8 N D X PM PL i0 i1 M L9 hI j H locs hP hD hS ls hl
                                        · by_cases c18 : w = 18
                                          · refine lv_tableIn (tgt := 782) (off := 749) hx hb dL_law_33 (by rw [c18]; decide) (by rw [c18]; decide) (by rw [c18]; decide) (by decide) ?_
                                            have h := s18 N D X PM PL i0 i1 M L9 (xs (nI (8 * k) + 1).toNatClampNeg) (xs (nI (8 * k) + 2).toNatClampNeg) hI
                                            refine lv_aload_n hx hb dL_law_782 rfl (lv_at hl 1 rfl) ?_
                                            refine lv_aload_n hx hb dL_law_783 rfl (lv_at hl 0 rfl) ?_
                                            refine lv_iload_n hx hb dL_law_784 rfl (lv_at hl 3 rfl) ?_
                                            refine lv_iconst (v := 1) hx hb dL_law_785 (by decide) ?_
                                            refine lv_iadd hx hb dL_law_786 ?_
                                            refine va_sld hx hb hX hbl hbA hS v1 dL_law_787 ?_
                                            refine lv_aload_n hx hb dL_law_788 rfl (lv_at hl 0 rfl) ?_
                                            refine lv_iload_n hx hb dL_law_789 rfl (lv_at hl 3 rfl) ?_
                                            refine lv_iconst (v := 2) hx hb dL_law_790 (by decide) ?_
                                            refine lv_iadd hx hb dL_law_791 ?_
                                            refine va_sld hx hb hX hbl hbA hS v2 dL_law_792 ?_
                                            refine lw_i (rn_V (rest := []) (ci := 2) (wc := pW q cs N D X PM PL) hx hb hml hown hT hl.1 hC hS hP.lf hD.lf 0 rfl rfl rfl ck_L_91 (c_X4_want l G cs ts q H.size N D X PM PL (xs (nI (8 * k) + 1).toNatClampNeg) (xs (nI (8 * k) + 2).toNatClampNeg) _ h) ⟨rfl, rfl, (Nat.le_of_ble_eq_true rfl), (Nat.le_of_ble_eq_true rfl)⟩ ⟨by show _ ≤ 600000; omega, by show _ ≤ 7302250; omega⟩ rfl rfl (Nat.le_of_ble_eq_true rfl) dL_law_793) hP hD hS hA (fun r u H locs hP hD hS h => ?_)
                                            obtain ⟨N, D, X, PM, PL⟩ := u
                                            have hP : va_P G vwCl (pW q cs N D X PM PL ++ (rW q j cs i0 i1 ++ mdW a cs M L9)) H := hP
                                            have hD : va_D (fun z : Nat => s.heap.size ≤ z) (pW q cs N D X PM PL ++ (rW q j cs i0 i1 ++ mdW a cs M L9)) := hD
                                            refine W.widen (k := 36 + 8 * k + 8) (n := 4196 + 621 * k + 621) (by omega) (by omega) ?_
                                            have hP := va_P.cm ((List.append_assoc _ _ _).symm ▸ hP)
                                            have hD := va_D.cm ((List.append_assoc _ _ _).symm ▸ hD)
                                            refine lv_aload_n hx hb dL_law_796 rfl (lv_at hl 2 rfl) ?_
                                            refine lv_aload_n hx hb dL_law_797 rfl (lv_at hl 0 rfl) ?_
                                            refine lv_iload_n hx hb dL_law_798 rfl (lv_at hl 3 rfl) ?_
                                            refine lv_iconst (v := 1) hx hb dL_law_799 (by decide) ?_
                                            refine lv_iadd hx hb dL_law_800 ?_
                                            refine va_sld hx hb hX hbl hbA hS v1 dL_law_801 ?_
                                            refine lv_aload_n hx hb dL_law_802 rfl (lv_at hl 0 rfl) ?_
                                            refine lv_iload_n hx hb dL_law_803 rfl (lv_at hl 3 rfl) ?_
                                            refine lv_iconst (v := 2) hx hb dL_law_804 (by decide) ?_
                                            refine lv_iadd hx hb dL_law_805 ?_
                                            refine va_sld hx hb hX hbl hbA hS v2 dL_law_806 ?_
                                            refine lw_i (rn_V (rest := [.int r]) (ci := 3) (wc := mdW a cs M L9) hx hb hml hown hT hl.1 hC hS hP.lf hD.lf 0 rfl rfl rfl ck_L_94 (c_X5_want l G cs ts a H.size M L9 (xs (nI (8 * k) + 1).toNatClampNeg) (xs (nI (8 * k) + 2).toNatClampNeg) _ h) ⟨rfl, rfl, (Nat.le_of_ble_eq_true rfl), (Nat.le_of_ble_eq_true rfl)⟩ ⟨by show _ ≤ 600000; omega, by show _ ≤ 7302250; omega⟩ rfl rfl (Nat.le_of_ble_eq_true rfl) dL_law_807) hP hD hS hA (fun r2 u H locs hP hD hS h => ?_)
                                            obtain ⟨M, L9⟩ := u
                                            obtain ⟨hrr, hI⟩ := h
                                            have hP : va_P G vwCl (pW q cs N D X PM PL ++ (rW q j cs i0 i1 ++ mdW a cs M L9)) H := by
                                              have h2 := va_P.cm hP
                                              rw [List.append_assoc] at h2
                                              exact h2
                                            have hD : va_D (fun z : Nat => s.heap.size ≤ z) (pW q cs N D X PM PL ++ (rW q j cs i0 i1 ++ mdW a cs M L9)) := by
                                              have h2 := va_D.cm hD
                                              rw [List.append_assoc] at h2
                                              exact h2
                                            refine lv_icmp_eq (tgt := 1339) hx hb dL_law_810 (by decide) (fun _ => ?_) (fun ct => absurd hrr ct)
                                            exact hEnd hk8 N D X PM PL i0 i1 M L9 hI j H locs hP hD hS ls hl
                                          · by_cases c19 : w = 19
                                            · refine lv_tableIn (tgt := 815) (off := 782) hx hb dL_law_33 (by rw [c19]; decide) (by rw [c19]; decide) (by rw [c19]; decide) (by decide) ?_
                                              have h := s19 N D X PM PL i0 i1 M L9 (xs (nI (8 * k) + 1).toNatClampNeg) (xs (nI (8 * k) + 2).toNatClampNeg) hI
                                              refine lv_aload_n hx hb dL_law_815 rfl (lv_at hl 1 rfl) ?_
                                              refine lv_aload_n hx hb dL_law_816 rfl (lv_at hl 0 rfl) ?_
                                              refine lv_iload_n hx hb dL_law_817 rfl (lv_at hl 3 rfl) ?_
                                              refine lv_iconst (v := 1) hx hb dL_law_818 (by decide) ?_
                                              refine lv_iadd hx hb dL_law_819 ?_
                                              refine va_sld hx hb hX hbl hbA hS v1 dL_law_820 ?_
                                              refine lv_aload_n hx hb dL_law_821 rfl (lv_at hl 0 rfl) ?_
                                              refine lv_iload_n hx hb dL_law_822 rfl (lv_at hl 3 rfl) ?_
                                              refine lv_iconst (v := 2) hx hb dL_law_823 (by decide) ?_
                                              refine lv_iadd hx hb dL_law_824 ?_
                                              refine va_sld hx hb hX hbl hbA hS v2 dL_law_825 ?_
                                              refine lw_i (rn_V (rest := []) (ci := 2) (wc := pW q cs N D X PM PL) hx hb hml hown hT hl.1 hC hS hP.lf hD.lf 0 rfl rfl rfl ck_L_95 (c_X4_cover l G cs ts q H.size N D X PM PL (xs (nI (8 * k) + 1).toNatClampNeg) (xs (nI (8 * k) + 2).toNatClampNeg) _ h) ⟨rfl, rfl, (Nat.le_of_ble_eq_true rfl), (Nat.le_of_ble_eq_true rfl)⟩ ⟨by show _ ≤ 600000; omega, by show _ ≤ 7302250; omega⟩ rfl rfl (Nat.le_of_ble_eq_true rfl) dL_law_826) hP hD hS hA (fun r u H locs hP hD hS h => ?_)
                                              obtain ⟨N, D, X, PM, PL⟩ := u
                                              have hP : va_P G vwCl (pW q cs N D X PM PL ++ (rW q j cs i0 i1 ++ mdW a cs M L9)) H := hP
                                              have hD : va_D (fun z : Nat => s.heap.size ≤ z) (pW q cs N D X PM PL ++ (rW q j cs i0 i1 ++ mdW a cs M L9)) := hD
                                              refine W.widen (k := 36 + 8 * k + 8) (n := 4196 + 621 * k + 621) (by omega) (by omega) ?_
                                              have hP := va_P.cm ((List.append_assoc _ _ _).symm ▸ hP)
                                              have hD := va_D.cm ((List.append_assoc _ _ _).symm ▸ hD)
                                              refine lv_aload_n hx hb dL_law_829 rfl (lv_at hl 2 rfl) ?_
                                              refine lv_aload_n hx hb dL_law_830 rfl (lv_at hl 0 rfl) ?_
                                              refine lv_iload_n hx hb dL_law_831 rfl (lv_at hl 3 rfl) ?_
                                              refine lv_iconst (v := 1) hx hb dL_law_832 (by decide) ?_
                                              refine lv_iadd hx hb dL_law_833 ?_
                                              refine va_sld hx hb hX hbl hbA hS v1 dL_law_834 ?_
                                              refine lv_aload_n hx hb dL_law_835 rfl (lv_at hl 0 rfl) ?_
                                              refine lv_iload_n hx hb dL_law_836 rfl (lv_at hl 3 rfl) ?_
                                              refine lv_iconst (v := 2) hx hb dL_law_837 (by decide) ?_
                                              refine lv_iadd hx hb dL_law_838 ?_
                                              refine va_sld hx hb hX hbl hbA hS v2 dL_law_839 ?_
                                              refine lw_i (rn_V (rest := [.int r]) (ci := 3) (wc := mdW a cs M L9) hx hb hml hown hT hl.1 hC hS hP.lf hD.lf 0 rfl rfl rfl ck_L_98 (c_X5_cover l G cs ts a H.size M L9 (xs (nI (8 * k) + 1).toNatClampNeg) (xs (nI (8 * k) + 2).toNatClampNeg) _ h) ⟨rfl, rfl, (Nat.le_of_ble_eq_true rfl), (Nat.le_of_ble_eq_true rfl)⟩ ⟨by show _ ≤ 600000; omega, by show _ ≤ 7302250; omega⟩ rfl rfl (Nat.le_of_ble_eq_true rfl) dL_law_840) hP hD hS hA (fun r2 u H locs hP hD hS h => ?_)
                                              obtain ⟨M, L9⟩ := u
                                              obtain ⟨hrr, hI⟩ := h
                                              have hP : va_P G vwCl (pW q cs N D X PM PL ++ (rW q j cs i0 i1 ++ mdW a cs M L9)) H := by
                                                have h2 := va_P.cm hP
                                                rw [List.append_assoc] at h2
                                                exact h2
                                              have hD : va_D (fun z : Nat => s.heap.size ≤ z) (pW q cs N D X PM PL ++ (rW q j cs i0 i1 ++ mdW a cs M L9)) := by
                                                have h2 := va_D.cm hD
                                                rw [List.append_assoc] at h2
                                                exact h2
                                              refine lv_icmp_eq (tgt := 1339) hx hb dL_law_843 (by decide) (fun _ => ?_) (fun ct => absurd hrr ct)
                                              exact hEnd hk8 N D X PM PL i0 i1 M L9 hI j H locs hP hD hS ls hl
                                            · by_cases c20 : w = 20
                                              · refine lv_tableIn (tgt := 848) (off := 815) hx hb dL_law_33 (by rw [c20]; decide) (by rw [c20]; decide) (by rw [c20]; decide) (by decide) ?_
                                                have h := s20 N D X PM PL i0 i1 M L9 (xs (nI (8 * k) + 1).toNatClampNeg) (xs (nI (8 * k) + 2).toNatClampNeg) hI
                                                refine lv_aload_n hx hb dL_law_848 rfl (lv_at hl 1 rfl) ?_
                                                refine lv_aload_n hx hb dL_law_849 rfl (lv_at hl 0 rfl) ?_
                                                refine lv_iload_n hx hb dL_law_850 rfl (lv_at hl 3 rfl) ?_
                                                refine lv_iconst (v := 1) hx hb dL_law_851 (by decide) ?_
                                                refine lv_iadd hx hb dL_law_852 ?_
                                                refine va_sld hx hb hX hbl hbA hS v1 dL_law_853 ?_
                                                refine lv_aload_n hx hb dL_law_854 rfl (lv_at hl 0 rfl) ?_
                                                refine lv_iload_n hx hb dL_law_855 rfl (lv_at hl 3 rfl) ?_
                                                refine lv_iconst (v := 2) hx hb dL_law_856 (by decide) ?_
                                                refine lv_iadd hx hb dL_law_857 ?_
                                                refine va_sld hx hb hX hbl hbA hS v2 dL_law_858 ?_
                                                refine lw_i (rn_V (rest := []) (ci := 2) (wc := pW q cs N D X PM PL) hx hb hml hown hT hl.1 hC hS hP.lf hD.lf 0 rfl rfl rfl ck_L_99 (c_X4_shrinks l G cs ts q H.size N D X PM PL (xs (nI (8 * k) + 1).toNatClampNeg) (xs (nI (8 * k) + 2).toNatClampNeg) _ h) ⟨rfl, rfl, (Nat.le_of_ble_eq_true rfl), (Nat.le_of_ble_eq_true rfl)⟩ ⟨by show _ ≤ 600000; omega, by show _ ≤ 7302250; omega⟩ rfl rfl (Nat.le_of_ble_eq_true rfl) dL_law_859) hP hD hS hA (fun r u H locs hP hD hS h => ?_)
                                                obtain ⟨N, D, X, PM, PL⟩ := u
                                                have hP : va_P G vwCl (pW q cs N D X PM PL ++ (rW q j cs i0 i1 ++ mdW a cs M L9)) H := hP
                                                have hD : va_D (fun z : Nat => s.heap.size ≤ z) (pW q cs N D X PM PL ++ (rW q j cs i0 i1 ++ mdW a cs M L9)) := hD
                                                refine W.widen (k := 36 + 8 * k + 8) (n := 4196 + 621 * k + 621) (by omega) (by omega) ?_
                                                have hP := va_P.cm ((List.append_assoc _ _ _).symm ▸ hP)
                                                have hD := va_D.cm ((List.append_assoc _ _ _).symm ▸ hD)
                                                refine lv_aload_n hx hb dL_law_862 rfl (lv_at hl 2 rfl) ?_
                                                refine lv_aload_n hx hb dL_law_863 rfl (lv_at hl 0 rfl) ?_
                                                refine lv_iload_n hx hb dL_law_864 rfl (lv_at hl 3 rfl) ?_
                                                refine lv_iconst (v := 1) hx hb dL_law_865 (by decide) ?_
                                                refine lv_iadd hx hb dL_law_866 ?_
                                                refine va_sld hx hb hX hbl hbA hS v1 dL_law_867 ?_
                                                refine lv_aload_n hx hb dL_law_868 rfl (lv_at hl 0 rfl) ?_
                                                refine lv_iload_n hx hb dL_law_869 rfl (lv_at hl 3 rfl) ?_
                                                refine lv_iconst (v := 2) hx hb dL_law_870 (by decide) ?_
                                                refine lv_iadd hx hb dL_law_871 ?_
                                                refine va_sld hx hb hX hbl hbA hS v2 dL_law_872 ?_
                                                refine lw_i (rn_V (rest := [.int r]) (ci := 3) (wc := mdW a cs M L9) hx hb hml hown hT hl.1 hC hS hP.lf hD.lf 0 rfl rfl rfl ck_L_102 (c_X5_shrinks l G cs ts a H.size M L9 (xs (nI (8 * k) + 1).toNatClampNeg) (xs (nI (8 * k) + 2).toNatClampNeg) _ h) ⟨rfl, rfl, (Nat.le_of_ble_eq_true rfl), (Nat.le_of_ble_eq_true rfl)⟩ ⟨by show _ ≤ 600000; omega, by show _ ≤ 7302250; omega⟩ rfl rfl (Nat.le_of_ble_eq_true rfl) dL_law_873) hP hD hS hA (fun r2 u H locs hP hD hS h => ?_)
                                                obtain ⟨M, L9⟩ := u
                                                obtain ⟨hrr, hI⟩ := h
                                                have hP : va_P G vwCl (pW q cs N D X PM PL ++ (rW q j cs i0 i1 ++ mdW a cs M L9)) H := by
                                                  have h2 := va_P.cm hP
                                                  rw [List.append_assoc] at h2
                                                  exact h2
                                                have hD : va_D (fun z : Nat => s.heap.size ≤ z) (pW q cs N D X PM PL ++ (rW q j cs i0 i1 ++ mdW a cs M L9)) := by
                                                  have h2 := va_D.cm hD
                                                  rw [List.append_assoc] at h2
                                                  exact h2
                                                refine lv_icmp_eq (tgt := 1339) hx hb dL_law_876 (by decide) (fun _ => ?_) (fun ct => absurd hrr ct)
                                                exact hEnd hk8 N D X PM PL i0 i1 M L9 hI j H locs hP hD hS ls hl
                                              · by_cases c21 : w = 21
                                                · refine lv_tableIn (tgt := 881) (off := 848) hx hb dL_law_33 (by rw [c21]; decide) (by rw [c21]; decide) (by rw [c21]; decide) (by decide) ?_
                                                  have h := s21 N D X PM PL i0 i1 M L9 (xs (nI (8 * k) + 1).toNatClampNeg) hI
                                                  refine lv_aload_n hx hb dL_law_881 rfl (lv_at hl 1 rfl) ?_
                                                  refine lv_aload_n hx hb dL_law_882 rfl (lv_at hl 0 rfl) ?_
                                                  refine lv_iload_n hx hb dL_law_883 rfl (lv_at hl 3 rfl) ?_
                                                  refine lv_iconst (v := 1) hx hb dL_law_884 (by decide) ?_
                                                  refine lv_iadd hx hb dL_law_885 ?_
                                                  refine va_sld hx hb hX hbl hbA hS v1 dL_law_886 ?_
                                                  refine lw_i (rn_V (rest := []) (ci := 2) (wc := pW q cs N D X PM PL) hx hb hml hown hT hl.1 hC hS hP.lf hD.lf 0 rfl rfl rfl ck_L_103 (c_X4_gone l G cs ts q H.size N D X PM PL (xs (nI (8 * k) + 1).toNatClampNeg) _ h) ⟨rfl, rfl, (Nat.le_of_ble_eq_true rfl), (Nat.le_of_ble_eq_true rfl)⟩ ⟨by show _ ≤ 600000; omega, by show _ ≤ 7302250; omega⟩ rfl rfl (Nat.le_of_ble_eq_true rfl) dL_law_887) hP hD hS hA (fun r u H locs hP hD hS h => ?_)
                                                  obtain ⟨N, D, X, PM, PL⟩ := u
                                                  have hP : va_P G vwCl (pW q cs N D X PM PL ++ (rW q j cs i0 i1 ++ mdW a cs M L9)) H := hP
                                                  have hD : va_D (fun z : Nat => s.heap.size ≤ z) (pW q cs N D X PM PL ++ (rW q j cs i0 i1 ++ mdW a cs M L9)) := hD
                                                  refine W.widen (k := 36 + 8 * k + 8) (n := 4196 + 621 * k + 621) (by omega) (by omega) ?_
                                                  have hP := va_P.cm ((List.append_assoc _ _ _).symm ▸ hP)
                                                  have hD := va_D.cm ((List.append_assoc _ _ _).symm ▸ hD)
                                                  refine lv_aload_n hx hb dL_law_890 rfl (lv_at hl 2 rfl) ?_
                                                  refine lv_aload_n hx hb dL_law_891 rfl (lv_at hl 0 rfl) ?_
                                                  refine lv_iload_n hx hb dL_law_892 rfl (lv_at hl 3 rfl) ?_
                                                  refine lv_iconst (v := 1) hx hb dL_law_893 (by decide) ?_
                                                  refine lv_iadd hx hb dL_law_894 ?_
                                                  refine va_sld hx hb hX hbl hbA hS v1 dL_law_895 ?_
                                                  refine lw_i (rn_V (rest := [.int r]) (ci := 3) (wc := mdW a cs M L9) hx hb hml hown hT hl.1 hC hS hP.lf hD.lf 0 rfl rfl rfl ck_L_106 (c_X5_gone l G cs ts a H.size M L9 (xs (nI (8 * k) + 1).toNatClampNeg) _ h) ⟨rfl, rfl, (Nat.le_of_ble_eq_true rfl), (Nat.le_of_ble_eq_true rfl)⟩ ⟨by show _ ≤ 600000; omega, by show _ ≤ 7302250; omega⟩ rfl rfl (Nat.le_of_ble_eq_true rfl) dL_law_896) hP hD hS hA (fun r2 u H locs hP hD hS h => ?_)
                                                  obtain ⟨M, L9⟩ := u
                                                  obtain ⟨hrr, hI⟩ := h
                                                  have hP : va_P G vwCl (pW q cs N D X PM PL ++ (rW q j cs i0 i1 ++ mdW a cs M L9)) H := by
                                                    have h2 := va_P.cm hP
                                                    rw [List.append_assoc] at h2
                                                    exact h2
                                                  have hD : va_D (fun z : Nat => s.heap.size ≤ z) (pW q cs N D X PM PL ++ (rW q j cs i0 i1 ++ mdW a cs M L9)) := by
                                                    have h2 := va_D.cm hD
                                                    rw [List.append_assoc] at h2
                                                    exact h2
                                                  refine lv_icmp_eq (tgt := 1339) hx hb dL_law_899 (by decide) (fun _ => ?_) (fun ct => absurd hrr ct)
                                                  exact hEnd hk8 N D X PM PL i0 i1 M L9 hI j H locs hP hD hS ls hl
                                                · by_cases c22 : w = 22
                                                  · refine lv_tableIn (tgt := 904) (off := 871) hx hb dL_law_33 (by rw [c22]; decide) (by rw [c22]; decide) (by rw [c22]; decide) (by decide) ?_
                                                    have h := s22 N D X PM PL i0 i1 M L9 (xs (nI (8 * k) + 1).toNatClampNeg) (xs (nI (8 * k) + 2).toNatClampNeg) (xs (nI (8 * k) + 3).toNatClampNeg) hI
                                                    refine lv_aload_n hx hb dL_law_904 rfl (lv_at hl 1 rfl) ?_
                                                    refine lv_aload_n hx hb dL_law_905 rfl (lv_at hl 0 rfl) ?_
                                                    refine lv_iload_n hx hb dL_law_906 rfl (lv_at hl 3 rfl) ?_
                                                    refine lv_iconst (v := 1) hx hb dL_law_907 (by decide) ?_
                                                    refine lv_iadd hx hb dL_law_908 ?_
                                                    refine va_sld hx hb hX hbl hbA hS v1 dL_law_909 ?_
                                                    refine lv_aload_n hx hb dL_law_910 rfl (lv_at hl 0 rfl) ?_
                                                    refine lv_iload_n hx hb dL_law_911 rfl (lv_at hl 3 rfl) ?_
                                                    refine lv_iconst (v := 2) hx hb dL_law_912 (by decide) ?_
                                                    refine lv_iadd hx hb dL_law_913 ?_
                                                    refine va_sld hx hb hX hbl hbA hS v2 dL_law_914 ?_
                                                    refine lv_aload_n hx hb dL_law_915 rfl (lv_at hl 0 rfl) ?_
                                                    refine lv_iload_n hx hb dL_law_916 rfl (lv_at hl 3 rfl) ?_
                                                    refine lv_iconst (v := 3) hx hb dL_law_917 (by decide) ?_
                                                    refine lv_iadd hx hb dL_law_918 ?_
                                                    refine va_sld hx hb hX hbl hbA hS v3 dL_law_919 ?_
                                                    refine lw_i (rn_V (rest := []) (ci := 2) (wc := pW q cs N D X PM PL) hx hb hml hown hT hl.1 hC hS hP.lf hD.lf 0 rfl rfl rfl ck_L_107 (c_X4_seen l G cs ts q H.size N D X PM PL (xs (nI (8 * k) + 1).toNatClampNeg) (xs (nI (8 * k) + 2).toNatClampNeg) (xs (nI (8 * k) + 3).toNatClampNeg) _ h) ⟨rfl, rfl, (Nat.le_of_ble_eq_true rfl), (Nat.le_of_ble_eq_true rfl)⟩ ⟨by show _ ≤ 600000; omega, by show _ ≤ 7302250; omega⟩ rfl rfl (Nat.le_of_ble_eq_true rfl) dL_law_920) hP hD hS hA (fun r u H locs hP hD hS h => ?_)
                                                    obtain ⟨N, D, X, PM, PL⟩ := u
                                                    have hP : va_P G vwCl (pW q cs N D X PM PL ++ (rW q j cs i0 i1 ++ mdW a cs M L9)) H := hP
                                                    have hD : va_D (fun z : Nat => s.heap.size ≤ z) (pW q cs N D X PM PL ++ (rW q j cs i0 i1 ++ mdW a cs M L9)) := hD
                                                    refine W.widen (k := 36 + 8 * k + 8) (n := 4196 + 621 * k + 621) (by omega) (by omega) ?_
                                                    have hP := va_P.cm ((List.append_assoc _ _ _).symm ▸ hP)
                                                    have hD := va_D.cm ((List.append_assoc _ _ _).symm ▸ hD)
                                                    refine lv_aload_n hx hb dL_law_923 rfl (lv_at hl 2 rfl) ?_
                                                    refine lv_aload_n hx hb dL_law_924 rfl (lv_at hl 0 rfl) ?_
                                                    refine lv_iload_n hx hb dL_law_925 rfl (lv_at hl 3 rfl) ?_
                                                    refine lv_iconst (v := 1) hx hb dL_law_926 (by decide) ?_
                                                    refine lv_iadd hx hb dL_law_927 ?_
                                                    refine va_sld hx hb hX hbl hbA hS v1 dL_law_928 ?_
                                                    refine lv_aload_n hx hb dL_law_929 rfl (lv_at hl 0 rfl) ?_
                                                    refine lv_iload_n hx hb dL_law_930 rfl (lv_at hl 3 rfl) ?_
                                                    refine lv_iconst (v := 2) hx hb dL_law_931 (by decide) ?_
                                                    refine lv_iadd hx hb dL_law_932 ?_
                                                    refine va_sld hx hb hX hbl hbA hS v2 dL_law_933 ?_
                                                    refine lv_aload_n hx hb dL_law_934 rfl (lv_at hl 0 rfl) ?_
                                                    refine lv_iload_n hx hb dL_law_935 rfl (lv_at hl 3 rfl) ?_
                                                    refine lv_iconst (v := 3) hx hb dL_law_936 (by decide) ?_
                                                    refine lv_iadd hx hb dL_law_937 ?_
                                                    refine va_sld hx hb hX hbl hbA hS v3 dL_law_938 ?_
                                                    refine lw_i (rn_V (rest := [.int r]) (ci := 3) (wc := mdW a cs M L9) hx hb hml hown hT hl.1 hC hS hP.lf hD.lf 0 rfl rfl rfl ck_L_110 (c_X5_seen l G cs ts a H.size M L9 (xs (nI (8 * k) + 1).toNatClampNeg) (xs (nI (8 * k) + 2).toNatClampNeg) (xs (nI (8 * k) + 3).toNatClampNeg) _ h) ⟨rfl, rfl, (Nat.le_of_ble_eq_true rfl), (Nat.le_of_ble_eq_true rfl)⟩ ⟨by show _ ≤ 600000; omega, by show _ ≤ 7302250; omega⟩ rfl rfl (Nat.le_of_ble_eq_true rfl) dL_law_939) hP hD hS hA (fun r2 u H locs hP hD hS h => ?_)
                                                    obtain ⟨M, L9⟩ := u
                                                    obtain ⟨hrr, hI⟩ := h
                                                    have hP : va_P G vwCl (pW q cs N D X PM PL ++ (rW q j cs i0 i1 ++ mdW a cs M L9)) H := by
                                                      have h2 := va_P.cm hP
                                                      rw [List.append_assoc] at h2
                                                      exact h2
                                                    have hD : va_D (fun z : Nat => s.heap.size ≤ z) (pW q cs N D X PM PL ++ (rW q j cs i0 i1 ++ mdW a cs M L9)) := by
                                                      have h2 := va_D.cm hD
                                                      rw [List.append_assoc] at h2
                                                      exact h2
                                                    refine lv_icmp_eq (tgt := 1339) hx hb dL_law_942 (by decide) (fun _ => ?_) (fun ct => absurd hrr ct)
                                                    exact hEnd hk8 N D X PM PL i0 i1 M L9 hI j H locs hP hD hS ls hl
                                                  · by_cases c23 : w = 23
                                                    · refine lv_tableIn (tgt := 947) (off := 914) hx hb dL_law_33 (by rw [c23]; decide) (by rw [c23]; decide) (by rw [c23]; decide) (by decide) ?_
                                                      have h := s23 N D X PM PL i0 i1 M L9 (xs (nI (8 * k) + 1).toNatClampNeg) hI
                                                      refine lv_aload_n hx hb dL_law_947 rfl (lv_at hl 1 rfl) ?_
                                                      refine lv_aload_n hx hb dL_law_948 rfl (lv_at hl 0 rfl) ?_
                                                      refine lv_iload_n hx hb dL_law_949 rfl (lv_at hl 3 rfl) ?_
                                                      refine lv_iconst (v := 1) hx hb dL_law_950 (by decide) ?_
                                                      refine lv_iadd hx hb dL_law_951 ?_
                                                      refine va_sld hx hb hX hbl hbA hS v1 dL_law_952 ?_
                                                      refine lw_i (rn_V (rest := []) (ci := 2) (wc := pW q cs N D X PM PL) hx hb hml hown hT hl.1 hC hS hP.lf hD.lf 0 rfl rfl rfl ck_L_111 (c_X4_forget l G cs ts q H.size N D X PM PL (xs (nI (8 * k) + 1).toNatClampNeg) _ h) ⟨rfl, rfl, (Nat.le_of_ble_eq_true rfl), (Nat.le_of_ble_eq_true rfl)⟩ ⟨by show _ ≤ 600000; omega, by show _ ≤ 7302250; omega⟩ rfl rfl (Nat.le_of_ble_eq_true rfl) dL_law_953) hP hD hS hA (fun r u H locs hP hD hS h => ?_)
                                                      obtain ⟨N, D, X, PM, PL⟩ := u
                                                      have hP : va_P G vwCl (pW q cs N D X PM PL ++ (rW q j cs i0 i1 ++ mdW a cs M L9)) H := hP
                                                      have hD : va_D (fun z : Nat => s.heap.size ≤ z) (pW q cs N D X PM PL ++ (rW q j cs i0 i1 ++ mdW a cs M L9)) := hD
                                                      refine W.widen (k := 36 + 8 * k + 8) (n := 4196 + 621 * k + 621) (by omega) (by omega) ?_
                                                      have hP := va_P.cm ((List.append_assoc _ _ _).symm ▸ hP)
                                                      have hD := va_D.cm ((List.append_assoc _ _ _).symm ▸ hD)
                                                      refine lv_aload_n hx hb dL_law_956 rfl (lv_at hl 2 rfl) ?_
                                                      refine lv_aload_n hx hb dL_law_957 rfl (lv_at hl 0 rfl) ?_
                                                      refine lv_iload_n hx hb dL_law_958 rfl (lv_at hl 3 rfl) ?_
                                                      refine lv_iconst (v := 1) hx hb dL_law_959 (by decide) ?_
                                                      refine lv_iadd hx hb dL_law_960 ?_
                                                      refine va_sld hx hb hX hbl hbA hS v1 dL_law_961 ?_
                                                      refine lw_i (rn_V (rest := [.int r]) (ci := 3) (wc := mdW a cs M L9) hx hb hml hown hT hl.1 hC hS hP.lf hD.lf 0 rfl rfl rfl ck_L_114 (c_X5_forget l G cs ts a H.size M L9 (xs (nI (8 * k) + 1).toNatClampNeg) _ h) ⟨rfl, rfl, (Nat.le_of_ble_eq_true rfl), (Nat.le_of_ble_eq_true rfl)⟩ ⟨by show _ ≤ 600000; omega, by show _ ≤ 7302250; omega⟩ rfl rfl (Nat.le_of_ble_eq_true rfl) dL_law_962) hP hD hS hA (fun r2 u H locs hP hD hS h => ?_)
                                                      obtain ⟨M, L9⟩ := u
                                                      obtain ⟨hrr, hI⟩ := h
                                                      have hP : va_P G vwCl (pW q cs N D X PM PL ++ (rW q j cs i0 i1 ++ mdW a cs M L9)) H := by
                                                        have h2 := va_P.cm hP
                                                        rw [List.append_assoc] at h2
                                                        exact h2
                                                      have hD : va_D (fun z : Nat => s.heap.size ≤ z) (pW q cs N D X PM PL ++ (rW q j cs i0 i1 ++ mdW a cs M L9)) := by
                                                        have h2 := va_D.cm hD
                                                        rw [List.append_assoc] at h2
                                                        exact h2
                                                      refine lv_icmp_eq (tgt := 1339) hx hb dL_law_965 (by decide) (fun _ => ?_) (fun ct => absurd hrr ct)
                                                      exact hEnd hk8 N D X PM PL i0 i1 M L9 hI j H locs hP hD hS ls hl
                                                    · by_cases c24 : w = 24
                                                      · refine lv_tableIn (tgt := 970) (off := 937) hx hb dL_law_33 (by rw [c24]; decide) (by rw [c24]; decide) (by rw [c24]; decide) (by decide) ?_
                                                        have h := s24 N D X PM PL i0 i1 M L9 (xs (nI (8 * k) + 1).toNatClampNeg) (xs (nI (8 * k) + 2).toNatClampNeg) hI
                                                        refine lv_aload_n hx hb dL_law_970 rfl (lv_at hl 1 rfl) ?_
                                                        refine lv_aload_n hx hb dL_law_971 rfl (lv_at hl 0 rfl) ?_
                                                        refine lv_iload_n hx hb dL_law_972 rfl (lv_at hl 3 rfl) ?_
                                                        refine lv_iconst (v := 1) hx hb dL_law_973 (by decide) ?_
                                                        refine lv_iadd hx hb dL_law_974 ?_
                                                        refine va_sld hx hb hX hbl hbA hS v1 dL_law_975 ?_
                                                        refine lv_aload_n hx hb dL_law_976 rfl (lv_at hl 0 rfl) ?_
                                                        refine lv_iload_n hx hb dL_law_977 rfl (lv_at hl 3 rfl) ?_
                                                        refine lv_iconst (v := 2) hx hb dL_law_978 (by decide) ?_
                                                        refine lv_iadd hx hb dL_law_979 ?_
                                                        refine va_sld hx hb hX hbl hbA hS v2 dL_law_980 ?_
                                                        refine lw_i (rn_V (rest := []) (ci := 2) (wc := pW q cs N D X PM PL) hx hb hml hown hT hl.1 hC hS hP.lf hD.lf 0 rfl rfl rfl ck_L_115 (c_X4_which l G cs ts q H.size N D X PM PL (xs (nI (8 * k) + 1).toNatClampNeg) (xs (nI (8 * k) + 2).toNatClampNeg) _ h) ⟨rfl, rfl, (Nat.le_of_ble_eq_true rfl), (Nat.le_of_ble_eq_true rfl)⟩ ⟨by show _ ≤ 600000; omega, by show _ ≤ 7302250; omega⟩ rfl rfl (Nat.le_of_ble_eq_true rfl) dL_law_981) hP hD hS hA (fun r u H locs hP hD hS h => ?_)
                                                        obtain ⟨N, D, X, PM, PL⟩ := u
                                                        have hP : va_P G vwCl (pW q cs N D X PM PL ++ (rW q j cs i0 i1 ++ mdW a cs M L9)) H := hP
                                                        have hD : va_D (fun z : Nat => s.heap.size ≤ z) (pW q cs N D X PM PL ++ (rW q j cs i0 i1 ++ mdW a cs M L9)) := hD
                                                        refine W.widen (k := 36 + 8 * k + 8) (n := 4196 + 621 * k + 621) (by omega) (by omega) ?_
                                                        have hP := va_P.cm ((List.append_assoc _ _ _).symm ▸ hP)
                                                        have hD := va_D.cm ((List.append_assoc _ _ _).symm ▸ hD)
                                                        refine lv_aload_n hx hb dL_law_984 rfl (lv_at hl 2 rfl) ?_
                                                        refine lv_aload_n hx hb dL_law_985 rfl (lv_at hl 0 rfl) ?_
                                                        refine lv_iload_n hx hb dL_law_986 rfl (lv_at hl 3 rfl) ?_
                                                        refine lv_iconst (v := 1) hx hb dL_law_987 (by decide) ?_
                                                        refine lv_iadd hx hb dL_law_988 ?_
                                                        refine va_sld hx hb hX hbl hbA hS v1 dL_law_989 ?_
                                                        refine lv_aload_n hx hb dL_law_990 rfl (lv_at hl 0 rfl) ?_
                                                        refine lv_iload_n hx hb dL_law_991 rfl (lv_at hl 3 rfl) ?_
                                                        refine lv_iconst (v := 2) hx hb dL_law_992 (by decide) ?_
                                                        refine lv_iadd hx hb dL_law_993 ?_
                                                        refine va_sld hx hb hX hbl hbA hS v2 dL_law_994 ?_
                                                        refine lw_i (rn_V (rest := [.int r]) (ci := 3) (wc := mdW a cs M L9) hx hb hml hown hT hl.1 hC hS hP.lf hD.lf 0 rfl rfl rfl ck_L_118 (c_X5_which l G cs ts a H.size M L9 (xs (nI (8 * k) + 1).toNatClampNeg) (xs (nI (8 * k) + 2).toNatClampNeg) _ h) ⟨rfl, rfl, (Nat.le_of_ble_eq_true rfl), (Nat.le_of_ble_eq_true rfl)⟩ ⟨by show _ ≤ 600000; omega, by show _ ≤ 7302250; omega⟩ rfl rfl (Nat.le_of_ble_eq_true rfl) dL_law_995) hP hD hS hA (fun r2 u H locs hP hD hS h => ?_)
                                                        obtain ⟨M, L9⟩ := u
                                                        obtain ⟨hrr, hI⟩ := h
                                                        have hP : va_P G vwCl (pW q cs N D X PM PL ++ (rW q j cs i0 i1 ++ mdW a cs M L9)) H := by
                                                          have h2 := va_P.cm hP
                                                          rw [List.append_assoc] at h2
                                                          exact h2
                                                        have hD : va_D (fun z : Nat => s.heap.size ≤ z) (pW q cs N D X PM PL ++ (rW q j cs i0 i1 ++ mdW a cs M L9)) := by
                                                          have h2 := va_D.cm hD
                                                          rw [List.append_assoc] at h2
                                                          exact h2
                                                        refine lv_icmp_eq (tgt := 1339) hx hb dL_law_998 (by decide) (fun _ => ?_) (fun ct => absurd hrr ct)
                                                        exact hEnd hk8 N D X PM PL i0 i1 M L9 hI j H locs hP hD hS ls hl
                                                      · by_cases c25 : w = 25
                                                        · refine lv_tableIn (tgt := 1003) (off := 970) hx hb dL_law_33 (by rw [c25]; decide) (by rw [c25]; decide) (by rw [c25]; decide) (by decide) ?_
                                                          have h := s25 N D X PM PL i0 i1 M L9 (xs (nI (8 * k) + 1).toNatClampNeg) hI
                                                          refine lv_aload_n hx hb dL_law_1003 rfl (lv_at hl 1 rfl) ?_
                                                          refine lv_aload_n hx hb dL_law_1004 rfl (lv_at hl 0 rfl) ?_
                                                          refine lv_iload_n hx hb dL_law_1005 rfl (lv_at hl 3 rfl) ?_
                                                          refine lv_iconst (v := 1) hx hb dL_law_1006 (by decide) ?_
                                                          refine lv_iadd hx hb dL_law_1007 ?_
                                                          refine va_sld hx hb hX hbl hbA hS v1 dL_law_1008 ?_
                                                          refine lw_i (rn_V (rest := []) (ci := 2) (wc := pW q cs N D X PM PL) hx hb hml hown hT hl.1 hC hS hP.lf hD.lf 0 rfl rfl rfl ck_L_119 (c_X4_look l G cs ts q H.size N D X PM PL (xs (nI (8 * k) + 1).toNatClampNeg) _ h) ⟨rfl, rfl, (Nat.le_of_ble_eq_true rfl), (Nat.le_of_ble_eq_true rfl)⟩ ⟨by show _ ≤ 600000; omega, by show _ ≤ 7302250; omega⟩ rfl rfl (Nat.le_of_ble_eq_true rfl) dL_law_1009) hP hD hS hA (fun r u H locs hP hD hS h => ?_)
                                                          obtain ⟨N, D, X, PM, PL⟩ := u
                                                          have hP : va_P G vwCl (pW q cs N D X PM PL ++ (rW q j cs i0 i1 ++ mdW a cs M L9)) H := hP
                                                          have hD : va_D (fun z : Nat => s.heap.size ≤ z) (pW q cs N D X PM PL ++ (rW q j cs i0 i1 ++ mdW a cs M L9)) := hD
                                                          refine W.widen (k := 36 + 8 * k + 8) (n := 4196 + 621 * k + 621) (by omega) (by omega) ?_
                                                          have hP := va_P.cm ((List.append_assoc _ _ _).symm ▸ hP)
                                                          have hD := va_D.cm ((List.append_assoc _ _ _).symm ▸ hD)
                                                          refine lv_aload_n hx hb dL_law_1012 rfl (lv_at hl 2 rfl) ?_
                                                          refine lv_aload_n hx hb dL_law_1013 rfl (lv_at hl 0 rfl) ?_
                                                          refine lv_iload_n hx hb dL_law_1014 rfl (lv_at hl 3 rfl) ?_
                                                          refine lv_iconst (v := 1) hx hb dL_law_1015 (by decide) ?_
                                                          refine lv_iadd hx hb dL_law_1016 ?_
                                                          refine va_sld hx hb hX hbl hbA hS v1 dL_law_1017 ?_
                                                          refine lw_i (rn_V (rest := [.int r]) (ci := 3) (wc := mdW a cs M L9) hx hb hml hown hT hl.1 hC hS hP.lf hD.lf 0 rfl rfl rfl ck_L_122 (c_X5_look l G cs ts a H.size M L9 (xs (nI (8 * k) + 1).toNatClampNeg) _ h) ⟨rfl, rfl, (Nat.le_of_ble_eq_true rfl), (Nat.le_of_ble_eq_true rfl)⟩ ⟨by show _ ≤ 600000; omega, by show _ ≤ 7302250; omega⟩ rfl rfl (Nat.le_of_ble_eq_true rfl) dL_law_1018) hP hD hS hA (fun r2 u H locs hP hD hS h => ?_)
                                                          obtain ⟨M, L9⟩ := u
                                                          obtain ⟨hrr, hI⟩ := h
                                                          have hP : va_P G vwCl (pW q cs N D X PM PL ++ (rW q j cs i0 i1 ++ mdW a cs M L9)) H := by
                                                            have h2 := va_P.cm hP
                                                            rw [List.append_assoc] at h2
                                                            exact h2
                                                          have hD : va_D (fun z : Nat => s.heap.size ≤ z) (pW q cs N D X PM PL ++ (rW q j cs i0 i1 ++ mdW a cs M L9)) := by
                                                            have h2 := va_D.cm hD
                                                            rw [List.append_assoc] at h2
                                                            exact h2
                                                          refine lv_icmp_eq (tgt := 1339) hx hb dL_law_1021 (by decide) (fun _ => ?_) (fun ct => absurd hrr ct)
                                                          exact hEnd hk8 N D X PM PL i0 i1 M L9 hI j H locs hP hD hS ls hl
                                                        · by_cases c26 : w = 26
                                                          · refine lv_tableIn (tgt := 1026) (off := 993) hx hb dL_law_33 (by rw [c26]; decide) (by rw [c26]; decide) (by rw [c26]; decide) (by decide) ?_
                                                            have h := s26 N D X PM PL i0 i1 M L9 (xs (nI (8 * k) + 1).toNatClampNeg) (xs (nI (8 * k) + 2).toNatClampNeg) (xs (nI (8 * k) + 3).toNatClampNeg) (xs (nI (8 * k) + 4).toNatClampNeg) (xs (nI (8 * k) + 5).toNatClampNeg) hI
                                                            refine lv_aload_n hx hb dL_law_1026 rfl (lv_at hl 1 rfl) ?_
                                                            refine lv_aload_n hx hb dL_law_1027 rfl (lv_at hl 0 rfl) ?_
                                                            refine lv_iload_n hx hb dL_law_1028 rfl (lv_at hl 3 rfl) ?_
                                                            refine lv_iconst (v := 1) hx hb dL_law_1029 (by decide) ?_
                                                            refine lv_iadd hx hb dL_law_1030 ?_
                                                            refine va_sld hx hb hX hbl hbA hS v1 dL_law_1031 ?_
                                                            refine lv_aload_n hx hb dL_law_1032 rfl (lv_at hl 0 rfl) ?_
                                                            refine lv_iload_n hx hb dL_law_1033 rfl (lv_at hl 3 rfl) ?_
                                                            refine lv_iconst (v := 2) hx hb dL_law_1034 (by decide) ?_
                                                            refine lv_iadd hx hb dL_law_1035 ?_
                                                            refine va_sld hx hb hX hbl hbA hS v2 dL_law_1036 ?_
                                                            refine lv_aload_n hx hb dL_law_1037 rfl (lv_at hl 0 rfl) ?_
                                                            refine lv_iload_n hx hb dL_law_1038 rfl (lv_at hl 3 rfl) ?_
                                                            refine lv_iconst (v := 3) hx hb dL_law_1039 (by decide) ?_
                                                            refine lv_iadd hx hb dL_law_1040 ?_
                                                            refine va_sld hx hb hX hbl hbA hS v3 dL_law_1041 ?_
                                                            refine lv_aload_n hx hb dL_law_1042 rfl (lv_at hl 0 rfl) ?_
                                                            refine lv_iload_n hx hb dL_law_1043 rfl (lv_at hl 3 rfl) ?_
                                                            refine lv_iconst (v := 4) hx hb dL_law_1044 (by decide) ?_
                                                            refine lv_iadd hx hb dL_law_1045 ?_
                                                            refine va_sld hx hb hX hbl hbA hS v4 dL_law_1046 ?_
                                                            refine lv_aload_n hx hb dL_law_1047 rfl (lv_at hl 0 rfl) ?_
                                                            refine lv_iload_n hx hb dL_law_1048 rfl (lv_at hl 3 rfl) ?_
                                                            refine lv_iconst (v := 5) hx hb dL_law_1049 (by decide) ?_
                                                            refine lv_iadd hx hb dL_law_1050 ?_
                                                            refine va_sld hx hb hX hbl hbA hS v5 dL_law_1051 ?_
                                                            refine lw_i (rn_V (rest := []) (ci := 2) (wc := pW q cs N D X PM PL) hx hb hml hown hT hl.1 hC hS hP.lf hD.lf 0 rfl rfl rfl ck_L_123 (c_X4_bitten l G cs ts q H.size N D X PM PL (xs (nI (8 * k) + 1).toNatClampNeg) (xs (nI (8 * k) + 2).toNatClampNeg) (xs (nI (8 * k) + 3).toNatClampNeg) (xs (nI (8 * k) + 4).toNatClampNeg) (xs (nI (8 * k) + 5).toNatClampNeg) _ h) ⟨rfl, rfl, (Nat.le_of_ble_eq_true rfl), (Nat.le_of_ble_eq_true rfl)⟩ ⟨by show _ ≤ 600000; omega, by show _ ≤ 7302250; omega⟩ rfl rfl (Nat.le_of_ble_eq_true rfl) dL_law_1052) hP hD hS hA (fun r u H locs hP hD hS h => ?_)
                                                            obtain ⟨N, D, X, PM, PL⟩ := u
                                                            have hP : va_P G vwCl (pW q cs N D X PM PL ++ (rW q j cs i0 i1 ++ mdW a cs M L9)) H := hP
                                                            have hD : va_D (fun z : Nat => s.heap.size ≤ z) (pW q cs N D X PM PL ++ (rW q j cs i0 i1 ++ mdW a cs M L9)) := hD
                                                            refine W.widen (k := 36 + 8 * k + 8) (n := 4196 + 621 * k + 621) (by omega) (by omega) ?_
                                                            have hP := va_P.cm ((List.append_assoc _ _ _).symm ▸ hP)
                                                            have hD := va_D.cm ((List.append_assoc _ _ _).symm ▸ hD)
                                                            refine lv_aload_n hx hb dL_law_1055 rfl (lv_at hl 2 rfl) ?_
                                                            refine lv_aload_n hx hb dL_law_1056 rfl (lv_at hl 0 rfl) ?_
                                                            refine lv_iload_n hx hb dL_law_1057 rfl (lv_at hl 3 rfl) ?_
                                                            refine lv_iconst (v := 1) hx hb dL_law_1058 (by decide) ?_
                                                            refine lv_iadd hx hb dL_law_1059 ?_
                                                            refine va_sld hx hb hX hbl hbA hS v1 dL_law_1060 ?_
                                                            refine lv_aload_n hx hb dL_law_1061 rfl (lv_at hl 0 rfl) ?_
                                                            refine lv_iload_n hx hb dL_law_1062 rfl (lv_at hl 3 rfl) ?_
                                                            refine lv_iconst (v := 2) hx hb dL_law_1063 (by decide) ?_
                                                            refine lv_iadd hx hb dL_law_1064 ?_
                                                            refine va_sld hx hb hX hbl hbA hS v2 dL_law_1065 ?_
                                                            refine lv_aload_n hx hb dL_law_1066 rfl (lv_at hl 0 rfl) ?_
                                                            refine lv_iload_n hx hb dL_law_1067 rfl (lv_at hl 3 rfl) ?_
                                                            refine lv_iconst (v := 3) hx hb dL_law_1068 (by decide) ?_
                                                            refine lv_iadd hx hb dL_law_1069 ?_
                                                            refine va_sld hx hb hX hbl hbA hS v3 dL_law_1070 ?_
                                                            refine lv_aload_n hx hb dL_law_1071 rfl (lv_at hl 0 rfl) ?_
                                                            refine lv_iload_n hx hb dL_law_1072 rfl (lv_at hl 3 rfl) ?_
                                                            refine lv_iconst (v := 4) hx hb dL_law_1073 (by decide) ?_
                                                            refine lv_iadd hx hb dL_law_1074 ?_
                                                            refine va_sld hx hb hX hbl hbA hS v4 dL_law_1075 ?_
                                                            refine lv_aload_n hx hb dL_law_1076 rfl (lv_at hl 0 rfl) ?_
                                                            refine lv_iload_n hx hb dL_law_1077 rfl (lv_at hl 3 rfl) ?_
                                                            refine lv_iconst (v := 5) hx hb dL_law_1078 (by decide) ?_
                                                            refine lv_iadd hx hb dL_law_1079 ?_
                                                            refine va_sld hx hb hX hbl hbA hS v5 dL_law_1080 ?_
                                                            refine lw_i (rn_V (rest := [.int r]) (ci := 3) (wc := mdW a cs M L9) hx hb hml hown hT hl.1 hC hS hP.lf hD.lf 0 rfl rfl rfl ck_L_126 (c_X5_bitten l G cs ts a H.size M L9 (xs (nI (8 * k) + 1).toNatClampNeg) (xs (nI (8 * k) + 2).toNatClampNeg) (xs (nI (8 * k) + 3).toNatClampNeg) (xs (nI (8 * k) + 4).toNatClampNeg) (xs (nI (8 * k) + 5).toNatClampNeg) _ h) ⟨rfl, rfl, (Nat.le_of_ble_eq_true rfl), (Nat.le_of_ble_eq_true rfl)⟩ ⟨by show _ ≤ 600000; omega, by show _ ≤ 7302250; omega⟩ rfl rfl (Nat.le_of_ble_eq_true rfl) dL_law_1081) hP hD hS hA (fun r2 u H locs hP hD hS h => ?_)
                                                            obtain ⟨M, L9⟩ := u
                                                            obtain ⟨hrr, hI⟩ := h
                                                            have hP : va_P G vwCl (pW q cs N D X PM PL ++ (rW q j cs i0 i1 ++ mdW a cs M L9)) H := by
                                                              have h2 := va_P.cm hP
                                                              rw [List.append_assoc] at h2
                                                              exact h2
                                                            have hD : va_D (fun z : Nat => s.heap.size ≤ z) (pW q cs N D X PM PL ++ (rW q j cs i0 i1 ++ mdW a cs M L9)) := by
                                                              have h2 := va_D.cm hD
                                                              rw [List.append_assoc] at h2
                                                              exact h2
                                                            refine lv_icmp_eq (tgt := 1339) hx hb dL_law_1084 (by decide) (fun _ => ?_) (fun ct => absurd hrr ct)
                                                            exact hEnd hk8 N D X PM PL i0 i1 M L9 hI j H locs hP hD hS ls hl
                                                          · by_cases c27 : w = 27
                                                            · refine lv_tableIn (tgt := 1089) (off := 1056) hx hb dL_law_33 (by rw [c27]; decide) (by rw [c27]; decide) (by rw [c27]; decide) (by decide) ?_
                                                              have h := s27 N D X PM PL i0 i1 M L9 (xs (nI (8 * k) + 1).toNatClampNeg) (xs (nI (8 * k) + 2).toNatClampNeg) (xs (nI (8 * k) + 3).toNatClampNeg) (xs (nI (8 * k) + 4).toNatClampNeg) (xs (nI (8 * k) + 5).toNatClampNeg) (xs (nI (8 * k) + 6).toNatClampNeg) (xs (nI (8 * k) + 7).toNatClampNeg) hI
                                                              refine lv_aload_n hx hb dL_law_1089 rfl (lv_at hl 1 rfl) ?_
                                                              refine lv_aload_n hx hb dL_law_1090 rfl (lv_at hl 0 rfl) ?_
                                                              refine lv_iload_n hx hb dL_law_1091 rfl (lv_at hl 3 rfl) ?_
                                                              refine lv_iconst (v := 1) hx hb dL_law_1092 (by decide) ?_
                                                              refine lv_iadd hx hb dL_law_1093 ?_
                                                              refine va_sld hx hb hX hbl hbA hS v1 dL_law_1094 ?_
                                                              refine lv_aload_n hx hb dL_law_1095 rfl (lv_at hl 0 rfl) ?_
                                                              refine lv_iload_n hx hb dL_law_1096 rfl (lv_at hl 3 rfl) ?_
                                                              refine lv_iconst (v := 2) hx hb dL_law_1097 (by decide) ?_
                                                              refine lv_iadd hx hb dL_law_1098 ?_
                                                              refine va_sld hx hb hX hbl hbA hS v2 dL_law_1099 ?_
                                                              refine lv_aload_n hx hb dL_law_1100 rfl (lv_at hl 0 rfl) ?_
                                                              refine lv_iload_n hx hb dL_law_1101 rfl (lv_at hl 3 rfl) ?_
                                                              refine lv_iconst (v := 3) hx hb dL_law_1102 (by decide) ?_
                                                              refine lv_iadd hx hb dL_law_1103 ?_
                                                              refine va_sld hx hb hX hbl hbA hS v3 dL_law_1104 ?_
                                                              refine lv_aload_n hx hb dL_law_1105 rfl (lv_at hl 0 rfl) ?_
                                                              refine lv_iload_n hx hb dL_law_1106 rfl (lv_at hl 3 rfl) ?_
                                                              refine lv_iconst (v := 4) hx hb dL_law_1107 (by decide) ?_
                                                              refine lv_iadd hx hb dL_law_1108 ?_
                                                              refine va_sld hx hb hX hbl hbA hS v4 dL_law_1109 ?_
                                                              refine lv_aload_n hx hb dL_law_1110 rfl (lv_at hl 0 rfl) ?_
                                                              refine lv_iload_n hx hb dL_law_1111 rfl (lv_at hl 3 rfl) ?_
                                                              refine lv_iconst (v := 5) hx hb dL_law_1112 (by decide) ?_
                                                              refine lv_iadd hx hb dL_law_1113 ?_
                                                              refine va_sld hx hb hX hbl hbA hS v5 dL_law_1114 ?_
                                                              refine lv_aload_n hx hb dL_law_1115 rfl (lv_at hl 0 rfl) ?_
                                                              refine lv_iload_n hx hb dL_law_1116 rfl (lv_at hl 3 rfl) ?_
                                                              refine lv_bipush (v := 6) hx hb dL_law_1117 (by decide) ?_
                                                              refine lv_iadd hx hb dL_law_1119 ?_
                                                              refine va_sld hx hb hX hbl hbA hS v6 dL_law_1120 ?_
                                                              refine lv_aload_n hx hb dL_law_1121 rfl (lv_at hl 0 rfl) ?_
                                                              refine lv_iload_n hx hb dL_law_1122 rfl (lv_at hl 3 rfl) ?_
                                                              refine lv_bipush (v := 7) hx hb dL_law_1123 (by decide) ?_
                                                              refine lv_iadd hx hb dL_law_1125 ?_
                                                              refine va_sld hx hb hX hbl hbA hS v7 dL_law_1126 ?_
                                                              refine lw_i (rn_V (rest := []) (ci := 2) (wc := pW q cs N D X PM PL) hx hb hml hown hT hl.1 hC hS hP.lf hD.lf 0 rfl rfl rfl ck_L_127 (c_X4_slips l G cs ts q H.size N D X PM PL (xs (nI (8 * k) + 1).toNatClampNeg) (xs (nI (8 * k) + 2).toNatClampNeg) (xs (nI (8 * k) + 3).toNatClampNeg) (xs (nI (8 * k) + 4).toNatClampNeg) (xs (nI (8 * k) + 5).toNatClampNeg) (xs (nI (8 * k) + 6).toNatClampNeg) (xs (nI (8 * k) + 7).toNatClampNeg) _ h) ⟨rfl, rfl, (Nat.le_of_ble_eq_true rfl), (Nat.le_of_ble_eq_true rfl)⟩ ⟨by show _ ≤ 600000; omega, by show _ ≤ 7302250; omega⟩ rfl rfl (Nat.le_of_ble_eq_true rfl) dL_law_1127) hP hD hS hA (fun r u H locs hP hD hS h => ?_)
                                                              obtain ⟨N, D, X, PM, PL⟩ := u
                                                              have hP : va_P G vwCl (pW q cs N D X PM PL ++ (rW q j cs i0 i1 ++ mdW a cs M L9)) H := hP
                                                              have hD : va_D (fun z : Nat => s.heap.size ≤ z) (pW q cs N D X PM PL ++ (rW q j cs i0 i1 ++ mdW a cs M L9)) := hD
                                                              refine W.widen (k := 36 + 8 * k + 8) (n := 4196 + 621 * k + 621) (by omega) (by omega) ?_
                                                              have hP := va_P.cm ((List.append_assoc _ _ _).symm ▸ hP)
                                                              have hD := va_D.cm ((List.append_assoc _ _ _).symm ▸ hD)
                                                              refine lv_aload_n hx hb dL_law_1130 rfl (lv_at hl 2 rfl) ?_
                                                              refine lv_aload_n hx hb dL_law_1131 rfl (lv_at hl 0 rfl) ?_
                                                              refine lv_iload_n hx hb dL_law_1132 rfl (lv_at hl 3 rfl) ?_
                                                              refine lv_iconst (v := 1) hx hb dL_law_1133 (by decide) ?_
                                                              refine lv_iadd hx hb dL_law_1134 ?_
                                                              refine va_sld hx hb hX hbl hbA hS v1 dL_law_1135 ?_
                                                              refine lv_aload_n hx hb dL_law_1136 rfl (lv_at hl 0 rfl) ?_
                                                              refine lv_iload_n hx hb dL_law_1137 rfl (lv_at hl 3 rfl) ?_
                                                              refine lv_iconst (v := 2) hx hb dL_law_1138 (by decide) ?_
                                                              refine lv_iadd hx hb dL_law_1139 ?_
                                                              refine va_sld hx hb hX hbl hbA hS v2 dL_law_1140 ?_
                                                              refine lv_aload_n hx hb dL_law_1141 rfl (lv_at hl 0 rfl) ?_
                                                              refine lv_iload_n hx hb dL_law_1142 rfl (lv_at hl 3 rfl) ?_
                                                              refine lv_iconst (v := 3) hx hb dL_law_1143 (by decide) ?_
                                                              refine lv_iadd hx hb dL_law_1144 ?_
                                                              refine va_sld hx hb hX hbl hbA hS v3 dL_law_1145 ?_
                                                              refine lv_aload_n hx hb dL_law_1146 rfl (lv_at hl 0 rfl) ?_
                                                              refine lv_iload_n hx hb dL_law_1147 rfl (lv_at hl 3 rfl) ?_
                                                              refine lv_iconst (v := 4) hx hb dL_law_1148 (by decide) ?_
                                                              refine lv_iadd hx hb dL_law_1149 ?_
                                                              refine va_sld hx hb hX hbl hbA hS v4 dL_law_1150 ?_
                                                              refine lv_aload_n hx hb dL_law_1151 rfl (lv_at hl 0 rfl) ?_
                                                              refine lv_iload_n hx hb dL_law_1152 rfl (lv_at hl 3 rfl) ?_
                                                              refine lv_iconst (v := 5) hx hb dL_law_1153 (by decide) ?_
                                                              refine lv_iadd hx hb dL_law_1154 ?_
                                                              refine va_sld hx hb hX hbl hbA hS v5 dL_law_1155 ?_
                                                              refine lv_aload_n hx hb dL_law_1156 rfl (lv_at hl 0 rfl) ?_
                                                              refine lv_iload_n hx hb dL_law_1157 rfl (lv_at hl 3 rfl) ?_
                                                              refine lv_bipush (v := 6) hx hb dL_law_1158 (by decide) ?_
                                                              refine lv_iadd hx hb dL_law_1160 ?_
                                                              refine va_sld hx hb hX hbl hbA hS v6 dL_law_1161 ?_
                                                              refine lv_aload_n hx hb dL_law_1162 rfl (lv_at hl 0 rfl) ?_
                                                              refine lv_iload_n hx hb dL_law_1163 rfl (lv_at hl 3 rfl) ?_
                                                              refine lv_bipush (v := 7) hx hb dL_law_1164 (by decide) ?_
                                                              refine lv_iadd hx hb dL_law_1166 ?_
                                                              refine va_sld hx hb hX hbl hbA hS v7 dL_law_1167 ?_
                                                              refine lw_i (rn_V (rest := [.int r]) (ci := 3) (wc := mdW a cs M L9) hx hb hml hown hT hl.1 hC hS hP.lf hD.lf 0 rfl rfl rfl ck_L_131 (c_X5_slips l G cs ts a H.size M L9 (xs (nI (8 * k) + 1).toNatClampNeg) (xs (nI (8 * k) + 2).toNatClampNeg) (xs (nI (8 * k) + 3).toNatClampNeg) (xs (nI (8 * k) + 4).toNatClampNeg) (xs (nI (8 * k) + 5).toNatClampNeg) (xs (nI (8 * k) + 6).toNatClampNeg) (xs (nI (8 * k) + 7).toNatClampNeg) _ h) ⟨rfl, rfl, (Nat.le_of_ble_eq_true rfl), (Nat.le_of_ble_eq_true rfl)⟩ ⟨by show _ ≤ 600000; omega, by show _ ≤ 7302250; omega⟩ rfl rfl (Nat.le_of_ble_eq_true rfl) dL_law_1168) hP hD hS hA (fun r2 u H locs hP hD hS h => ?_)
                                                              obtain ⟨M, L9⟩ := u
                                                              obtain ⟨hrr, hI⟩ := h
                                                              have hP : va_P G vwCl (pW q cs N D X PM PL ++ (rW q j cs i0 i1 ++ mdW a cs M L9)) H := by
                                                                have h2 := va_P.cm hP
                                                                rw [List.append_assoc] at h2
                                                                exact h2
                                                              have hD : va_D (fun z : Nat => s.heap.size ≤ z) (pW q cs N D X PM PL ++ (rW q j cs i0 i1 ++ mdW a cs M L9)) := by
                                                                have h2 := va_D.cm hD
                                                                rw [List.append_assoc] at h2
                                                                exact h2
                                                              refine lv_icmp_eq (tgt := 1339) hx hb dL_law_1171 (by decide) (fun _ => ?_) (fun ct => absurd hrr ct)
                                                              exact hEnd hk8 N D X PM PL i0 i1 M L9 hI j H locs hP hD hS ls hl
                                                            · by_cases c28 : w = 28
                                                              · refine lv_tableIn (tgt := 1176) (off := 1143) hx hb dL_law_33 (by rw [c28]; decide) (by rw [c28]; decide) (by rw [c28]; decide) (by decide) ?_
                                                                have h := s28 N D X PM PL i0 i1 M L9 (xs (nI (8 * k) + 1).toNatClampNeg) (xs (nI (8 * k) + 2).toNatClampNeg) hI
                                                                refine lv_aload_n hx hb dL_law_1176 rfl (lv_at hl 1 rfl) ?_
                                                                refine lv_aload_n hx hb dL_law_1177 rfl (lv_at hl 0 rfl) ?_
                                                                refine lv_iload_n hx hb dL_law_1178 rfl (lv_at hl 3 rfl) ?_
                                                                refine lv_iconst (v := 1) hx hb dL_law_1179 (by decide) ?_
                                                                refine lv_iadd hx hb dL_law_1180 ?_
                                                                refine va_sld hx hb hX hbl hbA hS v1 dL_law_1181 ?_
                                                                refine lv_aload_n hx hb dL_law_1182 rfl (lv_at hl 0 rfl) ?_
                                                                refine lv_iload_n hx hb dL_law_1183 rfl (lv_at hl 3 rfl) ?_
                                                                refine lv_iconst (v := 2) hx hb dL_law_1184 (by decide) ?_
                                                                refine lv_iadd hx hb dL_law_1185 ?_
                                                                refine va_sld hx hb hX hbl hbA hS v2 dL_law_1186 ?_
                                                                refine lw_i (rn_V (rest := []) (ci := 2) (wc := pW q cs N D X PM PL) hx hb hml hown hT hl.1 hC hS hP.lf hD.lf 0 rfl rfl rfl ck_L_132 (c_X4_sheets l G cs ts q H.size N D X PM PL (xs (nI (8 * k) + 1).toNatClampNeg) (xs (nI (8 * k) + 2).toNatClampNeg) _ h) ⟨rfl, rfl, (Nat.le_of_ble_eq_true rfl), (Nat.le_of_ble_eq_true rfl)⟩ ⟨by show _ ≤ 600000; omega, by show _ ≤ 7302250; omega⟩ rfl rfl (Nat.le_of_ble_eq_true rfl) dL_law_1187) hP hD hS hA (fun r u H locs hP hD hS h => ?_)
                                                                obtain ⟨N, D, X, PM, PL⟩ := u
                                                                have hP : va_P G vwCl (pW q cs N D X PM PL ++ (rW q j cs i0 i1 ++ mdW a cs M L9)) H := hP
                                                                have hD : va_D (fun z : Nat => s.heap.size ≤ z) (pW q cs N D X PM PL ++ (rW q j cs i0 i1 ++ mdW a cs M L9)) := hD
                                                                refine W.widen (k := 36 + 8 * k + 8) (n := 4196 + 621 * k + 621) (by omega) (by omega) ?_
                                                                have hP := va_P.cm ((List.append_assoc _ _ _).symm ▸ hP)
                                                                have hD := va_D.cm ((List.append_assoc _ _ _).symm ▸ hD)
                                                                refine lv_aload_n hx hb dL_law_1190 rfl (lv_at hl 2 rfl) ?_
                                                                refine lv_aload_n hx hb dL_law_1191 rfl (lv_at hl 0 rfl) ?_
                                                                refine lv_iload_n hx hb dL_law_1192 rfl (lv_at hl 3 rfl) ?_
                                                                refine lv_iconst (v := 1) hx hb dL_law_1193 (by decide) ?_
                                                                refine lv_iadd hx hb dL_law_1194 ?_
                                                                refine va_sld hx hb hX hbl hbA hS v1 dL_law_1195 ?_
                                                                refine lv_aload_n hx hb dL_law_1196 rfl (lv_at hl 0 rfl) ?_
                                                                refine lv_iload_n hx hb dL_law_1197 rfl (lv_at hl 3 rfl) ?_
                                                                refine lv_iconst (v := 2) hx hb dL_law_1198 (by decide) ?_
                                                                refine lv_iadd hx hb dL_law_1199 ?_
                                                                refine va_sld hx hb hX hbl hbA hS v2 dL_law_1200 ?_
                                                                refine lw_i (rn_V (rest := [.int r]) (ci := 3) (wc := mdW a cs M L9) hx hb hml hown hT hl.1 hC hS hP.lf hD.lf 0 rfl rfl rfl ck_L_135 (c_X5_sheets l G cs ts a H.size M L9 (xs (nI (8 * k) + 1).toNatClampNeg) (xs (nI (8 * k) + 2).toNatClampNeg) _ h) ⟨rfl, rfl, (Nat.le_of_ble_eq_true rfl), (Nat.le_of_ble_eq_true rfl)⟩ ⟨by show _ ≤ 600000; omega, by show _ ≤ 7302250; omega⟩ rfl rfl (Nat.le_of_ble_eq_true rfl) dL_law_1201) hP hD hS hA (fun r2 u H locs hP hD hS h => ?_)
                                                                obtain ⟨M, L9⟩ := u
                                                                obtain ⟨hrr, hI⟩ := h
                                                                have hP : va_P G vwCl (pW q cs N D X PM PL ++ (rW q j cs i0 i1 ++ mdW a cs M L9)) H := by
                                                                  have h2 := va_P.cm hP
                                                                  rw [List.append_assoc] at h2
                                                                  exact h2
                                                                have hD : va_D (fun z : Nat => s.heap.size ≤ z) (pW q cs N D X PM PL ++ (rW q j cs i0 i1 ++ mdW a cs M L9)) := by
                                                                  have h2 := va_D.cm hD
                                                                  rw [List.append_assoc] at h2
                                                                  exact h2
                                                                refine lv_icmp_eq (tgt := 1339) hx hb dL_law_1204 (by decide) (fun _ => ?_) (fun ct => absurd hrr ct)
                                                                exact hEnd hk8 N D X PM PL i0 i1 M L9 hI j H locs hP hD hS ls hl
                                                              · by_cases c29 : w = 29
                                                                · refine lv_tableIn (tgt := 1209) (off := 1176) hx hb dL_law_33 (by rw [c29]; decide) (by rw [c29]; decide) (by rw [c29]; decide) (by decide) ?_
                                                                  have h := s29 N D X PM PL i0 i1 M L9 (xs (nI (8 * k) + 1).toNatClampNeg) hI
                                                                  refine lv_aload_n hx hb dL_law_1209 rfl (lv_at hl 1 rfl) ?_
                                                                  refine lv_aload_n hx hb dL_law_1210 rfl (lv_at hl 0 rfl) ?_
                                                                  refine lv_iload_n hx hb dL_law_1211 rfl (lv_at hl 3 rfl) ?_
                                                                  refine lv_iconst (v := 1) hx hb dL_law_1212 (by decide) ?_
                                                                  refine lv_iadd hx hb dL_law_1213 ?_
                                                                  refine va_sld hx hb hX hbl hbA hS v1 dL_law_1214 ?_
                                                                  refine lw_l (rn_V (rest := []) (ci := 2) (wc := pW q cs N D X PM PL) hx hb hml hown hT hl.1 hC hS hP.lf hD.lf 0 rfl rfl rfl ck_L_136 (c_X4_part l G cs ts q H.size N D X PM PL (xs (nI (8 * k) + 1).toNatClampNeg) _ h) ⟨rfl, rfl, (Nat.le_of_ble_eq_true rfl), (Nat.le_of_ble_eq_true rfl)⟩ ⟨by show _ ≤ 600000; omega, by show _ ≤ 7302250; omega⟩ rfl rfl (Nat.le_of_ble_eq_true rfl) dL_law_1215) hP hD hS hA (fun r u H locs hP hD hS h => ?_)
                                                                  obtain ⟨N, D, X, PM, PL⟩ := u
                                                                  have hP : va_P G vwCl (pW q cs N D X PM PL ++ (rW q j cs i0 i1 ++ mdW a cs M L9)) H := hP
                                                                  have hD : va_D (fun z : Nat => s.heap.size ≤ z) (pW q cs N D X PM PL ++ (rW q j cs i0 i1 ++ mdW a cs M L9)) := hD
                                                                  refine W.widen (k := 36 + 8 * k + 8) (n := 4196 + 621 * k + 621) (by omega) (by omega) ?_
                                                                  have hP := va_P.cm ((List.append_assoc _ _ _).symm ▸ hP)
                                                                  have hD := va_D.cm ((List.append_assoc _ _ _).symm ▸ hD)
                                                                  refine lv_aload_n hx hb dL_law_1218 rfl (lv_at hl 2 rfl) ?_
                                                                  refine lv_aload_n hx hb dL_law_1219 rfl (lv_at hl 0 rfl) ?_
                                                                  refine lv_iload_n hx hb dL_law_1220 rfl (lv_at hl 3 rfl) ?_
                                                                  refine lv_iconst (v := 1) hx hb dL_law_1221 (by decide) ?_
                                                                  refine lv_iadd hx hb dL_law_1222 ?_
                                                                  refine va_sld hx hb hX hbl hbA hS v1 dL_law_1223 ?_
                                                                  refine lw_l (rn_V (rest := [.long r]) (ci := 3) (wc := mdW a cs M L9) hx hb hml hown hT hl.1 hC hS hP.lf hD.lf 0 rfl rfl rfl ck_L_140 (c_X5_part l G cs ts a H.size M L9 (xs (nI (8 * k) + 1).toNatClampNeg) _ h) ⟨rfl, rfl, (Nat.le_of_ble_eq_true rfl), (Nat.le_of_ble_eq_true rfl)⟩ ⟨by show _ ≤ 600000; omega, by show _ ≤ 7302250; omega⟩ rfl rfl (Nat.le_of_ble_eq_true rfl) dL_law_1224) hP hD hS hA (fun r2 u H locs hP hD hS h => ?_)
                                                                  obtain ⟨M, L9⟩ := u
                                                                  obtain ⟨hrr, hI⟩ := h
                                                                  have hP : va_P G vwCl (pW q cs N D X PM PL ++ (rW q j cs i0 i1 ++ mdW a cs M L9)) H := by
                                                                    have h2 := va_P.cm hP
                                                                    rw [List.append_assoc] at h2
                                                                    exact h2
                                                                  have hD : va_D (fun z : Nat => s.heap.size ≤ z) (pW q cs N D X PM PL ++ (rW q j cs i0 i1 ++ mdW a cs M L9)) := by
                                                                    have h2 := va_D.cm hD
                                                                    rw [List.append_assoc] at h2
                                                                    exact h2
                                                                  refine W.lcmp hx hb dL_law_1227 ?_
                                                                  refine lv_if_eq (tgt := 1339) hx hb dL_law_1228 (by decide) (fun _ => ?_) (fun ct => absurd (by rw [hrr]; exact lg_self _) ct)
                                                                  exact hEnd hk8 N D X PM PL i0 i1 M L9 hI j H locs hP hD hS ls hl
                                                                · by_cases c30 : w = 30
                                                                  · refine lv_tableIn (tgt := 1233) (off := 1200) hx hb dL_law_33 (by rw [c30]; decide) (by rw [c30]; decide) (by rw [c30]; decide) (by decide) ?_
                                                                    have h := s30 N D X PM PL i0 i1 M L9 (xs (nI (8 * k) + 1).toNatClampNeg) hI
                                                                    refine lv_aload_n hx hb dL_law_1233 rfl (lv_at hl 1 rfl) ?_
                                                                    refine lv_aload_n hx hb dL_law_1234 rfl (lv_at hl 0 rfl) ?_
                                                                    refine lv_iload_n hx hb dL_law_1235 rfl (lv_at hl 3 rfl) ?_
                                                                    refine lv_iconst (v := 1) hx hb dL_law_1236 (by decide) ?_
                                                                    refine lv_iadd hx hb dL_law_1237 ?_
                                                                    refine va_sld hx hb hX hbl hbA hS v1 dL_law_1238 ?_
                                                                    refine lw_i (wr := mdW a cs M L9) (rn_V (rest := []) (ci := 2) (wc := aW q j cs N D X PM PL i0 i1) hx hb hml hown hT hl.1 hC hS (va_P.lf (w2 := mdW a cs M L9) hP) (va_D.lf (w2 := mdW a cs M L9) hD) 0 rfl rfl rfl ck_L_141 (c_X4_image l G cs ts q j H.size N D X PM PL i0 i1 (xs (nI (8 * k) + 1).toNatClampNeg) _ h) ⟨rfl, rfl, (Nat.le_of_ble_eq_true rfl), (Nat.le_of_ble_eq_true rfl)⟩ ⟨by show _ ≤ 600000; omega, by show _ ≤ 7302250; omega⟩ rfl rfl (Nat.le_of_ble_eq_true rfl) dL_law_1239) hP hD hS hA (fun r u H locs hP hD hS h => ?_)
                                                                    obtain ⟨j, N, D, X, PM, PL, i0, i1⟩ := u
                                                                    have hP : va_P G vwCl (pW q cs N D X PM PL ++ (rW q j cs i0 i1 ++ mdW a cs M L9)) H := hP
                                                                    have hD : va_D (fun z : Nat => s.heap.size ≤ z) (pW q cs N D X PM PL ++ (rW q j cs i0 i1 ++ mdW a cs M L9)) := hD
                                                                    refine W.widen (k := 36 + 8 * k + 8) (n := 4196 + 621 * k + 621) (by omega) (by omega) ?_
                                                                    have hP := va_P.cm ((List.append_assoc _ _ _).symm ▸ hP)
                                                                    have hD := va_D.cm ((List.append_assoc _ _ _).symm ▸ hD)
                                                                    refine lv_aload_n hx hb dL_law_1242 rfl (lv_at hl 2 rfl) ?_
                                                                    refine lv_aload_n hx hb dL_law_1243 rfl (lv_at hl 0 rfl) ?_
                                                                    refine lv_iload_n hx hb dL_law_1244 rfl (lv_at hl 3 rfl) ?_
                                                                    refine lv_iconst (v := 1) hx hb dL_law_1245 (by decide) ?_
                                                                    refine lv_iadd hx hb dL_law_1246 ?_
                                                                    refine va_sld hx hb hX hbl hbA hS v1 dL_law_1247 ?_
                                                                    refine lw_i (rn_V (rest := [.int r]) (ci := 3) (wc := mdW a cs M L9) hx hb hml hown hT hl.1 hC hS hP.lf hD.lf 0 rfl rfl rfl ck_L_144 (c_X5_image l G cs ts a H.size M L9 (xs (nI (8 * k) + 1).toNatClampNeg) _ h) ⟨rfl, rfl, (Nat.le_of_ble_eq_true rfl), (Nat.le_of_ble_eq_true rfl)⟩ ⟨by show _ ≤ 600000; omega, by show _ ≤ 7302250; omega⟩ rfl rfl (Nat.le_of_ble_eq_true rfl) dL_law_1248) hP hD hS hA (fun r2 u H locs hP hD hS h => ?_)
                                                                    obtain ⟨M, L9⟩ := u
                                                                    obtain ⟨hrr, hI⟩ := h
                                                                    have hP : va_P G vwCl (pW q cs N D X PM PL ++ (rW q j cs i0 i1 ++ mdW a cs M L9)) H := by
                                                                      have h2 := va_P.cm hP
                                                                      rw [List.append_assoc] at h2
                                                                      exact h2
                                                                    have hD : va_D (fun z : Nat => s.heap.size ≤ z) (pW q cs N D X PM PL ++ (rW q j cs i0 i1 ++ mdW a cs M L9)) := by
                                                                      have h2 := va_D.cm hD
                                                                      rw [List.append_assoc] at h2
                                                                      exact h2
                                                                    refine lv_icmp_eq (tgt := 1339) hx hb dL_law_1251 (by decide) (fun _ => ?_) (fun ct => absurd hrr ct)
                                                                    exact hEnd hk8 N D X PM PL i0 i1 M L9 hI j H locs hP hD hS ls hl
                                                                  · by_cases c31 : w = 31
                                                                    · refine lv_tableIn (tgt := 1256) (off := 1223) hx hb dL_law_33 (by rw [c31]; decide) (by rw [c31]; decide) (by rw [c31]; decide) (by decide) ?_
                                                                      have h := s31 N D X PM PL i0 i1 M L9 (xs (nI (8 * k) + 1).toNatClampNeg) hI
                                                                      refine lv_aload_n hx hb dL_law_1256 rfl (lv_at hl 1 rfl) ?_
                                                                      refine lv_aload_n hx hb dL_law_1257 rfl (lv_at hl 0 rfl) ?_
                                                                      refine lv_iload_n hx hb dL_law_1258 rfl (lv_at hl 3 rfl) ?_
                                                                      refine lv_iconst (v := 1) hx hb dL_law_1259 (by decide) ?_
                                                                      refine lv_iadd hx hb dL_law_1260 ?_
                                                                      refine va_sld hx hb hX hbl hbA hS v1 dL_law_1261 ?_
                                                                      refine lw_i (wr := mdW a cs M L9) (rn_V (rest := []) (ci := 2) (wc := aW q j cs N D X PM PL i0 i1) hx hb hml hown hT hl.1 hC hS (va_P.lf (w2 := mdW a cs M L9) hP) (va_D.lf (w2 := mdW a cs M L9) hD) 0 rfl rfl rfl ck_L_145 (c_X4_from l G cs ts q j H.size N D X PM PL i0 i1 (xs (nI (8 * k) + 1).toNatClampNeg) _ h) ⟨rfl, rfl, (Nat.le_of_ble_eq_true rfl), (Nat.le_of_ble_eq_true rfl)⟩ ⟨by show _ ≤ 600000; omega, by show _ ≤ 7302250; omega⟩ rfl rfl (Nat.le_of_ble_eq_true rfl) dL_law_1262) hP hD hS hA (fun r u H locs hP hD hS h => ?_)
                                                                      obtain ⟨j, N, D, X, PM, PL, i0, i1⟩ := u
                                                                      have hP : va_P G vwCl (pW q cs N D X PM PL ++ (rW q j cs i0 i1 ++ mdW a cs M L9)) H := hP
                                                                      have hD : va_D (fun z : Nat => s.heap.size ≤ z) (pW q cs N D X PM PL ++ (rW q j cs i0 i1 ++ mdW a cs M L9)) := hD
                                                                      refine W.widen (k := 36 + 8 * k + 8) (n := 4196 + 621 * k + 621) (by omega) (by omega) ?_
                                                                      have hP := va_P.cm ((List.append_assoc _ _ _).symm ▸ hP)
                                                                      have hD := va_D.cm ((List.append_assoc _ _ _).symm ▸ hD)
                                                                      refine lv_aload_n hx hb dL_law_1265 rfl (lv_at hl 2 rfl) ?_
                                                                      refine lv_aload_n hx hb dL_law_1266 rfl (lv_at hl 0 rfl) ?_
                                                                      refine lv_iload_n hx hb dL_law_1267 rfl (lv_at hl 3 rfl) ?_
                                                                      refine lv_iconst (v := 1) hx hb dL_law_1268 (by decide) ?_
                                                                      refine lv_iadd hx hb dL_law_1269 ?_
                                                                      refine va_sld hx hb hX hbl hbA hS v1 dL_law_1270 ?_
                                                                      refine lw_i (rn_V (rest := [.int r]) (ci := 3) (wc := mdW a cs M L9) hx hb hml hown hT hl.1 hC hS hP.lf hD.lf 0 rfl rfl rfl ck_L_148 (c_X5_from l G cs ts a H.size M L9 (xs (nI (8 * k) + 1).toNatClampNeg) _ h) ⟨rfl, rfl, (Nat.le_of_ble_eq_true rfl), (Nat.le_of_ble_eq_true rfl)⟩ ⟨by show _ ≤ 600000; omega, by show _ ≤ 7302250; omega⟩ rfl rfl (Nat.le_of_ble_eq_true rfl) dL_law_1271) hP hD hS hA (fun r2 u H locs hP hD hS h => ?_)
                                                                      obtain ⟨M, L9⟩ := u
                                                                      obtain ⟨hrr, hI⟩ := h
                                                                      have hP : va_P G vwCl (pW q cs N D X PM PL ++ (rW q j cs i0 i1 ++ mdW a cs M L9)) H := by
                                                                        have h2 := va_P.cm hP
                                                                        rw [List.append_assoc] at h2
                                                                        exact h2
                                                                      have hD : va_D (fun z : Nat => s.heap.size ≤ z) (pW q cs N D X PM PL ++ (rW q j cs i0 i1 ++ mdW a cs M L9)) := by
                                                                        have h2 := va_D.cm hD
                                                                        rw [List.append_assoc] at h2
                                                                        exact h2
                                                                      refine lv_icmp_eq (tgt := 1339) hx hb dL_law_1274 (by decide) (fun _ => ?_) (fun ct => absurd hrr ct)
                                                                      exact hEnd hk8 N D X PM PL i0 i1 M L9 hI j H locs hP hD hS ls hl
                                                                    · by_cases c32 : w = 32
                                                                      · refine lv_tableIn (tgt := 1279) (off := 1246) hx hb dL_law_33 (by rw [c32]; decide) (by rw [c32]; decide) (by rw [c32]; decide) (by decide) ?_
                                                                        have h := s32 N D X PM PL i0 i1 M L9 (xs (nI (8 * k) + 1).toNatClampNeg) hI
                                                                        refine lv_aload_n hx hb dL_law_1279 rfl (lv_at hl 1 rfl) ?_
                                                                        refine lv_aload_n hx hb dL_law_1280 rfl (lv_at hl 0 rfl) ?_
                                                                        refine lv_iload_n hx hb dL_law_1281 rfl (lv_at hl 3 rfl) ?_
                                                                        refine lv_iconst (v := 1) hx hb dL_law_1282 (by decide) ?_
                                                                        refine lv_iadd hx hb dL_law_1283 ?_
                                                                        refine va_sld hx hb hX hbl hbA hS v1 dL_law_1284 ?_
                                                                        refine lw_i (rn_V (rest := []) (ci := 2) (wc := pW q cs N D X PM PL) hx hb hml hown hT hl.1 hC hS hP.lf hD.lf 0 rfl rfl rfl ck_L_149 (c_X4_status l G cs ts q H.size N D X PM PL (xs (nI (8 * k) + 1).toNatClampNeg) _ h) ⟨rfl, rfl, (Nat.le_of_ble_eq_true rfl), (Nat.le_of_ble_eq_true rfl)⟩ ⟨by show _ ≤ 600000; omega, by show _ ≤ 7302250; omega⟩ rfl rfl (Nat.le_of_ble_eq_true rfl) dL_law_1285) hP hD hS hA (fun r u H locs hP hD hS h => ?_)
                                                                        obtain ⟨N, D, X, PM, PL⟩ := u
                                                                        have hP : va_P G vwCl (pW q cs N D X PM PL ++ (rW q j cs i0 i1 ++ mdW a cs M L9)) H := hP
                                                                        have hD : va_D (fun z : Nat => s.heap.size ≤ z) (pW q cs N D X PM PL ++ (rW q j cs i0 i1 ++ mdW a cs M L9)) := hD
                                                                        refine W.widen (k := 36 + 8 * k + 8) (n := 4196 + 621 * k + 621) (by omega) (by omega) ?_
                                                                        have hP := va_P.cm ((List.append_assoc _ _ _).symm ▸ hP)
                                                                        have hD := va_D.cm ((List.append_assoc _ _ _).symm ▸ hD)
                                                                        refine lv_aload_n hx hb dL_law_1288 rfl (lv_at hl 2 rfl) ?_
                                                                        refine lv_aload_n hx hb dL_law_1289 rfl (lv_at hl 0 rfl) ?_
                                                                        refine lv_iload_n hx hb dL_law_1290 rfl (lv_at hl 3 rfl) ?_
                                                                        refine lv_iconst (v := 1) hx hb dL_law_1291 (by decide) ?_
                                                                        refine lv_iadd hx hb dL_law_1292 ?_
                                                                        refine va_sld hx hb hX hbl hbA hS v1 dL_law_1293 ?_
                                                                        refine lw_i (rn_V (rest := [.int r]) (ci := 3) (wc := mdW a cs M L9) hx hb hml hown hT hl.1 hC hS hP.lf hD.lf 0 rfl rfl rfl ck_L_152 (c_X5_status l G cs ts a H.size M L9 (xs (nI (8 * k) + 1).toNatClampNeg) _ h) ⟨rfl, rfl, (Nat.le_of_ble_eq_true rfl), (Nat.le_of_ble_eq_true rfl)⟩ ⟨by show _ ≤ 600000; omega, by show _ ≤ 7302250; omega⟩ rfl rfl (Nat.le_of_ble_eq_true rfl) dL_law_1294) hP hD hS hA (fun r2 u H locs hP hD hS h => ?_)
                                                                        obtain ⟨M, L9⟩ := u
                                                                        obtain ⟨hrr, hI⟩ := h
                                                                        have hP : va_P G vwCl (pW q cs N D X PM PL ++ (rW q j cs i0 i1 ++ mdW a cs M L9)) H := by
                                                                          have h2 := va_P.cm hP
                                                                          rw [List.append_assoc] at h2
                                                                          exact h2
                                                                        have hD : va_D (fun z : Nat => s.heap.size ≤ z) (pW q cs N D X PM PL ++ (rW q j cs i0 i1 ++ mdW a cs M L9)) := by
                                                                          have h2 := va_D.cm hD
                                                                          rw [List.append_assoc] at h2
                                                                          exact h2
                                                                        refine lv_icmp_eq (tgt := 1339) hx hb dL_law_1297 (by decide) (fun _ => ?_) (fun ct => absurd hrr ct)
                                                                        exact hEnd hk8 N D X PM PL i0 i1 M L9 hI j H locs hP hD hS ls hl
                                                                      · by_cases c33 : w = 33
                                                                        · refine lv_tableIn (tgt := 1302) (off := 1269) hx hb dL_law_33 (by rw [c33]; decide) (by rw [c33]; decide) (by rw [c33]; decide) (by decide) ?_
                                                                          have h := s33 N D X PM PL i0 i1 M L9 (xs (nI (8 * k) + 1).toNatClampNeg) hI
                                                                          refine lv_aload_n hx hb dL_law_1302 rfl (lv_at hl 1 rfl) ?_
                                                                          refine lv_aload_n hx hb dL_law_1303 rfl (lv_at hl 0 rfl) ?_
                                                                          refine lv_iload_n hx hb dL_law_1304 rfl (lv_at hl 3 rfl) ?_
                                                                          refine lv_iconst (v := 1) hx hb dL_law_1305 (by decide) ?_
                                                                          refine lv_iadd hx hb dL_law_1306 ?_
                                                                          refine va_sld hx hb hX hbl hbA hS v1 dL_law_1307 ?_
                                                                          refine lw_i (rn_V (rest := []) (ci := 2) (wc := pW q cs N D X PM PL) hx hb hml hown hT hl.1 hC hS hP.lf hD.lf 0 rfl rfl rfl ck_L_153 (c_X4_count l G cs ts q H.size N D X PM PL (xs (nI (8 * k) + 1).toNatClampNeg) _ h) ⟨rfl, rfl, (Nat.le_of_ble_eq_true rfl), (Nat.le_of_ble_eq_true rfl)⟩ ⟨by show _ ≤ 600000; omega, by show _ ≤ 7302250; omega⟩ rfl rfl (Nat.le_of_ble_eq_true rfl) dL_law_1308) hP hD hS hA (fun r u H locs hP hD hS h => ?_)
                                                                          obtain ⟨N, D, X, PM, PL⟩ := u
                                                                          have hP : va_P G vwCl (pW q cs N D X PM PL ++ (rW q j cs i0 i1 ++ mdW a cs M L9)) H := hP
                                                                          have hD : va_D (fun z : Nat => s.heap.size ≤ z) (pW q cs N D X PM PL ++ (rW q j cs i0 i1 ++ mdW a cs M L9)) := hD
                                                                          refine W.widen (k := 36 + 8 * k + 8) (n := 4196 + 621 * k + 621) (by omega) (by omega) ?_
                                                                          have hP := va_P.cm ((List.append_assoc _ _ _).symm ▸ hP)
                                                                          have hD := va_D.cm ((List.append_assoc _ _ _).symm ▸ hD)
                                                                          refine lv_aload_n hx hb dL_law_1311 rfl (lv_at hl 2 rfl) ?_
                                                                          refine lv_aload_n hx hb dL_law_1312 rfl (lv_at hl 0 rfl) ?_
                                                                          refine lv_iload_n hx hb dL_law_1313 rfl (lv_at hl 3 rfl) ?_
                                                                          refine lv_iconst (v := 1) hx hb dL_law_1314 (by decide) ?_
                                                                          refine lv_iadd hx hb dL_law_1315 ?_
                                                                          refine va_sld hx hb hX hbl hbA hS v1 dL_law_1316 ?_
                                                                          refine lw_i (rn_V (rest := [.int r]) (ci := 3) (wc := mdW a cs M L9) hx hb hml hown hT hl.1 hC hS hP.lf hD.lf 0 rfl rfl rfl ck_L_156 (c_X5_count l G cs ts a H.size M L9 (xs (nI (8 * k) + 1).toNatClampNeg) _ h) ⟨rfl, rfl, (Nat.le_of_ble_eq_true rfl), (Nat.le_of_ble_eq_true rfl)⟩ ⟨by show _ ≤ 600000; omega, by show _ ≤ 7302250; omega⟩ rfl rfl (Nat.le_of_ble_eq_true rfl) dL_law_1317) hP hD hS hA (fun r2 u H locs hP hD hS h => ?_)
                                                                          obtain ⟨M, L9⟩ := u
                                                                          obtain ⟨hrr, hI⟩ := h
                                                                          have hP : va_P G vwCl (pW q cs N D X PM PL ++ (rW q j cs i0 i1 ++ mdW a cs M L9)) H := by
                                                                            have h2 := va_P.cm hP
                                                                            rw [List.append_assoc] at h2
                                                                            exact h2
                                                                          have hD : va_D (fun z : Nat => s.heap.size ≤ z) (pW q cs N D X PM PL ++ (rW q j cs i0 i1 ++ mdW a cs M L9)) := by
                                                                            have h2 := va_D.cm hD
                                                                            rw [List.append_assoc] at h2
                                                                            exact h2
                                                                          refine lv_icmp_eq (tgt := 1339) hx hb dL_law_1320 (by decide) (fun _ => ?_) (fun ct => absurd hrr ct)
                                                                          exact hEnd hk8 N D X PM PL i0 i1 M L9 hI j H locs hP hD hS ls hl
                                                                        · by_cases c34 : w = 34
                                                                          · refine lv_tableIn (tgt := 1325) (off := 1292) hx hb dL_law_33 (by rw [c34]; decide) (by rw [c34]; decide) (by rw [c34]; decide) (by decide) ?_
                                                                            have h := s34 N D X PM PL i0 i1 M L9  hI
                                                                            refine lv_aload_n hx hb dL_law_1325 rfl (lv_at hl 1 rfl) ?_
                                                                            refine lw_l (rn_V (rest := []) (ci := 2) (wc := pW q cs N D X PM PL) hx hb hml hown hT hl.1 hC hS hP.lf hD.lf 0 rfl rfl rfl ck_L_157 (c_X4_digest l G cs ts q H.size N D X PM PL  _ h) ⟨rfl, rfl, (Nat.le_of_ble_eq_true rfl), (Nat.le_of_ble_eq_true rfl)⟩ ⟨by show _ ≤ 600000; omega, by show _ ≤ 7302250; omega⟩ rfl rfl (Nat.le_of_ble_eq_true rfl) dL_law_1326) hP hD hS hA (fun r u H locs hP hD hS h => ?_)
                                                                            obtain ⟨N, D, X, PM, PL⟩ := u
                                                                            have hP : va_P G vwCl (pW q cs N D X PM PL ++ (rW q j cs i0 i1 ++ mdW a cs M L9)) H := hP
                                                                            have hD : va_D (fun z : Nat => s.heap.size ≤ z) (pW q cs N D X PM PL ++ (rW q j cs i0 i1 ++ mdW a cs M L9)) := hD
                                                                            refine W.widen (k := 36 + 8 * k + 8) (n := 4196 + 621 * k + 621) (by omega) (by omega) ?_
                                                                            have hP := va_P.cm ((List.append_assoc _ _ _).symm ▸ hP)
                                                                            have hD := va_D.cm ((List.append_assoc _ _ _).symm ▸ hD)
                                                                            refine lv_aload_n hx hb dL_law_1329 rfl (lv_at hl 2 rfl) ?_
                                                                            refine lw_l (rn_V (rest := [.long r]) (ci := 3) (wc := mdW a cs M L9) hx hb hml hown hT hl.1 hC hS hP.lf hD.lf 0 rfl rfl rfl ck_L_161 (c_X5_digest l G cs ts a H.size M L9  _ h) ⟨rfl, rfl, (Nat.le_of_ble_eq_true rfl), (Nat.le_of_ble_eq_true rfl)⟩ ⟨by show _ ≤ 600000; omega, by show _ ≤ 7302250; omega⟩ rfl rfl (Nat.le_of_ble_eq_true rfl) dL_law_1330) hP hD hS hA (fun r2 u H locs hP hD hS h => ?_)
                                                                            obtain ⟨M, L9⟩ := u
                                                                            obtain ⟨hrr, hI⟩ := h
                                                                            have hP : va_P G vwCl (pW q cs N D X PM PL ++ (rW q j cs i0 i1 ++ mdW a cs M L9)) H := by
                                                                              have h2 := va_P.cm hP
                                                                              rw [List.append_assoc] at h2
                                                                              exact h2
                                                                            have hD : va_D (fun z : Nat => s.heap.size ≤ z) (pW q cs N D X PM PL ++ (rW q j cs i0 i1 ++ mdW a cs M L9)) := by
                                                                              have h2 := va_D.cm hD
                                                                              rw [List.append_assoc] at h2
                                                                              exact h2
                                                                            refine W.lcmp hx hb dL_law_1333 ?_
                                                                            refine lv_if_eq (tgt := 1339) hx hb dL_law_1334 (by decide) (fun _ => ?_) (fun ct => absurd (by rw [hrr]; exact lg_self _) ct)
                                                                            exact hEnd hk8 N D X PM PL i0 i1 M L9 hI j H locs hP hD hS ls hl
                                                                          · have cn0 := lv_neT c0 (a := 0) (by decide)
                                                                            have cn1 := lv_neT c1 (a := 1) (by decide)
                                                                            have cn2 := lv_neT c2 (a := 2) (by decide)
                                                                            have cn3 := lv_neT c3 (a := 3) (by decide)
                                                                            have cn4 := lv_neT c4 (a := 4) (by decide)
                                                                            have cn5 := lv_neT c5 (a := 5) (by decide)
                                                                            have cn6 := lv_neT c6 (a := 6) (by decide)
                                                                            have cn7 := lv_neT c7 (a := 7) (by decide)
                                                                            have cn8 := lv_neT c8 (a := 8) (by decide)
                                                                            have cn9 := lv_neT c9 (a := 9) (by decide)
                                                                            have cn10 := lv_neT c10 (a := 10) (by decide)
                                                                            have cn11 := lv_neT c11 (a := 11) (by decide)
                                                                            have cn12 := lv_neT c12 (a := 12) (by decide)
                                                                            have cn13 := lv_neT c13 (a := 13) (by decide)
                                                                            have cn14 := lv_neT c14 (a := 14) (by decide)
                                                                            have cn15 := lv_neT c15 (a := 15) (by decide)
                                                                            have cn16 := lv_neT c16 (a := 16) (by decide)
                                                                            have cn17 := lv_neT c17 (a := 17) (by decide)
                                                                            have cn18 := lv_neT c18 (a := 18) (by decide)
                                                                            have cn19 := lv_neT c19 (a := 19) (by decide)
                                                                            have cn20 := lv_neT c20 (a := 20) (by decide)
                                                                            have cn21 := lv_neT c21 (a := 21) (by decide)
                                                                            have cn22 := lv_neT c22 (a := 22) (by decide)
                                                                            have cn23 := lv_neT c23 (a := 23) (by decide)
                                                                            have cn24 := lv_neT c24 (a := 24) (by decide)
                                                                            have cn25 := lv_neT c25 (a := 25) (by decide)
                                                                            have cn26 := lv_neT c26 (a := 26) (by decide)
                                                                            have cn27 := lv_neT c27 (a := 27) (by decide)
                                                                            have cn28 := lv_neT c28 (a := 28) (by decide)
                                                                            have cn29 := lv_neT c29 (a := 29) (by decide)
                                                                            have cn30 := lv_neT c30 (a := 30) (by decide)
                                                                            have cn31 := lv_neT c31 (a := 31) (by decide)
                                                                            have cn32 := lv_neT c32 (a := 32) (by decide)
                                                                            have cn33 := lv_neT c33 (a := 33) (by decide)
                                                                            have cn34 := lv_neT c34 (a := 34) (by decide)
                                                                            refine lv_tableOut (tgt := 1339) hx hb dL_law_33 (by omega) (by decide) ?_
                                                                            refine W.widen (k := 36 + 8 * k + 8) (n := 4196 + 621 * k + 621) (by omega) (by omega) ?_
                                                                            exact hEnd hk8 N D X PM PL i0 i1 M L9 hI j H locs hP hD hS ls hl
