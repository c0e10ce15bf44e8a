/-! the layer: one table of words for every method; contracts by their weakest start -/
def okw (w : Cond) : Bool := goodWord w || (match w with
  | .methodLinkNest _ _ _ _ => true
  | .fieldLinkNest _ _ _ _ _ _ => true
  | .arrayOver (.object _) => true
  | _ => false)
def TBok (U : State) : Prop := ∀ w ∈ lw_tbl, okw w = true → w.before #[] U = true
theorem tb_word {w : Cond} {s U : State} {a' : Array Value} (hk : okw w = true) (hW : s.WarmedH U.vm) (h : w.before #[] s = true) : w.before a' U = true := by
  by_cases hg : goodWord w = true
  · exact word_at hW (good_of_word hg) h
  · cases w with
    | methodLinkNest a i x h2 => exact va_Nw.use rfl (va_Nw.warmM hW h)
    | fieldLinkNest a i b n d h2 => exact va_Nw.use rfl (va_Nw.warmF hW h)
    | arrayOver t =>
      cases t with
      | object C => exact va_AO.use (va_AO.moved hW.alike (va_AO.of h))
      | _ => exact absurd (by simpa [okw] using hk) hg
    | _ => exact absurd (by simpa [okw] using hk) hg
theorem TBok.warm {s U : State} (h : TBok s) (hW : s.WarmedH U.vm) : TBok U := fun w hm hk => tb_word hk hW (h w hm hk)
theorem TBok.use {s : State} (h : TBok s) {w : Cond} (hm : w ∈ lw_tbl) (hk : okw w = true) {a : Array Value} : w.before a s = true := tb_word hk (State.WarmedH.refl s) (h w hm hk)
theorem TBok.calling {U : State} (h : TBok U) (g : JFrame) (mk : MethodId) (a : Array Value) : TBok (U.calling g mk a) := h.warm (U := U.calling g mk a) (State.WarmedH.refl U)
/-- a word of the table, by its place -/
theorem tb_m {w : Cond} (i : Nat) (h : lw_tbl[i]? = some w) : w ∈ lw_tbl := List.mem_of_getElem? h
/-- how often -/
def itF {α : Sort _} (F : α → α) (b : α) : Nat → α
  | 0 => b
  | n + 1 => F (itF F b n)
abbrev ZI : Type := Nat → Nat → Int32
abbrev ZL : Type := Nat → Nat → Int64
def mu (M : ZI) (k j : Nat) (v : Int32) : ZI := fun a => if a = k then upd (M k) j v else M a
def mf (M : ZI) (k : Nat) (f : Nat → Int32) : ZI := fun a => if a = k then f else M a
def ml (L : ZL) (k j : Nat) (v : Int64) : ZL := fun a => if a = k then vp_updL (L k) j v else L a
abbrev jrem (x y : Int32) : Int32 := x - x / y * y
abbrev jlrem (x y : Int64) : Int64 := x - x / y * y
abbrev jushr (x y : Int32) : Int32 := (x.toUInt32 >>> (y.toUInt32 &&& Int32.toUInt32 31)).toInt32
abbrev jlushr (x : Int64) (y : Int32) : Int64 := (x.toUInt64 >>> (y.toInt64.toUInt64 &&& Int64.toUInt64 63)).toInt64
abbrev jlshl (x : Int64) (y : Int32) : Int64 := x <<< (y.toInt64 &&& 63)
abbrev tyl (cs : Nat → ClassId) : List (ClassId × FieldType) := [(cs 0, .int), (cs 1, .byte), (cs 2, .long), (cs 3, .boolean), (cs 4, .object "PotatoPrints$Table")]
def lim (k : Nat) : List Int32 := match k with
  | 0 => [12]
  | 1 => [1, 15, 15, 15, 15]
  | _ => [5, 1, 7, 7, 3]
abbrev slens : List Nat := [5, 6, 5]
abbrev sbys : List (List Int32) := [[116, 97, 98, 108, 101], [112, 111, 116, 97, 116, 111], [112, 114, 105, 110, 116]]
/-- what never changes: static fields, static arrays, String constants -/
def SX (ts : Nat → Nat) (A : Nat → Prop) (U : State) (H : Heap) : Prop :=
  va_Z "java/lang/String" "COMPACT_STRINGS" "Z" (.int 1) A U H ∧ va_Zq "jdk/internal/util/Preconditions" "SIOOBE_FORMATTER" "Ljava/util/function/BiFunction;" A U H ∧ va_Z "PotatoPrints$Text" "TABLE_LIMITS" "[I" (.ref (ts 0)) A U H ∧ va_Z "PotatoPrints$Text" "POTATO_LIMITS" "[I" (.ref (ts 1)) A U H ∧ va_Z "PotatoPrints$Text" "PRINT_LIMITS" "[I" (.ref (ts 2)) A U H ∧ (∀ k : Nat, k < 3 → va_T .int (ts k) (lim k).length (fun j => .int ((lim k).getD j 0)) A U H) ∧ vk_R "PotatoPrints$Text" 82 "table" (ts 3) U ∧ vk_R "PotatoPrints$Text" 88 "potato" (ts 4) U ∧ vk_R "PotatoPrints$Text" 90 "print" (ts 5) U ∧ vk_S 3 slens sbys (fun i => ts (3 + i)) (fun i => ts (6 + i)) A U H
theorem SX.go {ts : Nat → Nat} {A B : Nat → Prop} {s U : State} {H : Heap} {locs : List Loc} (h : SX ts A s s.heap) (hS : va_S A s.heap H locs) (hW : s.WarmedH U.vm) (hU : U.heap = H) (hB : ∀ q, B q → A q) : SX ts B U U.heap := by
  subst hU
  obtain ⟨z1, z2, z3, z4, z5, t, r1, r2, r3, k⟩ := h
  have hq : ∀ a : Nat, a < s.heap.size → ¬ A a → U.heap[a]? = s.heap[a]? := fun a h1 h2 => hS.2.1 a h1 h2
  exact ⟨((z1.kept hq).narrow hB).moved hW.alike, ((z2.kept hq).narrow hB).moved hW.alike, ((z3.kept hq).narrow hB).moved hW.alike, ((z4.kept hq).narrow hB).moved hW.alike, ((z5.kept hq).narrow hB).moved hW.alike, fun i hi => (((t i hi).kept hq).narrow hB).moved hW.alike, r1.warm hW, r2.warm hW, r3.warm hW, ((k.kept hq).narrow hB).moved hW.alike⟩
theorem SX.calling {ts : Nat → Nat} {A : Nat → Prop} {U : State} (h : SX ts A U U.heap) (g : JFrame) (mk : MethodId) (a : Array Value) : SX ts A (U.calling g mk a) (U.calling g mk a).heap :=
  h.go (U := U.calling g mk a) (locs := []) (va_S.rf (A := A) (H0 := U.heap)) (State.WarmedH.refl U) rfl (fun _ h => h)
abbrev CX (D : va_G) (cs ts : Nat → Nat) (A : Nat → Prop) (s : State) : Prop := SX ts A s s.heap ∧ va_K D vwCl (tyl cs) s ∧ ∀ q, s.heap.size ≤ q → A q
def CP (D : va_G) (cs ts : Nat → Nat) (ws : va_W) (sz : Nat) (U : State) : Prop := U.heap.size = sz ∧ TBok U ∧ SX ts (va_A ws sz) U U.heap ∧ va_K D vwCl (tyl cs) U ∧ va_P D vwCl ws U.heap ∧ va_D (fun _ => True) ws
/-- the start of methods that only answer, and look at what never changes -/
def SP (ts : Nat → Nat) (U : State) : Prop := TBok U ∧ SX ts (fun _ => False) U U.heap
abbrev CB {S : Type} (D : va_G) (A : Nat → Prop) (w1 : S → va_W) (u : S) (t : State) : Prop := va_P D vwCl (w1 u) t.heap ∧ va_D A (w1 u)
theorem ax_S {l : Launch} {y : MethodName} {cc : ByteArray} {maxL : Nat} {ret : Option FieldType} {rm : Room} {As : List Value} {Qc : Array Value → State → Outcome → State → Prop} (hy : plainName y.cls = true) (hn : (lg_sl As).length ≤ maxL)
    (body : ∀ (p : Program) (e : Env) (s : State) (m : MethodId) (args : Array Value) (below : List Frame) (meth : Method) (c : Code), p.tables.exec = Jvm.exec → c.code = cc → meth.sig.returnType = ret → meth.locks = false → c.maxLocals = maxL → s.vm.findClass y.cls = some m.cls → TBok s → ∀ ls : Array Slot, lv_has ls maxL (lv_args 0 As) →
      W p l e rm s m args below meth c s.heap [] 0 0 (MQ below Qc args s 0 0 (fun _ => False)) (F0 m 0 ls [])) :
    Met l y [.code y cc maxL ret] rm (va_Pc As TBok) Qc 0 0 (fun _ => False) := by
  refine Met.ofW (cc := cc) (maxL := maxL) (ret := ret) hy rfl ?_
  intro p e s m args below meth c s₁ B hml hv
  obtain ⟨rfl, hT⟩ := hv
  have hl := lv_entry As (n := maxL) hn
  rw [lg_entry_eq]
  exact body p e s m _ below meth c B.exec B.bytes B.returns B.notSynchronized hml (findClass_of_methodNamed B.named) hT _ hl
theorem ax_SX {l : Launch} {y : MethodName} {cc : ByteArray} {maxL : Nat} {ret : Option FieldType} {rm : Room} {As : List Value} {ts : Nat → Nat} {Qc : Array Value → State → Outcome → State → Prop} (hy : plainName y.cls = true) (hn : (lg_sl As).length ≤ maxL)
    (body : ∀ (p : Program) (e : Env) (s : State) (m : MethodId) (args : Array Value) (below : List Frame) (meth : Method) (c : Code), p.tables.exec = Jvm.exec → c.code = cc → meth.sig.returnType = ret → meth.locks = false → c.maxLocals = maxL → s.vm.findClass y.cls = some m.cls → TBok s → SX ts (fun _ => False) s s.heap → va_S (fun _ => False) s.heap s.heap [] → ∀ ls : Array Slot, lv_has ls maxL (lv_args 0 As) →
      W p l e rm s m args below meth c s.heap [] 0 0 (MQ below Qc args s 0 0 (fun _ => False)) (F0 m 0 ls [])) :
    Met l y [.code y cc maxL ret] rm (va_Pc As (SP ts)) Qc 0 0 (fun _ => False) := by
  refine Met.ofW (cc := cc) (maxL := maxL) (ret := ret) hy rfl ?_
  intro p e s m args below meth c s₁ B hml hv
  obtain ⟨rfl, hT, hX⟩ := hv
  have hl := lv_entry As (n := maxL) hn
  rw [lg_entry_eq]
  exact body p e s m _ below meth c B.exec B.bytes B.returns B.notSynchronized hml (findClass_of_methodNamed B.named) hT hX va_S.rf _ hl
theorem ax_W {l : Launch} {y : MethodName} {cc : ByteArray} {maxL : Nat} {ret : Option FieldType} {rm : Room} {As : List Value} {D : va_G} {cs ts : Nat → Nat} {ws : va_W} {Qc : (Nat → Prop) → Array Value → State → Outcome → State → Prop} {mc ms : Nat} (hy : plainName y.cls = true) (hn : (lg_sl As).length ≤ maxL) (sz : Nat)
    (body : ∀ (p : Program) (e : Env) (s : State) (m : MethodId) (args : Array Value) (below : List Frame) (meth : Method) (c : Code) (A : Nat → Prop), p.tables.exec = Jvm.exec → c.code = cc → meth.sig.returnType = ret → meth.locks = false → c.maxLocals = maxL → s.vm.findClass y.cls = some m.cls → TBok s → CX D cs ts A s → meth.name = y.name → ∀ (H : Heap) (locs : List Loc), va_P D vwCl ws H → va_D A ws → va_S A s.heap H locs → ∀ ls : Array Slot, lv_has ls maxL (lv_args 0 As) →
      W p l e rm s m args below meth c H locs 0 0 (MQ below (Qc A) args s mc ms A) (F0 m 0 ls [])) :
    Met l y [.code y cc maxL ret] rm (va_Pc As (CP D cs ts ws sz)) (Qc (va_A ws sz)) mc ms (va_A ws sz) := by
  refine Met.ofW (cc := cc) (maxL := maxL) (ret := ret) hy rfl ?_
  intro p e s m args below meth c s₁ B hml hv
  obtain ⟨rfl, hsz, hT, hX, hK, hP, hD0⟩ := hv
  subst hsz
  have hl := lv_entry As (n := maxL) hn
  rw [lg_entry_eq]
  exact body p e s m _ below meth c (va_A ws s.heap.size) B.exec B.bytes B.returns B.notSynchronized hml (findClass_of_methodNamed B.named) hT ⟨hX, hK, fun q h => Or.inr h⟩ (name_of_methodNamed B.named B.method).1 _ _ hP (hD0.self (sz := s.heap.size)) va_S.rf _ hl
section LayW
variable {p : Program} {l : Launch} {e : Env} {R : Room} {s : State} {m : MethodId} {args : Array Value} {below : List Frame} {meth : Method} {c : Code} {H : Heap} {locs : List Loc} {cells slots : Nat} {Q : State → Prop} {cc : ByteArray} {pc : Nat} {ls : Array Slot} {rest st0 : List Value}
/-- ends of methods that only answer -/
theorem rt_Si {post : Int32 → Prop} {v : Int32} (hx : p.tables.exec = Jvm.exec) (hb : c.code = cc) (hr : meth.sig.returnType = some .int) (hlk : meth.locks = false) (hdg : decode cc pc = .ok (.ireturn, 1)) (h : post v) : W p l e R s m args below meth c s.heap [] 0 0 (MQ below (vp_Si post) args s 0 0 (fun _ => False)) (F0 m pc ls [.int v]) :=
  W.iret hx hb hr (fun t ht _ => ⟨v, rfl, h, ht⟩) (fun q hq => by cases hq) hdg hlk
theorem rt_Sz {post : Int32 → Prop} {v : Int32} (hx : p.tables.exec = Jvm.exec) (hb : c.code = cc) (hr : meth.sig.returnType = some .boolean) (hlk : meth.locks = false) (hdg : decode cc pc = .ok (.ireturn, 1)) (hn : narrow .boolean (.int v) = .int v) (h : post v) : W p l e R s m args below meth c s.heap [] 0 0 (MQ below (vp_Si post) args s 0 0 (fun _ => False)) (F0 m pc ls [.int v]) :=
  W.zret hx hb hr hn (fun t ht _ => ⟨v, rfl, h, ht⟩) (fun q hq => by cases hq) hdg hlk
theorem rt_Sl {post : Int64 → Prop} {v : Int64} (hx : p.tables.exec = Jvm.exec) (hb : c.code = cc) (hr : meth.sig.returnType = some .long) (hlk : meth.locks = false) (hdg : decode cc pc = .ok (.lreturn, 1)) (h : post v) : W p l e R s m args below meth c s.heap [] 0 0 (MQ below (vp_Sl post) args s 0 0 (fun _ => False)) (F0 m pc ls [.long v]) :=
  W.lret hx hb hr (fun t ht _ => ⟨v, rfl, h, ht⟩) (fun q hq => by cases hq) hdg hlk
/-- ends of methods with a world -/
theorem rt_Wi {S : Type} {post : Int32 → S → Prop} {D : va_G} {A : Nat → Prop} {w1 : S → va_W} {v : Int32} (hx : p.tables.exec = Jvm.exec) (hb : c.code = cc) (hr : meth.sig.returnType = some .int) (hlk : meth.locks = false) (hdg : decode cc pc = .ok (.ireturn, 1)) (u : S) (hP : va_P D vwCl (w1 u) H) (hD : va_D A (w1 u)) (hS : va_S A s.heap H locs) (h : post v u) : W p l e R s m args below meth c H locs cells slots (MQ below (va_Qi post (CB D A w1) A) args s cells slots A) (F0 m pc ls [.int v]) :=
  W.iret hx hb hr (fun t ht _ => ⟨⟨v, u, rfl, h, by rw [ht]; exact hP, hD⟩, hS.F ht⟩) hS.2.2 hdg hlk
theorem rt_Wz {S : Type} {post : Int32 → S → Prop} {D : va_G} {A : Nat → Prop} {w1 : S → va_W} {v : Int32} (hx : p.tables.exec = Jvm.exec) (hb : c.code = cc) (hr : meth.sig.returnType = some .boolean) (hlk : meth.locks = false) (hdg : decode cc pc = .ok (.ireturn, 1)) (hn : narrow .boolean (.int v) = .int v) (u : S) (hP : va_P D vwCl (w1 u) H) (hD : va_D A (w1 u)) (hS : va_S A s.heap H locs) (h : post v u) : W p l e R s m args below meth c H locs cells slots (MQ below (va_Qi post (CB D A w1) A) args s cells slots A) (F0 m pc ls [.int v]) :=
  W.zret hx hb hr hn (fun t ht _ => ⟨⟨v, u, rfl, h, by rw [ht]; exact hP, hD⟩, hS.F ht⟩) hS.2.2 hdg hlk
theorem rt_Wl {S : Type} {post : Int64 → S → Prop} {D : va_G} {A : Nat → Prop} {w1 : S → va_W} {v : Int64} (hx : p.tables.exec = Jvm.exec) (hb : c.code = cc) (hr : meth.sig.returnType = some .long) (hlk : meth.locks = false) (hdg : decode cc pc = .ok (.lreturn, 1)) (u : S) (hP : va_P D vwCl (w1 u) H) (hD : va_D A (w1 u)) (hS : va_S A s.heap H locs) (h : post v u) : W p l e R s m args below meth c H locs cells slots (MQ below (va_Ql post (CB D A w1) A) args s cells slots A) (F0 m pc ls [.long v]) :=
  W.lret hx hb hr (fun t ht _ => ⟨⟨v, u, rfl, h, by rw [ht]; exact hP, hD⟩, hS.F ht⟩) hS.2.2 hdg hlk
theorem rt_Wv {S : Type} {post : S → Prop} {D : va_G} {A : Nat → Prop} {w1 : S → va_W} (hx : p.tables.exec = Jvm.exec) (hb : c.code = cc) (hr : meth.sig.returnType = none) (hlk : meth.locks = false) (hdg : decode cc pc = .ok (.return_, 1)) (u : S) (hP : va_P D vwCl (w1 u) H) (hD : va_D A (w1 u)) (hS : va_S A s.heap H locs) (h : post u) : W p l e R s m args below meth c H locs cells slots (MQ below (va_Qv post (CB D A w1) A) args s cells slots A) (F0 m pc ls []) :=
  W.vret hx hb hr (fun t ht _ => ⟨⟨u, rfl, h, by rw [ht]; exact hP, hD⟩, hS.F ht⟩) hS.2.2 hdg hlk
/-- calls of methods that only answer -/
theorem cl_Si {post : Int32 → Prop} {a : Array Value} (hr : va_Run p l e R s m args below meth c H locs cells slots 0 0 (F0 m pc ls st0) rest (vp_Si post a) (fun _ => False))
    (kk : ∀ r : Int32, post r → W p l e R s m args below meth c H locs cells slots Q (F0 m (pc + 3) ls (.int r :: rest))) : W p l e R s m args below meth c H locs cells slots Q (F0 m pc ls st0) := by
  intro T hT X
  obtain ⟨v, st₀, t, T', L, h0, X', hL, e1, e2, ⟨r, hv, hp, hh⟩, st⟩ := hr T hT X
  cases hv
  obtain ⟨t2, a1, b1⟩ := kk r hp T' (by rw [e1, hh, h0]) (Stand.forget X' (fun q h => (hL q h).elim))
  exact ⟨t2, st t2 a1, b1⟩
theorem cl_Sl {post : Int64 → Prop} {a : Array Value} (hr : va_Run p l e R s m args below meth c H locs cells slots 0 0 (F0 m pc ls st0) rest (vp_Sl post a) (fun _ => False))
    (kk : ∀ r : Int64, post r → W p l e R s m args below meth c H locs cells slots Q (F0 m (pc + 3) ls (.long r :: rest))) : W p l e R s m args below meth c H locs cells slots Q (F0 m pc ls st0) := by
  intro T hT X
  obtain ⟨v, st₀, t, T', L, h0, X', hL, e1, e2, ⟨r, hv, hp, hh⟩, st⟩ := hr T hT X
  cases hv
  obtain ⟨t2, a1, b1⟩ := kk r hp T' (by rw [e1, hh, h0]) (Stand.forget X' (fun q h => (hL q h).elim))
  exact ⟨t2, st t2 a1, b1⟩
/-- what is known of a call ahead of all runs -/
def CKS (own : String) (index : Nat) (y : MethodName) (bytes : ByteArray) (maxL : Nat) (ret : Option FieldType) (n : Nat) : Prop := Cond.methodLink own index y ∈ lw_tbl ∧ Cond.code y bytes maxL ret ∈ lw_tbl ∧ Cond.initialized y.cls ∈ lw_tbl ∧ Cond.static y ∈ lw_tbl ∧ y.cls ≠ "java/lang/invoke/MethodHandle" ∧ y.cls ≠ "java/lang/invoke/VarHandle" ∧ (parseMethodDescriptor y.desc).map (fun d => d.parameters.length) = some n
def CKSN (own : String) (index : Nat) (y : MethodName) (host : String) (bytes : ByteArray) (maxL : Nat) (ret : Option FieldType) (n : Nat) : Prop := Cond.methodLinkNest own index y host ∈ lw_tbl ∧ Cond.code y bytes maxL ret ∈ lw_tbl ∧ Cond.initialized y.cls ∈ lw_tbl ∧ Cond.static y ∈ lw_tbl ∧ y.cls ≠ "java/lang/invoke/MethodHandle" ∧ y.cls ≠ "java/lang/invoke/VarHandle" ∧ (parseMethodDescriptor y.desc).map (fun d => d.parameters.length) = some n
def CKV (own : String) (index : Nat) (y : MethodName) (bytes : ByteArray) (maxL : Nat) (ret : Option FieldType) (n : Nat) : Prop := Cond.methodLink own index y ∈ lw_tbl ∧ Cond.code y bytes maxL ret ∈ lw_tbl ∧ Cond.initialized y.cls ∈ lw_tbl ∧ Cond.instanceMethod y ∈ lw_tbl ∧ Cond.selects y.cls y y ∈ lw_tbl ∧ y.cls ≠ "java/lang/invoke/MethodHandle" ∧ y.cls ≠ "java/lang/invoke/VarHandle" ∧ (parseMethodDescriptor y.desc).map (fun d => d.parameters.length) = some n
def CKVN (own : String) (index : Nat) (y : MethodName) (host : String) (bytes : ByteArray) (maxL : Nat) (ret : Option FieldType) (n : Nat) : Prop := Cond.methodLinkNest own index y host ∈ lw_tbl ∧ Cond.code y bytes maxL ret ∈ lw_tbl ∧ Cond.initialized y.cls ∈ lw_tbl ∧ Cond.instanceMethod y ∈ lw_tbl ∧ Cond.selects y.cls y y ∈ lw_tbl ∧ y.cls ≠ "java/lang/invoke/MethodHandle" ∧ y.cls ≠ "java/lang/invoke/VarHandle" ∧ (parseMethodDescriptor y.desc).map (fun d => d.parameters.length) = some n
theorem ck_sig {y : MethodName} {n : Nat} (h2 : (parseMethodDescriptor y.desc).map (fun d => d.parameters.length) = some n) : ∀ sig, parseMethodDescriptor y.desc = some sig → n = sig.parameters.length := by
  intro sig h
  rw [h] at h2
  exact (Option.some.inj h2).symm
theorem bl_S {As : List Value} : FrameBlind (va_Pc As TBok) := fun a U g mk q => ⟨q.1, q.2.calling g mk a⟩
theorem bl_W {As : List Value} {D : va_G} {cs ts : Nat → Nat} {ws : va_W} {sz : Nat} : FrameBlind (va_Pc As (CP D cs ts ws sz)) := fun a U g mk q => ⟨q.1, q.2.1, q.2.2.1.calling g mk a, q.2.2.2.1.calling g mk a, va_K.moved (u := U) (U := U.calling g mk a) (Vm.Alike.refl U.vm) q.2.2.2.2.1, q.2.2.2.2.2⟩
theorem bl_X {As : List Value} {ts : Nat → Nat} : FrameBlind (va_Pc As (SP ts)) := fun a U g mk q => ⟨q.1, q.2.1.calling g mk a, q.2.2.calling g mk a⟩
theorem fr_of {A : Nat → Prop} {wc : va_W} {H0 H : Heap} {locs : List Loc} (hDc : va_D A wc) (hS : va_S A H0 H locs) (hA : ∀ q, H0.size ≤ q → A q) : ∀ q, va_A wc H.size q → A q := fun q h => by
  rcases h with ⟨k, e, h⟩ | h
  · exact hDc.2 k (q, e) h
  · exact hA q (Nat.le_trans hS.1 h)
variable {y : MethodName} {bytes : ByteArray} {own host : String} {index maxL nL n mc ms : Nat} {ret : Option FieldType} {rm : Room} {Qc : Array Value → State → Outcome → State → Prop} {free : Addr → Prop} {As : List Value} {D : va_G} {cs ts : Nat → Nat} {ws wc : va_W} {A : Nat → Prop} {b : Nat}
theorem rn_S (hx : p.tables.exec = Jvm.exec) (hb : c.code = cc) (hml : c.maxLocals = nL) (hown : s.vm.findClass own = some m.cls) (hT : TBok s) (hl : ls.size = nL) (K : CKS own index y bytes maxL ret n) (hM : Met l y [.code y bytes maxL ret] rm (va_Pc As TBok) Qc 0 0 free) (hr : rm.cells = 0 ∧ rm.slots = 0 ∧ rm.frames + 1 ≤ R.frames ∧ 8 + (maxL + 11) + rm.locals ≤ R.locals) (hc : cells ≤ R.cells ∧ slots ≤ R.slots) (hn : As.length = n) (hst : st0 = As.reverse ++ rest) (hW : (rest.map fun v => v.category).sum ≤ 8) (hdg : decode cc pc = .ok (.invokestatic index, 3)) : va_Run p l e R s m args below meth c H locs cells slots 0 0 (F0 m pc ls st0) rest (Qc As.toArray) free := by
  obtain ⟨k1, k2, k3, k4, k5, k6, k7⟩ := K
  refine va_runS (Ts := []) ⟨hx, hb, hml, hown, fun w h => by cases h⟩ hM ⟨⟨hr.1, hr.2.1, hr.2.2.1, hr.2.2.2, ?_, List.mem_cons_self, hT.use k2 rfl, hT.use k3 rfl, ⟨k5, k6⟩, ck_sig k7, hT.use k1 rfl⟩, hT.use k4 rfl⟩ ⟨bl_S, fun U hU hW => ⟨rfl, hT.warm hW⟩⟩ rfl hn hl hst (lv_room hW) hdg hc
  intro w hw a' U hW
  rw [List.mem_singleton] at hw
  subst hw
  exact tb_word rfl hW (hT _ k2 rfl)
/-- methods that only answer, and look at what never changes -/
theorem rn_SX (hx : p.tables.exec = Jvm.exec) (hb : c.code = cc) (hml : c.maxLocals = nL) (hown : s.vm.findClass own = some m.cls) (hT : TBok s) (hl : ls.size = nL) (hX : SX ts A s s.heap) (hS : va_S A s.heap H locs) (K : CKS own index y bytes maxL ret n) (hM : Met l y [.code y bytes maxL ret] rm (va_Pc As (SP ts)) Qc 0 0 free) (hr : rm.cells = 0 ∧ rm.slots = 0 ∧ rm.frames + 1 ≤ R.frames ∧ 8 + (maxL + 11) + rm.locals ≤ R.locals) (hc : cells ≤ R.cells ∧ slots ≤ R.slots) (hn : As.length = n) (hst : st0 = As.reverse ++ rest) (hW : (rest.map fun v => v.category).sum ≤ 8) (hdg : decode cc pc = .ok (.invokestatic index, 3)) : va_Run p l e R s m args below meth c H locs cells slots 0 0 (F0 m pc ls st0) rest (Qc As.toArray) free := by
  obtain ⟨k1, k2, k3, k4, k5, k6, k7⟩ := K
  refine va_runS (Ts := []) ⟨hx, hb, hml, hown, fun w h => by cases h⟩ hM ⟨⟨hr.1, hr.2.1, hr.2.2.1, hr.2.2.2, ?_, List.mem_cons_self, hT.use k2 rfl, hT.use k3 rfl, ⟨k5, k6⟩, ck_sig k7, hT.use k1 rfl⟩, hT.use k4 rfl⟩ ⟨bl_X, fun U hU hW => ⟨rfl, hT.warm hW, hX.go hS hW hU (fun _ h => h.elim)⟩⟩ rfl hn hl hst (lv_room hW) hdg hc
  intro w hw a' U hW
  rw [List.mem_singleton] at hw
  subst hw
  exact tb_word rfl hW (hT _ k2 rfl)
/-- a String constant's method -/
theorem rn_VX {i : Nat} (hi : i < 3) (hyc : y.cls = "java/lang/String") (hx : p.tables.exec = Jvm.exec) (hb : c.code = cc) (hml : c.maxLocals = nL) (hown : s.vm.findClass own = some m.cls) (hT : TBok s) (hl : ls.size = nL) (hX : SX ts A s s.heap) (hS : va_S A s.heap H locs) (K : CKV own index y bytes maxL ret n) (hM : Met l y [.code y bytes maxL ret] rm (va_Pc (.ref (ts (3 + i)) :: As) (SP ts)) Qc 0 0 free) (hr : rm.cells = 0 ∧ rm.slots = 0 ∧ rm.frames + 1 ≤ R.frames ∧ 8 + (maxL + 11) + rm.locals ≤ R.locals) (hc : cells ≤ R.cells ∧ slots ≤ R.slots) (hn : As.length = n) (hst : st0 = As.reverse ++ .ref (ts (3 + i)) :: rest) (hW : (rest.map fun v => v.category).sum ≤ 8) (hdg : decode cc pc = .ok (.invokevirtual index, 3)) : va_Run p l e R s m args below meth c H locs cells slots 0 0 (F0 m pc ls st0) rest (Qc (Value.ref (ts (3 + i)) :: As).toArray) free := by
  obtain ⟨k1, k2, k3, k4, k5, k6, k7, k8⟩ := K
  have hrc := vk_recv hX.2.2.2.2.2.2.2.2.2 hi hS
  rw [← hyc] at hrc
  refine va_runV (Ts := []) (C := y.cls) ⟨hx, hb, hml, hown, fun w h => by cases h⟩ hM ⟨⟨hr.1, hr.2.1, hr.2.2.1, hr.2.2.2, ?_, List.mem_cons_self, hT.use k2 rfl, hT.use k3 rfl, ⟨k6, k7⟩, ck_sig k8, hT.use k1 rfl⟩, hT.use k4 rfl, hT.use k5 rfl⟩ ⟨bl_X, hrc, fun U hU hW => ⟨rfl, hT.warm hW, hX.go hS hW hU (fun _ h => h.elim)⟩⟩ rfl hn hl hst (lv_room hW) hdg hc
  intro w hw a' U hW
  rw [List.mem_singleton] at hw
  subst hw
  exact tb_word rfl hW (hT _ k2 rfl)
theorem cl_Sr {post : Nat → Prop} {ad : Nat → Value} {a : Array Value} (hr : va_Run p l e R s m args below meth c H locs cells slots 0 0 (F0 m pc ls st0) rest (va_Sr post ad a) (fun _ => False))
    (kk : ∀ k : Nat, post k → W p l e R s m args below meth c H locs cells slots Q (F0 m (pc + 3) ls (ad k :: rest))) : W p l e R s m args below meth c H locs cells slots Q (F0 m pc ls st0) := by
  intro T hT X
  obtain ⟨v, st₀, t, T', L, h0, X', hL, e1, e2, ⟨r, hv, hp, hh⟩, st⟩ := hr T hT X
  cases hv
  obtain ⟨t2, a1, b1⟩ := kk r hp T' (by rw [e1, hh, h0]) (Stand.forget X' (fun q h => (hL q h).elim))
  exact ⟨t2, st t2 a1, b1⟩
theorem cl_Sv {post : Unit → Prop} {a : Array Value} (hr : va_Run p l e R s m args below meth c H locs cells slots 0 0 (F0 m pc ls st0) rest (va_Sv post a) (fun _ => False))
    (kk : post () → W p l e R s m args below meth c H locs cells slots Q (F0 m (pc + 3) ls rest)) : W p l e R s m args below meth c H locs cells slots Q (F0 m pc ls st0) := by
  intro T hT X
  obtain ⟨v, st₀, t, T', L, h0, X', hL, e1, e2, ⟨hv, hp, hh⟩, st⟩ := hr T hT X
  cases hv
  obtain ⟨t2, a1, b1⟩ := kk hp T' (by rw [e1, hh, h0]) (Stand.forget X' (fun q h => (hL q h).elim))
  exact ⟨t2, st t2 a1, b1⟩
/-- a static method with a world -/
theorem rn_SW (hx : p.tables.exec = Jvm.exec) (hb : c.code = cc) (hml : c.maxLocals = nL) (hown : s.vm.findClass own = some m.cls) (hT : TBok s) (hl : ls.size = nL) (hC : CX D cs ts A s) (hS : va_S A s.heap H locs) (hPc : va_P D vwCl wc H) (hDc : va_D A wc) (K : CKS own index y bytes maxL ret n) (hM : Met l y [.code y bytes maxL ret] rm (va_Pc As (CP D cs ts wc H.size)) Qc 0 0 free) (hr : rm.cells = 0 ∧ rm.slots = 0 ∧ rm.frames + 1 ≤ R.frames ∧ 8 + (maxL + 11) + rm.locals ≤ R.locals) (hc : cells ≤ R.cells ∧ slots ≤ R.slots) (hn : As.length = n) (hst : st0 = As.reverse ++ rest) (hW : (rest.map fun v => v.category).sum ≤ 8) (hdg : decode cc pc = .ok (.invokestatic index, 3)) : va_Run p l e R s m args below meth c H locs cells slots 0 0 (F0 m pc ls st0) rest (Qc As.toArray) free := by
  obtain ⟨k1, k2, k3, k4, k5, k6, k7⟩ := K
  refine va_runS (Ts := []) ⟨hx, hb, hml, hown, fun w h => by cases h⟩ hM ⟨⟨hr.1, hr.2.1, hr.2.2.1, hr.2.2.2, ?_, List.mem_cons_self, hT.use k2 rfl, hT.use k3 rfl, ⟨k5, k6⟩, ck_sig k7, hT.use k1 rfl⟩, hT.use k4 rfl⟩ ⟨bl_W, fun U hU hW => ⟨rfl, by rw [hU], hT.warm hW, hC.1.go hS hW hU (fr_of hDc hS hC.2.2), va_K.moved hW.alike hC.2.1, by rw [hU]; exact hPc, hDc.weaken (fun _ _ _ _ => trivial)⟩⟩ rfl hn hl hst (lv_room hW) hdg hc
  intro w hw a' U hW
  rw [List.mem_singleton] at hw
  subst hw
  exact tb_word rfl hW (hT _ k2 rfl)
theorem rn_SN (hx : p.tables.exec = Jvm.exec) (hb : c.code = cc) (hml : c.maxLocals = nL) (hown : s.vm.findClass own = some m.cls) (hT : TBok s) (hl : ls.size = nL) (K : CKSN own index y host bytes maxL ret n) (hM : Met l y [.code y bytes maxL ret] rm (va_Pc As TBok) Qc 0 0 free) (hr : rm.cells = 0 ∧ rm.slots = 0 ∧ rm.frames + 1 ≤ R.frames ∧ 8 + (maxL + 11) + rm.locals ≤ R.locals) (hc : cells ≤ R.cells ∧ slots ≤ R.slots) (hn : As.length = n) (hst : st0 = As.reverse ++ rest) (hW : (rest.map fun v => v.category).sum ≤ 8) (hdg : decode cc pc = .ok (.invokestatic index, 3)) : va_Run p l e R s m args below meth c H locs cells slots 0 0 (F0 m pc ls st0) rest (Qc As.toArray) free := by
  obtain ⟨k1, k2, k3, k4, k5, k6, k7⟩ := K
  refine va_runSN (Ts := []) ⟨hx, hb, hml, hown, fun w h => by cases h⟩ hM ⟨⟨⟨hr.1, hr.2.1, hr.2.2.1, hr.2.2.2, ?_, List.mem_cons_self⟩, hT.use k2 rfl, hT.use k3 rfl, ⟨k5, k6⟩, ck_sig k7, hT.use k1 rfl⟩, hT.use k4 rfl, trivial⟩ ⟨bl_S, fun U hU hW => ⟨rfl, hT.warm hW⟩⟩ rfl hn hl hst (lv_room hW) hdg hc
  intro w hw a' U hW
  rw [List.mem_singleton] at hw
  subst hw
  exact tb_word rfl hW (hT _ k2 rfl)
/-- the callee's world is cut out by its places -/
theorem rn_V (hx : p.tables.exec = Jvm.exec) (hb : c.code = cc) (hml : c.maxLocals = nL) (hown : s.vm.findClass own = some m.cls) (hT : TBok s) (hl : ls.size = nL) (hC : CX D cs ts A s) (hS : va_S A s.heap H locs) (hPc : va_P D vwCl wc H) (hDc : va_D A wc) (q0 : Nat) {ci : Nat} {qc : vw_C} {fs : List Value} (hcl : vwCl[ci]? = some qc) (hq : wc[q0]? = some (b, .inr (ci, fs))) (hqc : qc.1 = y.cls) (K : CKV own index y bytes maxL ret n) (hM : Met l y [.code y bytes maxL ret] rm (va_Pc (.ref b :: As) (CP D cs ts wc H.size)) Qc mc ms free) (hr : rm.cells = mc ∧ rm.slots = ms ∧ rm.frames + 1 ≤ R.frames ∧ 8 + (maxL + 11) + rm.locals ≤ R.locals) (hc : cells + mc ≤ R.cells ∧ slots + ms ≤ R.slots) (hn : As.length = n) (hst : st0 = As.reverse ++ .ref b :: rest) (hW : (rest.map fun v => v.category).sum ≤ 8) (hdg : decode cc pc = .ok (.invokevirtual index, 3)) : va_Run p l e R s m args below meth c H locs cells slots mc ms (F0 m pc ls st0) rest (Qc (Value.ref b :: As).toArray) free := by
  obtain ⟨k1, k2, k3, k4, k5, k6, k7, k8⟩ := K
  have hrc := va_recv hC.2.1 hPc hcl hq
  rw [hqc] at hrc
  refine va_runV (Ts := []) (C := y.cls) ⟨hx, hb, hml, hown, fun w h => by cases h⟩ hM ⟨⟨hr.1, hr.2.1, hr.2.2.1, hr.2.2.2, ?_, List.mem_cons_self, hT.use k2 rfl, hT.use k3 rfl, ⟨k6, k7⟩, ck_sig k8, hT.use k1 rfl⟩, hT.use k4 rfl, hT.use k5 rfl⟩ ⟨bl_W, hrc, fun U hU hW => ⟨rfl, by rw [hU], hT.warm hW, hC.1.go hS hW hU (fr_of hDc hS hC.2.2), va_K.moved hW.alike hC.2.1, by rw [hU]; exact hPc, hDc.weaken (fun _ _ _ _ => trivial)⟩⟩ rfl hn hl hst (lv_room hW) hdg hc
  intro w hw a' U hW
  rw [List.mem_singleton] at hw
  subst hw
  exact tb_word rfl hW (hT _ k2 rfl)
theorem rn_VN (hx : p.tables.exec = Jvm.exec) (hb : c.code = cc) (hml : c.maxLocals = nL) (hown : s.vm.findClass own = some m.cls) (hT : TBok s) (hl : ls.size = nL) (hC : CX D cs ts A s) (hS : va_S A s.heap H locs) (hPc : va_P D vwCl wc H) (hDc : va_D A wc) (q0 : Nat) {ci : Nat} {qc : vw_C} {fs : List Value} (hcl : vwCl[ci]? = some qc) (hq : wc[q0]? = some (b, .inr (ci, fs))) (hqc : qc.1 = y.cls) (K : CKVN own index y host bytes maxL ret n) (hM : Met l y [.code y bytes maxL ret] rm (va_Pc (.ref b :: As) (CP D cs ts wc H.size)) Qc mc ms free) (hr : rm.cells = mc ∧ rm.slots = ms ∧ rm.frames + 1 ≤ R.frames ∧ 8 + (maxL + 11) + rm.locals ≤ R.locals) (hc : cells + mc ≤ R.cells ∧ slots + ms ≤ R.slots) (hn : As.length = n) (hst : st0 = As.reverse ++ .ref b :: rest) (hW : (rest.map fun v => v.category).sum ≤ 8) (hdg : decode cc pc = .ok (.invokevirtual index, 3)) : va_Run p l e R s m args below meth c H locs cells slots mc ms (F0 m pc ls st0) rest (Qc (Value.ref b :: As).toArray) free := by
  obtain ⟨k1, k2, k3, k4, k5, k6, k7, k8⟩ := K
  have hrc := va_recv hC.2.1 hPc hcl hq
  rw [hqc] at hrc
  refine va_runVN (Ts := []) (C := y.cls) ⟨hx, hb, hml, hown, fun w h => by cases h⟩ hM ⟨⟨⟨hr.1, hr.2.1, hr.2.2.1, hr.2.2.2, ?_, List.mem_cons_self⟩, hT.use k2 rfl, hT.use k3 rfl, ⟨k6, k7⟩, ck_sig k8, hT.use k1 rfl⟩, hT.use k4 rfl, hT.use k5 rfl⟩ ⟨bl_W, hrc, fun U hU hW => ⟨rfl, by rw [hU], hT.warm hW, hC.1.go hS hW hU (fr_of hDc hS hC.2.2), va_K.moved hW.alike hC.2.1, by rw [hU]; exact hPc, hDc.weaken (fun _ _ _ _ => trivial)⟩⟩ rfl hn hl hst (lv_room hW) hdg hc
  intro w hw a' U hW
  rw [List.mem_singleton] at hw
  subst hw
  exact tb_word rfl hW (hT _ k2 rfl)
/-- a call whose world is the caller's own -/
theorem wi_all {S : Type} {post : Int32 → S → Prop} {w1 : S → va_W} {a : Array Value} (hr : va_Run p l e R s m args below meth c H locs cells slots 0 0 (F0 m pc ls st0) rest (va_Qi post (CB D (va_A ws H.size) w1) (va_A ws H.size) a) (va_A ws H.size)) (hD : va_D A ws) (hS : va_S A s.heap H locs) (hA : ∀ q, s.heap.size ≤ q → A q)
    (kk : ∀ (r : Int32) (u : S) (H1 : Heap) (locs1 : List Loc), va_P D vwCl (w1 u) H1 → va_D A (w1 u) → va_S A s.heap H1 locs1 → post r u → W p l e R s m args below meth c H1 locs1 cells slots Q (F0 m (pc + 3) ls (.int r :: rest))) : W p l e R s m args below meth c H locs cells slots Q (F0 m pc ls st0) := by
  have hF : ∀ q, va_A ws H.size q → A q := fun q h => by
    rcases h with ⟨k, e, h⟩ | h
    · exact hD.2 k (q, e) h
    · exact hA q (Nat.le_trans hS.1 h)
  refine va_calli hr hS (fun q _ h => hF q h) hF (fun r u t H1 locs1 ht hvm hw hB hz1 hk1 hS => ?_)
  exact kk r u H1 locs1 (by rw [← ht]; exact hB.1) (hB.2.weaken (fun k q _ h => hF q.1 h)) hS hw
theorem wl_all {S : Type} {post : Int64 → S → Prop} {w1 : S → va_W} {a : Array Value} (hr : va_Run p l e R s m args below meth c H locs cells slots 0 0 (F0 m pc ls st0) rest (va_Ql post (CB D (va_A ws H.size) w1) (va_A ws H.size) a) (va_A ws H.size)) (hD : va_D A ws) (hS : va_S A s.heap H locs) (hA : ∀ q, s.heap.size ≤ q → A q)
    (kk : ∀ (r : Int64) (u : S) (H1 : Heap) (locs1 : List Loc), va_P D vwCl (w1 u) H1 → va_D A (w1 u) → va_S A s.heap H1 locs1 → post r u → W p l e R s m args below meth c H1 locs1 cells slots Q (F0 m (pc + 3) ls (.long r :: rest))) : W p l e R s m args below meth c H locs cells slots Q (F0 m pc ls st0) := by
  have hF : ∀ q, va_A ws H.size q → A q := fun q h => by
    rcases h with ⟨k, e, h⟩ | h
    · exact hD.2 k (q, e) h
    · exact hA q (Nat.le_trans hS.1 h)
  refine va_calll hr hS (fun q _ h => hF q h) hF (fun r u t H1 locs1 ht hvm hw hB hz1 hk1 hS => ?_)
  exact kk r u H1 locs1 (by rw [← ht]; exact hB.1) (hB.2.weaken (fun k q _ h => hF q.1 h)) hS hw
theorem wv_all {S : Type} {post : S → Prop} {w1 : S → va_W} {a : Array Value} (hr : va_Run p l e R s m args below meth c H locs cells slots 0 0 (F0 m pc ls st0) rest (va_Qv post (CB D (va_A ws H.size) w1) (va_A ws H.size) a) (va_A ws H.size)) (hD : va_D A ws) (hS : va_S A s.heap H locs) (hA : ∀ q, s.heap.size ≤ q → A q)
    (kk : ∀ (u : S) (H1 : Heap) (locs1 : List Loc), va_P D vwCl (w1 u) H1 → va_D A (w1 u) → va_S A s.heap H1 locs1 → post u → W p l e R s m args below meth c H1 locs1 cells slots Q (F0 m (pc + 3) ls rest)) : W p l e R s m args below meth c H locs cells slots Q (F0 m pc ls st0) := by
  have hF : ∀ q, va_A ws H.size q → A q := fun q h => by
    rcases h with ⟨k, e, h⟩ | h
    · exact hD.2 k (q, e) h
    · exact hA q (Nat.le_trans hS.1 h)
  refine va_callv hr hS (fun q _ h => hF q h) hF (fun u t H1 locs1 ht hvm hw hB hz1 hk1 hS => ?_)
  exact kk u H1 locs1 (by rw [← ht]; exact hB.1) (hB.2.weaken (fun k q _ h => hF q.1 h)) hS hw
/-- a call whose world is a part of the caller's: its places, the rest's places, the whole's places in what comes back -/
theorem fo_core {S : Type} {w1 w2 : S → va_W} {wr : va_W} {H1 : Heap} (isC isR pm : List Nat) (hP : va_P D vwCl ws H) (hD : va_D A ws) (hF : ∀ q, va_A wc H.size q → A q) (hC : isC.map (fun i => ws[i]?) = wc.map some) (hR : isR.map (fun i => ws[i]?) = wr.map some) (hn : va_nd isR = true) (hdis : ∀ i ∈ isR, i ∉ isC) (hpn : va_nd pm = true) (u : S) (hpm : pm.map (fun i => (wr ++ w1 u)[i]?) = (w2 u).map some) (hk : ∀ q : Nat, q < H.size → ¬ va_A wc H.size q → H1[q]? = H[q]?) (hP1 : va_P D vwCl (w1 u) H1) (hD1 : va_D (va_A wc H.size) (w1 u)) : va_P D vwCl (w2 u) H1 ∧ va_D A (w2 u) := by
  obtain ⟨h1, h2⟩ := va_join (wr := wr) (w1 := w1 u) hP hD isC isR hC hR hn hdis hk hF hP1 hD1
  refine ⟨fun k q hq => ?_, h2.sub pm hpn hpm⟩
  have e1 : (pm.map (fun i => (wr ++ w1 u)[i]?))[k]? = some (some q) := by rw [hpm, List.getElem?_map, hq]; rfl
  rw [List.getElem?_map] at e1
  cases hi : pm[k]? with
  | none => rw [hi] at e1; cases e1
  | some i => rw [hi] at e1; exact h1 i q (Option.some.inj e1)
theorem wi_part {S : Type} {post : Int32 → S → Prop} {w1 w2 : S → va_W} {wr : va_W} {a : Array Value} (isC isR pm : List Nat) (hr : va_Run p l e R s m args below meth c H locs cells slots 0 0 (F0 m pc ls st0) rest (va_Qi post (CB D (va_A wc H.size) w1) (va_A wc H.size) a) (va_A wc H.size)) (hP : va_P D vwCl ws H) (hD : va_D A ws) (hS : va_S A s.heap H locs) (hA : ∀ q, s.heap.size ≤ q → A q) (hC : isC.map (fun i => ws[i]?) = wc.map some) (hR : isR.map (fun i => ws[i]?) = wr.map some) (hn : va_nd isR = true) (hdis : ∀ i ∈ isR, i ∉ isC) (hpn : va_nd pm = true) (hpm : ∀ u, pm.map (fun i => (wr ++ w1 u)[i]?) = (w2 u).map some)
    (kk : ∀ (r : Int32) (u : S) (H1 : Heap) (locs1 : List Loc), va_P D vwCl (w2 u) H1 → va_D A (w2 u) → va_S A s.heap H1 locs1 → post r u → W p l e R s m args below meth c H1 locs1 cells slots Q (F0 m (pc + 3) ls (.int r :: rest))) : W p l e R s m args below meth c H locs cells slots Q (F0 m pc ls st0) := by
  have hF := va_free (wc := wc) hD hS hA isC hC
  refine va_calli hr hS (fun q _ h => hF q h) hF (fun r u t H1 locs1 ht hvm hw hB hz1 hk1 hS => ?_)
  obtain ⟨h1, h2⟩ := fo_core (w2 := w2) isC isR pm hP hD hF hC hR hn hdis hpn u (hpm u) hk1 (by rw [← ht]; exact hB.1) hB.2
  exact kk r u H1 locs1 h1 h2 hS hw
theorem wl_part {S : Type} {post : Int64 → S → Prop} {w1 w2 : S → va_W} {wr : va_W} {a : Array Value} (isC isR pm : List Nat) (hr : va_Run p l e R s m args below meth c H locs cells slots 0 0 (F0 m pc ls st0) rest (va_Ql post (CB D (va_A wc H.size) w1) (va_A wc H.size) a) (va_A wc H.size)) (hP : va_P D vwCl ws H) (hD : va_D A ws) (hS : va_S A s.heap H locs) (hA : ∀ q, s.heap.size ≤ q → A q) (hC : isC.map (fun i => ws[i]?) = wc.map some) (hR : isR.map (fun i => ws[i]?) = wr.map some) (hn : va_nd isR = true) (hdis : ∀ i ∈ isR, i ∉ isC) (hpn : va_nd pm = true) (hpm : ∀ u, pm.map (fun i => (wr ++ w1 u)[i]?) = (w2 u).map some)
    (kk : ∀ (r : Int64) (u : S) (H1 : Heap) (locs1 : List Loc), va_P D vwCl (w2 u) H1 → va_D A (w2 u) → va_S A s.heap H1 locs1 → post r u → W p l e R s m args below meth c H1 locs1 cells slots Q (F0 m (pc + 3) ls (.long r :: rest))) : W p l e R s m args below meth c H locs cells slots Q (F0 m pc ls st0) := by
  have hF := va_free (wc := wc) hD hS hA isC hC
  refine va_calll hr hS (fun q _ h => hF q h) hF (fun r u t H1 locs1 ht hvm hw hB hz1 hk1 hS => ?_)
  obtain ⟨h1, h2⟩ := fo_core (w2 := w2) isC isR pm hP hD hF hC hR hn hdis hpn u (hpm u) hk1 (by rw [← ht]; exact hB.1) hB.2
  exact kk r u H1 locs1 h1 h2 hS hw
theorem wv_part {S : Type} {post : S → Prop} {w1 w2 : S → va_W} {wr : va_W} {a : Array Value} (isC isR pm : List Nat) (hr : va_Run p l e R s m args below meth c H locs cells slots 0 0 (F0 m pc ls st0) rest (va_Qv post (CB D (va_A wc H.size) w1) (va_A wc H.size) a) (va_A wc H.size)) (hP : va_P D vwCl ws H) (hD : va_D A ws) (hS : va_S A s.heap H locs) (hA : ∀ q, s.heap.size ≤ q → A q) (hC : isC.map (fun i => ws[i]?) = wc.map some) (hR : isR.map (fun i => ws[i]?) = wr.map some) (hn : va_nd isR = true) (hdis : ∀ i ∈ isR, i ∉ isC) (hpn : va_nd pm = true) (hpm : ∀ u, pm.map (fun i => (wr ++ w1 u)[i]?) = (w2 u).map some)
    (kk : ∀ (u : S) (H1 : Heap) (locs1 : List Loc), va_P D vwCl (w2 u) H1 → va_D A (w2 u) → va_S A s.heap H1 locs1 → post u → W p l e R s m args below meth c H1 locs1 cells slots Q (F0 m (pc + 3) ls rest)) : W p l e R s m args below meth c H locs cells slots Q (F0 m pc ls st0) := by
  have hF := va_free (wc := wc) hD hS hA isC hC
  refine va_callv hr hS (fun q _ h => hF q h) hF (fun u t H1 locs1 ht hvm hw hB hz1 hk1 hS => ?_)
  obtain ⟨h1, h2⟩ := fo_core (w2 := w2) isC isR pm hP hD hF hC hR hn hdis hpn u (hpm u) hk1 (by rw [← ht]; exact hB.1) hB.2
  exact kk u H1 locs1 h1 h2 hS hw
end LayW
def slen (i : Nat) : Int32 := Int32.ofNat (slens.getD i 0)
def sch (i j : Nat) : Int32 := ((((sbys.getD i []).getD j 0) &&& 255).toUInt32 % 65536).toInt32
def limK (x : Int32) : Nat := if x = 0 then 0 else if x = 1 then 1 else 2
theorem limK_lt (x : Int32) : limK x < 3 := by unfold limK; split <;> (try split) <;> decide
