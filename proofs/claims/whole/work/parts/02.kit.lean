/-! OUR KIT: what every method is given, how a method is entered, how it is called. A reader (a method that writes nothing) is told by a predicate over its answer; a writer by a predicate over its answer and the new state; worlds keep their addresses. -/
/-- the tables: classes and array classes, and the links to a private method of the nest's host -/
def gz (D : va_G) (cI cJ cZ : ClassId) (U : State) : Prop := va_K D vwCl [(cI, .int), (cJ, .long), (cZ, .boolean)] U ∧ va_Nw (.methodLinkNest RX1 9 yX5_isIn "SumMoved") U ∧ va_Nw (.methodLinkNest RX4 16 yX5_isIn "SumMoved") U ∧ va_Nw (.methodLinkNest RX3 52 yX5_isIn "SumMoved") U
theorem gz_warm {D : va_G} {cI cJ cZ : ClassId} {s U : State} (hW : s.WarmedH U.vm) (h : gz D cI cJ cZ s) : gz D cI cJ cZ U := ⟨va_K.moved hW.alike h.1, va_Nw.warmM hW h.2.1, va_Nw.warmM hW h.2.2.1, va_Nw.warmM hW h.2.2.2⟩
theorem gz_call {D : va_G} {cI cJ cZ : ClassId} {U : State} (g : JFrame) (mk : MethodId) (a : Array Value) (h : gz D cI cJ cZ U) : gz D cI cJ cZ (U.calling g mk a) := ⟨va_K.moved (u := U) (U := U.calling g mk a) (Vm.Alike.refl U.vm) h.1, va_Nw.same rfl rfl h.2.1, va_Nw.same rfl rfl h.2.2.1, va_Nw.same rfl rfl h.2.2.2⟩
/-- the two static tables -/
def tb_P (j : Nat) : Int32 := if j = 0 then 1 else if j = 1 then 9 else 81
def tb_O (j : Nat) : Int32 := if j = 0 then 24 else if j = 1 then 6 else if j = 2 then 4 else if j = 3 then 6 else 24
abbrev tb_N : Nat → Prop := fun _ => False
def gt (U : State) (H : Heap) : Prop := ∃ t1 t2 : Nat, va_Z RX1 "PLACES" "[I" (.ref t1) tb_N U H ∧ va_T .int t1 3 (fun j => .int (tb_P j)) tb_N U H ∧ va_Z RX4 "ORDERS_WITH" "[I" (.ref t2) tb_N U H ∧ va_T .int t2 5 (fun j => .int (tb_O j)) tb_N U H
theorem gt_moved {u U : State} {H : Heap} (hvm : u.vm.Alike U.vm) (h : gt u H) : gt U H := by
  obtain ⟨t1, t2, h1, h2, h3, h4⟩ := h
  exact ⟨t1, t2, h1.moved hvm, h2.moved hvm, h3.moved hvm, h4.moved hvm⟩
/-- a reader's start, without and with the static tables -/
def rp (D : va_G) (cI cJ cZ : ClassId) (w : va_W) (U : State) : Prop := gz D cI cJ cZ U ∧ va_P D vwCl w U.heap
def rpt (D : va_G) (cI cJ cZ : ClassId) (w : va_W) (U : State) : Prop := (gz D cI cJ cZ U ∧ va_P D vwCl w U.heap) ∧ gt U U.heap
theorem rp_blind {D : va_G} {cI cJ cZ : ClassId} {w : va_W} {av : List Value} : FrameBlind (va_Pc av (rp D cI cJ cZ w)) := fun a _ g mk q => ⟨q.1, gz_call g mk a q.2.1, q.2.2⟩
theorem rpt_blind {D : va_G} {cI cJ cZ : ClassId} {w : va_W} {av : List Value} : FrameBlind (va_Pc av (rpt D cI cJ cZ w)) := fun a U g mk q => ⟨q.1, ⟨gz_call g mk a q.2.1.1, q.2.1.2⟩, gt_moved (u := U) (U := U.calling g mk a) (Vm.Alike.refl U.vm) q.2.2⟩
theorem rp_pre {D : va_G} {cI cJ cZ : ClassId} {w : va_W} {s : State} {H : Heap} (hz : gz D cI cJ cZ s) (hP : va_P D vwCl w H) (av : List Value) : ∀ U : State, U.heap = H → s.WarmedH U.vm → va_Pc av (rp D cI cJ cZ w) av.toArray U := fun _ hU hW => ⟨rfl, gz_warm hW hz, by rw [hU]; exact hP⟩
theorem rpt_pre {D : va_G} {cI cJ cZ : ClassId} {w : va_W} {s : State} {H : Heap} (hz : gz D cI cJ cZ s) (hP : va_P D vwCl w H) (ht : gt s H) (av : List Value) : ∀ U : State, U.heap = H → s.WarmedH U.vm → va_Pc av (rpt D cI cJ cZ w) av.toArray U := fun U hU hW => ⟨rfl, ⟨gz_warm hW hz, by rw [hU]; exact hP⟩, by rw [hU]; exact gt_moved hW.alike ht⟩
/-- a writer's start: as a reader's, the cells apart, and the heap's size said -/
def wp (D : va_G) (cI cJ cZ : ClassId) (sz : Nat) (w : va_W) (U : State) : Prop := U.heap.size = sz ∧ gz D cI cJ cZ U ∧ va_P D vwCl w U.heap ∧ va_D (fun _ => True) w
theorem wp_blind {D : va_G} {cI cJ cZ : ClassId} {sz : Nat} {w : va_W} {av : List Value} : FrameBlind (va_Pc av (wp D cI cJ cZ sz w)) := fun a _ g mk q => ⟨q.1, q.2.1, gz_call g mk a q.2.2.1, q.2.2.2⟩
theorem wp_pre {D : va_G} {cI cJ cZ : ClassId} {w : va_W} {A : Nat → Prop} {s : State} {H : Heap} (hz : gz D cI cJ cZ s) (hP : va_P D vwCl w H) (hD : va_D A w) (av : List Value) : ∀ U : State, U.heap = H → s.WarmedH U.vm → va_Pc av (wp D cI cJ cZ H.size w) av.toArray U := fun _ hU hW => ⟨rfl, by rw [hU], gz_warm hW hz, by rw [hU]; exact hP, hD.weaken (fun _ _ _ _ => trivial)⟩
/-- worlds with the same addresses are apart alike -/
theorem va_D_same {A : Nat → Prop} {w w' : va_W} (h : w.map Prod.fst = w'.map Prod.fst) (hD : va_D A w) : va_D A w' := by
  have key : ∀ (k : Nat) (q : Nat × va_E), w'[k]? = some q → ∃ q0 : Nat × va_E, w[k]? = some q0 ∧ q0.1 = q.1 := by
    intro k q hk
    have h1 : (w.map Prod.fst)[k]? = some q.1 := by rw [h, List.getElem?_map, hk]; rfl
    rw [List.getElem?_map] at h1
    cases hw : w[k]? with
    | none => rw [hw] at h1; cases h1
    | some q0 => rw [hw] at h1; exact ⟨q0, rfl, Option.some.inj h1⟩
  refine ⟨fun i j x y hi hj hxy => ?_, fun k q hk => ?_⟩
  · obtain ⟨x0, a1, a2⟩ := key i x hi
    obtain ⟨y0, b1, b2⟩ := key j y hj
    exact hD.1 i j x0 y0 a1 b1 (a2.trans (hxy.trans b2.symm))
  · obtain ⟨q0, a1, a2⟩ := key k q hk
    rw [← a2]
    exact hD.2 k q0 a1
theorem nr_0 : narrow .boolean (.int 0) = .int 0 := by decide
theorem nr_1 : narrow .boolean (.int 1) = .int 1 := by decide
def qb (Q : Int32 → Prop) (r : Int32) : Prop := narrow .boolean (.int r) = .int r ∧ Q r
section ENTER
variable {l : Launch} {y : MethodName} {ws ws' : List Cond} {rm : Room} {cc : ByteArray} {maxL : Nat} {Pz : State → Prop} {av : List Value}
theorem enter_i {Q : Int32 → Prop} (hy : plainFor y = true) (hw : ws = Cond.code y cc maxL (some .int) :: ws') (hn : (lg_sl av).length ≤ maxL)
    (body : ∀ (p : Program) (e : Env) (s : State) (m : MethodId) (args : Array Value) (below : List Frame) (meth : Method) (c : Code) (QQ : State → Prop), CallFix p m c cc maxL s args ws y.cls → Pz s →
      (∀ (v : Int32) (pc : Nat) (ls : Array Slot), Q v → decode cc pc = .ok (.ireturn, 1) → W p l e rm s m args below meth c s.heap [] 0 0 QQ (F0 m pc ls [.int v])) →
      ∀ ls : Array Slot, lv_has ls maxL (lv_args 0 av) → W p l e rm s m args below meth c s.heap [] 0 0 QQ (F0 m 0 ls [])) : Met l y ws rm (va_Pc av Pz) (vp_Si Q) 0 0 (fun _ => False) := by
  refine va_MetF (cc := cc) (maxL := maxL) (ret := some .int) hy hw ?_
  intro p e s m args below meth c s₁ B hml hv
  obtain ⟨rfl, hz⟩ := hv
  have hl := lv_entry av (n := maxL) hn
  rw [lg_entry_eq]
  generalize (lg_sl av ++ List.replicate (maxL - (lg_sl av).length) Slot.unset).toArray = ls at hl ⊢
  exact body p e s m av.toArray below meth c _ ⟨B.exec, B.bytes, hml, findClass_of_methodNamed B.named, atoms_spec (ws := ws) B.pre⟩ hz (fun v pc ls hv hd => W.iret B.exec B.bytes B.returns (fun t ht hW => ⟨v, rfl, hv, ht⟩) (fun q h => by cases h) hd) ls hl
theorem enter_z {Q : Int32 → Prop} (hy : plainFor y = true) (hw : ws = Cond.code y cc maxL (some .boolean) :: ws') (hn : (lg_sl av).length ≤ maxL)
    (body : ∀ (p : Program) (e : Env) (s : State) (m : MethodId) (args : Array Value) (below : List Frame) (meth : Method) (c : Code) (QQ : State → Prop), CallFix p m c cc maxL s args ws y.cls → Pz s →
      (∀ (v : Int32) (pc : Nat) (ls : Array Slot), narrow .boolean (.int v) = .int v → Q v → decode cc pc = .ok (.ireturn, 1) → W p l e rm s m args below meth c s.heap [] 0 0 QQ (F0 m pc ls [.int v])) →
      ∀ ls : Array Slot, lv_has ls maxL (lv_args 0 av) → W p l e rm s m args below meth c s.heap [] 0 0 QQ (F0 m 0 ls [])) : Met l y ws rm (va_Pc av Pz) (vp_Si (qb Q)) 0 0 (fun _ => False) := by
  refine va_MetF (cc := cc) (maxL := maxL) (ret := some .boolean) hy hw ?_
  intro p e s m args below meth c s₁ B hml hv
  obtain ⟨rfl, hz⟩ := hv
  have hl := lv_entry av (n := maxL) hn
  rw [lg_entry_eq]
  generalize (lg_sl av ++ List.replicate (maxL - (lg_sl av).length) Slot.unset).toArray = ls at hl ⊢
  exact body p e s m av.toArray below meth c _ ⟨B.exec, B.bytes, hml, findClass_of_methodNamed B.named, atoms_spec (ws := ws) B.pre⟩ hz (fun v pc ls hn hv hd => W.zret B.exec B.bytes B.returns hn (fun t ht hW => ⟨v, rfl, ⟨hn, hv⟩, ht⟩) (fun q h => by cases h) hd) ls hl
theorem enter_l {Q : Int64 → Prop} (hy : plainFor y = true) (hw : ws = Cond.code y cc maxL (some .long) :: ws') (hn : (lg_sl av).length ≤ maxL)
    (body : ∀ (p : Program) (e : Env) (s : State) (m : MethodId) (args : Array Value) (below : List Frame) (meth : Method) (c : Code) (QQ : State → Prop), CallFix p m c cc maxL s args ws y.cls → Pz s →
      (∀ (v : Int64) (pc : Nat) (ls : Array Slot), Q v → decode cc pc = .ok (.lreturn, 1) → W p l e rm s m args below meth c s.heap [] 0 0 QQ (F0 m pc ls [.long v])) →
      ∀ ls : Array Slot, lv_has ls maxL (lv_args 0 av) → W p l e rm s m args below meth c s.heap [] 0 0 QQ (F0 m 0 ls [])) : Met l y ws rm (va_Pc av Pz) (vp_Sl Q) 0 0 (fun _ => False) := by
  refine va_MetF (cc := cc) (maxL := maxL) (ret := some .long) hy hw ?_
  intro p e s m args below meth c s₁ B hml hv
  obtain ⟨rfl, hz⟩ := hv
  have hl := lv_entry av (n := maxL) hn
  rw [lg_entry_eq]
  generalize (lg_sl av ++ List.replicate (maxL - (lg_sl av).length) Slot.unset).toArray = ls at hl ⊢
  exact body p e s m av.toArray below meth c _ ⟨B.exec, B.bytes, hml, findClass_of_methodNamed B.named, atoms_spec (ws := ws) B.pre⟩ hz (fun v pc ls hv hd => W.lret B.exec B.bytes B.returns (fun t ht hW => ⟨v, rfl, hv, ht⟩) (fun q h => by cases h) hd) ls hl
variable {D : va_G} {cI cJ cZ : ClassId} {sz : Nat} {S : Type}
/-- a writer's end: the answer, the new state, its world at the same addresses -/
abbrev wQi (D : va_G) (wf : S → va_W) (u0 : S) (sz : Nat) (Q : Int32 → S → Prop) : Array Value → State → Outcome → State → Prop := va_Qi Q (fun u t => va_P D vwCl (wf u) t.heap) (va_A (wf u0) sz)
abbrev wQv (D : va_G) (wf : S → va_W) (u0 : S) (sz : Nat) (Q : S → Prop) : Array Value → State → Outcome → State → Prop := va_Qv Q (fun u t => va_P D vwCl (wf u) t.heap) (va_A (wf u0) sz)
theorem enter_wi {wf : S → va_W} {u0 : S} {Q : Int32 → S → Prop} (hsame : ∀ u : S, (wf u0).map Prod.fst = (wf u).map Prod.fst) (hy : plainFor y = true) (hw : ws = Cond.code y cc maxL (some .int) :: ws') (hn : (lg_sl av).length ≤ maxL)
    (body : ∀ (p : Program) (e : Env) (s : State) (m : MethodId) (args : Array Value) (below : List Frame) (meth : Method) (c : Code) (QQ : State → Prop) (A : Nat → Prop), CallFix p m c cc maxL s args ws y.cls → gz D cI cJ cZ s → (∀ u : S, va_D A (wf u)) → (∀ q : Nat, s.heap.size ≤ q → A q) → va_P D vwCl (wf u0) s.heap →
      (∀ (v : Int32) (u : S) (H : Heap) (locs : List Loc) (pc : Nat) (ls : Array Slot), Q v u → va_P D vwCl (wf u) H → va_S A s.heap H locs → decode cc pc = .ok (.ireturn, 1) → W p l e rm s m args below meth c H locs 0 0 QQ (F0 m pc ls [.int v])) →
      ∀ ls : Array Slot, lv_has ls maxL (lv_args 0 av) → W p l e rm s m args below meth c s.heap [] 0 0 QQ (F0 m 0 ls [])) : Met l y ws rm (va_Pc av (wp D cI cJ cZ sz (wf u0))) (wQi D wf u0 sz Q) 0 0 (va_A (wf u0) sz) := by
  refine va_MetF (cc := cc) (maxL := maxL) (ret := some .int) hy hw ?_
  intro p e s m args below meth c s₁ B hml hv
  obtain ⟨rfl, rfl, hz, hP, hD⟩ := hv
  have hl := lv_entry av (n := maxL) hn
  rw [lg_entry_eq]
  generalize (lg_sl av ++ List.replicate (maxL - (lg_sl av).length) Slot.unset).toArray = ls at hl ⊢
  exact body p e s m av.toArray below meth c _ (va_A (wf u0) s.heap.size) ⟨B.exec, B.bytes, hml, findClass_of_methodNamed B.named, atoms_spec (ws := ws) B.pre⟩ hz (fun u => va_D_same (hsame u) hD.self) (fun q h => Or.inr h) hP (fun v u H locs pc ls hq hP hS hd => W.iret B.exec B.bytes B.returns (fun t ht hW => ⟨⟨v, u, rfl, hq, by show va_P D vwCl (wf u) t.heap; rw [ht]; exact hP⟩, hS.F ht⟩) hS.2.2 hd) ls hl
theorem enter_wv {wf : S → va_W} {u0 : S} {Q : S → Prop} (hsame : ∀ u : S, (wf u0).map Prod.fst = (wf u).map Prod.fst) (hy : plainFor y = true) (hw : ws = Cond.code y cc maxL none :: ws') (hn : (lg_sl av).length ≤ maxL)
    (body : ∀ (p : Program) (e : Env) (s : State) (m : MethodId) (args : Array Value) (below : List Frame) (meth : Method) (c : Code) (QQ : State → Prop) (A : Nat → Prop), CallFix p m c cc maxL s args ws y.cls → gz D cI cJ cZ s → (∀ u : S, va_D A (wf u)) → (∀ q : Nat, s.heap.size ≤ q → A q) → va_P D vwCl (wf u0) s.heap →
      (∀ (u : S) (H : Heap) (locs : List Loc) (pc : Nat) (ls : Array Slot), Q u → va_P D vwCl (wf u) H → va_S A s.heap H locs → decode cc pc = .ok (.return_, 1) → W p l e rm s m args below meth c H locs 0 0 QQ (F0 m pc ls [])) →
      ∀ ls : Array Slot, lv_has ls maxL (lv_args 0 av) → W p l e rm s m args below meth c s.heap [] 0 0 QQ (F0 m 0 ls [])) : Met l y ws rm (va_Pc av (wp D cI cJ cZ sz (wf u0))) (wQv D wf u0 sz Q) 0 0 (va_A (wf u0) sz) := by
  refine va_MetF (cc := cc) (maxL := maxL) (ret := none) hy hw ?_
  intro p e s m args below meth c s₁ B hml hv
  obtain ⟨rfl, rfl, hz, hP, hD⟩ := hv
  have hl := lv_entry av (n := maxL) hn
  rw [lg_entry_eq]
  generalize (lg_sl av ++ List.replicate (maxL - (lg_sl av).length) Slot.unset).toArray = ls at hl ⊢
  exact body p e s m av.toArray below meth c _ (va_A (wf u0) s.heap.size) ⟨B.exec, B.bytes, hml, findClass_of_methodNamed B.named, atoms_spec (ws := ws) B.pre⟩ hz (fun u => va_D_same (hsame u) hD.self) (fun q h => Or.inr h) hP (fun u H locs pc ls hq hP hS hd => W.vret B.exec B.bytes B.returns (fun t ht hW => ⟨⟨u, rfl, hq, by show va_P D vwCl (wf u) t.heap; rw [ht]; exact hP⟩, hS.F ht⟩) hS.2.2 hd) ls hl
end ENTER
section CALL
variable {p : Program} {l : Launch} {e : Env} {R : Room} {s : State} {m : MethodId} {args : Array Value} {below : List Frame} {meth : Method} {c : Code} {H : Heap} {locs : List Loc} {cells slots : Nat} {Q : State → Prop} {pc : Nat} {ls : Array Slot} {rest st0 : List Value} {a : Array Value} {A : Nat → Prop} {H0 : Heap} {D : va_G} {S : Type}
theorem call_free {w : va_W} (hS : va_S A H0 H locs) (hD : va_D A w) (hA : ∀ q : Nat, H0.size ≤ q → A q) : ∀ q, va_A w H.size q → A q := by
  intro q h
  rcases h with ⟨k, e, h⟩ | h
  · exact hD.2 k _ h
  · exact hA q (Nat.le_trans hS.1 h)
theorem call_wi {wf : S → va_W} {u0 : S} {post : Int32 → S → Prop} (hr : va_Run p l e R s m args below meth c H locs 0 0 0 0 (F0 m pc ls st0) rest (wQi D wf u0 H.size post a) (va_A (wf u0) H.size)) (hS : va_S A H0 H locs) (hD : va_D A (wf u0)) (hA : ∀ q : Nat, H0.size ≤ q → A q)
    (kk : ∀ (r : Int32) (u : S) (H1 : Heap) (locs1 : List Loc), post r u → va_P D vwCl (wf u) H1 → va_S A H0 H1 locs1 → W p l e R s m args below meth c H1 locs1 0 0 Q (F0 m (pc + 3) ls (.int r :: rest))) : W p l e R s m args below meth c H locs 0 0 Q (F0 m pc ls st0) :=
  va_calli hr hS (fun q _ h => call_free hS hD hA q h) (call_free hS hD hA) (fun r u t H1 locs1 ht _ hw hB _ _ hS1 => kk r u H1 locs1 hw (by rw [← ht]; exact hB) hS1)
theorem call_wv {wf : S → va_W} {u0 : S} {post : S → Prop} (hr : va_Run p l e R s m args below meth c H locs 0 0 0 0 (F0 m pc ls st0) rest (wQv D wf u0 H.size post a) (va_A (wf u0) H.size)) (hS : va_S A H0 H locs) (hD : va_D A (wf u0)) (hA : ∀ q : Nat, H0.size ≤ q → A q)
    (kk : ∀ (u : S) (H1 : Heap) (locs1 : List Loc), post u → va_P D vwCl (wf u) H1 → va_S A H0 H1 locs1 → W p l e R s m args below meth c H1 locs1 0 0 Q (F0 m (pc + 3) ls rest)) : W p l e R s m args below meth c H locs 0 0 Q (F0 m pc ls st0) :=
  va_callv hr hS (fun q _ h => call_free hS hD hA q h) (call_free hS hD hA) (fun u t H1 locs1 ht _ hw hB _ _ hS1 => kk u H1 locs1 hw (by rw [← ht]; exact hB) hS1)
end CALL
/-! THE STATES, as the cells hold them -/
abbrev Ar : Type := Nat → Int32
abbrev Al : Type := Nat → Int64
/-- Rows: month, day, tops, bases, members, marks, struck, size -/
abbrev S2 : Type := Ar × Ar × Ar × Ar × Ar × Ar × Ar × Int32
/-- Switches: before, after -/
abbrev S4 : Type := Ar × Ar
/-- Stories: heaps, changes, tests, lowBits, highBits, size, expected, found, bestMany, bestFirst, bestSecond, bestRest, bestToll -/
abbrev S3 : Type := Ar × Ar × Ar × Al × Al × Int32 × Int32 × Int32 × Int32 × Int32 × Int32 × Int32 × Int32
abbrev SX : Type := S2 × S4 × S3
/-- the reference: rows, month, day, top, base, member, mark, isStruck, before, after, expected, found, firstHeap, secondHeap, foundRest, parts, left, list, worth -/
abbrev S6 : Type := Int32 × Ar × Ar × Ar × Ar × Ar × Ar × Ar × Ar × Ar × Int32 × Int32 × Int32 × Int32 × Int32 × Ar × Ar × Ar × Ar
abbrev ia (c : ClassId) (n : Nat) (f : Ar) : va_E := .inl (c, n, .inl f)
abbrev la (c : ClassId) (n : Nat) (f : Al) : va_E := .inl (c, n, .inr (.inl f))
abbrev w2 (ad : Nat → Nat) (cI : ClassId) (S : S2) : va_W := [(ad 1, .inr (0, [.ref (ad 2), .ref (ad 3), .ref (ad 4), .ref (ad 5), .ref (ad 6), .ref (ad 7), .ref (ad 8), .int S.2.2.2.2.2.2.2])), (ad 2, ia cI 120 S.1), (ad 3, ia cI 120 S.2.1), (ad 4, ia cI 120 S.2.2.1), (ad 5, ia cI 120 S.2.2.2.1), (ad 6, ia cI 120 S.2.2.2.2.1), (ad 7, ia cI 120 S.2.2.2.2.2.1), (ad 8, ia cI 120 S.2.2.2.2.2.2.1)]
abbrev w4 (ad : Nat → Nat) (cI : ClassId) (S : S4) : va_W := [(ad 9, .inr (2, [.ref (ad 10), .ref (ad 11)])), (ad 10, ia cI 5 S.1), (ad 11, ia cI 5 S.2)]
abbrev w3 (ad : Nat → Nat) (cI cJ : ClassId) (S : S3) : va_W := [(ad 12, .inr (1, [.ref (ad 1), .ref (ad 13), .ref (ad 14), .ref (ad 15), .ref (ad 16), .ref (ad 17), .int S.2.2.2.2.2.1, .int S.2.2.2.2.2.2.1, .int S.2.2.2.2.2.2.2.1, .int S.2.2.2.2.2.2.2.2.1, .int S.2.2.2.2.2.2.2.2.2.1, .int S.2.2.2.2.2.2.2.2.2.2.1, .int S.2.2.2.2.2.2.2.2.2.2.2.1, .int S.2.2.2.2.2.2.2.2.2.2.2.2])), (ad 13, ia cI 216 S.1), (ad 14, ia cI 216 S.2.1), (ad 15, ia cI 216 S.2.2.1), (ad 16, la cJ 216 S.2.2.2.1), (ad 17, la cJ 216 S.2.2.2.2.1)]
/-- the class's whole world: 0 the object; 1 to 8 Rows; 9 to 11 Switches; 12 to 17 Stories -/
abbrev w5 (ad : Nat → Nat) (cI cJ : ClassId) (S : SX) : va_W := (ad 0, .inr (3, [.ref (ad 1), .ref (ad 9), .ref (ad 12)])) :: (w2 ad cI S.1 ++ (w4 ad cI S.2.1 ++ w3 ad cI cJ S.2.2))
/-- the reference's world: 0 the object; 1 to 13 its arrays -/
abbrev w6 (ad : Nat → Nat) (cI cZ : ClassId) (S : S6) : va_W := [(ad 0, .inr (4, [.int S.1, .ref (ad 1), .ref (ad 2), .ref (ad 3), .ref (ad 4), .ref (ad 5), .ref (ad 6), .ref (ad 7), .ref (ad 8), .ref (ad 9), .int S.2.2.2.2.2.2.2.2.2.2.1, .int S.2.2.2.2.2.2.2.2.2.2.2.1, .int S.2.2.2.2.2.2.2.2.2.2.2.2.1, .int S.2.2.2.2.2.2.2.2.2.2.2.2.2.1, .int S.2.2.2.2.2.2.2.2.2.2.2.2.2.2.1, .ref (ad 10), .ref (ad 11), .ref (ad 12), .ref (ad 13)])), (ad 1, ia cI 120 S.2.1), (ad 2, ia cI 120 S.2.2.1), (ad 3, ia cI 120 S.2.2.2.1), (ad 4, ia cI 120 S.2.2.2.2.1), (ad 5, ia cI 120 S.2.2.2.2.2.1), (ad 6, ia cI 360 S.2.2.2.2.2.2.1), (ad 7, ia cZ 120 S.2.2.2.2.2.2.2.1), (ad 8, ia cI 5 S.2.2.2.2.2.2.2.2.1), (ad 9, ia cI 5 S.2.2.2.2.2.2.2.2.2.1), (ad 10, ia cI 8 S.2.2.2.2.2.2.2.2.2.2.2.2.2.2.2.1), (ad 11, ia cI 8 S.2.2.2.2.2.2.2.2.2.2.2.2.2.2.2.2.1), (ad 12, ia cI 216 S.2.2.2.2.2.2.2.2.2.2.2.2.2.2.2.2.2.1), (ad 13, ia cI 216 S.2.2.2.2.2.2.2.2.2.2.2.2.2.2.2.2.2.2)]
