/-! THE CONSTRUCTORS, printed by wip/whole/gen_init.py -/
abbrev zA : Ar := fun _ => 0
abbrev zL : Al := fun _ => 0
abbrev z2 : S2 := (zA, zA, zA, zA, zA, zA, zA, 0)
abbrev z4 : S4 := (zA, zA)
abbrev z3 : S3 := (zA, zA, zA, zL, zL, 0, 0, 0, 0, 0, 0, 0, 0)
abbrev z5 : SX := (z2, z4, z3)
abbrev z6 : S6 := (0, zA, zA, zA, zA, zA, zA, zA, zA, zA, 0, -1, 0, 0, 0, zA, zA, zA, zA)
abbrev adv (L : List Nat) (k : Nat) : Nat := L.getD k 0
section INIT
variable {p : Program} {l : Launch} {e : Env} {R : Room} {s : State} {m : MethodId} {args : Array Value} {below : List Frame} {meth : Method} {c : Code} {H : Heap} {locs : List Loc} {cells slots : Nat} {Q : State → Prop} {cc : ByteArray} {pc : Nat} {ls : Array Slot} {rest : List Value} {D : va_G} {cl : List vw_C} {A : Nat → Prop} {tys : List (ClassId × FieldType)} {ws : va_W} {Hb : Heap}
/-- a new array, its class the known one -/
theorem nw_arr (hexec : p.tables.exec = Jvm.exec) (hb : c.code = cc) {atype : ArrayType} (harr : (Cond.arrayClass (newarray.typeOf atype)).before args s = true) {ty : FieldType} (hty : newarray.typeOf atype = ty) (hK : va_K D cl tys s) (t0 : Nat) {cI : ClassId} (ht : tys[t0]? = some (cI, ty)) (hR : ∀ cA : ClassId, va_RA s cA ty → va_RA s cI ty → cA = cI) (hP : va_P D cl ws H) (hD : va_D A ws) (hS : va_S A Hb H locs) (hA : ∀ q, Hb.size ≤ q → A q)
    {n : Int32} {N' : Nat} {a0 : vp_A} (ha : ∀ cA : ClassId, vp_cell cA a0 = arrV cA N' (fun _ => defaultValue ty)) (hn : ¬ n < 0) (hN : n.toNatClampNeg = N') (hbytes : N' * componentBytes ty ≤ 536870912) (hcells : cells + 1 ≤ R.cells) (hslots : slots + N' ≤ R.slots) (hdg : decode cc pc = .ok (.newarray atype, 2))
    (kk : ∀ (q : Nat) (H1 : Heap), va_P D cl (ws ++ [(q, .inl (cI, a0))]) H1 → va_D A (ws ++ [(q, .inl (cI, a0))]) → va_S A Hb H1 locs → W p l e R s m args below meth c H1 locs (cells + 1) (slots + N') Q (F0 m (pc + 2) ls (.ref q :: rest))) : W p l e R s m args below meth c H locs cells slots Q (F0 m pc ls (.int n :: rest)) := by
  refine va_newa hexec hb harr hty hK hP hD hS hA ha hn hN hbytes hcells hslots hdg (fun q cA H1 hK1 hP1 hD1 hS1 => ?_)
  have e : cA = cI := hR cA (hK1.2 tys.length (cA, ty) (by rw [List.getElem?_append_right (Nat.le_refl _), Nat.sub_self]; rfl)).2 (hK.2 t0 _ ht).2
  subst e
  exact kk q H1 hP1 hD1 hS1
theorem nw_I {cA cI : ClassId} (h1 : va_RA s cA .int) (h2 : va_RA s cI .int) : cA = cI := Option.some.inj (Eq.trans (Eq.symm (show s.vm.findClass _ = some cA from h1)) (show s.vm.findClass _ = some cI from h2))
theorem nw_J {cA cI : ClassId} (h1 : va_RA s cA .long) (h2 : va_RA s cI .long) : cA = cI := Option.some.inj (Eq.trans (Eq.symm (show s.vm.findClass _ = some cA from h1)) (show s.vm.findClass _ = some cI from h2))
theorem nw_Z {cA cI : ClassId} (h1 : va_RA s cA .boolean) (h2 : va_RA s cI .boolean) : cA = cI := Option.some.inj (Eq.trans (Eq.symm (show s.vm.findClass _ = some cA from h1)) (show s.vm.findClass _ = some cI from h2))
end INIT

theorem uX2_init_1 : Cond.methodLink RX2 3 objectInit ∈ wsX2_init := List.mem_of_getElem? (i := 1) rfl
theorem uX2_init_2 : Cond.instanceMethod objectInit ∈ wsX2_init := List.mem_of_getElem? (i := 2) rfl
theorem uX2_init_3 : Cond.code objectInit ⟨#[0xb1]⟩ 1 none ∈ wsX2_init := List.mem_of_getElem? (i := 3) rfl
theorem uX2_init_4 : Cond.arrayClass .int ∈ wsX2_init := List.mem_of_getElem? (i := 4) rfl
theorem vX2_init_X2 : ∀ w ∈ wsX20, w ∈ wsX2_init := fun _ h => List.mem_cons_of_mem _ (List.mem_append_right _ h)
theorem uX2_init_5 : Cond.fieldLink RX2 9 "SumMoved$Rows" "month" "[I" ∈ wsX2_init := List.mem_of_getElem? (i := 5) rfl
theorem uX2_init_6 : Cond.fieldLink RX2 15 "SumMoved$Rows" "day" "[I" ∈ wsX2_init := List.mem_of_getElem? (i := 6) rfl
theorem uX2_init_7 : Cond.fieldLink RX2 18 "SumMoved$Rows" "tops" "[I" ∈ wsX2_init := List.mem_of_getElem? (i := 7) rfl
theorem uX2_init_8 : Cond.fieldLink RX2 21 "SumMoved$Rows" "bases" "[I" ∈ wsX2_init := List.mem_of_getElem? (i := 8) rfl
theorem uX2_init_9 : Cond.fieldLink RX2 24 "SumMoved$Rows" "members" "[I" ∈ wsX2_init := List.mem_of_getElem? (i := 9) rfl
theorem uX2_init_10 : Cond.fieldLink RX2 27 "SumMoved$Rows" "marks" "[I" ∈ wsX2_init := List.mem_of_getElem? (i := 10) rfl
theorem uX2_init_11 : Cond.fieldLink RX2 30 "SumMoved$Rows" "struck" "[I" ∈ wsX2_init := List.mem_of_getElem? (i := 11) rfl
theorem uX2_init_12 : Cond.fieldLink RX2 33 "SumMoved$Rows" "size" "I" ∈ wsX2_init := List.mem_of_getElem? (i := 12) rfl
abbrev rX2_init : Room := { frames := 1, cells := 7, slots := 840, locals := 12 }
set_option maxHeartbeats 4000000 in
set_option maxRecDepth 100000 in
theorem mX2_init {l : Launch} {D : va_G} {cI cJ cZ : ClassId} {q : Nat} (sz : Nat) : Met l yX2_init wsX2_init rX2_init (va_Pc [.ref q] (wp D cI cJ cZ sz [(q, .inr (0, [.null, .null, .null, .null, .null, .null, .null, .int 0]))])) (va_Qv (S := Nat × Nat × Nat × Nat × Nat × Nat × Nat) (fun _ : Nat × Nat × Nat × Nat × Nat × Nat × Nat => True) (fun (u : Nat × Nat × Nat × Nat × Nat × Nat × Nat) (t : State) => va_P D vwCl [(q, .inr (0, [.ref u.1, .ref u.2.1, .ref u.2.2.1, .ref u.2.2.2.1, .ref u.2.2.2.2.1, .ref u.2.2.2.2.2.1, .ref u.2.2.2.2.2.2, .int 0])), (u.1, ia cI 120 zA), (u.2.1, ia cI 120 zA), (u.2.2.1, ia cI 120 zA), (u.2.2.2.1, ia cI 120 zA), (u.2.2.2.2.1, ia cI 120 zA), (u.2.2.2.2.2.1, ia cI 120 zA), (u.2.2.2.2.2.2, ia cI 120 zA)] t.heap ∧ va_D (va_A [(q, .inr (0, [.null, .null, .null, .null, .null, .null, .null, .int 0]))] sz) [(q, .inr (0, [.ref u.1, .ref u.2.1, .ref u.2.2.1, .ref u.2.2.2.1, .ref u.2.2.2.2.1, .ref u.2.2.2.2.2.1, .ref u.2.2.2.2.2.2, .int 0])), (u.1, ia cI 120 zA), (u.2.1, ia cI 120 zA), (u.2.2.1, ia cI 120 zA), (u.2.2.2.1, ia cI 120 zA), (u.2.2.2.2.1, ia cI 120 zA), (u.2.2.2.2.2.1, ia cI 120 zA), (u.2.2.2.2.2.2, ia cI 120 zA)]) (va_A [(q, .inr (0, [.null, .null, .null, .null, .null, .null, .null, .int 0]))] sz)) 7 840 (va_A [(q, .inr (0, [.null, .null, .null, .null, .null, .null, .null, .int 0]))] sz) := by
  refine va_MetF (cc := cX2_init) (maxL := 1) (ret := none) (by decide +kernel) rfl ?_
  intro p e s m args below meth c s₁ B hml hv
  obtain ⟨rfl, rfl, hz, hP, hD0⟩ := hv
  have F1 := B.exec
  have F2 := B.bytes
  have hr := B.returns
  have hts := atoms_spec (ws := wsX2_init) B.pre
  have hown : s.vm.findClass RX2 = some m.cls := findClass_of_methodNamed B.named
  have hlocks := B.notSynchronized
  have hin : meth.name = "<init>" := (name_of_methodNamed B.named B.method).1
  have hK := hz.1
  have hD := hD0.self (sz := s.heap.size)
  generalize hAe : va_A [(q, .inr (0, [.null, .null, .null, .null, .null, .null, .null, .int 0]))] s.heap.size = A at hD ⊢
  have hA : ∀ q : Nat, s.heap.size ≤ q → A q := fun q h => by rw [← hAe]; exact Or.inr h
  have hS : va_S A s.heap s.heap [] := va_S.rf
  have hl := lv_entry ([.ref q]) (n := 1) (Nat.le_of_ble_eq_true rfl)
  rw [lg_entry_eq]
  generalize (lg_sl ([.ref q]) ++ List.replicate (1 - (lg_sl ([.ref q])).length) Slot.unset).toArray = ls at hl ⊢
  have hl : lv_has ls 1 [(0, .ref q)] := hl
  refine lv_aload_n F1 F2 dX2_init_0 rfl (lv_at hl 0 rfl) ?_
  refine W.objInit F1 F2 hown (hts _ uX2_init_1) (hts _ uX2_init_2) (hts _ uX2_init_3) rfl (by rw [hml]; exact hl.1) rfl dX2_init_1 (Nat.le_of_ble_eq_true rfl) (Nat.le_of_ble_eq_true rfl) ?_
  refine W.eq (g2 := F0 m 4 ls []) rfl ?_
  refine lv_aload_n F1 F2 dX2_init_4 rfl (lv_at hl 0 rfl) ?_
  refine lv_bipush (v := (120 : Int32)) F1 F2 dX2_init_5 (by decide) ?_
  refine nw_arr (atype := .int) (ty := .int) (a0 := (120, .inl zA)) F1 F2 (hts _ uX2_init_4) rfl hK 0 rfl (fun _ => nw_I) hP hD hS hA (fun _ => rfl) (by decide) (by decide) (by decide) (Nat.le_of_ble_eq_true rfl) (Nat.le_of_ble_eq_true rfl) dX2_init_7 (fun q_7 H hP hD hS => ?_)
  have hP : va_P D vwCl [(q, .inr (0, [.null, .null, .null, .null, .null, .null, .null, .int 0])), (q_7, ia cI 120 zA)] H := hP
  have hD : va_D A [(q, .inr (0, [.null, .null, .null, .null, .null, .null, .null, .int 0])), (q_7, ia cI 120 zA)] := hD
  refine W.widen (k := 1) (n := 120) (by omega) (by omega) ?_
  refine va_putF (D := D) (ci := 0) (v := .ref q_7) (ty := .array .int) (C := RX2) (T := TX2) (N := 8) F1 F2 hts vX2_init_X2 tyX2 tyX2_ok nmX2 hown hK hP hD hS 0 rfl rfl 0 (by decide) (hts _ uX2_init_5) (fun _ h9 => h9) rfl hin rfl (by decide +kernel) rfl rfl (Nat.le_of_ble_eq_true rfl) dX2_init_9 (fun H locs hP hD hS => ?_)
  have hP : va_P D vwCl [(q, .inr (0, [.ref q_7, .null, .null, .null, .null, .null, .null, .int 0])), (q_7, ia cI 120 zA)] H := hP
  have hD : va_D A [(q, .inr (0, [.ref q_7, .null, .null, .null, .null, .null, .null, .int 0])), (q_7, ia cI 120 zA)] := hD
  refine lv_aload_n F1 F2 dX2_init_12 rfl (lv_at hl 0 rfl) ?_
  refine lv_bipush (v := (120 : Int32)) F1 F2 dX2_init_13 (by decide) ?_
  refine nw_arr (atype := .int) (ty := .int) (a0 := (120, .inl zA)) F1 F2 (hts _ uX2_init_4) rfl hK 0 rfl (fun _ => nw_I) hP hD hS hA (fun _ => rfl) (by decide) (by decide) (by decide) (Nat.le_of_ble_eq_true rfl) (Nat.le_of_ble_eq_true rfl) dX2_init_15 (fun q_15 H hP hD hS => ?_)
  have hP : va_P D vwCl [(q, .inr (0, [.ref q_7, .null, .null, .null, .null, .null, .null, .int 0])), (q_7, ia cI 120 zA), (q_15, ia cI 120 zA)] H := hP
  have hD : va_D A [(q, .inr (0, [.ref q_7, .null, .null, .null, .null, .null, .null, .int 0])), (q_7, ia cI 120 zA), (q_15, ia cI 120 zA)] := hD
  refine W.widen (k := 2) (n := 240) (by omega) (by omega) ?_
  refine va_putF (D := D) (ci := 0) (v := .ref q_15) (ty := .array .int) (C := RX2) (T := TX2) (N := 8) F1 F2 hts vX2_init_X2 tyX2 tyX2_ok nmX2 hown hK hP hD hS 0 rfl rfl 1 (by decide) (hts _ uX2_init_6) (fun _ h9 => h9) rfl hin rfl (by decide +kernel) rfl rfl (Nat.le_of_ble_eq_true rfl) dX2_init_17 (fun H locs hP hD hS => ?_)
  have hP : va_P D vwCl [(q, .inr (0, [.ref q_7, .ref q_15, .null, .null, .null, .null, .null, .int 0])), (q_7, ia cI 120 zA), (q_15, ia cI 120 zA)] H := hP
  have hD : va_D A [(q, .inr (0, [.ref q_7, .ref q_15, .null, .null, .null, .null, .null, .int 0])), (q_7, ia cI 120 zA), (q_15, ia cI 120 zA)] := hD
  refine lv_aload_n F1 F2 dX2_init_20 rfl (lv_at hl 0 rfl) ?_
  refine lv_bipush (v := (120 : Int32)) F1 F2 dX2_init_21 (by decide) ?_
  refine nw_arr (atype := .int) (ty := .int) (a0 := (120, .inl zA)) F1 F2 (hts _ uX2_init_4) rfl hK 0 rfl (fun _ => nw_I) hP hD hS hA (fun _ => rfl) (by decide) (by decide) (by decide) (Nat.le_of_ble_eq_true rfl) (Nat.le_of_ble_eq_true rfl) dX2_init_23 (fun q_23 H hP hD hS => ?_)
  have hP : va_P D vwCl [(q, .inr (0, [.ref q_7, .ref q_15, .null, .null, .null, .null, .null, .int 0])), (q_7, ia cI 120 zA), (q_15, ia cI 120 zA), (q_23, ia cI 120 zA)] H := hP
  have hD : va_D A [(q, .inr (0, [.ref q_7, .ref q_15, .null, .null, .null, .null, .null, .int 0])), (q_7, ia cI 120 zA), (q_15, ia cI 120 zA), (q_23, ia cI 120 zA)] := hD
  refine W.widen (k := 3) (n := 360) (by omega) (by omega) ?_
  refine va_putF (D := D) (ci := 0) (v := .ref q_23) (ty := .array .int) (C := RX2) (T := TX2) (N := 8) F1 F2 hts vX2_init_X2 tyX2 tyX2_ok nmX2 hown hK hP hD hS 0 rfl rfl 2 (by decide) (hts _ uX2_init_7) (fun _ h9 => h9) rfl hin rfl (by decide +kernel) rfl rfl (Nat.le_of_ble_eq_true rfl) dX2_init_25 (fun H locs hP hD hS => ?_)
  have hP : va_P D vwCl [(q, .inr (0, [.ref q_7, .ref q_15, .ref q_23, .null, .null, .null, .null, .int 0])), (q_7, ia cI 120 zA), (q_15, ia cI 120 zA), (q_23, ia cI 120 zA)] H := hP
  have hD : va_D A [(q, .inr (0, [.ref q_7, .ref q_15, .ref q_23, .null, .null, .null, .null, .int 0])), (q_7, ia cI 120 zA), (q_15, ia cI 120 zA), (q_23, ia cI 120 zA)] := hD
  refine lv_aload_n F1 F2 dX2_init_28 rfl (lv_at hl 0 rfl) ?_
  refine lv_bipush (v := (120 : Int32)) F1 F2 dX2_init_29 (by decide) ?_
  refine nw_arr (atype := .int) (ty := .int) (a0 := (120, .inl zA)) F1 F2 (hts _ uX2_init_4) rfl hK 0 rfl (fun _ => nw_I) hP hD hS hA (fun _ => rfl) (by decide) (by decide) (by decide) (Nat.le_of_ble_eq_true rfl) (Nat.le_of_ble_eq_true rfl) dX2_init_31 (fun q_31 H hP hD hS => ?_)
  have hP : va_P D vwCl [(q, .inr (0, [.ref q_7, .ref q_15, .ref q_23, .null, .null, .null, .null, .int 0])), (q_7, ia cI 120 zA), (q_15, ia cI 120 zA), (q_23, ia cI 120 zA), (q_31, ia cI 120 zA)] H := hP
  have hD : va_D A [(q, .inr (0, [.ref q_7, .ref q_15, .ref q_23, .null, .null, .null, .null, .int 0])), (q_7, ia cI 120 zA), (q_15, ia cI 120 zA), (q_23, ia cI 120 zA), (q_31, ia cI 120 zA)] := hD
  refine W.widen (k := 4) (n := 480) (by omega) (by omega) ?_
  refine va_putF (D := D) (ci := 0) (v := .ref q_31) (ty := .array .int) (C := RX2) (T := TX2) (N := 8) F1 F2 hts vX2_init_X2 tyX2 tyX2_ok nmX2 hown hK hP hD hS 0 rfl rfl 3 (by decide) (hts _ uX2_init_8) (fun _ h9 => h9) rfl hin rfl (by decide +kernel) rfl rfl (Nat.le_of_ble_eq_true rfl) dX2_init_33 (fun H locs hP hD hS => ?_)
  have hP : va_P D vwCl [(q, .inr (0, [.ref q_7, .ref q_15, .ref q_23, .ref q_31, .null, .null, .null, .int 0])), (q_7, ia cI 120 zA), (q_15, ia cI 120 zA), (q_23, ia cI 120 zA), (q_31, ia cI 120 zA)] H := hP
  have hD : va_D A [(q, .inr (0, [.ref q_7, .ref q_15, .ref q_23, .ref q_31, .null, .null, .null, .int 0])), (q_7, ia cI 120 zA), (q_15, ia cI 120 zA), (q_23, ia cI 120 zA), (q_31, ia cI 120 zA)] := hD
  refine lv_aload_n F1 F2 dX2_init_36 rfl (lv_at hl 0 rfl) ?_
  refine lv_bipush (v := (120 : Int32)) F1 F2 dX2_init_37 (by decide) ?_
  refine nw_arr (atype := .int) (ty := .int) (a0 := (120, .inl zA)) F1 F2 (hts _ uX2_init_4) rfl hK 0 rfl (fun _ => nw_I) hP hD hS hA (fun _ => rfl) (by decide) (by decide) (by decide) (Nat.le_of_ble_eq_true rfl) (Nat.le_of_ble_eq_true rfl) dX2_init_39 (fun q_39 H hP hD hS => ?_)
  have hP : va_P D vwCl [(q, .inr (0, [.ref q_7, .ref q_15, .ref q_23, .ref q_31, .null, .null, .null, .int 0])), (q_7, ia cI 120 zA), (q_15, ia cI 120 zA), (q_23, ia cI 120 zA), (q_31, ia cI 120 zA), (q_39, ia cI 120 zA)] H := hP
  have hD : va_D A [(q, .inr (0, [.ref q_7, .ref q_15, .ref q_23, .ref q_31, .null, .null, .null, .int 0])), (q_7, ia cI 120 zA), (q_15, ia cI 120 zA), (q_23, ia cI 120 zA), (q_31, ia cI 120 zA), (q_39, ia cI 120 zA)] := hD
  refine W.widen (k := 5) (n := 600) (by omega) (by omega) ?_
  refine va_putF (D := D) (ci := 0) (v := .ref q_39) (ty := .array .int) (C := RX2) (T := TX2) (N := 8) F1 F2 hts vX2_init_X2 tyX2 tyX2_ok nmX2 hown hK hP hD hS 0 rfl rfl 4 (by decide) (hts _ uX2_init_9) (fun _ h9 => h9) rfl hin rfl (by decide +kernel) rfl rfl (Nat.le_of_ble_eq_true rfl) dX2_init_41 (fun H locs hP hD hS => ?_)
  have hP : va_P D vwCl [(q, .inr (0, [.ref q_7, .ref q_15, .ref q_23, .ref q_31, .ref q_39, .null, .null, .int 0])), (q_7, ia cI 120 zA), (q_15, ia cI 120 zA), (q_23, ia cI 120 zA), (q_31, ia cI 120 zA), (q_39, ia cI 120 zA)] H := hP
  have hD : va_D A [(q, .inr (0, [.ref q_7, .ref q_15, .ref q_23, .ref q_31, .ref q_39, .null, .null, .int 0])), (q_7, ia cI 120 zA), (q_15, ia cI 120 zA), (q_23, ia cI 120 zA), (q_31, ia cI 120 zA), (q_39, ia cI 120 zA)] := hD
  refine lv_aload_n F1 F2 dX2_init_44 rfl (lv_at hl 0 rfl) ?_
  refine lv_bipush (v := (120 : Int32)) F1 F2 dX2_init_45 (by decide) ?_
  refine nw_arr (atype := .int) (ty := .int) (a0 := (120, .inl zA)) F1 F2 (hts _ uX2_init_4) rfl hK 0 rfl (fun _ => nw_I) hP hD hS hA (fun _ => rfl) (by decide) (by decide) (by decide) (Nat.le_of_ble_eq_true rfl) (Nat.le_of_ble_eq_true rfl) dX2_init_47 (fun q_47 H hP hD hS => ?_)
  have hP : va_P D vwCl [(q, .inr (0, [.ref q_7, .ref q_15, .ref q_23, .ref q_31, .ref q_39, .null, .null, .int 0])), (q_7, ia cI 120 zA), (q_15, ia cI 120 zA), (q_23, ia cI 120 zA), (q_31, ia cI 120 zA), (q_39, ia cI 120 zA), (q_47, ia cI 120 zA)] H := hP
  have hD : va_D A [(q, .inr (0, [.ref q_7, .ref q_15, .ref q_23, .ref q_31, .ref q_39, .null, .null, .int 0])), (q_7, ia cI 120 zA), (q_15, ia cI 120 zA), (q_23, ia cI 120 zA), (q_31, ia cI 120 zA), (q_39, ia cI 120 zA), (q_47, ia cI 120 zA)] := hD
  refine W.widen (k := 6) (n := 720) (by omega) (by omega) ?_
  refine va_putF (D := D) (ci := 0) (v := .ref q_47) (ty := .array .int) (C := RX2) (T := TX2) (N := 8) F1 F2 hts vX2_init_X2 tyX2 tyX2_ok nmX2 hown hK hP hD hS 0 rfl rfl 5 (by decide) (hts _ uX2_init_10) (fun _ h9 => h9) rfl hin rfl (by decide +kernel) rfl rfl (Nat.le_of_ble_eq_true rfl) dX2_init_49 (fun H locs hP hD hS => ?_)
  have hP : va_P D vwCl [(q, .inr (0, [.ref q_7, .ref q_15, .ref q_23, .ref q_31, .ref q_39, .ref q_47, .null, .int 0])), (q_7, ia cI 120 zA), (q_15, ia cI 120 zA), (q_23, ia cI 120 zA), (q_31, ia cI 120 zA), (q_39, ia cI 120 zA), (q_47, ia cI 120 zA)] H := hP
  have hD : va_D A [(q, .inr (0, [.ref q_7, .ref q_15, .ref q_23, .ref q_31, .ref q_39, .ref q_47, .null, .int 0])), (q_7, ia cI 120 zA), (q_15, ia cI 120 zA), (q_23, ia cI 120 zA), (q_31, ia cI 120 zA), (q_39, ia cI 120 zA), (q_47, ia cI 120 zA)] := hD
  refine lv_aload_n F1 F2 dX2_init_52 rfl (lv_at hl 0 rfl) ?_
  refine lv_bipush (v := (120 : Int32)) F1 F2 dX2_init_53 (by decide) ?_
  refine nw_arr (atype := .int) (ty := .int) (a0 := (120, .inl zA)) F1 F2 (hts _ uX2_init_4) rfl hK 0 rfl (fun _ => nw_I) hP hD hS hA (fun _ => rfl) (by decide) (by decide) (by decide) (Nat.le_of_ble_eq_true rfl) (Nat.le_of_ble_eq_true rfl) dX2_init_55 (fun q_55 H hP hD hS => ?_)
  have hP : va_P D vwCl [(q, .inr (0, [.ref q_7, .ref q_15, .ref q_23, .ref q_31, .ref q_39, .ref q_47, .null, .int 0])), (q_7, ia cI 120 zA), (q_15, ia cI 120 zA), (q_23, ia cI 120 zA), (q_31, ia cI 120 zA), (q_39, ia cI 120 zA), (q_47, ia cI 120 zA), (q_55, ia cI 120 zA)] H := hP
  have hD : va_D A [(q, .inr (0, [.ref q_7, .ref q_15, .ref q_23, .ref q_31, .ref q_39, .ref q_47, .null, .int 0])), (q_7, ia cI 120 zA), (q_15, ia cI 120 zA), (q_23, ia cI 120 zA), (q_31, ia cI 120 zA), (q_39, ia cI 120 zA), (q_47, ia cI 120 zA), (q_55, ia cI 120 zA)] := hD
  refine W.widen (k := 7) (n := 840) (by omega) (by omega) ?_
  refine va_putF (D := D) (ci := 0) (v := .ref q_55) (ty := .array .int) (C := RX2) (T := TX2) (N := 8) F1 F2 hts vX2_init_X2 tyX2 tyX2_ok nmX2 hown hK hP hD hS 0 rfl rfl 6 (by decide) (hts _ uX2_init_11) (fun _ h9 => h9) rfl hin rfl (by decide +kernel) rfl rfl (Nat.le_of_ble_eq_true rfl) dX2_init_57 (fun H locs hP hD hS => ?_)
  have hP : va_P D vwCl [(q, .inr (0, [.ref q_7, .ref q_15, .ref q_23, .ref q_31, .ref q_39, .ref q_47, .ref q_55, .int 0])), (q_7, ia cI 120 zA), (q_15, ia cI 120 zA), (q_23, ia cI 120 zA), (q_31, ia cI 120 zA), (q_39, ia cI 120 zA), (q_47, ia cI 120 zA), (q_55, ia cI 120 zA)] H := hP
  have hD : va_D A [(q, .inr (0, [.ref q_7, .ref q_15, .ref q_23, .ref q_31, .ref q_39, .ref q_47, .ref q_55, .int 0])), (q_7, ia cI 120 zA), (q_15, ia cI 120 zA), (q_23, ia cI 120 zA), (q_31, ia cI 120 zA), (q_39, ia cI 120 zA), (q_47, ia cI 120 zA), (q_55, ia cI 120 zA)] := hD
  refine lv_aload_n F1 F2 dX2_init_60 rfl (lv_at hl 0 rfl) ?_
  refine lv_iconst (v := (0 : Int32)) F1 F2 dX2_init_61 (by decide) ?_
  refine va_put (D := D) (ci := 0) (v := .int 0) (ty := .int) (C := RX2) (T := TX2) (N := 8) F1 F2 hts vX2_init_X2 tyX2 tyX2_ok nmX2 hown hK hP hD hS 0 rfl rfl 7 (by decide) (hts _ uX2_init_12) (fun _ h9 => h9) rfl (by decide +kernel) rfl rfl (Nat.le_of_ble_eq_true rfl) dX2_init_62 (fun H locs hP hD hS => ?_)
  have hP : va_P D vwCl [(q, .inr (0, [.ref q_7, .ref q_15, .ref q_23, .ref q_31, .ref q_39, .ref q_47, .ref q_55, .int 0])), (q_7, ia cI 120 zA), (q_15, ia cI 120 zA), (q_23, ia cI 120 zA), (q_31, ia cI 120 zA), (q_39, ia cI 120 zA), (q_47, ia cI 120 zA), (q_55, ia cI 120 zA)] H := hP
  have hD : va_D A [(q, .inr (0, [.ref q_7, .ref q_15, .ref q_23, .ref q_31, .ref q_39, .ref q_47, .ref q_55, .int 0])), (q_7, ia cI 120 zA), (q_15, ia cI 120 zA), (q_23, ia cI 120 zA), (q_31, ia cI 120 zA), (q_39, ia cI 120 zA), (q_47, ia cI 120 zA), (q_55, ia cI 120 zA)] := hD
  exact W.vret F1 F2 hr (fun t ht hW => ⟨⟨(q_7, q_15, q_23, q_31, q_39, q_47, q_55), rfl, trivial, (by show va_P D vwCl [(q, .inr (0, [.ref q_7, .ref q_15, .ref q_23, .ref q_31, .ref q_39, .ref q_47, .ref q_55, .int 0])), (q_7, ia cI 120 zA), (q_15, ia cI 120 zA), (q_23, ia cI 120 zA), (q_31, ia cI 120 zA), (q_39, ia cI 120 zA), (q_47, ia cI 120 zA), (q_55, ia cI 120 zA)] t.heap; rw [ht]; exact hP), hD⟩, hS.F ht⟩) hS.2.2 dX2_init_65
theorem uX4_init_1 : Cond.methodLink RX4 1 objectInit ∈ wsX4_init := List.mem_of_getElem? (i := 1) rfl
theorem uX4_init_2 : Cond.instanceMethod objectInit ∈ wsX4_init := List.mem_of_getElem? (i := 2) rfl
theorem uX4_init_3 : Cond.code objectInit ⟨#[0xb1]⟩ 1 none ∈ wsX4_init := List.mem_of_getElem? (i := 3) rfl
theorem uX4_init_4 : Cond.arrayClass .int ∈ wsX4_init := List.mem_of_getElem? (i := 4) rfl
theorem vX4_init_X4 : ∀ w ∈ wsX40, w ∈ wsX4_init := fun _ h => List.mem_cons_of_mem _ (List.mem_append_right _ h)
theorem uX4_init_5 : Cond.fieldLink RX4 9 "SumMoved$Switches" "before" "[I" ∈ wsX4_init := List.mem_of_getElem? (i := 5) rfl
theorem uX4_init_6 : Cond.fieldLink RX4 13 "SumMoved$Switches" "after" "[I" ∈ wsX4_init := List.mem_of_getElem? (i := 6) rfl
abbrev rX4_init : Room := { frames := 1, cells := 2, slots := 10, locals := 12 }
set_option maxHeartbeats 4000000 in
set_option maxRecDepth 100000 in
theorem mX4_init {l : Launch} {D : va_G} {cI cJ cZ : ClassId} {q : Nat} (sz : Nat) : Met l yX4_init wsX4_init rX4_init (va_Pc [.ref q] (wp D cI cJ cZ sz [(q, .inr (2, [.null, .null]))])) (va_Qv (S := Nat × Nat) (fun _ : Nat × Nat => True) (fun (u : Nat × Nat) (t : State) => va_P D vwCl [(q, .inr (2, [.ref u.1, .ref u.2])), (u.1, ia cI 5 zA), (u.2, ia cI 5 zA)] t.heap ∧ va_D (va_A [(q, .inr (2, [.null, .null]))] sz) [(q, .inr (2, [.ref u.1, .ref u.2])), (u.1, ia cI 5 zA), (u.2, ia cI 5 zA)]) (va_A [(q, .inr (2, [.null, .null]))] sz)) 2 10 (va_A [(q, .inr (2, [.null, .null]))] sz) := by
  refine va_MetF (cc := cX4_init) (maxL := 1) (ret := none) (by decide +kernel) rfl ?_
  intro p e s m args below meth c s₁ B hml hv
  obtain ⟨rfl, rfl, hz, hP, hD0⟩ := hv
  have F1 := B.exec
  have F2 := B.bytes
  have hr := B.returns
  have hts := atoms_spec (ws := wsX4_init) B.pre
  have hown : s.vm.findClass RX4 = some m.cls := findClass_of_methodNamed B.named
  have hlocks := B.notSynchronized
  have hin : meth.name = "<init>" := (name_of_methodNamed B.named B.method).1
  have hK := hz.1
  have hD := hD0.self (sz := s.heap.size)
  generalize hAe : va_A [(q, .inr (2, [.null, .null]))] s.heap.size = A at hD ⊢
  have hA : ∀ q : Nat, s.heap.size ≤ q → A q := fun q h => by rw [← hAe]; exact Or.inr h
  have hS : va_S A s.heap s.heap [] := va_S.rf
  have hl := lv_entry ([.ref q]) (n := 1) (Nat.le_of_ble_eq_true rfl)
  rw [lg_entry_eq]
  generalize (lg_sl ([.ref q]) ++ List.replicate (1 - (lg_sl ([.ref q])).length) Slot.unset).toArray = ls at hl ⊢
  have hl : lv_has ls 1 [(0, .ref q)] := hl
  refine lv_aload_n F1 F2 dX4_init_0 rfl (lv_at hl 0 rfl) ?_
  refine W.objInit F1 F2 hown (hts _ uX4_init_1) (hts _ uX4_init_2) (hts _ uX4_init_3) rfl (by rw [hml]; exact hl.1) rfl dX4_init_1 (Nat.le_of_ble_eq_true rfl) (Nat.le_of_ble_eq_true rfl) ?_
  refine W.eq (g2 := F0 m 4 ls []) rfl ?_
  refine lv_aload_n F1 F2 dX4_init_4 rfl (lv_at hl 0 rfl) ?_
  refine lv_iconst (v := (5 : Int32)) F1 F2 dX4_init_5 (by decide) ?_
  refine nw_arr (atype := .int) (ty := .int) (a0 := (5, .inl zA)) F1 F2 (hts _ uX4_init_4) rfl hK 0 rfl (fun _ => nw_I) hP hD hS hA (fun _ => rfl) (by decide) (by decide) (by decide) (Nat.le_of_ble_eq_true rfl) (Nat.le_of_ble_eq_true rfl) dX4_init_6 (fun q_6 H hP hD hS => ?_)
  have hP : va_P D vwCl [(q, .inr (2, [.null, .null])), (q_6, ia cI 5 zA)] H := hP
  have hD : va_D A [(q, .inr (2, [.null, .null])), (q_6, ia cI 5 zA)] := hD
  refine W.widen (k := 1) (n := 5) (by omega) (by omega) ?_
  refine va_putF (D := D) (ci := 2) (v := .ref q_6) (ty := .array .int) (C := RX4) (T := TX4) (N := 2) F1 F2 hts vX4_init_X4 tyX4 tyX4_ok nmX4 hown hK hP hD hS 0 rfl rfl 0 (by decide) (hts _ uX4_init_5) (fun _ h9 => h9) rfl hin rfl (by decide +kernel) rfl rfl (Nat.le_of_ble_eq_true rfl) dX4_init_8 (fun H locs hP hD hS => ?_)
  have hP : va_P D vwCl [(q, .inr (2, [.ref q_6, .null])), (q_6, ia cI 5 zA)] H := hP
  have hD : va_D A [(q, .inr (2, [.ref q_6, .null])), (q_6, ia cI 5 zA)] := hD
  refine lv_aload_n F1 F2 dX4_init_11 rfl (lv_at hl 0 rfl) ?_
  refine lv_iconst (v := (5 : Int32)) F1 F2 dX4_init_12 (by decide) ?_
  refine nw_arr (atype := .int) (ty := .int) (a0 := (5, .inl zA)) F1 F2 (hts _ uX4_init_4) rfl hK 0 rfl (fun _ => nw_I) hP hD hS hA (fun _ => rfl) (by decide) (by decide) (by decide) (Nat.le_of_ble_eq_true rfl) (Nat.le_of_ble_eq_true rfl) dX4_init_13 (fun q_13 H hP hD hS => ?_)
  have hP : va_P D vwCl [(q, .inr (2, [.ref q_6, .null])), (q_6, ia cI 5 zA), (q_13, ia cI 5 zA)] H := hP
  have hD : va_D A [(q, .inr (2, [.ref q_6, .null])), (q_6, ia cI 5 zA), (q_13, ia cI 5 zA)] := hD
  refine W.widen (k := 2) (n := 10) (by omega) (by omega) ?_
  refine va_putF (D := D) (ci := 2) (v := .ref q_13) (ty := .array .int) (C := RX4) (T := TX4) (N := 2) F1 F2 hts vX4_init_X4 tyX4 tyX4_ok nmX4 hown hK hP hD hS 0 rfl rfl 1 (by decide) (hts _ uX4_init_6) (fun _ h9 => h9) rfl hin rfl (by decide +kernel) rfl rfl (Nat.le_of_ble_eq_true rfl) dX4_init_15 (fun H locs hP hD hS => ?_)
  have hP : va_P D vwCl [(q, .inr (2, [.ref q_6, .ref q_13])), (q_6, ia cI 5 zA), (q_13, ia cI 5 zA)] H := hP
  have hD : va_D A [(q, .inr (2, [.ref q_6, .ref q_13])), (q_6, ia cI 5 zA), (q_13, ia cI 5 zA)] := hD
  exact W.vret F1 F2 hr (fun t ht hW => ⟨⟨(q_6, q_13), rfl, trivial, (by show va_P D vwCl [(q, .inr (2, [.ref q_6, .ref q_13])), (q_6, ia cI 5 zA), (q_13, ia cI 5 zA)] t.heap; rw [ht]; exact hP), hD⟩, hS.F ht⟩) hS.2.2 dX4_init_18
theorem uX3_init_1 : Cond.methodLink RX3 3 objectInit ∈ wsX3_init := List.mem_of_getElem? (i := 1) rfl
theorem uX3_init_2 : Cond.instanceMethod objectInit ∈ wsX3_init := List.mem_of_getElem? (i := 2) rfl
theorem uX3_init_3 : Cond.code objectInit ⟨#[0xb1]⟩ 1 none ∈ wsX3_init := List.mem_of_getElem? (i := 3) rfl
theorem vX3_init_X3 : ∀ w ∈ wsX30, w ∈ wsX3_init := fun _ h => List.mem_cons_of_mem _ (List.mem_append_right _ h)
theorem uX3_init_4 : Cond.fieldLink RX3 9 "SumMoved$Stories" "rows" "LSumMoved$Rows;" ∈ wsX3_init := List.mem_of_getElem? (i := 4) rfl
theorem uX3_init_5 : Cond.arrayClass .int ∈ wsX3_init := List.mem_of_getElem? (i := 5) rfl
theorem uX3_init_6 : Cond.fieldLink RX3 15 "SumMoved$Stories" "heaps" "[I" ∈ wsX3_init := List.mem_of_getElem? (i := 6) rfl
theorem uX3_init_7 : Cond.fieldLink RX3 19 "SumMoved$Stories" "changes" "[I" ∈ wsX3_init := List.mem_of_getElem? (i := 7) rfl
theorem uX3_init_8 : Cond.fieldLink RX3 22 "SumMoved$Stories" "tests" "[I" ∈ wsX3_init := List.mem_of_getElem? (i := 8) rfl
theorem uX3_init_9 : Cond.arrayClass .long ∈ wsX3_init := List.mem_of_getElem? (i := 9) rfl
theorem uX3_init_10 : Cond.fieldLink RX3 25 "SumMoved$Stories" "lowBits" "[J" ∈ wsX3_init := List.mem_of_getElem? (i := 10) rfl
theorem uX3_init_11 : Cond.fieldLink RX3 29 "SumMoved$Stories" "highBits" "[J" ∈ wsX3_init := List.mem_of_getElem? (i := 11) rfl
theorem uX3_init_12 : Cond.fieldLink RX3 32 "SumMoved$Stories" "size" "I" ∈ wsX3_init := List.mem_of_getElem? (i := 12) rfl
theorem uX3_init_13 : Cond.fieldLink RX3 36 "SumMoved$Stories" "expected" "I" ∈ wsX3_init := List.mem_of_getElem? (i := 13) rfl
theorem uX3_init_14 : Cond.fieldLink RX3 39 "SumMoved$Stories" "found" "Z" ∈ wsX3_init := List.mem_of_getElem? (i := 14) rfl
abbrev rX3_init : Room := { frames := 1, cells := 5, slots := 1080, locals := 12 }
set_option maxHeartbeats 4000000 in
set_option maxRecDepth 100000 in
theorem mX3_init {l : Launch} {D : va_G} {cI cJ cZ : ClassId} {q : Nat} {qr : Nat} (sz : Nat) : Met l yX3_init wsX3_init rX3_init (va_Pc [.ref q, .ref qr] (wp D cI cJ cZ sz [(q, .inr (1, [.null, .null, .null, .null, .null, .null, .int 0, .int 0, .int 0, .int 0, .int 0, .int 0, .int 0, .int 0]))])) (va_Qv (S := Nat × Nat × Nat × Nat × Nat) (fun _ : Nat × Nat × Nat × Nat × Nat => True) (fun (u : Nat × Nat × Nat × Nat × Nat) (t : State) => va_P D vwCl [(q, .inr (1, [.ref qr, .ref u.1, .ref u.2.1, .ref u.2.2.1, .ref u.2.2.2.1, .ref u.2.2.2.2, .int 0, .int 0, .int 0, .int 0, .int 0, .int 0, .int 0, .int 0])), (u.1, ia cI 216 zA), (u.2.1, ia cI 216 zA), (u.2.2.1, ia cI 216 zA), (u.2.2.2.1, la cJ 216 zL), (u.2.2.2.2, la cJ 216 zL)] t.heap ∧ va_D (va_A [(q, .inr (1, [.null, .null, .null, .null, .null, .null, .int 0, .int 0, .int 0, .int 0, .int 0, .int 0, .int 0, .int 0]))] sz) [(q, .inr (1, [.ref qr, .ref u.1, .ref u.2.1, .ref u.2.2.1, .ref u.2.2.2.1, .ref u.2.2.2.2, .int 0, .int 0, .int 0, .int 0, .int 0, .int 0, .int 0, .int 0])), (u.1, ia cI 216 zA), (u.2.1, ia cI 216 zA), (u.2.2.1, ia cI 216 zA), (u.2.2.2.1, la cJ 216 zL), (u.2.2.2.2, la cJ 216 zL)]) (va_A [(q, .inr (1, [.null, .null, .null, .null, .null, .null, .int 0, .int 0, .int 0, .int 0, .int 0, .int 0, .int 0, .int 0]))] sz)) 5 1080 (va_A [(q, .inr (1, [.null, .null, .null, .null, .null, .null, .int 0, .int 0, .int 0, .int 0, .int 0, .int 0, .int 0, .int 0]))] sz) := by
  refine va_MetF (cc := cX3_init) (maxL := 2) (ret := none) (by decide +kernel) rfl ?_
  intro p e s m args below meth c s₁ B hml hv
  obtain ⟨rfl, rfl, hz, hP, hD0⟩ := hv
  have F1 := B.exec
  have F2 := B.bytes
  have hr := B.returns
  have hts := atoms_spec (ws := wsX3_init) B.pre
  have hown : s.vm.findClass RX3 = some m.cls := findClass_of_methodNamed B.named
  have hlocks := B.notSynchronized
  have hin : meth.name = "<init>" := (name_of_methodNamed B.named B.method).1
  have hK := hz.1
  have hD := hD0.self (sz := s.heap.size)
  generalize hAe : va_A [(q, .inr (1, [.null, .null, .null, .null, .null, .null, .int 0, .int 0, .int 0, .int 0, .int 0, .int 0, .int 0, .int 0]))] s.heap.size = A at hD ⊢
  have hA : ∀ q : Nat, s.heap.size ≤ q → A q := fun q h => by rw [← hAe]; exact Or.inr h
  have hS : va_S A s.heap s.heap [] := va_S.rf
  have hl := lv_entry ([.ref q, .ref qr]) (n := 2) (Nat.le_of_ble_eq_true rfl)
  rw [lg_entry_eq]
  generalize (lg_sl ([.ref q, .ref qr]) ++ List.replicate (2 - (lg_sl ([.ref q, .ref qr])).length) Slot.unset).toArray = ls at hl ⊢
  have hl : lv_has ls 2 [(0, .ref q), (1, .ref qr)] := hl
  refine lv_aload_n F1 F2 dX3_init_0 rfl (lv_at hl 0 rfl) ?_
  refine W.objInit F1 F2 hown (hts _ uX3_init_1) (hts _ uX3_init_2) (hts _ uX3_init_3) rfl (by rw [hml]; exact hl.1) rfl dX3_init_1 (Nat.le_of_ble_eq_true rfl) (Nat.le_of_ble_eq_true rfl) ?_
  refine W.eq (g2 := F0 m 4 ls []) rfl ?_
  refine lv_aload_n F1 F2 dX3_init_4 rfl (lv_at hl 0 rfl) ?_
  refine lv_aload_n F1 F2 dX3_init_5 rfl (lv_at hl 1 rfl) ?_
  refine va_putF (D := D) (ci := 1) (v := .ref qr) (ty := .object "SumMoved$Rows") (C := RX3) (T := TX3) (N := 14) F1 F2 hts vX3_init_X3 tyX3 tyX3_ok nmX3 hown hK hP hD hS 0 rfl rfl 0 (by decide) (hts _ uX3_init_4) (fun _ h9 => h9) rfl hin rfl (by decide +kernel) rfl rfl (Nat.le_of_ble_eq_true rfl) dX3_init_6 (fun H locs hP hD hS => ?_)
  have hP : va_P D vwCl [(q, .inr (1, [.ref qr, .null, .null, .null, .null, .null, .int 0, .int 0, .int 0, .int 0, .int 0, .int 0, .int 0, .int 0]))] H := hP
  have hD : va_D A [(q, .inr (1, [.ref qr, .null, .null, .null, .null, .null, .int 0, .int 0, .int 0, .int 0, .int 0, .int 0, .int 0, .int 0]))] := hD
  refine lv_aload_n F1 F2 dX3_init_9 rfl (lv_at hl 0 rfl) ?_
  refine lv_sipush (v := (216 : Int32)) F1 F2 dX3_init_10 (by decide) ?_
  refine nw_arr (atype := .int) (ty := .int) (a0 := (216, .inl zA)) F1 F2 (hts _ uX3_init_5) rfl hK 0 rfl (fun _ => nw_I) hP hD hS hA (fun _ => rfl) (by decide) (by decide) (by decide) (Nat.le_of_ble_eq_true rfl) (Nat.le_of_ble_eq_true rfl) dX3_init_13 (fun q_13 H hP hD hS => ?_)
  have hP : va_P D vwCl [(q, .inr (1, [.ref qr, .null, .null, .null, .null, .null, .int 0, .int 0, .int 0, .int 0, .int 0, .int 0, .int 0, .int 0])), (q_13, ia cI 216 zA)] H := hP
  have hD : va_D A [(q, .inr (1, [.ref qr, .null, .null, .null, .null, .null, .int 0, .int 0, .int 0, .int 0, .int 0, .int 0, .int 0, .int 0])), (q_13, ia cI 216 zA)] := hD
  refine W.widen (k := 1) (n := 216) (by omega) (by omega) ?_
  refine va_putF (D := D) (ci := 1) (v := .ref q_13) (ty := .array .int) (C := RX3) (T := TX3) (N := 14) F1 F2 hts vX3_init_X3 tyX3 tyX3_ok nmX3 hown hK hP hD hS 0 rfl rfl 1 (by decide) (hts _ uX3_init_6) (fun _ h9 => h9) rfl hin rfl (by decide +kernel) rfl rfl (Nat.le_of_ble_eq_true rfl) dX3_init_15 (fun H locs hP hD hS => ?_)
  have hP : va_P D vwCl [(q, .inr (1, [.ref qr, .ref q_13, .null, .null, .null, .null, .int 0, .int 0, .int 0, .int 0, .int 0, .int 0, .int 0, .int 0])), (q_13, ia cI 216 zA)] H := hP
  have hD : va_D A [(q, .inr (1, [.ref qr, .ref q_13, .null, .null, .null, .null, .int 0, .int 0, .int 0, .int 0, .int 0, .int 0, .int 0, .int 0])), (q_13, ia cI 216 zA)] := hD
  refine lv_aload_n F1 F2 dX3_init_18 rfl (lv_at hl 0 rfl) ?_
  refine lv_sipush (v := (216 : Int32)) F1 F2 dX3_init_19 (by decide) ?_
  refine nw_arr (atype := .int) (ty := .int) (a0 := (216, .inl zA)) F1 F2 (hts _ uX3_init_5) rfl hK 0 rfl (fun _ => nw_I) hP hD hS hA (fun _ => rfl) (by decide) (by decide) (by decide) (Nat.le_of_ble_eq_true rfl) (Nat.le_of_ble_eq_true rfl) dX3_init_22 (fun q_22 H hP hD hS => ?_)
  have hP : va_P D vwCl [(q, .inr (1, [.ref qr, .ref q_13, .null, .null, .null, .null, .int 0, .int 0, .int 0, .int 0, .int 0, .int 0, .int 0, .int 0])), (q_13, ia cI 216 zA), (q_22, ia cI 216 zA)] H := hP
  have hD : va_D A [(q, .inr (1, [.ref qr, .ref q_13, .null, .null, .null, .null, .int 0, .int 0, .int 0, .int 0, .int 0, .int 0, .int 0, .int 0])), (q_13, ia cI 216 zA), (q_22, ia cI 216 zA)] := hD
  refine W.widen (k := 2) (n := 432) (by omega) (by omega) ?_
  refine va_putF (D := D) (ci := 1) (v := .ref q_22) (ty := .array .int) (C := RX3) (T := TX3) (N := 14) F1 F2 hts vX3_init_X3 tyX3 tyX3_ok nmX3 hown hK hP hD hS 0 rfl rfl 2 (by decide) (hts _ uX3_init_7) (fun _ h9 => h9) rfl hin rfl (by decide +kernel) rfl rfl (Nat.le_of_ble_eq_true rfl) dX3_init_24 (fun H locs hP hD hS => ?_)
  have hP : va_P D vwCl [(q, .inr (1, [.ref qr, .ref q_13, .ref q_22, .null, .null, .null, .int 0, .int 0, .int 0, .int 0, .int 0, .int 0, .int 0, .int 0])), (q_13, ia cI 216 zA), (q_22, ia cI 216 zA)] H := hP
  have hD : va_D A [(q, .inr (1, [.ref qr, .ref q_13, .ref q_22, .null, .null, .null, .int 0, .int 0, .int 0, .int 0, .int 0, .int 0, .int 0, .int 0])), (q_13, ia cI 216 zA), (q_22, ia cI 216 zA)] := hD
  refine lv_aload_n F1 F2 dX3_init_27 rfl (lv_at hl 0 rfl) ?_
  refine lv_sipush (v := (216 : Int32)) F1 F2 dX3_init_28 (by decide) ?_
  refine nw_arr (atype := .int) (ty := .int) (a0 := (216, .inl zA)) F1 F2 (hts _ uX3_init_5) rfl hK 0 rfl (fun _ => nw_I) hP hD hS hA (fun _ => rfl) (by decide) (by decide) (by decide) (Nat.le_of_ble_eq_true rfl) (Nat.le_of_ble_eq_true rfl) dX3_init_31 (fun q_31 H hP hD hS => ?_)
  have hP : va_P D vwCl [(q, .inr (1, [.ref qr, .ref q_13, .ref q_22, .null, .null, .null, .int 0, .int 0, .int 0, .int 0, .int 0, .int 0, .int 0, .int 0])), (q_13, ia cI 216 zA), (q_22, ia cI 216 zA), (q_31, ia cI 216 zA)] H := hP
  have hD : va_D A [(q, .inr (1, [.ref qr, .ref q_13, .ref q_22, .null, .null, .null, .int 0, .int 0, .int 0, .int 0, .int 0, .int 0, .int 0, .int 0])), (q_13, ia cI 216 zA), (q_22, ia cI 216 zA), (q_31, ia cI 216 zA)] := hD
  refine W.widen (k := 3) (n := 648) (by omega) (by omega) ?_
  refine va_putF (D := D) (ci := 1) (v := .ref q_31) (ty := .array .int) (C := RX3) (T := TX3) (N := 14) F1 F2 hts vX3_init_X3 tyX3 tyX3_ok nmX3 hown hK hP hD hS 0 rfl rfl 3 (by decide) (hts _ uX3_init_8) (fun _ h9 => h9) rfl hin rfl (by decide +kernel) rfl rfl (Nat.le_of_ble_eq_true rfl) dX3_init_33 (fun H locs hP hD hS => ?_)
  have hP : va_P D vwCl [(q, .inr (1, [.ref qr, .ref q_13, .ref q_22, .ref q_31, .null, .null, .int 0, .int 0, .int 0, .int 0, .int 0, .int 0, .int 0, .int 0])), (q_13, ia cI 216 zA), (q_22, ia cI 216 zA), (q_31, ia cI 216 zA)] H := hP
  have hD : va_D A [(q, .inr (1, [.ref qr, .ref q_13, .ref q_22, .ref q_31, .null, .null, .int 0, .int 0, .int 0, .int 0, .int 0, .int 0, .int 0, .int 0])), (q_13, ia cI 216 zA), (q_22, ia cI 216 zA), (q_31, ia cI 216 zA)] := hD
  refine lv_aload_n F1 F2 dX3_init_36 rfl (lv_at hl 0 rfl) ?_
  refine lv_sipush (v := (216 : Int32)) F1 F2 dX3_init_37 (by decide) ?_
  refine nw_arr (atype := .long) (ty := .long) (a0 := (216, .inr (.inl zL))) F1 F2 (hts _ uX3_init_9) rfl hK 1 rfl (fun _ => nw_J) hP hD hS hA (fun _ => rfl) (by decide) (by decide) (by decide) (Nat.le_of_ble_eq_true rfl) (Nat.le_of_ble_eq_true rfl) dX3_init_40 (fun q_40 H hP hD hS => ?_)
  have hP : va_P D vwCl [(q, .inr (1, [.ref qr, .ref q_13, .ref q_22, .ref q_31, .null, .null, .int 0, .int 0, .int 0, .int 0, .int 0, .int 0, .int 0, .int 0])), (q_13, ia cI 216 zA), (q_22, ia cI 216 zA), (q_31, ia cI 216 zA), (q_40, la cJ 216 zL)] H := hP
  have hD : va_D A [(q, .inr (1, [.ref qr, .ref q_13, .ref q_22, .ref q_31, .null, .null, .int 0, .int 0, .int 0, .int 0, .int 0, .int 0, .int 0, .int 0])), (q_13, ia cI 216 zA), (q_22, ia cI 216 zA), (q_31, ia cI 216 zA), (q_40, la cJ 216 zL)] := hD
  refine W.widen (k := 4) (n := 864) (by omega) (by omega) ?_
  refine va_putF (D := D) (ci := 1) (v := .ref q_40) (ty := .array .long) (C := RX3) (T := TX3) (N := 14) F1 F2 hts vX3_init_X3 tyX3 tyX3_ok nmX3 hown hK hP hD hS 0 rfl rfl 4 (by decide) (hts _ uX3_init_10) (fun _ h9 => h9) rfl hin rfl (by decide +kernel) rfl rfl (Nat.le_of_ble_eq_true rfl) dX3_init_42 (fun H locs hP hD hS => ?_)
  have hP : va_P D vwCl [(q, .inr (1, [.ref qr, .ref q_13, .ref q_22, .ref q_31, .ref q_40, .null, .int 0, .int 0, .int 0, .int 0, .int 0, .int 0, .int 0, .int 0])), (q_13, ia cI 216 zA), (q_22, ia cI 216 zA), (q_31, ia cI 216 zA), (q_40, la cJ 216 zL)] H := hP
  have hD : va_D A [(q, .inr (1, [.ref qr, .ref q_13, .ref q_22, .ref q_31, .ref q_40, .null, .int 0, .int 0, .int 0, .int 0, .int 0, .int 0, .int 0, .int 0])), (q_13, ia cI 216 zA), (q_22, ia cI 216 zA), (q_31, ia cI 216 zA), (q_40, la cJ 216 zL)] := hD
  refine lv_aload_n F1 F2 dX3_init_45 rfl (lv_at hl 0 rfl) ?_
  refine lv_sipush (v := (216 : Int32)) F1 F2 dX3_init_46 (by decide) ?_
  refine nw_arr (atype := .long) (ty := .long) (a0 := (216, .inr (.inl zL))) F1 F2 (hts _ uX3_init_9) rfl hK 1 rfl (fun _ => nw_J) hP hD hS hA (fun _ => rfl) (by decide) (by decide) (by decide) (Nat.le_of_ble_eq_true rfl) (Nat.le_of_ble_eq_true rfl) dX3_init_49 (fun q_49 H hP hD hS => ?_)
  have hP : va_P D vwCl [(q, .inr (1, [.ref qr, .ref q_13, .ref q_22, .ref q_31, .ref q_40, .null, .int 0, .int 0, .int 0, .int 0, .int 0, .int 0, .int 0, .int 0])), (q_13, ia cI 216 zA), (q_22, ia cI 216 zA), (q_31, ia cI 216 zA), (q_40, la cJ 216 zL), (q_49, la cJ 216 zL)] H := hP
  have hD : va_D A [(q, .inr (1, [.ref qr, .ref q_13, .ref q_22, .ref q_31, .ref q_40, .null, .int 0, .int 0, .int 0, .int 0, .int 0, .int 0, .int 0, .int 0])), (q_13, ia cI 216 zA), (q_22, ia cI 216 zA), (q_31, ia cI 216 zA), (q_40, la cJ 216 zL), (q_49, la cJ 216 zL)] := hD
  refine W.widen (k := 5) (n := 1080) (by omega) (by omega) ?_
  refine va_putF (D := D) (ci := 1) (v := .ref q_49) (ty := .array .long) (C := RX3) (T := TX3) (N := 14) F1 F2 hts vX3_init_X3 tyX3 tyX3_ok nmX3 hown hK hP hD hS 0 rfl rfl 5 (by decide) (hts _ uX3_init_11) (fun _ h9 => h9) rfl hin rfl (by decide +kernel) rfl rfl (Nat.le_of_ble_eq_true rfl) dX3_init_51 (fun H locs hP hD hS => ?_)
  have hP : va_P D vwCl [(q, .inr (1, [.ref qr, .ref q_13, .ref q_22, .ref q_31, .ref q_40, .ref q_49, .int 0, .int 0, .int 0, .int 0, .int 0, .int 0, .int 0, .int 0])), (q_13, ia cI 216 zA), (q_22, ia cI 216 zA), (q_31, ia cI 216 zA), (q_40, la cJ 216 zL), (q_49, la cJ 216 zL)] H := hP
  have hD : va_D A [(q, .inr (1, [.ref qr, .ref q_13, .ref q_22, .ref q_31, .ref q_40, .ref q_49, .int 0, .int 0, .int 0, .int 0, .int 0, .int 0, .int 0, .int 0])), (q_13, ia cI 216 zA), (q_22, ia cI 216 zA), (q_31, ia cI 216 zA), (q_40, la cJ 216 zL), (q_49, la cJ 216 zL)] := hD
  refine lv_aload_n F1 F2 dX3_init_54 rfl (lv_at hl 0 rfl) ?_
  refine lv_iconst (v := (0 : Int32)) F1 F2 dX3_init_55 (by decide) ?_
  refine va_put (D := D) (ci := 1) (v := .int 0) (ty := .int) (C := RX3) (T := TX3) (N := 14) F1 F2 hts vX3_init_X3 tyX3 tyX3_ok nmX3 hown hK hP hD hS 0 rfl rfl 6 (by decide) (hts _ uX3_init_12) (fun _ h9 => h9) rfl (by decide +kernel) rfl rfl (Nat.le_of_ble_eq_true rfl) dX3_init_56 (fun H locs hP hD hS => ?_)
  have hP : va_P D vwCl [(q, .inr (1, [.ref qr, .ref q_13, .ref q_22, .ref q_31, .ref q_40, .ref q_49, .int 0, .int 0, .int 0, .int 0, .int 0, .int 0, .int 0, .int 0])), (q_13, ia cI 216 zA), (q_22, ia cI 216 zA), (q_31, ia cI 216 zA), (q_40, la cJ 216 zL), (q_49, la cJ 216 zL)] H := hP
  have hD : va_D A [(q, .inr (1, [.ref qr, .ref q_13, .ref q_22, .ref q_31, .ref q_40, .ref q_49, .int 0, .int 0, .int 0, .int 0, .int 0, .int 0, .int 0, .int 0])), (q_13, ia cI 216 zA), (q_22, ia cI 216 zA), (q_31, ia cI 216 zA), (q_40, la cJ 216 zL), (q_49, la cJ 216 zL)] := hD
  refine lv_aload_n F1 F2 dX3_init_59 rfl (lv_at hl 0 rfl) ?_
  refine lv_iconst (v := (0 : Int32)) F1 F2 dX3_init_60 (by decide) ?_
  refine va_put (D := D) (ci := 1) (v := .int 0) (ty := .int) (C := RX3) (T := TX3) (N := 14) F1 F2 hts vX3_init_X3 tyX3 tyX3_ok nmX3 hown hK hP hD hS 0 rfl rfl 7 (by decide) (hts _ uX3_init_13) (fun _ h9 => h9) rfl (by decide +kernel) rfl rfl (Nat.le_of_ble_eq_true rfl) dX3_init_61 (fun H locs hP hD hS => ?_)
  have hP : va_P D vwCl [(q, .inr (1, [.ref qr, .ref q_13, .ref q_22, .ref q_31, .ref q_40, .ref q_49, .int 0, .int 0, .int 0, .int 0, .int 0, .int 0, .int 0, .int 0])), (q_13, ia cI 216 zA), (q_22, ia cI 216 zA), (q_31, ia cI 216 zA), (q_40, la cJ 216 zL), (q_49, la cJ 216 zL)] H := hP
  have hD : va_D A [(q, .inr (1, [.ref qr, .ref q_13, .ref q_22, .ref q_31, .ref q_40, .ref q_49, .int 0, .int 0, .int 0, .int 0, .int 0, .int 0, .int 0, .int 0])), (q_13, ia cI 216 zA), (q_22, ia cI 216 zA), (q_31, ia cI 216 zA), (q_40, la cJ 216 zL), (q_49, la cJ 216 zL)] := hD
  refine lv_aload_n F1 F2 dX3_init_64 rfl (lv_at hl 0 rfl) ?_
  refine lv_iconst (v := (0 : Int32)) F1 F2 dX3_init_65 (by decide) ?_
  refine va_put (D := D) (ci := 1) (v := .int 0) (ty := .boolean) (C := RX3) (T := TX3) (N := 14) F1 F2 hts vX3_init_X3 tyX3 tyX3_ok nmX3 hown hK hP hD hS 0 rfl rfl 8 (by decide) (hts _ uX3_init_14) (fun _ h9 => h9) rfl (by decide +kernel) (by decide) (by decide) (Nat.le_of_ble_eq_true rfl) dX3_init_66 (fun H locs hP hD hS => ?_)
  have hP : va_P D vwCl [(q, .inr (1, [.ref qr, .ref q_13, .ref q_22, .ref q_31, .ref q_40, .ref q_49, .int 0, .int 0, .int 0, .int 0, .int 0, .int 0, .int 0, .int 0])), (q_13, ia cI 216 zA), (q_22, ia cI 216 zA), (q_31, ia cI 216 zA), (q_40, la cJ 216 zL), (q_49, la cJ 216 zL)] H := hP
  have hD : va_D A [(q, .inr (1, [.ref qr, .ref q_13, .ref q_22, .ref q_31, .ref q_40, .ref q_49, .int 0, .int 0, .int 0, .int 0, .int 0, .int 0, .int 0, .int 0])), (q_13, ia cI 216 zA), (q_22, ia cI 216 zA), (q_31, ia cI 216 zA), (q_40, la cJ 216 zL), (q_49, la cJ 216 zL)] := hD
  exact W.vret F1 F2 hr (fun t ht hW => ⟨⟨(q_13, q_22, q_31, q_40, q_49), rfl, trivial, (by show va_P D vwCl [(q, .inr (1, [.ref qr, .ref q_13, .ref q_22, .ref q_31, .ref q_40, .ref q_49, .int 0, .int 0, .int 0, .int 0, .int 0, .int 0, .int 0, .int 0])), (q_13, ia cI 216 zA), (q_22, ia cI 216 zA), (q_31, ia cI 216 zA), (q_40, la cJ 216 zL), (q_49, la cJ 216 zL)] t.heap; rw [ht]; exact hP), hD⟩, hS.F ht⟩) hS.2.2 dX3_init_69
theorem uX5_init_1 : Cond.methodLink RX5 1 objectInit ∈ wsX5_init := List.mem_of_getElem? (i := 1) rfl
theorem uX5_init_2 : Cond.instanceMethod objectInit ∈ wsX5_init := List.mem_of_getElem? (i := 2) rfl
theorem uX5_init_3 : Cond.code objectInit ⟨#[0xb1]⟩ 1 none ∈ wsX5_init := List.mem_of_getElem? (i := 3) rfl
theorem vX5_init_X2 : ∀ w ∈ wsX20, w ∈ wsX5_init := fun _ h => List.mem_cons_of_mem _ (List.mem_append_left _ (List.mem_append_left _ (List.mem_append_left _ (List.mem_append_right _ h))))
theorem uX5_init_4 : Cond.classLink RX5 7 RX2 ∈ wsX5_init := List.mem_of_getElem? (i := 4) rfl
theorem uX5_init_5 : Cond.instantiable RX2 8 ∈ wsX5_init := List.mem_of_getElem? (i := 5) rfl
theorem uX5_init_6 : Cond.initialized RX2 ∈ wsX5_init := List.mem_of_getElem? (i := 6) rfl
theorem uX5_init_16 : Cond.methodLink RX5 9 yX2_init ∈ wsX5_init := List.mem_of_getElem? (i := 16) rfl
theorem uX5_init_17 : Cond.instanceMethod yX2_init ∈ wsX5_init := List.mem_of_getElem? (i := 17) rfl
theorem vX5_init_X5 : ∀ w ∈ wsX50, w ∈ wsX5_init := fun _ h => List.mem_cons_of_mem _ (List.mem_append_left _ (List.mem_append_left _ (List.mem_append_right _ h)))
theorem uX5_init_7 : Cond.fieldLink RX5 10 "SumMoved" "rows" "LSumMoved$Rows;" ∈ wsX5_init := List.mem_of_getElem? (i := 7) rfl
theorem vX5_init_X4 : ∀ w ∈ wsX40, w ∈ wsX5_init := fun _ h => List.mem_cons_of_mem _ (List.mem_append_left _ (List.mem_append_right _ h))
theorem uX5_init_8 : Cond.classLink RX5 16 RX4 ∈ wsX5_init := List.mem_of_getElem? (i := 8) rfl
theorem uX5_init_9 : Cond.instantiable RX4 2 ∈ wsX5_init := List.mem_of_getElem? (i := 9) rfl
theorem uX5_init_10 : Cond.initialized RX4 ∈ wsX5_init := List.mem_of_getElem? (i := 10) rfl
theorem uX5_init_29 : Cond.methodLink RX5 18 yX4_init ∈ wsX5_init := List.mem_of_getElem? (i := 29) rfl
theorem uX5_init_30 : Cond.instanceMethod yX4_init ∈ wsX5_init := List.mem_of_getElem? (i := 30) rfl
theorem uX5_init_11 : Cond.fieldLink RX5 19 "SumMoved" "switches" "LSumMoved$Switches;" ∈ wsX5_init := List.mem_of_getElem? (i := 11) rfl
theorem vX5_init_X3 : ∀ w ∈ wsX30, w ∈ wsX5_init := fun _ h => List.mem_cons_of_mem _ (List.mem_append_right _ h)
theorem uX5_init_12 : Cond.classLink RX5 23 RX3 ∈ wsX5_init := List.mem_of_getElem? (i := 12) rfl
theorem uX5_init_13 : Cond.instantiable RX3 14 ∈ wsX5_init := List.mem_of_getElem? (i := 13) rfl
theorem uX5_init_14 : Cond.initialized RX3 ∈ wsX5_init := List.mem_of_getElem? (i := 14) rfl
theorem uX5_init_35 : Cond.methodLink RX5 25 yX3_init ∈ wsX5_init := List.mem_of_getElem? (i := 35) rfl
theorem uX5_init_36 : Cond.instanceMethod yX3_init ∈ wsX5_init := List.mem_of_getElem? (i := 36) rfl
theorem uX5_init_15 : Cond.fieldLink RX5 28 "SumMoved" "stories" "LSumMoved$Stories;" ∈ wsX5_init := List.mem_of_getElem? (i := 15) rfl
abbrev rX5_init : Room := { frames := 2, cells := 17, slots := 1954, locals := 33 }
set_option maxHeartbeats 4000000 in
set_option maxRecDepth 100000 in
theorem mX5_init {l : Launch} {D : va_G} {cI cJ cZ : ClassId} {q : Nat} (sz : Nat) : Met l yX5_init wsX5_init rX5_init (va_Pc [.ref q] (wp D cI cJ cZ sz [(q, .inr (3, [.null, .null, .null]))])) (va_Qv (S := Nat → Nat) (fun u : Nat → Nat => u 0 = q) (fun (u : Nat → Nat) (t : State) => va_P D vwCl (w5 u cI cJ z5) t.heap ∧ va_D (va_A [(q, .inr (3, [.null, .null, .null]))] sz) (w5 u cI cJ z5)) (va_A [(q, .inr (3, [.null, .null, .null]))] sz)) 17 1954 (va_A [(q, .inr (3, [.null, .null, .null]))] sz) := by
  refine va_MetF (cc := cX5_init) (maxL := 1) (ret := none) (by decide +kernel) rfl ?_
  intro p e s m args below meth c s₁ B hml hv
  obtain ⟨rfl, rfl, hz, hP, hD0⟩ := hv
  have F1 := B.exec
  have F2 := B.bytes
  have hr := B.returns
  have hts := atoms_spec (ws := wsX5_init) B.pre
  have hown : s.vm.findClass RX5 = some m.cls := findClass_of_methodNamed B.named
  have hlocks := B.notSynchronized
  have hin : meth.name = "<init>" := (name_of_methodNamed B.named B.method).1
  have hK := hz.1
  have hD := hD0.self (sz := s.heap.size)
  generalize hAe : va_A [(q, .inr (3, [.null, .null, .null]))] s.heap.size = A at hD ⊢
  have hA : ∀ q : Nat, s.heap.size ≤ q → A q := fun q h => by rw [← hAe]; exact Or.inr h
  have hS : va_S A s.heap s.heap [] := va_S.rf
  have hl := lv_entry ([.ref q]) (n := 1) (Nat.le_of_ble_eq_true rfl)
  rw [lg_entry_eq]
  generalize (lg_sl ([.ref q]) ++ List.replicate (1 - (lg_sl ([.ref q])).length) Slot.unset).toArray = ls at hl ⊢
  have hl : lv_has ls 1 [(0, .ref q)] := hl
  refine lv_aload_n F1 F2 dX5_init_0 rfl (lv_at hl 0 rfl) ?_
  refine W.objInit F1 F2 hown (hts _ uX5_init_1) (hts _ uX5_init_2) (hts _ uX5_init_3) rfl (by rw [hml]; exact hl.1) rfl dX5_init_1 (Nat.le_of_ble_eq_true rfl) (Nat.le_of_ble_eq_true rfl) ?_
  refine W.eq (g2 := F0 m 4 ls []) rfl ?_
  refine lv_aload_n F1 F2 dX5_init_4 rfl (lv_at hl 0 rfl) ?_
  refine va_new (ci := 0) (fs := [.null, .null, .null, .null, .null, .null, .null, .int 0]) (C := RX2) (T := TX2) (N := 8) F1 F2 hts vX5_init_X2 tyX2 tyX2_ok hown (hts _ uX5_init_4) (hts _ uX5_init_5) (hts _ uX5_init_6) hK hP hD hS hA rfl (fun j hj => by rcases (show j = 0 ∨ j = 1 ∨ j = 2 ∨ j = 3 ∨ j = 4 ∨ j = 5 ∨ j = 6 ∨ j = 7 by omega) with rfl | rfl | rfl | rfl | rfl | rfl | rfl | rfl <;> rfl) (Nat.le_of_ble_eq_true rfl) (Nat.le_of_ble_eq_true rfl) dX5_init_5 (fun q_5 H hP hD hS => ?_)
  have hP : va_P D vwCl [(q, .inr (3, [.null, .null, .null])), (q_5, .inr (0, [.null, .null, .null, .null, .null, .null, .null, .int 0]))] H := hP
  have hD : va_D A [(q, .inr (3, [.null, .null, .null])), (q_5, .inr (0, [.null, .null, .null, .null, .null, .null, .null, .int 0]))] := hD
  refine W.widen (k := 1) (n := 8) (by omega) (by omega) ?_
  refine lv_dup F1 F2 dX5_init_8 rfl ?_
  have hPc := hP.sub (ws' := [(q_5, .inr (0, [.null, .null, .null, .null, .null, .null, .null, .int 0]))]) [1] rfl
  have hDc := hD.sub (ws' := [(q_5, .inr (0, [.null, .null, .null, .null, .null, .null, .null, .int 0]))]) [1] (by decide) rfl
  have hFc := va_free (wc := [(q_5, .inr (0, [.null, .null, .null, .null, .null, .null, .null, .int 0]))]) hD hS hA [1] rfl
  refine va_callv (va_runI (As := []) (rest := [.ref q_5, .ref q]) ⟨F1, F2, hml, hown, hts⟩ (mX2_init (l := l) (D := D) (cI := cI) (cJ := cJ) (cZ := cZ) H.size (q := q_5)) (cwI 0 hts ggX5_init_X2_init rfl rfl rfl (hts _ uX5_init_6) (hts _ uX5_init_16) (hts _ uX5_init_17) rfl (by decide +kernel) ⟨Nat.le_of_ble_eq_true rfl, Nat.le_of_ble_eq_true rfl⟩) ⟨wp_blind, wp_pre hz hPc hDc (.ref q_5 :: [])⟩ rfl rfl hl.1 rfl (lv_room (Nat.le_of_ble_eq_true rfl)) dX5_init_9 ⟨Nat.le_of_ble_eq_true rfl, Nat.le_of_ble_eq_true rfl⟩) hS (fun q _ h => hFc q h) hFc (fun u t H1 locs ht hvm hw hB hz1 hk1 hS => ?_)
  obtain ⟨q_5_a0, q_5_a1, q_5_a2, q_5_a3, q_5_a4, q_5_a5, q_5_a6⟩ := u
  obtain ⟨hP1, hD1⟩ := hB
  rw [ht] at hP1
  obtain ⟨hP, hD⟩ := va_join (wr := [(q, .inr (3, [.null, .null, .null]))]) (w1 := [(q_5, .inr (0, [.ref q_5_a0, .ref q_5_a1, .ref q_5_a2, .ref q_5_a3, .ref q_5_a4, .ref q_5_a5, .ref q_5_a6, .int 0])), (q_5_a0, ia cI 120 zA), (q_5_a1, ia cI 120 zA), (q_5_a2, ia cI 120 zA), (q_5_a3, ia cI 120 zA), (q_5_a4, ia cI 120 zA), (q_5_a5, ia cI 120 zA), (q_5_a6, ia cI 120 zA)]) hP hD [1] [0] rfl rfl (by decide) (by decide) hk1 hFc hP1 hD1
  generalize H1 = H at hP hS ⊢
  have hP : va_P D vwCl [(q, .inr (3, [.null, .null, .null])), (q_5, .inr (0, [.ref q_5_a0, .ref q_5_a1, .ref q_5_a2, .ref q_5_a3, .ref q_5_a4, .ref q_5_a5, .ref q_5_a6, .int 0])), (q_5_a0, ia cI 120 zA), (q_5_a1, ia cI 120 zA), (q_5_a2, ia cI 120 zA), (q_5_a3, ia cI 120 zA), (q_5_a4, ia cI 120 zA), (q_5_a5, ia cI 120 zA), (q_5_a6, ia cI 120 zA)] H := hP
  have hD : va_D A [(q, .inr (3, [.null, .null, .null])), (q_5, .inr (0, [.ref q_5_a0, .ref q_5_a1, .ref q_5_a2, .ref q_5_a3, .ref q_5_a4, .ref q_5_a5, .ref q_5_a6, .int 0])), (q_5_a0, ia cI 120 zA), (q_5_a1, ia cI 120 zA), (q_5_a2, ia cI 120 zA), (q_5_a3, ia cI 120 zA), (q_5_a4, ia cI 120 zA), (q_5_a5, ia cI 120 zA), (q_5_a6, ia cI 120 zA)] := hD
  refine W.widen (k := 8) (n := 848) (by omega) (by omega) ?_
  refine va_putF (D := D) (ci := 3) (v := .ref q_5) (ty := .object "SumMoved$Rows") (C := RX5) (T := TX5) (N := 3) F1 F2 hts vX5_init_X5 tyX5 tyX5_ok nmX5 hown hK hP hD hS 0 rfl rfl 0 (by decide) (hts _ uX5_init_7) (fun _ h9 => h9) rfl hin rfl (by decide +kernel) rfl rfl (Nat.le_of_ble_eq_true rfl) dX5_init_12 (fun H locs hP hD hS => ?_)
  have hP : va_P D vwCl [(q, .inr (3, [.ref q_5, .null, .null])), (q_5, .inr (0, [.ref q_5_a0, .ref q_5_a1, .ref q_5_a2, .ref q_5_a3, .ref q_5_a4, .ref q_5_a5, .ref q_5_a6, .int 0])), (q_5_a0, ia cI 120 zA), (q_5_a1, ia cI 120 zA), (q_5_a2, ia cI 120 zA), (q_5_a3, ia cI 120 zA), (q_5_a4, ia cI 120 zA), (q_5_a5, ia cI 120 zA), (q_5_a6, ia cI 120 zA)] H := hP
  have hD : va_D A [(q, .inr (3, [.ref q_5, .null, .null])), (q_5, .inr (0, [.ref q_5_a0, .ref q_5_a1, .ref q_5_a2, .ref q_5_a3, .ref q_5_a4, .ref q_5_a5, .ref q_5_a6, .int 0])), (q_5_a0, ia cI 120 zA), (q_5_a1, ia cI 120 zA), (q_5_a2, ia cI 120 zA), (q_5_a3, ia cI 120 zA), (q_5_a4, ia cI 120 zA), (q_5_a5, ia cI 120 zA), (q_5_a6, ia cI 120 zA)] := hD
  refine lv_aload_n F1 F2 dX5_init_15 rfl (lv_at hl 0 rfl) ?_
  refine va_new (ci := 2) (fs := [.null, .null]) (C := RX4) (T := TX4) (N := 2) F1 F2 hts vX5_init_X4 tyX4 tyX4_ok hown (hts _ uX5_init_8) (hts _ uX5_init_9) (hts _ uX5_init_10) hK hP hD hS hA rfl (fun j hj => by rcases (show j = 0 ∨ j = 1 by omega) with rfl | rfl <;> rfl) (Nat.le_of_ble_eq_true rfl) (Nat.le_of_ble_eq_true rfl) dX5_init_16 (fun q_16 H hP hD hS => ?_)
  have hP : va_P D vwCl [(q, .inr (3, [.ref q_5, .null, .null])), (q_5, .inr (0, [.ref q_5_a0, .ref q_5_a1, .ref q_5_a2, .ref q_5_a3, .ref q_5_a4, .ref q_5_a5, .ref q_5_a6, .int 0])), (q_5_a0, ia cI 120 zA), (q_5_a1, ia cI 120 zA), (q_5_a2, ia cI 120 zA), (q_5_a3, ia cI 120 zA), (q_5_a4, ia cI 120 zA), (q_5_a5, ia cI 120 zA), (q_5_a6, ia cI 120 zA), (q_16, .inr (2, [.null, .null]))] H := hP
  have hD : va_D A [(q, .inr (3, [.ref q_5, .null, .null])), (q_5, .inr (0, [.ref q_5_a0, .ref q_5_a1, .ref q_5_a2, .ref q_5_a3, .ref q_5_a4, .ref q_5_a5, .ref q_5_a6, .int 0])), (q_5_a0, ia cI 120 zA), (q_5_a1, ia cI 120 zA), (q_5_a2, ia cI 120 zA), (q_5_a3, ia cI 120 zA), (q_5_a4, ia cI 120 zA), (q_5_a5, ia cI 120 zA), (q_5_a6, ia cI 120 zA), (q_16, .inr (2, [.null, .null]))] := hD
  refine W.widen (k := 9) (n := 850) (by omega) (by omega) ?_
  refine lv_dup F1 F2 dX5_init_19 rfl ?_
  have hPc := hP.sub (ws' := [(q_16, .inr (2, [.null, .null]))]) [9] rfl
  have hDc := hD.sub (ws' := [(q_16, .inr (2, [.null, .null]))]) [9] (by decide) rfl
  have hFc := va_free (wc := [(q_16, .inr (2, [.null, .null]))]) hD hS hA [9] rfl
  refine va_callv (va_runI (As := []) (rest := [.ref q_16, .ref q]) ⟨F1, F2, hml, hown, hts⟩ (mX4_init (l := l) (D := D) (cI := cI) (cJ := cJ) (cZ := cZ) H.size (q := q_16)) (cwI 0 hts ggX5_init_X4_init rfl rfl rfl (hts _ uX5_init_10) (hts _ uX5_init_29) (hts _ uX5_init_30) rfl (by decide +kernel) ⟨Nat.le_of_ble_eq_true rfl, Nat.le_of_ble_eq_true rfl⟩) ⟨wp_blind, wp_pre hz hPc hDc (.ref q_16 :: [])⟩ rfl rfl hl.1 rfl (lv_room (Nat.le_of_ble_eq_true rfl)) dX5_init_20 ⟨Nat.le_of_ble_eq_true rfl, Nat.le_of_ble_eq_true rfl⟩) hS (fun q _ h => hFc q h) hFc (fun u t H1 locs ht hvm hw hB hz1 hk1 hS => ?_)
  obtain ⟨q_16_a0, q_16_a1⟩ := u
  obtain ⟨hP1, hD1⟩ := hB
  rw [ht] at hP1
  obtain ⟨hP, hD⟩ := va_join (wr := [(q, .inr (3, [.ref q_5, .null, .null])), (q_5, .inr (0, [.ref q_5_a0, .ref q_5_a1, .ref q_5_a2, .ref q_5_a3, .ref q_5_a4, .ref q_5_a5, .ref q_5_a6, .int 0])), (q_5_a0, ia cI 120 zA), (q_5_a1, ia cI 120 zA), (q_5_a2, ia cI 120 zA), (q_5_a3, ia cI 120 zA), (q_5_a4, ia cI 120 zA), (q_5_a5, ia cI 120 zA), (q_5_a6, ia cI 120 zA)]) (w1 := [(q_16, .inr (2, [.ref q_16_a0, .ref q_16_a1])), (q_16_a0, ia cI 5 zA), (q_16_a1, ia cI 5 zA)]) hP hD [9] [0, 1, 2, 3, 4, 5, 6, 7, 8] rfl rfl (by decide) (by decide) hk1 hFc hP1 hD1
  generalize H1 = H at hP hS ⊢
  have hP : va_P D vwCl [(q, .inr (3, [.ref q_5, .null, .null])), (q_5, .inr (0, [.ref q_5_a0, .ref q_5_a1, .ref q_5_a2, .ref q_5_a3, .ref q_5_a4, .ref q_5_a5, .ref q_5_a6, .int 0])), (q_5_a0, ia cI 120 zA), (q_5_a1, ia cI 120 zA), (q_5_a2, ia cI 120 zA), (q_5_a3, ia cI 120 zA), (q_5_a4, ia cI 120 zA), (q_5_a5, ia cI 120 zA), (q_5_a6, ia cI 120 zA), (q_16, .inr (2, [.ref q_16_a0, .ref q_16_a1])), (q_16_a0, ia cI 5 zA), (q_16_a1, ia cI 5 zA)] H := hP
  have hD : va_D A [(q, .inr (3, [.ref q_5, .null, .null])), (q_5, .inr (0, [.ref q_5_a0, .ref q_5_a1, .ref q_5_a2, .ref q_5_a3, .ref q_5_a4, .ref q_5_a5, .ref q_5_a6, .int 0])), (q_5_a0, ia cI 120 zA), (q_5_a1, ia cI 120 zA), (q_5_a2, ia cI 120 zA), (q_5_a3, ia cI 120 zA), (q_5_a4, ia cI 120 zA), (q_5_a5, ia cI 120 zA), (q_5_a6, ia cI 120 zA), (q_16, .inr (2, [.ref q_16_a0, .ref q_16_a1])), (q_16_a0, ia cI 5 zA), (q_16_a1, ia cI 5 zA)] := hD
  refine W.widen (k := 11) (n := 860) (by omega) (by omega) ?_
  refine va_putF (D := D) (ci := 3) (v := .ref q_16) (ty := .object "SumMoved$Switches") (C := RX5) (T := TX5) (N := 3) F1 F2 hts vX5_init_X5 tyX5 tyX5_ok nmX5 hown hK hP hD hS 0 rfl rfl 1 (by decide) (hts _ uX5_init_11) (fun _ h9 => h9) rfl hin rfl (by decide +kernel) rfl rfl (Nat.le_of_ble_eq_true rfl) dX5_init_23 (fun H locs hP hD hS => ?_)
  have hP : va_P D vwCl [(q, .inr (3, [.ref q_5, .ref q_16, .null])), (q_5, .inr (0, [.ref q_5_a0, .ref q_5_a1, .ref q_5_a2, .ref q_5_a3, .ref q_5_a4, .ref q_5_a5, .ref q_5_a6, .int 0])), (q_5_a0, ia cI 120 zA), (q_5_a1, ia cI 120 zA), (q_5_a2, ia cI 120 zA), (q_5_a3, ia cI 120 zA), (q_5_a4, ia cI 120 zA), (q_5_a5, ia cI 120 zA), (q_5_a6, ia cI 120 zA), (q_16, .inr (2, [.ref q_16_a0, .ref q_16_a1])), (q_16_a0, ia cI 5 zA), (q_16_a1, ia cI 5 zA)] H := hP
  have hD : va_D A [(q, .inr (3, [.ref q_5, .ref q_16, .null])), (q_5, .inr (0, [.ref q_5_a0, .ref q_5_a1, .ref q_5_a2, .ref q_5_a3, .ref q_5_a4, .ref q_5_a5, .ref q_5_a6, .int 0])), (q_5_a0, ia cI 120 zA), (q_5_a1, ia cI 120 zA), (q_5_a2, ia cI 120 zA), (q_5_a3, ia cI 120 zA), (q_5_a4, ia cI 120 zA), (q_5_a5, ia cI 120 zA), (q_5_a6, ia cI 120 zA), (q_16, .inr (2, [.ref q_16_a0, .ref q_16_a1])), (q_16_a0, ia cI 5 zA), (q_16_a1, ia cI 5 zA)] := hD
  refine lv_aload_n F1 F2 dX5_init_26 rfl (lv_at hl 0 rfl) ?_
  refine va_new (ci := 1) (fs := [.null, .null, .null, .null, .null, .null, .int 0, .int 0, .int 0, .int 0, .int 0, .int 0, .int 0, .int 0]) (C := RX3) (T := TX3) (N := 14) F1 F2 hts vX5_init_X3 tyX3 tyX3_ok hown (hts _ uX5_init_12) (hts _ uX5_init_13) (hts _ uX5_init_14) hK hP hD hS hA rfl (fun j hj => by rcases (show j = 0 ∨ j = 1 ∨ j = 2 ∨ j = 3 ∨ j = 4 ∨ j = 5 ∨ j = 6 ∨ j = 7 ∨ j = 8 ∨ j = 9 ∨ j = 10 ∨ j = 11 ∨ j = 12 ∨ j = 13 by omega) with rfl | rfl | rfl | rfl | rfl | rfl | rfl | rfl | rfl | rfl | rfl | rfl | rfl | rfl <;> rfl) (Nat.le_of_ble_eq_true rfl) (Nat.le_of_ble_eq_true rfl) dX5_init_27 (fun q_27 H hP hD hS => ?_)
  have hP : va_P D vwCl [(q, .inr (3, [.ref q_5, .ref q_16, .null])), (q_5, .inr (0, [.ref q_5_a0, .ref q_5_a1, .ref q_5_a2, .ref q_5_a3, .ref q_5_a4, .ref q_5_a5, .ref q_5_a6, .int 0])), (q_5_a0, ia cI 120 zA), (q_5_a1, ia cI 120 zA), (q_5_a2, ia cI 120 zA), (q_5_a3, ia cI 120 zA), (q_5_a4, ia cI 120 zA), (q_5_a5, ia cI 120 zA), (q_5_a6, ia cI 120 zA), (q_16, .inr (2, [.ref q_16_a0, .ref q_16_a1])), (q_16_a0, ia cI 5 zA), (q_16_a1, ia cI 5 zA), (q_27, .inr (1, [.null, .null, .null, .null, .null, .null, .int 0, .int 0, .int 0, .int 0, .int 0, .int 0, .int 0, .int 0]))] H := hP
  have hD : va_D A [(q, .inr (3, [.ref q_5, .ref q_16, .null])), (q_5, .inr (0, [.ref q_5_a0, .ref q_5_a1, .ref q_5_a2, .ref q_5_a3, .ref q_5_a4, .ref q_5_a5, .ref q_5_a6, .int 0])), (q_5_a0, ia cI 120 zA), (q_5_a1, ia cI 120 zA), (q_5_a2, ia cI 120 zA), (q_5_a3, ia cI 120 zA), (q_5_a4, ia cI 120 zA), (q_5_a5, ia cI 120 zA), (q_5_a6, ia cI 120 zA), (q_16, .inr (2, [.ref q_16_a0, .ref q_16_a1])), (q_16_a0, ia cI 5 zA), (q_16_a1, ia cI 5 zA), (q_27, .inr (1, [.null, .null, .null, .null, .null, .null, .int 0, .int 0, .int 0, .int 0, .int 0, .int 0, .int 0, .int 0]))] := hD
  refine W.widen (k := 12) (n := 874) (by omega) (by omega) ?_
  refine lv_dup F1 F2 dX5_init_30 rfl ?_
  refine lv_aload_n F1 F2 dX5_init_31 rfl (lv_at hl 0 rfl) ?_
  refine va_get (D := D) (ci := 3) (v := .ref q_5) (C := RX5) (T := TX5) (N := 3) F1 F2 hts vX5_init_X5 hown hK hP 0 rfl rfl 0 (by decide) (hts _ uX5_init_7) (fun _ h9 => h9) rfl dX5_init_32 ?_
  have hPc := hP.sub (ws' := [(q_27, .inr (1, [.null, .null, .null, .null, .null, .null, .int 0, .int 0, .int 0, .int 0, .int 0, .int 0, .int 0, .int 0]))]) [12] rfl
  have hDc := hD.sub (ws' := [(q_27, .inr (1, [.null, .null, .null, .null, .null, .null, .int 0, .int 0, .int 0, .int 0, .int 0, .int 0, .int 0, .int 0]))]) [12] (by decide) rfl
  have hFc := va_free (wc := [(q_27, .inr (1, [.null, .null, .null, .null, .null, .null, .int 0, .int 0, .int 0, .int 0, .int 0, .int 0, .int 0, .int 0]))]) hD hS hA [12] rfl
  refine va_callv (va_runI (As := [.ref q_5]) (rest := [.ref q_27, .ref q]) ⟨F1, F2, hml, hown, hts⟩ (mX3_init (l := l) (D := D) (cI := cI) (cJ := cJ) (cZ := cZ) H.size (q := q_27) (qr := q_5)) (cwI 1 hts ggX5_init_X3_init rfl rfl rfl (hts _ uX5_init_14) (hts _ uX5_init_35) (hts _ uX5_init_36) rfl (by decide +kernel) ⟨Nat.le_of_ble_eq_true rfl, Nat.le_of_ble_eq_true rfl⟩) ⟨wp_blind, wp_pre hz hPc hDc (.ref q_27 :: [.ref q_5])⟩ rfl rfl hl.1 rfl (lv_room (Nat.le_of_ble_eq_true rfl)) dX5_init_35 ⟨Nat.le_of_ble_eq_true rfl, Nat.le_of_ble_eq_true rfl⟩) hS (fun q _ h => hFc q h) hFc (fun u t H1 locs ht hvm hw hB hz1 hk1 hS => ?_)
  obtain ⟨q_27_a0, q_27_a1, q_27_a2, q_27_a3, q_27_a4⟩ := u
  obtain ⟨hP1, hD1⟩ := hB
  rw [ht] at hP1
  obtain ⟨hP, hD⟩ := va_join (wr := [(q, .inr (3, [.ref q_5, .ref q_16, .null])), (q_5, .inr (0, [.ref q_5_a0, .ref q_5_a1, .ref q_5_a2, .ref q_5_a3, .ref q_5_a4, .ref q_5_a5, .ref q_5_a6, .int 0])), (q_5_a0, ia cI 120 zA), (q_5_a1, ia cI 120 zA), (q_5_a2, ia cI 120 zA), (q_5_a3, ia cI 120 zA), (q_5_a4, ia cI 120 zA), (q_5_a5, ia cI 120 zA), (q_5_a6, ia cI 120 zA), (q_16, .inr (2, [.ref q_16_a0, .ref q_16_a1])), (q_16_a0, ia cI 5 zA), (q_16_a1, ia cI 5 zA)]) (w1 := [(q_27, .inr (1, [.ref q_5, .ref q_27_a0, .ref q_27_a1, .ref q_27_a2, .ref q_27_a3, .ref q_27_a4, .int 0, .int 0, .int 0, .int 0, .int 0, .int 0, .int 0, .int 0])), (q_27_a0, ia cI 216 zA), (q_27_a1, ia cI 216 zA), (q_27_a2, ia cI 216 zA), (q_27_a3, la cJ 216 zL), (q_27_a4, la cJ 216 zL)]) hP hD [12] [0, 1, 2, 3, 4, 5, 6, 7, 8, 9, 10, 11] rfl rfl (by decide) (by decide) hk1 hFc hP1 hD1
  generalize H1 = H at hP hS ⊢
  have hP : va_P D vwCl [(q, .inr (3, [.ref q_5, .ref q_16, .null])), (q_5, .inr (0, [.ref q_5_a0, .ref q_5_a1, .ref q_5_a2, .ref q_5_a3, .ref q_5_a4, .ref q_5_a5, .ref q_5_a6, .int 0])), (q_5_a0, ia cI 120 zA), (q_5_a1, ia cI 120 zA), (q_5_a2, ia cI 120 zA), (q_5_a3, ia cI 120 zA), (q_5_a4, ia cI 120 zA), (q_5_a5, ia cI 120 zA), (q_5_a6, ia cI 120 zA), (q_16, .inr (2, [.ref q_16_a0, .ref q_16_a1])), (q_16_a0, ia cI 5 zA), (q_16_a1, ia cI 5 zA), (q_27, .inr (1, [.ref q_5, .ref q_27_a0, .ref q_27_a1, .ref q_27_a2, .ref q_27_a3, .ref q_27_a4, .int 0, .int 0, .int 0, .int 0, .int 0, .int 0, .int 0, .int 0])), (q_27_a0, ia cI 216 zA), (q_27_a1, ia cI 216 zA), (q_27_a2, ia cI 216 zA), (q_27_a3, la cJ 216 zL), (q_27_a4, la cJ 216 zL)] H := hP
  have hD : va_D A [(q, .inr (3, [.ref q_5, .ref q_16, .null])), (q_5, .inr (0, [.ref q_5_a0, .ref q_5_a1, .ref q_5_a2, .ref q_5_a3, .ref q_5_a4, .ref q_5_a5, .ref q_5_a6, .int 0])), (q_5_a0, ia cI 120 zA), (q_5_a1, ia cI 120 zA), (q_5_a2, ia cI 120 zA), (q_5_a3, ia cI 120 zA), (q_5_a4, ia cI 120 zA), (q_5_a5, ia cI 120 zA), (q_5_a6, ia cI 120 zA), (q_16, .inr (2, [.ref q_16_a0, .ref q_16_a1])), (q_16_a0, ia cI 5 zA), (q_16_a1, ia cI 5 zA), (q_27, .inr (1, [.ref q_5, .ref q_27_a0, .ref q_27_a1, .ref q_27_a2, .ref q_27_a3, .ref q_27_a4, .int 0, .int 0, .int 0, .int 0, .int 0, .int 0, .int 0, .int 0])), (q_27_a0, ia cI 216 zA), (q_27_a1, ia cI 216 zA), (q_27_a2, ia cI 216 zA), (q_27_a3, la cJ 216 zL), (q_27_a4, la cJ 216 zL)] := hD
  refine W.widen (k := 17) (n := 1954) (by omega) (by omega) ?_
  refine va_putF (D := D) (ci := 3) (v := .ref q_27) (ty := .object "SumMoved$Stories") (C := RX5) (T := TX5) (N := 3) F1 F2 hts vX5_init_X5 tyX5 tyX5_ok nmX5 hown hK hP hD hS 0 rfl rfl 2 (by decide) (hts _ uX5_init_15) (fun _ h9 => h9) rfl hin rfl (by decide +kernel) rfl rfl (Nat.le_of_ble_eq_true rfl) dX5_init_38 (fun H locs hP hD hS => ?_)
  have hP : va_P D vwCl [(q, .inr (3, [.ref q_5, .ref q_16, .ref q_27])), (q_5, .inr (0, [.ref q_5_a0, .ref q_5_a1, .ref q_5_a2, .ref q_5_a3, .ref q_5_a4, .ref q_5_a5, .ref q_5_a6, .int 0])), (q_5_a0, ia cI 120 zA), (q_5_a1, ia cI 120 zA), (q_5_a2, ia cI 120 zA), (q_5_a3, ia cI 120 zA), (q_5_a4, ia cI 120 zA), (q_5_a5, ia cI 120 zA), (q_5_a6, ia cI 120 zA), (q_16, .inr (2, [.ref q_16_a0, .ref q_16_a1])), (q_16_a0, ia cI 5 zA), (q_16_a1, ia cI 5 zA), (q_27, .inr (1, [.ref q_5, .ref q_27_a0, .ref q_27_a1, .ref q_27_a2, .ref q_27_a3, .ref q_27_a4, .int 0, .int 0, .int 0, .int 0, .int 0, .int 0, .int 0, .int 0])), (q_27_a0, ia cI 216 zA), (q_27_a1, ia cI 216 zA), (q_27_a2, ia cI 216 zA), (q_27_a3, la cJ 216 zL), (q_27_a4, la cJ 216 zL)] H := hP
  have hD : va_D A [(q, .inr (3, [.ref q_5, .ref q_16, .ref q_27])), (q_5, .inr (0, [.ref q_5_a0, .ref q_5_a1, .ref q_5_a2, .ref q_5_a3, .ref q_5_a4, .ref q_5_a5, .ref q_5_a6, .int 0])), (q_5_a0, ia cI 120 zA), (q_5_a1, ia cI 120 zA), (q_5_a2, ia cI 120 zA), (q_5_a3, ia cI 120 zA), (q_5_a4, ia cI 120 zA), (q_5_a5, ia cI 120 zA), (q_5_a6, ia cI 120 zA), (q_16, .inr (2, [.ref q_16_a0, .ref q_16_a1])), (q_16_a0, ia cI 5 zA), (q_16_a1, ia cI 5 zA), (q_27, .inr (1, [.ref q_5, .ref q_27_a0, .ref q_27_a1, .ref q_27_a2, .ref q_27_a3, .ref q_27_a4, .int 0, .int 0, .int 0, .int 0, .int 0, .int 0, .int 0, .int 0])), (q_27_a0, ia cI 216 zA), (q_27_a1, ia cI 216 zA), (q_27_a2, ia cI 216 zA), (q_27_a3, la cJ 216 zL), (q_27_a4, la cJ 216 zL)] := hD
  exact W.vret F1 F2 hr (fun t ht hW => ⟨⟨adv [q, q_5, q_5_a0, q_5_a1, q_5_a2, q_5_a3, q_5_a4, q_5_a5, q_5_a6, q_16, q_16_a0, q_16_a1, q_27, q_27_a0, q_27_a1, q_27_a2, q_27_a3, q_27_a4], rfl, rfl, (by show va_P D vwCl (w5 (adv [q, q_5, q_5_a0, q_5_a1, q_5_a2, q_5_a3, q_5_a4, q_5_a5, q_5_a6, q_16, q_16_a0, q_16_a1, q_27, q_27_a0, q_27_a1, q_27_a2, q_27_a3, q_27_a4]) cI cJ z5) t.heap; rw [ht]; exact hP), (show va_D A (w5 (adv [q, q_5, q_5_a0, q_5_a1, q_5_a2, q_5_a3, q_5_a4, q_5_a5, q_5_a6, q_16, q_16_a0, q_16_a1, q_27, q_27_a0, q_27_a1, q_27_a2, q_27_a3, q_27_a4]) cI cJ z5) from hD)⟩, hS.F ht⟩) hS.2.2 dX5_init_41
theorem uX6_init_1 : Cond.methodLink RX6 1 objectInit ∈ wsX6_init := List.mem_of_getElem? (i := 1) rfl
theorem uX6_init_2 : Cond.instanceMethod objectInit ∈ wsX6_init := List.mem_of_getElem? (i := 2) rfl
theorem uX6_init_3 : Cond.code objectInit ⟨#[0xb1]⟩ 1 none ∈ wsX6_init := List.mem_of_getElem? (i := 3) rfl
theorem uX6_init_4 : Cond.arrayClass .int ∈ wsX6_init := List.mem_of_getElem? (i := 4) rfl
theorem vX6_init_X6 : ∀ w ∈ wsX60, w ∈ wsX6_init := fun _ h => List.mem_cons_of_mem _ (List.mem_append_right _ h)
theorem uX6_init_5 : Cond.fieldLink RX6 7 "SumMovedModel" "month" "[I" ∈ wsX6_init := List.mem_of_getElem? (i := 5) rfl
theorem uX6_init_6 : Cond.fieldLink RX6 13 "SumMovedModel" "day" "[I" ∈ wsX6_init := List.mem_of_getElem? (i := 6) rfl
theorem uX6_init_7 : Cond.fieldLink RX6 16 "SumMovedModel" "top" "[I" ∈ wsX6_init := List.mem_of_getElem? (i := 7) rfl
theorem uX6_init_8 : Cond.fieldLink RX6 19 "SumMovedModel" "base" "[I" ∈ wsX6_init := List.mem_of_getElem? (i := 8) rfl
theorem uX6_init_9 : Cond.fieldLink RX6 22 "SumMovedModel" "member" "[I" ∈ wsX6_init := List.mem_of_getElem? (i := 9) rfl
theorem uX6_init_10 : Cond.fieldLink RX6 25 "SumMovedModel" "mark" "[I" ∈ wsX6_init := List.mem_of_getElem? (i := 10) rfl
theorem uX6_init_11 : Cond.arrayClass .boolean ∈ wsX6_init := List.mem_of_getElem? (i := 11) rfl
theorem uX6_init_12 : Cond.fieldLink RX6 28 "SumMovedModel" "isStruck" "[Z" ∈ wsX6_init := List.mem_of_getElem? (i := 12) rfl
theorem uX6_init_13 : Cond.fieldLink RX6 32 "SumMovedModel" "before" "[I" ∈ wsX6_init := List.mem_of_getElem? (i := 13) rfl
theorem uX6_init_14 : Cond.fieldLink RX6 35 "SumMovedModel" "after" "[I" ∈ wsX6_init := List.mem_of_getElem? (i := 14) rfl
theorem uX6_init_15 : Cond.fieldLink RX6 38 "SumMovedModel" "found" "I" ∈ wsX6_init := List.mem_of_getElem? (i := 15) rfl
theorem uX6_init_16 : Cond.fieldLink RX6 42 "SumMovedModel" "parts" "[I" ∈ wsX6_init := List.mem_of_getElem? (i := 16) rfl
theorem uX6_init_17 : Cond.fieldLink RX6 45 "SumMovedModel" "left" "[I" ∈ wsX6_init := List.mem_of_getElem? (i := 17) rfl
theorem uX6_init_18 : Cond.fieldLink RX6 48 "SumMovedModel" "list" "[I" ∈ wsX6_init := List.mem_of_getElem? (i := 18) rfl
theorem uX6_init_19 : Cond.fieldLink RX6 51 "SumMovedModel" "worth" "[I" ∈ wsX6_init := List.mem_of_getElem? (i := 19) rfl
abbrev rX6_init : Room := { frames := 1, cells := 13, slots := 1538, locals := 12 }
set_option maxHeartbeats 4000000 in
set_option maxRecDepth 100000 in
theorem mX6_init {l : Launch} {D : va_G} {cI cJ cZ : ClassId} {q : Nat} (sz : Nat) : Met l yX6_init wsX6_init rX6_init (va_Pc [.ref q] (wp D cI cJ cZ sz [(q, .inr (4, [.int 0, .null, .null, .null, .null, .null, .null, .null, .null, .null, .int 0, .int 0, .int 0, .int 0, .int 0, .null, .null, .null, .null]))])) (va_Qv (S := Nat → Nat) (fun u : Nat → Nat => u 0 = q) (fun (u : Nat → Nat) (t : State) => va_P D vwCl (w6 u cI cZ z6) t.heap ∧ va_D (va_A [(q, .inr (4, [.int 0, .null, .null, .null, .null, .null, .null, .null, .null, .null, .int 0, .int 0, .int 0, .int 0, .int 0, .null, .null, .null, .null]))] sz) (w6 u cI cZ z6)) (va_A [(q, .inr (4, [.int 0, .null, .null, .null, .null, .null, .null, .null, .null, .null, .int 0, .int 0, .int 0, .int 0, .int 0, .null, .null, .null, .null]))] sz)) 13 1538 (va_A [(q, .inr (4, [.int 0, .null, .null, .null, .null, .null, .null, .null, .null, .null, .int 0, .int 0, .int 0, .int 0, .int 0, .null, .null, .null, .null]))] sz) := by
  refine va_MetF (cc := cX6_init) (maxL := 1) (ret := none) (by decide +kernel) rfl ?_
  intro p e s m args below meth c s₁ B hml hv
  obtain ⟨rfl, rfl, hz, hP, hD0⟩ := hv
  have F1 := B.exec
  have F2 := B.bytes
  have hr := B.returns
  have hts := atoms_spec (ws := wsX6_init) B.pre
  have hown : s.vm.findClass RX6 = some m.cls := findClass_of_methodNamed B.named
  have hlocks := B.notSynchronized
  have hin : meth.name = "<init>" := (name_of_methodNamed B.named B.method).1
  have hK := hz.1
  have hD := hD0.self (sz := s.heap.size)
  generalize hAe : va_A [(q, .inr (4, [.int 0, .null, .null, .null, .null, .null, .null, .null, .null, .null, .int 0, .int 0, .int 0, .int 0, .int 0, .null, .null, .null, .null]))] s.heap.size = A at hD ⊢
  have hA : ∀ q : Nat, s.heap.size ≤ q → A q := fun q h => by rw [← hAe]; exact Or.inr h
  have hS : va_S A s.heap s.heap [] := va_S.rf
  have hl := lv_entry ([.ref q]) (n := 1) (Nat.le_of_ble_eq_true rfl)
  rw [lg_entry_eq]
  generalize (lg_sl ([.ref q]) ++ List.replicate (1 - (lg_sl ([.ref q])).length) Slot.unset).toArray = ls at hl ⊢
  have hl : lv_has ls 1 [(0, .ref q)] := hl
  refine lv_aload_n F1 F2 dX6_init_0 rfl (lv_at hl 0 rfl) ?_
  refine W.objInit F1 F2 hown (hts _ uX6_init_1) (hts _ uX6_init_2) (hts _ uX6_init_3) rfl (by rw [hml]; exact hl.1) rfl dX6_init_1 (Nat.le_of_ble_eq_true rfl) (Nat.le_of_ble_eq_true rfl) ?_
  refine W.eq (g2 := F0 m 4 ls []) rfl ?_
  refine lv_aload_n F1 F2 dX6_init_4 rfl (lv_at hl 0 rfl) ?_
  refine lv_bipush (v := (120 : Int32)) F1 F2 dX6_init_5 (by decide) ?_
  refine nw_arr (atype := .int) (ty := .int) (a0 := (120, .inl zA)) F1 F2 (hts _ uX6_init_4) rfl hK 0 rfl (fun _ => nw_I) hP hD hS hA (fun _ => rfl) (by decide) (by decide) (by decide) (Nat.le_of_ble_eq_true rfl) (Nat.le_of_ble_eq_true rfl) dX6_init_7 (fun q_7 H hP hD hS => ?_)
  have hP : va_P D vwCl [(q, .inr (4, [.int 0, .null, .null, .null, .null, .null, .null, .null, .null, .null, .int 0, .int 0, .int 0, .int 0, .int 0, .null, .null, .null, .null])), (q_7, ia cI 120 zA)] H := hP
  have hD : va_D A [(q, .inr (4, [.int 0, .null, .null, .null, .null, .null, .null, .null, .null, .null, .int 0, .int 0, .int 0, .int 0, .int 0, .null, .null, .null, .null])), (q_7, ia cI 120 zA)] := hD
  refine W.widen (k := 1) (n := 120) (by omega) (by omega) ?_
  refine va_putF (D := D) (ci := 4) (v := .ref q_7) (ty := .array .int) (C := RX6) (T := TX6) (N := 19) F1 F2 hts vX6_init_X6 tyX6 tyX6_ok nmX6 hown hK hP hD hS 0 rfl rfl 1 (by decide) (hts _ uX6_init_5) (fun _ h9 => h9) rfl hin rfl (by decide +kernel) rfl rfl (Nat.le_of_ble_eq_true rfl) dX6_init_9 (fun H locs hP hD hS => ?_)
  have hP : va_P D vwCl [(q, .inr (4, [.int 0, .ref q_7, .null, .null, .null, .null, .null, .null, .null, .null, .int 0, .int 0, .int 0, .int 0, .int 0, .null, .null, .null, .null])), (q_7, ia cI 120 zA)] H := hP
  have hD : va_D A [(q, .inr (4, [.int 0, .ref q_7, .null, .null, .null, .null, .null, .null, .null, .null, .int 0, .int 0, .int 0, .int 0, .int 0, .null, .null, .null, .null])), (q_7, ia cI 120 zA)] := hD
  refine lv_aload_n F1 F2 dX6_init_12 rfl (lv_at hl 0 rfl) ?_
  refine lv_bipush (v := (120 : Int32)) F1 F2 dX6_init_13 (by decide) ?_
  refine nw_arr (atype := .int) (ty := .int) (a0 := (120, .inl zA)) F1 F2 (hts _ uX6_init_4) rfl hK 0 rfl (fun _ => nw_I) hP hD hS hA (fun _ => rfl) (by decide) (by decide) (by decide) (Nat.le_of_ble_eq_true rfl) (Nat.le_of_ble_eq_true rfl) dX6_init_15 (fun q_15 H hP hD hS => ?_)
  have hP : va_P D vwCl [(q, .inr (4, [.int 0, .ref q_7, .null, .null, .null, .null, .null, .null, .null, .null, .int 0, .int 0, .int 0, .int 0, .int 0, .null, .null, .null, .null])), (q_7, ia cI 120 zA), (q_15, ia cI 120 zA)] H := hP
  have hD : va_D A [(q, .inr (4, [.int 0, .ref q_7, .null, .null, .null, .null, .null, .null, .null, .null, .int 0, .int 0, .int 0, .int 0, .int 0, .null, .null, .null, .null])), (q_7, ia cI 120 zA), (q_15, ia cI 120 zA)] := hD
  refine W.widen (k := 2) (n := 240) (by omega) (by omega) ?_
  refine va_putF (D := D) (ci := 4) (v := .ref q_15) (ty := .array .int) (C := RX6) (T := TX6) (N := 19) F1 F2 hts vX6_init_X6 tyX6 tyX6_ok nmX6 hown hK hP hD hS 0 rfl rfl 2 (by decide) (hts _ uX6_init_6) (fun _ h9 => h9) rfl hin rfl (by decide +kernel) rfl rfl (Nat.le_of_ble_eq_true rfl) dX6_init_17 (fun H locs hP hD hS => ?_)
  have hP : va_P D vwCl [(q, .inr (4, [.int 0, .ref q_7, .ref q_15, .null, .null, .null, .null, .null, .null, .null, .int 0, .int 0, .int 0, .int 0, .int 0, .null, .null, .null, .null])), (q_7, ia cI 120 zA), (q_15, ia cI 120 zA)] H := hP
  have hD : va_D A [(q, .inr (4, [.int 0, .ref q_7, .ref q_15, .null, .null, .null, .null, .null, .null, .null, .int 0, .int 0, .int 0, .int 0, .int 0, .null, .null, .null, .null])), (q_7, ia cI 120 zA), (q_15, ia cI 120 zA)] := hD
  refine lv_aload_n F1 F2 dX6_init_20 rfl (lv_at hl 0 rfl) ?_
  refine lv_bipush (v := (120 : Int32)) F1 F2 dX6_init_21 (by decide) ?_
  refine nw_arr (atype := .int) (ty := .int) (a0 := (120, .inl zA)) F1 F2 (hts _ uX6_init_4) rfl hK 0 rfl (fun _ => nw_I) hP hD hS hA (fun _ => rfl) (by decide) (by decide) (by decide) (Nat.le_of_ble_eq_true rfl) (Nat.le_of_ble_eq_true rfl) dX6_init_23 (fun q_23 H hP hD hS => ?_)
  have hP : va_P D vwCl [(q, .inr (4, [.int 0, .ref q_7, .ref q_15, .null, .null, .null, .null, .null, .null, .null, .int 0, .int 0, .int 0, .int 0, .int 0, .null, .null, .null, .null])), (q_7, ia cI 120 zA), (q_15, ia cI 120 zA), (q_23, ia cI 120 zA)] H := hP
  have hD : va_D A [(q, .inr (4, [.int 0, .ref q_7, .ref q_15, .null, .null, .null, .null, .null, .null, .null, .int 0, .int 0, .int 0, .int 0, .int 0, .null, .null, .null, .null])), (q_7, ia cI 120 zA), (q_15, ia cI 120 zA), (q_23, ia cI 120 zA)] := hD
  refine W.widen (k := 3) (n := 360) (by omega) (by omega) ?_
  refine va_putF (D := D) (ci := 4) (v := .ref q_23) (ty := .array .int) (C := RX6) (T := TX6) (N := 19) F1 F2 hts vX6_init_X6 tyX6 tyX6_ok nmX6 hown hK hP hD hS 0 rfl rfl 3 (by decide) (hts _ uX6_init_7) (fun _ h9 => h9) rfl hin rfl (by decide +kernel) rfl rfl (Nat.le_of_ble_eq_true rfl) dX6_init_25 (fun H locs hP hD hS => ?_)
  have hP : va_P D vwCl [(q, .inr (4, [.int 0, .ref q_7, .ref q_15, .ref q_23, .null, .null, .null, .null, .null, .null, .int 0, .int 0, .int 0, .int 0, .int 0, .null, .null, .null, .null])), (q_7, ia cI 120 zA), (q_15, ia cI 120 zA), (q_23, ia cI 120 zA)] H := hP
  have hD : va_D A [(q, .inr (4, [.int 0, .ref q_7, .ref q_15, .ref q_23, .null, .null, .null, .null, .null, .null, .int 0, .int 0, .int 0, .int 0, .int 0, .null, .null, .null, .null])), (q_7, ia cI 120 zA), (q_15, ia cI 120 zA), (q_23, ia cI 120 zA)] := hD
  refine lv_aload_n F1 F2 dX6_init_28 rfl (lv_at hl 0 rfl) ?_
  refine lv_bipush (v := (120 : Int32)) F1 F2 dX6_init_29 (by decide) ?_
  refine nw_arr (atype := .int) (ty := .int) (a0 := (120, .inl zA)) F1 F2 (hts _ uX6_init_4) rfl hK 0 rfl (fun _ => nw_I) hP hD hS hA (fun _ => rfl) (by decide) (by decide) (by decide) (Nat.le_of_ble_eq_true rfl) (Nat.le_of_ble_eq_true rfl) dX6_init_31 (fun q_31 H hP hD hS => ?_)
  have hP : va_P D vwCl [(q, .inr (4, [.int 0, .ref q_7, .ref q_15, .ref q_23, .null, .null, .null, .null, .null, .null, .int 0, .int 0, .int 0, .int 0, .int 0, .null, .null, .null, .null])), (q_7, ia cI 120 zA), (q_15, ia cI 120 zA), (q_23, ia cI 120 zA), (q_31, ia cI 120 zA)] H := hP
  have hD : va_D A [(q, .inr (4, [.int 0, .ref q_7, .ref q_15, .ref q_23, .null, .null, .null, .null, .null, .null, .int 0, .int 0, .int 0, .int 0, .int 0, .null, .null, .null, .null])), (q_7, ia cI 120 zA), (q_15, ia cI 120 zA), (q_23, ia cI 120 zA), (q_31, ia cI 120 zA)] := hD
  refine W.widen (k := 4) (n := 480) (by omega) (by omega) ?_
  refine va_putF (D := D) (ci := 4) (v := .ref q_31) (ty := .array .int) (C := RX6) (T := TX6) (N := 19) F1 F2 hts vX6_init_X6 tyX6 tyX6_ok nmX6 hown hK hP hD hS 0 rfl rfl 4 (by decide) (hts _ uX6_init_8) (fun _ h9 => h9) rfl hin rfl (by decide +kernel) rfl rfl (Nat.le_of_ble_eq_true rfl) dX6_init_33 (fun H locs hP hD hS => ?_)
  have hP : va_P D vwCl [(q, .inr (4, [.int 0, .ref q_7, .ref q_15, .ref q_23, .ref q_31, .null, .null, .null, .null, .null, .int 0, .int 0, .int 0, .int 0, .int 0, .null, .null, .null, .null])), (q_7, ia cI 120 zA), (q_15, ia cI 120 zA), (q_23, ia cI 120 zA), (q_31, ia cI 120 zA)] H := hP
  have hD : va_D A [(q, .inr (4, [.int 0, .ref q_7, .ref q_15, .ref q_23, .ref q_31, .null, .null, .null, .null, .null, .int 0, .int 0, .int 0, .int 0, .int 0, .null, .null, .null, .null])), (q_7, ia cI 120 zA), (q_15, ia cI 120 zA), (q_23, ia cI 120 zA), (q_31, ia cI 120 zA)] := hD
  refine lv_aload_n F1 F2 dX6_init_36 rfl (lv_at hl 0 rfl) ?_
  refine lv_bipush (v := (120 : Int32)) F1 F2 dX6_init_37 (by decide) ?_
  refine nw_arr (atype := .int) (ty := .int) (a0 := (120, .inl zA)) F1 F2 (hts _ uX6_init_4) rfl hK 0 rfl (fun _ => nw_I) hP hD hS hA (fun _ => rfl) (by decide) (by decide) (by decide) (Nat.le_of_ble_eq_true rfl) (Nat.le_of_ble_eq_true rfl) dX6_init_39 (fun q_39 H hP hD hS => ?_)
  have hP : va_P D vwCl [(q, .inr (4, [.int 0, .ref q_7, .ref q_15, .ref q_23, .ref q_31, .null, .null, .null, .null, .null, .int 0, .int 0, .int 0, .int 0, .int 0, .null, .null, .null, .null])), (q_7, ia cI 120 zA), (q_15, ia cI 120 zA), (q_23, ia cI 120 zA), (q_31, ia cI 120 zA), (q_39, ia cI 120 zA)] H := hP
  have hD : va_D A [(q, .inr (4, [.int 0, .ref q_7, .ref q_15, .ref q_23, .ref q_31, .null, .null, .null, .null, .null, .int 0, .int 0, .int 0, .int 0, .int 0, .null, .null, .null, .null])), (q_7, ia cI 120 zA), (q_15, ia cI 120 zA), (q_23, ia cI 120 zA), (q_31, ia cI 120 zA), (q_39, ia cI 120 zA)] := hD
  refine W.widen (k := 5) (n := 600) (by omega) (by omega) ?_
  refine va_putF (D := D) (ci := 4) (v := .ref q_39) (ty := .array .int) (C := RX6) (T := TX6) (N := 19) F1 F2 hts vX6_init_X6 tyX6 tyX6_ok nmX6 hown hK hP hD hS 0 rfl rfl 5 (by decide) (hts _ uX6_init_9) (fun _ h9 => h9) rfl hin rfl (by decide +kernel) rfl rfl (Nat.le_of_ble_eq_true rfl) dX6_init_41 (fun H locs hP hD hS => ?_)
  have hP : va_P D vwCl [(q, .inr (4, [.int 0, .ref q_7, .ref q_15, .ref q_23, .ref q_31, .ref q_39, .null, .null, .null, .null, .int 0, .int 0, .int 0, .int 0, .int 0, .null, .null, .null, .null])), (q_7, ia cI 120 zA), (q_15, ia cI 120 zA), (q_23, ia cI 120 zA), (q_31, ia cI 120 zA), (q_39, ia cI 120 zA)] H := hP
  have hD : va_D A [(q, .inr (4, [.int 0, .ref q_7, .ref q_15, .ref q_23, .ref q_31, .ref q_39, .null, .null, .null, .null, .int 0, .int 0, .int 0, .int 0, .int 0, .null, .null, .null, .null])), (q_7, ia cI 120 zA), (q_15, ia cI 120 zA), (q_23, ia cI 120 zA), (q_31, ia cI 120 zA), (q_39, ia cI 120 zA)] := hD
  refine lv_aload_n F1 F2 dX6_init_44 rfl (lv_at hl 0 rfl) ?_
  refine lv_sipush (v := (360 : Int32)) F1 F2 dX6_init_45 (by decide) ?_
  refine nw_arr (atype := .int) (ty := .int) (a0 := (360, .inl zA)) F1 F2 (hts _ uX6_init_4) rfl hK 0 rfl (fun _ => nw_I) hP hD hS hA (fun _ => rfl) (by decide) (by decide) (by decide) (Nat.le_of_ble_eq_true rfl) (Nat.le_of_ble_eq_true rfl) dX6_init_48 (fun q_48 H hP hD hS => ?_)
  have hP : va_P D vwCl [(q, .inr (4, [.int 0, .ref q_7, .ref q_15, .ref q_23, .ref q_31, .ref q_39, .null, .null, .null, .null, .int 0, .int 0, .int 0, .int 0, .int 0, .null, .null, .null, .null])), (q_7, ia cI 120 zA), (q_15, ia cI 120 zA), (q_23, ia cI 120 zA), (q_31, ia cI 120 zA), (q_39, ia cI 120 zA), (q_48, ia cI 360 zA)] H := hP
  have hD : va_D A [(q, .inr (4, [.int 0, .ref q_7, .ref q_15, .ref q_23, .ref q_31, .ref q_39, .null, .null, .null, .null, .int 0, .int 0, .int 0, .int 0, .int 0, .null, .null, .null, .null])), (q_7, ia cI 120 zA), (q_15, ia cI 120 zA), (q_23, ia cI 120 zA), (q_31, ia cI 120 zA), (q_39, ia cI 120 zA), (q_48, ia cI 360 zA)] := hD
  refine W.widen (k := 6) (n := 960) (by omega) (by omega) ?_
  refine va_putF (D := D) (ci := 4) (v := .ref q_48) (ty := .array .int) (C := RX6) (T := TX6) (N := 19) F1 F2 hts vX6_init_X6 tyX6 tyX6_ok nmX6 hown hK hP hD hS 0 rfl rfl 6 (by decide) (hts _ uX6_init_10) (fun _ h9 => h9) rfl hin rfl (by decide +kernel) rfl rfl (Nat.le_of_ble_eq_true rfl) dX6_init_50 (fun H locs hP hD hS => ?_)
  have hP : va_P D vwCl [(q, .inr (4, [.int 0, .ref q_7, .ref q_15, .ref q_23, .ref q_31, .ref q_39, .ref q_48, .null, .null, .null, .int 0, .int 0, .int 0, .int 0, .int 0, .null, .null, .null, .null])), (q_7, ia cI 120 zA), (q_15, ia cI 120 zA), (q_23, ia cI 120 zA), (q_31, ia cI 120 zA), (q_39, ia cI 120 zA), (q_48, ia cI 360 zA)] H := hP
  have hD : va_D A [(q, .inr (4, [.int 0, .ref q_7, .ref q_15, .ref q_23, .ref q_31, .ref q_39, .ref q_48, .null, .null, .null, .int 0, .int 0, .int 0, .int 0, .int 0, .null, .null, .null, .null])), (q_7, ia cI 120 zA), (q_15, ia cI 120 zA), (q_23, ia cI 120 zA), (q_31, ia cI 120 zA), (q_39, ia cI 120 zA), (q_48, ia cI 360 zA)] := hD
  refine lv_aload_n F1 F2 dX6_init_53 rfl (lv_at hl 0 rfl) ?_
  refine lv_bipush (v := (120 : Int32)) F1 F2 dX6_init_54 (by decide) ?_
  refine nw_arr (atype := .boolean) (ty := .boolean) (a0 := (120, .inl zA)) F1 F2 (hts _ uX6_init_11) rfl hK 2 rfl (fun _ => nw_Z) hP hD hS hA (fun _ => rfl) (by decide) (by decide) (by decide) (Nat.le_of_ble_eq_true rfl) (Nat.le_of_ble_eq_true rfl) dX6_init_56 (fun q_56 H hP hD hS => ?_)
  have hP : va_P D vwCl [(q, .inr (4, [.int 0, .ref q_7, .ref q_15, .ref q_23, .ref q_31, .ref q_39, .ref q_48, .null, .null, .null, .int 0, .int 0, .int 0, .int 0, .int 0, .null, .null, .null, .null])), (q_7, ia cI 120 zA), (q_15, ia cI 120 zA), (q_23, ia cI 120 zA), (q_31, ia cI 120 zA), (q_39, ia cI 120 zA), (q_48, ia cI 360 zA), (q_56, ia cZ 120 zA)] H := hP
  have hD : va_D A [(q, .inr (4, [.int 0, .ref q_7, .ref q_15, .ref q_23, .ref q_31, .ref q_39, .ref q_48, .null, .null, .null, .int 0, .int 0, .int 0, .int 0, .int 0, .null, .null, .null, .null])), (q_7, ia cI 120 zA), (q_15, ia cI 120 zA), (q_23, ia cI 120 zA), (q_31, ia cI 120 zA), (q_39, ia cI 120 zA), (q_48, ia cI 360 zA), (q_56, ia cZ 120 zA)] := hD
  refine W.widen (k := 7) (n := 1080) (by omega) (by omega) ?_
  refine va_putF (D := D) (ci := 4) (v := .ref q_56) (ty := .array .boolean) (C := RX6) (T := TX6) (N := 19) F1 F2 hts vX6_init_X6 tyX6 tyX6_ok nmX6 hown hK hP hD hS 0 rfl rfl 7 (by decide) (hts _ uX6_init_12) (fun _ h9 => h9) rfl hin rfl (by decide +kernel) rfl rfl (Nat.le_of_ble_eq_true rfl) dX6_init_58 (fun H locs hP hD hS => ?_)
  have hP : va_P D vwCl [(q, .inr (4, [.int 0, .ref q_7, .ref q_15, .ref q_23, .ref q_31, .ref q_39, .ref q_48, .ref q_56, .null, .null, .int 0, .int 0, .int 0, .int 0, .int 0, .null, .null, .null, .null])), (q_7, ia cI 120 zA), (q_15, ia cI 120 zA), (q_23, ia cI 120 zA), (q_31, ia cI 120 zA), (q_39, ia cI 120 zA), (q_48, ia cI 360 zA), (q_56, ia cZ 120 zA)] H := hP
  have hD : va_D A [(q, .inr (4, [.int 0, .ref q_7, .ref q_15, .ref q_23, .ref q_31, .ref q_39, .ref q_48, .ref q_56, .null, .null, .int 0, .int 0, .int 0, .int 0, .int 0, .null, .null, .null, .null])), (q_7, ia cI 120 zA), (q_15, ia cI 120 zA), (q_23, ia cI 120 zA), (q_31, ia cI 120 zA), (q_39, ia cI 120 zA), (q_48, ia cI 360 zA), (q_56, ia cZ 120 zA)] := hD
  refine lv_aload_n F1 F2 dX6_init_61 rfl (lv_at hl 0 rfl) ?_
  refine lv_iconst (v := (5 : Int32)) F1 F2 dX6_init_62 (by decide) ?_
  refine nw_arr (atype := .int) (ty := .int) (a0 := (5, .inl zA)) F1 F2 (hts _ uX6_init_4) rfl hK 0 rfl (fun _ => nw_I) hP hD hS hA (fun _ => rfl) (by decide) (by decide) (by decide) (Nat.le_of_ble_eq_true rfl) (Nat.le_of_ble_eq_true rfl) dX6_init_63 (fun q_63 H hP hD hS => ?_)
  have hP : va_P D vwCl [(q, .inr (4, [.int 0, .ref q_7, .ref q_15, .ref q_23, .ref q_31, .ref q_39, .ref q_48, .ref q_56, .null, .null, .int 0, .int 0, .int 0, .int 0, .int 0, .null, .null, .null, .null])), (q_7, ia cI 120 zA), (q_15, ia cI 120 zA), (q_23, ia cI 120 zA), (q_31, ia cI 120 zA), (q_39, ia cI 120 zA), (q_48, ia cI 360 zA), (q_56, ia cZ 120 zA), (q_63, ia cI 5 zA)] H := hP
  have hD : va_D A [(q, .inr (4, [.int 0, .ref q_7, .ref q_15, .ref q_23, .ref q_31, .ref q_39, .ref q_48, .ref q_56, .null, .null, .int 0, .int 0, .int 0, .int 0, .int 0, .null, .null, .null, .null])), (q_7, ia cI 120 zA), (q_15, ia cI 120 zA), (q_23, ia cI 120 zA), (q_31, ia cI 120 zA), (q_39, ia cI 120 zA), (q_48, ia cI 360 zA), (q_56, ia cZ 120 zA), (q_63, ia cI 5 zA)] := hD
  refine W.widen (k := 8) (n := 1085) (by omega) (by omega) ?_
  refine va_putF (D := D) (ci := 4) (v := .ref q_63) (ty := .array .int) (C := RX6) (T := TX6) (N := 19) F1 F2 hts vX6_init_X6 tyX6 tyX6_ok nmX6 hown hK hP hD hS 0 rfl rfl 8 (by decide) (hts _ uX6_init_13) (fun _ h9 => h9) rfl hin rfl (by decide +kernel) rfl rfl (Nat.le_of_ble_eq_true rfl) dX6_init_65 (fun H locs hP hD hS => ?_)
  have hP : va_P D vwCl [(q, .inr (4, [.int 0, .ref q_7, .ref q_15, .ref q_23, .ref q_31, .ref q_39, .ref q_48, .ref q_56, .ref q_63, .null, .int 0, .int 0, .int 0, .int 0, .int 0, .null, .null, .null, .null])), (q_7, ia cI 120 zA), (q_15, ia cI 120 zA), (q_23, ia cI 120 zA), (q_31, ia cI 120 zA), (q_39, ia cI 120 zA), (q_48, ia cI 360 zA), (q_56, ia cZ 120 zA), (q_63, ia cI 5 zA)] H := hP
  have hD : va_D A [(q, .inr (4, [.int 0, .ref q_7, .ref q_15, .ref q_23, .ref q_31, .ref q_39, .ref q_48, .ref q_56, .ref q_63, .null, .int 0, .int 0, .int 0, .int 0, .int 0, .null, .null, .null, .null])), (q_7, ia cI 120 zA), (q_15, ia cI 120 zA), (q_23, ia cI 120 zA), (q_31, ia cI 120 zA), (q_39, ia cI 120 zA), (q_48, ia cI 360 zA), (q_56, ia cZ 120 zA), (q_63, ia cI 5 zA)] := hD
  refine lv_aload_n F1 F2 dX6_init_68 rfl (lv_at hl 0 rfl) ?_
  refine lv_iconst (v := (5 : Int32)) F1 F2 dX6_init_69 (by decide) ?_
  refine nw_arr (atype := .int) (ty := .int) (a0 := (5, .inl zA)) F1 F2 (hts _ uX6_init_4) rfl hK 0 rfl (fun _ => nw_I) hP hD hS hA (fun _ => rfl) (by decide) (by decide) (by decide) (Nat.le_of_ble_eq_true rfl) (Nat.le_of_ble_eq_true rfl) dX6_init_70 (fun q_70 H hP hD hS => ?_)
  have hP : va_P D vwCl [(q, .inr (4, [.int 0, .ref q_7, .ref q_15, .ref q_23, .ref q_31, .ref q_39, .ref q_48, .ref q_56, .ref q_63, .null, .int 0, .int 0, .int 0, .int 0, .int 0, .null, .null, .null, .null])), (q_7, ia cI 120 zA), (q_15, ia cI 120 zA), (q_23, ia cI 120 zA), (q_31, ia cI 120 zA), (q_39, ia cI 120 zA), (q_48, ia cI 360 zA), (q_56, ia cZ 120 zA), (q_63, ia cI 5 zA), (q_70, ia cI 5 zA)] H := hP
  have hD : va_D A [(q, .inr (4, [.int 0, .ref q_7, .ref q_15, .ref q_23, .ref q_31, .ref q_39, .ref q_48, .ref q_56, .ref q_63, .null, .int 0, .int 0, .int 0, .int 0, .int 0, .null, .null, .null, .null])), (q_7, ia cI 120 zA), (q_15, ia cI 120 zA), (q_23, ia cI 120 zA), (q_31, ia cI 120 zA), (q_39, ia cI 120 zA), (q_48, ia cI 360 zA), (q_56, ia cZ 120 zA), (q_63, ia cI 5 zA), (q_70, ia cI 5 zA)] := hD
  refine W.widen (k := 9) (n := 1090) (by omega) (by omega) ?_
  refine va_putF (D := D) (ci := 4) (v := .ref q_70) (ty := .array .int) (C := RX6) (T := TX6) (N := 19) F1 F2 hts vX6_init_X6 tyX6 tyX6_ok nmX6 hown hK hP hD hS 0 rfl rfl 9 (by decide) (hts _ uX6_init_14) (fun _ h9 => h9) rfl hin rfl (by decide +kernel) rfl rfl (Nat.le_of_ble_eq_true rfl) dX6_init_72 (fun H locs hP hD hS => ?_)
  have hP : va_P D vwCl [(q, .inr (4, [.int 0, .ref q_7, .ref q_15, .ref q_23, .ref q_31, .ref q_39, .ref q_48, .ref q_56, .ref q_63, .ref q_70, .int 0, .int 0, .int 0, .int 0, .int 0, .null, .null, .null, .null])), (q_7, ia cI 120 zA), (q_15, ia cI 120 zA), (q_23, ia cI 120 zA), (q_31, ia cI 120 zA), (q_39, ia cI 120 zA), (q_48, ia cI 360 zA), (q_56, ia cZ 120 zA), (q_63, ia cI 5 zA), (q_70, ia cI 5 zA)] H := hP
  have hD : va_D A [(q, .inr (4, [.int 0, .ref q_7, .ref q_15, .ref q_23, .ref q_31, .ref q_39, .ref q_48, .ref q_56, .ref q_63, .ref q_70, .int 0, .int 0, .int 0, .int 0, .int 0, .null, .null, .null, .null])), (q_7, ia cI 120 zA), (q_15, ia cI 120 zA), (q_23, ia cI 120 zA), (q_31, ia cI 120 zA), (q_39, ia cI 120 zA), (q_48, ia cI 360 zA), (q_56, ia cZ 120 zA), (q_63, ia cI 5 zA), (q_70, ia cI 5 zA)] := hD
  refine lv_aload_n F1 F2 dX6_init_75 rfl (lv_at hl 0 rfl) ?_
  refine lv_iconst (v := (-1 : Int32)) F1 F2 dX6_init_76 (by decide) ?_
  refine va_put (D := D) (ci := 4) (v := .int (-1)) (ty := .int) (C := RX6) (T := TX6) (N := 19) F1 F2 hts vX6_init_X6 tyX6 tyX6_ok nmX6 hown hK hP hD hS 0 rfl rfl 11 (by decide) (hts _ uX6_init_15) (fun _ h9 => h9) rfl (by decide +kernel) rfl rfl (Nat.le_of_ble_eq_true rfl) dX6_init_77 (fun H locs hP hD hS => ?_)
  have hP : va_P D vwCl [(q, .inr (4, [.int 0, .ref q_7, .ref q_15, .ref q_23, .ref q_31, .ref q_39, .ref q_48, .ref q_56, .ref q_63, .ref q_70, .int 0, .int (-1), .int 0, .int 0, .int 0, .null, .null, .null, .null])), (q_7, ia cI 120 zA), (q_15, ia cI 120 zA), (q_23, ia cI 120 zA), (q_31, ia cI 120 zA), (q_39, ia cI 120 zA), (q_48, ia cI 360 zA), (q_56, ia cZ 120 zA), (q_63, ia cI 5 zA), (q_70, ia cI 5 zA)] H := hP
  have hD : va_D A [(q, .inr (4, [.int 0, .ref q_7, .ref q_15, .ref q_23, .ref q_31, .ref q_39, .ref q_48, .ref q_56, .ref q_63, .ref q_70, .int 0, .int (-1), .int 0, .int 0, .int 0, .null, .null, .null, .null])), (q_7, ia cI 120 zA), (q_15, ia cI 120 zA), (q_23, ia cI 120 zA), (q_31, ia cI 120 zA), (q_39, ia cI 120 zA), (q_48, ia cI 360 zA), (q_56, ia cZ 120 zA), (q_63, ia cI 5 zA), (q_70, ia cI 5 zA)] := hD
  refine lv_aload_n F1 F2 dX6_init_80 rfl (lv_at hl 0 rfl) ?_
  refine lv_bipush (v := (8 : Int32)) F1 F2 dX6_init_81 (by decide) ?_
  refine nw_arr (atype := .int) (ty := .int) (a0 := (8, .inl zA)) F1 F2 (hts _ uX6_init_4) rfl hK 0 rfl (fun _ => nw_I) hP hD hS hA (fun _ => rfl) (by decide) (by decide) (by decide) (Nat.le_of_ble_eq_true rfl) (Nat.le_of_ble_eq_true rfl) dX6_init_83 (fun q_83 H hP hD hS => ?_)
  have hP : va_P D vwCl [(q, .inr (4, [.int 0, .ref q_7, .ref q_15, .ref q_23, .ref q_31, .ref q_39, .ref q_48, .ref q_56, .ref q_63, .ref q_70, .int 0, .int (-1), .int 0, .int 0, .int 0, .null, .null, .null, .null])), (q_7, ia cI 120 zA), (q_15, ia cI 120 zA), (q_23, ia cI 120 zA), (q_31, ia cI 120 zA), (q_39, ia cI 120 zA), (q_48, ia cI 360 zA), (q_56, ia cZ 120 zA), (q_63, ia cI 5 zA), (q_70, ia cI 5 zA), (q_83, ia cI 8 zA)] H := hP
  have hD : va_D A [(q, .inr (4, [.int 0, .ref q_7, .ref q_15, .ref q_23, .ref q_31, .ref q_39, .ref q_48, .ref q_56, .ref q_63, .ref q_70, .int 0, .int (-1), .int 0, .int 0, .int 0, .null, .null, .null, .null])), (q_7, ia cI 120 zA), (q_15, ia cI 120 zA), (q_23, ia cI 120 zA), (q_31, ia cI 120 zA), (q_39, ia cI 120 zA), (q_48, ia cI 360 zA), (q_56, ia cZ 120 zA), (q_63, ia cI 5 zA), (q_70, ia cI 5 zA), (q_83, ia cI 8 zA)] := hD
  refine W.widen (k := 10) (n := 1098) (by omega) (by omega) ?_
  refine va_putF (D := D) (ci := 4) (v := .ref q_83) (ty := .array .int) (C := RX6) (T := TX6) (N := 19) F1 F2 hts vX6_init_X6 tyX6 tyX6_ok nmX6 hown hK hP hD hS 0 rfl rfl 15 (by decide) (hts _ uX6_init_16) (fun _ h9 => h9) rfl hin rfl (by decide +kernel) rfl rfl (Nat.le_of_ble_eq_true rfl) dX6_init_85 (fun H locs hP hD hS => ?_)
  have hP : va_P D vwCl [(q, .inr (4, [.int 0, .ref q_7, .ref q_15, .ref q_23, .ref q_31, .ref q_39, .ref q_48, .ref q_56, .ref q_63, .ref q_70, .int 0, .int (-1), .int 0, .int 0, .int 0, .ref q_83, .null, .null, .null])), (q_7, ia cI 120 zA), (q_15, ia cI 120 zA), (q_23, ia cI 120 zA), (q_31, ia cI 120 zA), (q_39, ia cI 120 zA), (q_48, ia cI 360 zA), (q_56, ia cZ 120 zA), (q_63, ia cI 5 zA), (q_70, ia cI 5 zA), (q_83, ia cI 8 zA)] H := hP
  have hD : va_D A [(q, .inr (4, [.int 0, .ref q_7, .ref q_15, .ref q_23, .ref q_31, .ref q_39, .ref q_48, .ref q_56, .ref q_63, .ref q_70, .int 0, .int (-1), .int 0, .int 0, .int 0, .ref q_83, .null, .null, .null])), (q_7, ia cI 120 zA), (q_15, ia cI 120 zA), (q_23, ia cI 120 zA), (q_31, ia cI 120 zA), (q_39, ia cI 120 zA), (q_48, ia cI 360 zA), (q_56, ia cZ 120 zA), (q_63, ia cI 5 zA), (q_70, ia cI 5 zA), (q_83, ia cI 8 zA)] := hD
  refine lv_aload_n F1 F2 dX6_init_88 rfl (lv_at hl 0 rfl) ?_
  refine lv_bipush (v := (8 : Int32)) F1 F2 dX6_init_89 (by decide) ?_
  refine nw_arr (atype := .int) (ty := .int) (a0 := (8, .inl zA)) F1 F2 (hts _ uX6_init_4) rfl hK 0 rfl (fun _ => nw_I) hP hD hS hA (fun _ => rfl) (by decide) (by decide) (by decide) (Nat.le_of_ble_eq_true rfl) (Nat.le_of_ble_eq_true rfl) dX6_init_91 (fun q_91 H hP hD hS => ?_)
  have hP : va_P D vwCl [(q, .inr (4, [.int 0, .ref q_7, .ref q_15, .ref q_23, .ref q_31, .ref q_39, .ref q_48, .ref q_56, .ref q_63, .ref q_70, .int 0, .int (-1), .int 0, .int 0, .int 0, .ref q_83, .null, .null, .null])), (q_7, ia cI 120 zA), (q_15, ia cI 120 zA), (q_23, ia cI 120 zA), (q_31, ia cI 120 zA), (q_39, ia cI 120 zA), (q_48, ia cI 360 zA), (q_56, ia cZ 120 zA), (q_63, ia cI 5 zA), (q_70, ia cI 5 zA), (q_83, ia cI 8 zA), (q_91, ia cI 8 zA)] H := hP
  have hD : va_D A [(q, .inr (4, [.int 0, .ref q_7, .ref q_15, .ref q_23, .ref q_31, .ref q_39, .ref q_48, .ref q_56, .ref q_63, .ref q_70, .int 0, .int (-1), .int 0, .int 0, .int 0, .ref q_83, .null, .null, .null])), (q_7, ia cI 120 zA), (q_15, ia cI 120 zA), (q_23, ia cI 120 zA), (q_31, ia cI 120 zA), (q_39, ia cI 120 zA), (q_48, ia cI 360 zA), (q_56, ia cZ 120 zA), (q_63, ia cI 5 zA), (q_70, ia cI 5 zA), (q_83, ia cI 8 zA), (q_91, ia cI 8 zA)] := hD
  refine W.widen (k := 11) (n := 1106) (by omega) (by omega) ?_
  refine va_putF (D := D) (ci := 4) (v := .ref q_91) (ty := .array .int) (C := RX6) (T := TX6) (N := 19) F1 F2 hts vX6_init_X6 tyX6 tyX6_ok nmX6 hown hK hP hD hS 0 rfl rfl 16 (by decide) (hts _ uX6_init_17) (fun _ h9 => h9) rfl hin rfl (by decide +kernel) rfl rfl (Nat.le_of_ble_eq_true rfl) dX6_init_93 (fun H locs hP hD hS => ?_)
  have hP : va_P D vwCl [(q, .inr (4, [.int 0, .ref q_7, .ref q_15, .ref q_23, .ref q_31, .ref q_39, .ref q_48, .ref q_56, .ref q_63, .ref q_70, .int 0, .int (-1), .int 0, .int 0, .int 0, .ref q_83, .ref q_91, .null, .null])), (q_7, ia cI 120 zA), (q_15, ia cI 120 zA), (q_23, ia cI 120 zA), (q_31, ia cI 120 zA), (q_39, ia cI 120 zA), (q_48, ia cI 360 zA), (q_56, ia cZ 120 zA), (q_63, ia cI 5 zA), (q_70, ia cI 5 zA), (q_83, ia cI 8 zA), (q_91, ia cI 8 zA)] H := hP
  have hD : va_D A [(q, .inr (4, [.int 0, .ref q_7, .ref q_15, .ref q_23, .ref q_31, .ref q_39, .ref q_48, .ref q_56, .ref q_63, .ref q_70, .int 0, .int (-1), .int 0, .int 0, .int 0, .ref q_83, .ref q_91, .null, .null])), (q_7, ia cI 120 zA), (q_15, ia cI 120 zA), (q_23, ia cI 120 zA), (q_31, ia cI 120 zA), (q_39, ia cI 120 zA), (q_48, ia cI 360 zA), (q_56, ia cZ 120 zA), (q_63, ia cI 5 zA), (q_70, ia cI 5 zA), (q_83, ia cI 8 zA), (q_91, ia cI 8 zA)] := hD
  refine lv_aload_n F1 F2 dX6_init_96 rfl (lv_at hl 0 rfl) ?_
  refine lv_sipush (v := (216 : Int32)) F1 F2 dX6_init_97 (by decide) ?_
  refine nw_arr (atype := .int) (ty := .int) (a0 := (216, .inl zA)) F1 F2 (hts _ uX6_init_4) rfl hK 0 rfl (fun _ => nw_I) hP hD hS hA (fun _ => rfl) (by decide) (by decide) (by decide) (Nat.le_of_ble_eq_true rfl) (Nat.le_of_ble_eq_true rfl) dX6_init_100 (fun q_100 H hP hD hS => ?_)
  have hP : va_P D vwCl [(q, .inr (4, [.int 0, .ref q_7, .ref q_15, .ref q_23, .ref q_31, .ref q_39, .ref q_48, .ref q_56, .ref q_63, .ref q_70, .int 0, .int (-1), .int 0, .int 0, .int 0, .ref q_83, .ref q_91, .null, .null])), (q_7, ia cI 120 zA), (q_15, ia cI 120 zA), (q_23, ia cI 120 zA), (q_31, ia cI 120 zA), (q_39, ia cI 120 zA), (q_48, ia cI 360 zA), (q_56, ia cZ 120 zA), (q_63, ia cI 5 zA), (q_70, ia cI 5 zA), (q_83, ia cI 8 zA), (q_91, ia cI 8 zA), (q_100, ia cI 216 zA)] H := hP
  have hD : va_D A [(q, .inr (4, [.int 0, .ref q_7, .ref q_15, .ref q_23, .ref q_31, .ref q_39, .ref q_48, .ref q_56, .ref q_63, .ref q_70, .int 0, .int (-1), .int 0, .int 0, .int 0, .ref q_83, .ref q_91, .null, .null])), (q_7, ia cI 120 zA), (q_15, ia cI 120 zA), (q_23, ia cI 120 zA), (q_31, ia cI 120 zA), (q_39, ia cI 120 zA), (q_48, ia cI 360 zA), (q_56, ia cZ 120 zA), (q_63, ia cI 5 zA), (q_70, ia cI 5 zA), (q_83, ia cI 8 zA), (q_91, ia cI 8 zA), (q_100, ia cI 216 zA)] := hD
  refine W.widen (k := 12) (n := 1322) (by omega) (by omega) ?_
  refine va_putF (D := D) (ci := 4) (v := .ref q_100) (ty := .array .int) (C := RX6) (T := TX6) (N := 19) F1 F2 hts vX6_init_X6 tyX6 tyX6_ok nmX6 hown hK hP hD hS 0 rfl rfl 17 (by decide) (hts _ uX6_init_18) (fun _ h9 => h9) rfl hin rfl (by decide +kernel) rfl rfl (Nat.le_of_ble_eq_true rfl) dX6_init_102 (fun H locs hP hD hS => ?_)
  have hP : va_P D vwCl [(q, .inr (4, [.int 0, .ref q_7, .ref q_15, .ref q_23, .ref q_31, .ref q_39, .ref q_48, .ref q_56, .ref q_63, .ref q_70, .int 0, .int (-1), .int 0, .int 0, .int 0, .ref q_83, .ref q_91, .ref q_100, .null])), (q_7, ia cI 120 zA), (q_15, ia cI 120 zA), (q_23, ia cI 120 zA), (q_31, ia cI 120 zA), (q_39, ia cI 120 zA), (q_48, ia cI 360 zA), (q_56, ia cZ 120 zA), (q_63, ia cI 5 zA), (q_70, ia cI 5 zA), (q_83, ia cI 8 zA), (q_91, ia cI 8 zA), (q_100, ia cI 216 zA)] H := hP
  have hD : va_D A [(q, .inr (4, [.int 0, .ref q_7, .ref q_15, .ref q_23, .ref q_31, .ref q_39, .ref q_48, .ref q_56, .ref q_63, .ref q_70, .int 0, .int (-1), .int 0, .int 0, .int 0, .ref q_83, .ref q_91, .ref q_100, .null])), (q_7, ia cI 120 zA), (q_15, ia cI 120 zA), (q_23, ia cI 120 zA), (q_31, ia cI 120 zA), (q_39, ia cI 120 zA), (q_48, ia cI 360 zA), (q_56, ia cZ 120 zA), (q_63, ia cI 5 zA), (q_70, ia cI 5 zA), (q_83, ia cI 8 zA), (q_91, ia cI 8 zA), (q_100, ia cI 216 zA)] := hD
  refine lv_aload_n F1 F2 dX6_init_105 rfl (lv_at hl 0 rfl) ?_
  refine lv_sipush (v := (216 : Int32)) F1 F2 dX6_init_106 (by decide) ?_
  refine nw_arr (atype := .int) (ty := .int) (a0 := (216, .inl zA)) F1 F2 (hts _ uX6_init_4) rfl hK 0 rfl (fun _ => nw_I) hP hD hS hA (fun _ => rfl) (by decide) (by decide) (by decide) (Nat.le_of_ble_eq_true rfl) (Nat.le_of_ble_eq_true rfl) dX6_init_109 (fun q_109 H hP hD hS => ?_)
  have hP : va_P D vwCl [(q, .inr (4, [.int 0, .ref q_7, .ref q_15, .ref q_23, .ref q_31, .ref q_39, .ref q_48, .ref q_56, .ref q_63, .ref q_70, .int 0, .int (-1), .int 0, .int 0, .int 0, .ref q_83, .ref q_91, .ref q_100, .null])), (q_7, ia cI 120 zA), (q_15, ia cI 120 zA), (q_23, ia cI 120 zA), (q_31, ia cI 120 zA), (q_39, ia cI 120 zA), (q_48, ia cI 360 zA), (q_56, ia cZ 120 zA), (q_63, ia cI 5 zA), (q_70, ia cI 5 zA), (q_83, ia cI 8 zA), (q_91, ia cI 8 zA), (q_100, ia cI 216 zA), (q_109, ia cI 216 zA)] H := hP
  have hD : va_D A [(q, .inr (4, [.int 0, .ref q_7, .ref q_15, .ref q_23, .ref q_31, .ref q_39, .ref q_48, .ref q_56, .ref q_63, .ref q_70, .int 0, .int (-1), .int 0, .int 0, .int 0, .ref q_83, .ref q_91, .ref q_100, .null])), (q_7, ia cI 120 zA), (q_15, ia cI 120 zA), (q_23, ia cI 120 zA), (q_31, ia cI 120 zA), (q_39, ia cI 120 zA), (q_48, ia cI 360 zA), (q_56, ia cZ 120 zA), (q_63, ia cI 5 zA), (q_70, ia cI 5 zA), (q_83, ia cI 8 zA), (q_91, ia cI 8 zA), (q_100, ia cI 216 zA), (q_109, ia cI 216 zA)] := hD
  refine W.widen (k := 13) (n := 1538) (by omega) (by omega) ?_
  refine va_putF (D := D) (ci := 4) (v := .ref q_109) (ty := .array .int) (C := RX6) (T := TX6) (N := 19) F1 F2 hts vX6_init_X6 tyX6 tyX6_ok nmX6 hown hK hP hD hS 0 rfl rfl 18 (by decide) (hts _ uX6_init_19) (fun _ h9 => h9) rfl hin rfl (by decide +kernel) rfl rfl (Nat.le_of_ble_eq_true rfl) dX6_init_111 (fun H locs hP hD hS => ?_)
  have hP : va_P D vwCl [(q, .inr (4, [.int 0, .ref q_7, .ref q_15, .ref q_23, .ref q_31, .ref q_39, .ref q_48, .ref q_56, .ref q_63, .ref q_70, .int 0, .int (-1), .int 0, .int 0, .int 0, .ref q_83, .ref q_91, .ref q_100, .ref q_109])), (q_7, ia cI 120 zA), (q_15, ia cI 120 zA), (q_23, ia cI 120 zA), (q_31, ia cI 120 zA), (q_39, ia cI 120 zA), (q_48, ia cI 360 zA), (q_56, ia cZ 120 zA), (q_63, ia cI 5 zA), (q_70, ia cI 5 zA), (q_83, ia cI 8 zA), (q_91, ia cI 8 zA), (q_100, ia cI 216 zA), (q_109, ia cI 216 zA)] H := hP
  have hD : va_D A [(q, .inr (4, [.int 0, .ref q_7, .ref q_15, .ref q_23, .ref q_31, .ref q_39, .ref q_48, .ref q_56, .ref q_63, .ref q_70, .int 0, .int (-1), .int 0, .int 0, .int 0, .ref q_83, .ref q_91, .ref q_100, .ref q_109])), (q_7, ia cI 120 zA), (q_15, ia cI 120 zA), (q_23, ia cI 120 zA), (q_31, ia cI 120 zA), (q_39, ia cI 120 zA), (q_48, ia cI 360 zA), (q_56, ia cZ 120 zA), (q_63, ia cI 5 zA), (q_70, ia cI 5 zA), (q_83, ia cI 8 zA), (q_91, ia cI 8 zA), (q_100, ia cI 216 zA), (q_109, ia cI 216 zA)] := hD
  exact W.vret F1 F2 hr (fun t ht hW => ⟨⟨adv [q, q_7, q_15, q_23, q_31, q_39, q_48, q_56, q_63, q_70, q_83, q_91, q_100, q_109], rfl, rfl, (by show va_P D vwCl (w6 (adv [q, q_7, q_15, q_23, q_31, q_39, q_48, q_56, q_63, q_70, q_83, q_91, q_100, q_109]) cI cZ z6) t.heap; rw [ht]; exact hP), (show va_D A (w6 (adv [q, q_7, q_15, q_23, q_31, q_39, q_48, q_56, q_63, q_70, q_83, q_91, q_100, q_109]) cI cZ z6) from hD)⟩, hS.F ht⟩) hS.2.2 dX6_init_114
