/-! THE WALKS of rows, printed by wip/whole/gen.py -/
section WALKS
variable {p : Program} {l : Launch} {e : Env} {s : State} {m : MethodId} {args : Array Value} {below : List Frame} {meth : Method} {c : Code} {QQ : State → Prop} {A : Nat → Prop} {D : va_G} {cI cJ cZ : ClassId} {ad : Nat → Nat}
abbrev rX2_size : Room := { frames := 0, cells := 0, slots := 0, locals := 0 }
theorem kV_X2_size : yX2_size.cls = RX2 ∧ yX2_size.cls ≠ "java/lang/invoke/MethodHandle" ∧ yX2_size.cls ≠ "java/lang/invoke/VarHandle" ∧ (parseMethodDescriptor yX2_size.desc).map (fun d => d.parameters.length) = some 0 := by decide +kernel
theorem vX2_size_X2 : ∀ w ∈ wsX20, w ∈ wsX2_size := fun _ h => List.mem_cons_of_mem _ (List.mem_append_right _ h)
theorem uX2_size_1 : Cond.fieldLink RX2 33 "SumMoved$Rows" "size" "I" ∈ wsX2_size := List.mem_of_getElem? (i := 1) rfl
set_option maxRecDepth 100000 in
theorem bX2_size {S : S2} {Q : Int32 → Prop} (F : CallFix p m c cX2_size 1 s args wsX2_size RX2) (hz : gz D cI cJ cZ s) (hP : va_P D vwCl (w2 ad cI S) s.heap) (hret : ∀ (v : Int32) (pc : Nat) (ls : Array Slot), Q v → decode cX2_size pc = .ok (.ireturn, 1) → W p l e rX2_size s m args below meth c s.heap [] 0 0 QQ (F0 m pc ls [.int v])) (h : wX2_size S Q) : ∀ ls : Array Slot, lv_has ls 1 [(0, .ref (ad 1))] → W p l e rX2_size s m args below meth c s.heap [] 0 0 QQ (F0 m 0 ls []) := by
  intro ls hl
  refine lv_aload_n F.1 F.2.1 dX2_size_0 rfl (lv_at hl 0 rfl) ?_
  refine va_get (D := D) (ci := 0) (v := .int S.2.2.2.2.2.2.2) (C := RX2) (T := TX2) (N := 8) F.1 F.2.1 F.2.2.2.2 vX2_size_X2 F.2.2.2.1 hz.1 hP 0 rfl rfl 7 (by decide) (F.2.2.2.2 _ uX2_size_1) (fun _ h9 => h9) rfl dX2_size_1 ?_
  exact hret _ _ _ h dX2_size_4
theorem mX2_size {l : Launch} {D : va_G} {cI cJ cZ : ClassId} {ad : Nat → Nat} {S : S2} {Q : Int32 → Prop} (h : wX2_size S Q) : Met l yX2_size wsX2_size rX2_size (va_Pc [.ref (ad 1)] (rp D cI cJ cZ (w2 ad cI S))) (vp_Si Q) 0 0 (fun _ => False) :=
  enter_i (by decide +kernel) rfl (Nat.le_of_ble_eq_true rfl) (fun p e s m args below meth c QQ F hz hret => bX2_size F hz.1 hz.2 hret h)
abbrev rX2_isFull : Room := { frames := 0, cells := 0, slots := 0, locals := 0 }
theorem kV_X2_isFull : yX2_isFull.cls = RX2 ∧ yX2_isFull.cls ≠ "java/lang/invoke/MethodHandle" ∧ yX2_isFull.cls ≠ "java/lang/invoke/VarHandle" ∧ (parseMethodDescriptor yX2_isFull.desc).map (fun d => d.parameters.length) = some 0 := by decide +kernel
theorem vX2_isFull_X2 : ∀ w ∈ wsX20, w ∈ wsX2_isFull := fun _ h => List.mem_cons_of_mem _ (List.mem_append_right _ h)
theorem uX2_isFull_1 : Cond.fieldLink RX2 33 "SumMoved$Rows" "size" "I" ∈ wsX2_isFull := List.mem_of_getElem? (i := 1) rfl
set_option maxRecDepth 100000 in
theorem bX2_isFull {S : S2} {Q : Int32 → Prop} (F : CallFix p m c cX2_isFull 1 s args wsX2_isFull RX2) (hz : gz D cI cJ cZ s) (hP : va_P D vwCl (w2 ad cI S) s.heap) (hret : ∀ (v : Int32) (pc : Nat) (ls : Array Slot), narrow .boolean (.int v) = .int v → Q v → decode cX2_isFull pc = .ok (.ireturn, 1) → W p l e rX2_isFull s m args below meth c s.heap [] 0 0 QQ (F0 m pc ls [.int v])) (h : wX2_isFull S Q) : ∀ ls : Array Slot, lv_has ls 1 [(0, .ref (ad 1))] → W p l e rX2_isFull s m args below meth c s.heap [] 0 0 QQ (F0 m 0 ls []) := by
  intro ls hl
  refine lv_aload_n F.1 F.2.1 dX2_isFull_0 rfl (lv_at hl 0 rfl) ?_
  refine va_get (D := D) (ci := 0) (v := .int S.2.2.2.2.2.2.2) (C := RX2) (T := TX2) (N := 8) F.1 F.2.1 F.2.2.2.2 vX2_isFull_X2 F.2.2.2.1 hz.1 hP 0 rfl rfl 7 (by decide) (F.2.2.2.2 _ uX2_isFull_1) (fun _ h9 => h9) rfl dX2_isFull_1 ?_
  refine lv_bipush (v := (120 : Int32)) F.1 F.2.1 dX2_isFull_4 (by decide) ?_
  refine lv_icmp_lt (tgt := 13) F.1 F.2.1 dX2_isFull_6 (by decide) (fun hc => ?_) (fun hc => ?_)
  · have h := h.1 (hc)
    refine lv_iconst (v := (0 : Int32)) F.1 F.2.1 dX2_isFull_13 (by decide) ?_
    exact hret _ _ _ nr_0 h dX2_isFull_14
  · have h := h.2 hc
    refine lv_iconst (v := (1 : Int32)) F.1 F.2.1 dX2_isFull_9 (by decide) ?_
    refine lv_goto (tgt := 14) F.1 F.2.1 dX2_isFull_10 (by decide) ?_
    exact hret _ _ _ nr_1 h dX2_isFull_14
theorem mX2_isFull {l : Launch} {D : va_G} {cI cJ cZ : ClassId} {ad : Nat → Nat} {S : S2} {Q : Int32 → Prop} (h : wX2_isFull S Q) : Met l yX2_isFull wsX2_isFull rX2_isFull (va_Pc [.ref (ad 1)] (rp D cI cJ cZ (w2 ad cI S))) (vp_Si (qb Q)) 0 0 (fun _ => False) :=
  enter_z (by decide +kernel) rfl (Nat.le_of_ble_eq_true rfl) (fun p e s m args below meth c QQ F hz hret => bX2_isFull F hz.1 hz.2 hret h)
abbrev rX2_has : Room := { frames := 0, cells := 0, slots := 0, locals := 0 }
theorem kV_X2_has : yX2_has.cls = RX2 ∧ yX2_has.cls ≠ "java/lang/invoke/MethodHandle" ∧ yX2_has.cls ≠ "java/lang/invoke/VarHandle" ∧ (parseMethodDescriptor yX2_has.desc).map (fun d => d.parameters.length) = some 1 := by decide +kernel
theorem vX2_has_X2 : ∀ w ∈ wsX20, w ∈ wsX2_has := fun _ h => List.mem_cons_of_mem _ (List.mem_append_right _ h)
theorem uX2_has_1 : Cond.fieldLink RX2 33 "SumMoved$Rows" "size" "I" ∈ wsX2_has := List.mem_of_getElem? (i := 1) rfl
set_option maxRecDepth 100000 in
theorem bX2_has {a1 : Int32} {S : S2} {Q : Int32 → Prop} (F : CallFix p m c cX2_has 2 s args wsX2_has RX2) (hz : gz D cI cJ cZ s) (hP : va_P D vwCl (w2 ad cI S) s.heap) (hret : ∀ (v : Int32) (pc : Nat) (ls : Array Slot), narrow .boolean (.int v) = .int v → Q v → decode cX2_has pc = .ok (.ireturn, 1) → W p l e rX2_has s m args below meth c s.heap [] 0 0 QQ (F0 m pc ls [.int v])) (h : wX2_has S a1 Q) : ∀ ls : Array Slot, lv_has ls 2 [(0, .ref (ad 1)), (1, .int a1)] → W p l e rX2_has s m args below meth c s.heap [] 0 0 QQ (F0 m 0 ls []) := by
  intro ls hl
  refine lv_iload_n F.1 F.2.1 dX2_has_0 rfl (lv_at hl 1 rfl) ?_
  refine lv_if_lt (tgt := 16) F.1 F.2.1 dX2_has_1 (by decide) (fun hc => ?_) (fun hc => ?_)
  · have h := h.1 (hc)
    refine lv_iconst (v := (0 : Int32)) F.1 F.2.1 dX2_has_16 (by decide) ?_
    exact hret _ _ _ nr_0 h dX2_has_17
  · have h := h.2 hc
    refine lv_iload_n F.1 F.2.1 dX2_has_4 rfl (lv_at hl 1 rfl) ?_
    refine lv_aload_n F.1 F.2.1 dX2_has_5 rfl (lv_at hl 0 rfl) ?_
    refine va_get (D := D) (ci := 0) (v := .int S.2.2.2.2.2.2.2) (C := RX2) (T := TX2) (N := 8) F.1 F.2.1 F.2.2.2.2 vX2_has_X2 F.2.2.2.1 hz.1 hP 0 rfl rfl 7 (by decide) (F.2.2.2.2 _ uX2_has_1) (fun _ h9 => h9) rfl dX2_has_6 ?_
    refine lv_icmp_ge (tgt := 16) F.1 F.2.1 dX2_has_9 (by decide) (fun hc => ?_) (fun hc => ?_)
    · have h := h.1 (hc)
      refine lv_iconst (v := (0 : Int32)) F.1 F.2.1 dX2_has_16 (by decide) ?_
      exact hret _ _ _ nr_0 h dX2_has_17
    · have h := h.2 hc
      refine lv_iconst (v := (1 : Int32)) F.1 F.2.1 dX2_has_12 (by decide) ?_
      refine lv_goto (tgt := 17) F.1 F.2.1 dX2_has_13 (by decide) ?_
      exact hret _ _ _ nr_1 h dX2_has_17
theorem mX2_has {l : Launch} {D : va_G} {cI cJ cZ : ClassId} {ad : Nat → Nat} {S : S2} {a1 : Int32} {Q : Int32 → Prop} (h : wX2_has S a1 Q) : Met l yX2_has wsX2_has rX2_has (va_Pc [.ref (ad 1), .int a1] (rp D cI cJ cZ (w2 ad cI S))) (vp_Si (qb Q)) 0 0 (fun _ => False) :=
  enter_z (by decide +kernel) rfl (Nat.le_of_ble_eq_true rfl) (fun p e s m args below meth c QQ F hz hret => bX2_has F hz.1 hz.2 hret h)
abbrev rX2_valueOf : Room := { frames := 0, cells := 0, slots := 0, locals := 0 }
theorem kV_X2_valueOf : yX2_valueOf.cls = RX2 ∧ yX2_valueOf.cls ≠ "java/lang/invoke/MethodHandle" ∧ yX2_valueOf.cls ≠ "java/lang/invoke/VarHandle" ∧ (parseMethodDescriptor yX2_valueOf.desc).map (fun d => d.parameters.length) = some 2 := by decide +kernel
theorem vX2_valueOf_X2 : ∀ w ∈ wsX20, w ∈ wsX2_valueOf := fun _ h => List.mem_cons_of_mem _ (List.mem_append_right _ h)
theorem uX2_valueOf_1 : Cond.fieldLink RX2 27 "SumMoved$Rows" "marks" "[I" ∈ wsX2_valueOf := List.mem_of_getElem? (i := 1) rfl
set_option maxRecDepth 100000 in
theorem bX2_valueOf {a1 : Int32} {a2 : Int32} {S : S2} {Q : Int32 → Prop} (F : CallFix p m c cX2_valueOf 3 s args wsX2_valueOf RX2) (hz : gz D cI cJ cZ s) (hP : va_P D vwCl (w2 ad cI S) s.heap) (hret : ∀ (v : Int32) (pc : Nat) (ls : Array Slot), Q v → decode cX2_valueOf pc = .ok (.ireturn, 1) → W p l e rX2_valueOf s m args below meth c s.heap [] 0 0 QQ (F0 m pc ls [.int v])) (h : wX2_valueOf S a1 a2 Q) : ∀ ls : Array Slot, lv_has ls 3 [(0, .ref (ad 1)), (1, .int a1), (2, .int a2)] → W p l e rX2_valueOf s m args below meth c s.heap [] 0 0 QQ (F0 m 0 ls []) := by
  intro ls hl
  refine lv_aload_n F.1 F.2.1 dX2_valueOf_0 rfl (lv_at hl 0 rfl) ?_
  refine va_get (D := D) (ci := 0) (v := .ref (ad 7)) (C := RX2) (T := TX2) (N := 8) F.1 F.2.1 F.2.2.2.2 vX2_valueOf_X2 F.2.2.2.1 hz.1 hP 0 rfl rfl 5 (by decide) (F.2.2.2.2 _ uX2_valueOf_1) (fun _ h9 => h9) rfl dX2_valueOf_1 ?_
  refine lv_iload_n F.1 F.2.1 dX2_valueOf_4 rfl (lv_at hl 1 rfl) ?_
  refine va_iald F.1 F.2.1 hz.1 hP 6 0 rfl rfl h.1 dX2_valueOf_5 ?_
  have h := h.2
  refine lv_iconst (v := (3 : Int32)) F.1 F.2.1 dX2_valueOf_6 (by decide) ?_
  refine lv_iload_n F.1 F.2.1 dX2_valueOf_7 rfl (lv_at hl 2 rfl) ?_
  refine lv_imul F.1 F.2.1 dX2_valueOf_8 ?_
  refine lv_ishr F.1 F.2.1 dX2_valueOf_9 ?_
  refine lv_bipush (v := (7 : Int32)) F.1 F.2.1 dX2_valueOf_10 (by decide) ?_
  refine lv_iand F.1 F.2.1 dX2_valueOf_12 ?_
  exact hret _ _ _ h dX2_valueOf_13
theorem mX2_valueOf {l : Launch} {D : va_G} {cI cJ cZ : ClassId} {ad : Nat → Nat} {S : S2} {a1 : Int32} {a2 : Int32} {Q : Int32 → Prop} (h : wX2_valueOf S a1 a2 Q) : Met l yX2_valueOf wsX2_valueOf rX2_valueOf (va_Pc [.ref (ad 1), .int a1, .int a2] (rp D cI cJ cZ (w2 ad cI S))) (vp_Si Q) 0 0 (fun _ => False) :=
  enter_i (by decide +kernel) rfl (Nat.le_of_ble_eq_true rfl) (fun p e s m args below meth c QQ F hz hret => bX2_valueOf F hz.1 hz.2 hret h)
abbrev rX2_fits : Room := { frames := 0, cells := 0, slots := 0, locals := 0 }
theorem kV_X2_fits : yX2_fits.cls = RX2 ∧ yX2_fits.cls ≠ "java/lang/invoke/MethodHandle" ∧ yX2_fits.cls ≠ "java/lang/invoke/VarHandle" ∧ (parseMethodDescriptor yX2_fits.desc).map (fun d => d.parameters.length) = some 3 := by decide +kernel
theorem vX2_fits_X2 : ∀ w ∈ wsX20, w ∈ wsX2_fits := fun _ h => List.mem_cons_of_mem _ (List.mem_append_right _ h)
theorem uX2_fits_1 : Cond.fieldLink RX2 30 "SumMoved$Rows" "struck" "[I" ∈ wsX2_fits := List.mem_of_getElem? (i := 1) rfl
theorem uX2_fits_2 : Cond.fieldLink RX2 27 "SumMoved$Rows" "marks" "[I" ∈ wsX2_fits := List.mem_of_getElem? (i := 2) rfl
set_option maxRecDepth 100000 in
theorem bX2_fits {a1 : Int32} {a2 : Int32} {a3 : Int32} {S : S2} {Q : Int32 → Prop} (F : CallFix p m c cX2_fits 4 s args wsX2_fits RX2) (hz : gz D cI cJ cZ s) (hP : va_P D vwCl (w2 ad cI S) s.heap) (hret : ∀ (v : Int32) (pc : Nat) (ls : Array Slot), narrow .boolean (.int v) = .int v → Q v → decode cX2_fits pc = .ok (.ireturn, 1) → W p l e rX2_fits s m args below meth c s.heap [] 0 0 QQ (F0 m pc ls [.int v])) (h : wX2_fits S a1 a2 a3 Q) : ∀ ls : Array Slot, lv_has ls 4 [(0, .ref (ad 1)), (1, .int a1), (2, .int a2), (3, .int a3)] → W p l e rX2_fits s m args below meth c s.heap [] 0 0 QQ (F0 m 0 ls []) := by
  intro ls hl
  refine lv_aload_n F.1 F.2.1 dX2_fits_0 rfl (lv_at hl 0 rfl) ?_
  refine va_get (D := D) (ci := 0) (v := .ref (ad 8)) (C := RX2) (T := TX2) (N := 8) F.1 F.2.1 F.2.2.2.2 vX2_fits_X2 F.2.2.2.1 hz.1 hP 0 rfl rfl 6 (by decide) (F.2.2.2.2 _ uX2_fits_1) (fun _ h9 => h9) rfl dX2_fits_1 ?_
  refine lv_iload_n F.1 F.2.1 dX2_fits_4 rfl (lv_at hl 1 rfl) ?_
  refine va_iald F.1 F.2.1 hz.1 hP 7 0 rfl rfl h.1 dX2_fits_5 ?_
  have h := h.2
  refine lv_if_ne (tgt := 25) F.1 F.2.1 dX2_fits_6 (by decide) (fun hc => ?_) (fun hc => ?_)
  · have h := h.2 hc
    refine lv_iconst (v := (0 : Int32)) F.1 F.2.1 dX2_fits_25 (by decide) ?_
    exact hret _ _ _ nr_0 h dX2_fits_26
  · have h := h.1 (hc)
    refine lv_aload_n F.1 F.2.1 dX2_fits_9 rfl (lv_at hl 0 rfl) ?_
    refine va_get (D := D) (ci := 0) (v := .ref (ad 7)) (C := RX2) (T := TX2) (N := 8) F.1 F.2.1 F.2.2.2.2 vX2_fits_X2 F.2.2.2.1 hz.1 hP 0 rfl rfl 5 (by decide) (F.2.2.2.2 _ uX2_fits_2) (fun _ h9 => h9) rfl dX2_fits_10 ?_
    refine lv_iload_n F.1 F.2.1 dX2_fits_13 rfl (lv_at hl 1 rfl) ?_
    refine va_iald F.1 F.2.1 hz.1 hP 6 0 rfl rfl h.1 dX2_fits_14 ?_
    have h := h.2
    refine lv_iload_n F.1 F.2.1 dX2_fits_15 rfl (lv_at hl 2 rfl) ?_
    refine lv_iand F.1 F.2.1 dX2_fits_16 ?_
    refine lv_iload_n F.1 F.2.1 dX2_fits_17 rfl (lv_at hl 3 rfl) ?_
    refine lv_icmp_ne (tgt := 25) F.1 F.2.1 dX2_fits_18 (by decide) (fun hc => ?_) (fun hc => ?_)
    · have h := h.2 hc
      refine lv_iconst (v := (0 : Int32)) F.1 F.2.1 dX2_fits_25 (by decide) ?_
      exact hret _ _ _ nr_0 h dX2_fits_26
    · have h := h.1 (hc)
      refine lv_iconst (v := (1 : Int32)) F.1 F.2.1 dX2_fits_21 (by decide) ?_
      refine lv_goto (tgt := 26) F.1 F.2.1 dX2_fits_22 (by decide) ?_
      exact hret _ _ _ nr_1 h dX2_fits_26
theorem mX2_fits {l : Launch} {D : va_G} {cI cJ cZ : ClassId} {ad : Nat → Nat} {S : S2} {a1 : Int32} {a2 : Int32} {a3 : Int32} {Q : Int32 → Prop} (h : wX2_fits S a1 a2 a3 Q) : Met l yX2_fits wsX2_fits rX2_fits (va_Pc [.ref (ad 1), .int a1, .int a2, .int a3] (rp D cI cJ cZ (w2 ad cI S))) (vp_Si (qb Q)) 0 0 (fun _ => False) :=
  enter_z (by decide +kernel) rfl (Nat.le_of_ble_eq_true rfl) (fun p e s m args below meth c QQ F hz hret => bX2_fits F hz.1 hz.2 hret h)
abbrev rX2_field : Room := { frames := 1, cells := 0, slots := 0, locals := 22 }
theorem kV_X2_field : yX2_field.cls = RX2 ∧ yX2_field.cls ≠ "java/lang/invoke/MethodHandle" ∧ yX2_field.cls ≠ "java/lang/invoke/VarHandle" ∧ (parseMethodDescriptor yX2_field.desc).map (fun d => d.parameters.length) = some 2 := by decide +kernel
theorem vX2_field_X2 : ∀ w ∈ wsX20, w ∈ wsX2_field := fun _ h => List.mem_cons_of_mem _ (List.mem_append_right _ h)
theorem uX2_field_1 : Cond.fieldLink RX2 9 "SumMoved$Rows" "month" "[I" ∈ wsX2_field := List.mem_of_getElem? (i := 1) rfl
theorem uX2_field_2 : Cond.fieldLink RX2 15 "SumMoved$Rows" "day" "[I" ∈ wsX2_field := List.mem_of_getElem? (i := 2) rfl
theorem uX2_field_3 : Cond.fieldLink RX2 18 "SumMoved$Rows" "tops" "[I" ∈ wsX2_field := List.mem_of_getElem? (i := 3) rfl
theorem uX2_field_4 : Cond.fieldLink RX2 21 "SumMoved$Rows" "bases" "[I" ∈ wsX2_field := List.mem_of_getElem? (i := 4) rfl
theorem uX2_field_5 : Cond.fieldLink RX2 24 "SumMoved$Rows" "members" "[I" ∈ wsX2_field := List.mem_of_getElem? (i := 5) rfl
theorem uX2_field_6 : Cond.fieldLink RX2 30 "SumMoved$Rows" "struck" "[I" ∈ wsX2_field := List.mem_of_getElem? (i := 6) rfl
set_option maxRecDepth 100000 in
theorem bX2_field {a1 : Int32} {a2 : Int32} {S : S2} {Q : Int32 → Prop} (F : CallFix p m c cX2_field 3 s args wsX2_field RX2) (hz : gz D cI cJ cZ s) (hP : va_P D vwCl (w2 ad cI S) s.heap) (hret : ∀ (v : Int32) (pc : Nat) (ls : Array Slot), Q v → decode cX2_field pc = .ok (.ireturn, 1) → W p l e rX2_field s m args below meth c s.heap [] 0 0 QQ (F0 m pc ls [.int v])) (h : wX2_field S a1 a2 Q) : ∀ ls : Array Slot, lv_has ls 3 [(0, .ref (ad 1)), (1, .int a1), (2, .int a2)] → W p l e rX2_field s m args below meth c s.heap [] 0 0 QQ (F0 m 0 ls []) := by
  intro ls hl
  refine lv_aload_n F.1 F.2.1 dX2_field_0 rfl (lv_at hl 0 rfl) ?_
  refine lv_iload_n F.1 F.2.1 dX2_field_1 rfl (lv_at hl 1 rfl) ?_
  refine vp_callSi (va_Run.run (va_runV (As := [.int a1]) (rest := []) F (mX2_has (l := l) (D := D) (cI := cI) (cJ := cJ) (cZ := cZ) (ad := ad) h) (cwV 1 F.2.2.2.2 gX2_field_X2_has rfl rfl rfl kV_X2_has ⟨Nat.le_of_ble_eq_true rfl, Nat.le_of_ble_eq_true rfl⟩) ⟨rp_blind, va_recv hz.1 hP (ci := 0) (q0 := 0) rfl rfl, rp_pre hz hP (.ref (ad 1) :: [.int a1])⟩ rfl rfl hl.1 rfl (lv_room (Nat.le_of_ble_eq_true rfl)) dX2_field_2 ⟨Nat.le_of_ble_eq_true rfl, Nat.le_of_ble_eq_true rfl⟩)) (fun r_1 h => ?_)
  obtain ⟨hbr_1, h⟩ := h
  refine lv_if_ne (tgt := 12) F.1 F.2.1 dX2_field_5 (by decide) (fun hc => ?_) (fun hc => ?_)
  · have h := h.2 hc
    refine lv_iload_n F.1 F.2.1 dX2_field_12 rfl (lv_at hl 2 rfl) ?_
    by_cases hc0 : a2 = 0
    · have h := h.1 hc0
      refine lv_tableIn (off := 51) (tgt := 64) F.1 F.2.1 dX2_field_13 (by rw [hc0]; decide) (by rw [hc0]; decide) (by rw [hc0]; rfl) (by decide) ?_
      refine lv_aload_n F.1 F.2.1 dX2_field_64 rfl (lv_at hl 0 rfl) ?_
      refine va_get (D := D) (ci := 0) (v := .ref (ad 2)) (C := RX2) (T := TX2) (N := 8) F.1 F.2.1 F.2.2.2.2 vX2_field_X2 F.2.2.2.1 hz.1 hP 0 rfl rfl 0 (by decide) (F.2.2.2.2 _ uX2_field_1) (fun _ h9 => h9) rfl dX2_field_65 ?_
      refine lv_iload_n F.1 F.2.1 dX2_field_68 rfl (lv_at hl 1 rfl) ?_
      refine va_iald F.1 F.2.1 hz.1 hP 1 0 rfl rfl h.1 dX2_field_69 ?_
      have h := h.2
      exact hret _ _ _ h dX2_field_70
    · have h := h.2 hc0
      by_cases hc1 : a2 = 1
      · have h := h.1 hc1
        refine lv_tableIn (off := 58) (tgt := 71) F.1 F.2.1 dX2_field_13 (by rw [hc1]; decide) (by rw [hc1]; decide) (by rw [hc1]; rfl) (by decide) ?_
        refine lv_aload_n F.1 F.2.1 dX2_field_71 rfl (lv_at hl 0 rfl) ?_
        refine va_get (D := D) (ci := 0) (v := .ref (ad 3)) (C := RX2) (T := TX2) (N := 8) F.1 F.2.1 F.2.2.2.2 vX2_field_X2 F.2.2.2.1 hz.1 hP 0 rfl rfl 1 (by decide) (F.2.2.2.2 _ uX2_field_2) (fun _ h9 => h9) rfl dX2_field_72 ?_
        refine lv_iload_n F.1 F.2.1 dX2_field_75 rfl (lv_at hl 1 rfl) ?_
        refine va_iald F.1 F.2.1 hz.1 hP 2 0 rfl rfl h.1 dX2_field_76 ?_
        have h := h.2
        exact hret _ _ _ h dX2_field_77
      · have h := h.2 hc1
        by_cases hc2 : a2 = 2
        · have h := h.1 hc2
          refine lv_tableIn (off := 65) (tgt := 78) F.1 F.2.1 dX2_field_13 (by rw [hc2]; decide) (by rw [hc2]; decide) (by rw [hc2]; rfl) (by decide) ?_
          refine lv_aload_n F.1 F.2.1 dX2_field_78 rfl (lv_at hl 0 rfl) ?_
          refine va_get (D := D) (ci := 0) (v := .ref (ad 4)) (C := RX2) (T := TX2) (N := 8) F.1 F.2.1 F.2.2.2.2 vX2_field_X2 F.2.2.2.1 hz.1 hP 0 rfl rfl 2 (by decide) (F.2.2.2.2 _ uX2_field_3) (fun _ h9 => h9) rfl dX2_field_79 ?_
          refine lv_iload_n F.1 F.2.1 dX2_field_82 rfl (lv_at hl 1 rfl) ?_
          refine va_iald F.1 F.2.1 hz.1 hP 3 0 rfl rfl h.1 dX2_field_83 ?_
          have h := h.2
          exact hret _ _ _ h dX2_field_84
        · have h := h.2 hc2
          by_cases hc3 : a2 = 3
          · have h := h.1 hc3
            refine lv_tableIn (off := 72) (tgt := 85) F.1 F.2.1 dX2_field_13 (by rw [hc3]; decide) (by rw [hc3]; decide) (by rw [hc3]; rfl) (by decide) ?_
            refine lv_aload_n F.1 F.2.1 dX2_field_85 rfl (lv_at hl 0 rfl) ?_
            refine va_get (D := D) (ci := 0) (v := .ref (ad 5)) (C := RX2) (T := TX2) (N := 8) F.1 F.2.1 F.2.2.2.2 vX2_field_X2 F.2.2.2.1 hz.1 hP 0 rfl rfl 3 (by decide) (F.2.2.2.2 _ uX2_field_4) (fun _ h9 => h9) rfl dX2_field_86 ?_
            refine lv_iload_n F.1 F.2.1 dX2_field_89 rfl (lv_at hl 1 rfl) ?_
            refine va_iald F.1 F.2.1 hz.1 hP 4 0 rfl rfl h.1 dX2_field_90 ?_
            have h := h.2
            exact hret _ _ _ h dX2_field_91
          · have h := h.2 hc3
            by_cases hc4 : a2 = 4
            · have h := h.1 hc4
              refine lv_tableIn (off := 79) (tgt := 92) F.1 F.2.1 dX2_field_13 (by rw [hc4]; decide) (by rw [hc4]; decide) (by rw [hc4]; rfl) (by decide) ?_
              refine lv_aload_n F.1 F.2.1 dX2_field_92 rfl (lv_at hl 0 rfl) ?_
              refine va_get (D := D) (ci := 0) (v := .ref (ad 6)) (C := RX2) (T := TX2) (N := 8) F.1 F.2.1 F.2.2.2.2 vX2_field_X2 F.2.2.2.1 hz.1 hP 0 rfl rfl 4 (by decide) (F.2.2.2.2 _ uX2_field_5) (fun _ h9 => h9) rfl dX2_field_93 ?_
              refine lv_iload_n F.1 F.2.1 dX2_field_96 rfl (lv_at hl 1 rfl) ?_
              refine va_iald F.1 F.2.1 hz.1 hP 5 0 rfl rfl h.1 dX2_field_97 ?_
              have h := h.2
              exact hret _ _ _ h dX2_field_98
            · have h := h.2 hc4
              by_cases hc5 : a2 = 5
              · have h := h.1 hc5
                refine lv_tableIn (off := 86) (tgt := 99) F.1 F.2.1 dX2_field_13 (by rw [hc5]; decide) (by rw [hc5]; decide) (by rw [hc5]; rfl) (by decide) ?_
                refine lv_aload_n F.1 F.2.1 dX2_field_99 rfl (lv_at hl 0 rfl) ?_
                refine lv_iload_n F.1 F.2.1 dX2_field_100 rfl (lv_at hl 1 rfl) ?_
                refine lv_iload_n F.1 F.2.1 dX2_field_101 rfl (lv_at hl 2 rfl) ?_
                refine lv_iconst (v := (5 : Int32)) F.1 F.2.1 dX2_field_102 (by decide) ?_
                refine lv_isub F.1 F.2.1 dX2_field_103 ?_
                refine vp_callSi (va_Run.run (va_runV (As := [.int a1, .int (a2 - (5 : Int32))]) (rest := []) F (mX2_valueOf (l := l) (D := D) (cI := cI) (cJ := cJ) (cZ := cZ) (ad := ad) h) (cwV 2 F.2.2.2.2 gX2_field_X2_valueOf rfl rfl rfl kV_X2_valueOf ⟨Nat.le_of_ble_eq_true rfl, Nat.le_of_ble_eq_true rfl⟩) ⟨rp_blind, va_recv hz.1 hP (ci := 0) (q0 := 0) rfl rfl, rp_pre hz hP (.ref (ad 1) :: [.int a1, .int (a2 - (5 : Int32))])⟩ rfl rfl hl.1 rfl (lv_room (Nat.le_of_ble_eq_true rfl)) dX2_field_104 ⟨Nat.le_of_ble_eq_true rfl, Nat.le_of_ble_eq_true rfl⟩)) (fun r_2 h => ?_)
                exact hret _ _ _ h dX2_field_107
              · have h := h.2 hc5
                by_cases hc6 : a2 = 6
                · have h := h.1 hc6
                  refine lv_tableIn (off := 86) (tgt := 99) F.1 F.2.1 dX2_field_13 (by rw [hc6]; decide) (by rw [hc6]; decide) (by rw [hc6]; rfl) (by decide) ?_
                  refine lv_aload_n F.1 F.2.1 dX2_field_99 rfl (lv_at hl 0 rfl) ?_
                  refine lv_iload_n F.1 F.2.1 dX2_field_100 rfl (lv_at hl 1 rfl) ?_
                  refine lv_iload_n F.1 F.2.1 dX2_field_101 rfl (lv_at hl 2 rfl) ?_
                  refine lv_iconst (v := (5 : Int32)) F.1 F.2.1 dX2_field_102 (by decide) ?_
                  refine lv_isub F.1 F.2.1 dX2_field_103 ?_
                  refine vp_callSi (va_Run.run (va_runV (As := [.int a1, .int (a2 - (5 : Int32))]) (rest := []) F (mX2_valueOf (l := l) (D := D) (cI := cI) (cJ := cJ) (cZ := cZ) (ad := ad) h) (cwV 2 F.2.2.2.2 gX2_field_X2_valueOf rfl rfl rfl kV_X2_valueOf ⟨Nat.le_of_ble_eq_true rfl, Nat.le_of_ble_eq_true rfl⟩) ⟨rp_blind, va_recv hz.1 hP (ci := 0) (q0 := 0) rfl rfl, rp_pre hz hP (.ref (ad 1) :: [.int a1, .int (a2 - (5 : Int32))])⟩ rfl rfl hl.1 rfl (lv_room (Nat.le_of_ble_eq_true rfl)) dX2_field_104 ⟨Nat.le_of_ble_eq_true rfl, Nat.le_of_ble_eq_true rfl⟩)) (fun r_3 h => ?_)
                  exact hret _ _ _ h dX2_field_107
                · have h := h.2 hc6
                  by_cases hc7 : a2 = 7
                  · have h := h.1 hc7
                    refine lv_tableIn (off := 86) (tgt := 99) F.1 F.2.1 dX2_field_13 (by rw [hc7]; decide) (by rw [hc7]; decide) (by rw [hc7]; rfl) (by decide) ?_
                    refine lv_aload_n F.1 F.2.1 dX2_field_99 rfl (lv_at hl 0 rfl) ?_
                    refine lv_iload_n F.1 F.2.1 dX2_field_100 rfl (lv_at hl 1 rfl) ?_
                    refine lv_iload_n F.1 F.2.1 dX2_field_101 rfl (lv_at hl 2 rfl) ?_
                    refine lv_iconst (v := (5 : Int32)) F.1 F.2.1 dX2_field_102 (by decide) ?_
                    refine lv_isub F.1 F.2.1 dX2_field_103 ?_
                    refine vp_callSi (va_Run.run (va_runV (As := [.int a1, .int (a2 - (5 : Int32))]) (rest := []) F (mX2_valueOf (l := l) (D := D) (cI := cI) (cJ := cJ) (cZ := cZ) (ad := ad) h) (cwV 2 F.2.2.2.2 gX2_field_X2_valueOf rfl rfl rfl kV_X2_valueOf ⟨Nat.le_of_ble_eq_true rfl, Nat.le_of_ble_eq_true rfl⟩) ⟨rp_blind, va_recv hz.1 hP (ci := 0) (q0 := 0) rfl rfl, rp_pre hz hP (.ref (ad 1) :: [.int a1, .int (a2 - (5 : Int32))])⟩ rfl rfl hl.1 rfl (lv_room (Nat.le_of_ble_eq_true rfl)) dX2_field_104 ⟨Nat.le_of_ble_eq_true rfl, Nat.le_of_ble_eq_true rfl⟩)) (fun r_4 h => ?_)
                    exact hret _ _ _ h dX2_field_107
                  · have h := h.2 hc7
                    by_cases hc8 : a2 = 8
                    · have h := h.1 hc8
                      refine lv_tableIn (off := 95) (tgt := 108) F.1 F.2.1 dX2_field_13 (by rw [hc8]; decide) (by rw [hc8]; decide) (by rw [hc8]; rfl) (by decide) ?_
                      refine lv_aload_n F.1 F.2.1 dX2_field_108 rfl (lv_at hl 0 rfl) ?_
                      refine va_get (D := D) (ci := 0) (v := .ref (ad 8)) (C := RX2) (T := TX2) (N := 8) F.1 F.2.1 F.2.2.2.2 vX2_field_X2 F.2.2.2.1 hz.1 hP 0 rfl rfl 6 (by decide) (F.2.2.2.2 _ uX2_field_6) (fun _ h9 => h9) rfl dX2_field_109 ?_
                      refine lv_iload_n F.1 F.2.1 dX2_field_112 rfl (lv_at hl 1 rfl) ?_
                      refine va_iald F.1 F.2.1 hz.1 hP 7 0 rfl rfl h.1 dX2_field_113 ?_
                      have h := h.2
                      exact hret _ _ _ h dX2_field_114
                    · have h := h.2 hc8
                      refine lv_tableOut (tgt := 115) F.1 F.2.1 dX2_field_13 (by have := lv_neT hc0 (a := 0) rfl; have := lv_neT hc1 (a := 1) rfl; have := lv_neT hc2 (a := 2) rfl; have := lv_neT hc3 (a := 3) rfl; have := lv_neT hc4 (a := 4) rfl; have := lv_neT hc5 (a := 5) rfl; have := lv_neT hc6 (a := 6) rfl; have := lv_neT hc7 (a := 7) rfl; have := lv_neT hc8 (a := 8) rfl; omega) (by decide) ?_
                      refine lv_sipush (v := (-1000 : Int32)) F.1 F.2.1 dX2_field_115 (by decide) ?_
                      exact hret _ _ _ h dX2_field_118
  · have h := h.1 (hc)
    refine lv_sipush (v := (-1000 : Int32)) F.1 F.2.1 dX2_field_8 (by decide) ?_
    exact hret _ _ _ h dX2_field_11
theorem mX2_field {l : Launch} {D : va_G} {cI cJ cZ : ClassId} {ad : Nat → Nat} {S : S2} {a1 : Int32} {a2 : Int32} {Q : Int32 → Prop} (h : wX2_field S a1 a2 Q) : Met l yX2_field wsX2_field rX2_field (va_Pc [.ref (ad 1), .int a1, .int a2] (rp D cI cJ cZ (w2 ad cI S))) (vp_Si Q) 0 0 (fun _ => False) :=
  enter_i (by decide +kernel) rfl (Nat.le_of_ble_eq_true rfl) (fun p e s m args below meth c QQ F hz hret => bX2_field F hz.1 hz.2 hret h)
abbrev rX2_struckOnes : Room := { frames := 0, cells := 0, slots := 0, locals := 0 }
theorem kV_X2_struckOnes : yX2_struckOnes.cls = RX2 ∧ yX2_struckOnes.cls ≠ "java/lang/invoke/MethodHandle" ∧ yX2_struckOnes.cls ≠ "java/lang/invoke/VarHandle" ∧ (parseMethodDescriptor yX2_struckOnes.desc).map (fun d => d.parameters.length) = some 0 := by decide +kernel
theorem vX2_struckOnes_X2 : ∀ w ∈ wsX20, w ∈ wsX2_struckOnes := fun _ h => List.mem_cons_of_mem _ (List.mem_append_right _ h)
theorem uX2_struckOnes_1 : Cond.fieldLink RX2 33 "SumMoved$Rows" "size" "I" ∈ wsX2_struckOnes := List.mem_of_getElem? (i := 1) rfl
theorem uX2_struckOnes_2 : Cond.fieldLink RX2 30 "SumMoved$Rows" "struck" "[I" ∈ wsX2_struckOnes := List.mem_of_getElem? (i := 2) rfl
set_option maxRecDepth 100000 in
theorem kX2_struckOnes_4 {S : S2} (F : CallFix p m c cX2_struckOnes 3 s args wsX2_struckOnes RX2) (hz : gz D cI cJ cZ s) (hP : va_P D vwCl (w2 ad cI S) s.heap) {K : Int32 × Int32 → Prop} (hK : ∀ x : Int32 × Int32, K x → match x with | (x1, x2) => ∀ ls : Array Slot, lv_has ls 3 [(0, .ref (ad 1)), (1, .int x1), (2, .int x2)] → W p l e rX2_struckOnes s m args below meth c s.heap [] 0 0 QQ (F0 m 27 ls [])) : ∀ (nn : Nat) (x : Int32 × Int32), iter (sX2_struckOnes_4 S K) nn x → match x with | (x1, x2) => ∀ ls : Array Slot, lv_has ls 3 [(0, .ref (ad 1)), (1, .int x1), (2, .int x2)] → W p l e rX2_struckOnes s m args below meth c s.heap [] 0 0 QQ (F0 m 4 ls []) := by
  refine iter_walk ?_
  rintro again4 ⟨x1, x2⟩ ih4 h ls hl
  have hK4 := hK
  refine lv_iload_n F.1 F.2.1 dX2_struckOnes_4 rfl (lv_at hl 2 rfl) ?_
  refine lv_aload_n F.1 F.2.1 dX2_struckOnes_5 rfl (lv_at hl 0 rfl) ?_
  refine va_get (D := D) (ci := 0) (v := .int S.2.2.2.2.2.2.2) (C := RX2) (T := TX2) (N := 8) F.1 F.2.1 F.2.2.2.2 vX2_struckOnes_X2 F.2.2.2.1 hz.1 hP 0 rfl rfl 7 (by decide) (F.2.2.2.2 _ uX2_struckOnes_1) (fun _ h9 => h9) rfl dX2_struckOnes_6 ?_
  refine lv_icmp_ge (tgt := 27) F.1 F.2.1 dX2_struckOnes_9 (by decide) (fun hc => ?_) (fun hc => ?_)
  · have h := h.1 (hc)
    exact hK4 (x1, x2) h ls (lv_sub hl [0, 1, 2] rfl)
  · have h := h.2 hc
    refine lv_iload_n F.1 F.2.1 dX2_struckOnes_12 rfl (lv_at hl 1 rfl) ?_
    refine lv_aload_n F.1 F.2.1 dX2_struckOnes_13 rfl (lv_at hl 0 rfl) ?_
    refine va_get (D := D) (ci := 0) (v := .ref (ad 8)) (C := RX2) (T := TX2) (N := 8) F.1 F.2.1 F.2.2.2.2 vX2_struckOnes_X2 F.2.2.2.1 hz.1 hP 0 rfl rfl 6 (by decide) (F.2.2.2.2 _ uX2_struckOnes_2) (fun _ h9 => h9) rfl dX2_struckOnes_14 ?_
    refine lv_iload_n F.1 F.2.1 dX2_struckOnes_17 rfl (lv_at hl 2 rfl) ?_
    refine va_iald F.1 F.2.1 hz.1 hP 7 0 rfl rfl h.1 dX2_struckOnes_18 ?_
    have h := h.2
    refine lv_iadd F.1 F.2.1 dX2_struckOnes_19 ?_
    refine lv_topi (fun y_1 ey_1 => ?_)
    have h := h y_1 ey_1
    refine lv_istore_n (lv' := [(1, .int y_1), (0, .ref (ad 1)), (2, .int x2)]) F.1 F.2.1 dX2_struckOnes_20 rfl hl (by decide) rfl (fun ls hl => ?_)
    refine lv_iinc (v := x2 + 1) (lv' := [(2, .int (x2 + 1)), (1, .int y_1), (0, .ref (ad 1))]) F.1 F.2.1 dX2_struckOnes_21 hl (k := 2) rfl rfl (by decide) rfl (fun ls hl => ?_)
    refine lv_goto (tgt := 4) F.1 F.2.1 dX2_struckOnes_24 (by decide) ?_
    exact ih4 (y_1, x2 + 1) h ls (lv_sub hl [2, 1, 0] rfl)
set_option maxRecDepth 100000 in
theorem bX2_struckOnes {S : S2} {Q : Int32 → Prop} (F : CallFix p m c cX2_struckOnes 3 s args wsX2_struckOnes RX2) (hz : gz D cI cJ cZ s) (hP : va_P D vwCl (w2 ad cI S) s.heap) (hret : ∀ (v : Int32) (pc : Nat) (ls : Array Slot), Q v → decode cX2_struckOnes pc = .ok (.ireturn, 1) → W p l e rX2_struckOnes s m args below meth c s.heap [] 0 0 QQ (F0 m pc ls [.int v])) (h : wX2_struckOnes S Q) : ∀ ls : Array Slot, lv_has ls 3 [(0, .ref (ad 1))] → W p l e rX2_struckOnes s m args below meth c s.heap [] 0 0 QQ (F0 m 0 ls []) := by
  intro ls hl
  refine lv_iconst (v := (0 : Int32)) F.1 F.2.1 dX2_struckOnes_0 (by decide) ?_
  refine lv_istore_n (lv' := [(1, .int (0 : Int32)), (0, .ref (ad 1))]) F.1 F.2.1 dX2_struckOnes_1 rfl hl (by decide) rfl (fun ls hl => ?_)
  refine lv_iconst (v := (0 : Int32)) F.1 F.2.1 dX2_struckOnes_2 (by decide) ?_
  refine lv_istore_n (lv' := [(2, .int (0 : Int32)), (1, .int (0 : Int32)), (0, .ref (ad 1))]) F.1 F.2.1 dX2_struckOnes_3 rfl hl (by decide) rfl (fun ls hl => ?_)
  obtain ⟨nn, h⟩ := h
  refine kX2_struckOnes_4 F hz hP (fun ⟨x1, x2⟩ h ls hl => ?_) nn _ h ls (lv_sub hl [2, 1, 0] rfl)
  refine lv_iload_n F.1 F.2.1 dX2_struckOnes_27 rfl (lv_at hl 1 rfl) ?_
  exact hret _ _ _ h dX2_struckOnes_28
theorem mX2_struckOnes {l : Launch} {D : va_G} {cI cJ cZ : ClassId} {ad : Nat → Nat} {S : S2} {Q : Int32 → Prop} (h : wX2_struckOnes S Q) : Met l yX2_struckOnes wsX2_struckOnes rX2_struckOnes (va_Pc [.ref (ad 1)] (rp D cI cJ cZ (w2 ad cI S))) (vp_Si Q) 0 0 (fun _ => False) :=
  enter_i (by decide +kernel) rfl (Nat.le_of_ble_eq_true rfl) (fun p e s m args below meth c QQ F hz hret => bX2_struckOnes F hz.1 hz.2 hret h)
abbrev rX2_total : Room := { frames := 2, cells := 0, slots := 0, locals := 43 }
theorem kV_X2_total : yX2_total.cls = RX2 ∧ yX2_total.cls ≠ "java/lang/invoke/MethodHandle" ∧ yX2_total.cls ≠ "java/lang/invoke/VarHandle" ∧ (parseMethodDescriptor yX2_total.desc).map (fun d => d.parameters.length) = some 3 := by decide +kernel
theorem vX2_total_X2 : ∀ w ∈ wsX20, w ∈ wsX2_total := fun _ h => List.mem_cons_of_mem _ (List.mem_append_right _ h)
theorem uX2_total_1 : Cond.fieldLink RX2 33 "SumMoved$Rows" "size" "I" ∈ wsX2_total := List.mem_of_getElem? (i := 1) rfl
theorem uX2_total_2 : Cond.fieldLink RX2 9 "SumMoved$Rows" "month" "[I" ∈ wsX2_total := List.mem_of_getElem? (i := 2) rfl
theorem uX2_total_5 : Cond.fieldLink RX2 24 "SumMoved$Rows" "members" "[I" ∈ wsX2_total := List.mem_of_getElem? (i := 5) rfl
theorem uX2_total_4 : Cond.fieldLink RX2 21 "SumMoved$Rows" "bases" "[I" ∈ wsX2_total := List.mem_of_getElem? (i := 4) rfl
theorem uX2_total_3 : Cond.fieldLink RX2 18 "SumMoved$Rows" "tops" "[I" ∈ wsX2_total := List.mem_of_getElem? (i := 3) rfl
set_option maxRecDepth 100000 in
theorem kX2_total_21 {p2 : Int32} {p3 : Int32} {p4 : Int32} {p5 : Int32} {S : S2} (F : CallFix p m c cX2_total 10 s args wsX2_total RX2) (hz : gz D cI cJ cZ s) (hP : va_P D vwCl (w2 ad cI S) s.heap) {K : Int32 × Int64 × Int32 → Prop} (hK : ∀ x : Int32 × Int64 × Int32, K x → match x with | (x6, x7, x9) => ∀ ls : Array Slot, lv_has ls 10 [(0, .ref (ad 1)), (2, .int p2), (3, .int p3), (4, .int p4), (5, .int p5), (6, .int x6), (7, .long x7), (9, .int x9)] → W p l e rX2_total s m args below meth c s.heap [] 0 0 QQ (F0 m 109 ls [])) : ∀ (nn : Nat) (x : Int32 × Int64 × Int32), iter (sX2_total_21 S p2 p3 p4 p5 K) nn x → match x with | (x6, x7, x9) => ∀ ls : Array Slot, lv_has ls 10 [(0, .ref (ad 1)), (2, .int p2), (3, .int p3), (4, .int p4), (5, .int p5), (6, .int x6), (7, .long x7), (9, .int x9)] → W p l e rX2_total s m args below meth c s.heap [] 0 0 QQ (F0 m 21 ls []) := by
  refine iter_walk ?_
  rintro again21 ⟨x6, x7, x9⟩ ih21 h ls hl
  have hK21 := hK
  refine lv_iload F.1 F.2.1 dX2_total_21 (lv_at hl 7 rfl) ?_
  refine lv_aload_n F.1 F.2.1 dX2_total_23 rfl (lv_at hl 0 rfl) ?_
  refine va_get (D := D) (ci := 0) (v := .int S.2.2.2.2.2.2.2) (C := RX2) (T := TX2) (N := 8) F.1 F.2.1 F.2.2.2.2 vX2_total_X2 F.2.2.2.1 hz.1 hP 0 rfl rfl 7 (by decide) (F.2.2.2.2 _ uX2_total_1) (fun _ h9 => h9) rfl dX2_total_24 ?_
  refine lv_icmp_ge (tgt := 109) F.1 F.2.1 dX2_total_27 (by decide) (fun hc => ?_) (fun hc => ?_)
  · have h := h.1 (hc)
    exact hK21 (x6, x7, x9) h ls (lv_sub hl [0, 1, 2, 3, 4, 5, 6, 7] rfl)
  · have h := h.2 hc
    refine lv_aload_n F.1 F.2.1 dX2_total_30 rfl (lv_at hl 0 rfl) ?_
    refine va_get (D := D) (ci := 0) (v := .ref (ad 2)) (C := RX2) (T := TX2) (N := 8) F.1 F.2.1 F.2.2.2.2 vX2_total_X2 F.2.2.2.1 hz.1 hP 0 rfl rfl 0 (by decide) (F.2.2.2.2 _ uX2_total_2) (fun _ h9 => h9) rfl dX2_total_31 ?_
    refine lv_iload F.1 F.2.1 dX2_total_34 (lv_at hl 7 rfl) ?_
    refine va_iald F.1 F.2.1 hz.1 hP 1 0 rfl rfl h.1 dX2_total_36 ?_
    have h := h.2
    refine lv_iload_n F.1 F.2.1 dX2_total_37 rfl (lv_at hl 1 rfl) ?_
    refine lv_icmp_ne (tgt := 103) F.1 F.2.1 dX2_total_38 (by decide) (fun hc => ?_) (fun hc => ?_)
    · have h := h.2 hc
      refine lv_iinc (v := x9 + 1) (lv' := [(9, .int (x9 + 1)), (0, .ref (ad 1)), (2, .int p2), (3, .int p3), (4, .int p4), (5, .int p5), (6, .int x6), (7, .long x7)]) F.1 F.2.1 dX2_total_103 hl (k := 7) rfl rfl (by decide) rfl (fun ls hl => ?_)
      refine lv_goto (tgt := 21) F.1 F.2.1 dX2_total_106 (by decide) ?_
      exact ih21 (x6, x7, x9 + 1) h ls (lv_sub hl [1, 2, 3, 4, 5, 6, 7, 0] rfl)
    · have h := h.1 (hc)
      refine lv_aload_n F.1 F.2.1 dX2_total_41 rfl (lv_at hl 0 rfl) ?_
      refine lv_iload F.1 F.2.1 dX2_total_42 (lv_at hl 7 rfl) ?_
      refine lv_iload F.1 F.2.1 dX2_total_44 (lv_at hl 3 rfl) ?_
      refine lv_iload F.1 F.2.1 dX2_total_46 (lv_at hl 4 rfl) ?_
      refine vp_callSi (va_Run.run (va_runV (As := [.int x9, .int p4, .int p5]) (rest := []) F (mX2_fits (l := l) (D := D) (cI := cI) (cJ := cJ) (cZ := cZ) (ad := ad) h) (cwV 3 F.2.2.2.2 gX2_total_X2_fits rfl rfl rfl kV_X2_fits ⟨Nat.le_of_ble_eq_true rfl, Nat.le_of_ble_eq_true rfl⟩) ⟨rp_blind, va_recv hz.1 hP (ci := 0) (q0 := 0) rfl rfl, rp_pre hz hP (.ref (ad 1) :: [.int x9, .int p4, .int p5])⟩ rfl rfl hl.1 rfl (lv_room (Nat.le_of_ble_eq_true rfl)) dX2_total_48 ⟨Nat.le_of_ble_eq_true rfl, Nat.le_of_ble_eq_true rfl⟩)) (fun r_3 h => ?_)
      obtain ⟨hbr_3, h⟩ := h
      refine lv_if_eq (tgt := 103) F.1 F.2.1 dX2_total_51 (by decide) (fun hc => ?_) (fun hc => ?_)
      · have h := h.1 (hc)
        refine lv_iinc (v := x9 + 1) (lv' := [(9, .int (x9 + 1)), (0, .ref (ad 1)), (2, .int p2), (3, .int p3), (4, .int p4), (5, .int p5), (6, .int x6), (7, .long x7)]) F.1 F.2.1 dX2_total_103 hl (k := 7) rfl rfl (by decide) rfl (fun ls hl => ?_)
        refine lv_goto (tgt := 21) F.1 F.2.1 dX2_total_106 (by decide) ?_
        exact ih21 (x6, x7, x9 + 1) h ls (lv_sub hl [1, 2, 3, 4, 5, 6, 7, 0] rfl)
      · have h := h.2 hc
        refine lv_iload F.1 F.2.1 dX2_total_54 (lv_at hl 5 rfl) ?_
        refine lv_iload_n F.1 F.2.1 dX2_total_56 rfl (lv_at hl 2 rfl) ?_
        refine lv_if_ne (tgt := 70) F.1 F.2.1 dX2_total_57 (by decide) (fun hc => ?_) (fun hc => ?_)
        · have h := h.2 hc
          refine lv_iload_n F.1 F.2.1 dX2_total_70 rfl (lv_at hl 2 rfl) ?_
          refine lv_iconst (v := (2 : Int32)) F.1 F.2.1 dX2_total_71 (by decide) ?_
          refine lv_icmp_ne (tgt := 85) F.1 F.2.1 dX2_total_72 (by decide) (fun hc => ?_) (fun hc => ?_)
          · have h := h.2 hc
            refine lv_iconst (v := (1 : Int32)) F.1 F.2.1 dX2_total_85 (by decide) ?_
            refine lv_iadd F.1 F.2.1 dX2_total_86 ?_
            refine lv_istore (lv' := [(6, .int (x6 + (1 : Int32))), (0, .ref (ad 1)), (2, .int p2), (3, .int p3), (4, .int p4), (5, .int p5), (7, .long x7), (9, .int x9)]) F.1 F.2.1 dX2_total_87 hl (by decide) rfl (fun ls hl => ?_)
            refine lv_lload F.1 F.2.1 dX2_total_89 (lv_at hl 6 rfl) ?_
            refine lv_lconst (v := (1 : Int64)) F.1 F.2.1 dX2_total_91 (by decide) ?_
            refine lv_aload_n F.1 F.2.1 dX2_total_92 rfl (lv_at hl 1 rfl) ?_
            refine va_get (D := D) (ci := 0) (v := .ref (ad 6)) (C := RX2) (T := TX2) (N := 8) F.1 F.2.1 F.2.2.2.2 vX2_total_X2 F.2.2.2.1 hz.1 hP 0 rfl rfl 4 (by decide) (F.2.2.2.2 _ uX2_total_5) (fun _ h9 => h9) rfl dX2_total_93 ?_
            refine lv_iload F.1 F.2.1 dX2_total_96 (lv_at hl 7 rfl) ?_
            refine va_iald F.1 F.2.1 hz.1 hP 5 0 rfl rfl h.1 dX2_total_98 ?_
            have h := h.2
            refine lv_lshl F.1 F.2.1 dX2_total_99 rfl ?_
            refine lv_lor F.1 F.2.1 dX2_total_100 ?_
            refine lv_topl (fun y_4 ey_4 => ?_)
            have h := h y_4 ey_4
            refine lv_lstore (lv' := [(7, .long y_4), (6, .int (x6 + (1 : Int32))), (0, .ref (ad 1)), (2, .int p2), (3, .int p3), (4, .int p4), (5, .int p5), (9, .int x9)]) F.1 F.2.1 dX2_total_101 hl (by decide) rfl (fun ls hl => ?_)
            refine lv_iinc (v := x9 + 1) (lv' := [(9, .int (x9 + 1)), (7, .long y_4), (6, .int (x6 + (1 : Int32))), (0, .ref (ad 1)), (2, .int p2), (3, .int p3), (4, .int p4), (5, .int p5)]) F.1 F.2.1 dX2_total_103 hl (k := 7) rfl rfl (by decide) rfl (fun ls hl => ?_)
            refine lv_goto (tgt := 21) F.1 F.2.1 dX2_total_106 (by decide) ?_
            exact ih21 (x6 + (1 : Int32), y_4, x9 + 1) h ls (lv_sub hl [3, 4, 5, 6, 7, 2, 1, 0] rfl)
          · have h := h.1 (hc)
            refine lv_aload_n F.1 F.2.1 dX2_total_75 rfl (lv_at hl 0 rfl) ?_
            refine va_get (D := D) (ci := 0) (v := .ref (ad 5)) (C := RX2) (T := TX2) (N := 8) F.1 F.2.1 F.2.2.2.2 vX2_total_X2 F.2.2.2.1 hz.1 hP 0 rfl rfl 3 (by decide) (F.2.2.2.2 _ uX2_total_4) (fun _ h9 => h9) rfl dX2_total_76 ?_
            refine lv_iload F.1 F.2.1 dX2_total_79 (lv_at hl 7 rfl) ?_
            refine va_iald F.1 F.2.1 hz.1 hP 4 0 rfl rfl h.1 dX2_total_81 ?_
            have h := h.2
            refine lv_goto (tgt := 86) F.1 F.2.1 dX2_total_82 (by decide) ?_
            refine lv_iadd F.1 F.2.1 dX2_total_86 ?_
            refine lv_topi (fun y_5 ey_5 => ?_)
            have h := h y_5 ey_5
            refine lv_istore (lv' := [(6, .int y_5), (0, .ref (ad 1)), (2, .int p2), (3, .int p3), (4, .int p4), (5, .int p5), (7, .long x7), (9, .int x9)]) F.1 F.2.1 dX2_total_87 hl (by decide) rfl (fun ls hl => ?_)
            refine lv_lload F.1 F.2.1 dX2_total_89 (lv_at hl 6 rfl) ?_
            refine lv_lconst (v := (1 : Int64)) F.1 F.2.1 dX2_total_91 (by decide) ?_
            refine lv_aload_n F.1 F.2.1 dX2_total_92 rfl (lv_at hl 1 rfl) ?_
            refine va_get (D := D) (ci := 0) (v := .ref (ad 6)) (C := RX2) (T := TX2) (N := 8) F.1 F.2.1 F.2.2.2.2 vX2_total_X2 F.2.2.2.1 hz.1 hP 0 rfl rfl 4 (by decide) (F.2.2.2.2 _ uX2_total_5) (fun _ h9 => h9) rfl dX2_total_93 ?_
            refine lv_iload F.1 F.2.1 dX2_total_96 (lv_at hl 7 rfl) ?_
            refine va_iald F.1 F.2.1 hz.1 hP 5 0 rfl rfl h.1 dX2_total_98 ?_
            have h := h.2
            refine lv_lshl F.1 F.2.1 dX2_total_99 rfl ?_
            refine lv_lor F.1 F.2.1 dX2_total_100 ?_
            refine lv_topl (fun y_6 ey_6 => ?_)
            have h := h y_6 ey_6
            refine lv_lstore (lv' := [(7, .long y_6), (6, .int y_5), (0, .ref (ad 1)), (2, .int p2), (3, .int p3), (4, .int p4), (5, .int p5), (9, .int x9)]) F.1 F.2.1 dX2_total_101 hl (by decide) rfl (fun ls hl => ?_)
            refine lv_iinc (v := x9 + 1) (lv' := [(9, .int (x9 + 1)), (7, .long y_6), (6, .int y_5), (0, .ref (ad 1)), (2, .int p2), (3, .int p3), (4, .int p4), (5, .int p5)]) F.1 F.2.1 dX2_total_103 hl (k := 7) rfl rfl (by decide) rfl (fun ls hl => ?_)
            refine lv_goto (tgt := 21) F.1 F.2.1 dX2_total_106 (by decide) ?_
            exact ih21 (y_5, y_6, x9 + 1) h ls (lv_sub hl [3, 4, 5, 6, 7, 2, 1, 0] rfl)
        · have h := h.1 (hc)
          refine lv_aload_n F.1 F.2.1 dX2_total_60 rfl (lv_at hl 0 rfl) ?_
          refine va_get (D := D) (ci := 0) (v := .ref (ad 4)) (C := RX2) (T := TX2) (N := 8) F.1 F.2.1 F.2.2.2.2 vX2_total_X2 F.2.2.2.1 hz.1 hP 0 rfl rfl 2 (by decide) (F.2.2.2.2 _ uX2_total_3) (fun _ h9 => h9) rfl dX2_total_61 ?_
          refine lv_iload F.1 F.2.1 dX2_total_64 (lv_at hl 7 rfl) ?_
          refine va_iald F.1 F.2.1 hz.1 hP 3 0 rfl rfl h.1 dX2_total_66 ?_
          have h := h.2
          refine lv_goto (tgt := 86) F.1 F.2.1 dX2_total_67 (by decide) ?_
          refine lv_iadd F.1 F.2.1 dX2_total_86 ?_
          refine lv_topi (fun y_7 ey_7 => ?_)
          have h := h y_7 ey_7
          refine lv_istore (lv' := [(6, .int y_7), (0, .ref (ad 1)), (2, .int p2), (3, .int p3), (4, .int p4), (5, .int p5), (7, .long x7), (9, .int x9)]) F.1 F.2.1 dX2_total_87 hl (by decide) rfl (fun ls hl => ?_)
          refine lv_lload F.1 F.2.1 dX2_total_89 (lv_at hl 6 rfl) ?_
          refine lv_lconst (v := (1 : Int64)) F.1 F.2.1 dX2_total_91 (by decide) ?_
          refine lv_aload_n F.1 F.2.1 dX2_total_92 rfl (lv_at hl 1 rfl) ?_
          refine va_get (D := D) (ci := 0) (v := .ref (ad 6)) (C := RX2) (T := TX2) (N := 8) F.1 F.2.1 F.2.2.2.2 vX2_total_X2 F.2.2.2.1 hz.1 hP 0 rfl rfl 4 (by decide) (F.2.2.2.2 _ uX2_total_5) (fun _ h9 => h9) rfl dX2_total_93 ?_
          refine lv_iload F.1 F.2.1 dX2_total_96 (lv_at hl 7 rfl) ?_
          refine va_iald F.1 F.2.1 hz.1 hP 5 0 rfl rfl h.1 dX2_total_98 ?_
          have h := h.2
          refine lv_lshl F.1 F.2.1 dX2_total_99 rfl ?_
          refine lv_lor F.1 F.2.1 dX2_total_100 ?_
          refine lv_topl (fun y_8 ey_8 => ?_)
          have h := h y_8 ey_8
          refine lv_lstore (lv' := [(7, .long y_8), (6, .int y_7), (0, .ref (ad 1)), (2, .int p2), (3, .int p3), (4, .int p4), (5, .int p5), (9, .int x9)]) F.1 F.2.1 dX2_total_101 hl (by decide) rfl (fun ls hl => ?_)
          refine lv_iinc (v := x9 + 1) (lv' := [(9, .int (x9 + 1)), (7, .long y_8), (6, .int y_7), (0, .ref (ad 1)), (2, .int p2), (3, .int p3), (4, .int p4), (5, .int p5)]) F.1 F.2.1 dX2_total_103 hl (k := 7) rfl rfl (by decide) rfl (fun ls hl => ?_)
          refine lv_goto (tgt := 21) F.1 F.2.1 dX2_total_106 (by decide) ?_
          exact ih21 (y_7, y_8, x9 + 1) h ls (lv_sub hl [3, 4, 5, 6, 7, 2, 1, 0] rfl)
set_option maxRecDepth 100000 in
theorem bX2_total {a1 : Int32} {a2 : Int32} {a3 : Int32} {S : S2} {Q : Int32 → Prop} (F : CallFix p m c cX2_total 10 s args wsX2_total RX2) (hz : gz D cI cJ cZ s) (hP : va_P D vwCl (w2 ad cI S) s.heap) (hret : ∀ (v : Int32) (pc : Nat) (ls : Array Slot), Q v → decode cX2_total pc = .ok (.ireturn, 1) → W p l e rX2_total s m args below meth c s.heap [] 0 0 QQ (F0 m pc ls [.int v])) (h : wX2_total S a1 a2 a3 Q) : ∀ ls : Array Slot, lv_has ls 10 [(0, .ref (ad 1)), (1, .int a1), (2, .int a2), (3, .int a3)] → W p l e rX2_total s m args below meth c s.heap [] 0 0 QQ (F0 m 0 ls []) := by
  intro ls hl
  refine lv_iload_n F.1 F.2.1 dX2_total_0 rfl (lv_at hl 1 rfl) ?_
  refine vp_callSi (va_Run.run (va_runS (As := [.int a1]) (rest := []) F (mX1_testedBits (l := l) (D := D) (cI := cI) (cJ := cJ) (cZ := cZ) h) (va_cwS 1 F.2.2.2.2 gX2_total_X1_testedBits rfl rfl rfl kS_X1_testedBits ⟨Nat.le_of_ble_eq_true rfl, Nat.le_of_ble_eq_true rfl⟩) ⟨rp_blind, rp_pre hz (hP.sub (ws' := []) [] rfl) [.int a1]⟩ rfl rfl hl.1 rfl (lv_room (Nat.le_of_ble_eq_true rfl)) dX2_total_1 ⟨Nat.le_of_ble_eq_true rfl, Nat.le_of_ble_eq_true rfl⟩)) (fun r_1 h => ?_)
  refine lv_istore (lv' := [(4, .int r_1), (0, .ref (ad 1)), (1, .int a1), (2, .int a2), (3, .int a3)]) F.1 F.2.1 dX2_total_4 hl (by decide) rfl (fun ls hl => ?_)
  refine lv_iload_n F.1 F.2.1 dX2_total_6 rfl (lv_at hl 2 rfl) ?_
  refine vp_callSi (va_Run.run (va_runS (As := [.int a1]) (rest := []) F (mX1_wantedBits (l := l) (D := D) (cI := cI) (cJ := cJ) (cZ := cZ) h) (va_cwS 1 F.2.2.2.2 gX2_total_X1_wantedBits rfl rfl rfl kS_X1_wantedBits ⟨Nat.le_of_ble_eq_true rfl, Nat.le_of_ble_eq_true rfl⟩) ⟨rp_blind, rp_pre hz (hP.sub (ws' := []) [] rfl) [.int a1]⟩ rfl rfl hl.1 rfl (lv_room (Nat.le_of_ble_eq_true rfl)) dX2_total_7 ⟨Nat.le_of_ble_eq_true rfl, Nat.le_of_ble_eq_true rfl⟩)) (fun r_2 h => ?_)
  refine lv_istore (lv' := [(5, .int r_2), (4, .int r_1), (0, .ref (ad 1)), (1, .int a1), (2, .int a2), (3, .int a3)]) F.1 F.2.1 dX2_total_10 hl (by decide) rfl (fun ls hl => ?_)
  refine lv_iconst (v := (0 : Int32)) F.1 F.2.1 dX2_total_12 (by decide) ?_
  refine lv_istore (lv' := [(6, .int (0 : Int32)), (5, .int r_2), (4, .int r_1), (0, .ref (ad 1)), (1, .int a1), (2, .int a2), (3, .int a3)]) F.1 F.2.1 dX2_total_13 hl (by decide) rfl (fun ls hl => ?_)
  refine lv_lconst (v := (0 : Int64)) F.1 F.2.1 dX2_total_15 (by decide) ?_
  refine lv_lstore (lv' := [(7, .long (0 : Int64)), (6, .int (0 : Int32)), (5, .int r_2), (4, .int r_1), (0, .ref (ad 1)), (1, .int a1), (2, .int a2), (3, .int a3)]) F.1 F.2.1 dX2_total_16 hl (by decide) rfl (fun ls hl => ?_)
  refine lv_iconst (v := (0 : Int32)) F.1 F.2.1 dX2_total_18 (by decide) ?_
  refine lv_istore (lv' := [(9, .int (0 : Int32)), (7, .long (0 : Int64)), (6, .int (0 : Int32)), (5, .int r_2), (4, .int r_1), (0, .ref (ad 1)), (1, .int a1), (2, .int a2), (3, .int a3)]) F.1 F.2.1 dX2_total_19 hl (by decide) rfl (fun ls hl => ?_)
  obtain ⟨nn, h⟩ := h
  refine kX2_total_21 F hz hP (fun ⟨x6, x7, x9⟩ h ls hl => ?_) nn _ h ls (lv_sub hl [5, 7, 8, 4, 3, 2, 1, 0] rfl)
  refine lv_iload_n F.1 F.2.1 dX2_total_109 rfl (lv_at hl 2 rfl) ?_
  refine lv_iconst (v := (3 : Int32)) F.1 F.2.1 dX2_total_110 (by decide) ?_
  refine lv_icmp_ne (tgt := 122) F.1 F.2.1 dX2_total_111 (by decide) (fun hc => ?_) (fun hc => ?_)
  · have h := h.2 hc
    refine lv_iload F.1 F.2.1 dX2_total_122 (lv_at hl 5 rfl) ?_
    exact hret _ _ _ h dX2_total_124
  · have h := h.1 (hc)
    refine lv_lload F.1 F.2.1 dX2_total_114 (lv_at hl 6 rfl) ?_
    refine vp_callSi (va_Run.run (va_runS (As := [.long x7]) (rest := []) F (mJ13_bitCount_95d88 (l := l) (D := D) (cI := cI) (cJ := cJ) (cZ := cZ) h) (va_cwS 1 F.2.2.2.2 gX2_total_J13_bitCount_95d88 rfl rfl rfl kS_J13_bitCount_95d88 ⟨Nat.le_of_ble_eq_true rfl, Nat.le_of_ble_eq_true rfl⟩) ⟨rp_blind, rp_pre hz (hP.sub (ws' := []) [] rfl) [.long x7]⟩ rfl rfl hl.1 rfl (lv_room (Nat.le_of_ble_eq_true rfl)) dX2_total_116 ⟨Nat.le_of_ble_eq_true rfl, Nat.le_of_ble_eq_true rfl⟩)) (fun r_9 h => ?_)
    refine lv_goto (tgt := 124) F.1 F.2.1 dX2_total_119 (by decide) ?_
    exact hret _ _ _ h dX2_total_124
theorem mX2_total {l : Launch} {D : va_G} {cI cJ cZ : ClassId} {ad : Nat → Nat} {S : S2} {a1 : Int32} {a2 : Int32} {a3 : Int32} {Q : Int32 → Prop} (h : wX2_total S a1 a2 a3 Q) : Met l yX2_total wsX2_total rX2_total (va_Pc [.ref (ad 1), .int a1, .int a2, .int a3] (rp D cI cJ cZ (w2 ad cI S))) (vp_Si Q) 0 0 (fun _ => False) :=
  enter_i (by decide +kernel) rfl (Nat.le_of_ble_eq_true rfl) (fun p e s m args below meth c QQ F hz hret => bX2_total F hz.1 hz.2 hret h)
abbrev rX2_moved : Room := { frames := 3, cells := 0, slots := 0, locals := 72 }
theorem kV_X2_moved : yX2_moved.cls = RX2 ∧ yX2_moved.cls ≠ "java/lang/invoke/MethodHandle" ∧ yX2_moved.cls ≠ "java/lang/invoke/VarHandle" ∧ (parseMethodDescriptor yX2_moved.desc).map (fun d => d.parameters.length) = some 2 := by decide +kernel
set_option maxRecDepth 100000 in
theorem bX2_moved {a1 : Int32} {a2 : Int32} {S : S2} {Q : Int32 → Prop} (F : CallFix p m c cX2_moved 3 s args wsX2_moved RX2) (hz : gz D cI cJ cZ s) (hP : va_P D vwCl (w2 ad cI S) s.heap) (hret : ∀ (v : Int32) (pc : Nat) (ls : Array Slot), Q v → decode cX2_moved pc = .ok (.ireturn, 1) → W p l e rX2_moved s m args below meth c s.heap [] 0 0 QQ (F0 m pc ls [.int v])) (h : wX2_moved S a1 a2 Q) : ∀ ls : Array Slot, lv_has ls 3 [(0, .ref (ad 1)), (1, .int a1), (2, .int a2)] → W p l e rX2_moved s m args below meth c s.heap [] 0 0 QQ (F0 m 0 ls []) := by
  intro ls hl
  refine lv_aload_n F.1 F.2.1 dX2_moved_0 rfl (lv_at hl 0 rfl) ?_
  refine lv_iload_n F.1 F.2.1 dX2_moved_1 rfl (lv_at hl 1 rfl) ?_
  refine lv_iconst (v := (1 : Int32)) F.1 F.2.1 dX2_moved_2 (by decide) ?_
  refine lv_iload_n F.1 F.2.1 dX2_moved_3 rfl (lv_at hl 2 rfl) ?_
  refine vp_callSi (va_Run.run (va_runV (As := [.int a1, .int (1 : Int32), .int a2]) (rest := []) F (mX2_total (l := l) (D := D) (cI := cI) (cJ := cJ) (cZ := cZ) (ad := ad) h) (cwV 3 F.2.2.2.2 gX2_moved_X2_total rfl rfl rfl kV_X2_total ⟨Nat.le_of_ble_eq_true rfl, Nat.le_of_ble_eq_true rfl⟩) ⟨rp_blind, va_recv hz.1 hP (ci := 0) (q0 := 0) rfl rfl, rp_pre hz hP (.ref (ad 1) :: [.int a1, .int (1 : Int32), .int a2])⟩ rfl rfl hl.1 rfl (lv_room (Nat.le_of_ble_eq_true rfl)) dX2_moved_4 ⟨Nat.le_of_ble_eq_true rfl, Nat.le_of_ble_eq_true rfl⟩)) (fun r_1 h => ?_)
  refine lv_aload_n F.1 F.2.1 dX2_moved_7 rfl (lv_at hl 0 rfl) ?_
  refine lv_iload_n F.1 F.2.1 dX2_moved_8 rfl (lv_at hl 1 rfl) ?_
  refine lv_iconst (v := (0 : Int32)) F.1 F.2.1 dX2_moved_9 (by decide) ?_
  refine lv_iload_n F.1 F.2.1 dX2_moved_10 rfl (lv_at hl 2 rfl) ?_
  refine vp_callSi (va_Run.run (va_runV (As := [.int a1, .int (0 : Int32), .int a2]) (rest := [.int r_1]) F (mX2_total (l := l) (D := D) (cI := cI) (cJ := cJ) (cZ := cZ) (ad := ad) h) (cwV 3 F.2.2.2.2 gX2_moved_X2_total rfl rfl rfl kV_X2_total ⟨Nat.le_of_ble_eq_true rfl, Nat.le_of_ble_eq_true rfl⟩) ⟨rp_blind, va_recv hz.1 hP (ci := 0) (q0 := 0) rfl rfl, rp_pre hz hP (.ref (ad 1) :: [.int a1, .int (0 : Int32), .int a2])⟩ rfl rfl hl.1 rfl (lv_room (Nat.le_of_ble_eq_true rfl)) dX2_moved_11 ⟨Nat.le_of_ble_eq_true rfl, Nat.le_of_ble_eq_true rfl⟩)) (fun r_2 h => ?_)
  refine lv_isub F.1 F.2.1 dX2_moved_14 ?_
  exact hret _ _ _ h dX2_moved_15
theorem mX2_moved {l : Launch} {D : va_G} {cI cJ cZ : ClassId} {ad : Nat → Nat} {S : S2} {a1 : Int32} {a2 : Int32} {Q : Int32 → Prop} (h : wX2_moved S a1 a2 Q) : Met l yX2_moved wsX2_moved rX2_moved (va_Pc [.ref (ad 1), .int a1, .int a2] (rp D cI cJ cZ (w2 ad cI S))) (vp_Si Q) 0 0 (fun _ => False) :=
  enter_i (by decide +kernel) rfl (Nat.le_of_ble_eq_true rfl) (fun p e s m args below meth c QQ F hz hret => bX2_moved F hz.1 hz.2 hret h)
abbrev rX2_hasRates : Room := { frames := 3, cells := 0, slots := 0, locals := 72 }
theorem kV_X2_hasRates : yX2_hasRates.cls = RX2 ∧ yX2_hasRates.cls ≠ "java/lang/invoke/MethodHandle" ∧ yX2_hasRates.cls ≠ "java/lang/invoke/VarHandle" ∧ (parseMethodDescriptor yX2_hasRates.desc).map (fun d => d.parameters.length) = some 1 := by decide +kernel
set_option maxRecDepth 100000 in
theorem bX2_hasRates {a1 : Int32} {S : S2} {Q : Int32 → Prop} (F : CallFix p m c cX2_hasRates 2 s args wsX2_hasRates RX2) (hz : gz D cI cJ cZ s) (hP : va_P D vwCl (w2 ad cI S) s.heap) (hret : ∀ (v : Int32) (pc : Nat) (ls : Array Slot), narrow .boolean (.int v) = .int v → Q v → decode cX2_hasRates pc = .ok (.ireturn, 1) → W p l e rX2_hasRates s m args below meth c s.heap [] 0 0 QQ (F0 m pc ls [.int v])) (h : wX2_hasRates S a1 Q) : ∀ ls : Array Slot, lv_has ls 2 [(0, .ref (ad 1)), (1, .int a1)] → W p l e rX2_hasRates s m args below meth c s.heap [] 0 0 QQ (F0 m 0 ls []) := by
  intro ls hl
  refine lv_aload_n F.1 F.2.1 dX2_hasRates_0 rfl (lv_at hl 0 rfl) ?_
  refine lv_iload_n F.1 F.2.1 dX2_hasRates_1 rfl (lv_at hl 1 rfl) ?_
  refine lv_iconst (v := (0 : Int32)) F.1 F.2.1 dX2_hasRates_2 (by decide) ?_
  refine lv_iconst (v := (2 : Int32)) F.1 F.2.1 dX2_hasRates_3 (by decide) ?_
  refine vp_callSi (va_Run.run (va_runV (As := [.int a1, .int (0 : Int32), .int (2 : Int32)]) (rest := []) F (mX2_total (l := l) (D := D) (cI := cI) (cJ := cJ) (cZ := cZ) (ad := ad) h) (cwV 3 F.2.2.2.2 gX2_hasRates_X2_total rfl rfl rfl kV_X2_total ⟨Nat.le_of_ble_eq_true rfl, Nat.le_of_ble_eq_true rfl⟩) ⟨rp_blind, va_recv hz.1 hP (ci := 0) (q0 := 0) rfl rfl, rp_pre hz hP (.ref (ad 1) :: [.int a1, .int (0 : Int32), .int (2 : Int32)])⟩ rfl rfl hl.1 rfl (lv_room (Nat.le_of_ble_eq_true rfl)) dX2_hasRates_4 ⟨Nat.le_of_ble_eq_true rfl, Nat.le_of_ble_eq_true rfl⟩)) (fun r_1 h => ?_)
  refine lv_if_le (tgt := 24) F.1 F.2.1 dX2_hasRates_7 (by decide) (fun hc => ?_) (fun hc => ?_)
  · have h := h.1 (hc)
    refine lv_iconst (v := (0 : Int32)) F.1 F.2.1 dX2_hasRates_24 (by decide) ?_
    exact hret _ _ _ nr_0 h dX2_hasRates_25
  · have h := h.2 hc
    refine lv_aload_n F.1 F.2.1 dX2_hasRates_10 rfl (lv_at hl 0 rfl) ?_
    refine lv_iload_n F.1 F.2.1 dX2_hasRates_11 rfl (lv_at hl 1 rfl) ?_
    refine lv_iconst (v := (1 : Int32)) F.1 F.2.1 dX2_hasRates_12 (by decide) ?_
    refine lv_iconst (v := (2 : Int32)) F.1 F.2.1 dX2_hasRates_13 (by decide) ?_
    refine vp_callSi (va_Run.run (va_runV (As := [.int a1, .int (1 : Int32), .int (2 : Int32)]) (rest := []) F (mX2_total (l := l) (D := D) (cI := cI) (cJ := cJ) (cZ := cZ) (ad := ad) h) (cwV 3 F.2.2.2.2 gX2_hasRates_X2_total rfl rfl rfl kV_X2_total ⟨Nat.le_of_ble_eq_true rfl, Nat.le_of_ble_eq_true rfl⟩) ⟨rp_blind, va_recv hz.1 hP (ci := 0) (q0 := 0) rfl rfl, rp_pre hz hP (.ref (ad 1) :: [.int a1, .int (1 : Int32), .int (2 : Int32)])⟩ rfl rfl hl.1 rfl (lv_room (Nat.le_of_ble_eq_true rfl)) dX2_hasRates_14 ⟨Nat.le_of_ble_eq_true rfl, Nat.le_of_ble_eq_true rfl⟩)) (fun r_2 h => ?_)
    refine lv_if_le (tgt := 24) F.1 F.2.1 dX2_hasRates_17 (by decide) (fun hc => ?_) (fun hc => ?_)
    · have h := h.1 (hc)
      refine lv_iconst (v := (0 : Int32)) F.1 F.2.1 dX2_hasRates_24 (by decide) ?_
      exact hret _ _ _ nr_0 h dX2_hasRates_25
    · have h := h.2 hc
      refine lv_iconst (v := (1 : Int32)) F.1 F.2.1 dX2_hasRates_20 (by decide) ?_
      refine lv_goto (tgt := 25) F.1 F.2.1 dX2_hasRates_21 (by decide) ?_
      exact hret _ _ _ nr_1 h dX2_hasRates_25
theorem mX2_hasRates {l : Launch} {D : va_G} {cI cJ cZ : ClassId} {ad : Nat → Nat} {S : S2} {a1 : Int32} {Q : Int32 → Prop} (h : wX2_hasRates S a1 Q) : Met l yX2_hasRates wsX2_hasRates rX2_hasRates (va_Pc [.ref (ad 1), .int a1] (rp D cI cJ cZ (w2 ad cI S))) (vp_Si (qb Q)) 0 0 (fun _ => False) :=
  enter_z (by decide +kernel) rfl (Nat.le_of_ble_eq_true rfl) (fun p e s m args below meth c QQ F hz hret => bX2_hasRates F hz.1 hz.2 hret h)
abbrev rX2_bitsOf : Room := { frames := 2, cells := 0, slots := 0, locals := 43 }
theorem kV_X2_bitsOf : yX2_bitsOf.cls = RX2 ∧ yX2_bitsOf.cls ≠ "java/lang/invoke/MethodHandle" ∧ yX2_bitsOf.cls ≠ "java/lang/invoke/VarHandle" ∧ (parseMethodDescriptor yX2_bitsOf.desc).map (fun d => d.parameters.length) = some 2 := by decide +kernel
theorem vX2_bitsOf_X2 : ∀ w ∈ wsX20, w ∈ wsX2_bitsOf := fun _ h => List.mem_cons_of_mem _ (List.mem_append_right _ h)
theorem uX2_bitsOf_1 : Cond.fieldLink RX2 33 "SumMoved$Rows" "size" "I" ∈ wsX2_bitsOf := List.mem_of_getElem? (i := 1) rfl
theorem uX2_bitsOf_2 : Cond.methodLink RX2 72 Lib.Math.min.name ∈ wsX2_bitsOf := List.mem_of_getElem? (i := 2) rfl
theorem uX2_bitsOf_3 : Cond.static Lib.Math.min.name ∈ wsX2_bitsOf := List.mem_of_getElem? (i := 3) rfl
theorem uX2_bitsOf_4 : Cond.initialized "java/lang/Math" ∈ wsX2_bitsOf := List.mem_of_getElem? (i := 4) rfl
theorem uX2_bitsOf_5 : Cond.code Lib.Math.min.name Lib.Math.min.code 2 (some .int) ∈ wsX2_bitsOf := List.mem_of_getElem? (i := 5) rfl
set_option maxRecDepth 100000 in
theorem kX2_bitsOf_52 {p3 : Int32} {p4 : Int32} {p5 : Int32} {p6 : Int32} {S : S2} (F : CallFix p m c cX2_bitsOf 10 s args wsX2_bitsOf RX2) (hz : gz D cI cJ cZ s) (hP : va_P D vwCl (w2 ad cI S) s.heap) {K : Int64 × Int32 → Prop} (hK : ∀ x : Int64 × Int32, K x → match x with | (x7, x9) => ∀ ls : Array Slot, lv_has ls 10 [(0, .ref (ad 1)), (3, .int p3), (4, .int p4), (5, .int p5), (6, .int p6), (7, .long x7), (9, .int x9)] → W p l e rX2_bitsOf s m args below meth c s.heap [] 0 0 QQ (F0 m 89 ls [])) : ∀ (nn : Nat) (x : Int64 × Int32), iter (sX2_bitsOf_52 S p3 p4 p5 p6 K) nn x → match x with | (x7, x9) => ∀ ls : Array Slot, lv_has ls 10 [(0, .ref (ad 1)), (3, .int p3), (4, .int p4), (5, .int p5), (6, .int p6), (7, .long x7), (9, .int x9)] → W p l e rX2_bitsOf s m args below meth c s.heap [] 0 0 QQ (F0 m 52 ls []) := by
  refine iter_walk ?_
  rintro again52 ⟨x7, x9⟩ ih52 h ls hl
  have hK52 := hK
  refine lv_iload F.1 F.2.1 dX2_bitsOf_52 (lv_at hl 6 rfl) ?_
  refine lv_iload F.1 F.2.1 dX2_bitsOf_54 (lv_at hl 4 rfl) ?_
  refine lv_icmp_ge (tgt := 89) F.1 F.2.1 dX2_bitsOf_56 (by decide) (fun hc => ?_) (fun hc => ?_)
  · have h := h.1 (hc)
    exact hK52 (x7, x9) h ls (lv_sub hl [0, 1, 2, 3, 4, 5, 6] rfl)
  · have h := h.2 hc
    refine lv_aload_n F.1 F.2.1 dX2_bitsOf_59 rfl (lv_at hl 0 rfl) ?_
    refine lv_iload F.1 F.2.1 dX2_bitsOf_60 (lv_at hl 6 rfl) ?_
    refine lv_iload_n F.1 F.2.1 dX2_bitsOf_62 rfl (lv_at hl 1 rfl) ?_
    refine lv_iload F.1 F.2.1 dX2_bitsOf_63 (lv_at hl 2 rfl) ?_
    refine vp_callSi (va_Run.run (va_runV (As := [.int x9, .int p3, .int p4]) (rest := []) F (mX2_fits (l := l) (D := D) (cI := cI) (cJ := cJ) (cZ := cZ) (ad := ad) h) (cwV 3 F.2.2.2.2 gX2_bitsOf_X2_fits rfl rfl rfl kV_X2_fits ⟨Nat.le_of_ble_eq_true rfl, Nat.le_of_ble_eq_true rfl⟩) ⟨rp_blind, va_recv hz.1 hP (ci := 0) (q0 := 0) rfl rfl, rp_pre hz hP (.ref (ad 1) :: [.int x9, .int p3, .int p4])⟩ rfl rfl hl.1 rfl (lv_room (Nat.le_of_ble_eq_true rfl)) dX2_bitsOf_65 ⟨Nat.le_of_ble_eq_true rfl, Nat.le_of_ble_eq_true rfl⟩)) (fun r_3 h => ?_)
    obtain ⟨hbr_3, h⟩ := h
    refine lv_if_eq (tgt := 83) F.1 F.2.1 dX2_bitsOf_68 (by decide) (fun hc => ?_) (fun hc => ?_)
    · have h := h.1 (hc)
      refine lv_iinc (v := x9 + 1) (lv' := [(9, .int (x9 + 1)), (0, .ref (ad 1)), (3, .int p3), (4, .int p4), (5, .int p5), (6, .int p6), (7, .long x7)]) F.1 F.2.1 dX2_bitsOf_83 hl (k := 6) rfl rfl (by decide) rfl (fun ls hl => ?_)
      refine lv_goto (tgt := 52) F.1 F.2.1 dX2_bitsOf_86 (by decide) ?_
      exact ih52 (x7, x9 + 1) h ls (lv_sub hl [1, 2, 3, 4, 5, 6, 0] rfl)
    · have h := h.2 hc
      refine lv_lload F.1 F.2.1 dX2_bitsOf_71 (lv_at hl 5 rfl) ?_
      refine lv_lconst (v := (1 : Int64)) F.1 F.2.1 dX2_bitsOf_73 (by decide) ?_
      refine lv_iload F.1 F.2.1 dX2_bitsOf_74 (lv_at hl 6 rfl) ?_
      refine lv_iload F.1 F.2.1 dX2_bitsOf_76 (lv_at hl 3 rfl) ?_
      refine lv_isub F.1 F.2.1 dX2_bitsOf_78 ?_
      refine lv_lshl F.1 F.2.1 dX2_bitsOf_79 rfl ?_
      refine lv_lor F.1 F.2.1 dX2_bitsOf_80 ?_
      refine lv_topl (fun y_4 ey_4 => ?_)
      have h := h y_4 ey_4
      refine lv_lstore (lv' := [(7, .long y_4), (0, .ref (ad 1)), (3, .int p3), (4, .int p4), (5, .int p5), (6, .int p6), (9, .int x9)]) F.1 F.2.1 dX2_bitsOf_81 hl (by decide) rfl (fun ls hl => ?_)
      refine lv_iinc (v := x9 + 1) (lv' := [(9, .int (x9 + 1)), (7, .long y_4), (0, .ref (ad 1)), (3, .int p3), (4, .int p4), (5, .int p5), (6, .int p6)]) F.1 F.2.1 dX2_bitsOf_83 hl (k := 6) rfl rfl (by decide) rfl (fun ls hl => ?_)
      refine lv_goto (tgt := 52) F.1 F.2.1 dX2_bitsOf_86 (by decide) ?_
      exact ih52 (y_4, x9 + 1) h ls (lv_sub hl [2, 3, 4, 5, 6, 1, 0] rfl)
set_option maxRecDepth 100000 in
theorem bX2_bitsOf {a1 : Int32} {a2 : Int32} {S : S2} {Q : Int64 → Prop} (F : CallFix p m c cX2_bitsOf 10 s args wsX2_bitsOf RX2) (hz : gz D cI cJ cZ s) (hP : va_P D vwCl (w2 ad cI S) s.heap) (hret : ∀ (v : Int64) (pc : Nat) (ls : Array Slot), Q v → decode cX2_bitsOf pc = .ok (.lreturn, 1) → W p l e rX2_bitsOf s m args below meth c s.heap [] 0 0 QQ (F0 m pc ls [.long v])) (h : wX2_bitsOf S a1 a2 Q) : ∀ ls : Array Slot, lv_has ls 10 [(0, .ref (ad 1)), (1, .int a1), (2, .int a2)] → W p l e rX2_bitsOf s m args below meth c s.heap [] 0 0 QQ (F0 m 0 ls []) := by
  intro ls hl
  refine lv_iload_n F.1 F.2.1 dX2_bitsOf_0 rfl (lv_at hl 1 rfl) ?_
  refine vp_callSi (va_Run.run (va_runS (As := [.int a1]) (rest := []) F (mX1_testedBits (l := l) (D := D) (cI := cI) (cJ := cJ) (cZ := cZ) h) (va_cwS 1 F.2.2.2.2 gX2_bitsOf_X1_testedBits rfl rfl rfl kS_X1_testedBits ⟨Nat.le_of_ble_eq_true rfl, Nat.le_of_ble_eq_true rfl⟩) ⟨rp_blind, rp_pre hz (hP.sub (ws' := []) [] rfl) [.int a1]⟩ rfl rfl hl.1 rfl (lv_room (Nat.le_of_ble_eq_true rfl)) dX2_bitsOf_1 ⟨Nat.le_of_ble_eq_true rfl, Nat.le_of_ble_eq_true rfl⟩)) (fun r_1 h => ?_)
  refine lv_istore_n (lv' := [(3, .int r_1), (0, .ref (ad 1)), (1, .int a1), (2, .int a2)]) F.1 F.2.1 dX2_bitsOf_4 rfl hl (by decide) rfl (fun ls hl => ?_)
  refine lv_iload_n F.1 F.2.1 dX2_bitsOf_5 rfl (lv_at hl 2 rfl) ?_
  refine vp_callSi (va_Run.run (va_runS (As := [.int a1]) (rest := []) F (mX1_wantedBits (l := l) (D := D) (cI := cI) (cJ := cJ) (cZ := cZ) h) (va_cwS 1 F.2.2.2.2 gX2_bitsOf_X1_wantedBits rfl rfl rfl kS_X1_wantedBits ⟨Nat.le_of_ble_eq_true rfl, Nat.le_of_ble_eq_true rfl⟩) ⟨rp_blind, rp_pre hz (hP.sub (ws' := []) [] rfl) [.int a1]⟩ rfl rfl hl.1 rfl (lv_room (Nat.le_of_ble_eq_true rfl)) dX2_bitsOf_6 ⟨Nat.le_of_ble_eq_true rfl, Nat.le_of_ble_eq_true rfl⟩)) (fun r_2 h => ?_)
  refine lv_istore (lv' := [(4, .int r_2), (3, .int r_1), (0, .ref (ad 1)), (1, .int a1), (2, .int a2)]) F.1 F.2.1 dX2_bitsOf_9 hl (by decide) rfl (fun ls hl => ?_)
  refine lv_iload_n F.1 F.2.1 dX2_bitsOf_11 rfl (lv_at hl 4 rfl) ?_
  refine lv_if_ne (tgt := 19) F.1 F.2.1 dX2_bitsOf_12 (by decide) (fun hc => ?_) (fun hc => ?_)
  · have h := h.2 hc
    refine lv_bipush (v := (64 : Int32)) F.1 F.2.1 dX2_bitsOf_19 (by decide) ?_
    refine lv_istore (lv' := [(5, .int (64 : Int32)), (4, .int r_2), (3, .int r_1), (0, .ref (ad 1)), (1, .int a1), (2, .int a2)]) F.1 F.2.1 dX2_bitsOf_21 hl (by decide) rfl (fun ls hl => ?_)
    refine lv_iload_n F.1 F.2.1 dX2_bitsOf_23 rfl (lv_at hl 5 rfl) ?_
    refine lv_if_ne (tgt := 39) F.1 F.2.1 dX2_bitsOf_24 (by decide) (fun hc => ?_) (fun hc => ?_)
    · have h := h.2 hc
      refine lv_aload_n F.1 F.2.1 dX2_bitsOf_39 rfl (lv_at hl 3 rfl) ?_
      refine va_get (D := D) (ci := 0) (v := .int S.2.2.2.2.2.2.2) (C := RX2) (T := TX2) (N := 8) F.1 F.2.1 F.2.2.2.2 vX2_bitsOf_X2 F.2.2.2.1 hz.1 hP 0 rfl rfl 7 (by decide) (F.2.2.2.2 _ uX2_bitsOf_1) (fun _ h9 => h9) rfl dX2_bitsOf_40 ?_
      refine lv_istore (lv' := [(6, .int S.2.2.2.2.2.2.2), (5, .int (64 : Int32)), (4, .int r_2), (3, .int r_1), (0, .ref (ad 1)), (1, .int a1), (2, .int a2)]) F.1 F.2.1 dX2_bitsOf_43 hl (by decide) rfl (fun ls hl => ?_)
      refine lv_lconst (v := (0 : Int64)) F.1 F.2.1 dX2_bitsOf_45 (by decide) ?_
      refine lv_lstore (lv' := [(7, .long (0 : Int64)), (6, .int S.2.2.2.2.2.2.2), (5, .int (64 : Int32)), (4, .int r_2), (3, .int r_1), (0, .ref (ad 1)), (1, .int a1), (2, .int a2)]) F.1 F.2.1 dX2_bitsOf_46 hl (by decide) rfl (fun ls hl => ?_)
      refine lv_iload F.1 F.2.1 dX2_bitsOf_48 (lv_at hl 2 rfl) ?_
      refine lv_istore (lv' := [(9, .int (64 : Int32)), (7, .long (0 : Int64)), (6, .int S.2.2.2.2.2.2.2), (5, .int (64 : Int32)), (4, .int r_2), (3, .int r_1), (0, .ref (ad 1)), (1, .int a1), (2, .int a2)]) F.1 F.2.1 dX2_bitsOf_50 hl (by decide) rfl (fun ls hl => ?_)
      obtain ⟨nn, h⟩ := h
      refine kX2_bitsOf_52 F hz hP (fun ⟨x7, x9⟩ h ls hl => ?_) nn _ h ls (lv_sub hl [6, 5, 4, 3, 2, 1, 0] rfl)
      refine lv_lload F.1 F.2.1 dX2_bitsOf_89 (lv_at hl 5 rfl) ?_
      exact hret _ _ _ h dX2_bitsOf_91
    · have h := h.1 (hc)
      refine lv_aload_n F.1 F.2.1 dX2_bitsOf_27 rfl (lv_at hl 3 rfl) ?_
      refine va_get (D := D) (ci := 0) (v := .int S.2.2.2.2.2.2.2) (C := RX2) (T := TX2) (N := 8) F.1 F.2.1 F.2.2.2.2 vX2_bitsOf_X2 F.2.2.2.1 hz.1 hP 0 rfl rfl 7 (by decide) (F.2.2.2.2 _ uX2_bitsOf_1) (fun _ h9 => h9) rfl dX2_bitsOf_28 ?_
      refine lv_bipush (v := (64 : Int32)) F.1 F.2.1 dX2_bitsOf_31 (by decide) ?_
      refine va_mmin F.1 F.2.1 (F.2.2.1.trans hl.1.symm) F.2.2.2.1 (F.2.2.2.2 _ uX2_bitsOf_2) (F.2.2.2.2 _ uX2_bitsOf_3) (F.2.2.2.2 _ uX2_bitsOf_4) (F.2.2.2.2 _ uX2_bitsOf_5) (Nat.le_of_ble_eq_true rfl) (Nat.le_of_ble_eq_true rfl) (Nat.le_of_ble_eq_true rfl) (Nat.le_of_ble_eq_true rfl) dX2_bitsOf_33 ?_
      refine lv_goto (tgt := 43) F.1 F.2.1 dX2_bitsOf_36 (by decide) ?_
      refine lv_topi (fun y_5 ey_5 => ?_)
      have h := h y_5 ey_5
      refine lv_istore (lv' := [(6, .int y_5), (5, .int (64 : Int32)), (4, .int r_2), (3, .int r_1), (0, .ref (ad 1)), (1, .int a1), (2, .int a2)]) F.1 F.2.1 dX2_bitsOf_43 hl (by decide) rfl (fun ls hl => ?_)
      refine lv_lconst (v := (0 : Int64)) F.1 F.2.1 dX2_bitsOf_45 (by decide) ?_
      refine lv_lstore (lv' := [(7, .long (0 : Int64)), (6, .int y_5), (5, .int (64 : Int32)), (4, .int r_2), (3, .int r_1), (0, .ref (ad 1)), (1, .int a1), (2, .int a2)]) F.1 F.2.1 dX2_bitsOf_46 hl (by decide) rfl (fun ls hl => ?_)
      refine lv_iload F.1 F.2.1 dX2_bitsOf_48 (lv_at hl 2 rfl) ?_
      refine lv_istore (lv' := [(9, .int (64 : Int32)), (7, .long (0 : Int64)), (6, .int y_5), (5, .int (64 : Int32)), (4, .int r_2), (3, .int r_1), (0, .ref (ad 1)), (1, .int a1), (2, .int a2)]) F.1 F.2.1 dX2_bitsOf_50 hl (by decide) rfl (fun ls hl => ?_)
      obtain ⟨nn, h⟩ := h
      refine kX2_bitsOf_52 F hz hP (fun ⟨x7, x9⟩ h ls hl => ?_) nn _ h ls (lv_sub hl [6, 5, 4, 3, 2, 1, 0] rfl)
      refine lv_lload F.1 F.2.1 dX2_bitsOf_89 (lv_at hl 5 rfl) ?_
      exact hret _ _ _ h dX2_bitsOf_91
  · have h := h.1 (hc)
    refine lv_iconst (v := (0 : Int32)) F.1 F.2.1 dX2_bitsOf_15 (by decide) ?_
    refine lv_goto (tgt := 21) F.1 F.2.1 dX2_bitsOf_16 (by decide) ?_
    refine lv_istore (lv' := [(5, .int (0 : Int32)), (4, .int r_2), (3, .int r_1), (0, .ref (ad 1)), (1, .int a1), (2, .int a2)]) F.1 F.2.1 dX2_bitsOf_21 hl (by decide) rfl (fun ls hl => ?_)
    refine lv_iload_n F.1 F.2.1 dX2_bitsOf_23 rfl (lv_at hl 5 rfl) ?_
    refine lv_if_ne (tgt := 39) F.1 F.2.1 dX2_bitsOf_24 (by decide) (fun hc => ?_) (fun hc => ?_)
    · have h := h.2 hc
      refine lv_aload_n F.1 F.2.1 dX2_bitsOf_39 rfl (lv_at hl 3 rfl) ?_
      refine va_get (D := D) (ci := 0) (v := .int S.2.2.2.2.2.2.2) (C := RX2) (T := TX2) (N := 8) F.1 F.2.1 F.2.2.2.2 vX2_bitsOf_X2 F.2.2.2.1 hz.1 hP 0 rfl rfl 7 (by decide) (F.2.2.2.2 _ uX2_bitsOf_1) (fun _ h9 => h9) rfl dX2_bitsOf_40 ?_
      refine lv_istore (lv' := [(6, .int S.2.2.2.2.2.2.2), (5, .int (0 : Int32)), (4, .int r_2), (3, .int r_1), (0, .ref (ad 1)), (1, .int a1), (2, .int a2)]) F.1 F.2.1 dX2_bitsOf_43 hl (by decide) rfl (fun ls hl => ?_)
      refine lv_lconst (v := (0 : Int64)) F.1 F.2.1 dX2_bitsOf_45 (by decide) ?_
      refine lv_lstore (lv' := [(7, .long (0 : Int64)), (6, .int S.2.2.2.2.2.2.2), (5, .int (0 : Int32)), (4, .int r_2), (3, .int r_1), (0, .ref (ad 1)), (1, .int a1), (2, .int a2)]) F.1 F.2.1 dX2_bitsOf_46 hl (by decide) rfl (fun ls hl => ?_)
      refine lv_iload F.1 F.2.1 dX2_bitsOf_48 (lv_at hl 2 rfl) ?_
      refine lv_istore (lv' := [(9, .int (0 : Int32)), (7, .long (0 : Int64)), (6, .int S.2.2.2.2.2.2.2), (5, .int (0 : Int32)), (4, .int r_2), (3, .int r_1), (0, .ref (ad 1)), (1, .int a1), (2, .int a2)]) F.1 F.2.1 dX2_bitsOf_50 hl (by decide) rfl (fun ls hl => ?_)
      obtain ⟨nn, h⟩ := h
      refine kX2_bitsOf_52 F hz hP (fun ⟨x7, x9⟩ h ls hl => ?_) nn _ h ls (lv_sub hl [6, 5, 4, 3, 2, 1, 0] rfl)
      refine lv_lload F.1 F.2.1 dX2_bitsOf_89 (lv_at hl 5 rfl) ?_
      exact hret _ _ _ h dX2_bitsOf_91
    · have h := h.1 (hc)
      refine lv_aload_n F.1 F.2.1 dX2_bitsOf_27 rfl (lv_at hl 3 rfl) ?_
      refine va_get (D := D) (ci := 0) (v := .int S.2.2.2.2.2.2.2) (C := RX2) (T := TX2) (N := 8) F.1 F.2.1 F.2.2.2.2 vX2_bitsOf_X2 F.2.2.2.1 hz.1 hP 0 rfl rfl 7 (by decide) (F.2.2.2.2 _ uX2_bitsOf_1) (fun _ h9 => h9) rfl dX2_bitsOf_28 ?_
      refine lv_bipush (v := (64 : Int32)) F.1 F.2.1 dX2_bitsOf_31 (by decide) ?_
      refine va_mmin F.1 F.2.1 (F.2.2.1.trans hl.1.symm) F.2.2.2.1 (F.2.2.2.2 _ uX2_bitsOf_2) (F.2.2.2.2 _ uX2_bitsOf_3) (F.2.2.2.2 _ uX2_bitsOf_4) (F.2.2.2.2 _ uX2_bitsOf_5) (Nat.le_of_ble_eq_true rfl) (Nat.le_of_ble_eq_true rfl) (Nat.le_of_ble_eq_true rfl) (Nat.le_of_ble_eq_true rfl) dX2_bitsOf_33 ?_
      refine lv_goto (tgt := 43) F.1 F.2.1 dX2_bitsOf_36 (by decide) ?_
      refine lv_topi (fun y_6 ey_6 => ?_)
      have h := h y_6 ey_6
      refine lv_istore (lv' := [(6, .int y_6), (5, .int (0 : Int32)), (4, .int r_2), (3, .int r_1), (0, .ref (ad 1)), (1, .int a1), (2, .int a2)]) F.1 F.2.1 dX2_bitsOf_43 hl (by decide) rfl (fun ls hl => ?_)
      refine lv_lconst (v := (0 : Int64)) F.1 F.2.1 dX2_bitsOf_45 (by decide) ?_
      refine lv_lstore (lv' := [(7, .long (0 : Int64)), (6, .int y_6), (5, .int (0 : Int32)), (4, .int r_2), (3, .int r_1), (0, .ref (ad 1)), (1, .int a1), (2, .int a2)]) F.1 F.2.1 dX2_bitsOf_46 hl (by decide) rfl (fun ls hl => ?_)
      refine lv_iload F.1 F.2.1 dX2_bitsOf_48 (lv_at hl 2 rfl) ?_
      refine lv_istore (lv' := [(9, .int (0 : Int32)), (7, .long (0 : Int64)), (6, .int y_6), (5, .int (0 : Int32)), (4, .int r_2), (3, .int r_1), (0, .ref (ad 1)), (1, .int a1), (2, .int a2)]) F.1 F.2.1 dX2_bitsOf_50 hl (by decide) rfl (fun ls hl => ?_)
      obtain ⟨nn, h⟩ := h
      refine kX2_bitsOf_52 F hz hP (fun ⟨x7, x9⟩ h ls hl => ?_) nn _ h ls (lv_sub hl [6, 5, 4, 3, 2, 1, 0] rfl)
      refine lv_lload F.1 F.2.1 dX2_bitsOf_89 (lv_at hl 5 rfl) ?_
      exact hret _ _ _ h dX2_bitsOf_91
theorem mX2_bitsOf {l : Launch} {D : va_G} {cI cJ cZ : ClassId} {ad : Nat → Nat} {S : S2} {a1 : Int32} {a2 : Int32} {Q : Int64 → Prop} (h : wX2_bitsOf S a1 a2 Q) : Met l yX2_bitsOf wsX2_bitsOf rX2_bitsOf (va_Pc [.ref (ad 1), .int a1, .int a2] (rp D cI cJ cZ (w2 ad cI S))) (vp_Sl Q) 0 0 (fun _ => False) :=
  enter_l (by decide +kernel) rfl (Nat.le_of_ble_eq_true rfl) (fun p e s m args below meth c QQ F hz hret => bX2_bitsOf F hz.1 hz.2 hret h)
abbrev rX2_meet : Room := { frames := 3, cells := 0, slots := 0, locals := 72 }
theorem kV_X2_meet : yX2_meet.cls = RX2 ∧ yX2_meet.cls ≠ "java/lang/invoke/MethodHandle" ∧ yX2_meet.cls ≠ "java/lang/invoke/VarHandle" ∧ (parseMethodDescriptor yX2_meet.desc).map (fun d => d.parameters.length) = some 2 := by decide +kernel
set_option maxRecDepth 100000 in
theorem bX2_meet {a1 : Int32} {a2 : Int32} {S : S2} {Q : Int32 → Prop} (F : CallFix p m c cX2_meet 3 s args wsX2_meet RX2) (hz : gz D cI cJ cZ s) (hP : va_P D vwCl (w2 ad cI S) s.heap) (hret : ∀ (v : Int32) (pc : Nat) (ls : Array Slot), narrow .boolean (.int v) = .int v → Q v → decode cX2_meet pc = .ok (.ireturn, 1) → W p l e rX2_meet s m args below meth c s.heap [] 0 0 QQ (F0 m pc ls [.int v])) (h : wX2_meet S a1 a2 Q) : ∀ ls : Array Slot, lv_has ls 3 [(0, .ref (ad 1)), (1, .int a1), (2, .int a2)] → W p l e rX2_meet s m args below meth c s.heap [] 0 0 QQ (F0 m 0 ls []) := by
  intro ls hl
  refine lv_aload_n F.1 F.2.1 dX2_meet_0 rfl (lv_at hl 0 rfl) ?_
  refine lv_iload_n F.1 F.2.1 dX2_meet_1 rfl (lv_at hl 1 rfl) ?_
  refine lv_iconst (v := (0 : Int32)) F.1 F.2.1 dX2_meet_2 (by decide) ?_
  refine vp_callSl (va_Run.run (va_runV (As := [.int a1, .int (0 : Int32)]) (rest := []) F (mX2_bitsOf (l := l) (D := D) (cI := cI) (cJ := cJ) (cZ := cZ) (ad := ad) h) (cwV 2 F.2.2.2.2 gX2_meet_X2_bitsOf rfl rfl rfl kV_X2_bitsOf ⟨Nat.le_of_ble_eq_true rfl, Nat.le_of_ble_eq_true rfl⟩) ⟨rp_blind, va_recv hz.1 hP (ci := 0) (q0 := 0) rfl rfl, rp_pre hz hP (.ref (ad 1) :: [.int a1, .int (0 : Int32)])⟩ rfl rfl hl.1 rfl (lv_room (Nat.le_of_ble_eq_true rfl)) dX2_meet_3 ⟨Nat.le_of_ble_eq_true rfl, Nat.le_of_ble_eq_true rfl⟩)) (fun r_1 h => ?_)
  refine lv_aload_n F.1 F.2.1 dX2_meet_6 rfl (lv_at hl 0 rfl) ?_
  refine lv_iload_n F.1 F.2.1 dX2_meet_7 rfl (lv_at hl 2 rfl) ?_
  refine lv_iconst (v := (0 : Int32)) F.1 F.2.1 dX2_meet_8 (by decide) ?_
  refine vp_callSl (va_Run.run (va_runV (As := [.int a2, .int (0 : Int32)]) (rest := [.long r_1]) F (mX2_bitsOf (l := l) (D := D) (cI := cI) (cJ := cJ) (cZ := cZ) (ad := ad) h) (cwV 2 F.2.2.2.2 gX2_meet_X2_bitsOf rfl rfl rfl kV_X2_bitsOf ⟨Nat.le_of_ble_eq_true rfl, Nat.le_of_ble_eq_true rfl⟩) ⟨rp_blind, va_recv hz.1 hP (ci := 0) (q0 := 0) rfl rfl, rp_pre hz hP (.ref (ad 1) :: [.int a2, .int (0 : Int32)])⟩ rfl rfl hl.1 rfl (lv_room (Nat.le_of_ble_eq_true rfl)) dX2_meet_9 ⟨Nat.le_of_ble_eq_true rfl, Nat.le_of_ble_eq_true rfl⟩)) (fun r_2 h => ?_)
  refine lv_land F.1 F.2.1 dX2_meet_12 ?_
  refine lv_lconst (v := (0 : Int64)) F.1 F.2.1 dX2_meet_13 (by decide) ?_
  refine W.lcmp F.1 F.2.1 dX2_meet_14 ?_
  refine lv_if_ne (tgt := 36) F.1 F.2.1 dX2_meet_15 (by decide) (fun hc => ?_) (fun hc => ?_)
  · have h := h.2 (fun z => hc ((lg_cmp_eq _ _).mpr z))
    refine lv_iconst (v := (1 : Int32)) F.1 F.2.1 dX2_meet_36 (by decide) ?_
    refine lv_goto (tgt := 41) F.1 F.2.1 dX2_meet_37 (by decide) ?_
    exact hret _ _ _ nr_1 h dX2_meet_41
  · have h := h.1 ((lg_cmp_eq _ _).mp hc)
    refine lv_aload_n F.1 F.2.1 dX2_meet_18 rfl (lv_at hl 0 rfl) ?_
    refine lv_iload_n F.1 F.2.1 dX2_meet_19 rfl (lv_at hl 1 rfl) ?_
    refine lv_iconst (v := (1 : Int32)) F.1 F.2.1 dX2_meet_20 (by decide) ?_
    refine vp_callSl (va_Run.run (va_runV (As := [.int a1, .int (1 : Int32)]) (rest := []) F (mX2_bitsOf (l := l) (D := D) (cI := cI) (cJ := cJ) (cZ := cZ) (ad := ad) h) (cwV 2 F.2.2.2.2 gX2_meet_X2_bitsOf rfl rfl rfl kV_X2_bitsOf ⟨Nat.le_of_ble_eq_true rfl, Nat.le_of_ble_eq_true rfl⟩) ⟨rp_blind, va_recv hz.1 hP (ci := 0) (q0 := 0) rfl rfl, rp_pre hz hP (.ref (ad 1) :: [.int a1, .int (1 : Int32)])⟩ rfl rfl hl.1 rfl (lv_room (Nat.le_of_ble_eq_true rfl)) dX2_meet_21 ⟨Nat.le_of_ble_eq_true rfl, Nat.le_of_ble_eq_true rfl⟩)) (fun r_3 h => ?_)
    refine lv_aload_n F.1 F.2.1 dX2_meet_24 rfl (lv_at hl 0 rfl) ?_
    refine lv_iload_n F.1 F.2.1 dX2_meet_25 rfl (lv_at hl 2 rfl) ?_
    refine lv_iconst (v := (1 : Int32)) F.1 F.2.1 dX2_meet_26 (by decide) ?_
    refine vp_callSl (va_Run.run (va_runV (As := [.int a2, .int (1 : Int32)]) (rest := [.long r_3]) F (mX2_bitsOf (l := l) (D := D) (cI := cI) (cJ := cJ) (cZ := cZ) (ad := ad) h) (cwV 2 F.2.2.2.2 gX2_meet_X2_bitsOf rfl rfl rfl kV_X2_bitsOf ⟨Nat.le_of_ble_eq_true rfl, Nat.le_of_ble_eq_true rfl⟩) ⟨rp_blind, va_recv hz.1 hP (ci := 0) (q0 := 0) rfl rfl, rp_pre hz hP (.ref (ad 1) :: [.int a2, .int (1 : Int32)])⟩ rfl rfl hl.1 rfl (lv_room (Nat.le_of_ble_eq_true rfl)) dX2_meet_27 ⟨Nat.le_of_ble_eq_true rfl, Nat.le_of_ble_eq_true rfl⟩)) (fun r_4 h => ?_)
    refine lv_land F.1 F.2.1 dX2_meet_30 ?_
    refine lv_lconst (v := (0 : Int64)) F.1 F.2.1 dX2_meet_31 (by decide) ?_
    refine W.lcmp F.1 F.2.1 dX2_meet_32 ?_
    refine lv_if_eq (tgt := 40) F.1 F.2.1 dX2_meet_33 (by decide) (fun hc => ?_) (fun hc => ?_)
    · have h := h.1 ((lg_cmp_eq _ _).mp hc)
      refine lv_iconst (v := (0 : Int32)) F.1 F.2.1 dX2_meet_40 (by decide) ?_
      exact hret _ _ _ nr_0 h dX2_meet_41
    · have h := h.2 (fun z => hc ((lg_cmp_eq _ _).mpr z))
      refine lv_iconst (v := (1 : Int32)) F.1 F.2.1 dX2_meet_36 (by decide) ?_
      refine lv_goto (tgt := 41) F.1 F.2.1 dX2_meet_37 (by decide) ?_
      exact hret _ _ _ nr_1 h dX2_meet_41
theorem mX2_meet {l : Launch} {D : va_G} {cI cJ cZ : ClassId} {ad : Nat → Nat} {S : S2} {a1 : Int32} {a2 : Int32} {Q : Int32 → Prop} (h : wX2_meet S a1 a2 Q) : Met l yX2_meet wsX2_meet rX2_meet (va_Pc [.ref (ad 1), .int a1, .int a2] (rp D cI cJ cZ (w2 ad cI S))) (vp_Si (qb Q)) 0 0 (fun _ => False) :=
  enter_z (by decide +kernel) rfl (Nat.le_of_ble_eq_true rfl) (fun p e s m args below meth c QQ F hz hret => bX2_meet F hz.1 hz.2 hret h)
abbrev rX2_valuesOf : Room := { frames := 1, cells := 0, slots := 0, locals := 22 }
theorem kV_X2_valuesOf : yX2_valuesOf.cls = RX2 ∧ yX2_valuesOf.cls ≠ "java/lang/invoke/MethodHandle" ∧ yX2_valuesOf.cls ≠ "java/lang/invoke/VarHandle" ∧ (parseMethodDescriptor yX2_valuesOf.desc).map (fun d => d.parameters.length) = some 3 := by decide +kernel
theorem vX2_valuesOf_X2 : ∀ w ∈ wsX20, w ∈ wsX2_valuesOf := fun _ h => List.mem_cons_of_mem _ (List.mem_append_right _ h)
theorem uX2_valuesOf_1 : Cond.fieldLink RX2 33 "SumMoved$Rows" "size" "I" ∈ wsX2_valuesOf := List.mem_of_getElem? (i := 1) rfl
theorem uX2_valuesOf_2 : Cond.fieldLink RX2 30 "SumMoved$Rows" "struck" "[I" ∈ wsX2_valuesOf := List.mem_of_getElem? (i := 2) rfl
theorem uX2_valuesOf_3 : Cond.fieldLink RX2 24 "SumMoved$Rows" "members" "[I" ∈ wsX2_valuesOf := List.mem_of_getElem? (i := 3) rfl
theorem uX2_valuesOf_4 : Cond.fieldLink RX2 9 "SumMoved$Rows" "month" "[I" ∈ wsX2_valuesOf := List.mem_of_getElem? (i := 4) rfl
set_option maxRecDepth 100000 in
theorem kX2_valuesOf_6 {p1 : Int32} {p2 : Int32} {p3 : Int32} {S : S2} (F : CallFix p m c cX2_valuesOf 6 s args wsX2_valuesOf RX2) (hz : gz D cI cJ cZ s) (hP : va_P D vwCl (w2 ad cI S) s.heap) {K : Int32 × Int32 → Prop} (hK : ∀ x : Int32 × Int32, K x → match x with | (x4, x5) => ∀ ls : Array Slot, lv_has ls 6 [(0, .ref (ad 1)), (1, .int p1), (2, .int p2), (3, .int p3), (4, .int x4), (5, .int x5)] → W p l e rX2_valuesOf s m args below meth c s.heap [] 0 0 QQ (F0 m 67 ls [])) : ∀ (nn : Nat) (x : Int32 × Int32), iter (sX2_valuesOf_6 S p1 p2 p3 K) nn x → match x with | (x4, x5) => ∀ ls : Array Slot, lv_has ls 6 [(0, .ref (ad 1)), (1, .int p1), (2, .int p2), (3, .int p3), (4, .int x4), (5, .int x5)] → W p l e rX2_valuesOf s m args below meth c s.heap [] 0 0 QQ (F0 m 6 ls []) := by
  refine iter_walk ?_
  rintro again6 ⟨x4, x5⟩ ih6 h ls hl
  have hK6 := hK
  refine lv_iload F.1 F.2.1 dX2_valuesOf_6 (lv_at hl 5 rfl) ?_
  refine lv_aload_n F.1 F.2.1 dX2_valuesOf_8 rfl (lv_at hl 0 rfl) ?_
  refine va_get (D := D) (ci := 0) (v := .int S.2.2.2.2.2.2.2) (C := RX2) (T := TX2) (N := 8) F.1 F.2.1 F.2.2.2.2 vX2_valuesOf_X2 F.2.2.2.1 hz.1 hP 0 rfl rfl 7 (by decide) (F.2.2.2.2 _ uX2_valuesOf_1) (fun _ h9 => h9) rfl dX2_valuesOf_9 ?_
  refine lv_icmp_ge (tgt := 67) F.1 F.2.1 dX2_valuesOf_12 (by decide) (fun hc => ?_) (fun hc => ?_)
  · have h := h.1 (hc)
    exact hK6 (x4, x5) h ls (lv_sub hl [0, 1, 2, 3, 4, 5] rfl)
  · have h := h.2 hc
    refine lv_aload_n F.1 F.2.1 dX2_valuesOf_15 rfl (lv_at hl 0 rfl) ?_
    refine va_get (D := D) (ci := 0) (v := .ref (ad 8)) (C := RX2) (T := TX2) (N := 8) F.1 F.2.1 F.2.2.2.2 vX2_valuesOf_X2 F.2.2.2.1 hz.1 hP 0 rfl rfl 6 (by decide) (F.2.2.2.2 _ uX2_valuesOf_2) (fun _ h9 => h9) rfl dX2_valuesOf_16 ?_
    refine lv_iload F.1 F.2.1 dX2_valuesOf_19 (lv_at hl 5 rfl) ?_
    refine va_iald F.1 F.2.1 hz.1 hP 7 0 rfl rfl h.1 dX2_valuesOf_21 ?_
    have h := h.2
    refine lv_if_ne (tgt := 61) F.1 F.2.1 dX2_valuesOf_22 (by decide) (fun hc => ?_) (fun hc => ?_)
    · have h := h.2 hc
      refine lv_iinc (v := x5 + 1) (lv' := [(5, .int (x5 + 1)), (0, .ref (ad 1)), (1, .int p1), (2, .int p2), (3, .int p3), (4, .int x4)]) F.1 F.2.1 dX2_valuesOf_61 hl (k := 5) rfl rfl (by decide) rfl (fun ls hl => ?_)
      refine lv_goto (tgt := 6) F.1 F.2.1 dX2_valuesOf_64 (by decide) ?_
      exact ih6 (x4, x5 + 1) h ls (lv_sub hl [1, 2, 3, 4, 5, 0] rfl)
    · have h := h.1 (hc)
      refine lv_aload_n F.1 F.2.1 dX2_valuesOf_25 rfl (lv_at hl 0 rfl) ?_
      refine va_get (D := D) (ci := 0) (v := .ref (ad 6)) (C := RX2) (T := TX2) (N := 8) F.1 F.2.1 F.2.2.2.2 vX2_valuesOf_X2 F.2.2.2.1 hz.1 hP 0 rfl rfl 4 (by decide) (F.2.2.2.2 _ uX2_valuesOf_3) (fun _ h9 => h9) rfl dX2_valuesOf_26 ?_
      refine lv_iload F.1 F.2.1 dX2_valuesOf_29 (lv_at hl 5 rfl) ?_
      refine va_iald F.1 F.2.1 hz.1 hP 5 0 rfl rfl h.1 dX2_valuesOf_31 ?_
      have h := h.2
      refine lv_iload_n F.1 F.2.1 dX2_valuesOf_32 rfl (lv_at hl 2 rfl) ?_
      refine lv_icmp_ne (tgt := 61) F.1 F.2.1 dX2_valuesOf_33 (by decide) (fun hc => ?_) (fun hc => ?_)
      · have h := h.2 hc
        refine lv_iinc (v := x5 + 1) (lv' := [(5, .int (x5 + 1)), (0, .ref (ad 1)), (1, .int p1), (2, .int p2), (3, .int p3), (4, .int x4)]) F.1 F.2.1 dX2_valuesOf_61 hl (k := 5) rfl rfl (by decide) rfl (fun ls hl => ?_)
        refine lv_goto (tgt := 6) F.1 F.2.1 dX2_valuesOf_64 (by decide) ?_
        exact ih6 (x4, x5 + 1) h ls (lv_sub hl [1, 2, 3, 4, 5, 0] rfl)
      · have h := h.1 (hc)
        refine lv_aload_n F.1 F.2.1 dX2_valuesOf_36 rfl (lv_at hl 0 rfl) ?_
        refine va_get (D := D) (ci := 0) (v := .ref (ad 2)) (C := RX2) (T := TX2) (N := 8) F.1 F.2.1 F.2.2.2.2 vX2_valuesOf_X2 F.2.2.2.1 hz.1 hP 0 rfl rfl 0 (by decide) (F.2.2.2.2 _ uX2_valuesOf_4) (fun _ h9 => h9) rfl dX2_valuesOf_37 ?_
        refine lv_iload F.1 F.2.1 dX2_valuesOf_40 (lv_at hl 5 rfl) ?_
        refine va_iald F.1 F.2.1 hz.1 hP 1 0 rfl rfl h.1 dX2_valuesOf_42 ?_
        have h := h.2
        refine lv_iload_n F.1 F.2.1 dX2_valuesOf_43 rfl (lv_at hl 3 rfl) ?_
        refine lv_icmp_ne (tgt := 61) F.1 F.2.1 dX2_valuesOf_44 (by decide) (fun hc => ?_) (fun hc => ?_)
        · have h := h.2 hc
          refine lv_iinc (v := x5 + 1) (lv' := [(5, .int (x5 + 1)), (0, .ref (ad 1)), (1, .int p1), (2, .int p2), (3, .int p3), (4, .int x4)]) F.1 F.2.1 dX2_valuesOf_61 hl (k := 5) rfl rfl (by decide) rfl (fun ls hl => ?_)
          refine lv_goto (tgt := 6) F.1 F.2.1 dX2_valuesOf_64 (by decide) ?_
          exact ih6 (x4, x5 + 1) h ls (lv_sub hl [1, 2, 3, 4, 5, 0] rfl)
        · have h := h.1 (hc)
          refine lv_iload F.1 F.2.1 dX2_valuesOf_47 (lv_at hl 4 rfl) ?_
          refine lv_iconst (v := (1 : Int32)) F.1 F.2.1 dX2_valuesOf_49 (by decide) ?_
          refine lv_aload_n F.1 F.2.1 dX2_valuesOf_50 rfl (lv_at hl 0 rfl) ?_
          refine lv_iload F.1 F.2.1 dX2_valuesOf_51 (lv_at hl 5 rfl) ?_
          refine lv_iload_n F.1 F.2.1 dX2_valuesOf_53 rfl (lv_at hl 1 rfl) ?_
          refine vp_callSi (va_Run.run (va_runV (As := [.int x5, .int p1]) (rest := [.int (1 : Int32), .int x4]) F (mX2_valueOf (l := l) (D := D) (cI := cI) (cJ := cJ) (cZ := cZ) (ad := ad) h) (cwV 2 F.2.2.2.2 gX2_valuesOf_X2_valueOf rfl rfl rfl kV_X2_valueOf ⟨Nat.le_of_ble_eq_true rfl, Nat.le_of_ble_eq_true rfl⟩) ⟨rp_blind, va_recv hz.1 hP (ci := 0) (q0 := 0) rfl rfl, rp_pre hz hP (.ref (ad 1) :: [.int x5, .int p1])⟩ rfl rfl hl.1 rfl (lv_room (Nat.le_of_ble_eq_true rfl)) dX2_valuesOf_54 ⟨Nat.le_of_ble_eq_true rfl, Nat.le_of_ble_eq_true rfl⟩)) (fun r_1 h => ?_)
          refine lv_ishl F.1 F.2.1 dX2_valuesOf_57 ?_
          refine lv_ior F.1 F.2.1 dX2_valuesOf_58 ?_
          refine lv_topi (fun y_2 ey_2 => ?_)
          have h := h y_2 ey_2
          refine lv_istore (lv' := [(4, .int y_2), (0, .ref (ad 1)), (1, .int p1), (2, .int p2), (3, .int p3), (5, .int x5)]) F.1 F.2.1 dX2_valuesOf_59 hl (by decide) rfl (fun ls hl => ?_)
          refine lv_iinc (v := x5 + 1) (lv' := [(5, .int (x5 + 1)), (4, .int y_2), (0, .ref (ad 1)), (1, .int p1), (2, .int p2), (3, .int p3)]) F.1 F.2.1 dX2_valuesOf_61 hl (k := 5) rfl rfl (by decide) rfl (fun ls hl => ?_)
          refine lv_goto (tgt := 6) F.1 F.2.1 dX2_valuesOf_64 (by decide) ?_
          exact ih6 (y_2, x5 + 1) h ls (lv_sub hl [2, 3, 4, 5, 1, 0] rfl)
set_option maxRecDepth 100000 in
theorem bX2_valuesOf {a1 : Int32} {a2 : Int32} {a3 : Int32} {S : S2} {Q : Int32 → Prop} (F : CallFix p m c cX2_valuesOf 6 s args wsX2_valuesOf RX2) (hz : gz D cI cJ cZ s) (hP : va_P D vwCl (w2 ad cI S) s.heap) (hret : ∀ (v : Int32) (pc : Nat) (ls : Array Slot), Q v → decode cX2_valuesOf pc = .ok (.ireturn, 1) → W p l e rX2_valuesOf s m args below meth c s.heap [] 0 0 QQ (F0 m pc ls [.int v])) (h : wX2_valuesOf S a1 a2 a3 Q) : ∀ ls : Array Slot, lv_has ls 6 [(0, .ref (ad 1)), (1, .int a1), (2, .int a2), (3, .int a3)] → W p l e rX2_valuesOf s m args below meth c s.heap [] 0 0 QQ (F0 m 0 ls []) := by
  intro ls hl
  refine lv_iconst (v := (0 : Int32)) F.1 F.2.1 dX2_valuesOf_0 (by decide) ?_
  refine lv_istore (lv' := [(4, .int (0 : Int32)), (0, .ref (ad 1)), (1, .int a1), (2, .int a2), (3, .int a3)]) F.1 F.2.1 dX2_valuesOf_1 hl (by decide) rfl (fun ls hl => ?_)
  refine lv_iconst (v := (0 : Int32)) F.1 F.2.1 dX2_valuesOf_3 (by decide) ?_
  refine lv_istore (lv' := [(5, .int (0 : Int32)), (4, .int (0 : Int32)), (0, .ref (ad 1)), (1, .int a1), (2, .int a2), (3, .int a3)]) F.1 F.2.1 dX2_valuesOf_4 hl (by decide) rfl (fun ls hl => ?_)
  obtain ⟨nn, h⟩ := h
  refine kX2_valuesOf_6 F hz hP (fun ⟨x4, x5⟩ h ls hl => ?_) nn _ h ls (lv_sub hl [2, 3, 4, 5, 1, 0] rfl)
  refine lv_iload F.1 F.2.1 dX2_valuesOf_67 (lv_at hl 4 rfl) ?_
  exact hret _ _ _ h dX2_valuesOf_69
theorem mX2_valuesOf {l : Launch} {D : va_G} {cI cJ cZ : ClassId} {ad : Nat → Nat} {S : S2} {a1 : Int32} {a2 : Int32} {a3 : Int32} {Q : Int32 → Prop} (h : wX2_valuesOf S a1 a2 a3 Q) : Met l yX2_valuesOf wsX2_valuesOf rX2_valuesOf (va_Pc [.ref (ad 1), .int a1, .int a2, .int a3] (rp D cI cJ cZ (w2 ad cI S))) (vp_Si Q) 0 0 (fun _ => False) :=
  enter_i (by decide +kernel) rfl (Nat.le_of_ble_eq_true rfl) (fun p e s m args below meth c QQ F hz hret => bX2_valuesOf F hz.1 hz.2 hret h)
abbrev rX2_wayOf : Room := { frames := 2, cells := 0, slots := 0, locals := 47 }
theorem kV_X2_wayOf : yX2_wayOf.cls = RX2 ∧ yX2_wayOf.cls ≠ "java/lang/invoke/MethodHandle" ∧ yX2_wayOf.cls ≠ "java/lang/invoke/VarHandle" ∧ (parseMethodDescriptor yX2_wayOf.desc).map (fun d => d.parameters.length) = some 2 := by decide +kernel
set_option maxRecDepth 100000 in
theorem bX2_wayOf {a1 : Int32} {a2 : Int32} {S : S2} {Q : Int32 → Prop} (F : CallFix p m c cX2_wayOf 5 s args wsX2_wayOf RX2) (hz : gz D cI cJ cZ s) (hP : va_P D vwCl (w2 ad cI S) s.heap) (hret : ∀ (v : Int32) (pc : Nat) (ls : Array Slot), Q v → decode cX2_wayOf pc = .ok (.ireturn, 1) → W p l e rX2_wayOf s m args below meth c s.heap [] 0 0 QQ (F0 m pc ls [.int v])) (h : wX2_wayOf S a1 a2 Q) : ∀ ls : Array Slot, lv_has ls 5 [(0, .ref (ad 1)), (1, .int a1), (2, .int a2)] → W p l e rX2_wayOf s m args below meth c s.heap [] 0 0 QQ (F0 m 0 ls []) := by
  intro ls hl
  refine lv_aload_n F.1 F.2.1 dX2_wayOf_0 rfl (lv_at hl 0 rfl) ?_
  refine lv_iload_n F.1 F.2.1 dX2_wayOf_1 rfl (lv_at hl 1 rfl) ?_
  refine lv_iload_n F.1 F.2.1 dX2_wayOf_2 rfl (lv_at hl 2 rfl) ?_
  refine lv_iconst (v := (0 : Int32)) F.1 F.2.1 dX2_wayOf_3 (by decide) ?_
  refine vp_callSi (va_Run.run (va_runV (As := [.int a1, .int a2, .int (0 : Int32)]) (rest := []) F (mX2_valuesOf (l := l) (D := D) (cI := cI) (cJ := cJ) (cZ := cZ) (ad := ad) h) (cwV 3 F.2.2.2.2 gX2_wayOf_X2_valuesOf rfl rfl rfl kV_X2_valuesOf ⟨Nat.le_of_ble_eq_true rfl, Nat.le_of_ble_eq_true rfl⟩) ⟨rp_blind, va_recv hz.1 hP (ci := 0) (q0 := 0) rfl rfl, rp_pre hz hP (.ref (ad 1) :: [.int a1, .int a2, .int (0 : Int32)])⟩ rfl rfl hl.1 rfl (lv_room (Nat.le_of_ble_eq_true rfl)) dX2_wayOf_4 ⟨Nat.le_of_ble_eq_true rfl, Nat.le_of_ble_eq_true rfl⟩)) (fun r_1 h => ?_)
  refine lv_istore_n (lv' := [(3, .int r_1), (0, .ref (ad 1)), (1, .int a1), (2, .int a2)]) F.1 F.2.1 dX2_wayOf_7 rfl hl (by decide) rfl (fun ls hl => ?_)
  refine lv_aload_n F.1 F.2.1 dX2_wayOf_8 rfl (lv_at hl 1 rfl) ?_
  refine lv_iload_n F.1 F.2.1 dX2_wayOf_9 rfl (lv_at hl 2 rfl) ?_
  refine lv_iload_n F.1 F.2.1 dX2_wayOf_10 rfl (lv_at hl 3 rfl) ?_
  refine lv_iconst (v := (1 : Int32)) F.1 F.2.1 dX2_wayOf_11 (by decide) ?_
  refine vp_callSi (va_Run.run (va_runV (As := [.int a1, .int a2, .int (1 : Int32)]) (rest := []) F (mX2_valuesOf (l := l) (D := D) (cI := cI) (cJ := cJ) (cZ := cZ) (ad := ad) h) (cwV 3 F.2.2.2.2 gX2_wayOf_X2_valuesOf rfl rfl rfl kV_X2_valuesOf ⟨Nat.le_of_ble_eq_true rfl, Nat.le_of_ble_eq_true rfl⟩) ⟨rp_blind, va_recv hz.1 hP (ci := 0) (q0 := 0) rfl rfl, rp_pre hz hP (.ref (ad 1) :: [.int a1, .int a2, .int (1 : Int32)])⟩ rfl rfl hl.1 rfl (lv_room (Nat.le_of_ble_eq_true rfl)) dX2_wayOf_12 ⟨Nat.le_of_ble_eq_true rfl, Nat.le_of_ble_eq_true rfl⟩)) (fun r_2 h => ?_)
  refine lv_istore (lv' := [(4, .int r_2), (3, .int r_1), (0, .ref (ad 1)), (1, .int a1), (2, .int a2)]) F.1 F.2.1 dX2_wayOf_15 hl (by decide) rfl (fun ls hl => ?_)
  refine lv_iload_n F.1 F.2.1 dX2_wayOf_17 rfl (lv_at hl 1 rfl) ?_
  refine lv_if_ne (tgt := 32) F.1 F.2.1 dX2_wayOf_18 (by decide) (fun hc => ?_) (fun hc => ?_)
  · have h := h.2 hc
    refine lv_iload F.1 F.2.1 dX2_wayOf_32 (lv_at hl 0 rfl) ?_
    refine lv_if_ne (tgt := 39) F.1 F.2.1 dX2_wayOf_34 (by decide) (fun hc => ?_) (fun hc => ?_)
    · have h := h.2 hc
      refine lv_iload_n F.1 F.2.1 dX2_wayOf_39 rfl (lv_at hl 1 rfl) ?_
      refine lv_iload F.1 F.2.1 dX2_wayOf_40 (lv_at hl 0 rfl) ?_
      refine lv_icmp_ne (tgt := 49) F.1 F.2.1 dX2_wayOf_42 (by decide) (fun hc => ?_) (fun hc => ?_)
      · have h := h.2 hc
        refine lv_iconst (v := (3 : Int32)) F.1 F.2.1 dX2_wayOf_49 (by decide) ?_
        exact hret _ _ _ h dX2_wayOf_50
      · have h := h.1 (hc)
        refine lv_iconst (v := (2 : Int32)) F.1 F.2.1 dX2_wayOf_45 (by decide) ?_
        refine lv_goto (tgt := 50) F.1 F.2.1 dX2_wayOf_46 (by decide) ?_
        exact hret _ _ _ h dX2_wayOf_50
    · have h := h.1 (hc)
      refine lv_iconst (v := (1 : Int32)) F.1 F.2.1 dX2_wayOf_37 (by decide) ?_
      exact hret _ _ _ h dX2_wayOf_38
  · have h := h.1 (hc)
    refine lv_iload F.1 F.2.1 dX2_wayOf_21 (lv_at hl 0 rfl) ?_
    refine lv_if_ne (tgt := 30) F.1 F.2.1 dX2_wayOf_23 (by decide) (fun hc => ?_) (fun hc => ?_)
    · have h := h.2 hc
      refine lv_iconst (v := (0 : Int32)) F.1 F.2.1 dX2_wayOf_30 (by decide) ?_
      exact hret _ _ _ h dX2_wayOf_31
    · have h := h.1 (hc)
      refine lv_iconst (v := (4 : Int32)) F.1 F.2.1 dX2_wayOf_26 (by decide) ?_
      refine lv_goto (tgt := 31) F.1 F.2.1 dX2_wayOf_27 (by decide) ?_
      exact hret _ _ _ h dX2_wayOf_31
theorem mX2_wayOf {l : Launch} {D : va_G} {cI cJ cZ : ClassId} {ad : Nat → Nat} {S : S2} {a1 : Int32} {a2 : Int32} {Q : Int32 → Prop} (h : wX2_wayOf S a1 a2 Q) : Met l yX2_wayOf wsX2_wayOf rX2_wayOf (va_Pc [.ref (ad 1), .int a1, .int a2] (rp D cI cJ cZ (w2 ad cI S))) (vp_Si Q) 0 0 (fun _ => False) :=
  enter_i (by decide +kernel) rfl (Nat.le_of_ble_eq_true rfl) (fun p e s m args below meth c QQ F hz hret => bX2_wayOf F hz.1 hz.2 hret h)
abbrev rX2_inUnits : Room := { frames := 4, cells := 0, slots := 0, locals := 94 }
theorem kV_X2_inUnits : yX2_inUnits.cls = RX2 ∧ yX2_inUnits.cls ≠ "java/lang/invoke/MethodHandle" ∧ yX2_inUnits.cls ≠ "java/lang/invoke/VarHandle" ∧ (parseMethodDescriptor yX2_inUnits.desc).map (fun d => d.parameters.length) = some 4 := by decide +kernel
theorem uX2_inUnits_1 : Cond.constant RX2 84 (-1000000) ∈ wsX2_inUnits := List.mem_of_getElem? (i := 1) rfl
set_option maxRecDepth 100000 in
theorem kX2_inUnits_63 {p1 : Int32} {p2 : Int32} {p3 : Int32} {p4 : Int32} {p6 : Int32} {p7 : Int32} {S : S2} (F : CallFix p m c cX2_inUnits 13 s args wsX2_inUnits RX2) (hz : gz D cI cJ cZ s) (hP : va_P D vwCl (w2 ad cI S) s.heap) (ht : gt s s.heap) {K : Int32 × Int32 × Int32 → Prop} (hK : ∀ x : Int32 × Int32 × Int32, K x → match x with | (x8, x9, x10) => ∀ ls : Array Slot, lv_has ls 13 [(0, .ref (ad 1)), (1, .int p1), (2, .int p2), (3, .int p3), (4, .int p4), (6, .int p6), (7, .int p7), (8, .int x8), (9, .int x9), (10, .int x10)] → W p l e rX2_inUnits s m args below meth c s.heap [] 0 0 QQ (F0 m 134 ls [])) : ∀ (nn : Nat) (x : Int32 × Int32 × Int32), iter (sX2_inUnits_63 S p1 p2 p3 p4 p6 p7 K) nn x → match x with | (x8, x9, x10) => ∀ ls : Array Slot, lv_has ls 13 [(0, .ref (ad 1)), (1, .int p1), (2, .int p2), (3, .int p3), (4, .int p4), (6, .int p6), (7, .int p7), (8, .int x8), (9, .int x9), (10, .int x10)] → W p l e rX2_inUnits s m args below meth c s.heap [] 0 0 QQ (F0 m 63 ls []) := by
  refine iter_walk ?_
  rintro again63 ⟨x8, x9, x10⟩ ih63 h ls hl
  have hK63 := hK
  have ht0 := ht
  obtain ⟨t1, t2, hZ1, hT1, hZ2, hT2⟩ := ht0
  refine lv_iload F.1 F.2.1 dX2_inUnits_63 (lv_at hl 9 rfl) ?_
  refine lv_bipush (v := (8 : Int32)) F.1 F.2.1 dX2_inUnits_65 (by decide) ?_
  refine lv_icmp_ge (tgt := 134) F.1 F.2.1 dX2_inUnits_67 (by decide) (fun hc => ?_) (fun hc => ?_)
  · have h := h.1 (hc)
    exact hK63 (x8, x9, x10) h ls (lv_sub hl [0, 1, 2, 3, 4, 5, 6, 7, 8, 9] rfl)
  · have h := h.2 hc
    refine lv_aload_n F.1 F.2.1 dX2_inUnits_70 rfl (lv_at hl 0 rfl) ?_
    refine lv_iload_n F.1 F.2.1 dX2_inUnits_71 rfl (lv_at hl 1 rfl) ?_
    refine lv_iload_n F.1 F.2.1 dX2_inUnits_72 rfl (lv_at hl 2 rfl) ?_
    refine lv_iload F.1 F.2.1 dX2_inUnits_73 (lv_at hl 9 rfl) ?_
    refine vp_callSi (va_Run.run (va_runS (As := [.int p1, .int p2, .int x10]) (rest := [.ref (ad 1)]) F (mX1_withTest (l := l) (D := D) (cI := cI) (cJ := cJ) (cZ := cZ) h) (va_cwS 3 F.2.2.2.2 gX2_inUnits_X1_withTest rfl rfl rfl kS_X1_withTest ⟨Nat.le_of_ble_eq_true rfl, Nat.le_of_ble_eq_true rfl⟩) ⟨rpt_blind, rpt_pre hz (hP.sub (ws' := []) [] rfl) ht [.int p1, .int p2, .int x10]⟩ rfl rfl hl.1 rfl (lv_room (Nat.le_of_ble_eq_true rfl)) dX2_inUnits_75 ⟨Nat.le_of_ble_eq_true rfl, Nat.le_of_ble_eq_true rfl⟩)) (fun r_6 h => ?_)
    refine lv_iconst (v := (0 : Int32)) F.1 F.2.1 dX2_inUnits_78 (by decide) ?_
    refine vp_callSi (va_Run.run (va_runV (As := [.int r_6, .int (0 : Int32)]) (rest := []) F (mX2_moved (l := l) (D := D) (cI := cI) (cJ := cJ) (cZ := cZ) (ad := ad) h) (cwV 2 F.2.2.2.2 gX2_inUnits_X2_moved rfl rfl rfl kV_X2_moved ⟨Nat.le_of_ble_eq_true rfl, Nat.le_of_ble_eq_true rfl⟩) ⟨rp_blind, va_recv hz.1 hP (ci := 0) (q0 := 0) rfl rfl, rp_pre hz hP (.ref (ad 1) :: [.int r_6, .int (0 : Int32)])⟩ rfl rfl hl.1 rfl (lv_room (Nat.le_of_ble_eq_true rfl)) dX2_inUnits_79 ⟨Nat.le_of_ble_eq_true rfl, Nat.le_of_ble_eq_true rfl⟩)) (fun r_7 h => ?_)
    refine lv_istore (lv' := [(11, .int r_7), (0, .ref (ad 1)), (1, .int p1), (2, .int p2), (3, .int p3), (4, .int p4), (6, .int p6), (7, .int p7), (8, .int x8), (9, .int x9), (10, .int x10)]) F.1 F.2.1 dX2_inUnits_82 hl (by decide) rfl (fun ls hl => ?_)
    refine lv_iload F.1 F.2.1 dX2_inUnits_84 (lv_at hl 0 rfl) ?_
    refine lv_iload F.1 F.2.1 dX2_inUnits_86 (lv_at hl 5 rfl) ?_
    refine vp_callSi (va_Run.run (va_runS (As := [.int r_7, .int p4]) (rest := []) F (mJ9_floorMod_7cf53 (l := l) (D := D) (cI := cI) (cJ := cJ) (cZ := cZ) h) (va_cwS 2 F.2.2.2.2 gX2_inUnits_J9_floorMod_7cf53 rfl rfl rfl kS_J9_floorMod_7cf53 ⟨Nat.le_of_ble_eq_true rfl, Nat.le_of_ble_eq_true rfl⟩) ⟨rp_blind, rp_pre hz (hP.sub (ws' := []) [] rfl) [.int r_7, .int p4]⟩ rfl rfl hl.1 rfl (lv_room (Nat.le_of_ble_eq_true rfl)) dX2_inUnits_88 ⟨Nat.le_of_ble_eq_true rfl, Nat.le_of_ble_eq_true rfl⟩)) (fun r_8 h => ?_)
    refine lv_istore (lv' := [(12, .int r_8), (11, .int r_7), (0, .ref (ad 1)), (1, .int p1), (2, .int p2), (3, .int p3), (4, .int p4), (6, .int p6), (7, .int p7), (8, .int x8), (9, .int x9), (10, .int x10)]) F.1 F.2.1 dX2_inUnits_91 hl (by decide) rfl (fun ls hl => ?_)
    refine lv_iload F.1 F.2.1 dX2_inUnits_93 (lv_at hl 9 rfl) ?_
    refine lv_iload F.1 F.2.1 dX2_inUnits_95 (lv_at hl 1 rfl) ?_
    refine lv_iload F.1 F.2.1 dX2_inUnits_97 (lv_at hl 6 rfl) ?_
    refine vp_callSi (va_Run.run (va_runS (As := [.int r_7, .int p4]) (rest := [.int x8]) F (mJ9_floorDiv_7cf53 (l := l) (D := D) (cI := cI) (cJ := cJ) (cZ := cZ) h) (va_cwS 2 F.2.2.2.2 gX2_inUnits_J9_floorDiv_7cf53 rfl rfl rfl kS_J9_floorDiv_7cf53 ⟨Nat.le_of_ble_eq_true rfl, Nat.le_of_ble_eq_true rfl⟩) ⟨rp_blind, rp_pre hz (hP.sub (ws' := []) [] rfl) [.int r_7, .int p4]⟩ rfl rfl hl.1 rfl (lv_room (Nat.le_of_ble_eq_true rfl)) dX2_inUnits_99 ⟨Nat.le_of_ble_eq_true rfl, Nat.le_of_ble_eq_true rfl⟩)) (fun r_9 h => ?_)
    refine lv_isub F.1 F.2.1 dX2_inUnits_102 ?_
    refine lv_istore (lv' := [(8, .int (x8 - r_9)), (12, .int r_8), (11, .int r_7), (0, .ref (ad 1)), (1, .int p1), (2, .int p2), (3, .int p3), (4, .int p4), (6, .int p6), (7, .int p7), (9, .int x9), (10, .int x10)]) F.1 F.2.1 dX2_inUnits_103 hl (by decide) rfl (fun ls hl => ?_)
    refine lv_iload F.1 F.2.1 dX2_inUnits_105 (lv_at hl 1 rfl) ?_
    refine lv_iload F.1 F.2.1 dX2_inUnits_107 (lv_at hl 9 rfl) ?_
    refine lv_icmp_gt (tgt := 125) F.1 F.2.1 dX2_inUnits_109 (by decide) (fun hc => ?_) (fun hc => ?_)
    · have h := h.1 (hc)
      refine lv_iinc (v := x9 + 1) (lv' := [(9, .int (x9 + 1)), (8, .int (x8 - r_9)), (12, .int r_8), (11, .int r_7), (0, .ref (ad 1)), (1, .int p1), (2, .int p2), (3, .int p3), (4, .int p4), (6, .int p6), (7, .int p7), (10, .int x10)]) F.1 F.2.1 dX2_inUnits_125 hl (k := 10) rfl rfl (by decide) rfl (fun ls hl => ?_)
      refine lv_iinc (v := x10 + 1) (lv' := [(10, .int (x10 + 1)), (9, .int (x9 + 1)), (8, .int (x8 - r_9)), (12, .int r_8), (11, .int r_7), (0, .ref (ad 1)), (1, .int p1), (2, .int p2), (3, .int p3), (4, .int p4), (6, .int p6), (7, .int p7)]) F.1 F.2.1 dX2_inUnits_128 hl (k := 11) rfl rfl (by decide) rfl (fun ls hl => ?_)
      refine lv_goto (tgt := 63) F.1 F.2.1 dX2_inUnits_131 (by decide) ?_
      exact ih63 (x8 - r_9, x9 + 1, x10 + 1) h ls (lv_sub hl [5, 6, 7, 8, 9, 10, 11, 2, 1, 0] rfl)
    · have h := h.2 hc
      refine lv_iload F.1 F.2.1 dX2_inUnits_112 (lv_at hl 1 rfl) ?_
      refine lv_iload F.1 F.2.1 dX2_inUnits_114 (lv_at hl 9 rfl) ?_
      refine lv_icmp_ne (tgt := 128) F.1 F.2.1 dX2_inUnits_116 (by decide) (fun hc => ?_) (fun hc => ?_)
      · have h := h.2 hc
        refine lv_iinc (v := x10 + 1) (lv' := [(10, .int (x10 + 1)), (8, .int (x8 - r_9)), (12, .int r_8), (11, .int r_7), (0, .ref (ad 1)), (1, .int p1), (2, .int p2), (3, .int p3), (4, .int p4), (6, .int p6), (7, .int p7), (9, .int x9)]) F.1 F.2.1 dX2_inUnits_128 hl (k := 11) rfl rfl (by decide) rfl (fun ls hl => ?_)
        refine lv_goto (tgt := 63) F.1 F.2.1 dX2_inUnits_131 (by decide) ?_
        exact ih63 (x8 - r_9, x9, x10 + 1) h ls (lv_sub hl [4, 5, 6, 7, 8, 9, 10, 1, 11, 0] rfl)
      · have h := h.1 (hc)
        refine lv_iload F.1 F.2.1 dX2_inUnits_119 (lv_at hl 11 rfl) ?_
        refine lv_iload_n F.1 F.2.1 dX2_inUnits_121 rfl (lv_at hl 6 rfl) ?_
        refine lv_icmp_ge (tgt := 128) F.1 F.2.1 dX2_inUnits_122 (by decide) (fun hc => ?_) (fun hc => ?_)
        · have h := h.1 (hc)
          refine lv_iinc (v := x10 + 1) (lv' := [(10, .int (x10 + 1)), (8, .int (x8 - r_9)), (12, .int r_8), (11, .int r_7), (0, .ref (ad 1)), (1, .int p1), (2, .int p2), (3, .int p3), (4, .int p4), (6, .int p6), (7, .int p7), (9, .int x9)]) F.1 F.2.1 dX2_inUnits_128 hl (k := 11) rfl rfl (by decide) rfl (fun ls hl => ?_)
          refine lv_goto (tgt := 63) F.1 F.2.1 dX2_inUnits_131 (by decide) ?_
          exact ih63 (x8 - r_9, x9, x10 + 1) h ls (lv_sub hl [4, 5, 6, 7, 8, 9, 10, 1, 11, 0] rfl)
        · have h := h.2 hc
          refine lv_iinc (v := x9 + 1) (lv' := [(9, .int (x9 + 1)), (8, .int (x8 - r_9)), (12, .int r_8), (11, .int r_7), (0, .ref (ad 1)), (1, .int p1), (2, .int p2), (3, .int p3), (4, .int p4), (6, .int p6), (7, .int p7), (10, .int x10)]) F.1 F.2.1 dX2_inUnits_125 hl (k := 10) rfl rfl (by decide) rfl (fun ls hl => ?_)
          refine lv_iinc (v := x10 + 1) (lv' := [(10, .int (x10 + 1)), (9, .int (x9 + 1)), (8, .int (x8 - r_9)), (12, .int r_8), (11, .int r_7), (0, .ref (ad 1)), (1, .int p1), (2, .int p2), (3, .int p3), (4, .int p4), (6, .int p6), (7, .int p7)]) F.1 F.2.1 dX2_inUnits_128 hl (k := 11) rfl rfl (by decide) rfl (fun ls hl => ?_)
          refine lv_goto (tgt := 63) F.1 F.2.1 dX2_inUnits_131 (by decide) ?_
          exact ih63 (x8 - r_9, x9 + 1, x10 + 1) h ls (lv_sub hl [5, 6, 7, 8, 9, 10, 11, 2, 1, 0] rfl)
set_option maxRecDepth 100000 in
theorem bX2_inUnits {a1 : Int32} {a2 : Int32} {a3 : Int32} {a4 : Int32} {S : S2} {Q : Int32 → Prop} (F : CallFix p m c cX2_inUnits 13 s args wsX2_inUnits RX2) (hz : gz D cI cJ cZ s) (hP : va_P D vwCl (w2 ad cI S) s.heap) (ht : gt s s.heap) (hret : ∀ (v : Int32) (pc : Nat) (ls : Array Slot), Q v → decode cX2_inUnits pc = .ok (.ireturn, 1) → W p l e rX2_inUnits s m args below meth c s.heap [] 0 0 QQ (F0 m pc ls [.int v])) (h : wX2_inUnits S a1 a2 a3 a4 Q) : ∀ ls : Array Slot, lv_has ls 13 [(0, .ref (ad 1)), (1, .int a1), (2, .int a2), (3, .int a3), (4, .int a4)] → W p l e rX2_inUnits s m args below meth c s.heap [] 0 0 QQ (F0 m 0 ls []) := by
  intro ls hl
  have ht0 := ht
  obtain ⟨t1, t2, hZ1, hT1, hZ2, hT2⟩ := ht0
  refine lv_iload F.1 F.2.1 dX2_inUnits_0 (lv_at hl 4 rfl) ?_
  refine lv_iconst (v := (1 : Int32)) F.1 F.2.1 dX2_inUnits_2 (by decide) ?_
  refine lv_icmp_ge (tgt := 9) F.1 F.2.1 dX2_inUnits_3 (by decide) (fun hc => ?_) (fun hc => ?_)
  · have h := h.1 (hc)
    refine lv_aload_n F.1 F.2.1 dX2_inUnits_9 rfl (lv_at hl 0 rfl) ?_
    refine lv_iload_n F.1 F.2.1 dX2_inUnits_10 rfl (lv_at hl 1 rfl) ?_
    refine lv_iconst (v := (0 : Int32)) F.1 F.2.1 dX2_inUnits_11 (by decide) ?_
    refine vp_callSi (va_Run.run (va_runV (As := [.int a1, .int (0 : Int32)]) (rest := []) F (mX2_moved (l := l) (D := D) (cI := cI) (cJ := cJ) (cZ := cZ) (ad := ad) h) (cwV 2 F.2.2.2.2 gX2_inUnits_X2_moved rfl rfl rfl kV_X2_moved ⟨Nat.le_of_ble_eq_true rfl, Nat.le_of_ble_eq_true rfl⟩) ⟨rp_blind, va_recv hz.1 hP (ci := 0) (q0 := 0) rfl rfl, rp_pre hz hP (.ref (ad 1) :: [.int a1, .int (0 : Int32)])⟩ rfl rfl hl.1 rfl (lv_room (Nat.le_of_ble_eq_true rfl)) dX2_inUnits_12 ⟨Nat.le_of_ble_eq_true rfl, Nat.le_of_ble_eq_true rfl⟩)) (fun r_1 h => ?_)
    refine lv_iload F.1 F.2.1 dX2_inUnits_15 (lv_at hl 4 rfl) ?_
    refine vp_callSi (va_Run.run (va_runS (As := [.int r_1, .int a4]) (rest := []) F (mJ9_floorDiv_7cf53 (l := l) (D := D) (cI := cI) (cJ := cJ) (cZ := cZ) h) (va_cwS 2 F.2.2.2.2 gX2_inUnits_J9_floorDiv_7cf53 rfl rfl rfl kS_J9_floorDiv_7cf53 ⟨Nat.le_of_ble_eq_true rfl, Nat.le_of_ble_eq_true rfl⟩) ⟨rp_blind, rp_pre hz (hP.sub (ws' := []) [] rfl) [.int r_1, .int a4]⟩ rfl rfl hl.1 rfl (lv_room (Nat.le_of_ble_eq_true rfl)) dX2_inUnits_17 ⟨Nat.le_of_ble_eq_true rfl, Nat.le_of_ble_eq_true rfl⟩)) (fun r_2 h => ?_)
    refine lv_istore (lv' := [(5, .int r_2), (0, .ref (ad 1)), (1, .int a1), (2, .int a2), (3, .int a3), (4, .int a4)]) F.1 F.2.1 dX2_inUnits_20 hl (by decide) rfl (fun ls hl => ?_)
    refine lv_iload_n F.1 F.2.1 dX2_inUnits_22 rfl (lv_at hl 4 rfl) ?_
    refine lv_bipush (v := (8 : Int32)) F.1 F.2.1 dX2_inUnits_23 (by decide) ?_
    refine lv_icmp_ne (tgt := 31) F.1 F.2.1 dX2_inUnits_25 (by decide) (fun hc => ?_) (fun hc => ?_)
    · have h := h.2 hc
      refine lv_aload_n F.1 F.2.1 dX2_inUnits_31 rfl (lv_at hl 1 rfl) ?_
      refine lv_iload_n F.1 F.2.1 dX2_inUnits_32 rfl (lv_at hl 2 rfl) ?_
      refine lv_iload_n F.1 F.2.1 dX2_inUnits_33 rfl (lv_at hl 3 rfl) ?_
      refine lv_iload_n F.1 F.2.1 dX2_inUnits_34 rfl (lv_at hl 4 rfl) ?_
      refine vp_callSi (va_Run.run (va_runS (As := [.int a1, .int a2, .int a3]) (rest := [.ref (ad 1)]) F (mX1_withTest (l := l) (D := D) (cI := cI) (cJ := cJ) (cZ := cZ) h) (va_cwS 3 F.2.2.2.2 gX2_inUnits_X1_withTest rfl rfl rfl kS_X1_withTest ⟨Nat.le_of_ble_eq_true rfl, Nat.le_of_ble_eq_true rfl⟩) ⟨rpt_blind, rpt_pre hz (hP.sub (ws' := []) [] rfl) ht [.int a1, .int a2, .int a3]⟩ rfl rfl hl.1 rfl (lv_room (Nat.le_of_ble_eq_true rfl)) dX2_inUnits_35 ⟨Nat.le_of_ble_eq_true rfl, Nat.le_of_ble_eq_true rfl⟩)) (fun r_3 h => ?_)
      refine lv_iconst (v := (0 : Int32)) F.1 F.2.1 dX2_inUnits_38 (by decide) ?_
      refine vp_callSi (va_Run.run (va_runV (As := [.int r_3, .int (0 : Int32)]) (rest := []) F (mX2_moved (l := l) (D := D) (cI := cI) (cJ := cJ) (cZ := cZ) (ad := ad) h) (cwV 2 F.2.2.2.2 gX2_inUnits_X2_moved rfl rfl rfl kV_X2_moved ⟨Nat.le_of_ble_eq_true rfl, Nat.le_of_ble_eq_true rfl⟩) ⟨rp_blind, va_recv hz.1 hP (ci := 0) (q0 := 0) rfl rfl, rp_pre hz hP (.ref (ad 1) :: [.int r_3, .int (0 : Int32)])⟩ rfl rfl hl.1 rfl (lv_room (Nat.le_of_ble_eq_true rfl)) dX2_inUnits_39 ⟨Nat.le_of_ble_eq_true rfl, Nat.le_of_ble_eq_true rfl⟩)) (fun r_4 h => ?_)
      refine lv_istore (lv' := [(6, .int r_4), (5, .int r_2), (0, .ref (ad 1)), (1, .int a1), (2, .int a2), (3, .int a3), (4, .int a4)]) F.1 F.2.1 dX2_inUnits_42 hl (by decide) rfl (fun ls hl => ?_)
      refine lv_iload F.1 F.2.1 dX2_inUnits_44 (lv_at hl 0 rfl) ?_
      refine lv_iload F.1 F.2.1 dX2_inUnits_46 (lv_at hl 6 rfl) ?_
      refine vp_callSi (va_Run.run (va_runS (As := [.int r_4, .int a4]) (rest := []) F (mJ9_floorMod_7cf53 (l := l) (D := D) (cI := cI) (cJ := cJ) (cZ := cZ) h) (va_cwS 2 F.2.2.2.2 gX2_inUnits_J9_floorMod_7cf53 rfl rfl rfl kS_J9_floorMod_7cf53 ⟨Nat.le_of_ble_eq_true rfl, Nat.le_of_ble_eq_true rfl⟩) ⟨rp_blind, rp_pre hz (hP.sub (ws' := []) [] rfl) [.int r_4, .int a4]⟩ rfl rfl hl.1 rfl (lv_room (Nat.le_of_ble_eq_true rfl)) dX2_inUnits_48 ⟨Nat.le_of_ble_eq_true rfl, Nat.le_of_ble_eq_true rfl⟩)) (fun r_5 h => ?_)
      refine lv_istore (lv' := [(7, .int r_5), (6, .int r_4), (5, .int r_2), (0, .ref (ad 1)), (1, .int a1), (2, .int a2), (3, .int a3), (4, .int a4)]) F.1 F.2.1 dX2_inUnits_51 hl (by decide) rfl (fun ls hl => ?_)
      refine lv_iload F.1 F.2.1 dX2_inUnits_53 (lv_at hl 2 rfl) ?_
      refine lv_istore (lv' := [(8, .int r_2), (7, .int r_5), (6, .int r_4), (5, .int r_2), (0, .ref (ad 1)), (1, .int a1), (2, .int a2), (3, .int a3), (4, .int a4)]) F.1 F.2.1 dX2_inUnits_55 hl (by decide) rfl (fun ls hl => ?_)
      refine lv_iconst (v := (0 : Int32)) F.1 F.2.1 dX2_inUnits_57 (by decide) ?_
      refine lv_istore (lv' := [(9, .int (0 : Int32)), (8, .int r_2), (7, .int r_5), (6, .int r_4), (5, .int r_2), (0, .ref (ad 1)), (1, .int a1), (2, .int a2), (3, .int a3), (4, .int a4)]) F.1 F.2.1 dX2_inUnits_58 hl (by decide) rfl (fun ls hl => ?_)
      refine lv_iconst (v := (0 : Int32)) F.1 F.2.1 dX2_inUnits_60 (by decide) ?_
      refine lv_istore (lv' := [(10, .int (0 : Int32)), (9, .int (0 : Int32)), (8, .int r_2), (7, .int r_5), (6, .int r_4), (5, .int r_2), (0, .ref (ad 1)), (1, .int a1), (2, .int a2), (3, .int a3), (4, .int a4)]) F.1 F.2.1 dX2_inUnits_61 hl (by decide) rfl (fun ls hl => ?_)
      obtain ⟨nn, h⟩ := h
      refine kX2_inUnits_63 F hz hP ht (fun ⟨x8, x9, x10⟩ h ls hl => ?_) nn _ h ls (lv_sub hl [6, 7, 8, 9, 10, 4, 3, 2, 1, 0] rfl)
      refine lv_iload F.1 F.2.1 dX2_inUnits_134 (lv_at hl 5 rfl) ?_
      refine lv_iload F.1 F.2.1 dX2_inUnits_136 (lv_at hl 4 rfl) ?_
      refine vp_callSi (va_Run.run (va_runS (As := [.int r_4, .int a4]) (rest := []) F (mJ9_floorDiv_7cf53 (l := l) (D := D) (cI := cI) (cJ := cJ) (cZ := cZ) h) (va_cwS 2 F.2.2.2.2 gX2_inUnits_J9_floorDiv_7cf53 rfl rfl rfl kS_J9_floorDiv_7cf53 ⟨Nat.le_of_ble_eq_true rfl, Nat.le_of_ble_eq_true rfl⟩) ⟨rp_blind, rp_pre hz (hP.sub (ws' := []) [] rfl) [.int r_4, .int a4]⟩ rfl rfl hl.1 rfl (lv_room (Nat.le_of_ble_eq_true rfl)) dX2_inUnits_138 ⟨Nat.le_of_ble_eq_true rfl, Nat.le_of_ble_eq_true rfl⟩)) (fun r_10 h => ?_)
      refine lv_iload F.1 F.2.1 dX2_inUnits_141 (lv_at hl 8 rfl) ?_
      refine lv_iload F.1 F.2.1 dX2_inUnits_143 (lv_at hl 7 rfl) ?_
      refine lv_icmp_ge (tgt := 152) F.1 F.2.1 dX2_inUnits_145 (by decide) (fun hc => ?_) (fun hc => ?_)
      · have h := h.1 (hc)
        refine lv_iconst (v := (0 : Int32)) F.1 F.2.1 dX2_inUnits_152 (by decide) ?_
        refine lv_iadd F.1 F.2.1 dX2_inUnits_153 ?_
        exact hret _ _ _ h dX2_inUnits_154
      · have h := h.2 hc
        refine lv_iconst (v := (1 : Int32)) F.1 F.2.1 dX2_inUnits_148 (by decide) ?_
        refine lv_goto (tgt := 153) F.1 F.2.1 dX2_inUnits_149 (by decide) ?_
        refine lv_iadd F.1 F.2.1 dX2_inUnits_153 ?_
        exact hret _ _ _ h dX2_inUnits_154
    · have h := h.1 (hc)
      refine lv_iload F.1 F.2.1 dX2_inUnits_28 (lv_at hl 0 rfl) ?_
      exact hret _ _ _ h dX2_inUnits_30
  · have h := h.2 hc
    refine lv_ldc (v := (-1000000 : Int32)) F.1 F.2.1 F.2.2.2.1 (F.2.2.2.2 _ uX2_inUnits_1) dX2_inUnits_6 ?_
    exact hret _ _ _ h dX2_inUnits_8
theorem mX2_inUnits {l : Launch} {D : va_G} {cI cJ cZ : ClassId} {ad : Nat → Nat} {S : S2} {a1 : Int32} {a2 : Int32} {a3 : Int32} {a4 : Int32} {Q : Int32 → Prop} (h : wX2_inUnits S a1 a2 a3 a4 Q) : Met l yX2_inUnits wsX2_inUnits rX2_inUnits (va_Pc [.ref (ad 1), .int a1, .int a2, .int a3, .int a4] (rpt D cI cJ cZ (w2 ad cI S))) (vp_Si Q) 0 0 (fun _ => False) :=
  enter_i (by decide +kernel) rfl (Nat.le_of_ble_eq_true rfl) (fun p e s m args below meth c QQ F hz hret => bX2_inUnits F hz.1.1 hz.1.2 hz.2 hret h)
abbrev rX2_movedUpTo : Room := { frames := 2, cells := 0, slots := 0, locals := 43 }
theorem kV_X2_movedUpTo : yX2_movedUpTo.cls = RX2 ∧ yX2_movedUpTo.cls ≠ "java/lang/invoke/MethodHandle" ∧ yX2_movedUpTo.cls ≠ "java/lang/invoke/VarHandle" ∧ (parseMethodDescriptor yX2_movedUpTo.desc).map (fun d => d.parameters.length) = some 2 := by decide +kernel
theorem vX2_movedUpTo_X2 : ∀ w ∈ wsX20, w ∈ wsX2_movedUpTo := fun _ h => List.mem_cons_of_mem _ (List.mem_append_right _ h)
theorem uX2_movedUpTo_1 : Cond.fieldLink RX2 33 "SumMoved$Rows" "size" "I" ∈ wsX2_movedUpTo := List.mem_of_getElem? (i := 1) rfl
theorem uX2_movedUpTo_2 : Cond.fieldLink RX2 15 "SumMoved$Rows" "day" "[I" ∈ wsX2_movedUpTo := List.mem_of_getElem? (i := 2) rfl
theorem uX2_movedUpTo_3 : Cond.fieldLink RX2 9 "SumMoved$Rows" "month" "[I" ∈ wsX2_movedUpTo := List.mem_of_getElem? (i := 3) rfl
theorem uX2_movedUpTo_4 : Cond.fieldLink RX2 18 "SumMoved$Rows" "tops" "[I" ∈ wsX2_movedUpTo := List.mem_of_getElem? (i := 4) rfl
set_option maxRecDepth 100000 in
theorem kX2_movedUpTo_17 {p2 : Int32} {p3 : Int32} {p4 : Int32} {S : S2} (F : CallFix p m c cX2_movedUpTo 7 s args wsX2_movedUpTo RX2) (hz : gz D cI cJ cZ s) (hP : va_P D vwCl (w2 ad cI S) s.heap) {K : Int32 × Int32 → Prop} (hK : ∀ x : Int32 × Int32, K x → match x with | (x5, x6) => ∀ ls : Array Slot, lv_has ls 7 [(0, .ref (ad 1)), (2, .int p2), (3, .int p3), (4, .int p4), (5, .int x5), (6, .int x6)] → W p l e rX2_movedUpTo s m args below meth c s.heap [] 0 0 QQ (F0 m 89 ls [])) : ∀ (nn : Nat) (x : Int32 × Int32), iter (sX2_movedUpTo_17 S p2 p3 p4 K) nn x → match x with | (x5, x6) => ∀ ls : Array Slot, lv_has ls 7 [(0, .ref (ad 1)), (2, .int p2), (3, .int p3), (4, .int p4), (5, .int x5), (6, .int x6)] → W p l e rX2_movedUpTo s m args below meth c s.heap [] 0 0 QQ (F0 m 17 ls []) := by
  refine iter_walk ?_
  rintro again17 ⟨x5, x6⟩ ih17 h ls hl
  have hK17 := hK
  refine lv_iload F.1 F.2.1 dX2_movedUpTo_17 (lv_at hl 5 rfl) ?_
  refine lv_aload_n F.1 F.2.1 dX2_movedUpTo_19 rfl (lv_at hl 0 rfl) ?_
  refine va_get (D := D) (ci := 0) (v := .int S.2.2.2.2.2.2.2) (C := RX2) (T := TX2) (N := 8) F.1 F.2.1 F.2.2.2.2 vX2_movedUpTo_X2 F.2.2.2.1 hz.1 hP 0 rfl rfl 7 (by decide) (F.2.2.2.2 _ uX2_movedUpTo_1) (fun _ h9 => h9) rfl dX2_movedUpTo_20 ?_
  refine lv_icmp_ge (tgt := 89) F.1 F.2.1 dX2_movedUpTo_23 (by decide) (fun hc => ?_) (fun hc => ?_)
  · have h := h.1 (hc)
    exact hK17 (x5, x6) h ls (lv_sub hl [0, 1, 2, 3, 4, 5] rfl)
  · have h := h.2 hc
    refine lv_aload_n F.1 F.2.1 dX2_movedUpTo_26 rfl (lv_at hl 0 rfl) ?_
    refine va_get (D := D) (ci := 0) (v := .ref (ad 3)) (C := RX2) (T := TX2) (N := 8) F.1 F.2.1 F.2.2.2.2 vX2_movedUpTo_X2 F.2.2.2.1 hz.1 hP 0 rfl rfl 1 (by decide) (F.2.2.2.2 _ uX2_movedUpTo_2) (fun _ h9 => h9) rfl dX2_movedUpTo_27 ?_
    refine lv_iload F.1 F.2.1 dX2_movedUpTo_30 (lv_at hl 5 rfl) ?_
    refine va_iald F.1 F.2.1 hz.1 hP 2 0 rfl rfl h.1 dX2_movedUpTo_32 ?_
    have h := h.2
    refine lv_iload_n F.1 F.2.1 dX2_movedUpTo_33 rfl (lv_at hl 1 rfl) ?_
    refine lv_icmp_gt (tgt := 83) F.1 F.2.1 dX2_movedUpTo_34 (by decide) (fun hc => ?_) (fun hc => ?_)
    · have h := h.1 (hc)
      refine lv_iinc (v := x6 + 1) (lv' := [(6, .int (x6 + 1)), (0, .ref (ad 1)), (2, .int p2), (3, .int p3), (4, .int p4), (5, .int x5)]) F.1 F.2.1 dX2_movedUpTo_83 hl (k := 5) rfl rfl (by decide) rfl (fun ls hl => ?_)
      refine lv_goto (tgt := 17) F.1 F.2.1 dX2_movedUpTo_86 (by decide) ?_
      exact ih17 (x5, x6 + 1) h ls (lv_sub hl [1, 2, 3, 4, 5, 0] rfl)
    · have h := h.2 hc
      refine lv_aload_n F.1 F.2.1 dX2_movedUpTo_37 rfl (lv_at hl 0 rfl) ?_
      refine lv_iload F.1 F.2.1 dX2_movedUpTo_38 (lv_at hl 5 rfl) ?_
      refine lv_iload_n F.1 F.2.1 dX2_movedUpTo_40 rfl (lv_at hl 2 rfl) ?_
      refine lv_iload F.1 F.2.1 dX2_movedUpTo_41 (lv_at hl 3 rfl) ?_
      refine vp_callSi (va_Run.run (va_runV (As := [.int x6, .int p3, .int p4]) (rest := []) F (mX2_fits (l := l) (D := D) (cI := cI) (cJ := cJ) (cZ := cZ) (ad := ad) h) (cwV 3 F.2.2.2.2 gX2_movedUpTo_X2_fits rfl rfl rfl kV_X2_fits ⟨Nat.le_of_ble_eq_true rfl, Nat.le_of_ble_eq_true rfl⟩) ⟨rp_blind, va_recv hz.1 hP (ci := 0) (q0 := 0) rfl rfl, rp_pre hz hP (.ref (ad 1) :: [.int x6, .int p3, .int p4])⟩ rfl rfl hl.1 rfl (lv_room (Nat.le_of_ble_eq_true rfl)) dX2_movedUpTo_43 ⟨Nat.le_of_ble_eq_true rfl, Nat.le_of_ble_eq_true rfl⟩)) (fun r_3 h => ?_)
      obtain ⟨hbr_3, h⟩ := h
      refine lv_if_eq (tgt := 83) F.1 F.2.1 dX2_movedUpTo_46 (by decide) (fun hc => ?_) (fun hc => ?_)
      · have h := h.1 (hc)
        refine lv_iinc (v := x6 + 1) (lv' := [(6, .int (x6 + 1)), (0, .ref (ad 1)), (2, .int p2), (3, .int p3), (4, .int p4), (5, .int x5)]) F.1 F.2.1 dX2_movedUpTo_83 hl (k := 5) rfl rfl (by decide) rfl (fun ls hl => ?_)
        refine lv_goto (tgt := 17) F.1 F.2.1 dX2_movedUpTo_86 (by decide) ?_
        exact ih17 (x5, x6 + 1) h ls (lv_sub hl [1, 2, 3, 4, 5, 0] rfl)
      · have h := h.2 hc
        refine lv_iload F.1 F.2.1 dX2_movedUpTo_49 (lv_at hl 4 rfl) ?_
        refine lv_aload_n F.1 F.2.1 dX2_movedUpTo_51 rfl (lv_at hl 0 rfl) ?_
        refine va_get (D := D) (ci := 0) (v := .ref (ad 2)) (C := RX2) (T := TX2) (N := 8) F.1 F.2.1 F.2.2.2.2 vX2_movedUpTo_X2 F.2.2.2.1 hz.1 hP 0 rfl rfl 0 (by decide) (F.2.2.2.2 _ uX2_movedUpTo_3) (fun _ h9 => h9) rfl dX2_movedUpTo_52 ?_
        refine lv_iload F.1 F.2.1 dX2_movedUpTo_55 (lv_at hl 5 rfl) ?_
        refine va_iald F.1 F.2.1 hz.1 hP 1 0 rfl rfl h.1 dX2_movedUpTo_57 ?_
        have h := h.2
        refine lv_iconst (v := (1 : Int32)) F.1 F.2.1 dX2_movedUpTo_58 (by decide) ?_
        refine lv_icmp_ne (tgt := 72) F.1 F.2.1 dX2_movedUpTo_59 (by decide) (fun hc => ?_) (fun hc => ?_)
        · have h := h.2 hc
          refine lv_aload_n F.1 F.2.1 dX2_movedUpTo_72 rfl (lv_at hl 0 rfl) ?_
          refine va_get (D := D) (ci := 0) (v := .ref (ad 4)) (C := RX2) (T := TX2) (N := 8) F.1 F.2.1 F.2.2.2.2 vX2_movedUpTo_X2 F.2.2.2.1 hz.1 hP 0 rfl rfl 2 (by decide) (F.2.2.2.2 _ uX2_movedUpTo_4) (fun _ h9 => h9) rfl dX2_movedUpTo_73 ?_
          refine lv_iload F.1 F.2.1 dX2_movedUpTo_76 (lv_at hl 5 rfl) ?_
          refine va_iald F.1 F.2.1 hz.1 hP 3 0 rfl rfl h.1 dX2_movedUpTo_78 ?_
          have h := h.2
          refine lv_ineg F.1 F.2.1 dX2_movedUpTo_79 ?_
          refine lv_iadd F.1 F.2.1 dX2_movedUpTo_80 ?_
          refine lv_topi (fun y_4 ey_4 => ?_)
          have h := h y_4 ey_4
          refine lv_istore (lv' := [(5, .int y_4), (0, .ref (ad 1)), (2, .int p2), (3, .int p3), (4, .int p4), (6, .int x6)]) F.1 F.2.1 dX2_movedUpTo_81 hl (by decide) rfl (fun ls hl => ?_)
          refine lv_iinc (v := x6 + 1) (lv' := [(6, .int (x6 + 1)), (5, .int y_4), (0, .ref (ad 1)), (2, .int p2), (3, .int p3), (4, .int p4)]) F.1 F.2.1 dX2_movedUpTo_83 hl (k := 5) rfl rfl (by decide) rfl (fun ls hl => ?_)
          refine lv_goto (tgt := 17) F.1 F.2.1 dX2_movedUpTo_86 (by decide) ?_
          exact ih17 (y_4, x6 + 1) h ls (lv_sub hl [2, 3, 4, 5, 1, 0] rfl)
        · have h := h.1 (hc)
          refine lv_aload_n F.1 F.2.1 dX2_movedUpTo_62 rfl (lv_at hl 0 rfl) ?_
          refine va_get (D := D) (ci := 0) (v := .ref (ad 4)) (C := RX2) (T := TX2) (N := 8) F.1 F.2.1 F.2.2.2.2 vX2_movedUpTo_X2 F.2.2.2.1 hz.1 hP 0 rfl rfl 2 (by decide) (F.2.2.2.2 _ uX2_movedUpTo_4) (fun _ h9 => h9) rfl dX2_movedUpTo_63 ?_
          refine lv_iload F.1 F.2.1 dX2_movedUpTo_66 (lv_at hl 5 rfl) ?_
          refine va_iald F.1 F.2.1 hz.1 hP 3 0 rfl rfl h.1 dX2_movedUpTo_68 ?_
          have h := h.2
          refine lv_goto (tgt := 80) F.1 F.2.1 dX2_movedUpTo_69 (by decide) ?_
          refine lv_iadd F.1 F.2.1 dX2_movedUpTo_80 ?_
          refine lv_topi (fun y_5 ey_5 => ?_)
          have h := h y_5 ey_5
          refine lv_istore (lv' := [(5, .int y_5), (0, .ref (ad 1)), (2, .int p2), (3, .int p3), (4, .int p4), (6, .int x6)]) F.1 F.2.1 dX2_movedUpTo_81 hl (by decide) rfl (fun ls hl => ?_)
          refine lv_iinc (v := x6 + 1) (lv' := [(6, .int (x6 + 1)), (5, .int y_5), (0, .ref (ad 1)), (2, .int p2), (3, .int p3), (4, .int p4)]) F.1 F.2.1 dX2_movedUpTo_83 hl (k := 5) rfl rfl (by decide) rfl (fun ls hl => ?_)
          refine lv_goto (tgt := 17) F.1 F.2.1 dX2_movedUpTo_86 (by decide) ?_
          exact ih17 (y_5, x6 + 1) h ls (lv_sub hl [2, 3, 4, 5, 1, 0] rfl)
set_option maxRecDepth 100000 in
theorem bX2_movedUpTo {a1 : Int32} {a2 : Int32} {S : S2} {Q : Int32 → Prop} (F : CallFix p m c cX2_movedUpTo 7 s args wsX2_movedUpTo RX2) (hz : gz D cI cJ cZ s) (hP : va_P D vwCl (w2 ad cI S) s.heap) (hret : ∀ (v : Int32) (pc : Nat) (ls : Array Slot), Q v → decode cX2_movedUpTo pc = .ok (.ireturn, 1) → W p l e rX2_movedUpTo s m args below meth c s.heap [] 0 0 QQ (F0 m pc ls [.int v])) (h : wX2_movedUpTo S a1 a2 Q) : ∀ ls : Array Slot, lv_has ls 7 [(0, .ref (ad 1)), (1, .int a1), (2, .int a2)] → W p l e rX2_movedUpTo s m args below meth c s.heap [] 0 0 QQ (F0 m 0 ls []) := by
  intro ls hl
  refine lv_iload_n F.1 F.2.1 dX2_movedUpTo_0 rfl (lv_at hl 1 rfl) ?_
  refine vp_callSi (va_Run.run (va_runS (As := [.int a1]) (rest := []) F (mX1_testedBits (l := l) (D := D) (cI := cI) (cJ := cJ) (cZ := cZ) h) (va_cwS 1 F.2.2.2.2 gX2_movedUpTo_X1_testedBits rfl rfl rfl kS_X1_testedBits ⟨Nat.le_of_ble_eq_true rfl, Nat.le_of_ble_eq_true rfl⟩) ⟨rp_blind, rp_pre hz (hP.sub (ws' := []) [] rfl) [.int a1]⟩ rfl rfl hl.1 rfl (lv_room (Nat.le_of_ble_eq_true rfl)) dX2_movedUpTo_1 ⟨Nat.le_of_ble_eq_true rfl, Nat.le_of_ble_eq_true rfl⟩)) (fun r_1 h => ?_)
  refine lv_istore_n (lv' := [(3, .int r_1), (0, .ref (ad 1)), (1, .int a1), (2, .int a2)]) F.1 F.2.1 dX2_movedUpTo_4 rfl hl (by decide) rfl (fun ls hl => ?_)
  refine lv_iload_n F.1 F.2.1 dX2_movedUpTo_5 rfl (lv_at hl 2 rfl) ?_
  refine vp_callSi (va_Run.run (va_runS (As := [.int a1]) (rest := []) F (mX1_wantedBits (l := l) (D := D) (cI := cI) (cJ := cJ) (cZ := cZ) h) (va_cwS 1 F.2.2.2.2 gX2_movedUpTo_X1_wantedBits rfl rfl rfl kS_X1_wantedBits ⟨Nat.le_of_ble_eq_true rfl, Nat.le_of_ble_eq_true rfl⟩) ⟨rp_blind, rp_pre hz (hP.sub (ws' := []) [] rfl) [.int a1]⟩ rfl rfl hl.1 rfl (lv_room (Nat.le_of_ble_eq_true rfl)) dX2_movedUpTo_6 ⟨Nat.le_of_ble_eq_true rfl, Nat.le_of_ble_eq_true rfl⟩)) (fun r_2 h => ?_)
  refine lv_istore (lv' := [(4, .int r_2), (3, .int r_1), (0, .ref (ad 1)), (1, .int a1), (2, .int a2)]) F.1 F.2.1 dX2_movedUpTo_9 hl (by decide) rfl (fun ls hl => ?_)
  refine lv_iconst (v := (0 : Int32)) F.1 F.2.1 dX2_movedUpTo_11 (by decide) ?_
  refine lv_istore (lv' := [(5, .int (0 : Int32)), (4, .int r_2), (3, .int r_1), (0, .ref (ad 1)), (1, .int a1), (2, .int a2)]) F.1 F.2.1 dX2_movedUpTo_12 hl (by decide) rfl (fun ls hl => ?_)
  refine lv_iconst (v := (0 : Int32)) F.1 F.2.1 dX2_movedUpTo_14 (by decide) ?_
  refine lv_istore (lv' := [(6, .int (0 : Int32)), (5, .int (0 : Int32)), (4, .int r_2), (3, .int r_1), (0, .ref (ad 1)), (1, .int a1), (2, .int a2)]) F.1 F.2.1 dX2_movedUpTo_15 hl (by decide) rfl (fun ls hl => ?_)
  obtain ⟨nn, h⟩ := h
  refine kX2_movedUpTo_17 F hz hP (fun ⟨x5, x6⟩ h ls hl => ?_) nn _ h ls (lv_sub hl [4, 6, 3, 2, 1, 0] rfl)
  refine lv_iload F.1 F.2.1 dX2_movedUpTo_89 (lv_at hl 4 rfl) ?_
  exact hret _ _ _ h dX2_movedUpTo_91
theorem mX2_movedUpTo {l : Launch} {D : va_G} {cI cJ cZ : ClassId} {ad : Nat → Nat} {S : S2} {a1 : Int32} {a2 : Int32} {Q : Int32 → Prop} (h : wX2_movedUpTo S a1 a2 Q) : Met l yX2_movedUpTo wsX2_movedUpTo rX2_movedUpTo (va_Pc [.ref (ad 1), .int a1, .int a2] (rp D cI cJ cZ (w2 ad cI S))) (vp_Si Q) 0 0 (fun _ => False) :=
  enter_i (by decide +kernel) rfl (Nat.le_of_ble_eq_true rfl) (fun p e s m args below meth c QQ F hz hret => bX2_movedUpTo F hz.1 hz.2 hret h)
abbrev rX2_firstDay : Room := { frames := 3, cells := 0, slots := 0, locals := 69 }
theorem kV_X2_firstDay : yX2_firstDay.cls = RX2 ∧ yX2_firstDay.cls ≠ "java/lang/invoke/MethodHandle" ∧ yX2_firstDay.cls ≠ "java/lang/invoke/VarHandle" ∧ (parseMethodDescriptor yX2_firstDay.desc).map (fun d => d.parameters.length) = some 2 := by decide +kernel
theorem uX2_firstDay_1 : Cond.methodLink RX2 100 Lib.Math.abs.name ∈ wsX2_firstDay := List.mem_of_getElem? (i := 1) rfl
theorem uX2_firstDay_2 : Cond.static Lib.Math.abs.name ∈ wsX2_firstDay := List.mem_of_getElem? (i := 2) rfl
theorem uX2_firstDay_3 : Cond.initialized "java/lang/Math" ∈ wsX2_firstDay := List.mem_of_getElem? (i := 3) rfl
theorem uX2_firstDay_4 : Cond.code Lib.Math.abs.name Lib.Math.abs.code 1 (some .int) ∈ wsX2_firstDay := List.mem_of_getElem? (i := 4) rfl
set_option maxRecDepth 100000 in
theorem kX2_firstDay_2 {p1 : Int32} {p2 : Int32} {S : S2} {Q : Int32 → Prop} (F : CallFix p m c cX2_firstDay 4 s args wsX2_firstDay RX2) (hz : gz D cI cJ cZ s) (hP : va_P D vwCl (w2 ad cI S) s.heap) (hret : ∀ (v : Int32) (pc : Nat) (ls : Array Slot), Q v → decode cX2_firstDay pc = .ok (.ireturn, 1) → W p l e rX2_firstDay s m args below meth c s.heap [] 0 0 QQ (F0 m pc ls [.int v])) {K : Int32 → Prop} (hK : ∀ x3 : Int32, K x3 → ∀ ls : Array Slot, lv_has ls 4 [(0, .ref (ad 1)), (1, .int p1), (2, .int p2), (3, .int x3)] → W p l e rX2_firstDay s m args below meth c s.heap [] 0 0 QQ (F0 m 29 ls [])) : ∀ (nn : Nat) (x3 : Int32), iter (sX2_firstDay_2 S p1 p2 Q K) nn x3 → ∀ ls : Array Slot, lv_has ls 4 [(0, .ref (ad 1)), (1, .int p1), (2, .int p2), (3, .int x3)] → W p l e rX2_firstDay s m args below meth c s.heap [] 0 0 QQ (F0 m 2 ls []) := by
  refine iter_walk ?_
  rintro again2 x3 ih2 h ls hl
  have hK2 := hK
  refine lv_iload_n F.1 F.2.1 dX2_firstDay_2 rfl (lv_at hl 3 rfl) ?_
  refine lv_bipush (v := (31 : Int32)) F.1 F.2.1 dX2_firstDay_3 (by decide) ?_
  refine lv_icmp_ge (tgt := 29) F.1 F.2.1 dX2_firstDay_5 (by decide) (fun hc => ?_) (fun hc => ?_)
  · have h := h.1 (hc)
    exact hK2 x3 h ls (lv_sub hl [0, 1, 2, 3] rfl)
  · have h := h.2 hc
    refine lv_aload_n F.1 F.2.1 dX2_firstDay_8 rfl (lv_at hl 0 rfl) ?_
    refine lv_iload_n F.1 F.2.1 dX2_firstDay_9 rfl (lv_at hl 1 rfl) ?_
    refine lv_iload_n F.1 F.2.1 dX2_firstDay_10 rfl (lv_at hl 3 rfl) ?_
    refine vp_callSi (va_Run.run (va_runV (As := [.int p1, .int x3]) (rest := []) F (mX2_movedUpTo (l := l) (D := D) (cI := cI) (cJ := cJ) (cZ := cZ) (ad := ad) h) (cwV 2 F.2.2.2.2 gX2_firstDay_X2_movedUpTo rfl rfl rfl kV_X2_movedUpTo ⟨Nat.le_of_ble_eq_true rfl, Nat.le_of_ble_eq_true rfl⟩) ⟨rp_blind, va_recv hz.1 hP (ci := 0) (q0 := 0) rfl rfl, rp_pre hz hP (.ref (ad 1) :: [.int p1, .int x3])⟩ rfl rfl hl.1 rfl (lv_room (Nat.le_of_ble_eq_true rfl)) dX2_firstDay_11 ⟨Nat.le_of_ble_eq_true rfl, Nat.le_of_ble_eq_true rfl⟩)) (fun r_1 h => ?_)
    refine va_mabs F.1 F.2.1 (F.2.2.1.trans hl.1.symm) F.2.2.2.1 (F.2.2.2.2 _ uX2_firstDay_1) (F.2.2.2.2 _ uX2_firstDay_2) (F.2.2.2.2 _ uX2_firstDay_3) (F.2.2.2.2 _ uX2_firstDay_4) (Nat.le_of_ble_eq_true rfl) (Nat.le_of_ble_eq_true rfl) (Nat.le_of_ble_eq_true rfl) (Nat.le_of_ble_eq_true rfl) dX2_firstDay_14 ?_
    refine lv_iload_n F.1 F.2.1 dX2_firstDay_17 rfl (lv_at hl 2 rfl) ?_
    refine lv_icmp_le (tgt := 23) F.1 F.2.1 dX2_firstDay_18 (by decide) (fun hc => ?_) (fun hc => ?_)
    · have h := h.1 (hc)
      refine lv_iinc (v := x3 + 1) (lv' := [(3, .int (x3 + 1)), (0, .ref (ad 1)), (1, .int p1), (2, .int p2)]) F.1 F.2.1 dX2_firstDay_23 hl (k := 3) rfl rfl (by decide) rfl (fun ls hl => ?_)
      refine lv_goto (tgt := 2) F.1 F.2.1 dX2_firstDay_26 (by decide) ?_
      exact ih2 (x3 + 1) h ls (lv_sub hl [1, 2, 3, 0] rfl)
    · have h := h.2 hc
      refine lv_iload_n F.1 F.2.1 dX2_firstDay_21 rfl (lv_at hl 3 rfl) ?_
      exact hret _ _ _ h dX2_firstDay_22
set_option maxRecDepth 100000 in
theorem bX2_firstDay {a1 : Int32} {a2 : Int32} {S : S2} {Q : Int32 → Prop} (F : CallFix p m c cX2_firstDay 4 s args wsX2_firstDay RX2) (hz : gz D cI cJ cZ s) (hP : va_P D vwCl (w2 ad cI S) s.heap) (hret : ∀ (v : Int32) (pc : Nat) (ls : Array Slot), Q v → decode cX2_firstDay pc = .ok (.ireturn, 1) → W p l e rX2_firstDay s m args below meth c s.heap [] 0 0 QQ (F0 m pc ls [.int v])) (h : wX2_firstDay S a1 a2 Q) : ∀ ls : Array Slot, lv_has ls 4 [(0, .ref (ad 1)), (1, .int a1), (2, .int a2)] → W p l e rX2_firstDay s m args below meth c s.heap [] 0 0 QQ (F0 m 0 ls []) := by
  intro ls hl
  refine lv_iconst (v := (0 : Int32)) F.1 F.2.1 dX2_firstDay_0 (by decide) ?_
  refine lv_istore_n (lv' := [(3, .int (0 : Int32)), (0, .ref (ad 1)), (1, .int a1), (2, .int a2)]) F.1 F.2.1 dX2_firstDay_1 rfl hl (by decide) rfl (fun ls hl => ?_)
  obtain ⟨nn, h⟩ := h
  refine kX2_firstDay_2 F hz hP hret (fun x3 h ls hl => ?_) nn _ h ls (lv_sub hl [1, 2, 3, 0] rfl)
  refine lv_bipush (v := (31 : Int32)) F.1 F.2.1 dX2_firstDay_29 (by decide) ?_
  exact hret _ _ _ h dX2_firstDay_31
theorem mX2_firstDay {l : Launch} {D : va_G} {cI cJ cZ : ClassId} {ad : Nat → Nat} {S : S2} {a1 : Int32} {a2 : Int32} {Q : Int32 → Prop} (h : wX2_firstDay S a1 a2 Q) : Met l yX2_firstDay wsX2_firstDay rX2_firstDay (va_Pc [.ref (ad 1), .int a1, .int a2] (rp D cI cJ cZ (w2 ad cI S))) (vp_Si Q) 0 0 (fun _ => False) :=
  enter_i (by decide +kernel) rfl (Nat.le_of_ble_eq_true rfl) (fun p e s m args below meth c QQ F hz hret => bX2_firstDay F hz.1 hz.2 hret h)
end WALKS
