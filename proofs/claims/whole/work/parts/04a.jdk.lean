/-! THE WALKS of jdk, printed by wip/whole/gen.py -/
section WALKS
variable {p : Program} {l : Launch} {e : Env} {s : State} {m : MethodId} {args : Array Value} {below : List Frame} {meth : Method} {c : Code} {QQ : State → Prop} {A : Nat → Prop} {D : va_G} {cI cJ cZ : ClassId} {ad : Nat → Nat}
abbrev rJ6_bitCount_0f7a4 : Room := { frames := 0, cells := 0, slots := 0, locals := 0 }
theorem kS_J6_bitCount_0f7a4 : yJ6_bitCount_0f7a4.cls ≠ "java/lang/invoke/MethodHandle" ∧ yJ6_bitCount_0f7a4.cls ≠ "java/lang/invoke/VarHandle" ∧ (parseMethodDescriptor yJ6_bitCount_0f7a4.desc).map (fun d => d.parameters.length) = some 1 := by decide +kernel
theorem uJ6_bitCount_0f7a4_1 : Cond.constant RJ6 265 (1431655765) ∈ wsJ6_bitCount_0f7a4 := List.mem_of_getElem? (i := 1) rfl
theorem uJ6_bitCount_0f7a4_2 : Cond.constant RJ6 266 (858993459) ∈ wsJ6_bitCount_0f7a4 := List.mem_of_getElem? (i := 2) rfl
theorem uJ6_bitCount_0f7a4_3 : Cond.constant RJ6 267 (252645135) ∈ wsJ6_bitCount_0f7a4 := List.mem_of_getElem? (i := 3) rfl
set_option maxRecDepth 100000 in
theorem bJ6_bitCount_0f7a4 {a0 : Int32} {Q : Int32 → Prop} (F : CallFix p m c cJ6_bitCount_0f7a4 1 s args wsJ6_bitCount_0f7a4 RJ6) (hz : gz D cI cJ cZ s) (hP : va_P D vwCl [] s.heap) (hret : ∀ (v : Int32) (pc : Nat) (ls : Array Slot), Q v → decode cJ6_bitCount_0f7a4 pc = .ok (.ireturn, 1) → W p l e rJ6_bitCount_0f7a4 s m args below meth c s.heap [] 0 0 QQ (F0 m pc ls [.int v])) (h : wJ6_bitCount_0f7a4 a0 Q) : ∀ ls : Array Slot, lv_has ls 1 [(0, .int a0)] → W p l e rJ6_bitCount_0f7a4 s m args below meth c s.heap [] 0 0 QQ (F0 m 0 ls []) := by
  intro ls hl
  refine lv_iload_n F.1 F.2.1 dJ6_bitCount_0f7a4_0 rfl (lv_at hl 0 rfl) ?_
  refine lv_iload_n F.1 F.2.1 dJ6_bitCount_0f7a4_1 rfl (lv_at hl 0 rfl) ?_
  refine lv_iconst (v := (1 : Int32)) F.1 F.2.1 dJ6_bitCount_0f7a4_2 (by decide) ?_
  refine lv_iushr F.1 F.2.1 dJ6_bitCount_0f7a4_3 rfl ?_
  refine lv_ldcw (v := (1431655765 : Int32)) F.1 F.2.1 F.2.2.2.1 (F.2.2.2.2 _ uJ6_bitCount_0f7a4_1) dJ6_bitCount_0f7a4_4 ?_
  refine lv_iand F.1 F.2.1 dJ6_bitCount_0f7a4_7 ?_
  refine lv_isub F.1 F.2.1 dJ6_bitCount_0f7a4_8 ?_
  refine lv_topi (fun y_1 ey_1 => ?_)
  have h := h y_1 ey_1
  refine lv_istore_n (lv' := [(0, .int y_1)]) F.1 F.2.1 dJ6_bitCount_0f7a4_9 rfl hl (by decide) rfl (fun ls hl => ?_)
  refine lv_iload_n F.1 F.2.1 dJ6_bitCount_0f7a4_10 rfl (lv_at hl 0 rfl) ?_
  refine lv_ldcw (v := (858993459 : Int32)) F.1 F.2.1 F.2.2.2.1 (F.2.2.2.2 _ uJ6_bitCount_0f7a4_2) dJ6_bitCount_0f7a4_11 ?_
  refine lv_iand F.1 F.2.1 dJ6_bitCount_0f7a4_14 ?_
  refine lv_iload_n F.1 F.2.1 dJ6_bitCount_0f7a4_15 rfl (lv_at hl 0 rfl) ?_
  refine lv_iconst (v := (2 : Int32)) F.1 F.2.1 dJ6_bitCount_0f7a4_16 (by decide) ?_
  refine lv_iushr F.1 F.2.1 dJ6_bitCount_0f7a4_17 rfl ?_
  refine lv_ldcw (v := (858993459 : Int32)) F.1 F.2.1 F.2.2.2.1 (F.2.2.2.2 _ uJ6_bitCount_0f7a4_2) dJ6_bitCount_0f7a4_18 ?_
  refine lv_iand F.1 F.2.1 dJ6_bitCount_0f7a4_21 ?_
  refine lv_iadd F.1 F.2.1 dJ6_bitCount_0f7a4_22 ?_
  refine lv_topi (fun y_2 ey_2 => ?_)
  have h := h y_2 ey_2
  refine lv_istore_n (lv' := [(0, .int y_2)]) F.1 F.2.1 dJ6_bitCount_0f7a4_23 rfl hl (by decide) rfl (fun ls hl => ?_)
  refine lv_iload_n F.1 F.2.1 dJ6_bitCount_0f7a4_24 rfl (lv_at hl 0 rfl) ?_
  refine lv_iload_n F.1 F.2.1 dJ6_bitCount_0f7a4_25 rfl (lv_at hl 0 rfl) ?_
  refine lv_iconst (v := (4 : Int32)) F.1 F.2.1 dJ6_bitCount_0f7a4_26 (by decide) ?_
  refine lv_iushr F.1 F.2.1 dJ6_bitCount_0f7a4_27 rfl ?_
  refine lv_iadd F.1 F.2.1 dJ6_bitCount_0f7a4_28 ?_
  refine lv_ldcw (v := (252645135 : Int32)) F.1 F.2.1 F.2.2.2.1 (F.2.2.2.2 _ uJ6_bitCount_0f7a4_3) dJ6_bitCount_0f7a4_29 ?_
  refine lv_iand F.1 F.2.1 dJ6_bitCount_0f7a4_32 ?_
  refine lv_topi (fun y_3 ey_3 => ?_)
  have h := h y_3 ey_3
  refine lv_istore_n (lv' := [(0, .int y_3)]) F.1 F.2.1 dJ6_bitCount_0f7a4_33 rfl hl (by decide) rfl (fun ls hl => ?_)
  refine lv_iload_n F.1 F.2.1 dJ6_bitCount_0f7a4_34 rfl (lv_at hl 0 rfl) ?_
  refine lv_iload_n F.1 F.2.1 dJ6_bitCount_0f7a4_35 rfl (lv_at hl 0 rfl) ?_
  refine lv_bipush (v := (8 : Int32)) F.1 F.2.1 dJ6_bitCount_0f7a4_36 (by decide) ?_
  refine lv_iushr F.1 F.2.1 dJ6_bitCount_0f7a4_38 rfl ?_
  refine lv_iadd F.1 F.2.1 dJ6_bitCount_0f7a4_39 ?_
  refine lv_topi (fun y_4 ey_4 => ?_)
  have h := h y_4 ey_4
  refine lv_istore_n (lv' := [(0, .int y_4)]) F.1 F.2.1 dJ6_bitCount_0f7a4_40 rfl hl (by decide) rfl (fun ls hl => ?_)
  refine lv_iload_n F.1 F.2.1 dJ6_bitCount_0f7a4_41 rfl (lv_at hl 0 rfl) ?_
  refine lv_iload_n F.1 F.2.1 dJ6_bitCount_0f7a4_42 rfl (lv_at hl 0 rfl) ?_
  refine lv_bipush (v := (16 : Int32)) F.1 F.2.1 dJ6_bitCount_0f7a4_43 (by decide) ?_
  refine lv_iushr F.1 F.2.1 dJ6_bitCount_0f7a4_45 rfl ?_
  refine lv_iadd F.1 F.2.1 dJ6_bitCount_0f7a4_46 ?_
  refine lv_topi (fun y_5 ey_5 => ?_)
  have h := h y_5 ey_5
  refine lv_istore_n (lv' := [(0, .int y_5)]) F.1 F.2.1 dJ6_bitCount_0f7a4_47 rfl hl (by decide) rfl (fun ls hl => ?_)
  refine lv_iload_n F.1 F.2.1 dJ6_bitCount_0f7a4_48 rfl (lv_at hl 0 rfl) ?_
  refine lv_bipush (v := (63 : Int32)) F.1 F.2.1 dJ6_bitCount_0f7a4_49 (by decide) ?_
  refine lv_iand F.1 F.2.1 dJ6_bitCount_0f7a4_51 ?_
  exact hret _ _ _ h dJ6_bitCount_0f7a4_52
theorem mJ6_bitCount_0f7a4 {l : Launch} {D : va_G} {cI cJ cZ : ClassId}  {a0 : Int32} {Q : Int32 → Prop} (h : wJ6_bitCount_0f7a4 a0 Q) : Met l yJ6_bitCount_0f7a4 wsJ6_bitCount_0f7a4 rJ6_bitCount_0f7a4 (va_Pc [.int a0] (rp D cI cJ cZ [])) (vp_Si Q) 0 0 (fun _ => False) :=
  enter_i (by decide +kernel) rfl (Nat.le_of_ble_eq_true rfl) (fun p e s m args below meth c QQ F hz hret => bJ6_bitCount_0f7a4 F hz.1 hz.2 hret h)
abbrev rJ13_bitCount_95d88 : Room := { frames := 0, cells := 0, slots := 0, locals := 0 }
theorem kS_J13_bitCount_95d88 : yJ13_bitCount_95d88.cls ≠ "java/lang/invoke/MethodHandle" ∧ yJ13_bitCount_95d88.cls ≠ "java/lang/invoke/VarHandle" ∧ (parseMethodDescriptor yJ13_bitCount_95d88.desc).map (fun d => d.parameters.length) = some 1 := by decide +kernel
theorem uJ13_bitCount_95d88_1 : Cond.constantLong RJ13 314 (6148914691236517205) ∈ wsJ13_bitCount_95d88 := List.mem_of_getElem? (i := 1) rfl
theorem uJ13_bitCount_95d88_2 : Cond.constantLong RJ13 316 (3689348814741910323) ∈ wsJ13_bitCount_95d88 := List.mem_of_getElem? (i := 2) rfl
theorem uJ13_bitCount_95d88_3 : Cond.constantLong RJ13 318 (1085102592571150095) ∈ wsJ13_bitCount_95d88 := List.mem_of_getElem? (i := 3) rfl
set_option maxRecDepth 100000 in
theorem bJ13_bitCount_95d88 {a0 : Int64} {Q : Int32 → Prop} (F : CallFix p m c cJ13_bitCount_95d88 2 s args wsJ13_bitCount_95d88 RJ13) (hz : gz D cI cJ cZ s) (hP : va_P D vwCl [] s.heap) (hret : ∀ (v : Int32) (pc : Nat) (ls : Array Slot), Q v → decode cJ13_bitCount_95d88 pc = .ok (.ireturn, 1) → W p l e rJ13_bitCount_95d88 s m args below meth c s.heap [] 0 0 QQ (F0 m pc ls [.int v])) (h : wJ13_bitCount_95d88 a0 Q) : ∀ ls : Array Slot, lv_has ls 2 [(0, .long a0)] → W p l e rJ13_bitCount_95d88 s m args below meth c s.heap [] 0 0 QQ (F0 m 0 ls []) := by
  intro ls hl
  refine lv_lload_n F.1 F.2.1 dJ13_bitCount_95d88_0 rfl (lv_at hl 0 rfl) ?_
  refine lv_lload_n F.1 F.2.1 dJ13_bitCount_95d88_1 rfl (lv_at hl 0 rfl) ?_
  refine lv_iconst (v := (1 : Int32)) F.1 F.2.1 dJ13_bitCount_95d88_2 (by decide) ?_
  refine lv_lushr F.1 F.2.1 dJ13_bitCount_95d88_3 rfl ?_
  refine lv_ldc2 (v := (6148914691236517205 : Int64)) F.1 F.2.1 F.2.2.2.1 (F.2.2.2.2 _ uJ13_bitCount_95d88_1) dJ13_bitCount_95d88_4 ?_
  refine lv_land F.1 F.2.1 dJ13_bitCount_95d88_7 ?_
  refine lv_lsub F.1 F.2.1 dJ13_bitCount_95d88_8 ?_
  refine lv_topl (fun y_1 ey_1 => ?_)
  have h := h y_1 ey_1
  refine lv_lstore_n (lv' := [(0, .long y_1)]) F.1 F.2.1 dJ13_bitCount_95d88_9 rfl hl (by decide) rfl (fun ls hl => ?_)
  refine lv_lload_n F.1 F.2.1 dJ13_bitCount_95d88_10 rfl (lv_at hl 0 rfl) ?_
  refine lv_ldc2 (v := (3689348814741910323 : Int64)) F.1 F.2.1 F.2.2.2.1 (F.2.2.2.2 _ uJ13_bitCount_95d88_2) dJ13_bitCount_95d88_11 ?_
  refine lv_land F.1 F.2.1 dJ13_bitCount_95d88_14 ?_
  refine lv_lload_n F.1 F.2.1 dJ13_bitCount_95d88_15 rfl (lv_at hl 0 rfl) ?_
  refine lv_iconst (v := (2 : Int32)) F.1 F.2.1 dJ13_bitCount_95d88_16 (by decide) ?_
  refine lv_lushr F.1 F.2.1 dJ13_bitCount_95d88_17 rfl ?_
  refine lv_ldc2 (v := (3689348814741910323 : Int64)) F.1 F.2.1 F.2.2.2.1 (F.2.2.2.2 _ uJ13_bitCount_95d88_2) dJ13_bitCount_95d88_18 ?_
  refine lv_land F.1 F.2.1 dJ13_bitCount_95d88_21 ?_
  refine lv_ladd F.1 F.2.1 dJ13_bitCount_95d88_22 ?_
  refine lv_topl (fun y_2 ey_2 => ?_)
  have h := h y_2 ey_2
  refine lv_lstore_n (lv' := [(0, .long y_2)]) F.1 F.2.1 dJ13_bitCount_95d88_23 rfl hl (by decide) rfl (fun ls hl => ?_)
  refine lv_lload_n F.1 F.2.1 dJ13_bitCount_95d88_24 rfl (lv_at hl 0 rfl) ?_
  refine lv_lload_n F.1 F.2.1 dJ13_bitCount_95d88_25 rfl (lv_at hl 0 rfl) ?_
  refine lv_iconst (v := (4 : Int32)) F.1 F.2.1 dJ13_bitCount_95d88_26 (by decide) ?_
  refine lv_lushr F.1 F.2.1 dJ13_bitCount_95d88_27 rfl ?_
  refine lv_ladd F.1 F.2.1 dJ13_bitCount_95d88_28 ?_
  refine lv_ldc2 (v := (1085102592571150095 : Int64)) F.1 F.2.1 F.2.2.2.1 (F.2.2.2.2 _ uJ13_bitCount_95d88_3) dJ13_bitCount_95d88_29 ?_
  refine lv_land F.1 F.2.1 dJ13_bitCount_95d88_32 ?_
  refine lv_topl (fun y_3 ey_3 => ?_)
  have h := h y_3 ey_3
  refine lv_lstore_n (lv' := [(0, .long y_3)]) F.1 F.2.1 dJ13_bitCount_95d88_33 rfl hl (by decide) rfl (fun ls hl => ?_)
  refine lv_lload_n F.1 F.2.1 dJ13_bitCount_95d88_34 rfl (lv_at hl 0 rfl) ?_
  refine lv_lload_n F.1 F.2.1 dJ13_bitCount_95d88_35 rfl (lv_at hl 0 rfl) ?_
  refine lv_bipush (v := (8 : Int32)) F.1 F.2.1 dJ13_bitCount_95d88_36 (by decide) ?_
  refine lv_lushr F.1 F.2.1 dJ13_bitCount_95d88_38 rfl ?_
  refine lv_ladd F.1 F.2.1 dJ13_bitCount_95d88_39 ?_
  refine lv_topl (fun y_4 ey_4 => ?_)
  have h := h y_4 ey_4
  refine lv_lstore_n (lv' := [(0, .long y_4)]) F.1 F.2.1 dJ13_bitCount_95d88_40 rfl hl (by decide) rfl (fun ls hl => ?_)
  refine lv_lload_n F.1 F.2.1 dJ13_bitCount_95d88_41 rfl (lv_at hl 0 rfl) ?_
  refine lv_lload_n F.1 F.2.1 dJ13_bitCount_95d88_42 rfl (lv_at hl 0 rfl) ?_
  refine lv_bipush (v := (16 : Int32)) F.1 F.2.1 dJ13_bitCount_95d88_43 (by decide) ?_
  refine lv_lushr F.1 F.2.1 dJ13_bitCount_95d88_45 rfl ?_
  refine lv_ladd F.1 F.2.1 dJ13_bitCount_95d88_46 ?_
  refine lv_topl (fun y_5 ey_5 => ?_)
  have h := h y_5 ey_5
  refine lv_lstore_n (lv' := [(0, .long y_5)]) F.1 F.2.1 dJ13_bitCount_95d88_47 rfl hl (by decide) rfl (fun ls hl => ?_)
  refine lv_lload_n F.1 F.2.1 dJ13_bitCount_95d88_48 rfl (lv_at hl 0 rfl) ?_
  refine lv_lload_n F.1 F.2.1 dJ13_bitCount_95d88_49 rfl (lv_at hl 0 rfl) ?_
  refine lv_bipush (v := (32 : Int32)) F.1 F.2.1 dJ13_bitCount_95d88_50 (by decide) ?_
  refine lv_lushr F.1 F.2.1 dJ13_bitCount_95d88_52 rfl ?_
  refine lv_ladd F.1 F.2.1 dJ13_bitCount_95d88_53 ?_
  refine lv_topl (fun y_6 ey_6 => ?_)
  have h := h y_6 ey_6
  refine lv_lstore_n (lv' := [(0, .long y_6)]) F.1 F.2.1 dJ13_bitCount_95d88_54 rfl hl (by decide) rfl (fun ls hl => ?_)
  refine lv_lload_n F.1 F.2.1 dJ13_bitCount_95d88_55 rfl (lv_at hl 0 rfl) ?_
  refine lv_l2i F.1 F.2.1 dJ13_bitCount_95d88_56 rfl ?_
  refine lv_bipush (v := (127 : Int32)) F.1 F.2.1 dJ13_bitCount_95d88_57 (by decide) ?_
  refine lv_iand F.1 F.2.1 dJ13_bitCount_95d88_59 ?_
  exact hret _ _ _ h dJ13_bitCount_95d88_60
theorem mJ13_bitCount_95d88 {l : Launch} {D : va_G} {cI cJ cZ : ClassId}  {a0 : Int64} {Q : Int32 → Prop} (h : wJ13_bitCount_95d88 a0 Q) : Met l yJ13_bitCount_95d88 wsJ13_bitCount_95d88 rJ13_bitCount_95d88 (va_Pc [.long a0] (rp D cI cJ cZ [])) (vp_Si Q) 0 0 (fun _ => False) :=
  enter_i (by decide +kernel) rfl (Nat.le_of_ble_eq_true rfl) (fun p e s m args below meth c QQ F hz hret => bJ13_bitCount_95d88 F hz.1 hz.2 hret h)
abbrev rJ9_floorDiv_7cf53 : Room := { frames := 0, cells := 0, slots := 0, locals := 0 }
theorem kS_J9_floorDiv_7cf53 : yJ9_floorDiv_7cf53.cls ≠ "java/lang/invoke/MethodHandle" ∧ yJ9_floorDiv_7cf53.cls ≠ "java/lang/invoke/VarHandle" ∧ (parseMethodDescriptor yJ9_floorDiv_7cf53.desc).map (fun d => d.parameters.length) = some 2 := by decide +kernel
set_option maxRecDepth 100000 in
theorem bJ9_floorDiv_7cf53 {a0 : Int32} {a1 : Int32} {Q : Int32 → Prop} (F : CallFix p m c cJ9_floorDiv_7cf53 3 s args wsJ9_floorDiv_7cf53 RJ9) (hz : gz D cI cJ cZ s) (hP : va_P D vwCl [] s.heap) (hret : ∀ (v : Int32) (pc : Nat) (ls : Array Slot), Q v → decode cJ9_floorDiv_7cf53 pc = .ok (.ireturn, 1) → W p l e rJ9_floorDiv_7cf53 s m args below meth c s.heap [] 0 0 QQ (F0 m pc ls [.int v])) (h : wJ9_floorDiv_7cf53 a0 a1 Q) : ∀ ls : Array Slot, lv_has ls 3 [(0, .int a0), (1, .int a1)] → W p l e rJ9_floorDiv_7cf53 s m args below meth c s.heap [] 0 0 QQ (F0 m 0 ls []) := by
  intro ls hl
  refine lv_iload_n F.1 F.2.1 dJ9_floorDiv_7cf53_0 rfl (lv_at hl 0 rfl) ?_
  refine lv_iload_n F.1 F.2.1 dJ9_floorDiv_7cf53_1 rfl (lv_at hl 1 rfl) ?_
  refine lv_idiv F.1 F.2.1 dJ9_floorDiv_7cf53_2 h.1 ?_
  have h := h.2
  refine lv_istore_n (lv' := [(2, .int (a0 / a1)), (0, .int a0), (1, .int a1)]) F.1 F.2.1 dJ9_floorDiv_7cf53_3 rfl hl (by decide) rfl (fun ls hl => ?_)
  refine lv_iload_n F.1 F.2.1 dJ9_floorDiv_7cf53_4 rfl (lv_at hl 1 rfl) ?_
  refine lv_iload_n F.1 F.2.1 dJ9_floorDiv_7cf53_5 rfl (lv_at hl 2 rfl) ?_
  refine lv_ixor F.1 F.2.1 dJ9_floorDiv_7cf53_6 ?_
  refine lv_if_ge (tgt := 21) F.1 F.2.1 dJ9_floorDiv_7cf53_7 (by decide) (fun hc => ?_) (fun hc => ?_)
  · have h := h.1 (hc)
    refine lv_iload_n F.1 F.2.1 dJ9_floorDiv_7cf53_21 rfl (lv_at hl 0 rfl) ?_
    exact hret _ _ _ h dJ9_floorDiv_7cf53_22
  · have h := h.2 hc
    refine lv_iload_n F.1 F.2.1 dJ9_floorDiv_7cf53_10 rfl (lv_at hl 0 rfl) ?_
    refine lv_iload_n F.1 F.2.1 dJ9_floorDiv_7cf53_11 rfl (lv_at hl 2 rfl) ?_
    refine lv_imul F.1 F.2.1 dJ9_floorDiv_7cf53_12 ?_
    refine lv_iload_n F.1 F.2.1 dJ9_floorDiv_7cf53_13 rfl (lv_at hl 1 rfl) ?_
    refine lv_icmp_eq (tgt := 21) F.1 F.2.1 dJ9_floorDiv_7cf53_14 (by decide) (fun hc => ?_) (fun hc => ?_)
    · have h := h.1 (hc)
      refine lv_iload_n F.1 F.2.1 dJ9_floorDiv_7cf53_21 rfl (lv_at hl 0 rfl) ?_
      exact hret _ _ _ h dJ9_floorDiv_7cf53_22
    · have h := h.2 hc
      refine lv_iload_n F.1 F.2.1 dJ9_floorDiv_7cf53_17 rfl (lv_at hl 0 rfl) ?_
      refine lv_iconst (v := (1 : Int32)) F.1 F.2.1 dJ9_floorDiv_7cf53_18 (by decide) ?_
      refine lv_isub F.1 F.2.1 dJ9_floorDiv_7cf53_19 ?_
      exact hret _ _ _ h dJ9_floorDiv_7cf53_20
theorem mJ9_floorDiv_7cf53 {l : Launch} {D : va_G} {cI cJ cZ : ClassId}  {a0 : Int32} {a1 : Int32} {Q : Int32 → Prop} (h : wJ9_floorDiv_7cf53 a0 a1 Q) : Met l yJ9_floorDiv_7cf53 wsJ9_floorDiv_7cf53 rJ9_floorDiv_7cf53 (va_Pc [.int a0, .int a1] (rp D cI cJ cZ [])) (vp_Si Q) 0 0 (fun _ => False) :=
  enter_i (by decide +kernel) rfl (Nat.le_of_ble_eq_true rfl) (fun p e s m args below meth c QQ F hz hret => bJ9_floorDiv_7cf53 F hz.1 hz.2 hret h)
abbrev rJ9_floorMod_7cf53 : Room := { frames := 0, cells := 0, slots := 0, locals := 0 }
theorem kS_J9_floorMod_7cf53 : yJ9_floorMod_7cf53.cls ≠ "java/lang/invoke/MethodHandle" ∧ yJ9_floorMod_7cf53.cls ≠ "java/lang/invoke/VarHandle" ∧ (parseMethodDescriptor yJ9_floorMod_7cf53.desc).map (fun d => d.parameters.length) = some 2 := by decide +kernel
set_option maxRecDepth 100000 in
theorem bJ9_floorMod_7cf53 {a0 : Int32} {a1 : Int32} {Q : Int32 → Prop} (F : CallFix p m c cJ9_floorMod_7cf53 3 s args wsJ9_floorMod_7cf53 RJ9) (hz : gz D cI cJ cZ s) (hP : va_P D vwCl [] s.heap) (hret : ∀ (v : Int32) (pc : Nat) (ls : Array Slot), Q v → decode cJ9_floorMod_7cf53 pc = .ok (.ireturn, 1) → W p l e rJ9_floorMod_7cf53 s m args below meth c s.heap [] 0 0 QQ (F0 m pc ls [.int v])) (h : wJ9_floorMod_7cf53 a0 a1 Q) : ∀ ls : Array Slot, lv_has ls 3 [(0, .int a0), (1, .int a1)] → W p l e rJ9_floorMod_7cf53 s m args below meth c s.heap [] 0 0 QQ (F0 m 0 ls []) := by
  intro ls hl
  refine lv_iload_n F.1 F.2.1 dJ9_floorMod_7cf53_0 rfl (lv_at hl 0 rfl) ?_
  refine lv_iload_n F.1 F.2.1 dJ9_floorMod_7cf53_1 rfl (lv_at hl 1 rfl) ?_
  refine lv_irem F.1 F.2.1 dJ9_floorMod_7cf53_2 h.1 ?_
  have h := h.2
  refine lv_istore_n (lv' := [(2, .int (a0 - a0 / a1 * a1)), (0, .int a0), (1, .int a1)]) F.1 F.2.1 dJ9_floorMod_7cf53_3 rfl hl (by decide) rfl (fun ls hl => ?_)
  refine lv_iload_n F.1 F.2.1 dJ9_floorMod_7cf53_4 rfl (lv_at hl 1 rfl) ?_
  refine lv_iload_n F.1 F.2.1 dJ9_floorMod_7cf53_5 rfl (lv_at hl 2 rfl) ?_
  refine lv_ixor F.1 F.2.1 dJ9_floorMod_7cf53_6 ?_
  refine lv_if_ge (tgt := 18) F.1 F.2.1 dJ9_floorMod_7cf53_7 (by decide) (fun hc => ?_) (fun hc => ?_)
  · have h := h.1 (hc)
    refine lv_iload_n F.1 F.2.1 dJ9_floorMod_7cf53_18 rfl (lv_at hl 0 rfl) ?_
    exact hret _ _ _ h dJ9_floorMod_7cf53_19
  · have h := h.2 hc
    refine lv_iload_n F.1 F.2.1 dJ9_floorMod_7cf53_10 rfl (lv_at hl 0 rfl) ?_
    refine lv_if_eq (tgt := 18) F.1 F.2.1 dJ9_floorMod_7cf53_11 (by decide) (fun hc => ?_) (fun hc => ?_)
    · have h := h.1 (hc)
      refine lv_iload_n F.1 F.2.1 dJ9_floorMod_7cf53_18 rfl (lv_at hl 0 rfl) ?_
      exact hret _ _ _ h dJ9_floorMod_7cf53_19
    · have h := h.2 hc
      refine lv_iload_n F.1 F.2.1 dJ9_floorMod_7cf53_14 rfl (lv_at hl 0 rfl) ?_
      refine lv_iload_n F.1 F.2.1 dJ9_floorMod_7cf53_15 rfl (lv_at hl 2 rfl) ?_
      refine lv_iadd F.1 F.2.1 dJ9_floorMod_7cf53_16 ?_
      exact hret _ _ _ h dJ9_floorMod_7cf53_17
theorem mJ9_floorMod_7cf53 {l : Launch} {D : va_G} {cI cJ cZ : ClassId}  {a0 : Int32} {a1 : Int32} {Q : Int32 → Prop} (h : wJ9_floorMod_7cf53 a0 a1 Q) : Met l yJ9_floorMod_7cf53 wsJ9_floorMod_7cf53 rJ9_floorMod_7cf53 (va_Pc [.int a0, .int a1] (rp D cI cJ cZ [])) (vp_Si Q) 0 0 (fun _ => False) :=
  enter_i (by decide +kernel) rfl (Nat.le_of_ble_eq_true rfl) (fun p e s m args below meth c QQ F hz hret => bJ9_floorMod_7cf53 F hz.1 hz.2 hret h)
end WALKS
