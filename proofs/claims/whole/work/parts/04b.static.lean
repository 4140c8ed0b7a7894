/-! THE WALKS of static, printed by wip/whole/gen.py -/
section WALKS
variable {p : Program} {l : Launch} {e : Env} {s : State} {m : MethodId} {args : Array Value} {below : List Frame} {meth : Method} {c : Code} {QQ : State → Prop} {A : Nat → Prop} {D : va_G} {cI cJ cZ : ClassId} {ad : Nat → Nat}
abbrev rX5_isIn : Room := { frames := 0, cells := 0, slots := 0, locals := 0 }
theorem kS_X5_isIn : yX5_isIn.cls ≠ "java/lang/invoke/MethodHandle" ∧ yX5_isIn.cls ≠ "java/lang/invoke/VarHandle" ∧ (parseMethodDescriptor yX5_isIn.desc).map (fun d => d.parameters.length) = some 3 := by decide +kernel
set_option maxRecDepth 100000 in
theorem bX5_isIn {a0 : Int32} {a1 : Int32} {a2 : Int32} {Q : Int32 → Prop} (F : CallFix p m c cX5_isIn 3 s args wsX5_isIn RX5) (hz : gz D cI cJ cZ s) (hP : va_P D vwCl [] s.heap) (hret : ∀ (v : Int32) (pc : Nat) (ls : Array Slot), narrow .boolean (.int v) = .int v → Q v → decode cX5_isIn pc = .ok (.ireturn, 1) → W p l e rX5_isIn s m args below meth c s.heap [] 0 0 QQ (F0 m pc ls [.int v])) (h : wX5_isIn a0 a1 a2 Q) : ∀ ls : Array Slot, lv_has ls 3 [(0, .int a0), (1, .int a1), (2, .int a2)] → W p l e rX5_isIn s m args below meth c s.heap [] 0 0 QQ (F0 m 0 ls []) := by
  intro ls hl
  refine lv_iload_n F.1 F.2.1 dX5_isIn_0 rfl (lv_at hl 0 rfl) ?_
  refine lv_iload_n F.1 F.2.1 dX5_isIn_1 rfl (lv_at hl 1 rfl) ?_
  refine lv_icmp_lt (tgt := 14) F.1 F.2.1 dX5_isIn_2 (by decide) (fun hc => ?_) (fun hc => ?_)
  · have h := h.1 (hc)
    refine lv_iconst (v := (0 : Int32)) F.1 F.2.1 dX5_isIn_14 (by decide) ?_
    exact hret _ _ _ nr_0 h dX5_isIn_15
  · have h := h.2 hc
    refine lv_iload_n F.1 F.2.1 dX5_isIn_5 rfl (lv_at hl 0 rfl) ?_
    refine lv_iload_n F.1 F.2.1 dX5_isIn_6 rfl (lv_at hl 2 rfl) ?_
    refine lv_icmp_gt (tgt := 14) F.1 F.2.1 dX5_isIn_7 (by decide) (fun hc => ?_) (fun hc => ?_)
    · have h := h.1 (hc)
      refine lv_iconst (v := (0 : Int32)) F.1 F.2.1 dX5_isIn_14 (by decide) ?_
      exact hret _ _ _ nr_0 h dX5_isIn_15
    · have h := h.2 hc
      refine lv_iconst (v := (1 : Int32)) F.1 F.2.1 dX5_isIn_10 (by decide) ?_
      refine lv_goto (tgt := 15) F.1 F.2.1 dX5_isIn_11 (by decide) ?_
      exact hret _ _ _ nr_1 h dX5_isIn_15
theorem mX5_isIn {l : Launch} {D : va_G} {cI cJ cZ : ClassId}  {a0 : Int32} {a1 : Int32} {a2 : Int32} {Q : Int32 → Prop} (h : wX5_isIn a0 a1 a2 Q) : Met l yX5_isIn wsX5_isIn rX5_isIn (va_Pc [.int a0, .int a1, .int a2] (rp D cI cJ cZ [])) (vp_Si (qb Q)) 0 0 (fun _ => False) :=
  enter_z (by decide +kernel) rfl (Nat.le_of_ble_eq_true rfl) (fun p e s m args below meth c QQ F hz hret => bX5_isIn F hz.1 hz.2 hret h)
abbrev rX5_isTop : Room := { frames := 1, cells := 0, slots := 0, locals := 22 }
theorem kS_X5_isTop : yX5_isTop.cls ≠ "java/lang/invoke/MethodHandle" ∧ yX5_isTop.cls ≠ "java/lang/invoke/VarHandle" ∧ (parseMethodDescriptor yX5_isTop.desc).map (fun d => d.parameters.length) = some 1 := by decide +kernel
set_option maxRecDepth 100000 in
theorem bX5_isTop {a0 : Int32} {Q : Int32 → Prop} (F : CallFix p m c cX5_isTop 1 s args wsX5_isTop RX5) (hz : gz D cI cJ cZ s) (hP : va_P D vwCl [] s.heap) (hret : ∀ (v : Int32) (pc : Nat) (ls : Array Slot), narrow .boolean (.int v) = .int v → Q v → decode cX5_isTop pc = .ok (.ireturn, 1) → W p l e rX5_isTop s m args below meth c s.heap [] 0 0 QQ (F0 m pc ls [.int v])) (h : wX5_isTop a0 Q) : ∀ ls : Array Slot, lv_has ls 1 [(0, .int a0)] → W p l e rX5_isTop s m args below meth c s.heap [] 0 0 QQ (F0 m 0 ls []) := by
  intro ls hl
  refine lv_iload_n F.1 F.2.1 dX5_isTop_0 rfl (lv_at hl 0 rfl) ?_
  refine lv_bipush (v := (-99 : Int32)) F.1 F.2.1 dX5_isTop_1 (by decide) ?_
  refine lv_bipush (v := (99 : Int32)) F.1 F.2.1 dX5_isTop_3 (by decide) ?_
  refine vp_callSi (va_Run.run (va_runS (As := [.int a0, .int (-99 : Int32), .int (99 : Int32)]) (rest := []) F (mX5_isIn (l := l) (D := D) (cI := cI) (cJ := cJ) (cZ := cZ) h) (va_cwS 3 F.2.2.2.2 gX5_isTop_X5_isIn rfl rfl rfl kS_X5_isIn ⟨Nat.le_of_ble_eq_true rfl, Nat.le_of_ble_eq_true rfl⟩) ⟨rp_blind, rp_pre hz (hP.sub (ws' := []) [] rfl) [.int a0, .int (-99 : Int32), .int (99 : Int32)]⟩ rfl rfl hl.1 rfl (lv_room (Nat.le_of_ble_eq_true rfl)) dX5_isTop_5 ⟨Nat.le_of_ble_eq_true rfl, Nat.le_of_ble_eq_true rfl⟩)) (fun r_1 h => ?_)
  obtain ⟨hbr_1, h⟩ := h
  exact hret _ _ _ hbr_1 h dX5_isTop_8
theorem mX5_isTop {l : Launch} {D : va_G} {cI cJ cZ : ClassId}  {a0 : Int32} {Q : Int32 → Prop} (h : wX5_isTop a0 Q) : Met l yX5_isTop wsX5_isTop rX5_isTop (va_Pc [.int a0] (rp D cI cJ cZ [])) (vp_Si (qb Q)) 0 0 (fun _ => False) :=
  enter_z (by decide +kernel) rfl (Nat.le_of_ble_eq_true rfl) (fun p e s m args below meth c QQ F hz hret => bX5_isTop F hz.1 hz.2 hret h)
abbrev rX5_isBase : Room := { frames := 1, cells := 0, slots := 0, locals := 22 }
theorem kS_X5_isBase : yX5_isBase.cls ≠ "java/lang/invoke/MethodHandle" ∧ yX5_isBase.cls ≠ "java/lang/invoke/VarHandle" ∧ (parseMethodDescriptor yX5_isBase.desc).map (fun d => d.parameters.length) = some 1 := by decide +kernel
set_option maxRecDepth 100000 in
theorem bX5_isBase {a0 : Int32} {Q : Int32 → Prop} (F : CallFix p m c cX5_isBase 1 s args wsX5_isBase RX5) (hz : gz D cI cJ cZ s) (hP : va_P D vwCl [] s.heap) (hret : ∀ (v : Int32) (pc : Nat) (ls : Array Slot), narrow .boolean (.int v) = .int v → Q v → decode cX5_isBase pc = .ok (.ireturn, 1) → W p l e rX5_isBase s m args below meth c s.heap [] 0 0 QQ (F0 m pc ls [.int v])) (h : wX5_isBase a0 Q) : ∀ ls : Array Slot, lv_has ls 1 [(0, .int a0)] → W p l e rX5_isBase s m args below meth c s.heap [] 0 0 QQ (F0 m 0 ls []) := by
  intro ls hl
  refine lv_iload_n F.1 F.2.1 dX5_isBase_0 rfl (lv_at hl 0 rfl) ?_
  refine lv_iconst (v := (0 : Int32)) F.1 F.2.1 dX5_isBase_1 (by decide) ?_
  refine lv_bipush (v := (9 : Int32)) F.1 F.2.1 dX5_isBase_2 (by decide) ?_
  refine vp_callSi (va_Run.run (va_runS (As := [.int a0, .int (0 : Int32), .int (9 : Int32)]) (rest := []) F (mX5_isIn (l := l) (D := D) (cI := cI) (cJ := cJ) (cZ := cZ) h) (va_cwS 3 F.2.2.2.2 gX5_isBase_X5_isIn rfl rfl rfl kS_X5_isIn ⟨Nat.le_of_ble_eq_true rfl, Nat.le_of_ble_eq_true rfl⟩) ⟨rp_blind, rp_pre hz (hP.sub (ws' := []) [] rfl) [.int a0, .int (0 : Int32), .int (9 : Int32)]⟩ rfl rfl hl.1 rfl (lv_room (Nat.le_of_ble_eq_true rfl)) dX5_isBase_4 ⟨Nat.le_of_ble_eq_true rfl, Nat.le_of_ble_eq_true rfl⟩)) (fun r_1 h => ?_)
  obtain ⟨hbr_1, h⟩ := h
  exact hret _ _ _ hbr_1 h dX5_isBase_7
theorem mX5_isBase {l : Launch} {D : va_G} {cI cJ cZ : ClassId}  {a0 : Int32} {Q : Int32 → Prop} (h : wX5_isBase a0 Q) : Met l yX5_isBase wsX5_isBase rX5_isBase (va_Pc [.int a0] (rp D cI cJ cZ [])) (vp_Si (qb Q)) 0 0 (fun _ => False) :=
  enter_z (by decide +kernel) rfl (Nat.le_of_ble_eq_true rfl) (fun p e s m args below meth c QQ F hz hret => bX5_isBase F hz.1 hz.2 hret h)
abbrev rX5_isMember : Room := { frames := 1, cells := 0, slots := 0, locals := 22 }
theorem kS_X5_isMember : yX5_isMember.cls ≠ "java/lang/invoke/MethodHandle" ∧ yX5_isMember.cls ≠ "java/lang/invoke/VarHandle" ∧ (parseMethodDescriptor yX5_isMember.desc).map (fun d => d.parameters.length) = some 1 := by decide +kernel
set_option maxRecDepth 100000 in
theorem bX5_isMember {a0 : Int32} {Q : Int32 → Prop} (F : CallFix p m c cX5_isMember 1 s args wsX5_isMember RX5) (hz : gz D cI cJ cZ s) (hP : va_P D vwCl [] s.heap) (hret : ∀ (v : Int32) (pc : Nat) (ls : Array Slot), narrow .boolean (.int v) = .int v → Q v → decode cX5_isMember pc = .ok (.ireturn, 1) → W p l e rX5_isMember s m args below meth c s.heap [] 0 0 QQ (F0 m pc ls [.int v])) (h : wX5_isMember a0 Q) : ∀ ls : Array Slot, lv_has ls 1 [(0, .int a0)] → W p l e rX5_isMember s m args below meth c s.heap [] 0 0 QQ (F0 m 0 ls []) := by
  intro ls hl
  refine lv_iload_n F.1 F.2.1 dX5_isMember_0 rfl (lv_at hl 0 rfl) ?_
  refine lv_iconst (v := (0 : Int32)) F.1 F.2.1 dX5_isMember_1 (by decide) ?_
  refine lv_bipush (v := (63 : Int32)) F.1 F.2.1 dX5_isMember_2 (by decide) ?_
  refine vp_callSi (va_Run.run (va_runS (As := [.int a0, .int (0 : Int32), .int (63 : Int32)]) (rest := []) F (mX5_isIn (l := l) (D := D) (cI := cI) (cJ := cJ) (cZ := cZ) h) (va_cwS 3 F.2.2.2.2 gX5_isMember_X5_isIn rfl rfl rfl kS_X5_isIn ⟨Nat.le_of_ble_eq_true rfl, Nat.le_of_ble_eq_true rfl⟩) ⟨rp_blind, rp_pre hz (hP.sub (ws' := []) [] rfl) [.int a0, .int (0 : Int32), .int (63 : Int32)]⟩ rfl rfl hl.1 rfl (lv_room (Nat.le_of_ble_eq_true rfl)) dX5_isMember_4 ⟨Nat.le_of_ble_eq_true rfl, Nat.le_of_ble_eq_true rfl⟩)) (fun r_1 h => ?_)
  obtain ⟨hbr_1, h⟩ := h
  exact hret _ _ _ hbr_1 h dX5_isMember_7
theorem mX5_isMember {l : Launch} {D : va_G} {cI cJ cZ : ClassId}  {a0 : Int32} {Q : Int32 → Prop} (h : wX5_isMember a0 Q) : Met l yX5_isMember wsX5_isMember rX5_isMember (va_Pc [.int a0] (rp D cI cJ cZ [])) (vp_Si (qb Q)) 0 0 (fun _ => False) :=
  enter_z (by decide +kernel) rfl (Nat.le_of_ble_eq_true rfl) (fun p e s m args below meth c QQ F hz hret => bX5_isMember F hz.1 hz.2 hret h)
abbrev rX5_isCost : Room := { frames := 1, cells := 0, slots := 0, locals := 22 }
theorem kS_X5_isCost : yX5_isCost.cls ≠ "java/lang/invoke/MethodHandle" ∧ yX5_isCost.cls ≠ "java/lang/invoke/VarHandle" ∧ (parseMethodDescriptor yX5_isCost.desc).map (fun d => d.parameters.length) = some 1 := by decide +kernel
set_option maxRecDepth 100000 in
theorem bX5_isCost {a0 : Int32} {Q : Int32 → Prop} (F : CallFix p m c cX5_isCost 1 s args wsX5_isCost RX5) (hz : gz D cI cJ cZ s) (hP : va_P D vwCl [] s.heap) (hret : ∀ (v : Int32) (pc : Nat) (ls : Array Slot), narrow .boolean (.int v) = .int v → Q v → decode cX5_isCost pc = .ok (.ireturn, 1) → W p l e rX5_isCost s m args below meth c s.heap [] 0 0 QQ (F0 m pc ls [.int v])) (h : wX5_isCost a0 Q) : ∀ ls : Array Slot, lv_has ls 1 [(0, .int a0)] → W p l e rX5_isCost s m args below meth c s.heap [] 0 0 QQ (F0 m 0 ls []) := by
  intro ls hl
  refine lv_iload_n F.1 F.2.1 dX5_isCost_0 rfl (lv_at hl 0 rfl) ?_
  refine lv_iconst (v := (0 : Int32)) F.1 F.2.1 dX5_isCost_1 (by decide) ?_
  refine lv_sipush (v := (1000 : Int32)) F.1 F.2.1 dX5_isCost_2 (by decide) ?_
  refine vp_callSi (va_Run.run (va_runS (As := [.int a0, .int (0 : Int32), .int (1000 : Int32)]) (rest := []) F (mX5_isIn (l := l) (D := D) (cI := cI) (cJ := cJ) (cZ := cZ) h) (va_cwS 3 F.2.2.2.2 gX5_isCost_X5_isIn rfl rfl rfl kS_X5_isIn ⟨Nat.le_of_ble_eq_true rfl, Nat.le_of_ble_eq_true rfl⟩) ⟨rp_blind, rp_pre hz (hP.sub (ws' := []) [] rfl) [.int a0, .int (0 : Int32), .int (1000 : Int32)]⟩ rfl rfl hl.1 rfl (lv_room (Nat.le_of_ble_eq_true rfl)) dX5_isCost_5 ⟨Nat.le_of_ble_eq_true rfl, Nat.le_of_ble_eq_true rfl⟩)) (fun r_1 h => ?_)
  obtain ⟨hbr_1, h⟩ := h
  exact hret _ _ _ hbr_1 h dX5_isCost_8
theorem mX5_isCost {l : Launch} {D : va_G} {cI cJ cZ : ClassId}  {a0 : Int32} {Q : Int32 → Prop} (h : wX5_isCost a0 Q) : Met l yX5_isCost wsX5_isCost rX5_isCost (va_Pc [.int a0] (rp D cI cJ cZ [])) (vp_Si (qb Q)) 0 0 (fun _ => False) :=
  enter_z (by decide +kernel) rfl (Nat.le_of_ble_eq_true rfl) (fun p e s m args below meth c QQ F hz hret => bX5_isCost F hz.1 hz.2 hret h)
abbrev rX1_has : Room := { frames := 1, cells := 0, slots := 0, locals := 22 }
theorem kS_X1_has : yX1_has.cls ≠ "java/lang/invoke/MethodHandle" ∧ yX1_has.cls ≠ "java/lang/invoke/VarHandle" ∧ (parseMethodDescriptor yX1_has.desc).map (fun d => d.parameters.length) = some 1 := by decide +kernel
theorem uX1_has_2 : Cond.initialized RX5 ∈ wsX1_has := List.mem_of_getElem? (i := 2) rfl
theorem uX1_has_1 : Cond.static yX5_isIn ∈ wsX1_has := List.mem_of_getElem? (i := 1) rfl
set_option maxRecDepth 100000 in
theorem bX1_has {a0 : Int32} {Q : Int32 → Prop} (F : CallFix p m c cX1_has 1 s args wsX1_has RX1) (hz : gz D cI cJ cZ s) (hP : va_P D vwCl [] s.heap) (hret : ∀ (v : Int32) (pc : Nat) (ls : Array Slot), narrow .boolean (.int v) = .int v → Q v → decode cX1_has pc = .ok (.ireturn, 1) → W p l e rX1_has s m args below meth c s.heap [] 0 0 QQ (F0 m pc ls [.int v])) (h : wX1_has a0 Q) : ∀ ls : Array Slot, lv_has ls 1 [(0, .int a0)] → W p l e rX1_has s m args below meth c s.heap [] 0 0 QQ (F0 m 0 ls []) := by
  intro ls hl
  refine lv_iload_n F.1 F.2.1 dX1_has_0 rfl (lv_at hl 0 rfl) ?_
  refine lv_iconst (v := (0 : Int32)) F.1 F.2.1 dX1_has_1 (by decide) ?_
  refine lv_sipush (v := (728 : Int32)) F.1 F.2.1 dX1_has_2 (by decide) ?_
  refine vp_callSi (va_Run.run (va_runSN (As := [.int a0, .int (0 : Int32), .int (728 : Int32)]) (rest := []) F (mX5_isIn (l := l) (D := D) (cI := cI) (cJ := cJ) (cZ := cZ) h) ⟨va_cnB 3 F.2.2.2.2 gX1_has_X5_isIn_n9 rfl rfl rfl hz.2.1 (F.2.2.2.2 _ uX1_has_2) kS_X5_isIn ⟨Nat.le_of_ble_eq_true rfl, Nat.le_of_ble_eq_true rfl⟩, (F.2.2.2.2 _ uX1_has_1), trivial⟩ ⟨rp_blind, rp_pre hz (hP.sub (ws' := []) [] rfl) [.int a0, .int (0 : Int32), .int (728 : Int32)]⟩ rfl rfl hl.1 rfl (lv_room (Nat.le_of_ble_eq_true rfl)) dX1_has_5 ⟨Nat.le_of_ble_eq_true rfl, Nat.le_of_ble_eq_true rfl⟩)) (fun r_1 h => ?_)
  obtain ⟨hbr_1, h⟩ := h
  exact hret _ _ _ hbr_1 h dX1_has_8
theorem mX1_has {l : Launch} {D : va_G} {cI cJ cZ : ClassId}  {a0 : Int32} {Q : Int32 → Prop} (h : wX1_has a0 Q) : Met l yX1_has wsX1_has rX1_has (va_Pc [.int a0] (rp D cI cJ cZ [])) (vp_Si (qb Q)) 0 0 (fun _ => False) :=
  enter_z (by decide +kernel) rfl (Nat.le_of_ble_eq_true rfl) (fun p e s m args below meth c QQ F hz hret => bX1_has F hz.1 hz.2 hret h)
abbrev rX1_digit : Room := { frames := 0, cells := 0, slots := 0, locals := 0 }
theorem kS_X1_digit : yX1_digit.cls ≠ "java/lang/invoke/MethodHandle" ∧ yX1_digit.cls ≠ "java/lang/invoke/VarHandle" ∧ (parseMethodDescriptor yX1_digit.desc).map (fun d => d.parameters.length) = some 2 := by decide +kernel
set_option maxRecDepth 100000 in
theorem bX1_digit {a0 : Int32} {a1 : Int32} {Q : Int32 → Prop} (F : CallFix p m c cX1_digit 2 s args wsX1_digit RX1) (hz : gz D cI cJ cZ s) (hP : va_P D vwCl [] s.heap) (hret : ∀ (v : Int32) (pc : Nat) (ls : Array Slot), Q v → decode cX1_digit pc = .ok (.ireturn, 1) → W p l e rX1_digit s m args below meth c s.heap [] 0 0 QQ (F0 m pc ls [.int v])) (h : wX1_digit a0 a1 Q) : ∀ ls : Array Slot, lv_has ls 2 [(0, .int a0), (1, .int a1)] → W p l e rX1_digit s m args below meth c s.heap [] 0 0 QQ (F0 m 0 ls []) := by
  intro ls hl
  refine lv_iload_n F.1 F.2.1 dX1_digit_0 rfl (lv_at hl 1 rfl) ?_
  refine lv_if_ne (tgt := 11) F.1 F.2.1 dX1_digit_1 (by decide) (fun hc => ?_) (fun hc => ?_)
  · have h := h.2 hc
    refine lv_iload_n F.1 F.2.1 dX1_digit_11 rfl (lv_at hl 1 rfl) ?_
    refine lv_iconst (v := (1 : Int32)) F.1 F.2.1 dX1_digit_12 (by decide) ?_
    refine lv_icmp_ne (tgt := 26) F.1 F.2.1 dX1_digit_13 (by decide) (fun hc => ?_) (fun hc => ?_)
    · have h := h.2 hc
      refine lv_iload_n F.1 F.2.1 dX1_digit_26 rfl (lv_at hl 0 rfl) ?_
      refine lv_bipush (v := (81 : Int32)) F.1 F.2.1 dX1_digit_27 (by decide) ?_
      refine lv_idiv F.1 F.2.1 dX1_digit_29 (by decide) ?_
      exact hret _ _ _ h dX1_digit_30
    · have h := h.1 (hc)
      refine lv_iload_n F.1 F.2.1 dX1_digit_16 rfl (lv_at hl 0 rfl) ?_
      refine lv_bipush (v := (9 : Int32)) F.1 F.2.1 dX1_digit_17 (by decide) ?_
      refine lv_idiv F.1 F.2.1 dX1_digit_19 (by decide) ?_
      refine lv_bipush (v := (9 : Int32)) F.1 F.2.1 dX1_digit_20 (by decide) ?_
      refine lv_irem F.1 F.2.1 dX1_digit_22 (by decide) ?_
      refine lv_goto (tgt := 30) F.1 F.2.1 dX1_digit_23 (by decide) ?_
      exact hret _ _ _ h dX1_digit_30
  · have h := h.1 (hc)
    refine lv_iload_n F.1 F.2.1 dX1_digit_4 rfl (lv_at hl 0 rfl) ?_
    refine lv_bipush (v := (9 : Int32)) F.1 F.2.1 dX1_digit_5 (by decide) ?_
    refine lv_irem F.1 F.2.1 dX1_digit_7 (by decide) ?_
    refine lv_goto (tgt := 30) F.1 F.2.1 dX1_digit_8 (by decide) ?_
    exact hret _ _ _ h dX1_digit_30
theorem mX1_digit {l : Launch} {D : va_G} {cI cJ cZ : ClassId}  {a0 : Int32} {a1 : Int32} {Q : Int32 → Prop} (h : wX1_digit a0 a1 Q) : Met l yX1_digit wsX1_digit rX1_digit (va_Pc [.int a0, .int a1] (rp D cI cJ cZ [])) (vp_Si Q) 0 0 (fun _ => False) :=
  enter_i (by decide +kernel) rfl (Nat.le_of_ble_eq_true rfl) (fun p e s m args below meth c QQ F hz hret => bX1_digit F hz.1 hz.2 hret h)
abbrev rX1_isOpen : Room := { frames := 2, cells := 0, slots := 0, locals := 42 }
theorem kS_X1_isOpen : yX1_isOpen.cls ≠ "java/lang/invoke/MethodHandle" ∧ yX1_isOpen.cls ≠ "java/lang/invoke/VarHandle" ∧ (parseMethodDescriptor yX1_isOpen.desc).map (fun d => d.parameters.length) = some 2 := by decide +kernel
theorem uX1_isOpen_6 : Cond.initialized RX5 ∈ wsX1_isOpen := List.mem_of_getElem? (i := 6) rfl
theorem uX1_isOpen_5 : Cond.static yX5_isIn ∈ wsX1_isOpen := List.mem_of_getElem? (i := 5) rfl
set_option maxRecDepth 100000 in
theorem bX1_isOpen {a0 : Int32} {a1 : Int32} {Q : Int32 → Prop} (F : CallFix p m c cX1_isOpen 2 s args wsX1_isOpen RX1) (hz : gz D cI cJ cZ s) (hP : va_P D vwCl [] s.heap) (hret : ∀ (v : Int32) (pc : Nat) (ls : Array Slot), narrow .boolean (.int v) = .int v → Q v → decode cX1_isOpen pc = .ok (.ireturn, 1) → W p l e rX1_isOpen s m args below meth c s.heap [] 0 0 QQ (F0 m pc ls [.int v])) (h : wX1_isOpen a0 a1 Q) : ∀ ls : Array Slot, lv_has ls 2 [(0, .int a0), (1, .int a1)] → W p l e rX1_isOpen s m args below meth c s.heap [] 0 0 QQ (F0 m 0 ls []) := by
  intro ls hl
  refine lv_iload_n F.1 F.2.1 dX1_isOpen_0 rfl (lv_at hl 0 rfl) ?_
  refine vp_callSi (va_Run.run (va_runS (As := [.int a0]) (rest := []) F (mX1_has (l := l) (D := D) (cI := cI) (cJ := cJ) (cZ := cZ) h) (va_cwS 1 F.2.2.2.2 gX1_isOpen_X1_has rfl rfl rfl kS_X1_has ⟨Nat.le_of_ble_eq_true rfl, Nat.le_of_ble_eq_true rfl⟩) ⟨rp_blind, rp_pre hz (hP.sub (ws' := []) [] rfl) [.int a0]⟩ rfl rfl hl.1 rfl (lv_room (Nat.le_of_ble_eq_true rfl)) dX1_isOpen_1 ⟨Nat.le_of_ble_eq_true rfl, Nat.le_of_ble_eq_true rfl⟩)) (fun r_1 h => ?_)
  obtain ⟨hbr_1, h⟩ := h
  refine lv_if_eq (tgt := 28) F.1 F.2.1 dX1_isOpen_4 (by decide) (fun hc => ?_) (fun hc => ?_)
  · have h := h.1 (hc)
    refine lv_iconst (v := (0 : Int32)) F.1 F.2.1 dX1_isOpen_28 (by decide) ?_
    exact hret _ _ _ nr_0 h dX1_isOpen_29
  · have h := h.2 hc
    refine lv_iload_n F.1 F.2.1 dX1_isOpen_7 rfl (lv_at hl 1 rfl) ?_
    refine lv_iconst (v := (0 : Int32)) F.1 F.2.1 dX1_isOpen_8 (by decide) ?_
    refine lv_iconst (v := (2 : Int32)) F.1 F.2.1 dX1_isOpen_9 (by decide) ?_
    refine vp_callSi (va_Run.run (va_runSN (As := [.int a1, .int (0 : Int32), .int (2 : Int32)]) (rest := []) F (mX5_isIn (l := l) (D := D) (cI := cI) (cJ := cJ) (cZ := cZ) h) ⟨va_cnB 3 F.2.2.2.2 gX1_isOpen_X5_isIn_n9 rfl rfl rfl hz.2.1 (F.2.2.2.2 _ uX1_isOpen_6) kS_X5_isIn ⟨Nat.le_of_ble_eq_true rfl, Nat.le_of_ble_eq_true rfl⟩, (F.2.2.2.2 _ uX1_isOpen_5), trivial⟩ ⟨rp_blind, rp_pre hz (hP.sub (ws' := []) [] rfl) [.int a1, .int (0 : Int32), .int (2 : Int32)]⟩ rfl rfl hl.1 rfl (lv_room (Nat.le_of_ble_eq_true rfl)) dX1_isOpen_10 ⟨Nat.le_of_ble_eq_true rfl, Nat.le_of_ble_eq_true rfl⟩)) (fun r_2 h => ?_)
    obtain ⟨hbr_2, h⟩ := h
    refine lv_if_eq (tgt := 28) F.1 F.2.1 dX1_isOpen_13 (by decide) (fun hc => ?_) (fun hc => ?_)
    · have h := h.1 (hc)
      refine lv_iconst (v := (0 : Int32)) F.1 F.2.1 dX1_isOpen_28 (by decide) ?_
      exact hret _ _ _ nr_0 h dX1_isOpen_29
    · have h := h.2 hc
      refine lv_iload_n F.1 F.2.1 dX1_isOpen_16 rfl (lv_at hl 0 rfl) ?_
      refine lv_iload_n F.1 F.2.1 dX1_isOpen_17 rfl (lv_at hl 1 rfl) ?_
      refine vp_callSi (va_Run.run (va_runS (As := [.int a0, .int a1]) (rest := []) F (mX1_digit (l := l) (D := D) (cI := cI) (cJ := cJ) (cZ := cZ) h) (va_cwS 2 F.2.2.2.2 gX1_isOpen_X1_digit rfl rfl rfl kS_X1_digit ⟨Nat.le_of_ble_eq_true rfl, Nat.le_of_ble_eq_true rfl⟩) ⟨rp_blind, rp_pre hz (hP.sub (ws' := []) [] rfl) [.int a0, .int a1]⟩ rfl rfl hl.1 rfl (lv_room (Nat.le_of_ble_eq_true rfl)) dX1_isOpen_18 ⟨Nat.le_of_ble_eq_true rfl, Nat.le_of_ble_eq_true rfl⟩)) (fun r_3 h => ?_)
      refine lv_if_ne (tgt := 28) F.1 F.2.1 dX1_isOpen_21 (by decide) (fun hc => ?_) (fun hc => ?_)
      · have h := h.2 hc
        refine lv_iconst (v := (0 : Int32)) F.1 F.2.1 dX1_isOpen_28 (by decide) ?_
        exact hret _ _ _ nr_0 h dX1_isOpen_29
      · have h := h.1 (hc)
        refine lv_iconst (v := (1 : Int32)) F.1 F.2.1 dX1_isOpen_24 (by decide) ?_
        refine lv_goto (tgt := 29) F.1 F.2.1 dX1_isOpen_25 (by decide) ?_
        exact hret _ _ _ nr_1 h dX1_isOpen_29
theorem mX1_isOpen {l : Launch} {D : va_G} {cI cJ cZ : ClassId}  {a0 : Int32} {a1 : Int32} {Q : Int32 → Prop} (h : wX1_isOpen a0 a1 Q) : Met l yX1_isOpen wsX1_isOpen rX1_isOpen (va_Pc [.int a0, .int a1] (rp D cI cJ cZ [])) (vp_Si (qb Q)) 0 0 (fun _ => False) :=
  enter_z (by decide +kernel) rfl (Nat.le_of_ble_eq_true rfl) (fun p e s m args below meth c QQ F hz hret => bX1_isOpen F hz.1 hz.2 hret h)
abbrev rX1_withTest : Room := { frames := 3, cells := 0, slots := 0, locals := 63 }
theorem kS_X1_withTest : yX1_withTest.cls ≠ "java/lang/invoke/MethodHandle" ∧ yX1_withTest.cls ≠ "java/lang/invoke/VarHandle" ∧ (parseMethodDescriptor yX1_withTest.desc).map (fun d => d.parameters.length) = some 3 := by decide +kernel
theorem uX1_withTest_1 : Cond.fieldLink RX1 27 "SumMoved$Heaps" "PLACES" "[I" ∈ wsX1_withTest := List.mem_of_getElem? (i := 1) rfl
set_option maxRecDepth 100000 in
theorem bX1_withTest {a0 : Int32} {a1 : Int32} {a2 : Int32} {Q : Int32 → Prop} (F : CallFix p m c cX1_withTest 3 s args wsX1_withTest RX1) (hz : gz D cI cJ cZ s) (hP : va_P D vwCl [] s.heap) (ht : gt s s.heap) (hret : ∀ (v : Int32) (pc : Nat) (ls : Array Slot), Q v → decode cX1_withTest pc = .ok (.ireturn, 1) → W p l e rX1_withTest s m args below meth c s.heap [] 0 0 QQ (F0 m pc ls [.int v])) (h : wX1_withTest a0 a1 a2 Q) : ∀ ls : Array Slot, lv_has ls 3 [(0, .int a0), (1, .int a1), (2, .int a2)] → W p l e rX1_withTest s m args below meth c s.heap [] 0 0 QQ (F0 m 0 ls []) := by
  intro ls hl
  have ht0 := ht
  obtain ⟨t1, t2, hZ1, hT1, hZ2, hT2⟩ := ht0
  refine lv_iload_n F.1 F.2.1 dX1_withTest_0 rfl (lv_at hl 0 rfl) ?_
  refine lv_iload_n F.1 F.2.1 dX1_withTest_1 rfl (lv_at hl 1 rfl) ?_
  refine vp_callSi (va_Run.run (va_runS (As := [.int a0, .int a1]) (rest := []) F (mX1_isOpen (l := l) (D := D) (cI := cI) (cJ := cJ) (cZ := cZ) h) (va_cwS 2 F.2.2.2.2 gX1_withTest_X1_isOpen rfl rfl rfl kS_X1_isOpen ⟨Nat.le_of_ble_eq_true rfl, Nat.le_of_ble_eq_true rfl⟩) ⟨rp_blind, rp_pre hz (hP.sub (ws' := []) [] rfl) [.int a0, .int a1]⟩ rfl rfl hl.1 rfl (lv_room (Nat.le_of_ble_eq_true rfl)) dX1_withTest_2 ⟨Nat.le_of_ble_eq_true rfl, Nat.le_of_ble_eq_true rfl⟩)) (fun r_1 h => ?_)
  obtain ⟨hbr_1, h⟩ := h
  refine lv_if_eq (tgt := 22) F.1 F.2.1 dX1_withTest_5 (by decide) (fun hc => ?_) (fun hc => ?_)
  · have h := h.1 (hc)
    refine lv_iload_n F.1 F.2.1 dX1_withTest_22 rfl (lv_at hl 0 rfl) ?_
    exact hret _ _ _ h dX1_withTest_23
  · have h := h.2 hc
    refine lv_iload_n F.1 F.2.1 dX1_withTest_8 rfl (lv_at hl 0 rfl) ?_
    refine lv_iload_n F.1 F.2.1 dX1_withTest_9 rfl (lv_at hl 2 rfl) ?_
    refine lv_iconst (v := (1 : Int32)) F.1 F.2.1 dX1_withTest_10 (by decide) ?_
    refine lv_iadd F.1 F.2.1 dX1_withTest_11 ?_
    refine va_gets F.1 F.2.1 hZ1 va_S.rf F.2.2.2.1 (F.2.2.2.2 _ uX1_withTest_1) (fun _ h9 => h9) dX1_withTest_12 ?_
    refine lv_iload_n F.1 F.2.1 dX1_withTest_15 rfl (lv_at hl 1 rfl) ?_
    refine va_ti (v := .int (tb_P a1.toNatClampNeg)) F.1 F.2.1 hT1 va_S.rf h.1 rfl dX1_withTest_16 ?_
    have h := h.2
    refine lv_imul F.1 F.2.1 dX1_withTest_17 ?_
    refine lv_iadd F.1 F.2.1 dX1_withTest_18 ?_
    refine lv_goto (tgt := 23) F.1 F.2.1 dX1_withTest_19 (by decide) ?_
    exact hret _ _ _ h dX1_withTest_23
theorem mX1_withTest {l : Launch} {D : va_G} {cI cJ cZ : ClassId}  {a0 : Int32} {a1 : Int32} {a2 : Int32} {Q : Int32 → Prop} (h : wX1_withTest a0 a1 a2 Q) : Met l yX1_withTest wsX1_withTest rX1_withTest (va_Pc [.int a0, .int a1, .int a2] (rpt D cI cJ cZ [])) (vp_Si Q) 0 0 (fun _ => False) :=
  enter_i (by decide +kernel) rfl (Nat.le_of_ble_eq_true rfl) (fun p e s m args below meth c QQ F hz hret => bX1_withTest F hz.1.1 hz.1.2 hz.2 hret h)
abbrev rX1_tests : Room := { frames := 1, cells := 0, slots := 0, locals := 21 }
theorem kS_X1_tests : yX1_tests.cls ≠ "java/lang/invoke/MethodHandle" ∧ yX1_tests.cls ≠ "java/lang/invoke/VarHandle" ∧ (parseMethodDescriptor yX1_tests.desc).map (fun d => d.parameters.length) = some 1 := by decide +kernel
set_option maxRecDepth 100000 in
theorem kX1_tests_4 {p0 : Int32} (F : CallFix p m c cX1_tests 3 s args wsX1_tests RX1) (hz : gz D cI cJ cZ s) (hP : va_P D vwCl [] s.heap) {K : Int32 × Int32 → Prop} (hK : ∀ x : Int32 × Int32, K x → match x with | (x1, x2) => ∀ ls : Array Slot, lv_has ls 3 [(0, .int p0), (1, .int x1), (2, .int x2)] → W p l e rX1_tests s m args below meth c s.heap [] 0 0 QQ (F0 m 26 ls [])) : ∀ (nn : Nat) (x : Int32 × Int32), iter (sX1_tests_4 p0 K) nn x → match x with | (x1, x2) => ∀ ls : Array Slot, lv_has ls 3 [(0, .int p0), (1, .int x1), (2, .int x2)] → W p l e rX1_tests s m args below meth c s.heap [] 0 0 QQ (F0 m 4 ls []) := by
  refine iter_walk ?_
  rintro again4 ⟨x1, x2⟩ ih4 h ls hl
  have hK4 := hK
  refine lv_iload_n F.1 F.2.1 dX1_tests_4 rfl (lv_at hl 2 rfl) ?_
  refine lv_iconst (v := (3 : Int32)) F.1 F.2.1 dX1_tests_5 (by decide) ?_
  refine lv_icmp_ge (tgt := 26) F.1 F.2.1 dX1_tests_6 (by decide) (fun hc => ?_) (fun hc => ?_)
  · have h := h.1 (hc)
    exact hK4 (x1, x2) h ls (lv_sub hl [0, 1, 2] rfl)
  · have h := h.2 hc
    refine lv_iload_n F.1 F.2.1 dX1_tests_9 rfl (lv_at hl 0 rfl) ?_
    refine lv_iload_n F.1 F.2.1 dX1_tests_10 rfl (lv_at hl 2 rfl) ?_
    refine vp_callSi (va_Run.run (va_runS (As := [.int p0, .int x2]) (rest := []) F (mX1_digit (l := l) (D := D) (cI := cI) (cJ := cJ) (cZ := cZ) h) (va_cwS 2 F.2.2.2.2 gX1_tests_X1_digit rfl rfl rfl kS_X1_digit ⟨Nat.le_of_ble_eq_true rfl, Nat.le_of_ble_eq_true rfl⟩) ⟨rp_blind, rp_pre hz (hP.sub (ws' := []) [] rfl) [.int p0, .int x2]⟩ rfl rfl hl.1 rfl (lv_room (Nat.le_of_ble_eq_true rfl)) dX1_tests_11 ⟨Nat.le_of_ble_eq_true rfl, Nat.le_of_ble_eq_true rfl⟩)) (fun r_1 h => ?_)
    refine lv_if_eq (tgt := 20) F.1 F.2.1 dX1_tests_14 (by decide) (fun hc => ?_) (fun hc => ?_)
    · have h := h.1 (hc)
      refine lv_iinc (v := x2 + 1) (lv' := [(2, .int (x2 + 1)), (0, .int p0), (1, .int x1)]) F.1 F.2.1 dX1_tests_20 hl (k := 2) rfl rfl (by decide) rfl (fun ls hl => ?_)
      refine lv_goto (tgt := 4) F.1 F.2.1 dX1_tests_23 (by decide) ?_
      exact ih4 (x1, x2 + 1) h ls (lv_sub hl [1, 2, 0] rfl)
    · have h := h.2 hc
      refine lv_iinc (v := x1 + 1) (lv' := [(1, .int (x1 + 1)), (0, .int p0), (2, .int x2)]) F.1 F.2.1 dX1_tests_17 hl (k := 1) rfl rfl (by decide) rfl (fun ls hl => ?_)
      refine lv_iinc (v := x2 + 1) (lv' := [(2, .int (x2 + 1)), (1, .int (x1 + 1)), (0, .int p0)]) F.1 F.2.1 dX1_tests_20 hl (k := 2) rfl rfl (by decide) rfl (fun ls hl => ?_)
      refine lv_goto (tgt := 4) F.1 F.2.1 dX1_tests_23 (by decide) ?_
      exact ih4 (x1 + 1, x2 + 1) h ls (lv_sub hl [2, 1, 0] rfl)
set_option maxRecDepth 100000 in
theorem bX1_tests {a0 : Int32} {Q : Int32 → Prop} (F : CallFix p m c cX1_tests 3 s args wsX1_tests RX1) (hz : gz D cI cJ cZ s) (hP : va_P D vwCl [] s.heap) (hret : ∀ (v : Int32) (pc : Nat) (ls : Array Slot), Q v → decode cX1_tests pc = .ok (.ireturn, 1) → W p l e rX1_tests s m args below meth c s.heap [] 0 0 QQ (F0 m pc ls [.int v])) (h : wX1_tests a0 Q) : ∀ ls : Array Slot, lv_has ls 3 [(0, .int a0)] → W p l e rX1_tests s m args below meth c s.heap [] 0 0 QQ (F0 m 0 ls []) := by
  intro ls hl
  refine lv_iconst (v := (0 : Int32)) F.1 F.2.1 dX1_tests_0 (by decide) ?_
  refine lv_istore_n (lv' := [(1, .int (0 : Int32)), (0, .int a0)]) F.1 F.2.1 dX1_tests_1 rfl hl (by decide) rfl (fun ls hl => ?_)
  refine lv_iconst (v := (0 : Int32)) F.1 F.2.1 dX1_tests_2 (by decide) ?_
  refine lv_istore_n (lv' := [(2, .int (0 : Int32)), (1, .int (0 : Int32)), (0, .int a0)]) F.1 F.2.1 dX1_tests_3 rfl hl (by decide) rfl (fun ls hl => ?_)
  obtain ⟨nn, h⟩ := h
  refine kX1_tests_4 F hz hP (fun ⟨x1, x2⟩ h ls hl => ?_) nn _ h ls (lv_sub hl [2, 1, 0] rfl)
  refine lv_iload_n F.1 F.2.1 dX1_tests_26 rfl (lv_at hl 1 rfl) ?_
  exact hret _ _ _ h dX1_tests_27
theorem mX1_tests {l : Launch} {D : va_G} {cI cJ cZ : ClassId}  {a0 : Int32} {Q : Int32 → Prop} (h : wX1_tests a0 Q) : Met l yX1_tests wsX1_tests rX1_tests (va_Pc [.int a0] (rp D cI cJ cZ [])) (vp_Si Q) 0 0 (fun _ => False) :=
  enter_i (by decide +kernel) rfl (Nat.le_of_ble_eq_true rfl) (fun p e s m args below meth c QQ F hz hret => bX1_tests F hz.1 hz.2 hret h)
abbrev rX1_testedBits : Room := { frames := 1, cells := 0, slots := 0, locals := 21 }
theorem kS_X1_testedBits : yX1_testedBits.cls ≠ "java/lang/invoke/MethodHandle" ∧ yX1_testedBits.cls ≠ "java/lang/invoke/VarHandle" ∧ (parseMethodDescriptor yX1_testedBits.desc).map (fun d => d.parameters.length) = some 1 := by decide +kernel
set_option maxRecDepth 100000 in
theorem kX1_testedBits_4 {p0 : Int32} (F : CallFix p m c cX1_testedBits 3 s args wsX1_testedBits RX1) (hz : gz D cI cJ cZ s) (hP : va_P D vwCl [] s.heap) {K : Int32 × Int32 → Prop} (hK : ∀ x : Int32 × Int32, K x → match x with | (x1, x2) => ∀ ls : Array Slot, lv_has ls 3 [(0, .int p0), (1, .int x1), (2, .int x2)] → W p l e rX1_testedBits s m args below meth c s.heap [] 0 0 QQ (F0 m 32 ls [])) : ∀ (nn : Nat) (x : Int32 × Int32), iter (sX1_testedBits_4 p0 K) nn x → match x with | (x1, x2) => ∀ ls : Array Slot, lv_has ls 3 [(0, .int p0), (1, .int x1), (2, .int x2)] → W p l e rX1_testedBits s m args below meth c s.heap [] 0 0 QQ (F0 m 4 ls []) := by
  refine iter_walk ?_
  rintro again4 ⟨x1, x2⟩ ih4 h ls hl
  have hK4 := hK
  refine lv_iload_n F.1 F.2.1 dX1_testedBits_4 rfl (lv_at hl 2 rfl) ?_
  refine lv_iconst (v := (3 : Int32)) F.1 F.2.1 dX1_testedBits_5 (by decide) ?_
  refine lv_icmp_ge (tgt := 32) F.1 F.2.1 dX1_testedBits_6 (by decide) (fun hc => ?_) (fun hc => ?_)
  · have h := h.1 (hc)
    exact hK4 (x1, x2) h ls (lv_sub hl [0, 1, 2] rfl)
  · have h := h.2 hc
    refine lv_iload_n F.1 F.2.1 dX1_testedBits_9 rfl (lv_at hl 0 rfl) ?_
    refine lv_iload_n F.1 F.2.1 dX1_testedBits_10 rfl (lv_at hl 2 rfl) ?_
    refine vp_callSi (va_Run.run (va_runS (As := [.int p0, .int x2]) (rest := []) F (mX1_digit (l := l) (D := D) (cI := cI) (cJ := cJ) (cZ := cZ) h) (va_cwS 2 F.2.2.2.2 gX1_testedBits_X1_digit rfl rfl rfl kS_X1_digit ⟨Nat.le_of_ble_eq_true rfl, Nat.le_of_ble_eq_true rfl⟩) ⟨rp_blind, rp_pre hz (hP.sub (ws' := []) [] rfl) [.int p0, .int x2]⟩ rfl rfl hl.1 rfl (lv_room (Nat.le_of_ble_eq_true rfl)) dX1_testedBits_11 ⟨Nat.le_of_ble_eq_true rfl, Nat.le_of_ble_eq_true rfl⟩)) (fun r_1 h => ?_)
    refine lv_if_eq (tgt := 26) F.1 F.2.1 dX1_testedBits_14 (by decide) (fun hc => ?_) (fun hc => ?_)
    · have h := h.1 (hc)
      refine lv_iinc (v := x2 + 1) (lv' := [(2, .int (x2 + 1)), (0, .int p0), (1, .int x1)]) F.1 F.2.1 dX1_testedBits_26 hl (k := 2) rfl rfl (by decide) rfl (fun ls hl => ?_)
      refine lv_goto (tgt := 4) F.1 F.2.1 dX1_testedBits_29 (by decide) ?_
      exact ih4 (x1, x2 + 1) h ls (lv_sub hl [1, 2, 0] rfl)
    · have h := h.2 hc
      refine lv_iload_n F.1 F.2.1 dX1_testedBits_17 rfl (lv_at hl 1 rfl) ?_
      refine lv_bipush (v := (7 : Int32)) F.1 F.2.1 dX1_testedBits_18 (by decide) ?_
      refine lv_iconst (v := (3 : Int32)) F.1 F.2.1 dX1_testedBits_20 (by decide) ?_
      refine lv_iload_n F.1 F.2.1 dX1_testedBits_21 rfl (lv_at hl 2 rfl) ?_
      refine lv_imul F.1 F.2.1 dX1_testedBits_22 ?_
      refine lv_ishl F.1 F.2.1 dX1_testedBits_23 ?_
      refine lv_ior F.1 F.2.1 dX1_testedBits_24 ?_
      refine lv_topi (fun y_2 ey_2 => ?_)
      have h := h y_2 ey_2
      refine lv_istore_n (lv' := [(1, .int y_2), (0, .int p0), (2, .int x2)]) F.1 F.2.1 dX1_testedBits_25 rfl hl (by decide) rfl (fun ls hl => ?_)
      refine lv_iinc (v := x2 + 1) (lv' := [(2, .int (x2 + 1)), (1, .int y_2), (0, .int p0)]) F.1 F.2.1 dX1_testedBits_26 hl (k := 2) rfl rfl (by decide) rfl (fun ls hl => ?_)
      refine lv_goto (tgt := 4) F.1 F.2.1 dX1_testedBits_29 (by decide) ?_
      exact ih4 (y_2, x2 + 1) h ls (lv_sub hl [2, 1, 0] rfl)
set_option maxRecDepth 100000 in
theorem bX1_testedBits {a0 : Int32} {Q : Int32 → Prop} (F : CallFix p m c cX1_testedBits 3 s args wsX1_testedBits RX1) (hz : gz D cI cJ cZ s) (hP : va_P D vwCl [] s.heap) (hret : ∀ (v : Int32) (pc : Nat) (ls : Array Slot), Q v → decode cX1_testedBits pc = .ok (.ireturn, 1) → W p l e rX1_testedBits s m args below meth c s.heap [] 0 0 QQ (F0 m pc ls [.int v])) (h : wX1_testedBits a0 Q) : ∀ ls : Array Slot, lv_has ls 3 [(0, .int a0)] → W p l e rX1_testedBits s m args below meth c s.heap [] 0 0 QQ (F0 m 0 ls []) := by
  intro ls hl
  refine lv_iconst (v := (0 : Int32)) F.1 F.2.1 dX1_testedBits_0 (by decide) ?_
  refine lv_istore_n (lv' := [(1, .int (0 : Int32)), (0, .int a0)]) F.1 F.2.1 dX1_testedBits_1 rfl hl (by decide) rfl (fun ls hl => ?_)
  refine lv_iconst (v := (0 : Int32)) F.1 F.2.1 dX1_testedBits_2 (by decide) ?_
  refine lv_istore_n (lv' := [(2, .int (0 : Int32)), (1, .int (0 : Int32)), (0, .int a0)]) F.1 F.2.1 dX1_testedBits_3 rfl hl (by decide) rfl (fun ls hl => ?_)
  obtain ⟨nn, h⟩ := h
  refine kX1_testedBits_4 F hz hP (fun ⟨x1, x2⟩ h ls hl => ?_) nn _ h ls (lv_sub hl [2, 1, 0] rfl)
  refine lv_iload_n F.1 F.2.1 dX1_testedBits_32 rfl (lv_at hl 1 rfl) ?_
  exact hret _ _ _ h dX1_testedBits_33
theorem mX1_testedBits {l : Launch} {D : va_G} {cI cJ cZ : ClassId}  {a0 : Int32} {Q : Int32 → Prop} (h : wX1_testedBits a0 Q) : Met l yX1_testedBits wsX1_testedBits rX1_testedBits (va_Pc [.int a0] (rp D cI cJ cZ [])) (vp_Si Q) 0 0 (fun _ => False) :=
  enter_i (by decide +kernel) rfl (Nat.le_of_ble_eq_true rfl) (fun p e s m args below meth c QQ F hz hret => bX1_testedBits F hz.1 hz.2 hret h)
abbrev rX1_wantedBits : Room := { frames := 1, cells := 0, slots := 0, locals := 21 }
theorem kS_X1_wantedBits : yX1_wantedBits.cls ≠ "java/lang/invoke/MethodHandle" ∧ yX1_wantedBits.cls ≠ "java/lang/invoke/VarHandle" ∧ (parseMethodDescriptor yX1_wantedBits.desc).map (fun d => d.parameters.length) = some 1 := by decide +kernel
set_option maxRecDepth 100000 in
theorem kX1_wantedBits_4 {p0 : Int32} (F : CallFix p m c cX1_wantedBits 3 s args wsX1_wantedBits RX1) (hz : gz D cI cJ cZ s) (hP : va_P D vwCl [] s.heap) {K : Int32 × Int32 → Prop} (hK : ∀ x : Int32 × Int32, K x → match x with | (x1, x2) => ∀ ls : Array Slot, lv_has ls 3 [(0, .int p0), (1, .int x1), (2, .int x2)] → W p l e rX1_wantedBits s m args below meth c s.heap [] 0 0 QQ (F0 m 37 ls [])) : ∀ (nn : Nat) (x : Int32 × Int32), iter (sX1_wantedBits_4 p0 K) nn x → match x with | (x1, x2) => ∀ ls : Array Slot, lv_has ls 3 [(0, .int p0), (1, .int x1), (2, .int x2)] → W p l e rX1_wantedBits s m args below meth c s.heap [] 0 0 QQ (F0 m 4 ls []) := by
  refine iter_walk ?_
  rintro again4 ⟨x1, x2⟩ ih4 h ls hl
  have hK4 := hK
  refine lv_iload_n F.1 F.2.1 dX1_wantedBits_4 rfl (lv_at hl 2 rfl) ?_
  refine lv_iconst (v := (3 : Int32)) F.1 F.2.1 dX1_wantedBits_5 (by decide) ?_
  refine lv_icmp_ge (tgt := 37) F.1 F.2.1 dX1_wantedBits_6 (by decide) (fun hc => ?_) (fun hc => ?_)
  · have h := h.1 (hc)
    exact hK4 (x1, x2) h ls (lv_sub hl [0, 1, 2] rfl)
  · have h := h.2 hc
    refine lv_iload_n F.1 F.2.1 dX1_wantedBits_9 rfl (lv_at hl 0 rfl) ?_
    refine lv_iload_n F.1 F.2.1 dX1_wantedBits_10 rfl (lv_at hl 2 rfl) ?_
    refine vp_callSi (va_Run.run (va_runS (As := [.int p0, .int x2]) (rest := []) F (mX1_digit (l := l) (D := D) (cI := cI) (cJ := cJ) (cZ := cZ) h) (va_cwS 2 F.2.2.2.2 gX1_wantedBits_X1_digit rfl rfl rfl kS_X1_digit ⟨Nat.le_of_ble_eq_true rfl, Nat.le_of_ble_eq_true rfl⟩) ⟨rp_blind, rp_pre hz (hP.sub (ws' := []) [] rfl) [.int p0, .int x2]⟩ rfl rfl hl.1 rfl (lv_room (Nat.le_of_ble_eq_true rfl)) dX1_wantedBits_11 ⟨Nat.le_of_ble_eq_true rfl, Nat.le_of_ble_eq_true rfl⟩)) (fun r_1 h => ?_)
    refine lv_if_eq (tgt := 31) F.1 F.2.1 dX1_wantedBits_14 (by decide) (fun hc => ?_) (fun hc => ?_)
    · have h := h.1 (hc)
      refine lv_iinc (v := x2 + 1) (lv' := [(2, .int (x2 + 1)), (0, .int p0), (1, .int x1)]) F.1 F.2.1 dX1_wantedBits_31 hl (k := 2) rfl rfl (by decide) rfl (fun ls hl => ?_)
      refine lv_goto (tgt := 4) F.1 F.2.1 dX1_wantedBits_34 (by decide) ?_
      exact ih4 (x1, x2 + 1) h ls (lv_sub hl [1, 2, 0] rfl)
    · have h := h.2 hc
      refine lv_iload_n F.1 F.2.1 dX1_wantedBits_17 rfl (lv_at hl 1 rfl) ?_
      refine lv_iload_n F.1 F.2.1 dX1_wantedBits_18 rfl (lv_at hl 0 rfl) ?_
      refine lv_iload_n F.1 F.2.1 dX1_wantedBits_19 rfl (lv_at hl 2 rfl) ?_
      refine vp_callSi (va_Run.run (va_runS (As := [.int p0, .int x2]) (rest := [.int x1]) F (mX1_digit (l := l) (D := D) (cI := cI) (cJ := cJ) (cZ := cZ) h) (va_cwS 2 F.2.2.2.2 gX1_wantedBits_X1_digit rfl rfl rfl kS_X1_digit ⟨Nat.le_of_ble_eq_true rfl, Nat.le_of_ble_eq_true rfl⟩) ⟨rp_blind, rp_pre hz (hP.sub (ws' := []) [] rfl) [.int p0, .int x2]⟩ rfl rfl hl.1 rfl (lv_room (Nat.le_of_ble_eq_true rfl)) dX1_wantedBits_20 ⟨Nat.le_of_ble_eq_true rfl, Nat.le_of_ble_eq_true rfl⟩)) (fun r_2 h => ?_)
      refine lv_iconst (v := (1 : Int32)) F.1 F.2.1 dX1_wantedBits_23 (by decide) ?_
      refine lv_isub F.1 F.2.1 dX1_wantedBits_24 ?_
      refine lv_iconst (v := (3 : Int32)) F.1 F.2.1 dX1_wantedBits_25 (by decide) ?_
      refine lv_iload_n F.1 F.2.1 dX1_wantedBits_26 rfl (lv_at hl 2 rfl) ?_
      refine lv_imul F.1 F.2.1 dX1_wantedBits_27 ?_
      refine lv_ishl F.1 F.2.1 dX1_wantedBits_28 ?_
      refine lv_ior F.1 F.2.1 dX1_wantedBits_29 ?_
      refine lv_topi (fun y_3 ey_3 => ?_)
      have h := h y_3 ey_3
      refine lv_istore_n (lv' := [(1, .int y_3), (0, .int p0), (2, .int x2)]) F.1 F.2.1 dX1_wantedBits_30 rfl hl (by decide) rfl (fun ls hl => ?_)
      refine lv_iinc (v := x2 + 1) (lv' := [(2, .int (x2 + 1)), (1, .int y_3), (0, .int p0)]) F.1 F.2.1 dX1_wantedBits_31 hl (k := 2) rfl rfl (by decide) rfl (fun ls hl => ?_)
      refine lv_goto (tgt := 4) F.1 F.2.1 dX1_wantedBits_34 (by decide) ?_
      exact ih4 (y_3, x2 + 1) h ls (lv_sub hl [2, 1, 0] rfl)
set_option maxRecDepth 100000 in
theorem bX1_wantedBits {a0 : Int32} {Q : Int32 → Prop} (F : CallFix p m c cX1_wantedBits 3 s args wsX1_wantedBits RX1) (hz : gz D cI cJ cZ s) (hP : va_P D vwCl [] s.heap) (hret : ∀ (v : Int32) (pc : Nat) (ls : Array Slot), Q v → decode cX1_wantedBits pc = .ok (.ireturn, 1) → W p l e rX1_wantedBits s m args below meth c s.heap [] 0 0 QQ (F0 m pc ls [.int v])) (h : wX1_wantedBits a0 Q) : ∀ ls : Array Slot, lv_has ls 3 [(0, .int a0)] → W p l e rX1_wantedBits s m args below meth c s.heap [] 0 0 QQ (F0 m 0 ls []) := by
  intro ls hl
  refine lv_iconst (v := (0 : Int32)) F.1 F.2.1 dX1_wantedBits_0 (by decide) ?_
  refine lv_istore_n (lv' := [(1, .int (0 : Int32)), (0, .int a0)]) F.1 F.2.1 dX1_wantedBits_1 rfl hl (by decide) rfl (fun ls hl => ?_)
  refine lv_iconst (v := (0 : Int32)) F.1 F.2.1 dX1_wantedBits_2 (by decide) ?_
  refine lv_istore_n (lv' := [(2, .int (0 : Int32)), (1, .int (0 : Int32)), (0, .int a0)]) F.1 F.2.1 dX1_wantedBits_3 rfl hl (by decide) rfl (fun ls hl => ?_)
  obtain ⟨nn, h⟩ := h
  refine kX1_wantedBits_4 F hz hP (fun ⟨x1, x2⟩ h ls hl => ?_) nn _ h ls (lv_sub hl [2, 1, 0] rfl)
  refine lv_iload_n F.1 F.2.1 dX1_wantedBits_37 rfl (lv_at hl 1 rfl) ?_
  exact hret _ _ _ h dX1_wantedBits_38
theorem mX1_wantedBits {l : Launch} {D : va_G} {cI cJ cZ : ClassId}  {a0 : Int32} {Q : Int32 → Prop} (h : wX1_wantedBits a0 Q) : Met l yX1_wantedBits wsX1_wantedBits rX1_wantedBits (va_Pc [.int a0] (rp D cI cJ cZ [])) (vp_Si Q) 0 0 (fun _ => False) :=
  enter_i (by decide +kernel) rfl (Nat.le_of_ble_eq_true rfl) (fun p e s m args below meth c QQ F hz hret => bX1_wantedBits F hz.1 hz.2 hret h)
abbrev rX4_has : Room := { frames := 1, cells := 0, slots := 0, locals := 22 }
theorem kS_X4_has : yX4_has.cls ≠ "java/lang/invoke/MethodHandle" ∧ yX4_has.cls ≠ "java/lang/invoke/VarHandle" ∧ (parseMethodDescriptor yX4_has.desc).map (fun d => d.parameters.length) = some 1 := by decide +kernel
theorem uX4_has_2 : Cond.initialized RX5 ∈ wsX4_has := List.mem_of_getElem? (i := 2) rfl
theorem uX4_has_1 : Cond.static yX5_isIn ∈ wsX4_has := List.mem_of_getElem? (i := 1) rfl
set_option maxRecDepth 100000 in
theorem bX4_has {a0 : Int32} {Q : Int32 → Prop} (F : CallFix p m c cX4_has 1 s args wsX4_has RX4) (hz : gz D cI cJ cZ s) (hP : va_P D vwCl [] s.heap) (hret : ∀ (v : Int32) (pc : Nat) (ls : Array Slot), narrow .boolean (.int v) = .int v → Q v → decode cX4_has pc = .ok (.ireturn, 1) → W p l e rX4_has s m args below meth c s.heap [] 0 0 QQ (F0 m pc ls [.int v])) (h : wX4_has a0 Q) : ∀ ls : Array Slot, lv_has ls 1 [(0, .int a0)] → W p l e rX4_has s m args below meth c s.heap [] 0 0 QQ (F0 m 0 ls []) := by
  intro ls hl
  refine lv_iload_n F.1 F.2.1 dX4_has_0 rfl (lv_at hl 0 rfl) ?_
  refine lv_iconst (v := (0 : Int32)) F.1 F.2.1 dX4_has_1 (by decide) ?_
  refine lv_iconst (v := (4 : Int32)) F.1 F.2.1 dX4_has_2 (by decide) ?_
  refine vp_callSi (va_Run.run (va_runSN (As := [.int a0, .int (0 : Int32), .int (4 : Int32)]) (rest := []) F (mX5_isIn (l := l) (D := D) (cI := cI) (cJ := cJ) (cZ := cZ) h) ⟨va_cnB 3 F.2.2.2.2 gX4_has_X5_isIn_n16 rfl rfl rfl hz.2.2.1 (F.2.2.2.2 _ uX4_has_2) kS_X5_isIn ⟨Nat.le_of_ble_eq_true rfl, Nat.le_of_ble_eq_true rfl⟩, (F.2.2.2.2 _ uX4_has_1), trivial⟩ ⟨rp_blind, rp_pre hz (hP.sub (ws' := []) [] rfl) [.int a0, .int (0 : Int32), .int (4 : Int32)]⟩ rfl rfl hl.1 rfl (lv_room (Nat.le_of_ble_eq_true rfl)) dX4_has_3 ⟨Nat.le_of_ble_eq_true rfl, Nat.le_of_ble_eq_true rfl⟩)) (fun r_1 h => ?_)
  obtain ⟨hbr_1, h⟩ := h
  exact hret _ _ _ hbr_1 h dX4_has_6
theorem mX4_has {l : Launch} {D : va_G} {cI cJ cZ : ClassId}  {a0 : Int32} {Q : Int32 → Prop} (h : wX4_has a0 Q) : Met l yX4_has wsX4_has rX4_has (va_Pc [.int a0] (rp D cI cJ cZ [])) (vp_Si (qb Q)) 0 0 (fun _ => False) :=
  enter_z (by decide +kernel) rfl (Nat.le_of_ble_eq_true rfl) (fun p e s m args below meth c QQ F hz hret => bX4_has F hz.1 hz.2 hret h)
abbrev rX0_commonDivisor : Room := { frames := 0, cells := 0, slots := 0, locals := 0 }
theorem kS_X0_commonDivisor : yX0_commonDivisor.cls ≠ "java/lang/invoke/MethodHandle" ∧ yX0_commonDivisor.cls ≠ "java/lang/invoke/VarHandle" ∧ (parseMethodDescriptor yX0_commonDivisor.desc).map (fun d => d.parameters.length) = some 2 := by decide +kernel
set_option maxRecDepth 100000 in
theorem kX0_commonDivisor_9 (F : CallFix p m c cX0_commonDivisor 11 s args wsX0_commonDivisor RX0) (hz : gz D cI cJ cZ s) (hP : va_P D vwCl [] s.heap) {K : Int64 × Int64 × Int32 → Prop} (hK : ∀ x : Int64 × Int64 × Int32, K x → match x with | (x4, x6, x8) => ∀ ls : Array Slot, lv_has ls 11 [(4, .long x4), (6, .long x6), (8, .int x8)] → W p l e rX0_commonDivisor s m args below meth c s.heap [] 0 0 QQ (F0 m 45 ls [])) : ∀ (nn : Nat) (x : Int64 × Int64 × Int32), iter (sX0_commonDivisor_9 K) nn x → match x with | (x4, x6, x8) => ∀ ls : Array Slot, lv_has ls 11 [(4, .long x4), (6, .long x6), (8, .int x8)] → W p l e rX0_commonDivisor s m args below meth c s.heap [] 0 0 QQ (F0 m 9 ls []) := by
  refine iter_walk ?_
  rintro again9 ⟨x4, x6, x8⟩ ih9 h ls hl
  have hK9 := hK
  refine lv_iload F.1 F.2.1 dX0_commonDivisor_9 (lv_at hl 2 rfl) ?_
  refine lv_sipush (v := (200 : Int32)) F.1 F.2.1 dX0_commonDivisor_11 (by decide) ?_
  refine lv_icmp_ge (tgt := 45) F.1 F.2.1 dX0_commonDivisor_14 (by decide) (fun hc => ?_) (fun hc => ?_)
  · have h := h.1 (hc)
    exact hK9 (x4, x6, x8) h ls (lv_sub hl [0, 1, 2] rfl)
  · have h := h.2 hc
    refine lv_lload F.1 F.2.1 dX0_commonDivisor_17 (lv_at hl 1 rfl) ?_
    refine lv_lconst (v := (0 : Int64)) F.1 F.2.1 dX0_commonDivisor_19 (by decide) ?_
    refine W.lcmp F.1 F.2.1 dX0_commonDivisor_20 ?_
    refine lv_if_eq (tgt := 45) F.1 F.2.1 dX0_commonDivisor_21 (by decide) (fun hc => ?_) (fun hc => ?_)
    · have h := h.1 ((lg_cmp_eq _ _).mp hc)
      exact hK9 (x4, x6, x8) h ls (lv_sub hl [0, 1, 2] rfl)
    · have h := h.2 (fun z => hc ((lg_cmp_eq _ _).mpr z))
      refine lv_lload F.1 F.2.1 dX0_commonDivisor_24 (lv_at hl 0 rfl) ?_
      refine lv_lload F.1 F.2.1 dX0_commonDivisor_26 (lv_at hl 1 rfl) ?_
      refine lv_lrem F.1 F.2.1 dX0_commonDivisor_28 h.1 ?_
      have h := h.2
      refine lv_lstore (lv' := [(9, .long (x4 - x4 / x6 * x6)), (4, .long x4), (6, .long x6), (8, .int x8)]) F.1 F.2.1 dX0_commonDivisor_29 hl (by decide) rfl (fun ls hl => ?_)
      refine lv_lload F.1 F.2.1 dX0_commonDivisor_31 (lv_at hl 2 rfl) ?_
      refine lv_lstore (lv' := [(4, .long x6), (9, .long (x4 - x4 / x6 * x6)), (6, .long x6), (8, .int x8)]) F.1 F.2.1 dX0_commonDivisor_33 hl (by decide) rfl (fun ls hl => ?_)
      refine lv_lload F.1 F.2.1 dX0_commonDivisor_35 (lv_at hl 1 rfl) ?_
      refine lv_lstore (lv' := [(6, .long (x4 - x4 / x6 * x6)), (4, .long x6), (9, .long (x4 - x4 / x6 * x6)), (8, .int x8)]) F.1 F.2.1 dX0_commonDivisor_37 hl (by decide) rfl (fun ls hl => ?_)
      refine lv_iinc (v := x8 + 1) (lv' := [(8, .int (x8 + 1)), (6, .long (x4 - x4 / x6 * x6)), (4, .long x6), (9, .long (x4 - x4 / x6 * x6))]) F.1 F.2.1 dX0_commonDivisor_39 hl (k := 3) rfl rfl (by decide) rfl (fun ls hl => ?_)
      refine lv_goto (tgt := 9) F.1 F.2.1 dX0_commonDivisor_42 (by decide) ?_
      exact ih9 (x6, x4 - x4 / x6 * x6, x8 + 1) h ls (lv_sub hl [2, 1, 0] rfl)
set_option maxRecDepth 100000 in
theorem bX0_commonDivisor {a0 : Int64} {a2 : Int64} {Q : Int64 → Prop} (F : CallFix p m c cX0_commonDivisor 11 s args wsX0_commonDivisor RX0) (hz : gz D cI cJ cZ s) (hP : va_P D vwCl [] s.heap) (hret : ∀ (v : Int64) (pc : Nat) (ls : Array Slot), Q v → decode cX0_commonDivisor pc = .ok (.lreturn, 1) → W p l e rX0_commonDivisor s m args below meth c s.heap [] 0 0 QQ (F0 m pc ls [.long v])) (h : wX0_commonDivisor a0 a2 Q) : ∀ ls : Array Slot, lv_has ls 11 [(0, .long a0), (2, .long a2)] → W p l e rX0_commonDivisor s m args below meth c s.heap [] 0 0 QQ (F0 m 0 ls []) := by
  intro ls hl
  refine lv_lload_n F.1 F.2.1 dX0_commonDivisor_0 rfl (lv_at hl 0 rfl) ?_
  refine lv_lstore (lv' := [(4, .long a0), (0, .long a0), (2, .long a2)]) F.1 F.2.1 dX0_commonDivisor_1 hl (by decide) rfl (fun ls hl => ?_)
  refine lv_lload_n F.1 F.2.1 dX0_commonDivisor_3 rfl (lv_at hl 2 rfl) ?_
  refine lv_lstore (lv' := [(6, .long a2), (4, .long a0), (0, .long a0), (2, .long a2)]) F.1 F.2.1 dX0_commonDivisor_4 hl (by decide) rfl (fun ls hl => ?_)
  refine lv_iconst (v := (0 : Int32)) F.1 F.2.1 dX0_commonDivisor_6 (by decide) ?_
  refine lv_istore (lv' := [(8, .int (0 : Int32)), (6, .long a2), (4, .long a0), (0, .long a0), (2, .long a2)]) F.1 F.2.1 dX0_commonDivisor_7 hl (by decide) rfl (fun ls hl => ?_)
  obtain ⟨nn, h⟩ := h
  refine kX0_commonDivisor_9 F hz hP (fun ⟨x4, x6, x8⟩ h ls hl => ?_) nn _ h ls (lv_sub hl [2, 1, 0] rfl)
  refine lv_lload F.1 F.2.1 dX0_commonDivisor_45 (lv_at hl 0 rfl) ?_
  exact hret _ _ _ h dX0_commonDivisor_47
theorem mX0_commonDivisor {l : Launch} {D : va_G} {cI cJ cZ : ClassId}  {a0 : Int64} {a2 : Int64} {Q : Int64 → Prop} (h : wX0_commonDivisor a0 a2 Q) : Met l yX0_commonDivisor wsX0_commonDivisor rX0_commonDivisor (va_Pc [.long a0, .long a2] (rp D cI cJ cZ [])) (vp_Sl Q) 0 0 (fun _ => False) :=
  enter_l (by decide +kernel) rfl (Nat.le_of_ble_eq_true rfl) (fun p e s m args below meth c QQ F hz hret => bX0_commonDivisor F hz.1 hz.2 hret h)
abbrev rX0_tell : Room := { frames := 1, cells := 0, slots := 0, locals := 30 }
theorem kS_X0_tell : yX0_tell.cls ≠ "java/lang/invoke/MethodHandle" ∧ yX0_tell.cls ≠ "java/lang/invoke/VarHandle" ∧ (parseMethodDescriptor yX0_tell.desc).map (fun d => d.parameters.length) = some 3 := by decide +kernel
theorem uX0_tell_1 : Cond.methodLink RX0 9 Lib.MathLoose.abs_long.x ∈ wsX0_tell := List.mem_of_getElem? (i := 1) rfl
theorem uX0_tell_2 : Cond.static Lib.MathLoose.abs_long.x ∈ wsX0_tell := List.mem_of_getElem? (i := 2) rfl
theorem uX0_tell_3 : Cond.initialized "java/lang/Math" ∈ wsX0_tell := List.mem_of_getElem? (i := 3) rfl
theorem uX0_tell_4 : Cond.code Lib.MathLoose.abs_long.x Lib.MathLoose.abs_long.code 2 (some .long) ∈ wsX0_tell := List.mem_of_getElem? (i := 4) rfl
theorem uX0_tell_5 : Cond.constantLong RX0 21 (-4000000000000000000) ∈ wsX0_tell := List.mem_of_getElem? (i := 5) rfl
set_option maxRecDepth 100000 in
theorem bX0_tell {a0 : Int64} {a2 : Int64} {a4 : Int32} {Q : Int64 → Prop} (F : CallFix p m c cX0_tell 7 s args wsX0_tell RX0) (hz : gz D cI cJ cZ s) (hP : va_P D vwCl [] s.heap) (hret : ∀ (v : Int64) (pc : Nat) (ls : Array Slot), Q v → decode cX0_tell pc = .ok (.lreturn, 1) → W p l e rX0_tell s m args below meth c s.heap [] 0 0 QQ (F0 m pc ls [.long v])) (h : wX0_tell a0 a2 a4 Q) : ∀ ls : Array Slot, lv_has ls 7 [(0, .long a0), (2, .long a2), (4, .int a4)] → W p l e rX0_tell s m args below meth c s.heap [] 0 0 QQ (F0 m 0 ls []) := by
  intro ls hl
  refine lv_lload_n F.1 F.2.1 dX0_tell_0 rfl (lv_at hl 0 rfl) ?_
  refine va_mabs_long F.1 F.2.1 (F.2.2.1.trans hl.1.symm) F.2.2.2.1 (F.2.2.2.2 _ uX0_tell_1) (F.2.2.2.2 _ uX0_tell_2) (F.2.2.2.2 _ uX0_tell_3) (F.2.2.2.2 _ uX0_tell_4) (Nat.le_of_ble_eq_true rfl) (Nat.le_of_ble_eq_true rfl) (Nat.le_of_ble_eq_true rfl) (Nat.le_of_ble_eq_true rfl) dX0_tell_1 ?_
  refine lv_lload_n F.1 F.2.1 dX0_tell_4 rfl (lv_at hl 1 rfl) ?_
  refine vp_callSl (va_Run.run (va_runS (As := [.long (if 0 < a0 then a0 else -a0), .long a2]) (rest := []) F (mX0_commonDivisor (l := l) (D := D) (cI := cI) (cJ := cJ) (cZ := cZ) h) (va_cwS 2 F.2.2.2.2 gX0_tell_X0_commonDivisor rfl rfl rfl kS_X0_commonDivisor ⟨Nat.le_of_ble_eq_true rfl, Nat.le_of_ble_eq_true rfl⟩) ⟨rp_blind, rp_pre hz (hP.sub (ws' := []) [] rfl) [.long (if 0 < a0 then a0 else -a0), .long a2]⟩ rfl rfl hl.1 rfl (lv_room (Nat.le_of_ble_eq_true rfl)) dX0_tell_5 ⟨Nat.le_of_ble_eq_true rfl, Nat.le_of_ble_eq_true rfl⟩)) (fun r_1 h => ?_)
  refine lv_lstore (lv' := [(5, .long r_1), (0, .long a0), (2, .long a2), (4, .int a4)]) F.1 F.2.1 dX0_tell_8 hl (by decide) rfl (fun ls hl => ?_)
  refine lv_lload F.1 F.2.1 dX0_tell_10 (lv_at hl 0 rfl) ?_
  refine lv_lconst (v := (1 : Int64)) F.1 F.2.1 dX0_tell_12 (by decide) ?_
  refine W.lcmp F.1 F.2.1 dX0_tell_13 ?_
  refine lv_if_ge (tgt := 21) F.1 F.2.1 dX0_tell_14 (by decide) (fun hc => ?_) (fun hc => ?_)
  · have h := h.1 ((lg_cmp_ge _ _).mp hc)
    refine lv_iload F.1 F.2.1 dX0_tell_21 (lv_at hl 3 rfl) ?_
    refine lv_if_ne (tgt := 30) F.1 F.2.1 dX0_tell_23 (by decide) (fun hc => ?_) (fun hc => ?_)
    · have h := h.2 hc
      refine lv_lload_n F.1 F.2.1 dX0_tell_30 rfl (lv_at hl 2 rfl) ?_
      refine lv_lload F.1 F.2.1 dX0_tell_31 (lv_at hl 0 rfl) ?_
      refine lv_ldiv F.1 F.2.1 dX0_tell_33 h.1 ?_
      have h := h.2
      exact hret _ _ _ h dX0_tell_34
    · have h := h.1 (hc)
      refine lv_lload_n F.1 F.2.1 dX0_tell_26 rfl (lv_at hl 1 rfl) ?_
      refine lv_goto (tgt := 31) F.1 F.2.1 dX0_tell_27 (by decide) ?_
      refine lv_lload F.1 F.2.1 dX0_tell_31 (lv_at hl 0 rfl) ?_
      refine lv_ldiv F.1 F.2.1 dX0_tell_33 h.1 ?_
      have h := h.2
      exact hret _ _ _ h dX0_tell_34
  · have h := h.2 (fun z => hc ((lg_cmp_ge _ _).mpr z))
    refine lv_ldc2 (v := (-4000000000000000000 : Int64)) F.1 F.2.1 F.2.2.2.1 (F.2.2.2.2 _ uX0_tell_5) dX0_tell_17 ?_
    exact hret _ _ _ h dX0_tell_20
theorem mX0_tell {l : Launch} {D : va_G} {cI cJ cZ : ClassId}  {a0 : Int64} {a2 : Int64} {a4 : Int32} {Q : Int64 → Prop} (h : wX0_tell a0 a2 a4 Q) : Met l yX0_tell wsX0_tell rX0_tell (va_Pc [.long a0, .long a2, .int a4] (rp D cI cJ cZ [])) (vp_Sl Q) 0 0 (fun _ => False) :=
  enter_l (by decide +kernel) rfl (Nat.le_of_ble_eq_true rfl) (fun p e s m args below meth c QQ F hz hret => bX0_tell F hz.1 hz.2 hret h)
end WALKS
