/-! THE WALKS of mstatic, printed by wip/whole/gen.py -/
section WALKS
variable {p : Program} {l : Launch} {e : Env} {s : State} {m : MethodId} {args : Array Value} {below : List Frame} {meth : Method} {c : Code} {QQ : State → Prop} {A : Nat → Prop} {D : va_G} {cI cJ cZ : ClassId} {ad : Nat → Nat}
abbrev rX6_in : Room := { frames := 0, cells := 0, slots := 0, locals := 0 }
theorem kS_X6_in : yX6_in.cls ≠ "java/lang/invoke/MethodHandle" ∧ yX6_in.cls ≠ "java/lang/invoke/VarHandle" ∧ (parseMethodDescriptor yX6_in.desc).map (fun d => d.parameters.length) = some 3 := by decide +kernel
set_option maxRecDepth 100000 in
theorem bX6_in {a0 : Int32} {a1 : Int32} {a2 : Int32} {Q : Int32 → Prop} (F : CallFix p m c cX6_in 3 s args wsX6_in RX6) (hz : gz D cI cJ cZ s) (hP : va_P D vwCl [] s.heap) (hret : ∀ (v : Int32) (pc : Nat) (ls : Array Slot), narrow .boolean (.int v) = .int v → Q v → decode cX6_in pc = .ok (.ireturn, 1) → W p l e rX6_in s m args below meth c s.heap [] 0 0 QQ (F0 m pc ls [.int v])) (h : wX6_in a0 a1 a2 Q) : ∀ ls : Array Slot, lv_has ls 3 [(0, .int a0), (1, .int a1), (2, .int a2)] → W p l e rX6_in s m args below meth c s.heap [] 0 0 QQ (F0 m 0 ls []) := by
  intro ls hl
  refine lv_iload_n F.1 F.2.1 dX6_in_0 rfl (lv_at hl 0 rfl) ?_
  refine lv_iload_n F.1 F.2.1 dX6_in_1 rfl (lv_at hl 1 rfl) ?_
  refine lv_icmp_lt (tgt := 14) F.1 F.2.1 dX6_in_2 (by decide) (fun hc => ?_) (fun hc => ?_)
  · have h := h.1 (hc)
    refine lv_iconst (v := (0 : Int32)) F.1 F.2.1 dX6_in_14 (by decide) ?_
    exact hret _ _ _ nr_0 h dX6_in_15
  · have h := h.2 hc
    refine lv_iload_n F.1 F.2.1 dX6_in_5 rfl (lv_at hl 0 rfl) ?_
    refine lv_iload_n F.1 F.2.1 dX6_in_6 rfl (lv_at hl 2 rfl) ?_
    refine lv_icmp_gt (tgt := 14) F.1 F.2.1 dX6_in_7 (by decide) (fun hc => ?_) (fun hc => ?_)
    · have h := h.1 (hc)
      refine lv_iconst (v := (0 : Int32)) F.1 F.2.1 dX6_in_14 (by decide) ?_
      exact hret _ _ _ nr_0 h dX6_in_15
    · have h := h.2 hc
      refine lv_iconst (v := (1 : Int32)) F.1 F.2.1 dX6_in_10 (by decide) ?_
      refine lv_goto (tgt := 15) F.1 F.2.1 dX6_in_11 (by decide) ?_
      exact hret _ _ _ nr_1 h dX6_in_15
theorem mX6_in {l : Launch} {D : va_G} {cI cJ cZ : ClassId}  {a0 : Int32} {a1 : Int32} {a2 : Int32} {Q : Int32 → Prop} (h : wX6_in a0 a1 a2 Q) : Met l yX6_in wsX6_in rX6_in (va_Pc [.int a0, .int a1, .int a2] (rp D cI cJ cZ [])) (vp_Si (qb Q)) 0 0 (fun _ => False) :=
  enter_z (by decide +kernel) rfl (Nat.le_of_ble_eq_true rfl) (fun p e s m args below meth c QQ F hz hret => bX6_in F hz.1 hz.2 hret h)
abbrev rX6_isHeap : Room := { frames := 1, cells := 0, slots := 0, locals := 22 }
theorem kS_X6_isHeap : yX6_isHeap.cls ≠ "java/lang/invoke/MethodHandle" ∧ yX6_isHeap.cls ≠ "java/lang/invoke/VarHandle" ∧ (parseMethodDescriptor yX6_isHeap.desc).map (fun d => d.parameters.length) = some 1 := by decide +kernel
set_option maxRecDepth 100000 in
theorem bX6_isHeap {a0 : Int32} {Q : Int32 → Prop} (F : CallFix p m c cX6_isHeap 1 s args wsX6_isHeap RX6) (hz : gz D cI cJ cZ s) (hP : va_P D vwCl [] s.heap) (hret : ∀ (v : Int32) (pc : Nat) (ls : Array Slot), narrow .boolean (.int v) = .int v → Q v → decode cX6_isHeap pc = .ok (.ireturn, 1) → W p l e rX6_isHeap s m args below meth c s.heap [] 0 0 QQ (F0 m pc ls [.int v])) (h : wX6_isHeap a0 Q) : ∀ ls : Array Slot, lv_has ls 1 [(0, .int a0)] → W p l e rX6_isHeap s m args below meth c s.heap [] 0 0 QQ (F0 m 0 ls []) := by
  intro ls hl
  refine lv_iload_n F.1 F.2.1 dX6_isHeap_0 rfl (lv_at hl 0 rfl) ?_
  refine lv_iconst (v := (0 : Int32)) F.1 F.2.1 dX6_isHeap_1 (by decide) ?_
  refine lv_sipush (v := (728 : Int32)) F.1 F.2.1 dX6_isHeap_2 (by decide) ?_
  refine vp_callSi (va_Run.run (va_runS (As := [.int a0, .int (0 : Int32), .int (728 : Int32)]) (rest := []) F (mX6_in (l := l) (D := D) (cI := cI) (cJ := cJ) (cZ := cZ) h) (va_cwS 3 F.2.2.2.2 gX6_isHeap_X6_in rfl rfl rfl kS_X6_in ⟨Nat.le_of_ble_eq_true rfl, Nat.le_of_ble_eq_true rfl⟩) ⟨rp_blind, rp_pre hz (hP.sub (ws' := []) [] rfl) [.int a0, .int (0 : Int32), .int (728 : Int32)]⟩ rfl rfl hl.1 rfl (lv_room (Nat.le_of_ble_eq_true rfl)) dX6_isHeap_5 ⟨Nat.le_of_ble_eq_true rfl, Nat.le_of_ble_eq_true rfl⟩)) (fun r_1 h => ?_)
  obtain ⟨hbr_1, h⟩ := h
  exact hret _ _ _ hbr_1 h dX6_isHeap_8
theorem mX6_isHeap {l : Launch} {D : va_G} {cI cJ cZ : ClassId}  {a0 : Int32} {Q : Int32 → Prop} (h : wX6_isHeap a0 Q) : Met l yX6_isHeap wsX6_isHeap rX6_isHeap (va_Pc [.int a0] (rp D cI cJ cZ [])) (vp_Si (qb Q)) 0 0 (fun _ => False) :=
  enter_z (by decide +kernel) rfl (Nat.le_of_ble_eq_true rfl) (fun p e s m args below meth c QQ F hz hret => bX6_isHeap F hz.1 hz.2 hret h)
abbrev rX6_isMark : Room := { frames := 1, cells := 0, slots := 0, locals := 22 }
theorem kS_X6_isMark : yX6_isMark.cls ≠ "java/lang/invoke/MethodHandle" ∧ yX6_isMark.cls ≠ "java/lang/invoke/VarHandle" ∧ (parseMethodDescriptor yX6_isMark.desc).map (fun d => d.parameters.length) = some 1 := by decide +kernel
set_option maxRecDepth 100000 in
theorem bX6_isMark {a0 : Int32} {Q : Int32 → Prop} (F : CallFix p m c cX6_isMark 1 s args wsX6_isMark RX6) (hz : gz D cI cJ cZ s) (hP : va_P D vwCl [] s.heap) (hret : ∀ (v : Int32) (pc : Nat) (ls : Array Slot), narrow .boolean (.int v) = .int v → Q v → decode cX6_isMark pc = .ok (.ireturn, 1) → W p l e rX6_isMark s m args below meth c s.heap [] 0 0 QQ (F0 m pc ls [.int v])) (h : wX6_isMark a0 Q) : ∀ ls : Array Slot, lv_has ls 1 [(0, .int a0)] → W p l e rX6_isMark s m args below meth c s.heap [] 0 0 QQ (F0 m 0 ls []) := by
  intro ls hl
  refine lv_iload_n F.1 F.2.1 dX6_isMark_0 rfl (lv_at hl 0 rfl) ?_
  refine lv_iconst (v := (0 : Int32)) F.1 F.2.1 dX6_isMark_1 (by decide) ?_
  refine lv_iconst (v := (2 : Int32)) F.1 F.2.1 dX6_isMark_2 (by decide) ?_
  refine vp_callSi (va_Run.run (va_runS (As := [.int a0, .int (0 : Int32), .int (2 : Int32)]) (rest := []) F (mX6_in (l := l) (D := D) (cI := cI) (cJ := cJ) (cZ := cZ) h) (va_cwS 3 F.2.2.2.2 gX6_isMark_X6_in rfl rfl rfl kS_X6_in ⟨Nat.le_of_ble_eq_true rfl, Nat.le_of_ble_eq_true rfl⟩) ⟨rp_blind, rp_pre hz (hP.sub (ws' := []) [] rfl) [.int a0, .int (0 : Int32), .int (2 : Int32)]⟩ rfl rfl hl.1 rfl (lv_room (Nat.le_of_ble_eq_true rfl)) dX6_isMark_3 ⟨Nat.le_of_ble_eq_true rfl, Nat.le_of_ble_eq_true rfl⟩)) (fun r_1 h => ?_)
  obtain ⟨hbr_1, h⟩ := h
  exact hret _ _ _ hbr_1 h dX6_isMark_6
theorem mX6_isMark {l : Launch} {D : va_G} {cI cJ cZ : ClassId}  {a0 : Int32} {Q : Int32 → Prop} (h : wX6_isMark a0 Q) : Met l yX6_isMark wsX6_isMark rX6_isMark (va_Pc [.int a0] (rp D cI cJ cZ [])) (vp_Si (qb Q)) 0 0 (fun _ => False) :=
  enter_z (by decide +kernel) rfl (Nat.le_of_ble_eq_true rfl) (fun p e s m args below meth c QQ F hz hret => bX6_isMark F hz.1 hz.2 hret h)
abbrev rX6_digit : Room := { frames := 0, cells := 0, slots := 0, locals := 0 }
theorem kS_X6_digit : yX6_digit.cls ≠ "java/lang/invoke/MethodHandle" ∧ yX6_digit.cls ≠ "java/lang/invoke/VarHandle" ∧ (parseMethodDescriptor yX6_digit.desc).map (fun d => d.parameters.length) = some 2 := by decide +kernel
set_option maxRecDepth 100000 in
theorem bX6_digit {a0 : Int32} {a1 : Int32} {Q : Int32 → Prop} (F : CallFix p m c cX6_digit 2 s args wsX6_digit RX6) (hz : gz D cI cJ cZ s) (hP : va_P D vwCl [] s.heap) (hret : ∀ (v : Int32) (pc : Nat) (ls : Array Slot), Q v → decode cX6_digit pc = .ok (.ireturn, 1) → W p l e rX6_digit s m args below meth c s.heap [] 0 0 QQ (F0 m pc ls [.int v])) (h : wX6_digit a0 a1 Q) : ∀ ls : Array Slot, lv_has ls 2 [(0, .int a0), (1, .int a1)] → W p l e rX6_digit s m args below meth c s.heap [] 0 0 QQ (F0 m 0 ls []) := by
  intro ls hl
  refine lv_iload_n F.1 F.2.1 dX6_digit_0 rfl (lv_at hl 1 rfl) ?_
  refine lv_if_ne (tgt := 11) F.1 F.2.1 dX6_digit_1 (by decide) (fun hc => ?_) (fun hc => ?_)
  · have h := h.2 hc
    refine lv_iload_n F.1 F.2.1 dX6_digit_11 rfl (lv_at hl 1 rfl) ?_
    refine lv_iconst (v := (1 : Int32)) F.1 F.2.1 dX6_digit_12 (by decide) ?_
    refine lv_icmp_ne (tgt := 26) F.1 F.2.1 dX6_digit_13 (by decide) (fun hc => ?_) (fun hc => ?_)
    · have h := h.2 hc
      refine lv_iload_n F.1 F.2.1 dX6_digit_26 rfl (lv_at hl 0 rfl) ?_
      refine lv_bipush (v := (81 : Int32)) F.1 F.2.1 dX6_digit_27 (by decide) ?_
      refine lv_idiv F.1 F.2.1 dX6_digit_29 (by decide) ?_
      exact hret _ _ _ h dX6_digit_30
    · have h := h.1 (hc)
      refine lv_iload_n F.1 F.2.1 dX6_digit_16 rfl (lv_at hl 0 rfl) ?_
      refine lv_bipush (v := (9 : Int32)) F.1 F.2.1 dX6_digit_17 (by decide) ?_
      refine lv_idiv F.1 F.2.1 dX6_digit_19 (by decide) ?_
      refine lv_bipush (v := (9 : Int32)) F.1 F.2.1 dX6_digit_20 (by decide) ?_
      refine lv_irem F.1 F.2.1 dX6_digit_22 (by decide) ?_
      refine lv_goto (tgt := 30) F.1 F.2.1 dX6_digit_23 (by decide) ?_
      exact hret _ _ _ h dX6_digit_30
  · have h := h.1 (hc)
    refine lv_iload_n F.1 F.2.1 dX6_digit_4 rfl (lv_at hl 0 rfl) ?_
    refine lv_bipush (v := (9 : Int32)) F.1 F.2.1 dX6_digit_5 (by decide) ?_
    refine lv_irem F.1 F.2.1 dX6_digit_7 (by decide) ?_
    refine lv_goto (tgt := 30) F.1 F.2.1 dX6_digit_8 (by decide) ?_
    exact hret _ _ _ h dX6_digit_30
theorem mX6_digit {l : Launch} {D : va_G} {cI cJ cZ : ClassId}  {a0 : Int32} {a1 : Int32} {Q : Int32 → Prop} (h : wX6_digit a0 a1 Q) : Met l yX6_digit wsX6_digit rX6_digit (va_Pc [.int a0, .int a1] (rp D cI cJ cZ [])) (vp_Si Q) 0 0 (fun _ => False) :=
  enter_i (by decide +kernel) rfl (Nat.le_of_ble_eq_true rfl) (fun p e s m args below meth c QQ F hz hret => bX6_digit F hz.1 hz.2 hret h)
abbrev rX6_place : Room := { frames := 0, cells := 0, slots := 0, locals := 0 }
theorem kS_X6_place : yX6_place.cls ≠ "java/lang/invoke/MethodHandle" ∧ yX6_place.cls ≠ "java/lang/invoke/VarHandle" ∧ (parseMethodDescriptor yX6_place.desc).map (fun d => d.parameters.length) = some 1 := by decide +kernel
set_option maxRecDepth 100000 in
theorem bX6_place {a0 : Int32} {Q : Int32 → Prop} (F : CallFix p m c cX6_place 1 s args wsX6_place RX6) (hz : gz D cI cJ cZ s) (hP : va_P D vwCl [] s.heap) (hret : ∀ (v : Int32) (pc : Nat) (ls : Array Slot), Q v → decode cX6_place pc = .ok (.ireturn, 1) → W p l e rX6_place s m args below meth c s.heap [] 0 0 QQ (F0 m pc ls [.int v])) (h : wX6_place a0 Q) : ∀ ls : Array Slot, lv_has ls 1 [(0, .int a0)] → W p l e rX6_place s m args below meth c s.heap [] 0 0 QQ (F0 m 0 ls []) := by
  intro ls hl
  refine lv_iload_n F.1 F.2.1 dX6_place_0 rfl (lv_at hl 0 rfl) ?_
  refine lv_if_ne (tgt := 8) F.1 F.2.1 dX6_place_1 (by decide) (fun hc => ?_) (fun hc => ?_)
  · have h := h.2 hc
    refine lv_iload_n F.1 F.2.1 dX6_place_8 rfl (lv_at hl 0 rfl) ?_
    refine lv_iconst (v := (1 : Int32)) F.1 F.2.1 dX6_place_9 (by decide) ?_
    refine lv_icmp_ne (tgt := 18) F.1 F.2.1 dX6_place_10 (by decide) (fun hc => ?_) (fun hc => ?_)
    · have h := h.2 hc
      refine lv_bipush (v := (81 : Int32)) F.1 F.2.1 dX6_place_18 (by decide) ?_
      exact hret _ _ _ h dX6_place_20
    · have h := h.1 (hc)
      refine lv_bipush (v := (9 : Int32)) F.1 F.2.1 dX6_place_13 (by decide) ?_
      refine lv_goto (tgt := 20) F.1 F.2.1 dX6_place_15 (by decide) ?_
      exact hret _ _ _ h dX6_place_20
  · have h := h.1 (hc)
    refine lv_iconst (v := (1 : Int32)) F.1 F.2.1 dX6_place_4 (by decide) ?_
    refine lv_goto (tgt := 20) F.1 F.2.1 dX6_place_5 (by decide) ?_
    exact hret _ _ _ h dX6_place_20
theorem mX6_place {l : Launch} {D : va_G} {cI cJ cZ : ClassId}  {a0 : Int32} {Q : Int32 → Prop} (h : wX6_place a0 Q) : Met l yX6_place wsX6_place rX6_place (va_Pc [.int a0] (rp D cI cJ cZ [])) (vp_Si Q) 0 0 (fun _ => False) :=
  enter_i (by decide +kernel) rfl (Nat.le_of_ble_eq_true rfl) (fun p e s m args below meth c QQ F hz hret => bX6_place F hz.1 hz.2 hret h)
abbrev rX6_tests : Room := { frames := 1, cells := 0, slots := 0, locals := 21 }
theorem kS_X6_tests : yX6_tests.cls ≠ "java/lang/invoke/MethodHandle" ∧ yX6_tests.cls ≠ "java/lang/invoke/VarHandle" ∧ (parseMethodDescriptor yX6_tests.desc).map (fun d => d.parameters.length) = some 1 := by decide +kernel
set_option maxRecDepth 100000 in
theorem kX6_tests_4 {p0 : Int32} (F : CallFix p m c cX6_tests 3 s args wsX6_tests RX6) (hz : gz D cI cJ cZ s) (hP : va_P D vwCl [] s.heap) {K : Int32 × Int32 → Prop} (hK : ∀ x : Int32 × Int32, K x → match x with | (x1, x2) => ∀ ls : Array Slot, lv_has ls 3 [(0, .int p0), (1, .int x1), (2, .int x2)] → W p l e rX6_tests s m args below meth c s.heap [] 0 0 QQ (F0 m 31 ls [])) : ∀ (nn : Nat) (x : Int32 × Int32), iter (sX6_tests_4 p0 K) nn x → match x with | (x1, x2) => ∀ ls : Array Slot, lv_has ls 3 [(0, .int p0), (1, .int x1), (2, .int x2)] → W p l e rX6_tests s m args below meth c s.heap [] 0 0 QQ (F0 m 4 ls []) := by
  refine iter_walk ?_
  rintro again4 ⟨x1, x2⟩ ih4 h ls hl
  have hK4 := hK
  refine lv_iload_n F.1 F.2.1 dX6_tests_4 rfl (lv_at hl 2 rfl) ?_
  refine lv_iconst (v := (3 : Int32)) F.1 F.2.1 dX6_tests_5 (by decide) ?_
  refine lv_icmp_ge (tgt := 31) F.1 F.2.1 dX6_tests_6 (by decide) (fun hc => ?_) (fun hc => ?_)
  · have h := h.1 (hc)
    exact hK4 (x1, x2) h ls (lv_sub hl [0, 1, 2] rfl)
  · have h := h.2 hc
    refine lv_iload_n F.1 F.2.1 dX6_tests_9 rfl (lv_at hl 1 rfl) ?_
    refine lv_iload_n F.1 F.2.1 dX6_tests_10 rfl (lv_at hl 0 rfl) ?_
    refine lv_iload_n F.1 F.2.1 dX6_tests_11 rfl (lv_at hl 2 rfl) ?_
    refine vp_callSi (va_Run.run (va_runS (As := [.int p0, .int x2]) (rest := [.int x1]) F (mX6_digit (l := l) (D := D) (cI := cI) (cJ := cJ) (cZ := cZ) h) (va_cwS 2 F.2.2.2.2 gX6_tests_X6_digit rfl rfl rfl kS_X6_digit ⟨Nat.le_of_ble_eq_true rfl, Nat.le_of_ble_eq_true rfl⟩) ⟨rp_blind, rp_pre hz (hP.sub (ws' := []) [] rfl) [.int p0, .int x2]⟩ rfl rfl hl.1 rfl (lv_room (Nat.le_of_ble_eq_true rfl)) dX6_tests_12 ⟨Nat.le_of_ble_eq_true rfl, Nat.le_of_ble_eq_true rfl⟩)) (fun r_1 h => ?_)
    refine lv_if_le (tgt := 22) F.1 F.2.1 dX6_tests_15 (by decide) (fun hc => ?_) (fun hc => ?_)
    · have h := h.1 (hc)
      refine lv_iconst (v := (0 : Int32)) F.1 F.2.1 dX6_tests_22 (by decide) ?_
      refine lv_iadd F.1 F.2.1 dX6_tests_23 ?_
      refine lv_istore_n (lv' := [(1, .int (x1 + (0 : Int32))), (0, .int p0), (2, .int x2)]) F.1 F.2.1 dX6_tests_24 rfl hl (by decide) rfl (fun ls hl => ?_)
      refine lv_iinc (v := x2 + 1) (lv' := [(2, .int (x2 + 1)), (1, .int (x1 + (0 : Int32))), (0, .int p0)]) F.1 F.2.1 dX6_tests_25 hl (k := 2) rfl rfl (by decide) rfl (fun ls hl => ?_)
      refine lv_goto (tgt := 4) F.1 F.2.1 dX6_tests_28 (by decide) ?_
      exact ih4 (x1 + (0 : Int32), x2 + 1) h ls (lv_sub hl [2, 1, 0] rfl)
    · have h := h.2 hc
      refine lv_iconst (v := (1 : Int32)) F.1 F.2.1 dX6_tests_18 (by decide) ?_
      refine lv_goto (tgt := 23) F.1 F.2.1 dX6_tests_19 (by decide) ?_
      refine lv_iadd F.1 F.2.1 dX6_tests_23 ?_
      refine lv_istore_n (lv' := [(1, .int (x1 + (1 : Int32))), (0, .int p0), (2, .int x2)]) F.1 F.2.1 dX6_tests_24 rfl hl (by decide) rfl (fun ls hl => ?_)
      refine lv_iinc (v := x2 + 1) (lv' := [(2, .int (x2 + 1)), (1, .int (x1 + (1 : Int32))), (0, .int p0)]) F.1 F.2.1 dX6_tests_25 hl (k := 2) rfl rfl (by decide) rfl (fun ls hl => ?_)
      refine lv_goto (tgt := 4) F.1 F.2.1 dX6_tests_28 (by decide) ?_
      exact ih4 (x1 + (1 : Int32), x2 + 1) h ls (lv_sub hl [2, 1, 0] rfl)
set_option maxRecDepth 100000 in
theorem bX6_tests {a0 : Int32} {Q : Int32 → Prop} (F : CallFix p m c cX6_tests 3 s args wsX6_tests RX6) (hz : gz D cI cJ cZ s) (hP : va_P D vwCl [] s.heap) (hret : ∀ (v : Int32) (pc : Nat) (ls : Array Slot), Q v → decode cX6_tests pc = .ok (.ireturn, 1) → W p l e rX6_tests s m args below meth c s.heap [] 0 0 QQ (F0 m pc ls [.int v])) (h : wX6_tests a0 Q) : ∀ ls : Array Slot, lv_has ls 3 [(0, .int a0)] → W p l e rX6_tests s m args below meth c s.heap [] 0 0 QQ (F0 m 0 ls []) := by
  intro ls hl
  refine lv_iconst (v := (0 : Int32)) F.1 F.2.1 dX6_tests_0 (by decide) ?_
  refine lv_istore_n (lv' := [(1, .int (0 : Int32)), (0, .int a0)]) F.1 F.2.1 dX6_tests_1 rfl hl (by decide) rfl (fun ls hl => ?_)
  refine lv_iconst (v := (0 : Int32)) F.1 F.2.1 dX6_tests_2 (by decide) ?_
  refine lv_istore_n (lv' := [(2, .int (0 : Int32)), (1, .int (0 : Int32)), (0, .int a0)]) F.1 F.2.1 dX6_tests_3 rfl hl (by decide) rfl (fun ls hl => ?_)
  obtain ⟨nn, h⟩ := h
  refine kX6_tests_4 F hz hP (fun ⟨x1, x2⟩ h ls hl => ?_) nn _ h ls (lv_sub hl [2, 1, 0] rfl)
  refine lv_iload_n F.1 F.2.1 dX6_tests_31 rfl (lv_at hl 1 rfl) ?_
  exact hret _ _ _ h dX6_tests_32
theorem mX6_tests {l : Launch} {D : va_G} {cI cJ cZ : ClassId}  {a0 : Int32} {Q : Int32 → Prop} (h : wX6_tests a0 Q) : Met l yX6_tests wsX6_tests rX6_tests (va_Pc [.int a0] (rp D cI cJ cZ [])) (vp_Si Q) 0 0 (fun _ => False) :=
  enter_i (by decide +kernel) rfl (Nat.le_of_ble_eq_true rfl) (fun p e s m args below meth c QQ F hz hret => bX6_tests F hz.1 hz.2 hret h)
abbrev rX6_common : Room := { frames := 0, cells := 0, slots := 0, locals := 0 }
theorem kS_X6_common : yX6_common.cls ≠ "java/lang/invoke/MethodHandle" ∧ yX6_common.cls ≠ "java/lang/invoke/VarHandle" ∧ (parseMethodDescriptor yX6_common.desc).map (fun d => d.parameters.length) = some 2 := by decide +kernel
set_option maxRecDepth 100000 in
theorem kX6_common_28 (F : CallFix p m c cX6_common 10 s args wsX6_common RX6) (hz : gz D cI cJ cZ s) (hP : va_P D vwCl [] s.heap) {K : Int64 × Int64 → Prop} (hK : ∀ x : Int64 × Int64, K x → match x with | (x4, x6) => ∀ ls : Array Slot, lv_has ls 10 [(4, .long x4), (6, .long x6)] → W p l e rX6_common s m args below meth c s.heap [] 0 0 QQ (F0 m 53 ls [])) : ∀ (nn : Nat) (x : Int64 × Int64), iter (sX6_common_28 K) nn x → match x with | (x4, x6) => ∀ ls : Array Slot, lv_has ls 10 [(4, .long x4), (6, .long x6)] → W p l e rX6_common s m args below meth c s.heap [] 0 0 QQ (F0 m 28 ls []) := by
  refine iter_walk ?_
  rintro again28 ⟨x4, x6⟩ ih28 h ls hl
  have hK28 := hK
  refine lv_lload F.1 F.2.1 dX6_common_28 (lv_at hl 1 rfl) ?_
  refine lv_lconst (v := (0 : Int64)) F.1 F.2.1 dX6_common_30 (by decide) ?_
  refine W.lcmp F.1 F.2.1 dX6_common_31 ?_
  refine lv_if_eq (tgt := 53) F.1 F.2.1 dX6_common_32 (by decide) (fun hc => ?_) (fun hc => ?_)
  · have h := h.1 ((lg_cmp_eq _ _).mp hc)
    exact hK28 (x4, x6) h ls (lv_sub hl [0, 1] rfl)
  · have h := h.2 (fun z => hc ((lg_cmp_eq _ _).mpr z))
    refine lv_lload F.1 F.2.1 dX6_common_35 (lv_at hl 0 rfl) ?_
    refine lv_lload F.1 F.2.1 dX6_common_37 (lv_at hl 1 rfl) ?_
    refine lv_lrem F.1 F.2.1 dX6_common_39 h.1 ?_
    have h := h.2
    refine lv_lstore (lv' := [(8, .long (x4 - x4 / x6 * x6)), (4, .long x4), (6, .long x6)]) F.1 F.2.1 dX6_common_40 hl (by decide) rfl (fun ls hl => ?_)
    refine lv_lload F.1 F.2.1 dX6_common_42 (lv_at hl 2 rfl) ?_
    refine lv_lstore (lv' := [(4, .long x6), (8, .long (x4 - x4 / x6 * x6)), (6, .long x6)]) F.1 F.2.1 dX6_common_44 hl (by decide) rfl (fun ls hl => ?_)
    refine lv_lload F.1 F.2.1 dX6_common_46 (lv_at hl 1 rfl) ?_
    refine lv_lstore (lv' := [(6, .long (x4 - x4 / x6 * x6)), (4, .long x6), (8, .long (x4 - x4 / x6 * x6))]) F.1 F.2.1 dX6_common_48 hl (by decide) rfl (fun ls hl => ?_)
    refine lv_goto (tgt := 28) F.1 F.2.1 dX6_common_50 (by decide) ?_
    exact ih28 (x6, x4 - x4 / x6 * x6) h ls (lv_sub hl [1, 0] rfl)
set_option maxRecDepth 100000 in
theorem bX6_common {a0 : Int64} {a2 : Int64} {Q : Int64 → Prop} (F : CallFix p m c cX6_common 10 s args wsX6_common RX6) (hz : gz D cI cJ cZ s) (hP : va_P D vwCl [] s.heap) (hret : ∀ (v : Int64) (pc : Nat) (ls : Array Slot), Q v → decode cX6_common pc = .ok (.lreturn, 1) → W p l e rX6_common s m args below meth c s.heap [] 0 0 QQ (F0 m pc ls [.long v])) (h : wX6_common a0 a2 Q) : ∀ ls : Array Slot, lv_has ls 10 [(0, .long a0), (2, .long a2)] → W p l e rX6_common s m args below meth c s.heap [] 0 0 QQ (F0 m 0 ls []) := by
  intro ls hl
  refine lv_lload_n F.1 F.2.1 dX6_common_0 rfl (lv_at hl 0 rfl) ?_
  refine lv_lconst (v := (0 : Int64)) F.1 F.2.1 dX6_common_1 (by decide) ?_
  refine W.lcmp F.1 F.2.1 dX6_common_2 ?_
  refine lv_if_ge (tgt := 11) F.1 F.2.1 dX6_common_3 (by decide) (fun hc => ?_) (fun hc => ?_)
  · have h := h.1 ((lg_cmp_ge _ _).mp hc)
    refine lv_lload_n F.1 F.2.1 dX6_common_11 rfl (lv_at hl 0 rfl) ?_
    refine lv_lstore (lv' := [(4, .long a0), (0, .long a0), (2, .long a2)]) F.1 F.2.1 dX6_common_12 hl (by decide) rfl (fun ls hl => ?_)
    refine lv_lload_n F.1 F.2.1 dX6_common_14 rfl (lv_at hl 2 rfl) ?_
    refine lv_lconst (v := (0 : Int64)) F.1 F.2.1 dX6_common_15 (by decide) ?_
    refine W.lcmp F.1 F.2.1 dX6_common_16 ?_
    refine lv_if_ge (tgt := 25) F.1 F.2.1 dX6_common_17 (by decide) (fun hc => ?_) (fun hc => ?_)
    · have h := h.1 ((lg_cmp_ge _ _).mp hc)
      refine lv_lload_n F.1 F.2.1 dX6_common_25 rfl (lv_at hl 2 rfl) ?_
      refine lv_lstore (lv' := [(6, .long a2), (4, .long a0), (0, .long a0), (2, .long a2)]) F.1 F.2.1 dX6_common_26 hl (by decide) rfl (fun ls hl => ?_)
      obtain ⟨nn, h⟩ := h
      refine kX6_common_28 F hz hP (fun ⟨x4, x6⟩ h ls hl => ?_) nn _ h ls (lv_sub hl [1, 0] rfl)
      refine lv_lload F.1 F.2.1 dX6_common_53 (lv_at hl 0 rfl) ?_
      exact hret _ _ _ h dX6_common_55
    · have h := h.2 (fun z => hc ((lg_cmp_ge _ _).mpr z))
      refine lv_lload_n F.1 F.2.1 dX6_common_20 rfl (lv_at hl 2 rfl) ?_
      refine lv_lneg F.1 F.2.1 dX6_common_21 ?_
      refine lv_goto (tgt := 26) F.1 F.2.1 dX6_common_22 (by decide) ?_
      refine lv_lstore (lv' := [(6, .long (-a2)), (4, .long a0), (0, .long a0), (2, .long a2)]) F.1 F.2.1 dX6_common_26 hl (by decide) rfl (fun ls hl => ?_)
      obtain ⟨nn, h⟩ := h
      refine kX6_common_28 F hz hP (fun ⟨x4, x6⟩ h ls hl => ?_) nn _ h ls (lv_sub hl [1, 0] rfl)
      refine lv_lload F.1 F.2.1 dX6_common_53 (lv_at hl 0 rfl) ?_
      exact hret _ _ _ h dX6_common_55
  · have h := h.2 (fun z => hc ((lg_cmp_ge _ _).mpr z))
    refine lv_lload_n F.1 F.2.1 dX6_common_6 rfl (lv_at hl 0 rfl) ?_
    refine lv_lneg F.1 F.2.1 dX6_common_7 ?_
    refine lv_goto (tgt := 12) F.1 F.2.1 dX6_common_8 (by decide) ?_
    refine lv_lstore (lv' := [(4, .long (-a0)), (0, .long a0), (2, .long a2)]) F.1 F.2.1 dX6_common_12 hl (by decide) rfl (fun ls hl => ?_)
    refine lv_lload_n F.1 F.2.1 dX6_common_14 rfl (lv_at hl 2 rfl) ?_
    refine lv_lconst (v := (0 : Int64)) F.1 F.2.1 dX6_common_15 (by decide) ?_
    refine W.lcmp F.1 F.2.1 dX6_common_16 ?_
    refine lv_if_ge (tgt := 25) F.1 F.2.1 dX6_common_17 (by decide) (fun hc => ?_) (fun hc => ?_)
    · have h := h.1 ((lg_cmp_ge _ _).mp hc)
      refine lv_lload_n F.1 F.2.1 dX6_common_25 rfl (lv_at hl 2 rfl) ?_
      refine lv_lstore (lv' := [(6, .long a2), (4, .long (-a0)), (0, .long a0), (2, .long a2)]) F.1 F.2.1 dX6_common_26 hl (by decide) rfl (fun ls hl => ?_)
      obtain ⟨nn, h⟩ := h
      refine kX6_common_28 F hz hP (fun ⟨x4, x6⟩ h ls hl => ?_) nn _ h ls (lv_sub hl [1, 0] rfl)
      refine lv_lload F.1 F.2.1 dX6_common_53 (lv_at hl 0 rfl) ?_
      exact hret _ _ _ h dX6_common_55
    · have h := h.2 (fun z => hc ((lg_cmp_ge _ _).mpr z))
      refine lv_lload_n F.1 F.2.1 dX6_common_20 rfl (lv_at hl 2 rfl) ?_
      refine lv_lneg F.1 F.2.1 dX6_common_21 ?_
      refine lv_goto (tgt := 26) F.1 F.2.1 dX6_common_22 (by decide) ?_
      refine lv_lstore (lv' := [(6, .long (-a2)), (4, .long (-a0)), (0, .long a0), (2, .long a2)]) F.1 F.2.1 dX6_common_26 hl (by decide) rfl (fun ls hl => ?_)
      obtain ⟨nn, h⟩ := h
      refine kX6_common_28 F hz hP (fun ⟨x4, x6⟩ h ls hl => ?_) nn _ h ls (lv_sub hl [1, 0] rfl)
      refine lv_lload F.1 F.2.1 dX6_common_53 (lv_at hl 0 rfl) ?_
      exact hret _ _ _ h dX6_common_55
theorem mX6_common {l : Launch} {D : va_G} {cI cJ cZ : ClassId}  {a0 : Int64} {a2 : Int64} {Q : Int64 → Prop} (h : wX6_common a0 a2 Q) : Met l yX6_common wsX6_common rX6_common (va_Pc [.long a0, .long a2] (rp D cI cJ cZ [])) (vp_Sl Q) 0 0 (fun _ => False) :=
  enter_l (by decide +kernel) rfl (Nat.le_of_ble_eq_true rfl) (fun p e s m args below meth c QQ F hz hret => bX6_common F hz.1 hz.2 hret h)
abbrev rX6_lowest : Room := { frames := 1, cells := 0, slots := 0, locals := 29 }
theorem kS_X6_lowest : yX6_lowest.cls ≠ "java/lang/invoke/MethodHandle" ∧ yX6_lowest.cls ≠ "java/lang/invoke/VarHandle" ∧ (parseMethodDescriptor yX6_lowest.desc).map (fun d => d.parameters.length) = some 3 := by decide +kernel
set_option maxRecDepth 100000 in
theorem bX6_lowest {a0 : Int64} {a2 : Int64} {a4 : Int32} {Q : Int64 → Prop} (F : CallFix p m c cX6_lowest 7 s args wsX6_lowest RX6) (hz : gz D cI cJ cZ s) (hP : va_P D vwCl [] s.heap) (hret : ∀ (v : Int64) (pc : Nat) (ls : Array Slot), Q v → decode cX6_lowest pc = .ok (.lreturn, 1) → W p l e rX6_lowest s m args below meth c s.heap [] 0 0 QQ (F0 m pc ls [.long v])) (h : wX6_lowest a0 a2 a4 Q) : ∀ ls : Array Slot, lv_has ls 7 [(0, .long a0), (2, .long a2), (4, .int a4)] → W p l e rX6_lowest s m args below meth c s.heap [] 0 0 QQ (F0 m 0 ls []) := by
  intro ls hl
  refine lv_lload_n F.1 F.2.1 dX6_lowest_0 rfl (lv_at hl 0 rfl) ?_
  refine lv_lload_n F.1 F.2.1 dX6_lowest_1 rfl (lv_at hl 1 rfl) ?_
  refine vp_callSl (va_Run.run (va_runS (As := [.long a0, .long a2]) (rest := []) F (mX6_common (l := l) (D := D) (cI := cI) (cJ := cJ) (cZ := cZ) h) (va_cwS 2 F.2.2.2.2 gX6_lowest_X6_common rfl rfl rfl kS_X6_common ⟨Nat.le_of_ble_eq_true rfl, Nat.le_of_ble_eq_true rfl⟩) ⟨rp_blind, rp_pre hz (hP.sub (ws' := []) [] rfl) [.long a0, .long a2]⟩ rfl rfl hl.1 rfl (lv_room (Nat.le_of_ble_eq_true rfl)) dX6_lowest_2 ⟨Nat.le_of_ble_eq_true rfl, Nat.le_of_ble_eq_true rfl⟩)) (fun r_1 h => ?_)
  refine lv_lstore (lv' := [(5, .long r_1), (0, .long a0), (2, .long a2), (4, .int a4)]) F.1 F.2.1 dX6_lowest_5 hl (by decide) rfl (fun ls hl => ?_)
  refine lv_iload F.1 F.2.1 dX6_lowest_7 (lv_at hl 3 rfl) ?_
  refine lv_if_ne (tgt := 19) F.1 F.2.1 dX6_lowest_9 (by decide) (fun hc => ?_) (fun hc => ?_)
  · have h := h.2 hc
    refine lv_lload_n F.1 F.2.1 dX6_lowest_19 rfl (lv_at hl 2 rfl) ?_
    refine lv_lload F.1 F.2.1 dX6_lowest_20 (lv_at hl 0 rfl) ?_
    refine lv_ldiv F.1 F.2.1 dX6_lowest_22 h.1 ?_
    have h := h.2
    exact hret _ _ _ h dX6_lowest_23
  · have h := h.1 (hc)
    refine lv_lload_n F.1 F.2.1 dX6_lowest_12 rfl (lv_at hl 1 rfl) ?_
    refine lv_lload F.1 F.2.1 dX6_lowest_13 (lv_at hl 0 rfl) ?_
    refine lv_ldiv F.1 F.2.1 dX6_lowest_15 h.1 ?_
    have h := h.2
    refine lv_goto (tgt := 23) F.1 F.2.1 dX6_lowest_16 (by decide) ?_
    exact hret _ _ _ h dX6_lowest_23
theorem mX6_lowest {l : Launch} {D : va_G} {cI cJ cZ : ClassId}  {a0 : Int64} {a2 : Int64} {a4 : Int32} {Q : Int64 → Prop} (h : wX6_lowest a0 a2 a4 Q) : Met l yX6_lowest wsX6_lowest rX6_lowest (va_Pc [.long a0, .long a2, .int a4] (rp D cI cJ cZ [])) (vp_Sl Q) 0 0 (fun _ => False) :=
  enter_l (by decide +kernel) rfl (Nat.le_of_ble_eq_true rfl) (fun p e s m args below meth c QQ F hz hret => bX6_lowest F hz.1 hz.2 hret h)
abbrev rX6_floor : Room := { frames := 0, cells := 0, slots := 0, locals := 0 }
theorem kS_X6_floor : yX6_floor.cls ≠ "java/lang/invoke/MethodHandle" ∧ yX6_floor.cls ≠ "java/lang/invoke/VarHandle" ∧ (parseMethodDescriptor yX6_floor.desc).map (fun d => d.parameters.length) = some 2 := by decide +kernel
set_option maxRecDepth 100000 in
theorem bX6_floor {a0 : Int32} {a1 : Int32} {Q : Int32 → Prop} (F : CallFix p m c cX6_floor 3 s args wsX6_floor RX6) (hz : gz D cI cJ cZ s) (hP : va_P D vwCl [] s.heap) (hret : ∀ (v : Int32) (pc : Nat) (ls : Array Slot), Q v → decode cX6_floor pc = .ok (.ireturn, 1) → W p l e rX6_floor s m args below meth c s.heap [] 0 0 QQ (F0 m pc ls [.int v])) (h : wX6_floor a0 a1 Q) : ∀ ls : Array Slot, lv_has ls 3 [(0, .int a0), (1, .int a1)] → W p l e rX6_floor s m args below meth c s.heap [] 0 0 QQ (F0 m 0 ls []) := by
  intro ls hl
  refine lv_iload_n F.1 F.2.1 dX6_floor_0 rfl (lv_at hl 0 rfl) ?_
  refine lv_iload_n F.1 F.2.1 dX6_floor_1 rfl (lv_at hl 1 rfl) ?_
  refine lv_idiv F.1 F.2.1 dX6_floor_2 h.1 ?_
  have h := h.2
  refine lv_istore_n (lv' := [(2, .int (a0 / a1)), (0, .int a0), (1, .int a1)]) F.1 F.2.1 dX6_floor_3 rfl hl (by decide) rfl (fun ls hl => ?_)
  refine lv_iload_n F.1 F.2.1 dX6_floor_4 rfl (lv_at hl 0 rfl) ?_
  refine lv_iload_n F.1 F.2.1 dX6_floor_5 rfl (lv_at hl 2 rfl) ?_
  refine lv_imul F.1 F.2.1 dX6_floor_6 ?_
  refine lv_iload_n F.1 F.2.1 dX6_floor_7 rfl (lv_at hl 1 rfl) ?_
  refine lv_icmp_le (tgt := 17) F.1 F.2.1 dX6_floor_8 (by decide) (fun hc => ?_) (fun hc => ?_)
  · have h := h.1 (hc)
    refine lv_iload_n F.1 F.2.1 dX6_floor_17 rfl (lv_at hl 0 rfl) ?_
    exact hret _ _ _ h dX6_floor_18
  · have h := h.2 hc
    refine lv_iload_n F.1 F.2.1 dX6_floor_11 rfl (lv_at hl 0 rfl) ?_
    refine lv_iconst (v := (1 : Int32)) F.1 F.2.1 dX6_floor_12 (by decide) ?_
    refine lv_isub F.1 F.2.1 dX6_floor_13 ?_
    refine lv_goto (tgt := 18) F.1 F.2.1 dX6_floor_14 (by decide) ?_
    exact hret _ _ _ h dX6_floor_18
theorem mX6_floor {l : Launch} {D : va_G} {cI cJ cZ : ClassId}  {a0 : Int32} {a1 : Int32} {Q : Int32 → Prop} (h : wX6_floor a0 a1 Q) : Met l yX6_floor wsX6_floor rX6_floor (va_Pc [.int a0, .int a1] (rp D cI cJ cZ [])) (vp_Si Q) 0 0 (fun _ => False) :=
  enter_i (by decide +kernel) rfl (Nat.le_of_ble_eq_true rfl) (fun p e s m args below meth c QQ F hz hret => bX6_floor F hz.1 hz.2 hret h)
abbrev rX6_tolled : Room := { frames := 0, cells := 0, slots := 0, locals := 0 }
theorem kS_X6_tolled : yX6_tolled.cls ≠ "java/lang/invoke/MethodHandle" ∧ yX6_tolled.cls ≠ "java/lang/invoke/VarHandle" ∧ (parseMethodDescriptor yX6_tolled.desc).map (fun d => d.parameters.length) = some 3 := by decide +kernel
set_option maxRecDepth 100000 in
theorem bX6_tolled {a0 : Int32} {a1 : Int32} {a2 : Int32} {Q : Int32 → Prop} (F : CallFix p m c cX6_tolled 3 s args wsX6_tolled RX6) (hz : gz D cI cJ cZ s) (hP : va_P D vwCl [] s.heap) (hret : ∀ (v : Int32) (pc : Nat) (ls : Array Slot), Q v → decode cX6_tolled pc = .ok (.ireturn, 1) → W p l e rX6_tolled s m args below meth c s.heap [] 0 0 QQ (F0 m pc ls [.int v])) (h : wX6_tolled a0 a1 a2 Q) : ∀ ls : Array Slot, lv_has ls 3 [(0, .int a0), (1, .int a1), (2, .int a2)] → W p l e rX6_tolled s m args below meth c s.heap [] 0 0 QQ (F0 m 0 ls []) := by
  intro ls hl
  refine lv_iload_n F.1 F.2.1 dX6_tolled_0 rfl (lv_at hl 0 rfl) ?_
  refine lv_if_ge (tgt := 9) F.1 F.2.1 dX6_tolled_1 (by decide) (fun hc => ?_) (fun hc => ?_)
  · have h := h.1 (hc)
    refine lv_iload_n F.1 F.2.1 dX6_tolled_9 rfl (lv_at hl 0 rfl) ?_
    refine lv_iload_n F.1 F.2.1 dX6_tolled_10 rfl (lv_at hl 2 rfl) ?_
    refine lv_iload_n F.1 F.2.1 dX6_tolled_11 rfl (lv_at hl 1 rfl) ?_
    refine lv_imul F.1 F.2.1 dX6_tolled_12 ?_
    refine lv_iadd F.1 F.2.1 dX6_tolled_13 ?_
    exact hret _ _ _ h dX6_tolled_14
  · have h := h.2 hc
    refine lv_iload_n F.1 F.2.1 dX6_tolled_4 rfl (lv_at hl 0 rfl) ?_
    refine lv_ineg F.1 F.2.1 dX6_tolled_5 ?_
    refine lv_goto (tgt := 10) F.1 F.2.1 dX6_tolled_6 (by decide) ?_
    refine lv_iload_n F.1 F.2.1 dX6_tolled_10 rfl (lv_at hl 2 rfl) ?_
    refine lv_iload_n F.1 F.2.1 dX6_tolled_11 rfl (lv_at hl 1 rfl) ?_
    refine lv_imul F.1 F.2.1 dX6_tolled_12 ?_
    refine lv_iadd F.1 F.2.1 dX6_tolled_13 ?_
    exact hret _ _ _ h dX6_tolled_14
theorem mX6_tolled {l : Launch} {D : va_G} {cI cJ cZ : ClassId}  {a0 : Int32} {a1 : Int32} {a2 : Int32} {Q : Int32 → Prop} (h : wX6_tolled a0 a1 a2 Q) : Met l yX6_tolled wsX6_tolled rX6_tolled (va_Pc [.int a0, .int a1, .int a2] (rp D cI cJ cZ [])) (vp_Si Q) 0 0 (fun _ => False) :=
  enter_i (by decide +kernel) rfl (Nat.le_of_ble_eq_true rfl) (fun p e s m args below meth c QQ F hz hret => bX6_tolled F hz.1 hz.2 hret h)
end WALKS
