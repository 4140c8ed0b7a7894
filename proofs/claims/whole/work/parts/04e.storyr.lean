/-! THE WALKS of storyr, printed by wip/whole/gen.py -/
section WALKS
variable {p : Program} {l : Launch} {e : Env} {s : State} {m : MethodId} {args : Array Value} {below : List Frame} {meth : Method} {c : Code} {QQ : State → Prop} {A : Nat → Prop} {D : va_G} {cI cJ cZ : ClassId} {ad : Nat → Nat}
abbrev rX3_mayTell : Room := { frames := 3, cells := 0, slots := 0, locals := 72 }
theorem kV_X3_mayTell : yX3_mayTell.cls = RX3 ∧ yX3_mayTell.cls ≠ "java/lang/invoke/MethodHandle" ∧ yX3_mayTell.cls ≠ "java/lang/invoke/VarHandle" ∧ (parseMethodDescriptor yX3_mayTell.desc).map (fun d => d.parameters.length) = some 1 := by decide +kernel
theorem uX3_mayTell_7 : Cond.initialized RX5 ∈ wsX3_mayTell := List.mem_of_getElem? (i := 7) rfl
theorem uX3_mayTell_6 : Cond.static yX5_isIn ∈ wsX3_mayTell := List.mem_of_getElem? (i := 6) rfl
theorem vX3_mayTell_X3 : ∀ w ∈ wsX30, w ∈ wsX3_mayTell := fun _ h => List.mem_cons_of_mem _ (List.mem_append_left _ (List.mem_append_right _ h))
theorem uX3_mayTell_1 : Cond.fieldLink RX3 9 "SumMoved$Stories" "rows" "LSumMoved$Rows;" ∈ wsX3_mayTell := List.mem_of_getElem? (i := 1) rfl
set_option maxRecDepth 100000 in
theorem bX3_mayTell {a1 : Int32} {S : SX} {Q : Int32 → Prop} (F : CallFix p m c cX3_mayTell 2 s args wsX3_mayTell RX3) (hz : gz D cI cJ cZ s) (hP : va_P D vwCl (w5 ad cI cJ S) s.heap) (hret : ∀ (v : Int32) (pc : Nat) (ls : Array Slot), narrow .boolean (.int v) = .int v → Q v → decode cX3_mayTell pc = .ok (.ireturn, 1) → W p l e rX3_mayTell s m args below meth c s.heap [] 0 0 QQ (F0 m pc ls [.int v])) (h : wX3_mayTell S a1 Q) : ∀ ls : Array Slot, lv_has ls 2 [(0, .ref (ad 12)), (1, .int a1)] → W p l e rX3_mayTell s m args below meth c s.heap [] 0 0 QQ (F0 m 0 ls []) := by
  intro ls hl
  refine lv_iload_n F.1 F.2.1 dX3_mayTell_0 rfl (lv_at hl 1 rfl) ?_
  refine vp_callSi (va_Run.run (va_runS (As := [.int a1]) (rest := []) F (mX1_has (l := l) (D := D) (cI := cI) (cJ := cJ) (cZ := cZ) h) (va_cwS 1 F.2.2.2.2 gX3_mayTell_X1_has rfl rfl rfl kS_X1_has ⟨Nat.le_of_ble_eq_true rfl, Nat.le_of_ble_eq_true rfl⟩) ⟨rp_blind, rp_pre hz (hP.sub (ws' := []) [] rfl) [.int a1]⟩ rfl rfl hl.1 rfl (lv_room (Nat.le_of_ble_eq_true rfl)) dX3_mayTell_1 ⟨Nat.le_of_ble_eq_true rfl, Nat.le_of_ble_eq_true rfl⟩)) (fun r_1 h => ?_)
  obtain ⟨hbr_1, h⟩ := h
  refine lv_if_eq (tgt := 51) F.1 F.2.1 dX3_mayTell_4 (by decide) (fun hc => ?_) (fun hc => ?_)
  · have h := h.1 (hc)
    refine lv_iconst (v := (0 : Int32)) F.1 F.2.1 dX3_mayTell_51 (by decide) ?_
    exact hret _ _ _ nr_0 h dX3_mayTell_52
  · have h := h.2 hc
    refine lv_iload_n F.1 F.2.1 dX3_mayTell_7 rfl (lv_at hl 1 rfl) ?_
    refine vp_callSi (va_Run.run (va_runS (As := [.int a1]) (rest := []) F (mX1_tests (l := l) (D := D) (cI := cI) (cJ := cJ) (cZ := cZ) h) (va_cwS 1 F.2.2.2.2 gX3_mayTell_X1_tests rfl rfl rfl kS_X1_tests ⟨Nat.le_of_ble_eq_true rfl, Nat.le_of_ble_eq_true rfl⟩) ⟨rp_blind, rp_pre hz (hP.sub (ws' := []) [] rfl) [.int a1]⟩ rfl rfl hl.1 rfl (lv_room (Nat.le_of_ble_eq_true rfl)) dX3_mayTell_8 ⟨Nat.le_of_ble_eq_true rfl, Nat.le_of_ble_eq_true rfl⟩)) (fun r_2 h => ?_)
    refine lv_iconst (v := (1 : Int32)) F.1 F.2.1 dX3_mayTell_11 (by decide) ?_
    refine lv_iconst (v := (2 : Int32)) F.1 F.2.1 dX3_mayTell_12 (by decide) ?_
    refine vp_callSi (va_Run.run (va_runSN (As := [.int r_2, .int (1 : Int32), .int (2 : Int32)]) (rest := []) F (mX5_isIn (l := l) (D := D) (cI := cI) (cJ := cJ) (cZ := cZ) h) ⟨va_cnB 3 F.2.2.2.2 gX3_mayTell_X5_isIn_n52 rfl rfl rfl hz.2.2.2 (F.2.2.2.2 _ uX3_mayTell_7) kS_X5_isIn ⟨Nat.le_of_ble_eq_true rfl, Nat.le_of_ble_eq_true rfl⟩, (F.2.2.2.2 _ uX3_mayTell_6), trivial⟩ ⟨rp_blind, rp_pre hz (hP.sub (ws' := []) [] rfl) [.int r_2, .int (1 : Int32), .int (2 : Int32)]⟩ rfl rfl hl.1 rfl (lv_room (Nat.le_of_ble_eq_true rfl)) dX3_mayTell_13 ⟨Nat.le_of_ble_eq_true rfl, Nat.le_of_ble_eq_true rfl⟩)) (fun r_3 h => ?_)
    obtain ⟨hbr_3, h⟩ := h
    refine lv_if_eq (tgt := 51) F.1 F.2.1 dX3_mayTell_16 (by decide) (fun hc => ?_) (fun hc => ?_)
    · have h := h.1 (hc)
      refine lv_iconst (v := (0 : Int32)) F.1 F.2.1 dX3_mayTell_51 (by decide) ?_
      exact hret _ _ _ nr_0 h dX3_mayTell_52
    · have h := h.2 hc
      refine lv_aload_n F.1 F.2.1 dX3_mayTell_19 rfl (lv_at hl 0 rfl) ?_
      refine va_get (D := D) (ci := 1) (v := .ref (ad 1)) (C := RX3) (T := TX3) (N := 14) F.1 F.2.1 F.2.2.2.2 vX3_mayTell_X3 F.2.2.2.1 hz.1 hP 12 rfl rfl 0 (by decide) (F.2.2.2.2 _ uX3_mayTell_1) (fun _ h9 => h9) rfl dX3_mayTell_20 ?_
      refine lv_iload_n F.1 F.2.1 dX3_mayTell_23 rfl (lv_at hl 1 rfl) ?_
      refine lv_iconst (v := (0 : Int32)) F.1 F.2.1 dX3_mayTell_24 (by decide) ?_
      refine vp_callSl (va_Run.run (va_runV (As := [.int a1, .int (0 : Int32)]) (rest := []) F (mX2_bitsOf (l := l) (D := D) (cI := cI) (cJ := cJ) (cZ := cZ) (ad := ad) h) (cwV 2 F.2.2.2.2 gX3_mayTell_X2_bitsOf rfl rfl rfl kV_X2_bitsOf ⟨Nat.le_of_ble_eq_true rfl, Nat.le_of_ble_eq_true rfl⟩) ⟨rp_blind, va_recv hz.1 hP (ci := 0) (q0 := 1) rfl rfl, rp_pre hz (hP.sub (ws' := w2 ad cI S.1) [1, 2, 3, 4, 5, 6, 7, 8] rfl) (.ref (ad 1) :: [.int a1, .int (0 : Int32)])⟩ rfl rfl hl.1 rfl (lv_room (Nat.le_of_ble_eq_true rfl)) dX3_mayTell_25 ⟨Nat.le_of_ble_eq_true rfl, Nat.le_of_ble_eq_true rfl⟩)) (fun r_4 h => ?_)
      refine lv_lconst (v := (0 : Int64)) F.1 F.2.1 dX3_mayTell_28 (by decide) ?_
      refine W.lcmp F.1 F.2.1 dX3_mayTell_29 ?_
      refine lv_if_ne (tgt := 47) F.1 F.2.1 dX3_mayTell_30 (by decide) (fun hc => ?_) (fun hc => ?_)
      · have h := h.2 (fun z => hc ((lg_cmp_eq _ _).mpr z))
        refine lv_iconst (v := (1 : Int32)) F.1 F.2.1 dX3_mayTell_47 (by decide) ?_
        refine lv_goto (tgt := 52) F.1 F.2.1 dX3_mayTell_48 (by decide) ?_
        exact hret _ _ _ nr_1 h dX3_mayTell_52
      · have h := h.1 ((lg_cmp_eq _ _).mp hc)
        refine lv_aload_n F.1 F.2.1 dX3_mayTell_33 rfl (lv_at hl 0 rfl) ?_
        refine va_get (D := D) (ci := 1) (v := .ref (ad 1)) (C := RX3) (T := TX3) (N := 14) F.1 F.2.1 F.2.2.2.2 vX3_mayTell_X3 F.2.2.2.1 hz.1 hP 12 rfl rfl 0 (by decide) (F.2.2.2.2 _ uX3_mayTell_1) (fun _ h9 => h9) rfl dX3_mayTell_34 ?_
        refine lv_iload_n F.1 F.2.1 dX3_mayTell_37 rfl (lv_at hl 1 rfl) ?_
        refine lv_iconst (v := (1 : Int32)) F.1 F.2.1 dX3_mayTell_38 (by decide) ?_
        refine vp_callSl (va_Run.run (va_runV (As := [.int a1, .int (1 : Int32)]) (rest := []) F (mX2_bitsOf (l := l) (D := D) (cI := cI) (cJ := cJ) (cZ := cZ) (ad := ad) h) (cwV 2 F.2.2.2.2 gX3_mayTell_X2_bitsOf rfl rfl rfl kV_X2_bitsOf ⟨Nat.le_of_ble_eq_true rfl, Nat.le_of_ble_eq_true rfl⟩) ⟨rp_blind, va_recv hz.1 hP (ci := 0) (q0 := 1) rfl rfl, rp_pre hz (hP.sub (ws' := w2 ad cI S.1) [1, 2, 3, 4, 5, 6, 7, 8] rfl) (.ref (ad 1) :: [.int a1, .int (1 : Int32)])⟩ rfl rfl hl.1 rfl (lv_room (Nat.le_of_ble_eq_true rfl)) dX3_mayTell_39 ⟨Nat.le_of_ble_eq_true rfl, Nat.le_of_ble_eq_true rfl⟩)) (fun r_5 h => ?_)
        refine lv_lconst (v := (0 : Int64)) F.1 F.2.1 dX3_mayTell_42 (by decide) ?_
        refine W.lcmp F.1 F.2.1 dX3_mayTell_43 ?_
        refine lv_if_eq (tgt := 51) F.1 F.2.1 dX3_mayTell_44 (by decide) (fun hc => ?_) (fun hc => ?_)
        · have h := h.1 ((lg_cmp_eq _ _).mp hc)
          refine lv_iconst (v := (0 : Int32)) F.1 F.2.1 dX3_mayTell_51 (by decide) ?_
          exact hret _ _ _ nr_0 h dX3_mayTell_52
        · have h := h.2 (fun z => hc ((lg_cmp_eq _ _).mpr z))
          refine lv_iconst (v := (1 : Int32)) F.1 F.2.1 dX3_mayTell_47 (by decide) ?_
          refine lv_goto (tgt := 52) F.1 F.2.1 dX3_mayTell_48 (by decide) ?_
          exact hret _ _ _ nr_1 h dX3_mayTell_52
theorem mX3_mayTell {l : Launch} {D : va_G} {cI cJ cZ : ClassId} {ad : Nat → Nat} {S : SX} {a1 : Int32} {Q : Int32 → Prop} (h : wX3_mayTell S a1 Q) : Met l yX3_mayTell wsX3_mayTell rX3_mayTell (va_Pc [.ref (ad 12), .int a1] (rp D cI cJ cZ (w5 ad cI cJ S))) (vp_Si (qb Q)) 0 0 (fun _ => False) :=
  enter_z (by decide +kernel) rfl (Nat.le_of_ble_eq_true rfl) (fun p e s m args below meth c QQ F hz hret => bX3_mayTell F hz.1 hz.2 hret h)
abbrev rX3_left : Room := { frames := 4, cells := 0, slots := 0, locals := 94 }
theorem kV_X3_left : yX3_left.cls = RX3 ∧ yX3_left.cls ≠ "java/lang/invoke/MethodHandle" ∧ yX3_left.cls ≠ "java/lang/invoke/VarHandle" ∧ (parseMethodDescriptor yX3_left.desc).map (fun d => d.parameters.length) = some 0 := by decide +kernel
theorem vX3_left_X3 : ∀ w ∈ wsX30, w ∈ wsX3_left := fun _ h => List.mem_cons_of_mem _ (List.mem_append_left _ (List.mem_append_right _ h))
theorem uX3_left_1 : Cond.fieldLink RX3 9 "SumMoved$Stories" "rows" "LSumMoved$Rows;" ∈ wsX3_left := List.mem_of_getElem? (i := 1) rfl
theorem uX3_left_2 : Cond.fieldLink RX3 36 "SumMoved$Stories" "expected" "I" ∈ wsX3_left := List.mem_of_getElem? (i := 2) rfl
set_option maxRecDepth 100000 in
theorem bX3_left {S : SX} {Q : Int32 → Prop} (F : CallFix p m c cX3_left 1 s args wsX3_left RX3) (hz : gz D cI cJ cZ s) (hP : va_P D vwCl (w5 ad cI cJ S) s.heap) (hret : ∀ (v : Int32) (pc : Nat) (ls : Array Slot), Q v → decode cX3_left pc = .ok (.ireturn, 1) → W p l e rX3_left s m args below meth c s.heap [] 0 0 QQ (F0 m pc ls [.int v])) (h : wX3_left S Q) : ∀ ls : Array Slot, lv_has ls 1 [(0, .ref (ad 12))] → W p l e rX3_left s m args below meth c s.heap [] 0 0 QQ (F0 m 0 ls []) := by
  intro ls hl
  refine lv_aload_n F.1 F.2.1 dX3_left_0 rfl (lv_at hl 0 rfl) ?_
  refine va_get (D := D) (ci := 1) (v := .ref (ad 1)) (C := RX3) (T := TX3) (N := 14) F.1 F.2.1 F.2.2.2.2 vX3_left_X3 F.2.2.2.1 hz.1 hP 12 rfl rfl 0 (by decide) (F.2.2.2.2 _ uX3_left_1) (fun _ h9 => h9) rfl dX3_left_1 ?_
  refine lv_iconst (v := (0 : Int32)) F.1 F.2.1 dX3_left_4 (by decide) ?_
  refine lv_iconst (v := (0 : Int32)) F.1 F.2.1 dX3_left_5 (by decide) ?_
  refine vp_callSi (va_Run.run (va_runV (As := [.int (0 : Int32), .int (0 : Int32)]) (rest := []) F (mX2_moved (l := l) (D := D) (cI := cI) (cJ := cJ) (cZ := cZ) (ad := ad) h) (cwV 2 F.2.2.2.2 gX3_left_X2_moved rfl rfl rfl kV_X2_moved ⟨Nat.le_of_ble_eq_true rfl, Nat.le_of_ble_eq_true rfl⟩) ⟨rp_blind, va_recv hz.1 hP (ci := 0) (q0 := 1) rfl rfl, rp_pre hz (hP.sub (ws' := w2 ad cI S.1) [1, 2, 3, 4, 5, 6, 7, 8] rfl) (.ref (ad 1) :: [.int (0 : Int32), .int (0 : Int32)])⟩ rfl rfl hl.1 rfl (lv_room (Nat.le_of_ble_eq_true rfl)) dX3_left_6 ⟨Nat.le_of_ble_eq_true rfl, Nat.le_of_ble_eq_true rfl⟩)) (fun r_1 h => ?_)
  refine lv_aload_n F.1 F.2.1 dX3_left_9 rfl (lv_at hl 0 rfl) ?_
  refine va_get (D := D) (ci := 1) (v := .int S.2.2.2.2.2.2.2.2.1) (C := RX3) (T := TX3) (N := 14) F.1 F.2.1 F.2.2.2.2 vX3_left_X3 F.2.2.2.1 hz.1 hP 12 rfl rfl 7 (by decide) (F.2.2.2.2 _ uX3_left_2) (fun _ h9 => h9) rfl dX3_left_10 ?_
  refine lv_isub F.1 F.2.1 dX3_left_13 ?_
  exact hret _ _ _ h dX3_left_14
theorem mX3_left {l : Launch} {D : va_G} {cI cJ cZ : ClassId} {ad : Nat → Nat} {S : SX} {Q : Int32 → Prop} (h : wX3_left S Q) : Met l yX3_left wsX3_left rX3_left (va_Pc [.ref (ad 12)] (rp D cI cJ cZ (w5 ad cI cJ S))) (vp_Si Q) 0 0 (fun _ => False) :=
  enter_i (by decide +kernel) rfl (Nat.le_of_ble_eq_true rfl) (fun p e s m args below meth c QQ F hz hret => bX3_left F hz.1 hz.2 hret h)
abbrev rX3_tollOf : Room := { frames := 5, cells := 0, slots := 0, locals := 114 }
theorem kV_X3_tollOf : yX3_tollOf.cls = RX3 ∧ yX3_tollOf.cls ≠ "java/lang/invoke/MethodHandle" ∧ yX3_tollOf.cls ≠ "java/lang/invoke/VarHandle" ∧ (parseMethodDescriptor yX3_tollOf.desc).map (fun d => d.parameters.length) = some 2 := by decide +kernel
theorem uX3_tollOf_1 : Cond.methodLink RX3 70 Lib.Math.abs.name ∈ wsX3_tollOf := List.mem_of_getElem? (i := 1) rfl
theorem uX3_tollOf_2 : Cond.static Lib.Math.abs.name ∈ wsX3_tollOf := List.mem_of_getElem? (i := 2) rfl
theorem uX3_tollOf_3 : Cond.initialized "java/lang/Math" ∈ wsX3_tollOf := List.mem_of_getElem? (i := 3) rfl
theorem uX3_tollOf_4 : Cond.code Lib.Math.abs.name Lib.Math.abs.code 1 (some .int) ∈ wsX3_tollOf := List.mem_of_getElem? (i := 4) rfl
set_option maxRecDepth 100000 in
theorem bX3_tollOf {a1 : Int32} {a2 : Int32} {S : SX} {Q : Int32 → Prop} (F : CallFix p m c cX3_tollOf 3 s args wsX3_tollOf RX3) (hz : gz D cI cJ cZ s) (hP : va_P D vwCl (w5 ad cI cJ S) s.heap) (hret : ∀ (v : Int32) (pc : Nat) (ls : Array Slot), Q v → decode cX3_tollOf pc = .ok (.ireturn, 1) → W p l e rX3_tollOf s m args below meth c s.heap [] 0 0 QQ (F0 m pc ls [.int v])) (h : wX3_tollOf S a1 a2 Q) : ∀ ls : Array Slot, lv_has ls 3 [(0, .ref (ad 12)), (1, .int a1), (2, .int a2)] → W p l e rX3_tollOf s m args below meth c s.heap [] 0 0 QQ (F0 m 0 ls []) := by
  intro ls hl
  refine lv_aload_n F.1 F.2.1 dX3_tollOf_0 rfl (lv_at hl 0 rfl) ?_
  refine vp_callSi (va_Run.run (va_runV (As := []) (rest := []) F (mX3_left (l := l) (D := D) (cI := cI) (cJ := cJ) (cZ := cZ) (ad := ad) h) (cwV 0 F.2.2.2.2 gX3_tollOf_X3_left rfl rfl rfl kV_X3_left ⟨Nat.le_of_ble_eq_true rfl, Nat.le_of_ble_eq_true rfl⟩) ⟨rp_blind, va_recv hz.1 hP (ci := 1) (q0 := 12) rfl rfl, rp_pre hz hP (.ref (ad 12) :: [])⟩ rfl rfl hl.1 rfl (lv_room (Nat.le_of_ble_eq_true rfl)) dX3_tollOf_1 ⟨Nat.le_of_ble_eq_true rfl, Nat.le_of_ble_eq_true rfl⟩)) (fun r_1 h => ?_)
  refine lv_iload_n F.1 F.2.1 dX3_tollOf_4 rfl (lv_at hl 1 rfl) ?_
  refine lv_isub F.1 F.2.1 dX3_tollOf_5 ?_
  refine va_mabs F.1 F.2.1 (F.2.2.1.trans hl.1.symm) F.2.2.2.1 (F.2.2.2.2 _ uX3_tollOf_1) (F.2.2.2.2 _ uX3_tollOf_2) (F.2.2.2.2 _ uX3_tollOf_3) (F.2.2.2.2 _ uX3_tollOf_4) (Nat.le_of_ble_eq_true rfl) (Nat.le_of_ble_eq_true rfl) (Nat.le_of_ble_eq_true rfl) (Nat.le_of_ble_eq_true rfl) dX3_tollOf_6 ?_
  refine lv_iload_n F.1 F.2.1 dX3_tollOf_9 rfl (lv_at hl 2 rfl) ?_
  refine lv_iadd F.1 F.2.1 dX3_tollOf_10 ?_
  exact hret _ _ _ h dX3_tollOf_11
theorem mX3_tollOf {l : Launch} {D : va_G} {cI cJ cZ : ClassId} {ad : Nat → Nat} {S : SX} {a1 : Int32} {a2 : Int32} {Q : Int32 → Prop} (h : wX3_tollOf S a1 a2 Q) : Met l yX3_tollOf wsX3_tollOf rX3_tollOf (va_Pc [.ref (ad 12), .int a1, .int a2] (rp D cI cJ cZ (w5 ad cI cJ S))) (vp_Si Q) 0 0 (fun _ => False) :=
  enter_i (by decide +kernel) rfl (Nat.le_of_ble_eq_true rfl) (fun p e s m args below meth c QQ F hz hret => bX3_tollOf F hz.1 hz.2 hret h)
abbrev rX3_ofBest : Room := { frames := 0, cells := 0, slots := 0, locals := 0 }
theorem kV_X3_ofBest : yX3_ofBest.cls = RX3 ∧ yX3_ofBest.cls ≠ "java/lang/invoke/MethodHandle" ∧ yX3_ofBest.cls ≠ "java/lang/invoke/VarHandle" ∧ (parseMethodDescriptor yX3_ofBest.desc).map (fun d => d.parameters.length) = some 1 := by decide +kernel
theorem vX3_ofBest_X3 : ∀ w ∈ wsX30, w ∈ wsX3_ofBest := fun _ h => List.mem_cons_of_mem _ (List.mem_append_right _ h)
theorem uX3_ofBest_1 : Cond.fieldLink RX3 39 "SumMoved$Stories" "found" "Z" ∈ wsX3_ofBest := List.mem_of_getElem? (i := 1) rfl
theorem uX3_ofBest_3 : Cond.fieldLink RX3 96 "SumMoved$Stories" "bestMany" "I" ∈ wsX3_ofBest := List.mem_of_getElem? (i := 3) rfl
theorem uX3_ofBest_4 : Cond.fieldLink RX3 99 "SumMoved$Stories" "bestFirst" "I" ∈ wsX3_ofBest := List.mem_of_getElem? (i := 4) rfl
theorem uX3_ofBest_5 : Cond.fieldLink RX3 102 "SumMoved$Stories" "bestSecond" "I" ∈ wsX3_ofBest := List.mem_of_getElem? (i := 5) rfl
theorem uX3_ofBest_6 : Cond.fieldLink RX3 105 "SumMoved$Stories" "bestRest" "I" ∈ wsX3_ofBest := List.mem_of_getElem? (i := 6) rfl
theorem uX3_ofBest_2 : Cond.constant RX3 108 (-1000000) ∈ wsX3_ofBest := List.mem_of_getElem? (i := 2) rfl
set_option maxRecDepth 100000 in
theorem bX3_ofBest {a1 : Int32} {S : SX} {Q : Int32 → Prop} (F : CallFix p m c cX3_ofBest 2 s args wsX3_ofBest RX3) (hz : gz D cI cJ cZ s) (hP : va_P D vwCl (w5 ad cI cJ S) s.heap) (hret : ∀ (v : Int32) (pc : Nat) (ls : Array Slot), Q v → decode cX3_ofBest pc = .ok (.ireturn, 1) → W p l e rX3_ofBest s m args below meth c s.heap [] 0 0 QQ (F0 m pc ls [.int v])) (h : wX3_ofBest S a1 Q) : ∀ ls : Array Slot, lv_has ls 2 [(0, .ref (ad 12)), (1, .int a1)] → W p l e rX3_ofBest s m args below meth c s.heap [] 0 0 QQ (F0 m 0 ls []) := by
  intro ls hl
  refine lv_aload_n F.1 F.2.1 dX3_ofBest_0 rfl (lv_at hl 0 rfl) ?_
  refine va_get (D := D) (ci := 1) (v := .int S.2.2.2.2.2.2.2.2.2.1) (C := RX3) (T := TX3) (N := 14) F.1 F.2.1 F.2.2.2.2 vX3_ofBest_X3 F.2.2.2.1 hz.1 hP 12 rfl rfl 8 (by decide) (F.2.2.2.2 _ uX3_ofBest_1) (fun _ h9 => h9) rfl dX3_ofBest_1 ?_
  refine lv_if_ne (tgt := 10) F.1 F.2.1 dX3_ofBest_4 (by decide) (fun hc => ?_) (fun hc => ?_)
  · have h := h.2 hc
    refine lv_iload_n F.1 F.2.1 dX3_ofBest_10 rfl (lv_at hl 1 rfl) ?_
    by_cases hc0 : a1 = 0
    · have h := h.1 hc0
      refine lv_tableIn (off := 29) (tgt := 40) F.1 F.2.1 dX3_ofBest_11 (by rw [hc0]; decide) (by rw [hc0]; decide) (by rw [hc0]; rfl) (by decide) ?_
      refine lv_aload_n F.1 F.2.1 dX3_ofBest_40 rfl (lv_at hl 0 rfl) ?_
      refine va_get (D := D) (ci := 1) (v := .int S.2.2.2.2.2.2.2.2.2.2.1) (C := RX3) (T := TX3) (N := 14) F.1 F.2.1 F.2.2.2.2 vX3_ofBest_X3 F.2.2.2.1 hz.1 hP 12 rfl rfl 9 (by decide) (F.2.2.2.2 _ uX3_ofBest_3) (fun _ h9 => h9) rfl dX3_ofBest_41 ?_
      exact hret _ _ _ h dX3_ofBest_44
    · have h := h.2 hc0
      by_cases hc1 : a1 = 1
      · have h := h.1 hc1
        refine lv_tableIn (off := 34) (tgt := 45) F.1 F.2.1 dX3_ofBest_11 (by rw [hc1]; decide) (by rw [hc1]; decide) (by rw [hc1]; rfl) (by decide) ?_
        refine lv_aload_n F.1 F.2.1 dX3_ofBest_45 rfl (lv_at hl 0 rfl) ?_
        refine va_get (D := D) (ci := 1) (v := .int S.2.2.2.2.2.2.2.2.2.2.2.1) (C := RX3) (T := TX3) (N := 14) F.1 F.2.1 F.2.2.2.2 vX3_ofBest_X3 F.2.2.2.1 hz.1 hP 12 rfl rfl 10 (by decide) (F.2.2.2.2 _ uX3_ofBest_4) (fun _ h9 => h9) rfl dX3_ofBest_46 ?_
        exact hret _ _ _ h dX3_ofBest_49
      · have h := h.2 hc1
        by_cases hc2 : a1 = 2
        · have h := h.1 hc2
          refine lv_tableIn (off := 39) (tgt := 50) F.1 F.2.1 dX3_ofBest_11 (by rw [hc2]; decide) (by rw [hc2]; decide) (by rw [hc2]; rfl) (by decide) ?_
          refine lv_aload_n F.1 F.2.1 dX3_ofBest_50 rfl (lv_at hl 0 rfl) ?_
          refine va_get (D := D) (ci := 1) (v := .int S.2.2.2.2.2.2.2.2.2.2.2.2.1) (C := RX3) (T := TX3) (N := 14) F.1 F.2.1 F.2.2.2.2 vX3_ofBest_X3 F.2.2.2.1 hz.1 hP 12 rfl rfl 11 (by decide) (F.2.2.2.2 _ uX3_ofBest_5) (fun _ h9 => h9) rfl dX3_ofBest_51 ?_
          exact hret _ _ _ h dX3_ofBest_54
        · have h := h.2 hc2
          by_cases hc3 : a1 = 3
          · have h := h.1 hc3
            refine lv_tableIn (off := 44) (tgt := 55) F.1 F.2.1 dX3_ofBest_11 (by rw [hc3]; decide) (by rw [hc3]; decide) (by rw [hc3]; rfl) (by decide) ?_
            refine lv_aload_n F.1 F.2.1 dX3_ofBest_55 rfl (lv_at hl 0 rfl) ?_
            refine va_get (D := D) (ci := 1) (v := .int S.2.2.2.2.2.2.2.2.2.2.2.2.2.1) (C := RX3) (T := TX3) (N := 14) F.1 F.2.1 F.2.2.2.2 vX3_ofBest_X3 F.2.2.2.1 hz.1 hP 12 rfl rfl 12 (by decide) (F.2.2.2.2 _ uX3_ofBest_6) (fun _ h9 => h9) rfl dX3_ofBest_56 ?_
            exact hret _ _ _ h dX3_ofBest_59
          · have h := h.2 hc3
            refine lv_tableOut (tgt := 60) F.1 F.2.1 dX3_ofBest_11 (by have := lv_neT hc0 (a := 0) rfl; have := lv_neT hc1 (a := 1) rfl; have := lv_neT hc2 (a := 2) rfl; have := lv_neT hc3 (a := 3) rfl; omega) (by decide) ?_
            refine lv_ldc (v := (-1000000 : Int32)) F.1 F.2.1 F.2.2.2.1 (F.2.2.2.2 _ uX3_ofBest_2) dX3_ofBest_60 ?_
            exact hret _ _ _ h dX3_ofBest_62
  · have h := h.1 (hc)
    refine lv_ldc (v := (-1000000 : Int32)) F.1 F.2.1 F.2.2.2.1 (F.2.2.2.2 _ uX3_ofBest_2) dX3_ofBest_7 ?_
    exact hret _ _ _ h dX3_ofBest_9
theorem mX3_ofBest {l : Launch} {D : va_G} {cI cJ cZ : ClassId} {ad : Nat → Nat} {S : SX} {a1 : Int32} {Q : Int32 → Prop} (h : wX3_ofBest S a1 Q) : Met l yX3_ofBest wsX3_ofBest rX3_ofBest (va_Pc [.ref (ad 12), .int a1] (rp D cI cJ cZ (w5 ad cI cJ S))) (vp_Si Q) 0 0 (fun _ => False) :=
  enter_i (by decide +kernel) rfl (Nat.le_of_ble_eq_true rfl) (fun p e s m args below meth c QQ F hz hret => bX3_ofBest F hz.1 hz.2 hret h)
end WALKS
