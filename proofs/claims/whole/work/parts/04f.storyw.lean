/-! THE WALKS of storyw, printed by wip/whole/gen.py -/
section WALKS
variable {p : Program} {l : Launch} {e : Env} {s : State} {m : MethodId} {args : Array Value} {below : List Frame} {meth : Method} {c : Code} {QQ : State → Prop} {A : Nat → Prop} {D : va_G} {cI cJ cZ : ClassId} {ad : Nat → Nat}
abbrev rX2_add : Room := { frames := 1, cells := 0, slots := 0, locals := 20 }
theorem kV_X2_add : yX2_add.cls = RX2 ∧ yX2_add.cls ≠ "java/lang/invoke/MethodHandle" ∧ yX2_add.cls ≠ "java/lang/invoke/VarHandle" ∧ (parseMethodDescriptor yX2_add.desc).map (fun d => d.parameters.length) = some 5 := by decide +kernel
theorem vX2_add_X2 : ∀ w ∈ wsX20, w ∈ wsX2_add := fun _ h => List.mem_cons_of_mem _ (List.mem_append_right _ h)
theorem uX2_add_1 : Cond.fieldLink RX2 9 "SumMoved$Rows" "month" "[I" ∈ wsX2_add := List.mem_of_getElem? (i := 1) rfl
theorem uX2_add_2 : Cond.fieldLink RX2 33 "SumMoved$Rows" "size" "I" ∈ wsX2_add := List.mem_of_getElem? (i := 2) rfl
theorem uX2_add_3 : Cond.fieldLink RX2 15 "SumMoved$Rows" "day" "[I" ∈ wsX2_add := List.mem_of_getElem? (i := 3) rfl
theorem uX2_add_4 : Cond.fieldLink RX2 18 "SumMoved$Rows" "tops" "[I" ∈ wsX2_add := List.mem_of_getElem? (i := 4) rfl
theorem uX2_add_5 : Cond.fieldLink RX2 21 "SumMoved$Rows" "bases" "[I" ∈ wsX2_add := List.mem_of_getElem? (i := 5) rfl
theorem uX2_add_6 : Cond.fieldLink RX2 24 "SumMoved$Rows" "members" "[I" ∈ wsX2_add := List.mem_of_getElem? (i := 6) rfl
theorem uX2_add_7 : Cond.fieldLink RX2 27 "SumMoved$Rows" "marks" "[I" ∈ wsX2_add := List.mem_of_getElem? (i := 7) rfl
set_option maxRecDepth 100000 in
theorem bX2_add {a1 : Int32} {a2 : Int32} {a3 : Int32} {a4 : Int32} {a5 : Int32} {S : SX} {Q : Int32 → SX → Prop} (F : CallFix p m c cX2_add 6 s args wsX2_add RX2) (hz : gz D cI cJ cZ s) (hD : ∀ u : SX, va_D A (w5 ad cI cJ u)) (hA : ∀ q : Nat, s.heap.size ≤ q → A q) (hret : ∀ (v : Int32) (u : SX) (H : Heap) (locs : List Loc) (pc : Nat) (ls : Array Slot), Q v u → va_P D vwCl (w5 ad cI cJ u) H → va_S A s.heap H locs → decode cX2_add pc = .ok (.ireturn, 1) → W p l e rX2_add s m args below meth c H locs 0 0 QQ (F0 m pc ls [.int v])) (hP : va_P D vwCl (w5 ad cI cJ S) s.heap) (h : wX2_add S a1 a2 a3 a4 a5 Q) : ∀ ls : Array Slot, lv_has ls 6 [(0, .ref (ad 1)), (1, .int a1), (2, .int a2), (3, .int a3), (4, .int a4), (5, .int a5)] → W p l e rX2_add s m args below meth c s.heap [] 0 0 QQ (F0 m 0 ls []) := by
  intro ls hl
  have hS : va_S A s.heap s.heap [] := va_S.rf
  refine lv_aload_n F.1 F.2.1 dX2_add_0 rfl (lv_at hl 0 rfl) ?_
  refine vp_callSi (va_Run.run (va_runV (As := []) (rest := []) F (mX2_isFull (l := l) (D := D) (cI := cI) (cJ := cJ) (cZ := cZ) (ad := ad) h) (cwV 0 F.2.2.2.2 gX2_add_X2_isFull rfl rfl rfl kV_X2_isFull ⟨Nat.le_of_ble_eq_true rfl, Nat.le_of_ble_eq_true rfl⟩) ⟨rp_blind, va_recv hz.1 hP (ci := 0) (q0 := 1) rfl rfl, rp_pre hz (hP.sub (ws' := w2 ad cI S.1) [1, 2, 3, 4, 5, 6, 7, 8] rfl) (.ref (ad 1) :: [])⟩ rfl rfl hl.1 rfl (lv_room (Nat.le_of_ble_eq_true rfl)) dX2_add_1 ⟨Nat.le_of_ble_eq_true rfl, Nat.le_of_ble_eq_true rfl⟩)) (fun r_1 h => ?_)
  obtain ⟨hbr_1, h⟩ := h
  refine lv_if_eq (tgt := 10) F.1 F.2.1 dX2_add_4 (by decide) (fun hc => ?_) (fun hc => ?_)
  · have h := h.1 (hc)
    refine lv_aload_n F.1 F.2.1 dX2_add_10 rfl (lv_at hl 0 rfl) ?_
    refine va_get (D := D) (ci := 0) (v := .ref (ad 2)) (C := RX2) (T := TX2) (N := 8) F.1 F.2.1 F.2.2.2.2 vX2_add_X2 F.2.2.2.1 hz.1 hP 1 rfl rfl 0 (by decide) (F.2.2.2.2 _ uX2_add_1) (fun _ h9 => h9) rfl dX2_add_11 ?_
    refine lv_aload_n F.1 F.2.1 dX2_add_14 rfl (lv_at hl 0 rfl) ?_
    refine va_get (D := D) (ci := 0) (v := .int S.1.2.2.2.2.2.2.2) (C := RX2) (T := TX2) (N := 8) F.1 F.2.1 F.2.2.2.2 vX2_add_X2 F.2.2.2.1 hz.1 hP 1 rfl rfl 7 (by decide) (F.2.2.2.2 _ uX2_add_2) (fun _ h9 => h9) rfl dX2_add_15 ?_
    refine lv_iload_n F.1 F.2.1 dX2_add_18 rfl (lv_at hl 1 rfl) ?_
    refine lv_bipush (v := (100 : Int32)) F.1 F.2.1 dX2_add_19 (by decide) ?_
    refine lv_idiv F.1 F.2.1 dX2_add_21 (by decide) ?_
    refine va_iast F.1 F.2.1 hz.1 hP (hD _) hS 2 0 rfl rfl h.1 dX2_add_22 (fun H locs hP _ hS => ?_)
    have h := h.2
    have hP : va_P D vwCl (w5 ad cI cJ (((upd S.1.1 S.1.2.2.2.2.2.2.2.toNatClampNeg (a1 / (100 : Int32))), S.1.2.1, S.1.2.2.1, S.1.2.2.2.1, S.1.2.2.2.2.1, S.1.2.2.2.2.2.1, S.1.2.2.2.2.2.2.1, S.1.2.2.2.2.2.2.2), S.2.1, S.2.2)) H := hP
    refine lv_aload_n F.1 F.2.1 dX2_add_23 rfl (lv_at hl 0 rfl) ?_
    refine va_get (D := D) (ci := 0) (v := .ref (ad 3)) (C := RX2) (T := TX2) (N := 8) F.1 F.2.1 F.2.2.2.2 vX2_add_X2 F.2.2.2.1 hz.1 hP 1 rfl rfl 1 (by decide) (F.2.2.2.2 _ uX2_add_3) (fun _ h9 => h9) rfl dX2_add_24 ?_
    refine lv_aload_n F.1 F.2.1 dX2_add_27 rfl (lv_at hl 0 rfl) ?_
    refine va_get (D := D) (ci := 0) (v := .int S.1.2.2.2.2.2.2.2) (C := RX2) (T := TX2) (N := 8) F.1 F.2.1 F.2.2.2.2 vX2_add_X2 F.2.2.2.1 hz.1 hP 1 rfl rfl 7 (by decide) (F.2.2.2.2 _ uX2_add_2) (fun _ h9 => h9) rfl dX2_add_28 ?_
    refine lv_iload_n F.1 F.2.1 dX2_add_31 rfl (lv_at hl 1 rfl) ?_
    refine lv_bipush (v := (100 : Int32)) F.1 F.2.1 dX2_add_32 (by decide) ?_
    refine lv_irem F.1 F.2.1 dX2_add_34 (by decide) ?_
    refine va_iast F.1 F.2.1 hz.1 hP (hD _) hS 3 0 rfl rfl h.1 dX2_add_35 (fun H locs hP _ hS => ?_)
    have h := h.2
    have hP : va_P D vwCl (w5 ad cI cJ (((upd S.1.1 S.1.2.2.2.2.2.2.2.toNatClampNeg (a1 / (100 : Int32))), (upd S.1.2.1 S.1.2.2.2.2.2.2.2.toNatClampNeg (a1 - a1 / (100 : Int32) * (100 : Int32))), S.1.2.2.1, S.1.2.2.2.1, S.1.2.2.2.2.1, S.1.2.2.2.2.2.1, S.1.2.2.2.2.2.2.1, S.1.2.2.2.2.2.2.2), S.2.1, S.2.2)) H := hP
    refine lv_aload_n F.1 F.2.1 dX2_add_36 rfl (lv_at hl 0 rfl) ?_
    refine va_get (D := D) (ci := 0) (v := .ref (ad 4)) (C := RX2) (T := TX2) (N := 8) F.1 F.2.1 F.2.2.2.2 vX2_add_X2 F.2.2.2.1 hz.1 hP 1 rfl rfl 2 (by decide) (F.2.2.2.2 _ uX2_add_4) (fun _ h9 => h9) rfl dX2_add_37 ?_
    refine lv_aload_n F.1 F.2.1 dX2_add_40 rfl (lv_at hl 0 rfl) ?_
    refine va_get (D := D) (ci := 0) (v := .int S.1.2.2.2.2.2.2.2) (C := RX2) (T := TX2) (N := 8) F.1 F.2.1 F.2.2.2.2 vX2_add_X2 F.2.2.2.1 hz.1 hP 1 rfl rfl 7 (by decide) (F.2.2.2.2 _ uX2_add_2) (fun _ h9 => h9) rfl dX2_add_41 ?_
    refine lv_iload_n F.1 F.2.1 dX2_add_44 rfl (lv_at hl 2 rfl) ?_
    refine va_iast F.1 F.2.1 hz.1 hP (hD _) hS 4 0 rfl rfl h.1 dX2_add_45 (fun H locs hP _ hS => ?_)
    have h := h.2
    have hP : va_P D vwCl (w5 ad cI cJ (((upd S.1.1 S.1.2.2.2.2.2.2.2.toNatClampNeg (a1 / (100 : Int32))), (upd S.1.2.1 S.1.2.2.2.2.2.2.2.toNatClampNeg (a1 - a1 / (100 : Int32) * (100 : Int32))), (upd S.1.2.2.1 S.1.2.2.2.2.2.2.2.toNatClampNeg a2), S.1.2.2.2.1, S.1.2.2.2.2.1, S.1.2.2.2.2.2.1, S.1.2.2.2.2.2.2.1, S.1.2.2.2.2.2.2.2), S.2.1, S.2.2)) H := hP
    refine lv_aload_n F.1 F.2.1 dX2_add_46 rfl (lv_at hl 0 rfl) ?_
    refine va_get (D := D) (ci := 0) (v := .ref (ad 5)) (C := RX2) (T := TX2) (N := 8) F.1 F.2.1 F.2.2.2.2 vX2_add_X2 F.2.2.2.1 hz.1 hP 1 rfl rfl 3 (by decide) (F.2.2.2.2 _ uX2_add_5) (fun _ h9 => h9) rfl dX2_add_47 ?_
    refine lv_aload_n F.1 F.2.1 dX2_add_50 rfl (lv_at hl 0 rfl) ?_
    refine va_get (D := D) (ci := 0) (v := .int S.1.2.2.2.2.2.2.2) (C := RX2) (T := TX2) (N := 8) F.1 F.2.1 F.2.2.2.2 vX2_add_X2 F.2.2.2.1 hz.1 hP 1 rfl rfl 7 (by decide) (F.2.2.2.2 _ uX2_add_2) (fun _ h9 => h9) rfl dX2_add_51 ?_
    refine lv_iload_n F.1 F.2.1 dX2_add_54 rfl (lv_at hl 3 rfl) ?_
    refine va_iast F.1 F.2.1 hz.1 hP (hD _) hS 5 0 rfl rfl h.1 dX2_add_55 (fun H locs hP _ hS => ?_)
    have h := h.2
    have hP : va_P D vwCl (w5 ad cI cJ (((upd S.1.1 S.1.2.2.2.2.2.2.2.toNatClampNeg (a1 / (100 : Int32))), (upd S.1.2.1 S.1.2.2.2.2.2.2.2.toNatClampNeg (a1 - a1 / (100 : Int32) * (100 : Int32))), (upd S.1.2.2.1 S.1.2.2.2.2.2.2.2.toNatClampNeg a2), (upd S.1.2.2.2.1 S.1.2.2.2.2.2.2.2.toNatClampNeg a3), S.1.2.2.2.2.1, S.1.2.2.2.2.2.1, S.1.2.2.2.2.2.2.1, S.1.2.2.2.2.2.2.2), S.2.1, S.2.2)) H := hP
    refine lv_aload_n F.1 F.2.1 dX2_add_56 rfl (lv_at hl 0 rfl) ?_
    refine va_get (D := D) (ci := 0) (v := .ref (ad 6)) (C := RX2) (T := TX2) (N := 8) F.1 F.2.1 F.2.2.2.2 vX2_add_X2 F.2.2.2.1 hz.1 hP 1 rfl rfl 4 (by decide) (F.2.2.2.2 _ uX2_add_6) (fun _ h9 => h9) rfl dX2_add_57 ?_
    refine lv_aload_n F.1 F.2.1 dX2_add_60 rfl (lv_at hl 0 rfl) ?_
    refine va_get (D := D) (ci := 0) (v := .int S.1.2.2.2.2.2.2.2) (C := RX2) (T := TX2) (N := 8) F.1 F.2.1 F.2.2.2.2 vX2_add_X2 F.2.2.2.1 hz.1 hP 1 rfl rfl 7 (by decide) (F.2.2.2.2 _ uX2_add_2) (fun _ h9 => h9) rfl dX2_add_61 ?_
    refine lv_iload F.1 F.2.1 dX2_add_64 (lv_at hl 4 rfl) ?_
    refine va_iast F.1 F.2.1 hz.1 hP (hD _) hS 6 0 rfl rfl h.1 dX2_add_66 (fun H locs hP _ hS => ?_)
    have h := h.2
    have hP : va_P D vwCl (w5 ad cI cJ (((upd S.1.1 S.1.2.2.2.2.2.2.2.toNatClampNeg (a1 / (100 : Int32))), (upd S.1.2.1 S.1.2.2.2.2.2.2.2.toNatClampNeg (a1 - a1 / (100 : Int32) * (100 : Int32))), (upd S.1.2.2.1 S.1.2.2.2.2.2.2.2.toNatClampNeg a2), (upd S.1.2.2.2.1 S.1.2.2.2.2.2.2.2.toNatClampNeg a3), (upd S.1.2.2.2.2.1 S.1.2.2.2.2.2.2.2.toNatClampNeg a4), S.1.2.2.2.2.2.1, S.1.2.2.2.2.2.2.1, S.1.2.2.2.2.2.2.2), S.2.1, S.2.2)) H := hP
    refine lv_aload_n F.1 F.2.1 dX2_add_67 rfl (lv_at hl 0 rfl) ?_
    refine va_get (D := D) (ci := 0) (v := .ref (ad 7)) (C := RX2) (T := TX2) (N := 8) F.1 F.2.1 F.2.2.2.2 vX2_add_X2 F.2.2.2.1 hz.1 hP 1 rfl rfl 5 (by decide) (F.2.2.2.2 _ uX2_add_7) (fun _ h9 => h9) rfl dX2_add_68 ?_
    refine lv_aload_n F.1 F.2.1 dX2_add_71 rfl (lv_at hl 0 rfl) ?_
    refine va_get (D := D) (ci := 0) (v := .int S.1.2.2.2.2.2.2.2) (C := RX2) (T := TX2) (N := 8) F.1 F.2.1 F.2.2.2.2 vX2_add_X2 F.2.2.2.1 hz.1 hP 1 rfl rfl 7 (by decide) (F.2.2.2.2 _ uX2_add_2) (fun _ h9 => h9) rfl dX2_add_72 ?_
    refine lv_iload F.1 F.2.1 dX2_add_75 (lv_at hl 5 rfl) ?_
    refine va_iast F.1 F.2.1 hz.1 hP (hD _) hS 7 0 rfl rfl h.1 dX2_add_77 (fun H locs hP _ hS => ?_)
    have h := h.2
    have hP : va_P D vwCl (w5 ad cI cJ (((upd S.1.1 S.1.2.2.2.2.2.2.2.toNatClampNeg (a1 / (100 : Int32))), (upd S.1.2.1 S.1.2.2.2.2.2.2.2.toNatClampNeg (a1 - a1 / (100 : Int32) * (100 : Int32))), (upd S.1.2.2.1 S.1.2.2.2.2.2.2.2.toNatClampNeg a2), (upd S.1.2.2.2.1 S.1.2.2.2.2.2.2.2.toNatClampNeg a3), (upd S.1.2.2.2.2.1 S.1.2.2.2.2.2.2.2.toNatClampNeg a4), (upd S.1.2.2.2.2.2.1 S.1.2.2.2.2.2.2.2.toNatClampNeg a5), S.1.2.2.2.2.2.2.1, S.1.2.2.2.2.2.2.2), S.2.1, S.2.2)) H := hP
    refine lv_aload_n F.1 F.2.1 dX2_add_78 rfl (lv_at hl 0 rfl) ?_
    refine lv_dup F.1 F.2.1 dX2_add_79 rfl ?_
    refine va_get (D := D) (ci := 0) (v := .int S.1.2.2.2.2.2.2.2) (C := RX2) (T := TX2) (N := 8) F.1 F.2.1 F.2.2.2.2 vX2_add_X2 F.2.2.2.1 hz.1 hP 1 rfl rfl 7 (by decide) (F.2.2.2.2 _ uX2_add_2) (fun _ h9 => h9) rfl dX2_add_80 ?_
    refine lv_iconst (v := (1 : Int32)) F.1 F.2.1 dX2_add_83 (by decide) ?_
    refine lv_iadd F.1 F.2.1 dX2_add_84 ?_
    refine va_put (D := D) (ci := 0) (v := .int (S.1.2.2.2.2.2.2.2 + (1 : Int32))) (ty := .int) (C := RX2) (T := TX2) (N := 8) F.1 F.2.1 F.2.2.2.2 vX2_add_X2 tyX2 tyX2_ok nmX2 F.2.2.2.1 hz.1 hP (hD _) hS 1 rfl rfl 7 (by decide) (F.2.2.2.2 _ uX2_add_2) (fun _ h9 => h9) rfl (by decide +kernel) rfl rfl (Nat.le_of_ble_eq_true rfl) dX2_add_85 (fun H locs hP _ hS => ?_)
    have hP : va_P D vwCl (w5 ad cI cJ (((upd S.1.1 S.1.2.2.2.2.2.2.2.toNatClampNeg (a1 / (100 : Int32))), (upd S.1.2.1 S.1.2.2.2.2.2.2.2.toNatClampNeg (a1 - a1 / (100 : Int32) * (100 : Int32))), (upd S.1.2.2.1 S.1.2.2.2.2.2.2.2.toNatClampNeg a2), (upd S.1.2.2.2.1 S.1.2.2.2.2.2.2.2.toNatClampNeg a3), (upd S.1.2.2.2.2.1 S.1.2.2.2.2.2.2.2.toNatClampNeg a4), (upd S.1.2.2.2.2.2.1 S.1.2.2.2.2.2.2.2.toNatClampNeg a5), S.1.2.2.2.2.2.2.1, S.1.2.2.2.2.2.2.2 + (1 : Int32)), S.2.1, S.2.2)) H := hP
    refine lv_aload_n F.1 F.2.1 dX2_add_88 rfl (lv_at hl 0 rfl) ?_
    refine va_get (D := D) (ci := 0) (v := .int (S.1.2.2.2.2.2.2.2 + (1 : Int32))) (C := RX2) (T := TX2) (N := 8) F.1 F.2.1 F.2.2.2.2 vX2_add_X2 F.2.2.2.1 hz.1 hP 1 rfl rfl 7 (by decide) (F.2.2.2.2 _ uX2_add_2) (fun _ h9 => h9) rfl dX2_add_89 ?_
    refine lv_iconst (v := (1 : Int32)) F.1 F.2.1 dX2_add_92 (by decide) ?_
    refine lv_isub F.1 F.2.1 dX2_add_93 ?_
    exact hret _ _ _ _ _ _ h hP hS dX2_add_94
  · have h := h.2 hc
    refine lv_bipush (v := (-2 : Int32)) F.1 F.2.1 dX2_add_7 (by decide) ?_
    exact hret _ _ _ _ _ _ h hP hS dX2_add_9
theorem mX2_add {l : Launch} {D : va_G} {cI cJ cZ : ClassId} {ad : Nat → Nat} {S : SX} {a1 : Int32} {a2 : Int32} {a3 : Int32} {a4 : Int32} {a5 : Int32} {Q : Int32 → SX → Prop} (sz : Nat) (h : wX2_add S a1 a2 a3 a4 a5 Q) : Met l yX2_add wsX2_add rX2_add (va_Pc [.ref (ad 1), .int a1, .int a2, .int a3, .int a4, .int a5] (wp D cI cJ cZ sz (w5 ad cI cJ S))) (wQi D (w5 ad cI cJ) S sz Q) 0 0 (va_A (w5 ad cI cJ S) sz) :=
  enter_wi (wf := w5 ad cI cJ) (fun _ => rfl) (by decide +kernel) rfl (Nat.le_of_ble_eq_true rfl) (fun p e s m args below meth c QQ A F hz hD hA hP hret => bX2_add F hz hD hA hret hP h)
abbrev rX2_putRight : Room := { frames := 1, cells := 0, slots := 0, locals := 21 }
theorem kV_X2_putRight : yX2_putRight.cls = RX2 ∧ yX2_putRight.cls ≠ "java/lang/invoke/MethodHandle" ∧ yX2_putRight.cls ≠ "java/lang/invoke/VarHandle" ∧ (parseMethodDescriptor yX2_putRight.desc).map (fun d => d.parameters.length) = some 3 := by decide +kernel
theorem vX2_putRight_X2 : ∀ w ∈ wsX20, w ∈ wsX2_putRight := fun _ h => List.mem_cons_of_mem _ (List.mem_append_right _ h)
theorem uX2_putRight_1 : Cond.fieldLink RX2 18 "SumMoved$Rows" "tops" "[I" ∈ wsX2_putRight := List.mem_of_getElem? (i := 1) rfl
theorem uX2_putRight_2 : Cond.fieldLink RX2 21 "SumMoved$Rows" "bases" "[I" ∈ wsX2_putRight := List.mem_of_getElem? (i := 2) rfl
set_option maxRecDepth 100000 in
theorem bX2_putRight {a1 : Int32} {a2 : Int32} {a3 : Int32} {S : SX} {Q : SX → Prop} (F : CallFix p m c cX2_putRight 4 s args wsX2_putRight RX2) (hz : gz D cI cJ cZ s) (hD : ∀ u : SX, va_D A (w5 ad cI cJ u)) (hA : ∀ q : Nat, s.heap.size ≤ q → A q) (hret : ∀ (u : SX) (H : Heap) (locs : List Loc) (pc : Nat) (ls : Array Slot), Q u → va_P D vwCl (w5 ad cI cJ u) H → va_S A s.heap H locs → decode cX2_putRight pc = .ok (.return_, 1) → W p l e rX2_putRight s m args below meth c H locs 0 0 QQ (F0 m pc ls [])) (hP : va_P D vwCl (w5 ad cI cJ S) s.heap) (h : wX2_putRight S a1 a2 a3 Q) : ∀ ls : Array Slot, lv_has ls 4 [(0, .ref (ad 1)), (1, .int a1), (2, .int a2), (3, .int a3)] → W p l e rX2_putRight s m args below meth c s.heap [] 0 0 QQ (F0 m 0 ls []) := by
  intro ls hl
  have hS : va_S A s.heap s.heap [] := va_S.rf
  refine lv_aload_n F.1 F.2.1 dX2_putRight_0 rfl (lv_at hl 0 rfl) ?_
  refine lv_iload_n F.1 F.2.1 dX2_putRight_1 rfl (lv_at hl 1 rfl) ?_
  refine vp_callSi (va_Run.run (va_runV (As := [.int a1]) (rest := []) F (mX2_has (l := l) (D := D) (cI := cI) (cJ := cJ) (cZ := cZ) (ad := ad) h) (cwV 1 F.2.2.2.2 gX2_putRight_X2_has rfl rfl rfl kV_X2_has ⟨Nat.le_of_ble_eq_true rfl, Nat.le_of_ble_eq_true rfl⟩) ⟨rp_blind, va_recv hz.1 hP (ci := 0) (q0 := 1) rfl rfl, rp_pre hz (hP.sub (ws' := w2 ad cI S.1) [1, 2, 3, 4, 5, 6, 7, 8] rfl) (.ref (ad 1) :: [.int a1])⟩ rfl rfl hl.1 rfl (lv_room (Nat.le_of_ble_eq_true rfl)) dX2_putRight_2 ⟨Nat.le_of_ble_eq_true rfl, Nat.le_of_ble_eq_true rfl⟩)) (fun r_1 h => ?_)
  obtain ⟨hbr_1, h⟩ := h
  refine lv_if_eq (tgt := 22) F.1 F.2.1 dX2_putRight_5 (by decide) (fun hc => ?_) (fun hc => ?_)
  · have h := h.1 (hc)
    exact hret _ _ _ _ _ h hP hS dX2_putRight_22
  · have h := h.2 hc
    refine lv_aload_n F.1 F.2.1 dX2_putRight_8 rfl (lv_at hl 0 rfl) ?_
    refine va_get (D := D) (ci := 0) (v := .ref (ad 4)) (C := RX2) (T := TX2) (N := 8) F.1 F.2.1 F.2.2.2.2 vX2_putRight_X2 F.2.2.2.1 hz.1 hP 1 rfl rfl 2 (by decide) (F.2.2.2.2 _ uX2_putRight_1) (fun _ h9 => h9) rfl dX2_putRight_9 ?_
    refine lv_iload_n F.1 F.2.1 dX2_putRight_12 rfl (lv_at hl 1 rfl) ?_
    refine lv_iload_n F.1 F.2.1 dX2_putRight_13 rfl (lv_at hl 2 rfl) ?_
    refine va_iast F.1 F.2.1 hz.1 hP (hD _) hS 4 0 rfl rfl h.1 dX2_putRight_14 (fun H locs hP _ hS => ?_)
    have h := h.2
    have hP : va_P D vwCl (w5 ad cI cJ ((S.1.1, S.1.2.1, (upd S.1.2.2.1 a1.toNatClampNeg a2), S.1.2.2.2.1, S.1.2.2.2.2.1, S.1.2.2.2.2.2.1, S.1.2.2.2.2.2.2.1, S.1.2.2.2.2.2.2.2), S.2.1, S.2.2)) H := hP
    refine lv_aload_n F.1 F.2.1 dX2_putRight_15 rfl (lv_at hl 0 rfl) ?_
    refine va_get (D := D) (ci := 0) (v := .ref (ad 5)) (C := RX2) (T := TX2) (N := 8) F.1 F.2.1 F.2.2.2.2 vX2_putRight_X2 F.2.2.2.1 hz.1 hP 1 rfl rfl 3 (by decide) (F.2.2.2.2 _ uX2_putRight_2) (fun _ h9 => h9) rfl dX2_putRight_16 ?_
    refine lv_iload_n F.1 F.2.1 dX2_putRight_19 rfl (lv_at hl 1 rfl) ?_
    refine lv_iload_n F.1 F.2.1 dX2_putRight_20 rfl (lv_at hl 3 rfl) ?_
    refine va_iast F.1 F.2.1 hz.1 hP (hD _) hS 5 0 rfl rfl h.1 dX2_putRight_21 (fun H locs hP _ hS => ?_)
    have h := h.2
    have hP : va_P D vwCl (w5 ad cI cJ ((S.1.1, S.1.2.1, (upd S.1.2.2.1 a1.toNatClampNeg a2), (upd S.1.2.2.2.1 a1.toNatClampNeg a3), S.1.2.2.2.2.1, S.1.2.2.2.2.2.1, S.1.2.2.2.2.2.2.1, S.1.2.2.2.2.2.2.2), S.2.1, S.2.2)) H := hP
    exact hret _ _ _ _ _ h hP hS dX2_putRight_22
theorem mX2_putRight {l : Launch} {D : va_G} {cI cJ cZ : ClassId} {ad : Nat → Nat} {S : SX} {a1 : Int32} {a2 : Int32} {a3 : Int32} {Q : SX → Prop} (sz : Nat) (h : wX2_putRight S a1 a2 a3 Q) : Met l yX2_putRight wsX2_putRight rX2_putRight (va_Pc [.ref (ad 1), .int a1, .int a2, .int a3] (wp D cI cJ cZ sz (w5 ad cI cJ S))) (wQv D (w5 ad cI cJ) S sz Q) 0 0 (va_A (w5 ad cI cJ S) sz) :=
  enter_wv (wf := w5 ad cI cJ) (fun _ => rfl) (by decide +kernel) rfl (Nat.le_of_ble_eq_true rfl) (fun p e s m args below meth c QQ A F hz hD hA hP hret => bX2_putRight F hz hD hA hret hP h)
abbrev rX2_setStruck : Room := { frames := 1, cells := 0, slots := 0, locals := 21 }
theorem kV_X2_setStruck : yX2_setStruck.cls = RX2 ∧ yX2_setStruck.cls ≠ "java/lang/invoke/MethodHandle" ∧ yX2_setStruck.cls ≠ "java/lang/invoke/VarHandle" ∧ (parseMethodDescriptor yX2_setStruck.desc).map (fun d => d.parameters.length) = some 2 := by decide +kernel
theorem vX2_setStruck_X2 : ∀ w ∈ wsX20, w ∈ wsX2_setStruck := fun _ h => List.mem_cons_of_mem _ (List.mem_append_right _ h)
theorem uX2_setStruck_1 : Cond.fieldLink RX2 30 "SumMoved$Rows" "struck" "[I" ∈ wsX2_setStruck := List.mem_of_getElem? (i := 1) rfl
set_option maxRecDepth 100000 in
theorem bX2_setStruck {a1 : Int32} {a2 : Int32} {S : SX} {Q : Int32 → SX → Prop} (F : CallFix p m c cX2_setStruck 4 s args wsX2_setStruck RX2) (hz : gz D cI cJ cZ s) (hD : ∀ u : SX, va_D A (w5 ad cI cJ u)) (hA : ∀ q : Nat, s.heap.size ≤ q → A q) (hret : ∀ (v : Int32) (u : SX) (H : Heap) (locs : List Loc) (pc : Nat) (ls : Array Slot), Q v u → va_P D vwCl (w5 ad cI cJ u) H → va_S A s.heap H locs → decode cX2_setStruck pc = .ok (.ireturn, 1) → W p l e rX2_setStruck s m args below meth c H locs 0 0 QQ (F0 m pc ls [.int v])) (hP : va_P D vwCl (w5 ad cI cJ S) s.heap) (h : wX2_setStruck S a1 a2 Q) : ∀ ls : Array Slot, lv_has ls 4 [(0, .ref (ad 1)), (1, .int a1), (2, .int a2)] → W p l e rX2_setStruck s m args below meth c s.heap [] 0 0 QQ (F0 m 0 ls []) := by
  intro ls hl
  have hS : va_S A s.heap s.heap [] := va_S.rf
  refine lv_aload_n F.1 F.2.1 dX2_setStruck_0 rfl (lv_at hl 0 rfl) ?_
  refine lv_iload_n F.1 F.2.1 dX2_setStruck_1 rfl (lv_at hl 1 rfl) ?_
  refine vp_callSi (va_Run.run (va_runV (As := [.int a1]) (rest := []) F (mX2_has (l := l) (D := D) (cI := cI) (cJ := cJ) (cZ := cZ) (ad := ad) h) (cwV 1 F.2.2.2.2 gX2_setStruck_X2_has rfl rfl rfl kV_X2_has ⟨Nat.le_of_ble_eq_true rfl, Nat.le_of_ble_eq_true rfl⟩) ⟨rp_blind, va_recv hz.1 hP (ci := 0) (q0 := 1) rfl rfl, rp_pre hz (hP.sub (ws' := w2 ad cI S.1) [1, 2, 3, 4, 5, 6, 7, 8] rfl) (.ref (ad 1) :: [.int a1])⟩ rfl rfl hl.1 rfl (lv_room (Nat.le_of_ble_eq_true rfl)) dX2_setStruck_2 ⟨Nat.le_of_ble_eq_true rfl, Nat.le_of_ble_eq_true rfl⟩)) (fun r_1 h => ?_)
  obtain ⟨hbr_1, h⟩ := h
  refine lv_if_ne (tgt := 10) F.1 F.2.1 dX2_setStruck_5 (by decide) (fun hc => ?_) (fun hc => ?_)
  · have h := h.2 hc
    refine lv_aload_n F.1 F.2.1 dX2_setStruck_10 rfl (lv_at hl 0 rfl) ?_
    refine va_get (D := D) (ci := 0) (v := .ref (ad 8)) (C := RX2) (T := TX2) (N := 8) F.1 F.2.1 F.2.2.2.2 vX2_setStruck_X2 F.2.2.2.1 hz.1 hP 1 rfl rfl 6 (by decide) (F.2.2.2.2 _ uX2_setStruck_1) (fun _ h9 => h9) rfl dX2_setStruck_11 ?_
    refine lv_iload_n F.1 F.2.1 dX2_setStruck_14 rfl (lv_at hl 1 rfl) ?_
    refine va_iald F.1 F.2.1 hz.1 hP 8 0 rfl rfl h.1 dX2_setStruck_15 ?_
    have h := h.2
    refine lv_topi (fun y_2 ey_2 => ?_)
    have h := h y_2 ey_2
    refine lv_istore_n (lv' := [(3, .int y_2), (0, .ref (ad 1)), (1, .int a1), (2, .int a2)]) F.1 F.2.1 dX2_setStruck_16 rfl hl (by decide) rfl (fun ls hl => ?_)
    refine lv_aload_n F.1 F.2.1 dX2_setStruck_17 rfl (lv_at hl 1 rfl) ?_
    refine va_get (D := D) (ci := 0) (v := .ref (ad 8)) (C := RX2) (T := TX2) (N := 8) F.1 F.2.1 F.2.2.2.2 vX2_setStruck_X2 F.2.2.2.1 hz.1 hP 1 rfl rfl 6 (by decide) (F.2.2.2.2 _ uX2_setStruck_1) (fun _ h9 => h9) rfl dX2_setStruck_18 ?_
    refine lv_iload_n F.1 F.2.1 dX2_setStruck_21 rfl (lv_at hl 2 rfl) ?_
    refine lv_iload_n F.1 F.2.1 dX2_setStruck_22 rfl (lv_at hl 3 rfl) ?_
    refine va_iast F.1 F.2.1 hz.1 hP (hD _) hS 8 0 rfl rfl h.1 dX2_setStruck_23 (fun H locs hP _ hS => ?_)
    have h := h.2
    have hP : va_P D vwCl (w5 ad cI cJ ((S.1.1, S.1.2.1, S.1.2.2.1, S.1.2.2.2.1, S.1.2.2.2.2.1, S.1.2.2.2.2.2.1, (upd S.1.2.2.2.2.2.2.1 a1.toNatClampNeg a2), S.1.2.2.2.2.2.2.2), S.2.1, S.2.2)) H := hP
    refine lv_iload_n F.1 F.2.1 dX2_setStruck_24 rfl (lv_at hl 0 rfl) ?_
    exact hret _ _ _ _ _ _ h hP hS dX2_setStruck_25
  · have h := h.1 (hc)
    refine lv_iconst (v := (-1 : Int32)) F.1 F.2.1 dX2_setStruck_8 (by decide) ?_
    exact hret _ _ _ _ _ _ h hP hS dX2_setStruck_9
theorem mX2_setStruck {l : Launch} {D : va_G} {cI cJ cZ : ClassId} {ad : Nat → Nat} {S : SX} {a1 : Int32} {a2 : Int32} {Q : Int32 → SX → Prop} (sz : Nat) (h : wX2_setStruck S a1 a2 Q) : Met l yX2_setStruck wsX2_setStruck rX2_setStruck (va_Pc [.ref (ad 1), .int a1, .int a2] (wp D cI cJ cZ sz (w5 ad cI cJ S))) (wQi D (w5 ad cI cJ) S sz Q) 0 0 (va_A (w5 ad cI cJ S) sz) :=
  enter_wi (wf := w5 ad cI cJ) (fun _ => rfl) (by decide +kernel) rfl (Nat.le_of_ble_eq_true rfl) (fun p e s m args below meth c QQ A F hz hD hA hP hret => bX2_setStruck F hz hD hA hret hP h)
abbrev rX4_set : Room := { frames := 2, cells := 0, slots := 0, locals := 42 }
theorem kV_X4_set : yX4_set.cls = RX4 ∧ yX4_set.cls ≠ "java/lang/invoke/MethodHandle" ∧ yX4_set.cls ≠ "java/lang/invoke/VarHandle" ∧ (parseMethodDescriptor yX4_set.desc).map (fun d => d.parameters.length) = some 3 := by decide +kernel
theorem vX4_set_X4 : ∀ w ∈ wsX40, w ∈ wsX4_set := fun _ h => List.mem_cons_of_mem _ (List.mem_append_right _ h)
theorem uX4_set_1 : Cond.fieldLink RX4 9 "SumMoved$Switches" "before" "[I" ∈ wsX4_set := List.mem_of_getElem? (i := 1) rfl
theorem uX4_set_2 : Cond.fieldLink RX4 13 "SumMoved$Switches" "after" "[I" ∈ wsX4_set := List.mem_of_getElem? (i := 2) rfl
set_option maxRecDepth 100000 in
theorem bX4_set {a1 : Int32} {a2 : Int32} {a3 : Int32} {S : SX} {Q : SX → Prop} (F : CallFix p m c cX4_set 4 s args wsX4_set RX4) (hz : gz D cI cJ cZ s) (hD : ∀ u : SX, va_D A (w5 ad cI cJ u)) (hA : ∀ q : Nat, s.heap.size ≤ q → A q) (hret : ∀ (u : SX) (H : Heap) (locs : List Loc) (pc : Nat) (ls : Array Slot), Q u → va_P D vwCl (w5 ad cI cJ u) H → va_S A s.heap H locs → decode cX4_set pc = .ok (.return_, 1) → W p l e rX4_set s m args below meth c H locs 0 0 QQ (F0 m pc ls [])) (hP : va_P D vwCl (w5 ad cI cJ S) s.heap) (h : wX4_set S a1 a2 a3 Q) : ∀ ls : Array Slot, lv_has ls 4 [(0, .ref (ad 9)), (1, .int a1), (2, .int a2), (3, .int a3)] → W p l e rX4_set s m args below meth c s.heap [] 0 0 QQ (F0 m 0 ls []) := by
  intro ls hl
  have hS : va_S A s.heap s.heap [] := va_S.rf
  refine lv_iload_n F.1 F.2.1 dX4_set_0 rfl (lv_at hl 1 rfl) ?_
  refine vp_callSi (va_Run.run (va_runS (As := [.int a1]) (rest := []) F (mX4_has (l := l) (D := D) (cI := cI) (cJ := cJ) (cZ := cZ) h) (va_cwS 1 F.2.2.2.2 gX4_set_X4_has rfl rfl rfl kS_X4_has ⟨Nat.le_of_ble_eq_true rfl, Nat.le_of_ble_eq_true rfl⟩) ⟨rp_blind, rp_pre hz (hP.sub (ws' := []) [] rfl) [.int a1]⟩ rfl rfl hl.1 rfl (lv_room (Nat.le_of_ble_eq_true rfl)) dX4_set_1 ⟨Nat.le_of_ble_eq_true rfl, Nat.le_of_ble_eq_true rfl⟩)) (fun r_1 h => ?_)
  obtain ⟨hbr_1, h⟩ := h
  refine lv_if_eq (tgt := 21) F.1 F.2.1 dX4_set_4 (by decide) (fun hc => ?_) (fun hc => ?_)
  · have h := h.1 (hc)
    exact hret _ _ _ _ _ h hP hS dX4_set_21
  · have h := h.2 hc
    refine lv_aload_n F.1 F.2.1 dX4_set_7 rfl (lv_at hl 0 rfl) ?_
    refine va_get (D := D) (ci := 2) (v := .ref (ad 10)) (C := RX4) (T := TX4) (N := 2) F.1 F.2.1 F.2.2.2.2 vX4_set_X4 F.2.2.2.1 hz.1 hP 9 rfl rfl 0 (by decide) (F.2.2.2.2 _ uX4_set_1) (fun _ h9 => h9) rfl dX4_set_8 ?_
    refine lv_iload_n F.1 F.2.1 dX4_set_11 rfl (lv_at hl 1 rfl) ?_
    refine lv_iload_n F.1 F.2.1 dX4_set_12 rfl (lv_at hl 2 rfl) ?_
    refine va_iast F.1 F.2.1 hz.1 hP (hD _) hS 10 0 rfl rfl h.1 dX4_set_13 (fun H locs hP _ hS => ?_)
    have h := h.2
    have hP : va_P D vwCl (w5 ad cI cJ (S.1, ((upd S.2.1.1 a1.toNatClampNeg a2), S.2.1.2), S.2.2)) H := hP
    refine lv_aload_n F.1 F.2.1 dX4_set_14 rfl (lv_at hl 0 rfl) ?_
    refine va_get (D := D) (ci := 2) (v := .ref (ad 11)) (C := RX4) (T := TX4) (N := 2) F.1 F.2.1 F.2.2.2.2 vX4_set_X4 F.2.2.2.1 hz.1 hP 9 rfl rfl 1 (by decide) (F.2.2.2.2 _ uX4_set_2) (fun _ h9 => h9) rfl dX4_set_15 ?_
    refine lv_iload_n F.1 F.2.1 dX4_set_18 rfl (lv_at hl 1 rfl) ?_
    refine lv_iload_n F.1 F.2.1 dX4_set_19 rfl (lv_at hl 3 rfl) ?_
    refine va_iast F.1 F.2.1 hz.1 hP (hD _) hS 11 0 rfl rfl h.1 dX4_set_20 (fun H locs hP _ hS => ?_)
    have h := h.2
    have hP : va_P D vwCl (w5 ad cI cJ (S.1, ((upd S.2.1.1 a1.toNatClampNeg a2), (upd S.2.1.2 a1.toNatClampNeg a3)), S.2.2)) H := hP
    exact hret _ _ _ _ _ h hP hS dX4_set_21
theorem mX4_set {l : Launch} {D : va_G} {cI cJ cZ : ClassId} {ad : Nat → Nat} {S : SX} {a1 : Int32} {a2 : Int32} {a3 : Int32} {Q : SX → Prop} (sz : Nat) (h : wX4_set S a1 a2 a3 Q) : Met l yX4_set wsX4_set rX4_set (va_Pc [.ref (ad 9), .int a1, .int a2, .int a3] (wp D cI cJ cZ sz (w5 ad cI cJ S))) (wQv D (w5 ad cI cJ) S sz Q) 0 0 (va_A (w5 ad cI cJ S) sz) :=
  enter_wv (wf := w5 ad cI cJ) (fun _ => rfl) (by decide +kernel) rfl (Nat.le_of_ble_eq_true rfl) (fun p e s m args below meth c QQ A F hz hD hA hP hret => bX4_set F hz hD hA hret hP h)
abbrev rX3_setExpected : Room := { frames := 0, cells := 0, slots := 0, locals := 0 }
theorem kV_X3_setExpected : yX3_setExpected.cls = RX3 ∧ yX3_setExpected.cls ≠ "java/lang/invoke/MethodHandle" ∧ yX3_setExpected.cls ≠ "java/lang/invoke/VarHandle" ∧ (parseMethodDescriptor yX3_setExpected.desc).map (fun d => d.parameters.length) = some 1 := by decide +kernel
theorem vX3_setExpected_X3 : ∀ w ∈ wsX30, w ∈ wsX3_setExpected := fun _ h => List.mem_cons_of_mem _ (List.mem_append_right _ h)
theorem uX3_setExpected_1 : Cond.fieldLink RX3 36 "SumMoved$Stories" "expected" "I" ∈ wsX3_setExpected := List.mem_of_getElem? (i := 1) rfl
set_option maxRecDepth 100000 in
theorem bX3_setExpected {a1 : Int32} {S : SX} {Q : Int32 → SX → Prop} (F : CallFix p m c cX3_setExpected 3 s args wsX3_setExpected RX3) (hz : gz D cI cJ cZ s) (hD : ∀ u : SX, va_D A (w5 ad cI cJ u)) (hA : ∀ q : Nat, s.heap.size ≤ q → A q) (hret : ∀ (v : Int32) (u : SX) (H : Heap) (locs : List Loc) (pc : Nat) (ls : Array Slot), Q v u → va_P D vwCl (w5 ad cI cJ u) H → va_S A s.heap H locs → decode cX3_setExpected pc = .ok (.ireturn, 1) → W p l e rX3_setExpected s m args below meth c H locs 0 0 QQ (F0 m pc ls [.int v])) (hP : va_P D vwCl (w5 ad cI cJ S) s.heap) (h : wX3_setExpected S a1 Q) : ∀ ls : Array Slot, lv_has ls 3 [(0, .ref (ad 12)), (1, .int a1)] → W p l e rX3_setExpected s m args below meth c s.heap [] 0 0 QQ (F0 m 0 ls []) := by
  intro ls hl
  have hS : va_S A s.heap s.heap [] := va_S.rf
  refine lv_aload_n F.1 F.2.1 dX3_setExpected_0 rfl (lv_at hl 0 rfl) ?_
  refine va_get (D := D) (ci := 1) (v := .int S.2.2.2.2.2.2.2.2.1) (C := RX3) (T := TX3) (N := 14) F.1 F.2.1 F.2.2.2.2 vX3_setExpected_X3 F.2.2.2.1 hz.1 hP 12 rfl rfl 7 (by decide) (F.2.2.2.2 _ uX3_setExpected_1) (fun _ h9 => h9) rfl dX3_setExpected_1 ?_
  refine lv_istore_n (lv' := [(2, .int S.2.2.2.2.2.2.2.2.1), (0, .ref (ad 12)), (1, .int a1)]) F.1 F.2.1 dX3_setExpected_4 rfl hl (by decide) rfl (fun ls hl => ?_)
  refine lv_aload_n F.1 F.2.1 dX3_setExpected_5 rfl (lv_at hl 1 rfl) ?_
  refine lv_iload_n F.1 F.2.1 dX3_setExpected_6 rfl (lv_at hl 2 rfl) ?_
  refine va_put (D := D) (ci := 1) (v := .int a1) (ty := .int) (C := RX3) (T := TX3) (N := 14) F.1 F.2.1 F.2.2.2.2 vX3_setExpected_X3 tyX3 tyX3_ok nmX3 F.2.2.2.1 hz.1 hP (hD _) hS 12 rfl rfl 7 (by decide) (F.2.2.2.2 _ uX3_setExpected_1) (fun _ h9 => h9) rfl (by decide +kernel) rfl rfl (Nat.le_of_ble_eq_true rfl) dX3_setExpected_7 (fun H locs hP _ hS => ?_)
  have hP : va_P D vwCl (w5 ad cI cJ (S.1, S.2.1, (S.2.2.1, S.2.2.2.1, S.2.2.2.2.1, S.2.2.2.2.2.1, S.2.2.2.2.2.2.1, S.2.2.2.2.2.2.2.1, a1, S.2.2.2.2.2.2.2.2.2.1, S.2.2.2.2.2.2.2.2.2.2.1, S.2.2.2.2.2.2.2.2.2.2.2.1, S.2.2.2.2.2.2.2.2.2.2.2.2.1, S.2.2.2.2.2.2.2.2.2.2.2.2.2.1, S.2.2.2.2.2.2.2.2.2.2.2.2.2.2))) H := hP
  refine lv_iload_n F.1 F.2.1 dX3_setExpected_10 rfl (lv_at hl 0 rfl) ?_
  exact hret _ _ _ _ _ _ h hP hS dX3_setExpected_11
theorem mX3_setExpected {l : Launch} {D : va_G} {cI cJ cZ : ClassId} {ad : Nat → Nat} {S : SX} {a1 : Int32} {Q : Int32 → SX → Prop} (sz : Nat) (h : wX3_setExpected S a1 Q) : Met l yX3_setExpected wsX3_setExpected rX3_setExpected (va_Pc [.ref (ad 12), .int a1] (wp D cI cJ cZ sz (w5 ad cI cJ S))) (wQi D (w5 ad cI cJ) S sz Q) 0 0 (va_A (w5 ad cI cJ S) sz) :=
  enter_wi (wf := w5 ad cI cJ) (fun _ => rfl) (by decide +kernel) rfl (Nat.le_of_ble_eq_true rfl) (fun p e s m args below meth c QQ A F hz hD hA hP hret => bX3_setExpected F hz hD hA hret hP h)
abbrev rX3_keep : Room := { frames := 0, cells := 0, slots := 0, locals := 0 }
theorem kV_X3_keep : yX3_keep.cls = RX3 ∧ yX3_keep.cls ≠ "java/lang/invoke/MethodHandle" ∧ yX3_keep.cls ≠ "java/lang/invoke/VarHandle" ∧ (parseMethodDescriptor yX3_keep.desc).map (fun d => d.parameters.length) = some 5 := by decide +kernel
theorem vX3_keep_X3 : ∀ w ∈ wsX30, w ∈ wsX3_keep := fun _ h => List.mem_cons_of_mem _ (List.mem_append_right _ h)
theorem uX3_keep_1 : Cond.fieldLink RX3 96 "SumMoved$Stories" "bestMany" "I" ∈ wsX3_keep := List.mem_of_getElem? (i := 1) rfl
theorem uX3_keep_2 : Cond.fieldLink RX3 99 "SumMoved$Stories" "bestFirst" "I" ∈ wsX3_keep := List.mem_of_getElem? (i := 2) rfl
theorem uX3_keep_3 : Cond.fieldLink RX3 102 "SumMoved$Stories" "bestSecond" "I" ∈ wsX3_keep := List.mem_of_getElem? (i := 3) rfl
theorem uX3_keep_4 : Cond.fieldLink RX3 105 "SumMoved$Stories" "bestRest" "I" ∈ wsX3_keep := List.mem_of_getElem? (i := 4) rfl
theorem uX3_keep_5 : Cond.fieldLink RX3 89 "SumMoved$Stories" "bestToll" "I" ∈ wsX3_keep := List.mem_of_getElem? (i := 5) rfl
set_option maxRecDepth 100000 in
theorem bX3_keep {a1 : Int32} {a2 : Int32} {a3 : Int32} {a4 : Int32} {a5 : Int32} {S : SX} {Q : SX → Prop} (F : CallFix p m c cX3_keep 6 s args wsX3_keep RX3) (hz : gz D cI cJ cZ s) (hD : ∀ u : SX, va_D A (w5 ad cI cJ u)) (hA : ∀ q : Nat, s.heap.size ≤ q → A q) (hret : ∀ (u : SX) (H : Heap) (locs : List Loc) (pc : Nat) (ls : Array Slot), Q u → va_P D vwCl (w5 ad cI cJ u) H → va_S A s.heap H locs → decode cX3_keep pc = .ok (.return_, 1) → W p l e rX3_keep s m args below meth c H locs 0 0 QQ (F0 m pc ls [])) (hP : va_P D vwCl (w5 ad cI cJ S) s.heap) (h : wX3_keep S a1 a2 a3 a4 a5 Q) : ∀ ls : Array Slot, lv_has ls 6 [(0, .ref (ad 12)), (1, .int a1), (2, .int a2), (3, .int a3), (4, .int a4), (5, .int a5)] → W p l e rX3_keep s m args below meth c s.heap [] 0 0 QQ (F0 m 0 ls []) := by
  intro ls hl
  have hS : va_S A s.heap s.heap [] := va_S.rf
  refine lv_aload_n F.1 F.2.1 dX3_keep_0 rfl (lv_at hl 0 rfl) ?_
  refine lv_iload_n F.1 F.2.1 dX3_keep_1 rfl (lv_at hl 1 rfl) ?_
  refine va_put (D := D) (ci := 1) (v := .int a1) (ty := .int) (C := RX3) (T := TX3) (N := 14) F.1 F.2.1 F.2.2.2.2 vX3_keep_X3 tyX3 tyX3_ok nmX3 F.2.2.2.1 hz.1 hP (hD _) hS 12 rfl rfl 9 (by decide) (F.2.2.2.2 _ uX3_keep_1) (fun _ h9 => h9) rfl (by decide +kernel) rfl rfl (Nat.le_of_ble_eq_true rfl) dX3_keep_2 (fun H locs hP _ hS => ?_)
  have hP : va_P D vwCl (w5 ad cI cJ (S.1, S.2.1, (S.2.2.1, S.2.2.2.1, S.2.2.2.2.1, S.2.2.2.2.2.1, S.2.2.2.2.2.2.1, S.2.2.2.2.2.2.2.1, S.2.2.2.2.2.2.2.2.1, S.2.2.2.2.2.2.2.2.2.1, a1, S.2.2.2.2.2.2.2.2.2.2.2.1, S.2.2.2.2.2.2.2.2.2.2.2.2.1, S.2.2.2.2.2.2.2.2.2.2.2.2.2.1, S.2.2.2.2.2.2.2.2.2.2.2.2.2.2))) H := hP
  refine lv_aload_n F.1 F.2.1 dX3_keep_5 rfl (lv_at hl 0 rfl) ?_
  refine lv_iload_n F.1 F.2.1 dX3_keep_6 rfl (lv_at hl 2 rfl) ?_
  refine va_put (D := D) (ci := 1) (v := .int a2) (ty := .int) (C := RX3) (T := TX3) (N := 14) F.1 F.2.1 F.2.2.2.2 vX3_keep_X3 tyX3 tyX3_ok nmX3 F.2.2.2.1 hz.1 hP (hD _) hS 12 rfl rfl 10 (by decide) (F.2.2.2.2 _ uX3_keep_2) (fun _ h9 => h9) rfl (by decide +kernel) rfl rfl (Nat.le_of_ble_eq_true rfl) dX3_keep_7 (fun H locs hP _ hS => ?_)
  have hP : va_P D vwCl (w5 ad cI cJ (S.1, S.2.1, (S.2.2.1, S.2.2.2.1, S.2.2.2.2.1, S.2.2.2.2.2.1, S.2.2.2.2.2.2.1, S.2.2.2.2.2.2.2.1, S.2.2.2.2.2.2.2.2.1, S.2.2.2.2.2.2.2.2.2.1, a1, a2, S.2.2.2.2.2.2.2.2.2.2.2.2.1, S.2.2.2.2.2.2.2.2.2.2.2.2.2.1, S.2.2.2.2.2.2.2.2.2.2.2.2.2.2))) H := hP
  refine lv_aload_n F.1 F.2.1 dX3_keep_10 rfl (lv_at hl 0 rfl) ?_
  refine lv_iload_n F.1 F.2.1 dX3_keep_11 rfl (lv_at hl 3 rfl) ?_
  refine va_put (D := D) (ci := 1) (v := .int a3) (ty := .int) (C := RX3) (T := TX3) (N := 14) F.1 F.2.1 F.2.2.2.2 vX3_keep_X3 tyX3 tyX3_ok nmX3 F.2.2.2.1 hz.1 hP (hD _) hS 12 rfl rfl 11 (by decide) (F.2.2.2.2 _ uX3_keep_3) (fun _ h9 => h9) rfl (by decide +kernel) rfl rfl (Nat.le_of_ble_eq_true rfl) dX3_keep_12 (fun H locs hP _ hS => ?_)
  have hP : va_P D vwCl (w5 ad cI cJ (S.1, S.2.1, (S.2.2.1, S.2.2.2.1, S.2.2.2.2.1, S.2.2.2.2.2.1, S.2.2.2.2.2.2.1, S.2.2.2.2.2.2.2.1, S.2.2.2.2.2.2.2.2.1, S.2.2.2.2.2.2.2.2.2.1, a1, a2, a3, S.2.2.2.2.2.2.2.2.2.2.2.2.2.1, S.2.2.2.2.2.2.2.2.2.2.2.2.2.2))) H := hP
  refine lv_aload_n F.1 F.2.1 dX3_keep_15 rfl (lv_at hl 0 rfl) ?_
  refine lv_iload F.1 F.2.1 dX3_keep_16 (lv_at hl 4 rfl) ?_
  refine va_put (D := D) (ci := 1) (v := .int a4) (ty := .int) (C := RX3) (T := TX3) (N := 14) F.1 F.2.1 F.2.2.2.2 vX3_keep_X3 tyX3 tyX3_ok nmX3 F.2.2.2.1 hz.1 hP (hD _) hS 12 rfl rfl 12 (by decide) (F.2.2.2.2 _ uX3_keep_4) (fun _ h9 => h9) rfl (by decide +kernel) rfl rfl (Nat.le_of_ble_eq_true rfl) dX3_keep_18 (fun H locs hP _ hS => ?_)
  have hP : va_P D vwCl (w5 ad cI cJ (S.1, S.2.1, (S.2.2.1, S.2.2.2.1, S.2.2.2.2.1, S.2.2.2.2.2.1, S.2.2.2.2.2.2.1, S.2.2.2.2.2.2.2.1, S.2.2.2.2.2.2.2.2.1, S.2.2.2.2.2.2.2.2.2.1, a1, a2, a3, a4, S.2.2.2.2.2.2.2.2.2.2.2.2.2.2))) H := hP
  refine lv_aload_n F.1 F.2.1 dX3_keep_21 rfl (lv_at hl 0 rfl) ?_
  refine lv_iload F.1 F.2.1 dX3_keep_22 (lv_at hl 5 rfl) ?_
  refine va_put (D := D) (ci := 1) (v := .int a5) (ty := .int) (C := RX3) (T := TX3) (N := 14) F.1 F.2.1 F.2.2.2.2 vX3_keep_X3 tyX3 tyX3_ok nmX3 F.2.2.2.1 hz.1 hP (hD _) hS 12 rfl rfl 13 (by decide) (F.2.2.2.2 _ uX3_keep_5) (fun _ h9 => h9) rfl (by decide +kernel) rfl rfl (Nat.le_of_ble_eq_true rfl) dX3_keep_24 (fun H locs hP _ hS => ?_)
  have hP : va_P D vwCl (w5 ad cI cJ (S.1, S.2.1, (S.2.2.1, S.2.2.2.1, S.2.2.2.2.1, S.2.2.2.2.2.1, S.2.2.2.2.2.2.1, S.2.2.2.2.2.2.2.1, S.2.2.2.2.2.2.2.2.1, S.2.2.2.2.2.2.2.2.2.1, a1, a2, a3, a4, a5))) H := hP
  exact hret _ _ _ _ _ h hP hS dX3_keep_27
theorem mX3_keep {l : Launch} {D : va_G} {cI cJ cZ : ClassId} {ad : Nat → Nat} {S : SX} {a1 : Int32} {a2 : Int32} {a3 : Int32} {a4 : Int32} {a5 : Int32} {Q : SX → Prop} (sz : Nat) (h : wX3_keep S a1 a2 a3 a4 a5 Q) : Met l yX3_keep wsX3_keep rX3_keep (va_Pc [.ref (ad 12), .int a1, .int a2, .int a3, .int a4, .int a5] (wp D cI cJ cZ sz (w5 ad cI cJ S))) (wQv D (w5 ad cI cJ) S sz Q) 0 0 (va_A (w5 ad cI cJ S) sz) :=
  enter_wv (wf := w5 ad cI cJ) (fun _ => rfl) (by decide +kernel) rfl (Nat.le_of_ble_eq_true rfl) (fun p e s m args below meth c QQ A F hz hD hA hP hret => bX3_keep F hz hD hA hret hP h)
abbrev rX3_gather : Room := { frames := 4, cells := 0, slots := 0, locals := 94 }
theorem kV_X3_gather : yX3_gather.cls = RX3 ∧ yX3_gather.cls ≠ "java/lang/invoke/MethodHandle" ∧ yX3_gather.cls ≠ "java/lang/invoke/VarHandle" ∧ (parseMethodDescriptor yX3_gather.desc).map (fun d => d.parameters.length) = some 0 := by decide +kernel
theorem vX3_gather_X3 : ∀ w ∈ wsX30, w ∈ wsX3_gather := fun _ h => List.mem_cons_of_mem _ (List.mem_append_left _ (List.mem_append_right _ h))
theorem uX3_gather_1 : Cond.fieldLink RX3 32 "SumMoved$Stories" "size" "I" ∈ wsX3_gather := List.mem_of_getElem? (i := 1) rfl
theorem uX3_gather_2 : Cond.fieldLink RX3 9 "SumMoved$Stories" "rows" "LSumMoved$Rows;" ∈ wsX3_gather := List.mem_of_getElem? (i := 2) rfl
theorem uX3_gather_3 : Cond.fieldLink RX3 15 "SumMoved$Stories" "heaps" "[I" ∈ wsX3_gather := List.mem_of_getElem? (i := 3) rfl
theorem uX3_gather_4 : Cond.fieldLink RX3 19 "SumMoved$Stories" "changes" "[I" ∈ wsX3_gather := List.mem_of_getElem? (i := 4) rfl
theorem uX3_gather_5 : Cond.fieldLink RX3 22 "SumMoved$Stories" "tests" "[I" ∈ wsX3_gather := List.mem_of_getElem? (i := 5) rfl
theorem uX3_gather_6 : Cond.fieldLink RX3 25 "SumMoved$Stories" "lowBits" "[J" ∈ wsX3_gather := List.mem_of_getElem? (i := 6) rfl
theorem uX3_gather_7 : Cond.fieldLink RX3 29 "SumMoved$Stories" "highBits" "[J" ∈ wsX3_gather := List.mem_of_getElem? (i := 7) rfl
set_option maxRecDepth 100000 in
theorem kX3_gather_7 (F : CallFix p m c cX3_gather 6 s args wsX3_gather RX3) (hz : gz D cI cJ cZ s) (hD : ∀ u : SX, va_D A (w5 ad cI cJ u)) (hA : ∀ q : Nat, s.heap.size ≤ q → A q) {K : Int32 × SX → Prop} (hK : ∀ x : Int32 × SX, K x → match x with | (x1, S) => ∀ (H : Heap) (locs : List Loc), va_P D vwCl (w5 ad cI cJ S) H → va_S A s.heap H locs → ∀ ls : Array Slot, lv_has ls 6 [(0, .ref (ad 12)), (1, .int x1)] → W p l e rX3_gather s m args below meth c H locs 0 0 QQ (F0 m 147 ls [])) : ∀ (nn : Nat) (x : Int32 × SX), iter (sX3_gather_7 K) nn x → match x with | (x1, S) => ∀ (H : Heap) (locs : List Loc), va_P D vwCl (w5 ad cI cJ S) H → va_S A s.heap H locs → ∀ ls : Array Slot, lv_has ls 6 [(0, .ref (ad 12)), (1, .int x1)] → W p l e rX3_gather s m args below meth c H locs 0 0 QQ (F0 m 7 ls []) := by
  refine iter_walk ?_
  rintro again7 ⟨x1, S⟩ ih7 h H locs hP hS ls hl
  have hK7 := hK
  refine lv_iload_n F.1 F.2.1 dX3_gather_7 rfl (lv_at hl 1 rfl) ?_
  refine lv_sipush (v := (729 : Int32)) F.1 F.2.1 dX3_gather_8 (by decide) ?_
  refine lv_icmp_ge (tgt := 147) F.1 F.2.1 dX3_gather_11 (by decide) (fun hc => ?_) (fun hc => ?_)
  · have h := h.1 (hc)
    exact hK7 (x1, S) h _ _ hP hS ls (lv_sub hl [0, 1] rfl)
  · have h := h.2 hc
    refine lv_aload_n F.1 F.2.1 dX3_gather_14 rfl (lv_at hl 0 rfl) ?_
    refine va_get (D := D) (ci := 1) (v := .int S.2.2.2.2.2.2.2.1) (C := RX3) (T := TX3) (N := 14) F.1 F.2.1 F.2.2.2.2 vX3_gather_X3 F.2.2.2.1 hz.1 hP 12 rfl rfl 6 (by decide) (F.2.2.2.2 _ uX3_gather_1) (fun _ h9 => h9) rfl dX3_gather_15 ?_
    refine lv_sipush (v := (216 : Int32)) F.1 F.2.1 dX3_gather_18 (by decide) ?_
    refine lv_icmp_ge (tgt := 147) F.1 F.2.1 dX3_gather_21 (by decide) (fun hc => ?_) (fun hc => ?_)
    · have h := h.1 (hc)
      exact hK7 (x1, S) h _ _ hP hS ls (lv_sub hl [0, 1] rfl)
    · have h := h.2 hc
      refine lv_iload_n F.1 F.2.1 dX3_gather_24 rfl (lv_at hl 1 rfl) ?_
      refine vp_callSi (va_Run.run (va_runS (As := [.int x1]) (rest := []) F (mX1_tests (l := l) (D := D) (cI := cI) (cJ := cJ) (cZ := cZ) h) (va_cwS 1 F.2.2.2.2 gX3_gather_X1_tests rfl rfl rfl kS_X1_tests ⟨Nat.le_of_ble_eq_true rfl, Nat.le_of_ble_eq_true rfl⟩) ⟨rp_blind, rp_pre hz (hP.sub (ws' := []) [] rfl) [.int x1]⟩ rfl rfl hl.1 rfl (lv_room (Nat.le_of_ble_eq_true rfl)) dX3_gather_25 ⟨Nat.le_of_ble_eq_true rfl, Nat.le_of_ble_eq_true rfl⟩)) (fun r_1 h => ?_)
      refine lv_iconst (v := (2 : Int32)) F.1 F.2.1 dX3_gather_28 (by decide) ?_
      refine lv_icmp_le (tgt := 35) F.1 F.2.1 dX3_gather_29 (by decide) (fun hc => ?_) (fun hc => ?_)
      · have h := h.1 (hc)
        refine lv_aload_n F.1 F.2.1 dX3_gather_35 rfl (lv_at hl 0 rfl) ?_
        refine va_get (D := D) (ci := 1) (v := .ref (ad 1)) (C := RX3) (T := TX3) (N := 14) F.1 F.2.1 F.2.2.2.2 vX3_gather_X3 F.2.2.2.1 hz.1 hP 12 rfl rfl 0 (by decide) (F.2.2.2.2 _ uX3_gather_2) (fun _ h9 => h9) rfl dX3_gather_36 ?_
        refine lv_iload_n F.1 F.2.1 dX3_gather_39 rfl (lv_at hl 1 rfl) ?_
        refine lv_iconst (v := (0 : Int32)) F.1 F.2.1 dX3_gather_40 (by decide) ?_
        refine vp_callSl (va_Run.run (va_runV (As := [.int x1, .int (0 : Int32)]) (rest := []) F (mX2_bitsOf (l := l) (D := D) (cI := cI) (cJ := cJ) (cZ := cZ) (ad := ad) h) (cwV 2 F.2.2.2.2 gX3_gather_X2_bitsOf rfl rfl rfl kV_X2_bitsOf ⟨Nat.le_of_ble_eq_true rfl, Nat.le_of_ble_eq_true rfl⟩) ⟨rp_blind, va_recv hz.1 hP (ci := 0) (q0 := 1) rfl rfl, rp_pre hz (hP.sub (ws' := w2 ad cI S.1) [1, 2, 3, 4, 5, 6, 7, 8] rfl) (.ref (ad 1) :: [.int x1, .int (0 : Int32)])⟩ rfl rfl hl.1 rfl (lv_room (Nat.le_of_ble_eq_true rfl)) dX3_gather_41 ⟨Nat.le_of_ble_eq_true rfl, Nat.le_of_ble_eq_true rfl⟩)) (fun r_2 h => ?_)
        refine lv_lstore_n (lv' := [(2, .long r_2), (0, .ref (ad 12)), (1, .int x1)]) F.1 F.2.1 dX3_gather_44 rfl hl (by decide) rfl (fun ls hl => ?_)
        refine lv_aload_n F.1 F.2.1 dX3_gather_45 rfl (lv_at hl 1 rfl) ?_
        refine va_get (D := D) (ci := 1) (v := .ref (ad 1)) (C := RX3) (T := TX3) (N := 14) F.1 F.2.1 F.2.2.2.2 vX3_gather_X3 F.2.2.2.1 hz.1 hP 12 rfl rfl 0 (by decide) (F.2.2.2.2 _ uX3_gather_2) (fun _ h9 => h9) rfl dX3_gather_46 ?_
        refine lv_iload_n F.1 F.2.1 dX3_gather_49 rfl (lv_at hl 2 rfl) ?_
        refine lv_iconst (v := (1 : Int32)) F.1 F.2.1 dX3_gather_50 (by decide) ?_
        refine vp_callSl (va_Run.run (va_runV (As := [.int x1, .int (1 : Int32)]) (rest := []) F (mX2_bitsOf (l := l) (D := D) (cI := cI) (cJ := cJ) (cZ := cZ) (ad := ad) h) (cwV 2 F.2.2.2.2 gX3_gather_X2_bitsOf rfl rfl rfl kV_X2_bitsOf ⟨Nat.le_of_ble_eq_true rfl, Nat.le_of_ble_eq_true rfl⟩) ⟨rp_blind, va_recv hz.1 hP (ci := 0) (q0 := 1) rfl rfl, rp_pre hz (hP.sub (ws' := w2 ad cI S.1) [1, 2, 3, 4, 5, 6, 7, 8] rfl) (.ref (ad 1) :: [.int x1, .int (1 : Int32)])⟩ rfl rfl hl.1 rfl (lv_room (Nat.le_of_ble_eq_true rfl)) dX3_gather_51 ⟨Nat.le_of_ble_eq_true rfl, Nat.le_of_ble_eq_true rfl⟩)) (fun r_3 h => ?_)
        refine lv_lstore (lv' := [(4, .long r_3), (2, .long r_2), (0, .ref (ad 12)), (1, .int x1)]) F.1 F.2.1 dX3_gather_54 hl (by decide) rfl (fun ls hl => ?_)
        refine lv_lload_n F.1 F.2.1 dX3_gather_56 rfl (lv_at hl 1 rfl) ?_
        refine lv_lconst (v := (0 : Int64)) F.1 F.2.1 dX3_gather_57 (by decide) ?_
        refine W.lcmp F.1 F.2.1 dX3_gather_58 ?_
        refine lv_if_ne (tgt := 69) F.1 F.2.1 dX3_gather_59 (by decide) (fun hc => ?_) (fun hc => ?_)
        · have h := h.2 (fun z => hc ((lg_cmp_eq _ _).mpr z))
          refine lv_aload_n F.1 F.2.1 dX3_gather_69 rfl (lv_at hl 2 rfl) ?_
          refine va_get (D := D) (ci := 1) (v := .ref (ad 13)) (C := RX3) (T := TX3) (N := 14) F.1 F.2.1 F.2.2.2.2 vX3_gather_X3 F.2.2.2.1 hz.1 hP 12 rfl rfl 1 (by decide) (F.2.2.2.2 _ uX3_gather_3) (fun _ h9 => h9) rfl dX3_gather_70 ?_
          refine lv_aload_n F.1 F.2.1 dX3_gather_73 rfl (lv_at hl 2 rfl) ?_
          refine va_get (D := D) (ci := 1) (v := .int S.2.2.2.2.2.2.2.1) (C := RX3) (T := TX3) (N := 14) F.1 F.2.1 F.2.2.2.2 vX3_gather_X3 F.2.2.2.1 hz.1 hP 12 rfl rfl 6 (by decide) (F.2.2.2.2 _ uX3_gather_1) (fun _ h9 => h9) rfl dX3_gather_74 ?_
          refine lv_iload_n F.1 F.2.1 dX3_gather_77 rfl (lv_at hl 3 rfl) ?_
          refine va_iast F.1 F.2.1 hz.1 hP (hD _) hS 13 0 rfl rfl h.1 dX3_gather_78 (fun H locs hP _ hS => ?_)
          have h := h.2
          have hP : va_P D vwCl (w5 ad cI cJ (S.1, S.2.1, ((upd S.2.2.1 S.2.2.2.2.2.2.2.1.toNatClampNeg x1), S.2.2.2.1, S.2.2.2.2.1, S.2.2.2.2.2.1, S.2.2.2.2.2.2.1, S.2.2.2.2.2.2.2.1, S.2.2.2.2.2.2.2.2.1, S.2.2.2.2.2.2.2.2.2.1, S.2.2.2.2.2.2.2.2.2.2.1, S.2.2.2.2.2.2.2.2.2.2.2.1, S.2.2.2.2.2.2.2.2.2.2.2.2.1, S.2.2.2.2.2.2.2.2.2.2.2.2.2.1, S.2.2.2.2.2.2.2.2.2.2.2.2.2.2))) H := hP
          refine lv_aload_n F.1 F.2.1 dX3_gather_79 rfl (lv_at hl 2 rfl) ?_
          refine va_get (D := D) (ci := 1) (v := .ref (ad 14)) (C := RX3) (T := TX3) (N := 14) F.1 F.2.1 F.2.2.2.2 vX3_gather_X3 F.2.2.2.1 hz.1 hP 12 rfl rfl 2 (by decide) (F.2.2.2.2 _ uX3_gather_4) (fun _ h9 => h9) rfl dX3_gather_80 ?_
          refine lv_aload_n F.1 F.2.1 dX3_gather_83 rfl (lv_at hl 2 rfl) ?_
          refine va_get (D := D) (ci := 1) (v := .int S.2.2.2.2.2.2.2.1) (C := RX3) (T := TX3) (N := 14) F.1 F.2.1 F.2.2.2.2 vX3_gather_X3 F.2.2.2.1 hz.1 hP 12 rfl rfl 6 (by decide) (F.2.2.2.2 _ uX3_gather_1) (fun _ h9 => h9) rfl dX3_gather_84 ?_
          refine lv_aload_n F.1 F.2.1 dX3_gather_87 rfl (lv_at hl 2 rfl) ?_
          refine va_get (D := D) (ci := 1) (v := .ref (ad 1)) (C := RX3) (T := TX3) (N := 14) F.1 F.2.1 F.2.2.2.2 vX3_gather_X3 F.2.2.2.1 hz.1 hP 12 rfl rfl 0 (by decide) (F.2.2.2.2 _ uX3_gather_2) (fun _ h9 => h9) rfl dX3_gather_88 ?_
          refine lv_iload_n F.1 F.2.1 dX3_gather_91 rfl (lv_at hl 3 rfl) ?_
          refine lv_iconst (v := (0 : Int32)) F.1 F.2.1 dX3_gather_92 (by decide) ?_
          refine vp_callSi (va_Run.run (va_runV (As := [.int x1, .int (0 : Int32)]) (rest := [.int S.2.2.2.2.2.2.2.1, .ref (ad 14)]) F (mX2_moved (l := l) (D := D) (cI := cI) (cJ := cJ) (cZ := cZ) (ad := ad) h) (cwV 2 F.2.2.2.2 gX3_gather_X2_moved rfl rfl rfl kV_X2_moved ⟨Nat.le_of_ble_eq_true rfl, Nat.le_of_ble_eq_true rfl⟩) ⟨rp_blind, va_recv hz.1 hP (ci := 0) (q0 := 1) rfl rfl, rp_pre hz (hP.sub (ws' := w2 ad cI S.1) [1, 2, 3, 4, 5, 6, 7, 8] rfl) (.ref (ad 1) :: [.int x1, .int (0 : Int32)])⟩ rfl rfl hl.1 rfl (lv_room (Nat.le_of_ble_eq_true rfl)) dX3_gather_93 ⟨Nat.le_of_ble_eq_true rfl, Nat.le_of_ble_eq_true rfl⟩)) (fun r_4 h => ?_)
          refine va_iast F.1 F.2.1 hz.1 hP (hD _) hS 14 0 rfl rfl h.1 dX3_gather_96 (fun H locs hP _ hS => ?_)
          have h := h.2
          have hP : va_P D vwCl (w5 ad cI cJ (S.1, S.2.1, ((upd S.2.2.1 S.2.2.2.2.2.2.2.1.toNatClampNeg x1), (upd S.2.2.2.1 S.2.2.2.2.2.2.2.1.toNatClampNeg r_4), S.2.2.2.2.1, S.2.2.2.2.2.1, S.2.2.2.2.2.2.1, S.2.2.2.2.2.2.2.1, S.2.2.2.2.2.2.2.2.1, S.2.2.2.2.2.2.2.2.2.1, S.2.2.2.2.2.2.2.2.2.2.1, S.2.2.2.2.2.2.2.2.2.2.2.1, S.2.2.2.2.2.2.2.2.2.2.2.2.1, S.2.2.2.2.2.2.2.2.2.2.2.2.2.1, S.2.2.2.2.2.2.2.2.2.2.2.2.2.2))) H := hP
          refine lv_aload_n F.1 F.2.1 dX3_gather_97 rfl (lv_at hl 2 rfl) ?_
          refine va_get (D := D) (ci := 1) (v := .ref (ad 15)) (C := RX3) (T := TX3) (N := 14) F.1 F.2.1 F.2.2.2.2 vX3_gather_X3 F.2.2.2.1 hz.1 hP 12 rfl rfl 3 (by decide) (F.2.2.2.2 _ uX3_gather_5) (fun _ h9 => h9) rfl dX3_gather_98 ?_
          refine lv_aload_n F.1 F.2.1 dX3_gather_101 rfl (lv_at hl 2 rfl) ?_
          refine va_get (D := D) (ci := 1) (v := .int S.2.2.2.2.2.2.2.1) (C := RX3) (T := TX3) (N := 14) F.1 F.2.1 F.2.2.2.2 vX3_gather_X3 F.2.2.2.1 hz.1 hP 12 rfl rfl 6 (by decide) (F.2.2.2.2 _ uX3_gather_1) (fun _ h9 => h9) rfl dX3_gather_102 ?_
          refine lv_iload_n F.1 F.2.1 dX3_gather_105 rfl (lv_at hl 3 rfl) ?_
          refine vp_callSi (va_Run.run (va_runS (As := [.int x1]) (rest := [.int S.2.2.2.2.2.2.2.1, .ref (ad 15)]) F (mX1_tests (l := l) (D := D) (cI := cI) (cJ := cJ) (cZ := cZ) h) (va_cwS 1 F.2.2.2.2 gX3_gather_X1_tests rfl rfl rfl kS_X1_tests ⟨Nat.le_of_ble_eq_true rfl, Nat.le_of_ble_eq_true rfl⟩) ⟨rp_blind, rp_pre hz (hP.sub (ws' := []) [] rfl) [.int x1]⟩ rfl rfl hl.1 rfl (lv_room (Nat.le_of_ble_eq_true rfl)) dX3_gather_106 ⟨Nat.le_of_ble_eq_true rfl, Nat.le_of_ble_eq_true rfl⟩)) (fun r_5 h => ?_)
          refine va_iast F.1 F.2.1 hz.1 hP (hD _) hS 15 0 rfl rfl h.1 dX3_gather_109 (fun H locs hP _ hS => ?_)
          have h := h.2
          have hP : va_P D vwCl (w5 ad cI cJ (S.1, S.2.1, ((upd S.2.2.1 S.2.2.2.2.2.2.2.1.toNatClampNeg x1), (upd S.2.2.2.1 S.2.2.2.2.2.2.2.1.toNatClampNeg r_4), (upd S.2.2.2.2.1 S.2.2.2.2.2.2.2.1.toNatClampNeg r_5), S.2.2.2.2.2.1, S.2.2.2.2.2.2.1, S.2.2.2.2.2.2.2.1, S.2.2.2.2.2.2.2.2.1, S.2.2.2.2.2.2.2.2.2.1, S.2.2.2.2.2.2.2.2.2.2.1, S.2.2.2.2.2.2.2.2.2.2.2.1, S.2.2.2.2.2.2.2.2.2.2.2.2.1, S.2.2.2.2.2.2.2.2.2.2.2.2.2.1, S.2.2.2.2.2.2.2.2.2.2.2.2.2.2))) H := hP
          refine lv_aload_n F.1 F.2.1 dX3_gather_110 rfl (lv_at hl 2 rfl) ?_
          refine va_get (D := D) (ci := 1) (v := .ref (ad 16)) (C := RX3) (T := TX3) (N := 14) F.1 F.2.1 F.2.2.2.2 vX3_gather_X3 F.2.2.2.1 hz.1 hP 12 rfl rfl 4 (by decide) (F.2.2.2.2 _ uX3_gather_6) (fun _ h9 => h9) rfl dX3_gather_111 ?_
          refine lv_aload_n F.1 F.2.1 dX3_gather_114 rfl (lv_at hl 2 rfl) ?_
          refine va_get (D := D) (ci := 1) (v := .int S.2.2.2.2.2.2.2.1) (C := RX3) (T := TX3) (N := 14) F.1 F.2.1 F.2.2.2.2 vX3_gather_X3 F.2.2.2.1 hz.1 hP 12 rfl rfl 6 (by decide) (F.2.2.2.2 _ uX3_gather_1) (fun _ h9 => h9) rfl dX3_gather_115 ?_
          refine lv_lload_n F.1 F.2.1 dX3_gather_118 rfl (lv_at hl 1 rfl) ?_
          refine va_last F.1 F.2.1 hz.1 hP (hD _) hS 16 1 rfl rfl h.1 dX3_gather_119 (fun H locs hP _ hS => ?_)
          have h := h.2
          have hP : va_P D vwCl (w5 ad cI cJ (S.1, S.2.1, ((upd S.2.2.1 S.2.2.2.2.2.2.2.1.toNatClampNeg x1), (upd S.2.2.2.1 S.2.2.2.2.2.2.2.1.toNatClampNeg r_4), (upd S.2.2.2.2.1 S.2.2.2.2.2.2.2.1.toNatClampNeg r_5), (vp_updL S.2.2.2.2.2.1 S.2.2.2.2.2.2.2.1.toNatClampNeg r_2), S.2.2.2.2.2.2.1, S.2.2.2.2.2.2.2.1, S.2.2.2.2.2.2.2.2.1, S.2.2.2.2.2.2.2.2.2.1, S.2.2.2.2.2.2.2.2.2.2.1, S.2.2.2.2.2.2.2.2.2.2.2.1, S.2.2.2.2.2.2.2.2.2.2.2.2.1, S.2.2.2.2.2.2.2.2.2.2.2.2.2.1, S.2.2.2.2.2.2.2.2.2.2.2.2.2.2))) H := hP
          refine lv_aload_n F.1 F.2.1 dX3_gather_120 rfl (lv_at hl 2 rfl) ?_
          refine va_get (D := D) (ci := 1) (v := .ref (ad 17)) (C := RX3) (T := TX3) (N := 14) F.1 F.2.1 F.2.2.2.2 vX3_gather_X3 F.2.2.2.1 hz.1 hP 12 rfl rfl 5 (by decide) (F.2.2.2.2 _ uX3_gather_7) (fun _ h9 => h9) rfl dX3_gather_121 ?_
          refine lv_aload_n F.1 F.2.1 dX3_gather_124 rfl (lv_at hl 2 rfl) ?_
          refine va_get (D := D) (ci := 1) (v := .int S.2.2.2.2.2.2.2.1) (C := RX3) (T := TX3) (N := 14) F.1 F.2.1 F.2.2.2.2 vX3_gather_X3 F.2.2.2.1 hz.1 hP 12 rfl rfl 6 (by decide) (F.2.2.2.2 _ uX3_gather_1) (fun _ h9 => h9) rfl dX3_gather_125 ?_
          refine lv_lload F.1 F.2.1 dX3_gather_128 (lv_at hl 0 rfl) ?_
          refine va_last F.1 F.2.1 hz.1 hP (hD _) hS 17 1 rfl rfl h.1 dX3_gather_130 (fun H locs hP _ hS => ?_)
          have h := h.2
          have hP : va_P D vwCl (w5 ad cI cJ (S.1, S.2.1, ((upd S.2.2.1 S.2.2.2.2.2.2.2.1.toNatClampNeg x1), (upd S.2.2.2.1 S.2.2.2.2.2.2.2.1.toNatClampNeg r_4), (upd S.2.2.2.2.1 S.2.2.2.2.2.2.2.1.toNatClampNeg r_5), (vp_updL S.2.2.2.2.2.1 S.2.2.2.2.2.2.2.1.toNatClampNeg r_2), (vp_updL S.2.2.2.2.2.2.1 S.2.2.2.2.2.2.2.1.toNatClampNeg r_3), S.2.2.2.2.2.2.2.1, S.2.2.2.2.2.2.2.2.1, S.2.2.2.2.2.2.2.2.2.1, S.2.2.2.2.2.2.2.2.2.2.1, S.2.2.2.2.2.2.2.2.2.2.2.1, S.2.2.2.2.2.2.2.2.2.2.2.2.1, S.2.2.2.2.2.2.2.2.2.2.2.2.2.1, S.2.2.2.2.2.2.2.2.2.2.2.2.2.2))) H := hP
          refine lv_aload_n F.1 F.2.1 dX3_gather_131 rfl (lv_at hl 2 rfl) ?_
          refine lv_dup F.1 F.2.1 dX3_gather_132 rfl ?_
          refine va_get (D := D) (ci := 1) (v := .int S.2.2.2.2.2.2.2.1) (C := RX3) (T := TX3) (N := 14) F.1 F.2.1 F.2.2.2.2 vX3_gather_X3 F.2.2.2.1 hz.1 hP 12 rfl rfl 6 (by decide) (F.2.2.2.2 _ uX3_gather_1) (fun _ h9 => h9) rfl dX3_gather_133 ?_
          refine lv_iconst (v := (1 : Int32)) F.1 F.2.1 dX3_gather_136 (by decide) ?_
          refine lv_iadd F.1 F.2.1 dX3_gather_137 ?_
          refine va_put (D := D) (ci := 1) (v := .int (S.2.2.2.2.2.2.2.1 + (1 : Int32))) (ty := .int) (C := RX3) (T := TX3) (N := 14) F.1 F.2.1 F.2.2.2.2 vX3_gather_X3 tyX3 tyX3_ok nmX3 F.2.2.2.1 hz.1 hP (hD _) hS 12 rfl rfl 6 (by decide) (F.2.2.2.2 _ uX3_gather_1) (fun _ h9 => h9) rfl (by decide +kernel) rfl rfl (Nat.le_of_ble_eq_true rfl) dX3_gather_138 (fun H locs hP _ hS => ?_)
          have hP : va_P D vwCl (w5 ad cI cJ (S.1, S.2.1, ((upd S.2.2.1 S.2.2.2.2.2.2.2.1.toNatClampNeg x1), (upd S.2.2.2.1 S.2.2.2.2.2.2.2.1.toNatClampNeg r_4), (upd S.2.2.2.2.1 S.2.2.2.2.2.2.2.1.toNatClampNeg r_5), (vp_updL S.2.2.2.2.2.1 S.2.2.2.2.2.2.2.1.toNatClampNeg r_2), (vp_updL S.2.2.2.2.2.2.1 S.2.2.2.2.2.2.2.1.toNatClampNeg r_3), S.2.2.2.2.2.2.2.1 + (1 : Int32), S.2.2.2.2.2.2.2.2.1, S.2.2.2.2.2.2.2.2.2.1, S.2.2.2.2.2.2.2.2.2.2.1, S.2.2.2.2.2.2.2.2.2.2.2.1, S.2.2.2.2.2.2.2.2.2.2.2.2.1, S.2.2.2.2.2.2.2.2.2.2.2.2.2.1, S.2.2.2.2.2.2.2.2.2.2.2.2.2.2))) H := hP
          refine lv_iinc (v := x1 + 1) (lv' := [(1, .int (x1 + 1)), (4, .long r_3), (2, .long r_2), (0, .ref (ad 12))]) F.1 F.2.1 dX3_gather_141 hl (k := 3) rfl rfl (by decide) rfl (fun ls hl => ?_)
          refine lv_goto (tgt := 7) F.1 F.2.1 dX3_gather_144 (by decide) ?_
          exact ih7 (x1 + 1, (S.1, S.2.1, ((upd S.2.2.1 S.2.2.2.2.2.2.2.1.toNatClampNeg x1), (upd S.2.2.2.1 S.2.2.2.2.2.2.2.1.toNatClampNeg r_4), (upd S.2.2.2.2.1 S.2.2.2.2.2.2.2.1.toNatClampNeg r_5), (vp_updL S.2.2.2.2.2.1 S.2.2.2.2.2.2.2.1.toNatClampNeg r_2), (vp_updL S.2.2.2.2.2.2.1 S.2.2.2.2.2.2.2.1.toNatClampNeg r_3), S.2.2.2.2.2.2.2.1 + (1 : Int32), S.2.2.2.2.2.2.2.2.1, S.2.2.2.2.2.2.2.2.2.1, S.2.2.2.2.2.2.2.2.2.2.1, S.2.2.2.2.2.2.2.2.2.2.2.1, S.2.2.2.2.2.2.2.2.2.2.2.2.1, S.2.2.2.2.2.2.2.2.2.2.2.2.2.1, S.2.2.2.2.2.2.2.2.2.2.2.2.2.2))) h _ _ hP hS ls (lv_sub hl [3, 0] rfl)
        · have h := h.1 ((lg_cmp_eq _ _).mp hc)
          refine lv_lload F.1 F.2.1 dX3_gather_62 (lv_at hl 0 rfl) ?_
          refine lv_lconst (v := (0 : Int64)) F.1 F.2.1 dX3_gather_64 (by decide) ?_
          refine W.lcmp F.1 F.2.1 dX3_gather_65 ?_
          refine lv_if_eq (tgt := 141) F.1 F.2.1 dX3_gather_66 (by decide) (fun hc => ?_) (fun hc => ?_)
          · have h := h.1 ((lg_cmp_eq _ _).mp hc)
            refine lv_iinc (v := x1 + 1) (lv' := [(1, .int (x1 + 1)), (4, .long r_3), (2, .long r_2), (0, .ref (ad 12))]) F.1 F.2.1 dX3_gather_141 hl (k := 3) rfl rfl (by decide) rfl (fun ls hl => ?_)
            refine lv_goto (tgt := 7) F.1 F.2.1 dX3_gather_144 (by decide) ?_
            exact ih7 (x1 + 1, S) h _ _ hP hS ls (lv_sub hl [3, 0] rfl)
          · have h := h.2 (fun z => hc ((lg_cmp_eq _ _).mpr z))
            refine lv_aload_n F.1 F.2.1 dX3_gather_69 rfl (lv_at hl 2 rfl) ?_
            refine va_get (D := D) (ci := 1) (v := .ref (ad 13)) (C := RX3) (T := TX3) (N := 14) F.1 F.2.1 F.2.2.2.2 vX3_gather_X3 F.2.2.2.1 hz.1 hP 12 rfl rfl 1 (by decide) (F.2.2.2.2 _ uX3_gather_3) (fun _ h9 => h9) rfl dX3_gather_70 ?_
            refine lv_aload_n F.1 F.2.1 dX3_gather_73 rfl (lv_at hl 2 rfl) ?_
            refine va_get (D := D) (ci := 1) (v := .int S.2.2.2.2.2.2.2.1) (C := RX3) (T := TX3) (N := 14) F.1 F.2.1 F.2.2.2.2 vX3_gather_X3 F.2.2.2.1 hz.1 hP 12 rfl rfl 6 (by decide) (F.2.2.2.2 _ uX3_gather_1) (fun _ h9 => h9) rfl dX3_gather_74 ?_
            refine lv_iload_n F.1 F.2.1 dX3_gather_77 rfl (lv_at hl 3 rfl) ?_
            refine va_iast F.1 F.2.1 hz.1 hP (hD _) hS 13 0 rfl rfl h.1 dX3_gather_78 (fun H locs hP _ hS => ?_)
            have h := h.2
            have hP : va_P D vwCl (w5 ad cI cJ (S.1, S.2.1, ((upd S.2.2.1 S.2.2.2.2.2.2.2.1.toNatClampNeg x1), S.2.2.2.1, S.2.2.2.2.1, S.2.2.2.2.2.1, S.2.2.2.2.2.2.1, S.2.2.2.2.2.2.2.1, S.2.2.2.2.2.2.2.2.1, S.2.2.2.2.2.2.2.2.2.1, S.2.2.2.2.2.2.2.2.2.2.1, S.2.2.2.2.2.2.2.2.2.2.2.1, S.2.2.2.2.2.2.2.2.2.2.2.2.1, S.2.2.2.2.2.2.2.2.2.2.2.2.2.1, S.2.2.2.2.2.2.2.2.2.2.2.2.2.2))) H := hP
            refine lv_aload_n F.1 F.2.1 dX3_gather_79 rfl (lv_at hl 2 rfl) ?_
            refine va_get (D := D) (ci := 1) (v := .ref (ad 14)) (C := RX3) (T := TX3) (N := 14) F.1 F.2.1 F.2.2.2.2 vX3_gather_X3 F.2.2.2.1 hz.1 hP 12 rfl rfl 2 (by decide) (F.2.2.2.2 _ uX3_gather_4) (fun _ h9 => h9) rfl dX3_gather_80 ?_
            refine lv_aload_n F.1 F.2.1 dX3_gather_83 rfl (lv_at hl 2 rfl) ?_
            refine va_get (D := D) (ci := 1) (v := .int S.2.2.2.2.2.2.2.1) (C := RX3) (T := TX3) (N := 14) F.1 F.2.1 F.2.2.2.2 vX3_gather_X3 F.2.2.2.1 hz.1 hP 12 rfl rfl 6 (by decide) (F.2.2.2.2 _ uX3_gather_1) (fun _ h9 => h9) rfl dX3_gather_84 ?_
            refine lv_aload_n F.1 F.2.1 dX3_gather_87 rfl (lv_at hl 2 rfl) ?_
            refine va_get (D := D) (ci := 1) (v := .ref (ad 1)) (C := RX3) (T := TX3) (N := 14) F.1 F.2.1 F.2.2.2.2 vX3_gather_X3 F.2.2.2.1 hz.1 hP 12 rfl rfl 0 (by decide) (F.2.2.2.2 _ uX3_gather_2) (fun _ h9 => h9) rfl dX3_gather_88 ?_
            refine lv_iload_n F.1 F.2.1 dX3_gather_91 rfl (lv_at hl 3 rfl) ?_
            refine lv_iconst (v := (0 : Int32)) F.1 F.2.1 dX3_gather_92 (by decide) ?_
            refine vp_callSi (va_Run.run (va_runV (As := [.int x1, .int (0 : Int32)]) (rest := [.int S.2.2.2.2.2.2.2.1, .ref (ad 14)]) F (mX2_moved (l := l) (D := D) (cI := cI) (cJ := cJ) (cZ := cZ) (ad := ad) h) (cwV 2 F.2.2.2.2 gX3_gather_X2_moved rfl rfl rfl kV_X2_moved ⟨Nat.le_of_ble_eq_true rfl, Nat.le_of_ble_eq_true rfl⟩) ⟨rp_blind, va_recv hz.1 hP (ci := 0) (q0 := 1) rfl rfl, rp_pre hz (hP.sub (ws' := w2 ad cI S.1) [1, 2, 3, 4, 5, 6, 7, 8] rfl) (.ref (ad 1) :: [.int x1, .int (0 : Int32)])⟩ rfl rfl hl.1 rfl (lv_room (Nat.le_of_ble_eq_true rfl)) dX3_gather_93 ⟨Nat.le_of_ble_eq_true rfl, Nat.le_of_ble_eq_true rfl⟩)) (fun r_6 h => ?_)
            refine va_iast F.1 F.2.1 hz.1 hP (hD _) hS 14 0 rfl rfl h.1 dX3_gather_96 (fun H locs hP _ hS => ?_)
            have h := h.2
            have hP : va_P D vwCl (w5 ad cI cJ (S.1, S.2.1, ((upd S.2.2.1 S.2.2.2.2.2.2.2.1.toNatClampNeg x1), (upd S.2.2.2.1 S.2.2.2.2.2.2.2.1.toNatClampNeg r_6), S.2.2.2.2.1, S.2.2.2.2.2.1, S.2.2.2.2.2.2.1, S.2.2.2.2.2.2.2.1, S.2.2.2.2.2.2.2.2.1, S.2.2.2.2.2.2.2.2.2.1, S.2.2.2.2.2.2.2.2.2.2.1, S.2.2.2.2.2.2.2.2.2.2.2.1, S.2.2.2.2.2.2.2.2.2.2.2.2.1, S.2.2.2.2.2.2.2.2.2.2.2.2.2.1, S.2.2.2.2.2.2.2.2.2.2.2.2.2.2))) H := hP
            refine lv_aload_n F.1 F.2.1 dX3_gather_97 rfl (lv_at hl 2 rfl) ?_
            refine va_get (D := D) (ci := 1) (v := .ref (ad 15)) (C := RX3) (T := TX3) (N := 14) F.1 F.2.1 F.2.2.2.2 vX3_gather_X3 F.2.2.2.1 hz.1 hP 12 rfl rfl 3 (by decide) (F.2.2.2.2 _ uX3_gather_5) (fun _ h9 => h9) rfl dX3_gather_98 ?_
            refine lv_aload_n F.1 F.2.1 dX3_gather_101 rfl (lv_at hl 2 rfl) ?_
            refine va_get (D := D) (ci := 1) (v := .int S.2.2.2.2.2.2.2.1) (C := RX3) (T := TX3) (N := 14) F.1 F.2.1 F.2.2.2.2 vX3_gather_X3 F.2.2.2.1 hz.1 hP 12 rfl rfl 6 (by decide) (F.2.2.2.2 _ uX3_gather_1) (fun _ h9 => h9) rfl dX3_gather_102 ?_
            refine lv_iload_n F.1 F.2.1 dX3_gather_105 rfl (lv_at hl 3 rfl) ?_
            refine vp_callSi (va_Run.run (va_runS (As := [.int x1]) (rest := [.int S.2.2.2.2.2.2.2.1, .ref (ad 15)]) F (mX1_tests (l := l) (D := D) (cI := cI) (cJ := cJ) (cZ := cZ) h) (va_cwS 1 F.2.2.2.2 gX3_gather_X1_tests rfl rfl rfl kS_X1_tests ⟨Nat.le_of_ble_eq_true rfl, Nat.le_of_ble_eq_true rfl⟩) ⟨rp_blind, rp_pre hz (hP.sub (ws' := []) [] rfl) [.int x1]⟩ rfl rfl hl.1 rfl (lv_room (Nat.le_of_ble_eq_true rfl)) dX3_gather_106 ⟨Nat.le_of_ble_eq_true rfl, Nat.le_of_ble_eq_true rfl⟩)) (fun r_7 h => ?_)
            refine va_iast F.1 F.2.1 hz.1 hP (hD _) hS 15 0 rfl rfl h.1 dX3_gather_109 (fun H locs hP _ hS => ?_)
            have h := h.2
            have hP : va_P D vwCl (w5 ad cI cJ (S.1, S.2.1, ((upd S.2.2.1 S.2.2.2.2.2.2.2.1.toNatClampNeg x1), (upd S.2.2.2.1 S.2.2.2.2.2.2.2.1.toNatClampNeg r_6), (upd S.2.2.2.2.1 S.2.2.2.2.2.2.2.1.toNatClampNeg r_7), S.2.2.2.2.2.1, S.2.2.2.2.2.2.1, S.2.2.2.2.2.2.2.1, S.2.2.2.2.2.2.2.2.1, S.2.2.2.2.2.2.2.2.2.1, S.2.2.2.2.2.2.2.2.2.2.1, S.2.2.2.2.2.2.2.2.2.2.2.1, S.2.2.2.2.2.2.2.2.2.2.2.2.1, S.2.2.2.2.2.2.2.2.2.2.2.2.2.1, S.2.2.2.2.2.2.2.2.2.2.2.2.2.2))) H := hP
            refine lv_aload_n F.1 F.2.1 dX3_gather_110 rfl (lv_at hl 2 rfl) ?_
            refine va_get (D := D) (ci := 1) (v := .ref (ad 16)) (C := RX3) (T := TX3) (N := 14) F.1 F.2.1 F.2.2.2.2 vX3_gather_X3 F.2.2.2.1 hz.1 hP 12 rfl rfl 4 (by decide) (F.2.2.2.2 _ uX3_gather_6) (fun _ h9 => h9) rfl dX3_gather_111 ?_
            refine lv_aload_n F.1 F.2.1 dX3_gather_114 rfl (lv_at hl 2 rfl) ?_
            refine va_get (D := D) (ci := 1) (v := .int S.2.2.2.2.2.2.2.1) (C := RX3) (T := TX3) (N := 14) F.1 F.2.1 F.2.2.2.2 vX3_gather_X3 F.2.2.2.1 hz.1 hP 12 rfl rfl 6 (by decide) (F.2.2.2.2 _ uX3_gather_1) (fun _ h9 => h9) rfl dX3_gather_115 ?_
            refine lv_lload_n F.1 F.2.1 dX3_gather_118 rfl (lv_at hl 1 rfl) ?_
            refine va_last F.1 F.2.1 hz.1 hP (hD _) hS 16 1 rfl rfl h.1 dX3_gather_119 (fun H locs hP _ hS => ?_)
            have h := h.2
            have hP : va_P D vwCl (w5 ad cI cJ (S.1, S.2.1, ((upd S.2.2.1 S.2.2.2.2.2.2.2.1.toNatClampNeg x1), (upd S.2.2.2.1 S.2.2.2.2.2.2.2.1.toNatClampNeg r_6), (upd S.2.2.2.2.1 S.2.2.2.2.2.2.2.1.toNatClampNeg r_7), (vp_updL S.2.2.2.2.2.1 S.2.2.2.2.2.2.2.1.toNatClampNeg r_2), S.2.2.2.2.2.2.1, S.2.2.2.2.2.2.2.1, S.2.2.2.2.2.2.2.2.1, S.2.2.2.2.2.2.2.2.2.1, S.2.2.2.2.2.2.2.2.2.2.1, S.2.2.2.2.2.2.2.2.2.2.2.1, S.2.2.2.2.2.2.2.2.2.2.2.2.1, S.2.2.2.2.2.2.2.2.2.2.2.2.2.1, S.2.2.2.2.2.2.2.2.2.2.2.2.2.2))) H := hP
            refine lv_aload_n F.1 F.2.1 dX3_gather_120 rfl (lv_at hl 2 rfl) ?_
            refine va_get (D := D) (ci := 1) (v := .ref (ad 17)) (C := RX3) (T := TX3) (N := 14) F.1 F.2.1 F.2.2.2.2 vX3_gather_X3 F.2.2.2.1 hz.1 hP 12 rfl rfl 5 (by decide) (F.2.2.2.2 _ uX3_gather_7) (fun _ h9 => h9) rfl dX3_gather_121 ?_
            refine lv_aload_n F.1 F.2.1 dX3_gather_124 rfl (lv_at hl 2 rfl) ?_
            refine va_get (D := D) (ci := 1) (v := .int S.2.2.2.2.2.2.2.1) (C := RX3) (T := TX3) (N := 14) F.1 F.2.1 F.2.2.2.2 vX3_gather_X3 F.2.2.2.1 hz.1 hP 12 rfl rfl 6 (by decide) (F.2.2.2.2 _ uX3_gather_1) (fun _ h9 => h9) rfl dX3_gather_125 ?_
            refine lv_lload F.1 F.2.1 dX3_gather_128 (lv_at hl 0 rfl) ?_
            refine va_last F.1 F.2.1 hz.1 hP (hD _) hS 17 1 rfl rfl h.1 dX3_gather_130 (fun H locs hP _ hS => ?_)
            have h := h.2
            have hP : va_P D vwCl (w5 ad cI cJ (S.1, S.2.1, ((upd S.2.2.1 S.2.2.2.2.2.2.2.1.toNatClampNeg x1), (upd S.2.2.2.1 S.2.2.2.2.2.2.2.1.toNatClampNeg r_6), (upd S.2.2.2.2.1 S.2.2.2.2.2.2.2.1.toNatClampNeg r_7), (vp_updL S.2.2.2.2.2.1 S.2.2.2.2.2.2.2.1.toNatClampNeg r_2), (vp_updL S.2.2.2.2.2.2.1 S.2.2.2.2.2.2.2.1.toNatClampNeg r_3), S.2.2.2.2.2.2.2.1, S.2.2.2.2.2.2.2.2.1, S.2.2.2.2.2.2.2.2.2.1, S.2.2.2.2.2.2.2.2.2.2.1, S.2.2.2.2.2.2.2.2.2.2.2.1, S.2.2.2.2.2.2.2.2.2.2.2.2.1, S.2.2.2.2.2.2.2.2.2.2.2.2.2.1, S.2.2.2.2.2.2.2.2.2.2.2.2.2.2))) H := hP
            refine lv_aload_n F.1 F.2.1 dX3_gather_131 rfl (lv_at hl 2 rfl) ?_
            refine lv_dup F.1 F.2.1 dX3_gather_132 rfl ?_
            refine va_get (D := D) (ci := 1) (v := .int S.2.2.2.2.2.2.2.1) (C := RX3) (T := TX3) (N := 14) F.1 F.2.1 F.2.2.2.2 vX3_gather_X3 F.2.2.2.1 hz.1 hP 12 rfl rfl 6 (by decide) (F.2.2.2.2 _ uX3_gather_1) (fun _ h9 => h9) rfl dX3_gather_133 ?_
            refine lv_iconst (v := (1 : Int32)) F.1 F.2.1 dX3_gather_136 (by decide) ?_
            refine lv_iadd F.1 F.2.1 dX3_gather_137 ?_
            refine va_put (D := D) (ci := 1) (v := .int (S.2.2.2.2.2.2.2.1 + (1 : Int32))) (ty := .int) (C := RX3) (T := TX3) (N := 14) F.1 F.2.1 F.2.2.2.2 vX3_gather_X3 tyX3 tyX3_ok nmX3 F.2.2.2.1 hz.1 hP (hD _) hS 12 rfl rfl 6 (by decide) (F.2.2.2.2 _ uX3_gather_1) (fun _ h9 => h9) rfl (by decide +kernel) rfl rfl (Nat.le_of_ble_eq_true rfl) dX3_gather_138 (fun H locs hP _ hS => ?_)
            have hP : va_P D vwCl (w5 ad cI cJ (S.1, S.2.1, ((upd S.2.2.1 S.2.2.2.2.2.2.2.1.toNatClampNeg x1), (upd S.2.2.2.1 S.2.2.2.2.2.2.2.1.toNatClampNeg r_6), (upd S.2.2.2.2.1 S.2.2.2.2.2.2.2.1.toNatClampNeg r_7), (vp_updL S.2.2.2.2.2.1 S.2.2.2.2.2.2.2.1.toNatClampNeg r_2), (vp_updL S.2.2.2.2.2.2.1 S.2.2.2.2.2.2.2.1.toNatClampNeg r_3), S.2.2.2.2.2.2.2.1 + (1 : Int32), S.2.2.2.2.2.2.2.2.1, S.2.2.2.2.2.2.2.2.2.1, S.2.2.2.2.2.2.2.2.2.2.1, S.2.2.2.2.2.2.2.2.2.2.2.1, S.2.2.2.2.2.2.2.2.2.2.2.2.1, S.2.2.2.2.2.2.2.2.2.2.2.2.2.1, S.2.2.2.2.2.2.2.2.2.2.2.2.2.2))) H := hP
            refine lv_iinc (v := x1 + 1) (lv' := [(1, .int (x1 + 1)), (4, .long r_3), (2, .long r_2), (0, .ref (ad 12))]) F.1 F.2.1 dX3_gather_141 hl (k := 3) rfl rfl (by decide) rfl (fun ls hl => ?_)
            refine lv_goto (tgt := 7) F.1 F.2.1 dX3_gather_144 (by decide) ?_
            exact ih7 (x1 + 1, (S.1, S.2.1, ((upd S.2.2.1 S.2.2.2.2.2.2.2.1.toNatClampNeg x1), (upd S.2.2.2.1 S.2.2.2.2.2.2.2.1.toNatClampNeg r_6), (upd S.2.2.2.2.1 S.2.2.2.2.2.2.2.1.toNatClampNeg r_7), (vp_updL S.2.2.2.2.2.1 S.2.2.2.2.2.2.2.1.toNatClampNeg r_2), (vp_updL S.2.2.2.2.2.2.1 S.2.2.2.2.2.2.2.1.toNatClampNeg r_3), S.2.2.2.2.2.2.2.1 + (1 : Int32), S.2.2.2.2.2.2.2.2.1, S.2.2.2.2.2.2.2.2.2.1, S.2.2.2.2.2.2.2.2.2.2.1, S.2.2.2.2.2.2.2.2.2.2.2.1, S.2.2.2.2.2.2.2.2.2.2.2.2.1, S.2.2.2.2.2.2.2.2.2.2.2.2.2.1, S.2.2.2.2.2.2.2.2.2.2.2.2.2.2))) h _ _ hP hS ls (lv_sub hl [3, 0] rfl)
      · have h := h.2 hc
        refine lv_goto (tgt := 141) F.1 F.2.1 dX3_gather_32 (by decide) ?_
        refine lv_iinc (v := x1 + 1) (lv' := [(1, .int (x1 + 1)), (0, .ref (ad 12))]) F.1 F.2.1 dX3_gather_141 hl (k := 1) rfl rfl (by decide) rfl (fun ls hl => ?_)
        refine lv_goto (tgt := 7) F.1 F.2.1 dX3_gather_144 (by decide) ?_
        exact ih7 (x1 + 1, S) h _ _ hP hS ls (lv_sub hl [1, 0] rfl)
set_option maxRecDepth 100000 in
theorem bX3_gather {S : SX} {Q : Int32 → SX → Prop} (F : CallFix p m c cX3_gather 6 s args wsX3_gather RX3) (hz : gz D cI cJ cZ s) (hD : ∀ u : SX, va_D A (w5 ad cI cJ u)) (hA : ∀ q : Nat, s.heap.size ≤ q → A q) (hret : ∀ (v : Int32) (u : SX) (H : Heap) (locs : List Loc) (pc : Nat) (ls : Array Slot), Q v u → va_P D vwCl (w5 ad cI cJ u) H → va_S A s.heap H locs → decode cX3_gather pc = .ok (.ireturn, 1) → W p l e rX3_gather s m args below meth c H locs 0 0 QQ (F0 m pc ls [.int v])) (hP : va_P D vwCl (w5 ad cI cJ S) s.heap) (h : wX3_gather S Q) : ∀ ls : Array Slot, lv_has ls 6 [(0, .ref (ad 12))] → W p l e rX3_gather s m args below meth c s.heap [] 0 0 QQ (F0 m 0 ls []) := by
  intro ls hl
  have hS : va_S A s.heap s.heap [] := va_S.rf
  refine lv_aload_n F.1 F.2.1 dX3_gather_0 rfl (lv_at hl 0 rfl) ?_
  refine lv_iconst (v := (0 : Int32)) F.1 F.2.1 dX3_gather_1 (by decide) ?_
  refine va_put (D := D) (ci := 1) (v := .int (0 : Int32)) (ty := .int) (C := RX3) (T := TX3) (N := 14) F.1 F.2.1 F.2.2.2.2 vX3_gather_X3 tyX3 tyX3_ok nmX3 F.2.2.2.1 hz.1 hP (hD _) hS 12 rfl rfl 6 (by decide) (F.2.2.2.2 _ uX3_gather_1) (fun _ h9 => h9) rfl (by decide +kernel) rfl rfl (Nat.le_of_ble_eq_true rfl) dX3_gather_2 (fun H locs hP _ hS => ?_)
  have hP : va_P D vwCl (w5 ad cI cJ (S.1, S.2.1, (S.2.2.1, S.2.2.2.1, S.2.2.2.2.1, S.2.2.2.2.2.1, S.2.2.2.2.2.2.1, (0 : Int32), S.2.2.2.2.2.2.2.2.1, S.2.2.2.2.2.2.2.2.2.1, S.2.2.2.2.2.2.2.2.2.2.1, S.2.2.2.2.2.2.2.2.2.2.2.1, S.2.2.2.2.2.2.2.2.2.2.2.2.1, S.2.2.2.2.2.2.2.2.2.2.2.2.2.1, S.2.2.2.2.2.2.2.2.2.2.2.2.2.2))) H := hP
  refine lv_iconst (v := (1 : Int32)) F.1 F.2.1 dX3_gather_5 (by decide) ?_
  refine lv_istore_n (lv' := [(1, .int (1 : Int32)), (0, .ref (ad 12))]) F.1 F.2.1 dX3_gather_6 rfl hl (by decide) rfl (fun ls hl => ?_)
  obtain ⟨nn, h⟩ := h
  refine kX3_gather_7 F hz hD hA (fun ⟨x1, S⟩ h H locs hP hS ls hl => ?_) nn _ h _ _ hP hS ls (lv_sub hl [1, 0] rfl)
  refine lv_aload_n F.1 F.2.1 dX3_gather_147 rfl (lv_at hl 0 rfl) ?_
  refine va_get (D := D) (ci := 1) (v := .int S.2.2.2.2.2.2.2.1) (C := RX3) (T := TX3) (N := 14) F.1 F.2.1 F.2.2.2.2 vX3_gather_X3 F.2.2.2.1 hz.1 hP 12 rfl rfl 6 (by decide) (F.2.2.2.2 _ uX3_gather_1) (fun _ h9 => h9) rfl dX3_gather_148 ?_
  exact hret _ _ _ _ _ _ h hP hS dX3_gather_151
theorem mX3_gather {l : Launch} {D : va_G} {cI cJ cZ : ClassId} {ad : Nat → Nat} {S : SX} {Q : Int32 → SX → Prop} (sz : Nat) (h : wX3_gather S Q) : Met l yX3_gather wsX3_gather rX3_gather (va_Pc [.ref (ad 12)] (wp D cI cJ cZ sz (w5 ad cI cJ S))) (wQi D (w5 ad cI cJ) S sz Q) 0 0 (va_A (w5 ad cI cJ S) sz) :=
  enter_wi (wf := w5 ad cI cJ) (fun _ => rfl) (by decide +kernel) rfl (Nat.le_of_ble_eq_true rfl) (fun p e s m args below meth c QQ A F hz hD hA hP hret => bX3_gather F hz hD hA hret hP h)
abbrev rX3_offerOnes : Room := { frames := 1, cells := 0, slots := 0, locals := 25 }
theorem kV_X3_offerOnes : yX3_offerOnes.cls = RX3 ∧ yX3_offerOnes.cls ≠ "java/lang/invoke/MethodHandle" ∧ yX3_offerOnes.cls ≠ "java/lang/invoke/VarHandle" ∧ (parseMethodDescriptor yX3_offerOnes.desc).map (fun d => d.parameters.length) = some 2 := by decide +kernel
theorem vX3_offerOnes_X3 : ∀ w ∈ wsX30, w ∈ wsX3_offerOnes := fun _ h => List.mem_cons_of_mem _ (List.mem_append_right _ h)
theorem uX3_offerOnes_1 : Cond.fieldLink RX3 32 "SumMoved$Stories" "size" "I" ∈ wsX3_offerOnes := List.mem_of_getElem? (i := 1) rfl
theorem uX3_offerOnes_2 : Cond.fieldLink RX3 19 "SumMoved$Stories" "changes" "[I" ∈ wsX3_offerOnes := List.mem_of_getElem? (i := 2) rfl
theorem uX3_offerOnes_3 : Cond.methodLink RX3 70 Lib.Math.abs.name ∈ wsX3_offerOnes := List.mem_of_getElem? (i := 3) rfl
theorem uX3_offerOnes_4 : Cond.static Lib.Math.abs.name ∈ wsX3_offerOnes := List.mem_of_getElem? (i := 4) rfl
theorem uX3_offerOnes_5 : Cond.initialized "java/lang/Math" ∈ wsX3_offerOnes := List.mem_of_getElem? (i := 5) rfl
theorem uX3_offerOnes_6 : Cond.code Lib.Math.abs.name Lib.Math.abs.code 1 (some .int) ∈ wsX3_offerOnes := List.mem_of_getElem? (i := 6) rfl
theorem uX3_offerOnes_7 : Cond.fieldLink RX3 22 "SumMoved$Stories" "tests" "[I" ∈ wsX3_offerOnes := List.mem_of_getElem? (i := 7) rfl
theorem uX3_offerOnes_8 : Cond.fieldLink RX3 89 "SumMoved$Stories" "bestToll" "I" ∈ wsX3_offerOnes := List.mem_of_getElem? (i := 8) rfl
theorem uX3_offerOnes_9 : Cond.fieldLink RX3 15 "SumMoved$Stories" "heaps" "[I" ∈ wsX3_offerOnes := List.mem_of_getElem? (i := 9) rfl
set_option maxRecDepth 100000 in
theorem kX3_offerOnes_2 {p1 : Int32} {p2 : Int32} (F : CallFix p m c cX3_offerOnes 6 s args wsX3_offerOnes RX3) (hz : gz D cI cJ cZ s) (hD : ∀ u : SX, va_D A (w5 ad cI cJ u)) (hA : ∀ q : Nat, s.heap.size ≤ q → A q) {K : Int32 × SX → Prop} (hK : ∀ x : Int32 × SX, K x → match x with | (x3, S) => ∀ (H : Heap) (locs : List Loc), va_P D vwCl (w5 ad cI cJ S) H → va_S A s.heap H locs → ∀ ls : Array Slot, lv_has ls 6 [(0, .ref (ad 12)), (1, .int p1), (2, .int p2), (3, .int x3)] → W p l e rX3_offerOnes s m args below meth c H locs 0 0 QQ (F0 m 67 ls [])) : ∀ (nn : Nat) (x : Int32 × SX), iter (sX3_offerOnes_2 p1 p2 K) nn x → match x with | (x3, S) => ∀ (H : Heap) (locs : List Loc), va_P D vwCl (w5 ad cI cJ S) H → va_S A s.heap H locs → ∀ ls : Array Slot, lv_has ls 6 [(0, .ref (ad 12)), (1, .int p1), (2, .int p2), (3, .int x3)] → W p l e rX3_offerOnes s m args below meth c H locs 0 0 QQ (F0 m 2 ls []) := by
  refine iter_walk ?_
  rintro again2 ⟨x3, S⟩ ih2 h H locs hP hS ls hl
  have hK2 := hK
  refine lv_iload_n F.1 F.2.1 dX3_offerOnes_2 rfl (lv_at hl 3 rfl) ?_
  refine lv_aload_n F.1 F.2.1 dX3_offerOnes_3 rfl (lv_at hl 0 rfl) ?_
  refine va_get (D := D) (ci := 1) (v := .int S.2.2.2.2.2.2.2.1) (C := RX3) (T := TX3) (N := 14) F.1 F.2.1 F.2.2.2.2 vX3_offerOnes_X3 F.2.2.2.1 hz.1 hP 12 rfl rfl 6 (by decide) (F.2.2.2.2 _ uX3_offerOnes_1) (fun _ h9 => h9) rfl dX3_offerOnes_4 ?_
  refine lv_icmp_ge (tgt := 67) F.1 F.2.1 dX3_offerOnes_7 (by decide) (fun hc => ?_) (fun hc => ?_)
  · have h := h.1 (hc)
    exact hK2 (x3, S) h _ _ hP hS ls (lv_sub hl [0, 1, 2, 3] rfl)
  · have h := h.2 hc
    refine lv_iload_n F.1 F.2.1 dX3_offerOnes_10 rfl (lv_at hl 2 rfl) ?_
    refine lv_aload_n F.1 F.2.1 dX3_offerOnes_11 rfl (lv_at hl 0 rfl) ?_
    refine va_get (D := D) (ci := 1) (v := .ref (ad 14)) (C := RX3) (T := TX3) (N := 14) F.1 F.2.1 F.2.2.2.2 vX3_offerOnes_X3 F.2.2.2.1 hz.1 hP 12 rfl rfl 2 (by decide) (F.2.2.2.2 _ uX3_offerOnes_2) (fun _ h9 => h9) rfl dX3_offerOnes_12 ?_
    refine lv_iload_n F.1 F.2.1 dX3_offerOnes_15 rfl (lv_at hl 3 rfl) ?_
    refine va_iald F.1 F.2.1 hz.1 hP 14 0 rfl rfl h.1 dX3_offerOnes_16 ?_
    have h := h.2
    refine lv_isub F.1 F.2.1 dX3_offerOnes_17 ?_
    refine lv_topi (fun y_1 ey_1 => ?_)
    have h := h y_1 ey_1
    refine lv_istore (lv' := [(4, .int y_1), (0, .ref (ad 12)), (1, .int p1), (2, .int p2), (3, .int x3)]) F.1 F.2.1 dX3_offerOnes_18 hl (by decide) rfl (fun ls hl => ?_)
    refine lv_iload F.1 F.2.1 dX3_offerOnes_20 (lv_at hl 0 rfl) ?_
    refine va_mabs F.1 F.2.1 (F.2.2.1.trans hl.1.symm) F.2.2.2.1 (F.2.2.2.2 _ uX3_offerOnes_3) (F.2.2.2.2 _ uX3_offerOnes_4) (F.2.2.2.2 _ uX3_offerOnes_5) (F.2.2.2.2 _ uX3_offerOnes_6) (Nat.le_of_ble_eq_true rfl) (Nat.le_of_ble_eq_true rfl) (Nat.le_of_ble_eq_true rfl) (Nat.le_of_ble_eq_true rfl) dX3_offerOnes_22 ?_
    refine lv_iload_n F.1 F.2.1 dX3_offerOnes_25 rfl (lv_at hl 2 rfl) ?_
    refine lv_aload_n F.1 F.2.1 dX3_offerOnes_26 rfl (lv_at hl 1 rfl) ?_
    refine va_get (D := D) (ci := 1) (v := .ref (ad 15)) (C := RX3) (T := TX3) (N := 14) F.1 F.2.1 F.2.2.2.2 vX3_offerOnes_X3 F.2.2.2.1 hz.1 hP 12 rfl rfl 3 (by decide) (F.2.2.2.2 _ uX3_offerOnes_7) (fun _ h9 => h9) rfl dX3_offerOnes_27 ?_
    refine lv_iload_n F.1 F.2.1 dX3_offerOnes_30 rfl (lv_at hl 4 rfl) ?_
    refine va_iald F.1 F.2.1 hz.1 hP 15 0 rfl rfl h.1 dX3_offerOnes_31 ?_
    have h := h.2
    refine lv_imul F.1 F.2.1 dX3_offerOnes_32 ?_
    refine lv_iadd F.1 F.2.1 dX3_offerOnes_33 ?_
    refine lv_topi (fun y_2 ey_2 => ?_)
    have h := h y_2 ey_2
    refine lv_istore (lv' := [(5, .int y_2), (4, .int y_1), (0, .ref (ad 12)), (1, .int p1), (2, .int p2), (3, .int x3)]) F.1 F.2.1 dX3_offerOnes_34 hl (by decide) rfl (fun ls hl => ?_)
    refine lv_iload F.1 F.2.1 dX3_offerOnes_36 (lv_at hl 0 rfl) ?_
    refine lv_aload_n F.1 F.2.1 dX3_offerOnes_38 rfl (lv_at hl 2 rfl) ?_
    refine va_get (D := D) (ci := 1) (v := .int S.2.2.2.2.2.2.2.2.2.2.2.2.2.2) (C := RX3) (T := TX3) (N := 14) F.1 F.2.1 F.2.2.2.2 vX3_offerOnes_X3 F.2.2.2.1 hz.1 hP 12 rfl rfl 13 (by decide) (F.2.2.2.2 _ uX3_offerOnes_8) (fun _ h9 => h9) rfl dX3_offerOnes_39 ?_
    refine lv_icmp_ge (tgt := 61) F.1 F.2.1 dX3_offerOnes_42 (by decide) (fun hc => ?_) (fun hc => ?_)
    · have h := h.1 (hc)
      refine lv_iinc (v := x3 + 1) (lv' := [(3, .int (x3 + 1)), (5, .int y_2), (4, .int y_1), (0, .ref (ad 12)), (1, .int p1), (2, .int p2)]) F.1 F.2.1 dX3_offerOnes_61 hl (k := 5) rfl rfl (by decide) rfl (fun ls hl => ?_)
      refine lv_goto (tgt := 2) F.1 F.2.1 dX3_offerOnes_64 (by decide) ?_
      exact ih2 (x3 + 1, S) h _ _ hP hS ls (lv_sub hl [3, 4, 5, 0] rfl)
    · have h := h.2 hc
      refine lv_aload_n F.1 F.2.1 dX3_offerOnes_45 rfl (lv_at hl 2 rfl) ?_
      refine lv_iconst (v := (1 : Int32)) F.1 F.2.1 dX3_offerOnes_46 (by decide) ?_
      refine lv_aload_n F.1 F.2.1 dX3_offerOnes_47 rfl (lv_at hl 2 rfl) ?_
      refine va_get (D := D) (ci := 1) (v := .ref (ad 13)) (C := RX3) (T := TX3) (N := 14) F.1 F.2.1 F.2.2.2.2 vX3_offerOnes_X3 F.2.2.2.1 hz.1 hP 12 rfl rfl 1 (by decide) (F.2.2.2.2 _ uX3_offerOnes_9) (fun _ h9 => h9) rfl dX3_offerOnes_48 ?_
      refine lv_iload_n F.1 F.2.1 dX3_offerOnes_51 rfl (lv_at hl 5 rfl) ?_
      refine va_iald F.1 F.2.1 hz.1 hP 13 0 rfl rfl h.1 dX3_offerOnes_52 ?_
      have h := h.2
      refine lv_iconst (v := (-1 : Int32)) F.1 F.2.1 dX3_offerOnes_53 (by decide) ?_
      refine lv_iload F.1 F.2.1 dX3_offerOnes_54 (lv_at hl 1 rfl) ?_
      refine lv_iload F.1 F.2.1 dX3_offerOnes_56 (lv_at hl 0 rfl) ?_
      refine call_wv (wf := w5 ad cI cJ) (va_runV (As := [.int (1 : Int32), .int (S.2.2.1 x3.toNatClampNeg), .int (-1 : Int32), .int y_1, .int y_2]) (rest := []) F (mX3_keep (l := l) (D := D) (cI := cI) (cJ := cJ) (cZ := cZ) (ad := ad) _ h) (cwV 5 F.2.2.2.2 gX3_offerOnes_X3_keep rfl rfl rfl kV_X3_keep ⟨Nat.le_of_ble_eq_true rfl, Nat.le_of_ble_eq_true rfl⟩) ⟨wp_blind, va_recv hz.1 hP (ci := 1) (q0 := 12) rfl rfl, wp_pre hz hP (hD _) (.ref (ad 12) :: [.int (1 : Int32), .int (S.2.2.1 x3.toNatClampNeg), .int (-1 : Int32), .int y_1, .int y_2])⟩ rfl rfl hl.1 rfl (lv_room (Nat.le_of_ble_eq_true rfl)) dX3_offerOnes_58 ⟨Nat.le_of_ble_eq_true rfl, Nat.le_of_ble_eq_true rfl⟩) hS (hD _) hA (fun S_4 H locs h hP hS => ?_)
      refine lv_iinc (v := x3 + 1) (lv' := [(3, .int (x3 + 1)), (5, .int y_2), (4, .int y_1), (0, .ref (ad 12)), (1, .int p1), (2, .int p2)]) F.1 F.2.1 dX3_offerOnes_61 hl (k := 5) rfl rfl (by decide) rfl (fun ls hl => ?_)
      refine lv_goto (tgt := 2) F.1 F.2.1 dX3_offerOnes_64 (by decide) ?_
      exact ih2 (x3 + 1, S_4) h _ _ hP hS ls (lv_sub hl [3, 4, 5, 0] rfl)
set_option maxRecDepth 100000 in
theorem bX3_offerOnes {a1 : Int32} {a2 : Int32} {S : SX} {Q : SX → Prop} (F : CallFix p m c cX3_offerOnes 6 s args wsX3_offerOnes RX3) (hz : gz D cI cJ cZ s) (hD : ∀ u : SX, va_D A (w5 ad cI cJ u)) (hA : ∀ q : Nat, s.heap.size ≤ q → A q) (hret : ∀ (u : SX) (H : Heap) (locs : List Loc) (pc : Nat) (ls : Array Slot), Q u → va_P D vwCl (w5 ad cI cJ u) H → va_S A s.heap H locs → decode cX3_offerOnes pc = .ok (.return_, 1) → W p l e rX3_offerOnes s m args below meth c H locs 0 0 QQ (F0 m pc ls [])) (hP : va_P D vwCl (w5 ad cI cJ S) s.heap) (h : wX3_offerOnes S a1 a2 Q) : ∀ ls : Array Slot, lv_has ls 6 [(0, .ref (ad 12)), (1, .int a1), (2, .int a2)] → W p l e rX3_offerOnes s m args below meth c s.heap [] 0 0 QQ (F0 m 0 ls []) := by
  intro ls hl
  have hS : va_S A s.heap s.heap [] := va_S.rf
  refine lv_iconst (v := (0 : Int32)) F.1 F.2.1 dX3_offerOnes_0 (by decide) ?_
  refine lv_istore_n (lv' := [(3, .int (0 : Int32)), (0, .ref (ad 12)), (1, .int a1), (2, .int a2)]) F.1 F.2.1 dX3_offerOnes_1 rfl hl (by decide) rfl (fun ls hl => ?_)
  obtain ⟨nn, h⟩ := h
  refine kX3_offerOnes_2 F hz hD hA (fun ⟨x3, S⟩ h H locs hP hS ls hl => ?_) nn _ h _ _ hP hS ls (lv_sub hl [1, 2, 3, 0] rfl)
  exact hret _ _ _ _ _ h hP hS dX3_offerOnes_67
theorem mX3_offerOnes {l : Launch} {D : va_G} {cI cJ cZ : ClassId} {ad : Nat → Nat} {S : SX} {a1 : Int32} {a2 : Int32} {Q : SX → Prop} (sz : Nat) (h : wX3_offerOnes S a1 a2 Q) : Met l yX3_offerOnes wsX3_offerOnes rX3_offerOnes (va_Pc [.ref (ad 12), .int a1, .int a2] (wp D cI cJ cZ sz (w5 ad cI cJ S))) (wQv D (w5 ad cI cJ) S sz Q) 0 0 (va_A (w5 ad cI cJ S) sz) :=
  enter_wv (wf := w5 ad cI cJ) (fun _ => rfl) (by decide +kernel) rfl (Nat.le_of_ble_eq_true rfl) (fun p e s m args below meth c QQ A F hz hD hA hP hret => bX3_offerOnes F hz hD hA hret hP h)
abbrev rX3_areApart : Room := { frames := 0, cells := 0, slots := 0, locals := 0 }
theorem kV_X3_areApart : yX3_areApart.cls = RX3 ∧ yX3_areApart.cls ≠ "java/lang/invoke/MethodHandle" ∧ yX3_areApart.cls ≠ "java/lang/invoke/VarHandle" ∧ (parseMethodDescriptor yX3_areApart.desc).map (fun d => d.parameters.length) = some 2 := by decide +kernel
theorem vX3_areApart_X3 : ∀ w ∈ wsX30, w ∈ wsX3_areApart := fun _ h => List.mem_cons_of_mem _ (List.mem_append_right _ h)
theorem uX3_areApart_1 : Cond.fieldLink RX3 25 "SumMoved$Stories" "lowBits" "[J" ∈ wsX3_areApart := List.mem_of_getElem? (i := 1) rfl
theorem uX3_areApart_2 : Cond.fieldLink RX3 29 "SumMoved$Stories" "highBits" "[J" ∈ wsX3_areApart := List.mem_of_getElem? (i := 2) rfl
set_option maxRecDepth 100000 in
theorem bX3_areApart {a1 : Int32} {a2 : Int32} {S : SX} {Q : Int32 → Prop} (F : CallFix p m c cX3_areApart 3 s args wsX3_areApart RX3) (hz : gz D cI cJ cZ s) (hP : va_P D vwCl (w5 ad cI cJ S) s.heap) (hret : ∀ (v : Int32) (pc : Nat) (ls : Array Slot), narrow .boolean (.int v) = .int v → Q v → decode cX3_areApart pc = .ok (.ireturn, 1) → W p l e rX3_areApart s m args below meth c s.heap [] 0 0 QQ (F0 m pc ls [.int v])) (h : wX3_areApart S a1 a2 Q) : ∀ ls : Array Slot, lv_has ls 3 [(0, .ref (ad 12)), (1, .int a1), (2, .int a2)] → W p l e rX3_areApart s m args below meth c s.heap [] 0 0 QQ (F0 m 0 ls []) := by
  intro ls hl
  refine lv_aload_n F.1 F.2.1 dX3_areApart_0 rfl (lv_at hl 0 rfl) ?_
  refine va_get (D := D) (ci := 1) (v := .ref (ad 16)) (C := RX3) (T := TX3) (N := 14) F.1 F.2.1 F.2.2.2.2 vX3_areApart_X3 F.2.2.2.1 hz.1 hP 12 rfl rfl 4 (by decide) (F.2.2.2.2 _ uX3_areApart_1) (fun _ h9 => h9) rfl dX3_areApart_1 ?_
  refine lv_iload_n F.1 F.2.1 dX3_areApart_4 rfl (lv_at hl 1 rfl) ?_
  refine va_lald F.1 F.2.1 hz.1 hP 16 1 rfl rfl h.1 dX3_areApart_5 ?_
  have h := h.2
  refine lv_aload_n F.1 F.2.1 dX3_areApart_6 rfl (lv_at hl 0 rfl) ?_
  refine va_get (D := D) (ci := 1) (v := .ref (ad 16)) (C := RX3) (T := TX3) (N := 14) F.1 F.2.1 F.2.2.2.2 vX3_areApart_X3 F.2.2.2.1 hz.1 hP 12 rfl rfl 4 (by decide) (F.2.2.2.2 _ uX3_areApart_1) (fun _ h9 => h9) rfl dX3_areApart_7 ?_
  refine lv_iload_n F.1 F.2.1 dX3_areApart_10 rfl (lv_at hl 2 rfl) ?_
  refine va_lald F.1 F.2.1 hz.1 hP 16 1 rfl rfl h.1 dX3_areApart_11 ?_
  have h := h.2
  refine lv_land F.1 F.2.1 dX3_areApart_12 ?_
  refine lv_lconst (v := (0 : Int64)) F.1 F.2.1 dX3_areApart_13 (by decide) ?_
  refine W.lcmp F.1 F.2.1 dX3_areApart_14 ?_
  refine lv_if_ne (tgt := 40) F.1 F.2.1 dX3_areApart_15 (by decide) (fun hc => ?_) (fun hc => ?_)
  · have h := h.2 (fun z => hc ((lg_cmp_eq _ _).mpr z))
    refine lv_iconst (v := (0 : Int32)) F.1 F.2.1 dX3_areApart_40 (by decide) ?_
    exact hret _ _ _ nr_0 h dX3_areApart_41
  · have h := h.1 ((lg_cmp_eq _ _).mp hc)
    refine lv_aload_n F.1 F.2.1 dX3_areApart_18 rfl (lv_at hl 0 rfl) ?_
    refine va_get (D := D) (ci := 1) (v := .ref (ad 17)) (C := RX3) (T := TX3) (N := 14) F.1 F.2.1 F.2.2.2.2 vX3_areApart_X3 F.2.2.2.1 hz.1 hP 12 rfl rfl 5 (by decide) (F.2.2.2.2 _ uX3_areApart_2) (fun _ h9 => h9) rfl dX3_areApart_19 ?_
    refine lv_iload_n F.1 F.2.1 dX3_areApart_22 rfl (lv_at hl 1 rfl) ?_
    refine va_lald F.1 F.2.1 hz.1 hP 17 1 rfl rfl h.1 dX3_areApart_23 ?_
    have h := h.2
    refine lv_aload_n F.1 F.2.1 dX3_areApart_24 rfl (lv_at hl 0 rfl) ?_
    refine va_get (D := D) (ci := 1) (v := .ref (ad 17)) (C := RX3) (T := TX3) (N := 14) F.1 F.2.1 F.2.2.2.2 vX3_areApart_X3 F.2.2.2.1 hz.1 hP 12 rfl rfl 5 (by decide) (F.2.2.2.2 _ uX3_areApart_2) (fun _ h9 => h9) rfl dX3_areApart_25 ?_
    refine lv_iload_n F.1 F.2.1 dX3_areApart_28 rfl (lv_at hl 2 rfl) ?_
    refine va_lald F.1 F.2.1 hz.1 hP 17 1 rfl rfl h.1 dX3_areApart_29 ?_
    have h := h.2
    refine lv_land F.1 F.2.1 dX3_areApart_30 ?_
    refine lv_lconst (v := (0 : Int64)) F.1 F.2.1 dX3_areApart_31 (by decide) ?_
    refine W.lcmp F.1 F.2.1 dX3_areApart_32 ?_
    refine lv_if_ne (tgt := 40) F.1 F.2.1 dX3_areApart_33 (by decide) (fun hc => ?_) (fun hc => ?_)
    · have h := h.2 (fun z => hc ((lg_cmp_eq _ _).mpr z))
      refine lv_iconst (v := (0 : Int32)) F.1 F.2.1 dX3_areApart_40 (by decide) ?_
      exact hret _ _ _ nr_0 h dX3_areApart_41
    · have h := h.1 ((lg_cmp_eq _ _).mp hc)
      refine lv_iconst (v := (1 : Int32)) F.1 F.2.1 dX3_areApart_36 (by decide) ?_
      refine lv_goto (tgt := 41) F.1 F.2.1 dX3_areApart_37 (by decide) ?_
      exact hret _ _ _ nr_1 h dX3_areApart_41
theorem mX3_areApart {l : Launch} {D : va_G} {cI cJ cZ : ClassId} {ad : Nat → Nat} {S : SX} {a1 : Int32} {a2 : Int32} {Q : Int32 → Prop} (h : wX3_areApart S a1 a2 Q) : Met l yX3_areApart wsX3_areApart rX3_areApart (va_Pc [.ref (ad 12), .int a1, .int a2] (rp D cI cJ cZ (w5 ad cI cJ S))) (vp_Si (qb Q)) 0 0 (fun _ => False) :=
  enter_z (by decide +kernel) rfl (Nat.le_of_ble_eq_true rfl) (fun p e s m args below meth c QQ F hz hret => bX3_areApart F hz.1 hz.2 hret h)
abbrev rX3_offerTwos : Room := { frames := 1, cells := 0, slots := 0, locals := 25 }
theorem kV_X3_offerTwos : yX3_offerTwos.cls = RX3 ∧ yX3_offerTwos.cls ≠ "java/lang/invoke/MethodHandle" ∧ yX3_offerTwos.cls ≠ "java/lang/invoke/VarHandle" ∧ (parseMethodDescriptor yX3_offerTwos.desc).map (fun d => d.parameters.length) = some 2 := by decide +kernel
theorem vX3_offerTwos_X3 : ∀ w ∈ wsX30, w ∈ wsX3_offerTwos := fun _ h => List.mem_cons_of_mem _ (List.mem_append_right _ h)
theorem uX3_offerTwos_1 : Cond.fieldLink RX3 32 "SumMoved$Stories" "size" "I" ∈ wsX3_offerTwos := List.mem_of_getElem? (i := 1) rfl
theorem uX3_offerTwos_2 : Cond.fieldLink RX3 19 "SumMoved$Stories" "changes" "[I" ∈ wsX3_offerTwos := List.mem_of_getElem? (i := 2) rfl
theorem uX3_offerTwos_3 : Cond.methodLink RX3 70 Lib.Math.abs.name ∈ wsX3_offerTwos := List.mem_of_getElem? (i := 3) rfl
theorem uX3_offerTwos_4 : Cond.static Lib.Math.abs.name ∈ wsX3_offerTwos := List.mem_of_getElem? (i := 4) rfl
theorem uX3_offerTwos_5 : Cond.initialized "java/lang/Math" ∈ wsX3_offerTwos := List.mem_of_getElem? (i := 5) rfl
theorem uX3_offerTwos_6 : Cond.code Lib.Math.abs.name Lib.Math.abs.code 1 (some .int) ∈ wsX3_offerTwos := List.mem_of_getElem? (i := 6) rfl
theorem uX3_offerTwos_7 : Cond.fieldLink RX3 22 "SumMoved$Stories" "tests" "[I" ∈ wsX3_offerTwos := List.mem_of_getElem? (i := 7) rfl
theorem uX3_offerTwos_8 : Cond.fieldLink RX3 89 "SumMoved$Stories" "bestToll" "I" ∈ wsX3_offerTwos := List.mem_of_getElem? (i := 8) rfl
theorem uX3_offerTwos_9 : Cond.fieldLink RX3 15 "SumMoved$Stories" "heaps" "[I" ∈ wsX3_offerTwos := List.mem_of_getElem? (i := 9) rfl
set_option maxRecDepth 100000 in
theorem kX3_offerTwos_15 {p1 : Int32} {p2 : Int32} {p3 : Int32} (F : CallFix p m c cX3_offerTwos 7 s args wsX3_offerTwos RX3) (hz : gz D cI cJ cZ s) (hD : ∀ u : SX, va_D A (w5 ad cI cJ u)) (hA : ∀ q : Nat, s.heap.size ≤ q → A q) {K : Int32 × SX → Prop} (hK : ∀ x : Int32 × SX, K x → match x with | (x4, S) => ∀ (H : Heap) (locs : List Loc), va_P D vwCl (w5 ad cI cJ S) H → va_S A s.heap H locs → ∀ ls : Array Slot, lv_has ls 7 [(0, .ref (ad 12)), (1, .int p1), (2, .int p2), (3, .int p3), (4, .int x4)] → W p l e rX3_offerTwos s m args below meth c H locs 0 0 QQ (F0 m 113 ls [])) : ∀ (nn : Nat) (x : Int32 × SX), iter (sX3_offerTwos_15 p1 p2 p3 K) nn x → match x with | (x4, S) => ∀ (H : Heap) (locs : List Loc), va_P D vwCl (w5 ad cI cJ S) H → va_S A s.heap H locs → ∀ ls : Array Slot, lv_has ls 7 [(0, .ref (ad 12)), (1, .int p1), (2, .int p2), (3, .int p3), (4, .int x4)] → W p l e rX3_offerTwos s m args below meth c H locs 0 0 QQ (F0 m 15 ls []) := by
  refine iter_walk ?_
  rintro again15 ⟨x4, S⟩ ih15 h H locs hP hS ls hl
  have hK15 := hK
  refine lv_iload F.1 F.2.1 dX3_offerTwos_15 (lv_at hl 4 rfl) ?_
  refine lv_aload_n F.1 F.2.1 dX3_offerTwos_17 rfl (lv_at hl 0 rfl) ?_
  refine va_get (D := D) (ci := 1) (v := .int S.2.2.2.2.2.2.2.1) (C := RX3) (T := TX3) (N := 14) F.1 F.2.1 F.2.2.2.2 vX3_offerTwos_X3 F.2.2.2.1 hz.1 hP 12 rfl rfl 6 (by decide) (F.2.2.2.2 _ uX3_offerTwos_1) (fun _ h9 => h9) rfl dX3_offerTwos_18 ?_
  refine lv_icmp_ge (tgt := 113) F.1 F.2.1 dX3_offerTwos_21 (by decide) (fun hc => ?_) (fun hc => ?_)
  · have h := h.1 (hc)
    exact hK15 (x4, S) h _ _ hP hS ls (lv_sub hl [0, 1, 2, 3, 4] rfl)
  · have h := h.2 hc
    refine lv_iload_n F.1 F.2.1 dX3_offerTwos_24 rfl (lv_at hl 2 rfl) ?_
    refine lv_aload_n F.1 F.2.1 dX3_offerTwos_25 rfl (lv_at hl 0 rfl) ?_
    refine va_get (D := D) (ci := 1) (v := .ref (ad 14)) (C := RX3) (T := TX3) (N := 14) F.1 F.2.1 F.2.2.2.2 vX3_offerTwos_X3 F.2.2.2.1 hz.1 hP 12 rfl rfl 2 (by decide) (F.2.2.2.2 _ uX3_offerTwos_2) (fun _ h9 => h9) rfl dX3_offerTwos_26 ?_
    refine lv_iload_n F.1 F.2.1 dX3_offerTwos_29 rfl (lv_at hl 3 rfl) ?_
    refine va_iald F.1 F.2.1 hz.1 hP 14 0 rfl rfl h.1 dX3_offerTwos_30 ?_
    have h := h.2
    refine lv_isub F.1 F.2.1 dX3_offerTwos_31 ?_
    refine lv_aload_n F.1 F.2.1 dX3_offerTwos_32 rfl (lv_at hl 0 rfl) ?_
    refine va_get (D := D) (ci := 1) (v := .ref (ad 14)) (C := RX3) (T := TX3) (N := 14) F.1 F.2.1 F.2.2.2.2 vX3_offerTwos_X3 F.2.2.2.1 hz.1 hP 12 rfl rfl 2 (by decide) (F.2.2.2.2 _ uX3_offerTwos_2) (fun _ h9 => h9) rfl dX3_offerTwos_33 ?_
    refine lv_iload F.1 F.2.1 dX3_offerTwos_36 (lv_at hl 4 rfl) ?_
    refine va_iald F.1 F.2.1 hz.1 hP 14 0 rfl rfl h.1 dX3_offerTwos_38 ?_
    have h := h.2
    refine lv_isub F.1 F.2.1 dX3_offerTwos_39 ?_
    refine lv_topi (fun y_1 ey_1 => ?_)
    have h := h y_1 ey_1
    refine lv_istore (lv' := [(5, .int y_1), (0, .ref (ad 12)), (1, .int p1), (2, .int p2), (3, .int p3), (4, .int x4)]) F.1 F.2.1 dX3_offerTwos_40 hl (by decide) rfl (fun ls hl => ?_)
    refine lv_iload F.1 F.2.1 dX3_offerTwos_42 (lv_at hl 0 rfl) ?_
    refine va_mabs F.1 F.2.1 (F.2.2.1.trans hl.1.symm) F.2.2.2.1 (F.2.2.2.2 _ uX3_offerTwos_3) (F.2.2.2.2 _ uX3_offerTwos_4) (F.2.2.2.2 _ uX3_offerTwos_5) (F.2.2.2.2 _ uX3_offerTwos_6) (Nat.le_of_ble_eq_true rfl) (Nat.le_of_ble_eq_true rfl) (Nat.le_of_ble_eq_true rfl) (Nat.le_of_ble_eq_true rfl) dX3_offerTwos_44 ?_
    refine lv_iload_n F.1 F.2.1 dX3_offerTwos_47 rfl (lv_at hl 2 rfl) ?_
    refine lv_aload_n F.1 F.2.1 dX3_offerTwos_48 rfl (lv_at hl 1 rfl) ?_
    refine va_get (D := D) (ci := 1) (v := .ref (ad 15)) (C := RX3) (T := TX3) (N := 14) F.1 F.2.1 F.2.2.2.2 vX3_offerTwos_X3 F.2.2.2.1 hz.1 hP 12 rfl rfl 3 (by decide) (F.2.2.2.2 _ uX3_offerTwos_7) (fun _ h9 => h9) rfl dX3_offerTwos_49 ?_
    refine lv_iload_n F.1 F.2.1 dX3_offerTwos_52 rfl (lv_at hl 4 rfl) ?_
    refine va_iald F.1 F.2.1 hz.1 hP 15 0 rfl rfl h.1 dX3_offerTwos_53 ?_
    have h := h.2
    refine lv_aload_n F.1 F.2.1 dX3_offerTwos_54 rfl (lv_at hl 1 rfl) ?_
    refine va_get (D := D) (ci := 1) (v := .ref (ad 15)) (C := RX3) (T := TX3) (N := 14) F.1 F.2.1 F.2.2.2.2 vX3_offerTwos_X3 F.2.2.2.1 hz.1 hP 12 rfl rfl 3 (by decide) (F.2.2.2.2 _ uX3_offerTwos_7) (fun _ h9 => h9) rfl dX3_offerTwos_55 ?_
    refine lv_iload F.1 F.2.1 dX3_offerTwos_58 (lv_at hl 5 rfl) ?_
    refine va_iald F.1 F.2.1 hz.1 hP 15 0 rfl rfl h.1 dX3_offerTwos_60 ?_
    have h := h.2
    refine lv_iadd F.1 F.2.1 dX3_offerTwos_61 ?_
    refine lv_imul F.1 F.2.1 dX3_offerTwos_62 ?_
    refine lv_iadd F.1 F.2.1 dX3_offerTwos_63 ?_
    refine lv_topi (fun y_2 ey_2 => ?_)
    have h := h y_2 ey_2
    refine lv_istore (lv' := [(6, .int y_2), (5, .int y_1), (0, .ref (ad 12)), (1, .int p1), (2, .int p2), (3, .int p3), (4, .int x4)]) F.1 F.2.1 dX3_offerTwos_64 hl (by decide) rfl (fun ls hl => ?_)
    refine lv_iload F.1 F.2.1 dX3_offerTwos_66 (lv_at hl 0 rfl) ?_
    refine lv_aload_n F.1 F.2.1 dX3_offerTwos_68 rfl (lv_at hl 2 rfl) ?_
    refine va_get (D := D) (ci := 1) (v := .int S.2.2.2.2.2.2.2.2.2.2.2.2.2.2) (C := RX3) (T := TX3) (N := 14) F.1 F.2.1 F.2.2.2.2 vX3_offerTwos_X3 F.2.2.2.1 hz.1 hP 12 rfl rfl 13 (by decide) (F.2.2.2.2 _ uX3_offerTwos_8) (fun _ h9 => h9) rfl dX3_offerTwos_69 ?_
    refine lv_icmp_ge (tgt := 107) F.1 F.2.1 dX3_offerTwos_72 (by decide) (fun hc => ?_) (fun hc => ?_)
    · have h := h.1 (hc)
      refine lv_iinc (v := x4 + 1) (lv' := [(4, .int (x4 + 1)), (6, .int y_2), (5, .int y_1), (0, .ref (ad 12)), (1, .int p1), (2, .int p2), (3, .int p3)]) F.1 F.2.1 dX3_offerTwos_107 hl (k := 6) rfl rfl (by decide) rfl (fun ls hl => ?_)
      refine lv_goto (tgt := 15) F.1 F.2.1 dX3_offerTwos_110 (by decide) ?_
      exact ih15 (x4 + 1, S) h _ _ hP hS ls (lv_sub hl [3, 4, 5, 6, 0] rfl)
    · have h := h.2 hc
      refine lv_aload_n F.1 F.2.1 dX3_offerTwos_75 rfl (lv_at hl 2 rfl) ?_
      refine lv_iload_n F.1 F.2.1 dX3_offerTwos_76 rfl (lv_at hl 5 rfl) ?_
      refine lv_iload F.1 F.2.1 dX3_offerTwos_77 (lv_at hl 6 rfl) ?_
      refine vp_callSi (va_Run.run (va_runV (As := [.int p3, .int x4]) (rest := []) F (mX3_areApart (l := l) (D := D) (cI := cI) (cJ := cJ) (cZ := cZ) (ad := ad) h) (cwV 2 F.2.2.2.2 gX3_offerTwos_X3_areApart rfl rfl rfl kV_X3_areApart ⟨Nat.le_of_ble_eq_true rfl, Nat.le_of_ble_eq_true rfl⟩) ⟨rp_blind, va_recv hz.1 hP (ci := 1) (q0 := 12) rfl rfl, rp_pre hz hP (.ref (ad 12) :: [.int p3, .int x4])⟩ rfl rfl hl.1 rfl (lv_room (Nat.le_of_ble_eq_true rfl)) dX3_offerTwos_79 ⟨Nat.le_of_ble_eq_true rfl, Nat.le_of_ble_eq_true rfl⟩)) (fun r_3 h => ?_)
      obtain ⟨hbr_3, h⟩ := h
      refine lv_if_eq (tgt := 107) F.1 F.2.1 dX3_offerTwos_82 (by decide) (fun hc => ?_) (fun hc => ?_)
      · have h := h.1 (hc)
        refine lv_iinc (v := x4 + 1) (lv' := [(4, .int (x4 + 1)), (6, .int y_2), (5, .int y_1), (0, .ref (ad 12)), (1, .int p1), (2, .int p2), (3, .int p3)]) F.1 F.2.1 dX3_offerTwos_107 hl (k := 6) rfl rfl (by decide) rfl (fun ls hl => ?_)
        refine lv_goto (tgt := 15) F.1 F.2.1 dX3_offerTwos_110 (by decide) ?_
        exact ih15 (x4 + 1, S) h _ _ hP hS ls (lv_sub hl [3, 4, 5, 6, 0] rfl)
      · have h := h.2 hc
        refine lv_aload_n F.1 F.2.1 dX3_offerTwos_85 rfl (lv_at hl 2 rfl) ?_
        refine lv_iconst (v := (2 : Int32)) F.1 F.2.1 dX3_offerTwos_86 (by decide) ?_
        refine lv_aload_n F.1 F.2.1 dX3_offerTwos_87 rfl (lv_at hl 2 rfl) ?_
        refine va_get (D := D) (ci := 1) (v := .ref (ad 13)) (C := RX3) (T := TX3) (N := 14) F.1 F.2.1 F.2.2.2.2 vX3_offerTwos_X3 F.2.2.2.1 hz.1 hP 12 rfl rfl 1 (by decide) (F.2.2.2.2 _ uX3_offerTwos_9) (fun _ h9 => h9) rfl dX3_offerTwos_88 ?_
        refine lv_iload_n F.1 F.2.1 dX3_offerTwos_91 rfl (lv_at hl 5 rfl) ?_
        refine va_iald F.1 F.2.1 hz.1 hP 13 0 rfl rfl h.1 dX3_offerTwos_92 ?_
        have h := h.2
        refine lv_aload_n F.1 F.2.1 dX3_offerTwos_93 rfl (lv_at hl 2 rfl) ?_
        refine va_get (D := D) (ci := 1) (v := .ref (ad 13)) (C := RX3) (T := TX3) (N := 14) F.1 F.2.1 F.2.2.2.2 vX3_offerTwos_X3 F.2.2.2.1 hz.1 hP 12 rfl rfl 1 (by decide) (F.2.2.2.2 _ uX3_offerTwos_9) (fun _ h9 => h9) rfl dX3_offerTwos_94 ?_
        refine lv_iload F.1 F.2.1 dX3_offerTwos_97 (lv_at hl 6 rfl) ?_
        refine va_iald F.1 F.2.1 hz.1 hP 13 0 rfl rfl h.1 dX3_offerTwos_99 ?_
        have h := h.2
        refine lv_iload F.1 F.2.1 dX3_offerTwos_100 (lv_at hl 1 rfl) ?_
        refine lv_iload F.1 F.2.1 dX3_offerTwos_102 (lv_at hl 0 rfl) ?_
        refine call_wv (wf := w5 ad cI cJ) (va_runV (As := [.int (2 : Int32), .int (S.2.2.1 p3.toNatClampNeg), .int (S.2.2.1 x4.toNatClampNeg), .int y_1, .int y_2]) (rest := []) F (mX3_keep (l := l) (D := D) (cI := cI) (cJ := cJ) (cZ := cZ) (ad := ad) _ h) (cwV 5 F.2.2.2.2 gX3_offerTwos_X3_keep rfl rfl rfl kV_X3_keep ⟨Nat.le_of_ble_eq_true rfl, Nat.le_of_ble_eq_true rfl⟩) ⟨wp_blind, va_recv hz.1 hP (ci := 1) (q0 := 12) rfl rfl, wp_pre hz hP (hD _) (.ref (ad 12) :: [.int (2 : Int32), .int (S.2.2.1 p3.toNatClampNeg), .int (S.2.2.1 x4.toNatClampNeg), .int y_1, .int y_2])⟩ rfl rfl hl.1 rfl (lv_room (Nat.le_of_ble_eq_true rfl)) dX3_offerTwos_104 ⟨Nat.le_of_ble_eq_true rfl, Nat.le_of_ble_eq_true rfl⟩) hS (hD _) hA (fun S_5 H locs h hP hS => ?_)
        refine lv_iinc (v := x4 + 1) (lv' := [(4, .int (x4 + 1)), (6, .int y_2), (5, .int y_1), (0, .ref (ad 12)), (1, .int p1), (2, .int p2), (3, .int p3)]) F.1 F.2.1 dX3_offerTwos_107 hl (k := 6) rfl rfl (by decide) rfl (fun ls hl => ?_)
        refine lv_goto (tgt := 15) F.1 F.2.1 dX3_offerTwos_110 (by decide) ?_
        exact ih15 (x4 + 1, S_5) h _ _ hP hS ls (lv_sub hl [3, 4, 5, 6, 0] rfl)
set_option maxRecDepth 100000 in
theorem kX3_offerTwos_2 {p1 : Int32} {p2 : Int32} (F : CallFix p m c cX3_offerTwos 7 s args wsX3_offerTwos RX3) (hz : gz D cI cJ cZ s) (hD : ∀ u : SX, va_D A (w5 ad cI cJ u)) (hA : ∀ q : Nat, s.heap.size ≤ q → A q) {K : Int32 × SX → Prop} (hK : ∀ x : Int32 × SX, K x → match x with | (x3, S) => ∀ (H : Heap) (locs : List Loc), va_P D vwCl (w5 ad cI cJ S) H → va_S A s.heap H locs → ∀ ls : Array Slot, lv_has ls 7 [(0, .ref (ad 12)), (1, .int p1), (2, .int p2), (3, .int x3)] → W p l e rX3_offerTwos s m args below meth c H locs 0 0 QQ (F0 m 119 ls [])) : ∀ (nn : Nat) (x : Int32 × SX), iter (sX3_offerTwos_2 p1 p2 K) nn x → match x with | (x3, S) => ∀ (H : Heap) (locs : List Loc), va_P D vwCl (w5 ad cI cJ S) H → va_S A s.heap H locs → ∀ ls : Array Slot, lv_has ls 7 [(0, .ref (ad 12)), (1, .int p1), (2, .int p2), (3, .int x3)] → W p l e rX3_offerTwos s m args below meth c H locs 0 0 QQ (F0 m 2 ls []) := by
  refine iter_walk ?_
  rintro again2 ⟨x3, S⟩ ih2 h H locs hP hS ls hl
  have hK2 := hK
  refine lv_iload_n F.1 F.2.1 dX3_offerTwos_2 rfl (lv_at hl 3 rfl) ?_
  refine lv_aload_n F.1 F.2.1 dX3_offerTwos_3 rfl (lv_at hl 0 rfl) ?_
  refine va_get (D := D) (ci := 1) (v := .int S.2.2.2.2.2.2.2.1) (C := RX3) (T := TX3) (N := 14) F.1 F.2.1 F.2.2.2.2 vX3_offerTwos_X3 F.2.2.2.1 hz.1 hP 12 rfl rfl 6 (by decide) (F.2.2.2.2 _ uX3_offerTwos_1) (fun _ h9 => h9) rfl dX3_offerTwos_4 ?_
  refine lv_icmp_ge (tgt := 119) F.1 F.2.1 dX3_offerTwos_7 (by decide) (fun hc => ?_) (fun hc => ?_)
  · have h := h.1 (hc)
    exact hK2 (x3, S) h _ _ hP hS ls (lv_sub hl [0, 1, 2, 3] rfl)
  · have h := h.2 hc
    refine lv_iload_n F.1 F.2.1 dX3_offerTwos_10 rfl (lv_at hl 3 rfl) ?_
    refine lv_iconst (v := (1 : Int32)) F.1 F.2.1 dX3_offerTwos_11 (by decide) ?_
    refine lv_iadd F.1 F.2.1 dX3_offerTwos_12 ?_
    refine lv_istore (lv' := [(4, .int (x3 + (1 : Int32))), (0, .ref (ad 12)), (1, .int p1), (2, .int p2), (3, .int x3)]) F.1 F.2.1 dX3_offerTwos_13 hl (by decide) rfl (fun ls hl => ?_)
    obtain ⟨nn, h⟩ := h
    refine kX3_offerTwos_15 F hz hD hA (fun ⟨x4, S⟩ h H locs hP hS ls hl => ?_) nn _ h _ _ hP hS ls (lv_sub hl [1, 2, 3, 4, 0] rfl)
    refine lv_iinc (v := x3 + 1) (lv' := [(3, .int (x3 + 1)), (0, .ref (ad 12)), (1, .int p1), (2, .int p2), (4, .int x4)]) F.1 F.2.1 dX3_offerTwos_113 hl (k := 3) rfl rfl (by decide) rfl (fun ls hl => ?_)
    refine lv_goto (tgt := 2) F.1 F.2.1 dX3_offerTwos_116 (by decide) ?_
    exact ih2 (x3 + 1, S) h _ _ hP hS ls (lv_sub hl [1, 2, 3, 0] rfl)
set_option maxRecDepth 100000 in
theorem bX3_offerTwos {a1 : Int32} {a2 : Int32} {S : SX} {Q : SX → Prop} (F : CallFix p m c cX3_offerTwos 7 s args wsX3_offerTwos RX3) (hz : gz D cI cJ cZ s) (hD : ∀ u : SX, va_D A (w5 ad cI cJ u)) (hA : ∀ q : Nat, s.heap.size ≤ q → A q) (hret : ∀ (u : SX) (H : Heap) (locs : List Loc) (pc : Nat) (ls : Array Slot), Q u → va_P D vwCl (w5 ad cI cJ u) H → va_S A s.heap H locs → decode cX3_offerTwos pc = .ok (.return_, 1) → W p l e rX3_offerTwos s m args below meth c H locs 0 0 QQ (F0 m pc ls [])) (hP : va_P D vwCl (w5 ad cI cJ S) s.heap) (h : wX3_offerTwos S a1 a2 Q) : ∀ ls : Array Slot, lv_has ls 7 [(0, .ref (ad 12)), (1, .int a1), (2, .int a2)] → W p l e rX3_offerTwos s m args below meth c s.heap [] 0 0 QQ (F0 m 0 ls []) := by
  intro ls hl
  have hS : va_S A s.heap s.heap [] := va_S.rf
  refine lv_iconst (v := (0 : Int32)) F.1 F.2.1 dX3_offerTwos_0 (by decide) ?_
  refine lv_istore_n (lv' := [(3, .int (0 : Int32)), (0, .ref (ad 12)), (1, .int a1), (2, .int a2)]) F.1 F.2.1 dX3_offerTwos_1 rfl hl (by decide) rfl (fun ls hl => ?_)
  obtain ⟨nn, h⟩ := h
  refine kX3_offerTwos_2 F hz hD hA (fun ⟨x3, S⟩ h H locs hP hS ls hl => ?_) nn _ h _ _ hP hS ls (lv_sub hl [1, 2, 3, 0] rfl)
  exact hret _ _ _ _ _ h hP hS dX3_offerTwos_119
theorem mX3_offerTwos {l : Launch} {D : va_G} {cI cJ cZ : ClassId} {ad : Nat → Nat} {S : SX} {a1 : Int32} {a2 : Int32} {Q : SX → Prop} (sz : Nat) (h : wX3_offerTwos S a1 a2 Q) : Met l yX3_offerTwos wsX3_offerTwos rX3_offerTwos (va_Pc [.ref (ad 12), .int a1, .int a2] (wp D cI cJ cZ sz (w5 ad cI cJ S))) (wQv D (w5 ad cI cJ) S sz Q) 0 0 (va_A (w5 ad cI cJ S) sz) :=
  enter_wv (wf := w5 ad cI cJ) (fun _ => rfl) (by decide +kernel) rfl (Nat.le_of_ble_eq_true rfl) (fun p e s m args below meth c QQ A F hz hD hA hP hret => bX3_offerTwos F hz hD hA hret hP h)
abbrev rX3_findBest : Room := { frames := 5, cells := 0, slots := 0, locals := 119 }
theorem kV_X3_findBest : yX3_findBest.cls = RX3 ∧ yX3_findBest.cls ≠ "java/lang/invoke/MethodHandle" ∧ yX3_findBest.cls ≠ "java/lang/invoke/VarHandle" ∧ (parseMethodDescriptor yX3_findBest.desc).map (fun d => d.parameters.length) = some 2 := by decide +kernel
theorem uX3_findBest_1 : Cond.methodLink RX3 70 Lib.Math.abs.name ∈ wsX3_findBest := List.mem_of_getElem? (i := 1) rfl
theorem uX3_findBest_2 : Cond.static Lib.Math.abs.name ∈ wsX3_findBest := List.mem_of_getElem? (i := 2) rfl
theorem uX3_findBest_3 : Cond.initialized "java/lang/Math" ∈ wsX3_findBest := List.mem_of_getElem? (i := 3) rfl
theorem uX3_findBest_4 : Cond.code Lib.Math.abs.name Lib.Math.abs.code 1 (some .int) ∈ wsX3_findBest := List.mem_of_getElem? (i := 4) rfl
theorem vX3_findBest_X3 : ∀ w ∈ wsX30, w ∈ wsX3_findBest := fun _ h => List.mem_cons_of_mem _ (List.mem_append_left _ (List.mem_append_right _ h))
theorem uX3_findBest_5 : Cond.fieldLink RX3 39 "SumMoved$Stories" "found" "Z" ∈ wsX3_findBest := List.mem_of_getElem? (i := 5) rfl
theorem uX3_findBest_6 : Cond.fieldLink RX3 89 "SumMoved$Stories" "bestToll" "I" ∈ wsX3_findBest := List.mem_of_getElem? (i := 6) rfl
set_option maxRecDepth 100000 in
theorem bX3_findBest {a1 : Int32} {a2 : Int32} {S : SX} {Q : Int32 → SX → Prop} (F : CallFix p m c cX3_findBest 4 s args wsX3_findBest RX3) (hz : gz D cI cJ cZ s) (hD : ∀ u : SX, va_D A (w5 ad cI cJ u)) (hA : ∀ q : Nat, s.heap.size ≤ q → A q) (hret : ∀ (v : Int32) (u : SX) (H : Heap) (locs : List Loc) (pc : Nat) (ls : Array Slot), Q v u → va_P D vwCl (w5 ad cI cJ u) H → va_S A s.heap H locs → decode cX3_findBest pc = .ok (.ireturn, 1) → W p l e rX3_findBest s m args below meth c H locs 0 0 QQ (F0 m pc ls [.int v])) (hP : va_P D vwCl (w5 ad cI cJ S) s.heap) (h : wX3_findBest S a1 a2 Q) : ∀ ls : Array Slot, lv_has ls 4 [(0, .ref (ad 12)), (1, .int a1), (2, .int a2)] → W p l e rX3_findBest s m args below meth c s.heap [] 0 0 QQ (F0 m 0 ls []) := by
  intro ls hl
  have hS : va_S A s.heap s.heap [] := va_S.rf
  refine lv_aload_n F.1 F.2.1 dX3_findBest_0 rfl (lv_at hl 0 rfl) ?_
  refine vp_callSi (va_Run.run (va_runV (As := []) (rest := []) F (mX3_left (l := l) (D := D) (cI := cI) (cJ := cJ) (cZ := cZ) (ad := ad) h) (cwV 0 F.2.2.2.2 gX3_findBest_X3_left rfl rfl rfl kV_X3_left ⟨Nat.le_of_ble_eq_true rfl, Nat.le_of_ble_eq_true rfl⟩) ⟨rp_blind, va_recv hz.1 hP (ci := 1) (q0 := 12) rfl rfl, rp_pre hz hP (.ref (ad 12) :: [])⟩ rfl rfl hl.1 rfl (lv_room (Nat.le_of_ble_eq_true rfl)) dX3_findBest_1 ⟨Nat.le_of_ble_eq_true rfl, Nat.le_of_ble_eq_true rfl⟩)) (fun r_1 h => ?_)
  refine lv_istore_n (lv' := [(3, .int r_1), (0, .ref (ad 12)), (1, .int a1), (2, .int a2)]) F.1 F.2.1 dX3_findBest_4 rfl hl (by decide) rfl (fun ls hl => ?_)
  refine lv_aload_n F.1 F.2.1 dX3_findBest_5 rfl (lv_at hl 1 rfl) ?_
  refine call_wi (wf := w5 ad cI cJ) (va_runV (As := []) (rest := []) F (mX3_gather (l := l) (D := D) (cI := cI) (cJ := cJ) (cZ := cZ) (ad := ad) _ h) (cwV 0 F.2.2.2.2 gX3_findBest_X3_gather rfl rfl rfl kV_X3_gather ⟨Nat.le_of_ble_eq_true rfl, Nat.le_of_ble_eq_true rfl⟩) ⟨wp_blind, va_recv hz.1 hP (ci := 1) (q0 := 12) rfl rfl, wp_pre hz hP (hD _) (.ref (ad 12) :: [])⟩ rfl rfl hl.1 rfl (lv_room (Nat.le_of_ble_eq_true rfl)) dX3_findBest_6 ⟨Nat.le_of_ble_eq_true rfl, Nat.le_of_ble_eq_true rfl⟩) hS (hD _) hA (fun r_2 S_3 H locs h hP hS => ?_)
  refine lv_pop F.1 F.2.1 dX3_findBest_9 rfl ?_
  refine lv_aload_n F.1 F.2.1 dX3_findBest_10 rfl (lv_at hl 1 rfl) ?_
  refine lv_iconst (v := (0 : Int32)) F.1 F.2.1 dX3_findBest_11 (by decide) ?_
  refine lv_iconst (v := (-1 : Int32)) F.1 F.2.1 dX3_findBest_12 (by decide) ?_
  refine lv_iconst (v := (-1 : Int32)) F.1 F.2.1 dX3_findBest_13 (by decide) ?_
  refine lv_iload_n F.1 F.2.1 dX3_findBest_14 rfl (lv_at hl 0 rfl) ?_
  refine lv_iload_n F.1 F.2.1 dX3_findBest_15 rfl (lv_at hl 0 rfl) ?_
  refine va_mabs F.1 F.2.1 (F.2.2.1.trans hl.1.symm) F.2.2.2.1 (F.2.2.2.2 _ uX3_findBest_1) (F.2.2.2.2 _ uX3_findBest_2) (F.2.2.2.2 _ uX3_findBest_3) (F.2.2.2.2 _ uX3_findBest_4) (Nat.le_of_ble_eq_true rfl) (Nat.le_of_ble_eq_true rfl) (Nat.le_of_ble_eq_true rfl) (Nat.le_of_ble_eq_true rfl) dX3_findBest_16 ?_
  refine call_wv (wf := w5 ad cI cJ) (va_runV (As := [.int (0 : Int32), .int (-1 : Int32), .int (-1 : Int32), .int r_1, .int (if 0 ≤ r_1 then r_1 else 0 - r_1)]) (rest := []) F (mX3_keep (l := l) (D := D) (cI := cI) (cJ := cJ) (cZ := cZ) (ad := ad) _ h) (cwV 5 F.2.2.2.2 gX3_findBest_X3_keep rfl rfl rfl kV_X3_keep ⟨Nat.le_of_ble_eq_true rfl, Nat.le_of_ble_eq_true rfl⟩) ⟨wp_blind, va_recv hz.1 hP (ci := 1) (q0 := 12) rfl rfl, wp_pre hz hP (hD _) (.ref (ad 12) :: [.int (0 : Int32), .int (-1 : Int32), .int (-1 : Int32), .int r_1, .int (if 0 ≤ r_1 then r_1 else 0 - r_1)])⟩ rfl rfl hl.1 rfl (lv_room (Nat.le_of_ble_eq_true rfl)) dX3_findBest_19 ⟨Nat.le_of_ble_eq_true rfl, Nat.le_of_ble_eq_true rfl⟩) hS (hD _) hA (fun S_5 H locs h hP hS => ?_)
  refine lv_iload_n F.1 F.2.1 dX3_findBest_22 rfl (lv_at hl 3 rfl) ?_
  refine lv_iconst (v := (1 : Int32)) F.1 F.2.1 dX3_findBest_23 (by decide) ?_
  refine lv_icmp_lt (tgt := 33) F.1 F.2.1 dX3_findBest_24 (by decide) (fun hc => ?_) (fun hc => ?_)
  · have h := h.1 (hc)
    refine lv_iload_n F.1 F.2.1 dX3_findBest_33 rfl (lv_at hl 3 rfl) ?_
    refine lv_iconst (v := (2 : Int32)) F.1 F.2.1 dX3_findBest_34 (by decide) ?_
    refine lv_icmp_lt (tgt := 44) F.1 F.2.1 dX3_findBest_35 (by decide) (fun hc => ?_) (fun hc => ?_)
    · have h := h.1 (hc)
      refine lv_aload_n F.1 F.2.1 dX3_findBest_44 rfl (lv_at hl 1 rfl) ?_
      refine lv_iconst (v := (1 : Int32)) F.1 F.2.1 dX3_findBest_45 (by decide) ?_
      refine va_put (D := D) (ci := 1) (v := .int (1 : Int32)) (ty := .boolean) (C := RX3) (T := TX3) (N := 14) F.1 F.2.1 F.2.2.2.2 vX3_findBest_X3 tyX3 tyX3_ok nmX3 F.2.2.2.1 hz.1 hP (hD _) hS 12 rfl rfl 8 (by decide) (F.2.2.2.2 _ uX3_findBest_5) (fun _ h9 => h9) rfl (by decide +kernel) (by decide) (by decide) (Nat.le_of_ble_eq_true rfl) dX3_findBest_46 (fun H locs hP _ hS => ?_)
      have hP : va_P D vwCl (w5 ad cI cJ (S_5.1, S_5.2.1, (S_5.2.2.1, S_5.2.2.2.1, S_5.2.2.2.2.1, S_5.2.2.2.2.2.1, S_5.2.2.2.2.2.2.1, S_5.2.2.2.2.2.2.2.1, S_5.2.2.2.2.2.2.2.2.1, (1 : Int32), S_5.2.2.2.2.2.2.2.2.2.2.1, S_5.2.2.2.2.2.2.2.2.2.2.2.1, S_5.2.2.2.2.2.2.2.2.2.2.2.2.1, S_5.2.2.2.2.2.2.2.2.2.2.2.2.2.1, S_5.2.2.2.2.2.2.2.2.2.2.2.2.2.2))) H := hP
      refine lv_aload_n F.1 F.2.1 dX3_findBest_49 rfl (lv_at hl 1 rfl) ?_
      refine va_get (D := D) (ci := 1) (v := .int S_5.2.2.2.2.2.2.2.2.2.2.2.2.2.2) (C := RX3) (T := TX3) (N := 14) F.1 F.2.1 F.2.2.2.2 vX3_findBest_X3 F.2.2.2.1 hz.1 hP 12 rfl rfl 13 (by decide) (F.2.2.2.2 _ uX3_findBest_6) (fun _ h9 => h9) rfl dX3_findBest_50 ?_
      exact hret _ _ _ _ _ _ h hP hS dX3_findBest_53
    · have h := h.2 hc
      refine lv_aload_n F.1 F.2.1 dX3_findBest_38 rfl (lv_at hl 1 rfl) ?_
      refine lv_iload_n F.1 F.2.1 dX3_findBest_39 rfl (lv_at hl 2 rfl) ?_
      refine lv_iload_n F.1 F.2.1 dX3_findBest_40 rfl (lv_at hl 0 rfl) ?_
      refine call_wv (wf := w5 ad cI cJ) (va_runV (As := [.int a1, .int r_1]) (rest := []) F (mX3_offerTwos (l := l) (D := D) (cI := cI) (cJ := cJ) (cZ := cZ) (ad := ad) _ h) (cwV 2 F.2.2.2.2 gX3_findBest_X3_offerTwos rfl rfl rfl kV_X3_offerTwos ⟨Nat.le_of_ble_eq_true rfl, Nat.le_of_ble_eq_true rfl⟩) ⟨wp_blind, va_recv hz.1 hP (ci := 1) (q0 := 12) rfl rfl, wp_pre hz hP (hD _) (.ref (ad 12) :: [.int a1, .int r_1])⟩ rfl rfl hl.1 rfl (lv_room (Nat.le_of_ble_eq_true rfl)) dX3_findBest_41 ⟨Nat.le_of_ble_eq_true rfl, Nat.le_of_ble_eq_true rfl⟩) hS (hD _) hA (fun S_7 H locs h hP hS => ?_)
      refine lv_aload_n F.1 F.2.1 dX3_findBest_44 rfl (lv_at hl 1 rfl) ?_
      refine lv_iconst (v := (1 : Int32)) F.1 F.2.1 dX3_findBest_45 (by decide) ?_
      refine va_put (D := D) (ci := 1) (v := .int (1 : Int32)) (ty := .boolean) (C := RX3) (T := TX3) (N := 14) F.1 F.2.1 F.2.2.2.2 vX3_findBest_X3 tyX3 tyX3_ok nmX3 F.2.2.2.1 hz.1 hP (hD _) hS 12 rfl rfl 8 (by decide) (F.2.2.2.2 _ uX3_findBest_5) (fun _ h9 => h9) rfl (by decide +kernel) (by decide) (by decide) (Nat.le_of_ble_eq_true rfl) dX3_findBest_46 (fun H locs hP _ hS => ?_)
      have hP : va_P D vwCl (w5 ad cI cJ (S_7.1, S_7.2.1, (S_7.2.2.1, S_7.2.2.2.1, S_7.2.2.2.2.1, S_7.2.2.2.2.2.1, S_7.2.2.2.2.2.2.1, S_7.2.2.2.2.2.2.2.1, S_7.2.2.2.2.2.2.2.2.1, (1 : Int32), S_7.2.2.2.2.2.2.2.2.2.2.1, S_7.2.2.2.2.2.2.2.2.2.2.2.1, S_7.2.2.2.2.2.2.2.2.2.2.2.2.1, S_7.2.2.2.2.2.2.2.2.2.2.2.2.2.1, S_7.2.2.2.2.2.2.2.2.2.2.2.2.2.2))) H := hP
      refine lv_aload_n F.1 F.2.1 dX3_findBest_49 rfl (lv_at hl 1 rfl) ?_
      refine va_get (D := D) (ci := 1) (v := .int S_7.2.2.2.2.2.2.2.2.2.2.2.2.2.2) (C := RX3) (T := TX3) (N := 14) F.1 F.2.1 F.2.2.2.2 vX3_findBest_X3 F.2.2.2.1 hz.1 hP 12 rfl rfl 13 (by decide) (F.2.2.2.2 _ uX3_findBest_6) (fun _ h9 => h9) rfl dX3_findBest_50 ?_
      exact hret _ _ _ _ _ _ h hP hS dX3_findBest_53
  · have h := h.2 hc
    refine lv_aload_n F.1 F.2.1 dX3_findBest_27 rfl (lv_at hl 1 rfl) ?_
    refine lv_iload_n F.1 F.2.1 dX3_findBest_28 rfl (lv_at hl 2 rfl) ?_
    refine lv_iload_n F.1 F.2.1 dX3_findBest_29 rfl (lv_at hl 0 rfl) ?_
    refine call_wv (wf := w5 ad cI cJ) (va_runV (As := [.int a1, .int r_1]) (rest := []) F (mX3_offerOnes (l := l) (D := D) (cI := cI) (cJ := cJ) (cZ := cZ) (ad := ad) _ h) (cwV 2 F.2.2.2.2 gX3_findBest_X3_offerOnes rfl rfl rfl kV_X3_offerOnes ⟨Nat.le_of_ble_eq_true rfl, Nat.le_of_ble_eq_true rfl⟩) ⟨wp_blind, va_recv hz.1 hP (ci := 1) (q0 := 12) rfl rfl, wp_pre hz hP (hD _) (.ref (ad 12) :: [.int a1, .int r_1])⟩ rfl rfl hl.1 rfl (lv_room (Nat.le_of_ble_eq_true rfl)) dX3_findBest_30 ⟨Nat.le_of_ble_eq_true rfl, Nat.le_of_ble_eq_true rfl⟩) hS (hD _) hA (fun S_9 H locs h hP hS => ?_)
    refine lv_iload_n F.1 F.2.1 dX3_findBest_33 rfl (lv_at hl 3 rfl) ?_
    refine lv_iconst (v := (2 : Int32)) F.1 F.2.1 dX3_findBest_34 (by decide) ?_
    refine lv_icmp_lt (tgt := 44) F.1 F.2.1 dX3_findBest_35 (by decide) (fun hc => ?_) (fun hc => ?_)
    · have h := h.1 (hc)
      refine lv_aload_n F.1 F.2.1 dX3_findBest_44 rfl (lv_at hl 1 rfl) ?_
      refine lv_iconst (v := (1 : Int32)) F.1 F.2.1 dX3_findBest_45 (by decide) ?_
      refine va_put (D := D) (ci := 1) (v := .int (1 : Int32)) (ty := .boolean) (C := RX3) (T := TX3) (N := 14) F.1 F.2.1 F.2.2.2.2 vX3_findBest_X3 tyX3 tyX3_ok nmX3 F.2.2.2.1 hz.1 hP (hD _) hS 12 rfl rfl 8 (by decide) (F.2.2.2.2 _ uX3_findBest_5) (fun _ h9 => h9) rfl (by decide +kernel) (by decide) (by decide) (Nat.le_of_ble_eq_true rfl) dX3_findBest_46 (fun H locs hP _ hS => ?_)
      have hP : va_P D vwCl (w5 ad cI cJ (S_9.1, S_9.2.1, (S_9.2.2.1, S_9.2.2.2.1, S_9.2.2.2.2.1, S_9.2.2.2.2.2.1, S_9.2.2.2.2.2.2.1, S_9.2.2.2.2.2.2.2.1, S_9.2.2.2.2.2.2.2.2.1, (1 : Int32), S_9.2.2.2.2.2.2.2.2.2.2.1, S_9.2.2.2.2.2.2.2.2.2.2.2.1, S_9.2.2.2.2.2.2.2.2.2.2.2.2.1, S_9.2.2.2.2.2.2.2.2.2.2.2.2.2.1, S_9.2.2.2.2.2.2.2.2.2.2.2.2.2.2))) H := hP
      refine lv_aload_n F.1 F.2.1 dX3_findBest_49 rfl (lv_at hl 1 rfl) ?_
      refine va_get (D := D) (ci := 1) (v := .int S_9.2.2.2.2.2.2.2.2.2.2.2.2.2.2) (C := RX3) (T := TX3) (N := 14) F.1 F.2.1 F.2.2.2.2 vX3_findBest_X3 F.2.2.2.1 hz.1 hP 12 rfl rfl 13 (by decide) (F.2.2.2.2 _ uX3_findBest_6) (fun _ h9 => h9) rfl dX3_findBest_50 ?_
      exact hret _ _ _ _ _ _ h hP hS dX3_findBest_53
    · have h := h.2 hc
      refine lv_aload_n F.1 F.2.1 dX3_findBest_38 rfl (lv_at hl 1 rfl) ?_
      refine lv_iload_n F.1 F.2.1 dX3_findBest_39 rfl (lv_at hl 2 rfl) ?_
      refine lv_iload_n F.1 F.2.1 dX3_findBest_40 rfl (lv_at hl 0 rfl) ?_
      refine call_wv (wf := w5 ad cI cJ) (va_runV (As := [.int a1, .int r_1]) (rest := []) F (mX3_offerTwos (l := l) (D := D) (cI := cI) (cJ := cJ) (cZ := cZ) (ad := ad) _ h) (cwV 2 F.2.2.2.2 gX3_findBest_X3_offerTwos rfl rfl rfl kV_X3_offerTwos ⟨Nat.le_of_ble_eq_true rfl, Nat.le_of_ble_eq_true rfl⟩) ⟨wp_blind, va_recv hz.1 hP (ci := 1) (q0 := 12) rfl rfl, wp_pre hz hP (hD _) (.ref (ad 12) :: [.int a1, .int r_1])⟩ rfl rfl hl.1 rfl (lv_room (Nat.le_of_ble_eq_true rfl)) dX3_findBest_41 ⟨Nat.le_of_ble_eq_true rfl, Nat.le_of_ble_eq_true rfl⟩) hS (hD _) hA (fun S_11 H locs h hP hS => ?_)
      refine lv_aload_n F.1 F.2.1 dX3_findBest_44 rfl (lv_at hl 1 rfl) ?_
      refine lv_iconst (v := (1 : Int32)) F.1 F.2.1 dX3_findBest_45 (by decide) ?_
      refine va_put (D := D) (ci := 1) (v := .int (1 : Int32)) (ty := .boolean) (C := RX3) (T := TX3) (N := 14) F.1 F.2.1 F.2.2.2.2 vX3_findBest_X3 tyX3 tyX3_ok nmX3 F.2.2.2.1 hz.1 hP (hD _) hS 12 rfl rfl 8 (by decide) (F.2.2.2.2 _ uX3_findBest_5) (fun _ h9 => h9) rfl (by decide +kernel) (by decide) (by decide) (Nat.le_of_ble_eq_true rfl) dX3_findBest_46 (fun H locs hP _ hS => ?_)
      have hP : va_P D vwCl (w5 ad cI cJ (S_11.1, S_11.2.1, (S_11.2.2.1, S_11.2.2.2.1, S_11.2.2.2.2.1, S_11.2.2.2.2.2.1, S_11.2.2.2.2.2.2.1, S_11.2.2.2.2.2.2.2.1, S_11.2.2.2.2.2.2.2.2.1, (1 : Int32), S_11.2.2.2.2.2.2.2.2.2.2.1, S_11.2.2.2.2.2.2.2.2.2.2.2.1, S_11.2.2.2.2.2.2.2.2.2.2.2.2.1, S_11.2.2.2.2.2.2.2.2.2.2.2.2.2.1, S_11.2.2.2.2.2.2.2.2.2.2.2.2.2.2))) H := hP
      refine lv_aload_n F.1 F.2.1 dX3_findBest_49 rfl (lv_at hl 1 rfl) ?_
      refine va_get (D := D) (ci := 1) (v := .int S_11.2.2.2.2.2.2.2.2.2.2.2.2.2.2) (C := RX3) (T := TX3) (N := 14) F.1 F.2.1 F.2.2.2.2 vX3_findBest_X3 F.2.2.2.1 hz.1 hP 12 rfl rfl 13 (by decide) (F.2.2.2.2 _ uX3_findBest_6) (fun _ h9 => h9) rfl dX3_findBest_50 ?_
      exact hret _ _ _ _ _ _ h hP hS dX3_findBest_53
theorem mX3_findBest {l : Launch} {D : va_G} {cI cJ cZ : ClassId} {ad : Nat → Nat} {S : SX} {a1 : Int32} {a2 : Int32} {Q : Int32 → SX → Prop} (sz : Nat) (h : wX3_findBest S a1 a2 Q) : Met l yX3_findBest wsX3_findBest rX3_findBest (va_Pc [.ref (ad 12), .int a1, .int a2] (wp D cI cJ cZ sz (w5 ad cI cJ S))) (wQi D (w5 ad cI cJ) S sz Q) 0 0 (va_A (w5 ad cI cJ S) sz) :=
  enter_wi (wf := w5 ad cI cJ) (fun _ => rfl) (by decide +kernel) rfl (Nat.le_of_ble_eq_true rfl) (fun p e s m args below meth c QQ A F hz hD hA hP hret => bX3_findBest F hz hD hA hret hP h)
end WALKS
