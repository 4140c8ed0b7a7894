/-! THE WALKS of mread, printed by wip/whole/gen.py -/
section WALKS
variable {p : Program} {l : Launch} {e : Env} {s : State} {m : MethodId} {args : Array Value} {below : List Frame} {meth : Method} {c : Code} {QQ : State → Prop} {A : Nat → Prop} {D : va_G} {cI cJ cZ : ClassId} {ad : Nat → Nat}
abbrev rX6_isRow : Room := { frames := 1, cells := 0, slots := 0, locals := 22 }
theorem kV_X6_isRow : yX6_isRow.cls = RX6 ∧ yX6_isRow.cls ≠ "java/lang/invoke/MethodHandle" ∧ yX6_isRow.cls ≠ "java/lang/invoke/VarHandle" ∧ (parseMethodDescriptor yX6_isRow.desc).map (fun d => d.parameters.length) = some 1 := by decide +kernel
theorem vX6_isRow_X6 : ∀ w ∈ wsX60, w ∈ wsX6_isRow := fun _ h => List.mem_cons_of_mem _ (List.mem_append_right _ h)
theorem uX6_isRow_1 : Cond.fieldLink RX6 54 "SumMovedModel" "rows" "I" ∈ wsX6_isRow := List.mem_of_getElem? (i := 1) rfl
set_option maxRecDepth 100000 in
theorem bX6_isRow {a1 : Int32} {S : S6} {Q : Int32 → Prop} (F : CallFix p m c cX6_isRow 2 s args wsX6_isRow RX6) (hz : gz D cI cJ cZ s) (hP : va_P D vwCl (w6 ad cI cZ S) s.heap) (hret : ∀ (v : Int32) (pc : Nat) (ls : Array Slot), narrow .boolean (.int v) = .int v → Q v → decode cX6_isRow pc = .ok (.ireturn, 1) → W p l e rX6_isRow s m args below meth c s.heap [] 0 0 QQ (F0 m pc ls [.int v])) (h : wX6_isRow S a1 Q) : ∀ ls : Array Slot, lv_has ls 2 [(0, .ref (ad 0)), (1, .int a1)] → W p l e rX6_isRow s m args below meth c s.heap [] 0 0 QQ (F0 m 0 ls []) := by
  intro ls hl
  refine lv_iload_n F.1 F.2.1 dX6_isRow_0 rfl (lv_at hl 1 rfl) ?_
  refine lv_iconst (v := (0 : Int32)) F.1 F.2.1 dX6_isRow_1 (by decide) ?_
  refine lv_aload_n F.1 F.2.1 dX6_isRow_2 rfl (lv_at hl 0 rfl) ?_
  refine va_get (D := D) (ci := 4) (v := .int S.1) (C := RX6) (T := TX6) (N := 19) F.1 F.2.1 F.2.2.2.2 vX6_isRow_X6 F.2.2.2.1 hz.1 hP 0 rfl rfl 0 (by decide) (F.2.2.2.2 _ uX6_isRow_1) (fun _ h9 => h9) rfl dX6_isRow_3 ?_
  refine lv_iconst (v := (1 : Int32)) F.1 F.2.1 dX6_isRow_6 (by decide) ?_
  refine lv_isub F.1 F.2.1 dX6_isRow_7 ?_
  refine vp_callSi (va_Run.run (va_runS (As := [.int a1, .int (0 : Int32), .int (S.1 - (1 : Int32))]) (rest := []) F (mX6_in (l := l) (D := D) (cI := cI) (cJ := cJ) (cZ := cZ) h) (va_cwS 3 F.2.2.2.2 gX6_isRow_X6_in rfl rfl rfl kS_X6_in ⟨Nat.le_of_ble_eq_true rfl, Nat.le_of_ble_eq_true rfl⟩) ⟨rp_blind, rp_pre hz (hP.sub (ws' := []) [] rfl) [.int a1, .int (0 : Int32), .int (S.1 - (1 : Int32))]⟩ rfl rfl hl.1 rfl (lv_room (Nat.le_of_ble_eq_true rfl)) dX6_isRow_8 ⟨Nat.le_of_ble_eq_true rfl, Nat.le_of_ble_eq_true rfl⟩)) (fun r_1 h => ?_)
  obtain ⟨hbr_1, h⟩ := h
  exact hret _ _ _ hbr_1 h dX6_isRow_11
theorem mX6_isRow {l : Launch} {D : va_G} {cI cJ cZ : ClassId} {ad : Nat → Nat} {S : S6} {a1 : Int32} {Q : Int32 → Prop} (h : wX6_isRow S a1 Q) : Met l yX6_isRow wsX6_isRow rX6_isRow (va_Pc [.ref (ad 0), .int a1] (rp D cI cJ cZ (w6 ad cI cZ S))) (vp_Si (qb Q)) 0 0 (fun _ => False) :=
  enter_z (by decide +kernel) rfl (Nat.le_of_ble_eq_true rfl) (fun p e s m args below meth c QQ F hz hret => bX6_isRow F hz.1 hz.2 hret h)
abbrev rX6_isIn : Room := { frames := 1, cells := 0, slots := 0, locals := 21 }
theorem kV_X6_isIn : yX6_isIn.cls = RX6 ∧ yX6_isIn.cls ≠ "java/lang/invoke/MethodHandle" ∧ yX6_isIn.cls ≠ "java/lang/invoke/VarHandle" ∧ (parseMethodDescriptor yX6_isIn.desc).map (fun d => d.parameters.length) = some 2 := by decide +kernel
theorem vX6_isIn_X6 : ∀ w ∈ wsX60, w ∈ wsX6_isIn := fun _ h => List.mem_cons_of_mem _ (List.mem_append_right _ h)
theorem uX6_isIn_1 : Cond.fieldLink RX6 28 "SumMovedModel" "isStruck" "[Z" ∈ wsX6_isIn := List.mem_of_getElem? (i := 1) rfl
theorem uX6_isIn_2 : Cond.fieldLink RX6 25 "SumMovedModel" "mark" "[I" ∈ wsX6_isIn := List.mem_of_getElem? (i := 2) rfl
set_option maxRecDepth 100000 in
theorem kX6_isIn_18 {p1 : Int32} {p2 : Int32} {S : S6} (F : CallFix p m c cX6_isIn 5 s args wsX6_isIn RX6) (hz : gz D cI cJ cZ s) (hP : va_P D vwCl (w6 ad cI cZ S) s.heap) {K : Int32 × Int32 → Prop} (hK : ∀ x : Int32 × Int32, K x → match x with | (x3, x4) => ∀ ls : Array Slot, lv_has ls 5 [(0, .ref (ad 0)), (1, .int p1), (2, .int p2), (3, .int x3), (4, .int x4)] → W p l e rX6_isIn s m args below meth c s.heap [] 0 0 QQ (F0 m 71 ls [])) : ∀ (nn : Nat) (x : Int32 × Int32), iter (sX6_isIn_18 S p1 p2 K) nn x → match x with | (x3, x4) => ∀ ls : Array Slot, lv_has ls 5 [(0, .ref (ad 0)), (1, .int p1), (2, .int p2), (3, .int x3), (4, .int x4)] → W p l e rX6_isIn s m args below meth c s.heap [] 0 0 QQ (F0 m 18 ls []) := by
  refine iter_walk ?_
  rintro again18 ⟨x3, x4⟩ ih18 h ls hl
  have hK18 := hK
  refine lv_iload F.1 F.2.1 dX6_isIn_18 (lv_at hl 4 rfl) ?_
  refine lv_iconst (v := (3 : Int32)) F.1 F.2.1 dX6_isIn_20 (by decide) ?_
  refine lv_icmp_ge (tgt := 71) F.1 F.2.1 dX6_isIn_21 (by decide) (fun hc => ?_) (fun hc => ?_)
  · have h := h.1 (hc)
    exact hK18 (x3, x4) h ls (lv_sub hl [0, 1, 2, 3, 4] rfl)
  · have h := h.2 hc
    refine lv_iload_n F.1 F.2.1 dX6_isIn_24 rfl (lv_at hl 3 rfl) ?_
    refine lv_if_eq (tgt := 63) F.1 F.2.1 dX6_isIn_25 (by decide) (fun hc => ?_) (fun hc => ?_)
    · have h := h.1 (hc)
      refine lv_iconst (v := (0 : Int32)) F.1 F.2.1 dX6_isIn_63 (by decide) ?_
      refine lv_istore_n (lv' := [(3, .int (0 : Int32)), (0, .ref (ad 0)), (1, .int p1), (2, .int p2), (4, .int x4)]) F.1 F.2.1 dX6_isIn_64 rfl hl (by decide) rfl (fun ls hl => ?_)
      refine lv_iinc (v := x4 + 1) (lv' := [(4, .int (x4 + 1)), (3, .int (0 : Int32)), (0, .ref (ad 0)), (1, .int p1), (2, .int p2)]) F.1 F.2.1 dX6_isIn_65 hl (k := 4) rfl rfl (by decide) rfl (fun ls hl => ?_)
      refine lv_goto (tgt := 18) F.1 F.2.1 dX6_isIn_68 (by decide) ?_
      exact ih18 ((0 : Int32), x4 + 1) h ls (lv_sub hl [2, 3, 4, 1, 0] rfl)
    · have h := h.2 hc
      refine lv_iload_n F.1 F.2.1 dX6_isIn_28 rfl (lv_at hl 2 rfl) ?_
      refine lv_iload F.1 F.2.1 dX6_isIn_29 (lv_at hl 4 rfl) ?_
      refine vp_callSi (va_Run.run (va_runS (As := [.int p2, .int x4]) (rest := []) F (mX6_digit (l := l) (D := D) (cI := cI) (cJ := cJ) (cZ := cZ) h) (va_cwS 2 F.2.2.2.2 gX6_isIn_X6_digit rfl rfl rfl kS_X6_digit ⟨Nat.le_of_ble_eq_true rfl, Nat.le_of_ble_eq_true rfl⟩) ⟨rp_blind, rp_pre hz (hP.sub (ws' := []) [] rfl) [.int p2, .int x4]⟩ rfl rfl hl.1 rfl (lv_room (Nat.le_of_ble_eq_true rfl)) dX6_isIn_31 ⟨Nat.le_of_ble_eq_true rfl, Nat.le_of_ble_eq_true rfl⟩)) (fun r_1 h => ?_)
      refine lv_if_eq (tgt := 59) F.1 F.2.1 dX6_isIn_34 (by decide) (fun hc => ?_) (fun hc => ?_)
      · have h := h.1 (hc)
        refine lv_iconst (v := (1 : Int32)) F.1 F.2.1 dX6_isIn_59 (by decide) ?_
        refine lv_goto (tgt := 64) F.1 F.2.1 dX6_isIn_60 (by decide) ?_
        refine lv_istore_n (lv' := [(3, .int (1 : Int32)), (0, .ref (ad 0)), (1, .int p1), (2, .int p2), (4, .int x4)]) F.1 F.2.1 dX6_isIn_64 rfl hl (by decide) rfl (fun ls hl => ?_)
        refine lv_iinc (v := x4 + 1) (lv' := [(4, .int (x4 + 1)), (3, .int (1 : Int32)), (0, .ref (ad 0)), (1, .int p1), (2, .int p2)]) F.1 F.2.1 dX6_isIn_65 hl (k := 4) rfl rfl (by decide) rfl (fun ls hl => ?_)
        refine lv_goto (tgt := 18) F.1 F.2.1 dX6_isIn_68 (by decide) ?_
        exact ih18 ((1 : Int32), x4 + 1) h ls (lv_sub hl [2, 3, 4, 1, 0] rfl)
      · have h := h.2 hc
        refine lv_iload_n F.1 F.2.1 dX6_isIn_37 rfl (lv_at hl 2 rfl) ?_
        refine lv_iload F.1 F.2.1 dX6_isIn_38 (lv_at hl 4 rfl) ?_
        refine vp_callSi (va_Run.run (va_runS (As := [.int p2, .int x4]) (rest := []) F (mX6_digit (l := l) (D := D) (cI := cI) (cJ := cJ) (cZ := cZ) h) (va_cwS 2 F.2.2.2.2 gX6_isIn_X6_digit rfl rfl rfl kS_X6_digit ⟨Nat.le_of_ble_eq_true rfl, Nat.le_of_ble_eq_true rfl⟩) ⟨rp_blind, rp_pre hz (hP.sub (ws' := []) [] rfl) [.int p2, .int x4]⟩ rfl rfl hl.1 rfl (lv_room (Nat.le_of_ble_eq_true rfl)) dX6_isIn_40 ⟨Nat.le_of_ble_eq_true rfl, Nat.le_of_ble_eq_true rfl⟩)) (fun r_2 h => ?_)
        refine lv_aload_n F.1 F.2.1 dX6_isIn_43 rfl (lv_at hl 0 rfl) ?_
        refine va_get (D := D) (ci := 4) (v := .ref (ad 6)) (C := RX6) (T := TX6) (N := 19) F.1 F.2.1 F.2.2.2.2 vX6_isIn_X6 F.2.2.2.1 hz.1 hP 0 rfl rfl 6 (by decide) (F.2.2.2.2 _ uX6_isIn_2) (fun _ h9 => h9) rfl dX6_isIn_44 ?_
        refine lv_iconst (v := (3 : Int32)) F.1 F.2.1 dX6_isIn_47 (by decide) ?_
        refine lv_iload_n F.1 F.2.1 dX6_isIn_48 rfl (lv_at hl 1 rfl) ?_
        refine lv_imul F.1 F.2.1 dX6_isIn_49 ?_
        refine lv_iload F.1 F.2.1 dX6_isIn_50 (lv_at hl 4 rfl) ?_
        refine lv_iadd F.1 F.2.1 dX6_isIn_52 ?_
        refine va_iald F.1 F.2.1 hz.1 hP 6 0 rfl rfl h.1 dX6_isIn_53 ?_
        have h := h.2
        refine lv_iconst (v := (1 : Int32)) F.1 F.2.1 dX6_isIn_54 (by decide) ?_
        refine lv_iadd F.1 F.2.1 dX6_isIn_55 ?_
        refine lv_icmp_ne (tgt := 63) F.1 F.2.1 dX6_isIn_56 (by decide) (fun hc => ?_) (fun hc => ?_)
        · have h := h.2 hc
          refine lv_iconst (v := (0 : Int32)) F.1 F.2.1 dX6_isIn_63 (by decide) ?_
          refine lv_istore_n (lv' := [(3, .int (0 : Int32)), (0, .ref (ad 0)), (1, .int p1), (2, .int p2), (4, .int x4)]) F.1 F.2.1 dX6_isIn_64 rfl hl (by decide) rfl (fun ls hl => ?_)
          refine lv_iinc (v := x4 + 1) (lv' := [(4, .int (x4 + 1)), (3, .int (0 : Int32)), (0, .ref (ad 0)), (1, .int p1), (2, .int p2)]) F.1 F.2.1 dX6_isIn_65 hl (k := 4) rfl rfl (by decide) rfl (fun ls hl => ?_)
          refine lv_goto (tgt := 18) F.1 F.2.1 dX6_isIn_68 (by decide) ?_
          exact ih18 ((0 : Int32), x4 + 1) h ls (lv_sub hl [2, 3, 4, 1, 0] rfl)
        · have h := h.1 (hc)
          refine lv_iconst (v := (1 : Int32)) F.1 F.2.1 dX6_isIn_59 (by decide) ?_
          refine lv_goto (tgt := 64) F.1 F.2.1 dX6_isIn_60 (by decide) ?_
          refine lv_istore_n (lv' := [(3, .int (1 : Int32)), (0, .ref (ad 0)), (1, .int p1), (2, .int p2), (4, .int x4)]) F.1 F.2.1 dX6_isIn_64 rfl hl (by decide) rfl (fun ls hl => ?_)
          refine lv_iinc (v := x4 + 1) (lv' := [(4, .int (x4 + 1)), (3, .int (1 : Int32)), (0, .ref (ad 0)), (1, .int p1), (2, .int p2)]) F.1 F.2.1 dX6_isIn_65 hl (k := 4) rfl rfl (by decide) rfl (fun ls hl => ?_)
          refine lv_goto (tgt := 18) F.1 F.2.1 dX6_isIn_68 (by decide) ?_
          exact ih18 ((1 : Int32), x4 + 1) h ls (lv_sub hl [2, 3, 4, 1, 0] rfl)
set_option maxRecDepth 100000 in
theorem bX6_isIn {a1 : Int32} {a2 : Int32} {S : S6} {Q : Int32 → Prop} (F : CallFix p m c cX6_isIn 5 s args wsX6_isIn RX6) (hz : gz D cI cJ cZ s) (hP : va_P D vwCl (w6 ad cI cZ S) s.heap) (hret : ∀ (v : Int32) (pc : Nat) (ls : Array Slot), narrow .boolean (.int v) = .int v → Q v → decode cX6_isIn pc = .ok (.ireturn, 1) → W p l e rX6_isIn s m args below meth c s.heap [] 0 0 QQ (F0 m pc ls [.int v])) (h : wX6_isIn S a1 a2 Q) : ∀ ls : Array Slot, lv_has ls 5 [(0, .ref (ad 0)), (1, .int a1), (2, .int a2)] → W p l e rX6_isIn s m args below meth c s.heap [] 0 0 QQ (F0 m 0 ls []) := by
  intro ls hl
  refine lv_aload_n F.1 F.2.1 dX6_isIn_0 rfl (lv_at hl 0 rfl) ?_
  refine va_get (D := D) (ci := 4) (v := .ref (ad 7)) (C := RX6) (T := TX6) (N := 19) F.1 F.2.1 F.2.2.2.2 vX6_isIn_X6 F.2.2.2.1 hz.1 hP 0 rfl rfl 7 (by decide) (F.2.2.2.2 _ uX6_isIn_1) (fun _ h9 => h9) rfl dX6_isIn_1 ?_
  refine lv_iload_n F.1 F.2.1 dX6_isIn_4 rfl (lv_at hl 1 rfl) ?_
  refine va_zald F.1 F.2.1 hz.1 hP 7 2 rfl rfl h.1 dX6_isIn_5 ?_
  have h := h.2
  refine lv_if_ne (tgt := 13) F.1 F.2.1 dX6_isIn_6 (by decide) (fun hc => ?_) (fun hc => ?_)
  · have h := h.2 hc
    refine lv_iconst (v := (0 : Int32)) F.1 F.2.1 dX6_isIn_13 (by decide) ?_
    refine lv_istore_n (lv' := [(3, .int (0 : Int32)), (0, .ref (ad 0)), (1, .int a1), (2, .int a2)]) F.1 F.2.1 dX6_isIn_14 rfl hl (by decide) rfl (fun ls hl => ?_)
    refine lv_iconst (v := (0 : Int32)) F.1 F.2.1 dX6_isIn_15 (by decide) ?_
    refine lv_istore (lv' := [(4, .int (0 : Int32)), (3, .int (0 : Int32)), (0, .ref (ad 0)), (1, .int a1), (2, .int a2)]) F.1 F.2.1 dX6_isIn_16 hl (by decide) rfl (fun ls hl => ?_)
    obtain ⟨nn, h⟩ := h
    refine kX6_isIn_18 F hz hP (fun ⟨x3, x4⟩ h ls hl => ?_) nn _ h ls (lv_sub hl [2, 3, 4, 1, 0] rfl)
    refine lv_iload_n F.1 F.2.1 dX6_isIn_71 rfl (lv_at hl 3 rfl) ?_
    exact hret _ _ _ h.1 h.2 dX6_isIn_72
  · have h := h.1 (hc)
    refine lv_iconst (v := (1 : Int32)) F.1 F.2.1 dX6_isIn_9 (by decide) ?_
    refine lv_goto (tgt := 14) F.1 F.2.1 dX6_isIn_10 (by decide) ?_
    refine lv_istore_n (lv' := [(3, .int (1 : Int32)), (0, .ref (ad 0)), (1, .int a1), (2, .int a2)]) F.1 F.2.1 dX6_isIn_14 rfl hl (by decide) rfl (fun ls hl => ?_)
    refine lv_iconst (v := (0 : Int32)) F.1 F.2.1 dX6_isIn_15 (by decide) ?_
    refine lv_istore (lv' := [(4, .int (0 : Int32)), (3, .int (1 : Int32)), (0, .ref (ad 0)), (1, .int a1), (2, .int a2)]) F.1 F.2.1 dX6_isIn_16 hl (by decide) rfl (fun ls hl => ?_)
    obtain ⟨nn, h⟩ := h
    refine kX6_isIn_18 F hz hP (fun ⟨x3, x4⟩ h ls hl => ?_) nn _ h ls (lv_sub hl [2, 3, 4, 1, 0] rfl)
    refine lv_iload_n F.1 F.2.1 dX6_isIn_71 rfl (lv_at hl 3 rfl) ?_
    exact hret _ _ _ h.1 h.2 dX6_isIn_72
theorem mX6_isIn {l : Launch} {D : va_G} {cI cJ cZ : ClassId} {ad : Nat → Nat} {S : S6} {a1 : Int32} {a2 : Int32} {Q : Int32 → Prop} (h : wX6_isIn S a1 a2 Q) : Met l yX6_isIn wsX6_isIn rX6_isIn (va_Pc [.ref (ad 0), .int a1, .int a2] (rp D cI cJ cZ (w6 ad cI cZ S))) (vp_Si (qb Q)) 0 0 (fun _ => False) :=
  enter_z (by decide +kernel) rfl (Nat.le_of_ble_eq_true rfl) (fun p e s m args below meth c QQ F hz hret => bX6_isIn F hz.1 hz.2 hret h)
abbrev rX6_hasRow : Room := { frames := 2, cells := 0, slots := 0, locals := 45 }
theorem kV_X6_hasRow : yX6_hasRow.cls = RX6 ∧ yX6_hasRow.cls ≠ "java/lang/invoke/MethodHandle" ∧ yX6_hasRow.cls ≠ "java/lang/invoke/VarHandle" ∧ (parseMethodDescriptor yX6_hasRow.desc).map (fun d => d.parameters.length) = some 3 := by decide +kernel
theorem vX6_hasRow_X6 : ∀ w ∈ wsX60, w ∈ wsX6_hasRow := fun _ h => List.mem_cons_of_mem _ (List.mem_append_right _ h)
theorem uX6_hasRow_1 : Cond.fieldLink RX6 54 "SumMovedModel" "rows" "I" ∈ wsX6_hasRow := List.mem_of_getElem? (i := 1) rfl
theorem uX6_hasRow_2 : Cond.fieldLink RX6 7 "SumMovedModel" "month" "[I" ∈ wsX6_hasRow := List.mem_of_getElem? (i := 2) rfl
theorem uX6_hasRow_3 : Cond.fieldLink RX6 22 "SumMovedModel" "member" "[I" ∈ wsX6_hasRow := List.mem_of_getElem? (i := 3) rfl
set_option maxRecDepth 100000 in
theorem kX6_hasRow_3 {p1 : Int32} {p2 : Int32} {p3 : Int32} {S : S6} {Q : Int32 → Prop} (F : CallFix p m c cX6_hasRow 5 s args wsX6_hasRow RX6) (hz : gz D cI cJ cZ s) (hP : va_P D vwCl (w6 ad cI cZ S) s.heap) (hret : ∀ (v : Int32) (pc : Nat) (ls : Array Slot), narrow .boolean (.int v) = .int v → Q v → decode cX6_hasRow pc = .ok (.ireturn, 1) → W p l e rX6_hasRow s m args below meth c s.heap [] 0 0 QQ (F0 m pc ls [.int v])) {K : Int32 → Prop} (hK : ∀ x4 : Int32, K x4 → ∀ ls : Array Slot, lv_has ls 5 [(0, .ref (ad 0)), (1, .int p1), (2, .int p2), (3, .int p3), (4, .int x4)] → W p l e rX6_hasRow s m args below meth c s.heap [] 0 0 QQ (F0 m 52 ls [])) : ∀ (nn : Nat) (x4 : Int32), iter (sX6_hasRow_3 S p1 p2 p3 Q K) nn x4 → ∀ ls : Array Slot, lv_has ls 5 [(0, .ref (ad 0)), (1, .int p1), (2, .int p2), (3, .int p3), (4, .int x4)] → W p l e rX6_hasRow s m args below meth c s.heap [] 0 0 QQ (F0 m 3 ls []) := by
  refine iter_walk ?_
  rintro again3 x4 ih3 h ls hl
  have hK3 := hK
  refine lv_iload F.1 F.2.1 dX6_hasRow_3 (lv_at hl 4 rfl) ?_
  refine lv_aload_n F.1 F.2.1 dX6_hasRow_5 rfl (lv_at hl 0 rfl) ?_
  refine va_get (D := D) (ci := 4) (v := .int S.1) (C := RX6) (T := TX6) (N := 19) F.1 F.2.1 F.2.2.2.2 vX6_hasRow_X6 F.2.2.2.1 hz.1 hP 0 rfl rfl 0 (by decide) (F.2.2.2.2 _ uX6_hasRow_1) (fun _ h9 => h9) rfl dX6_hasRow_6 ?_
  refine lv_icmp_ge (tgt := 52) F.1 F.2.1 dX6_hasRow_9 (by decide) (fun hc => ?_) (fun hc => ?_)
  · have h := h.1 (hc)
    exact hK3 x4 h ls (lv_sub hl [0, 1, 2, 3, 4] rfl)
  · have h := h.2 hc
    refine lv_aload_n F.1 F.2.1 dX6_hasRow_12 rfl (lv_at hl 0 rfl) ?_
    refine lv_iload F.1 F.2.1 dX6_hasRow_13 (lv_at hl 4 rfl) ?_
    refine lv_iload_n F.1 F.2.1 dX6_hasRow_15 rfl (lv_at hl 1 rfl) ?_
    refine vp_callSi (va_Run.run (va_runV (As := [.int x4, .int p1]) (rest := []) F (mX6_isIn (l := l) (D := D) (cI := cI) (cJ := cJ) (cZ := cZ) (ad := ad) h) (cwV 2 F.2.2.2.2 gX6_hasRow_X6_isIn rfl rfl rfl kV_X6_isIn ⟨Nat.le_of_ble_eq_true rfl, Nat.le_of_ble_eq_true rfl⟩) ⟨rp_blind, va_recv hz.1 hP (ci := 4) (q0 := 0) rfl rfl, rp_pre hz hP (.ref (ad 0) :: [.int x4, .int p1])⟩ rfl rfl hl.1 rfl (lv_room (Nat.le_of_ble_eq_true rfl)) dX6_hasRow_16 ⟨Nat.le_of_ble_eq_true rfl, Nat.le_of_ble_eq_true rfl⟩)) (fun r_1 h => ?_)
    obtain ⟨hbr_1, h⟩ := h
    refine lv_if_eq (tgt := 46) F.1 F.2.1 dX6_hasRow_19 (by decide) (fun hc => ?_) (fun hc => ?_)
    · have h := h.1 (hc)
      refine lv_iinc (v := x4 + 1) (lv' := [(4, .int (x4 + 1)), (0, .ref (ad 0)), (1, .int p1), (2, .int p2), (3, .int p3)]) F.1 F.2.1 dX6_hasRow_46 hl (k := 4) rfl rfl (by decide) rfl (fun ls hl => ?_)
      refine lv_goto (tgt := 3) F.1 F.2.1 dX6_hasRow_49 (by decide) ?_
      exact ih3 (x4 + 1) h ls (lv_sub hl [1, 2, 3, 4, 0] rfl)
    · have h := h.2 hc
      refine lv_aload_n F.1 F.2.1 dX6_hasRow_22 rfl (lv_at hl 0 rfl) ?_
      refine va_get (D := D) (ci := 4) (v := .ref (ad 1)) (C := RX6) (T := TX6) (N := 19) F.1 F.2.1 F.2.2.2.2 vX6_hasRow_X6 F.2.2.2.1 hz.1 hP 0 rfl rfl 1 (by decide) (F.2.2.2.2 _ uX6_hasRow_2) (fun _ h9 => h9) rfl dX6_hasRow_23 ?_
      refine lv_iload F.1 F.2.1 dX6_hasRow_26 (lv_at hl 4 rfl) ?_
      refine va_iald F.1 F.2.1 hz.1 hP 1 0 rfl rfl h.1 dX6_hasRow_28 ?_
      have h := h.2
      refine lv_iload_n F.1 F.2.1 dX6_hasRow_29 rfl (lv_at hl 2 rfl) ?_
      refine lv_icmp_ne (tgt := 46) F.1 F.2.1 dX6_hasRow_30 (by decide) (fun hc => ?_) (fun hc => ?_)
      · have h := h.2 hc
        refine lv_iinc (v := x4 + 1) (lv' := [(4, .int (x4 + 1)), (0, .ref (ad 0)), (1, .int p1), (2, .int p2), (3, .int p3)]) F.1 F.2.1 dX6_hasRow_46 hl (k := 4) rfl rfl (by decide) rfl (fun ls hl => ?_)
        refine lv_goto (tgt := 3) F.1 F.2.1 dX6_hasRow_49 (by decide) ?_
        exact ih3 (x4 + 1) h ls (lv_sub hl [1, 2, 3, 4, 0] rfl)
      · have h := h.1 (hc)
        refine lv_aload_n F.1 F.2.1 dX6_hasRow_33 rfl (lv_at hl 0 rfl) ?_
        refine va_get (D := D) (ci := 4) (v := .ref (ad 5)) (C := RX6) (T := TX6) (N := 19) F.1 F.2.1 F.2.2.2.2 vX6_hasRow_X6 F.2.2.2.1 hz.1 hP 0 rfl rfl 5 (by decide) (F.2.2.2.2 _ uX6_hasRow_3) (fun _ h9 => h9) rfl dX6_hasRow_34 ?_
        refine lv_iload F.1 F.2.1 dX6_hasRow_37 (lv_at hl 4 rfl) ?_
        refine va_iald F.1 F.2.1 hz.1 hP 5 0 rfl rfl h.1 dX6_hasRow_39 ?_
        have h := h.2
        refine lv_iload_n F.1 F.2.1 dX6_hasRow_40 rfl (lv_at hl 3 rfl) ?_
        refine lv_icmp_ne (tgt := 46) F.1 F.2.1 dX6_hasRow_41 (by decide) (fun hc => ?_) (fun hc => ?_)
        · have h := h.2 hc
          refine lv_iinc (v := x4 + 1) (lv' := [(4, .int (x4 + 1)), (0, .ref (ad 0)), (1, .int p1), (2, .int p2), (3, .int p3)]) F.1 F.2.1 dX6_hasRow_46 hl (k := 4) rfl rfl (by decide) rfl (fun ls hl => ?_)
          refine lv_goto (tgt := 3) F.1 F.2.1 dX6_hasRow_49 (by decide) ?_
          exact ih3 (x4 + 1) h ls (lv_sub hl [1, 2, 3, 4, 0] rfl)
        · have h := h.1 (hc)
          refine lv_iconst (v := (1 : Int32)) F.1 F.2.1 dX6_hasRow_44 (by decide) ?_
          exact hret _ _ _ nr_1 h dX6_hasRow_45
set_option maxRecDepth 100000 in
theorem bX6_hasRow {a1 : Int32} {a2 : Int32} {a3 : Int32} {S : S6} {Q : Int32 → Prop} (F : CallFix p m c cX6_hasRow 5 s args wsX6_hasRow RX6) (hz : gz D cI cJ cZ s) (hP : va_P D vwCl (w6 ad cI cZ S) s.heap) (hret : ∀ (v : Int32) (pc : Nat) (ls : Array Slot), narrow .boolean (.int v) = .int v → Q v → decode cX6_hasRow pc = .ok (.ireturn, 1) → W p l e rX6_hasRow s m args below meth c s.heap [] 0 0 QQ (F0 m pc ls [.int v])) (h : wX6_hasRow S a1 a2 a3 Q) : ∀ ls : Array Slot, lv_has ls 5 [(0, .ref (ad 0)), (1, .int a1), (2, .int a2), (3, .int a3)] → W p l e rX6_hasRow s m args below meth c s.heap [] 0 0 QQ (F0 m 0 ls []) := by
  intro ls hl
  refine lv_iconst (v := (0 : Int32)) F.1 F.2.1 dX6_hasRow_0 (by decide) ?_
  refine lv_istore (lv' := [(4, .int (0 : Int32)), (0, .ref (ad 0)), (1, .int a1), (2, .int a2), (3, .int a3)]) F.1 F.2.1 dX6_hasRow_1 hl (by decide) rfl (fun ls hl => ?_)
  obtain ⟨nn, h⟩ := h
  refine kX6_hasRow_3 F hz hP hret (fun x4 h ls hl => ?_) nn _ h ls (lv_sub hl [1, 2, 3, 4, 0] rfl)
  refine lv_iconst (v := (0 : Int32)) F.1 F.2.1 dX6_hasRow_52 (by decide) ?_
  exact hret _ _ _ nr_0 h dX6_hasRow_53
theorem mX6_hasRow {l : Launch} {D : va_G} {cI cJ cZ : ClassId} {ad : Nat → Nat} {S : S6} {a1 : Int32} {a2 : Int32} {a3 : Int32} {Q : Int32 → Prop} (h : wX6_hasRow S a1 a2 a3 Q) : Met l yX6_hasRow wsX6_hasRow rX6_hasRow (va_Pc [.ref (ad 0), .int a1, .int a2, .int a3] (rp D cI cJ cZ (w6 ad cI cZ S))) (vp_Si (qb Q)) 0 0 (fun _ => False) :=
  enter_z (by decide +kernel) rfl (Nat.le_of_ble_eq_true rfl) (fun p e s m args below meth c QQ F hz hret => bX6_hasRow F hz.1 hz.2 hret h)
abbrev rX6_measured : Room := { frames := 3, cells := 0, slots := 0, locals := 69 }
theorem kV_X6_measured : yX6_measured.cls = RX6 ∧ yX6_measured.cls ≠ "java/lang/invoke/MethodHandle" ∧ yX6_measured.cls ≠ "java/lang/invoke/VarHandle" ∧ (parseMethodDescriptor yX6_measured.desc).map (fun d => d.parameters.length) = some 3 := by decide +kernel
theorem vX6_measured_X6 : ∀ w ∈ wsX60, w ∈ wsX6_measured := fun _ h => List.mem_cons_of_mem _ (List.mem_append_right _ h)
theorem uX6_measured_1 : Cond.fieldLink RX6 54 "SumMovedModel" "rows" "I" ∈ wsX6_measured := List.mem_of_getElem? (i := 1) rfl
theorem uX6_measured_2 : Cond.fieldLink RX6 7 "SumMovedModel" "month" "[I" ∈ wsX6_measured := List.mem_of_getElem? (i := 2) rfl
theorem uX6_measured_4 : Cond.fieldLink RX6 19 "SumMovedModel" "base" "[I" ∈ wsX6_measured := List.mem_of_getElem? (i := 4) rfl
theorem uX6_measured_3 : Cond.fieldLink RX6 16 "SumMovedModel" "top" "[I" ∈ wsX6_measured := List.mem_of_getElem? (i := 3) rfl
set_option maxRecDepth 100000 in
theorem kX6_measured_6 {p1 : Int32} {p2 : Int32} {p3 : Int32} {S : S6} (F : CallFix p m c cX6_measured 7 s args wsX6_measured RX6) (hz : gz D cI cJ cZ s) (hP : va_P D vwCl (w6 ad cI cZ S) s.heap) {K : Int32 × Int32 → Prop} (hK : ∀ x : Int32 × Int32, K x → match x with | (x4, x5) => ∀ ls : Array Slot, lv_has ls 7 [(0, .ref (ad 0)), (1, .int p1), (2, .int p2), (3, .int p3), (4, .int x4), (5, .int x5)] → W p l e rX6_measured s m args below meth c s.heap [] 0 0 QQ (F0 m 98 ls [])) : ∀ (nn : Nat) (x : Int32 × Int32), iter (sX6_measured_6 S p1 p2 p3 K) nn x → match x with | (x4, x5) => ∀ ls : Array Slot, lv_has ls 7 [(0, .ref (ad 0)), (1, .int p1), (2, .int p2), (3, .int p3), (4, .int x4), (5, .int x5)] → W p l e rX6_measured s m args below meth c s.heap [] 0 0 QQ (F0 m 6 ls []) := by
  refine iter_walk ?_
  rintro again6 ⟨x4, x5⟩ ih6 h ls hl
  have hK6 := hK
  refine lv_iload F.1 F.2.1 dX6_measured_6 (lv_at hl 5 rfl) ?_
  refine lv_aload_n F.1 F.2.1 dX6_measured_8 rfl (lv_at hl 0 rfl) ?_
  refine va_get (D := D) (ci := 4) (v := .int S.1) (C := RX6) (T := TX6) (N := 19) F.1 F.2.1 F.2.2.2.2 vX6_measured_X6 F.2.2.2.1 hz.1 hP 0 rfl rfl 0 (by decide) (F.2.2.2.2 _ uX6_measured_1) (fun _ h9 => h9) rfl dX6_measured_9 ?_
  refine lv_icmp_ge (tgt := 98) F.1 F.2.1 dX6_measured_12 (by decide) (fun hc => ?_) (fun hc => ?_)
  · have h := h.1 (hc)
    exact hK6 (x4, x5) h ls (lv_sub hl [0, 1, 2, 3, 4, 5] rfl)
  · have h := h.2 hc
    refine lv_iload_n F.1 F.2.1 dX6_measured_15 rfl (lv_at hl 3 rfl) ?_
    refine lv_iconst (v := (3 : Int32)) F.1 F.2.1 dX6_measured_16 (by decide) ?_
    refine lv_icmp_ge (tgt := 98) F.1 F.2.1 dX6_measured_17 (by decide) (fun hc => ?_) (fun hc => ?_)
    · have h := h.1 (hc)
      exact hK6 (x4, x5) h ls (lv_sub hl [0, 1, 2, 3, 4, 5] rfl)
    · have h := h.2 hc
      refine lv_aload_n F.1 F.2.1 dX6_measured_20 rfl (lv_at hl 0 rfl) ?_
      refine lv_iload F.1 F.2.1 dX6_measured_21 (lv_at hl 5 rfl) ?_
      refine lv_iload_n F.1 F.2.1 dX6_measured_23 rfl (lv_at hl 1 rfl) ?_
      refine vp_callSi (va_Run.run (va_runV (As := [.int x5, .int p1]) (rest := []) F (mX6_isIn (l := l) (D := D) (cI := cI) (cJ := cJ) (cZ := cZ) (ad := ad) h) (cwV 2 F.2.2.2.2 gX6_measured_X6_isIn rfl rfl rfl kV_X6_isIn ⟨Nat.le_of_ble_eq_true rfl, Nat.le_of_ble_eq_true rfl⟩) ⟨rp_blind, va_recv hz.1 hP (ci := 4) (q0 := 0) rfl rfl, rp_pre hz hP (.ref (ad 0) :: [.int x5, .int p1])⟩ rfl rfl hl.1 rfl (lv_room (Nat.le_of_ble_eq_true rfl)) dX6_measured_24 ⟨Nat.le_of_ble_eq_true rfl, Nat.le_of_ble_eq_true rfl⟩)) (fun r_1 h => ?_)
      obtain ⟨hbr_1, h⟩ := h
      refine lv_if_eq (tgt := 45) F.1 F.2.1 dX6_measured_27 (by decide) (fun hc => ?_) (fun hc => ?_)
      · have h := h.1 (hc)
        refine lv_iconst (v := (0 : Int32)) F.1 F.2.1 dX6_measured_45 (by decide) ?_
        refine lv_istore (lv' := [(6, .int (0 : Int32)), (0, .ref (ad 0)), (1, .int p1), (2, .int p2), (3, .int p3), (4, .int x4), (5, .int x5)]) F.1 F.2.1 dX6_measured_46 hl (by decide) rfl (fun ls hl => ?_)
        refine lv_iload F.1 F.2.1 dX6_measured_48 (lv_at hl 5 rfl) ?_
        refine lv_iload F.1 F.2.1 dX6_measured_50 (lv_at hl 0 rfl) ?_
        refine lv_if_ne (tgt := 59) F.1 F.2.1 dX6_measured_52 (by decide) (fun hc => ?_) (fun hc => ?_)
        · exact absurd hc (by decide)
        · refine lv_iconst (v := (0 : Int32)) F.1 F.2.1 dX6_measured_55 (by decide) ?_
          refine lv_goto (tgt := 89) F.1 F.2.1 dX6_measured_56 (by decide) ?_
          refine lv_iadd F.1 F.2.1 dX6_measured_89 ?_
          refine lv_istore (lv' := [(4, .int (x4 + (0 : Int32))), (6, .int (0 : Int32)), (0, .ref (ad 0)), (1, .int p1), (2, .int p2), (3, .int p3), (5, .int x5)]) F.1 F.2.1 dX6_measured_90 hl (by decide) rfl (fun ls hl => ?_)
          refine lv_iinc (v := x5 + 1) (lv' := [(5, .int (x5 + 1)), (4, .int (x4 + (0 : Int32))), (6, .int (0 : Int32)), (0, .ref (ad 0)), (1, .int p1), (2, .int p2), (3, .int p3)]) F.1 F.2.1 dX6_measured_92 hl (k := 6) rfl rfl (by decide) rfl (fun ls hl => ?_)
          refine lv_goto (tgt := 6) F.1 F.2.1 dX6_measured_95 (by decide) ?_
          exact ih6 (x4 + (0 : Int32), x5 + 1) h ls (lv_sub hl [3, 4, 5, 6, 1, 0] rfl)
      · have h := h.2 hc
        refine lv_aload_n F.1 F.2.1 dX6_measured_30 rfl (lv_at hl 0 rfl) ?_
        refine va_get (D := D) (ci := 4) (v := .ref (ad 1)) (C := RX6) (T := TX6) (N := 19) F.1 F.2.1 F.2.2.2.2 vX6_measured_X6 F.2.2.2.1 hz.1 hP 0 rfl rfl 1 (by decide) (F.2.2.2.2 _ uX6_measured_2) (fun _ h9 => h9) rfl dX6_measured_31 ?_
        refine lv_iload F.1 F.2.1 dX6_measured_34 (lv_at hl 5 rfl) ?_
        refine va_iald F.1 F.2.1 hz.1 hP 1 0 rfl rfl h.1 dX6_measured_36 ?_
        have h := h.2
        refine lv_iload_n F.1 F.2.1 dX6_measured_37 rfl (lv_at hl 2 rfl) ?_
        refine lv_icmp_ne (tgt := 45) F.1 F.2.1 dX6_measured_38 (by decide) (fun hc => ?_) (fun hc => ?_)
        · have h := h.2 hc
          refine lv_iconst (v := (0 : Int32)) F.1 F.2.1 dX6_measured_45 (by decide) ?_
          refine lv_istore (lv' := [(6, .int (0 : Int32)), (0, .ref (ad 0)), (1, .int p1), (2, .int p2), (3, .int p3), (4, .int x4), (5, .int x5)]) F.1 F.2.1 dX6_measured_46 hl (by decide) rfl (fun ls hl => ?_)
          refine lv_iload F.1 F.2.1 dX6_measured_48 (lv_at hl 5 rfl) ?_
          refine lv_iload F.1 F.2.1 dX6_measured_50 (lv_at hl 0 rfl) ?_
          refine lv_if_ne (tgt := 59) F.1 F.2.1 dX6_measured_52 (by decide) (fun hc => ?_) (fun hc => ?_)
          · exact absurd hc (by decide)
          · refine lv_iconst (v := (0 : Int32)) F.1 F.2.1 dX6_measured_55 (by decide) ?_
            refine lv_goto (tgt := 89) F.1 F.2.1 dX6_measured_56 (by decide) ?_
            refine lv_iadd F.1 F.2.1 dX6_measured_89 ?_
            refine lv_istore (lv' := [(4, .int (x4 + (0 : Int32))), (6, .int (0 : Int32)), (0, .ref (ad 0)), (1, .int p1), (2, .int p2), (3, .int p3), (5, .int x5)]) F.1 F.2.1 dX6_measured_90 hl (by decide) rfl (fun ls hl => ?_)
            refine lv_iinc (v := x5 + 1) (lv' := [(5, .int (x5 + 1)), (4, .int (x4 + (0 : Int32))), (6, .int (0 : Int32)), (0, .ref (ad 0)), (1, .int p1), (2, .int p2), (3, .int p3)]) F.1 F.2.1 dX6_measured_92 hl (k := 6) rfl rfl (by decide) rfl (fun ls hl => ?_)
            refine lv_goto (tgt := 6) F.1 F.2.1 dX6_measured_95 (by decide) ?_
            exact ih6 (x4 + (0 : Int32), x5 + 1) h ls (lv_sub hl [3, 4, 5, 6, 1, 0] rfl)
        · have h := h.1 (hc)
          refine lv_iconst (v := (1 : Int32)) F.1 F.2.1 dX6_measured_41 (by decide) ?_
          refine lv_goto (tgt := 46) F.1 F.2.1 dX6_measured_42 (by decide) ?_
          refine lv_istore (lv' := [(6, .int (1 : Int32)), (0, .ref (ad 0)), (1, .int p1), (2, .int p2), (3, .int p3), (4, .int x4), (5, .int x5)]) F.1 F.2.1 dX6_measured_46 hl (by decide) rfl (fun ls hl => ?_)
          refine lv_iload F.1 F.2.1 dX6_measured_48 (lv_at hl 5 rfl) ?_
          refine lv_iload F.1 F.2.1 dX6_measured_50 (lv_at hl 0 rfl) ?_
          refine lv_if_ne (tgt := 59) F.1 F.2.1 dX6_measured_52 (by decide) (fun hc => ?_) (fun hc => ?_)
          · refine lv_iload_n F.1 F.2.1 dX6_measured_59 rfl (lv_at hl 4 rfl) ?_
            refine lv_if_ne (tgt := 73) F.1 F.2.1 dX6_measured_60 (by decide) (fun hc => ?_) (fun hc => ?_)
            · have h := h.2 hc
              refine lv_iload_n F.1 F.2.1 dX6_measured_73 rfl (lv_at hl 4 rfl) ?_
              refine lv_iconst (v := (1 : Int32)) F.1 F.2.1 dX6_measured_74 (by decide) ?_
              refine lv_icmp_ne (tgt := 82) F.1 F.2.1 dX6_measured_75 (by decide) (fun hc => ?_) (fun hc => ?_)
              · have h := h.2 hc
                refine lv_aload_n F.1 F.2.1 dX6_measured_82 rfl (lv_at hl 1 rfl) ?_
                refine va_get (D := D) (ci := 4) (v := .ref (ad 4)) (C := RX6) (T := TX6) (N := 19) F.1 F.2.1 F.2.2.2.2 vX6_measured_X6 F.2.2.2.1 hz.1 hP 0 rfl rfl 4 (by decide) (F.2.2.2.2 _ uX6_measured_4) (fun _ h9 => h9) rfl dX6_measured_83 ?_
                refine lv_iload F.1 F.2.1 dX6_measured_86 (lv_at hl 6 rfl) ?_
                refine va_iald F.1 F.2.1 hz.1 hP 4 0 rfl rfl h.1 dX6_measured_88 ?_
                have h := h.2
                refine lv_iadd F.1 F.2.1 dX6_measured_89 ?_
                refine lv_topi (fun y_2 ey_2 => ?_)
                have h := h y_2 ey_2
                refine lv_istore (lv' := [(4, .int y_2), (6, .int (1 : Int32)), (0, .ref (ad 0)), (1, .int p1), (2, .int p2), (3, .int p3), (5, .int x5)]) F.1 F.2.1 dX6_measured_90 hl (by decide) rfl (fun ls hl => ?_)
                refine lv_iinc (v := x5 + 1) (lv' := [(5, .int (x5 + 1)), (4, .int y_2), (6, .int (1 : Int32)), (0, .ref (ad 0)), (1, .int p1), (2, .int p2), (3, .int p3)]) F.1 F.2.1 dX6_measured_92 hl (k := 6) rfl rfl (by decide) rfl (fun ls hl => ?_)
                refine lv_goto (tgt := 6) F.1 F.2.1 dX6_measured_95 (by decide) ?_
                exact ih6 (y_2, x5 + 1) h ls (lv_sub hl [3, 4, 5, 6, 1, 0] rfl)
              · have h := h.1 (hc)
                refine lv_iconst (v := (1 : Int32)) F.1 F.2.1 dX6_measured_78 (by decide) ?_
                refine lv_goto (tgt := 89) F.1 F.2.1 dX6_measured_79 (by decide) ?_
                refine lv_iadd F.1 F.2.1 dX6_measured_89 ?_
                refine lv_istore (lv' := [(4, .int (x4 + (1 : Int32))), (6, .int (1 : Int32)), (0, .ref (ad 0)), (1, .int p1), (2, .int p2), (3, .int p3), (5, .int x5)]) F.1 F.2.1 dX6_measured_90 hl (by decide) rfl (fun ls hl => ?_)
                refine lv_iinc (v := x5 + 1) (lv' := [(5, .int (x5 + 1)), (4, .int (x4 + (1 : Int32))), (6, .int (1 : Int32)), (0, .ref (ad 0)), (1, .int p1), (2, .int p2), (3, .int p3)]) F.1 F.2.1 dX6_measured_92 hl (k := 6) rfl rfl (by decide) rfl (fun ls hl => ?_)
                refine lv_goto (tgt := 6) F.1 F.2.1 dX6_measured_95 (by decide) ?_
                exact ih6 (x4 + (1 : Int32), x5 + 1) h ls (lv_sub hl [3, 4, 5, 6, 1, 0] rfl)
            · have h := h.1 (hc)
              refine lv_aload_n F.1 F.2.1 dX6_measured_63 rfl (lv_at hl 1 rfl) ?_
              refine va_get (D := D) (ci := 4) (v := .ref (ad 3)) (C := RX6) (T := TX6) (N := 19) F.1 F.2.1 F.2.2.2.2 vX6_measured_X6 F.2.2.2.1 hz.1 hP 0 rfl rfl 3 (by decide) (F.2.2.2.2 _ uX6_measured_3) (fun _ h9 => h9) rfl dX6_measured_64 ?_
              refine lv_iload F.1 F.2.1 dX6_measured_67 (lv_at hl 6 rfl) ?_
              refine va_iald F.1 F.2.1 hz.1 hP 3 0 rfl rfl h.1 dX6_measured_69 ?_
              have h := h.2
              refine lv_goto (tgt := 89) F.1 F.2.1 dX6_measured_70 (by decide) ?_
              refine lv_iadd F.1 F.2.1 dX6_measured_89 ?_
              refine lv_topi (fun y_3 ey_3 => ?_)
              have h := h y_3 ey_3
              refine lv_istore (lv' := [(4, .int y_3), (6, .int (1 : Int32)), (0, .ref (ad 0)), (1, .int p1), (2, .int p2), (3, .int p3), (5, .int x5)]) F.1 F.2.1 dX6_measured_90 hl (by decide) rfl (fun ls hl => ?_)
              refine lv_iinc (v := x5 + 1) (lv' := [(5, .int (x5 + 1)), (4, .int y_3), (6, .int (1 : Int32)), (0, .ref (ad 0)), (1, .int p1), (2, .int p2), (3, .int p3)]) F.1 F.2.1 dX6_measured_92 hl (k := 6) rfl rfl (by decide) rfl (fun ls hl => ?_)
              refine lv_goto (tgt := 6) F.1 F.2.1 dX6_measured_95 (by decide) ?_
              exact ih6 (y_3, x5 + 1) h ls (lv_sub hl [3, 4, 5, 6, 1, 0] rfl)
          · exact absurd hc (by decide)
set_option maxRecDepth 100000 in
theorem kX6_measured_101 {p1 : Int32} {p2 : Int32} {p3 : Int32} {S : S6} (F : CallFix p m c cX6_measured 7 s args wsX6_measured RX6) (hz : gz D cI cJ cZ s) (hP : va_P D vwCl (w6 ad cI cZ S) s.heap) {K : Int32 × Int32 → Prop} (hK : ∀ x : Int32 × Int32, K x → match x with | (x4, x5) => ∀ ls : Array Slot, lv_has ls 7 [(0, .ref (ad 0)), (1, .int p1), (2, .int p2), (3, .int p3), (4, .int x4), (5, .int x5)] → W p l e rX6_measured s m args below meth c s.heap [] 0 0 QQ (F0 m 140 ls [])) : ∀ (nn : Nat) (x : Int32 × Int32), iter (sX6_measured_101 S p1 p2 p3 K) nn x → match x with | (x4, x5) => ∀ ls : Array Slot, lv_has ls 7 [(0, .ref (ad 0)), (1, .int p1), (2, .int p2), (3, .int p3), (4, .int x4), (5, .int x5)] → W p l e rX6_measured s m args below meth c s.heap [] 0 0 QQ (F0 m 101 ls []) := by
  refine iter_walk ?_
  rintro again101 ⟨x4, x5⟩ ih101 h ls hl
  have hK101 := hK
  refine lv_iload F.1 F.2.1 dX6_measured_101 (lv_at hl 5 rfl) ?_
  refine lv_bipush (v := (64 : Int32)) F.1 F.2.1 dX6_measured_103 (by decide) ?_
  refine lv_icmp_ge (tgt := 140) F.1 F.2.1 dX6_measured_105 (by decide) (fun hc => ?_) (fun hc => ?_)
  · have h := h.1 (hc)
    exact hK101 (x4, x5) h ls (lv_sub hl [0, 1, 2, 3, 4, 5] rfl)
  · have h := h.2 hc
    refine lv_iload_n F.1 F.2.1 dX6_measured_108 rfl (lv_at hl 3 rfl) ?_
    refine lv_iconst (v := (3 : Int32)) F.1 F.2.1 dX6_measured_109 (by decide) ?_
    refine lv_icmp_ne (tgt := 140) F.1 F.2.1 dX6_measured_110 (by decide) (fun hc => ?_) (fun hc => ?_)
    · have h := h.2 hc
      exact hK101 (x4, x5) h ls (lv_sub hl [0, 1, 2, 3, 4, 5] rfl)
    · have h := h.1 (hc)
      refine lv_iload F.1 F.2.1 dX6_measured_113 (lv_at hl 4 rfl) ?_
      refine lv_aload_n F.1 F.2.1 dX6_measured_115 rfl (lv_at hl 0 rfl) ?_
      refine lv_iload_n F.1 F.2.1 dX6_measured_116 rfl (lv_at hl 1 rfl) ?_
      refine lv_iload_n F.1 F.2.1 dX6_measured_117 rfl (lv_at hl 2 rfl) ?_
      refine lv_iload F.1 F.2.1 dX6_measured_118 (lv_at hl 5 rfl) ?_
      refine vp_callSi (va_Run.run (va_runV (As := [.int p1, .int p2, .int x5]) (rest := [.int x4]) F (mX6_hasRow (l := l) (D := D) (cI := cI) (cJ := cJ) (cZ := cZ) (ad := ad) h) (cwV 3 F.2.2.2.2 gX6_measured_X6_hasRow rfl rfl rfl kV_X6_hasRow ⟨Nat.le_of_ble_eq_true rfl, Nat.le_of_ble_eq_true rfl⟩) ⟨rp_blind, va_recv hz.1 hP (ci := 4) (q0 := 0) rfl rfl, rp_pre hz hP (.ref (ad 0) :: [.int p1, .int p2, .int x5])⟩ rfl rfl hl.1 rfl (lv_room (Nat.le_of_ble_eq_true rfl)) dX6_measured_120 ⟨Nat.le_of_ble_eq_true rfl, Nat.le_of_ble_eq_true rfl⟩)) (fun r_4 h => ?_)
      obtain ⟨hbr_4, h⟩ := h
      refine lv_if_eq (tgt := 130) F.1 F.2.1 dX6_measured_123 (by decide) (fun hc => ?_) (fun hc => ?_)
      · have h := h.1 (hc)
        refine lv_iconst (v := (0 : Int32)) F.1 F.2.1 dX6_measured_130 (by decide) ?_
        refine lv_iadd F.1 F.2.1 dX6_measured_131 ?_
        refine lv_istore (lv' := [(4, .int (x4 + (0 : Int32))), (0, .ref (ad 0)), (1, .int p1), (2, .int p2), (3, .int p3), (5, .int x5)]) F.1 F.2.1 dX6_measured_132 hl (by decide) rfl (fun ls hl => ?_)
        refine lv_iinc (v := x5 + 1) (lv' := [(5, .int (x5 + 1)), (4, .int (x4 + (0 : Int32))), (0, .ref (ad 0)), (1, .int p1), (2, .int p2), (3, .int p3)]) F.1 F.2.1 dX6_measured_134 hl (k := 5) rfl rfl (by decide) rfl (fun ls hl => ?_)
        refine lv_goto (tgt := 101) F.1 F.2.1 dX6_measured_137 (by decide) ?_
        exact ih101 (x4 + (0 : Int32), x5 + 1) h ls (lv_sub hl [2, 3, 4, 5, 1, 0] rfl)
      · have h := h.2 hc
        refine lv_iconst (v := (1 : Int32)) F.1 F.2.1 dX6_measured_126 (by decide) ?_
        refine lv_goto (tgt := 131) F.1 F.2.1 dX6_measured_127 (by decide) ?_
        refine lv_iadd F.1 F.2.1 dX6_measured_131 ?_
        refine lv_istore (lv' := [(4, .int (x4 + (1 : Int32))), (0, .ref (ad 0)), (1, .int p1), (2, .int p2), (3, .int p3), (5, .int x5)]) F.1 F.2.1 dX6_measured_132 hl (by decide) rfl (fun ls hl => ?_)
        refine lv_iinc (v := x5 + 1) (lv' := [(5, .int (x5 + 1)), (4, .int (x4 + (1 : Int32))), (0, .ref (ad 0)), (1, .int p1), (2, .int p2), (3, .int p3)]) F.1 F.2.1 dX6_measured_134 hl (k := 5) rfl rfl (by decide) rfl (fun ls hl => ?_)
        refine lv_goto (tgt := 101) F.1 F.2.1 dX6_measured_137 (by decide) ?_
        exact ih101 (x4 + (1 : Int32), x5 + 1) h ls (lv_sub hl [2, 3, 4, 5, 1, 0] rfl)
set_option maxRecDepth 100000 in
theorem bX6_measured {a1 : Int32} {a2 : Int32} {a3 : Int32} {S : S6} {Q : Int32 → Prop} (F : CallFix p m c cX6_measured 7 s args wsX6_measured RX6) (hz : gz D cI cJ cZ s) (hP : va_P D vwCl (w6 ad cI cZ S) s.heap) (hret : ∀ (v : Int32) (pc : Nat) (ls : Array Slot), Q v → decode cX6_measured pc = .ok (.ireturn, 1) → W p l e rX6_measured s m args below meth c s.heap [] 0 0 QQ (F0 m pc ls [.int v])) (h : wX6_measured S a1 a2 a3 Q) : ∀ ls : Array Slot, lv_has ls 7 [(0, .ref (ad 0)), (1, .int a1), (2, .int a2), (3, .int a3)] → W p l e rX6_measured s m args below meth c s.heap [] 0 0 QQ (F0 m 0 ls []) := by
  intro ls hl
  refine lv_iconst (v := (0 : Int32)) F.1 F.2.1 dX6_measured_0 (by decide) ?_
  refine lv_istore (lv' := [(4, .int (0 : Int32)), (0, .ref (ad 0)), (1, .int a1), (2, .int a2), (3, .int a3)]) F.1 F.2.1 dX6_measured_1 hl (by decide) rfl (fun ls hl => ?_)
  refine lv_iconst (v := (0 : Int32)) F.1 F.2.1 dX6_measured_3 (by decide) ?_
  refine lv_istore (lv' := [(5, .int (0 : Int32)), (4, .int (0 : Int32)), (0, .ref (ad 0)), (1, .int a1), (2, .int a2), (3, .int a3)]) F.1 F.2.1 dX6_measured_4 hl (by decide) rfl (fun ls hl => ?_)
  obtain ⟨nn, h⟩ := h
  refine kX6_measured_6 F hz hP (fun ⟨x4, x5⟩ h ls hl => ?_) nn _ h ls (lv_sub hl [2, 3, 4, 5, 1, 0] rfl)
  refine lv_iconst (v := (0 : Int32)) F.1 F.2.1 dX6_measured_98 (by decide) ?_
  refine lv_istore (lv' := [(5, .int (0 : Int32)), (0, .ref (ad 0)), (1, .int a1), (2, .int a2), (3, .int a3), (4, .int x4)]) F.1 F.2.1 dX6_measured_99 hl (by decide) rfl (fun ls hl => ?_)
  obtain ⟨nn, h⟩ := h
  refine kX6_measured_101 F hz hP (fun ⟨x4, x5⟩ h ls hl => ?_) nn _ h ls (lv_sub hl [1, 2, 3, 4, 5, 0] rfl)
  refine lv_iload F.1 F.2.1 dX6_measured_140 (lv_at hl 4 rfl) ?_
  exact hret _ _ _ h dX6_measured_142
theorem mX6_measured {l : Launch} {D : va_G} {cI cJ cZ : ClassId} {ad : Nat → Nat} {S : S6} {a1 : Int32} {a2 : Int32} {a3 : Int32} {Q : Int32 → Prop} (h : wX6_measured S a1 a2 a3 Q) : Met l yX6_measured wsX6_measured rX6_measured (va_Pc [.ref (ad 0), .int a1, .int a2, .int a3] (rp D cI cJ cZ (w6 ad cI cZ S))) (vp_Si Q) 0 0 (fun _ => False) :=
  enter_i (by decide +kernel) rfl (Nat.le_of_ble_eq_true rfl) (fun p e s m args below meth c QQ F hz hret => bX6_measured F hz.1 hz.2 hret h)
abbrev rX6_changed : Room := { frames := 4, cells := 0, slots := 0, locals := 95 }
theorem kV_X6_changed : yX6_changed.cls = RX6 ∧ yX6_changed.cls ≠ "java/lang/invoke/MethodHandle" ∧ yX6_changed.cls ≠ "java/lang/invoke/VarHandle" ∧ (parseMethodDescriptor yX6_changed.desc).map (fun d => d.parameters.length) = some 2 := by decide +kernel
set_option maxRecDepth 100000 in
theorem bX6_changed {a1 : Int32} {a2 : Int32} {S : S6} {Q : Int32 → Prop} (F : CallFix p m c cX6_changed 3 s args wsX6_changed RX6) (hz : gz D cI cJ cZ s) (hP : va_P D vwCl (w6 ad cI cZ S) s.heap) (hret : ∀ (v : Int32) (pc : Nat) (ls : Array Slot), Q v → decode cX6_changed pc = .ok (.ireturn, 1) → W p l e rX6_changed s m args below meth c s.heap [] 0 0 QQ (F0 m pc ls [.int v])) (h : wX6_changed S a1 a2 Q) : ∀ ls : Array Slot, lv_has ls 3 [(0, .ref (ad 0)), (1, .int a1), (2, .int a2)] → W p l e rX6_changed s m args below meth c s.heap [] 0 0 QQ (F0 m 0 ls []) := by
  intro ls hl
  refine lv_aload_n F.1 F.2.1 dX6_changed_0 rfl (lv_at hl 0 rfl) ?_
  refine lv_iload_n F.1 F.2.1 dX6_changed_1 rfl (lv_at hl 1 rfl) ?_
  refine lv_iconst (v := (1 : Int32)) F.1 F.2.1 dX6_changed_2 (by decide) ?_
  refine lv_iload_n F.1 F.2.1 dX6_changed_3 rfl (lv_at hl 2 rfl) ?_
  refine vp_callSi (va_Run.run (va_runV (As := [.int a1, .int (1 : Int32), .int a2]) (rest := []) F (mX6_measured (l := l) (D := D) (cI := cI) (cJ := cJ) (cZ := cZ) (ad := ad) h) (cwV 3 F.2.2.2.2 gX6_changed_X6_measured rfl rfl rfl kV_X6_measured ⟨Nat.le_of_ble_eq_true rfl, Nat.le_of_ble_eq_true rfl⟩) ⟨rp_blind, va_recv hz.1 hP (ci := 4) (q0 := 0) rfl rfl, rp_pre hz hP (.ref (ad 0) :: [.int a1, .int (1 : Int32), .int a2])⟩ rfl rfl hl.1 rfl (lv_room (Nat.le_of_ble_eq_true rfl)) dX6_changed_4 ⟨Nat.le_of_ble_eq_true rfl, Nat.le_of_ble_eq_true rfl⟩)) (fun r_1 h => ?_)
  refine lv_aload_n F.1 F.2.1 dX6_changed_7 rfl (lv_at hl 0 rfl) ?_
  refine lv_iload_n F.1 F.2.1 dX6_changed_8 rfl (lv_at hl 1 rfl) ?_
  refine lv_iconst (v := (0 : Int32)) F.1 F.2.1 dX6_changed_9 (by decide) ?_
  refine lv_iload_n F.1 F.2.1 dX6_changed_10 rfl (lv_at hl 2 rfl) ?_
  refine vp_callSi (va_Run.run (va_runV (As := [.int a1, .int (0 : Int32), .int a2]) (rest := [.int r_1]) F (mX6_measured (l := l) (D := D) (cI := cI) (cJ := cJ) (cZ := cZ) (ad := ad) h) (cwV 3 F.2.2.2.2 gX6_changed_X6_measured rfl rfl rfl kV_X6_measured ⟨Nat.le_of_ble_eq_true rfl, Nat.le_of_ble_eq_true rfl⟩) ⟨rp_blind, va_recv hz.1 hP (ci := 4) (q0 := 0) rfl rfl, rp_pre hz hP (.ref (ad 0) :: [.int a1, .int (0 : Int32), .int a2])⟩ rfl rfl hl.1 rfl (lv_room (Nat.le_of_ble_eq_true rfl)) dX6_changed_11 ⟨Nat.le_of_ble_eq_true rfl, Nat.le_of_ble_eq_true rfl⟩)) (fun r_2 h => ?_)
  refine lv_isub F.1 F.2.1 dX6_changed_14 ?_
  exact hret _ _ _ h dX6_changed_15
theorem mX6_changed {l : Launch} {D : va_G} {cI cJ cZ : ClassId} {ad : Nat → Nat} {S : S6} {a1 : Int32} {a2 : Int32} {Q : Int32 → Prop} (h : wX6_changed S a1 a2 Q) : Met l yX6_changed wsX6_changed rX6_changed (va_Pc [.ref (ad 0), .int a1, .int a2] (rp D cI cJ cZ (w6 ad cI cZ S))) (vp_Si Q) 0 0 (fun _ => False) :=
  enter_i (by decide +kernel) rfl (Nat.le_of_ble_eq_true rfl) (fun p e s m args below meth c QQ F hz hret => bX6_changed F hz.1 hz.2 hret h)
abbrev rX6_valuesOf : Room := { frames := 0, cells := 0, slots := 0, locals := 0 }
theorem kV_X6_valuesOf : yX6_valuesOf.cls = RX6 ∧ yX6_valuesOf.cls ≠ "java/lang/invoke/MethodHandle" ∧ yX6_valuesOf.cls ≠ "java/lang/invoke/VarHandle" ∧ (parseMethodDescriptor yX6_valuesOf.desc).map (fun d => d.parameters.length) = some 3 := by decide +kernel
theorem vX6_valuesOf_X6 : ∀ w ∈ wsX60, w ∈ wsX6_valuesOf := fun _ h => List.mem_cons_of_mem _ (List.mem_append_right _ h)
theorem uX6_valuesOf_1 : Cond.fieldLink RX6 54 "SumMovedModel" "rows" "I" ∈ wsX6_valuesOf := List.mem_of_getElem? (i := 1) rfl
theorem uX6_valuesOf_2 : Cond.fieldLink RX6 28 "SumMovedModel" "isStruck" "[Z" ∈ wsX6_valuesOf := List.mem_of_getElem? (i := 2) rfl
theorem uX6_valuesOf_3 : Cond.fieldLink RX6 22 "SumMovedModel" "member" "[I" ∈ wsX6_valuesOf := List.mem_of_getElem? (i := 3) rfl
theorem uX6_valuesOf_4 : Cond.fieldLink RX6 7 "SumMovedModel" "month" "[I" ∈ wsX6_valuesOf := List.mem_of_getElem? (i := 4) rfl
theorem uX6_valuesOf_5 : Cond.fieldLink RX6 25 "SumMovedModel" "mark" "[I" ∈ wsX6_valuesOf := List.mem_of_getElem? (i := 5) rfl
set_option maxRecDepth 100000 in
theorem kX6_valuesOf_6 {p1 : Int32} {p2 : Int32} {p3 : Int32} {S : S6} (F : CallFix p m c cX6_valuesOf 6 s args wsX6_valuesOf RX6) (hz : gz D cI cJ cZ s) (hP : va_P D vwCl (w6 ad cI cZ S) s.heap) {K : Int32 × Int32 → Prop} (hK : ∀ x : Int32 × Int32, K x → match x with | (x4, x5) => ∀ ls : Array Slot, lv_has ls 6 [(0, .ref (ad 0)), (1, .int p1), (2, .int p2), (3, .int p3), (4, .int x4), (5, .int x5)] → W p l e rX6_valuesOf s m args below meth c s.heap [] 0 0 QQ (F0 m 75 ls [])) : ∀ (nn : Nat) (x : Int32 × Int32), iter (sX6_valuesOf_6 S p1 p2 p3 K) nn x → match x with | (x4, x5) => ∀ ls : Array Slot, lv_has ls 6 [(0, .ref (ad 0)), (1, .int p1), (2, .int p2), (3, .int p3), (4, .int x4), (5, .int x5)] → W p l e rX6_valuesOf s m args below meth c s.heap [] 0 0 QQ (F0 m 6 ls []) := by
  refine iter_walk ?_
  rintro again6 ⟨x4, x5⟩ ih6 h ls hl
  have hK6 := hK
  refine lv_iload F.1 F.2.1 dX6_valuesOf_6 (lv_at hl 5 rfl) ?_
  refine lv_aload_n F.1 F.2.1 dX6_valuesOf_8 rfl (lv_at hl 0 rfl) ?_
  refine va_get (D := D) (ci := 4) (v := .int S.1) (C := RX6) (T := TX6) (N := 19) F.1 F.2.1 F.2.2.2.2 vX6_valuesOf_X6 F.2.2.2.1 hz.1 hP 0 rfl rfl 0 (by decide) (F.2.2.2.2 _ uX6_valuesOf_1) (fun _ h9 => h9) rfl dX6_valuesOf_9 ?_
  refine lv_icmp_ge (tgt := 75) F.1 F.2.1 dX6_valuesOf_12 (by decide) (fun hc => ?_) (fun hc => ?_)
  · have h := h.1 (hc)
    exact hK6 (x4, x5) h ls (lv_sub hl [0, 1, 2, 3, 4, 5] rfl)
  · have h := h.2 hc
    refine lv_iload F.1 F.2.1 dX6_valuesOf_15 (lv_at hl 4 rfl) ?_
    refine lv_aload_n F.1 F.2.1 dX6_valuesOf_17 rfl (lv_at hl 0 rfl) ?_
    refine va_get (D := D) (ci := 4) (v := .ref (ad 7)) (C := RX6) (T := TX6) (N := 19) F.1 F.2.1 F.2.2.2.2 vX6_valuesOf_X6 F.2.2.2.1 hz.1 hP 0 rfl rfl 7 (by decide) (F.2.2.2.2 _ uX6_valuesOf_2) (fun _ h9 => h9) rfl dX6_valuesOf_18 ?_
    refine lv_iload F.1 F.2.1 dX6_valuesOf_21 (lv_at hl 5 rfl) ?_
    refine va_zald F.1 F.2.1 hz.1 hP 7 2 rfl rfl h.1 dX6_valuesOf_23 ?_
    have h := h.2
    refine lv_if_ne (tgt := 65) F.1 F.2.1 dX6_valuesOf_24 (by decide) (fun hc => ?_) (fun hc => ?_)
    · have h := h.2 hc
      refine lv_iconst (v := (0 : Int32)) F.1 F.2.1 dX6_valuesOf_65 (by decide) ?_
      refine lv_ior F.1 F.2.1 dX6_valuesOf_66 ?_
      refine lv_istore (lv' := [(4, .int (x4 ||| (0 : Int32))), (0, .ref (ad 0)), (1, .int p1), (2, .int p2), (3, .int p3), (5, .int x5)]) F.1 F.2.1 dX6_valuesOf_67 hl (by decide) rfl (fun ls hl => ?_)
      refine lv_iinc (v := x5 + 1) (lv' := [(5, .int (x5 + 1)), (4, .int (x4 ||| (0 : Int32))), (0, .ref (ad 0)), (1, .int p1), (2, .int p2), (3, .int p3)]) F.1 F.2.1 dX6_valuesOf_69 hl (k := 5) rfl rfl (by decide) rfl (fun ls hl => ?_)
      refine lv_goto (tgt := 6) F.1 F.2.1 dX6_valuesOf_72 (by decide) ?_
      exact ih6 (x4 ||| (0 : Int32), x5 + 1) h ls (lv_sub hl [2, 3, 4, 5, 1, 0] rfl)
    · have h := h.1 (hc)
      refine lv_aload_n F.1 F.2.1 dX6_valuesOf_27 rfl (lv_at hl 0 rfl) ?_
      refine va_get (D := D) (ci := 4) (v := .ref (ad 5)) (C := RX6) (T := TX6) (N := 19) F.1 F.2.1 F.2.2.2.2 vX6_valuesOf_X6 F.2.2.2.1 hz.1 hP 0 rfl rfl 5 (by decide) (F.2.2.2.2 _ uX6_valuesOf_3) (fun _ h9 => h9) rfl dX6_valuesOf_28 ?_
      refine lv_iload F.1 F.2.1 dX6_valuesOf_31 (lv_at hl 5 rfl) ?_
      refine va_iald F.1 F.2.1 hz.1 hP 5 0 rfl rfl h.1 dX6_valuesOf_33 ?_
      have h := h.2
      refine lv_iload_n F.1 F.2.1 dX6_valuesOf_34 rfl (lv_at hl 2 rfl) ?_
      refine lv_icmp_ne (tgt := 65) F.1 F.2.1 dX6_valuesOf_35 (by decide) (fun hc => ?_) (fun hc => ?_)
      · have h := h.2 hc
        refine lv_iconst (v := (0 : Int32)) F.1 F.2.1 dX6_valuesOf_65 (by decide) ?_
        refine lv_ior F.1 F.2.1 dX6_valuesOf_66 ?_
        refine lv_istore (lv' := [(4, .int (x4 ||| (0 : Int32))), (0, .ref (ad 0)), (1, .int p1), (2, .int p2), (3, .int p3), (5, .int x5)]) F.1 F.2.1 dX6_valuesOf_67 hl (by decide) rfl (fun ls hl => ?_)
        refine lv_iinc (v := x5 + 1) (lv' := [(5, .int (x5 + 1)), (4, .int (x4 ||| (0 : Int32))), (0, .ref (ad 0)), (1, .int p1), (2, .int p2), (3, .int p3)]) F.1 F.2.1 dX6_valuesOf_69 hl (k := 5) rfl rfl (by decide) rfl (fun ls hl => ?_)
        refine lv_goto (tgt := 6) F.1 F.2.1 dX6_valuesOf_72 (by decide) ?_
        exact ih6 (x4 ||| (0 : Int32), x5 + 1) h ls (lv_sub hl [2, 3, 4, 5, 1, 0] rfl)
      · have h := h.1 (hc)
        refine lv_aload_n F.1 F.2.1 dX6_valuesOf_38 rfl (lv_at hl 0 rfl) ?_
        refine va_get (D := D) (ci := 4) (v := .ref (ad 1)) (C := RX6) (T := TX6) (N := 19) F.1 F.2.1 F.2.2.2.2 vX6_valuesOf_X6 F.2.2.2.1 hz.1 hP 0 rfl rfl 1 (by decide) (F.2.2.2.2 _ uX6_valuesOf_4) (fun _ h9 => h9) rfl dX6_valuesOf_39 ?_
        refine lv_iload F.1 F.2.1 dX6_valuesOf_42 (lv_at hl 5 rfl) ?_
        refine va_iald F.1 F.2.1 hz.1 hP 1 0 rfl rfl h.1 dX6_valuesOf_44 ?_
        have h := h.2
        refine lv_iload_n F.1 F.2.1 dX6_valuesOf_45 rfl (lv_at hl 3 rfl) ?_
        refine lv_icmp_ne (tgt := 65) F.1 F.2.1 dX6_valuesOf_46 (by decide) (fun hc => ?_) (fun hc => ?_)
        · have h := h.2 hc
          refine lv_iconst (v := (0 : Int32)) F.1 F.2.1 dX6_valuesOf_65 (by decide) ?_
          refine lv_ior F.1 F.2.1 dX6_valuesOf_66 ?_
          refine lv_istore (lv' := [(4, .int (x4 ||| (0 : Int32))), (0, .ref (ad 0)), (1, .int p1), (2, .int p2), (3, .int p3), (5, .int x5)]) F.1 F.2.1 dX6_valuesOf_67 hl (by decide) rfl (fun ls hl => ?_)
          refine lv_iinc (v := x5 + 1) (lv' := [(5, .int (x5 + 1)), (4, .int (x4 ||| (0 : Int32))), (0, .ref (ad 0)), (1, .int p1), (2, .int p2), (3, .int p3)]) F.1 F.2.1 dX6_valuesOf_69 hl (k := 5) rfl rfl (by decide) rfl (fun ls hl => ?_)
          refine lv_goto (tgt := 6) F.1 F.2.1 dX6_valuesOf_72 (by decide) ?_
          exact ih6 (x4 ||| (0 : Int32), x5 + 1) h ls (lv_sub hl [2, 3, 4, 5, 1, 0] rfl)
        · have h := h.1 (hc)
          refine lv_iconst (v := (1 : Int32)) F.1 F.2.1 dX6_valuesOf_49 (by decide) ?_
          refine lv_aload_n F.1 F.2.1 dX6_valuesOf_50 rfl (lv_at hl 0 rfl) ?_
          refine va_get (D := D) (ci := 4) (v := .ref (ad 6)) (C := RX6) (T := TX6) (N := 19) F.1 F.2.1 F.2.2.2.2 vX6_valuesOf_X6 F.2.2.2.1 hz.1 hP 0 rfl rfl 6 (by decide) (F.2.2.2.2 _ uX6_valuesOf_5) (fun _ h9 => h9) rfl dX6_valuesOf_51 ?_
          refine lv_iconst (v := (3 : Int32)) F.1 F.2.1 dX6_valuesOf_54 (by decide) ?_
          refine lv_iload F.1 F.2.1 dX6_valuesOf_55 (lv_at hl 5 rfl) ?_
          refine lv_imul F.1 F.2.1 dX6_valuesOf_57 ?_
          refine lv_iload_n F.1 F.2.1 dX6_valuesOf_58 rfl (lv_at hl 1 rfl) ?_
          refine lv_iadd F.1 F.2.1 dX6_valuesOf_59 ?_
          refine va_iald F.1 F.2.1 hz.1 hP 6 0 rfl rfl h.1 dX6_valuesOf_60 ?_
          have h := h.2
          refine lv_ishl F.1 F.2.1 dX6_valuesOf_61 ?_
          refine lv_goto (tgt := 66) F.1 F.2.1 dX6_valuesOf_62 (by decide) ?_
          refine lv_ior F.1 F.2.1 dX6_valuesOf_66 ?_
          refine lv_topi (fun y_1 ey_1 => ?_)
          have h := h y_1 ey_1
          refine lv_istore (lv' := [(4, .int y_1), (0, .ref (ad 0)), (1, .int p1), (2, .int p2), (3, .int p3), (5, .int x5)]) F.1 F.2.1 dX6_valuesOf_67 hl (by decide) rfl (fun ls hl => ?_)
          refine lv_iinc (v := x5 + 1) (lv' := [(5, .int (x5 + 1)), (4, .int y_1), (0, .ref (ad 0)), (1, .int p1), (2, .int p2), (3, .int p3)]) F.1 F.2.1 dX6_valuesOf_69 hl (k := 5) rfl rfl (by decide) rfl (fun ls hl => ?_)
          refine lv_goto (tgt := 6) F.1 F.2.1 dX6_valuesOf_72 (by decide) ?_
          exact ih6 (y_1, x5 + 1) h ls (lv_sub hl [2, 3, 4, 5, 1, 0] rfl)
set_option maxRecDepth 100000 in
theorem bX6_valuesOf {a1 : Int32} {a2 : Int32} {a3 : Int32} {S : S6} {Q : Int32 → Prop} (F : CallFix p m c cX6_valuesOf 6 s args wsX6_valuesOf RX6) (hz : gz D cI cJ cZ s) (hP : va_P D vwCl (w6 ad cI cZ S) s.heap) (hret : ∀ (v : Int32) (pc : Nat) (ls : Array Slot), Q v → decode cX6_valuesOf pc = .ok (.ireturn, 1) → W p l e rX6_valuesOf s m args below meth c s.heap [] 0 0 QQ (F0 m pc ls [.int v])) (h : wX6_valuesOf S a1 a2 a3 Q) : ∀ ls : Array Slot, lv_has ls 6 [(0, .ref (ad 0)), (1, .int a1), (2, .int a2), (3, .int a3)] → W p l e rX6_valuesOf s m args below meth c s.heap [] 0 0 QQ (F0 m 0 ls []) := by
  intro ls hl
  refine lv_iconst (v := (0 : Int32)) F.1 F.2.1 dX6_valuesOf_0 (by decide) ?_
  refine lv_istore (lv' := [(4, .int (0 : Int32)), (0, .ref (ad 0)), (1, .int a1), (2, .int a2), (3, .int a3)]) F.1 F.2.1 dX6_valuesOf_1 hl (by decide) rfl (fun ls hl => ?_)
  refine lv_iconst (v := (0 : Int32)) F.1 F.2.1 dX6_valuesOf_3 (by decide) ?_
  refine lv_istore (lv' := [(5, .int (0 : Int32)), (4, .int (0 : Int32)), (0, .ref (ad 0)), (1, .int a1), (2, .int a2), (3, .int a3)]) F.1 F.2.1 dX6_valuesOf_4 hl (by decide) rfl (fun ls hl => ?_)
  obtain ⟨nn, h⟩ := h
  refine kX6_valuesOf_6 F hz hP (fun ⟨x4, x5⟩ h ls hl => ?_) nn _ h ls (lv_sub hl [2, 3, 4, 5, 1, 0] rfl)
  refine lv_iload F.1 F.2.1 dX6_valuesOf_75 (lv_at hl 4 rfl) ?_
  exact hret _ _ _ h dX6_valuesOf_77
theorem mX6_valuesOf {l : Launch} {D : va_G} {cI cJ cZ : ClassId} {ad : Nat → Nat} {S : S6} {a1 : Int32} {a2 : Int32} {a3 : Int32} {Q : Int32 → Prop} (h : wX6_valuesOf S a1 a2 a3 Q) : Met l yX6_valuesOf wsX6_valuesOf rX6_valuesOf (va_Pc [.ref (ad 0), .int a1, .int a2, .int a3] (rp D cI cJ cZ (w6 ad cI cZ S))) (vp_Si Q) 0 0 (fun _ => False) :=
  enter_i (by decide +kernel) rfl (Nat.le_of_ble_eq_true rfl) (fun p e s m args below meth c QQ F hz hret => bX6_valuesOf F hz.1 hz.2 hret h)
abbrev rX6_moved : Room := { frames := 1, cells := 0, slots := 0, locals := 25 }
theorem kV_X6_moved : yX6_moved.cls = RX6 ∧ yX6_moved.cls ≠ "java/lang/invoke/MethodHandle" ∧ yX6_moved.cls ≠ "java/lang/invoke/VarHandle" ∧ (parseMethodDescriptor yX6_moved.desc).map (fun d => d.parameters.length) = some 2 := by decide +kernel
set_option maxRecDepth 100000 in
theorem bX6_moved {a1 : Int32} {a2 : Int32} {S : S6} {Q : Int32 → Prop} (F : CallFix p m c cX6_moved 5 s args wsX6_moved RX6) (hz : gz D cI cJ cZ s) (hP : va_P D vwCl (w6 ad cI cZ S) s.heap) (hret : ∀ (v : Int32) (pc : Nat) (ls : Array Slot), Q v → decode cX6_moved pc = .ok (.ireturn, 1) → W p l e rX6_moved s m args below meth c s.heap [] 0 0 QQ (F0 m pc ls [.int v])) (h : wX6_moved S a1 a2 Q) : ∀ ls : Array Slot, lv_has ls 5 [(0, .ref (ad 0)), (1, .int a1), (2, .int a2)] → W p l e rX6_moved s m args below meth c s.heap [] 0 0 QQ (F0 m 0 ls []) := by
  intro ls hl
  refine lv_aload_n F.1 F.2.1 dX6_moved_0 rfl (lv_at hl 0 rfl) ?_
  refine lv_iload_n F.1 F.2.1 dX6_moved_1 rfl (lv_at hl 1 rfl) ?_
  refine lv_iload_n F.1 F.2.1 dX6_moved_2 rfl (lv_at hl 2 rfl) ?_
  refine lv_iconst (v := (0 : Int32)) F.1 F.2.1 dX6_moved_3 (by decide) ?_
  refine vp_callSi (va_Run.run (va_runV (As := [.int a1, .int a2, .int (0 : Int32)]) (rest := []) F (mX6_valuesOf (l := l) (D := D) (cI := cI) (cJ := cJ) (cZ := cZ) (ad := ad) h) (cwV 3 F.2.2.2.2 gX6_moved_X6_valuesOf rfl rfl rfl kV_X6_valuesOf ⟨Nat.le_of_ble_eq_true rfl, Nat.le_of_ble_eq_true rfl⟩) ⟨rp_blind, va_recv hz.1 hP (ci := 4) (q0 := 0) rfl rfl, rp_pre hz hP (.ref (ad 0) :: [.int a1, .int a2, .int (0 : Int32)])⟩ rfl rfl hl.1 rfl (lv_room (Nat.le_of_ble_eq_true rfl)) dX6_moved_4 ⟨Nat.le_of_ble_eq_true rfl, Nat.le_of_ble_eq_true rfl⟩)) (fun r_1 h => ?_)
  refine lv_istore_n (lv' := [(3, .int r_1), (0, .ref (ad 0)), (1, .int a1), (2, .int a2)]) F.1 F.2.1 dX6_moved_7 rfl hl (by decide) rfl (fun ls hl => ?_)
  refine lv_aload_n F.1 F.2.1 dX6_moved_8 rfl (lv_at hl 1 rfl) ?_
  refine lv_iload_n F.1 F.2.1 dX6_moved_9 rfl (lv_at hl 2 rfl) ?_
  refine lv_iload_n F.1 F.2.1 dX6_moved_10 rfl (lv_at hl 3 rfl) ?_
  refine lv_iconst (v := (1 : Int32)) F.1 F.2.1 dX6_moved_11 (by decide) ?_
  refine vp_callSi (va_Run.run (va_runV (As := [.int a1, .int a2, .int (1 : Int32)]) (rest := []) F (mX6_valuesOf (l := l) (D := D) (cI := cI) (cJ := cJ) (cZ := cZ) (ad := ad) h) (cwV 3 F.2.2.2.2 gX6_moved_X6_valuesOf rfl rfl rfl kV_X6_valuesOf ⟨Nat.le_of_ble_eq_true rfl, Nat.le_of_ble_eq_true rfl⟩) ⟨rp_blind, va_recv hz.1 hP (ci := 4) (q0 := 0) rfl rfl, rp_pre hz hP (.ref (ad 0) :: [.int a1, .int a2, .int (1 : Int32)])⟩ rfl rfl hl.1 rfl (lv_room (Nat.le_of_ble_eq_true rfl)) dX6_moved_12 ⟨Nat.le_of_ble_eq_true rfl, Nat.le_of_ble_eq_true rfl⟩)) (fun r_2 h => ?_)
  refine lv_istore (lv' := [(4, .int r_2), (3, .int r_1), (0, .ref (ad 0)), (1, .int a1), (2, .int a2)]) F.1 F.2.1 dX6_moved_15 hl (by decide) rfl (fun ls hl => ?_)
  refine lv_iload_n F.1 F.2.1 dX6_moved_17 rfl (lv_at hl 1 rfl) ?_
  refine lv_if_eq (tgt := 26) F.1 F.2.1 dX6_moved_18 (by decide) (fun hc => ?_) (fun hc => ?_)
  · have h := h.1 (hc)
    refine lv_iload_n F.1 F.2.1 dX6_moved_26 rfl (lv_at hl 1 rfl) ?_
    refine lv_if_eq (tgt := 34) F.1 F.2.1 dX6_moved_27 (by decide) (fun hc => ?_) (fun hc => ?_)
    · have h := h.1 (hc)
      refine lv_iload F.1 F.2.1 dX6_moved_34 (lv_at hl 0 rfl) ?_
      refine lv_if_eq (tgt := 43) F.1 F.2.1 dX6_moved_36 (by decide) (fun hc => ?_) (fun hc => ?_)
      · have h := h.1 (hc)
        refine lv_iconst (v := (4 : Int32)) F.1 F.2.1 dX6_moved_43 (by decide) ?_
        exact hret _ _ _ h dX6_moved_44
      · have h := h.2 hc
        refine lv_iconst (v := (0 : Int32)) F.1 F.2.1 dX6_moved_39 (by decide) ?_
        refine lv_goto (tgt := 44) F.1 F.2.1 dX6_moved_40 (by decide) ?_
        exact hret _ _ _ h dX6_moved_44
    · have h := h.2 hc
      refine lv_iconst (v := (1 : Int32)) F.1 F.2.1 dX6_moved_30 (by decide) ?_
      refine lv_goto (tgt := 44) F.1 F.2.1 dX6_moved_31 (by decide) ?_
      exact hret _ _ _ h dX6_moved_44
  · have h := h.2 hc
    refine lv_iload F.1 F.2.1 dX6_moved_21 (lv_at hl 0 rfl) ?_
    refine lv_if_ne (tgt := 45) F.1 F.2.1 dX6_moved_23 (by decide) (fun hc => ?_) (fun hc => ?_)
    · have h := h.2 hc
      refine lv_iload_n F.1 F.2.1 dX6_moved_45 rfl (lv_at hl 1 rfl) ?_
      refine lv_iload F.1 F.2.1 dX6_moved_46 (lv_at hl 0 rfl) ?_
      refine lv_icmp_ne (tgt := 55) F.1 F.2.1 dX6_moved_48 (by decide) (fun hc => ?_) (fun hc => ?_)
      · have h := h.2 hc
        refine lv_iconst (v := (3 : Int32)) F.1 F.2.1 dX6_moved_55 (by decide) ?_
        exact hret _ _ _ h dX6_moved_56
      · have h := h.1 (hc)
        refine lv_iconst (v := (2 : Int32)) F.1 F.2.1 dX6_moved_51 (by decide) ?_
        refine lv_goto (tgt := 56) F.1 F.2.1 dX6_moved_52 (by decide) ?_
        exact hret _ _ _ h dX6_moved_56
    · have h := h.1 (hc)
      refine lv_iload_n F.1 F.2.1 dX6_moved_26 rfl (lv_at hl 1 rfl) ?_
      refine lv_if_eq (tgt := 34) F.1 F.2.1 dX6_moved_27 (by decide) (fun hc => ?_) (fun hc => ?_)
      · have h := h.1 (hc)
        refine lv_iload F.1 F.2.1 dX6_moved_34 (lv_at hl 0 rfl) ?_
        refine lv_if_eq (tgt := 43) F.1 F.2.1 dX6_moved_36 (by decide) (fun hc => ?_) (fun hc => ?_)
        · have h := h.1 (hc)
          refine lv_iconst (v := (4 : Int32)) F.1 F.2.1 dX6_moved_43 (by decide) ?_
          exact hret _ _ _ h dX6_moved_44
        · have h := h.2 hc
          refine lv_iconst (v := (0 : Int32)) F.1 F.2.1 dX6_moved_39 (by decide) ?_
          refine lv_goto (tgt := 44) F.1 F.2.1 dX6_moved_40 (by decide) ?_
          exact hret _ _ _ h dX6_moved_44
      · have h := h.2 hc
        refine lv_iconst (v := (1 : Int32)) F.1 F.2.1 dX6_moved_30 (by decide) ?_
        refine lv_goto (tgt := 44) F.1 F.2.1 dX6_moved_31 (by decide) ?_
        exact hret _ _ _ h dX6_moved_44
theorem mX6_moved {l : Launch} {D : va_G} {cI cJ cZ : ClassId} {ad : Nat → Nat} {S : S6} {a1 : Int32} {a2 : Int32} {Q : Int32 → Prop} (h : wX6_moved S a1 a2 Q) : Met l yX6_moved wsX6_moved rX6_moved (va_Pc [.ref (ad 0), .int a1, .int a2] (rp D cI cJ cZ (w6 ad cI cZ S))) (vp_Si Q) 0 0 (fun _ => False) :=
  enter_i (by decide +kernel) rfl (Nat.le_of_ble_eq_true rfl) (fun p e s m args below meth c QQ F hz hret => bX6_moved F hz.1 hz.2 hret h)
abbrev rX6_of : Room := { frames := 0, cells := 0, slots := 0, locals := 0 }
theorem kV_X6_of : yX6_of.cls = RX6 ∧ yX6_of.cls ≠ "java/lang/invoke/MethodHandle" ∧ yX6_of.cls ≠ "java/lang/invoke/VarHandle" ∧ (parseMethodDescriptor yX6_of.desc).map (fun d => d.parameters.length) = some 2 := by decide +kernel
theorem vX6_of_X6 : ∀ w ∈ wsX60, w ∈ wsX6_of := fun _ h => List.mem_cons_of_mem _ (List.mem_append_right _ h)
theorem uX6_of_2 : Cond.fieldLink RX6 32 "SumMovedModel" "before" "[I" ∈ wsX6_of := List.mem_of_getElem? (i := 2) rfl
theorem uX6_of_1 : Cond.fieldLink RX6 35 "SumMovedModel" "after" "[I" ∈ wsX6_of := List.mem_of_getElem? (i := 1) rfl
set_option maxRecDepth 100000 in
theorem bX6_of {a1 : Int32} {a2 : Int32} {S : S6} {Q : Int32 → Prop} (F : CallFix p m c cX6_of 3 s args wsX6_of RX6) (hz : gz D cI cJ cZ s) (hP : va_P D vwCl (w6 ad cI cZ S) s.heap) (hret : ∀ (v : Int32) (pc : Nat) (ls : Array Slot), Q v → decode cX6_of pc = .ok (.ireturn, 1) → W p l e rX6_of s m args below meth c s.heap [] 0 0 QQ (F0 m pc ls [.int v])) (h : wX6_of S a1 a2 Q) : ∀ ls : Array Slot, lv_has ls 3 [(0, .ref (ad 0)), (1, .int a1), (2, .int a2)] → W p l e rX6_of s m args below meth c s.heap [] 0 0 QQ (F0 m 0 ls []) := by
  intro ls hl
  refine lv_iload_n F.1 F.2.1 dX6_of_0 rfl (lv_at hl 2 rfl) ?_
  refine lv_iload_n F.1 F.2.1 dX6_of_1 rfl (lv_at hl 1 rfl) ?_
  refine lv_ishr F.1 F.2.1 dX6_of_2 ?_
  refine lv_iconst (v := (1 : Int32)) F.1 F.2.1 dX6_of_3 (by decide) ?_
  refine lv_iand F.1 F.2.1 dX6_of_4 ?_
  refine lv_iconst (v := (1 : Int32)) F.1 F.2.1 dX6_of_5 (by decide) ?_
  refine lv_icmp_ne (tgt := 18) F.1 F.2.1 dX6_of_6 (by decide) (fun hc => ?_) (fun hc => ?_)
  · have h := h.2 hc
    refine lv_aload_n F.1 F.2.1 dX6_of_18 rfl (lv_at hl 0 rfl) ?_
    refine va_get (D := D) (ci := 4) (v := .ref (ad 8)) (C := RX6) (T := TX6) (N := 19) F.1 F.2.1 F.2.2.2.2 vX6_of_X6 F.2.2.2.1 hz.1 hP 0 rfl rfl 8 (by decide) (F.2.2.2.2 _ uX6_of_2) (fun _ h9 => h9) rfl dX6_of_19 ?_
    refine lv_iload_n F.1 F.2.1 dX6_of_22 rfl (lv_at hl 1 rfl) ?_
    refine va_iald F.1 F.2.1 hz.1 hP 8 0 rfl rfl h.1 dX6_of_23 ?_
    have h := h.2
    exact hret _ _ _ h dX6_of_24
  · have h := h.1 (hc)
    refine lv_aload_n F.1 F.2.1 dX6_of_9 rfl (lv_at hl 0 rfl) ?_
    refine va_get (D := D) (ci := 4) (v := .ref (ad 9)) (C := RX6) (T := TX6) (N := 19) F.1 F.2.1 F.2.2.2.2 vX6_of_X6 F.2.2.2.1 hz.1 hP 0 rfl rfl 9 (by decide) (F.2.2.2.2 _ uX6_of_1) (fun _ h9 => h9) rfl dX6_of_10 ?_
    refine lv_iload_n F.1 F.2.1 dX6_of_13 rfl (lv_at hl 1 rfl) ?_
    refine va_iald F.1 F.2.1 hz.1 hP 9 0 rfl rfl h.1 dX6_of_14 ?_
    have h := h.2
    refine lv_goto (tgt := 24) F.1 F.2.1 dX6_of_15 (by decide) ?_
    exact hret _ _ _ h dX6_of_24
theorem mX6_of {l : Launch} {D : va_G} {cI cJ cZ : ClassId} {ad : Nat → Nat} {S : S6} {a1 : Int32} {a2 : Int32} {Q : Int32 → Prop} (h : wX6_of S a1 a2 Q) : Met l yX6_of wsX6_of rX6_of (va_Pc [.ref (ad 0), .int a1, .int a2] (rp D cI cJ cZ (w6 ad cI cZ S))) (vp_Si Q) 0 0 (fun _ => False) :=
  enter_i (by decide +kernel) rfl (Nat.le_of_ble_eq_true rfl) (fun p e s m args below meth c QQ F hz hret => bX6_of F hz.1 hz.2 hret h)
abbrev rX6_comes : Room := { frames := 1, cells := 0, slots := 0, locals := 22 }
theorem kV_X6_comes : yX6_comes.cls = RX6 ∧ yX6_comes.cls ≠ "java/lang/invoke/MethodHandle" ∧ yX6_comes.cls ≠ "java/lang/invoke/VarHandle" ∧ (parseMethodDescriptor yX6_comes.desc).map (fun d => d.parameters.length) = some 1 := by decide +kernel
set_option maxRecDepth 100000 in
theorem bX6_comes {a1 : Int32} {S : S6} {Q : Int32 → Prop} (F : CallFix p m c cX6_comes 2 s args wsX6_comes RX6) (hz : gz D cI cJ cZ s) (hP : va_P D vwCl (w6 ad cI cZ S) s.heap) (hret : ∀ (v : Int32) (pc : Nat) (ls : Array Slot), Q v → decode cX6_comes pc = .ok (.ireturn, 1) → W p l e rX6_comes s m args below meth c s.heap [] 0 0 QQ (F0 m pc ls [.int v])) (h : wX6_comes S a1 Q) : ∀ ls : Array Slot, lv_has ls 2 [(0, .ref (ad 0)), (1, .int a1)] → W p l e rX6_comes s m args below meth c s.heap [] 0 0 QQ (F0 m 0 ls []) := by
  intro ls hl
  refine lv_aload_n F.1 F.2.1 dX6_comes_0 rfl (lv_at hl 0 rfl) ?_
  refine lv_iconst (v := (0 : Int32)) F.1 F.2.1 dX6_comes_1 (by decide) ?_
  refine lv_iload_n F.1 F.2.1 dX6_comes_2 rfl (lv_at hl 1 rfl) ?_
  refine vp_callSi (va_Run.run (va_runV (As := [.int (0 : Int32), .int a1]) (rest := []) F (mX6_of (l := l) (D := D) (cI := cI) (cJ := cJ) (cZ := cZ) (ad := ad) h) (cwV 2 F.2.2.2.2 gX6_comes_X6_of rfl rfl rfl kV_X6_of ⟨Nat.le_of_ble_eq_true rfl, Nat.le_of_ble_eq_true rfl⟩) ⟨rp_blind, va_recv hz.1 hP (ci := 4) (q0 := 0) rfl rfl, rp_pre hz hP (.ref (ad 0) :: [.int (0 : Int32), .int a1])⟩ rfl rfl hl.1 rfl (lv_room (Nat.le_of_ble_eq_true rfl)) dX6_comes_3 ⟨Nat.le_of_ble_eq_true rfl, Nat.le_of_ble_eq_true rfl⟩)) (fun r_1 h => ?_)
  refine lv_aload_n F.1 F.2.1 dX6_comes_6 rfl (lv_at hl 0 rfl) ?_
  refine lv_iconst (v := (1 : Int32)) F.1 F.2.1 dX6_comes_7 (by decide) ?_
  refine lv_iload_n F.1 F.2.1 dX6_comes_8 rfl (lv_at hl 1 rfl) ?_
  refine vp_callSi (va_Run.run (va_runV (As := [.int (1 : Int32), .int a1]) (rest := [.int r_1]) F (mX6_of (l := l) (D := D) (cI := cI) (cJ := cJ) (cZ := cZ) (ad := ad) h) (cwV 2 F.2.2.2.2 gX6_comes_X6_of rfl rfl rfl kV_X6_of ⟨Nat.le_of_ble_eq_true rfl, Nat.le_of_ble_eq_true rfl⟩) ⟨rp_blind, va_recv hz.1 hP (ci := 4) (q0 := 0) rfl rfl, rp_pre hz hP (.ref (ad 0) :: [.int (1 : Int32), .int a1])⟩ rfl rfl hl.1 rfl (lv_room (Nat.le_of_ble_eq_true rfl)) dX6_comes_9 ⟨Nat.le_of_ble_eq_true rfl, Nat.le_of_ble_eq_true rfl⟩)) (fun r_2 h => ?_)
  refine lv_imul F.1 F.2.1 dX6_comes_12 ?_
  refine lv_aload_n F.1 F.2.1 dX6_comes_13 rfl (lv_at hl 0 rfl) ?_
  refine lv_iconst (v := (2 : Int32)) F.1 F.2.1 dX6_comes_14 (by decide) ?_
  refine lv_iload_n F.1 F.2.1 dX6_comes_15 rfl (lv_at hl 1 rfl) ?_
  refine vp_callSi (va_Run.run (va_runV (As := [.int (2 : Int32), .int a1]) (rest := [.int (r_1 * r_2)]) F (mX6_of (l := l) (D := D) (cI := cI) (cJ := cJ) (cZ := cZ) (ad := ad) h) (cwV 2 F.2.2.2.2 gX6_comes_X6_of rfl rfl rfl kV_X6_of ⟨Nat.le_of_ble_eq_true rfl, Nat.le_of_ble_eq_true rfl⟩) ⟨rp_blind, va_recv hz.1 hP (ci := 4) (q0 := 0) rfl rfl, rp_pre hz hP (.ref (ad 0) :: [.int (2 : Int32), .int a1])⟩ rfl rfl hl.1 rfl (lv_room (Nat.le_of_ble_eq_true rfl)) dX6_comes_16 ⟨Nat.le_of_ble_eq_true rfl, Nat.le_of_ble_eq_true rfl⟩)) (fun r_3 h => ?_)
  refine lv_aload_n F.1 F.2.1 dX6_comes_19 rfl (lv_at hl 0 rfl) ?_
  refine lv_iconst (v := (3 : Int32)) F.1 F.2.1 dX6_comes_20 (by decide) ?_
  refine lv_iload_n F.1 F.2.1 dX6_comes_21 rfl (lv_at hl 1 rfl) ?_
  refine vp_callSi (va_Run.run (va_runV (As := [.int (3 : Int32), .int a1]) (rest := [.int r_3, .int (r_1 * r_2)]) F (mX6_of (l := l) (D := D) (cI := cI) (cJ := cJ) (cZ := cZ) (ad := ad) h) (cwV 2 F.2.2.2.2 gX6_comes_X6_of rfl rfl rfl kV_X6_of ⟨Nat.le_of_ble_eq_true rfl, Nat.le_of_ble_eq_true rfl⟩) ⟨rp_blind, va_recv hz.1 hP (ci := 4) (q0 := 0) rfl rfl, rp_pre hz hP (.ref (ad 0) :: [.int (3 : Int32), .int a1])⟩ rfl rfl hl.1 rfl (lv_room (Nat.le_of_ble_eq_true rfl)) dX6_comes_22 ⟨Nat.le_of_ble_eq_true rfl, Nat.le_of_ble_eq_true rfl⟩)) (fun r_4 h => ?_)
  refine lv_imul F.1 F.2.1 dX6_comes_25 ?_
  refine lv_iadd F.1 F.2.1 dX6_comes_26 ?_
  refine lv_aload_n F.1 F.2.1 dX6_comes_27 rfl (lv_at hl 0 rfl) ?_
  refine lv_iconst (v := (4 : Int32)) F.1 F.2.1 dX6_comes_28 (by decide) ?_
  refine lv_iload_n F.1 F.2.1 dX6_comes_29 rfl (lv_at hl 1 rfl) ?_
  refine vp_callSi (va_Run.run (va_runV (As := [.int (4 : Int32), .int a1]) (rest := [.int ((r_1 * r_2) + (r_3 * r_4))]) F (mX6_of (l := l) (D := D) (cI := cI) (cJ := cJ) (cZ := cZ) (ad := ad) h) (cwV 2 F.2.2.2.2 gX6_comes_X6_of rfl rfl rfl kV_X6_of ⟨Nat.le_of_ble_eq_true rfl, Nat.le_of_ble_eq_true rfl⟩) ⟨rp_blind, va_recv hz.1 hP (ci := 4) (q0 := 0) rfl rfl, rp_pre hz hP (.ref (ad 0) :: [.int (4 : Int32), .int a1])⟩ rfl rfl hl.1 rfl (lv_room (Nat.le_of_ble_eq_true rfl)) dX6_comes_30 ⟨Nat.le_of_ble_eq_true rfl, Nat.le_of_ble_eq_true rfl⟩)) (fun r_5 h => ?_)
  refine lv_iadd F.1 F.2.1 dX6_comes_33 ?_
  exact hret _ _ _ h dX6_comes_34
theorem mX6_comes {l : Launch} {D : va_G} {cI cJ cZ : ClassId} {ad : Nat → Nat} {S : S6} {a1 : Int32} {Q : Int32 → Prop} (h : wX6_comes S a1 Q) : Met l yX6_comes wsX6_comes rX6_comes (va_Pc [.ref (ad 0), .int a1] (rp D cI cJ cZ (w6 ad cI cZ S))) (vp_Si Q) 0 0 (fun _ => False) :=
  enter_i (by decide +kernel) rfl (Nat.le_of_ble_eq_true rfl) (fun p e s m args below meth c QQ F hz hret => bX6_comes F hz.1 hz.2 hret h)
abbrev rX6_hasRows : Room := { frames := 2, cells := 0, slots := 0, locals := 45 }
theorem kV_X6_hasRows : yX6_hasRows.cls = RX6 ∧ yX6_hasRows.cls ≠ "java/lang/invoke/MethodHandle" ∧ yX6_hasRows.cls ≠ "java/lang/invoke/VarHandle" ∧ (parseMethodDescriptor yX6_hasRows.desc).map (fun d => d.parameters.length) = some 1 := by decide +kernel
theorem vX6_hasRows_X6 : ∀ w ∈ wsX60, w ∈ wsX6_hasRows := fun _ h => List.mem_cons_of_mem _ (List.mem_append_right _ h)
theorem uX6_hasRows_1 : Cond.fieldLink RX6 54 "SumMovedModel" "rows" "I" ∈ wsX6_hasRows := List.mem_of_getElem? (i := 1) rfl
set_option maxRecDepth 100000 in
theorem kX6_hasRows_2 {p1 : Int32} {S : S6} {Q : Int32 → Prop} (F : CallFix p m c cX6_hasRows 3 s args wsX6_hasRows RX6) (hz : gz D cI cJ cZ s) (hP : va_P D vwCl (w6 ad cI cZ S) s.heap) (hret : ∀ (v : Int32) (pc : Nat) (ls : Array Slot), narrow .boolean (.int v) = .int v → Q v → decode cX6_hasRows pc = .ok (.ireturn, 1) → W p l e rX6_hasRows s m args below meth c s.heap [] 0 0 QQ (F0 m pc ls [.int v])) {K : Int32 → Prop} (hK : ∀ x2 : Int32, K x2 → ∀ ls : Array Slot, lv_has ls 3 [(0, .ref (ad 0)), (1, .int p1), (2, .int x2)] → W p l e rX6_hasRows s m args below meth c s.heap [] 0 0 QQ (F0 m 27 ls [])) : ∀ (nn : Nat) (x2 : Int32), iter (sX6_hasRows_2 S p1 Q K) nn x2 → ∀ ls : Array Slot, lv_has ls 3 [(0, .ref (ad 0)), (1, .int p1), (2, .int x2)] → W p l e rX6_hasRows s m args below meth c s.heap [] 0 0 QQ (F0 m 2 ls []) := by
  refine iter_walk ?_
  rintro again2 x2 ih2 h ls hl
  have hK2 := hK
  refine lv_iload_n F.1 F.2.1 dX6_hasRows_2 rfl (lv_at hl 2 rfl) ?_
  refine lv_aload_n F.1 F.2.1 dX6_hasRows_3 rfl (lv_at hl 0 rfl) ?_
  refine va_get (D := D) (ci := 4) (v := .int S.1) (C := RX6) (T := TX6) (N := 19) F.1 F.2.1 F.2.2.2.2 vX6_hasRows_X6 F.2.2.2.1 hz.1 hP 0 rfl rfl 0 (by decide) (F.2.2.2.2 _ uX6_hasRows_1) (fun _ h9 => h9) rfl dX6_hasRows_4 ?_
  refine lv_icmp_ge (tgt := 27) F.1 F.2.1 dX6_hasRows_7 (by decide) (fun hc => ?_) (fun hc => ?_)
  · have h := h.1 (hc)
    exact hK2 x2 h ls (lv_sub hl [0, 1, 2] rfl)
  · have h := h.2 hc
    refine lv_aload_n F.1 F.2.1 dX6_hasRows_10 rfl (lv_at hl 0 rfl) ?_
    refine lv_iload_n F.1 F.2.1 dX6_hasRows_11 rfl (lv_at hl 2 rfl) ?_
    refine lv_iload_n F.1 F.2.1 dX6_hasRows_12 rfl (lv_at hl 1 rfl) ?_
    refine vp_callSi (va_Run.run (va_runV (As := [.int x2, .int p1]) (rest := []) F (mX6_isIn (l := l) (D := D) (cI := cI) (cJ := cJ) (cZ := cZ) (ad := ad) h) (cwV 2 F.2.2.2.2 gX6_hasRows_X6_isIn rfl rfl rfl kV_X6_isIn ⟨Nat.le_of_ble_eq_true rfl, Nat.le_of_ble_eq_true rfl⟩) ⟨rp_blind, va_recv hz.1 hP (ci := 4) (q0 := 0) rfl rfl, rp_pre hz hP (.ref (ad 0) :: [.int x2, .int p1])⟩ rfl rfl hl.1 rfl (lv_room (Nat.le_of_ble_eq_true rfl)) dX6_hasRows_13 ⟨Nat.le_of_ble_eq_true rfl, Nat.le_of_ble_eq_true rfl⟩)) (fun r_1 h => ?_)
    obtain ⟨hbr_1, h⟩ := h
    refine lv_if_eq (tgt := 21) F.1 F.2.1 dX6_hasRows_16 (by decide) (fun hc => ?_) (fun hc => ?_)
    · have h := h.1 (hc)
      refine lv_iinc (v := x2 + 1) (lv' := [(2, .int (x2 + 1)), (0, .ref (ad 0)), (1, .int p1)]) F.1 F.2.1 dX6_hasRows_21 hl (k := 2) rfl rfl (by decide) rfl (fun ls hl => ?_)
      refine lv_goto (tgt := 2) F.1 F.2.1 dX6_hasRows_24 (by decide) ?_
      exact ih2 (x2 + 1) h ls (lv_sub hl [1, 2, 0] rfl)
    · have h := h.2 hc
      refine lv_iconst (v := (1 : Int32)) F.1 F.2.1 dX6_hasRows_19 (by decide) ?_
      exact hret _ _ _ nr_1 h dX6_hasRows_20
set_option maxRecDepth 100000 in
theorem bX6_hasRows {a1 : Int32} {S : S6} {Q : Int32 → Prop} (F : CallFix p m c cX6_hasRows 3 s args wsX6_hasRows RX6) (hz : gz D cI cJ cZ s) (hP : va_P D vwCl (w6 ad cI cZ S) s.heap) (hret : ∀ (v : Int32) (pc : Nat) (ls : Array Slot), narrow .boolean (.int v) = .int v → Q v → decode cX6_hasRows pc = .ok (.ireturn, 1) → W p l e rX6_hasRows s m args below meth c s.heap [] 0 0 QQ (F0 m pc ls [.int v])) (h : wX6_hasRows S a1 Q) : ∀ ls : Array Slot, lv_has ls 3 [(0, .ref (ad 0)), (1, .int a1)] → W p l e rX6_hasRows s m args below meth c s.heap [] 0 0 QQ (F0 m 0 ls []) := by
  intro ls hl
  refine lv_iconst (v := (0 : Int32)) F.1 F.2.1 dX6_hasRows_0 (by decide) ?_
  refine lv_istore_n (lv' := [(2, .int (0 : Int32)), (0, .ref (ad 0)), (1, .int a1)]) F.1 F.2.1 dX6_hasRows_1 rfl hl (by decide) rfl (fun ls hl => ?_)
  obtain ⟨nn, h⟩ := h
  refine kX6_hasRows_2 F hz hP hret (fun x2 h ls hl => ?_) nn _ h ls (lv_sub hl [1, 2, 0] rfl)
  refine lv_iconst (v := (0 : Int32)) F.1 F.2.1 dX6_hasRows_27 (by decide) ?_
  exact hret _ _ _ nr_0 h dX6_hasRows_28
theorem mX6_hasRows {l : Launch} {D : va_G} {cI cJ cZ : ClassId} {ad : Nat → Nat} {S : S6} {a1 : Int32} {Q : Int32 → Prop} (h : wX6_hasRows S a1 Q) : Met l yX6_hasRows wsX6_hasRows rX6_hasRows (va_Pc [.ref (ad 0), .int a1] (rp D cI cJ cZ (w6 ad cI cZ S))) (vp_Si (qb Q)) 0 0 (fun _ => False) :=
  enter_z (by decide +kernel) rfl (Nat.le_of_ble_eq_true rfl) (fun p e s m args below meth c QQ F hz hret => bX6_hasRows F hz.1 hz.2 hret h)
abbrev rX6_mayTell : Room := { frames := 3, cells := 0, slots := 0, locals := 67 }
theorem kV_X6_mayTell : yX6_mayTell.cls = RX6 ∧ yX6_mayTell.cls ≠ "java/lang/invoke/MethodHandle" ∧ yX6_mayTell.cls ≠ "java/lang/invoke/VarHandle" ∧ (parseMethodDescriptor yX6_mayTell.desc).map (fun d => d.parameters.length) = some 1 := by decide +kernel
set_option maxRecDepth 100000 in
theorem bX6_mayTell {a1 : Int32} {S : S6} {Q : Int32 → Prop} (F : CallFix p m c cX6_mayTell 2 s args wsX6_mayTell RX6) (hz : gz D cI cJ cZ s) (hP : va_P D vwCl (w6 ad cI cZ S) s.heap) (hret : ∀ (v : Int32) (pc : Nat) (ls : Array Slot), narrow .boolean (.int v) = .int v → Q v → decode cX6_mayTell pc = .ok (.ireturn, 1) → W p l e rX6_mayTell s m args below meth c s.heap [] 0 0 QQ (F0 m pc ls [.int v])) (h : wX6_mayTell S a1 Q) : ∀ ls : Array Slot, lv_has ls 2 [(0, .ref (ad 0)), (1, .int a1)] → W p l e rX6_mayTell s m args below meth c s.heap [] 0 0 QQ (F0 m 0 ls []) := by
  intro ls hl
  refine lv_iload_n F.1 F.2.1 dX6_mayTell_0 rfl (lv_at hl 1 rfl) ?_
  refine vp_callSi (va_Run.run (va_runS (As := [.int a1]) (rest := []) F (mX6_tests (l := l) (D := D) (cI := cI) (cJ := cJ) (cZ := cZ) h) (va_cwS 1 F.2.2.2.2 gX6_mayTell_X6_tests rfl rfl rfl kS_X6_tests ⟨Nat.le_of_ble_eq_true rfl, Nat.le_of_ble_eq_true rfl⟩) ⟨rp_blind, rp_pre hz (hP.sub (ws' := []) [] rfl) [.int a1]⟩ rfl rfl hl.1 rfl (lv_room (Nat.le_of_ble_eq_true rfl)) dX6_mayTell_1 ⟨Nat.le_of_ble_eq_true rfl, Nat.le_of_ble_eq_true rfl⟩)) (fun r_1 h => ?_)
  refine lv_iconst (v := (1 : Int32)) F.1 F.2.1 dX6_mayTell_4 (by decide) ?_
  refine lv_iconst (v := (2 : Int32)) F.1 F.2.1 dX6_mayTell_5 (by decide) ?_
  refine vp_callSi (va_Run.run (va_runS (As := [.int r_1, .int (1 : Int32), .int (2 : Int32)]) (rest := []) F (mX6_in (l := l) (D := D) (cI := cI) (cJ := cJ) (cZ := cZ) h) (va_cwS 3 F.2.2.2.2 gX6_mayTell_X6_in rfl rfl rfl kS_X6_in ⟨Nat.le_of_ble_eq_true rfl, Nat.le_of_ble_eq_true rfl⟩) ⟨rp_blind, rp_pre hz (hP.sub (ws' := []) [] rfl) [.int r_1, .int (1 : Int32), .int (2 : Int32)]⟩ rfl rfl hl.1 rfl (lv_room (Nat.le_of_ble_eq_true rfl)) dX6_mayTell_6 ⟨Nat.le_of_ble_eq_true rfl, Nat.le_of_ble_eq_true rfl⟩)) (fun r_2 h => ?_)
  obtain ⟨hbr_2, h⟩ := h
  refine lv_if_eq (tgt := 24) F.1 F.2.1 dX6_mayTell_9 (by decide) (fun hc => ?_) (fun hc => ?_)
  · have h := h.1 (hc)
    refine lv_iconst (v := (0 : Int32)) F.1 F.2.1 dX6_mayTell_24 (by decide) ?_
    exact hret _ _ _ nr_0 h dX6_mayTell_25
  · have h := h.2 hc
    refine lv_aload_n F.1 F.2.1 dX6_mayTell_12 rfl (lv_at hl 0 rfl) ?_
    refine lv_iload_n F.1 F.2.1 dX6_mayTell_13 rfl (lv_at hl 1 rfl) ?_
    refine vp_callSi (va_Run.run (va_runV (As := [.int a1]) (rest := []) F (mX6_hasRows (l := l) (D := D) (cI := cI) (cJ := cJ) (cZ := cZ) (ad := ad) h) (cwV 1 F.2.2.2.2 gX6_mayTell_X6_hasRows rfl rfl rfl kV_X6_hasRows ⟨Nat.le_of_ble_eq_true rfl, Nat.le_of_ble_eq_true rfl⟩) ⟨rp_blind, va_recv hz.1 hP (ci := 4) (q0 := 0) rfl rfl, rp_pre hz hP (.ref (ad 0) :: [.int a1])⟩ rfl rfl hl.1 rfl (lv_room (Nat.le_of_ble_eq_true rfl)) dX6_mayTell_14 ⟨Nat.le_of_ble_eq_true rfl, Nat.le_of_ble_eq_true rfl⟩)) (fun r_3 h => ?_)
    obtain ⟨hbr_3, h⟩ := h
    refine lv_if_eq (tgt := 24) F.1 F.2.1 dX6_mayTell_17 (by decide) (fun hc => ?_) (fun hc => ?_)
    · have h := h.1 (hc)
      refine lv_iconst (v := (0 : Int32)) F.1 F.2.1 dX6_mayTell_24 (by decide) ?_
      exact hret _ _ _ nr_0 h dX6_mayTell_25
    · have h := h.2 hc
      refine lv_iconst (v := (1 : Int32)) F.1 F.2.1 dX6_mayTell_20 (by decide) ?_
      refine lv_goto (tgt := 25) F.1 F.2.1 dX6_mayTell_21 (by decide) ?_
      exact hret _ _ _ nr_1 h dX6_mayTell_25
theorem mX6_mayTell {l : Launch} {D : va_G} {cI cJ cZ : ClassId} {ad : Nat → Nat} {S : S6} {a1 : Int32} {Q : Int32 → Prop} (h : wX6_mayTell S a1 Q) : Met l yX6_mayTell wsX6_mayTell rX6_mayTell (va_Pc [.ref (ad 0), .int a1] (rp D cI cJ cZ (w6 ad cI cZ S))) (vp_Si (qb Q)) 0 0 (fun _ => False) :=
  enter_z (by decide +kernel) rfl (Nat.le_of_ble_eq_true rfl) (fun p e s m args below meth c QQ F hz hret => bX6_mayTell F hz.1 hz.2 hret h)
abbrev rX6_shareRow : Room := { frames := 2, cells := 0, slots := 0, locals := 45 }
theorem kV_X6_shareRow : yX6_shareRow.cls = RX6 ∧ yX6_shareRow.cls ≠ "java/lang/invoke/MethodHandle" ∧ yX6_shareRow.cls ≠ "java/lang/invoke/VarHandle" ∧ (parseMethodDescriptor yX6_shareRow.desc).map (fun d => d.parameters.length) = some 2 := by decide +kernel
theorem vX6_shareRow_X6 : ∀ w ∈ wsX60, w ∈ wsX6_shareRow := fun _ h => List.mem_cons_of_mem _ (List.mem_append_right _ h)
theorem uX6_shareRow_1 : Cond.fieldLink RX6 54 "SumMovedModel" "rows" "I" ∈ wsX6_shareRow := List.mem_of_getElem? (i := 1) rfl
set_option maxRecDepth 100000 in
theorem kX6_shareRow_2 {p1 : Int32} {p2 : Int32} {S : S6} {Q : Int32 → Prop} (F : CallFix p m c cX6_shareRow 4 s args wsX6_shareRow RX6) (hz : gz D cI cJ cZ s) (hP : va_P D vwCl (w6 ad cI cZ S) s.heap) (hret : ∀ (v : Int32) (pc : Nat) (ls : Array Slot), narrow .boolean (.int v) = .int v → Q v → decode cX6_shareRow pc = .ok (.ireturn, 1) → W p l e rX6_shareRow s m args below meth c s.heap [] 0 0 QQ (F0 m pc ls [.int v])) {K : Int32 → Prop} (hK : ∀ x3 : Int32, K x3 → ∀ ls : Array Slot, lv_has ls 4 [(0, .ref (ad 0)), (1, .int p1), (2, .int p2), (3, .int x3)] → W p l e rX6_shareRow s m args below meth c s.heap [] 0 0 QQ (F0 m 36 ls [])) : ∀ (nn : Nat) (x3 : Int32), iter (sX6_shareRow_2 S p1 p2 Q K) nn x3 → ∀ ls : Array Slot, lv_has ls 4 [(0, .ref (ad 0)), (1, .int p1), (2, .int p2), (3, .int x3)] → W p l e rX6_shareRow s m args below meth c s.heap [] 0 0 QQ (F0 m 2 ls []) := by
  refine iter_walk ?_
  rintro again2 x3 ih2 h ls hl
  have hK2 := hK
  refine lv_iload_n F.1 F.2.1 dX6_shareRow_2 rfl (lv_at hl 3 rfl) ?_
  refine lv_aload_n F.1 F.2.1 dX6_shareRow_3 rfl (lv_at hl 0 rfl) ?_
  refine va_get (D := D) (ci := 4) (v := .int S.1) (C := RX6) (T := TX6) (N := 19) F.1 F.2.1 F.2.2.2.2 vX6_shareRow_X6 F.2.2.2.1 hz.1 hP 0 rfl rfl 0 (by decide) (F.2.2.2.2 _ uX6_shareRow_1) (fun _ h9 => h9) rfl dX6_shareRow_4 ?_
  refine lv_icmp_ge (tgt := 36) F.1 F.2.1 dX6_shareRow_7 (by decide) (fun hc => ?_) (fun hc => ?_)
  · have h := h.1 (hc)
    exact hK2 x3 h ls (lv_sub hl [0, 1, 2, 3] rfl)
  · have h := h.2 hc
    refine lv_aload_n F.1 F.2.1 dX6_shareRow_10 rfl (lv_at hl 0 rfl) ?_
    refine lv_iload_n F.1 F.2.1 dX6_shareRow_11 rfl (lv_at hl 3 rfl) ?_
    refine lv_iload_n F.1 F.2.1 dX6_shareRow_12 rfl (lv_at hl 1 rfl) ?_
    refine vp_callSi (va_Run.run (va_runV (As := [.int x3, .int p1]) (rest := []) F (mX6_isIn (l := l) (D := D) (cI := cI) (cJ := cJ) (cZ := cZ) (ad := ad) h) (cwV 2 F.2.2.2.2 gX6_shareRow_X6_isIn rfl rfl rfl kV_X6_isIn ⟨Nat.le_of_ble_eq_true rfl, Nat.le_of_ble_eq_true rfl⟩) ⟨rp_blind, va_recv hz.1 hP (ci := 4) (q0 := 0) rfl rfl, rp_pre hz hP (.ref (ad 0) :: [.int x3, .int p1])⟩ rfl rfl hl.1 rfl (lv_room (Nat.le_of_ble_eq_true rfl)) dX6_shareRow_13 ⟨Nat.le_of_ble_eq_true rfl, Nat.le_of_ble_eq_true rfl⟩)) (fun r_1 h => ?_)
    obtain ⟨hbr_1, h⟩ := h
    refine lv_if_eq (tgt := 30) F.1 F.2.1 dX6_shareRow_16 (by decide) (fun hc => ?_) (fun hc => ?_)
    · have h := h.1 (hc)
      refine lv_iinc (v := x3 + 1) (lv' := [(3, .int (x3 + 1)), (0, .ref (ad 0)), (1, .int p1), (2, .int p2)]) F.1 F.2.1 dX6_shareRow_30 hl (k := 3) rfl rfl (by decide) rfl (fun ls hl => ?_)
      refine lv_goto (tgt := 2) F.1 F.2.1 dX6_shareRow_33 (by decide) ?_
      exact ih2 (x3 + 1) h ls (lv_sub hl [1, 2, 3, 0] rfl)
    · have h := h.2 hc
      refine lv_aload_n F.1 F.2.1 dX6_shareRow_19 rfl (lv_at hl 0 rfl) ?_
      refine lv_iload_n F.1 F.2.1 dX6_shareRow_20 rfl (lv_at hl 3 rfl) ?_
      refine lv_iload_n F.1 F.2.1 dX6_shareRow_21 rfl (lv_at hl 2 rfl) ?_
      refine vp_callSi (va_Run.run (va_runV (As := [.int x3, .int p2]) (rest := []) F (mX6_isIn (l := l) (D := D) (cI := cI) (cJ := cJ) (cZ := cZ) (ad := ad) h) (cwV 2 F.2.2.2.2 gX6_shareRow_X6_isIn rfl rfl rfl kV_X6_isIn ⟨Nat.le_of_ble_eq_true rfl, Nat.le_of_ble_eq_true rfl⟩) ⟨rp_blind, va_recv hz.1 hP (ci := 4) (q0 := 0) rfl rfl, rp_pre hz hP (.ref (ad 0) :: [.int x3, .int p2])⟩ rfl rfl hl.1 rfl (lv_room (Nat.le_of_ble_eq_true rfl)) dX6_shareRow_22 ⟨Nat.le_of_ble_eq_true rfl, Nat.le_of_ble_eq_true rfl⟩)) (fun r_2 h => ?_)
      obtain ⟨hbr_2, h⟩ := h
      refine lv_if_eq (tgt := 30) F.1 F.2.1 dX6_shareRow_25 (by decide) (fun hc => ?_) (fun hc => ?_)
      · have h := h.1 (hc)
        refine lv_iinc (v := x3 + 1) (lv' := [(3, .int (x3 + 1)), (0, .ref (ad 0)), (1, .int p1), (2, .int p2)]) F.1 F.2.1 dX6_shareRow_30 hl (k := 3) rfl rfl (by decide) rfl (fun ls hl => ?_)
        refine lv_goto (tgt := 2) F.1 F.2.1 dX6_shareRow_33 (by decide) ?_
        exact ih2 (x3 + 1) h ls (lv_sub hl [1, 2, 3, 0] rfl)
      · have h := h.2 hc
        refine lv_iconst (v := (1 : Int32)) F.1 F.2.1 dX6_shareRow_28 (by decide) ?_
        exact hret _ _ _ nr_1 h dX6_shareRow_29
set_option maxRecDepth 100000 in
theorem bX6_shareRow {a1 : Int32} {a2 : Int32} {S : S6} {Q : Int32 → Prop} (F : CallFix p m c cX6_shareRow 4 s args wsX6_shareRow RX6) (hz : gz D cI cJ cZ s) (hP : va_P D vwCl (w6 ad cI cZ S) s.heap) (hret : ∀ (v : Int32) (pc : Nat) (ls : Array Slot), narrow .boolean (.int v) = .int v → Q v → decode cX6_shareRow pc = .ok (.ireturn, 1) → W p l e rX6_shareRow s m args below meth c s.heap [] 0 0 QQ (F0 m pc ls [.int v])) (h : wX6_shareRow S a1 a2 Q) : ∀ ls : Array Slot, lv_has ls 4 [(0, .ref (ad 0)), (1, .int a1), (2, .int a2)] → W p l e rX6_shareRow s m args below meth c s.heap [] 0 0 QQ (F0 m 0 ls []) := by
  intro ls hl
  refine lv_iconst (v := (0 : Int32)) F.1 F.2.1 dX6_shareRow_0 (by decide) ?_
  refine lv_istore_n (lv' := [(3, .int (0 : Int32)), (0, .ref (ad 0)), (1, .int a1), (2, .int a2)]) F.1 F.2.1 dX6_shareRow_1 rfl hl (by decide) rfl (fun ls hl => ?_)
  obtain ⟨nn, h⟩ := h
  refine kX6_shareRow_2 F hz hP hret (fun x3 h ls hl => ?_) nn _ h ls (lv_sub hl [1, 2, 3, 0] rfl)
  refine lv_iconst (v := (0 : Int32)) F.1 F.2.1 dX6_shareRow_36 (by decide) ?_
  exact hret _ _ _ nr_0 h dX6_shareRow_37
theorem mX6_shareRow {l : Launch} {D : va_G} {cI cJ cZ : ClassId} {ad : Nat → Nat} {S : S6} {a1 : Int32} {a2 : Int32} {Q : Int32 → Prop} (h : wX6_shareRow S a1 a2 Q) : Met l yX6_shareRow wsX6_shareRow rX6_shareRow (va_Pc [.ref (ad 0), .int a1, .int a2] (rp D cI cJ cZ (w6 ad cI cZ S))) (vp_Si (qb Q)) 0 0 (fun _ => False) :=
  enter_z (by decide +kernel) rfl (Nat.le_of_ble_eq_true rfl) (fun p e s m args below meth c QQ F hz hret => bX6_shareRow F hz.1 hz.2 hret h)
abbrev rX6_rest : Room := { frames := 5, cells := 0, slots := 0, locals := 117 }
theorem kV_X6_rest : yX6_rest.cls = RX6 ∧ yX6_rest.cls ≠ "java/lang/invoke/MethodHandle" ∧ yX6_rest.cls ≠ "java/lang/invoke/VarHandle" ∧ (parseMethodDescriptor yX6_rest.desc).map (fun d => d.parameters.length) = some 0 := by decide +kernel
theorem vX6_rest_X6 : ∀ w ∈ wsX60, w ∈ wsX6_rest := fun _ h => List.mem_cons_of_mem _ (List.mem_append_right _ h)
theorem uX6_rest_1 : Cond.fieldLink RX6 123 "SumMovedModel" "expected" "I" ∈ wsX6_rest := List.mem_of_getElem? (i := 1) rfl
set_option maxRecDepth 100000 in
theorem bX6_rest {S : S6} {Q : Int32 → Prop} (F : CallFix p m c cX6_rest 1 s args wsX6_rest RX6) (hz : gz D cI cJ cZ s) (hP : va_P D vwCl (w6 ad cI cZ S) s.heap) (hret : ∀ (v : Int32) (pc : Nat) (ls : Array Slot), Q v → decode cX6_rest pc = .ok (.ireturn, 1) → W p l e rX6_rest s m args below meth c s.heap [] 0 0 QQ (F0 m pc ls [.int v])) (h : wX6_rest S Q) : ∀ ls : Array Slot, lv_has ls 1 [(0, .ref (ad 0))] → W p l e rX6_rest s m args below meth c s.heap [] 0 0 QQ (F0 m 0 ls []) := by
  intro ls hl
  refine lv_aload_n F.1 F.2.1 dX6_rest_0 rfl (lv_at hl 0 rfl) ?_
  refine lv_iconst (v := (0 : Int32)) F.1 F.2.1 dX6_rest_1 (by decide) ?_
  refine lv_iconst (v := (0 : Int32)) F.1 F.2.1 dX6_rest_2 (by decide) ?_
  refine vp_callSi (va_Run.run (va_runV (As := [.int (0 : Int32), .int (0 : Int32)]) (rest := []) F (mX6_changed (l := l) (D := D) (cI := cI) (cJ := cJ) (cZ := cZ) (ad := ad) h) (cwV 2 F.2.2.2.2 gX6_rest_X6_changed rfl rfl rfl kV_X6_changed ⟨Nat.le_of_ble_eq_true rfl, Nat.le_of_ble_eq_true rfl⟩) ⟨rp_blind, va_recv hz.1 hP (ci := 4) (q0 := 0) rfl rfl, rp_pre hz hP (.ref (ad 0) :: [.int (0 : Int32), .int (0 : Int32)])⟩ rfl rfl hl.1 rfl (lv_room (Nat.le_of_ble_eq_true rfl)) dX6_rest_3 ⟨Nat.le_of_ble_eq_true rfl, Nat.le_of_ble_eq_true rfl⟩)) (fun r_1 h => ?_)
  refine lv_aload_n F.1 F.2.1 dX6_rest_6 rfl (lv_at hl 0 rfl) ?_
  refine va_get (D := D) (ci := 4) (v := .int S.2.2.2.2.2.2.2.2.2.2.1) (C := RX6) (T := TX6) (N := 19) F.1 F.2.1 F.2.2.2.2 vX6_rest_X6 F.2.2.2.1 hz.1 hP 0 rfl rfl 10 (by decide) (F.2.2.2.2 _ uX6_rest_1) (fun _ h9 => h9) rfl dX6_rest_7 ?_
  refine lv_isub F.1 F.2.1 dX6_rest_10 ?_
  exact hret _ _ _ h dX6_rest_11
theorem mX6_rest {l : Launch} {D : va_G} {cI cJ cZ : ClassId} {ad : Nat → Nat} {S : S6} {Q : Int32 → Prop} (h : wX6_rest S Q) : Met l yX6_rest wsX6_rest rX6_rest (va_Pc [.ref (ad 0)] (rp D cI cJ cZ (w6 ad cI cZ S))) (vp_Si Q) 0 0 (fun _ => False) :=
  enter_i (by decide +kernel) rfl (Nat.le_of_ble_eq_true rfl) (fun p e s m args below meth c QQ F hz hret => bX6_rest F hz.1 hz.2 hret h)
abbrev rX6_tells : Room := { frames := 0, cells := 0, slots := 0, locals := 0 }
theorem kV_X6_tells : yX6_tells.cls = RX6 ∧ yX6_tells.cls ≠ "java/lang/invoke/MethodHandle" ∧ yX6_tells.cls ≠ "java/lang/invoke/VarHandle" ∧ (parseMethodDescriptor yX6_tells.desc).map (fun d => d.parameters.length) = some 4 := by decide +kernel
theorem vX6_tells_X6 : ∀ w ∈ wsX60, w ∈ wsX6_tells := fun _ h => List.mem_cons_of_mem _ (List.mem_append_right _ h)
theorem uX6_tells_1 : Cond.fieldLink RX6 38 "SumMovedModel" "found" "I" ∈ wsX6_tells := List.mem_of_getElem? (i := 1) rfl
theorem uX6_tells_2 : Cond.fieldLink RX6 142 "SumMovedModel" "firstHeap" "I" ∈ wsX6_tells := List.mem_of_getElem? (i := 2) rfl
theorem uX6_tells_3 : Cond.fieldLink RX6 145 "SumMovedModel" "secondHeap" "I" ∈ wsX6_tells := List.mem_of_getElem? (i := 3) rfl
theorem uX6_tells_4 : Cond.fieldLink RX6 148 "SumMovedModel" "foundRest" "I" ∈ wsX6_tells := List.mem_of_getElem? (i := 4) rfl
set_option maxRecDepth 100000 in
theorem bX6_tells {a1 : Int32} {a2 : Int32} {a3 : Int32} {a4 : Int32} {S : S6} {Q : S6 → Prop} (F : CallFix p m c cX6_tells 5 s args wsX6_tells RX6) (hz : gz D cI cJ cZ s) (hD : ∀ u : S6, va_D A (w6 ad cI cZ u)) (hA : ∀ q : Nat, s.heap.size ≤ q → A q) (hret : ∀ (u : S6) (H : Heap) (locs : List Loc) (pc : Nat) (ls : Array Slot), Q u → va_P D vwCl (w6 ad cI cZ u) H → va_S A s.heap H locs → decode cX6_tells pc = .ok (.return_, 1) → W p l e rX6_tells s m args below meth c H locs 0 0 QQ (F0 m pc ls [])) (hP : va_P D vwCl (w6 ad cI cZ S) s.heap) (h : wX6_tells S a1 a2 a3 a4 Q) : ∀ ls : Array Slot, lv_has ls 5 [(0, .ref (ad 0)), (1, .int a1), (2, .int a2), (3, .int a3), (4, .int a4)] → W p l e rX6_tells s m args below meth c s.heap [] 0 0 QQ (F0 m 0 ls []) := by
  intro ls hl
  have hS : va_S A s.heap s.heap [] := va_S.rf
  refine lv_aload_n F.1 F.2.1 dX6_tells_0 rfl (lv_at hl 0 rfl) ?_
  refine lv_iload_n F.1 F.2.1 dX6_tells_1 rfl (lv_at hl 1 rfl) ?_
  refine va_put (D := D) (ci := 4) (v := .int a1) (ty := .int) (C := RX6) (T := TX6) (N := 19) F.1 F.2.1 F.2.2.2.2 vX6_tells_X6 tyX6 tyX6_ok nmX6 F.2.2.2.1 hz.1 hP (hD _) hS 0 rfl rfl 11 (by decide) (F.2.2.2.2 _ uX6_tells_1) (fun _ h9 => h9) rfl (by decide +kernel) rfl rfl (Nat.le_of_ble_eq_true rfl) dX6_tells_2 (fun H locs hP _ hS => ?_)
  have hP : va_P D vwCl (w6 ad cI cZ (S.1, S.2.1, S.2.2.1, S.2.2.2.1, S.2.2.2.2.1, S.2.2.2.2.2.1, S.2.2.2.2.2.2.1, S.2.2.2.2.2.2.2.1, S.2.2.2.2.2.2.2.2.1, S.2.2.2.2.2.2.2.2.2.1, S.2.2.2.2.2.2.2.2.2.2.1, a1, S.2.2.2.2.2.2.2.2.2.2.2.2.1, S.2.2.2.2.2.2.2.2.2.2.2.2.2.1, S.2.2.2.2.2.2.2.2.2.2.2.2.2.2.1, S.2.2.2.2.2.2.2.2.2.2.2.2.2.2.2.1, S.2.2.2.2.2.2.2.2.2.2.2.2.2.2.2.2.1, S.2.2.2.2.2.2.2.2.2.2.2.2.2.2.2.2.2.1, S.2.2.2.2.2.2.2.2.2.2.2.2.2.2.2.2.2.2)) H := hP
  refine lv_aload_n F.1 F.2.1 dX6_tells_5 rfl (lv_at hl 0 rfl) ?_
  refine lv_iload_n F.1 F.2.1 dX6_tells_6 rfl (lv_at hl 2 rfl) ?_
  refine va_put (D := D) (ci := 4) (v := .int a2) (ty := .int) (C := RX6) (T := TX6) (N := 19) F.1 F.2.1 F.2.2.2.2 vX6_tells_X6 tyX6 tyX6_ok nmX6 F.2.2.2.1 hz.1 hP (hD _) hS 0 rfl rfl 12 (by decide) (F.2.2.2.2 _ uX6_tells_2) (fun _ h9 => h9) rfl (by decide +kernel) rfl rfl (Nat.le_of_ble_eq_true rfl) dX6_tells_7 (fun H locs hP _ hS => ?_)
  have hP : va_P D vwCl (w6 ad cI cZ (S.1, S.2.1, S.2.2.1, S.2.2.2.1, S.2.2.2.2.1, S.2.2.2.2.2.1, S.2.2.2.2.2.2.1, S.2.2.2.2.2.2.2.1, S.2.2.2.2.2.2.2.2.1, S.2.2.2.2.2.2.2.2.2.1, S.2.2.2.2.2.2.2.2.2.2.1, a1, a2, S.2.2.2.2.2.2.2.2.2.2.2.2.2.1, S.2.2.2.2.2.2.2.2.2.2.2.2.2.2.1, S.2.2.2.2.2.2.2.2.2.2.2.2.2.2.2.1, S.2.2.2.2.2.2.2.2.2.2.2.2.2.2.2.2.1, S.2.2.2.2.2.2.2.2.2.2.2.2.2.2.2.2.2.1, S.2.2.2.2.2.2.2.2.2.2.2.2.2.2.2.2.2.2)) H := hP
  refine lv_aload_n F.1 F.2.1 dX6_tells_10 rfl (lv_at hl 0 rfl) ?_
  refine lv_iload_n F.1 F.2.1 dX6_tells_11 rfl (lv_at hl 3 rfl) ?_
  refine va_put (D := D) (ci := 4) (v := .int a3) (ty := .int) (C := RX6) (T := TX6) (N := 19) F.1 F.2.1 F.2.2.2.2 vX6_tells_X6 tyX6 tyX6_ok nmX6 F.2.2.2.1 hz.1 hP (hD _) hS 0 rfl rfl 13 (by decide) (F.2.2.2.2 _ uX6_tells_3) (fun _ h9 => h9) rfl (by decide +kernel) rfl rfl (Nat.le_of_ble_eq_true rfl) dX6_tells_12 (fun H locs hP _ hS => ?_)
  have hP : va_P D vwCl (w6 ad cI cZ (S.1, S.2.1, S.2.2.1, S.2.2.2.1, S.2.2.2.2.1, S.2.2.2.2.2.1, S.2.2.2.2.2.2.1, S.2.2.2.2.2.2.2.1, S.2.2.2.2.2.2.2.2.1, S.2.2.2.2.2.2.2.2.2.1, S.2.2.2.2.2.2.2.2.2.2.1, a1, a2, a3, S.2.2.2.2.2.2.2.2.2.2.2.2.2.2.1, S.2.2.2.2.2.2.2.2.2.2.2.2.2.2.2.1, S.2.2.2.2.2.2.2.2.2.2.2.2.2.2.2.2.1, S.2.2.2.2.2.2.2.2.2.2.2.2.2.2.2.2.2.1, S.2.2.2.2.2.2.2.2.2.2.2.2.2.2.2.2.2.2)) H := hP
  refine lv_aload_n F.1 F.2.1 dX6_tells_15 rfl (lv_at hl 0 rfl) ?_
  refine lv_iload F.1 F.2.1 dX6_tells_16 (lv_at hl 4 rfl) ?_
  refine va_put (D := D) (ci := 4) (v := .int a4) (ty := .int) (C := RX6) (T := TX6) (N := 19) F.1 F.2.1 F.2.2.2.2 vX6_tells_X6 tyX6 tyX6_ok nmX6 F.2.2.2.1 hz.1 hP (hD _) hS 0 rfl rfl 14 (by decide) (F.2.2.2.2 _ uX6_tells_4) (fun _ h9 => h9) rfl (by decide +kernel) rfl rfl (Nat.le_of_ble_eq_true rfl) dX6_tells_18 (fun H locs hP _ hS => ?_)
  have hP : va_P D vwCl (w6 ad cI cZ (S.1, S.2.1, S.2.2.1, S.2.2.2.1, S.2.2.2.2.1, S.2.2.2.2.2.1, S.2.2.2.2.2.2.1, S.2.2.2.2.2.2.2.1, S.2.2.2.2.2.2.2.2.1, S.2.2.2.2.2.2.2.2.2.1, S.2.2.2.2.2.2.2.2.2.2.1, a1, a2, a3, a4, S.2.2.2.2.2.2.2.2.2.2.2.2.2.2.2.1, S.2.2.2.2.2.2.2.2.2.2.2.2.2.2.2.2.1, S.2.2.2.2.2.2.2.2.2.2.2.2.2.2.2.2.2.1, S.2.2.2.2.2.2.2.2.2.2.2.2.2.2.2.2.2.2)) H := hP
  exact hret _ _ _ _ _ h hP hS dX6_tells_21
theorem mX6_tells {l : Launch} {D : va_G} {cI cJ cZ : ClassId} {ad : Nat → Nat} {S : S6} {a1 : Int32} {a2 : Int32} {a3 : Int32} {a4 : Int32} {Q : S6 → Prop} (sz : Nat) (h : wX6_tells S a1 a2 a3 a4 Q) : Met l yX6_tells wsX6_tells rX6_tells (va_Pc [.ref (ad 0), .int a1, .int a2, .int a3, .int a4] (wp D cI cJ cZ sz (w6 ad cI cZ S))) (wQv D (w6 ad cI cZ) S sz Q) 0 0 (va_A (w6 ad cI cZ S) sz) :=
  enter_wv (wf := w6 ad cI cZ) (fun _ => rfl) (by decide +kernel) rfl (Nat.le_of_ble_eq_true rfl) (fun p e s m args below meth c QQ A F hz hD hA hP hret => bX6_tells F hz hD hA hret hP h)
end WALKS
