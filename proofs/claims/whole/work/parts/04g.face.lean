/-! THE WALKS of face, printed by wip/whole/gen.py -/
section WALKS
variable {p : Program} {l : Launch} {e : Env} {s : State} {m : MethodId} {args : Array Value} {below : List Frame} {meth : Method} {c : Code} {QQ : State → Prop} {A : Nat → Prop} {D : va_G} {cI cJ cZ : ClassId} {ad : Nat → Nat}
abbrev rX5_row : Room := { frames := 2, cells := 0, slots := 0, locals := 45 }
theorem kV_X5_row : yX5_row.cls = RX5 ∧ yX5_row.cls ≠ "java/lang/invoke/MethodHandle" ∧ yX5_row.cls ≠ "java/lang/invoke/VarHandle" ∧ (parseMethodDescriptor yX5_row.desc).map (fun d => d.parameters.length) = some 5 := by decide +kernel
theorem vX5_row_X5 : ∀ w ∈ wsX50, w ∈ wsX5_row := fun _ h => List.mem_cons_of_mem _ (List.mem_append_left _ (List.mem_append_right _ h))
theorem uX5_row_1 : Cond.fieldLink RX5 10 "SumMoved" "rows" "LSumMoved$Rows;" ∈ wsX5_row := List.mem_of_getElem? (i := 1) rfl
set_option maxRecDepth 100000 in
theorem bX5_row {a1 : Int32} {a2 : Int32} {a3 : Int32} {a4 : Int32} {a5 : Int32} {S : SX} {Q : Int32 → SX → Prop} (F : CallFix p m c cX5_row 7 s args wsX5_row RX5) (hz : gz D cI cJ cZ s) (hD : ∀ u : SX, va_D A (w5 ad cI cJ u)) (hA : ∀ q : Nat, s.heap.size ≤ q → A q) (hret : ∀ (v : Int32) (u : SX) (H : Heap) (locs : List Loc) (pc : Nat) (ls : Array Slot), Q v u → va_P D vwCl (w5 ad cI cJ u) H → va_S A s.heap H locs → decode cX5_row pc = .ok (.ireturn, 1) → W p l e rX5_row s m args below meth c H locs 0 0 QQ (F0 m pc ls [.int v])) (hP : va_P D vwCl (w5 ad cI cJ S) s.heap) (h : wX5_row S a1 a2 a3 a4 a5 Q) : ∀ ls : Array Slot, lv_has ls 7 [(0, .ref (ad 0)), (1, .int a1), (2, .int a2), (3, .int a3), (4, .int a4), (5, .int a5)] → W p l e rX5_row s m args below meth c s.heap [] 0 0 QQ (F0 m 0 ls []) := by
  intro ls hl
  have hS : va_S A s.heap s.heap [] := va_S.rf
  refine lv_iload_n F.1 F.2.1 dX5_row_0 rfl (lv_at hl 1 rfl) ?_
  refine lv_if_lt (tgt := 33) F.1 F.2.1 dX5_row_1 (by decide) (fun hc => ?_) (fun hc => ?_)
  · have h := h.1 (hc)
    refine lv_iconst (v := (0 : Int32)) F.1 F.2.1 dX5_row_33 (by decide) ?_
    refine lv_istore (lv' := [(6, .int (0 : Int32)), (0, .ref (ad 0)), (1, .int a1), (2, .int a2), (3, .int a3), (4, .int a4), (5, .int a5)]) F.1 F.2.1 dX5_row_34 hl (by decide) rfl (fun ls hl => ?_)
    refine lv_iload F.1 F.2.1 dX5_row_36 (lv_at hl 0 rfl) ?_
    refine lv_if_eq (tgt := 75) F.1 F.2.1 dX5_row_38 (by decide) (fun hc => ?_) (fun hc => ?_)
    · refine lv_iconst (v := (-1 : Int32)) F.1 F.2.1 dX5_row_75 (by decide) ?_
      exact hret _ _ _ _ _ _ h hP hS dX5_row_76
    · exact absurd hc (by decide)
  · have h := h.2 hc
    refine lv_iload_n F.1 F.2.1 dX5_row_4 rfl (lv_at hl 1 rfl) ?_
    refine lv_bipush (v := (100 : Int32)) F.1 F.2.1 dX5_row_5 (by decide) ?_
    refine lv_idiv F.1 F.2.1 dX5_row_7 (by decide) ?_
    refine lv_iconst (v := (0 : Int32)) F.1 F.2.1 dX5_row_8 (by decide) ?_
    refine lv_iconst (v := (1 : Int32)) F.1 F.2.1 dX5_row_9 (by decide) ?_
    refine vp_callSi (va_Run.run (va_runS (As := [.int (a1 / (100 : Int32)), .int (0 : Int32), .int (1 : Int32)]) (rest := []) F (mX5_isIn (l := l) (D := D) (cI := cI) (cJ := cJ) (cZ := cZ) h) (va_cwS 3 F.2.2.2.2 gX5_row_X5_isIn rfl rfl rfl kS_X5_isIn ⟨Nat.le_of_ble_eq_true rfl, Nat.le_of_ble_eq_true rfl⟩) ⟨rp_blind, rp_pre hz (hP.sub (ws' := []) [] rfl) [.int (a1 / (100 : Int32)), .int (0 : Int32), .int (1 : Int32)]⟩ rfl rfl hl.1 rfl (lv_room (Nat.le_of_ble_eq_true rfl)) dX5_row_10 ⟨Nat.le_of_ble_eq_true rfl, Nat.le_of_ble_eq_true rfl⟩)) (fun r_1 h => ?_)
    obtain ⟨hbr_1, h⟩ := h
    refine lv_if_eq (tgt := 33) F.1 F.2.1 dX5_row_13 (by decide) (fun hc => ?_) (fun hc => ?_)
    · have h := h.1 (hc)
      refine lv_iconst (v := (0 : Int32)) F.1 F.2.1 dX5_row_33 (by decide) ?_
      refine lv_istore (lv' := [(6, .int (0 : Int32)), (0, .ref (ad 0)), (1, .int a1), (2, .int a2), (3, .int a3), (4, .int a4), (5, .int a5)]) F.1 F.2.1 dX5_row_34 hl (by decide) rfl (fun ls hl => ?_)
      refine lv_iload F.1 F.2.1 dX5_row_36 (lv_at hl 0 rfl) ?_
      refine lv_if_eq (tgt := 75) F.1 F.2.1 dX5_row_38 (by decide) (fun hc => ?_) (fun hc => ?_)
      · refine lv_iconst (v := (-1 : Int32)) F.1 F.2.1 dX5_row_75 (by decide) ?_
        exact hret _ _ _ _ _ _ h hP hS dX5_row_76
      · exact absurd hc (by decide)
    · have h := h.2 hc
      refine lv_iload_n F.1 F.2.1 dX5_row_16 rfl (lv_at hl 1 rfl) ?_
      refine lv_bipush (v := (100 : Int32)) F.1 F.2.1 dX5_row_17 (by decide) ?_
      refine lv_irem F.1 F.2.1 dX5_row_19 (by decide) ?_
      refine lv_iconst (v := (0 : Int32)) F.1 F.2.1 dX5_row_20 (by decide) ?_
      refine lv_bipush (v := (30 : Int32)) F.1 F.2.1 dX5_row_21 (by decide) ?_
      refine vp_callSi (va_Run.run (va_runS (As := [.int (a1 - a1 / (100 : Int32) * (100 : Int32)), .int (0 : Int32), .int (30 : Int32)]) (rest := []) F (mX5_isIn (l := l) (D := D) (cI := cI) (cJ := cJ) (cZ := cZ) h) (va_cwS 3 F.2.2.2.2 gX5_row_X5_isIn rfl rfl rfl kS_X5_isIn ⟨Nat.le_of_ble_eq_true rfl, Nat.le_of_ble_eq_true rfl⟩) ⟨rp_blind, rp_pre hz (hP.sub (ws' := []) [] rfl) [.int (a1 - a1 / (100 : Int32) * (100 : Int32)), .int (0 : Int32), .int (30 : Int32)]⟩ rfl rfl hl.1 rfl (lv_room (Nat.le_of_ble_eq_true rfl)) dX5_row_23 ⟨Nat.le_of_ble_eq_true rfl, Nat.le_of_ble_eq_true rfl⟩)) (fun r_2 h => ?_)
      obtain ⟨hbr_2, h⟩ := h
      refine lv_if_eq (tgt := 33) F.1 F.2.1 dX5_row_26 (by decide) (fun hc => ?_) (fun hc => ?_)
      · have h := h.1 (hc)
        refine lv_iconst (v := (0 : Int32)) F.1 F.2.1 dX5_row_33 (by decide) ?_
        refine lv_istore (lv' := [(6, .int (0 : Int32)), (0, .ref (ad 0)), (1, .int a1), (2, .int a2), (3, .int a3), (4, .int a4), (5, .int a5)]) F.1 F.2.1 dX5_row_34 hl (by decide) rfl (fun ls hl => ?_)
        refine lv_iload F.1 F.2.1 dX5_row_36 (lv_at hl 0 rfl) ?_
        refine lv_if_eq (tgt := 75) F.1 F.2.1 dX5_row_38 (by decide) (fun hc => ?_) (fun hc => ?_)
        · refine lv_iconst (v := (-1 : Int32)) F.1 F.2.1 dX5_row_75 (by decide) ?_
          exact hret _ _ _ _ _ _ h hP hS dX5_row_76
        · exact absurd hc (by decide)
      · have h := h.2 hc
        refine lv_iconst (v := (1 : Int32)) F.1 F.2.1 dX5_row_29 (by decide) ?_
        refine lv_goto (tgt := 34) F.1 F.2.1 dX5_row_30 (by decide) ?_
        refine lv_istore (lv' := [(6, .int (1 : Int32)), (0, .ref (ad 0)), (1, .int a1), (2, .int a2), (3, .int a3), (4, .int a4), (5, .int a5)]) F.1 F.2.1 dX5_row_34 hl (by decide) rfl (fun ls hl => ?_)
        refine lv_iload F.1 F.2.1 dX5_row_36 (lv_at hl 0 rfl) ?_
        refine lv_if_eq (tgt := 75) F.1 F.2.1 dX5_row_38 (by decide) (fun hc => ?_) (fun hc => ?_)
        · exact absurd hc (by decide)
        · refine lv_iload_n F.1 F.2.1 dX5_row_41 rfl (lv_at hl 3 rfl) ?_
          refine vp_callSi (va_Run.run (va_runS (As := [.int a2]) (rest := []) F (mX5_isTop (l := l) (D := D) (cI := cI) (cJ := cJ) (cZ := cZ) h) (va_cwS 1 F.2.2.2.2 gX5_row_X5_isTop rfl rfl rfl kS_X5_isTop ⟨Nat.le_of_ble_eq_true rfl, Nat.le_of_ble_eq_true rfl⟩) ⟨rp_blind, rp_pre hz (hP.sub (ws' := []) [] rfl) [.int a2]⟩ rfl rfl hl.1 rfl (lv_room (Nat.le_of_ble_eq_true rfl)) dX5_row_42 ⟨Nat.le_of_ble_eq_true rfl, Nat.le_of_ble_eq_true rfl⟩)) (fun r_3 h => ?_)
          obtain ⟨hbr_3, h⟩ := h
          refine lv_if_eq (tgt := 75) F.1 F.2.1 dX5_row_45 (by decide) (fun hc => ?_) (fun hc => ?_)
          · have h := h.1 (hc)
            refine lv_iconst (v := (-1 : Int32)) F.1 F.2.1 dX5_row_75 (by decide) ?_
            exact hret _ _ _ _ _ _ h hP hS dX5_row_76
          · have h := h.2 hc
            refine lv_iload_n F.1 F.2.1 dX5_row_48 rfl (lv_at hl 4 rfl) ?_
            refine vp_callSi (va_Run.run (va_runS (As := [.int a3]) (rest := []) F (mX5_isBase (l := l) (D := D) (cI := cI) (cJ := cJ) (cZ := cZ) h) (va_cwS 1 F.2.2.2.2 gX5_row_X5_isBase rfl rfl rfl kS_X5_isBase ⟨Nat.le_of_ble_eq_true rfl, Nat.le_of_ble_eq_true rfl⟩) ⟨rp_blind, rp_pre hz (hP.sub (ws' := []) [] rfl) [.int a3]⟩ rfl rfl hl.1 rfl (lv_room (Nat.le_of_ble_eq_true rfl)) dX5_row_49 ⟨Nat.le_of_ble_eq_true rfl, Nat.le_of_ble_eq_true rfl⟩)) (fun r_4 h => ?_)
            obtain ⟨hbr_4, h⟩ := h
            refine lv_if_eq (tgt := 75) F.1 F.2.1 dX5_row_52 (by decide) (fun hc => ?_) (fun hc => ?_)
            · have h := h.1 (hc)
              refine lv_iconst (v := (-1 : Int32)) F.1 F.2.1 dX5_row_75 (by decide) ?_
              exact hret _ _ _ _ _ _ h hP hS dX5_row_76
            · have h := h.2 hc
              refine lv_iload F.1 F.2.1 dX5_row_55 (lv_at hl 5 rfl) ?_
              refine vp_callSi (va_Run.run (va_runS (As := [.int a4]) (rest := []) F (mX5_isMember (l := l) (D := D) (cI := cI) (cJ := cJ) (cZ := cZ) h) (va_cwS 1 F.2.2.2.2 gX5_row_X5_isMember rfl rfl rfl kS_X5_isMember ⟨Nat.le_of_ble_eq_true rfl, Nat.le_of_ble_eq_true rfl⟩) ⟨rp_blind, rp_pre hz (hP.sub (ws' := []) [] rfl) [.int a4]⟩ rfl rfl hl.1 rfl (lv_room (Nat.le_of_ble_eq_true rfl)) dX5_row_57 ⟨Nat.le_of_ble_eq_true rfl, Nat.le_of_ble_eq_true rfl⟩)) (fun r_5 h => ?_)
              obtain ⟨hbr_5, h⟩ := h
              refine lv_if_eq (tgt := 75) F.1 F.2.1 dX5_row_60 (by decide) (fun hc => ?_) (fun hc => ?_)
              · have h := h.1 (hc)
                refine lv_iconst (v := (-1 : Int32)) F.1 F.2.1 dX5_row_75 (by decide) ?_
                exact hret _ _ _ _ _ _ h hP hS dX5_row_76
              · have h := h.2 hc
                refine lv_iload F.1 F.2.1 dX5_row_63 (lv_at hl 6 rfl) ?_
                refine lv_iconst (v := (0 : Int32)) F.1 F.2.1 dX5_row_65 (by decide) ?_
                refine lv_sipush (v := (511 : Int32)) F.1 F.2.1 dX5_row_66 (by decide) ?_
                refine vp_callSi (va_Run.run (va_runS (As := [.int a5, .int (0 : Int32), .int (511 : Int32)]) (rest := []) F (mX5_isIn (l := l) (D := D) (cI := cI) (cJ := cJ) (cZ := cZ) h) (va_cwS 3 F.2.2.2.2 gX5_row_X5_isIn rfl rfl rfl kS_X5_isIn ⟨Nat.le_of_ble_eq_true rfl, Nat.le_of_ble_eq_true rfl⟩) ⟨rp_blind, rp_pre hz (hP.sub (ws' := []) [] rfl) [.int a5, .int (0 : Int32), .int (511 : Int32)]⟩ rfl rfl hl.1 rfl (lv_room (Nat.le_of_ble_eq_true rfl)) dX5_row_69 ⟨Nat.le_of_ble_eq_true rfl, Nat.le_of_ble_eq_true rfl⟩)) (fun r_6 h => ?_)
                obtain ⟨hbr_6, h⟩ := h
                refine lv_if_ne (tgt := 77) F.1 F.2.1 dX5_row_72 (by decide) (fun hc => ?_) (fun hc => ?_)
                · have h := h.2 hc
                  refine lv_aload_n F.1 F.2.1 dX5_row_77 rfl (lv_at hl 1 rfl) ?_
                  refine va_get (D := D) (ci := 3) (v := .ref (ad 1)) (C := RX5) (T := TX5) (N := 3) F.1 F.2.1 F.2.2.2.2 vX5_row_X5 F.2.2.2.1 hz.1 hP 0 rfl rfl 0 (by decide) (F.2.2.2.2 _ uX5_row_1) (fun _ h9 => h9) rfl dX5_row_78 ?_
                  refine vp_callSi (va_Run.run (va_runV (As := []) (rest := []) F (mX2_isFull (l := l) (D := D) (cI := cI) (cJ := cJ) (cZ := cZ) (ad := ad) h) (cwV 0 F.2.2.2.2 gX5_row_X2_isFull rfl rfl rfl kV_X2_isFull ⟨Nat.le_of_ble_eq_true rfl, Nat.le_of_ble_eq_true rfl⟩) ⟨rp_blind, va_recv hz.1 hP (ci := 0) (q0 := 1) rfl rfl, rp_pre hz (hP.sub (ws' := w2 ad cI S.1) [1, 2, 3, 4, 5, 6, 7, 8] rfl) (.ref (ad 1) :: [])⟩ rfl rfl hl.1 rfl (lv_room (Nat.le_of_ble_eq_true rfl)) dX5_row_81 ⟨Nat.le_of_ble_eq_true rfl, Nat.le_of_ble_eq_true rfl⟩)) (fun r_7 h => ?_)
                  obtain ⟨hbr_7, h⟩ := h
                  refine lv_if_eq (tgt := 90) F.1 F.2.1 dX5_row_84 (by decide) (fun hc => ?_) (fun hc => ?_)
                  · have h := h.1 (hc)
                    refine lv_aload_n F.1 F.2.1 dX5_row_90 rfl (lv_at hl 1 rfl) ?_
                    refine va_get (D := D) (ci := 3) (v := .ref (ad 1)) (C := RX5) (T := TX5) (N := 3) F.1 F.2.1 F.2.2.2.2 vX5_row_X5 F.2.2.2.1 hz.1 hP 0 rfl rfl 0 (by decide) (F.2.2.2.2 _ uX5_row_1) (fun _ h9 => h9) rfl dX5_row_91 ?_
                    refine lv_iload_n F.1 F.2.1 dX5_row_94 rfl (lv_at hl 2 rfl) ?_
                    refine lv_iload_n F.1 F.2.1 dX5_row_95 rfl (lv_at hl 3 rfl) ?_
                    refine lv_iload_n F.1 F.2.1 dX5_row_96 rfl (lv_at hl 4 rfl) ?_
                    refine lv_iload F.1 F.2.1 dX5_row_97 (lv_at hl 5 rfl) ?_
                    refine lv_iload F.1 F.2.1 dX5_row_99 (lv_at hl 6 rfl) ?_
                    refine call_wi (wf := w5 ad cI cJ) (va_runV (As := [.int a1, .int a2, .int a3, .int a4, .int a5]) (rest := []) F (mX2_add (l := l) (D := D) (cI := cI) (cJ := cJ) (cZ := cZ) (ad := ad) _ h) (cwV 5 F.2.2.2.2 gX5_row_X2_add rfl rfl rfl kV_X2_add ⟨Nat.le_of_ble_eq_true rfl, Nat.le_of_ble_eq_true rfl⟩) ⟨wp_blind, va_recv hz.1 hP (ci := 0) (q0 := 1) rfl rfl, wp_pre hz hP (hD _) (.ref (ad 1) :: [.int a1, .int a2, .int a3, .int a4, .int a5])⟩ rfl rfl hl.1 rfl (lv_room (Nat.le_of_ble_eq_true rfl)) dX5_row_101 ⟨Nat.le_of_ble_eq_true rfl, Nat.le_of_ble_eq_true rfl⟩) hS (hD _) hA (fun r_8 S_9 H locs h hP hS => ?_)
                    exact hret _ _ _ _ _ _ h hP hS dX5_row_104
                  · have h := h.2 hc
                    refine lv_bipush (v := (-2 : Int32)) F.1 F.2.1 dX5_row_87 (by decide) ?_
                    exact hret _ _ _ _ _ _ h hP hS dX5_row_89
                · have h := h.1 (hc)
                  refine lv_iconst (v := (-1 : Int32)) F.1 F.2.1 dX5_row_75 (by decide) ?_
                  exact hret _ _ _ _ _ _ h hP hS dX5_row_76
theorem mX5_row {l : Launch} {D : va_G} {cI cJ cZ : ClassId} {ad : Nat → Nat} {S : SX} {a1 : Int32} {a2 : Int32} {a3 : Int32} {a4 : Int32} {a5 : Int32} {Q : Int32 → SX → Prop} (sz : Nat) (h : wX5_row S a1 a2 a3 a4 a5 Q) : Met l yX5_row wsX5_row rX5_row (va_Pc [.ref (ad 0), .int a1, .int a2, .int a3, .int a4, .int a5] (wp D cI cJ cZ sz (w5 ad cI cJ S))) (wQi D (w5 ad cI cJ) S sz Q) 0 0 (va_A (w5 ad cI cJ S) sz) :=
  enter_wi (wf := w5 ad cI cJ) (fun _ => rfl) (by decide +kernel) rfl (Nat.le_of_ble_eq_true rfl) (fun p e s m args below meth c QQ A F hz hD hA hP hret => bX5_row F hz hD hA hret hP h)
abbrev rX5_right : Room := { frames := 2, cells := 0, slots := 0, locals := 44 }
theorem kV_X5_right : yX5_right.cls = RX5 ∧ yX5_right.cls ≠ "java/lang/invoke/MethodHandle" ∧ yX5_right.cls ≠ "java/lang/invoke/VarHandle" ∧ (parseMethodDescriptor yX5_right.desc).map (fun d => d.parameters.length) = some 3 := by decide +kernel
theorem vX5_right_X5 : ∀ w ∈ wsX50, w ∈ wsX5_right := fun _ h => List.mem_cons_of_mem _ (List.mem_append_left _ (List.mem_append_right _ h))
theorem uX5_right_1 : Cond.fieldLink RX5 10 "SumMoved" "rows" "LSumMoved$Rows;" ∈ wsX5_right := List.mem_of_getElem? (i := 1) rfl
set_option maxRecDepth 100000 in
theorem bX5_right {a1 : Int32} {a2 : Int32} {a3 : Int32} {S : SX} {Q : Int32 → SX → Prop} (F : CallFix p m c cX5_right 4 s args wsX5_right RX5) (hz : gz D cI cJ cZ s) (hD : ∀ u : SX, va_D A (w5 ad cI cJ u)) (hA : ∀ q : Nat, s.heap.size ≤ q → A q) (hret : ∀ (v : Int32) (u : SX) (H : Heap) (locs : List Loc) (pc : Nat) (ls : Array Slot), Q v u → va_P D vwCl (w5 ad cI cJ u) H → va_S A s.heap H locs → decode cX5_right pc = .ok (.ireturn, 1) → W p l e rX5_right s m args below meth c H locs 0 0 QQ (F0 m pc ls [.int v])) (hP : va_P D vwCl (w5 ad cI cJ S) s.heap) (h : wX5_right S a1 a2 a3 Q) : ∀ ls : Array Slot, lv_has ls 4 [(0, .ref (ad 0)), (1, .int a1), (2, .int a2), (3, .int a3)] → W p l e rX5_right s m args below meth c s.heap [] 0 0 QQ (F0 m 0 ls []) := by
  intro ls hl
  have hS : va_S A s.heap s.heap [] := va_S.rf
  refine lv_aload_n F.1 F.2.1 dX5_right_0 rfl (lv_at hl 0 rfl) ?_
  refine va_get (D := D) (ci := 3) (v := .ref (ad 1)) (C := RX5) (T := TX5) (N := 3) F.1 F.2.1 F.2.2.2.2 vX5_right_X5 F.2.2.2.1 hz.1 hP 0 rfl rfl 0 (by decide) (F.2.2.2.2 _ uX5_right_1) (fun _ h9 => h9) rfl dX5_right_1 ?_
  refine lv_iload_n F.1 F.2.1 dX5_right_4 rfl (lv_at hl 1 rfl) ?_
  refine vp_callSi (va_Run.run (va_runV (As := [.int a1]) (rest := []) F (mX2_has (l := l) (D := D) (cI := cI) (cJ := cJ) (cZ := cZ) (ad := ad) h) (cwV 1 F.2.2.2.2 gX5_right_X2_has rfl rfl rfl kV_X2_has ⟨Nat.le_of_ble_eq_true rfl, Nat.le_of_ble_eq_true rfl⟩) ⟨rp_blind, va_recv hz.1 hP (ci := 0) (q0 := 1) rfl rfl, rp_pre hz (hP.sub (ws' := w2 ad cI S.1) [1, 2, 3, 4, 5, 6, 7, 8] rfl) (.ref (ad 1) :: [.int a1])⟩ rfl rfl hl.1 rfl (lv_room (Nat.le_of_ble_eq_true rfl)) dX5_right_5 ⟨Nat.le_of_ble_eq_true rfl, Nat.le_of_ble_eq_true rfl⟩)) (fun r_1 h => ?_)
  obtain ⟨hbr_1, h⟩ := h
  refine lv_if_eq (tgt := 25) F.1 F.2.1 dX5_right_8 (by decide) (fun hc => ?_) (fun hc => ?_)
  · have h := h.1 (hc)
    refine lv_iconst (v := (-1 : Int32)) F.1 F.2.1 dX5_right_25 (by decide) ?_
    exact hret _ _ _ _ _ _ h hP hS dX5_right_26
  · have h := h.2 hc
    refine lv_iload_n F.1 F.2.1 dX5_right_11 rfl (lv_at hl 2 rfl) ?_
    refine vp_callSi (va_Run.run (va_runS (As := [.int a2]) (rest := []) F (mX5_isTop (l := l) (D := D) (cI := cI) (cJ := cJ) (cZ := cZ) h) (va_cwS 1 F.2.2.2.2 gX5_right_X5_isTop rfl rfl rfl kS_X5_isTop ⟨Nat.le_of_ble_eq_true rfl, Nat.le_of_ble_eq_true rfl⟩) ⟨rp_blind, rp_pre hz (hP.sub (ws' := []) [] rfl) [.int a2]⟩ rfl rfl hl.1 rfl (lv_room (Nat.le_of_ble_eq_true rfl)) dX5_right_12 ⟨Nat.le_of_ble_eq_true rfl, Nat.le_of_ble_eq_true rfl⟩)) (fun r_2 h => ?_)
    obtain ⟨hbr_2, h⟩ := h
    refine lv_if_eq (tgt := 25) F.1 F.2.1 dX5_right_15 (by decide) (fun hc => ?_) (fun hc => ?_)
    · have h := h.1 (hc)
      refine lv_iconst (v := (-1 : Int32)) F.1 F.2.1 dX5_right_25 (by decide) ?_
      exact hret _ _ _ _ _ _ h hP hS dX5_right_26
    · have h := h.2 hc
      refine lv_iload_n F.1 F.2.1 dX5_right_18 rfl (lv_at hl 3 rfl) ?_
      refine vp_callSi (va_Run.run (va_runS (As := [.int a3]) (rest := []) F (mX5_isBase (l := l) (D := D) (cI := cI) (cJ := cJ) (cZ := cZ) h) (va_cwS 1 F.2.2.2.2 gX5_right_X5_isBase rfl rfl rfl kS_X5_isBase ⟨Nat.le_of_ble_eq_true rfl, Nat.le_of_ble_eq_true rfl⟩) ⟨rp_blind, rp_pre hz (hP.sub (ws' := []) [] rfl) [.int a3]⟩ rfl rfl hl.1 rfl (lv_room (Nat.le_of_ble_eq_true rfl)) dX5_right_19 ⟨Nat.le_of_ble_eq_true rfl, Nat.le_of_ble_eq_true rfl⟩)) (fun r_3 h => ?_)
      obtain ⟨hbr_3, h⟩ := h
      refine lv_if_ne (tgt := 27) F.1 F.2.1 dX5_right_22 (by decide) (fun hc => ?_) (fun hc => ?_)
      · have h := h.2 hc
        refine lv_aload_n F.1 F.2.1 dX5_right_27 rfl (lv_at hl 0 rfl) ?_
        refine va_get (D := D) (ci := 3) (v := .ref (ad 1)) (C := RX5) (T := TX5) (N := 3) F.1 F.2.1 F.2.2.2.2 vX5_right_X5 F.2.2.2.1 hz.1 hP 0 rfl rfl 0 (by decide) (F.2.2.2.2 _ uX5_right_1) (fun _ h9 => h9) rfl dX5_right_28 ?_
        refine lv_iload_n F.1 F.2.1 dX5_right_31 rfl (lv_at hl 1 rfl) ?_
        refine lv_iload_n F.1 F.2.1 dX5_right_32 rfl (lv_at hl 2 rfl) ?_
        refine lv_iload_n F.1 F.2.1 dX5_right_33 rfl (lv_at hl 3 rfl) ?_
        refine call_wv (wf := w5 ad cI cJ) (va_runV (As := [.int a1, .int a2, .int a3]) (rest := []) F (mX2_putRight (l := l) (D := D) (cI := cI) (cJ := cJ) (cZ := cZ) (ad := ad) _ h) (cwV 3 F.2.2.2.2 gX5_right_X2_putRight rfl rfl rfl kV_X2_putRight ⟨Nat.le_of_ble_eq_true rfl, Nat.le_of_ble_eq_true rfl⟩) ⟨wp_blind, va_recv hz.1 hP (ci := 0) (q0 := 1) rfl rfl, wp_pre hz hP (hD _) (.ref (ad 1) :: [.int a1, .int a2, .int a3])⟩ rfl rfl hl.1 rfl (lv_room (Nat.le_of_ble_eq_true rfl)) dX5_right_34 ⟨Nat.le_of_ble_eq_true rfl, Nat.le_of_ble_eq_true rfl⟩) hS (hD _) hA (fun S_5 H locs h hP hS => ?_)
        refine lv_iconst (v := (1 : Int32)) F.1 F.2.1 dX5_right_37 (by decide) ?_
        exact hret _ _ _ _ _ _ h hP hS dX5_right_38
      · have h := h.1 (hc)
        refine lv_iconst (v := (-1 : Int32)) F.1 F.2.1 dX5_right_25 (by decide) ?_
        exact hret _ _ _ _ _ _ h hP hS dX5_right_26
theorem mX5_right {l : Launch} {D : va_G} {cI cJ cZ : ClassId} {ad : Nat → Nat} {S : SX} {a1 : Int32} {a2 : Int32} {a3 : Int32} {Q : Int32 → SX → Prop} (sz : Nat) (h : wX5_right S a1 a2 a3 Q) : Met l yX5_right wsX5_right rX5_right (va_Pc [.ref (ad 0), .int a1, .int a2, .int a3] (wp D cI cJ cZ sz (w5 ad cI cJ S))) (wQi D (w5 ad cI cJ) S sz Q) 0 0 (va_A (w5 ad cI cJ S) sz) :=
  enter_wi (wf := w5 ad cI cJ) (fun _ => rfl) (by decide +kernel) rfl (Nat.le_of_ble_eq_true rfl) (fun p e s m args below meth c QQ A F hz hD hA hP hret => bX5_right F hz hD hA hret hP h)
abbrev rX5_strike : Room := { frames := 2, cells := 0, slots := 0, locals := 44 }
theorem kV_X5_strike : yX5_strike.cls = RX5 ∧ yX5_strike.cls ≠ "java/lang/invoke/MethodHandle" ∧ yX5_strike.cls ≠ "java/lang/invoke/VarHandle" ∧ (parseMethodDescriptor yX5_strike.desc).map (fun d => d.parameters.length) = some 2 := by decide +kernel
theorem vX5_strike_X5 : ∀ w ∈ wsX50, w ∈ wsX5_strike := fun _ h => List.mem_cons_of_mem _ (List.mem_append_left _ (List.mem_append_right _ h))
theorem uX5_strike_1 : Cond.fieldLink RX5 10 "SumMoved" "rows" "LSumMoved$Rows;" ∈ wsX5_strike := List.mem_of_getElem? (i := 1) rfl
set_option maxRecDepth 100000 in
theorem bX5_strike {a1 : Int32} {a2 : Int32} {S : SX} {Q : Int32 → SX → Prop} (F : CallFix p m c cX5_strike 3 s args wsX5_strike RX5) (hz : gz D cI cJ cZ s) (hD : ∀ u : SX, va_D A (w5 ad cI cJ u)) (hA : ∀ q : Nat, s.heap.size ≤ q → A q) (hret : ∀ (v : Int32) (u : SX) (H : Heap) (locs : List Loc) (pc : Nat) (ls : Array Slot), Q v u → va_P D vwCl (w5 ad cI cJ u) H → va_S A s.heap H locs → decode cX5_strike pc = .ok (.ireturn, 1) → W p l e rX5_strike s m args below meth c H locs 0 0 QQ (F0 m pc ls [.int v])) (hP : va_P D vwCl (w5 ad cI cJ S) s.heap) (h : wX5_strike S a1 a2 Q) : ∀ ls : Array Slot, lv_has ls 3 [(0, .ref (ad 0)), (1, .int a1), (2, .int a2)] → W p l e rX5_strike s m args below meth c s.heap [] 0 0 QQ (F0 m 0 ls []) := by
  intro ls hl
  have hS : va_S A s.heap s.heap [] := va_S.rf
  refine lv_aload_n F.1 F.2.1 dX5_strike_0 rfl (lv_at hl 0 rfl) ?_
  refine va_get (D := D) (ci := 3) (v := .ref (ad 1)) (C := RX5) (T := TX5) (N := 3) F.1 F.2.1 F.2.2.2.2 vX5_strike_X5 F.2.2.2.1 hz.1 hP 0 rfl rfl 0 (by decide) (F.2.2.2.2 _ uX5_strike_1) (fun _ h9 => h9) rfl dX5_strike_1 ?_
  refine lv_iload_n F.1 F.2.1 dX5_strike_4 rfl (lv_at hl 1 rfl) ?_
  refine vp_callSi (va_Run.run (va_runV (As := [.int a1]) (rest := []) F (mX2_has (l := l) (D := D) (cI := cI) (cJ := cJ) (cZ := cZ) (ad := ad) h) (cwV 1 F.2.2.2.2 gX5_strike_X2_has rfl rfl rfl kV_X2_has ⟨Nat.le_of_ble_eq_true rfl, Nat.le_of_ble_eq_true rfl⟩) ⟨rp_blind, va_recv hz.1 hP (ci := 0) (q0 := 1) rfl rfl, rp_pre hz (hP.sub (ws' := w2 ad cI S.1) [1, 2, 3, 4, 5, 6, 7, 8] rfl) (.ref (ad 1) :: [.int a1])⟩ rfl rfl hl.1 rfl (lv_room (Nat.le_of_ble_eq_true rfl)) dX5_strike_5 ⟨Nat.le_of_ble_eq_true rfl, Nat.le_of_ble_eq_true rfl⟩)) (fun r_1 h => ?_)
  obtain ⟨hbr_1, h⟩ := h
  refine lv_if_eq (tgt := 20) F.1 F.2.1 dX5_strike_8 (by decide) (fun hc => ?_) (fun hc => ?_)
  · have h := h.1 (hc)
    refine lv_iconst (v := (-1 : Int32)) F.1 F.2.1 dX5_strike_20 (by decide) ?_
    exact hret _ _ _ _ _ _ h hP hS dX5_strike_21
  · have h := h.2 hc
    refine lv_iload_n F.1 F.2.1 dX5_strike_11 rfl (lv_at hl 2 rfl) ?_
    refine lv_iconst (v := (0 : Int32)) F.1 F.2.1 dX5_strike_12 (by decide) ?_
    refine lv_iconst (v := (1 : Int32)) F.1 F.2.1 dX5_strike_13 (by decide) ?_
    refine vp_callSi (va_Run.run (va_runS (As := [.int a2, .int (0 : Int32), .int (1 : Int32)]) (rest := []) F (mX5_isIn (l := l) (D := D) (cI := cI) (cJ := cJ) (cZ := cZ) h) (va_cwS 3 F.2.2.2.2 gX5_strike_X5_isIn rfl rfl rfl kS_X5_isIn ⟨Nat.le_of_ble_eq_true rfl, Nat.le_of_ble_eq_true rfl⟩) ⟨rp_blind, rp_pre hz (hP.sub (ws' := []) [] rfl) [.int a2, .int (0 : Int32), .int (1 : Int32)]⟩ rfl rfl hl.1 rfl (lv_room (Nat.le_of_ble_eq_true rfl)) dX5_strike_14 ⟨Nat.le_of_ble_eq_true rfl, Nat.le_of_ble_eq_true rfl⟩)) (fun r_2 h => ?_)
    obtain ⟨hbr_2, h⟩ := h
    refine lv_if_ne (tgt := 22) F.1 F.2.1 dX5_strike_17 (by decide) (fun hc => ?_) (fun hc => ?_)
    · have h := h.2 hc
      refine lv_aload_n F.1 F.2.1 dX5_strike_22 rfl (lv_at hl 0 rfl) ?_
      refine va_get (D := D) (ci := 3) (v := .ref (ad 1)) (C := RX5) (T := TX5) (N := 3) F.1 F.2.1 F.2.2.2.2 vX5_strike_X5 F.2.2.2.1 hz.1 hP 0 rfl rfl 0 (by decide) (F.2.2.2.2 _ uX5_strike_1) (fun _ h9 => h9) rfl dX5_strike_23 ?_
      refine lv_iload_n F.1 F.2.1 dX5_strike_26 rfl (lv_at hl 1 rfl) ?_
      refine lv_iload_n F.1 F.2.1 dX5_strike_27 rfl (lv_at hl 2 rfl) ?_
      refine call_wi (wf := w5 ad cI cJ) (va_runV (As := [.int a1, .int a2]) (rest := []) F (mX2_setStruck (l := l) (D := D) (cI := cI) (cJ := cJ) (cZ := cZ) (ad := ad) _ h) (cwV 2 F.2.2.2.2 gX5_strike_X2_setStruck rfl rfl rfl kV_X2_setStruck ⟨Nat.le_of_ble_eq_true rfl, Nat.le_of_ble_eq_true rfl⟩) ⟨wp_blind, va_recv hz.1 hP (ci := 0) (q0 := 1) rfl rfl, wp_pre hz hP (hD _) (.ref (ad 1) :: [.int a1, .int a2])⟩ rfl rfl hl.1 rfl (lv_room (Nat.le_of_ble_eq_true rfl)) dX5_strike_28 ⟨Nat.le_of_ble_eq_true rfl, Nat.le_of_ble_eq_true rfl⟩) hS (hD _) hA (fun r_3 S_4 H locs h hP hS => ?_)
      exact hret _ _ _ _ _ _ h hP hS dX5_strike_31
    · have h := h.1 (hc)
      refine lv_iconst (v := (-1 : Int32)) F.1 F.2.1 dX5_strike_20 (by decide) ?_
      exact hret _ _ _ _ _ _ h hP hS dX5_strike_21
theorem mX5_strike {l : Launch} {D : va_G} {cI cJ cZ : ClassId} {ad : Nat → Nat} {S : SX} {a1 : Int32} {a2 : Int32} {Q : Int32 → SX → Prop} (sz : Nat) (h : wX5_strike S a1 a2 Q) : Met l yX5_strike wsX5_strike rX5_strike (va_Pc [.ref (ad 0), .int a1, .int a2] (wp D cI cJ cZ sz (w5 ad cI cJ S))) (wQi D (w5 ad cI cJ) S sz Q) 0 0 (va_A (w5 ad cI cJ S) sz) :=
  enter_wi (wf := w5 ad cI cJ) (fun _ => rfl) (by decide +kernel) rfl (Nat.le_of_ble_eq_true rfl) (fun p e s m args below meth c QQ A F hz hD hA hP hret => bX5_strike F hz hD hA hret hP h)
abbrev rX5_about : Room := { frames := 2, cells := 0, slots := 0, locals := 44 }
theorem kV_X5_about : yX5_about.cls = RX5 ∧ yX5_about.cls ≠ "java/lang/invoke/MethodHandle" ∧ yX5_about.cls ≠ "java/lang/invoke/VarHandle" ∧ (parseMethodDescriptor yX5_about.desc).map (fun d => d.parameters.length) = some 2 := by decide +kernel
theorem vX5_about_X5 : ∀ w ∈ wsX50, w ∈ wsX5_about := fun _ h => List.mem_cons_of_mem _ (List.mem_append_left _ (List.mem_append_right _ h))
theorem uX5_about_1 : Cond.fieldLink RX5 10 "SumMoved" "rows" "LSumMoved$Rows;" ∈ wsX5_about := List.mem_of_getElem? (i := 1) rfl
set_option maxRecDepth 100000 in
theorem bX5_about {a1 : Int32} {a2 : Int32} {S : SX} {Q : Int32 → Prop} (F : CallFix p m c cX5_about 3 s args wsX5_about RX5) (hz : gz D cI cJ cZ s) (hP : va_P D vwCl (w5 ad cI cJ S) s.heap) (hret : ∀ (v : Int32) (pc : Nat) (ls : Array Slot), Q v → decode cX5_about pc = .ok (.ireturn, 1) → W p l e rX5_about s m args below meth c s.heap [] 0 0 QQ (F0 m pc ls [.int v])) (h : wX5_about S a1 a2 Q) : ∀ ls : Array Slot, lv_has ls 3 [(0, .ref (ad 0)), (1, .int a1), (2, .int a2)] → W p l e rX5_about s m args below meth c s.heap [] 0 0 QQ (F0 m 0 ls []) := by
  intro ls hl
  refine lv_aload_n F.1 F.2.1 dX5_about_0 rfl (lv_at hl 0 rfl) ?_
  refine va_get (D := D) (ci := 3) (v := .ref (ad 1)) (C := RX5) (T := TX5) (N := 3) F.1 F.2.1 F.2.2.2.2 vX5_about_X5 F.2.2.2.1 hz.1 hP 0 rfl rfl 0 (by decide) (F.2.2.2.2 _ uX5_about_1) (fun _ h9 => h9) rfl dX5_about_1 ?_
  refine lv_iload_n F.1 F.2.1 dX5_about_4 rfl (lv_at hl 1 rfl) ?_
  refine vp_callSi (va_Run.run (va_runV (As := [.int a1]) (rest := []) F (mX2_has (l := l) (D := D) (cI := cI) (cJ := cJ) (cZ := cZ) (ad := ad) h) (cwV 1 F.2.2.2.2 gX5_about_X2_has rfl rfl rfl kV_X2_has ⟨Nat.le_of_ble_eq_true rfl, Nat.le_of_ble_eq_true rfl⟩) ⟨rp_blind, va_recv hz.1 hP (ci := 0) (q0 := 1) rfl rfl, rp_pre hz (hP.sub (ws' := w2 ad cI S.1) [1, 2, 3, 4, 5, 6, 7, 8] rfl) (.ref (ad 1) :: [.int a1])⟩ rfl rfl hl.1 rfl (lv_room (Nat.le_of_ble_eq_true rfl)) dX5_about_5 ⟨Nat.le_of_ble_eq_true rfl, Nat.le_of_ble_eq_true rfl⟩)) (fun r_1 h => ?_)
  obtain ⟨hbr_1, h⟩ := h
  refine lv_if_eq (tgt := 23) F.1 F.2.1 dX5_about_8 (by decide) (fun hc => ?_) (fun hc => ?_)
  · have h := h.1 (hc)
    refine lv_sipush (v := (-1000 : Int32)) F.1 F.2.1 dX5_about_23 (by decide) ?_
    exact hret _ _ _ h dX5_about_26
  · have h := h.2 hc
    refine lv_aload_n F.1 F.2.1 dX5_about_11 rfl (lv_at hl 0 rfl) ?_
    refine va_get (D := D) (ci := 3) (v := .ref (ad 1)) (C := RX5) (T := TX5) (N := 3) F.1 F.2.1 F.2.2.2.2 vX5_about_X5 F.2.2.2.1 hz.1 hP 0 rfl rfl 0 (by decide) (F.2.2.2.2 _ uX5_about_1) (fun _ h9 => h9) rfl dX5_about_12 ?_
    refine lv_iload_n F.1 F.2.1 dX5_about_15 rfl (lv_at hl 1 rfl) ?_
    refine lv_iload_n F.1 F.2.1 dX5_about_16 rfl (lv_at hl 2 rfl) ?_
    refine vp_callSi (va_Run.run (va_runV (As := [.int a1, .int a2]) (rest := []) F (mX2_field (l := l) (D := D) (cI := cI) (cJ := cJ) (cZ := cZ) (ad := ad) h) (cwV 2 F.2.2.2.2 gX5_about_X2_field rfl rfl rfl kV_X2_field ⟨Nat.le_of_ble_eq_true rfl, Nat.le_of_ble_eq_true rfl⟩) ⟨rp_blind, va_recv hz.1 hP (ci := 0) (q0 := 1) rfl rfl, rp_pre hz (hP.sub (ws' := w2 ad cI S.1) [1, 2, 3, 4, 5, 6, 7, 8] rfl) (.ref (ad 1) :: [.int a1, .int a2])⟩ rfl rfl hl.1 rfl (lv_room (Nat.le_of_ble_eq_true rfl)) dX5_about_17 ⟨Nat.le_of_ble_eq_true rfl, Nat.le_of_ble_eq_true rfl⟩)) (fun r_2 h => ?_)
    refine lv_goto (tgt := 26) F.1 F.2.1 dX5_about_20 (by decide) ?_
    exact hret _ _ _ h dX5_about_26
theorem mX5_about {l : Launch} {D : va_G} {cI cJ cZ : ClassId} {ad : Nat → Nat} {S : SX} {a1 : Int32} {a2 : Int32} {Q : Int32 → Prop} (h : wX5_about S a1 a2 Q) : Met l yX5_about wsX5_about rX5_about (va_Pc [.ref (ad 0), .int a1, .int a2] (rp D cI cJ cZ (w5 ad cI cJ S))) (vp_Si Q) 0 0 (fun _ => False) :=
  enter_i (by decide +kernel) rfl (Nat.le_of_ble_eq_true rfl) (fun p e s m args below meth c QQ F hz hret => bX5_about F hz.1 hz.2 hret h)
abbrev rX5_sum : Room := { frames := 3, cells := 0, slots := 0, locals := 72 }
theorem kV_X5_sum : yX5_sum.cls = RX5 ∧ yX5_sum.cls ≠ "java/lang/invoke/MethodHandle" ∧ yX5_sum.cls ≠ "java/lang/invoke/VarHandle" ∧ (parseMethodDescriptor yX5_sum.desc).map (fun d => d.parameters.length) = some 3 := by decide +kernel
theorem uX5_sum_2 : Cond.constant RX5 75 (-1000000) ∈ wsX5_sum := List.mem_of_getElem? (i := 2) rfl
theorem vX5_sum_X5 : ∀ w ∈ wsX50, w ∈ wsX5_sum := fun _ h => List.mem_cons_of_mem _ (List.mem_append_left _ (List.mem_append_right _ h))
theorem uX5_sum_1 : Cond.fieldLink RX5 10 "SumMoved" "rows" "LSumMoved$Rows;" ∈ wsX5_sum := List.mem_of_getElem? (i := 1) rfl
set_option maxRecDepth 100000 in
theorem bX5_sum {a1 : Int32} {a2 : Int32} {a3 : Int32} {S : SX} {Q : Int32 → Prop} (F : CallFix p m c cX5_sum 5 s args wsX5_sum RX5) (hz : gz D cI cJ cZ s) (hP : va_P D vwCl (w5 ad cI cJ S) s.heap) (hret : ∀ (v : Int32) (pc : Nat) (ls : Array Slot), Q v → decode cX5_sum pc = .ok (.ireturn, 1) → W p l e rX5_sum s m args below meth c s.heap [] 0 0 QQ (F0 m pc ls [.int v])) (h : wX5_sum S a1 a2 a3 Q) : ∀ ls : Array Slot, lv_has ls 5 [(0, .ref (ad 0)), (1, .int a1), (2, .int a2), (3, .int a3)] → W p l e rX5_sum s m args below meth c s.heap [] 0 0 QQ (F0 m 0 ls []) := by
  intro ls hl
  refine lv_iload_n F.1 F.2.1 dX5_sum_0 rfl (lv_at hl 1 rfl) ?_
  refine vp_callSi (va_Run.run (va_runS (As := [.int a1]) (rest := []) F (mX1_has (l := l) (D := D) (cI := cI) (cJ := cJ) (cZ := cZ) h) (va_cwS 1 F.2.2.2.2 gX5_sum_X1_has rfl rfl rfl kS_X1_has ⟨Nat.le_of_ble_eq_true rfl, Nat.le_of_ble_eq_true rfl⟩) ⟨rp_blind, rp_pre hz (hP.sub (ws' := []) [] rfl) [.int a1]⟩ rfl rfl hl.1 rfl (lv_room (Nat.le_of_ble_eq_true rfl)) dX5_sum_1 ⟨Nat.le_of_ble_eq_true rfl, Nat.le_of_ble_eq_true rfl⟩)) (fun r_1 h => ?_)
  obtain ⟨hbr_1, h⟩ := h
  refine lv_if_eq (tgt := 29) F.1 F.2.1 dX5_sum_4 (by decide) (fun hc => ?_) (fun hc => ?_)
  · have h := h.1 (hc)
    refine lv_iconst (v := (0 : Int32)) F.1 F.2.1 dX5_sum_29 (by decide) ?_
    refine lv_istore (lv' := [(4, .int (0 : Int32)), (0, .ref (ad 0)), (1, .int a1), (2, .int a2), (3, .int a3)]) F.1 F.2.1 dX5_sum_30 hl (by decide) rfl (fun ls hl => ?_)
    refine lv_iload F.1 F.2.1 dX5_sum_32 (lv_at hl 0 rfl) ?_
    refine lv_if_eq (tgt := 50) F.1 F.2.1 dX5_sum_34 (by decide) (fun hc => ?_) (fun hc => ?_)
    · refine lv_ldc (v := (-1000000 : Int32)) F.1 F.2.1 F.2.2.2.1 (F.2.2.2.2 _ uX5_sum_2) dX5_sum_50 ?_
      exact hret _ _ _ h dX5_sum_52
    · exact absurd hc (by decide)
  · have h := h.2 hc
    refine lv_iload_n F.1 F.2.1 dX5_sum_7 rfl (lv_at hl 2 rfl) ?_
    refine lv_iconst (v := (0 : Int32)) F.1 F.2.1 dX5_sum_8 (by decide) ?_
    refine lv_iconst (v := (1 : Int32)) F.1 F.2.1 dX5_sum_9 (by decide) ?_
    refine vp_callSi (va_Run.run (va_runS (As := [.int a2, .int (0 : Int32), .int (1 : Int32)]) (rest := []) F (mX5_isIn (l := l) (D := D) (cI := cI) (cJ := cJ) (cZ := cZ) h) (va_cwS 3 F.2.2.2.2 gX5_sum_X5_isIn rfl rfl rfl kS_X5_isIn ⟨Nat.le_of_ble_eq_true rfl, Nat.le_of_ble_eq_true rfl⟩) ⟨rp_blind, rp_pre hz (hP.sub (ws' := []) [] rfl) [.int a2, .int (0 : Int32), .int (1 : Int32)]⟩ rfl rfl hl.1 rfl (lv_room (Nat.le_of_ble_eq_true rfl)) dX5_sum_10 ⟨Nat.le_of_ble_eq_true rfl, Nat.le_of_ble_eq_true rfl⟩)) (fun r_2 h => ?_)
    obtain ⟨hbr_2, h⟩ := h
    refine lv_if_eq (tgt := 29) F.1 F.2.1 dX5_sum_13 (by decide) (fun hc => ?_) (fun hc => ?_)
    · have h := h.1 (hc)
      refine lv_iconst (v := (0 : Int32)) F.1 F.2.1 dX5_sum_29 (by decide) ?_
      refine lv_istore (lv' := [(4, .int (0 : Int32)), (0, .ref (ad 0)), (1, .int a1), (2, .int a2), (3, .int a3)]) F.1 F.2.1 dX5_sum_30 hl (by decide) rfl (fun ls hl => ?_)
      refine lv_iload F.1 F.2.1 dX5_sum_32 (lv_at hl 0 rfl) ?_
      refine lv_if_eq (tgt := 50) F.1 F.2.1 dX5_sum_34 (by decide) (fun hc => ?_) (fun hc => ?_)
      · refine lv_ldc (v := (-1000000 : Int32)) F.1 F.2.1 F.2.2.2.1 (F.2.2.2.2 _ uX5_sum_2) dX5_sum_50 ?_
        exact hret _ _ _ h dX5_sum_52
      · exact absurd hc (by decide)
    · have h := h.2 hc
      refine lv_iload_n F.1 F.2.1 dX5_sum_16 rfl (lv_at hl 3 rfl) ?_
      refine lv_iconst (v := (0 : Int32)) F.1 F.2.1 dX5_sum_17 (by decide) ?_
      refine lv_iconst (v := (3 : Int32)) F.1 F.2.1 dX5_sum_18 (by decide) ?_
      refine vp_callSi (va_Run.run (va_runS (As := [.int a3, .int (0 : Int32), .int (3 : Int32)]) (rest := []) F (mX5_isIn (l := l) (D := D) (cI := cI) (cJ := cJ) (cZ := cZ) h) (va_cwS 3 F.2.2.2.2 gX5_sum_X5_isIn rfl rfl rfl kS_X5_isIn ⟨Nat.le_of_ble_eq_true rfl, Nat.le_of_ble_eq_true rfl⟩) ⟨rp_blind, rp_pre hz (hP.sub (ws' := []) [] rfl) [.int a3, .int (0 : Int32), .int (3 : Int32)]⟩ rfl rfl hl.1 rfl (lv_room (Nat.le_of_ble_eq_true rfl)) dX5_sum_19 ⟨Nat.le_of_ble_eq_true rfl, Nat.le_of_ble_eq_true rfl⟩)) (fun r_3 h => ?_)
      obtain ⟨hbr_3, h⟩ := h
      refine lv_if_eq (tgt := 29) F.1 F.2.1 dX5_sum_22 (by decide) (fun hc => ?_) (fun hc => ?_)
      · have h := h.1 (hc)
        refine lv_iconst (v := (0 : Int32)) F.1 F.2.1 dX5_sum_29 (by decide) ?_
        refine lv_istore (lv' := [(4, .int (0 : Int32)), (0, .ref (ad 0)), (1, .int a1), (2, .int a2), (3, .int a3)]) F.1 F.2.1 dX5_sum_30 hl (by decide) rfl (fun ls hl => ?_)
        refine lv_iload F.1 F.2.1 dX5_sum_32 (lv_at hl 0 rfl) ?_
        refine lv_if_eq (tgt := 50) F.1 F.2.1 dX5_sum_34 (by decide) (fun hc => ?_) (fun hc => ?_)
        · refine lv_ldc (v := (-1000000 : Int32)) F.1 F.2.1 F.2.2.2.1 (F.2.2.2.2 _ uX5_sum_2) dX5_sum_50 ?_
          exact hret _ _ _ h dX5_sum_52
        · exact absurd hc (by decide)
      · have h := h.2 hc
        refine lv_iconst (v := (1 : Int32)) F.1 F.2.1 dX5_sum_25 (by decide) ?_
        refine lv_goto (tgt := 30) F.1 F.2.1 dX5_sum_26 (by decide) ?_
        refine lv_istore (lv' := [(4, .int (1 : Int32)), (0, .ref (ad 0)), (1, .int a1), (2, .int a2), (3, .int a3)]) F.1 F.2.1 dX5_sum_30 hl (by decide) rfl (fun ls hl => ?_)
        refine lv_iload F.1 F.2.1 dX5_sum_32 (lv_at hl 0 rfl) ?_
        refine lv_if_eq (tgt := 50) F.1 F.2.1 dX5_sum_34 (by decide) (fun hc => ?_) (fun hc => ?_)
        · exact absurd hc (by decide)
        · refine lv_aload_n F.1 F.2.1 dX5_sum_37 rfl (lv_at hl 1 rfl) ?_
          refine va_get (D := D) (ci := 3) (v := .ref (ad 1)) (C := RX5) (T := TX5) (N := 3) F.1 F.2.1 F.2.2.2.2 vX5_sum_X5 F.2.2.2.1 hz.1 hP 0 rfl rfl 0 (by decide) (F.2.2.2.2 _ uX5_sum_1) (fun _ h9 => h9) rfl dX5_sum_38 ?_
          refine lv_iload_n F.1 F.2.1 dX5_sum_41 rfl (lv_at hl 2 rfl) ?_
          refine lv_iload_n F.1 F.2.1 dX5_sum_42 rfl (lv_at hl 3 rfl) ?_
          refine lv_iload_n F.1 F.2.1 dX5_sum_43 rfl (lv_at hl 4 rfl) ?_
          refine vp_callSi (va_Run.run (va_runV (As := [.int a1, .int a2, .int a3]) (rest := []) F (mX2_total (l := l) (D := D) (cI := cI) (cJ := cJ) (cZ := cZ) (ad := ad) h) (cwV 3 F.2.2.2.2 gX5_sum_X2_total rfl rfl rfl kV_X2_total ⟨Nat.le_of_ble_eq_true rfl, Nat.le_of_ble_eq_true rfl⟩) ⟨rp_blind, va_recv hz.1 hP (ci := 0) (q0 := 1) rfl rfl, rp_pre hz (hP.sub (ws' := w2 ad cI S.1) [1, 2, 3, 4, 5, 6, 7, 8] rfl) (.ref (ad 1) :: [.int a1, .int a2, .int a3])⟩ rfl rfl hl.1 rfl (lv_room (Nat.le_of_ble_eq_true rfl)) dX5_sum_44 ⟨Nat.le_of_ble_eq_true rfl, Nat.le_of_ble_eq_true rfl⟩)) (fun r_4 h => ?_)
          refine lv_goto (tgt := 52) F.1 F.2.1 dX5_sum_47 (by decide) ?_
          exact hret _ _ _ h dX5_sum_52
theorem mX5_sum {l : Launch} {D : va_G} {cI cJ cZ : ClassId} {ad : Nat → Nat} {S : SX} {a1 : Int32} {a2 : Int32} {a3 : Int32} {Q : Int32 → Prop} (h : wX5_sum S a1 a2 a3 Q) : Met l yX5_sum wsX5_sum rX5_sum (va_Pc [.ref (ad 0), .int a1, .int a2, .int a3] (rp D cI cJ cZ (w5 ad cI cJ S))) (vp_Si Q) 0 0 (fun _ => False) :=
  enter_i (by decide +kernel) rfl (Nat.le_of_ble_eq_true rfl) (fun p e s m args below meth c QQ F hz hret => bX5_sum F hz.1 hz.2 hret h)
abbrev rX5_change : Room := { frames := 4, cells := 0, slots := 0, locals := 94 }
theorem kV_X5_change : yX5_change.cls = RX5 ∧ yX5_change.cls ≠ "java/lang/invoke/MethodHandle" ∧ yX5_change.cls ≠ "java/lang/invoke/VarHandle" ∧ (parseMethodDescriptor yX5_change.desc).map (fun d => d.parameters.length) = some 2 := by decide +kernel
theorem uX5_change_2 : Cond.constant RX5 75 (-1000000) ∈ wsX5_change := List.mem_of_getElem? (i := 2) rfl
theorem vX5_change_X5 : ∀ w ∈ wsX50, w ∈ wsX5_change := fun _ h => List.mem_cons_of_mem _ (List.mem_append_left _ (List.mem_append_right _ h))
theorem uX5_change_1 : Cond.fieldLink RX5 10 "SumMoved" "rows" "LSumMoved$Rows;" ∈ wsX5_change := List.mem_of_getElem? (i := 1) rfl
set_option maxRecDepth 100000 in
theorem bX5_change {a1 : Int32} {a2 : Int32} {S : SX} {Q : Int32 → Prop} (F : CallFix p m c cX5_change 4 s args wsX5_change RX5) (hz : gz D cI cJ cZ s) (hP : va_P D vwCl (w5 ad cI cJ S) s.heap) (hret : ∀ (v : Int32) (pc : Nat) (ls : Array Slot), Q v → decode cX5_change pc = .ok (.ireturn, 1) → W p l e rX5_change s m args below meth c s.heap [] 0 0 QQ (F0 m pc ls [.int v])) (h : wX5_change S a1 a2 Q) : ∀ ls : Array Slot, lv_has ls 4 [(0, .ref (ad 0)), (1, .int a1), (2, .int a2)] → W p l e rX5_change s m args below meth c s.heap [] 0 0 QQ (F0 m 0 ls []) := by
  intro ls hl
  refine lv_iload_n F.1 F.2.1 dX5_change_0 rfl (lv_at hl 1 rfl) ?_
  refine vp_callSi (va_Run.run (va_runS (As := [.int a1]) (rest := []) F (mX1_has (l := l) (D := D) (cI := cI) (cJ := cJ) (cZ := cZ) h) (va_cwS 1 F.2.2.2.2 gX5_change_X1_has rfl rfl rfl kS_X1_has ⟨Nat.le_of_ble_eq_true rfl, Nat.le_of_ble_eq_true rfl⟩) ⟨rp_blind, rp_pre hz (hP.sub (ws' := []) [] rfl) [.int a1]⟩ rfl rfl hl.1 rfl (lv_room (Nat.le_of_ble_eq_true rfl)) dX5_change_1 ⟨Nat.le_of_ble_eq_true rfl, Nat.le_of_ble_eq_true rfl⟩)) (fun r_1 h => ?_)
  obtain ⟨hbr_1, h⟩ := h
  refine lv_if_eq (tgt := 20) F.1 F.2.1 dX5_change_4 (by decide) (fun hc => ?_) (fun hc => ?_)
  · have h := h.1 (hc)
    refine lv_iconst (v := (0 : Int32)) F.1 F.2.1 dX5_change_20 (by decide) ?_
    refine lv_istore_n (lv' := [(3, .int (0 : Int32)), (0, .ref (ad 0)), (1, .int a1), (2, .int a2)]) F.1 F.2.1 dX5_change_21 rfl hl (by decide) rfl (fun ls hl => ?_)
    refine lv_iload_n F.1 F.2.1 dX5_change_22 rfl (lv_at hl 0 rfl) ?_
    refine lv_if_eq (tgt := 38) F.1 F.2.1 dX5_change_23 (by decide) (fun hc => ?_) (fun hc => ?_)
    · refine lv_ldc (v := (-1000000 : Int32)) F.1 F.2.1 F.2.2.2.1 (F.2.2.2.2 _ uX5_change_2) dX5_change_38 ?_
      exact hret _ _ _ h dX5_change_40
    · exact absurd hc (by decide)
  · have h := h.2 hc
    refine lv_iload_n F.1 F.2.1 dX5_change_7 rfl (lv_at hl 2 rfl) ?_
    refine lv_iconst (v := (0 : Int32)) F.1 F.2.1 dX5_change_8 (by decide) ?_
    refine lv_iconst (v := (3 : Int32)) F.1 F.2.1 dX5_change_9 (by decide) ?_
    refine vp_callSi (va_Run.run (va_runS (As := [.int a2, .int (0 : Int32), .int (3 : Int32)]) (rest := []) F (mX5_isIn (l := l) (D := D) (cI := cI) (cJ := cJ) (cZ := cZ) h) (va_cwS 3 F.2.2.2.2 gX5_change_X5_isIn rfl rfl rfl kS_X5_isIn ⟨Nat.le_of_ble_eq_true rfl, Nat.le_of_ble_eq_true rfl⟩) ⟨rp_blind, rp_pre hz (hP.sub (ws' := []) [] rfl) [.int a2, .int (0 : Int32), .int (3 : Int32)]⟩ rfl rfl hl.1 rfl (lv_room (Nat.le_of_ble_eq_true rfl)) dX5_change_10 ⟨Nat.le_of_ble_eq_true rfl, Nat.le_of_ble_eq_true rfl⟩)) (fun r_2 h => ?_)
    obtain ⟨hbr_2, h⟩ := h
    refine lv_if_eq (tgt := 20) F.1 F.2.1 dX5_change_13 (by decide) (fun hc => ?_) (fun hc => ?_)
    · have h := h.1 (hc)
      refine lv_iconst (v := (0 : Int32)) F.1 F.2.1 dX5_change_20 (by decide) ?_
      refine lv_istore_n (lv' := [(3, .int (0 : Int32)), (0, .ref (ad 0)), (1, .int a1), (2, .int a2)]) F.1 F.2.1 dX5_change_21 rfl hl (by decide) rfl (fun ls hl => ?_)
      refine lv_iload_n F.1 F.2.1 dX5_change_22 rfl (lv_at hl 0 rfl) ?_
      refine lv_if_eq (tgt := 38) F.1 F.2.1 dX5_change_23 (by decide) (fun hc => ?_) (fun hc => ?_)
      · refine lv_ldc (v := (-1000000 : Int32)) F.1 F.2.1 F.2.2.2.1 (F.2.2.2.2 _ uX5_change_2) dX5_change_38 ?_
        exact hret _ _ _ h dX5_change_40
      · exact absurd hc (by decide)
    · have h := h.2 hc
      refine lv_iconst (v := (1 : Int32)) F.1 F.2.1 dX5_change_16 (by decide) ?_
      refine lv_goto (tgt := 21) F.1 F.2.1 dX5_change_17 (by decide) ?_
      refine lv_istore_n (lv' := [(3, .int (1 : Int32)), (0, .ref (ad 0)), (1, .int a1), (2, .int a2)]) F.1 F.2.1 dX5_change_21 rfl hl (by decide) rfl (fun ls hl => ?_)
      refine lv_iload_n F.1 F.2.1 dX5_change_22 rfl (lv_at hl 0 rfl) ?_
      refine lv_if_eq (tgt := 38) F.1 F.2.1 dX5_change_23 (by decide) (fun hc => ?_) (fun hc => ?_)
      · exact absurd hc (by decide)
      · refine lv_aload_n F.1 F.2.1 dX5_change_26 rfl (lv_at hl 1 rfl) ?_
        refine va_get (D := D) (ci := 3) (v := .ref (ad 1)) (C := RX5) (T := TX5) (N := 3) F.1 F.2.1 F.2.2.2.2 vX5_change_X5 F.2.2.2.1 hz.1 hP 0 rfl rfl 0 (by decide) (F.2.2.2.2 _ uX5_change_1) (fun _ h9 => h9) rfl dX5_change_27 ?_
        refine lv_iload_n F.1 F.2.1 dX5_change_30 rfl (lv_at hl 2 rfl) ?_
        refine lv_iload_n F.1 F.2.1 dX5_change_31 rfl (lv_at hl 3 rfl) ?_
        refine vp_callSi (va_Run.run (va_runV (As := [.int a1, .int a2]) (rest := []) F (mX2_moved (l := l) (D := D) (cI := cI) (cJ := cJ) (cZ := cZ) (ad := ad) h) (cwV 2 F.2.2.2.2 gX5_change_X2_moved rfl rfl rfl kV_X2_moved ⟨Nat.le_of_ble_eq_true rfl, Nat.le_of_ble_eq_true rfl⟩) ⟨rp_blind, va_recv hz.1 hP (ci := 0) (q0 := 1) rfl rfl, rp_pre hz (hP.sub (ws' := w2 ad cI S.1) [1, 2, 3, 4, 5, 6, 7, 8] rfl) (.ref (ad 1) :: [.int a1, .int a2])⟩ rfl rfl hl.1 rfl (lv_room (Nat.le_of_ble_eq_true rfl)) dX5_change_32 ⟨Nat.le_of_ble_eq_true rfl, Nat.le_of_ble_eq_true rfl⟩)) (fun r_3 h => ?_)
        refine lv_goto (tgt := 40) F.1 F.2.1 dX5_change_35 (by decide) ?_
        exact hret _ _ _ h dX5_change_40
theorem mX5_change {l : Launch} {D : va_G} {cI cJ cZ : ClassId} {ad : Nat → Nat} {S : SX} {a1 : Int32} {a2 : Int32} {Q : Int32 → Prop} (h : wX5_change S a1 a2 Q) : Met l yX5_change wsX5_change rX5_change (va_Pc [.ref (ad 0), .int a1, .int a2] (rp D cI cJ cZ (w5 ad cI cJ S))) (vp_Si Q) 0 0 (fun _ => False) :=
  enter_i (by decide +kernel) rfl (Nat.le_of_ble_eq_true rfl) (fun p e s m args below meth c QQ F hz hret => bX5_change F hz.1 hz.2 hret h)
abbrev rX5_rate : Room := { frames := 3, cells := 0, slots := 0, locals := 72 }
theorem kV_X5_rate : yX5_rate.cls = RX5 ∧ yX5_rate.cls ≠ "java/lang/invoke/MethodHandle" ∧ yX5_rate.cls ≠ "java/lang/invoke/VarHandle" ∧ (parseMethodDescriptor yX5_rate.desc).map (fun d => d.parameters.length) = some 3 := by decide +kernel
theorem uX5_rate_1 : Cond.constant RX5 75 (-1000000) ∈ wsX5_rate := List.mem_of_getElem? (i := 1) rfl
theorem vX5_rate_X5 : ∀ w ∈ wsX50, w ∈ wsX5_rate := fun _ h => List.mem_cons_of_mem _ (List.mem_append_left _ (List.mem_append_right _ h))
theorem uX5_rate_2 : Cond.fieldLink RX5 10 "SumMoved" "rows" "LSumMoved$Rows;" ∈ wsX5_rate := List.mem_of_getElem? (i := 2) rfl
set_option maxRecDepth 100000 in
theorem bX5_rate {a1 : Int32} {a2 : Int32} {a3 : Int32} {S : SX} {Q : Int32 → Prop} (F : CallFix p m c cX5_rate 5 s args wsX5_rate RX5) (hz : gz D cI cJ cZ s) (hP : va_P D vwCl (w5 ad cI cJ S) s.heap) (hret : ∀ (v : Int32) (pc : Nat) (ls : Array Slot), Q v → decode cX5_rate pc = .ok (.ireturn, 1) → W p l e rX5_rate s m args below meth c s.heap [] 0 0 QQ (F0 m pc ls [.int v])) (h : wX5_rate S a1 a2 a3 Q) : ∀ ls : Array Slot, lv_has ls 5 [(0, .ref (ad 0)), (1, .int a1), (2, .int a2), (3, .int a3)] → W p l e rX5_rate s m args below meth c s.heap [] 0 0 QQ (F0 m 0 ls []) := by
  intro ls hl
  refine lv_iload_n F.1 F.2.1 dX5_rate_0 rfl (lv_at hl 1 rfl) ?_
  refine vp_callSi (va_Run.run (va_runS (As := [.int a1]) (rest := []) F (mX1_has (l := l) (D := D) (cI := cI) (cJ := cJ) (cZ := cZ) h) (va_cwS 1 F.2.2.2.2 gX5_rate_X1_has rfl rfl rfl kS_X1_has ⟨Nat.le_of_ble_eq_true rfl, Nat.le_of_ble_eq_true rfl⟩) ⟨rp_blind, rp_pre hz (hP.sub (ws' := []) [] rfl) [.int a1]⟩ rfl rfl hl.1 rfl (lv_room (Nat.le_of_ble_eq_true rfl)) dX5_rate_1 ⟨Nat.le_of_ble_eq_true rfl, Nat.le_of_ble_eq_true rfl⟩)) (fun r_1 h => ?_)
  obtain ⟨hbr_1, h⟩ := h
  refine lv_if_eq (tgt := 25) F.1 F.2.1 dX5_rate_4 (by decide) (fun hc => ?_) (fun hc => ?_)
  · have h := h.1 (hc)
    refine lv_ldc (v := (-1000000 : Int32)) F.1 F.2.1 F.2.2.2.1 (F.2.2.2.2 _ uX5_rate_1) dX5_rate_25 ?_
    exact hret _ _ _ h dX5_rate_27
  · have h := h.2 hc
    refine lv_iload_n F.1 F.2.1 dX5_rate_7 rfl (lv_at hl 2 rfl) ?_
    refine lv_iconst (v := (0 : Int32)) F.1 F.2.1 dX5_rate_8 (by decide) ?_
    refine lv_iconst (v := (1 : Int32)) F.1 F.2.1 dX5_rate_9 (by decide) ?_
    refine vp_callSi (va_Run.run (va_runS (As := [.int a2, .int (0 : Int32), .int (1 : Int32)]) (rest := []) F (mX5_isIn (l := l) (D := D) (cI := cI) (cJ := cJ) (cZ := cZ) h) (va_cwS 3 F.2.2.2.2 gX5_rate_X5_isIn rfl rfl rfl kS_X5_isIn ⟨Nat.le_of_ble_eq_true rfl, Nat.le_of_ble_eq_true rfl⟩) ⟨rp_blind, rp_pre hz (hP.sub (ws' := []) [] rfl) [.int a2, .int (0 : Int32), .int (1 : Int32)]⟩ rfl rfl hl.1 rfl (lv_room (Nat.le_of_ble_eq_true rfl)) dX5_rate_10 ⟨Nat.le_of_ble_eq_true rfl, Nat.le_of_ble_eq_true rfl⟩)) (fun r_2 h => ?_)
    obtain ⟨hbr_2, h⟩ := h
    refine lv_if_eq (tgt := 25) F.1 F.2.1 dX5_rate_13 (by decide) (fun hc => ?_) (fun hc => ?_)
    · have h := h.1 (hc)
      refine lv_ldc (v := (-1000000 : Int32)) F.1 F.2.1 F.2.2.2.1 (F.2.2.2.2 _ uX5_rate_1) dX5_rate_25 ?_
      exact hret _ _ _ h dX5_rate_27
    · have h := h.2 hc
      refine lv_iload_n F.1 F.2.1 dX5_rate_16 rfl (lv_at hl 3 rfl) ?_
      refine lv_iconst (v := (0 : Int32)) F.1 F.2.1 dX5_rate_17 (by decide) ?_
      refine lv_iconst (v := (1 : Int32)) F.1 F.2.1 dX5_rate_18 (by decide) ?_
      refine vp_callSi (va_Run.run (va_runS (As := [.int a3, .int (0 : Int32), .int (1 : Int32)]) (rest := []) F (mX5_isIn (l := l) (D := D) (cI := cI) (cJ := cJ) (cZ := cZ) h) (va_cwS 3 F.2.2.2.2 gX5_rate_X5_isIn rfl rfl rfl kS_X5_isIn ⟨Nat.le_of_ble_eq_true rfl, Nat.le_of_ble_eq_true rfl⟩) ⟨rp_blind, rp_pre hz (hP.sub (ws' := []) [] rfl) [.int a3, .int (0 : Int32), .int (1 : Int32)]⟩ rfl rfl hl.1 rfl (lv_room (Nat.le_of_ble_eq_true rfl)) dX5_rate_19 ⟨Nat.le_of_ble_eq_true rfl, Nat.le_of_ble_eq_true rfl⟩)) (fun r_3 h => ?_)
      obtain ⟨hbr_3, h⟩ := h
      refine lv_if_ne (tgt := 28) F.1 F.2.1 dX5_rate_22 (by decide) (fun hc => ?_) (fun hc => ?_)
      · have h := h.2 hc
        refine lv_aload_n F.1 F.2.1 dX5_rate_28 rfl (lv_at hl 0 rfl) ?_
        refine va_get (D := D) (ci := 3) (v := .ref (ad 1)) (C := RX5) (T := TX5) (N := 3) F.1 F.2.1 F.2.2.2.2 vX5_rate_X5 F.2.2.2.1 hz.1 hP 0 rfl rfl 0 (by decide) (F.2.2.2.2 _ uX5_rate_2) (fun _ h9 => h9) rfl dX5_rate_29 ?_
        refine lv_iload_n F.1 F.2.1 dX5_rate_32 rfl (lv_at hl 1 rfl) ?_
        refine lv_iload_n F.1 F.2.1 dX5_rate_33 rfl (lv_at hl 2 rfl) ?_
        refine lv_iconst (v := (2 : Int32)) F.1 F.2.1 dX5_rate_34 (by decide) ?_
        refine vp_callSi (va_Run.run (va_runV (As := [.int a1, .int a2, .int (2 : Int32)]) (rest := []) F (mX2_total (l := l) (D := D) (cI := cI) (cJ := cJ) (cZ := cZ) (ad := ad) h) (cwV 3 F.2.2.2.2 gX5_rate_X2_total rfl rfl rfl kV_X2_total ⟨Nat.le_of_ble_eq_true rfl, Nat.le_of_ble_eq_true rfl⟩) ⟨rp_blind, va_recv hz.1 hP (ci := 0) (q0 := 1) rfl rfl, rp_pre hz (hP.sub (ws' := w2 ad cI S.1) [1, 2, 3, 4, 5, 6, 7, 8] rfl) (.ref (ad 1) :: [.int a1, .int a2, .int (2 : Int32)])⟩ rfl rfl hl.1 rfl (lv_room (Nat.le_of_ble_eq_true rfl)) dX5_rate_35 ⟨Nat.le_of_ble_eq_true rfl, Nat.le_of_ble_eq_true rfl⟩)) (fun r_4 h => ?_)
        refine lv_istore (lv' := [(4, .int r_4), (0, .ref (ad 0)), (1, .int a1), (2, .int a2), (3, .int a3)]) F.1 F.2.1 dX5_rate_38 hl (by decide) rfl (fun ls hl => ?_)
        refine lv_iload F.1 F.2.1 dX5_rate_40 (lv_at hl 0 rfl) ?_
        refine lv_if_ne (tgt := 49) F.1 F.2.1 dX5_rate_42 (by decide) (fun hc => ?_) (fun hc => ?_)
        · have h := h.2 hc
          refine lv_aload_n F.1 F.2.1 dX5_rate_49 rfl (lv_at hl 1 rfl) ?_
          refine va_get (D := D) (ci := 3) (v := .ref (ad 1)) (C := RX5) (T := TX5) (N := 3) F.1 F.2.1 F.2.2.2.2 vX5_rate_X5 F.2.2.2.1 hz.1 hP 0 rfl rfl 0 (by decide) (F.2.2.2.2 _ uX5_rate_2) (fun _ h9 => h9) rfl dX5_rate_50 ?_
          refine lv_iload_n F.1 F.2.1 dX5_rate_53 rfl (lv_at hl 2 rfl) ?_
          refine lv_iload_n F.1 F.2.1 dX5_rate_54 rfl (lv_at hl 3 rfl) ?_
          refine lv_iconst (v := (0 : Int32)) F.1 F.2.1 dX5_rate_55 (by decide) ?_
          refine vp_callSi (va_Run.run (va_runV (As := [.int a1, .int a2, .int (0 : Int32)]) (rest := []) F (mX2_total (l := l) (D := D) (cI := cI) (cJ := cJ) (cZ := cZ) (ad := ad) h) (cwV 3 F.2.2.2.2 gX5_rate_X2_total rfl rfl rfl kV_X2_total ⟨Nat.le_of_ble_eq_true rfl, Nat.le_of_ble_eq_true rfl⟩) ⟨rp_blind, va_recv hz.1 hP (ci := 0) (q0 := 1) rfl rfl, rp_pre hz (hP.sub (ws' := w2 ad cI S.1) [1, 2, 3, 4, 5, 6, 7, 8] rfl) (.ref (ad 1) :: [.int a1, .int a2, .int (0 : Int32)])⟩ rfl rfl hl.1 rfl (lv_room (Nat.le_of_ble_eq_true rfl)) dX5_rate_56 ⟨Nat.le_of_ble_eq_true rfl, Nat.le_of_ble_eq_true rfl⟩)) (fun r_5 h => ?_)
          refine lv_i2l F.1 F.2.1 dX5_rate_59 rfl ?_
          refine lv_iload F.1 F.2.1 dX5_rate_60 (lv_at hl 0 rfl) ?_
          refine lv_i2l F.1 F.2.1 dX5_rate_62 rfl ?_
          refine lv_iload_n F.1 F.2.1 dX5_rate_63 rfl (lv_at hl 4 rfl) ?_
          refine vp_callSl (va_Run.run (va_runS (As := [.long r_5.toInt64, .long r_4.toInt64, .int a3]) (rest := []) F (mX0_tell (l := l) (D := D) (cI := cI) (cJ := cJ) (cZ := cZ) h) (va_cwS 3 F.2.2.2.2 gX5_rate_X0_tell rfl rfl rfl kS_X0_tell ⟨Nat.le_of_ble_eq_true rfl, Nat.le_of_ble_eq_true rfl⟩) ⟨rp_blind, rp_pre hz (hP.sub (ws' := []) [] rfl) [.long r_5.toInt64, .long r_4.toInt64, .int a3]⟩ rfl rfl hl.1 rfl (lv_room (Nat.le_of_ble_eq_true rfl)) dX5_rate_64 ⟨Nat.le_of_ble_eq_true rfl, Nat.le_of_ble_eq_true rfl⟩)) (fun r_6 h => ?_)
          refine lv_l2i F.1 F.2.1 dX5_rate_67 rfl ?_
          exact hret _ _ _ h dX5_rate_68
        · have h := h.1 (hc)
          refine lv_iconst (v := (0 : Int32)) F.1 F.2.1 dX5_rate_45 (by decide) ?_
          refine lv_goto (tgt := 68) F.1 F.2.1 dX5_rate_46 (by decide) ?_
          exact hret _ _ _ h dX5_rate_68
      · have h := h.1 (hc)
        refine lv_ldc (v := (-1000000 : Int32)) F.1 F.2.1 F.2.2.2.1 (F.2.2.2.2 _ uX5_rate_1) dX5_rate_25 ?_
        exact hret _ _ _ h dX5_rate_27
theorem mX5_rate {l : Launch} {D : va_G} {cI cJ cZ : ClassId} {ad : Nat → Nat} {S : SX} {a1 : Int32} {a2 : Int32} {a3 : Int32} {Q : Int32 → Prop} (h : wX5_rate S a1 a2 a3 Q) : Met l yX5_rate wsX5_rate rX5_rate (va_Pc [.ref (ad 0), .int a1, .int a2, .int a3] (rp D cI cJ cZ (w5 ad cI cJ S))) (vp_Si Q) 0 0 (fun _ => False) :=
  enter_i (by decide +kernel) rfl (Nat.le_of_ble_eq_true rfl) (fun p e s m args below meth c QQ F hz hret => bX5_rate F hz.1 hz.2 hret h)
abbrev rX5_shift : Room := { frames := 4, cells := 0, slots := 0, locals := 103 }
theorem kV_X5_shift : yX5_shift.cls = RX5 ∧ yX5_shift.cls ≠ "java/lang/invoke/MethodHandle" ∧ yX5_shift.cls ≠ "java/lang/invoke/VarHandle" ∧ (parseMethodDescriptor yX5_shift.desc).map (fun d => d.parameters.length) = some 2 := by decide +kernel
theorem uX5_shift_2 : Cond.constantLong RX5 88 (-4000000000000000000) ∈ wsX5_shift := List.mem_of_getElem? (i := 2) rfl
theorem vX5_shift_X5 : ∀ w ∈ wsX50, w ∈ wsX5_shift := fun _ h => List.mem_cons_of_mem _ (List.mem_append_left _ (List.mem_append_right _ h))
theorem uX5_shift_1 : Cond.fieldLink RX5 10 "SumMoved" "rows" "LSumMoved$Rows;" ∈ wsX5_shift := List.mem_of_getElem? (i := 1) rfl
set_option maxRecDepth 100000 in
theorem bX5_shift {a1 : Int32} {a2 : Int32} {S : SX} {Q : Int64 → Prop} (F : CallFix p m c cX5_shift 3 s args wsX5_shift RX5) (hz : gz D cI cJ cZ s) (hP : va_P D vwCl (w5 ad cI cJ S) s.heap) (hret : ∀ (v : Int64) (pc : Nat) (ls : Array Slot), Q v → decode cX5_shift pc = .ok (.lreturn, 1) → W p l e rX5_shift s m args below meth c s.heap [] 0 0 QQ (F0 m pc ls [.long v])) (h : wX5_shift S a1 a2 Q) : ∀ ls : Array Slot, lv_has ls 3 [(0, .ref (ad 0)), (1, .int a1), (2, .int a2)] → W p l e rX5_shift s m args below meth c s.heap [] 0 0 QQ (F0 m 0 ls []) := by
  intro ls hl
  refine lv_iload_n F.1 F.2.1 dX5_shift_0 rfl (lv_at hl 1 rfl) ?_
  refine vp_callSi (va_Run.run (va_runS (As := [.int a1]) (rest := []) F (mX1_has (l := l) (D := D) (cI := cI) (cJ := cJ) (cZ := cZ) h) (va_cwS 1 F.2.2.2.2 gX5_shift_X1_has rfl rfl rfl kS_X1_has ⟨Nat.le_of_ble_eq_true rfl, Nat.le_of_ble_eq_true rfl⟩) ⟨rp_blind, rp_pre hz (hP.sub (ws' := []) [] rfl) [.int a1]⟩ rfl rfl hl.1 rfl (lv_room (Nat.le_of_ble_eq_true rfl)) dX5_shift_1 ⟨Nat.le_of_ble_eq_true rfl, Nat.le_of_ble_eq_true rfl⟩)) (fun r_1 h => ?_)
  obtain ⟨hbr_1, h⟩ := h
  refine lv_if_eq (tgt := 27) F.1 F.2.1 dX5_shift_4 (by decide) (fun hc => ?_) (fun hc => ?_)
  · have h := h.1 (hc)
    refine lv_ldc2 (v := (-4000000000000000000 : Int64)) F.1 F.2.1 F.2.2.2.1 (F.2.2.2.2 _ uX5_shift_2) dX5_shift_27 ?_
    exact hret _ _ _ h dX5_shift_30
  · have h := h.2 hc
    refine lv_iload_n F.1 F.2.1 dX5_shift_7 rfl (lv_at hl 2 rfl) ?_
    refine lv_iconst (v := (0 : Int32)) F.1 F.2.1 dX5_shift_8 (by decide) ?_
    refine lv_iconst (v := (1 : Int32)) F.1 F.2.1 dX5_shift_9 (by decide) ?_
    refine vp_callSi (va_Run.run (va_runS (As := [.int a2, .int (0 : Int32), .int (1 : Int32)]) (rest := []) F (mX5_isIn (l := l) (D := D) (cI := cI) (cJ := cJ) (cZ := cZ) h) (va_cwS 3 F.2.2.2.2 gX5_shift_X5_isIn rfl rfl rfl kS_X5_isIn ⟨Nat.le_of_ble_eq_true rfl, Nat.le_of_ble_eq_true rfl⟩) ⟨rp_blind, rp_pre hz (hP.sub (ws' := []) [] rfl) [.int a2, .int (0 : Int32), .int (1 : Int32)]⟩ rfl rfl hl.1 rfl (lv_room (Nat.le_of_ble_eq_true rfl)) dX5_shift_10 ⟨Nat.le_of_ble_eq_true rfl, Nat.le_of_ble_eq_true rfl⟩)) (fun r_2 h => ?_)
    obtain ⟨hbr_2, h⟩ := h
    refine lv_if_eq (tgt := 27) F.1 F.2.1 dX5_shift_13 (by decide) (fun hc => ?_) (fun hc => ?_)
    · have h := h.1 (hc)
      refine lv_ldc2 (v := (-4000000000000000000 : Int64)) F.1 F.2.1 F.2.2.2.1 (F.2.2.2.2 _ uX5_shift_2) dX5_shift_27 ?_
      exact hret _ _ _ h dX5_shift_30
    · have h := h.2 hc
      refine lv_aload_n F.1 F.2.1 dX5_shift_16 rfl (lv_at hl 0 rfl) ?_
      refine va_get (D := D) (ci := 3) (v := .ref (ad 1)) (C := RX5) (T := TX5) (N := 3) F.1 F.2.1 F.2.2.2.2 vX5_shift_X5 F.2.2.2.1 hz.1 hP 0 rfl rfl 0 (by decide) (F.2.2.2.2 _ uX5_shift_1) (fun _ h9 => h9) rfl dX5_shift_17 ?_
      refine lv_iload_n F.1 F.2.1 dX5_shift_20 rfl (lv_at hl 1 rfl) ?_
      refine vp_callSi (va_Run.run (va_runV (As := [.int a1]) (rest := []) F (mX2_hasRates (l := l) (D := D) (cI := cI) (cJ := cJ) (cZ := cZ) (ad := ad) h) (cwV 1 F.2.2.2.2 gX5_shift_X2_hasRates rfl rfl rfl kV_X2_hasRates ⟨Nat.le_of_ble_eq_true rfl, Nat.le_of_ble_eq_true rfl⟩) ⟨rp_blind, va_recv hz.1 hP (ci := 0) (q0 := 1) rfl rfl, rp_pre hz (hP.sub (ws' := w2 ad cI S.1) [1, 2, 3, 4, 5, 6, 7, 8] rfl) (.ref (ad 1) :: [.int a1])⟩ rfl rfl hl.1 rfl (lv_room (Nat.le_of_ble_eq_true rfl)) dX5_shift_21 ⟨Nat.le_of_ble_eq_true rfl, Nat.le_of_ble_eq_true rfl⟩)) (fun r_3 h => ?_)
      obtain ⟨hbr_3, h⟩ := h
      refine lv_if_ne (tgt := 31) F.1 F.2.1 dX5_shift_24 (by decide) (fun hc => ?_) (fun hc => ?_)
      · have h := h.2 hc
        refine lv_aload_n F.1 F.2.1 dX5_shift_31 rfl (lv_at hl 0 rfl) ?_
        refine va_get (D := D) (ci := 3) (v := .ref (ad 1)) (C := RX5) (T := TX5) (N := 3) F.1 F.2.1 F.2.2.2.2 vX5_shift_X5 F.2.2.2.1 hz.1 hP 0 rfl rfl 0 (by decide) (F.2.2.2.2 _ uX5_shift_1) (fun _ h9 => h9) rfl dX5_shift_32 ?_
        refine lv_iload_n F.1 F.2.1 dX5_shift_35 rfl (lv_at hl 1 rfl) ?_
        refine lv_iload_n F.1 F.2.1 dX5_shift_36 rfl (lv_at hl 1 rfl) ?_
        refine lv_iload_n F.1 F.2.1 dX5_shift_37 rfl (lv_at hl 2 rfl) ?_
        refine vp_callSl (va_Run.run (va_runS (As := [.ref (ad 1), .int a1, .int a1, .int a2]) (rest := []) F (mX0_difference (l := l) (D := D) (cI := cI) (cJ := cJ) (cZ := cZ) (ad := ad) h) (va_cwS 4 F.2.2.2.2 gX5_shift_X0_difference rfl rfl rfl kS_X0_difference ⟨Nat.le_of_ble_eq_true rfl, Nat.le_of_ble_eq_true rfl⟩) ⟨rp_blind, rp_pre hz (hP.sub (ws' := w2 ad cI S.1) [1, 2, 3, 4, 5, 6, 7, 8] rfl) [.ref (ad 1), .int a1, .int a1, .int a2]⟩ rfl rfl hl.1 rfl (lv_room (Nat.le_of_ble_eq_true rfl)) dX5_shift_38 ⟨Nat.le_of_ble_eq_true rfl, Nat.le_of_ble_eq_true rfl⟩)) (fun r_4 h => ?_)
        exact hret _ _ _ h dX5_shift_41
      · have h := h.1 (hc)
        refine lv_ldc2 (v := (-4000000000000000000 : Int64)) F.1 F.2.1 F.2.2.2.1 (F.2.2.2.2 _ uX5_shift_2) dX5_shift_27 ?_
        exact hret _ _ _ h dX5_shift_30
theorem mX5_shift {l : Launch} {D : va_G} {cI cJ cZ : ClassId} {ad : Nat → Nat} {S : SX} {a1 : Int32} {a2 : Int32} {Q : Int64 → Prop} (h : wX5_shift S a1 a2 Q) : Met l yX5_shift wsX5_shift rX5_shift (va_Pc [.ref (ad 0), .int a1, .int a2] (rp D cI cJ cZ (w5 ad cI cJ S))) (vp_Sl Q) 0 0 (fun _ => False) :=
  enter_l (by decide +kernel) rfl (Nat.le_of_ble_eq_true rfl) (fun p e s m args below meth c QQ F hz hret => bX5_shift F hz.1 hz.2 hret h)
abbrev rX5_part : Room := { frames := 4, cells := 0, slots := 0, locals := 112 }
theorem kV_X5_part : yX5_part.cls = RX5 ∧ yX5_part.cls ≠ "java/lang/invoke/MethodHandle" ∧ yX5_part.cls ≠ "java/lang/invoke/VarHandle" ∧ (parseMethodDescriptor yX5_part.desc).map (fun d => d.parameters.length) = some 5 := by decide +kernel
theorem uX5_part_1 : Cond.constantLong RX5 88 (-4000000000000000000) ∈ wsX5_part := List.mem_of_getElem? (i := 1) rfl
theorem vX5_part_X5 : ∀ w ∈ wsX50, w ∈ wsX5_part := fun _ h => List.mem_cons_of_mem _ (List.mem_append_left _ (List.mem_append_right _ h))
theorem uX5_part_2 : Cond.fieldLink RX5 10 "SumMoved" "rows" "LSumMoved$Rows;" ∈ wsX5_part := List.mem_of_getElem? (i := 2) rfl
set_option maxRecDepth 100000 in
theorem bX5_part {a1 : Int32} {a2 : Int32} {a3 : Int32} {a4 : Int32} {a5 : Int32} {S : SX} {Q : Int64 → Prop} (F : CallFix p m c cX5_part 7 s args wsX5_part RX5) (hz : gz D cI cJ cZ s) (hP : va_P D vwCl (w5 ad cI cJ S) s.heap) (ht : gt s s.heap) (hret : ∀ (v : Int64) (pc : Nat) (ls : Array Slot), Q v → decode cX5_part pc = .ok (.lreturn, 1) → W p l e rX5_part s m args below meth c s.heap [] 0 0 QQ (F0 m pc ls [.long v])) (h : wX5_part S a1 a2 a3 a4 a5 Q) : ∀ ls : Array Slot, lv_has ls 7 [(0, .ref (ad 0)), (1, .int a1), (2, .int a2), (3, .int a3), (4, .int a4), (5, .int a5)] → W p l e rX5_part s m args below meth c s.heap [] 0 0 QQ (F0 m 0 ls []) := by
  intro ls hl
  have ht0 := ht
  obtain ⟨t1, t2, hZ1, hT1, hZ2, hT2⟩ := ht0
  refine lv_iload_n F.1 F.2.1 dX5_part_0 rfl (lv_at hl 1 rfl) ?_
  refine lv_iload_n F.1 F.2.1 dX5_part_1 rfl (lv_at hl 2 rfl) ?_
  refine vp_callSi (va_Run.run (va_runS (As := [.int a1, .int a2]) (rest := []) F (mX1_isOpen (l := l) (D := D) (cI := cI) (cJ := cJ) (cZ := cZ) h) (va_cwS 2 F.2.2.2.2 gX5_part_X1_isOpen rfl rfl rfl kS_X1_isOpen ⟨Nat.le_of_ble_eq_true rfl, Nat.le_of_ble_eq_true rfl⟩) ⟨rp_blind, rp_pre hz (hP.sub (ws' := []) [] rfl) [.int a1, .int a2]⟩ rfl rfl hl.1 rfl (lv_room (Nat.le_of_ble_eq_true rfl)) dX5_part_2 ⟨Nat.le_of_ble_eq_true rfl, Nat.le_of_ble_eq_true rfl⟩)) (fun r_1 h => ?_)
  obtain ⟨hbr_1, h⟩ := h
  refine lv_if_eq (tgt := 18) F.1 F.2.1 dX5_part_5 (by decide) (fun hc => ?_) (fun hc => ?_)
  · have h := h.1 (hc)
    refine lv_ldc2 (v := (-4000000000000000000 : Int64)) F.1 F.2.1 F.2.2.2.1 (F.2.2.2.2 _ uX5_part_1) dX5_part_18 ?_
    exact hret _ _ _ h dX5_part_21
  · have h := h.2 hc
    refine lv_iload_n F.1 F.2.1 dX5_part_8 rfl (lv_at hl 3 rfl) ?_
    refine lv_iconst (v := (0 : Int32)) F.1 F.2.1 dX5_part_9 (by decide) ?_
    refine lv_bipush (v := (7 : Int32)) F.1 F.2.1 dX5_part_10 (by decide) ?_
    refine vp_callSi (va_Run.run (va_runS (As := [.int a3, .int (0 : Int32), .int (7 : Int32)]) (rest := []) F (mX5_isIn (l := l) (D := D) (cI := cI) (cJ := cJ) (cZ := cZ) h) (va_cwS 3 F.2.2.2.2 gX5_part_X5_isIn rfl rfl rfl kS_X5_isIn ⟨Nat.le_of_ble_eq_true rfl, Nat.le_of_ble_eq_true rfl⟩) ⟨rp_blind, rp_pre hz (hP.sub (ws' := []) [] rfl) [.int a3, .int (0 : Int32), .int (7 : Int32)]⟩ rfl rfl hl.1 rfl (lv_room (Nat.le_of_ble_eq_true rfl)) dX5_part_12 ⟨Nat.le_of_ble_eq_true rfl, Nat.le_of_ble_eq_true rfl⟩)) (fun r_2 h => ?_)
    obtain ⟨hbr_2, h⟩ := h
    refine lv_if_ne (tgt := 22) F.1 F.2.1 dX5_part_15 (by decide) (fun hc => ?_) (fun hc => ?_)
    · have h := h.2 hc
      refine lv_iload F.1 F.2.1 dX5_part_22 (lv_at hl 4 rfl) ?_
      refine lv_iconst (v := (0 : Int32)) F.1 F.2.1 dX5_part_24 (by decide) ?_
      refine lv_iconst (v := (1 : Int32)) F.1 F.2.1 dX5_part_25 (by decide) ?_
      refine vp_callSi (va_Run.run (va_runS (As := [.int a4, .int (0 : Int32), .int (1 : Int32)]) (rest := []) F (mX5_isIn (l := l) (D := D) (cI := cI) (cJ := cJ) (cZ := cZ) h) (va_cwS 3 F.2.2.2.2 gX5_part_X5_isIn rfl rfl rfl kS_X5_isIn ⟨Nat.le_of_ble_eq_true rfl, Nat.le_of_ble_eq_true rfl⟩) ⟨rp_blind, rp_pre hz (hP.sub (ws' := []) [] rfl) [.int a4, .int (0 : Int32), .int (1 : Int32)]⟩ rfl rfl hl.1 rfl (lv_room (Nat.le_of_ble_eq_true rfl)) dX5_part_26 ⟨Nat.le_of_ble_eq_true rfl, Nat.le_of_ble_eq_true rfl⟩)) (fun r_3 h => ?_)
      obtain ⟨hbr_3, h⟩ := h
      refine lv_if_eq (tgt := 53) F.1 F.2.1 dX5_part_29 (by decide) (fun hc => ?_) (fun hc => ?_)
      · have h := h.1 (hc)
        refine lv_ldc2 (v := (-4000000000000000000 : Int64)) F.1 F.2.1 F.2.2.2.1 (F.2.2.2.2 _ uX5_part_1) dX5_part_53 ?_
        exact hret _ _ _ h dX5_part_56
      · have h := h.2 hc
        refine lv_iload F.1 F.2.1 dX5_part_32 (lv_at hl 5 rfl) ?_
        refine lv_iconst (v := (0 : Int32)) F.1 F.2.1 dX5_part_34 (by decide) ?_
        refine lv_iconst (v := (1 : Int32)) F.1 F.2.1 dX5_part_35 (by decide) ?_
        refine vp_callSi (va_Run.run (va_runS (As := [.int a5, .int (0 : Int32), .int (1 : Int32)]) (rest := []) F (mX5_isIn (l := l) (D := D) (cI := cI) (cJ := cJ) (cZ := cZ) h) (va_cwS 3 F.2.2.2.2 gX5_part_X5_isIn rfl rfl rfl kS_X5_isIn ⟨Nat.le_of_ble_eq_true rfl, Nat.le_of_ble_eq_true rfl⟩) ⟨rp_blind, rp_pre hz (hP.sub (ws' := []) [] rfl) [.int a5, .int (0 : Int32), .int (1 : Int32)]⟩ rfl rfl hl.1 rfl (lv_room (Nat.le_of_ble_eq_true rfl)) dX5_part_36 ⟨Nat.le_of_ble_eq_true rfl, Nat.le_of_ble_eq_true rfl⟩)) (fun r_4 h => ?_)
        obtain ⟨hbr_4, h⟩ := h
        refine lv_if_eq (tgt := 53) F.1 F.2.1 dX5_part_39 (by decide) (fun hc => ?_) (fun hc => ?_)
        · have h := h.1 (hc)
          refine lv_ldc2 (v := (-4000000000000000000 : Int64)) F.1 F.2.1 F.2.2.2.1 (F.2.2.2.2 _ uX5_part_1) dX5_part_53 ?_
          exact hret _ _ _ h dX5_part_56
        · have h := h.2 hc
          refine lv_aload_n F.1 F.2.1 dX5_part_42 rfl (lv_at hl 0 rfl) ?_
          refine va_get (D := D) (ci := 3) (v := .ref (ad 1)) (C := RX5) (T := TX5) (N := 3) F.1 F.2.1 F.2.2.2.2 vX5_part_X5 F.2.2.2.1 hz.1 hP 0 rfl rfl 0 (by decide) (F.2.2.2.2 _ uX5_part_2) (fun _ h9 => h9) rfl dX5_part_43 ?_
          refine lv_iload_n F.1 F.2.1 dX5_part_46 rfl (lv_at hl 1 rfl) ?_
          refine vp_callSi (va_Run.run (va_runV (As := [.int a1]) (rest := []) F (mX2_hasRates (l := l) (D := D) (cI := cI) (cJ := cJ) (cZ := cZ) (ad := ad) h) (cwV 1 F.2.2.2.2 gX5_part_X2_hasRates rfl rfl rfl kV_X2_hasRates ⟨Nat.le_of_ble_eq_true rfl, Nat.le_of_ble_eq_true rfl⟩) ⟨rp_blind, va_recv hz.1 hP (ci := 0) (q0 := 1) rfl rfl, rp_pre hz (hP.sub (ws' := w2 ad cI S.1) [1, 2, 3, 4, 5, 6, 7, 8] rfl) (.ref (ad 1) :: [.int a1])⟩ rfl rfl hl.1 rfl (lv_room (Nat.le_of_ble_eq_true rfl)) dX5_part_47 ⟨Nat.le_of_ble_eq_true rfl, Nat.le_of_ble_eq_true rfl⟩)) (fun r_5 h => ?_)
          obtain ⟨hbr_5, h⟩ := h
          refine lv_if_ne (tgt := 57) F.1 F.2.1 dX5_part_50 (by decide) (fun hc => ?_) (fun hc => ?_)
          · have h := h.2 hc
            refine lv_iload_n F.1 F.2.1 dX5_part_57 rfl (lv_at hl 1 rfl) ?_
            refine lv_iload_n F.1 F.2.1 dX5_part_58 rfl (lv_at hl 2 rfl) ?_
            refine lv_iload_n F.1 F.2.1 dX5_part_59 rfl (lv_at hl 3 rfl) ?_
            refine vp_callSi (va_Run.run (va_runS (As := [.int a1, .int a2, .int a3]) (rest := []) F (mX1_withTest (l := l) (D := D) (cI := cI) (cJ := cJ) (cZ := cZ) h) (va_cwS 3 F.2.2.2.2 gX5_part_X1_withTest rfl rfl rfl kS_X1_withTest ⟨Nat.le_of_ble_eq_true rfl, Nat.le_of_ble_eq_true rfl⟩) ⟨rpt_blind, rpt_pre hz (hP.sub (ws' := []) [] rfl) ht [.int a1, .int a2, .int a3]⟩ rfl rfl hl.1 rfl (lv_room (Nat.le_of_ble_eq_true rfl)) dX5_part_60 ⟨Nat.le_of_ble_eq_true rfl, Nat.le_of_ble_eq_true rfl⟩)) (fun r_6 h => ?_)
            refine lv_istore (lv' := [(6, .int r_6), (0, .ref (ad 0)), (1, .int a1), (2, .int a2), (3, .int a3), (4, .int a4), (5, .int a5)]) F.1 F.2.1 dX5_part_63 hl (by decide) rfl (fun ls hl => ?_)
            refine lv_aload_n F.1 F.2.1 dX5_part_65 rfl (lv_at hl 1 rfl) ?_
            refine va_get (D := D) (ci := 3) (v := .ref (ad 1)) (C := RX5) (T := TX5) (N := 3) F.1 F.2.1 F.2.2.2.2 vX5_part_X5 F.2.2.2.1 hz.1 hP 0 rfl rfl 0 (by decide) (F.2.2.2.2 _ uX5_part_2) (fun _ h9 => h9) rfl dX5_part_66 ?_
            refine lv_iload F.1 F.2.1 dX5_part_69 (lv_at hl 0 rfl) ?_
            refine vp_callSi (va_Run.run (va_runV (As := [.int r_6]) (rest := []) F (mX2_hasRates (l := l) (D := D) (cI := cI) (cJ := cJ) (cZ := cZ) (ad := ad) h) (cwV 1 F.2.2.2.2 gX5_part_X2_hasRates rfl rfl rfl kV_X2_hasRates ⟨Nat.le_of_ble_eq_true rfl, Nat.le_of_ble_eq_true rfl⟩) ⟨rp_blind, va_recv hz.1 hP (ci := 0) (q0 := 1) rfl rfl, rp_pre hz (hP.sub (ws' := w2 ad cI S.1) [1, 2, 3, 4, 5, 6, 7, 8] rfl) (.ref (ad 1) :: [.int r_6])⟩ rfl rfl hl.1 rfl (lv_room (Nat.le_of_ble_eq_true rfl)) dX5_part_71 ⟨Nat.le_of_ble_eq_true rfl, Nat.le_of_ble_eq_true rfl⟩)) (fun r_7 h => ?_)
            obtain ⟨hbr_7, h⟩ := h
            refine lv_if_eq (tgt := 92) F.1 F.2.1 dX5_part_74 (by decide) (fun hc => ?_) (fun hc => ?_)
            · have h := h.1 (hc)
              refine lv_iload F.1 F.2.1 dX5_part_92 (lv_at hl 5 rfl) ?_
              refine lv_if_ne (tgt := 107) F.1 F.2.1 dX5_part_94 (by decide) (fun hc => ?_) (fun hc => ?_)
              · have h := h.2 hc
                refine lv_aload_n F.1 F.2.1 dX5_part_107 rfl (lv_at hl 1 rfl) ?_
                refine va_get (D := D) (ci := 3) (v := .ref (ad 1)) (C := RX5) (T := TX5) (N := 3) F.1 F.2.1 F.2.2.2.2 vX5_part_X5 F.2.2.2.1 hz.1 hP 0 rfl rfl 0 (by decide) (F.2.2.2.2 _ uX5_part_2) (fun _ h9 => h9) rfl dX5_part_108 ?_
                refine lv_iload F.1 F.2.1 dX5_part_111 (lv_at hl 0 rfl) ?_
                refine lv_iload_n F.1 F.2.1 dX5_part_113 rfl (lv_at hl 2 rfl) ?_
                refine lv_iload F.1 F.2.1 dX5_part_114 (lv_at hl 6 rfl) ?_
                refine vp_callSl (va_Run.run (va_runS (As := [.ref (ad 1), .int r_6, .int a1, .int a5]) (rest := []) F (mX0_difference (l := l) (D := D) (cI := cI) (cJ := cJ) (cZ := cZ) (ad := ad) h) (va_cwS 4 F.2.2.2.2 gX5_part_X0_difference rfl rfl rfl kS_X0_difference ⟨Nat.le_of_ble_eq_true rfl, Nat.le_of_ble_eq_true rfl⟩) ⟨rp_blind, rp_pre hz (hP.sub (ws' := w2 ad cI S.1) [1, 2, 3, 4, 5, 6, 7, 8] rfl) [.ref (ad 1), .int r_6, .int a1, .int a5]⟩ rfl rfl hl.1 rfl (lv_room (Nat.le_of_ble_eq_true rfl)) dX5_part_116 ⟨Nat.le_of_ble_eq_true rfl, Nat.le_of_ble_eq_true rfl⟩)) (fun r_8 h => ?_)
                exact hret _ _ _ h dX5_part_119
              · have h := h.1 (hc)
                refine lv_lconst (v := (0 : Int64)) F.1 F.2.1 dX5_part_97 (by decide) ?_
                refine lv_lconst (v := (1 : Int64)) F.1 F.2.1 dX5_part_98 (by decide) ?_
                refine lv_iload F.1 F.2.1 dX5_part_99 (lv_at hl 6 rfl) ?_
                refine vp_callSl (va_Run.run (va_runS (As := [.long (0 : Int64), .long (1 : Int64), .int a5]) (rest := []) F (mX0_tell (l := l) (D := D) (cI := cI) (cJ := cJ) (cZ := cZ) h) (va_cwS 3 F.2.2.2.2 gX5_part_X0_tell rfl rfl rfl kS_X0_tell ⟨Nat.le_of_ble_eq_true rfl, Nat.le_of_ble_eq_true rfl⟩) ⟨rp_blind, rp_pre hz (hP.sub (ws' := []) [] rfl) [.long (0 : Int64), .long (1 : Int64), .int a5]⟩ rfl rfl hl.1 rfl (lv_room (Nat.le_of_ble_eq_true rfl)) dX5_part_101 ⟨Nat.le_of_ble_eq_true rfl, Nat.le_of_ble_eq_true rfl⟩)) (fun r_9 h => ?_)
                refine lv_goto (tgt := 119) F.1 F.2.1 dX5_part_104 (by decide) ?_
                exact hret _ _ _ h dX5_part_119
            · have h := h.2 hc
              refine lv_aload_n F.1 F.2.1 dX5_part_77 rfl (lv_at hl 1 rfl) ?_
              refine va_get (D := D) (ci := 3) (v := .ref (ad 1)) (C := RX5) (T := TX5) (N := 3) F.1 F.2.1 F.2.2.2.2 vX5_part_X5 F.2.2.2.1 hz.1 hP 0 rfl rfl 0 (by decide) (F.2.2.2.2 _ uX5_part_2) (fun _ h9 => h9) rfl dX5_part_78 ?_
              refine lv_iload_n F.1 F.2.1 dX5_part_81 rfl (lv_at hl 2 rfl) ?_
              refine lv_iload F.1 F.2.1 dX5_part_82 (lv_at hl 0 rfl) ?_
              refine lv_iload F.1 F.2.1 dX5_part_84 (lv_at hl 5 rfl) ?_
              refine lv_iload F.1 F.2.1 dX5_part_86 (lv_at hl 6 rfl) ?_
              refine vp_callSl (va_Run.run (va_runS (As := [.ref (ad 1), .int a1, .int r_6, .int a4, .int a5]) (rest := []) F (mX0_parted (l := l) (D := D) (cI := cI) (cJ := cJ) (cZ := cZ) (ad := ad) h) (va_cwS 5 F.2.2.2.2 gX5_part_X0_parted rfl rfl rfl kS_X0_parted ⟨Nat.le_of_ble_eq_true rfl, Nat.le_of_ble_eq_true rfl⟩) ⟨rp_blind, rp_pre hz (hP.sub (ws' := w2 ad cI S.1) [1, 2, 3, 4, 5, 6, 7, 8] rfl) [.ref (ad 1), .int a1, .int r_6, .int a4, .int a5]⟩ rfl rfl hl.1 rfl (lv_room (Nat.le_of_ble_eq_true rfl)) dX5_part_88 ⟨Nat.le_of_ble_eq_true rfl, Nat.le_of_ble_eq_true rfl⟩)) (fun r_10 h => ?_)
              exact hret _ _ _ h dX5_part_91
          · have h := h.1 (hc)
            refine lv_ldc2 (v := (-4000000000000000000 : Int64)) F.1 F.2.1 F.2.2.2.1 (F.2.2.2.2 _ uX5_part_1) dX5_part_53 ?_
            exact hret _ _ _ h dX5_part_56
    · have h := h.1 (hc)
      refine lv_ldc2 (v := (-4000000000000000000 : Int64)) F.1 F.2.1 F.2.2.2.1 (F.2.2.2.2 _ uX5_part_1) dX5_part_18 ?_
      exact hret _ _ _ h dX5_part_21
theorem mX5_part {l : Launch} {D : va_G} {cI cJ cZ : ClassId} {ad : Nat → Nat} {S : SX} {a1 : Int32} {a2 : Int32} {a3 : Int32} {a4 : Int32} {a5 : Int32} {Q : Int64 → Prop} (h : wX5_part S a1 a2 a3 a4 a5 Q) : Met l yX5_part wsX5_part rX5_part (va_Pc [.ref (ad 0), .int a1, .int a2, .int a3, .int a4, .int a5] (rpt D cI cJ cZ (w5 ad cI cJ S))) (vp_Sl Q) 0 0 (fun _ => False) :=
  enter_l (by decide +kernel) rfl (Nat.le_of_ble_eq_true rfl) (fun p e s m args below meth c QQ F hz hret => bX5_part F hz.1.1 hz.1.2 hz.2 hret h)
abbrev rX5_moves : Room := { frames := 3, cells := 0, slots := 0, locals := 71 }
theorem kV_X5_moves : yX5_moves.cls = RX5 ∧ yX5_moves.cls ≠ "java/lang/invoke/MethodHandle" ∧ yX5_moves.cls ≠ "java/lang/invoke/VarHandle" ∧ (parseMethodDescriptor yX5_moves.desc).map (fun d => d.parameters.length) = some 2 := by decide +kernel
theorem vX5_moves_X5 : ∀ w ∈ wsX50, w ∈ wsX5_moves := fun _ h => List.mem_cons_of_mem _ (List.mem_append_left _ (List.mem_append_right _ h))
theorem uX5_moves_1 : Cond.fieldLink RX5 10 "SumMoved" "rows" "LSumMoved$Rows;" ∈ wsX5_moves := List.mem_of_getElem? (i := 1) rfl
set_option maxRecDepth 100000 in
theorem kX5_moves_25 {p1 : Int32} {p2 : Int32} {S : SX} (F : CallFix p m c cX5_moves 5 s args wsX5_moves RX5) (hz : gz D cI cJ cZ s) (hP : va_P D vwCl (w5 ad cI cJ S) s.heap) {K : Int32 × Int32 → Prop} (hK : ∀ x : Int32 × Int32, K x → match x with | (x3, x4) => ∀ ls : Array Slot, lv_has ls 5 [(0, .ref (ad 0)), (1, .int p1), (2, .int p2), (3, .int x3), (4, .int x4)] → W p l e rX5_moves s m args below meth c s.heap [] 0 0 QQ (F0 m 55 ls [])) : ∀ (nn : Nat) (x : Int32 × Int32), iter (sX5_moves_25 S p1 p2 K) nn x → match x with | (x3, x4) => ∀ ls : Array Slot, lv_has ls 5 [(0, .ref (ad 0)), (1, .int p1), (2, .int p2), (3, .int x3), (4, .int x4)] → W p l e rX5_moves s m args below meth c s.heap [] 0 0 QQ (F0 m 25 ls []) := by
  refine iter_walk ?_
  rintro again25 ⟨x3, x4⟩ ih25 h ls hl
  have hK25 := hK
  refine lv_iload F.1 F.2.1 dX5_moves_25 (lv_at hl 4 rfl) ?_
  refine lv_bipush (v := (64 : Int32)) F.1 F.2.1 dX5_moves_27 (by decide) ?_
  refine lv_icmp_ge (tgt := 55) F.1 F.2.1 dX5_moves_29 (by decide) (fun hc => ?_) (fun hc => ?_)
  · have h := h.1 (hc)
    exact hK25 (x3, x4) h ls (lv_sub hl [0, 1, 2, 3, 4] rfl)
  · have h := h.2 hc
    refine lv_aload_n F.1 F.2.1 dX5_moves_32 rfl (lv_at hl 0 rfl) ?_
    refine va_get (D := D) (ci := 3) (v := .ref (ad 1)) (C := RX5) (T := TX5) (N := 3) F.1 F.2.1 F.2.2.2.2 vX5_moves_X5 F.2.2.2.1 hz.1 hP 0 rfl rfl 0 (by decide) (F.2.2.2.2 _ uX5_moves_1) (fun _ h9 => h9) rfl dX5_moves_33 ?_
    refine lv_iload_n F.1 F.2.1 dX5_moves_36 rfl (lv_at hl 1 rfl) ?_
    refine lv_iload F.1 F.2.1 dX5_moves_37 (lv_at hl 4 rfl) ?_
    refine vp_callSi (va_Run.run (va_runV (As := [.int p1, .int x4]) (rest := []) F (mX2_wayOf (l := l) (D := D) (cI := cI) (cJ := cJ) (cZ := cZ) (ad := ad) h) (cwV 2 F.2.2.2.2 gX5_moves_X2_wayOf rfl rfl rfl kV_X2_wayOf ⟨Nat.le_of_ble_eq_true rfl, Nat.le_of_ble_eq_true rfl⟩) ⟨rp_blind, va_recv hz.1 hP (ci := 0) (q0 := 1) rfl rfl, rp_pre hz (hP.sub (ws' := w2 ad cI S.1) [1, 2, 3, 4, 5, 6, 7, 8] rfl) (.ref (ad 1) :: [.int p1, .int x4])⟩ rfl rfl hl.1 rfl (lv_room (Nat.le_of_ble_eq_true rfl)) dX5_moves_39 ⟨Nat.le_of_ble_eq_true rfl, Nat.le_of_ble_eq_true rfl⟩)) (fun r_3 h => ?_)
    refine lv_iload_n F.1 F.2.1 dX5_moves_42 rfl (lv_at hl 2 rfl) ?_
    refine lv_icmp_ne (tgt := 49) F.1 F.2.1 dX5_moves_43 (by decide) (fun hc => ?_) (fun hc => ?_)
    · have h := h.2 hc
      refine lv_iinc (v := x4 + 1) (lv' := [(4, .int (x4 + 1)), (0, .ref (ad 0)), (1, .int p1), (2, .int p2), (3, .int x3)]) F.1 F.2.1 dX5_moves_49 hl (k := 4) rfl rfl (by decide) rfl (fun ls hl => ?_)
      refine lv_goto (tgt := 25) F.1 F.2.1 dX5_moves_52 (by decide) ?_
      exact ih25 (x3, x4 + 1) h ls (lv_sub hl [1, 2, 3, 4, 0] rfl)
    · have h := h.1 (hc)
      refine lv_iinc (v := x3 + 1) (lv' := [(3, .int (x3 + 1)), (0, .ref (ad 0)), (1, .int p1), (2, .int p2), (4, .int x4)]) F.1 F.2.1 dX5_moves_46 hl (k := 3) rfl rfl (by decide) rfl (fun ls hl => ?_)
      refine lv_iinc (v := x4 + 1) (lv' := [(4, .int (x4 + 1)), (3, .int (x3 + 1)), (0, .ref (ad 0)), (1, .int p1), (2, .int p2)]) F.1 F.2.1 dX5_moves_49 hl (k := 4) rfl rfl (by decide) rfl (fun ls hl => ?_)
      refine lv_goto (tgt := 25) F.1 F.2.1 dX5_moves_52 (by decide) ?_
      exact ih25 (x3 + 1, x4 + 1) h ls (lv_sub hl [2, 3, 4, 1, 0] rfl)
set_option maxRecDepth 100000 in
theorem bX5_moves {a1 : Int32} {a2 : Int32} {S : SX} {Q : Int32 → Prop} (F : CallFix p m c cX5_moves 5 s args wsX5_moves RX5) (hz : gz D cI cJ cZ s) (hP : va_P D vwCl (w5 ad cI cJ S) s.heap) (hret : ∀ (v : Int32) (pc : Nat) (ls : Array Slot), Q v → decode cX5_moves pc = .ok (.ireturn, 1) → W p l e rX5_moves s m args below meth c s.heap [] 0 0 QQ (F0 m pc ls [.int v])) (h : wX5_moves S a1 a2 Q) : ∀ ls : Array Slot, lv_has ls 5 [(0, .ref (ad 0)), (1, .int a1), (2, .int a2)] → W p l e rX5_moves s m args below meth c s.heap [] 0 0 QQ (F0 m 0 ls []) := by
  intro ls hl
  refine lv_iload_n F.1 F.2.1 dX5_moves_0 rfl (lv_at hl 1 rfl) ?_
  refine lv_iconst (v := (0 : Int32)) F.1 F.2.1 dX5_moves_1 (by decide) ?_
  refine lv_iconst (v := (2 : Int32)) F.1 F.2.1 dX5_moves_2 (by decide) ?_
  refine vp_callSi (va_Run.run (va_runS (As := [.int a1, .int (0 : Int32), .int (2 : Int32)]) (rest := []) F (mX5_isIn (l := l) (D := D) (cI := cI) (cJ := cJ) (cZ := cZ) h) (va_cwS 3 F.2.2.2.2 gX5_moves_X5_isIn rfl rfl rfl kS_X5_isIn ⟨Nat.le_of_ble_eq_true rfl, Nat.le_of_ble_eq_true rfl⟩) ⟨rp_blind, rp_pre hz (hP.sub (ws' := []) [] rfl) [.int a1, .int (0 : Int32), .int (2 : Int32)]⟩ rfl rfl hl.1 rfl (lv_room (Nat.le_of_ble_eq_true rfl)) dX5_moves_3 ⟨Nat.le_of_ble_eq_true rfl, Nat.le_of_ble_eq_true rfl⟩)) (fun r_1 h => ?_)
  obtain ⟨hbr_1, h⟩ := h
  refine lv_if_eq (tgt := 18) F.1 F.2.1 dX5_moves_6 (by decide) (fun hc => ?_) (fun hc => ?_)
  · have h := h.1 (hc)
    refine lv_iconst (v := (-1 : Int32)) F.1 F.2.1 dX5_moves_18 (by decide) ?_
    exact hret _ _ _ h dX5_moves_19
  · have h := h.2 hc
    refine lv_iload_n F.1 F.2.1 dX5_moves_9 rfl (lv_at hl 2 rfl) ?_
    refine lv_iconst (v := (0 : Int32)) F.1 F.2.1 dX5_moves_10 (by decide) ?_
    refine lv_iconst (v := (3 : Int32)) F.1 F.2.1 dX5_moves_11 (by decide) ?_
    refine vp_callSi (va_Run.run (va_runS (As := [.int a2, .int (0 : Int32), .int (3 : Int32)]) (rest := []) F (mX5_isIn (l := l) (D := D) (cI := cI) (cJ := cJ) (cZ := cZ) h) (va_cwS 3 F.2.2.2.2 gX5_moves_X5_isIn rfl rfl rfl kS_X5_isIn ⟨Nat.le_of_ble_eq_true rfl, Nat.le_of_ble_eq_true rfl⟩) ⟨rp_blind, rp_pre hz (hP.sub (ws' := []) [] rfl) [.int a2, .int (0 : Int32), .int (3 : Int32)]⟩ rfl rfl hl.1 rfl (lv_room (Nat.le_of_ble_eq_true rfl)) dX5_moves_12 ⟨Nat.le_of_ble_eq_true rfl, Nat.le_of_ble_eq_true rfl⟩)) (fun r_2 h => ?_)
    obtain ⟨hbr_2, h⟩ := h
    refine lv_if_ne (tgt := 20) F.1 F.2.1 dX5_moves_15 (by decide) (fun hc => ?_) (fun hc => ?_)
    · have h := h.2 hc
      refine lv_iconst (v := (0 : Int32)) F.1 F.2.1 dX5_moves_20 (by decide) ?_
      refine lv_istore_n (lv' := [(3, .int (0 : Int32)), (0, .ref (ad 0)), (1, .int a1), (2, .int a2)]) F.1 F.2.1 dX5_moves_21 rfl hl (by decide) rfl (fun ls hl => ?_)
      refine lv_iconst (v := (0 : Int32)) F.1 F.2.1 dX5_moves_22 (by decide) ?_
      refine lv_istore (lv' := [(4, .int (0 : Int32)), (3, .int (0 : Int32)), (0, .ref (ad 0)), (1, .int a1), (2, .int a2)]) F.1 F.2.1 dX5_moves_23 hl (by decide) rfl (fun ls hl => ?_)
      obtain ⟨nn, h⟩ := h
      refine kX5_moves_25 F hz hP (fun ⟨x3, x4⟩ h ls hl => ?_) nn _ h ls (lv_sub hl [2, 3, 4, 1, 0] rfl)
      refine lv_iload_n F.1 F.2.1 dX5_moves_55 rfl (lv_at hl 3 rfl) ?_
      exact hret _ _ _ h dX5_moves_56
    · have h := h.1 (hc)
      refine lv_iconst (v := (-1 : Int32)) F.1 F.2.1 dX5_moves_18 (by decide) ?_
      exact hret _ _ _ h dX5_moves_19
theorem mX5_moves {l : Launch} {D : va_G} {cI cJ cZ : ClassId} {ad : Nat → Nat} {S : SX} {a1 : Int32} {a2 : Int32} {Q : Int32 → Prop} (h : wX5_moves S a1 a2 Q) : Met l yX5_moves wsX5_moves rX5_moves (va_Pc [.ref (ad 0), .int a1, .int a2] (rp D cI cJ cZ (w5 ad cI cJ S))) (vp_Si Q) 0 0 (fun _ => False) :=
  enter_i (by decide +kernel) rfl (Nat.le_of_ble_eq_true rfl) (fun p e s m args below meth c QQ F hz hret => bX5_moves F hz.1 hz.2 hret h)
abbrev rX5_move : Room := { frames := 3, cells := 0, slots := 0, locals := 71 }
theorem kV_X5_move : yX5_move.cls = RX5 ∧ yX5_move.cls ≠ "java/lang/invoke/MethodHandle" ∧ yX5_move.cls ≠ "java/lang/invoke/VarHandle" ∧ (parseMethodDescriptor yX5_move.desc).map (fun d => d.parameters.length) = some 2 := by decide +kernel
theorem vX5_move_X5 : ∀ w ∈ wsX50, w ∈ wsX5_move := fun _ h => List.mem_cons_of_mem _ (List.mem_append_left _ (List.mem_append_right _ h))
theorem uX5_move_1 : Cond.fieldLink RX5 10 "SumMoved" "rows" "LSumMoved$Rows;" ∈ wsX5_move := List.mem_of_getElem? (i := 1) rfl
set_option maxRecDepth 100000 in
theorem bX5_move {a1 : Int32} {a2 : Int32} {S : SX} {Q : Int32 → Prop} (F : CallFix p m c cX5_move 3 s args wsX5_move RX5) (hz : gz D cI cJ cZ s) (hP : va_P D vwCl (w5 ad cI cJ S) s.heap) (hret : ∀ (v : Int32) (pc : Nat) (ls : Array Slot), Q v → decode cX5_move pc = .ok (.ireturn, 1) → W p l e rX5_move s m args below meth c s.heap [] 0 0 QQ (F0 m pc ls [.int v])) (h : wX5_move S a1 a2 Q) : ∀ ls : Array Slot, lv_has ls 3 [(0, .ref (ad 0)), (1, .int a1), (2, .int a2)] → W p l e rX5_move s m args below meth c s.heap [] 0 0 QQ (F0 m 0 ls []) := by
  intro ls hl
  refine lv_iload_n F.1 F.2.1 dX5_move_0 rfl (lv_at hl 1 rfl) ?_
  refine lv_iconst (v := (0 : Int32)) F.1 F.2.1 dX5_move_1 (by decide) ?_
  refine lv_iconst (v := (2 : Int32)) F.1 F.2.1 dX5_move_2 (by decide) ?_
  refine vp_callSi (va_Run.run (va_runS (As := [.int a1, .int (0 : Int32), .int (2 : Int32)]) (rest := []) F (mX5_isIn (l := l) (D := D) (cI := cI) (cJ := cJ) (cZ := cZ) h) (va_cwS 3 F.2.2.2.2 gX5_move_X5_isIn rfl rfl rfl kS_X5_isIn ⟨Nat.le_of_ble_eq_true rfl, Nat.le_of_ble_eq_true rfl⟩) ⟨rp_blind, rp_pre hz (hP.sub (ws' := []) [] rfl) [.int a1, .int (0 : Int32), .int (2 : Int32)]⟩ rfl rfl hl.1 rfl (lv_room (Nat.le_of_ble_eq_true rfl)) dX5_move_3 ⟨Nat.le_of_ble_eq_true rfl, Nat.le_of_ble_eq_true rfl⟩)) (fun r_1 h => ?_)
  obtain ⟨hbr_1, h⟩ := h
  refine lv_if_eq (tgt := 28) F.1 F.2.1 dX5_move_6 (by decide) (fun hc => ?_) (fun hc => ?_)
  · have h := h.1 (hc)
    refine lv_iconst (v := (-1 : Int32)) F.1 F.2.1 dX5_move_28 (by decide) ?_
    exact hret _ _ _ h dX5_move_29
  · have h := h.2 hc
    refine lv_iload_n F.1 F.2.1 dX5_move_9 rfl (lv_at hl 2 rfl) ?_
    refine vp_callSi (va_Run.run (va_runS (As := [.int a2]) (rest := []) F (mX5_isMember (l := l) (D := D) (cI := cI) (cJ := cJ) (cZ := cZ) h) (va_cwS 1 F.2.2.2.2 gX5_move_X5_isMember rfl rfl rfl kS_X5_isMember ⟨Nat.le_of_ble_eq_true rfl, Nat.le_of_ble_eq_true rfl⟩) ⟨rp_blind, rp_pre hz (hP.sub (ws' := []) [] rfl) [.int a2]⟩ rfl rfl hl.1 rfl (lv_room (Nat.le_of_ble_eq_true rfl)) dX5_move_10 ⟨Nat.le_of_ble_eq_true rfl, Nat.le_of_ble_eq_true rfl⟩)) (fun r_2 h => ?_)
    obtain ⟨hbr_2, h⟩ := h
    refine lv_if_eq (tgt := 28) F.1 F.2.1 dX5_move_13 (by decide) (fun hc => ?_) (fun hc => ?_)
    · have h := h.1 (hc)
      refine lv_iconst (v := (-1 : Int32)) F.1 F.2.1 dX5_move_28 (by decide) ?_
      exact hret _ _ _ h dX5_move_29
    · have h := h.2 hc
      refine lv_aload_n F.1 F.2.1 dX5_move_16 rfl (lv_at hl 0 rfl) ?_
      refine va_get (D := D) (ci := 3) (v := .ref (ad 1)) (C := RX5) (T := TX5) (N := 3) F.1 F.2.1 F.2.2.2.2 vX5_move_X5 F.2.2.2.1 hz.1 hP 0 rfl rfl 0 (by decide) (F.2.2.2.2 _ uX5_move_1) (fun _ h9 => h9) rfl dX5_move_17 ?_
      refine lv_iload_n F.1 F.2.1 dX5_move_20 rfl (lv_at hl 1 rfl) ?_
      refine lv_iload_n F.1 F.2.1 dX5_move_21 rfl (lv_at hl 2 rfl) ?_
      refine vp_callSi (va_Run.run (va_runV (As := [.int a1, .int a2]) (rest := []) F (mX2_wayOf (l := l) (D := D) (cI := cI) (cJ := cJ) (cZ := cZ) (ad := ad) h) (cwV 2 F.2.2.2.2 gX5_move_X2_wayOf rfl rfl rfl kV_X2_wayOf ⟨Nat.le_of_ble_eq_true rfl, Nat.le_of_ble_eq_true rfl⟩) ⟨rp_blind, va_recv hz.1 hP (ci := 0) (q0 := 1) rfl rfl, rp_pre hz (hP.sub (ws' := w2 ad cI S.1) [1, 2, 3, 4, 5, 6, 7, 8] rfl) (.ref (ad 1) :: [.int a1, .int a2])⟩ rfl rfl hl.1 rfl (lv_room (Nat.le_of_ble_eq_true rfl)) dX5_move_22 ⟨Nat.le_of_ble_eq_true rfl, Nat.le_of_ble_eq_true rfl⟩)) (fun r_3 h => ?_)
      refine lv_goto (tgt := 29) F.1 F.2.1 dX5_move_25 (by decide) ?_
      exact hret _ _ _ h dX5_move_29
theorem mX5_move {l : Launch} {D : va_G} {cI cJ cZ : ClassId} {ad : Nat → Nat} {S : SX} {a1 : Int32} {a2 : Int32} {Q : Int32 → Prop} (h : wX5_move S a1 a2 Q) : Met l yX5_move wsX5_move rX5_move (va_Pc [.ref (ad 0), .int a1, .int a2] (rp D cI cJ cZ (w5 ad cI cJ S))) (vp_Si Q) 0 0 (fun _ => False) :=
  enter_i (by decide +kernel) rfl (Nat.le_of_ble_eq_true rfl) (fun p e s m args below meth c QQ F hz hret => bX5_move F hz.1 hz.2 hret h)
abbrev rX5_rounded : Room := { frames := 5, cells := 0, slots := 0, locals := 126 }
theorem kV_X5_rounded : yX5_rounded.cls = RX5 ∧ yX5_rounded.cls ≠ "java/lang/invoke/MethodHandle" ∧ yX5_rounded.cls ≠ "java/lang/invoke/VarHandle" ∧ (parseMethodDescriptor yX5_rounded.desc).map (fun d => d.parameters.length) = some 4 := by decide +kernel
theorem uX5_rounded_1 : Cond.constant RX5 75 (-1000000) ∈ wsX5_rounded := List.mem_of_getElem? (i := 1) rfl
theorem vX5_rounded_X5 : ∀ w ∈ wsX50, w ∈ wsX5_rounded := fun _ h => List.mem_cons_of_mem _ (List.mem_append_left _ (List.mem_append_right _ h))
theorem uX5_rounded_2 : Cond.fieldLink RX5 10 "SumMoved" "rows" "LSumMoved$Rows;" ∈ wsX5_rounded := List.mem_of_getElem? (i := 2) rfl
set_option maxRecDepth 100000 in
theorem bX5_rounded {a1 : Int32} {a2 : Int32} {a3 : Int32} {a4 : Int32} {S : SX} {Q : Int32 → Prop} (F : CallFix p m c cX5_rounded 5 s args wsX5_rounded RX5) (hz : gz D cI cJ cZ s) (hP : va_P D vwCl (w5 ad cI cJ S) s.heap) (ht : gt s s.heap) (hret : ∀ (v : Int32) (pc : Nat) (ls : Array Slot), Q v → decode cX5_rounded pc = .ok (.ireturn, 1) → W p l e rX5_rounded s m args below meth c s.heap [] 0 0 QQ (F0 m pc ls [.int v])) (h : wX5_rounded S a1 a2 a3 a4 Q) : ∀ ls : Array Slot, lv_has ls 5 [(0, .ref (ad 0)), (1, .int a1), (2, .int a2), (3, .int a3), (4, .int a4)] → W p l e rX5_rounded s m args below meth c s.heap [] 0 0 QQ (F0 m 0 ls []) := by
  intro ls hl
  have ht0 := ht
  obtain ⟨t1, t2, hZ1, hT1, hZ2, hT2⟩ := ht0
  refine lv_iload_n F.1 F.2.1 dX5_rounded_0 rfl (lv_at hl 1 rfl) ?_
  refine lv_iload_n F.1 F.2.1 dX5_rounded_1 rfl (lv_at hl 2 rfl) ?_
  refine vp_callSi (va_Run.run (va_runS (As := [.int a1, .int a2]) (rest := []) F (mX1_isOpen (l := l) (D := D) (cI := cI) (cJ := cJ) (cZ := cZ) h) (va_cwS 2 F.2.2.2.2 gX5_rounded_X1_isOpen rfl rfl rfl kS_X1_isOpen ⟨Nat.le_of_ble_eq_true rfl, Nat.le_of_ble_eq_true rfl⟩) ⟨rp_blind, rp_pre hz (hP.sub (ws' := []) [] rfl) [.int a1, .int a2]⟩ rfl rfl hl.1 rfl (lv_room (Nat.le_of_ble_eq_true rfl)) dX5_rounded_2 ⟨Nat.le_of_ble_eq_true rfl, Nat.le_of_ble_eq_true rfl⟩)) (fun r_1 h => ?_)
  obtain ⟨hbr_1, h⟩ := h
  refine lv_if_eq (tgt := 30) F.1 F.2.1 dX5_rounded_5 (by decide) (fun hc => ?_) (fun hc => ?_)
  · have h := h.1 (hc)
    refine lv_ldc (v := (-1000000 : Int32)) F.1 F.2.1 F.2.2.2.1 (F.2.2.2.2 _ uX5_rounded_1) dX5_rounded_30 ?_
    exact hret _ _ _ h dX5_rounded_32
  · have h := h.2 hc
    refine lv_iload_n F.1 F.2.1 dX5_rounded_8 rfl (lv_at hl 3 rfl) ?_
    refine lv_iconst (v := (0 : Int32)) F.1 F.2.1 dX5_rounded_9 (by decide) ?_
    refine lv_bipush (v := (8 : Int32)) F.1 F.2.1 dX5_rounded_10 (by decide) ?_
    refine vp_callSi (va_Run.run (va_runS (As := [.int a3, .int (0 : Int32), .int (8 : Int32)]) (rest := []) F (mX5_isIn (l := l) (D := D) (cI := cI) (cJ := cJ) (cZ := cZ) h) (va_cwS 3 F.2.2.2.2 gX5_rounded_X5_isIn rfl rfl rfl kS_X5_isIn ⟨Nat.le_of_ble_eq_true rfl, Nat.le_of_ble_eq_true rfl⟩) ⟨rp_blind, rp_pre hz (hP.sub (ws' := []) [] rfl) [.int a3, .int (0 : Int32), .int (8 : Int32)]⟩ rfl rfl hl.1 rfl (lv_room (Nat.le_of_ble_eq_true rfl)) dX5_rounded_12 ⟨Nat.le_of_ble_eq_true rfl, Nat.le_of_ble_eq_true rfl⟩)) (fun r_2 h => ?_)
    obtain ⟨hbr_2, h⟩ := h
    refine lv_if_eq (tgt := 30) F.1 F.2.1 dX5_rounded_15 (by decide) (fun hc => ?_) (fun hc => ?_)
    · have h := h.1 (hc)
      refine lv_ldc (v := (-1000000 : Int32)) F.1 F.2.1 F.2.2.2.1 (F.2.2.2.2 _ uX5_rounded_1) dX5_rounded_30 ?_
      exact hret _ _ _ h dX5_rounded_32
    · have h := h.2 hc
      refine lv_iload F.1 F.2.1 dX5_rounded_18 (lv_at hl 4 rfl) ?_
      refine lv_iconst (v := (1 : Int32)) F.1 F.2.1 dX5_rounded_20 (by decide) ?_
      refine lv_sipush (v := (1000 : Int32)) F.1 F.2.1 dX5_rounded_21 (by decide) ?_
      refine vp_callSi (va_Run.run (va_runS (As := [.int a4, .int (1 : Int32), .int (1000 : Int32)]) (rest := []) F (mX5_isIn (l := l) (D := D) (cI := cI) (cJ := cJ) (cZ := cZ) h) (va_cwS 3 F.2.2.2.2 gX5_rounded_X5_isIn rfl rfl rfl kS_X5_isIn ⟨Nat.le_of_ble_eq_true rfl, Nat.le_of_ble_eq_true rfl⟩) ⟨rp_blind, rp_pre hz (hP.sub (ws' := []) [] rfl) [.int a4, .int (1 : Int32), .int (1000 : Int32)]⟩ rfl rfl hl.1 rfl (lv_room (Nat.le_of_ble_eq_true rfl)) dX5_rounded_24 ⟨Nat.le_of_ble_eq_true rfl, Nat.le_of_ble_eq_true rfl⟩)) (fun r_3 h => ?_)
      obtain ⟨hbr_3, h⟩ := h
      refine lv_if_ne (tgt := 33) F.1 F.2.1 dX5_rounded_27 (by decide) (fun hc => ?_) (fun hc => ?_)
      · have h := h.2 hc
        refine lv_aload_n F.1 F.2.1 dX5_rounded_33 rfl (lv_at hl 0 rfl) ?_
        refine va_get (D := D) (ci := 3) (v := .ref (ad 1)) (C := RX5) (T := TX5) (N := 3) F.1 F.2.1 F.2.2.2.2 vX5_rounded_X5 F.2.2.2.1 hz.1 hP 0 rfl rfl 0 (by decide) (F.2.2.2.2 _ uX5_rounded_2) (fun _ h9 => h9) rfl dX5_rounded_34 ?_
        refine lv_iload_n F.1 F.2.1 dX5_rounded_37 rfl (lv_at hl 1 rfl) ?_
        refine lv_iload_n F.1 F.2.1 dX5_rounded_38 rfl (lv_at hl 2 rfl) ?_
        refine lv_iload_n F.1 F.2.1 dX5_rounded_39 rfl (lv_at hl 3 rfl) ?_
        refine lv_iload F.1 F.2.1 dX5_rounded_40 (lv_at hl 4 rfl) ?_
        refine vp_callSi (va_Run.run (va_runV (As := [.int a1, .int a2, .int a3, .int a4]) (rest := []) F (mX2_inUnits (l := l) (D := D) (cI := cI) (cJ := cJ) (cZ := cZ) (ad := ad) h) (cwV 4 F.2.2.2.2 gX5_rounded_X2_inUnits rfl rfl rfl kV_X2_inUnits ⟨Nat.le_of_ble_eq_true rfl, Nat.le_of_ble_eq_true rfl⟩) ⟨rpt_blind, va_recv hz.1 hP (ci := 0) (q0 := 1) rfl rfl, rpt_pre hz (hP.sub (ws' := w2 ad cI S.1) [1, 2, 3, 4, 5, 6, 7, 8] rfl) ht (.ref (ad 1) :: [.int a1, .int a2, .int a3, .int a4])⟩ rfl rfl hl.1 rfl (lv_room (Nat.le_of_ble_eq_true rfl)) dX5_rounded_42 ⟨Nat.le_of_ble_eq_true rfl, Nat.le_of_ble_eq_true rfl⟩)) (fun r_4 h => ?_)
        exact hret _ _ _ h dX5_rounded_45
      · have h := h.1 (hc)
        refine lv_ldc (v := (-1000000 : Int32)) F.1 F.2.1 F.2.2.2.1 (F.2.2.2.2 _ uX5_rounded_1) dX5_rounded_30 ?_
        exact hret _ _ _ h dX5_rounded_32
theorem mX5_rounded {l : Launch} {D : va_G} {cI cJ cZ : ClassId} {ad : Nat → Nat} {S : SX} {a1 : Int32} {a2 : Int32} {a3 : Int32} {a4 : Int32} {Q : Int32 → Prop} (h : wX5_rounded S a1 a2 a3 a4 Q) : Met l yX5_rounded wsX5_rounded rX5_rounded (va_Pc [.ref (ad 0), .int a1, .int a2, .int a3, .int a4] (rpt D cI cJ cZ (w5 ad cI cJ S))) (vp_Si Q) 0 0 (fun _ => False) :=
  enter_i (by decide +kernel) rfl (Nat.le_of_ble_eq_true rfl) (fun p e s m args below meth c QQ F hz hret => bX5_rounded F hz.1.1 hz.1.2 hz.2 hret h)
abbrev rX5_factor : Room := { frames := 3, cells := 0, slots := 0, locals := 65 }
theorem kV_X5_factor : yX5_factor.cls = RX5 ∧ yX5_factor.cls ≠ "java/lang/invoke/MethodHandle" ∧ yX5_factor.cls ≠ "java/lang/invoke/VarHandle" ∧ (parseMethodDescriptor yX5_factor.desc).map (fun d => d.parameters.length) = some 3 := by decide +kernel
theorem vX5_factor_X5 : ∀ w ∈ wsX50, w ∈ wsX5_factor := fun _ h => List.mem_cons_of_mem _ (List.mem_append_left _ (List.mem_append_right _ h))
theorem uX5_factor_1 : Cond.fieldLink RX5 19 "SumMoved" "switches" "LSumMoved$Switches;" ∈ wsX5_factor := List.mem_of_getElem? (i := 1) rfl
set_option maxRecDepth 100000 in
theorem bX5_factor {a1 : Int32} {a2 : Int32} {a3 : Int32} {S : SX} {Q : Int32 → SX → Prop} (F : CallFix p m c cX5_factor 4 s args wsX5_factor RX5) (hz : gz D cI cJ cZ s) (hD : ∀ u : SX, va_D A (w5 ad cI cJ u)) (hA : ∀ q : Nat, s.heap.size ≤ q → A q) (hret : ∀ (v : Int32) (u : SX) (H : Heap) (locs : List Loc) (pc : Nat) (ls : Array Slot), Q v u → va_P D vwCl (w5 ad cI cJ u) H → va_S A s.heap H locs → decode cX5_factor pc = .ok (.ireturn, 1) → W p l e rX5_factor s m args below meth c H locs 0 0 QQ (F0 m pc ls [.int v])) (hP : va_P D vwCl (w5 ad cI cJ S) s.heap) (h : wX5_factor S a1 a2 a3 Q) : ∀ ls : Array Slot, lv_has ls 4 [(0, .ref (ad 0)), (1, .int a1), (2, .int a2), (3, .int a3)] → W p l e rX5_factor s m args below meth c s.heap [] 0 0 QQ (F0 m 0 ls []) := by
  intro ls hl
  have hS : va_S A s.heap s.heap [] := va_S.rf
  refine lv_iload_n F.1 F.2.1 dX5_factor_0 rfl (lv_at hl 1 rfl) ?_
  refine vp_callSi (va_Run.run (va_runS (As := [.int a1]) (rest := []) F (mX4_has (l := l) (D := D) (cI := cI) (cJ := cJ) (cZ := cZ) h) (va_cwS 1 F.2.2.2.2 gX5_factor_X4_has rfl rfl rfl kS_X4_has ⟨Nat.le_of_ble_eq_true rfl, Nat.le_of_ble_eq_true rfl⟩) ⟨rp_blind, rp_pre hz (hP.sub (ws' := []) [] rfl) [.int a1]⟩ rfl rfl hl.1 rfl (lv_room (Nat.le_of_ble_eq_true rfl)) dX5_factor_1 ⟨Nat.le_of_ble_eq_true rfl, Nat.le_of_ble_eq_true rfl⟩)) (fun r_1 h => ?_)
  obtain ⟨hbr_1, h⟩ := h
  refine lv_if_eq (tgt := 29) F.1 F.2.1 dX5_factor_4 (by decide) (fun hc => ?_) (fun hc => ?_)
  · have h := h.1 (hc)
    refine lv_iconst (v := (-1 : Int32)) F.1 F.2.1 dX5_factor_29 (by decide) ?_
    exact hret _ _ _ _ _ _ h hP hS dX5_factor_30
  · have h := h.2 hc
    refine lv_iload_n F.1 F.2.1 dX5_factor_7 rfl (lv_at hl 2 rfl) ?_
    refine lv_bipush (v := (-99 : Int32)) F.1 F.2.1 dX5_factor_8 (by decide) ?_
    refine lv_bipush (v := (99 : Int32)) F.1 F.2.1 dX5_factor_10 (by decide) ?_
    refine vp_callSi (va_Run.run (va_runS (As := [.int a2, .int (-99 : Int32), .int (99 : Int32)]) (rest := []) F (mX5_isIn (l := l) (D := D) (cI := cI) (cJ := cJ) (cZ := cZ) h) (va_cwS 3 F.2.2.2.2 gX5_factor_X5_isIn rfl rfl rfl kS_X5_isIn ⟨Nat.le_of_ble_eq_true rfl, Nat.le_of_ble_eq_true rfl⟩) ⟨rp_blind, rp_pre hz (hP.sub (ws' := []) [] rfl) [.int a2, .int (-99 : Int32), .int (99 : Int32)]⟩ rfl rfl hl.1 rfl (lv_room (Nat.le_of_ble_eq_true rfl)) dX5_factor_12 ⟨Nat.le_of_ble_eq_true rfl, Nat.le_of_ble_eq_true rfl⟩)) (fun r_2 h => ?_)
    obtain ⟨hbr_2, h⟩ := h
    refine lv_if_eq (tgt := 29) F.1 F.2.1 dX5_factor_15 (by decide) (fun hc => ?_) (fun hc => ?_)
    · have h := h.1 (hc)
      refine lv_iconst (v := (-1 : Int32)) F.1 F.2.1 dX5_factor_29 (by decide) ?_
      exact hret _ _ _ _ _ _ h hP hS dX5_factor_30
    · have h := h.2 hc
      refine lv_iload_n F.1 F.2.1 dX5_factor_18 rfl (lv_at hl 3 rfl) ?_
      refine lv_bipush (v := (-99 : Int32)) F.1 F.2.1 dX5_factor_19 (by decide) ?_
      refine lv_bipush (v := (99 : Int32)) F.1 F.2.1 dX5_factor_21 (by decide) ?_
      refine vp_callSi (va_Run.run (va_runS (As := [.int a3, .int (-99 : Int32), .int (99 : Int32)]) (rest := []) F (mX5_isIn (l := l) (D := D) (cI := cI) (cJ := cJ) (cZ := cZ) h) (va_cwS 3 F.2.2.2.2 gX5_factor_X5_isIn rfl rfl rfl kS_X5_isIn ⟨Nat.le_of_ble_eq_true rfl, Nat.le_of_ble_eq_true rfl⟩) ⟨rp_blind, rp_pre hz (hP.sub (ws' := []) [] rfl) [.int a3, .int (-99 : Int32), .int (99 : Int32)]⟩ rfl rfl hl.1 rfl (lv_room (Nat.le_of_ble_eq_true rfl)) dX5_factor_23 ⟨Nat.le_of_ble_eq_true rfl, Nat.le_of_ble_eq_true rfl⟩)) (fun r_3 h => ?_)
      obtain ⟨hbr_3, h⟩ := h
      refine lv_if_ne (tgt := 31) F.1 F.2.1 dX5_factor_26 (by decide) (fun hc => ?_) (fun hc => ?_)
      · have h := h.2 hc
        refine lv_aload_n F.1 F.2.1 dX5_factor_31 rfl (lv_at hl 0 rfl) ?_
        refine va_get (D := D) (ci := 3) (v := .ref (ad 9)) (C := RX5) (T := TX5) (N := 3) F.1 F.2.1 F.2.2.2.2 vX5_factor_X5 F.2.2.2.1 hz.1 hP 0 rfl rfl 1 (by decide) (F.2.2.2.2 _ uX5_factor_1) (fun _ h9 => h9) rfl dX5_factor_32 ?_
        refine lv_iload_n F.1 F.2.1 dX5_factor_35 rfl (lv_at hl 1 rfl) ?_
        refine lv_iload_n F.1 F.2.1 dX5_factor_36 rfl (lv_at hl 2 rfl) ?_
        refine lv_iload_n F.1 F.2.1 dX5_factor_37 rfl (lv_at hl 3 rfl) ?_
        refine call_wv (wf := w5 ad cI cJ) (va_runV (As := [.int a1, .int a2, .int a3]) (rest := []) F (mX4_set (l := l) (D := D) (cI := cI) (cJ := cJ) (cZ := cZ) (ad := ad) _ h) (cwV 3 F.2.2.2.2 gX5_factor_X4_set rfl rfl rfl kV_X4_set ⟨Nat.le_of_ble_eq_true rfl, Nat.le_of_ble_eq_true rfl⟩) ⟨wp_blind, va_recv hz.1 hP (ci := 2) (q0 := 9) rfl rfl, wp_pre hz hP (hD _) (.ref (ad 9) :: [.int a1, .int a2, .int a3])⟩ rfl rfl hl.1 rfl (lv_room (Nat.le_of_ble_eq_true rfl)) dX5_factor_38 ⟨Nat.le_of_ble_eq_true rfl, Nat.le_of_ble_eq_true rfl⟩) hS (hD _) hA (fun S_5 H locs h hP hS => ?_)
        refine lv_iconst (v := (1 : Int32)) F.1 F.2.1 dX5_factor_41 (by decide) ?_
        exact hret _ _ _ _ _ _ h hP hS dX5_factor_42
      · have h := h.1 (hc)
        refine lv_iconst (v := (-1 : Int32)) F.1 F.2.1 dX5_factor_29 (by decide) ?_
        exact hret _ _ _ _ _ _ h hP hS dX5_factor_30
theorem mX5_factor {l : Launch} {D : va_G} {cI cJ cZ : ClassId} {ad : Nat → Nat} {S : SX} {a1 : Int32} {a2 : Int32} {a3 : Int32} {Q : Int32 → SX → Prop} (sz : Nat) (h : wX5_factor S a1 a2 a3 Q) : Met l yX5_factor wsX5_factor rX5_factor (va_Pc [.ref (ad 0), .int a1, .int a2, .int a3] (wp D cI cJ cZ sz (w5 ad cI cJ S))) (wQi D (w5 ad cI cJ) S sz Q) 0 0 (va_A (w5 ad cI cJ S) sz) :=
  enter_wi (wf := w5 ad cI cJ) (fun _ => rfl) (by decide +kernel) rfl (Nat.le_of_ble_eq_true rfl) (fun p e s m args below meth c QQ A F hz hD hA hP hret => bX5_factor F hz hD hA hret hP h)
abbrev rX5_outcome : Room := { frames := 2, cells := 0, slots := 0, locals := 43 }
theorem kV_X5_outcome : yX5_outcome.cls = RX5 ∧ yX5_outcome.cls ≠ "java/lang/invoke/MethodHandle" ∧ yX5_outcome.cls ≠ "java/lang/invoke/VarHandle" ∧ (parseMethodDescriptor yX5_outcome.desc).map (fun d => d.parameters.length) = some 1 := by decide +kernel
theorem uX5_outcome_2 : Cond.constant RX5 75 (-1000000) ∈ wsX5_outcome := List.mem_of_getElem? (i := 2) rfl
theorem vX5_outcome_X5 : ∀ w ∈ wsX50, w ∈ wsX5_outcome := fun _ h => List.mem_cons_of_mem _ (List.mem_append_left _ (List.mem_append_right _ h))
theorem uX5_outcome_1 : Cond.fieldLink RX5 19 "SumMoved" "switches" "LSumMoved$Switches;" ∈ wsX5_outcome := List.mem_of_getElem? (i := 1) rfl
set_option maxRecDepth 100000 in
theorem bX5_outcome {a1 : Int32} {S : SX} {Q : Int32 → Prop} (F : CallFix p m c cX5_outcome 2 s args wsX5_outcome RX5) (hz : gz D cI cJ cZ s) (hP : va_P D vwCl (w5 ad cI cJ S) s.heap) (hret : ∀ (v : Int32) (pc : Nat) (ls : Array Slot), Q v → decode cX5_outcome pc = .ok (.ireturn, 1) → W p l e rX5_outcome s m args below meth c s.heap [] 0 0 QQ (F0 m pc ls [.int v])) (h : wX5_outcome S a1 Q) : ∀ ls : Array Slot, lv_has ls 2 [(0, .ref (ad 0)), (1, .int a1)] → W p l e rX5_outcome s m args below meth c s.heap [] 0 0 QQ (F0 m 0 ls []) := by
  intro ls hl
  refine lv_iload_n F.1 F.2.1 dX5_outcome_0 rfl (lv_at hl 1 rfl) ?_
  refine lv_iconst (v := (0 : Int32)) F.1 F.2.1 dX5_outcome_1 (by decide) ?_
  refine lv_bipush (v := (31 : Int32)) F.1 F.2.1 dX5_outcome_2 (by decide) ?_
  refine vp_callSi (va_Run.run (va_runS (As := [.int a1, .int (0 : Int32), .int (31 : Int32)]) (rest := []) F (mX5_isIn (l := l) (D := D) (cI := cI) (cJ := cJ) (cZ := cZ) h) (va_cwS 3 F.2.2.2.2 gX5_outcome_X5_isIn rfl rfl rfl kS_X5_isIn ⟨Nat.le_of_ble_eq_true rfl, Nat.le_of_ble_eq_true rfl⟩) ⟨rp_blind, rp_pre hz (hP.sub (ws' := []) [] rfl) [.int a1, .int (0 : Int32), .int (31 : Int32)]⟩ rfl rfl hl.1 rfl (lv_room (Nat.le_of_ble_eq_true rfl)) dX5_outcome_4 ⟨Nat.le_of_ble_eq_true rfl, Nat.le_of_ble_eq_true rfl⟩)) (fun r_1 h => ?_)
  obtain ⟨hbr_1, h⟩ := h
  refine lv_if_eq (tgt := 21) F.1 F.2.1 dX5_outcome_7 (by decide) (fun hc => ?_) (fun hc => ?_)
  · have h := h.1 (hc)
    refine lv_ldc (v := (-1000000 : Int32)) F.1 F.2.1 F.2.2.2.1 (F.2.2.2.2 _ uX5_outcome_2) dX5_outcome_21 ?_
    exact hret _ _ _ h dX5_outcome_23
  · have h := h.2 hc
    refine lv_aload_n F.1 F.2.1 dX5_outcome_10 rfl (lv_at hl 0 rfl) ?_
    refine va_get (D := D) (ci := 3) (v := .ref (ad 9)) (C := RX5) (T := TX5) (N := 3) F.1 F.2.1 F.2.2.2.2 vX5_outcome_X5 F.2.2.2.1 hz.1 hP 0 rfl rfl 1 (by decide) (F.2.2.2.2 _ uX5_outcome_1) (fun _ h9 => h9) rfl dX5_outcome_11 ?_
    refine lv_iload_n F.1 F.2.1 dX5_outcome_14 rfl (lv_at hl 1 rfl) ?_
    refine vp_callSi (va_Run.run (va_runV (As := [.int a1]) (rest := []) F (mX4_result (l := l) (D := D) (cI := cI) (cJ := cJ) (cZ := cZ) (ad := ad) h) (cwV 1 F.2.2.2.2 gX5_outcome_X4_result rfl rfl rfl kV_X4_result ⟨Nat.le_of_ble_eq_true rfl, Nat.le_of_ble_eq_true rfl⟩) ⟨rp_blind, va_recv hz.1 hP (ci := 2) (q0 := 9) rfl rfl, rp_pre hz (hP.sub (ws' := w4 ad cI S.2.1) [9, 10, 11] rfl) (.ref (ad 9) :: [.int a1])⟩ rfl rfl hl.1 rfl (lv_room (Nat.le_of_ble_eq_true rfl)) dX5_outcome_15 ⟨Nat.le_of_ble_eq_true rfl, Nat.le_of_ble_eq_true rfl⟩)) (fun r_2 h => ?_)
    refine lv_goto (tgt := 23) F.1 F.2.1 dX5_outcome_18 (by decide) ?_
    exact hret _ _ _ h dX5_outcome_23
theorem mX5_outcome {l : Launch} {D : va_G} {cI cJ cZ : ClassId} {ad : Nat → Nat} {S : SX} {a1 : Int32} {Q : Int32 → Prop} (h : wX5_outcome S a1 Q) : Met l yX5_outcome wsX5_outcome rX5_outcome (va_Pc [.ref (ad 0), .int a1] (rp D cI cJ cZ (w5 ad cI cJ S))) (vp_Si Q) 0 0 (fun _ => False) :=
  enter_i (by decide +kernel) rfl (Nat.le_of_ble_eq_true rfl) (fun p e s m args below meth c QQ F hz hret => bX5_outcome F hz.1 hz.2 hret h)
abbrev rX5_share : Room := { frames := 3, cells := 0, slots := 0, locals := 67 }
theorem kV_X5_share : yX5_share.cls = RX5 ∧ yX5_share.cls ≠ "java/lang/invoke/MethodHandle" ∧ yX5_share.cls ≠ "java/lang/invoke/VarHandle" ∧ (parseMethodDescriptor yX5_share.desc).map (fun d => d.parameters.length) = some 2 := by decide +kernel
theorem uX5_share_1 : Cond.constant RX5 75 (-1000000) ∈ wsX5_share := List.mem_of_getElem? (i := 1) rfl
theorem vX5_share_X5 : ∀ w ∈ wsX50, w ∈ wsX5_share := fun _ h => List.mem_cons_of_mem _ (List.mem_append_left _ (List.mem_append_right _ h))
theorem uX5_share_2 : Cond.fieldLink RX5 19 "SumMoved" "switches" "LSumMoved$Switches;" ∈ wsX5_share := List.mem_of_getElem? (i := 2) rfl
theorem uX5_share_3 : Cond.constantLong RX5 123 (120) ∈ wsX5_share := List.mem_of_getElem? (i := 3) rfl
set_option maxRecDepth 100000 in
theorem bX5_share {a1 : Int32} {a2 : Int32} {S : SX} {Q : Int32 → Prop} (F : CallFix p m c cX5_share 3 s args wsX5_share RX5) (hz : gz D cI cJ cZ s) (hP : va_P D vwCl (w5 ad cI cJ S) s.heap) (ht : gt s s.heap) (hret : ∀ (v : Int32) (pc : Nat) (ls : Array Slot), Q v → decode cX5_share pc = .ok (.ireturn, 1) → W p l e rX5_share s m args below meth c s.heap [] 0 0 QQ (F0 m pc ls [.int v])) (h : wX5_share S a1 a2 Q) : ∀ ls : Array Slot, lv_has ls 3 [(0, .ref (ad 0)), (1, .int a1), (2, .int a2)] → W p l e rX5_share s m args below meth c s.heap [] 0 0 QQ (F0 m 0 ls []) := by
  intro ls hl
  have ht0 := ht
  obtain ⟨t1, t2, hZ1, hT1, hZ2, hT2⟩ := ht0
  refine lv_iload_n F.1 F.2.1 dX5_share_0 rfl (lv_at hl 1 rfl) ?_
  refine vp_callSi (va_Run.run (va_runS (As := [.int a1]) (rest := []) F (mX4_has (l := l) (D := D) (cI := cI) (cJ := cJ) (cZ := cZ) h) (va_cwS 1 F.2.2.2.2 gX5_share_X4_has rfl rfl rfl kS_X4_has ⟨Nat.le_of_ble_eq_true rfl, Nat.le_of_ble_eq_true rfl⟩) ⟨rp_blind, rp_pre hz (hP.sub (ws' := []) [] rfl) [.int a1]⟩ rfl rfl hl.1 rfl (lv_room (Nat.le_of_ble_eq_true rfl)) dX5_share_1 ⟨Nat.le_of_ble_eq_true rfl, Nat.le_of_ble_eq_true rfl⟩)) (fun r_1 h => ?_)
  obtain ⟨hbr_1, h⟩ := h
  refine lv_if_eq (tgt := 16) F.1 F.2.1 dX5_share_4 (by decide) (fun hc => ?_) (fun hc => ?_)
  · have h := h.1 (hc)
    refine lv_ldc (v := (-1000000 : Int32)) F.1 F.2.1 F.2.2.2.1 (F.2.2.2.2 _ uX5_share_1) dX5_share_16 ?_
    exact hret _ _ _ h dX5_share_18
  · have h := h.2 hc
    refine lv_iload_n F.1 F.2.1 dX5_share_7 rfl (lv_at hl 2 rfl) ?_
    refine lv_iconst (v := (0 : Int32)) F.1 F.2.1 dX5_share_8 (by decide) ?_
    refine lv_iconst (v := (1 : Int32)) F.1 F.2.1 dX5_share_9 (by decide) ?_
    refine vp_callSi (va_Run.run (va_runS (As := [.int a2, .int (0 : Int32), .int (1 : Int32)]) (rest := []) F (mX5_isIn (l := l) (D := D) (cI := cI) (cJ := cJ) (cZ := cZ) h) (va_cwS 3 F.2.2.2.2 gX5_share_X5_isIn rfl rfl rfl kS_X5_isIn ⟨Nat.le_of_ble_eq_true rfl, Nat.le_of_ble_eq_true rfl⟩) ⟨rp_blind, rp_pre hz (hP.sub (ws' := []) [] rfl) [.int a2, .int (0 : Int32), .int (1 : Int32)]⟩ rfl rfl hl.1 rfl (lv_room (Nat.le_of_ble_eq_true rfl)) dX5_share_10 ⟨Nat.le_of_ble_eq_true rfl, Nat.le_of_ble_eq_true rfl⟩)) (fun r_2 h => ?_)
    obtain ⟨hbr_2, h⟩ := h
    refine lv_if_ne (tgt := 19) F.1 F.2.1 dX5_share_13 (by decide) (fun hc => ?_) (fun hc => ?_)
    · have h := h.2 hc
      refine lv_aload_n F.1 F.2.1 dX5_share_19 rfl (lv_at hl 0 rfl) ?_
      refine va_get (D := D) (ci := 3) (v := .ref (ad 9)) (C := RX5) (T := TX5) (N := 3) F.1 F.2.1 F.2.2.2.2 vX5_share_X5 F.2.2.2.1 hz.1 hP 0 rfl rfl 1 (by decide) (F.2.2.2.2 _ uX5_share_2) (fun _ h9 => h9) rfl dX5_share_20 ?_
      refine lv_iload_n F.1 F.2.1 dX5_share_23 rfl (lv_at hl 1 rfl) ?_
      refine vp_callSi (va_Run.run (va_runV (As := [.int a1]) (rest := []) F (mX4_overAllOrders (l := l) (D := D) (cI := cI) (cJ := cJ) (cZ := cZ) (ad := ad) h) (cwV 1 F.2.2.2.2 gX5_share_X4_overAllOrders rfl rfl rfl kV_X4_overAllOrders ⟨Nat.le_of_ble_eq_true rfl, Nat.le_of_ble_eq_true rfl⟩) ⟨rpt_blind, va_recv hz.1 hP (ci := 2) (q0 := 9) rfl rfl, rpt_pre hz (hP.sub (ws' := w4 ad cI S.2.1) [9, 10, 11] rfl) ht (.ref (ad 9) :: [.int a1])⟩ rfl rfl hl.1 rfl (lv_room (Nat.le_of_ble_eq_true rfl)) dX5_share_24 ⟨Nat.le_of_ble_eq_true rfl, Nat.le_of_ble_eq_true rfl⟩)) (fun r_3 h => ?_)
      refine lv_i2l F.1 F.2.1 dX5_share_27 rfl ?_
      refine lv_ldc2 (v := (120 : Int64)) F.1 F.2.1 F.2.2.2.1 (F.2.2.2.2 _ uX5_share_3) dX5_share_28 ?_
      refine lv_iload_n F.1 F.2.1 dX5_share_31 rfl (lv_at hl 2 rfl) ?_
      refine vp_callSl (va_Run.run (va_runS (As := [.long r_3.toInt64, .long (120 : Int64), .int a2]) (rest := []) F (mX0_tell (l := l) (D := D) (cI := cI) (cJ := cJ) (cZ := cZ) h) (va_cwS 3 F.2.2.2.2 gX5_share_X0_tell rfl rfl rfl kS_X0_tell ⟨Nat.le_of_ble_eq_true rfl, Nat.le_of_ble_eq_true rfl⟩) ⟨rp_blind, rp_pre hz (hP.sub (ws' := []) [] rfl) [.long r_3.toInt64, .long (120 : Int64), .int a2]⟩ rfl rfl hl.1 rfl (lv_room (Nat.le_of_ble_eq_true rfl)) dX5_share_32 ⟨Nat.le_of_ble_eq_true rfl, Nat.le_of_ble_eq_true rfl⟩)) (fun r_4 h => ?_)
      refine lv_l2i F.1 F.2.1 dX5_share_35 rfl ?_
      exact hret _ _ _ h dX5_share_36
    · have h := h.1 (hc)
      refine lv_ldc (v := (-1000000 : Int32)) F.1 F.2.1 F.2.2.2.1 (F.2.2.2.2 _ uX5_share_1) dX5_share_16 ?_
      exact hret _ _ _ h dX5_share_18
theorem mX5_share {l : Launch} {D : va_G} {cI cJ cZ : ClassId} {ad : Nat → Nat} {S : SX} {a1 : Int32} {a2 : Int32} {Q : Int32 → Prop} (h : wX5_share S a1 a2 Q) : Met l yX5_share wsX5_share rX5_share (va_Pc [.ref (ad 0), .int a1, .int a2] (rpt D cI cJ cZ (w5 ad cI cJ S))) (vp_Si Q) 0 0 (fun _ => False) :=
  enter_i (by decide +kernel) rfl (Nat.le_of_ble_eq_true rfl) (fun p e s m args below meth c QQ F hz hret => bX5_share F hz.1.1 hz.1.2 hz.2 hret h)
abbrev rX5_expect : Room := { frames := 1, cells := 0, slots := 0, locals := 22 }
theorem kV_X5_expect : yX5_expect.cls = RX5 ∧ yX5_expect.cls ≠ "java/lang/invoke/MethodHandle" ∧ yX5_expect.cls ≠ "java/lang/invoke/VarHandle" ∧ (parseMethodDescriptor yX5_expect.desc).map (fun d => d.parameters.length) = some 1 := by decide +kernel
theorem uX5_expect_2 : Cond.constant RX5 75 (-1000000) ∈ wsX5_expect := List.mem_of_getElem? (i := 2) rfl
theorem vX5_expect_X5 : ∀ w ∈ wsX50, w ∈ wsX5_expect := fun _ h => List.mem_cons_of_mem _ (List.mem_append_left _ (List.mem_append_right _ h))
theorem uX5_expect_1 : Cond.fieldLink RX5 28 "SumMoved" "stories" "LSumMoved$Stories;" ∈ wsX5_expect := List.mem_of_getElem? (i := 1) rfl
set_option maxRecDepth 100000 in
theorem bX5_expect {a1 : Int32} {S : SX} {Q : Int32 → SX → Prop} (F : CallFix p m c cX5_expect 2 s args wsX5_expect RX5) (hz : gz D cI cJ cZ s) (hD : ∀ u : SX, va_D A (w5 ad cI cJ u)) (hA : ∀ q : Nat, s.heap.size ≤ q → A q) (hret : ∀ (v : Int32) (u : SX) (H : Heap) (locs : List Loc) (pc : Nat) (ls : Array Slot), Q v u → va_P D vwCl (w5 ad cI cJ u) H → va_S A s.heap H locs → decode cX5_expect pc = .ok (.ireturn, 1) → W p l e rX5_expect s m args below meth c H locs 0 0 QQ (F0 m pc ls [.int v])) (hP : va_P D vwCl (w5 ad cI cJ S) s.heap) (h : wX5_expect S a1 Q) : ∀ ls : Array Slot, lv_has ls 2 [(0, .ref (ad 0)), (1, .int a1)] → W p l e rX5_expect s m args below meth c s.heap [] 0 0 QQ (F0 m 0 ls []) := by
  intro ls hl
  have hS : va_S A s.heap s.heap [] := va_S.rf
  refine lv_iload_n F.1 F.2.1 dX5_expect_0 rfl (lv_at hl 1 rfl) ?_
  refine lv_sipush (v := (-9999 : Int32)) F.1 F.2.1 dX5_expect_1 (by decide) ?_
  refine lv_sipush (v := (9999 : Int32)) F.1 F.2.1 dX5_expect_4 (by decide) ?_
  refine vp_callSi (va_Run.run (va_runS (As := [.int a1, .int (-9999 : Int32), .int (9999 : Int32)]) (rest := []) F (mX5_isIn (l := l) (D := D) (cI := cI) (cJ := cJ) (cZ := cZ) h) (va_cwS 3 F.2.2.2.2 gX5_expect_X5_isIn rfl rfl rfl kS_X5_isIn ⟨Nat.le_of_ble_eq_true rfl, Nat.le_of_ble_eq_true rfl⟩) ⟨rp_blind, rp_pre hz (hP.sub (ws' := []) [] rfl) [.int a1, .int (-9999 : Int32), .int (9999 : Int32)]⟩ rfl rfl hl.1 rfl (lv_room (Nat.le_of_ble_eq_true rfl)) dX5_expect_7 ⟨Nat.le_of_ble_eq_true rfl, Nat.le_of_ble_eq_true rfl⟩)) (fun r_1 h => ?_)
  obtain ⟨hbr_1, h⟩ := h
  refine lv_if_eq (tgt := 24) F.1 F.2.1 dX5_expect_10 (by decide) (fun hc => ?_) (fun hc => ?_)
  · have h := h.1 (hc)
    refine lv_ldc (v := (-1000000 : Int32)) F.1 F.2.1 F.2.2.2.1 (F.2.2.2.2 _ uX5_expect_2) dX5_expect_24 ?_
    exact hret _ _ _ _ _ _ h hP hS dX5_expect_26
  · have h := h.2 hc
    refine lv_aload_n F.1 F.2.1 dX5_expect_13 rfl (lv_at hl 0 rfl) ?_
    refine va_get (D := D) (ci := 3) (v := .ref (ad 12)) (C := RX5) (T := TX5) (N := 3) F.1 F.2.1 F.2.2.2.2 vX5_expect_X5 F.2.2.2.1 hz.1 hP 0 rfl rfl 2 (by decide) (F.2.2.2.2 _ uX5_expect_1) (fun _ h9 => h9) rfl dX5_expect_14 ?_
    refine lv_iload_n F.1 F.2.1 dX5_expect_17 rfl (lv_at hl 1 rfl) ?_
    refine call_wi (wf := w5 ad cI cJ) (va_runV (As := [.int a1]) (rest := []) F (mX3_setExpected (l := l) (D := D) (cI := cI) (cJ := cJ) (cZ := cZ) (ad := ad) _ h) (cwV 1 F.2.2.2.2 gX5_expect_X3_setExpected rfl rfl rfl kV_X3_setExpected ⟨Nat.le_of_ble_eq_true rfl, Nat.le_of_ble_eq_true rfl⟩) ⟨wp_blind, va_recv hz.1 hP (ci := 1) (q0 := 12) rfl rfl, wp_pre hz hP (hD _) (.ref (ad 12) :: [.int a1])⟩ rfl rfl hl.1 rfl (lv_room (Nat.le_of_ble_eq_true rfl)) dX5_expect_18 ⟨Nat.le_of_ble_eq_true rfl, Nat.le_of_ble_eq_true rfl⟩) hS (hD _) hA (fun r_2 S_3 H locs h hP hS => ?_)
    refine lv_goto (tgt := 26) F.1 F.2.1 dX5_expect_21 (by decide) ?_
    exact hret _ _ _ _ _ _ h hP hS dX5_expect_26
theorem mX5_expect {l : Launch} {D : va_G} {cI cJ cZ : ClassId} {ad : Nat → Nat} {S : SX} {a1 : Int32} {Q : Int32 → SX → Prop} (sz : Nat) (h : wX5_expect S a1 Q) : Met l yX5_expect wsX5_expect rX5_expect (va_Pc [.ref (ad 0), .int a1] (wp D cI cJ cZ sz (w5 ad cI cJ S))) (wQi D (w5 ad cI cJ) S sz Q) 0 0 (va_A (w5 ad cI cJ S) sz) :=
  enter_wi (wf := w5 ad cI cJ) (fun _ => rfl) (by decide +kernel) rfl (Nat.le_of_ble_eq_true rfl) (fun p e s m args below meth c QQ A F hz hD hA hP hret => bX5_expect F hz hD hA hret hP h)
abbrev rX5_seek : Room := { frames := 6, cells := 0, slots := 0, locals := 142 }
theorem kV_X5_seek : yX5_seek.cls = RX5 ∧ yX5_seek.cls ≠ "java/lang/invoke/MethodHandle" ∧ yX5_seek.cls ≠ "java/lang/invoke/VarHandle" ∧ (parseMethodDescriptor yX5_seek.desc).map (fun d => d.parameters.length) = some 2 := by decide +kernel
theorem vX5_seek_X5 : ∀ w ∈ wsX50, w ∈ wsX5_seek := fun _ h => List.mem_cons_of_mem _ (List.mem_append_left _ (List.mem_append_left _ (List.mem_append_right _ h)))
theorem uX5_seek_1 : Cond.fieldLink RX5 28 "SumMoved" "stories" "LSumMoved$Stories;" ∈ wsX5_seek := List.mem_of_getElem? (i := 1) rfl
set_option maxRecDepth 100000 in
theorem bX5_seek {a1 : Int32} {a2 : Int32} {S : SX} {Q : Int32 → SX → Prop} (F : CallFix p m c cX5_seek 3 s args wsX5_seek RX5) (hz : gz D cI cJ cZ s) (hD : ∀ u : SX, va_D A (w5 ad cI cJ u)) (hA : ∀ q : Nat, s.heap.size ≤ q → A q) (hret : ∀ (v : Int32) (u : SX) (H : Heap) (locs : List Loc) (pc : Nat) (ls : Array Slot), Q v u → va_P D vwCl (w5 ad cI cJ u) H → va_S A s.heap H locs → decode cX5_seek pc = .ok (.ireturn, 1) → W p l e rX5_seek s m args below meth c H locs 0 0 QQ (F0 m pc ls [.int v])) (hP : va_P D vwCl (w5 ad cI cJ S) s.heap) (h : wX5_seek S a1 a2 Q) : ∀ ls : Array Slot, lv_has ls 3 [(0, .ref (ad 0)), (1, .int a1), (2, .int a2)] → W p l e rX5_seek s m args below meth c s.heap [] 0 0 QQ (F0 m 0 ls []) := by
  intro ls hl
  have hS : va_S A s.heap s.heap [] := va_S.rf
  refine lv_iload_n F.1 F.2.1 dX5_seek_0 rfl (lv_at hl 1 rfl) ?_
  refine vp_callSi (va_Run.run (va_runS (As := [.int a1]) (rest := []) F (mX5_isCost (l := l) (D := D) (cI := cI) (cJ := cJ) (cZ := cZ) h) (va_cwS 1 F.2.2.2.2 gX5_seek_X5_isCost rfl rfl rfl kS_X5_isCost ⟨Nat.le_of_ble_eq_true rfl, Nat.le_of_ble_eq_true rfl⟩) ⟨rp_blind, rp_pre hz (hP.sub (ws' := []) [] rfl) [.int a1]⟩ rfl rfl hl.1 rfl (lv_room (Nat.le_of_ble_eq_true rfl)) dX5_seek_1 ⟨Nat.le_of_ble_eq_true rfl, Nat.le_of_ble_eq_true rfl⟩)) (fun r_1 h => ?_)
  obtain ⟨hbr_1, h⟩ := h
  refine lv_if_eq (tgt := 28) F.1 F.2.1 dX5_seek_4 (by decide) (fun hc => ?_) (fun hc => ?_)
  · have h := h.1 (hc)
    refine lv_iconst (v := (-1 : Int32)) F.1 F.2.1 dX5_seek_28 (by decide) ?_
    exact hret _ _ _ _ _ _ h hP hS dX5_seek_29
  · have h := h.2 hc
    refine lv_iload_n F.1 F.2.1 dX5_seek_7 rfl (lv_at hl 2 rfl) ?_
    refine lv_iconst (v := (0 : Int32)) F.1 F.2.1 dX5_seek_8 (by decide) ?_
    refine lv_iconst (v := (2 : Int32)) F.1 F.2.1 dX5_seek_9 (by decide) ?_
    refine vp_callSi (va_Run.run (va_runS (As := [.int a2, .int (0 : Int32), .int (2 : Int32)]) (rest := []) F (mX5_isIn (l := l) (D := D) (cI := cI) (cJ := cJ) (cZ := cZ) h) (va_cwS 3 F.2.2.2.2 gX5_seek_X5_isIn rfl rfl rfl kS_X5_isIn ⟨Nat.le_of_ble_eq_true rfl, Nat.le_of_ble_eq_true rfl⟩) ⟨rp_blind, rp_pre hz (hP.sub (ws' := []) [] rfl) [.int a2, .int (0 : Int32), .int (2 : Int32)]⟩ rfl rfl hl.1 rfl (lv_room (Nat.le_of_ble_eq_true rfl)) dX5_seek_10 ⟨Nat.le_of_ble_eq_true rfl, Nat.le_of_ble_eq_true rfl⟩)) (fun r_2 h => ?_)
    obtain ⟨hbr_2, h⟩ := h
    refine lv_if_eq (tgt := 28) F.1 F.2.1 dX5_seek_13 (by decide) (fun hc => ?_) (fun hc => ?_)
    · have h := h.1 (hc)
      refine lv_iconst (v := (-1 : Int32)) F.1 F.2.1 dX5_seek_28 (by decide) ?_
      exact hret _ _ _ _ _ _ h hP hS dX5_seek_29
    · have h := h.2 hc
      refine lv_aload_n F.1 F.2.1 dX5_seek_16 rfl (lv_at hl 0 rfl) ?_
      refine va_get (D := D) (ci := 3) (v := .ref (ad 12)) (C := RX5) (T := TX5) (N := 3) F.1 F.2.1 F.2.2.2.2 vX5_seek_X5 F.2.2.2.1 hz.1 hP 0 rfl rfl 2 (by decide) (F.2.2.2.2 _ uX5_seek_1) (fun _ h9 => h9) rfl dX5_seek_17 ?_
      refine lv_iload_n F.1 F.2.1 dX5_seek_20 rfl (lv_at hl 1 rfl) ?_
      refine lv_iload_n F.1 F.2.1 dX5_seek_21 rfl (lv_at hl 2 rfl) ?_
      refine call_wi (wf := w5 ad cI cJ) (va_runV (As := [.int a1, .int a2]) (rest := []) F (mX3_findBest (l := l) (D := D) (cI := cI) (cJ := cJ) (cZ := cZ) (ad := ad) _ h) (cwV 2 F.2.2.2.2 gX5_seek_X3_findBest rfl rfl rfl kV_X3_findBest ⟨Nat.le_of_ble_eq_true rfl, Nat.le_of_ble_eq_true rfl⟩) ⟨wp_blind, va_recv hz.1 hP (ci := 1) (q0 := 12) rfl rfl, wp_pre hz hP (hD _) (.ref (ad 12) :: [.int a1, .int a2])⟩ rfl rfl hl.1 rfl (lv_room (Nat.le_of_ble_eq_true rfl)) dX5_seek_22 ⟨Nat.le_of_ble_eq_true rfl, Nat.le_of_ble_eq_true rfl⟩) hS (hD _) hA (fun r_3 S_4 H locs h hP hS => ?_)
      refine lv_goto (tgt := 29) F.1 F.2.1 dX5_seek_25 (by decide) ?_
      exact hret _ _ _ _ _ _ h hP hS dX5_seek_29
theorem mX5_seek {l : Launch} {D : va_G} {cI cJ cZ : ClassId} {ad : Nat → Nat} {S : SX} {a1 : Int32} {a2 : Int32} {Q : Int32 → SX → Prop} (sz : Nat) (h : wX5_seek S a1 a2 Q) : Met l yX5_seek wsX5_seek rX5_seek (va_Pc [.ref (ad 0), .int a1, .int a2] (wp D cI cJ cZ sz (w5 ad cI cJ S))) (wQi D (w5 ad cI cJ) S sz Q) 0 0 (va_A (w5 ad cI cJ S) sz) :=
  enter_wi (wf := w5 ad cI cJ) (fun _ => rfl) (by decide +kernel) rfl (Nat.le_of_ble_eq_true rfl) (fun p e s m args below meth c QQ A F hz hD hA hP hret => bX5_seek F hz hD hA hret hP h)
abbrev rX5_story : Room := { frames := 1, cells := 0, slots := 0, locals := 21 }
theorem kV_X5_story : yX5_story.cls = RX5 ∧ yX5_story.cls ≠ "java/lang/invoke/MethodHandle" ∧ yX5_story.cls ≠ "java/lang/invoke/VarHandle" ∧ (parseMethodDescriptor yX5_story.desc).map (fun d => d.parameters.length) = some 1 := by decide +kernel
theorem vX5_story_X5 : ∀ w ∈ wsX50, w ∈ wsX5_story := fun _ h => List.mem_cons_of_mem _ (List.mem_append_left _ (List.mem_append_right _ h))
theorem uX5_story_1 : Cond.fieldLink RX5 28 "SumMoved" "stories" "LSumMoved$Stories;" ∈ wsX5_story := List.mem_of_getElem? (i := 1) rfl
set_option maxRecDepth 100000 in
theorem bX5_story {a1 : Int32} {S : SX} {Q : Int32 → Prop} (F : CallFix p m c cX5_story 2 s args wsX5_story RX5) (hz : gz D cI cJ cZ s) (hP : va_P D vwCl (w5 ad cI cJ S) s.heap) (hret : ∀ (v : Int32) (pc : Nat) (ls : Array Slot), Q v → decode cX5_story pc = .ok (.ireturn, 1) → W p l e rX5_story s m args below meth c s.heap [] 0 0 QQ (F0 m pc ls [.int v])) (h : wX5_story S a1 Q) : ∀ ls : Array Slot, lv_has ls 2 [(0, .ref (ad 0)), (1, .int a1)] → W p l e rX5_story s m args below meth c s.heap [] 0 0 QQ (F0 m 0 ls []) := by
  intro ls hl
  refine lv_aload_n F.1 F.2.1 dX5_story_0 rfl (lv_at hl 0 rfl) ?_
  refine va_get (D := D) (ci := 3) (v := .ref (ad 12)) (C := RX5) (T := TX5) (N := 3) F.1 F.2.1 F.2.2.2.2 vX5_story_X5 F.2.2.2.1 hz.1 hP 0 rfl rfl 2 (by decide) (F.2.2.2.2 _ uX5_story_1) (fun _ h9 => h9) rfl dX5_story_1 ?_
  refine lv_iload_n F.1 F.2.1 dX5_story_4 rfl (lv_at hl 1 rfl) ?_
  refine vp_callSi (va_Run.run (va_runV (As := [.int a1]) (rest := []) F (mX3_ofBest (l := l) (D := D) (cI := cI) (cJ := cJ) (cZ := cZ) (ad := ad) h) (cwV 1 F.2.2.2.2 gX5_story_X3_ofBest rfl rfl rfl kV_X3_ofBest ⟨Nat.le_of_ble_eq_true rfl, Nat.le_of_ble_eq_true rfl⟩) ⟨rp_blind, va_recv hz.1 hP (ci := 1) (q0 := 12) rfl rfl, rp_pre hz hP (.ref (ad 12) :: [.int a1])⟩ rfl rfl hl.1 rfl (lv_room (Nat.le_of_ble_eq_true rfl)) dX5_story_5 ⟨Nat.le_of_ble_eq_true rfl, Nat.le_of_ble_eq_true rfl⟩)) (fun r_1 h => ?_)
  exact hret _ _ _ h dX5_story_8
theorem mX5_story {l : Launch} {D : va_G} {cI cJ cZ : ClassId} {ad : Nat → Nat} {S : SX} {a1 : Int32} {Q : Int32 → Prop} (h : wX5_story S a1 Q) : Met l yX5_story wsX5_story rX5_story (va_Pc [.ref (ad 0), .int a1] (rp D cI cJ cZ (w5 ad cI cJ S))) (vp_Si Q) 0 0 (fun _ => False) :=
  enter_i (by decide +kernel) rfl (Nat.le_of_ble_eq_true rfl) (fun p e s m args below meth c QQ F hz hret => bX5_story F hz.1 hz.2 hret h)
abbrev rX5_toll : Room := { frames := 6, cells := 0, slots := 0, locals := 136 }
theorem kV_X5_toll : yX5_toll.cls = RX5 ∧ yX5_toll.cls ≠ "java/lang/invoke/MethodHandle" ∧ yX5_toll.cls ≠ "java/lang/invoke/VarHandle" ∧ (parseMethodDescriptor yX5_toll.desc).map (fun d => d.parameters.length) = some 3 := by decide +kernel
theorem vX5_toll_X5 : ∀ w ∈ wsX50, w ∈ wsX5_toll := fun _ h => List.mem_cons_of_mem _ (List.mem_append_left _ (List.mem_append_left _ (List.mem_append_right _ h)))
theorem uX5_toll_1 : Cond.fieldLink RX5 28 "SumMoved" "stories" "LSumMoved$Stories;" ∈ wsX5_toll := List.mem_of_getElem? (i := 1) rfl
theorem uX5_toll_2 : Cond.fieldLink RX5 10 "SumMoved" "rows" "LSumMoved$Rows;" ∈ wsX5_toll := List.mem_of_getElem? (i := 2) rfl
set_option maxRecDepth 100000 in
theorem bX5_toll {a1 : Int32} {a2 : Int32} {a3 : Int32} {S : SX} {Q : Int32 → Prop} (F : CallFix p m c cX5_toll 5 s args wsX5_toll RX5) (hz : gz D cI cJ cZ s) (hP : va_P D vwCl (w5 ad cI cJ S) s.heap) (hret : ∀ (v : Int32) (pc : Nat) (ls : Array Slot), Q v → decode cX5_toll pc = .ok (.ireturn, 1) → W p l e rX5_toll s m args below meth c s.heap [] 0 0 QQ (F0 m pc ls [.int v])) (h : wX5_toll S a1 a2 a3 Q) : ∀ ls : Array Slot, lv_has ls 5 [(0, .ref (ad 0)), (1, .int a1), (2, .int a2), (3, .int a3)] → W p l e rX5_toll s m args below meth c s.heap [] 0 0 QQ (F0 m 0 ls []) := by
  intro ls hl
  refine lv_iload_n F.1 F.2.1 dX5_toll_0 rfl (lv_at hl 2 rfl) ?_
  refine lv_iconst (v := (-1 : Int32)) F.1 F.2.1 dX5_toll_1 (by decide) ?_
  refine lv_icmp_ne (tgt := 9) F.1 F.2.1 dX5_toll_2 (by decide) (fun hc => ?_) (fun hc => ?_)
  · have h := h.2 hc
    refine lv_iconst (v := (0 : Int32)) F.1 F.2.1 dX5_toll_9 (by decide) ?_
    refine lv_istore (lv' := [(4, .int (0 : Int32)), (0, .ref (ad 0)), (1, .int a1), (2, .int a2), (3, .int a3)]) F.1 F.2.1 dX5_toll_10 hl (by decide) rfl (fun ls hl => ?_)
    refine lv_iload_n F.1 F.2.1 dX5_toll_12 rfl (lv_at hl 4 rfl) ?_
    refine vp_callSi (va_Run.run (va_runS (As := [.int a3]) (rest := []) F (mX5_isCost (l := l) (D := D) (cI := cI) (cJ := cJ) (cZ := cZ) h) (va_cwS 1 F.2.2.2.2 gX5_toll_X5_isCost rfl rfl rfl kS_X5_isCost ⟨Nat.le_of_ble_eq_true rfl, Nat.le_of_ble_eq_true rfl⟩) ⟨rp_blind, rp_pre hz (hP.sub (ws' := []) [] rfl) [.int a3]⟩ rfl rfl hl.1 rfl (lv_room (Nat.le_of_ble_eq_true rfl)) dX5_toll_13 ⟨Nat.le_of_ble_eq_true rfl, Nat.le_of_ble_eq_true rfl⟩)) (fun r_1 h => ?_)
    obtain ⟨hbr_1, h⟩ := h
    refine lv_if_eq (tgt := 46) F.1 F.2.1 dX5_toll_16 (by decide) (fun hc => ?_) (fun hc => ?_)
    · have h := h.1 (hc)
      refine lv_iconst (v := (-1 : Int32)) F.1 F.2.1 dX5_toll_46 (by decide) ?_
      exact hret _ _ _ h dX5_toll_47
    · have h := h.2 hc
      refine lv_aload_n F.1 F.2.1 dX5_toll_19 rfl (lv_at hl 1 rfl) ?_
      refine va_get (D := D) (ci := 3) (v := .ref (ad 12)) (C := RX5) (T := TX5) (N := 3) F.1 F.2.1 F.2.2.2.2 vX5_toll_X5 F.2.2.2.1 hz.1 hP 0 rfl rfl 2 (by decide) (F.2.2.2.2 _ uX5_toll_1) (fun _ h9 => h9) rfl dX5_toll_20 ?_
      refine lv_iload_n F.1 F.2.1 dX5_toll_23 rfl (lv_at hl 2 rfl) ?_
      refine vp_callSi (va_Run.run (va_runV (As := [.int a1]) (rest := []) F (mX3_mayTell (l := l) (D := D) (cI := cI) (cJ := cJ) (cZ := cZ) (ad := ad) h) (cwV 1 F.2.2.2.2 gX5_toll_X3_mayTell rfl rfl rfl kV_X3_mayTell ⟨Nat.le_of_ble_eq_true rfl, Nat.le_of_ble_eq_true rfl⟩) ⟨rp_blind, va_recv hz.1 hP (ci := 1) (q0 := 12) rfl rfl, rp_pre hz hP (.ref (ad 12) :: [.int a1])⟩ rfl rfl hl.1 rfl (lv_room (Nat.le_of_ble_eq_true rfl)) dX5_toll_24 ⟨Nat.le_of_ble_eq_true rfl, Nat.le_of_ble_eq_true rfl⟩)) (fun r_2 h => ?_)
      obtain ⟨hbr_2, h⟩ := h
      refine lv_if_eq (tgt := 46) F.1 F.2.1 dX5_toll_27 (by decide) (fun hc => ?_) (fun hc => ?_)
      · have h := h.1 (hc)
        refine lv_iconst (v := (-1 : Int32)) F.1 F.2.1 dX5_toll_46 (by decide) ?_
        exact hret _ _ _ h dX5_toll_47
      · have h := h.2 hc
        refine lv_iload F.1 F.2.1 dX5_toll_30 (lv_at hl 0 rfl) ?_
        refine lv_if_ne (tgt := 48) F.1 F.2.1 dX5_toll_32 (by decide) (fun hc => ?_) (fun hc => ?_)
        · exact absurd hc (by decide)
        · refine lv_aload_n F.1 F.2.1 dX5_toll_35 rfl (lv_at hl 1 rfl) ?_
          refine va_get (D := D) (ci := 3) (v := .ref (ad 12)) (C := RX5) (T := TX5) (N := 3) F.1 F.2.1 F.2.2.2.2 vX5_toll_X5 F.2.2.2.1 hz.1 hP 0 rfl rfl 2 (by decide) (F.2.2.2.2 _ uX5_toll_1) (fun _ h9 => h9) rfl dX5_toll_36 ?_
          refine lv_iload_n F.1 F.2.1 dX5_toll_39 rfl (lv_at hl 3 rfl) ?_
          refine vp_callSi (va_Run.run (va_runV (As := [.int a2]) (rest := []) F (mX3_mayTell (l := l) (D := D) (cI := cI) (cJ := cJ) (cZ := cZ) (ad := ad) h) (cwV 1 F.2.2.2.2 gX5_toll_X3_mayTell rfl rfl rfl kV_X3_mayTell ⟨Nat.le_of_ble_eq_true rfl, Nat.le_of_ble_eq_true rfl⟩) ⟨rp_blind, va_recv hz.1 hP (ci := 1) (q0 := 12) rfl rfl, rp_pre hz hP (.ref (ad 12) :: [.int a2])⟩ rfl rfl hl.1 rfl (lv_room (Nat.le_of_ble_eq_true rfl)) dX5_toll_40 ⟨Nat.le_of_ble_eq_true rfl, Nat.le_of_ble_eq_true rfl⟩)) (fun r_3 h => ?_)
          obtain ⟨hbr_3, h⟩ := h
          refine lv_if_ne (tgt := 48) F.1 F.2.1 dX5_toll_43 (by decide) (fun hc => ?_) (fun hc => ?_)
          · have h := h.2 hc
            refine lv_iload F.1 F.2.1 dX5_toll_48 (lv_at hl 0 rfl) ?_
            refine lv_if_eq (tgt := 76) F.1 F.2.1 dX5_toll_50 (by decide) (fun hc => ?_) (fun hc => ?_)
            · refine lv_aload_n F.1 F.2.1 dX5_toll_76 rfl (lv_at hl 1 rfl) ?_
              refine va_get (D := D) (ci := 3) (v := .ref (ad 1)) (C := RX5) (T := TX5) (N := 3) F.1 F.2.1 F.2.2.2.2 vX5_toll_X5 F.2.2.2.1 hz.1 hP 0 rfl rfl 0 (by decide) (F.2.2.2.2 _ uX5_toll_2) (fun _ h9 => h9) rfl dX5_toll_77 ?_
              refine lv_iload_n F.1 F.2.1 dX5_toll_80 rfl (lv_at hl 2 rfl) ?_
              refine lv_iload_n F.1 F.2.1 dX5_toll_81 rfl (lv_at hl 3 rfl) ?_
              refine vp_callSi (va_Run.run (va_runV (As := [.int a1, .int a2]) (rest := []) F (mX2_meet (l := l) (D := D) (cI := cI) (cJ := cJ) (cZ := cZ) (ad := ad) h) (cwV 2 F.2.2.2.2 gX5_toll_X2_meet rfl rfl rfl kV_X2_meet ⟨Nat.le_of_ble_eq_true rfl, Nat.le_of_ble_eq_true rfl⟩) ⟨rp_blind, va_recv hz.1 hP (ci := 0) (q0 := 1) rfl rfl, rp_pre hz (hP.sub (ws' := w2 ad cI S.1) [1, 2, 3, 4, 5, 6, 7, 8] rfl) (.ref (ad 1) :: [.int a1, .int a2])⟩ rfl rfl hl.1 rfl (lv_room (Nat.le_of_ble_eq_true rfl)) dX5_toll_82 ⟨Nat.le_of_ble_eq_true rfl, Nat.le_of_ble_eq_true rfl⟩)) (fun r_4 h => ?_)
              obtain ⟨hbr_4, h⟩ := h
              refine lv_if_eq (tgt := 91) F.1 F.2.1 dX5_toll_85 (by decide) (fun hc => ?_) (fun hc => ?_)
              · have h := h.1 (hc)
                refine lv_aload_n F.1 F.2.1 dX5_toll_91 rfl (lv_at hl 1 rfl) ?_
                refine va_get (D := D) (ci := 3) (v := .ref (ad 12)) (C := RX5) (T := TX5) (N := 3) F.1 F.2.1 F.2.2.2.2 vX5_toll_X5 F.2.2.2.1 hz.1 hP 0 rfl rfl 2 (by decide) (F.2.2.2.2 _ uX5_toll_1) (fun _ h9 => h9) rfl dX5_toll_92 ?_
                refine lv_aload_n F.1 F.2.1 dX5_toll_95 rfl (lv_at hl 1 rfl) ?_
                refine va_get (D := D) (ci := 3) (v := .ref (ad 1)) (C := RX5) (T := TX5) (N := 3) F.1 F.2.1 F.2.2.2.2 vX5_toll_X5 F.2.2.2.1 hz.1 hP 0 rfl rfl 0 (by decide) (F.2.2.2.2 _ uX5_toll_2) (fun _ h9 => h9) rfl dX5_toll_96 ?_
                refine lv_iload_n F.1 F.2.1 dX5_toll_99 rfl (lv_at hl 2 rfl) ?_
                refine lv_iconst (v := (0 : Int32)) F.1 F.2.1 dX5_toll_100 (by decide) ?_
                refine vp_callSi (va_Run.run (va_runV (As := [.int a1, .int (0 : Int32)]) (rest := [.ref (ad 12)]) F (mX2_moved (l := l) (D := D) (cI := cI) (cJ := cJ) (cZ := cZ) (ad := ad) h) (cwV 2 F.2.2.2.2 gX5_toll_X2_moved rfl rfl rfl kV_X2_moved ⟨Nat.le_of_ble_eq_true rfl, Nat.le_of_ble_eq_true rfl⟩) ⟨rp_blind, va_recv hz.1 hP (ci := 0) (q0 := 1) rfl rfl, rp_pre hz (hP.sub (ws' := w2 ad cI S.1) [1, 2, 3, 4, 5, 6, 7, 8] rfl) (.ref (ad 1) :: [.int a1, .int (0 : Int32)])⟩ rfl rfl hl.1 rfl (lv_room (Nat.le_of_ble_eq_true rfl)) dX5_toll_101 ⟨Nat.le_of_ble_eq_true rfl, Nat.le_of_ble_eq_true rfl⟩)) (fun r_5 h => ?_)
                refine lv_aload_n F.1 F.2.1 dX5_toll_104 rfl (lv_at hl 1 rfl) ?_
                refine va_get (D := D) (ci := 3) (v := .ref (ad 1)) (C := RX5) (T := TX5) (N := 3) F.1 F.2.1 F.2.2.2.2 vX5_toll_X5 F.2.2.2.1 hz.1 hP 0 rfl rfl 0 (by decide) (F.2.2.2.2 _ uX5_toll_2) (fun _ h9 => h9) rfl dX5_toll_105 ?_
                refine lv_iload_n F.1 F.2.1 dX5_toll_108 rfl (lv_at hl 3 rfl) ?_
                refine lv_iconst (v := (0 : Int32)) F.1 F.2.1 dX5_toll_109 (by decide) ?_
                refine vp_callSi (va_Run.run (va_runV (As := [.int a2, .int (0 : Int32)]) (rest := [.int r_5, .ref (ad 12)]) F (mX2_moved (l := l) (D := D) (cI := cI) (cJ := cJ) (cZ := cZ) (ad := ad) h) (cwV 2 F.2.2.2.2 gX5_toll_X2_moved rfl rfl rfl kV_X2_moved ⟨Nat.le_of_ble_eq_true rfl, Nat.le_of_ble_eq_true rfl⟩) ⟨rp_blind, va_recv hz.1 hP (ci := 0) (q0 := 1) rfl rfl, rp_pre hz (hP.sub (ws' := w2 ad cI S.1) [1, 2, 3, 4, 5, 6, 7, 8] rfl) (.ref (ad 1) :: [.int a2, .int (0 : Int32)])⟩ rfl rfl hl.1 rfl (lv_room (Nat.le_of_ble_eq_true rfl)) dX5_toll_110 ⟨Nat.le_of_ble_eq_true rfl, Nat.le_of_ble_eq_true rfl⟩)) (fun r_6 h => ?_)
                refine lv_iadd F.1 F.2.1 dX5_toll_113 ?_
                refine lv_iload_n F.1 F.2.1 dX5_toll_114 rfl (lv_at hl 4 rfl) ?_
                refine lv_iload_n F.1 F.2.1 dX5_toll_115 rfl (lv_at hl 2 rfl) ?_
                refine vp_callSi (va_Run.run (va_runS (As := [.int a1]) (rest := [.int a3, .int (r_5 + r_6), .ref (ad 12)]) F (mX1_tests (l := l) (D := D) (cI := cI) (cJ := cJ) (cZ := cZ) h) (va_cwS 1 F.2.2.2.2 gX5_toll_X1_tests rfl rfl rfl kS_X1_tests ⟨Nat.le_of_ble_eq_true rfl, Nat.le_of_ble_eq_true rfl⟩) ⟨rp_blind, rp_pre hz (hP.sub (ws' := []) [] rfl) [.int a1]⟩ rfl rfl hl.1 rfl (lv_room (Nat.le_of_ble_eq_true rfl)) dX5_toll_116 ⟨Nat.le_of_ble_eq_true rfl, Nat.le_of_ble_eq_true rfl⟩)) (fun r_7 h => ?_)
                refine lv_iload_n F.1 F.2.1 dX5_toll_119 rfl (lv_at hl 3 rfl) ?_
                refine vp_callSi (va_Run.run (va_runS (As := [.int a2]) (rest := [.int r_7, .int a3, .int (r_5 + r_6), .ref (ad 12)]) F (mX1_tests (l := l) (D := D) (cI := cI) (cJ := cJ) (cZ := cZ) h) (va_cwS 1 F.2.2.2.2 gX5_toll_X1_tests rfl rfl rfl kS_X1_tests ⟨Nat.le_of_ble_eq_true rfl, Nat.le_of_ble_eq_true rfl⟩) ⟨rp_blind, rp_pre hz (hP.sub (ws' := []) [] rfl) [.int a2]⟩ rfl rfl hl.1 rfl (lv_room (Nat.le_of_ble_eq_true rfl)) dX5_toll_120 ⟨Nat.le_of_ble_eq_true rfl, Nat.le_of_ble_eq_true rfl⟩)) (fun r_8 h => ?_)
                refine lv_iadd F.1 F.2.1 dX5_toll_123 ?_
                refine lv_imul F.1 F.2.1 dX5_toll_124 ?_
                refine vp_callSi (va_Run.run (va_runV (As := [.int (r_5 + r_6), .int (a3 * (r_7 + r_8))]) (rest := []) F (mX3_tollOf (l := l) (D := D) (cI := cI) (cJ := cJ) (cZ := cZ) (ad := ad) h) (cwV 2 F.2.2.2.2 gX5_toll_X3_tollOf rfl rfl rfl kV_X3_tollOf ⟨Nat.le_of_ble_eq_true rfl, Nat.le_of_ble_eq_true rfl⟩) ⟨rp_blind, va_recv hz.1 hP (ci := 1) (q0 := 12) rfl rfl, rp_pre hz hP (.ref (ad 12) :: [.int (r_5 + r_6), .int (a3 * (r_7 + r_8))])⟩ rfl rfl hl.1 rfl (lv_room (Nat.le_of_ble_eq_true rfl)) dX5_toll_125 ⟨Nat.le_of_ble_eq_true rfl, Nat.le_of_ble_eq_true rfl⟩)) (fun r_9 h => ?_)
                exact hret _ _ _ h dX5_toll_128
              · have h := h.2 hc
                refine lv_bipush (v := (-3 : Int32)) F.1 F.2.1 dX5_toll_88 (by decide) ?_
                exact hret _ _ _ h dX5_toll_90
            · exact absurd hc (by decide)
          · have h := h.1 (hc)
            refine lv_iconst (v := (-1 : Int32)) F.1 F.2.1 dX5_toll_46 (by decide) ?_
            exact hret _ _ _ h dX5_toll_47
  · have h := h.1 (hc)
    refine lv_iconst (v := (1 : Int32)) F.1 F.2.1 dX5_toll_5 (by decide) ?_
    refine lv_goto (tgt := 10) F.1 F.2.1 dX5_toll_6 (by decide) ?_
    refine lv_istore (lv' := [(4, .int (1 : Int32)), (0, .ref (ad 0)), (1, .int a1), (2, .int a2), (3, .int a3)]) F.1 F.2.1 dX5_toll_10 hl (by decide) rfl (fun ls hl => ?_)
    refine lv_iload_n F.1 F.2.1 dX5_toll_12 rfl (lv_at hl 4 rfl) ?_
    refine vp_callSi (va_Run.run (va_runS (As := [.int a3]) (rest := []) F (mX5_isCost (l := l) (D := D) (cI := cI) (cJ := cJ) (cZ := cZ) h) (va_cwS 1 F.2.2.2.2 gX5_toll_X5_isCost rfl rfl rfl kS_X5_isCost ⟨Nat.le_of_ble_eq_true rfl, Nat.le_of_ble_eq_true rfl⟩) ⟨rp_blind, rp_pre hz (hP.sub (ws' := []) [] rfl) [.int a3]⟩ rfl rfl hl.1 rfl (lv_room (Nat.le_of_ble_eq_true rfl)) dX5_toll_13 ⟨Nat.le_of_ble_eq_true rfl, Nat.le_of_ble_eq_true rfl⟩)) (fun r_10 h => ?_)
    obtain ⟨hbr_10, h⟩ := h
    refine lv_if_eq (tgt := 46) F.1 F.2.1 dX5_toll_16 (by decide) (fun hc => ?_) (fun hc => ?_)
    · have h := h.1 (hc)
      refine lv_iconst (v := (-1 : Int32)) F.1 F.2.1 dX5_toll_46 (by decide) ?_
      exact hret _ _ _ h dX5_toll_47
    · have h := h.2 hc
      refine lv_aload_n F.1 F.2.1 dX5_toll_19 rfl (lv_at hl 1 rfl) ?_
      refine va_get (D := D) (ci := 3) (v := .ref (ad 12)) (C := RX5) (T := TX5) (N := 3) F.1 F.2.1 F.2.2.2.2 vX5_toll_X5 F.2.2.2.1 hz.1 hP 0 rfl rfl 2 (by decide) (F.2.2.2.2 _ uX5_toll_1) (fun _ h9 => h9) rfl dX5_toll_20 ?_
      refine lv_iload_n F.1 F.2.1 dX5_toll_23 rfl (lv_at hl 2 rfl) ?_
      refine vp_callSi (va_Run.run (va_runV (As := [.int a1]) (rest := []) F (mX3_mayTell (l := l) (D := D) (cI := cI) (cJ := cJ) (cZ := cZ) (ad := ad) h) (cwV 1 F.2.2.2.2 gX5_toll_X3_mayTell rfl rfl rfl kV_X3_mayTell ⟨Nat.le_of_ble_eq_true rfl, Nat.le_of_ble_eq_true rfl⟩) ⟨rp_blind, va_recv hz.1 hP (ci := 1) (q0 := 12) rfl rfl, rp_pre hz hP (.ref (ad 12) :: [.int a1])⟩ rfl rfl hl.1 rfl (lv_room (Nat.le_of_ble_eq_true rfl)) dX5_toll_24 ⟨Nat.le_of_ble_eq_true rfl, Nat.le_of_ble_eq_true rfl⟩)) (fun r_11 h => ?_)
      obtain ⟨hbr_11, h⟩ := h
      refine lv_if_eq (tgt := 46) F.1 F.2.1 dX5_toll_27 (by decide) (fun hc => ?_) (fun hc => ?_)
      · have h := h.1 (hc)
        refine lv_iconst (v := (-1 : Int32)) F.1 F.2.1 dX5_toll_46 (by decide) ?_
        exact hret _ _ _ h dX5_toll_47
      · have h := h.2 hc
        refine lv_iload F.1 F.2.1 dX5_toll_30 (lv_at hl 0 rfl) ?_
        refine lv_if_ne (tgt := 48) F.1 F.2.1 dX5_toll_32 (by decide) (fun hc => ?_) (fun hc => ?_)
        · refine lv_iload F.1 F.2.1 dX5_toll_48 (lv_at hl 0 rfl) ?_
          refine lv_if_eq (tgt := 76) F.1 F.2.1 dX5_toll_50 (by decide) (fun hc => ?_) (fun hc => ?_)
          · exact absurd hc (by decide)
          · refine lv_aload_n F.1 F.2.1 dX5_toll_53 rfl (lv_at hl 1 rfl) ?_
            refine va_get (D := D) (ci := 3) (v := .ref (ad 12)) (C := RX5) (T := TX5) (N := 3) F.1 F.2.1 F.2.2.2.2 vX5_toll_X5 F.2.2.2.1 hz.1 hP 0 rfl rfl 2 (by decide) (F.2.2.2.2 _ uX5_toll_1) (fun _ h9 => h9) rfl dX5_toll_54 ?_
            refine lv_aload_n F.1 F.2.1 dX5_toll_57 rfl (lv_at hl 1 rfl) ?_
            refine va_get (D := D) (ci := 3) (v := .ref (ad 1)) (C := RX5) (T := TX5) (N := 3) F.1 F.2.1 F.2.2.2.2 vX5_toll_X5 F.2.2.2.1 hz.1 hP 0 rfl rfl 0 (by decide) (F.2.2.2.2 _ uX5_toll_2) (fun _ h9 => h9) rfl dX5_toll_58 ?_
            refine lv_iload_n F.1 F.2.1 dX5_toll_61 rfl (lv_at hl 2 rfl) ?_
            refine lv_iconst (v := (0 : Int32)) F.1 F.2.1 dX5_toll_62 (by decide) ?_
            refine vp_callSi (va_Run.run (va_runV (As := [.int a1, .int (0 : Int32)]) (rest := [.ref (ad 12)]) F (mX2_moved (l := l) (D := D) (cI := cI) (cJ := cJ) (cZ := cZ) (ad := ad) h) (cwV 2 F.2.2.2.2 gX5_toll_X2_moved rfl rfl rfl kV_X2_moved ⟨Nat.le_of_ble_eq_true rfl, Nat.le_of_ble_eq_true rfl⟩) ⟨rp_blind, va_recv hz.1 hP (ci := 0) (q0 := 1) rfl rfl, rp_pre hz (hP.sub (ws' := w2 ad cI S.1) [1, 2, 3, 4, 5, 6, 7, 8] rfl) (.ref (ad 1) :: [.int a1, .int (0 : Int32)])⟩ rfl rfl hl.1 rfl (lv_room (Nat.le_of_ble_eq_true rfl)) dX5_toll_63 ⟨Nat.le_of_ble_eq_true rfl, Nat.le_of_ble_eq_true rfl⟩)) (fun r_12 h => ?_)
            refine lv_iload_n F.1 F.2.1 dX5_toll_66 rfl (lv_at hl 4 rfl) ?_
            refine lv_iload_n F.1 F.2.1 dX5_toll_67 rfl (lv_at hl 2 rfl) ?_
            refine vp_callSi (va_Run.run (va_runS (As := [.int a1]) (rest := [.int a3, .int r_12, .ref (ad 12)]) F (mX1_tests (l := l) (D := D) (cI := cI) (cJ := cJ) (cZ := cZ) h) (va_cwS 1 F.2.2.2.2 gX5_toll_X1_tests rfl rfl rfl kS_X1_tests ⟨Nat.le_of_ble_eq_true rfl, Nat.le_of_ble_eq_true rfl⟩) ⟨rp_blind, rp_pre hz (hP.sub (ws' := []) [] rfl) [.int a1]⟩ rfl rfl hl.1 rfl (lv_room (Nat.le_of_ble_eq_true rfl)) dX5_toll_68 ⟨Nat.le_of_ble_eq_true rfl, Nat.le_of_ble_eq_true rfl⟩)) (fun r_13 h => ?_)
            refine lv_imul F.1 F.2.1 dX5_toll_71 ?_
            refine vp_callSi (va_Run.run (va_runV (As := [.int r_12, .int (a3 * r_13)]) (rest := []) F (mX3_tollOf (l := l) (D := D) (cI := cI) (cJ := cJ) (cZ := cZ) (ad := ad) h) (cwV 2 F.2.2.2.2 gX5_toll_X3_tollOf rfl rfl rfl kV_X3_tollOf ⟨Nat.le_of_ble_eq_true rfl, Nat.le_of_ble_eq_true rfl⟩) ⟨rp_blind, va_recv hz.1 hP (ci := 1) (q0 := 12) rfl rfl, rp_pre hz hP (.ref (ad 12) :: [.int r_12, .int (a3 * r_13)])⟩ rfl rfl hl.1 rfl (lv_room (Nat.le_of_ble_eq_true rfl)) dX5_toll_72 ⟨Nat.le_of_ble_eq_true rfl, Nat.le_of_ble_eq_true rfl⟩)) (fun r_14 h => ?_)
            exact hret _ _ _ h dX5_toll_75
        · exact absurd hc (by decide)
theorem mX5_toll {l : Launch} {D : va_G} {cI cJ cZ : ClassId} {ad : Nat → Nat} {S : SX} {a1 : Int32} {a2 : Int32} {a3 : Int32} {Q : Int32 → Prop} (h : wX5_toll S a1 a2 a3 Q) : Met l yX5_toll wsX5_toll rX5_toll (va_Pc [.ref (ad 0), .int a1, .int a2, .int a3] (rp D cI cJ cZ (w5 ad cI cJ S))) (vp_Si Q) 0 0 (fun _ => False) :=
  enter_i (by decide +kernel) rfl (Nat.le_of_ble_eq_true rfl) (fun p e s m args below meth c QQ F hz hret => bX5_toll F hz.1 hz.2 hret h)
abbrev rX5_first : Room := { frames := 4, cells := 0, slots := 0, locals := 92 }
theorem kV_X5_first : yX5_first.cls = RX5 ∧ yX5_first.cls ≠ "java/lang/invoke/MethodHandle" ∧ yX5_first.cls ≠ "java/lang/invoke/VarHandle" ∧ (parseMethodDescriptor yX5_first.desc).map (fun d => d.parameters.length) = some 2 := by decide +kernel
theorem vX5_first_X5 : ∀ w ∈ wsX50, w ∈ wsX5_first := fun _ h => List.mem_cons_of_mem _ (List.mem_append_left _ (List.mem_append_right _ h))
theorem uX5_first_1 : Cond.fieldLink RX5 10 "SumMoved" "rows" "LSumMoved$Rows;" ∈ wsX5_first := List.mem_of_getElem? (i := 1) rfl
set_option maxRecDepth 100000 in
theorem bX5_first {a1 : Int32} {a2 : Int32} {S : SX} {Q : Int32 → Prop} (F : CallFix p m c cX5_first 3 s args wsX5_first RX5) (hz : gz D cI cJ cZ s) (hP : va_P D vwCl (w5 ad cI cJ S) s.heap) (hret : ∀ (v : Int32) (pc : Nat) (ls : Array Slot), Q v → decode cX5_first pc = .ok (.ireturn, 1) → W p l e rX5_first s m args below meth c s.heap [] 0 0 QQ (F0 m pc ls [.int v])) (h : wX5_first S a1 a2 Q) : ∀ ls : Array Slot, lv_has ls 3 [(0, .ref (ad 0)), (1, .int a1), (2, .int a2)] → W p l e rX5_first s m args below meth c s.heap [] 0 0 QQ (F0 m 0 ls []) := by
  intro ls hl
  refine lv_iload_n F.1 F.2.1 dX5_first_0 rfl (lv_at hl 1 rfl) ?_
  refine vp_callSi (va_Run.run (va_runS (As := [.int a1]) (rest := []) F (mX1_has (l := l) (D := D) (cI := cI) (cJ := cJ) (cZ := cZ) h) (va_cwS 1 F.2.2.2.2 gX5_first_X1_has rfl rfl rfl kS_X1_has ⟨Nat.le_of_ble_eq_true rfl, Nat.le_of_ble_eq_true rfl⟩) ⟨rp_blind, rp_pre hz (hP.sub (ws' := []) [] rfl) [.int a1]⟩ rfl rfl hl.1 rfl (lv_room (Nat.le_of_ble_eq_true rfl)) dX5_first_1 ⟨Nat.le_of_ble_eq_true rfl, Nat.le_of_ble_eq_true rfl⟩)) (fun r_1 h => ?_)
  obtain ⟨hbr_1, h⟩ := h
  refine lv_if_eq (tgt := 30) F.1 F.2.1 dX5_first_4 (by decide) (fun hc => ?_) (fun hc => ?_)
  · have h := h.1 (hc)
    refine lv_iconst (v := (-1 : Int32)) F.1 F.2.1 dX5_first_30 (by decide) ?_
    exact hret _ _ _ h dX5_first_31
  · have h := h.2 hc
    refine lv_iload_n F.1 F.2.1 dX5_first_7 rfl (lv_at hl 2 rfl) ?_
    refine lv_iconst (v := (0 : Int32)) F.1 F.2.1 dX5_first_8 (by decide) ?_
    refine lv_sipush (v := (9999 : Int32)) F.1 F.2.1 dX5_first_9 (by decide) ?_
    refine vp_callSi (va_Run.run (va_runS (As := [.int a2, .int (0 : Int32), .int (9999 : Int32)]) (rest := []) F (mX5_isIn (l := l) (D := D) (cI := cI) (cJ := cJ) (cZ := cZ) h) (va_cwS 3 F.2.2.2.2 gX5_first_X5_isIn rfl rfl rfl kS_X5_isIn ⟨Nat.le_of_ble_eq_true rfl, Nat.le_of_ble_eq_true rfl⟩) ⟨rp_blind, rp_pre hz (hP.sub (ws' := []) [] rfl) [.int a2, .int (0 : Int32), .int (9999 : Int32)]⟩ rfl rfl hl.1 rfl (lv_room (Nat.le_of_ble_eq_true rfl)) dX5_first_12 ⟨Nat.le_of_ble_eq_true rfl, Nat.le_of_ble_eq_true rfl⟩)) (fun r_2 h => ?_)
    obtain ⟨hbr_2, h⟩ := h
    refine lv_if_eq (tgt := 30) F.1 F.2.1 dX5_first_15 (by decide) (fun hc => ?_) (fun hc => ?_)
    · have h := h.1 (hc)
      refine lv_iconst (v := (-1 : Int32)) F.1 F.2.1 dX5_first_30 (by decide) ?_
      exact hret _ _ _ h dX5_first_31
    · have h := h.2 hc
      refine lv_aload_n F.1 F.2.1 dX5_first_18 rfl (lv_at hl 0 rfl) ?_
      refine va_get (D := D) (ci := 3) (v := .ref (ad 1)) (C := RX5) (T := TX5) (N := 3) F.1 F.2.1 F.2.2.2.2 vX5_first_X5 F.2.2.2.1 hz.1 hP 0 rfl rfl 0 (by decide) (F.2.2.2.2 _ uX5_first_1) (fun _ h9 => h9) rfl dX5_first_19 ?_
      refine lv_iload_n F.1 F.2.1 dX5_first_22 rfl (lv_at hl 1 rfl) ?_
      refine lv_iload_n F.1 F.2.1 dX5_first_23 rfl (lv_at hl 2 rfl) ?_
      refine vp_callSi (va_Run.run (va_runV (As := [.int a1, .int a2]) (rest := []) F (mX2_firstDay (l := l) (D := D) (cI := cI) (cJ := cJ) (cZ := cZ) (ad := ad) h) (cwV 2 F.2.2.2.2 gX5_first_X2_firstDay rfl rfl rfl kV_X2_firstDay ⟨Nat.le_of_ble_eq_true rfl, Nat.le_of_ble_eq_true rfl⟩) ⟨rp_blind, va_recv hz.1 hP (ci := 0) (q0 := 1) rfl rfl, rp_pre hz (hP.sub (ws' := w2 ad cI S.1) [1, 2, 3, 4, 5, 6, 7, 8] rfl) (.ref (ad 1) :: [.int a1, .int a2])⟩ rfl rfl hl.1 rfl (lv_room (Nat.le_of_ble_eq_true rfl)) dX5_first_24 ⟨Nat.le_of_ble_eq_true rfl, Nat.le_of_ble_eq_true rfl⟩)) (fun r_3 h => ?_)
      refine lv_goto (tgt := 31) F.1 F.2.1 dX5_first_27 (by decide) ?_
      exact hret _ _ _ h dX5_first_31
theorem mX5_first {l : Launch} {D : va_G} {cI cJ cZ : ClassId} {ad : Nat → Nat} {S : SX} {a1 : Int32} {a2 : Int32} {Q : Int32 → Prop} (h : wX5_first S a1 a2 Q) : Met l yX5_first wsX5_first rX5_first (va_Pc [.ref (ad 0), .int a1, .int a2] (rp D cI cJ cZ (w5 ad cI cJ S))) (vp_Si Q) 0 0 (fun _ => False) :=
  enter_i (by decide +kernel) rfl (Nat.le_of_ble_eq_true rfl) (fun p e s m args below meth c QQ F hz hret => bX5_first F hz.1 hz.2 hret h)
abbrev rX5_count : Room := { frames := 5, cells := 0, slots := 0, locals := 119 }
theorem kV_X5_count : yX5_count.cls = RX5 ∧ yX5_count.cls ≠ "java/lang/invoke/MethodHandle" ∧ yX5_count.cls ≠ "java/lang/invoke/VarHandle" ∧ (parseMethodDescriptor yX5_count.desc).map (fun d => d.parameters.length) = some 1 := by decide +kernel
theorem vX5_count_X5 : ∀ w ∈ wsX50, w ∈ wsX5_count := fun _ h => List.mem_cons_of_mem _ (List.mem_append_left _ (List.mem_append_left _ (List.mem_append_right _ h)))
theorem uX5_count_1 : Cond.fieldLink RX5 10 "SumMoved" "rows" "LSumMoved$Rows;" ∈ wsX5_count := List.mem_of_getElem? (i := 1) rfl
theorem uX5_count_2 : Cond.fieldLink RX5 28 "SumMoved" "stories" "LSumMoved$Stories;" ∈ wsX5_count := List.mem_of_getElem? (i := 2) rfl
set_option maxRecDepth 100000 in
theorem bX5_count {a1 : Int32} {S : SX} {Q : Int32 → SX → Prop} (F : CallFix p m c cX5_count 2 s args wsX5_count RX5) (hz : gz D cI cJ cZ s) (hD : ∀ u : SX, va_D A (w5 ad cI cJ u)) (hA : ∀ q : Nat, s.heap.size ≤ q → A q) (hret : ∀ (v : Int32) (u : SX) (H : Heap) (locs : List Loc) (pc : Nat) (ls : Array Slot), Q v u → va_P D vwCl (w5 ad cI cJ u) H → va_S A s.heap H locs → decode cX5_count pc = .ok (.ireturn, 1) → W p l e rX5_count s m args below meth c H locs 0 0 QQ (F0 m pc ls [.int v])) (hP : va_P D vwCl (w5 ad cI cJ S) s.heap) (h : wX5_count S a1 Q) : ∀ ls : Array Slot, lv_has ls 2 [(0, .ref (ad 0)), (1, .int a1)] → W p l e rX5_count s m args below meth c s.heap [] 0 0 QQ (F0 m 0 ls []) := by
  intro ls hl
  have hS : va_S A s.heap s.heap [] := va_S.rf
  refine lv_iload_n F.1 F.2.1 dX5_count_0 rfl (lv_at hl 1 rfl) ?_
  by_cases hc0 : a1 = 0
  · have h := h.1 hc0
    refine lv_tableIn (off := 27) (tgt := 28) F.1 F.2.1 dX5_count_1 (by rw [hc0]; decide) (by rw [hc0]; decide) (by rw [hc0]; rfl) (by decide) ?_
    refine lv_aload_n F.1 F.2.1 dX5_count_28 rfl (lv_at hl 0 rfl) ?_
    refine va_get (D := D) (ci := 3) (v := .ref (ad 1)) (C := RX5) (T := TX5) (N := 3) F.1 F.2.1 F.2.2.2.2 vX5_count_X5 F.2.2.2.1 hz.1 hP 0 rfl rfl 0 (by decide) (F.2.2.2.2 _ uX5_count_1) (fun _ h9 => h9) rfl dX5_count_29 ?_
    refine vp_callSi (va_Run.run (va_runV (As := []) (rest := []) F (mX2_size (l := l) (D := D) (cI := cI) (cJ := cJ) (cZ := cZ) (ad := ad) h) (cwV 0 F.2.2.2.2 gX5_count_X2_size rfl rfl rfl kV_X2_size ⟨Nat.le_of_ble_eq_true rfl, Nat.le_of_ble_eq_true rfl⟩) ⟨rp_blind, va_recv hz.1 hP (ci := 0) (q0 := 1) rfl rfl, rp_pre hz (hP.sub (ws' := w2 ad cI S.1) [1, 2, 3, 4, 5, 6, 7, 8] rfl) (.ref (ad 1) :: [])⟩ rfl rfl hl.1 rfl (lv_room (Nat.le_of_ble_eq_true rfl)) dX5_count_32 ⟨Nat.le_of_ble_eq_true rfl, Nat.le_of_ble_eq_true rfl⟩)) (fun r_1 h => ?_)
    exact hret _ _ _ _ _ _ h hP hS dX5_count_35
  · have h := h.2 hc0
    by_cases hc1 : a1 = 1
    · have h := h.1 hc1
      refine lv_tableIn (off := 35) (tgt := 36) F.1 F.2.1 dX5_count_1 (by rw [hc1]; decide) (by rw [hc1]; decide) (by rw [hc1]; rfl) (by decide) ?_
      refine lv_aload_n F.1 F.2.1 dX5_count_36 rfl (lv_at hl 0 rfl) ?_
      refine va_get (D := D) (ci := 3) (v := .ref (ad 1)) (C := RX5) (T := TX5) (N := 3) F.1 F.2.1 F.2.2.2.2 vX5_count_X5 F.2.2.2.1 hz.1 hP 0 rfl rfl 0 (by decide) (F.2.2.2.2 _ uX5_count_1) (fun _ h9 => h9) rfl dX5_count_37 ?_
      refine vp_callSi (va_Run.run (va_runV (As := []) (rest := []) F (mX2_struckOnes (l := l) (D := D) (cI := cI) (cJ := cJ) (cZ := cZ) (ad := ad) h) (cwV 0 F.2.2.2.2 gX5_count_X2_struckOnes rfl rfl rfl kV_X2_struckOnes ⟨Nat.le_of_ble_eq_true rfl, Nat.le_of_ble_eq_true rfl⟩) ⟨rp_blind, va_recv hz.1 hP (ci := 0) (q0 := 1) rfl rfl, rp_pre hz (hP.sub (ws' := w2 ad cI S.1) [1, 2, 3, 4, 5, 6, 7, 8] rfl) (.ref (ad 1) :: [])⟩ rfl rfl hl.1 rfl (lv_room (Nat.le_of_ble_eq_true rfl)) dX5_count_40 ⟨Nat.le_of_ble_eq_true rfl, Nat.le_of_ble_eq_true rfl⟩)) (fun r_2 h => ?_)
      exact hret _ _ _ _ _ _ h hP hS dX5_count_43
    · have h := h.2 hc1
      by_cases hc2 : a1 = 2
      · have h := h.1 hc2
        refine lv_tableIn (off := 43) (tgt := 44) F.1 F.2.1 dX5_count_1 (by rw [hc2]; decide) (by rw [hc2]; decide) (by rw [hc2]; rfl) (by decide) ?_
        refine lv_aload_n F.1 F.2.1 dX5_count_44 rfl (lv_at hl 0 rfl) ?_
        refine va_get (D := D) (ci := 3) (v := .ref (ad 12)) (C := RX5) (T := TX5) (N := 3) F.1 F.2.1 F.2.2.2.2 vX5_count_X5 F.2.2.2.1 hz.1 hP 0 rfl rfl 2 (by decide) (F.2.2.2.2 _ uX5_count_2) (fun _ h9 => h9) rfl dX5_count_45 ?_
        refine call_wi (wf := w5 ad cI cJ) (va_runV (As := []) (rest := []) F (mX3_gather (l := l) (D := D) (cI := cI) (cJ := cJ) (cZ := cZ) (ad := ad) _ h) (cwV 0 F.2.2.2.2 gX5_count_X3_gather rfl rfl rfl kV_X3_gather ⟨Nat.le_of_ble_eq_true rfl, Nat.le_of_ble_eq_true rfl⟩) ⟨wp_blind, va_recv hz.1 hP (ci := 1) (q0 := 12) rfl rfl, wp_pre hz hP (hD _) (.ref (ad 12) :: [])⟩ rfl rfl hl.1 rfl (lv_room (Nat.le_of_ble_eq_true rfl)) dX5_count_48 ⟨Nat.le_of_ble_eq_true rfl, Nat.le_of_ble_eq_true rfl⟩) hS (hD _) hA (fun r_3 S_4 H locs h hP hS => ?_)
        exact hret _ _ _ _ _ _ h hP hS dX5_count_51
      · have h := h.2 hc2
        refine lv_tableOut (tgt := 52) F.1 F.2.1 dX5_count_1 (by have := lv_neT hc0 (a := 0) rfl; have := lv_neT hc1 (a := 1) rfl; have := lv_neT hc2 (a := 2) rfl; omega) (by decide) ?_
        refine lv_iconst (v := (-1 : Int32)) F.1 F.2.1 dX5_count_52 (by decide) ?_
        exact hret _ _ _ _ _ _ h hP hS dX5_count_53
theorem mX5_count {l : Launch} {D : va_G} {cI cJ cZ : ClassId} {ad : Nat → Nat} {S : SX} {a1 : Int32} {Q : Int32 → SX → Prop} (sz : Nat) (h : wX5_count S a1 Q) : Met l yX5_count wsX5_count rX5_count (va_Pc [.ref (ad 0), .int a1] (wp D cI cJ cZ sz (w5 ad cI cJ S))) (wQi D (w5 ad cI cJ) S sz Q) 0 0 (va_A (w5 ad cI cJ S) sz) :=
  enter_wi (wf := w5 ad cI cJ) (fun _ => rfl) (by decide +kernel) rfl (Nat.le_of_ble_eq_true rfl) (fun p e s m args below meth c QQ A F hz hD hA hP hret => bX5_count F hz hD hA hret hP h)
end WALKS
