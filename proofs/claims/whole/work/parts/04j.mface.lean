/-! THE WALKS of mface, printed by wip/whole/gen.py -/
section WALKS
variable {p : Program} {l : Launch} {e : Env} {s : State} {m : MethodId} {args : Array Value} {below : List Frame} {meth : Method} {c : Code} {QQ : State → Prop} {A : Nat → Prop} {D : va_G} {cI cJ cZ : ClassId} {ad : Nat → Nat}
abbrev rX6_row : Room := { frames := 1, cells := 0, slots := 0, locals := 22 }
theorem kV_X6_row : yX6_row.cls = RX6 ∧ yX6_row.cls ≠ "java/lang/invoke/MethodHandle" ∧ yX6_row.cls ≠ "java/lang/invoke/VarHandle" ∧ (parseMethodDescriptor yX6_row.desc).map (fun d => d.parameters.length) = some 5 := by decide +kernel
theorem vX6_row_X6 : ∀ w ∈ wsX60, w ∈ wsX6_row := fun _ h => List.mem_cons_of_mem _ (List.mem_append_right _ h)
theorem uX6_row_1 : Cond.fieldLink RX6 54 "SumMovedModel" "rows" "I" ∈ wsX6_row := List.mem_of_getElem? (i := 1) rfl
theorem uX6_row_2 : Cond.fieldLink RX6 7 "SumMovedModel" "month" "[I" ∈ wsX6_row := List.mem_of_getElem? (i := 2) rfl
theorem uX6_row_3 : Cond.fieldLink RX6 13 "SumMovedModel" "day" "[I" ∈ wsX6_row := List.mem_of_getElem? (i := 3) rfl
theorem uX6_row_4 : Cond.fieldLink RX6 16 "SumMovedModel" "top" "[I" ∈ wsX6_row := List.mem_of_getElem? (i := 4) rfl
theorem uX6_row_5 : Cond.fieldLink RX6 19 "SumMovedModel" "base" "[I" ∈ wsX6_row := List.mem_of_getElem? (i := 5) rfl
theorem uX6_row_6 : Cond.fieldLink RX6 22 "SumMovedModel" "member" "[I" ∈ wsX6_row := List.mem_of_getElem? (i := 6) rfl
theorem uX6_row_7 : Cond.fieldLink RX6 25 "SumMovedModel" "mark" "[I" ∈ wsX6_row := List.mem_of_getElem? (i := 7) rfl
set_option maxRecDepth 100000 in
theorem kX6_row_159 {p5 : Int32} (F : CallFix p m c cX6_row 8 s args wsX6_row RX6) (hz : gz D cI cJ cZ s) (hD : ∀ u : S6, va_D A (w6 ad cI cZ u)) (hA : ∀ q : Nat, s.heap.size ≤ q → A q) {K : Int32 × S6 → Prop} (hK : ∀ x : Int32 × S6, K x → match x with | (x7, S) => ∀ (H : Heap) (locs : List Loc), va_P D vwCl (w6 ad cI cZ S) H → va_S A s.heap H locs → ∀ ls : Array Slot, lv_has ls 8 [(0, .ref (ad 0)), (5, .int p5), (7, .int x7)] → W p l e rX6_row s m args below meth c H locs 0 0 QQ (F0 m 195 ls [])) : ∀ (nn : Nat) (x : Int32 × S6), iter (sX6_row_159 p5 K) nn x → match x with | (x7, S) => ∀ (H : Heap) (locs : List Loc), va_P D vwCl (w6 ad cI cZ S) H → va_S A s.heap H locs → ∀ ls : Array Slot, lv_has ls 8 [(0, .ref (ad 0)), (5, .int p5), (7, .int x7)] → W p l e rX6_row s m args below meth c H locs 0 0 QQ (F0 m 159 ls []) := by
  refine iter_walk ?_
  rintro again159 ⟨x7, S⟩ ih159 h H locs hP hS ls hl
  have hK159 := hK
  refine lv_iload F.1 F.2.1 dX6_row_159 (lv_at hl 2 rfl) ?_
  refine lv_iconst (v := (3 : Int32)) F.1 F.2.1 dX6_row_161 (by decide) ?_
  refine lv_icmp_ge (tgt := 195) F.1 F.2.1 dX6_row_162 (by decide) (fun hc => ?_) (fun hc => ?_)
  · have h := h.1 (hc)
    exact hK159 (x7, S) h _ _ hP hS ls (lv_sub hl [0, 1, 2] rfl)
  · have h := h.2 hc
    refine lv_aload_n F.1 F.2.1 dX6_row_165 rfl (lv_at hl 0 rfl) ?_
    refine va_get (D := D) (ci := 4) (v := .ref (ad 6)) (C := RX6) (T := TX6) (N := 19) F.1 F.2.1 F.2.2.2.2 vX6_row_X6 F.2.2.2.1 hz.1 hP 0 rfl rfl 6 (by decide) (F.2.2.2.2 _ uX6_row_7) (fun _ h9 => h9) rfl dX6_row_166 ?_
    refine lv_iconst (v := (3 : Int32)) F.1 F.2.1 dX6_row_169 (by decide) ?_
    refine lv_aload_n F.1 F.2.1 dX6_row_170 rfl (lv_at hl 0 rfl) ?_
    refine va_get (D := D) (ci := 4) (v := .int S.1) (C := RX6) (T := TX6) (N := 19) F.1 F.2.1 F.2.2.2.2 vX6_row_X6 F.2.2.2.1 hz.1 hP 0 rfl rfl 0 (by decide) (F.2.2.2.2 _ uX6_row_1) (fun _ h9 => h9) rfl dX6_row_171 ?_
    refine lv_imul F.1 F.2.1 dX6_row_174 ?_
    refine lv_iload F.1 F.2.1 dX6_row_175 (lv_at hl 2 rfl) ?_
    refine lv_iadd F.1 F.2.1 dX6_row_177 ?_
    refine lv_iload F.1 F.2.1 dX6_row_178 (lv_at hl 1 rfl) ?_
    refine lv_iconst (v := (3 : Int32)) F.1 F.2.1 dX6_row_180 (by decide) ?_
    refine lv_iload F.1 F.2.1 dX6_row_181 (lv_at hl 2 rfl) ?_
    refine lv_imul F.1 F.2.1 dX6_row_183 ?_
    refine lv_ishr F.1 F.2.1 dX6_row_184 ?_
    refine lv_bipush (v := (7 : Int32)) F.1 F.2.1 dX6_row_185 (by decide) ?_
    refine lv_iand F.1 F.2.1 dX6_row_187 ?_
    refine va_iast F.1 F.2.1 hz.1 hP (hD _) hS 6 0 rfl rfl h.1 dX6_row_188 (fun H locs hP _ hS => ?_)
    have h := h.2
    have hP : va_P D vwCl (w6 ad cI cZ (S.1, S.2.1, S.2.2.1, S.2.2.2.1, S.2.2.2.2.1, S.2.2.2.2.2.1, (upd S.2.2.2.2.2.2.1 (((3 : Int32) * S.1) + x7).toNatClampNeg ((p5 >>> (((3 : Int32) * x7) &&& 31)) &&& (7 : Int32))), S.2.2.2.2.2.2.2.1, S.2.2.2.2.2.2.2.2.1, S.2.2.2.2.2.2.2.2.2.1, S.2.2.2.2.2.2.2.2.2.2.1, S.2.2.2.2.2.2.2.2.2.2.2.1, S.2.2.2.2.2.2.2.2.2.2.2.2.1, S.2.2.2.2.2.2.2.2.2.2.2.2.2.1, S.2.2.2.2.2.2.2.2.2.2.2.2.2.2.1, S.2.2.2.2.2.2.2.2.2.2.2.2.2.2.2.1, S.2.2.2.2.2.2.2.2.2.2.2.2.2.2.2.2.1, S.2.2.2.2.2.2.2.2.2.2.2.2.2.2.2.2.2.1, S.2.2.2.2.2.2.2.2.2.2.2.2.2.2.2.2.2.2)) H := hP
    refine lv_iinc (v := x7 + 1) (lv' := [(7, .int (x7 + 1)), (0, .ref (ad 0)), (5, .int p5)]) F.1 F.2.1 dX6_row_189 hl (k := 2) rfl rfl (by decide) rfl (fun ls hl => ?_)
    refine lv_goto (tgt := 159) F.1 F.2.1 dX6_row_192 (by decide) ?_
    exact ih159 (x7 + 1, (S.1, S.2.1, S.2.2.1, S.2.2.2.1, S.2.2.2.2.1, S.2.2.2.2.2.1, (upd S.2.2.2.2.2.2.1 (((3 : Int32) * S.1) + x7).toNatClampNeg ((p5 >>> (((3 : Int32) * x7) &&& 31)) &&& (7 : Int32))), S.2.2.2.2.2.2.2.1, S.2.2.2.2.2.2.2.2.1, S.2.2.2.2.2.2.2.2.2.1, S.2.2.2.2.2.2.2.2.2.2.1, S.2.2.2.2.2.2.2.2.2.2.2.1, S.2.2.2.2.2.2.2.2.2.2.2.2.1, S.2.2.2.2.2.2.2.2.2.2.2.2.2.1, S.2.2.2.2.2.2.2.2.2.2.2.2.2.2.1, S.2.2.2.2.2.2.2.2.2.2.2.2.2.2.2.1, S.2.2.2.2.2.2.2.2.2.2.2.2.2.2.2.2.1, S.2.2.2.2.2.2.2.2.2.2.2.2.2.2.2.2.2.1, S.2.2.2.2.2.2.2.2.2.2.2.2.2.2.2.2.2.2)) h _ _ hP hS ls (lv_sub hl [1, 2, 0] rfl)
set_option maxRecDepth 100000 in
theorem bX6_row {a1 : Int32} {a2 : Int32} {a3 : Int32} {a4 : Int32} {a5 : Int32} {S : S6} {Q : Int32 → S6 → Prop} (F : CallFix p m c cX6_row 8 s args wsX6_row RX6) (hz : gz D cI cJ cZ s) (hD : ∀ u : S6, va_D A (w6 ad cI cZ u)) (hA : ∀ q : Nat, s.heap.size ≤ q → A q) (hret : ∀ (v : Int32) (u : S6) (H : Heap) (locs : List Loc) (pc : Nat) (ls : Array Slot), Q v u → va_P D vwCl (w6 ad cI cZ u) H → va_S A s.heap H locs → decode cX6_row pc = .ok (.ireturn, 1) → W p l e rX6_row s m args below meth c H locs 0 0 QQ (F0 m pc ls [.int v])) (hP : va_P D vwCl (w6 ad cI cZ S) s.heap) (h : wX6_row S a1 a2 a3 a4 a5 Q) : ∀ ls : Array Slot, lv_has ls 8 [(0, .ref (ad 0)), (1, .int a1), (2, .int a2), (3, .int a3), (4, .int a4), (5, .int a5)] → W p l e rX6_row s m args below meth c s.heap [] 0 0 QQ (F0 m 0 ls []) := by
  intro ls hl
  have hS : va_S A s.heap s.heap [] := va_S.rf
  refine lv_iload_n F.1 F.2.1 dX6_row_0 rfl (lv_at hl 1 rfl) ?_
  refine lv_if_lt (tgt := 77) F.1 F.2.1 dX6_row_1 (by decide) (fun hc => ?_) (fun hc => ?_)
  · have h := h.1 (hc)
    refine lv_iconst (v := (0 : Int32)) F.1 F.2.1 dX6_row_77 (by decide) ?_
    refine lv_istore (lv' := [(6, .int (0 : Int32)), (0, .ref (ad 0)), (1, .int a1), (2, .int a2), (3, .int a3), (4, .int a4), (5, .int a5)]) F.1 F.2.1 dX6_row_78 hl (by decide) rfl (fun ls hl => ?_)
    refine lv_iload F.1 F.2.1 dX6_row_80 (lv_at hl 0 rfl) ?_
    refine lv_if_ne (tgt := 87) F.1 F.2.1 dX6_row_82 (by decide) (fun hc => ?_) (fun hc => ?_)
    · exact absurd hc (by decide)
    · refine lv_iconst (v := (-1 : Int32)) F.1 F.2.1 dX6_row_85 (by decide) ?_
      exact hret _ _ _ _ _ _ h hP hS dX6_row_86
  · have h := h.2 hc
    refine lv_iload_n F.1 F.2.1 dX6_row_4 rfl (lv_at hl 1 rfl) ?_
    refine lv_bipush (v := (100 : Int32)) F.1 F.2.1 dX6_row_5 (by decide) ?_
    refine lv_idiv F.1 F.2.1 dX6_row_7 (by decide) ?_
    refine lv_iconst (v := (0 : Int32)) F.1 F.2.1 dX6_row_8 (by decide) ?_
    refine lv_iconst (v := (1 : Int32)) F.1 F.2.1 dX6_row_9 (by decide) ?_
    refine vp_callSi (va_Run.run (va_runS (As := [.int (a1 / (100 : Int32)), .int (0 : Int32), .int (1 : Int32)]) (rest := []) F (mX6_in (l := l) (D := D) (cI := cI) (cJ := cJ) (cZ := cZ) h) (va_cwS 3 F.2.2.2.2 gX6_row_X6_in rfl rfl rfl kS_X6_in ⟨Nat.le_of_ble_eq_true rfl, Nat.le_of_ble_eq_true rfl⟩) ⟨rp_blind, rp_pre hz (hP.sub (ws' := []) [] rfl) [.int (a1 / (100 : Int32)), .int (0 : Int32), .int (1 : Int32)]⟩ rfl rfl hl.1 rfl (lv_room (Nat.le_of_ble_eq_true rfl)) dX6_row_10 ⟨Nat.le_of_ble_eq_true rfl, Nat.le_of_ble_eq_true rfl⟩)) (fun r_1 h => ?_)
    obtain ⟨hbr_1, h⟩ := h
    refine lv_if_eq (tgt := 77) F.1 F.2.1 dX6_row_13 (by decide) (fun hc => ?_) (fun hc => ?_)
    · have h := h.1 (hc)
      refine lv_iconst (v := (0 : Int32)) F.1 F.2.1 dX6_row_77 (by decide) ?_
      refine lv_istore (lv' := [(6, .int (0 : Int32)), (0, .ref (ad 0)), (1, .int a1), (2, .int a2), (3, .int a3), (4, .int a4), (5, .int a5)]) F.1 F.2.1 dX6_row_78 hl (by decide) rfl (fun ls hl => ?_)
      refine lv_iload F.1 F.2.1 dX6_row_80 (lv_at hl 0 rfl) ?_
      refine lv_if_ne (tgt := 87) F.1 F.2.1 dX6_row_82 (by decide) (fun hc => ?_) (fun hc => ?_)
      · exact absurd hc (by decide)
      · refine lv_iconst (v := (-1 : Int32)) F.1 F.2.1 dX6_row_85 (by decide) ?_
        exact hret _ _ _ _ _ _ h hP hS dX6_row_86
    · have h := h.2 hc
      refine lv_iload_n F.1 F.2.1 dX6_row_16 rfl (lv_at hl 1 rfl) ?_
      refine lv_bipush (v := (100 : Int32)) F.1 F.2.1 dX6_row_17 (by decide) ?_
      refine lv_irem F.1 F.2.1 dX6_row_19 (by decide) ?_
      refine lv_iconst (v := (0 : Int32)) F.1 F.2.1 dX6_row_20 (by decide) ?_
      refine lv_bipush (v := (30 : Int32)) F.1 F.2.1 dX6_row_21 (by decide) ?_
      refine vp_callSi (va_Run.run (va_runS (As := [.int (a1 - a1 / (100 : Int32) * (100 : Int32)), .int (0 : Int32), .int (30 : Int32)]) (rest := []) F (mX6_in (l := l) (D := D) (cI := cI) (cJ := cJ) (cZ := cZ) h) (va_cwS 3 F.2.2.2.2 gX6_row_X6_in rfl rfl rfl kS_X6_in ⟨Nat.le_of_ble_eq_true rfl, Nat.le_of_ble_eq_true rfl⟩) ⟨rp_blind, rp_pre hz (hP.sub (ws' := []) [] rfl) [.int (a1 - a1 / (100 : Int32) * (100 : Int32)), .int (0 : Int32), .int (30 : Int32)]⟩ rfl rfl hl.1 rfl (lv_room (Nat.le_of_ble_eq_true rfl)) dX6_row_23 ⟨Nat.le_of_ble_eq_true rfl, Nat.le_of_ble_eq_true rfl⟩)) (fun r_2 h => ?_)
      obtain ⟨hbr_2, h⟩ := h
      refine lv_if_eq (tgt := 77) F.1 F.2.1 dX6_row_26 (by decide) (fun hc => ?_) (fun hc => ?_)
      · have h := h.1 (hc)
        refine lv_iconst (v := (0 : Int32)) F.1 F.2.1 dX6_row_77 (by decide) ?_
        refine lv_istore (lv' := [(6, .int (0 : Int32)), (0, .ref (ad 0)), (1, .int a1), (2, .int a2), (3, .int a3), (4, .int a4), (5, .int a5)]) F.1 F.2.1 dX6_row_78 hl (by decide) rfl (fun ls hl => ?_)
        refine lv_iload F.1 F.2.1 dX6_row_80 (lv_at hl 0 rfl) ?_
        refine lv_if_ne (tgt := 87) F.1 F.2.1 dX6_row_82 (by decide) (fun hc => ?_) (fun hc => ?_)
        · exact absurd hc (by decide)
        · refine lv_iconst (v := (-1 : Int32)) F.1 F.2.1 dX6_row_85 (by decide) ?_
          exact hret _ _ _ _ _ _ h hP hS dX6_row_86
      · have h := h.2 hc
        refine lv_iload_n F.1 F.2.1 dX6_row_29 rfl (lv_at hl 2 rfl) ?_
        refine lv_bipush (v := (-99 : Int32)) F.1 F.2.1 dX6_row_30 (by decide) ?_
        refine lv_bipush (v := (99 : Int32)) F.1 F.2.1 dX6_row_32 (by decide) ?_
        refine vp_callSi (va_Run.run (va_runS (As := [.int a2, .int (-99 : Int32), .int (99 : Int32)]) (rest := []) F (mX6_in (l := l) (D := D) (cI := cI) (cJ := cJ) (cZ := cZ) h) (va_cwS 3 F.2.2.2.2 gX6_row_X6_in rfl rfl rfl kS_X6_in ⟨Nat.le_of_ble_eq_true rfl, Nat.le_of_ble_eq_true rfl⟩) ⟨rp_blind, rp_pre hz (hP.sub (ws' := []) [] rfl) [.int a2, .int (-99 : Int32), .int (99 : Int32)]⟩ rfl rfl hl.1 rfl (lv_room (Nat.le_of_ble_eq_true rfl)) dX6_row_34 ⟨Nat.le_of_ble_eq_true rfl, Nat.le_of_ble_eq_true rfl⟩)) (fun r_3 h => ?_)
        obtain ⟨hbr_3, h⟩ := h
        refine lv_if_eq (tgt := 77) F.1 F.2.1 dX6_row_37 (by decide) (fun hc => ?_) (fun hc => ?_)
        · have h := h.1 (hc)
          refine lv_iconst (v := (0 : Int32)) F.1 F.2.1 dX6_row_77 (by decide) ?_
          refine lv_istore (lv' := [(6, .int (0 : Int32)), (0, .ref (ad 0)), (1, .int a1), (2, .int a2), (3, .int a3), (4, .int a4), (5, .int a5)]) F.1 F.2.1 dX6_row_78 hl (by decide) rfl (fun ls hl => ?_)
          refine lv_iload F.1 F.2.1 dX6_row_80 (lv_at hl 0 rfl) ?_
          refine lv_if_ne (tgt := 87) F.1 F.2.1 dX6_row_82 (by decide) (fun hc => ?_) (fun hc => ?_)
          · exact absurd hc (by decide)
          · refine lv_iconst (v := (-1 : Int32)) F.1 F.2.1 dX6_row_85 (by decide) ?_
            exact hret _ _ _ _ _ _ h hP hS dX6_row_86
        · have h := h.2 hc
          refine lv_iload_n F.1 F.2.1 dX6_row_40 rfl (lv_at hl 3 rfl) ?_
          refine lv_iconst (v := (0 : Int32)) F.1 F.2.1 dX6_row_41 (by decide) ?_
          refine lv_bipush (v := (9 : Int32)) F.1 F.2.1 dX6_row_42 (by decide) ?_
          refine vp_callSi (va_Run.run (va_runS (As := [.int a3, .int (0 : Int32), .int (9 : Int32)]) (rest := []) F (mX6_in (l := l) (D := D) (cI := cI) (cJ := cJ) (cZ := cZ) h) (va_cwS 3 F.2.2.2.2 gX6_row_X6_in rfl rfl rfl kS_X6_in ⟨Nat.le_of_ble_eq_true rfl, Nat.le_of_ble_eq_true rfl⟩) ⟨rp_blind, rp_pre hz (hP.sub (ws' := []) [] rfl) [.int a3, .int (0 : Int32), .int (9 : Int32)]⟩ rfl rfl hl.1 rfl (lv_room (Nat.le_of_ble_eq_true rfl)) dX6_row_44 ⟨Nat.le_of_ble_eq_true rfl, Nat.le_of_ble_eq_true rfl⟩)) (fun r_4 h => ?_)
          obtain ⟨hbr_4, h⟩ := h
          refine lv_if_eq (tgt := 77) F.1 F.2.1 dX6_row_47 (by decide) (fun hc => ?_) (fun hc => ?_)
          · have h := h.1 (hc)
            refine lv_iconst (v := (0 : Int32)) F.1 F.2.1 dX6_row_77 (by decide) ?_
            refine lv_istore (lv' := [(6, .int (0 : Int32)), (0, .ref (ad 0)), (1, .int a1), (2, .int a2), (3, .int a3), (4, .int a4), (5, .int a5)]) F.1 F.2.1 dX6_row_78 hl (by decide) rfl (fun ls hl => ?_)
            refine lv_iload F.1 F.2.1 dX6_row_80 (lv_at hl 0 rfl) ?_
            refine lv_if_ne (tgt := 87) F.1 F.2.1 dX6_row_82 (by decide) (fun hc => ?_) (fun hc => ?_)
            · exact absurd hc (by decide)
            · refine lv_iconst (v := (-1 : Int32)) F.1 F.2.1 dX6_row_85 (by decide) ?_
              exact hret _ _ _ _ _ _ h hP hS dX6_row_86
          · have h := h.2 hc
            refine lv_iload F.1 F.2.1 dX6_row_50 (lv_at hl 4 rfl) ?_
            refine lv_iconst (v := (0 : Int32)) F.1 F.2.1 dX6_row_52 (by decide) ?_
            refine lv_bipush (v := (63 : Int32)) F.1 F.2.1 dX6_row_53 (by decide) ?_
            refine vp_callSi (va_Run.run (va_runS (As := [.int a4, .int (0 : Int32), .int (63 : Int32)]) (rest := []) F (mX6_in (l := l) (D := D) (cI := cI) (cJ := cJ) (cZ := cZ) h) (va_cwS 3 F.2.2.2.2 gX6_row_X6_in rfl rfl rfl kS_X6_in ⟨Nat.le_of_ble_eq_true rfl, Nat.le_of_ble_eq_true rfl⟩) ⟨rp_blind, rp_pre hz (hP.sub (ws' := []) [] rfl) [.int a4, .int (0 : Int32), .int (63 : Int32)]⟩ rfl rfl hl.1 rfl (lv_room (Nat.le_of_ble_eq_true rfl)) dX6_row_55 ⟨Nat.le_of_ble_eq_true rfl, Nat.le_of_ble_eq_true rfl⟩)) (fun r_5 h => ?_)
            obtain ⟨hbr_5, h⟩ := h
            refine lv_if_eq (tgt := 77) F.1 F.2.1 dX6_row_58 (by decide) (fun hc => ?_) (fun hc => ?_)
            · have h := h.1 (hc)
              refine lv_iconst (v := (0 : Int32)) F.1 F.2.1 dX6_row_77 (by decide) ?_
              refine lv_istore (lv' := [(6, .int (0 : Int32)), (0, .ref (ad 0)), (1, .int a1), (2, .int a2), (3, .int a3), (4, .int a4), (5, .int a5)]) F.1 F.2.1 dX6_row_78 hl (by decide) rfl (fun ls hl => ?_)
              refine lv_iload F.1 F.2.1 dX6_row_80 (lv_at hl 0 rfl) ?_
              refine lv_if_ne (tgt := 87) F.1 F.2.1 dX6_row_82 (by decide) (fun hc => ?_) (fun hc => ?_)
              · exact absurd hc (by decide)
              · refine lv_iconst (v := (-1 : Int32)) F.1 F.2.1 dX6_row_85 (by decide) ?_
                exact hret _ _ _ _ _ _ h hP hS dX6_row_86
            · have h := h.2 hc
              refine lv_iload F.1 F.2.1 dX6_row_61 (lv_at hl 5 rfl) ?_
              refine lv_iconst (v := (0 : Int32)) F.1 F.2.1 dX6_row_63 (by decide) ?_
              refine lv_sipush (v := (511 : Int32)) F.1 F.2.1 dX6_row_64 (by decide) ?_
              refine vp_callSi (va_Run.run (va_runS (As := [.int a5, .int (0 : Int32), .int (511 : Int32)]) (rest := []) F (mX6_in (l := l) (D := D) (cI := cI) (cJ := cJ) (cZ := cZ) h) (va_cwS 3 F.2.2.2.2 gX6_row_X6_in rfl rfl rfl kS_X6_in ⟨Nat.le_of_ble_eq_true rfl, Nat.le_of_ble_eq_true rfl⟩) ⟨rp_blind, rp_pre hz (hP.sub (ws' := []) [] rfl) [.int a5, .int (0 : Int32), .int (511 : Int32)]⟩ rfl rfl hl.1 rfl (lv_room (Nat.le_of_ble_eq_true rfl)) dX6_row_67 ⟨Nat.le_of_ble_eq_true rfl, Nat.le_of_ble_eq_true rfl⟩)) (fun r_6 h => ?_)
              obtain ⟨hbr_6, h⟩ := h
              refine lv_if_eq (tgt := 77) F.1 F.2.1 dX6_row_70 (by decide) (fun hc => ?_) (fun hc => ?_)
              · have h := h.1 (hc)
                refine lv_iconst (v := (0 : Int32)) F.1 F.2.1 dX6_row_77 (by decide) ?_
                refine lv_istore (lv' := [(6, .int (0 : Int32)), (0, .ref (ad 0)), (1, .int a1), (2, .int a2), (3, .int a3), (4, .int a4), (5, .int a5)]) F.1 F.2.1 dX6_row_78 hl (by decide) rfl (fun ls hl => ?_)
                refine lv_iload F.1 F.2.1 dX6_row_80 (lv_at hl 0 rfl) ?_
                refine lv_if_ne (tgt := 87) F.1 F.2.1 dX6_row_82 (by decide) (fun hc => ?_) (fun hc => ?_)
                · exact absurd hc (by decide)
                · refine lv_iconst (v := (-1 : Int32)) F.1 F.2.1 dX6_row_85 (by decide) ?_
                  exact hret _ _ _ _ _ _ h hP hS dX6_row_86
              · have h := h.2 hc
                refine lv_iconst (v := (1 : Int32)) F.1 F.2.1 dX6_row_73 (by decide) ?_
                refine lv_goto (tgt := 78) F.1 F.2.1 dX6_row_74 (by decide) ?_
                refine lv_istore (lv' := [(6, .int (1 : Int32)), (0, .ref (ad 0)), (1, .int a1), (2, .int a2), (3, .int a3), (4, .int a4), (5, .int a5)]) F.1 F.2.1 dX6_row_78 hl (by decide) rfl (fun ls hl => ?_)
                refine lv_iload F.1 F.2.1 dX6_row_80 (lv_at hl 0 rfl) ?_
                refine lv_if_ne (tgt := 87) F.1 F.2.1 dX6_row_82 (by decide) (fun hc => ?_) (fun hc => ?_)
                · refine lv_aload_n F.1 F.2.1 dX6_row_87 rfl (lv_at hl 1 rfl) ?_
                  refine va_get (D := D) (ci := 4) (v := .int S.1) (C := RX6) (T := TX6) (N := 19) F.1 F.2.1 F.2.2.2.2 vX6_row_X6 F.2.2.2.1 hz.1 hP 0 rfl rfl 0 (by decide) (F.2.2.2.2 _ uX6_row_1) (fun _ h9 => h9) rfl dX6_row_88 ?_
                  refine lv_bipush (v := (120 : Int32)) F.1 F.2.1 dX6_row_91 (by decide) ?_
                  refine lv_icmp_ne (tgt := 99) F.1 F.2.1 dX6_row_93 (by decide) (fun hc => ?_) (fun hc => ?_)
                  · have h := h.2 hc
                    refine lv_aload_n F.1 F.2.1 dX6_row_99 rfl (lv_at hl 1 rfl) ?_
                    refine va_get (D := D) (ci := 4) (v := .ref (ad 1)) (C := RX6) (T := TX6) (N := 19) F.1 F.2.1 F.2.2.2.2 vX6_row_X6 F.2.2.2.1 hz.1 hP 0 rfl rfl 1 (by decide) (F.2.2.2.2 _ uX6_row_2) (fun _ h9 => h9) rfl dX6_row_100 ?_
                    refine lv_aload_n F.1 F.2.1 dX6_row_103 rfl (lv_at hl 1 rfl) ?_
                    refine va_get (D := D) (ci := 4) (v := .int S.1) (C := RX6) (T := TX6) (N := 19) F.1 F.2.1 F.2.2.2.2 vX6_row_X6 F.2.2.2.1 hz.1 hP 0 rfl rfl 0 (by decide) (F.2.2.2.2 _ uX6_row_1) (fun _ h9 => h9) rfl dX6_row_104 ?_
                    refine lv_iload_n F.1 F.2.1 dX6_row_107 rfl (lv_at hl 2 rfl) ?_
                    refine lv_bipush (v := (100 : Int32)) F.1 F.2.1 dX6_row_108 (by decide) ?_
                    refine lv_idiv F.1 F.2.1 dX6_row_110 (by decide) ?_
                    refine va_iast F.1 F.2.1 hz.1 hP (hD _) hS 1 0 rfl rfl h.1 dX6_row_111 (fun H locs hP _ hS => ?_)
                    have h := h.2
                    have hP : va_P D vwCl (w6 ad cI cZ (S.1, (upd S.2.1 S.1.toNatClampNeg (a1 / (100 : Int32))), S.2.2.1, S.2.2.2.1, S.2.2.2.2.1, S.2.2.2.2.2.1, S.2.2.2.2.2.2.1, S.2.2.2.2.2.2.2.1, S.2.2.2.2.2.2.2.2.1, S.2.2.2.2.2.2.2.2.2.1, S.2.2.2.2.2.2.2.2.2.2.1, S.2.2.2.2.2.2.2.2.2.2.2.1, S.2.2.2.2.2.2.2.2.2.2.2.2.1, S.2.2.2.2.2.2.2.2.2.2.2.2.2.1, S.2.2.2.2.2.2.2.2.2.2.2.2.2.2.1, S.2.2.2.2.2.2.2.2.2.2.2.2.2.2.2.1, S.2.2.2.2.2.2.2.2.2.2.2.2.2.2.2.2.1, S.2.2.2.2.2.2.2.2.2.2.2.2.2.2.2.2.2.1, S.2.2.2.2.2.2.2.2.2.2.2.2.2.2.2.2.2.2)) H := hP
                    refine lv_aload_n F.1 F.2.1 dX6_row_112 rfl (lv_at hl 1 rfl) ?_
                    refine va_get (D := D) (ci := 4) (v := .ref (ad 2)) (C := RX6) (T := TX6) (N := 19) F.1 F.2.1 F.2.2.2.2 vX6_row_X6 F.2.2.2.1 hz.1 hP 0 rfl rfl 2 (by decide) (F.2.2.2.2 _ uX6_row_3) (fun _ h9 => h9) rfl dX6_row_113 ?_
                    refine lv_aload_n F.1 F.2.1 dX6_row_116 rfl (lv_at hl 1 rfl) ?_
                    refine va_get (D := D) (ci := 4) (v := .int S.1) (C := RX6) (T := TX6) (N := 19) F.1 F.2.1 F.2.2.2.2 vX6_row_X6 F.2.2.2.1 hz.1 hP 0 rfl rfl 0 (by decide) (F.2.2.2.2 _ uX6_row_1) (fun _ h9 => h9) rfl dX6_row_117 ?_
                    refine lv_iload_n F.1 F.2.1 dX6_row_120 rfl (lv_at hl 2 rfl) ?_
                    refine lv_bipush (v := (100 : Int32)) F.1 F.2.1 dX6_row_121 (by decide) ?_
                    refine lv_irem F.1 F.2.1 dX6_row_123 (by decide) ?_
                    refine va_iast F.1 F.2.1 hz.1 hP (hD _) hS 2 0 rfl rfl h.1 dX6_row_124 (fun H locs hP _ hS => ?_)
                    have h := h.2
                    have hP : va_P D vwCl (w6 ad cI cZ (S.1, (upd S.2.1 S.1.toNatClampNeg (a1 / (100 : Int32))), (upd S.2.2.1 S.1.toNatClampNeg (a1 - a1 / (100 : Int32) * (100 : Int32))), S.2.2.2.1, S.2.2.2.2.1, S.2.2.2.2.2.1, S.2.2.2.2.2.2.1, S.2.2.2.2.2.2.2.1, S.2.2.2.2.2.2.2.2.1, S.2.2.2.2.2.2.2.2.2.1, S.2.2.2.2.2.2.2.2.2.2.1, S.2.2.2.2.2.2.2.2.2.2.2.1, S.2.2.2.2.2.2.2.2.2.2.2.2.1, S.2.2.2.2.2.2.2.2.2.2.2.2.2.1, S.2.2.2.2.2.2.2.2.2.2.2.2.2.2.1, S.2.2.2.2.2.2.2.2.2.2.2.2.2.2.2.1, S.2.2.2.2.2.2.2.2.2.2.2.2.2.2.2.2.1, S.2.2.2.2.2.2.2.2.2.2.2.2.2.2.2.2.2.1, S.2.2.2.2.2.2.2.2.2.2.2.2.2.2.2.2.2.2)) H := hP
                    refine lv_aload_n F.1 F.2.1 dX6_row_125 rfl (lv_at hl 1 rfl) ?_
                    refine va_get (D := D) (ci := 4) (v := .ref (ad 3)) (C := RX6) (T := TX6) (N := 19) F.1 F.2.1 F.2.2.2.2 vX6_row_X6 F.2.2.2.1 hz.1 hP 0 rfl rfl 3 (by decide) (F.2.2.2.2 _ uX6_row_4) (fun _ h9 => h9) rfl dX6_row_126 ?_
                    refine lv_aload_n F.1 F.2.1 dX6_row_129 rfl (lv_at hl 1 rfl) ?_
                    refine va_get (D := D) (ci := 4) (v := .int S.1) (C := RX6) (T := TX6) (N := 19) F.1 F.2.1 F.2.2.2.2 vX6_row_X6 F.2.2.2.1 hz.1 hP 0 rfl rfl 0 (by decide) (F.2.2.2.2 _ uX6_row_1) (fun _ h9 => h9) rfl dX6_row_130 ?_
                    refine lv_iload_n F.1 F.2.1 dX6_row_133 rfl (lv_at hl 3 rfl) ?_
                    refine va_iast F.1 F.2.1 hz.1 hP (hD _) hS 3 0 rfl rfl h.1 dX6_row_134 (fun H locs hP _ hS => ?_)
                    have h := h.2
                    have hP : va_P D vwCl (w6 ad cI cZ (S.1, (upd S.2.1 S.1.toNatClampNeg (a1 / (100 : Int32))), (upd S.2.2.1 S.1.toNatClampNeg (a1 - a1 / (100 : Int32) * (100 : Int32))), (upd S.2.2.2.1 S.1.toNatClampNeg a2), S.2.2.2.2.1, S.2.2.2.2.2.1, S.2.2.2.2.2.2.1, S.2.2.2.2.2.2.2.1, S.2.2.2.2.2.2.2.2.1, S.2.2.2.2.2.2.2.2.2.1, S.2.2.2.2.2.2.2.2.2.2.1, S.2.2.2.2.2.2.2.2.2.2.2.1, S.2.2.2.2.2.2.2.2.2.2.2.2.1, S.2.2.2.2.2.2.2.2.2.2.2.2.2.1, S.2.2.2.2.2.2.2.2.2.2.2.2.2.2.1, S.2.2.2.2.2.2.2.2.2.2.2.2.2.2.2.1, S.2.2.2.2.2.2.2.2.2.2.2.2.2.2.2.2.1, S.2.2.2.2.2.2.2.2.2.2.2.2.2.2.2.2.2.1, S.2.2.2.2.2.2.2.2.2.2.2.2.2.2.2.2.2.2)) H := hP
                    refine lv_aload_n F.1 F.2.1 dX6_row_135 rfl (lv_at hl 1 rfl) ?_
                    refine va_get (D := D) (ci := 4) (v := .ref (ad 4)) (C := RX6) (T := TX6) (N := 19) F.1 F.2.1 F.2.2.2.2 vX6_row_X6 F.2.2.2.1 hz.1 hP 0 rfl rfl 4 (by decide) (F.2.2.2.2 _ uX6_row_5) (fun _ h9 => h9) rfl dX6_row_136 ?_
                    refine lv_aload_n F.1 F.2.1 dX6_row_139 rfl (lv_at hl 1 rfl) ?_
                    refine va_get (D := D) (ci := 4) (v := .int S.1) (C := RX6) (T := TX6) (N := 19) F.1 F.2.1 F.2.2.2.2 vX6_row_X6 F.2.2.2.1 hz.1 hP 0 rfl rfl 0 (by decide) (F.2.2.2.2 _ uX6_row_1) (fun _ h9 => h9) rfl dX6_row_140 ?_
                    refine lv_iload_n F.1 F.2.1 dX6_row_143 rfl (lv_at hl 4 rfl) ?_
                    refine va_iast F.1 F.2.1 hz.1 hP (hD _) hS 4 0 rfl rfl h.1 dX6_row_144 (fun H locs hP _ hS => ?_)
                    have h := h.2
                    have hP : va_P D vwCl (w6 ad cI cZ (S.1, (upd S.2.1 S.1.toNatClampNeg (a1 / (100 : Int32))), (upd S.2.2.1 S.1.toNatClampNeg (a1 - a1 / (100 : Int32) * (100 : Int32))), (upd S.2.2.2.1 S.1.toNatClampNeg a2), (upd S.2.2.2.2.1 S.1.toNatClampNeg a3), S.2.2.2.2.2.1, S.2.2.2.2.2.2.1, S.2.2.2.2.2.2.2.1, S.2.2.2.2.2.2.2.2.1, S.2.2.2.2.2.2.2.2.2.1, S.2.2.2.2.2.2.2.2.2.2.1, S.2.2.2.2.2.2.2.2.2.2.2.1, S.2.2.2.2.2.2.2.2.2.2.2.2.1, S.2.2.2.2.2.2.2.2.2.2.2.2.2.1, S.2.2.2.2.2.2.2.2.2.2.2.2.2.2.1, S.2.2.2.2.2.2.2.2.2.2.2.2.2.2.2.1, S.2.2.2.2.2.2.2.2.2.2.2.2.2.2.2.2.1, S.2.2.2.2.2.2.2.2.2.2.2.2.2.2.2.2.2.1, S.2.2.2.2.2.2.2.2.2.2.2.2.2.2.2.2.2.2)) H := hP
                    refine lv_aload_n F.1 F.2.1 dX6_row_145 rfl (lv_at hl 1 rfl) ?_
                    refine va_get (D := D) (ci := 4) (v := .ref (ad 5)) (C := RX6) (T := TX6) (N := 19) F.1 F.2.1 F.2.2.2.2 vX6_row_X6 F.2.2.2.1 hz.1 hP 0 rfl rfl 5 (by decide) (F.2.2.2.2 _ uX6_row_6) (fun _ h9 => h9) rfl dX6_row_146 ?_
                    refine lv_aload_n F.1 F.2.1 dX6_row_149 rfl (lv_at hl 1 rfl) ?_
                    refine va_get (D := D) (ci := 4) (v := .int S.1) (C := RX6) (T := TX6) (N := 19) F.1 F.2.1 F.2.2.2.2 vX6_row_X6 F.2.2.2.1 hz.1 hP 0 rfl rfl 0 (by decide) (F.2.2.2.2 _ uX6_row_1) (fun _ h9 => h9) rfl dX6_row_150 ?_
                    refine lv_iload F.1 F.2.1 dX6_row_153 (lv_at hl 5 rfl) ?_
                    refine va_iast F.1 F.2.1 hz.1 hP (hD _) hS 5 0 rfl rfl h.1 dX6_row_155 (fun H locs hP _ hS => ?_)
                    have h := h.2
                    have hP : va_P D vwCl (w6 ad cI cZ (S.1, (upd S.2.1 S.1.toNatClampNeg (a1 / (100 : Int32))), (upd S.2.2.1 S.1.toNatClampNeg (a1 - a1 / (100 : Int32) * (100 : Int32))), (upd S.2.2.2.1 S.1.toNatClampNeg a2), (upd S.2.2.2.2.1 S.1.toNatClampNeg a3), (upd S.2.2.2.2.2.1 S.1.toNatClampNeg a4), S.2.2.2.2.2.2.1, S.2.2.2.2.2.2.2.1, S.2.2.2.2.2.2.2.2.1, S.2.2.2.2.2.2.2.2.2.1, S.2.2.2.2.2.2.2.2.2.2.1, S.2.2.2.2.2.2.2.2.2.2.2.1, S.2.2.2.2.2.2.2.2.2.2.2.2.1, S.2.2.2.2.2.2.2.2.2.2.2.2.2.1, S.2.2.2.2.2.2.2.2.2.2.2.2.2.2.1, S.2.2.2.2.2.2.2.2.2.2.2.2.2.2.2.1, S.2.2.2.2.2.2.2.2.2.2.2.2.2.2.2.2.1, S.2.2.2.2.2.2.2.2.2.2.2.2.2.2.2.2.2.1, S.2.2.2.2.2.2.2.2.2.2.2.2.2.2.2.2.2.2)) H := hP
                    refine lv_iconst (v := (0 : Int32)) F.1 F.2.1 dX6_row_156 (by decide) ?_
                    refine lv_istore (lv' := [(7, .int (0 : Int32)), (6, .int (1 : Int32)), (0, .ref (ad 0)), (1, .int a1), (2, .int a2), (3, .int a3), (4, .int a4), (5, .int a5)]) F.1 F.2.1 dX6_row_157 hl (by decide) rfl (fun ls hl => ?_)
                    obtain ⟨nn, h⟩ := h
                    refine kX6_row_159 F hz hD hA (fun ⟨x7, S⟩ h H locs hP hS ls hl => ?_) nn _ h _ _ hP hS ls (lv_sub hl [2, 7, 0] rfl)
                    refine lv_aload_n F.1 F.2.1 dX6_row_195 rfl (lv_at hl 0 rfl) ?_
                    refine lv_dup F.1 F.2.1 dX6_row_196 rfl ?_
                    refine va_get (D := D) (ci := 4) (v := .int S.1) (C := RX6) (T := TX6) (N := 19) F.1 F.2.1 F.2.2.2.2 vX6_row_X6 F.2.2.2.1 hz.1 hP 0 rfl rfl 0 (by decide) (F.2.2.2.2 _ uX6_row_1) (fun _ h9 => h9) rfl dX6_row_197 ?_
                    refine lv_iconst (v := (1 : Int32)) F.1 F.2.1 dX6_row_200 (by decide) ?_
                    refine lv_iadd F.1 F.2.1 dX6_row_201 ?_
                    refine va_put (D := D) (ci := 4) (v := .int (S.1 + (1 : Int32))) (ty := .int) (C := RX6) (T := TX6) (N := 19) F.1 F.2.1 F.2.2.2.2 vX6_row_X6 tyX6 tyX6_ok nmX6 F.2.2.2.1 hz.1 hP (hD _) hS 0 rfl rfl 0 (by decide) (F.2.2.2.2 _ uX6_row_1) (fun _ h9 => h9) rfl (by decide +kernel) rfl rfl (Nat.le_of_ble_eq_true rfl) dX6_row_202 (fun H locs hP _ hS => ?_)
                    have hP : va_P D vwCl (w6 ad cI cZ (S.1 + (1 : Int32), S.2.1, S.2.2.1, S.2.2.2.1, S.2.2.2.2.1, S.2.2.2.2.2.1, S.2.2.2.2.2.2.1, S.2.2.2.2.2.2.2.1, S.2.2.2.2.2.2.2.2.1, S.2.2.2.2.2.2.2.2.2.1, S.2.2.2.2.2.2.2.2.2.2.1, S.2.2.2.2.2.2.2.2.2.2.2.1, S.2.2.2.2.2.2.2.2.2.2.2.2.1, S.2.2.2.2.2.2.2.2.2.2.2.2.2.1, S.2.2.2.2.2.2.2.2.2.2.2.2.2.2.1, S.2.2.2.2.2.2.2.2.2.2.2.2.2.2.2.1, S.2.2.2.2.2.2.2.2.2.2.2.2.2.2.2.2.1, S.2.2.2.2.2.2.2.2.2.2.2.2.2.2.2.2.2.1, S.2.2.2.2.2.2.2.2.2.2.2.2.2.2.2.2.2.2)) H := hP
                    refine lv_aload_n F.1 F.2.1 dX6_row_205 rfl (lv_at hl 0 rfl) ?_
                    refine va_get (D := D) (ci := 4) (v := .int (S.1 + (1 : Int32))) (C := RX6) (T := TX6) (N := 19) F.1 F.2.1 F.2.2.2.2 vX6_row_X6 F.2.2.2.1 hz.1 hP 0 rfl rfl 0 (by decide) (F.2.2.2.2 _ uX6_row_1) (fun _ h9 => h9) rfl dX6_row_206 ?_
                    refine lv_iconst (v := (1 : Int32)) F.1 F.2.1 dX6_row_209 (by decide) ?_
                    refine lv_isub F.1 F.2.1 dX6_row_210 ?_
                    exact hret _ _ _ _ _ _ h hP hS dX6_row_211
                  · have h := h.1 (hc)
                    refine lv_bipush (v := (-2 : Int32)) F.1 F.2.1 dX6_row_96 (by decide) ?_
                    exact hret _ _ _ _ _ _ h hP hS dX6_row_98
                · exact absurd hc (by decide)
theorem mX6_row {l : Launch} {D : va_G} {cI cJ cZ : ClassId} {ad : Nat → Nat} {S : S6} {a1 : Int32} {a2 : Int32} {a3 : Int32} {a4 : Int32} {a5 : Int32} {Q : Int32 → S6 → Prop} (sz : Nat) (h : wX6_row S a1 a2 a3 a4 a5 Q) : Met l yX6_row wsX6_row rX6_row (va_Pc [.ref (ad 0), .int a1, .int a2, .int a3, .int a4, .int a5] (wp D cI cJ cZ sz (w6 ad cI cZ S))) (wQi D (w6 ad cI cZ) S sz Q) 0 0 (va_A (w6 ad cI cZ S) sz) :=
  enter_wi (wf := w6 ad cI cZ) (fun _ => rfl) (by decide +kernel) rfl (Nat.le_of_ble_eq_true rfl) (fun p e s m args below meth c QQ A F hz hD hA hP hret => bX6_row F hz hD hA hret hP h)
abbrev rX6_right : Room := { frames := 2, cells := 0, slots := 0, locals := 43 }
theorem kV_X6_right : yX6_right.cls = RX6 ∧ yX6_right.cls ≠ "java/lang/invoke/MethodHandle" ∧ yX6_right.cls ≠ "java/lang/invoke/VarHandle" ∧ (parseMethodDescriptor yX6_right.desc).map (fun d => d.parameters.length) = some 3 := by decide +kernel
theorem vX6_right_X6 : ∀ w ∈ wsX60, w ∈ wsX6_right := fun _ h => List.mem_cons_of_mem _ (List.mem_append_right _ h)
theorem uX6_right_1 : Cond.fieldLink RX6 16 "SumMovedModel" "top" "[I" ∈ wsX6_right := List.mem_of_getElem? (i := 1) rfl
theorem uX6_right_2 : Cond.fieldLink RX6 19 "SumMovedModel" "base" "[I" ∈ wsX6_right := List.mem_of_getElem? (i := 2) rfl
set_option maxRecDepth 100000 in
theorem bX6_right {a1 : Int32} {a2 : Int32} {a3 : Int32} {S : S6} {Q : Int32 → S6 → Prop} (F : CallFix p m c cX6_right 4 s args wsX6_right RX6) (hz : gz D cI cJ cZ s) (hD : ∀ u : S6, va_D A (w6 ad cI cZ u)) (hA : ∀ q : Nat, s.heap.size ≤ q → A q) (hret : ∀ (v : Int32) (u : S6) (H : Heap) (locs : List Loc) (pc : Nat) (ls : Array Slot), Q v u → va_P D vwCl (w6 ad cI cZ u) H → va_S A s.heap H locs → decode cX6_right pc = .ok (.ireturn, 1) → W p l e rX6_right s m args below meth c H locs 0 0 QQ (F0 m pc ls [.int v])) (hP : va_P D vwCl (w6 ad cI cZ S) s.heap) (h : wX6_right S a1 a2 a3 Q) : ∀ ls : Array Slot, lv_has ls 4 [(0, .ref (ad 0)), (1, .int a1), (2, .int a2), (3, .int a3)] → W p l e rX6_right s m args below meth c s.heap [] 0 0 QQ (F0 m 0 ls []) := by
  intro ls hl
  have hS : va_S A s.heap s.heap [] := va_S.rf
  refine lv_aload_n F.1 F.2.1 dX6_right_0 rfl (lv_at hl 0 rfl) ?_
  refine lv_iload_n F.1 F.2.1 dX6_right_1 rfl (lv_at hl 1 rfl) ?_
  refine vp_callSi (va_Run.run (va_runV (As := [.int a1]) (rest := []) F (mX6_isRow (l := l) (D := D) (cI := cI) (cJ := cJ) (cZ := cZ) (ad := ad) h) (cwV 1 F.2.2.2.2 gX6_right_X6_isRow rfl rfl rfl kV_X6_isRow ⟨Nat.le_of_ble_eq_true rfl, Nat.le_of_ble_eq_true rfl⟩) ⟨rp_blind, va_recv hz.1 hP (ci := 4) (q0 := 0) rfl rfl, rp_pre hz hP (.ref (ad 0) :: [.int a1])⟩ rfl rfl hl.1 rfl (lv_room (Nat.le_of_ble_eq_true rfl)) dX6_right_2 ⟨Nat.le_of_ble_eq_true rfl, Nat.le_of_ble_eq_true rfl⟩)) (fun r_1 h => ?_)
  obtain ⟨hbr_1, h⟩ := h
  refine lv_if_eq (tgt := 29) F.1 F.2.1 dX6_right_5 (by decide) (fun hc => ?_) (fun hc => ?_)
  · have h := h.1 (hc)
    refine lv_iconst (v := (-1 : Int32)) F.1 F.2.1 dX6_right_29 (by decide) ?_
    exact hret _ _ _ _ _ _ h hP hS dX6_right_30
  · have h := h.2 hc
    refine lv_iload_n F.1 F.2.1 dX6_right_8 rfl (lv_at hl 2 rfl) ?_
    refine lv_bipush (v := (-99 : Int32)) F.1 F.2.1 dX6_right_9 (by decide) ?_
    refine lv_bipush (v := (99 : Int32)) F.1 F.2.1 dX6_right_11 (by decide) ?_
    refine vp_callSi (va_Run.run (va_runS (As := [.int a2, .int (-99 : Int32), .int (99 : Int32)]) (rest := []) F (mX6_in (l := l) (D := D) (cI := cI) (cJ := cJ) (cZ := cZ) h) (va_cwS 3 F.2.2.2.2 gX6_right_X6_in rfl rfl rfl kS_X6_in ⟨Nat.le_of_ble_eq_true rfl, Nat.le_of_ble_eq_true rfl⟩) ⟨rp_blind, rp_pre hz (hP.sub (ws' := []) [] rfl) [.int a2, .int (-99 : Int32), .int (99 : Int32)]⟩ rfl rfl hl.1 rfl (lv_room (Nat.le_of_ble_eq_true rfl)) dX6_right_13 ⟨Nat.le_of_ble_eq_true rfl, Nat.le_of_ble_eq_true rfl⟩)) (fun r_2 h => ?_)
    obtain ⟨hbr_2, h⟩ := h
    refine lv_if_eq (tgt := 29) F.1 F.2.1 dX6_right_16 (by decide) (fun hc => ?_) (fun hc => ?_)
    · have h := h.1 (hc)
      refine lv_iconst (v := (-1 : Int32)) F.1 F.2.1 dX6_right_29 (by decide) ?_
      exact hret _ _ _ _ _ _ h hP hS dX6_right_30
    · have h := h.2 hc
      refine lv_iload_n F.1 F.2.1 dX6_right_19 rfl (lv_at hl 3 rfl) ?_
      refine lv_iconst (v := (0 : Int32)) F.1 F.2.1 dX6_right_20 (by decide) ?_
      refine lv_bipush (v := (9 : Int32)) F.1 F.2.1 dX6_right_21 (by decide) ?_
      refine vp_callSi (va_Run.run (va_runS (As := [.int a3, .int (0 : Int32), .int (9 : Int32)]) (rest := []) F (mX6_in (l := l) (D := D) (cI := cI) (cJ := cJ) (cZ := cZ) h) (va_cwS 3 F.2.2.2.2 gX6_right_X6_in rfl rfl rfl kS_X6_in ⟨Nat.le_of_ble_eq_true rfl, Nat.le_of_ble_eq_true rfl⟩) ⟨rp_blind, rp_pre hz (hP.sub (ws' := []) [] rfl) [.int a3, .int (0 : Int32), .int (9 : Int32)]⟩ rfl rfl hl.1 rfl (lv_room (Nat.le_of_ble_eq_true rfl)) dX6_right_23 ⟨Nat.le_of_ble_eq_true rfl, Nat.le_of_ble_eq_true rfl⟩)) (fun r_3 h => ?_)
      obtain ⟨hbr_3, h⟩ := h
      refine lv_if_ne (tgt := 31) F.1 F.2.1 dX6_right_26 (by decide) (fun hc => ?_) (fun hc => ?_)
      · have h := h.2 hc
        refine lv_aload_n F.1 F.2.1 dX6_right_31 rfl (lv_at hl 0 rfl) ?_
        refine va_get (D := D) (ci := 4) (v := .ref (ad 3)) (C := RX6) (T := TX6) (N := 19) F.1 F.2.1 F.2.2.2.2 vX6_right_X6 F.2.2.2.1 hz.1 hP 0 rfl rfl 3 (by decide) (F.2.2.2.2 _ uX6_right_1) (fun _ h9 => h9) rfl dX6_right_32 ?_
        refine lv_iload_n F.1 F.2.1 dX6_right_35 rfl (lv_at hl 1 rfl) ?_
        refine lv_iload_n F.1 F.2.1 dX6_right_36 rfl (lv_at hl 2 rfl) ?_
        refine va_iast F.1 F.2.1 hz.1 hP (hD _) hS 3 0 rfl rfl h.1 dX6_right_37 (fun H locs hP _ hS => ?_)
        have h := h.2
        have hP : va_P D vwCl (w6 ad cI cZ (S.1, S.2.1, S.2.2.1, (upd S.2.2.2.1 a1.toNatClampNeg a2), S.2.2.2.2.1, S.2.2.2.2.2.1, S.2.2.2.2.2.2.1, S.2.2.2.2.2.2.2.1, S.2.2.2.2.2.2.2.2.1, S.2.2.2.2.2.2.2.2.2.1, S.2.2.2.2.2.2.2.2.2.2.1, S.2.2.2.2.2.2.2.2.2.2.2.1, S.2.2.2.2.2.2.2.2.2.2.2.2.1, S.2.2.2.2.2.2.2.2.2.2.2.2.2.1, S.2.2.2.2.2.2.2.2.2.2.2.2.2.2.1, S.2.2.2.2.2.2.2.2.2.2.2.2.2.2.2.1, S.2.2.2.2.2.2.2.2.2.2.2.2.2.2.2.2.1, S.2.2.2.2.2.2.2.2.2.2.2.2.2.2.2.2.2.1, S.2.2.2.2.2.2.2.2.2.2.2.2.2.2.2.2.2.2)) H := hP
        refine lv_aload_n F.1 F.2.1 dX6_right_38 rfl (lv_at hl 0 rfl) ?_
        refine va_get (D := D) (ci := 4) (v := .ref (ad 4)) (C := RX6) (T := TX6) (N := 19) F.1 F.2.1 F.2.2.2.2 vX6_right_X6 F.2.2.2.1 hz.1 hP 0 rfl rfl 4 (by decide) (F.2.2.2.2 _ uX6_right_2) (fun _ h9 => h9) rfl dX6_right_39 ?_
        refine lv_iload_n F.1 F.2.1 dX6_right_42 rfl (lv_at hl 1 rfl) ?_
        refine lv_iload_n F.1 F.2.1 dX6_right_43 rfl (lv_at hl 3 rfl) ?_
        refine va_iast F.1 F.2.1 hz.1 hP (hD _) hS 4 0 rfl rfl h.1 dX6_right_44 (fun H locs hP _ hS => ?_)
        have h := h.2
        have hP : va_P D vwCl (w6 ad cI cZ (S.1, S.2.1, S.2.2.1, (upd S.2.2.2.1 a1.toNatClampNeg a2), (upd S.2.2.2.2.1 a1.toNatClampNeg a3), S.2.2.2.2.2.1, S.2.2.2.2.2.2.1, S.2.2.2.2.2.2.2.1, S.2.2.2.2.2.2.2.2.1, S.2.2.2.2.2.2.2.2.2.1, S.2.2.2.2.2.2.2.2.2.2.1, S.2.2.2.2.2.2.2.2.2.2.2.1, S.2.2.2.2.2.2.2.2.2.2.2.2.1, S.2.2.2.2.2.2.2.2.2.2.2.2.2.1, S.2.2.2.2.2.2.2.2.2.2.2.2.2.2.1, S.2.2.2.2.2.2.2.2.2.2.2.2.2.2.2.1, S.2.2.2.2.2.2.2.2.2.2.2.2.2.2.2.2.1, S.2.2.2.2.2.2.2.2.2.2.2.2.2.2.2.2.2.1, S.2.2.2.2.2.2.2.2.2.2.2.2.2.2.2.2.2.2)) H := hP
        refine lv_iconst (v := (1 : Int32)) F.1 F.2.1 dX6_right_45 (by decide) ?_
        exact hret _ _ _ _ _ _ h hP hS dX6_right_46
      · have h := h.1 (hc)
        refine lv_iconst (v := (-1 : Int32)) F.1 F.2.1 dX6_right_29 (by decide) ?_
        exact hret _ _ _ _ _ _ h hP hS dX6_right_30
theorem mX6_right {l : Launch} {D : va_G} {cI cJ cZ : ClassId} {ad : Nat → Nat} {S : S6} {a1 : Int32} {a2 : Int32} {a3 : Int32} {Q : Int32 → S6 → Prop} (sz : Nat) (h : wX6_right S a1 a2 a3 Q) : Met l yX6_right wsX6_right rX6_right (va_Pc [.ref (ad 0), .int a1, .int a2, .int a3] (wp D cI cJ cZ sz (w6 ad cI cZ S))) (wQi D (w6 ad cI cZ) S sz Q) 0 0 (va_A (w6 ad cI cZ S) sz) :=
  enter_wi (wf := w6 ad cI cZ) (fun _ => rfl) (by decide +kernel) rfl (Nat.le_of_ble_eq_true rfl) (fun p e s m args below meth c QQ A F hz hD hA hP hret => bX6_right F hz hD hA hret hP h)
abbrev rX6_strike : Room := { frames := 2, cells := 0, slots := 0, locals := 43 }
theorem kV_X6_strike : yX6_strike.cls = RX6 ∧ yX6_strike.cls ≠ "java/lang/invoke/MethodHandle" ∧ yX6_strike.cls ≠ "java/lang/invoke/VarHandle" ∧ (parseMethodDescriptor yX6_strike.desc).map (fun d => d.parameters.length) = some 2 := by decide +kernel
theorem vX6_strike_X6 : ∀ w ∈ wsX60, w ∈ wsX6_strike := fun _ h => List.mem_cons_of_mem _ (List.mem_append_right _ h)
theorem uX6_strike_1 : Cond.fieldLink RX6 28 "SumMovedModel" "isStruck" "[Z" ∈ wsX6_strike := List.mem_of_getElem? (i := 1) rfl
set_option maxRecDepth 100000 in
theorem bX6_strike {a1 : Int32} {a2 : Int32} {S : S6} {Q : Int32 → S6 → Prop} (F : CallFix p m c cX6_strike 4 s args wsX6_strike RX6) (hz : gz D cI cJ cZ s) (hD : ∀ u : S6, va_D A (w6 ad cI cZ u)) (hA : ∀ q : Nat, s.heap.size ≤ q → A q) (hret : ∀ (v : Int32) (u : S6) (H : Heap) (locs : List Loc) (pc : Nat) (ls : Array Slot), Q v u → va_P D vwCl (w6 ad cI cZ u) H → va_S A s.heap H locs → decode cX6_strike pc = .ok (.ireturn, 1) → W p l e rX6_strike s m args below meth c H locs 0 0 QQ (F0 m pc ls [.int v])) (hP : va_P D vwCl (w6 ad cI cZ S) s.heap) (h : wX6_strike S a1 a2 Q) : ∀ ls : Array Slot, lv_has ls 4 [(0, .ref (ad 0)), (1, .int a1), (2, .int a2)] → W p l e rX6_strike s m args below meth c s.heap [] 0 0 QQ (F0 m 0 ls []) := by
  intro ls hl
  have hS : va_S A s.heap s.heap [] := va_S.rf
  refine lv_aload_n F.1 F.2.1 dX6_strike_0 rfl (lv_at hl 0 rfl) ?_
  refine lv_iload_n F.1 F.2.1 dX6_strike_1 rfl (lv_at hl 1 rfl) ?_
  refine vp_callSi (va_Run.run (va_runV (As := [.int a1]) (rest := []) F (mX6_isRow (l := l) (D := D) (cI := cI) (cJ := cJ) (cZ := cZ) (ad := ad) h) (cwV 1 F.2.2.2.2 gX6_strike_X6_isRow rfl rfl rfl kV_X6_isRow ⟨Nat.le_of_ble_eq_true rfl, Nat.le_of_ble_eq_true rfl⟩) ⟨rp_blind, va_recv hz.1 hP (ci := 4) (q0 := 0) rfl rfl, rp_pre hz hP (.ref (ad 0) :: [.int a1])⟩ rfl rfl hl.1 rfl (lv_room (Nat.le_of_ble_eq_true rfl)) dX6_strike_2 ⟨Nat.le_of_ble_eq_true rfl, Nat.le_of_ble_eq_true rfl⟩)) (fun r_1 h => ?_)
  obtain ⟨hbr_1, h⟩ := h
  refine lv_if_eq (tgt := 17) F.1 F.2.1 dX6_strike_5 (by decide) (fun hc => ?_) (fun hc => ?_)
  · have h := h.1 (hc)
    refine lv_iconst (v := (-1 : Int32)) F.1 F.2.1 dX6_strike_17 (by decide) ?_
    exact hret _ _ _ _ _ _ h hP hS dX6_strike_18
  · have h := h.2 hc
    refine lv_iload_n F.1 F.2.1 dX6_strike_8 rfl (lv_at hl 2 rfl) ?_
    refine lv_iconst (v := (0 : Int32)) F.1 F.2.1 dX6_strike_9 (by decide) ?_
    refine lv_iconst (v := (1 : Int32)) F.1 F.2.1 dX6_strike_10 (by decide) ?_
    refine vp_callSi (va_Run.run (va_runS (As := [.int a2, .int (0 : Int32), .int (1 : Int32)]) (rest := []) F (mX6_in (l := l) (D := D) (cI := cI) (cJ := cJ) (cZ := cZ) h) (va_cwS 3 F.2.2.2.2 gX6_strike_X6_in rfl rfl rfl kS_X6_in ⟨Nat.le_of_ble_eq_true rfl, Nat.le_of_ble_eq_true rfl⟩) ⟨rp_blind, rp_pre hz (hP.sub (ws' := []) [] rfl) [.int a2, .int (0 : Int32), .int (1 : Int32)]⟩ rfl rfl hl.1 rfl (lv_room (Nat.le_of_ble_eq_true rfl)) dX6_strike_11 ⟨Nat.le_of_ble_eq_true rfl, Nat.le_of_ble_eq_true rfl⟩)) (fun r_2 h => ?_)
    obtain ⟨hbr_2, h⟩ := h
    refine lv_if_ne (tgt := 19) F.1 F.2.1 dX6_strike_14 (by decide) (fun hc => ?_) (fun hc => ?_)
    · have h := h.2 hc
      refine lv_aload_n F.1 F.2.1 dX6_strike_19 rfl (lv_at hl 0 rfl) ?_
      refine va_get (D := D) (ci := 4) (v := .ref (ad 7)) (C := RX6) (T := TX6) (N := 19) F.1 F.2.1 F.2.2.2.2 vX6_strike_X6 F.2.2.2.1 hz.1 hP 0 rfl rfl 7 (by decide) (F.2.2.2.2 _ uX6_strike_1) (fun _ h9 => h9) rfl dX6_strike_20 ?_
      refine lv_iload_n F.1 F.2.1 dX6_strike_23 rfl (lv_at hl 1 rfl) ?_
      refine va_zald F.1 F.2.1 hz.1 hP 7 2 rfl rfl h.1 dX6_strike_24 ?_
      have h := h.2
      refine lv_if_eq (tgt := 32) F.1 F.2.1 dX6_strike_25 (by decide) (fun hc => ?_) (fun hc => ?_)
      · have h := h.1 (hc)
        refine lv_iconst (v := (0 : Int32)) F.1 F.2.1 dX6_strike_32 (by decide) ?_
        refine lv_istore_n (lv' := [(3, .int (0 : Int32)), (0, .ref (ad 0)), (1, .int a1), (2, .int a2)]) F.1 F.2.1 dX6_strike_33 rfl hl (by decide) rfl (fun ls hl => ?_)
        refine lv_aload_n F.1 F.2.1 dX6_strike_34 rfl (lv_at hl 1 rfl) ?_
        refine va_get (D := D) (ci := 4) (v := .ref (ad 7)) (C := RX6) (T := TX6) (N := 19) F.1 F.2.1 F.2.2.2.2 vX6_strike_X6 F.2.2.2.1 hz.1 hP 0 rfl rfl 7 (by decide) (F.2.2.2.2 _ uX6_strike_1) (fun _ h9 => h9) rfl dX6_strike_35 ?_
        refine lv_iload_n F.1 F.2.1 dX6_strike_38 rfl (lv_at hl 2 rfl) ?_
        refine lv_iload_n F.1 F.2.1 dX6_strike_39 rfl (lv_at hl 3 rfl) ?_
        refine lv_iconst (v := (1 : Int32)) F.1 F.2.1 dX6_strike_40 (by decide) ?_
        refine lv_icmp_ne (tgt := 48) F.1 F.2.1 dX6_strike_41 (by decide) (fun hc => ?_) (fun hc => ?_)
        · have h := h.2 hc
          refine lv_iconst (v := (0 : Int32)) F.1 F.2.1 dX6_strike_48 (by decide) ?_
          refine va_zast F.1 F.2.1 hz.1 hP (hD _) hS 7 2 rfl rfl h.1 dX6_strike_49 (fun H locs hP _ hS => ?_)
          have h := h.2
          have hP : va_P D vwCl (w6 ad cI cZ (S.1, S.2.1, S.2.2.1, S.2.2.2.1, S.2.2.2.2.1, S.2.2.2.2.2.1, S.2.2.2.2.2.2.1, (upd S.2.2.2.2.2.2.2.1 a1.toNatClampNeg (vp_nar .boolean (0 : Int32))), S.2.2.2.2.2.2.2.2.1, S.2.2.2.2.2.2.2.2.2.1, S.2.2.2.2.2.2.2.2.2.2.1, S.2.2.2.2.2.2.2.2.2.2.2.1, S.2.2.2.2.2.2.2.2.2.2.2.2.1, S.2.2.2.2.2.2.2.2.2.2.2.2.2.1, S.2.2.2.2.2.2.2.2.2.2.2.2.2.2.1, S.2.2.2.2.2.2.2.2.2.2.2.2.2.2.2.1, S.2.2.2.2.2.2.2.2.2.2.2.2.2.2.2.2.1, S.2.2.2.2.2.2.2.2.2.2.2.2.2.2.2.2.2.1, S.2.2.2.2.2.2.2.2.2.2.2.2.2.2.2.2.2.2)) H := hP
          refine lv_iload_n F.1 F.2.1 dX6_strike_50 rfl (lv_at hl 0 rfl) ?_
          exact hret _ _ _ _ _ _ h hP hS dX6_strike_51
        · have h := h.1 (hc)
          refine lv_iconst (v := (1 : Int32)) F.1 F.2.1 dX6_strike_44 (by decide) ?_
          refine lv_goto (tgt := 49) F.1 F.2.1 dX6_strike_45 (by decide) ?_
          refine va_zast F.1 F.2.1 hz.1 hP (hD _) hS 7 2 rfl rfl h.1 dX6_strike_49 (fun H locs hP _ hS => ?_)
          have h := h.2
          have hP : va_P D vwCl (w6 ad cI cZ (S.1, S.2.1, S.2.2.1, S.2.2.2.1, S.2.2.2.2.1, S.2.2.2.2.2.1, S.2.2.2.2.2.2.1, (upd S.2.2.2.2.2.2.2.1 a1.toNatClampNeg (vp_nar .boolean (1 : Int32))), S.2.2.2.2.2.2.2.2.1, S.2.2.2.2.2.2.2.2.2.1, S.2.2.2.2.2.2.2.2.2.2.1, S.2.2.2.2.2.2.2.2.2.2.2.1, S.2.2.2.2.2.2.2.2.2.2.2.2.1, S.2.2.2.2.2.2.2.2.2.2.2.2.2.1, S.2.2.2.2.2.2.2.2.2.2.2.2.2.2.1, S.2.2.2.2.2.2.2.2.2.2.2.2.2.2.2.1, S.2.2.2.2.2.2.2.2.2.2.2.2.2.2.2.2.1, S.2.2.2.2.2.2.2.2.2.2.2.2.2.2.2.2.2.1, S.2.2.2.2.2.2.2.2.2.2.2.2.2.2.2.2.2.2)) H := hP
          refine lv_iload_n F.1 F.2.1 dX6_strike_50 rfl (lv_at hl 0 rfl) ?_
          exact hret _ _ _ _ _ _ h hP hS dX6_strike_51
      · have h := h.2 hc
        refine lv_iconst (v := (1 : Int32)) F.1 F.2.1 dX6_strike_28 (by decide) ?_
        refine lv_goto (tgt := 33) F.1 F.2.1 dX6_strike_29 (by decide) ?_
        refine lv_istore_n (lv' := [(3, .int (1 : Int32)), (0, .ref (ad 0)), (1, .int a1), (2, .int a2)]) F.1 F.2.1 dX6_strike_33 rfl hl (by decide) rfl (fun ls hl => ?_)
        refine lv_aload_n F.1 F.2.1 dX6_strike_34 rfl (lv_at hl 1 rfl) ?_
        refine va_get (D := D) (ci := 4) (v := .ref (ad 7)) (C := RX6) (T := TX6) (N := 19) F.1 F.2.1 F.2.2.2.2 vX6_strike_X6 F.2.2.2.1 hz.1 hP 0 rfl rfl 7 (by decide) (F.2.2.2.2 _ uX6_strike_1) (fun _ h9 => h9) rfl dX6_strike_35 ?_
        refine lv_iload_n F.1 F.2.1 dX6_strike_38 rfl (lv_at hl 2 rfl) ?_
        refine lv_iload_n F.1 F.2.1 dX6_strike_39 rfl (lv_at hl 3 rfl) ?_
        refine lv_iconst (v := (1 : Int32)) F.1 F.2.1 dX6_strike_40 (by decide) ?_
        refine lv_icmp_ne (tgt := 48) F.1 F.2.1 dX6_strike_41 (by decide) (fun hc => ?_) (fun hc => ?_)
        · have h := h.2 hc
          refine lv_iconst (v := (0 : Int32)) F.1 F.2.1 dX6_strike_48 (by decide) ?_
          refine va_zast F.1 F.2.1 hz.1 hP (hD _) hS 7 2 rfl rfl h.1 dX6_strike_49 (fun H locs hP _ hS => ?_)
          have h := h.2
          have hP : va_P D vwCl (w6 ad cI cZ (S.1, S.2.1, S.2.2.1, S.2.2.2.1, S.2.2.2.2.1, S.2.2.2.2.2.1, S.2.2.2.2.2.2.1, (upd S.2.2.2.2.2.2.2.1 a1.toNatClampNeg (vp_nar .boolean (0 : Int32))), S.2.2.2.2.2.2.2.2.1, S.2.2.2.2.2.2.2.2.2.1, S.2.2.2.2.2.2.2.2.2.2.1, S.2.2.2.2.2.2.2.2.2.2.2.1, S.2.2.2.2.2.2.2.2.2.2.2.2.1, S.2.2.2.2.2.2.2.2.2.2.2.2.2.1, S.2.2.2.2.2.2.2.2.2.2.2.2.2.2.1, S.2.2.2.2.2.2.2.2.2.2.2.2.2.2.2.1, S.2.2.2.2.2.2.2.2.2.2.2.2.2.2.2.2.1, S.2.2.2.2.2.2.2.2.2.2.2.2.2.2.2.2.2.1, S.2.2.2.2.2.2.2.2.2.2.2.2.2.2.2.2.2.2)) H := hP
          refine lv_iload_n F.1 F.2.1 dX6_strike_50 rfl (lv_at hl 0 rfl) ?_
          exact hret _ _ _ _ _ _ h hP hS dX6_strike_51
        · have h := h.1 (hc)
          refine lv_iconst (v := (1 : Int32)) F.1 F.2.1 dX6_strike_44 (by decide) ?_
          refine lv_goto (tgt := 49) F.1 F.2.1 dX6_strike_45 (by decide) ?_
          refine va_zast F.1 F.2.1 hz.1 hP (hD _) hS 7 2 rfl rfl h.1 dX6_strike_49 (fun H locs hP _ hS => ?_)
          have h := h.2
          have hP : va_P D vwCl (w6 ad cI cZ (S.1, S.2.1, S.2.2.1, S.2.2.2.1, S.2.2.2.2.1, S.2.2.2.2.2.1, S.2.2.2.2.2.2.1, (upd S.2.2.2.2.2.2.2.1 a1.toNatClampNeg (vp_nar .boolean (1 : Int32))), S.2.2.2.2.2.2.2.2.1, S.2.2.2.2.2.2.2.2.2.1, S.2.2.2.2.2.2.2.2.2.2.1, S.2.2.2.2.2.2.2.2.2.2.2.1, S.2.2.2.2.2.2.2.2.2.2.2.2.1, S.2.2.2.2.2.2.2.2.2.2.2.2.2.1, S.2.2.2.2.2.2.2.2.2.2.2.2.2.2.1, S.2.2.2.2.2.2.2.2.2.2.2.2.2.2.2.1, S.2.2.2.2.2.2.2.2.2.2.2.2.2.2.2.2.1, S.2.2.2.2.2.2.2.2.2.2.2.2.2.2.2.2.2.1, S.2.2.2.2.2.2.2.2.2.2.2.2.2.2.2.2.2.2)) H := hP
          refine lv_iload_n F.1 F.2.1 dX6_strike_50 rfl (lv_at hl 0 rfl) ?_
          exact hret _ _ _ _ _ _ h hP hS dX6_strike_51
    · have h := h.1 (hc)
      refine lv_iconst (v := (-1 : Int32)) F.1 F.2.1 dX6_strike_17 (by decide) ?_
      exact hret _ _ _ _ _ _ h hP hS dX6_strike_18
theorem mX6_strike {l : Launch} {D : va_G} {cI cJ cZ : ClassId} {ad : Nat → Nat} {S : S6} {a1 : Int32} {a2 : Int32} {Q : Int32 → S6 → Prop} (sz : Nat) (h : wX6_strike S a1 a2 Q) : Met l yX6_strike wsX6_strike rX6_strike (va_Pc [.ref (ad 0), .int a1, .int a2] (wp D cI cJ cZ sz (w6 ad cI cZ S))) (wQi D (w6 ad cI cZ) S sz Q) 0 0 (va_A (w6 ad cI cZ S) sz) :=
  enter_wi (wf := w6 ad cI cZ) (fun _ => rfl) (by decide +kernel) rfl (Nat.le_of_ble_eq_true rfl) (fun p e s m args below meth c QQ A F hz hD hA hP hret => bX6_strike F hz hD hA hret hP h)
abbrev rX6_about : Room := { frames := 2, cells := 0, slots := 0, locals := 43 }
theorem kV_X6_about : yX6_about.cls = RX6 ∧ yX6_about.cls ≠ "java/lang/invoke/MethodHandle" ∧ yX6_about.cls ≠ "java/lang/invoke/VarHandle" ∧ (parseMethodDescriptor yX6_about.desc).map (fun d => d.parameters.length) = some 2 := by decide +kernel
theorem vX6_about_X6 : ∀ w ∈ wsX60, w ∈ wsX6_about := fun _ h => List.mem_cons_of_mem _ (List.mem_append_right _ h)
theorem uX6_about_1 : Cond.fieldLink RX6 7 "SumMovedModel" "month" "[I" ∈ wsX6_about := List.mem_of_getElem? (i := 1) rfl
theorem uX6_about_2 : Cond.fieldLink RX6 13 "SumMovedModel" "day" "[I" ∈ wsX6_about := List.mem_of_getElem? (i := 2) rfl
theorem uX6_about_3 : Cond.fieldLink RX6 16 "SumMovedModel" "top" "[I" ∈ wsX6_about := List.mem_of_getElem? (i := 3) rfl
theorem uX6_about_4 : Cond.fieldLink RX6 19 "SumMovedModel" "base" "[I" ∈ wsX6_about := List.mem_of_getElem? (i := 4) rfl
theorem uX6_about_5 : Cond.fieldLink RX6 22 "SumMovedModel" "member" "[I" ∈ wsX6_about := List.mem_of_getElem? (i := 5) rfl
theorem uX6_about_7 : Cond.fieldLink RX6 25 "SumMovedModel" "mark" "[I" ∈ wsX6_about := List.mem_of_getElem? (i := 7) rfl
theorem uX6_about_6 : Cond.fieldLink RX6 28 "SumMovedModel" "isStruck" "[Z" ∈ wsX6_about := List.mem_of_getElem? (i := 6) rfl
set_option maxRecDepth 100000 in
theorem bX6_about {a1 : Int32} {a2 : Int32} {S : S6} {Q : Int32 → Prop} (F : CallFix p m c cX6_about 3 s args wsX6_about RX6) (hz : gz D cI cJ cZ s) (hP : va_P D vwCl (w6 ad cI cZ S) s.heap) (hret : ∀ (v : Int32) (pc : Nat) (ls : Array Slot), Q v → decode cX6_about pc = .ok (.ireturn, 1) → W p l e rX6_about s m args below meth c s.heap [] 0 0 QQ (F0 m pc ls [.int v])) (h : wX6_about S a1 a2 Q) : ∀ ls : Array Slot, lv_has ls 3 [(0, .ref (ad 0)), (1, .int a1), (2, .int a2)] → W p l e rX6_about s m args below meth c s.heap [] 0 0 QQ (F0 m 0 ls []) := by
  intro ls hl
  refine lv_aload_n F.1 F.2.1 dX6_about_0 rfl (lv_at hl 0 rfl) ?_
  refine lv_iload_n F.1 F.2.1 dX6_about_1 rfl (lv_at hl 1 rfl) ?_
  refine vp_callSi (va_Run.run (va_runV (As := [.int a1]) (rest := []) F (mX6_isRow (l := l) (D := D) (cI := cI) (cJ := cJ) (cZ := cZ) (ad := ad) h) (cwV 1 F.2.2.2.2 gX6_about_X6_isRow rfl rfl rfl kV_X6_isRow ⟨Nat.le_of_ble_eq_true rfl, Nat.le_of_ble_eq_true rfl⟩) ⟨rp_blind, va_recv hz.1 hP (ci := 4) (q0 := 0) rfl rfl, rp_pre hz hP (.ref (ad 0) :: [.int a1])⟩ rfl rfl hl.1 rfl (lv_room (Nat.le_of_ble_eq_true rfl)) dX6_about_2 ⟨Nat.le_of_ble_eq_true rfl, Nat.le_of_ble_eq_true rfl⟩)) (fun r_1 h => ?_)
  obtain ⟨hbr_1, h⟩ := h
  refine lv_if_eq (tgt := 18) F.1 F.2.1 dX6_about_5 (by decide) (fun hc => ?_) (fun hc => ?_)
  · have h := h.1 (hc)
    refine lv_sipush (v := (-1000 : Int32)) F.1 F.2.1 dX6_about_18 (by decide) ?_
    exact hret _ _ _ h dX6_about_21
  · have h := h.2 hc
    refine lv_iload_n F.1 F.2.1 dX6_about_8 rfl (lv_at hl 2 rfl) ?_
    refine lv_iconst (v := (0 : Int32)) F.1 F.2.1 dX6_about_9 (by decide) ?_
    refine lv_bipush (v := (8 : Int32)) F.1 F.2.1 dX6_about_10 (by decide) ?_
    refine vp_callSi (va_Run.run (va_runS (As := [.int a2, .int (0 : Int32), .int (8 : Int32)]) (rest := []) F (mX6_in (l := l) (D := D) (cI := cI) (cJ := cJ) (cZ := cZ) h) (va_cwS 3 F.2.2.2.2 gX6_about_X6_in rfl rfl rfl kS_X6_in ⟨Nat.le_of_ble_eq_true rfl, Nat.le_of_ble_eq_true rfl⟩) ⟨rp_blind, rp_pre hz (hP.sub (ws' := []) [] rfl) [.int a2, .int (0 : Int32), .int (8 : Int32)]⟩ rfl rfl hl.1 rfl (lv_room (Nat.le_of_ble_eq_true rfl)) dX6_about_12 ⟨Nat.le_of_ble_eq_true rfl, Nat.le_of_ble_eq_true rfl⟩)) (fun r_2 h => ?_)
    obtain ⟨hbr_2, h⟩ := h
    refine lv_if_ne (tgt := 22) F.1 F.2.1 dX6_about_15 (by decide) (fun hc => ?_) (fun hc => ?_)
    · have h := h.2 hc
      refine lv_iload_n F.1 F.2.1 dX6_about_22 rfl (lv_at hl 2 rfl) ?_
      by_cases hc0 : a2 = 0
      · have h := h.1 hc0
        refine lv_tableIn (off := 49) (tgt := 72) F.1 F.2.1 dX6_about_23 (by rw [hc0]; decide) (by rw [hc0]; decide) (by rw [hc0]; rfl) (by decide) ?_
        refine lv_aload_n F.1 F.2.1 dX6_about_72 rfl (lv_at hl 0 rfl) ?_
        refine va_get (D := D) (ci := 4) (v := .ref (ad 1)) (C := RX6) (T := TX6) (N := 19) F.1 F.2.1 F.2.2.2.2 vX6_about_X6 F.2.2.2.1 hz.1 hP 0 rfl rfl 1 (by decide) (F.2.2.2.2 _ uX6_about_1) (fun _ h9 => h9) rfl dX6_about_73 ?_
        refine lv_iload_n F.1 F.2.1 dX6_about_76 rfl (lv_at hl 1 rfl) ?_
        refine va_iald F.1 F.2.1 hz.1 hP 1 0 rfl rfl h.1 dX6_about_77 ?_
        have h := h.2
        exact hret _ _ _ h dX6_about_78
      · have h := h.2 hc0
        by_cases hc1 : a2 = 1
        · have h := h.1 hc1
          refine lv_tableIn (off := 56) (tgt := 79) F.1 F.2.1 dX6_about_23 (by rw [hc1]; decide) (by rw [hc1]; decide) (by rw [hc1]; rfl) (by decide) ?_
          refine lv_aload_n F.1 F.2.1 dX6_about_79 rfl (lv_at hl 0 rfl) ?_
          refine va_get (D := D) (ci := 4) (v := .ref (ad 2)) (C := RX6) (T := TX6) (N := 19) F.1 F.2.1 F.2.2.2.2 vX6_about_X6 F.2.2.2.1 hz.1 hP 0 rfl rfl 2 (by decide) (F.2.2.2.2 _ uX6_about_2) (fun _ h9 => h9) rfl dX6_about_80 ?_
          refine lv_iload_n F.1 F.2.1 dX6_about_83 rfl (lv_at hl 1 rfl) ?_
          refine va_iald F.1 F.2.1 hz.1 hP 2 0 rfl rfl h.1 dX6_about_84 ?_
          have h := h.2
          exact hret _ _ _ h dX6_about_85
        · have h := h.2 hc1
          by_cases hc2 : a2 = 2
          · have h := h.1 hc2
            refine lv_tableIn (off := 63) (tgt := 86) F.1 F.2.1 dX6_about_23 (by rw [hc2]; decide) (by rw [hc2]; decide) (by rw [hc2]; rfl) (by decide) ?_
            refine lv_aload_n F.1 F.2.1 dX6_about_86 rfl (lv_at hl 0 rfl) ?_
            refine va_get (D := D) (ci := 4) (v := .ref (ad 3)) (C := RX6) (T := TX6) (N := 19) F.1 F.2.1 F.2.2.2.2 vX6_about_X6 F.2.2.2.1 hz.1 hP 0 rfl rfl 3 (by decide) (F.2.2.2.2 _ uX6_about_3) (fun _ h9 => h9) rfl dX6_about_87 ?_
            refine lv_iload_n F.1 F.2.1 dX6_about_90 rfl (lv_at hl 1 rfl) ?_
            refine va_iald F.1 F.2.1 hz.1 hP 3 0 rfl rfl h.1 dX6_about_91 ?_
            have h := h.2
            exact hret _ _ _ h dX6_about_92
          · have h := h.2 hc2
            by_cases hc3 : a2 = 3
            · have h := h.1 hc3
              refine lv_tableIn (off := 70) (tgt := 93) F.1 F.2.1 dX6_about_23 (by rw [hc3]; decide) (by rw [hc3]; decide) (by rw [hc3]; rfl) (by decide) ?_
              refine lv_aload_n F.1 F.2.1 dX6_about_93 rfl (lv_at hl 0 rfl) ?_
              refine va_get (D := D) (ci := 4) (v := .ref (ad 4)) (C := RX6) (T := TX6) (N := 19) F.1 F.2.1 F.2.2.2.2 vX6_about_X6 F.2.2.2.1 hz.1 hP 0 rfl rfl 4 (by decide) (F.2.2.2.2 _ uX6_about_4) (fun _ h9 => h9) rfl dX6_about_94 ?_
              refine lv_iload_n F.1 F.2.1 dX6_about_97 rfl (lv_at hl 1 rfl) ?_
              refine va_iald F.1 F.2.1 hz.1 hP 4 0 rfl rfl h.1 dX6_about_98 ?_
              have h := h.2
              exact hret _ _ _ h dX6_about_99
            · have h := h.2 hc3
              by_cases hc4 : a2 = 4
              · have h := h.1 hc4
                refine lv_tableIn (off := 77) (tgt := 100) F.1 F.2.1 dX6_about_23 (by rw [hc4]; decide) (by rw [hc4]; decide) (by rw [hc4]; rfl) (by decide) ?_
                refine lv_aload_n F.1 F.2.1 dX6_about_100 rfl (lv_at hl 0 rfl) ?_
                refine va_get (D := D) (ci := 4) (v := .ref (ad 5)) (C := RX6) (T := TX6) (N := 19) F.1 F.2.1 F.2.2.2.2 vX6_about_X6 F.2.2.2.1 hz.1 hP 0 rfl rfl 5 (by decide) (F.2.2.2.2 _ uX6_about_5) (fun _ h9 => h9) rfl dX6_about_101 ?_
                refine lv_iload_n F.1 F.2.1 dX6_about_104 rfl (lv_at hl 1 rfl) ?_
                refine va_iald F.1 F.2.1 hz.1 hP 5 0 rfl rfl h.1 dX6_about_105 ?_
                have h := h.2
                exact hret _ _ _ h dX6_about_106
              · have h := h.2 hc4
                by_cases hc5 : a2 = 5
                · have h := h.1 hc5
                  refine lv_tableIn (off := 99) (tgt := 122) F.1 F.2.1 dX6_about_23 (by rw [hc5]; decide) (by rw [hc5]; decide) (by rw [hc5]; rfl) (by decide) ?_
                  refine lv_aload_n F.1 F.2.1 dX6_about_122 rfl (lv_at hl 0 rfl) ?_
                  refine va_get (D := D) (ci := 4) (v := .ref (ad 6)) (C := RX6) (T := TX6) (N := 19) F.1 F.2.1 F.2.2.2.2 vX6_about_X6 F.2.2.2.1 hz.1 hP 0 rfl rfl 6 (by decide) (F.2.2.2.2 _ uX6_about_7) (fun _ h9 => h9) rfl dX6_about_123 ?_
                  refine lv_iconst (v := (3 : Int32)) F.1 F.2.1 dX6_about_126 (by decide) ?_
                  refine lv_iload_n F.1 F.2.1 dX6_about_127 rfl (lv_at hl 1 rfl) ?_
                  refine lv_imul F.1 F.2.1 dX6_about_128 ?_
                  refine lv_iload_n F.1 F.2.1 dX6_about_129 rfl (lv_at hl 2 rfl) ?_
                  refine lv_iadd F.1 F.2.1 dX6_about_130 ?_
                  refine lv_iconst (v := (5 : Int32)) F.1 F.2.1 dX6_about_131 (by decide) ?_
                  refine lv_isub F.1 F.2.1 dX6_about_132 ?_
                  refine va_iald F.1 F.2.1 hz.1 hP 6 0 rfl rfl h.1 dX6_about_133 ?_
                  have h := h.2
                  exact hret _ _ _ h dX6_about_134
                · have h := h.2 hc5
                  by_cases hc6 : a2 = 6
                  · have h := h.1 hc6
                    refine lv_tableIn (off := 99) (tgt := 122) F.1 F.2.1 dX6_about_23 (by rw [hc6]; decide) (by rw [hc6]; decide) (by rw [hc6]; rfl) (by decide) ?_
                    refine lv_aload_n F.1 F.2.1 dX6_about_122 rfl (lv_at hl 0 rfl) ?_
                    refine va_get (D := D) (ci := 4) (v := .ref (ad 6)) (C := RX6) (T := TX6) (N := 19) F.1 F.2.1 F.2.2.2.2 vX6_about_X6 F.2.2.2.1 hz.1 hP 0 rfl rfl 6 (by decide) (F.2.2.2.2 _ uX6_about_7) (fun _ h9 => h9) rfl dX6_about_123 ?_
                    refine lv_iconst (v := (3 : Int32)) F.1 F.2.1 dX6_about_126 (by decide) ?_
                    refine lv_iload_n F.1 F.2.1 dX6_about_127 rfl (lv_at hl 1 rfl) ?_
                    refine lv_imul F.1 F.2.1 dX6_about_128 ?_
                    refine lv_iload_n F.1 F.2.1 dX6_about_129 rfl (lv_at hl 2 rfl) ?_
                    refine lv_iadd F.1 F.2.1 dX6_about_130 ?_
                    refine lv_iconst (v := (5 : Int32)) F.1 F.2.1 dX6_about_131 (by decide) ?_
                    refine lv_isub F.1 F.2.1 dX6_about_132 ?_
                    refine va_iald F.1 F.2.1 hz.1 hP 6 0 rfl rfl h.1 dX6_about_133 ?_
                    have h := h.2
                    exact hret _ _ _ h dX6_about_134
                  · have h := h.2 hc6
                    by_cases hc7 : a2 = 7
                    · have h := h.1 hc7
                      refine lv_tableIn (off := 99) (tgt := 122) F.1 F.2.1 dX6_about_23 (by rw [hc7]; decide) (by rw [hc7]; decide) (by rw [hc7]; rfl) (by decide) ?_
                      refine lv_aload_n F.1 F.2.1 dX6_about_122 rfl (lv_at hl 0 rfl) ?_
                      refine va_get (D := D) (ci := 4) (v := .ref (ad 6)) (C := RX6) (T := TX6) (N := 19) F.1 F.2.1 F.2.2.2.2 vX6_about_X6 F.2.2.2.1 hz.1 hP 0 rfl rfl 6 (by decide) (F.2.2.2.2 _ uX6_about_7) (fun _ h9 => h9) rfl dX6_about_123 ?_
                      refine lv_iconst (v := (3 : Int32)) F.1 F.2.1 dX6_about_126 (by decide) ?_
                      refine lv_iload_n F.1 F.2.1 dX6_about_127 rfl (lv_at hl 1 rfl) ?_
                      refine lv_imul F.1 F.2.1 dX6_about_128 ?_
                      refine lv_iload_n F.1 F.2.1 dX6_about_129 rfl (lv_at hl 2 rfl) ?_
                      refine lv_iadd F.1 F.2.1 dX6_about_130 ?_
                      refine lv_iconst (v := (5 : Int32)) F.1 F.2.1 dX6_about_131 (by decide) ?_
                      refine lv_isub F.1 F.2.1 dX6_about_132 ?_
                      refine va_iald F.1 F.2.1 hz.1 hP 6 0 rfl rfl h.1 dX6_about_133 ?_
                      have h := h.2
                      exact hret _ _ _ h dX6_about_134
                    · have h := h.2 hc7
                      by_cases hc8 : a2 = 8
                      · have h := h.1 hc8
                        refine lv_tableIn (off := 84) (tgt := 107) F.1 F.2.1 dX6_about_23 (by rw [hc8]; decide) (by rw [hc8]; decide) (by rw [hc8]; rfl) (by decide) ?_
                        refine lv_aload_n F.1 F.2.1 dX6_about_107 rfl (lv_at hl 0 rfl) ?_
                        refine va_get (D := D) (ci := 4) (v := .ref (ad 7)) (C := RX6) (T := TX6) (N := 19) F.1 F.2.1 F.2.2.2.2 vX6_about_X6 F.2.2.2.1 hz.1 hP 0 rfl rfl 7 (by decide) (F.2.2.2.2 _ uX6_about_6) (fun _ h9 => h9) rfl dX6_about_108 ?_
                        refine lv_iload_n F.1 F.2.1 dX6_about_111 rfl (lv_at hl 1 rfl) ?_
                        refine va_zald F.1 F.2.1 hz.1 hP 7 2 rfl rfl h.1 dX6_about_112 ?_
                        have h := h.2
                        refine lv_if_eq (tgt := 120) F.1 F.2.1 dX6_about_113 (by decide) (fun hc => ?_) (fun hc => ?_)
                        · have h := h.1 (hc)
                          refine lv_iconst (v := (0 : Int32)) F.1 F.2.1 dX6_about_120 (by decide) ?_
                          exact hret _ _ _ h dX6_about_121
                        · have h := h.2 hc
                          refine lv_iconst (v := (1 : Int32)) F.1 F.2.1 dX6_about_116 (by decide) ?_
                          refine lv_goto (tgt := 121) F.1 F.2.1 dX6_about_117 (by decide) ?_
                          exact hret _ _ _ h dX6_about_121
                      · have h := h.2 hc8
                        refine lv_tableOut (tgt := 122) F.1 F.2.1 dX6_about_23 (by have := lv_neT hc0 (a := 0) rfl; have := lv_neT hc1 (a := 1) rfl; have := lv_neT hc2 (a := 2) rfl; have := lv_neT hc3 (a := 3) rfl; have := lv_neT hc4 (a := 4) rfl; have := lv_neT hc5 (a := 5) rfl; have := lv_neT hc6 (a := 6) rfl; have := lv_neT hc7 (a := 7) rfl; have := lv_neT hc8 (a := 8) rfl; omega) (by decide) ?_
                        refine lv_aload_n F.1 F.2.1 dX6_about_122 rfl (lv_at hl 0 rfl) ?_
                        refine va_get (D := D) (ci := 4) (v := .ref (ad 6)) (C := RX6) (T := TX6) (N := 19) F.1 F.2.1 F.2.2.2.2 vX6_about_X6 F.2.2.2.1 hz.1 hP 0 rfl rfl 6 (by decide) (F.2.2.2.2 _ uX6_about_7) (fun _ h9 => h9) rfl dX6_about_123 ?_
                        refine lv_iconst (v := (3 : Int32)) F.1 F.2.1 dX6_about_126 (by decide) ?_
                        refine lv_iload_n F.1 F.2.1 dX6_about_127 rfl (lv_at hl 1 rfl) ?_
                        refine lv_imul F.1 F.2.1 dX6_about_128 ?_
                        refine lv_iload_n F.1 F.2.1 dX6_about_129 rfl (lv_at hl 2 rfl) ?_
                        refine lv_iadd F.1 F.2.1 dX6_about_130 ?_
                        refine lv_iconst (v := (5 : Int32)) F.1 F.2.1 dX6_about_131 (by decide) ?_
                        refine lv_isub F.1 F.2.1 dX6_about_132 ?_
                        refine va_iald F.1 F.2.1 hz.1 hP 6 0 rfl rfl h.1 dX6_about_133 ?_
                        have h := h.2
                        exact hret _ _ _ h dX6_about_134
    · have h := h.1 (hc)
      refine lv_sipush (v := (-1000 : Int32)) F.1 F.2.1 dX6_about_18 (by decide) ?_
      exact hret _ _ _ h dX6_about_21
theorem mX6_about {l : Launch} {D : va_G} {cI cJ cZ : ClassId} {ad : Nat → Nat} {S : S6} {a1 : Int32} {a2 : Int32} {Q : Int32 → Prop} (h : wX6_about S a1 a2 Q) : Met l yX6_about wsX6_about rX6_about (va_Pc [.ref (ad 0), .int a1, .int a2] (rp D cI cJ cZ (w6 ad cI cZ S))) (vp_Si Q) 0 0 (fun _ => False) :=
  enter_i (by decide +kernel) rfl (Nat.le_of_ble_eq_true rfl) (fun p e s m args below meth c QQ F hz hret => bX6_about F hz.1 hz.2 hret h)
abbrev rX6_sum : Room := { frames := 4, cells := 0, slots := 0, locals := 95 }
theorem kV_X6_sum : yX6_sum.cls = RX6 ∧ yX6_sum.cls ≠ "java/lang/invoke/MethodHandle" ∧ yX6_sum.cls ≠ "java/lang/invoke/VarHandle" ∧ (parseMethodDescriptor yX6_sum.desc).map (fun d => d.parameters.length) = some 3 := by decide +kernel
theorem uX6_sum_1 : Cond.constant RX6 83 (-1000000) ∈ wsX6_sum := List.mem_of_getElem? (i := 1) rfl
set_option maxRecDepth 100000 in
theorem bX6_sum {a1 : Int32} {a2 : Int32} {a3 : Int32} {S : S6} {Q : Int32 → Prop} (F : CallFix p m c cX6_sum 4 s args wsX6_sum RX6) (hz : gz D cI cJ cZ s) (hP : va_P D vwCl (w6 ad cI cZ S) s.heap) (hret : ∀ (v : Int32) (pc : Nat) (ls : Array Slot), Q v → decode cX6_sum pc = .ok (.ireturn, 1) → W p l e rX6_sum s m args below meth c s.heap [] 0 0 QQ (F0 m pc ls [.int v])) (h : wX6_sum S a1 a2 a3 Q) : ∀ ls : Array Slot, lv_has ls 4 [(0, .ref (ad 0)), (1, .int a1), (2, .int a2), (3, .int a3)] → W p l e rX6_sum s m args below meth c s.heap [] 0 0 QQ (F0 m 0 ls []) := by
  intro ls hl
  refine lv_iload_n F.1 F.2.1 dX6_sum_0 rfl (lv_at hl 1 rfl) ?_
  refine vp_callSi (va_Run.run (va_runS (As := [.int a1]) (rest := []) F (mX6_isHeap (l := l) (D := D) (cI := cI) (cJ := cJ) (cZ := cZ) h) (va_cwS 1 F.2.2.2.2 gX6_sum_X6_isHeap rfl rfl rfl kS_X6_isHeap ⟨Nat.le_of_ble_eq_true rfl, Nat.le_of_ble_eq_true rfl⟩) ⟨rp_blind, rp_pre hz (hP.sub (ws' := []) [] rfl) [.int a1]⟩ rfl rfl hl.1 rfl (lv_room (Nat.le_of_ble_eq_true rfl)) dX6_sum_1 ⟨Nat.le_of_ble_eq_true rfl, Nat.le_of_ble_eq_true rfl⟩)) (fun r_1 h => ?_)
  obtain ⟨hbr_1, h⟩ := h
  refine lv_if_eq (tgt := 35) F.1 F.2.1 dX6_sum_4 (by decide) (fun hc => ?_) (fun hc => ?_)
  · have h := h.1 (hc)
    refine lv_ldc (v := (-1000000 : Int32)) F.1 F.2.1 F.2.2.2.1 (F.2.2.2.2 _ uX6_sum_1) dX6_sum_35 ?_
    exact hret _ _ _ h dX6_sum_37
  · have h := h.2 hc
    refine lv_iload_n F.1 F.2.1 dX6_sum_7 rfl (lv_at hl 2 rfl) ?_
    refine lv_iconst (v := (0 : Int32)) F.1 F.2.1 dX6_sum_8 (by decide) ?_
    refine lv_iconst (v := (1 : Int32)) F.1 F.2.1 dX6_sum_9 (by decide) ?_
    refine vp_callSi (va_Run.run (va_runS (As := [.int a2, .int (0 : Int32), .int (1 : Int32)]) (rest := []) F (mX6_in (l := l) (D := D) (cI := cI) (cJ := cJ) (cZ := cZ) h) (va_cwS 3 F.2.2.2.2 gX6_sum_X6_in rfl rfl rfl kS_X6_in ⟨Nat.le_of_ble_eq_true rfl, Nat.le_of_ble_eq_true rfl⟩) ⟨rp_blind, rp_pre hz (hP.sub (ws' := []) [] rfl) [.int a2, .int (0 : Int32), .int (1 : Int32)]⟩ rfl rfl hl.1 rfl (lv_room (Nat.le_of_ble_eq_true rfl)) dX6_sum_10 ⟨Nat.le_of_ble_eq_true rfl, Nat.le_of_ble_eq_true rfl⟩)) (fun r_2 h => ?_)
    obtain ⟨hbr_2, h⟩ := h
    refine lv_if_eq (tgt := 35) F.1 F.2.1 dX6_sum_13 (by decide) (fun hc => ?_) (fun hc => ?_)
    · have h := h.1 (hc)
      refine lv_ldc (v := (-1000000 : Int32)) F.1 F.2.1 F.2.2.2.1 (F.2.2.2.2 _ uX6_sum_1) dX6_sum_35 ?_
      exact hret _ _ _ h dX6_sum_37
    · have h := h.2 hc
      refine lv_iload_n F.1 F.2.1 dX6_sum_16 rfl (lv_at hl 3 rfl) ?_
      refine lv_iconst (v := (0 : Int32)) F.1 F.2.1 dX6_sum_17 (by decide) ?_
      refine lv_iconst (v := (3 : Int32)) F.1 F.2.1 dX6_sum_18 (by decide) ?_
      refine vp_callSi (va_Run.run (va_runS (As := [.int a3, .int (0 : Int32), .int (3 : Int32)]) (rest := []) F (mX6_in (l := l) (D := D) (cI := cI) (cJ := cJ) (cZ := cZ) h) (va_cwS 3 F.2.2.2.2 gX6_sum_X6_in rfl rfl rfl kS_X6_in ⟨Nat.le_of_ble_eq_true rfl, Nat.le_of_ble_eq_true rfl⟩) ⟨rp_blind, rp_pre hz (hP.sub (ws' := []) [] rfl) [.int a3, .int (0 : Int32), .int (3 : Int32)]⟩ rfl rfl hl.1 rfl (lv_room (Nat.le_of_ble_eq_true rfl)) dX6_sum_19 ⟨Nat.le_of_ble_eq_true rfl, Nat.le_of_ble_eq_true rfl⟩)) (fun r_3 h => ?_)
      obtain ⟨hbr_3, h⟩ := h
      refine lv_if_eq (tgt := 35) F.1 F.2.1 dX6_sum_22 (by decide) (fun hc => ?_) (fun hc => ?_)
      · have h := h.1 (hc)
        refine lv_ldc (v := (-1000000 : Int32)) F.1 F.2.1 F.2.2.2.1 (F.2.2.2.2 _ uX6_sum_1) dX6_sum_35 ?_
        exact hret _ _ _ h dX6_sum_37
      · have h := h.2 hc
        refine lv_aload_n F.1 F.2.1 dX6_sum_25 rfl (lv_at hl 0 rfl) ?_
        refine lv_iload_n F.1 F.2.1 dX6_sum_26 rfl (lv_at hl 1 rfl) ?_
        refine lv_iload_n F.1 F.2.1 dX6_sum_27 rfl (lv_at hl 2 rfl) ?_
        refine lv_iload_n F.1 F.2.1 dX6_sum_28 rfl (lv_at hl 3 rfl) ?_
        refine vp_callSi (va_Run.run (va_runV (As := [.int a1, .int a2, .int a3]) (rest := []) F (mX6_measured (l := l) (D := D) (cI := cI) (cJ := cJ) (cZ := cZ) (ad := ad) h) (cwV 3 F.2.2.2.2 gX6_sum_X6_measured rfl rfl rfl kV_X6_measured ⟨Nat.le_of_ble_eq_true rfl, Nat.le_of_ble_eq_true rfl⟩) ⟨rp_blind, va_recv hz.1 hP (ci := 4) (q0 := 0) rfl rfl, rp_pre hz hP (.ref (ad 0) :: [.int a1, .int a2, .int a3])⟩ rfl rfl hl.1 rfl (lv_room (Nat.le_of_ble_eq_true rfl)) dX6_sum_29 ⟨Nat.le_of_ble_eq_true rfl, Nat.le_of_ble_eq_true rfl⟩)) (fun r_4 h => ?_)
        refine lv_goto (tgt := 37) F.1 F.2.1 dX6_sum_32 (by decide) ?_
        exact hret _ _ _ h dX6_sum_37
theorem mX6_sum {l : Launch} {D : va_G} {cI cJ cZ : ClassId} {ad : Nat → Nat} {S : S6} {a1 : Int32} {a2 : Int32} {a3 : Int32} {Q : Int32 → Prop} (h : wX6_sum S a1 a2 a3 Q) : Met l yX6_sum wsX6_sum rX6_sum (va_Pc [.ref (ad 0), .int a1, .int a2, .int a3] (rp D cI cJ cZ (w6 ad cI cZ S))) (vp_Si Q) 0 0 (fun _ => False) :=
  enter_i (by decide +kernel) rfl (Nat.le_of_ble_eq_true rfl) (fun p e s m args below meth c QQ F hz hret => bX6_sum F hz.1 hz.2 hret h)
abbrev rX6_change : Room := { frames := 5, cells := 0, slots := 0, locals := 117 }
theorem kV_X6_change : yX6_change.cls = RX6 ∧ yX6_change.cls ≠ "java/lang/invoke/MethodHandle" ∧ yX6_change.cls ≠ "java/lang/invoke/VarHandle" ∧ (parseMethodDescriptor yX6_change.desc).map (fun d => d.parameters.length) = some 2 := by decide +kernel
theorem uX6_change_1 : Cond.constant RX6 83 (-1000000) ∈ wsX6_change := List.mem_of_getElem? (i := 1) rfl
set_option maxRecDepth 100000 in
theorem bX6_change {a1 : Int32} {a2 : Int32} {S : S6} {Q : Int32 → Prop} (F : CallFix p m c cX6_change 3 s args wsX6_change RX6) (hz : gz D cI cJ cZ s) (hP : va_P D vwCl (w6 ad cI cZ S) s.heap) (hret : ∀ (v : Int32) (pc : Nat) (ls : Array Slot), Q v → decode cX6_change pc = .ok (.ireturn, 1) → W p l e rX6_change s m args below meth c s.heap [] 0 0 QQ (F0 m pc ls [.int v])) (h : wX6_change S a1 a2 Q) : ∀ ls : Array Slot, lv_has ls 3 [(0, .ref (ad 0)), (1, .int a1), (2, .int a2)] → W p l e rX6_change s m args below meth c s.heap [] 0 0 QQ (F0 m 0 ls []) := by
  intro ls hl
  refine lv_iload_n F.1 F.2.1 dX6_change_0 rfl (lv_at hl 1 rfl) ?_
  refine vp_callSi (va_Run.run (va_runS (As := [.int a1]) (rest := []) F (mX6_isHeap (l := l) (D := D) (cI := cI) (cJ := cJ) (cZ := cZ) h) (va_cwS 1 F.2.2.2.2 gX6_change_X6_isHeap rfl rfl rfl kS_X6_isHeap ⟨Nat.le_of_ble_eq_true rfl, Nat.le_of_ble_eq_true rfl⟩) ⟨rp_blind, rp_pre hz (hP.sub (ws' := []) [] rfl) [.int a1]⟩ rfl rfl hl.1 rfl (lv_room (Nat.le_of_ble_eq_true rfl)) dX6_change_1 ⟨Nat.le_of_ble_eq_true rfl, Nat.le_of_ble_eq_true rfl⟩)) (fun r_1 h => ?_)
  obtain ⟨hbr_1, h⟩ := h
  refine lv_if_eq (tgt := 25) F.1 F.2.1 dX6_change_4 (by decide) (fun hc => ?_) (fun hc => ?_)
  · have h := h.1 (hc)
    refine lv_ldc (v := (-1000000 : Int32)) F.1 F.2.1 F.2.2.2.1 (F.2.2.2.2 _ uX6_change_1) dX6_change_25 ?_
    exact hret _ _ _ h dX6_change_27
  · have h := h.2 hc
    refine lv_iload_n F.1 F.2.1 dX6_change_7 rfl (lv_at hl 2 rfl) ?_
    refine lv_iconst (v := (0 : Int32)) F.1 F.2.1 dX6_change_8 (by decide) ?_
    refine lv_iconst (v := (3 : Int32)) F.1 F.2.1 dX6_change_9 (by decide) ?_
    refine vp_callSi (va_Run.run (va_runS (As := [.int a2, .int (0 : Int32), .int (3 : Int32)]) (rest := []) F (mX6_in (l := l) (D := D) (cI := cI) (cJ := cJ) (cZ := cZ) h) (va_cwS 3 F.2.2.2.2 gX6_change_X6_in rfl rfl rfl kS_X6_in ⟨Nat.le_of_ble_eq_true rfl, Nat.le_of_ble_eq_true rfl⟩) ⟨rp_blind, rp_pre hz (hP.sub (ws' := []) [] rfl) [.int a2, .int (0 : Int32), .int (3 : Int32)]⟩ rfl rfl hl.1 rfl (lv_room (Nat.le_of_ble_eq_true rfl)) dX6_change_10 ⟨Nat.le_of_ble_eq_true rfl, Nat.le_of_ble_eq_true rfl⟩)) (fun r_2 h => ?_)
    obtain ⟨hbr_2, h⟩ := h
    refine lv_if_eq (tgt := 25) F.1 F.2.1 dX6_change_13 (by decide) (fun hc => ?_) (fun hc => ?_)
    · have h := h.1 (hc)
      refine lv_ldc (v := (-1000000 : Int32)) F.1 F.2.1 F.2.2.2.1 (F.2.2.2.2 _ uX6_change_1) dX6_change_25 ?_
      exact hret _ _ _ h dX6_change_27
    · have h := h.2 hc
      refine lv_aload_n F.1 F.2.1 dX6_change_16 rfl (lv_at hl 0 rfl) ?_
      refine lv_iload_n F.1 F.2.1 dX6_change_17 rfl (lv_at hl 1 rfl) ?_
      refine lv_iload_n F.1 F.2.1 dX6_change_18 rfl (lv_at hl 2 rfl) ?_
      refine vp_callSi (va_Run.run (va_runV (As := [.int a1, .int a2]) (rest := []) F (mX6_changed (l := l) (D := D) (cI := cI) (cJ := cJ) (cZ := cZ) (ad := ad) h) (cwV 2 F.2.2.2.2 gX6_change_X6_changed rfl rfl rfl kV_X6_changed ⟨Nat.le_of_ble_eq_true rfl, Nat.le_of_ble_eq_true rfl⟩) ⟨rp_blind, va_recv hz.1 hP (ci := 4) (q0 := 0) rfl rfl, rp_pre hz hP (.ref (ad 0) :: [.int a1, .int a2])⟩ rfl rfl hl.1 rfl (lv_room (Nat.le_of_ble_eq_true rfl)) dX6_change_19 ⟨Nat.le_of_ble_eq_true rfl, Nat.le_of_ble_eq_true rfl⟩)) (fun r_3 h => ?_)
      refine lv_goto (tgt := 27) F.1 F.2.1 dX6_change_22 (by decide) ?_
      exact hret _ _ _ h dX6_change_27
theorem mX6_change {l : Launch} {D : va_G} {cI cJ cZ : ClassId} {ad : Nat → Nat} {S : S6} {a1 : Int32} {a2 : Int32} {Q : Int32 → Prop} (h : wX6_change S a1 a2 Q) : Met l yX6_change wsX6_change rX6_change (va_Pc [.ref (ad 0), .int a1, .int a2] (rp D cI cJ cZ (w6 ad cI cZ S))) (vp_Si Q) 0 0 (fun _ => False) :=
  enter_i (by decide +kernel) rfl (Nat.le_of_ble_eq_true rfl) (fun p e s m args below meth c QQ F hz hret => bX6_change F hz.1 hz.2 hret h)
abbrev rX6_rate : Room := { frames := 4, cells := 0, slots := 0, locals := 95 }
theorem kV_X6_rate : yX6_rate.cls = RX6 ∧ yX6_rate.cls ≠ "java/lang/invoke/MethodHandle" ∧ yX6_rate.cls ≠ "java/lang/invoke/VarHandle" ∧ (parseMethodDescriptor yX6_rate.desc).map (fun d => d.parameters.length) = some 3 := by decide +kernel
theorem uX6_rate_1 : Cond.constant RX6 83 (-1000000) ∈ wsX6_rate := List.mem_of_getElem? (i := 1) rfl
set_option maxRecDepth 100000 in
theorem bX6_rate {a1 : Int32} {a2 : Int32} {a3 : Int32} {S : S6} {Q : Int32 → Prop} (F : CallFix p m c cX6_rate 5 s args wsX6_rate RX6) (hz : gz D cI cJ cZ s) (hP : va_P D vwCl (w6 ad cI cZ S) s.heap) (hret : ∀ (v : Int32) (pc : Nat) (ls : Array Slot), Q v → decode cX6_rate pc = .ok (.ireturn, 1) → W p l e rX6_rate s m args below meth c s.heap [] 0 0 QQ (F0 m pc ls [.int v])) (h : wX6_rate S a1 a2 a3 Q) : ∀ ls : Array Slot, lv_has ls 5 [(0, .ref (ad 0)), (1, .int a1), (2, .int a2), (3, .int a3)] → W p l e rX6_rate s m args below meth c s.heap [] 0 0 QQ (F0 m 0 ls []) := by
  intro ls hl
  refine lv_iload_n F.1 F.2.1 dX6_rate_0 rfl (lv_at hl 1 rfl) ?_
  refine vp_callSi (va_Run.run (va_runS (As := [.int a1]) (rest := []) F (mX6_isHeap (l := l) (D := D) (cI := cI) (cJ := cJ) (cZ := cZ) h) (va_cwS 1 F.2.2.2.2 gX6_rate_X6_isHeap rfl rfl rfl kS_X6_isHeap ⟨Nat.le_of_ble_eq_true rfl, Nat.le_of_ble_eq_true rfl⟩) ⟨rp_blind, rp_pre hz (hP.sub (ws' := []) [] rfl) [.int a1]⟩ rfl rfl hl.1 rfl (lv_room (Nat.le_of_ble_eq_true rfl)) dX6_rate_1 ⟨Nat.le_of_ble_eq_true rfl, Nat.le_of_ble_eq_true rfl⟩)) (fun r_1 h => ?_)
  obtain ⟨hbr_1, h⟩ := h
  refine lv_if_eq (tgt := 25) F.1 F.2.1 dX6_rate_4 (by decide) (fun hc => ?_) (fun hc => ?_)
  · have h := h.1 (hc)
    refine lv_ldc (v := (-1000000 : Int32)) F.1 F.2.1 F.2.2.2.1 (F.2.2.2.2 _ uX6_rate_1) dX6_rate_25 ?_
    exact hret _ _ _ h dX6_rate_27
  · have h := h.2 hc
    refine lv_iload_n F.1 F.2.1 dX6_rate_7 rfl (lv_at hl 2 rfl) ?_
    refine lv_iconst (v := (0 : Int32)) F.1 F.2.1 dX6_rate_8 (by decide) ?_
    refine lv_iconst (v := (1 : Int32)) F.1 F.2.1 dX6_rate_9 (by decide) ?_
    refine vp_callSi (va_Run.run (va_runS (As := [.int a2, .int (0 : Int32), .int (1 : Int32)]) (rest := []) F (mX6_in (l := l) (D := D) (cI := cI) (cJ := cJ) (cZ := cZ) h) (va_cwS 3 F.2.2.2.2 gX6_rate_X6_in rfl rfl rfl kS_X6_in ⟨Nat.le_of_ble_eq_true rfl, Nat.le_of_ble_eq_true rfl⟩) ⟨rp_blind, rp_pre hz (hP.sub (ws' := []) [] rfl) [.int a2, .int (0 : Int32), .int (1 : Int32)]⟩ rfl rfl hl.1 rfl (lv_room (Nat.le_of_ble_eq_true rfl)) dX6_rate_10 ⟨Nat.le_of_ble_eq_true rfl, Nat.le_of_ble_eq_true rfl⟩)) (fun r_2 h => ?_)
    obtain ⟨hbr_2, h⟩ := h
    refine lv_if_eq (tgt := 25) F.1 F.2.1 dX6_rate_13 (by decide) (fun hc => ?_) (fun hc => ?_)
    · have h := h.1 (hc)
      refine lv_ldc (v := (-1000000 : Int32)) F.1 F.2.1 F.2.2.2.1 (F.2.2.2.2 _ uX6_rate_1) dX6_rate_25 ?_
      exact hret _ _ _ h dX6_rate_27
    · have h := h.2 hc
      refine lv_iload_n F.1 F.2.1 dX6_rate_16 rfl (lv_at hl 3 rfl) ?_
      refine lv_iconst (v := (0 : Int32)) F.1 F.2.1 dX6_rate_17 (by decide) ?_
      refine lv_iconst (v := (1 : Int32)) F.1 F.2.1 dX6_rate_18 (by decide) ?_
      refine vp_callSi (va_Run.run (va_runS (As := [.int a3, .int (0 : Int32), .int (1 : Int32)]) (rest := []) F (mX6_in (l := l) (D := D) (cI := cI) (cJ := cJ) (cZ := cZ) h) (va_cwS 3 F.2.2.2.2 gX6_rate_X6_in rfl rfl rfl kS_X6_in ⟨Nat.le_of_ble_eq_true rfl, Nat.le_of_ble_eq_true rfl⟩) ⟨rp_blind, rp_pre hz (hP.sub (ws' := []) [] rfl) [.int a3, .int (0 : Int32), .int (1 : Int32)]⟩ rfl rfl hl.1 rfl (lv_room (Nat.le_of_ble_eq_true rfl)) dX6_rate_19 ⟨Nat.le_of_ble_eq_true rfl, Nat.le_of_ble_eq_true rfl⟩)) (fun r_3 h => ?_)
      obtain ⟨hbr_3, h⟩ := h
      refine lv_if_ne (tgt := 28) F.1 F.2.1 dX6_rate_22 (by decide) (fun hc => ?_) (fun hc => ?_)
      · have h := h.2 hc
        refine lv_aload_n F.1 F.2.1 dX6_rate_28 rfl (lv_at hl 0 rfl) ?_
        refine lv_iload_n F.1 F.2.1 dX6_rate_29 rfl (lv_at hl 1 rfl) ?_
        refine lv_iload_n F.1 F.2.1 dX6_rate_30 rfl (lv_at hl 2 rfl) ?_
        refine lv_iconst (v := (2 : Int32)) F.1 F.2.1 dX6_rate_31 (by decide) ?_
        refine vp_callSi (va_Run.run (va_runV (As := [.int a1, .int a2, .int (2 : Int32)]) (rest := []) F (mX6_measured (l := l) (D := D) (cI := cI) (cJ := cJ) (cZ := cZ) (ad := ad) h) (cwV 3 F.2.2.2.2 gX6_rate_X6_measured rfl rfl rfl kV_X6_measured ⟨Nat.le_of_ble_eq_true rfl, Nat.le_of_ble_eq_true rfl⟩) ⟨rp_blind, va_recv hz.1 hP (ci := 4) (q0 := 0) rfl rfl, rp_pre hz hP (.ref (ad 0) :: [.int a1, .int a2, .int (2 : Int32)])⟩ rfl rfl hl.1 rfl (lv_room (Nat.le_of_ble_eq_true rfl)) dX6_rate_32 ⟨Nat.le_of_ble_eq_true rfl, Nat.le_of_ble_eq_true rfl⟩)) (fun r_4 h => ?_)
        refine lv_istore (lv' := [(4, .int r_4), (0, .ref (ad 0)), (1, .int a1), (2, .int a2), (3, .int a3)]) F.1 F.2.1 dX6_rate_35 hl (by decide) rfl (fun ls hl => ?_)
        refine lv_iload F.1 F.2.1 dX6_rate_37 (lv_at hl 0 rfl) ?_
        refine lv_if_ne (tgt := 46) F.1 F.2.1 dX6_rate_39 (by decide) (fun hc => ?_) (fun hc => ?_)
        · have h := h.2 hc
          refine lv_aload_n F.1 F.2.1 dX6_rate_46 rfl (lv_at hl 1 rfl) ?_
          refine lv_iload_n F.1 F.2.1 dX6_rate_47 rfl (lv_at hl 2 rfl) ?_
          refine lv_iload_n F.1 F.2.1 dX6_rate_48 rfl (lv_at hl 3 rfl) ?_
          refine lv_iconst (v := (0 : Int32)) F.1 F.2.1 dX6_rate_49 (by decide) ?_
          refine vp_callSi (va_Run.run (va_runV (As := [.int a1, .int a2, .int (0 : Int32)]) (rest := []) F (mX6_measured (l := l) (D := D) (cI := cI) (cJ := cJ) (cZ := cZ) (ad := ad) h) (cwV 3 F.2.2.2.2 gX6_rate_X6_measured rfl rfl rfl kV_X6_measured ⟨Nat.le_of_ble_eq_true rfl, Nat.le_of_ble_eq_true rfl⟩) ⟨rp_blind, va_recv hz.1 hP (ci := 4) (q0 := 0) rfl rfl, rp_pre hz hP (.ref (ad 0) :: [.int a1, .int a2, .int (0 : Int32)])⟩ rfl rfl hl.1 rfl (lv_room (Nat.le_of_ble_eq_true rfl)) dX6_rate_50 ⟨Nat.le_of_ble_eq_true rfl, Nat.le_of_ble_eq_true rfl⟩)) (fun r_5 h => ?_)
          refine lv_i2l F.1 F.2.1 dX6_rate_53 rfl ?_
          refine lv_iload F.1 F.2.1 dX6_rate_54 (lv_at hl 0 rfl) ?_
          refine lv_i2l F.1 F.2.1 dX6_rate_56 rfl ?_
          refine lv_iload_n F.1 F.2.1 dX6_rate_57 rfl (lv_at hl 4 rfl) ?_
          refine vp_callSl (va_Run.run (va_runS (As := [.long r_5.toInt64, .long r_4.toInt64, .int a3]) (rest := []) F (mX6_lowest (l := l) (D := D) (cI := cI) (cJ := cJ) (cZ := cZ) h) (va_cwS 3 F.2.2.2.2 gX6_rate_X6_lowest rfl rfl rfl kS_X6_lowest ⟨Nat.le_of_ble_eq_true rfl, Nat.le_of_ble_eq_true rfl⟩) ⟨rp_blind, rp_pre hz (hP.sub (ws' := []) [] rfl) [.long r_5.toInt64, .long r_4.toInt64, .int a3]⟩ rfl rfl hl.1 rfl (lv_room (Nat.le_of_ble_eq_true rfl)) dX6_rate_58 ⟨Nat.le_of_ble_eq_true rfl, Nat.le_of_ble_eq_true rfl⟩)) (fun r_6 h => ?_)
          refine lv_l2i F.1 F.2.1 dX6_rate_61 rfl ?_
          exact hret _ _ _ h dX6_rate_62
        · have h := h.1 (hc)
          refine lv_iconst (v := (0 : Int32)) F.1 F.2.1 dX6_rate_42 (by decide) ?_
          refine lv_goto (tgt := 62) F.1 F.2.1 dX6_rate_43 (by decide) ?_
          exact hret _ _ _ h dX6_rate_62
      · have h := h.1 (hc)
        refine lv_ldc (v := (-1000000 : Int32)) F.1 F.2.1 F.2.2.2.1 (F.2.2.2.2 _ uX6_rate_1) dX6_rate_25 ?_
        exact hret _ _ _ h dX6_rate_27
theorem mX6_rate {l : Launch} {D : va_G} {cI cJ cZ : ClassId} {ad : Nat → Nat} {S : S6} {a1 : Int32} {a2 : Int32} {a3 : Int32} {Q : Int32 → Prop} (h : wX6_rate S a1 a2 a3 Q) : Met l yX6_rate wsX6_rate rX6_rate (va_Pc [.ref (ad 0), .int a1, .int a2, .int a3] (rp D cI cJ cZ (w6 ad cI cZ S))) (vp_Si Q) 0 0 (fun _ => False) :=
  enter_i (by decide +kernel) rfl (Nat.le_of_ble_eq_true rfl) (fun p e s m args below meth c QQ F hz hret => bX6_rate F hz.1 hz.2 hret h)
abbrev rX6_shift : Room := { frames := 4, cells := 0, slots := 0, locals := 95 }
theorem kV_X6_shift : yX6_shift.cls = RX6 ∧ yX6_shift.cls ≠ "java/lang/invoke/MethodHandle" ∧ yX6_shift.cls ≠ "java/lang/invoke/VarHandle" ∧ (parseMethodDescriptor yX6_shift.desc).map (fun d => d.parameters.length) = some 2 := by decide +kernel
theorem uX6_shift_1 : Cond.constantLong RX6 95 (-4000000000000000000) ∈ wsX6_shift := List.mem_of_getElem? (i := 1) rfl
set_option maxRecDepth 100000 in
theorem bX6_shift {a1 : Int32} {a2 : Int32} {S : S6} {Q : Int64 → Prop} (F : CallFix p m c cX6_shift 7 s args wsX6_shift RX6) (hz : gz D cI cJ cZ s) (hP : va_P D vwCl (w6 ad cI cZ S) s.heap) (hret : ∀ (v : Int64) (pc : Nat) (ls : Array Slot), Q v → decode cX6_shift pc = .ok (.lreturn, 1) → W p l e rX6_shift s m args below meth c s.heap [] 0 0 QQ (F0 m pc ls [.long v])) (h : wX6_shift S a1 a2 Q) : ∀ ls : Array Slot, lv_has ls 7 [(0, .ref (ad 0)), (1, .int a1), (2, .int a2)] → W p l e rX6_shift s m args below meth c s.heap [] 0 0 QQ (F0 m 0 ls []) := by
  intro ls hl
  refine lv_iload_n F.1 F.2.1 dX6_shift_0 rfl (lv_at hl 1 rfl) ?_
  refine vp_callSi (va_Run.run (va_runS (As := [.int a1]) (rest := []) F (mX6_isHeap (l := l) (D := D) (cI := cI) (cJ := cJ) (cZ := cZ) h) (va_cwS 1 F.2.2.2.2 gX6_shift_X6_isHeap rfl rfl rfl kS_X6_isHeap ⟨Nat.le_of_ble_eq_true rfl, Nat.le_of_ble_eq_true rfl⟩) ⟨rp_blind, rp_pre hz (hP.sub (ws' := []) [] rfl) [.int a1]⟩ rfl rfl hl.1 rfl (lv_room (Nat.le_of_ble_eq_true rfl)) dX6_shift_1 ⟨Nat.le_of_ble_eq_true rfl, Nat.le_of_ble_eq_true rfl⟩)) (fun r_1 h => ?_)
  obtain ⟨hbr_1, h⟩ := h
  refine lv_if_eq (tgt := 16) F.1 F.2.1 dX6_shift_4 (by decide) (fun hc => ?_) (fun hc => ?_)
  · have h := h.1 (hc)
    refine lv_ldc2 (v := (-4000000000000000000 : Int64)) F.1 F.2.1 F.2.2.2.1 (F.2.2.2.2 _ uX6_shift_1) dX6_shift_16 ?_
    exact hret _ _ _ h dX6_shift_19
  · have h := h.2 hc
    refine lv_iload_n F.1 F.2.1 dX6_shift_7 rfl (lv_at hl 2 rfl) ?_
    refine lv_iconst (v := (0 : Int32)) F.1 F.2.1 dX6_shift_8 (by decide) ?_
    refine lv_iconst (v := (1 : Int32)) F.1 F.2.1 dX6_shift_9 (by decide) ?_
    refine vp_callSi (va_Run.run (va_runS (As := [.int a2, .int (0 : Int32), .int (1 : Int32)]) (rest := []) F (mX6_in (l := l) (D := D) (cI := cI) (cJ := cJ) (cZ := cZ) h) (va_cwS 3 F.2.2.2.2 gX6_shift_X6_in rfl rfl rfl kS_X6_in ⟨Nat.le_of_ble_eq_true rfl, Nat.le_of_ble_eq_true rfl⟩) ⟨rp_blind, rp_pre hz (hP.sub (ws' := []) [] rfl) [.int a2, .int (0 : Int32), .int (1 : Int32)]⟩ rfl rfl hl.1 rfl (lv_room (Nat.le_of_ble_eq_true rfl)) dX6_shift_10 ⟨Nat.le_of_ble_eq_true rfl, Nat.le_of_ble_eq_true rfl⟩)) (fun r_2 h => ?_)
    obtain ⟨hbr_2, h⟩ := h
    refine lv_if_ne (tgt := 20) F.1 F.2.1 dX6_shift_13 (by decide) (fun hc => ?_) (fun hc => ?_)
    · have h := h.2 hc
      refine lv_aload_n F.1 F.2.1 dX6_shift_20 rfl (lv_at hl 0 rfl) ?_
      refine lv_iload_n F.1 F.2.1 dX6_shift_21 rfl (lv_at hl 1 rfl) ?_
      refine lv_iconst (v := (0 : Int32)) F.1 F.2.1 dX6_shift_22 (by decide) ?_
      refine lv_iconst (v := (2 : Int32)) F.1 F.2.1 dX6_shift_23 (by decide) ?_
      refine vp_callSi (va_Run.run (va_runV (As := [.int a1, .int (0 : Int32), .int (2 : Int32)]) (rest := []) F (mX6_measured (l := l) (D := D) (cI := cI) (cJ := cJ) (cZ := cZ) (ad := ad) h) (cwV 3 F.2.2.2.2 gX6_shift_X6_measured rfl rfl rfl kV_X6_measured ⟨Nat.le_of_ble_eq_true rfl, Nat.le_of_ble_eq_true rfl⟩) ⟨rp_blind, va_recv hz.1 hP (ci := 4) (q0 := 0) rfl rfl, rp_pre hz hP (.ref (ad 0) :: [.int a1, .int (0 : Int32), .int (2 : Int32)])⟩ rfl rfl hl.1 rfl (lv_room (Nat.le_of_ble_eq_true rfl)) dX6_shift_24 ⟨Nat.le_of_ble_eq_true rfl, Nat.le_of_ble_eq_true rfl⟩)) (fun r_3 h => ?_)
      refine lv_i2l F.1 F.2.1 dX6_shift_27 rfl ?_
      refine lv_lstore_n (lv' := [(3, .long r_3.toInt64), (0, .ref (ad 0)), (1, .int a1), (2, .int a2)]) F.1 F.2.1 dX6_shift_28 rfl hl (by decide) rfl (fun ls hl => ?_)
      refine lv_aload_n F.1 F.2.1 dX6_shift_29 rfl (lv_at hl 1 rfl) ?_
      refine lv_iload_n F.1 F.2.1 dX6_shift_30 rfl (lv_at hl 2 rfl) ?_
      refine lv_iconst (v := (1 : Int32)) F.1 F.2.1 dX6_shift_31 (by decide) ?_
      refine lv_iconst (v := (2 : Int32)) F.1 F.2.1 dX6_shift_32 (by decide) ?_
      refine vp_callSi (va_Run.run (va_runV (As := [.int a1, .int (1 : Int32), .int (2 : Int32)]) (rest := []) F (mX6_measured (l := l) (D := D) (cI := cI) (cJ := cJ) (cZ := cZ) (ad := ad) h) (cwV 3 F.2.2.2.2 gX6_shift_X6_measured rfl rfl rfl kV_X6_measured ⟨Nat.le_of_ble_eq_true rfl, Nat.le_of_ble_eq_true rfl⟩) ⟨rp_blind, va_recv hz.1 hP (ci := 4) (q0 := 0) rfl rfl, rp_pre hz hP (.ref (ad 0) :: [.int a1, .int (1 : Int32), .int (2 : Int32)])⟩ rfl rfl hl.1 rfl (lv_room (Nat.le_of_ble_eq_true rfl)) dX6_shift_33 ⟨Nat.le_of_ble_eq_true rfl, Nat.le_of_ble_eq_true rfl⟩)) (fun r_4 h => ?_)
      refine lv_i2l F.1 F.2.1 dX6_shift_36 rfl ?_
      refine lv_lstore (lv' := [(5, .long r_4.toInt64), (3, .long r_3.toInt64), (0, .ref (ad 0)), (1, .int a1), (2, .int a2)]) F.1 F.2.1 dX6_shift_37 hl (by decide) rfl (fun ls hl => ?_)
      refine lv_lload_n F.1 F.2.1 dX6_shift_39 rfl (lv_at hl 1 rfl) ?_
      refine lv_lconst (v := (0 : Int64)) F.1 F.2.1 dX6_shift_40 (by decide) ?_
      refine W.lcmp F.1 F.2.1 dX6_shift_41 ?_
      refine lv_if_eq (tgt := 52) F.1 F.2.1 dX6_shift_42 (by decide) (fun hc => ?_) (fun hc => ?_)
      · have h := h.1 ((lg_cmp_eq _ _).mp hc)
        refine lv_ldc2 (v := (-4000000000000000000 : Int64)) F.1 F.2.1 F.2.2.2.1 (F.2.2.2.2 _ uX6_shift_1) dX6_shift_52 ?_
        exact hret _ _ _ h dX6_shift_55
      · have h := h.2 (fun z => hc ((lg_cmp_eq _ _).mpr z))
        refine lv_lload F.1 F.2.1 dX6_shift_45 (lv_at hl 0 rfl) ?_
        refine lv_lconst (v := (0 : Int64)) F.1 F.2.1 dX6_shift_47 (by decide) ?_
        refine W.lcmp F.1 F.2.1 dX6_shift_48 ?_
        refine lv_if_ne (tgt := 56) F.1 F.2.1 dX6_shift_49 (by decide) (fun hc => ?_) (fun hc => ?_)
        · have h := h.2 (fun z => hc ((lg_cmp_eq _ _).mpr z))
          refine lv_aload_n F.1 F.2.1 dX6_shift_56 rfl (lv_at hl 2 rfl) ?_
          refine lv_iload_n F.1 F.2.1 dX6_shift_57 rfl (lv_at hl 3 rfl) ?_
          refine lv_iconst (v := (1 : Int32)) F.1 F.2.1 dX6_shift_58 (by decide) ?_
          refine lv_iconst (v := (0 : Int32)) F.1 F.2.1 dX6_shift_59 (by decide) ?_
          refine vp_callSi (va_Run.run (va_runV (As := [.int a1, .int (1 : Int32), .int (0 : Int32)]) (rest := []) F (mX6_measured (l := l) (D := D) (cI := cI) (cJ := cJ) (cZ := cZ) (ad := ad) h) (cwV 3 F.2.2.2.2 gX6_shift_X6_measured rfl rfl rfl kV_X6_measured ⟨Nat.le_of_ble_eq_true rfl, Nat.le_of_ble_eq_true rfl⟩) ⟨rp_blind, va_recv hz.1 hP (ci := 4) (q0 := 0) rfl rfl, rp_pre hz hP (.ref (ad 0) :: [.int a1, .int (1 : Int32), .int (0 : Int32)])⟩ rfl rfl hl.1 rfl (lv_room (Nat.le_of_ble_eq_true rfl)) dX6_shift_60 ⟨Nat.le_of_ble_eq_true rfl, Nat.le_of_ble_eq_true rfl⟩)) (fun r_5 h => ?_)
          refine lv_i2l F.1 F.2.1 dX6_shift_63 rfl ?_
          refine lv_lload_n F.1 F.2.1 dX6_shift_64 rfl (lv_at hl 1 rfl) ?_
          refine lv_lmul F.1 F.2.1 dX6_shift_65 ?_
          refine lv_aload_n F.1 F.2.1 dX6_shift_66 rfl (lv_at hl 2 rfl) ?_
          refine lv_iload_n F.1 F.2.1 dX6_shift_67 rfl (lv_at hl 3 rfl) ?_
          refine lv_iconst (v := (0 : Int32)) F.1 F.2.1 dX6_shift_68 (by decide) ?_
          refine lv_iconst (v := (0 : Int32)) F.1 F.2.1 dX6_shift_69 (by decide) ?_
          refine vp_callSi (va_Run.run (va_runV (As := [.int a1, .int (0 : Int32), .int (0 : Int32)]) (rest := [.long (r_5.toInt64 * r_3.toInt64)]) F (mX6_measured (l := l) (D := D) (cI := cI) (cJ := cJ) (cZ := cZ) (ad := ad) h) (cwV 3 F.2.2.2.2 gX6_shift_X6_measured rfl rfl rfl kV_X6_measured ⟨Nat.le_of_ble_eq_true rfl, Nat.le_of_ble_eq_true rfl⟩) ⟨rp_blind, va_recv hz.1 hP (ci := 4) (q0 := 0) rfl rfl, rp_pre hz hP (.ref (ad 0) :: [.int a1, .int (0 : Int32), .int (0 : Int32)])⟩ rfl rfl hl.1 rfl (lv_room (Nat.le_of_ble_eq_true rfl)) dX6_shift_70 ⟨Nat.le_of_ble_eq_true rfl, Nat.le_of_ble_eq_true rfl⟩)) (fun r_6 h => ?_)
          refine lv_i2l F.1 F.2.1 dX6_shift_73 rfl ?_
          refine lv_lload F.1 F.2.1 dX6_shift_74 (lv_at hl 0 rfl) ?_
          refine lv_lmul F.1 F.2.1 dX6_shift_76 ?_
          refine lv_lsub F.1 F.2.1 dX6_shift_77 ?_
          refine lv_lload_n F.1 F.2.1 dX6_shift_78 rfl (lv_at hl 1 rfl) ?_
          refine lv_lload F.1 F.2.1 dX6_shift_79 (lv_at hl 0 rfl) ?_
          refine lv_lmul F.1 F.2.1 dX6_shift_81 ?_
          refine lv_iload_n F.1 F.2.1 dX6_shift_82 rfl (lv_at hl 4 rfl) ?_
          refine vp_callSl (va_Run.run (va_runS (As := [.long ((r_5.toInt64 * r_3.toInt64) - (r_6.toInt64 * r_4.toInt64)), .long (r_3.toInt64 * r_4.toInt64), .int a2]) (rest := []) F (mX6_lowest (l := l) (D := D) (cI := cI) (cJ := cJ) (cZ := cZ) h) (va_cwS 3 F.2.2.2.2 gX6_shift_X6_lowest rfl rfl rfl kS_X6_lowest ⟨Nat.le_of_ble_eq_true rfl, Nat.le_of_ble_eq_true rfl⟩) ⟨rp_blind, rp_pre hz (hP.sub (ws' := []) [] rfl) [.long ((r_5.toInt64 * r_3.toInt64) - (r_6.toInt64 * r_4.toInt64)), .long (r_3.toInt64 * r_4.toInt64), .int a2]⟩ rfl rfl hl.1 rfl (lv_room (Nat.le_of_ble_eq_true rfl)) dX6_shift_83 ⟨Nat.le_of_ble_eq_true rfl, Nat.le_of_ble_eq_true rfl⟩)) (fun r_7 h => ?_)
          exact hret _ _ _ h dX6_shift_86
        · have h := h.1 ((lg_cmp_eq _ _).mp hc)
          refine lv_ldc2 (v := (-4000000000000000000 : Int64)) F.1 F.2.1 F.2.2.2.1 (F.2.2.2.2 _ uX6_shift_1) dX6_shift_52 ?_
          exact hret _ _ _ h dX6_shift_55
    · have h := h.1 (hc)
      refine lv_ldc2 (v := (-4000000000000000000 : Int64)) F.1 F.2.1 F.2.2.2.1 (F.2.2.2.2 _ uX6_shift_1) dX6_shift_16 ?_
      exact hret _ _ _ h dX6_shift_19
theorem mX6_shift {l : Launch} {D : va_G} {cI cJ cZ : ClassId} {ad : Nat → Nat} {S : S6} {a1 : Int32} {a2 : Int32} {Q : Int64 → Prop} (h : wX6_shift S a1 a2 Q) : Met l yX6_shift wsX6_shift rX6_shift (va_Pc [.ref (ad 0), .int a1, .int a2] (rp D cI cJ cZ (w6 ad cI cZ S))) (vp_Sl Q) 0 0 (fun _ => False) :=
  enter_l (by decide +kernel) rfl (Nat.le_of_ble_eq_true rfl) (fun p e s m args below meth c QQ F hz hret => bX6_shift F hz.1 hz.2 hret h)
abbrev rX6_part : Room := { frames := 4, cells := 0, slots := 0, locals := 95 }
theorem kV_X6_part : yX6_part.cls = RX6 ∧ yX6_part.cls ≠ "java/lang/invoke/MethodHandle" ∧ yX6_part.cls ≠ "java/lang/invoke/VarHandle" ∧ (parseMethodDescriptor yX6_part.desc).map (fun d => d.parameters.length) = some 5 := by decide +kernel
theorem uX6_part_1 : Cond.constantLong RX6 95 (-4000000000000000000) ∈ wsX6_part := List.mem_of_getElem? (i := 1) rfl
theorem uX6_part_2 : Cond.constantLong RX6 104 (2) ∈ wsX6_part := List.mem_of_getElem? (i := 2) rfl
set_option maxRecDepth 100000 in
theorem bX6_part {a1 : Int32} {a2 : Int32} {a3 : Int32} {a4 : Int32} {a5 : Int32} {S : S6} {Q : Int64 → Prop} (F : CallFix p m c cX6_part 23 s args wsX6_part RX6) (hz : gz D cI cJ cZ s) (hP : va_P D vwCl (w6 ad cI cZ S) s.heap) (hret : ∀ (v : Int64) (pc : Nat) (ls : Array Slot), Q v → decode cX6_part pc = .ok (.lreturn, 1) → W p l e rX6_part s m args below meth c s.heap [] 0 0 QQ (F0 m pc ls [.long v])) (h : wX6_part S a1 a2 a3 a4 a5 Q) : ∀ ls : Array Slot, lv_has ls 23 [(0, .ref (ad 0)), (1, .int a1), (2, .int a2), (3, .int a3), (4, .int a4), (5, .int a5)] → W p l e rX6_part s m args below meth c s.heap [] 0 0 QQ (F0 m 0 ls []) := by
  intro ls hl
  refine lv_iload_n F.1 F.2.1 dX6_part_0 rfl (lv_at hl 1 rfl) ?_
  refine vp_callSi (va_Run.run (va_runS (As := [.int a1]) (rest := []) F (mX6_isHeap (l := l) (D := D) (cI := cI) (cJ := cJ) (cZ := cZ) h) (va_cwS 1 F.2.2.2.2 gX6_part_X6_isHeap rfl rfl rfl kS_X6_isHeap ⟨Nat.le_of_ble_eq_true rfl, Nat.le_of_ble_eq_true rfl⟩) ⟨rp_blind, rp_pre hz (hP.sub (ws' := []) [] rfl) [.int a1]⟩ rfl rfl hl.1 rfl (lv_room (Nat.le_of_ble_eq_true rfl)) dX6_part_1 ⟨Nat.le_of_ble_eq_true rfl, Nat.le_of_ble_eq_true rfl⟩)) (fun r_1 h => ?_)
  obtain ⟨hbr_1, h⟩ := h
  refine lv_if_eq (tgt := 52) F.1 F.2.1 dX6_part_4 (by decide) (fun hc => ?_) (fun hc => ?_)
  · have h := h.1 (hc)
    refine lv_ldc2 (v := (-4000000000000000000 : Int64)) F.1 F.2.1 F.2.2.2.1 (F.2.2.2.2 _ uX6_part_1) dX6_part_52 ?_
    exact hret _ _ _ h dX6_part_55
  · have h := h.2 hc
    refine lv_iload_n F.1 F.2.1 dX6_part_7 rfl (lv_at hl 2 rfl) ?_
    refine vp_callSi (va_Run.run (va_runS (As := [.int a2]) (rest := []) F (mX6_isMark (l := l) (D := D) (cI := cI) (cJ := cJ) (cZ := cZ) h) (va_cwS 1 F.2.2.2.2 gX6_part_X6_isMark rfl rfl rfl kS_X6_isMark ⟨Nat.le_of_ble_eq_true rfl, Nat.le_of_ble_eq_true rfl⟩) ⟨rp_blind, rp_pre hz (hP.sub (ws' := []) [] rfl) [.int a2]⟩ rfl rfl hl.1 rfl (lv_room (Nat.le_of_ble_eq_true rfl)) dX6_part_8 ⟨Nat.le_of_ble_eq_true rfl, Nat.le_of_ble_eq_true rfl⟩)) (fun r_2 h => ?_)
    obtain ⟨hbr_2, h⟩ := h
    refine lv_if_eq (tgt := 52) F.1 F.2.1 dX6_part_11 (by decide) (fun hc => ?_) (fun hc => ?_)
    · have h := h.1 (hc)
      refine lv_ldc2 (v := (-4000000000000000000 : Int64)) F.1 F.2.1 F.2.2.2.1 (F.2.2.2.2 _ uX6_part_1) dX6_part_52 ?_
      exact hret _ _ _ h dX6_part_55
    · have h := h.2 hc
      refine lv_iload_n F.1 F.2.1 dX6_part_14 rfl (lv_at hl 3 rfl) ?_
      refine lv_iconst (v := (0 : Int32)) F.1 F.2.1 dX6_part_15 (by decide) ?_
      refine lv_bipush (v := (7 : Int32)) F.1 F.2.1 dX6_part_16 (by decide) ?_
      refine vp_callSi (va_Run.run (va_runS (As := [.int a3, .int (0 : Int32), .int (7 : Int32)]) (rest := []) F (mX6_in (l := l) (D := D) (cI := cI) (cJ := cJ) (cZ := cZ) h) (va_cwS 3 F.2.2.2.2 gX6_part_X6_in rfl rfl rfl kS_X6_in ⟨Nat.le_of_ble_eq_true rfl, Nat.le_of_ble_eq_true rfl⟩) ⟨rp_blind, rp_pre hz (hP.sub (ws' := []) [] rfl) [.int a3, .int (0 : Int32), .int (7 : Int32)]⟩ rfl rfl hl.1 rfl (lv_room (Nat.le_of_ble_eq_true rfl)) dX6_part_18 ⟨Nat.le_of_ble_eq_true rfl, Nat.le_of_ble_eq_true rfl⟩)) (fun r_3 h => ?_)
      obtain ⟨hbr_3, h⟩ := h
      refine lv_if_eq (tgt := 52) F.1 F.2.1 dX6_part_21 (by decide) (fun hc => ?_) (fun hc => ?_)
      · have h := h.1 (hc)
        refine lv_ldc2 (v := (-4000000000000000000 : Int64)) F.1 F.2.1 F.2.2.2.1 (F.2.2.2.2 _ uX6_part_1) dX6_part_52 ?_
        exact hret _ _ _ h dX6_part_55
      · have h := h.2 hc
        refine lv_iload F.1 F.2.1 dX6_part_24 (lv_at hl 4 rfl) ?_
        refine lv_iconst (v := (0 : Int32)) F.1 F.2.1 dX6_part_26 (by decide) ?_
        refine lv_iconst (v := (1 : Int32)) F.1 F.2.1 dX6_part_27 (by decide) ?_
        refine vp_callSi (va_Run.run (va_runS (As := [.int a4, .int (0 : Int32), .int (1 : Int32)]) (rest := []) F (mX6_in (l := l) (D := D) (cI := cI) (cJ := cJ) (cZ := cZ) h) (va_cwS 3 F.2.2.2.2 gX6_part_X6_in rfl rfl rfl kS_X6_in ⟨Nat.le_of_ble_eq_true rfl, Nat.le_of_ble_eq_true rfl⟩) ⟨rp_blind, rp_pre hz (hP.sub (ws' := []) [] rfl) [.int a4, .int (0 : Int32), .int (1 : Int32)]⟩ rfl rfl hl.1 rfl (lv_room (Nat.le_of_ble_eq_true rfl)) dX6_part_28 ⟨Nat.le_of_ble_eq_true rfl, Nat.le_of_ble_eq_true rfl⟩)) (fun r_4 h => ?_)
        obtain ⟨hbr_4, h⟩ := h
        refine lv_if_eq (tgt := 52) F.1 F.2.1 dX6_part_31 (by decide) (fun hc => ?_) (fun hc => ?_)
        · have h := h.1 (hc)
          refine lv_ldc2 (v := (-4000000000000000000 : Int64)) F.1 F.2.1 F.2.2.2.1 (F.2.2.2.2 _ uX6_part_1) dX6_part_52 ?_
          exact hret _ _ _ h dX6_part_55
        · have h := h.2 hc
          refine lv_iload F.1 F.2.1 dX6_part_34 (lv_at hl 5 rfl) ?_
          refine lv_iconst (v := (0 : Int32)) F.1 F.2.1 dX6_part_36 (by decide) ?_
          refine lv_iconst (v := (1 : Int32)) F.1 F.2.1 dX6_part_37 (by decide) ?_
          refine vp_callSi (va_Run.run (va_runS (As := [.int a5, .int (0 : Int32), .int (1 : Int32)]) (rest := []) F (mX6_in (l := l) (D := D) (cI := cI) (cJ := cJ) (cZ := cZ) h) (va_cwS 3 F.2.2.2.2 gX6_part_X6_in rfl rfl rfl kS_X6_in ⟨Nat.le_of_ble_eq_true rfl, Nat.le_of_ble_eq_true rfl⟩) ⟨rp_blind, rp_pre hz (hP.sub (ws' := []) [] rfl) [.int a5, .int (0 : Int32), .int (1 : Int32)]⟩ rfl rfl hl.1 rfl (lv_room (Nat.le_of_ble_eq_true rfl)) dX6_part_38 ⟨Nat.le_of_ble_eq_true rfl, Nat.le_of_ble_eq_true rfl⟩)) (fun r_5 h => ?_)
          obtain ⟨hbr_5, h⟩ := h
          refine lv_if_eq (tgt := 52) F.1 F.2.1 dX6_part_41 (by decide) (fun hc => ?_) (fun hc => ?_)
          · have h := h.1 (hc)
            refine lv_ldc2 (v := (-4000000000000000000 : Int64)) F.1 F.2.1 F.2.2.2.1 (F.2.2.2.2 _ uX6_part_1) dX6_part_52 ?_
            exact hret _ _ _ h dX6_part_55
          · have h := h.2 hc
            refine lv_iload_n F.1 F.2.1 dX6_part_44 rfl (lv_at hl 1 rfl) ?_
            refine lv_iload_n F.1 F.2.1 dX6_part_45 rfl (lv_at hl 2 rfl) ?_
            refine vp_callSi (va_Run.run (va_runS (As := [.int a1, .int a2]) (rest := []) F (mX6_digit (l := l) (D := D) (cI := cI) (cJ := cJ) (cZ := cZ) h) (va_cwS 2 F.2.2.2.2 gX6_part_X6_digit rfl rfl rfl kS_X6_digit ⟨Nat.le_of_ble_eq_true rfl, Nat.le_of_ble_eq_true rfl⟩) ⟨rp_blind, rp_pre hz (hP.sub (ws' := []) [] rfl) [.int a1, .int a2]⟩ rfl rfl hl.1 rfl (lv_room (Nat.le_of_ble_eq_true rfl)) dX6_part_46 ⟨Nat.le_of_ble_eq_true rfl, Nat.le_of_ble_eq_true rfl⟩)) (fun r_6 h => ?_)
            refine lv_if_eq (tgt := 56) F.1 F.2.1 dX6_part_49 (by decide) (fun hc => ?_) (fun hc => ?_)
            · have h := h.1 (hc)
              refine lv_aload_n F.1 F.2.1 dX6_part_56 rfl (lv_at hl 0 rfl) ?_
              refine lv_iload_n F.1 F.2.1 dX6_part_57 rfl (lv_at hl 1 rfl) ?_
              refine lv_iconst (v := (0 : Int32)) F.1 F.2.1 dX6_part_58 (by decide) ?_
              refine lv_iconst (v := (2 : Int32)) F.1 F.2.1 dX6_part_59 (by decide) ?_
              refine vp_callSi (va_Run.run (va_runV (As := [.int a1, .int (0 : Int32), .int (2 : Int32)]) (rest := []) F (mX6_measured (l := l) (D := D) (cI := cI) (cJ := cJ) (cZ := cZ) (ad := ad) h) (cwV 3 F.2.2.2.2 gX6_part_X6_measured rfl rfl rfl kV_X6_measured ⟨Nat.le_of_ble_eq_true rfl, Nat.le_of_ble_eq_true rfl⟩) ⟨rp_blind, va_recv hz.1 hP (ci := 4) (q0 := 0) rfl rfl, rp_pre hz hP (.ref (ad 0) :: [.int a1, .int (0 : Int32), .int (2 : Int32)])⟩ rfl rfl hl.1 rfl (lv_room (Nat.le_of_ble_eq_true rfl)) dX6_part_60 ⟨Nat.le_of_ble_eq_true rfl, Nat.le_of_ble_eq_true rfl⟩)) (fun r_7 h => ?_)
              refine lv_i2l F.1 F.2.1 dX6_part_63 rfl ?_
              refine lv_lstore (lv' := [(6, .long r_7.toInt64), (0, .ref (ad 0)), (1, .int a1), (2, .int a2), (3, .int a3), (4, .int a4), (5, .int a5)]) F.1 F.2.1 dX6_part_64 hl (by decide) rfl (fun ls hl => ?_)
              refine lv_aload_n F.1 F.2.1 dX6_part_66 rfl (lv_at hl 1 rfl) ?_
              refine lv_iload_n F.1 F.2.1 dX6_part_67 rfl (lv_at hl 2 rfl) ?_
              refine lv_iconst (v := (1 : Int32)) F.1 F.2.1 dX6_part_68 (by decide) ?_
              refine lv_iconst (v := (2 : Int32)) F.1 F.2.1 dX6_part_69 (by decide) ?_
              refine vp_callSi (va_Run.run (va_runV (As := [.int a1, .int (1 : Int32), .int (2 : Int32)]) (rest := []) F (mX6_measured (l := l) (D := D) (cI := cI) (cJ := cJ) (cZ := cZ) (ad := ad) h) (cwV 3 F.2.2.2.2 gX6_part_X6_measured rfl rfl rfl kV_X6_measured ⟨Nat.le_of_ble_eq_true rfl, Nat.le_of_ble_eq_true rfl⟩) ⟨rp_blind, va_recv hz.1 hP (ci := 4) (q0 := 0) rfl rfl, rp_pre hz hP (.ref (ad 0) :: [.int a1, .int (1 : Int32), .int (2 : Int32)])⟩ rfl rfl hl.1 rfl (lv_room (Nat.le_of_ble_eq_true rfl)) dX6_part_70 ⟨Nat.le_of_ble_eq_true rfl, Nat.le_of_ble_eq_true rfl⟩)) (fun r_8 h => ?_)
              refine lv_i2l F.1 F.2.1 dX6_part_73 rfl ?_
              refine lv_lstore (lv' := [(8, .long r_8.toInt64), (6, .long r_7.toInt64), (0, .ref (ad 0)), (1, .int a1), (2, .int a2), (3, .int a3), (4, .int a4), (5, .int a5)]) F.1 F.2.1 dX6_part_74 hl (by decide) rfl (fun ls hl => ?_)
              refine lv_lload F.1 F.2.1 dX6_part_76 (lv_at hl 1 rfl) ?_
              refine lv_lconst (v := (0 : Int64)) F.1 F.2.1 dX6_part_78 (by decide) ?_
              refine W.lcmp F.1 F.2.1 dX6_part_79 ?_
              refine lv_if_eq (tgt := 90) F.1 F.2.1 dX6_part_80 (by decide) (fun hc => ?_) (fun hc => ?_)
              · have h := h.1 ((lg_cmp_eq _ _).mp hc)
                refine lv_ldc2 (v := (-4000000000000000000 : Int64)) F.1 F.2.1 F.2.2.2.1 (F.2.2.2.2 _ uX6_part_1) dX6_part_90 ?_
                exact hret _ _ _ h dX6_part_93
              · have h := h.2 (fun z => hc ((lg_cmp_eq _ _).mpr z))
                refine lv_lload F.1 F.2.1 dX6_part_83 (lv_at hl 0 rfl) ?_
                refine lv_lconst (v := (0 : Int64)) F.1 F.2.1 dX6_part_85 (by decide) ?_
                refine W.lcmp F.1 F.2.1 dX6_part_86 ?_
                refine lv_if_ne (tgt := 94) F.1 F.2.1 dX6_part_87 (by decide) (fun hc => ?_) (fun hc => ?_)
                · have h := h.2 (fun z => hc ((lg_cmp_eq _ _).mpr z))
                  refine lv_iload_n F.1 F.2.1 dX6_part_94 rfl (lv_at hl 3 rfl) ?_
                  refine lv_iload_n F.1 F.2.1 dX6_part_95 rfl (lv_at hl 4 rfl) ?_
                  refine vp_callSi (va_Run.run (va_runS (As := [.int a2]) (rest := [.int a1]) F (mX6_place (l := l) (D := D) (cI := cI) (cJ := cJ) (cZ := cZ) h) (va_cwS 1 F.2.2.2.2 gX6_part_X6_place rfl rfl rfl kS_X6_place ⟨Nat.le_of_ble_eq_true rfl, Nat.le_of_ble_eq_true rfl⟩) ⟨rp_blind, rp_pre hz (hP.sub (ws' := []) [] rfl) [.int a2]⟩ rfl rfl hl.1 rfl (lv_room (Nat.le_of_ble_eq_true rfl)) dX6_part_96 ⟨Nat.le_of_ble_eq_true rfl, Nat.le_of_ble_eq_true rfl⟩)) (fun r_9 h => ?_)
                  refine lv_iload_n F.1 F.2.1 dX6_part_99 rfl (lv_at hl 5 rfl) ?_
                  refine lv_iconst (v := (1 : Int32)) F.1 F.2.1 dX6_part_100 (by decide) ?_
                  refine lv_iadd F.1 F.2.1 dX6_part_101 ?_
                  refine lv_imul F.1 F.2.1 dX6_part_102 ?_
                  refine lv_iadd F.1 F.2.1 dX6_part_103 ?_
                  refine lv_topi (fun y_10 ey_10 => ?_)
                  have h := h y_10 ey_10
                  refine lv_istore (lv' := [(10, .int y_10), (8, .long r_8.toInt64), (6, .long r_7.toInt64), (0, .ref (ad 0)), (1, .int a1), (2, .int a2), (3, .int a3), (4, .int a4), (5, .int a5)]) F.1 F.2.1 dX6_part_104 hl (by decide) rfl (fun ls hl => ?_)
                  refine lv_aload_n F.1 F.2.1 dX6_part_106 rfl (lv_at hl 3 rfl) ?_
                  refine lv_iload F.1 F.2.1 dX6_part_107 (lv_at hl 0 rfl) ?_
                  refine lv_iconst (v := (0 : Int32)) F.1 F.2.1 dX6_part_109 (by decide) ?_
                  refine lv_iconst (v := (0 : Int32)) F.1 F.2.1 dX6_part_110 (by decide) ?_
                  refine vp_callSi (va_Run.run (va_runV (As := [.int y_10, .int (0 : Int32), .int (0 : Int32)]) (rest := []) F (mX6_measured (l := l) (D := D) (cI := cI) (cJ := cJ) (cZ := cZ) (ad := ad) h) (cwV 3 F.2.2.2.2 gX6_part_X6_measured rfl rfl rfl kV_X6_measured ⟨Nat.le_of_ble_eq_true rfl, Nat.le_of_ble_eq_true rfl⟩) ⟨rp_blind, va_recv hz.1 hP (ci := 4) (q0 := 0) rfl rfl, rp_pre hz hP (.ref (ad 0) :: [.int y_10, .int (0 : Int32), .int (0 : Int32)])⟩ rfl rfl hl.1 rfl (lv_room (Nat.le_of_ble_eq_true rfl)) dX6_part_111 ⟨Nat.le_of_ble_eq_true rfl, Nat.le_of_ble_eq_true rfl⟩)) (fun r_11 h => ?_)
                  refine lv_i2l F.1 F.2.1 dX6_part_114 rfl ?_
                  refine lv_lstore (lv' := [(11, .long r_11.toInt64), (10, .int y_10), (8, .long r_8.toInt64), (6, .long r_7.toInt64), (0, .ref (ad 0)), (1, .int a1), (2, .int a2), (3, .int a3), (4, .int a4), (5, .int a5)]) F.1 F.2.1 dX6_part_115 hl (by decide) rfl (fun ls hl => ?_)
                  refine lv_aload_n F.1 F.2.1 dX6_part_117 rfl (lv_at hl 4 rfl) ?_
                  refine lv_iload F.1 F.2.1 dX6_part_118 (lv_at hl 1 rfl) ?_
                  refine lv_iconst (v := (0 : Int32)) F.1 F.2.1 dX6_part_120 (by decide) ?_
                  refine lv_iconst (v := (2 : Int32)) F.1 F.2.1 dX6_part_121 (by decide) ?_
                  refine vp_callSi (va_Run.run (va_runV (As := [.int y_10, .int (0 : Int32), .int (2 : Int32)]) (rest := []) F (mX6_measured (l := l) (D := D) (cI := cI) (cJ := cJ) (cZ := cZ) (ad := ad) h) (cwV 3 F.2.2.2.2 gX6_part_X6_measured rfl rfl rfl kV_X6_measured ⟨Nat.le_of_ble_eq_true rfl, Nat.le_of_ble_eq_true rfl⟩) ⟨rp_blind, va_recv hz.1 hP (ci := 4) (q0 := 0) rfl rfl, rp_pre hz hP (.ref (ad 0) :: [.int y_10, .int (0 : Int32), .int (2 : Int32)])⟩ rfl rfl hl.1 rfl (lv_room (Nat.le_of_ble_eq_true rfl)) dX6_part_122 ⟨Nat.le_of_ble_eq_true rfl, Nat.le_of_ble_eq_true rfl⟩)) (fun r_12 h => ?_)
                  refine lv_i2l F.1 F.2.1 dX6_part_125 rfl ?_
                  refine lv_lstore (lv' := [(13, .long r_12.toInt64), (11, .long r_11.toInt64), (10, .int y_10), (8, .long r_8.toInt64), (6, .long r_7.toInt64), (0, .ref (ad 0)), (1, .int a1), (2, .int a2), (3, .int a3), (4, .int a4), (5, .int a5)]) F.1 F.2.1 dX6_part_126 hl (by decide) rfl (fun ls hl => ?_)
                  refine lv_aload_n F.1 F.2.1 dX6_part_128 rfl (lv_at hl 5 rfl) ?_
                  refine lv_iload F.1 F.2.1 dX6_part_129 (lv_at hl 2 rfl) ?_
                  refine lv_iconst (v := (1 : Int32)) F.1 F.2.1 dX6_part_131 (by decide) ?_
                  refine lv_iconst (v := (0 : Int32)) F.1 F.2.1 dX6_part_132 (by decide) ?_
                  refine vp_callSi (va_Run.run (va_runV (As := [.int y_10, .int (1 : Int32), .int (0 : Int32)]) (rest := []) F (mX6_measured (l := l) (D := D) (cI := cI) (cJ := cJ) (cZ := cZ) (ad := ad) h) (cwV 3 F.2.2.2.2 gX6_part_X6_measured rfl rfl rfl kV_X6_measured ⟨Nat.le_of_ble_eq_true rfl, Nat.le_of_ble_eq_true rfl⟩) ⟨rp_blind, va_recv hz.1 hP (ci := 4) (q0 := 0) rfl rfl, rp_pre hz hP (.ref (ad 0) :: [.int y_10, .int (1 : Int32), .int (0 : Int32)])⟩ rfl rfl hl.1 rfl (lv_room (Nat.le_of_ble_eq_true rfl)) dX6_part_133 ⟨Nat.le_of_ble_eq_true rfl, Nat.le_of_ble_eq_true rfl⟩)) (fun r_13 h => ?_)
                  refine lv_i2l F.1 F.2.1 dX6_part_136 rfl ?_
                  refine lv_lstore (lv' := [(15, .long r_13.toInt64), (13, .long r_12.toInt64), (11, .long r_11.toInt64), (10, .int y_10), (8, .long r_8.toInt64), (6, .long r_7.toInt64), (0, .ref (ad 0)), (1, .int a1), (2, .int a2), (3, .int a3), (4, .int a4), (5, .int a5)]) F.1 F.2.1 dX6_part_137 hl (by decide) rfl (fun ls hl => ?_)
                  refine lv_aload_n F.1 F.2.1 dX6_part_139 rfl (lv_at hl 6 rfl) ?_
                  refine lv_iload F.1 F.2.1 dX6_part_140 (lv_at hl 3 rfl) ?_
                  refine lv_iconst (v := (1 : Int32)) F.1 F.2.1 dX6_part_142 (by decide) ?_
                  refine lv_iconst (v := (2 : Int32)) F.1 F.2.1 dX6_part_143 (by decide) ?_
                  refine vp_callSi (va_Run.run (va_runV (As := [.int y_10, .int (1 : Int32), .int (2 : Int32)]) (rest := []) F (mX6_measured (l := l) (D := D) (cI := cI) (cJ := cJ) (cZ := cZ) (ad := ad) h) (cwV 3 F.2.2.2.2 gX6_part_X6_measured rfl rfl rfl kV_X6_measured ⟨Nat.le_of_ble_eq_true rfl, Nat.le_of_ble_eq_true rfl⟩) ⟨rp_blind, va_recv hz.1 hP (ci := 4) (q0 := 0) rfl rfl, rp_pre hz hP (.ref (ad 0) :: [.int y_10, .int (1 : Int32), .int (2 : Int32)])⟩ rfl rfl hl.1 rfl (lv_room (Nat.le_of_ble_eq_true rfl)) dX6_part_144 ⟨Nat.le_of_ble_eq_true rfl, Nat.le_of_ble_eq_true rfl⟩)) (fun r_14 h => ?_)
                  refine lv_i2l F.1 F.2.1 dX6_part_147 rfl ?_
                  refine lv_lstore (lv' := [(17, .long r_14.toInt64), (15, .long r_13.toInt64), (13, .long r_12.toInt64), (11, .long r_11.toInt64), (10, .int y_10), (8, .long r_8.toInt64), (6, .long r_7.toInt64), (0, .ref (ad 0)), (1, .int a1), (2, .int a2), (3, .int a3), (4, .int a4), (5, .int a5)]) F.1 F.2.1 dX6_part_148 hl (by decide) rfl (fun ls hl => ?_)
                  refine lv_lload F.1 F.2.1 dX6_part_150 (lv_at hl 2 rfl) ?_
                  refine lv_lconst (v := (0 : Int64)) F.1 F.2.1 dX6_part_152 (by decide) ?_
                  refine W.lcmp F.1 F.2.1 dX6_part_153 ?_
                  refine lv_if_eq (tgt := 164) F.1 F.2.1 dX6_part_154 (by decide) (fun hc => ?_) (fun hc => ?_)
                  · have h := h.1 ((lg_cmp_eq _ _).mp hc)
                    refine lv_iload F.1 F.2.1 dX6_part_164 (lv_at hl 11 rfl) ?_
                    refine lv_if_ne (tgt := 179) F.1 F.2.1 dX6_part_166 (by decide) (fun hc => ?_) (fun hc => ?_)
                    · have h := h.2 hc
                      refine lv_lload F.1 F.2.1 dX6_part_179 (lv_at hl 1 rfl) ?_
                      refine lv_lload F.1 F.2.1 dX6_part_181 (lv_at hl 6 rfl) ?_
                      refine lv_lmul F.1 F.2.1 dX6_part_183 ?_
                      refine lv_lload F.1 F.2.1 dX6_part_184 (lv_at hl 3 rfl) ?_
                      refine lv_lload F.1 F.2.1 dX6_part_186 (lv_at hl 5 rfl) ?_
                      refine lv_lmul F.1 F.2.1 dX6_part_188 ?_
                      refine lv_lsub F.1 F.2.1 dX6_part_189 ?_
                      refine lv_lload F.1 F.2.1 dX6_part_190 (lv_at hl 6 rfl) ?_
                      refine lv_lload F.1 F.2.1 dX6_part_192 (lv_at hl 5 rfl) ?_
                      refine lv_lmul F.1 F.2.1 dX6_part_194 ?_
                      refine lv_iload F.1 F.2.1 dX6_part_195 (lv_at hl 12 rfl) ?_
                      refine vp_callSl (va_Run.run (va_runS (As := [.long ((r_13.toInt64 * r_7.toInt64) - (r_11.toInt64 * r_8.toInt64)), .long (r_7.toInt64 * r_8.toInt64), .int a5]) (rest := []) F (mX6_lowest (l := l) (D := D) (cI := cI) (cJ := cJ) (cZ := cZ) h) (va_cwS 3 F.2.2.2.2 gX6_part_X6_lowest rfl rfl rfl kS_X6_lowest ⟨Nat.le_of_ble_eq_true rfl, Nat.le_of_ble_eq_true rfl⟩) ⟨rp_blind, rp_pre hz (hP.sub (ws' := []) [] rfl) [.long ((r_13.toInt64 * r_7.toInt64) - (r_11.toInt64 * r_8.toInt64)), .long (r_7.toInt64 * r_8.toInt64), .int a5]⟩ rfl rfl hl.1 rfl (lv_room (Nat.le_of_ble_eq_true rfl)) dX6_part_197 ⟨Nat.le_of_ble_eq_true rfl, Nat.le_of_ble_eq_true rfl⟩)) (fun r_15 h => ?_)
                      exact hret _ _ _ h dX6_part_200
                    · have h := h.1 (hc)
                      refine lv_lconst (v := (0 : Int64)) F.1 F.2.1 dX6_part_169 (by decide) ?_
                      refine lv_lconst (v := (1 : Int64)) F.1 F.2.1 dX6_part_170 (by decide) ?_
                      refine lv_iload F.1 F.2.1 dX6_part_171 (lv_at hl 12 rfl) ?_
                      refine vp_callSl (va_Run.run (va_runS (As := [.long (0 : Int64), .long (1 : Int64), .int a5]) (rest := []) F (mX6_lowest (l := l) (D := D) (cI := cI) (cJ := cJ) (cZ := cZ) h) (va_cwS 3 F.2.2.2.2 gX6_part_X6_lowest rfl rfl rfl kS_X6_lowest ⟨Nat.le_of_ble_eq_true rfl, Nat.le_of_ble_eq_true rfl⟩) ⟨rp_blind, rp_pre hz (hP.sub (ws' := []) [] rfl) [.long (0 : Int64), .long (1 : Int64), .int a5]⟩ rfl rfl hl.1 rfl (lv_room (Nat.le_of_ble_eq_true rfl)) dX6_part_173 ⟨Nat.le_of_ble_eq_true rfl, Nat.le_of_ble_eq_true rfl⟩)) (fun r_16 h => ?_)
                      refine lv_goto (tgt := 200) F.1 F.2.1 dX6_part_176 (by decide) ?_
                      exact hret _ _ _ h dX6_part_200
                  · have h := h.2 (fun z => hc ((lg_cmp_eq _ _).mpr z))
                    refine lv_lload F.1 F.2.1 dX6_part_157 (lv_at hl 0 rfl) ?_
                    refine lv_lconst (v := (0 : Int64)) F.1 F.2.1 dX6_part_159 (by decide) ?_
                    refine W.lcmp F.1 F.2.1 dX6_part_160 ?_
                    refine lv_if_ne (tgt := 201) F.1 F.2.1 dX6_part_161 (by decide) (fun hc => ?_) (fun hc => ?_)
                    · have h := h.2 (fun z => hc ((lg_cmp_eq _ _).mpr z))
                      refine lv_ldc2 (v := (2 : Int64)) F.1 F.2.1 F.2.2.2.1 (F.2.2.2.2 _ uX6_part_2) dX6_part_201 ?_
                      refine lv_lload F.1 F.2.1 dX6_part_204 (lv_at hl 2 rfl) ?_
                      refine lv_lmul F.1 F.2.1 dX6_part_206 ?_
                      refine lv_lload F.1 F.2.1 dX6_part_207 (lv_at hl 0 rfl) ?_
                      refine lv_lmul F.1 F.2.1 dX6_part_209 ?_
                      refine lv_lload F.1 F.2.1 dX6_part_210 (lv_at hl 6 rfl) ?_
                      refine lv_lmul F.1 F.2.1 dX6_part_212 ?_
                      refine lv_lload F.1 F.2.1 dX6_part_213 (lv_at hl 5 rfl) ?_
                      refine lv_lmul F.1 F.2.1 dX6_part_215 ?_
                      refine lv_topl (fun y_17 ey_17 => ?_)
                      have h := h y_17 ey_17
                      refine lv_lstore (lv' := [(19, .long y_17), (17, .long r_14.toInt64), (15, .long r_13.toInt64), (13, .long r_12.toInt64), (11, .long r_11.toInt64), (10, .int y_10), (8, .long r_8.toInt64), (6, .long r_7.toInt64), (0, .ref (ad 0)), (1, .int a1), (2, .int a2), (3, .int a3), (4, .int a4), (5, .int a5)]) F.1 F.2.1 dX6_part_216 hl (by decide) rfl (fun ls hl => ?_)
                      refine lv_iload F.1 F.2.1 dX6_part_218 (lv_at hl 12 rfl) ?_
                      refine lv_if_ne (tgt := 249) F.1 F.2.1 dX6_part_220 (by decide) (fun hc => ?_) (fun hc => ?_)
                      · have h := h.2 hc
                        refine lv_lload F.1 F.2.1 dX6_part_249 (lv_at hl 1 rfl) ?_
                        refine lv_lload F.1 F.2.1 dX6_part_251 (lv_at hl 7 rfl) ?_
                        refine lv_lmul F.1 F.2.1 dX6_part_253 ?_
                        refine lv_lload F.1 F.2.1 dX6_part_254 (lv_at hl 3 rfl) ?_
                        refine lv_lload F.1 F.2.1 dX6_part_256 (lv_at hl 6 rfl) ?_
                        refine lv_lmul F.1 F.2.1 dX6_part_258 ?_
                        refine lv_lsub F.1 F.2.1 dX6_part_259 ?_
                        refine lv_lload F.1 F.2.1 dX6_part_260 (lv_at hl 4 rfl) ?_
                        refine lv_lload F.1 F.2.1 dX6_part_262 (lv_at hl 1 rfl) ?_
                        refine lv_lmul F.1 F.2.1 dX6_part_264 ?_
                        refine lv_lload F.1 F.2.1 dX6_part_265 (lv_at hl 2 rfl) ?_
                        refine lv_lload F.1 F.2.1 dX6_part_267 (lv_at hl 3 rfl) ?_
                        refine lv_lmul F.1 F.2.1 dX6_part_269 ?_
                        refine lv_ladd F.1 F.2.1 dX6_part_270 ?_
                        refine lv_lmul F.1 F.2.1 dX6_part_271 ?_
                        refine lv_topl (fun y_18 ey_18 => ?_)
                        have h := h y_18 ey_18
                        refine lv_lstore (lv' := [(21, .long y_18), (19, .long y_17), (17, .long r_14.toInt64), (15, .long r_13.toInt64), (13, .long r_12.toInt64), (11, .long r_11.toInt64), (10, .int y_10), (8, .long r_8.toInt64), (6, .long r_7.toInt64), (0, .ref (ad 0)), (1, .int a1), (2, .int a2), (3, .int a3), (4, .int a4), (5, .int a5)]) F.1 F.2.1 dX6_part_272 hl (by decide) rfl (fun ls hl => ?_)
                        refine lv_lload F.1 F.2.1 dX6_part_274 (lv_at hl 0 rfl) ?_
                        refine lv_lload F.1 F.2.1 dX6_part_276 (lv_at hl 1 rfl) ?_
                        refine lv_iload F.1 F.2.1 dX6_part_278 (lv_at hl 14 rfl) ?_
                        refine vp_callSl (va_Run.run (va_runS (As := [.long y_18, .long y_17, .int a5]) (rest := []) F (mX6_lowest (l := l) (D := D) (cI := cI) (cJ := cJ) (cZ := cZ) h) (va_cwS 3 F.2.2.2.2 gX6_part_X6_lowest rfl rfl rfl kS_X6_lowest ⟨Nat.le_of_ble_eq_true rfl, Nat.le_of_ble_eq_true rfl⟩) ⟨rp_blind, rp_pre hz (hP.sub (ws' := []) [] rfl) [.long y_18, .long y_17, .int a5]⟩ rfl rfl hl.1 rfl (lv_room (Nat.le_of_ble_eq_true rfl)) dX6_part_280 ⟨Nat.le_of_ble_eq_true rfl, Nat.le_of_ble_eq_true rfl⟩)) (fun r_19 h => ?_)
                        exact hret _ _ _ h dX6_part_283
                      · have h := h.1 (hc)
                        refine lv_lload F.1 F.2.1 dX6_part_223 (lv_at hl 2 rfl) ?_
                        refine lv_lload F.1 F.2.1 dX6_part_225 (lv_at hl 3 rfl) ?_
                        refine lv_lmul F.1 F.2.1 dX6_part_227 ?_
                        refine lv_lload F.1 F.2.1 dX6_part_228 (lv_at hl 4 rfl) ?_
                        refine lv_lload F.1 F.2.1 dX6_part_230 (lv_at hl 1 rfl) ?_
                        refine lv_lmul F.1 F.2.1 dX6_part_232 ?_
                        refine lv_lsub F.1 F.2.1 dX6_part_233 ?_
                        refine lv_lload F.1 F.2.1 dX6_part_234 (lv_at hl 3 rfl) ?_
                        refine lv_lload F.1 F.2.1 dX6_part_236 (lv_at hl 6 rfl) ?_
                        refine lv_lmul F.1 F.2.1 dX6_part_238 ?_
                        refine lv_lload F.1 F.2.1 dX6_part_239 (lv_at hl 1 rfl) ?_
                        refine lv_lload F.1 F.2.1 dX6_part_241 (lv_at hl 7 rfl) ?_
                        refine lv_lmul F.1 F.2.1 dX6_part_243 ?_
                        refine lv_ladd F.1 F.2.1 dX6_part_244 ?_
                        refine lv_lmul F.1 F.2.1 dX6_part_245 ?_
                        refine lv_goto (tgt := 272) F.1 F.2.1 dX6_part_246 (by decide) ?_
                        refine lv_topl (fun y_20 ey_20 => ?_)
                        have h := h y_20 ey_20
                        refine lv_lstore (lv' := [(21, .long y_20), (19, .long y_17), (17, .long r_14.toInt64), (15, .long r_13.toInt64), (13, .long r_12.toInt64), (11, .long r_11.toInt64), (10, .int y_10), (8, .long r_8.toInt64), (6, .long r_7.toInt64), (0, .ref (ad 0)), (1, .int a1), (2, .int a2), (3, .int a3), (4, .int a4), (5, .int a5)]) F.1 F.2.1 dX6_part_272 hl (by decide) rfl (fun ls hl => ?_)
                        refine lv_lload F.1 F.2.1 dX6_part_274 (lv_at hl 0 rfl) ?_
                        refine lv_lload F.1 F.2.1 dX6_part_276 (lv_at hl 1 rfl) ?_
                        refine lv_iload F.1 F.2.1 dX6_part_278 (lv_at hl 14 rfl) ?_
                        refine vp_callSl (va_Run.run (va_runS (As := [.long y_20, .long y_17, .int a5]) (rest := []) F (mX6_lowest (l := l) (D := D) (cI := cI) (cJ := cJ) (cZ := cZ) h) (va_cwS 3 F.2.2.2.2 gX6_part_X6_lowest rfl rfl rfl kS_X6_lowest ⟨Nat.le_of_ble_eq_true rfl, Nat.le_of_ble_eq_true rfl⟩) ⟨rp_blind, rp_pre hz (hP.sub (ws' := []) [] rfl) [.long y_20, .long y_17, .int a5]⟩ rfl rfl hl.1 rfl (lv_room (Nat.le_of_ble_eq_true rfl)) dX6_part_280 ⟨Nat.le_of_ble_eq_true rfl, Nat.le_of_ble_eq_true rfl⟩)) (fun r_21 h => ?_)
                        exact hret _ _ _ h dX6_part_283
                    · have h := h.1 ((lg_cmp_eq _ _).mp hc)
                      refine lv_iload F.1 F.2.1 dX6_part_164 (lv_at hl 11 rfl) ?_
                      refine lv_if_ne (tgt := 179) F.1 F.2.1 dX6_part_166 (by decide) (fun hc => ?_) (fun hc => ?_)
                      · have h := h.2 hc
                        refine lv_lload F.1 F.2.1 dX6_part_179 (lv_at hl 1 rfl) ?_
                        refine lv_lload F.1 F.2.1 dX6_part_181 (lv_at hl 6 rfl) ?_
                        refine lv_lmul F.1 F.2.1 dX6_part_183 ?_
                        refine lv_lload F.1 F.2.1 dX6_part_184 (lv_at hl 3 rfl) ?_
                        refine lv_lload F.1 F.2.1 dX6_part_186 (lv_at hl 5 rfl) ?_
                        refine lv_lmul F.1 F.2.1 dX6_part_188 ?_
                        refine lv_lsub F.1 F.2.1 dX6_part_189 ?_
                        refine lv_lload F.1 F.2.1 dX6_part_190 (lv_at hl 6 rfl) ?_
                        refine lv_lload F.1 F.2.1 dX6_part_192 (lv_at hl 5 rfl) ?_
                        refine lv_lmul F.1 F.2.1 dX6_part_194 ?_
                        refine lv_iload F.1 F.2.1 dX6_part_195 (lv_at hl 12 rfl) ?_
                        refine vp_callSl (va_Run.run (va_runS (As := [.long ((r_13.toInt64 * r_7.toInt64) - (r_11.toInt64 * r_8.toInt64)), .long (r_7.toInt64 * r_8.toInt64), .int a5]) (rest := []) F (mX6_lowest (l := l) (D := D) (cI := cI) (cJ := cJ) (cZ := cZ) h) (va_cwS 3 F.2.2.2.2 gX6_part_X6_lowest rfl rfl rfl kS_X6_lowest ⟨Nat.le_of_ble_eq_true rfl, Nat.le_of_ble_eq_true rfl⟩) ⟨rp_blind, rp_pre hz (hP.sub (ws' := []) [] rfl) [.long ((r_13.toInt64 * r_7.toInt64) - (r_11.toInt64 * r_8.toInt64)), .long (r_7.toInt64 * r_8.toInt64), .int a5]⟩ rfl rfl hl.1 rfl (lv_room (Nat.le_of_ble_eq_true rfl)) dX6_part_197 ⟨Nat.le_of_ble_eq_true rfl, Nat.le_of_ble_eq_true rfl⟩)) (fun r_22 h => ?_)
                        exact hret _ _ _ h dX6_part_200
                      · have h := h.1 (hc)
                        refine lv_lconst (v := (0 : Int64)) F.1 F.2.1 dX6_part_169 (by decide) ?_
                        refine lv_lconst (v := (1 : Int64)) F.1 F.2.1 dX6_part_170 (by decide) ?_
                        refine lv_iload F.1 F.2.1 dX6_part_171 (lv_at hl 12 rfl) ?_
                        refine vp_callSl (va_Run.run (va_runS (As := [.long (0 : Int64), .long (1 : Int64), .int a5]) (rest := []) F (mX6_lowest (l := l) (D := D) (cI := cI) (cJ := cJ) (cZ := cZ) h) (va_cwS 3 F.2.2.2.2 gX6_part_X6_lowest rfl rfl rfl kS_X6_lowest ⟨Nat.le_of_ble_eq_true rfl, Nat.le_of_ble_eq_true rfl⟩) ⟨rp_blind, rp_pre hz (hP.sub (ws' := []) [] rfl) [.long (0 : Int64), .long (1 : Int64), .int a5]⟩ rfl rfl hl.1 rfl (lv_room (Nat.le_of_ble_eq_true rfl)) dX6_part_173 ⟨Nat.le_of_ble_eq_true rfl, Nat.le_of_ble_eq_true rfl⟩)) (fun r_23 h => ?_)
                        refine lv_goto (tgt := 200) F.1 F.2.1 dX6_part_176 (by decide) ?_
                        exact hret _ _ _ h dX6_part_200
                · have h := h.1 ((lg_cmp_eq _ _).mp hc)
                  refine lv_ldc2 (v := (-4000000000000000000 : Int64)) F.1 F.2.1 F.2.2.2.1 (F.2.2.2.2 _ uX6_part_1) dX6_part_90 ?_
                  exact hret _ _ _ h dX6_part_93
            · have h := h.2 hc
              refine lv_ldc2 (v := (-4000000000000000000 : Int64)) F.1 F.2.1 F.2.2.2.1 (F.2.2.2.2 _ uX6_part_1) dX6_part_52 ?_
              exact hret _ _ _ h dX6_part_55
theorem mX6_part {l : Launch} {D : va_G} {cI cJ cZ : ClassId} {ad : Nat → Nat} {S : S6} {a1 : Int32} {a2 : Int32} {a3 : Int32} {a4 : Int32} {a5 : Int32} {Q : Int64 → Prop} (h : wX6_part S a1 a2 a3 a4 a5 Q) : Met l yX6_part wsX6_part rX6_part (va_Pc [.ref (ad 0), .int a1, .int a2, .int a3, .int a4, .int a5] (rp D cI cJ cZ (w6 ad cI cZ S))) (vp_Sl Q) 0 0 (fun _ => False) :=
  enter_l (by decide +kernel) rfl (Nat.le_of_ble_eq_true rfl) (fun p e s m args below meth c QQ F hz hret => bX6_part F hz.1 hz.2 hret h)
abbrev rX6_moves : Room := { frames := 2, cells := 0, slots := 0, locals := 49 }
theorem kV_X6_moves : yX6_moves.cls = RX6 ∧ yX6_moves.cls ≠ "java/lang/invoke/MethodHandle" ∧ yX6_moves.cls ≠ "java/lang/invoke/VarHandle" ∧ (parseMethodDescriptor yX6_moves.desc).map (fun d => d.parameters.length) = some 2 := by decide +kernel
set_option maxRecDepth 100000 in
theorem kX6_moves_23 {p1 : Int32} {p2 : Int32} {S : S6} (F : CallFix p m c cX6_moves 5 s args wsX6_moves RX6) (hz : gz D cI cJ cZ s) (hP : va_P D vwCl (w6 ad cI cZ S) s.heap) {K : Int32 × Int32 → Prop} (hK : ∀ x : Int32 × Int32, K x → match x with | (x3, x4) => ∀ ls : Array Slot, lv_has ls 5 [(0, .ref (ad 0)), (1, .int p1), (2, .int p2), (3, .int x3), (4, .int x4)] → W p l e rX6_moves s m args below meth c s.heap [] 0 0 QQ (F0 m 55 ls [])) : ∀ (nn : Nat) (x : Int32 × Int32), iter (sX6_moves_23 S p1 p2 K) nn x → match x with | (x3, x4) => ∀ ls : Array Slot, lv_has ls 5 [(0, .ref (ad 0)), (1, .int p1), (2, .int p2), (3, .int x3), (4, .int x4)] → W p l e rX6_moves s m args below meth c s.heap [] 0 0 QQ (F0 m 23 ls []) := by
  refine iter_walk ?_
  rintro again23 ⟨x3, x4⟩ ih23 h ls hl
  have hK23 := hK
  refine lv_iload F.1 F.2.1 dX6_moves_23 (lv_at hl 4 rfl) ?_
  refine lv_bipush (v := (64 : Int32)) F.1 F.2.1 dX6_moves_25 (by decide) ?_
  refine lv_icmp_ge (tgt := 55) F.1 F.2.1 dX6_moves_27 (by decide) (fun hc => ?_) (fun hc => ?_)
  · have h := h.1 (hc)
    exact hK23 (x3, x4) h ls (lv_sub hl [0, 1, 2, 3, 4] rfl)
  · have h := h.2 hc
    refine lv_iload_n F.1 F.2.1 dX6_moves_30 rfl (lv_at hl 3 rfl) ?_
    refine lv_aload_n F.1 F.2.1 dX6_moves_31 rfl (lv_at hl 0 rfl) ?_
    refine lv_iload_n F.1 F.2.1 dX6_moves_32 rfl (lv_at hl 1 rfl) ?_
    refine lv_iload F.1 F.2.1 dX6_moves_33 (lv_at hl 4 rfl) ?_
    refine vp_callSi (va_Run.run (va_runV (As := [.int p1, .int x4]) (rest := [.int x3]) F (mX6_moved (l := l) (D := D) (cI := cI) (cJ := cJ) (cZ := cZ) (ad := ad) h) (cwV 2 F.2.2.2.2 gX6_moves_X6_moved rfl rfl rfl kV_X6_moved ⟨Nat.le_of_ble_eq_true rfl, Nat.le_of_ble_eq_true rfl⟩) ⟨rp_blind, va_recv hz.1 hP (ci := 4) (q0 := 0) rfl rfl, rp_pre hz hP (.ref (ad 0) :: [.int p1, .int x4])⟩ rfl rfl hl.1 rfl (lv_room (Nat.le_of_ble_eq_true rfl)) dX6_moves_35 ⟨Nat.le_of_ble_eq_true rfl, Nat.le_of_ble_eq_true rfl⟩)) (fun r_3 h => ?_)
    refine lv_iload_n F.1 F.2.1 dX6_moves_38 rfl (lv_at hl 2 rfl) ?_
    refine lv_icmp_ne (tgt := 46) F.1 F.2.1 dX6_moves_39 (by decide) (fun hc => ?_) (fun hc => ?_)
    · have h := h.2 hc
      refine lv_iconst (v := (0 : Int32)) F.1 F.2.1 dX6_moves_46 (by decide) ?_
      refine lv_iadd F.1 F.2.1 dX6_moves_47 ?_
      refine lv_istore_n (lv' := [(3, .int (x3 + (0 : Int32))), (0, .ref (ad 0)), (1, .int p1), (2, .int p2), (4, .int x4)]) F.1 F.2.1 dX6_moves_48 rfl hl (by decide) rfl (fun ls hl => ?_)
      refine lv_iinc (v := x4 + 1) (lv' := [(4, .int (x4 + 1)), (3, .int (x3 + (0 : Int32))), (0, .ref (ad 0)), (1, .int p1), (2, .int p2)]) F.1 F.2.1 dX6_moves_49 hl (k := 4) rfl rfl (by decide) rfl (fun ls hl => ?_)
      refine lv_goto (tgt := 23) F.1 F.2.1 dX6_moves_52 (by decide) ?_
      exact ih23 (x3 + (0 : Int32), x4 + 1) h ls (lv_sub hl [2, 3, 4, 1, 0] rfl)
    · have h := h.1 (hc)
      refine lv_iconst (v := (1 : Int32)) F.1 F.2.1 dX6_moves_42 (by decide) ?_
      refine lv_goto (tgt := 47) F.1 F.2.1 dX6_moves_43 (by decide) ?_
      refine lv_iadd F.1 F.2.1 dX6_moves_47 ?_
      refine lv_istore_n (lv' := [(3, .int (x3 + (1 : Int32))), (0, .ref (ad 0)), (1, .int p1), (2, .int p2), (4, .int x4)]) F.1 F.2.1 dX6_moves_48 rfl hl (by decide) rfl (fun ls hl => ?_)
      refine lv_iinc (v := x4 + 1) (lv' := [(4, .int (x4 + 1)), (3, .int (x3 + (1 : Int32))), (0, .ref (ad 0)), (1, .int p1), (2, .int p2)]) F.1 F.2.1 dX6_moves_49 hl (k := 4) rfl rfl (by decide) rfl (fun ls hl => ?_)
      refine lv_goto (tgt := 23) F.1 F.2.1 dX6_moves_52 (by decide) ?_
      exact ih23 (x3 + (1 : Int32), x4 + 1) h ls (lv_sub hl [2, 3, 4, 1, 0] rfl)
set_option maxRecDepth 100000 in
theorem bX6_moves {a1 : Int32} {a2 : Int32} {S : S6} {Q : Int32 → Prop} (F : CallFix p m c cX6_moves 5 s args wsX6_moves RX6) (hz : gz D cI cJ cZ s) (hP : va_P D vwCl (w6 ad cI cZ S) s.heap) (hret : ∀ (v : Int32) (pc : Nat) (ls : Array Slot), Q v → decode cX6_moves pc = .ok (.ireturn, 1) → W p l e rX6_moves s m args below meth c s.heap [] 0 0 QQ (F0 m pc ls [.int v])) (h : wX6_moves S a1 a2 Q) : ∀ ls : Array Slot, lv_has ls 5 [(0, .ref (ad 0)), (1, .int a1), (2, .int a2)] → W p l e rX6_moves s m args below meth c s.heap [] 0 0 QQ (F0 m 0 ls []) := by
  intro ls hl
  refine lv_iload_n F.1 F.2.1 dX6_moves_0 rfl (lv_at hl 1 rfl) ?_
  refine vp_callSi (va_Run.run (va_runS (As := [.int a1]) (rest := []) F (mX6_isMark (l := l) (D := D) (cI := cI) (cJ := cJ) (cZ := cZ) h) (va_cwS 1 F.2.2.2.2 gX6_moves_X6_isMark rfl rfl rfl kS_X6_isMark ⟨Nat.le_of_ble_eq_true rfl, Nat.le_of_ble_eq_true rfl⟩) ⟨rp_blind, rp_pre hz (hP.sub (ws' := []) [] rfl) [.int a1]⟩ rfl rfl hl.1 rfl (lv_room (Nat.le_of_ble_eq_true rfl)) dX6_moves_1 ⟨Nat.le_of_ble_eq_true rfl, Nat.le_of_ble_eq_true rfl⟩)) (fun r_1 h => ?_)
  obtain ⟨hbr_1, h⟩ := h
  refine lv_if_eq (tgt := 16) F.1 F.2.1 dX6_moves_4 (by decide) (fun hc => ?_) (fun hc => ?_)
  · have h := h.1 (hc)
    refine lv_iconst (v := (-1 : Int32)) F.1 F.2.1 dX6_moves_16 (by decide) ?_
    exact hret _ _ _ h dX6_moves_17
  · have h := h.2 hc
    refine lv_iload_n F.1 F.2.1 dX6_moves_7 rfl (lv_at hl 2 rfl) ?_
    refine lv_iconst (v := (0 : Int32)) F.1 F.2.1 dX6_moves_8 (by decide) ?_
    refine lv_iconst (v := (3 : Int32)) F.1 F.2.1 dX6_moves_9 (by decide) ?_
    refine vp_callSi (va_Run.run (va_runS (As := [.int a2, .int (0 : Int32), .int (3 : Int32)]) (rest := []) F (mX6_in (l := l) (D := D) (cI := cI) (cJ := cJ) (cZ := cZ) h) (va_cwS 3 F.2.2.2.2 gX6_moves_X6_in rfl rfl rfl kS_X6_in ⟨Nat.le_of_ble_eq_true rfl, Nat.le_of_ble_eq_true rfl⟩) ⟨rp_blind, rp_pre hz (hP.sub (ws' := []) [] rfl) [.int a2, .int (0 : Int32), .int (3 : Int32)]⟩ rfl rfl hl.1 rfl (lv_room (Nat.le_of_ble_eq_true rfl)) dX6_moves_10 ⟨Nat.le_of_ble_eq_true rfl, Nat.le_of_ble_eq_true rfl⟩)) (fun r_2 h => ?_)
    obtain ⟨hbr_2, h⟩ := h
    refine lv_if_ne (tgt := 18) F.1 F.2.1 dX6_moves_13 (by decide) (fun hc => ?_) (fun hc => ?_)
    · have h := h.2 hc
      refine lv_iconst (v := (0 : Int32)) F.1 F.2.1 dX6_moves_18 (by decide) ?_
      refine lv_istore_n (lv' := [(3, .int (0 : Int32)), (0, .ref (ad 0)), (1, .int a1), (2, .int a2)]) F.1 F.2.1 dX6_moves_19 rfl hl (by decide) rfl (fun ls hl => ?_)
      refine lv_iconst (v := (0 : Int32)) F.1 F.2.1 dX6_moves_20 (by decide) ?_
      refine lv_istore (lv' := [(4, .int (0 : Int32)), (3, .int (0 : Int32)), (0, .ref (ad 0)), (1, .int a1), (2, .int a2)]) F.1 F.2.1 dX6_moves_21 hl (by decide) rfl (fun ls hl => ?_)
      obtain ⟨nn, h⟩ := h
      refine kX6_moves_23 F hz hP (fun ⟨x3, x4⟩ h ls hl => ?_) nn _ h ls (lv_sub hl [2, 3, 4, 1, 0] rfl)
      refine lv_iload_n F.1 F.2.1 dX6_moves_55 rfl (lv_at hl 3 rfl) ?_
      exact hret _ _ _ h dX6_moves_56
    · have h := h.1 (hc)
      refine lv_iconst (v := (-1 : Int32)) F.1 F.2.1 dX6_moves_16 (by decide) ?_
      exact hret _ _ _ h dX6_moves_17
theorem mX6_moves {l : Launch} {D : va_G} {cI cJ cZ : ClassId} {ad : Nat → Nat} {S : S6} {a1 : Int32} {a2 : Int32} {Q : Int32 → Prop} (h : wX6_moves S a1 a2 Q) : Met l yX6_moves wsX6_moves rX6_moves (va_Pc [.ref (ad 0), .int a1, .int a2] (rp D cI cJ cZ (w6 ad cI cZ S))) (vp_Si Q) 0 0 (fun _ => False) :=
  enter_i (by decide +kernel) rfl (Nat.le_of_ble_eq_true rfl) (fun p e s m args below meth c QQ F hz hret => bX6_moves F hz.1 hz.2 hret h)
abbrev rX6_move : Room := { frames := 2, cells := 0, slots := 0, locals := 49 }
theorem kV_X6_move : yX6_move.cls = RX6 ∧ yX6_move.cls ≠ "java/lang/invoke/MethodHandle" ∧ yX6_move.cls ≠ "java/lang/invoke/VarHandle" ∧ (parseMethodDescriptor yX6_move.desc).map (fun d => d.parameters.length) = some 2 := by decide +kernel
set_option maxRecDepth 100000 in
theorem bX6_move {a1 : Int32} {a2 : Int32} {S : S6} {Q : Int32 → Prop} (F : CallFix p m c cX6_move 3 s args wsX6_move RX6) (hz : gz D cI cJ cZ s) (hP : va_P D vwCl (w6 ad cI cZ S) s.heap) (hret : ∀ (v : Int32) (pc : Nat) (ls : Array Slot), Q v → decode cX6_move pc = .ok (.ireturn, 1) → W p l e rX6_move s m args below meth c s.heap [] 0 0 QQ (F0 m pc ls [.int v])) (h : wX6_move S a1 a2 Q) : ∀ ls : Array Slot, lv_has ls 3 [(0, .ref (ad 0)), (1, .int a1), (2, .int a2)] → W p l e rX6_move s m args below meth c s.heap [] 0 0 QQ (F0 m 0 ls []) := by
  intro ls hl
  refine lv_iload_n F.1 F.2.1 dX6_move_0 rfl (lv_at hl 1 rfl) ?_
  refine vp_callSi (va_Run.run (va_runS (As := [.int a1]) (rest := []) F (mX6_isMark (l := l) (D := D) (cI := cI) (cJ := cJ) (cZ := cZ) h) (va_cwS 1 F.2.2.2.2 gX6_move_X6_isMark rfl rfl rfl kS_X6_isMark ⟨Nat.le_of_ble_eq_true rfl, Nat.le_of_ble_eq_true rfl⟩) ⟨rp_blind, rp_pre hz (hP.sub (ws' := []) [] rfl) [.int a1]⟩ rfl rfl hl.1 rfl (lv_room (Nat.le_of_ble_eq_true rfl)) dX6_move_1 ⟨Nat.le_of_ble_eq_true rfl, Nat.le_of_ble_eq_true rfl⟩)) (fun r_1 h => ?_)
  obtain ⟨hbr_1, h⟩ := h
  refine lv_if_eq (tgt := 26) F.1 F.2.1 dX6_move_4 (by decide) (fun hc => ?_) (fun hc => ?_)
  · have h := h.1 (hc)
    refine lv_iconst (v := (-1 : Int32)) F.1 F.2.1 dX6_move_26 (by decide) ?_
    exact hret _ _ _ h dX6_move_27
  · have h := h.2 hc
    refine lv_iload_n F.1 F.2.1 dX6_move_7 rfl (lv_at hl 2 rfl) ?_
    refine lv_iconst (v := (0 : Int32)) F.1 F.2.1 dX6_move_8 (by decide) ?_
    refine lv_bipush (v := (63 : Int32)) F.1 F.2.1 dX6_move_9 (by decide) ?_
    refine vp_callSi (va_Run.run (va_runS (As := [.int a2, .int (0 : Int32), .int (63 : Int32)]) (rest := []) F (mX6_in (l := l) (D := D) (cI := cI) (cJ := cJ) (cZ := cZ) h) (va_cwS 3 F.2.2.2.2 gX6_move_X6_in rfl rfl rfl kS_X6_in ⟨Nat.le_of_ble_eq_true rfl, Nat.le_of_ble_eq_true rfl⟩) ⟨rp_blind, rp_pre hz (hP.sub (ws' := []) [] rfl) [.int a2, .int (0 : Int32), .int (63 : Int32)]⟩ rfl rfl hl.1 rfl (lv_room (Nat.le_of_ble_eq_true rfl)) dX6_move_11 ⟨Nat.le_of_ble_eq_true rfl, Nat.le_of_ble_eq_true rfl⟩)) (fun r_2 h => ?_)
    obtain ⟨hbr_2, h⟩ := h
    refine lv_if_eq (tgt := 26) F.1 F.2.1 dX6_move_14 (by decide) (fun hc => ?_) (fun hc => ?_)
    · have h := h.1 (hc)
      refine lv_iconst (v := (-1 : Int32)) F.1 F.2.1 dX6_move_26 (by decide) ?_
      exact hret _ _ _ h dX6_move_27
    · have h := h.2 hc
      refine lv_aload_n F.1 F.2.1 dX6_move_17 rfl (lv_at hl 0 rfl) ?_
      refine lv_iload_n F.1 F.2.1 dX6_move_18 rfl (lv_at hl 1 rfl) ?_
      refine lv_iload_n F.1 F.2.1 dX6_move_19 rfl (lv_at hl 2 rfl) ?_
      refine vp_callSi (va_Run.run (va_runV (As := [.int a1, .int a2]) (rest := []) F (mX6_moved (l := l) (D := D) (cI := cI) (cJ := cJ) (cZ := cZ) (ad := ad) h) (cwV 2 F.2.2.2.2 gX6_move_X6_moved rfl rfl rfl kV_X6_moved ⟨Nat.le_of_ble_eq_true rfl, Nat.le_of_ble_eq_true rfl⟩) ⟨rp_blind, va_recv hz.1 hP (ci := 4) (q0 := 0) rfl rfl, rp_pre hz hP (.ref (ad 0) :: [.int a1, .int a2])⟩ rfl rfl hl.1 rfl (lv_room (Nat.le_of_ble_eq_true rfl)) dX6_move_20 ⟨Nat.le_of_ble_eq_true rfl, Nat.le_of_ble_eq_true rfl⟩)) (fun r_3 h => ?_)
      refine lv_goto (tgt := 27) F.1 F.2.1 dX6_move_23 (by decide) ?_
      exact hret _ _ _ h dX6_move_27
theorem mX6_move {l : Launch} {D : va_G} {cI cJ cZ : ClassId} {ad : Nat → Nat} {S : S6} {a1 : Int32} {a2 : Int32} {Q : Int32 → Prop} (h : wX6_move S a1 a2 Q) : Met l yX6_move wsX6_move rX6_move (va_Pc [.ref (ad 0), .int a1, .int a2] (rp D cI cJ cZ (w6 ad cI cZ S))) (vp_Si Q) 0 0 (fun _ => False) :=
  enter_i (by decide +kernel) rfl (Nat.le_of_ble_eq_true rfl) (fun p e s m args below meth c QQ F hz hret => bX6_move F hz.1 hz.2 hret h)
abbrev rX6_rounded : Room := { frames := 5, cells := 0, slots := 0, locals := 117 }
theorem kV_X6_rounded : yX6_rounded.cls = RX6 ∧ yX6_rounded.cls ≠ "java/lang/invoke/MethodHandle" ∧ yX6_rounded.cls ≠ "java/lang/invoke/VarHandle" ∧ (parseMethodDescriptor yX6_rounded.desc).map (fun d => d.parameters.length) = some 4 := by decide +kernel
theorem uX6_rounded_1 : Cond.constant RX6 83 (-1000000) ∈ wsX6_rounded := List.mem_of_getElem? (i := 1) rfl
theorem vX6_rounded_X6 : ∀ w ∈ wsX60, w ∈ wsX6_rounded := fun _ h => List.mem_cons_of_mem _ (List.mem_append_right _ h)
theorem uX6_rounded_2 : Cond.fieldLink RX6 42 "SumMovedModel" "parts" "[I" ∈ wsX6_rounded := List.mem_of_getElem? (i := 2) rfl
theorem uX6_rounded_3 : Cond.fieldLink RX6 45 "SumMovedModel" "left" "[I" ∈ wsX6_rounded := List.mem_of_getElem? (i := 3) rfl
set_option maxRecDepth 100000 in
theorem kX6_rounded_67 {p1 : Int32} {p2 : Int32} {p3 : Int32} {p4 : Int32} {p5 : Int32} (F : CallFix p m c cX6_rounded 9 s args wsX6_rounded RX6) (hz : gz D cI cJ cZ s) (hD : ∀ u : S6, va_D A (w6 ad cI cZ u)) (hA : ∀ q : Nat, s.heap.size ≤ q → A q) {K : Int32 × Int32 × S6 → Prop} (hK : ∀ x : Int32 × Int32 × S6, K x → match x with | (x6, x7, S) => ∀ (H : Heap) (locs : List Loc), va_P D vwCl (w6 ad cI cZ S) H → va_S A s.heap H locs → ∀ ls : Array Slot, lv_has ls 9 [(0, .ref (ad 0)), (1, .int p1), (2, .int p2), (3, .int p3), (4, .int p4), (5, .int p5), (6, .int x6), (7, .int x7)] → W p l e rX6_rounded s m args below meth c H locs 0 0 QQ (F0 m 144 ls [])) : ∀ (nn : Nat) (x : Int32 × Int32 × S6), iter (sX6_rounded_67 p1 p2 p3 p4 p5 K) nn x → match x with | (x6, x7, S) => ∀ (H : Heap) (locs : List Loc), va_P D vwCl (w6 ad cI cZ S) H → va_S A s.heap H locs → ∀ ls : Array Slot, lv_has ls 9 [(0, .ref (ad 0)), (1, .int p1), (2, .int p2), (3, .int p3), (4, .int p4), (5, .int p5), (6, .int x6), (7, .int x7)] → W p l e rX6_rounded s m args below meth c H locs 0 0 QQ (F0 m 67 ls []) := by
  refine iter_walk ?_
  rintro again67 ⟨x6, x7, S⟩ ih67 h H locs hP hS ls hl
  have hK67 := hK
  refine lv_iload F.1 F.2.1 dX6_rounded_67 (lv_at hl 7 rfl) ?_
  refine lv_bipush (v := (8 : Int32)) F.1 F.2.1 dX6_rounded_69 (by decide) ?_
  refine lv_icmp_ge (tgt := 144) F.1 F.2.1 dX6_rounded_71 (by decide) (fun hc => ?_) (fun hc => ?_)
  · have h := h.1 (hc)
    exact hK67 (x6, x7, S) h _ _ hP hS ls (lv_sub hl [0, 1, 2, 3, 4, 5, 6, 7] rfl)
  · have h := h.2 hc
    refine lv_aload_n F.1 F.2.1 dX6_rounded_74 rfl (lv_at hl 0 rfl) ?_
    refine lv_iload_n F.1 F.2.1 dX6_rounded_75 rfl (lv_at hl 1 rfl) ?_
    refine lv_iload_n F.1 F.2.1 dX6_rounded_76 rfl (lv_at hl 2 rfl) ?_
    refine vp_callSi (va_Run.run (va_runS (As := [.int p2]) (rest := [.int p1, .ref (ad 0)]) F (mX6_place (l := l) (D := D) (cI := cI) (cJ := cJ) (cZ := cZ) h) (va_cwS 1 F.2.2.2.2 gX6_rounded_X6_place rfl rfl rfl kS_X6_place ⟨Nat.le_of_ble_eq_true rfl, Nat.le_of_ble_eq_true rfl⟩) ⟨rp_blind, rp_pre hz (hP.sub (ws' := []) [] rfl) [.int p2]⟩ rfl rfl hl.1 rfl (lv_room (Nat.le_of_ble_eq_true rfl)) dX6_rounded_77 ⟨Nat.le_of_ble_eq_true rfl, Nat.le_of_ble_eq_true rfl⟩)) (fun r_8 h => ?_)
    refine lv_iload F.1 F.2.1 dX6_rounded_80 (lv_at hl 7 rfl) ?_
    refine lv_iconst (v := (1 : Int32)) F.1 F.2.1 dX6_rounded_82 (by decide) ?_
    refine lv_iadd F.1 F.2.1 dX6_rounded_83 ?_
    refine lv_imul F.1 F.2.1 dX6_rounded_84 ?_
    refine lv_iadd F.1 F.2.1 dX6_rounded_85 ?_
    refine lv_iconst (v := (0 : Int32)) F.1 F.2.1 dX6_rounded_86 (by decide) ?_
    refine vp_callSi (va_Run.run (va_runV (As := [.int (p1 + (r_8 * (x7 + (1 : Int32)))), .int (0 : Int32)]) (rest := []) F (mX6_changed (l := l) (D := D) (cI := cI) (cJ := cJ) (cZ := cZ) (ad := ad) h) (cwV 2 F.2.2.2.2 gX6_rounded_X6_changed rfl rfl rfl kV_X6_changed ⟨Nat.le_of_ble_eq_true rfl, Nat.le_of_ble_eq_true rfl⟩) ⟨rp_blind, va_recv hz.1 hP (ci := 4) (q0 := 0) rfl rfl, rp_pre hz hP (.ref (ad 0) :: [.int (p1 + (r_8 * (x7 + (1 : Int32)))), .int (0 : Int32)])⟩ rfl rfl hl.1 rfl (lv_room (Nat.le_of_ble_eq_true rfl)) dX6_rounded_87 ⟨Nat.le_of_ble_eq_true rfl, Nat.le_of_ble_eq_true rfl⟩)) (fun r_9 h => ?_)
    refine lv_istore (lv' := [(8, .int r_9), (0, .ref (ad 0)), (1, .int p1), (2, .int p2), (3, .int p3), (4, .int p4), (5, .int p5), (6, .int x6), (7, .int x7)]) F.1 F.2.1 dX6_rounded_90 hl (by decide) rfl (fun ls hl => ?_)
    refine lv_aload_n F.1 F.2.1 dX6_rounded_92 rfl (lv_at hl 1 rfl) ?_
    refine va_get (D := D) (ci := 4) (v := .ref (ad 10)) (C := RX6) (T := TX6) (N := 19) F.1 F.2.1 F.2.2.2.2 vX6_rounded_X6 F.2.2.2.1 hz.1 hP 0 rfl rfl 15 (by decide) (F.2.2.2.2 _ uX6_rounded_2) (fun _ h9 => h9) rfl dX6_rounded_93 ?_
    refine lv_iload F.1 F.2.1 dX6_rounded_96 (lv_at hl 8 rfl) ?_
    refine lv_iload F.1 F.2.1 dX6_rounded_98 (lv_at hl 0 rfl) ?_
    refine lv_iload F.1 F.2.1 dX6_rounded_100 (lv_at hl 5 rfl) ?_
    refine vp_callSi (va_Run.run (va_runS (As := [.int r_9, .int p4]) (rest := [.int x7, .ref (ad 10)]) F (mX6_floor (l := l) (D := D) (cI := cI) (cJ := cJ) (cZ := cZ) h) (va_cwS 2 F.2.2.2.2 gX6_rounded_X6_floor rfl rfl rfl kS_X6_floor ⟨Nat.le_of_ble_eq_true rfl, Nat.le_of_ble_eq_true rfl⟩) ⟨rp_blind, rp_pre hz (hP.sub (ws' := []) [] rfl) [.int r_9, .int p4]⟩ rfl rfl hl.1 rfl (lv_room (Nat.le_of_ble_eq_true rfl)) dX6_rounded_102 ⟨Nat.le_of_ble_eq_true rfl, Nat.le_of_ble_eq_true rfl⟩)) (fun r_10 h => ?_)
    refine va_iast F.1 F.2.1 hz.1 hP (hD _) hS 10 0 rfl rfl h.1 dX6_rounded_105 (fun H locs hP _ hS => ?_)
    have h := h.2
    have hP : va_P D vwCl (w6 ad cI cZ (S.1, S.2.1, S.2.2.1, S.2.2.2.1, S.2.2.2.2.1, S.2.2.2.2.2.1, S.2.2.2.2.2.2.1, S.2.2.2.2.2.2.2.1, S.2.2.2.2.2.2.2.2.1, S.2.2.2.2.2.2.2.2.2.1, S.2.2.2.2.2.2.2.2.2.2.1, S.2.2.2.2.2.2.2.2.2.2.2.1, S.2.2.2.2.2.2.2.2.2.2.2.2.1, S.2.2.2.2.2.2.2.2.2.2.2.2.2.1, S.2.2.2.2.2.2.2.2.2.2.2.2.2.2.1, (upd S.2.2.2.2.2.2.2.2.2.2.2.2.2.2.2.1 x7.toNatClampNeg r_10), S.2.2.2.2.2.2.2.2.2.2.2.2.2.2.2.2.1, S.2.2.2.2.2.2.2.2.2.2.2.2.2.2.2.2.2.1, S.2.2.2.2.2.2.2.2.2.2.2.2.2.2.2.2.2.2)) H := hP
    refine lv_aload_n F.1 F.2.1 dX6_rounded_106 rfl (lv_at hl 1 rfl) ?_
    refine va_get (D := D) (ci := 4) (v := .ref (ad 11)) (C := RX6) (T := TX6) (N := 19) F.1 F.2.1 F.2.2.2.2 vX6_rounded_X6 F.2.2.2.1 hz.1 hP 0 rfl rfl 16 (by decide) (F.2.2.2.2 _ uX6_rounded_3) (fun _ h9 => h9) rfl dX6_rounded_107 ?_
    refine lv_iload F.1 F.2.1 dX6_rounded_110 (lv_at hl 8 rfl) ?_
    refine lv_iload F.1 F.2.1 dX6_rounded_112 (lv_at hl 0 rfl) ?_
    refine lv_aload_n F.1 F.2.1 dX6_rounded_114 rfl (lv_at hl 1 rfl) ?_
    refine va_get (D := D) (ci := 4) (v := .ref (ad 10)) (C := RX6) (T := TX6) (N := 19) F.1 F.2.1 F.2.2.2.2 vX6_rounded_X6 F.2.2.2.1 hz.1 hP 0 rfl rfl 15 (by decide) (F.2.2.2.2 _ uX6_rounded_2) (fun _ h9 => h9) rfl dX6_rounded_115 ?_
    refine lv_iload F.1 F.2.1 dX6_rounded_118 (lv_at hl 8 rfl) ?_
    refine va_iald F.1 F.2.1 hz.1 hP 10 0 rfl rfl h.1 dX6_rounded_120 ?_
    have h := h.2
    refine lv_iload F.1 F.2.1 dX6_rounded_121 (lv_at hl 5 rfl) ?_
    refine lv_imul F.1 F.2.1 dX6_rounded_123 ?_
    refine lv_isub F.1 F.2.1 dX6_rounded_124 ?_
    refine va_iast F.1 F.2.1 hz.1 hP (hD _) hS 11 0 rfl rfl h.1 dX6_rounded_125 (fun H locs hP _ hS => ?_)
    have h := h.2
    have hP : va_P D vwCl (w6 ad cI cZ (S.1, S.2.1, S.2.2.1, S.2.2.2.1, S.2.2.2.2.1, S.2.2.2.2.2.1, S.2.2.2.2.2.2.1, S.2.2.2.2.2.2.2.1, S.2.2.2.2.2.2.2.2.1, S.2.2.2.2.2.2.2.2.2.1, S.2.2.2.2.2.2.2.2.2.2.1, S.2.2.2.2.2.2.2.2.2.2.2.1, S.2.2.2.2.2.2.2.2.2.2.2.2.1, S.2.2.2.2.2.2.2.2.2.2.2.2.2.1, S.2.2.2.2.2.2.2.2.2.2.2.2.2.2.1, (upd S.2.2.2.2.2.2.2.2.2.2.2.2.2.2.2.1 x7.toNatClampNeg r_10), (upd S.2.2.2.2.2.2.2.2.2.2.2.2.2.2.2.2.1 x7.toNatClampNeg (r_9 - (((upd S.2.2.2.2.2.2.2.2.2.2.2.2.2.2.2.1 x7.toNatClampNeg r_10) x7.toNatClampNeg) * p4))), S.2.2.2.2.2.2.2.2.2.2.2.2.2.2.2.2.2.1, S.2.2.2.2.2.2.2.2.2.2.2.2.2.2.2.2.2.2)) H := hP
    refine lv_iload F.1 F.2.1 dX6_rounded_126 (lv_at hl 7 rfl) ?_
    refine lv_aload_n F.1 F.2.1 dX6_rounded_128 rfl (lv_at hl 1 rfl) ?_
    refine va_get (D := D) (ci := 4) (v := .ref (ad 10)) (C := RX6) (T := TX6) (N := 19) F.1 F.2.1 F.2.2.2.2 vX6_rounded_X6 F.2.2.2.1 hz.1 hP 0 rfl rfl 15 (by decide) (F.2.2.2.2 _ uX6_rounded_2) (fun _ h9 => h9) rfl dX6_rounded_129 ?_
    refine lv_iload F.1 F.2.1 dX6_rounded_132 (lv_at hl 8 rfl) ?_
    refine va_iald F.1 F.2.1 hz.1 hP 10 0 rfl rfl h.1 dX6_rounded_134 ?_
    have h := h.2
    refine lv_isub F.1 F.2.1 dX6_rounded_135 ?_
    refine lv_topi (fun y_11 ey_11 => ?_)
    have h := h y_11 ey_11
    refine lv_istore (lv' := [(6, .int y_11), (8, .int r_9), (0, .ref (ad 0)), (1, .int p1), (2, .int p2), (3, .int p3), (4, .int p4), (5, .int p5), (7, .int x7)]) F.1 F.2.1 dX6_rounded_136 hl (by decide) rfl (fun ls hl => ?_)
    refine lv_iinc (v := x7 + 1) (lv' := [(7, .int (x7 + 1)), (6, .int y_11), (8, .int r_9), (0, .ref (ad 0)), (1, .int p1), (2, .int p2), (3, .int p3), (4, .int p4), (5, .int p5)]) F.1 F.2.1 dX6_rounded_138 hl (k := 8) rfl rfl (by decide) rfl (fun ls hl => ?_)
    refine lv_goto (tgt := 67) F.1 F.2.1 dX6_rounded_141 (by decide) ?_
    exact ih67 (y_11, x7 + 1, (S.1, S.2.1, S.2.2.1, S.2.2.2.1, S.2.2.2.2.1, S.2.2.2.2.2.1, S.2.2.2.2.2.2.1, S.2.2.2.2.2.2.2.1, S.2.2.2.2.2.2.2.2.1, S.2.2.2.2.2.2.2.2.2.1, S.2.2.2.2.2.2.2.2.2.2.1, S.2.2.2.2.2.2.2.2.2.2.2.1, S.2.2.2.2.2.2.2.2.2.2.2.2.1, S.2.2.2.2.2.2.2.2.2.2.2.2.2.1, S.2.2.2.2.2.2.2.2.2.2.2.2.2.2.1, (upd S.2.2.2.2.2.2.2.2.2.2.2.2.2.2.2.1 x7.toNatClampNeg r_10), (upd S.2.2.2.2.2.2.2.2.2.2.2.2.2.2.2.2.1 x7.toNatClampNeg (r_9 - (((upd S.2.2.2.2.2.2.2.2.2.2.2.2.2.2.2.1 x7.toNatClampNeg r_10) x7.toNatClampNeg) * p4))), S.2.2.2.2.2.2.2.2.2.2.2.2.2.2.2.2.2.1, S.2.2.2.2.2.2.2.2.2.2.2.2.2.2.2.2.2.2)) h _ _ hP hS ls (lv_sub hl [3, 4, 5, 6, 7, 8, 1, 0] rfl)
set_option maxRecDepth 100000 in
theorem kX6_rounded_155 {p3 : Int32} {p5 : Int32} {p6 : Int32} (F : CallFix p m c cX6_rounded 9 s args wsX6_rounded RX6) (hz : gz D cI cJ cZ s) (hD : ∀ u : S6, va_D A (w6 ad cI cZ u)) (hA : ∀ q : Nat, s.heap.size ≤ q → A q) {K : Int32 × Int32 × S6 → Prop} (hK : ∀ x : Int32 × Int32 × S6, K x → match x with | (x7, x8, S) => ∀ (H : Heap) (locs : List Loc), va_P D vwCl (w6 ad cI cZ S) H → va_S A s.heap H locs → ∀ ls : Array Slot, lv_has ls 9 [(0, .ref (ad 0)), (3, .int p3), (5, .int p5), (6, .int p6), (7, .int x7), (8, .int x8)] → W p l e rX6_rounded s m args below meth c H locs 0 0 QQ (F0 m 194 ls [])) : ∀ (nn : Nat) (x : Int32 × Int32 × S6), iter (sX6_rounded_155 p3 p5 p6 K) nn x → match x with | (x7, x8, S) => ∀ (H : Heap) (locs : List Loc), va_P D vwCl (w6 ad cI cZ S) H → va_S A s.heap H locs → ∀ ls : Array Slot, lv_has ls 9 [(0, .ref (ad 0)), (3, .int p3), (5, .int p5), (6, .int p6), (7, .int x7), (8, .int x8)] → W p l e rX6_rounded s m args below meth c H locs 0 0 QQ (F0 m 155 ls []) := by
  refine iter_walk ?_
  rintro again155 ⟨x7, x8, S⟩ ih155 h H locs hP hS ls hl
  have hK155 := hK
  refine lv_iload F.1 F.2.1 dX6_rounded_155 (lv_at hl 5 rfl) ?_
  refine lv_bipush (v := (8 : Int32)) F.1 F.2.1 dX6_rounded_157 (by decide) ?_
  refine lv_icmp_ge (tgt := 194) F.1 F.2.1 dX6_rounded_159 (by decide) (fun hc => ?_) (fun hc => ?_)
  · have h := h.1 (hc)
    exact hK155 (x7, x8, S) h _ _ hP hS ls (lv_sub hl [0, 1, 2, 3, 4, 5] rfl)
  · have h := h.2 hc
    refine lv_aload_n F.1 F.2.1 dX6_rounded_162 rfl (lv_at hl 0 rfl) ?_
    refine va_get (D := D) (ci := 4) (v := .ref (ad 11)) (C := RX6) (T := TX6) (N := 19) F.1 F.2.1 F.2.2.2.2 vX6_rounded_X6 F.2.2.2.1 hz.1 hP 0 rfl rfl 16 (by decide) (F.2.2.2.2 _ uX6_rounded_3) (fun _ h9 => h9) rfl dX6_rounded_163 ?_
    refine lv_iload F.1 F.2.1 dX6_rounded_166 (lv_at hl 5 rfl) ?_
    refine va_iald F.1 F.2.1 hz.1 hP 11 0 rfl rfl h.1 dX6_rounded_168 ?_
    have h := h.2
    refine lv_aload_n F.1 F.2.1 dX6_rounded_169 rfl (lv_at hl 0 rfl) ?_
    refine va_get (D := D) (ci := 4) (v := .ref (ad 11)) (C := RX6) (T := TX6) (N := 19) F.1 F.2.1 F.2.2.2.2 vX6_rounded_X6 F.2.2.2.1 hz.1 hP 0 rfl rfl 16 (by decide) (F.2.2.2.2 _ uX6_rounded_3) (fun _ h9 => h9) rfl dX6_rounded_170 ?_
    refine lv_iload F.1 F.2.1 dX6_rounded_173 (lv_at hl 4 rfl) ?_
    refine va_iald F.1 F.2.1 hz.1 hP 11 0 rfl rfl h.1 dX6_rounded_175 ?_
    have h := h.2
    refine lv_icmp_le (tgt := 184) F.1 F.2.1 dX6_rounded_176 (by decide) (fun hc => ?_) (fun hc => ?_)
    · have h := h.1 (hc)
      refine lv_iload F.1 F.2.1 dX6_rounded_184 (lv_at hl 4 rfl) ?_
      refine lv_istore (lv' := [(7, .int x7), (0, .ref (ad 0)), (3, .int p3), (5, .int p5), (6, .int p6), (8, .int x8)]) F.1 F.2.1 dX6_rounded_186 hl (by decide) rfl (fun ls hl => ?_)
      refine lv_iinc (v := x8 + 1) (lv' := [(8, .int (x8 + 1)), (7, .int x7), (0, .ref (ad 0)), (3, .int p3), (5, .int p5), (6, .int p6)]) F.1 F.2.1 dX6_rounded_188 hl (k := 5) rfl rfl (by decide) rfl (fun ls hl => ?_)
      refine lv_goto (tgt := 155) F.1 F.2.1 dX6_rounded_191 (by decide) ?_
      exact ih155 (x7, x8 + 1, S) h _ _ hP hS ls (lv_sub hl [2, 3, 4, 5, 1, 0] rfl)
    · have h := h.2 hc
      refine lv_iload F.1 F.2.1 dX6_rounded_179 (lv_at hl 5 rfl) ?_
      refine lv_goto (tgt := 186) F.1 F.2.1 dX6_rounded_181 (by decide) ?_
      refine lv_istore (lv' := [(7, .int x8), (0, .ref (ad 0)), (3, .int p3), (5, .int p5), (6, .int p6), (8, .int x8)]) F.1 F.2.1 dX6_rounded_186 hl (by decide) rfl (fun ls hl => ?_)
      refine lv_iinc (v := x8 + 1) (lv' := [(8, .int (x8 + 1)), (7, .int x8), (0, .ref (ad 0)), (3, .int p3), (5, .int p5), (6, .int p6)]) F.1 F.2.1 dX6_rounded_188 hl (k := 5) rfl rfl (by decide) rfl (fun ls hl => ?_)
      refine lv_goto (tgt := 155) F.1 F.2.1 dX6_rounded_191 (by decide) ?_
      exact ih155 (x8, x8 + 1, S) h _ _ hP hS ls (lv_sub hl [2, 3, 4, 5, 1, 0] rfl)
set_option maxRecDepth 100000 in
theorem kX6_rounded_144 {p3 : Int32} {p5 : Int32} (F : CallFix p m c cX6_rounded 9 s args wsX6_rounded RX6) (hz : gz D cI cJ cZ s) (hD : ∀ u : S6, va_D A (w6 ad cI cZ u)) (hA : ∀ q : Nat, s.heap.size ≤ q → A q) {K : Int32 × S6 → Prop} (hK : ∀ x : Int32 × S6, K x → match x with | (x6, S) => ∀ (H : Heap) (locs : List Loc), va_P D vwCl (w6 ad cI cZ S) H → va_S A s.heap H locs → ∀ ls : Array Slot, lv_has ls 9 [(0, .ref (ad 0)), (3, .int p3), (5, .int p5), (6, .int x6)] → W p l e rX6_rounded s m args below meth c H locs 0 0 QQ (F0 m 219 ls [])) : ∀ (nn : Nat) (x : Int32 × S6), iter (sX6_rounded_144 p3 p5 K) nn x → match x with | (x6, S) => ∀ (H : Heap) (locs : List Loc), va_P D vwCl (w6 ad cI cZ S) H → va_S A s.heap H locs → ∀ ls : Array Slot, lv_has ls 9 [(0, .ref (ad 0)), (3, .int p3), (5, .int p5), (6, .int x6)] → W p l e rX6_rounded s m args below meth c H locs 0 0 QQ (F0 m 144 ls []) := by
  refine iter_walk ?_
  rintro again144 ⟨x6, S⟩ ih144 h H locs hP hS ls hl
  have hK144 := hK
  refine lv_iload F.1 F.2.1 dX6_rounded_144 (lv_at hl 3 rfl) ?_
  refine lv_if_le (tgt := 219) F.1 F.2.1 dX6_rounded_146 (by decide) (fun hc => ?_) (fun hc => ?_)
  · have h := h.1 (hc)
    exact hK144 (x6, S) h _ _ hP hS ls (lv_sub hl [0, 1, 2, 3] rfl)
  · have h := h.2 hc
    refine lv_iconst (v := (0 : Int32)) F.1 F.2.1 dX6_rounded_149 (by decide) ?_
    refine lv_istore (lv' := [(7, .int (0 : Int32)), (0, .ref (ad 0)), (3, .int p3), (5, .int p5), (6, .int x6)]) F.1 F.2.1 dX6_rounded_150 hl (by decide) rfl (fun ls hl => ?_)
    refine lv_iconst (v := (1 : Int32)) F.1 F.2.1 dX6_rounded_152 (by decide) ?_
    refine lv_istore (lv' := [(8, .int (1 : Int32)), (7, .int (0 : Int32)), (0, .ref (ad 0)), (3, .int p3), (5, .int p5), (6, .int x6)]) F.1 F.2.1 dX6_rounded_153 hl (by decide) rfl (fun ls hl => ?_)
    obtain ⟨nn, h⟩ := h
    refine kX6_rounded_155 F hz hD hA (fun ⟨x7, x8, S⟩ h H locs hP hS ls hl => ?_) nn _ h _ _ hP hS ls (lv_sub hl [2, 3, 4, 5, 1, 0] rfl)
    refine lv_aload_n F.1 F.2.1 dX6_rounded_194 rfl (lv_at hl 0 rfl) ?_
    refine va_get (D := D) (ci := 4) (v := .ref (ad 10)) (C := RX6) (T := TX6) (N := 19) F.1 F.2.1 F.2.2.2.2 vX6_rounded_X6 F.2.2.2.1 hz.1 hP 0 rfl rfl 15 (by decide) (F.2.2.2.2 _ uX6_rounded_2) (fun _ h9 => h9) rfl dX6_rounded_195 ?_
    refine lv_iload F.1 F.2.1 dX6_rounded_198 (lv_at hl 4 rfl) ?_
    refine lv_dup2_11 F.1 F.2.1 dX6_rounded_200 rfl rfl ?_
    refine va_iald F.1 F.2.1 hz.1 hP 10 0 rfl rfl h.1 dX6_rounded_201 ?_
    have h := h.2
    refine lv_iconst (v := (1 : Int32)) F.1 F.2.1 dX6_rounded_202 (by decide) ?_
    refine lv_iadd F.1 F.2.1 dX6_rounded_203 ?_
    refine va_iast F.1 F.2.1 hz.1 hP (hD _) hS 10 0 rfl rfl h.1 dX6_rounded_204 (fun H locs hP _ hS => ?_)
    have h := h.2
    have hP : va_P D vwCl (w6 ad cI cZ (S.1, S.2.1, S.2.2.1, S.2.2.2.1, S.2.2.2.2.1, S.2.2.2.2.2.1, S.2.2.2.2.2.2.1, S.2.2.2.2.2.2.2.1, S.2.2.2.2.2.2.2.2.1, S.2.2.2.2.2.2.2.2.2.1, S.2.2.2.2.2.2.2.2.2.2.1, S.2.2.2.2.2.2.2.2.2.2.2.1, S.2.2.2.2.2.2.2.2.2.2.2.2.1, S.2.2.2.2.2.2.2.2.2.2.2.2.2.1, S.2.2.2.2.2.2.2.2.2.2.2.2.2.2.1, (upd S.2.2.2.2.2.2.2.2.2.2.2.2.2.2.2.1 x7.toNatClampNeg ((S.2.2.2.2.2.2.2.2.2.2.2.2.2.2.2.1 x7.toNatClampNeg) + (1 : Int32))), S.2.2.2.2.2.2.2.2.2.2.2.2.2.2.2.2.1, S.2.2.2.2.2.2.2.2.2.2.2.2.2.2.2.2.2.1, S.2.2.2.2.2.2.2.2.2.2.2.2.2.2.2.2.2.2)) H := hP
    refine lv_aload_n F.1 F.2.1 dX6_rounded_205 rfl (lv_at hl 0 rfl) ?_
    refine va_get (D := D) (ci := 4) (v := .ref (ad 11)) (C := RX6) (T := TX6) (N := 19) F.1 F.2.1 F.2.2.2.2 vX6_rounded_X6 F.2.2.2.1 hz.1 hP 0 rfl rfl 16 (by decide) (F.2.2.2.2 _ uX6_rounded_3) (fun _ h9 => h9) rfl dX6_rounded_206 ?_
    refine lv_iload F.1 F.2.1 dX6_rounded_209 (lv_at hl 4 rfl) ?_
    refine lv_iconst (v := (-1 : Int32)) F.1 F.2.1 dX6_rounded_211 (by decide) ?_
    refine va_iast F.1 F.2.1 hz.1 hP (hD _) hS 11 0 rfl rfl h.1 dX6_rounded_212 (fun H locs hP _ hS => ?_)
    have h := h.2
    have hP : va_P D vwCl (w6 ad cI cZ (S.1, S.2.1, S.2.2.1, S.2.2.2.1, S.2.2.2.2.1, S.2.2.2.2.2.1, S.2.2.2.2.2.2.1, S.2.2.2.2.2.2.2.1, S.2.2.2.2.2.2.2.2.1, S.2.2.2.2.2.2.2.2.2.1, S.2.2.2.2.2.2.2.2.2.2.1, S.2.2.2.2.2.2.2.2.2.2.2.1, S.2.2.2.2.2.2.2.2.2.2.2.2.1, S.2.2.2.2.2.2.2.2.2.2.2.2.2.1, S.2.2.2.2.2.2.2.2.2.2.2.2.2.2.1, (upd S.2.2.2.2.2.2.2.2.2.2.2.2.2.2.2.1 x7.toNatClampNeg ((S.2.2.2.2.2.2.2.2.2.2.2.2.2.2.2.1 x7.toNatClampNeg) + (1 : Int32))), (upd S.2.2.2.2.2.2.2.2.2.2.2.2.2.2.2.2.1 x7.toNatClampNeg (-1 : Int32)), S.2.2.2.2.2.2.2.2.2.2.2.2.2.2.2.2.2.1, S.2.2.2.2.2.2.2.2.2.2.2.2.2.2.2.2.2.2)) H := hP
    refine lv_iinc (v := x6 + (-1)) (lv' := [(6, .int (x6 + (-1))), (0, .ref (ad 0)), (3, .int p3), (5, .int p5), (7, .int x7), (8, .int x8)]) F.1 F.2.1 dX6_rounded_213 hl (k := 3) rfl rfl (by decide) rfl (fun ls hl => ?_)
    refine lv_goto (tgt := 144) F.1 F.2.1 dX6_rounded_216 (by decide) ?_
    exact ih144 (x6 + (-1), (S.1, S.2.1, S.2.2.1, S.2.2.2.1, S.2.2.2.2.1, S.2.2.2.2.2.1, S.2.2.2.2.2.2.1, S.2.2.2.2.2.2.2.1, S.2.2.2.2.2.2.2.2.1, S.2.2.2.2.2.2.2.2.2.1, S.2.2.2.2.2.2.2.2.2.2.1, S.2.2.2.2.2.2.2.2.2.2.2.1, S.2.2.2.2.2.2.2.2.2.2.2.2.1, S.2.2.2.2.2.2.2.2.2.2.2.2.2.1, S.2.2.2.2.2.2.2.2.2.2.2.2.2.2.1, (upd S.2.2.2.2.2.2.2.2.2.2.2.2.2.2.2.1 x7.toNatClampNeg ((S.2.2.2.2.2.2.2.2.2.2.2.2.2.2.2.1 x7.toNatClampNeg) + (1 : Int32))), (upd S.2.2.2.2.2.2.2.2.2.2.2.2.2.2.2.2.1 x7.toNatClampNeg (-1 : Int32)), S.2.2.2.2.2.2.2.2.2.2.2.2.2.2.2.2.2.1, S.2.2.2.2.2.2.2.2.2.2.2.2.2.2.2.2.2.2)) h _ _ hP hS ls (lv_sub hl [1, 2, 3, 0] rfl)
set_option maxRecDepth 100000 in
theorem bX6_rounded {a1 : Int32} {a2 : Int32} {a3 : Int32} {a4 : Int32} {S : S6} {Q : Int32 → S6 → Prop} (F : CallFix p m c cX6_rounded 9 s args wsX6_rounded RX6) (hz : gz D cI cJ cZ s) (hD : ∀ u : S6, va_D A (w6 ad cI cZ u)) (hA : ∀ q : Nat, s.heap.size ≤ q → A q) (hret : ∀ (v : Int32) (u : S6) (H : Heap) (locs : List Loc) (pc : Nat) (ls : Array Slot), Q v u → va_P D vwCl (w6 ad cI cZ u) H → va_S A s.heap H locs → decode cX6_rounded pc = .ok (.ireturn, 1) → W p l e rX6_rounded s m args below meth c H locs 0 0 QQ (F0 m pc ls [.int v])) (hP : va_P D vwCl (w6 ad cI cZ S) s.heap) (h : wX6_rounded S a1 a2 a3 a4 Q) : ∀ ls : Array Slot, lv_has ls 9 [(0, .ref (ad 0)), (1, .int a1), (2, .int a2), (3, .int a3), (4, .int a4)] → W p l e rX6_rounded s m args below meth c s.heap [] 0 0 QQ (F0 m 0 ls []) := by
  intro ls hl
  have hS : va_S A s.heap s.heap [] := va_S.rf
  refine lv_iload_n F.1 F.2.1 dX6_rounded_0 rfl (lv_at hl 1 rfl) ?_
  refine vp_callSi (va_Run.run (va_runS (As := [.int a1]) (rest := []) F (mX6_isHeap (l := l) (D := D) (cI := cI) (cJ := cJ) (cZ := cZ) h) (va_cwS 1 F.2.2.2.2 gX6_rounded_X6_isHeap rfl rfl rfl kS_X6_isHeap ⟨Nat.le_of_ble_eq_true rfl, Nat.le_of_ble_eq_true rfl⟩) ⟨rp_blind, rp_pre hz (hP.sub (ws' := []) [] rfl) [.int a1]⟩ rfl rfl hl.1 rfl (lv_room (Nat.le_of_ble_eq_true rfl)) dX6_rounded_1 ⟨Nat.le_of_ble_eq_true rfl, Nat.le_of_ble_eq_true rfl⟩)) (fun r_1 h => ?_)
  obtain ⟨hbr_1, h⟩ := h
  refine lv_if_eq (tgt := 44) F.1 F.2.1 dX6_rounded_4 (by decide) (fun hc => ?_) (fun hc => ?_)
  · have h := h.1 (hc)
    refine lv_ldc (v := (-1000000 : Int32)) F.1 F.2.1 F.2.2.2.1 (F.2.2.2.2 _ uX6_rounded_1) dX6_rounded_44 ?_
    exact hret _ _ _ _ _ _ h hP hS dX6_rounded_46
  · have h := h.2 hc
    refine lv_iload_n F.1 F.2.1 dX6_rounded_7 rfl (lv_at hl 2 rfl) ?_
    refine vp_callSi (va_Run.run (va_runS (As := [.int a2]) (rest := []) F (mX6_isMark (l := l) (D := D) (cI := cI) (cJ := cJ) (cZ := cZ) h) (va_cwS 1 F.2.2.2.2 gX6_rounded_X6_isMark rfl rfl rfl kS_X6_isMark ⟨Nat.le_of_ble_eq_true rfl, Nat.le_of_ble_eq_true rfl⟩) ⟨rp_blind, rp_pre hz (hP.sub (ws' := []) [] rfl) [.int a2]⟩ rfl rfl hl.1 rfl (lv_room (Nat.le_of_ble_eq_true rfl)) dX6_rounded_8 ⟨Nat.le_of_ble_eq_true rfl, Nat.le_of_ble_eq_true rfl⟩)) (fun r_2 h => ?_)
    obtain ⟨hbr_2, h⟩ := h
    refine lv_if_eq (tgt := 44) F.1 F.2.1 dX6_rounded_11 (by decide) (fun hc => ?_) (fun hc => ?_)
    · have h := h.1 (hc)
      refine lv_ldc (v := (-1000000 : Int32)) F.1 F.2.1 F.2.2.2.1 (F.2.2.2.2 _ uX6_rounded_1) dX6_rounded_44 ?_
      exact hret _ _ _ _ _ _ h hP hS dX6_rounded_46
    · have h := h.2 hc
      refine lv_iload_n F.1 F.2.1 dX6_rounded_14 rfl (lv_at hl 3 rfl) ?_
      refine lv_iconst (v := (0 : Int32)) F.1 F.2.1 dX6_rounded_15 (by decide) ?_
      refine lv_bipush (v := (8 : Int32)) F.1 F.2.1 dX6_rounded_16 (by decide) ?_
      refine vp_callSi (va_Run.run (va_runS (As := [.int a3, .int (0 : Int32), .int (8 : Int32)]) (rest := []) F (mX6_in (l := l) (D := D) (cI := cI) (cJ := cJ) (cZ := cZ) h) (va_cwS 3 F.2.2.2.2 gX6_rounded_X6_in rfl rfl rfl kS_X6_in ⟨Nat.le_of_ble_eq_true rfl, Nat.le_of_ble_eq_true rfl⟩) ⟨rp_blind, rp_pre hz (hP.sub (ws' := []) [] rfl) [.int a3, .int (0 : Int32), .int (8 : Int32)]⟩ rfl rfl hl.1 rfl (lv_room (Nat.le_of_ble_eq_true rfl)) dX6_rounded_18 ⟨Nat.le_of_ble_eq_true rfl, Nat.le_of_ble_eq_true rfl⟩)) (fun r_3 h => ?_)
      obtain ⟨hbr_3, h⟩ := h
      refine lv_if_eq (tgt := 44) F.1 F.2.1 dX6_rounded_21 (by decide) (fun hc => ?_) (fun hc => ?_)
      · have h := h.1 (hc)
        refine lv_ldc (v := (-1000000 : Int32)) F.1 F.2.1 F.2.2.2.1 (F.2.2.2.2 _ uX6_rounded_1) dX6_rounded_44 ?_
        exact hret _ _ _ _ _ _ h hP hS dX6_rounded_46
      · have h := h.2 hc
        refine lv_iload F.1 F.2.1 dX6_rounded_24 (lv_at hl 4 rfl) ?_
        refine lv_iconst (v := (1 : Int32)) F.1 F.2.1 dX6_rounded_26 (by decide) ?_
        refine lv_sipush (v := (1000 : Int32)) F.1 F.2.1 dX6_rounded_27 (by decide) ?_
        refine vp_callSi (va_Run.run (va_runS (As := [.int a4, .int (1 : Int32), .int (1000 : Int32)]) (rest := []) F (mX6_in (l := l) (D := D) (cI := cI) (cJ := cJ) (cZ := cZ) h) (va_cwS 3 F.2.2.2.2 gX6_rounded_X6_in rfl rfl rfl kS_X6_in ⟨Nat.le_of_ble_eq_true rfl, Nat.le_of_ble_eq_true rfl⟩) ⟨rp_blind, rp_pre hz (hP.sub (ws' := []) [] rfl) [.int a4, .int (1 : Int32), .int (1000 : Int32)]⟩ rfl rfl hl.1 rfl (lv_room (Nat.le_of_ble_eq_true rfl)) dX6_rounded_30 ⟨Nat.le_of_ble_eq_true rfl, Nat.le_of_ble_eq_true rfl⟩)) (fun r_4 h => ?_)
        obtain ⟨hbr_4, h⟩ := h
        refine lv_if_eq (tgt := 44) F.1 F.2.1 dX6_rounded_33 (by decide) (fun hc => ?_) (fun hc => ?_)
        · have h := h.1 (hc)
          refine lv_ldc (v := (-1000000 : Int32)) F.1 F.2.1 F.2.2.2.1 (F.2.2.2.2 _ uX6_rounded_1) dX6_rounded_44 ?_
          exact hret _ _ _ _ _ _ h hP hS dX6_rounded_46
        · have h := h.2 hc
          refine lv_iload_n F.1 F.2.1 dX6_rounded_36 rfl (lv_at hl 1 rfl) ?_
          refine lv_iload_n F.1 F.2.1 dX6_rounded_37 rfl (lv_at hl 2 rfl) ?_
          refine vp_callSi (va_Run.run (va_runS (As := [.int a1, .int a2]) (rest := []) F (mX6_digit (l := l) (D := D) (cI := cI) (cJ := cJ) (cZ := cZ) h) (va_cwS 2 F.2.2.2.2 gX6_rounded_X6_digit rfl rfl rfl kS_X6_digit ⟨Nat.le_of_ble_eq_true rfl, Nat.le_of_ble_eq_true rfl⟩) ⟨rp_blind, rp_pre hz (hP.sub (ws' := []) [] rfl) [.int a1, .int a2]⟩ rfl rfl hl.1 rfl (lv_room (Nat.le_of_ble_eq_true rfl)) dX6_rounded_38 ⟨Nat.le_of_ble_eq_true rfl, Nat.le_of_ble_eq_true rfl⟩)) (fun r_5 h => ?_)
          refine lv_if_eq (tgt := 47) F.1 F.2.1 dX6_rounded_41 (by decide) (fun hc => ?_) (fun hc => ?_)
          · have h := h.1 (hc)
            refine lv_aload_n F.1 F.2.1 dX6_rounded_47 rfl (lv_at hl 0 rfl) ?_
            refine lv_iload_n F.1 F.2.1 dX6_rounded_48 rfl (lv_at hl 1 rfl) ?_
            refine lv_iconst (v := (0 : Int32)) F.1 F.2.1 dX6_rounded_49 (by decide) ?_
            refine vp_callSi (va_Run.run (va_runV (As := [.int a1, .int (0 : Int32)]) (rest := []) F (mX6_changed (l := l) (D := D) (cI := cI) (cJ := cJ) (cZ := cZ) (ad := ad) h) (cwV 2 F.2.2.2.2 gX6_rounded_X6_changed rfl rfl rfl kV_X6_changed ⟨Nat.le_of_ble_eq_true rfl, Nat.le_of_ble_eq_true rfl⟩) ⟨rp_blind, va_recv hz.1 hP (ci := 4) (q0 := 0) rfl rfl, rp_pre hz hP (.ref (ad 0) :: [.int a1, .int (0 : Int32)])⟩ rfl rfl hl.1 rfl (lv_room (Nat.le_of_ble_eq_true rfl)) dX6_rounded_50 ⟨Nat.le_of_ble_eq_true rfl, Nat.le_of_ble_eq_true rfl⟩)) (fun r_6 h => ?_)
            refine lv_iload F.1 F.2.1 dX6_rounded_53 (lv_at hl 4 rfl) ?_
            refine vp_callSi (va_Run.run (va_runS (As := [.int r_6, .int a4]) (rest := []) F (mX6_floor (l := l) (D := D) (cI := cI) (cJ := cJ) (cZ := cZ) h) (va_cwS 2 F.2.2.2.2 gX6_rounded_X6_floor rfl rfl rfl kS_X6_floor ⟨Nat.le_of_ble_eq_true rfl, Nat.le_of_ble_eq_true rfl⟩) ⟨rp_blind, rp_pre hz (hP.sub (ws' := []) [] rfl) [.int r_6, .int a4]⟩ rfl rfl hl.1 rfl (lv_room (Nat.le_of_ble_eq_true rfl)) dX6_rounded_55 ⟨Nat.le_of_ble_eq_true rfl, Nat.le_of_ble_eq_true rfl⟩)) (fun r_7 h => ?_)
            refine lv_istore (lv' := [(5, .int r_7), (0, .ref (ad 0)), (1, .int a1), (2, .int a2), (3, .int a3), (4, .int a4)]) F.1 F.2.1 dX6_rounded_58 hl (by decide) rfl (fun ls hl => ?_)
            refine lv_iload F.1 F.2.1 dX6_rounded_60 (lv_at hl 0 rfl) ?_
            refine lv_istore (lv' := [(6, .int r_7), (5, .int r_7), (0, .ref (ad 0)), (1, .int a1), (2, .int a2), (3, .int a3), (4, .int a4)]) F.1 F.2.1 dX6_rounded_62 hl (by decide) rfl (fun ls hl => ?_)
            refine lv_iconst (v := (0 : Int32)) F.1 F.2.1 dX6_rounded_64 (by decide) ?_
            refine lv_istore (lv' := [(7, .int (0 : Int32)), (6, .int r_7), (5, .int r_7), (0, .ref (ad 0)), (1, .int a1), (2, .int a2), (3, .int a3), (4, .int a4)]) F.1 F.2.1 dX6_rounded_65 hl (by decide) rfl (fun ls hl => ?_)
            obtain ⟨nn, h⟩ := h
            refine kX6_rounded_67 F hz hD hA (fun ⟨x6, x7, S⟩ h H locs hP hS ls hl => ?_) nn _ h _ _ hP hS ls (lv_sub hl [3, 4, 5, 6, 7, 2, 1, 0] rfl)
            obtain ⟨nn, h⟩ := h
            refine kX6_rounded_144 F hz hD hA (fun ⟨x6, S⟩ h H locs hP hS ls hl => ?_) nn _ h _ _ hP hS ls (lv_sub hl [0, 3, 5, 6] rfl)
            refine lv_iload_n F.1 F.2.1 dX6_rounded_219 rfl (lv_at hl 1 rfl) ?_
            refine lv_bipush (v := (8 : Int32)) F.1 F.2.1 dX6_rounded_220 (by decide) ?_
            refine lv_icmp_ne (tgt := 230) F.1 F.2.1 dX6_rounded_222 (by decide) (fun hc => ?_) (fun hc => ?_)
            · have h := h.2 hc
              refine lv_aload_n F.1 F.2.1 dX6_rounded_230 rfl (lv_at hl 0 rfl) ?_
              refine va_get (D := D) (ci := 4) (v := .ref (ad 10)) (C := RX6) (T := TX6) (N := 19) F.1 F.2.1 F.2.2.2.2 vX6_rounded_X6 F.2.2.2.1 hz.1 hP 0 rfl rfl 15 (by decide) (F.2.2.2.2 _ uX6_rounded_2) (fun _ h9 => h9) rfl dX6_rounded_231 ?_
              refine lv_iload_n F.1 F.2.1 dX6_rounded_234 rfl (lv_at hl 1 rfl) ?_
              refine va_iald F.1 F.2.1 hz.1 hP 10 0 rfl rfl h.1 dX6_rounded_235 ?_
              have h := h.2
              exact hret _ _ _ _ _ _ h hP hS dX6_rounded_236
            · have h := h.1 (hc)
              refine lv_iload F.1 F.2.1 dX6_rounded_225 (lv_at hl 2 rfl) ?_
              refine lv_goto (tgt := 236) F.1 F.2.1 dX6_rounded_227 (by decide) ?_
              exact hret _ _ _ _ _ _ h hP hS dX6_rounded_236
          · have h := h.2 hc
            refine lv_ldc (v := (-1000000 : Int32)) F.1 F.2.1 F.2.2.2.1 (F.2.2.2.2 _ uX6_rounded_1) dX6_rounded_44 ?_
            exact hret _ _ _ _ _ _ h hP hS dX6_rounded_46
theorem mX6_rounded {l : Launch} {D : va_G} {cI cJ cZ : ClassId} {ad : Nat → Nat} {S : S6} {a1 : Int32} {a2 : Int32} {a3 : Int32} {a4 : Int32} {Q : Int32 → S6 → Prop} (sz : Nat) (h : wX6_rounded S a1 a2 a3 a4 Q) : Met l yX6_rounded wsX6_rounded rX6_rounded (va_Pc [.ref (ad 0), .int a1, .int a2, .int a3, .int a4] (wp D cI cJ cZ sz (w6 ad cI cZ S))) (wQi D (w6 ad cI cZ) S sz Q) 0 0 (va_A (w6 ad cI cZ S) sz) :=
  enter_wi (wf := w6 ad cI cZ) (fun _ => rfl) (by decide +kernel) rfl (Nat.le_of_ble_eq_true rfl) (fun p e s m args below meth c QQ A F hz hD hA hP hret => bX6_rounded F hz hD hA hret hP h)
abbrev rX6_factor : Room := { frames := 1, cells := 0, slots := 0, locals := 22 }
theorem kV_X6_factor : yX6_factor.cls = RX6 ∧ yX6_factor.cls ≠ "java/lang/invoke/MethodHandle" ∧ yX6_factor.cls ≠ "java/lang/invoke/VarHandle" ∧ (parseMethodDescriptor yX6_factor.desc).map (fun d => d.parameters.length) = some 3 := by decide +kernel
theorem vX6_factor_X6 : ∀ w ∈ wsX60, w ∈ wsX6_factor := fun _ h => List.mem_cons_of_mem _ (List.mem_append_right _ h)
theorem uX6_factor_1 : Cond.fieldLink RX6 32 "SumMovedModel" "before" "[I" ∈ wsX6_factor := List.mem_of_getElem? (i := 1) rfl
theorem uX6_factor_2 : Cond.fieldLink RX6 35 "SumMovedModel" "after" "[I" ∈ wsX6_factor := List.mem_of_getElem? (i := 2) rfl
set_option maxRecDepth 100000 in
theorem bX6_factor {a1 : Int32} {a2 : Int32} {a3 : Int32} {S : S6} {Q : Int32 → S6 → Prop} (F : CallFix p m c cX6_factor 4 s args wsX6_factor RX6) (hz : gz D cI cJ cZ s) (hD : ∀ u : S6, va_D A (w6 ad cI cZ u)) (hA : ∀ q : Nat, s.heap.size ≤ q → A q) (hret : ∀ (v : Int32) (u : S6) (H : Heap) (locs : List Loc) (pc : Nat) (ls : Array Slot), Q v u → va_P D vwCl (w6 ad cI cZ u) H → va_S A s.heap H locs → decode cX6_factor pc = .ok (.ireturn, 1) → W p l e rX6_factor s m args below meth c H locs 0 0 QQ (F0 m pc ls [.int v])) (hP : va_P D vwCl (w6 ad cI cZ S) s.heap) (h : wX6_factor S a1 a2 a3 Q) : ∀ ls : Array Slot, lv_has ls 4 [(0, .ref (ad 0)), (1, .int a1), (2, .int a2), (3, .int a3)] → W p l e rX6_factor s m args below meth c s.heap [] 0 0 QQ (F0 m 0 ls []) := by
  intro ls hl
  have hS : va_S A s.heap s.heap [] := va_S.rf
  refine lv_iload_n F.1 F.2.1 dX6_factor_0 rfl (lv_at hl 1 rfl) ?_
  refine lv_iconst (v := (0 : Int32)) F.1 F.2.1 dX6_factor_1 (by decide) ?_
  refine lv_iconst (v := (4 : Int32)) F.1 F.2.1 dX6_factor_2 (by decide) ?_
  refine vp_callSi (va_Run.run (va_runS (As := [.int a1, .int (0 : Int32), .int (4 : Int32)]) (rest := []) F (mX6_in (l := l) (D := D) (cI := cI) (cJ := cJ) (cZ := cZ) h) (va_cwS 3 F.2.2.2.2 gX6_factor_X6_in rfl rfl rfl kS_X6_in ⟨Nat.le_of_ble_eq_true rfl, Nat.le_of_ble_eq_true rfl⟩) ⟨rp_blind, rp_pre hz (hP.sub (ws' := []) [] rfl) [.int a1, .int (0 : Int32), .int (4 : Int32)]⟩ rfl rfl hl.1 rfl (lv_room (Nat.le_of_ble_eq_true rfl)) dX6_factor_3 ⟨Nat.le_of_ble_eq_true rfl, Nat.le_of_ble_eq_true rfl⟩)) (fun r_1 h => ?_)
  obtain ⟨hbr_1, h⟩ := h
  refine lv_if_eq (tgt := 31) F.1 F.2.1 dX6_factor_6 (by decide) (fun hc => ?_) (fun hc => ?_)
  · have h := h.1 (hc)
    refine lv_iconst (v := (-1 : Int32)) F.1 F.2.1 dX6_factor_31 (by decide) ?_
    exact hret _ _ _ _ _ _ h hP hS dX6_factor_32
  · have h := h.2 hc
    refine lv_iload_n F.1 F.2.1 dX6_factor_9 rfl (lv_at hl 2 rfl) ?_
    refine lv_bipush (v := (-99 : Int32)) F.1 F.2.1 dX6_factor_10 (by decide) ?_
    refine lv_bipush (v := (99 : Int32)) F.1 F.2.1 dX6_factor_12 (by decide) ?_
    refine vp_callSi (va_Run.run (va_runS (As := [.int a2, .int (-99 : Int32), .int (99 : Int32)]) (rest := []) F (mX6_in (l := l) (D := D) (cI := cI) (cJ := cJ) (cZ := cZ) h) (va_cwS 3 F.2.2.2.2 gX6_factor_X6_in rfl rfl rfl kS_X6_in ⟨Nat.le_of_ble_eq_true rfl, Nat.le_of_ble_eq_true rfl⟩) ⟨rp_blind, rp_pre hz (hP.sub (ws' := []) [] rfl) [.int a2, .int (-99 : Int32), .int (99 : Int32)]⟩ rfl rfl hl.1 rfl (lv_room (Nat.le_of_ble_eq_true rfl)) dX6_factor_14 ⟨Nat.le_of_ble_eq_true rfl, Nat.le_of_ble_eq_true rfl⟩)) (fun r_2 h => ?_)
    obtain ⟨hbr_2, h⟩ := h
    refine lv_if_eq (tgt := 31) F.1 F.2.1 dX6_factor_17 (by decide) (fun hc => ?_) (fun hc => ?_)
    · have h := h.1 (hc)
      refine lv_iconst (v := (-1 : Int32)) F.1 F.2.1 dX6_factor_31 (by decide) ?_
      exact hret _ _ _ _ _ _ h hP hS dX6_factor_32
    · have h := h.2 hc
      refine lv_iload_n F.1 F.2.1 dX6_factor_20 rfl (lv_at hl 3 rfl) ?_
      refine lv_bipush (v := (-99 : Int32)) F.1 F.2.1 dX6_factor_21 (by decide) ?_
      refine lv_bipush (v := (99 : Int32)) F.1 F.2.1 dX6_factor_23 (by decide) ?_
      refine vp_callSi (va_Run.run (va_runS (As := [.int a3, .int (-99 : Int32), .int (99 : Int32)]) (rest := []) F (mX6_in (l := l) (D := D) (cI := cI) (cJ := cJ) (cZ := cZ) h) (va_cwS 3 F.2.2.2.2 gX6_factor_X6_in rfl rfl rfl kS_X6_in ⟨Nat.le_of_ble_eq_true rfl, Nat.le_of_ble_eq_true rfl⟩) ⟨rp_blind, rp_pre hz (hP.sub (ws' := []) [] rfl) [.int a3, .int (-99 : Int32), .int (99 : Int32)]⟩ rfl rfl hl.1 rfl (lv_room (Nat.le_of_ble_eq_true rfl)) dX6_factor_25 ⟨Nat.le_of_ble_eq_true rfl, Nat.le_of_ble_eq_true rfl⟩)) (fun r_3 h => ?_)
      obtain ⟨hbr_3, h⟩ := h
      refine lv_if_ne (tgt := 33) F.1 F.2.1 dX6_factor_28 (by decide) (fun hc => ?_) (fun hc => ?_)
      · have h := h.2 hc
        refine lv_aload_n F.1 F.2.1 dX6_factor_33 rfl (lv_at hl 0 rfl) ?_
        refine va_get (D := D) (ci := 4) (v := .ref (ad 8)) (C := RX6) (T := TX6) (N := 19) F.1 F.2.1 F.2.2.2.2 vX6_factor_X6 F.2.2.2.1 hz.1 hP 0 rfl rfl 8 (by decide) (F.2.2.2.2 _ uX6_factor_1) (fun _ h9 => h9) rfl dX6_factor_34 ?_
        refine lv_iload_n F.1 F.2.1 dX6_factor_37 rfl (lv_at hl 1 rfl) ?_
        refine lv_iload_n F.1 F.2.1 dX6_factor_38 rfl (lv_at hl 2 rfl) ?_
        refine va_iast F.1 F.2.1 hz.1 hP (hD _) hS 8 0 rfl rfl h.1 dX6_factor_39 (fun H locs hP _ hS => ?_)
        have h := h.2
        have hP : va_P D vwCl (w6 ad cI cZ (S.1, S.2.1, S.2.2.1, S.2.2.2.1, S.2.2.2.2.1, S.2.2.2.2.2.1, S.2.2.2.2.2.2.1, S.2.2.2.2.2.2.2.1, (upd S.2.2.2.2.2.2.2.2.1 a1.toNatClampNeg a2), S.2.2.2.2.2.2.2.2.2.1, S.2.2.2.2.2.2.2.2.2.2.1, S.2.2.2.2.2.2.2.2.2.2.2.1, S.2.2.2.2.2.2.2.2.2.2.2.2.1, S.2.2.2.2.2.2.2.2.2.2.2.2.2.1, S.2.2.2.2.2.2.2.2.2.2.2.2.2.2.1, S.2.2.2.2.2.2.2.2.2.2.2.2.2.2.2.1, S.2.2.2.2.2.2.2.2.2.2.2.2.2.2.2.2.1, S.2.2.2.2.2.2.2.2.2.2.2.2.2.2.2.2.2.1, S.2.2.2.2.2.2.2.2.2.2.2.2.2.2.2.2.2.2)) H := hP
        refine lv_aload_n F.1 F.2.1 dX6_factor_40 rfl (lv_at hl 0 rfl) ?_
        refine va_get (D := D) (ci := 4) (v := .ref (ad 9)) (C := RX6) (T := TX6) (N := 19) F.1 F.2.1 F.2.2.2.2 vX6_factor_X6 F.2.2.2.1 hz.1 hP 0 rfl rfl 9 (by decide) (F.2.2.2.2 _ uX6_factor_2) (fun _ h9 => h9) rfl dX6_factor_41 ?_
        refine lv_iload_n F.1 F.2.1 dX6_factor_44 rfl (lv_at hl 1 rfl) ?_
        refine lv_iload_n F.1 F.2.1 dX6_factor_45 rfl (lv_at hl 3 rfl) ?_
        refine va_iast F.1 F.2.1 hz.1 hP (hD _) hS 9 0 rfl rfl h.1 dX6_factor_46 (fun H locs hP _ hS => ?_)
        have h := h.2
        have hP : va_P D vwCl (w6 ad cI cZ (S.1, S.2.1, S.2.2.1, S.2.2.2.1, S.2.2.2.2.1, S.2.2.2.2.2.1, S.2.2.2.2.2.2.1, S.2.2.2.2.2.2.2.1, (upd S.2.2.2.2.2.2.2.2.1 a1.toNatClampNeg a2), (upd S.2.2.2.2.2.2.2.2.2.1 a1.toNatClampNeg a3), S.2.2.2.2.2.2.2.2.2.2.1, S.2.2.2.2.2.2.2.2.2.2.2.1, S.2.2.2.2.2.2.2.2.2.2.2.2.1, S.2.2.2.2.2.2.2.2.2.2.2.2.2.1, S.2.2.2.2.2.2.2.2.2.2.2.2.2.2.1, S.2.2.2.2.2.2.2.2.2.2.2.2.2.2.2.1, S.2.2.2.2.2.2.2.2.2.2.2.2.2.2.2.2.1, S.2.2.2.2.2.2.2.2.2.2.2.2.2.2.2.2.2.1, S.2.2.2.2.2.2.2.2.2.2.2.2.2.2.2.2.2.2)) H := hP
        refine lv_iconst (v := (1 : Int32)) F.1 F.2.1 dX6_factor_47 (by decide) ?_
        exact hret _ _ _ _ _ _ h hP hS dX6_factor_48
      · have h := h.1 (hc)
        refine lv_iconst (v := (-1 : Int32)) F.1 F.2.1 dX6_factor_31 (by decide) ?_
        exact hret _ _ _ _ _ _ h hP hS dX6_factor_32
theorem mX6_factor {l : Launch} {D : va_G} {cI cJ cZ : ClassId} {ad : Nat → Nat} {S : S6} {a1 : Int32} {a2 : Int32} {a3 : Int32} {Q : Int32 → S6 → Prop} (sz : Nat) (h : wX6_factor S a1 a2 a3 Q) : Met l yX6_factor wsX6_factor rX6_factor (va_Pc [.ref (ad 0), .int a1, .int a2, .int a3] (wp D cI cJ cZ sz (w6 ad cI cZ S))) (wQi D (w6 ad cI cZ) S sz Q) 0 0 (va_A (w6 ad cI cZ S) sz) :=
  enter_wi (wf := w6 ad cI cZ) (fun _ => rfl) (by decide +kernel) rfl (Nat.le_of_ble_eq_true rfl) (fun p e s m args below meth c QQ A F hz hD hA hP hret => bX6_factor F hz hD hA hret hP h)
abbrev rX6_outcome : Room := { frames := 2, cells := 0, slots := 0, locals := 43 }
theorem kV_X6_outcome : yX6_outcome.cls = RX6 ∧ yX6_outcome.cls ≠ "java/lang/invoke/MethodHandle" ∧ yX6_outcome.cls ≠ "java/lang/invoke/VarHandle" ∧ (parseMethodDescriptor yX6_outcome.desc).map (fun d => d.parameters.length) = some 1 := by decide +kernel
theorem uX6_outcome_1 : Cond.constant RX6 83 (-1000000) ∈ wsX6_outcome := List.mem_of_getElem? (i := 1) rfl
set_option maxRecDepth 100000 in
theorem bX6_outcome {a1 : Int32} {S : S6} {Q : Int32 → Prop} (F : CallFix p m c cX6_outcome 2 s args wsX6_outcome RX6) (hz : gz D cI cJ cZ s) (hP : va_P D vwCl (w6 ad cI cZ S) s.heap) (hret : ∀ (v : Int32) (pc : Nat) (ls : Array Slot), Q v → decode cX6_outcome pc = .ok (.ireturn, 1) → W p l e rX6_outcome s m args below meth c s.heap [] 0 0 QQ (F0 m pc ls [.int v])) (h : wX6_outcome S a1 Q) : ∀ ls : Array Slot, lv_has ls 2 [(0, .ref (ad 0)), (1, .int a1)] → W p l e rX6_outcome s m args below meth c s.heap [] 0 0 QQ (F0 m 0 ls []) := by
  intro ls hl
  refine lv_iload_n F.1 F.2.1 dX6_outcome_0 rfl (lv_at hl 1 rfl) ?_
  refine lv_iconst (v := (0 : Int32)) F.1 F.2.1 dX6_outcome_1 (by decide) ?_
  refine lv_bipush (v := (31 : Int32)) F.1 F.2.1 dX6_outcome_2 (by decide) ?_
  refine vp_callSi (va_Run.run (va_runS (As := [.int a1, .int (0 : Int32), .int (31 : Int32)]) (rest := []) F (mX6_in (l := l) (D := D) (cI := cI) (cJ := cJ) (cZ := cZ) h) (va_cwS 3 F.2.2.2.2 gX6_outcome_X6_in rfl rfl rfl kS_X6_in ⟨Nat.le_of_ble_eq_true rfl, Nat.le_of_ble_eq_true rfl⟩) ⟨rp_blind, rp_pre hz (hP.sub (ws' := []) [] rfl) [.int a1, .int (0 : Int32), .int (31 : Int32)]⟩ rfl rfl hl.1 rfl (lv_room (Nat.le_of_ble_eq_true rfl)) dX6_outcome_4 ⟨Nat.le_of_ble_eq_true rfl, Nat.le_of_ble_eq_true rfl⟩)) (fun r_1 h => ?_)
  obtain ⟨hbr_1, h⟩ := h
  refine lv_if_eq (tgt := 18) F.1 F.2.1 dX6_outcome_7 (by decide) (fun hc => ?_) (fun hc => ?_)
  · have h := h.1 (hc)
    refine lv_ldc (v := (-1000000 : Int32)) F.1 F.2.1 F.2.2.2.1 (F.2.2.2.2 _ uX6_outcome_1) dX6_outcome_18 ?_
    exact hret _ _ _ h dX6_outcome_20
  · have h := h.2 hc
    refine lv_aload_n F.1 F.2.1 dX6_outcome_10 rfl (lv_at hl 0 rfl) ?_
    refine lv_iload_n F.1 F.2.1 dX6_outcome_11 rfl (lv_at hl 1 rfl) ?_
    refine vp_callSi (va_Run.run (va_runV (As := [.int a1]) (rest := []) F (mX6_comes (l := l) (D := D) (cI := cI) (cJ := cJ) (cZ := cZ) (ad := ad) h) (cwV 1 F.2.2.2.2 gX6_outcome_X6_comes rfl rfl rfl kV_X6_comes ⟨Nat.le_of_ble_eq_true rfl, Nat.le_of_ble_eq_true rfl⟩) ⟨rp_blind, va_recv hz.1 hP (ci := 4) (q0 := 0) rfl rfl, rp_pre hz hP (.ref (ad 0) :: [.int a1])⟩ rfl rfl hl.1 rfl (lv_room (Nat.le_of_ble_eq_true rfl)) dX6_outcome_12 ⟨Nat.le_of_ble_eq_true rfl, Nat.le_of_ble_eq_true rfl⟩)) (fun r_2 h => ?_)
    refine lv_goto (tgt := 20) F.1 F.2.1 dX6_outcome_15 (by decide) ?_
    exact hret _ _ _ h dX6_outcome_20
theorem mX6_outcome {l : Launch} {D : va_G} {cI cJ cZ : ClassId} {ad : Nat → Nat} {S : S6} {a1 : Int32} {Q : Int32 → Prop} (h : wX6_outcome S a1 Q) : Met l yX6_outcome wsX6_outcome rX6_outcome (va_Pc [.ref (ad 0), .int a1] (rp D cI cJ cZ (w6 ad cI cZ S))) (vp_Si Q) 0 0 (fun _ => False) :=
  enter_i (by decide +kernel) rfl (Nat.le_of_ble_eq_true rfl) (fun p e s m args below meth c QQ F hz hret => bX6_outcome F hz.1 hz.2 hret h)
abbrev rX6_share : Room := { frames := 2, cells := 0, slots := 0, locals := 55 }
theorem kV_X6_share : yX6_share.cls = RX6 ∧ yX6_share.cls ≠ "java/lang/invoke/MethodHandle" ∧ yX6_share.cls ≠ "java/lang/invoke/VarHandle" ∧ (parseMethodDescriptor yX6_share.desc).map (fun d => d.parameters.length) = some 2 := by decide +kernel
theorem uX6_share_1 : Cond.constant RX6 83 (-1000000) ∈ wsX6_share := List.mem_of_getElem? (i := 1) rfl
theorem uX6_share_2 : Cond.constantLong RX6 121 (120) ∈ wsX6_share := List.mem_of_getElem? (i := 2) rfl
set_option maxRecDepth 100000 in
theorem kX6_share_47 {p1 : Int32} {p2 : Int32} {p3 : Int32} {p4 : Int32} {S : S6} (F : CallFix p m c cX6_share 9 s args wsX6_share RX6) (hz : gz D cI cJ cZ s) (hP : va_P D vwCl (w6 ad cI cZ S) s.heap) {K : Int32 × Int32 × Int32 × Int32 → Prop} (hK : ∀ x : Int32 × Int32 × Int32 × Int32, K x → match x with | (x5, x6, x7, x8) => ∀ ls : Array Slot, lv_has ls 9 [(0, .ref (ad 0)), (1, .int p1), (2, .int p2), (3, .int p3), (4, .int p4), (5, .int x5), (6, .int x6), (7, .int x7), (8, .int x8)] → W p l e rX6_share s m args below meth c s.heap [] 0 0 QQ (F0 m 93 ls [])) : ∀ (nn : Nat) (x : Int32 × Int32 × Int32 × Int32), iter (sX6_share_47 S p1 p2 p3 p4 K) nn x → match x with | (x5, x6, x7, x8) => ∀ ls : Array Slot, lv_has ls 9 [(0, .ref (ad 0)), (1, .int p1), (2, .int p2), (3, .int p3), (4, .int p4), (5, .int x5), (6, .int x6), (7, .int x7), (8, .int x8)] → W p l e rX6_share s m args below meth c s.heap [] 0 0 QQ (F0 m 47 ls []) := by
  refine iter_walk ?_
  rintro again47 ⟨x5, x6, x7, x8⟩ ih47 h ls hl
  have hK47 := hK
  refine lv_iload F.1 F.2.1 dX6_share_47 (lv_at hl 8 rfl) ?_
  refine lv_iconst (v := (5 : Int32)) F.1 F.2.1 dX6_share_49 (by decide) ?_
  refine lv_icmp_ge (tgt := 93) F.1 F.2.1 dX6_share_50 (by decide) (fun hc => ?_) (fun hc => ?_)
  · have h := h.1 (hc)
    exact hK47 (x5, x6, x7, x8) h ls (lv_sub hl [0, 1, 2, 3, 4, 5, 6, 7, 8] rfl)
  · have h := h.2 hc
    refine lv_iload F.1 F.2.1 dX6_share_53 (lv_at hl 7 rfl) ?_
    refine lv_iconst (v := (5 : Int32)) F.1 F.2.1 dX6_share_55 (by decide) ?_
    refine lv_irem F.1 F.2.1 dX6_share_56 (by decide) ?_
    refine lv_iload_n F.1 F.2.1 dX6_share_57 rfl (lv_at hl 1 rfl) ?_
    refine lv_icmp_ne (tgt := 66) F.1 F.2.1 dX6_share_58 (by decide) (fun hc => ?_) (fun hc => ?_)
    · have h := h.2 hc
      refine lv_iload F.1 F.2.1 dX6_share_66 (lv_at hl 6 rfl) ?_
      refine lv_istore (lv' := [(6, .int x6), (0, .ref (ad 0)), (1, .int p1), (2, .int p2), (3, .int p3), (4, .int p4), (5, .int x5), (7, .int x7), (8, .int x8)]) F.1 F.2.1 dX6_share_68 hl (by decide) rfl (fun ls hl => ?_)
      refine lv_iload F.1 F.2.1 dX6_share_70 (lv_at hl 6 rfl) ?_
      refine lv_iconst (v := (1 : Int32)) F.1 F.2.1 dX6_share_72 (by decide) ?_
      refine lv_iload F.1 F.2.1 dX6_share_73 (lv_at hl 7 rfl) ?_
      refine lv_iconst (v := (5 : Int32)) F.1 F.2.1 dX6_share_75 (by decide) ?_
      refine lv_irem F.1 F.2.1 dX6_share_76 (by decide) ?_
      refine lv_ishl F.1 F.2.1 dX6_share_77 ?_
      refine lv_ior F.1 F.2.1 dX6_share_78 ?_
      refine lv_topi (fun y_3 ey_3 => ?_)
      have h := h y_3 ey_3
      refine lv_istore (lv' := [(5, .int y_3), (6, .int x6), (0, .ref (ad 0)), (1, .int p1), (2, .int p2), (3, .int p3), (4, .int p4), (7, .int x7), (8, .int x8)]) F.1 F.2.1 dX6_share_79 hl (by decide) rfl (fun ls hl => ?_)
      refine lv_iload F.1 F.2.1 dX6_share_81 (lv_at hl 7 rfl) ?_
      refine lv_iconst (v := (5 : Int32)) F.1 F.2.1 dX6_share_83 (by decide) ?_
      refine lv_idiv F.1 F.2.1 dX6_share_84 (by decide) ?_
      refine lv_istore (lv' := [(7, .int (x7 / (5 : Int32))), (5, .int y_3), (6, .int x6), (0, .ref (ad 0)), (1, .int p1), (2, .int p2), (3, .int p3), (4, .int p4), (8, .int x8)]) F.1 F.2.1 dX6_share_85 hl (by decide) rfl (fun ls hl => ?_)
      refine lv_iinc (v := x8 + 1) (lv' := [(8, .int (x8 + 1)), (7, .int (x7 / (5 : Int32))), (5, .int y_3), (6, .int x6), (0, .ref (ad 0)), (1, .int p1), (2, .int p2), (3, .int p3), (4, .int p4)]) F.1 F.2.1 dX6_share_87 hl (k := 8) rfl rfl (by decide) rfl (fun ls hl => ?_)
      refine lv_goto (tgt := 47) F.1 F.2.1 dX6_share_90 (by decide) ?_
      exact ih47 (y_3, x6, x7 / (5 : Int32), x8 + 1) h ls (lv_sub hl [4, 5, 6, 7, 8, 2, 3, 1, 0] rfl)
    · have h := h.1 (hc)
      refine lv_iload F.1 F.2.1 dX6_share_61 (lv_at hl 5 rfl) ?_
      refine lv_goto (tgt := 68) F.1 F.2.1 dX6_share_63 (by decide) ?_
      refine lv_istore (lv' := [(6, .int x5), (0, .ref (ad 0)), (1, .int p1), (2, .int p2), (3, .int p3), (4, .int p4), (5, .int x5), (7, .int x7), (8, .int x8)]) F.1 F.2.1 dX6_share_68 hl (by decide) rfl (fun ls hl => ?_)
      refine lv_iload F.1 F.2.1 dX6_share_70 (lv_at hl 6 rfl) ?_
      refine lv_iconst (v := (1 : Int32)) F.1 F.2.1 dX6_share_72 (by decide) ?_
      refine lv_iload F.1 F.2.1 dX6_share_73 (lv_at hl 7 rfl) ?_
      refine lv_iconst (v := (5 : Int32)) F.1 F.2.1 dX6_share_75 (by decide) ?_
      refine lv_irem F.1 F.2.1 dX6_share_76 (by decide) ?_
      refine lv_ishl F.1 F.2.1 dX6_share_77 ?_
      refine lv_ior F.1 F.2.1 dX6_share_78 ?_
      refine lv_topi (fun y_4 ey_4 => ?_)
      have h := h y_4 ey_4
      refine lv_istore (lv' := [(5, .int y_4), (6, .int x5), (0, .ref (ad 0)), (1, .int p1), (2, .int p2), (3, .int p3), (4, .int p4), (7, .int x7), (8, .int x8)]) F.1 F.2.1 dX6_share_79 hl (by decide) rfl (fun ls hl => ?_)
      refine lv_iload F.1 F.2.1 dX6_share_81 (lv_at hl 7 rfl) ?_
      refine lv_iconst (v := (5 : Int32)) F.1 F.2.1 dX6_share_83 (by decide) ?_
      refine lv_idiv F.1 F.2.1 dX6_share_84 (by decide) ?_
      refine lv_istore (lv' := [(7, .int (x7 / (5 : Int32))), (5, .int y_4), (6, .int x5), (0, .ref (ad 0)), (1, .int p1), (2, .int p2), (3, .int p3), (4, .int p4), (8, .int x8)]) F.1 F.2.1 dX6_share_85 hl (by decide) rfl (fun ls hl => ?_)
      refine lv_iinc (v := x8 + 1) (lv' := [(8, .int (x8 + 1)), (7, .int (x7 / (5 : Int32))), (5, .int y_4), (6, .int x5), (0, .ref (ad 0)), (1, .int p1), (2, .int p2), (3, .int p3), (4, .int p4)]) F.1 F.2.1 dX6_share_87 hl (k := 8) rfl rfl (by decide) rfl (fun ls hl => ?_)
      refine lv_goto (tgt := 47) F.1 F.2.1 dX6_share_90 (by decide) ?_
      exact ih47 (y_4, x5, x7 / (5 : Int32), x8 + 1) h ls (lv_sub hl [4, 5, 6, 7, 8, 2, 3, 1, 0] rfl)
set_option maxRecDepth 100000 in
theorem kX6_share_26 {p1 : Int32} {p2 : Int32} {S : S6} (F : CallFix p m c cX6_share 9 s args wsX6_share RX6) (hz : gz D cI cJ cZ s) (hP : va_P D vwCl (w6 ad cI cZ S) s.heap) {K : Int32 × Int32 → Prop} (hK : ∀ x : Int32 × Int32, K x → match x with | (x3, x4) => ∀ ls : Array Slot, lv_has ls 9 [(0, .ref (ad 0)), (1, .int p1), (2, .int p2), (3, .int x3), (4, .int x4)] → W p l e rX6_share s m args below meth c s.heap [] 0 0 QQ (F0 m 130 ls [])) : ∀ (nn : Nat) (x : Int32 × Int32), iter (sX6_share_26 S p1 p2 K) nn x → match x with | (x3, x4) => ∀ ls : Array Slot, lv_has ls 9 [(0, .ref (ad 0)), (1, .int p1), (2, .int p2), (3, .int x3), (4, .int x4)] → W p l e rX6_share s m args below meth c s.heap [] 0 0 QQ (F0 m 26 ls []) := by
  refine iter_walk ?_
  rintro again26 ⟨x3, x4⟩ ih26 h ls hl
  have hK26 := hK
  refine lv_iload F.1 F.2.1 dX6_share_26 (lv_at hl 4 rfl) ?_
  refine lv_sipush (v := (3125 : Int32)) F.1 F.2.1 dX6_share_28 (by decide) ?_
  refine lv_icmp_ge (tgt := 130) F.1 F.2.1 dX6_share_31 (by decide) (fun hc => ?_) (fun hc => ?_)
  · have h := h.1 (hc)
    exact hK26 (x3, x4) h ls (lv_sub hl [0, 1, 2, 3, 4] rfl)
  · have h := h.2 hc
    refine lv_iconst (v := (0 : Int32)) F.1 F.2.1 dX6_share_34 (by decide) ?_
    refine lv_istore (lv' := [(5, .int (0 : Int32)), (0, .ref (ad 0)), (1, .int p1), (2, .int p2), (3, .int x3), (4, .int x4)]) F.1 F.2.1 dX6_share_35 hl (by decide) rfl (fun ls hl => ?_)
    refine lv_iconst (v := (0 : Int32)) F.1 F.2.1 dX6_share_37 (by decide) ?_
    refine lv_istore (lv' := [(6, .int (0 : Int32)), (5, .int (0 : Int32)), (0, .ref (ad 0)), (1, .int p1), (2, .int p2), (3, .int x3), (4, .int x4)]) F.1 F.2.1 dX6_share_38 hl (by decide) rfl (fun ls hl => ?_)
    refine lv_iload F.1 F.2.1 dX6_share_40 (lv_at hl 6 rfl) ?_
    refine lv_istore (lv' := [(7, .int x4), (6, .int (0 : Int32)), (5, .int (0 : Int32)), (0, .ref (ad 0)), (1, .int p1), (2, .int p2), (3, .int x3), (4, .int x4)]) F.1 F.2.1 dX6_share_42 hl (by decide) rfl (fun ls hl => ?_)
    refine lv_iconst (v := (0 : Int32)) F.1 F.2.1 dX6_share_44 (by decide) ?_
    refine lv_istore (lv' := [(8, .int (0 : Int32)), (7, .int x4), (6, .int (0 : Int32)), (5, .int (0 : Int32)), (0, .ref (ad 0)), (1, .int p1), (2, .int p2), (3, .int x3), (4, .int x4)]) F.1 F.2.1 dX6_share_45 hl (by decide) rfl (fun ls hl => ?_)
    obtain ⟨nn, h⟩ := h
    refine kX6_share_47 F hz hP (fun ⟨x5, x6, x7, x8⟩ h ls hl => ?_) nn _ h ls (lv_sub hl [4, 5, 6, 7, 8, 3, 2, 1, 0] rfl)
    refine lv_iload_n F.1 F.2.1 dX6_share_93 rfl (lv_at hl 3 rfl) ?_
    refine lv_iload F.1 F.2.1 dX6_share_94 (lv_at hl 5 rfl) ?_
    refine lv_bipush (v := (31 : Int32)) F.1 F.2.1 dX6_share_96 (by decide) ?_
    refine lv_icmp_ne (tgt := 121) F.1 F.2.1 dX6_share_98 (by decide) (fun hc => ?_) (fun hc => ?_)
    · have h := h.2 hc
      refine lv_iconst (v := (0 : Int32)) F.1 F.2.1 dX6_share_121 (by decide) ?_
      refine lv_iadd F.1 F.2.1 dX6_share_122 ?_
      refine lv_istore_n (lv' := [(3, .int (x3 + (0 : Int32))), (0, .ref (ad 0)), (1, .int p1), (2, .int p2), (4, .int x4), (5, .int x5), (6, .int x6), (7, .int x7), (8, .int x8)]) F.1 F.2.1 dX6_share_123 rfl hl (by decide) rfl (fun ls hl => ?_)
      refine lv_iinc (v := x4 + 1) (lv' := [(4, .int (x4 + 1)), (3, .int (x3 + (0 : Int32))), (0, .ref (ad 0)), (1, .int p1), (2, .int p2), (5, .int x5), (6, .int x6), (7, .int x7), (8, .int x8)]) F.1 F.2.1 dX6_share_124 hl (k := 4) rfl rfl (by decide) rfl (fun ls hl => ?_)
      refine lv_goto (tgt := 26) F.1 F.2.1 dX6_share_127 (by decide) ?_
      exact ih26 (x3 + (0 : Int32), x4 + 1) h ls (lv_sub hl [2, 3, 4, 1, 0] rfl)
    · have h := h.1 (hc)
      refine lv_aload_n F.1 F.2.1 dX6_share_101 rfl (lv_at hl 0 rfl) ?_
      refine lv_iload F.1 F.2.1 dX6_share_102 (lv_at hl 6 rfl) ?_
      refine lv_iconst (v := (1 : Int32)) F.1 F.2.1 dX6_share_104 (by decide) ?_
      refine lv_iload_n F.1 F.2.1 dX6_share_105 rfl (lv_at hl 1 rfl) ?_
      refine lv_ishl F.1 F.2.1 dX6_share_106 ?_
      refine lv_ior F.1 F.2.1 dX6_share_107 ?_
      refine vp_callSi (va_Run.run (va_runV (As := [.int (x6 ||| ((1 : Int32) <<< (p1 &&& 31)))]) (rest := [.int x3]) F (mX6_comes (l := l) (D := D) (cI := cI) (cJ := cJ) (cZ := cZ) (ad := ad) h) (cwV 1 F.2.2.2.2 gX6_share_X6_comes rfl rfl rfl kV_X6_comes ⟨Nat.le_of_ble_eq_true rfl, Nat.le_of_ble_eq_true rfl⟩) ⟨rp_blind, va_recv hz.1 hP (ci := 4) (q0 := 0) rfl rfl, rp_pre hz hP (.ref (ad 0) :: [.int (x6 ||| ((1 : Int32) <<< (p1 &&& 31)))])⟩ rfl rfl hl.1 rfl (lv_room (Nat.le_of_ble_eq_true rfl)) dX6_share_108 ⟨Nat.le_of_ble_eq_true rfl, Nat.le_of_ble_eq_true rfl⟩)) (fun r_5 h => ?_)
      refine lv_aload_n F.1 F.2.1 dX6_share_111 rfl (lv_at hl 0 rfl) ?_
      refine lv_iload F.1 F.2.1 dX6_share_112 (lv_at hl 6 rfl) ?_
      refine vp_callSi (va_Run.run (va_runV (As := [.int x6]) (rest := [.int r_5, .int x3]) F (mX6_comes (l := l) (D := D) (cI := cI) (cJ := cJ) (cZ := cZ) (ad := ad) h) (cwV 1 F.2.2.2.2 gX6_share_X6_comes rfl rfl rfl kV_X6_comes ⟨Nat.le_of_ble_eq_true rfl, Nat.le_of_ble_eq_true rfl⟩) ⟨rp_blind, va_recv hz.1 hP (ci := 4) (q0 := 0) rfl rfl, rp_pre hz hP (.ref (ad 0) :: [.int x6])⟩ rfl rfl hl.1 rfl (lv_room (Nat.le_of_ble_eq_true rfl)) dX6_share_114 ⟨Nat.le_of_ble_eq_true rfl, Nat.le_of_ble_eq_true rfl⟩)) (fun r_6 h => ?_)
      refine lv_isub F.1 F.2.1 dX6_share_117 ?_
      refine lv_goto (tgt := 122) F.1 F.2.1 dX6_share_118 (by decide) ?_
      refine lv_iadd F.1 F.2.1 dX6_share_122 ?_
      refine lv_istore_n (lv' := [(3, .int (x3 + (r_5 - r_6))), (0, .ref (ad 0)), (1, .int p1), (2, .int p2), (4, .int x4), (5, .int x5), (6, .int x6), (7, .int x7), (8, .int x8)]) F.1 F.2.1 dX6_share_123 rfl hl (by decide) rfl (fun ls hl => ?_)
      refine lv_iinc (v := x4 + 1) (lv' := [(4, .int (x4 + 1)), (3, .int (x3 + (r_5 - r_6))), (0, .ref (ad 0)), (1, .int p1), (2, .int p2), (5, .int x5), (6, .int x6), (7, .int x7), (8, .int x8)]) F.1 F.2.1 dX6_share_124 hl (k := 4) rfl rfl (by decide) rfl (fun ls hl => ?_)
      refine lv_goto (tgt := 26) F.1 F.2.1 dX6_share_127 (by decide) ?_
      exact ih26 (x3 + (r_5 - r_6), x4 + 1) h ls (lv_sub hl [2, 3, 4, 1, 0] rfl)
set_option maxRecDepth 100000 in
theorem bX6_share {a1 : Int32} {a2 : Int32} {S : S6} {Q : Int32 → Prop} (F : CallFix p m c cX6_share 9 s args wsX6_share RX6) (hz : gz D cI cJ cZ s) (hP : va_P D vwCl (w6 ad cI cZ S) s.heap) (hret : ∀ (v : Int32) (pc : Nat) (ls : Array Slot), Q v → decode cX6_share pc = .ok (.ireturn, 1) → W p l e rX6_share s m args below meth c s.heap [] 0 0 QQ (F0 m pc ls [.int v])) (h : wX6_share S a1 a2 Q) : ∀ ls : Array Slot, lv_has ls 9 [(0, .ref (ad 0)), (1, .int a1), (2, .int a2)] → W p l e rX6_share s m args below meth c s.heap [] 0 0 QQ (F0 m 0 ls []) := by
  intro ls hl
  refine lv_iload_n F.1 F.2.1 dX6_share_0 rfl (lv_at hl 1 rfl) ?_
  refine lv_iconst (v := (0 : Int32)) F.1 F.2.1 dX6_share_1 (by decide) ?_
  refine lv_iconst (v := (4 : Int32)) F.1 F.2.1 dX6_share_2 (by decide) ?_
  refine vp_callSi (va_Run.run (va_runS (As := [.int a1, .int (0 : Int32), .int (4 : Int32)]) (rest := []) F (mX6_in (l := l) (D := D) (cI := cI) (cJ := cJ) (cZ := cZ) h) (va_cwS 3 F.2.2.2.2 gX6_share_X6_in rfl rfl rfl kS_X6_in ⟨Nat.le_of_ble_eq_true rfl, Nat.le_of_ble_eq_true rfl⟩) ⟨rp_blind, rp_pre hz (hP.sub (ws' := []) [] rfl) [.int a1, .int (0 : Int32), .int (4 : Int32)]⟩ rfl rfl hl.1 rfl (lv_room (Nat.le_of_ble_eq_true rfl)) dX6_share_3 ⟨Nat.le_of_ble_eq_true rfl, Nat.le_of_ble_eq_true rfl⟩)) (fun r_1 h => ?_)
  obtain ⟨hbr_1, h⟩ := h
  refine lv_if_eq (tgt := 18) F.1 F.2.1 dX6_share_6 (by decide) (fun hc => ?_) (fun hc => ?_)
  · have h := h.1 (hc)
    refine lv_ldc (v := (-1000000 : Int32)) F.1 F.2.1 F.2.2.2.1 (F.2.2.2.2 _ uX6_share_1) dX6_share_18 ?_
    exact hret _ _ _ h dX6_share_20
  · have h := h.2 hc
    refine lv_iload_n F.1 F.2.1 dX6_share_9 rfl (lv_at hl 2 rfl) ?_
    refine lv_iconst (v := (0 : Int32)) F.1 F.2.1 dX6_share_10 (by decide) ?_
    refine lv_iconst (v := (1 : Int32)) F.1 F.2.1 dX6_share_11 (by decide) ?_
    refine vp_callSi (va_Run.run (va_runS (As := [.int a2, .int (0 : Int32), .int (1 : Int32)]) (rest := []) F (mX6_in (l := l) (D := D) (cI := cI) (cJ := cJ) (cZ := cZ) h) (va_cwS 3 F.2.2.2.2 gX6_share_X6_in rfl rfl rfl kS_X6_in ⟨Nat.le_of_ble_eq_true rfl, Nat.le_of_ble_eq_true rfl⟩) ⟨rp_blind, rp_pre hz (hP.sub (ws' := []) [] rfl) [.int a2, .int (0 : Int32), .int (1 : Int32)]⟩ rfl rfl hl.1 rfl (lv_room (Nat.le_of_ble_eq_true rfl)) dX6_share_12 ⟨Nat.le_of_ble_eq_true rfl, Nat.le_of_ble_eq_true rfl⟩)) (fun r_2 h => ?_)
    obtain ⟨hbr_2, h⟩ := h
    refine lv_if_ne (tgt := 21) F.1 F.2.1 dX6_share_15 (by decide) (fun hc => ?_) (fun hc => ?_)
    · have h := h.2 hc
      refine lv_iconst (v := (0 : Int32)) F.1 F.2.1 dX6_share_21 (by decide) ?_
      refine lv_istore_n (lv' := [(3, .int (0 : Int32)), (0, .ref (ad 0)), (1, .int a1), (2, .int a2)]) F.1 F.2.1 dX6_share_22 rfl hl (by decide) rfl (fun ls hl => ?_)
      refine lv_iconst (v := (0 : Int32)) F.1 F.2.1 dX6_share_23 (by decide) ?_
      refine lv_istore (lv' := [(4, .int (0 : Int32)), (3, .int (0 : Int32)), (0, .ref (ad 0)), (1, .int a1), (2, .int a2)]) F.1 F.2.1 dX6_share_24 hl (by decide) rfl (fun ls hl => ?_)
      obtain ⟨nn, h⟩ := h
      refine kX6_share_26 F hz hP (fun ⟨x3, x4⟩ h ls hl => ?_) nn _ h ls (lv_sub hl [2, 3, 4, 1, 0] rfl)
      refine lv_iload_n F.1 F.2.1 dX6_share_130 rfl (lv_at hl 3 rfl) ?_
      refine lv_i2l F.1 F.2.1 dX6_share_131 rfl ?_
      refine lv_ldc2 (v := (120 : Int64)) F.1 F.2.1 F.2.2.2.1 (F.2.2.2.2 _ uX6_share_2) dX6_share_132 ?_
      refine lv_iload_n F.1 F.2.1 dX6_share_135 rfl (lv_at hl 2 rfl) ?_
      refine vp_callSl (va_Run.run (va_runS (As := [.long x3.toInt64, .long (120 : Int64), .int a2]) (rest := []) F (mX6_lowest (l := l) (D := D) (cI := cI) (cJ := cJ) (cZ := cZ) h) (va_cwS 3 F.2.2.2.2 gX6_share_X6_lowest rfl rfl rfl kS_X6_lowest ⟨Nat.le_of_ble_eq_true rfl, Nat.le_of_ble_eq_true rfl⟩) ⟨rp_blind, rp_pre hz (hP.sub (ws' := []) [] rfl) [.long x3.toInt64, .long (120 : Int64), .int a2]⟩ rfl rfl hl.1 rfl (lv_room (Nat.le_of_ble_eq_true rfl)) dX6_share_136 ⟨Nat.le_of_ble_eq_true rfl, Nat.le_of_ble_eq_true rfl⟩)) (fun r_7 h => ?_)
      refine lv_l2i F.1 F.2.1 dX6_share_139 rfl ?_
      exact hret _ _ _ h dX6_share_140
    · have h := h.1 (hc)
      refine lv_ldc (v := (-1000000 : Int32)) F.1 F.2.1 F.2.2.2.1 (F.2.2.2.2 _ uX6_share_1) dX6_share_18 ?_
      exact hret _ _ _ h dX6_share_20
theorem mX6_share {l : Launch} {D : va_G} {cI cJ cZ : ClassId} {ad : Nat → Nat} {S : S6} {a1 : Int32} {a2 : Int32} {Q : Int32 → Prop} (h : wX6_share S a1 a2 Q) : Met l yX6_share wsX6_share rX6_share (va_Pc [.ref (ad 0), .int a1, .int a2] (rp D cI cJ cZ (w6 ad cI cZ S))) (vp_Si Q) 0 0 (fun _ => False) :=
  enter_i (by decide +kernel) rfl (Nat.le_of_ble_eq_true rfl) (fun p e s m args below meth c QQ F hz hret => bX6_share F hz.1 hz.2 hret h)
abbrev rX6_expect : Room := { frames := 1, cells := 0, slots := 0, locals := 22 }
theorem kV_X6_expect : yX6_expect.cls = RX6 ∧ yX6_expect.cls ≠ "java/lang/invoke/MethodHandle" ∧ yX6_expect.cls ≠ "java/lang/invoke/VarHandle" ∧ (parseMethodDescriptor yX6_expect.desc).map (fun d => d.parameters.length) = some 1 := by decide +kernel
theorem vX6_expect_X6 : ∀ w ∈ wsX60, w ∈ wsX6_expect := fun _ h => List.mem_cons_of_mem _ (List.mem_append_right _ h)
theorem uX6_expect_2 : Cond.fieldLink RX6 123 "SumMovedModel" "expected" "I" ∈ wsX6_expect := List.mem_of_getElem? (i := 2) rfl
theorem uX6_expect_1 : Cond.constant RX6 83 (-1000000) ∈ wsX6_expect := List.mem_of_getElem? (i := 1) rfl
set_option maxRecDepth 100000 in
theorem bX6_expect {a1 : Int32} {S : S6} {Q : Int32 → S6 → Prop} (F : CallFix p m c cX6_expect 3 s args wsX6_expect RX6) (hz : gz D cI cJ cZ s) (hD : ∀ u : S6, va_D A (w6 ad cI cZ u)) (hA : ∀ q : Nat, s.heap.size ≤ q → A q) (hret : ∀ (v : Int32) (u : S6) (H : Heap) (locs : List Loc) (pc : Nat) (ls : Array Slot), Q v u → va_P D vwCl (w6 ad cI cZ u) H → va_S A s.heap H locs → decode cX6_expect pc = .ok (.ireturn, 1) → W p l e rX6_expect s m args below meth c H locs 0 0 QQ (F0 m pc ls [.int v])) (hP : va_P D vwCl (w6 ad cI cZ S) s.heap) (h : wX6_expect S a1 Q) : ∀ ls : Array Slot, lv_has ls 3 [(0, .ref (ad 0)), (1, .int a1)] → W p l e rX6_expect s m args below meth c s.heap [] 0 0 QQ (F0 m 0 ls []) := by
  intro ls hl
  have hS : va_S A s.heap s.heap [] := va_S.rf
  refine lv_iload_n F.1 F.2.1 dX6_expect_0 rfl (lv_at hl 1 rfl) ?_
  refine lv_sipush (v := (-9999 : Int32)) F.1 F.2.1 dX6_expect_1 (by decide) ?_
  refine lv_sipush (v := (9999 : Int32)) F.1 F.2.1 dX6_expect_4 (by decide) ?_
  refine vp_callSi (va_Run.run (va_runS (As := [.int a1, .int (-9999 : Int32), .int (9999 : Int32)]) (rest := []) F (mX6_in (l := l) (D := D) (cI := cI) (cJ := cJ) (cZ := cZ) h) (va_cwS 3 F.2.2.2.2 gX6_expect_X6_in rfl rfl rfl kS_X6_in ⟨Nat.le_of_ble_eq_true rfl, Nat.le_of_ble_eq_true rfl⟩) ⟨rp_blind, rp_pre hz (hP.sub (ws' := []) [] rfl) [.int a1, .int (-9999 : Int32), .int (9999 : Int32)]⟩ rfl rfl hl.1 rfl (lv_room (Nat.le_of_ble_eq_true rfl)) dX6_expect_7 ⟨Nat.le_of_ble_eq_true rfl, Nat.le_of_ble_eq_true rfl⟩)) (fun r_1 h => ?_)
  obtain ⟨hbr_1, h⟩ := h
  refine lv_if_ne (tgt := 16) F.1 F.2.1 dX6_expect_10 (by decide) (fun hc => ?_) (fun hc => ?_)
  · have h := h.2 hc
    refine lv_aload_n F.1 F.2.1 dX6_expect_16 rfl (lv_at hl 0 rfl) ?_
    refine va_get (D := D) (ci := 4) (v := .int S.2.2.2.2.2.2.2.2.2.2.1) (C := RX6) (T := TX6) (N := 19) F.1 F.2.1 F.2.2.2.2 vX6_expect_X6 F.2.2.2.1 hz.1 hP 0 rfl rfl 10 (by decide) (F.2.2.2.2 _ uX6_expect_2) (fun _ h9 => h9) rfl dX6_expect_17 ?_
    refine lv_istore_n (lv' := [(2, .int S.2.2.2.2.2.2.2.2.2.2.1), (0, .ref (ad 0)), (1, .int a1)]) F.1 F.2.1 dX6_expect_20 rfl hl (by decide) rfl (fun ls hl => ?_)
    refine lv_aload_n F.1 F.2.1 dX6_expect_21 rfl (lv_at hl 1 rfl) ?_
    refine lv_iload_n F.1 F.2.1 dX6_expect_22 rfl (lv_at hl 2 rfl) ?_
    refine va_put (D := D) (ci := 4) (v := .int a1) (ty := .int) (C := RX6) (T := TX6) (N := 19) F.1 F.2.1 F.2.2.2.2 vX6_expect_X6 tyX6 tyX6_ok nmX6 F.2.2.2.1 hz.1 hP (hD _) hS 0 rfl rfl 10 (by decide) (F.2.2.2.2 _ uX6_expect_2) (fun _ h9 => h9) rfl (by decide +kernel) rfl rfl (Nat.le_of_ble_eq_true rfl) dX6_expect_23 (fun H locs hP _ hS => ?_)
    have hP : va_P D vwCl (w6 ad cI cZ (S.1, S.2.1, S.2.2.1, S.2.2.2.1, S.2.2.2.2.1, S.2.2.2.2.2.1, S.2.2.2.2.2.2.1, S.2.2.2.2.2.2.2.1, S.2.2.2.2.2.2.2.2.1, S.2.2.2.2.2.2.2.2.2.1, a1, S.2.2.2.2.2.2.2.2.2.2.2.1, S.2.2.2.2.2.2.2.2.2.2.2.2.1, S.2.2.2.2.2.2.2.2.2.2.2.2.2.1, S.2.2.2.2.2.2.2.2.2.2.2.2.2.2.1, S.2.2.2.2.2.2.2.2.2.2.2.2.2.2.2.1, S.2.2.2.2.2.2.2.2.2.2.2.2.2.2.2.2.1, S.2.2.2.2.2.2.2.2.2.2.2.2.2.2.2.2.2.1, S.2.2.2.2.2.2.2.2.2.2.2.2.2.2.2.2.2.2)) H := hP
    refine lv_iload_n F.1 F.2.1 dX6_expect_26 rfl (lv_at hl 0 rfl) ?_
    exact hret _ _ _ _ _ _ h hP hS dX6_expect_27
  · have h := h.1 (hc)
    refine lv_ldc (v := (-1000000 : Int32)) F.1 F.2.1 F.2.2.2.1 (F.2.2.2.2 _ uX6_expect_1) dX6_expect_13 ?_
    exact hret _ _ _ _ _ _ h hP hS dX6_expect_15
theorem mX6_expect {l : Launch} {D : va_G} {cI cJ cZ : ClassId} {ad : Nat → Nat} {S : S6} {a1 : Int32} {Q : Int32 → S6 → Prop} (sz : Nat) (h : wX6_expect S a1 Q) : Met l yX6_expect wsX6_expect rX6_expect (va_Pc [.ref (ad 0), .int a1] (wp D cI cJ cZ sz (w6 ad cI cZ S))) (wQi D (w6 ad cI cZ) S sz Q) 0 0 (va_A (w6 ad cI cZ S) sz) :=
  enter_wi (wf := w6 ad cI cZ) (fun _ => rfl) (by decide +kernel) rfl (Nat.le_of_ble_eq_true rfl) (fun p e s m args below meth c QQ A F hz hD hA hP hret => bX6_expect F hz hD hA hret hP h)
abbrev rX6_seek : Room := { frames := 6, cells := 0, slots := 0, locals := 137 }
theorem kV_X6_seek : yX6_seek.cls = RX6 ∧ yX6_seek.cls ≠ "java/lang/invoke/MethodHandle" ∧ yX6_seek.cls ≠ "java/lang/invoke/VarHandle" ∧ (parseMethodDescriptor yX6_seek.desc).map (fun d => d.parameters.length) = some 2 := by decide +kernel
theorem vX6_seek_X6 : ∀ w ∈ wsX60, w ∈ wsX6_seek := fun _ h => List.mem_cons_of_mem _ (List.mem_append_right _ h)
theorem uX6_seek_1 : Cond.fieldLink RX6 48 "SumMovedModel" "list" "[I" ∈ wsX6_seek := List.mem_of_getElem? (i := 1) rfl
theorem uX6_seek_2 : Cond.fieldLink RX6 51 "SumMovedModel" "worth" "[I" ∈ wsX6_seek := List.mem_of_getElem? (i := 2) rfl
theorem uX6_seek_3 : Cond.fieldLink RX6 38 "SumMovedModel" "found" "I" ∈ wsX6_seek := List.mem_of_getElem? (i := 3) rfl
theorem uX6_seek_4 : Cond.fieldLink RX6 142 "SumMovedModel" "firstHeap" "I" ∈ wsX6_seek := List.mem_of_getElem? (i := 4) rfl
theorem uX6_seek_5 : Cond.fieldLink RX6 145 "SumMovedModel" "secondHeap" "I" ∈ wsX6_seek := List.mem_of_getElem? (i := 5) rfl
theorem uX6_seek_6 : Cond.fieldLink RX6 148 "SumMovedModel" "foundRest" "I" ∈ wsX6_seek := List.mem_of_getElem? (i := 6) rfl
set_option maxRecDepth 100000 in
theorem kX6_seek_27 {p1 : Int32} {p2 : Int32} (F : CallFix p m c cX6_seek 10 s args wsX6_seek RX6) (hz : gz D cI cJ cZ s) (hD : ∀ u : S6, va_D A (w6 ad cI cZ u)) (hA : ∀ q : Nat, s.heap.size ≤ q → A q) {K : Int32 × Int32 × S6 → Prop} (hK : ∀ x : Int32 × Int32 × S6, K x → match x with | (x3, x4, S) => ∀ (H : Heap) (locs : List Loc), va_P D vwCl (w6 ad cI cZ S) H → va_S A s.heap H locs → ∀ ls : Array Slot, lv_has ls 10 [(0, .ref (ad 0)), (1, .int p1), (2, .int p2), (3, .int x3), (4, .int x4)] → W p l e rX6_seek s m args below meth c H locs 0 0 QQ (F0 m 78 ls [])) : ∀ (nn : Nat) (x : Int32 × Int32 × S6), iter (sX6_seek_27 p1 p2 K) nn x → match x with | (x3, x4, S) => ∀ (H : Heap) (locs : List Loc), va_P D vwCl (w6 ad cI cZ S) H → va_S A s.heap H locs → ∀ ls : Array Slot, lv_has ls 10 [(0, .ref (ad 0)), (1, .int p1), (2, .int p2), (3, .int x3), (4, .int x4)] → W p l e rX6_seek s m args below meth c H locs 0 0 QQ (F0 m 27 ls []) := by
  refine iter_walk ?_
  rintro again27 ⟨x3, x4, S⟩ ih27 h H locs hP hS ls hl
  have hK27 := hK
  refine lv_iload F.1 F.2.1 dX6_seek_27 (lv_at hl 4 rfl) ?_
  refine lv_sipush (v := (729 : Int32)) F.1 F.2.1 dX6_seek_29 (by decide) ?_
  refine lv_icmp_ge (tgt := 78) F.1 F.2.1 dX6_seek_32 (by decide) (fun hc => ?_) (fun hc => ?_)
  · have h := h.1 (hc)
    exact hK27 (x3, x4, S) h _ _ hP hS ls (lv_sub hl [0, 1, 2, 3, 4] rfl)
  · have h := h.2 hc
    refine lv_iload_n F.1 F.2.1 dX6_seek_35 rfl (lv_at hl 2 rfl) ?_
    refine lv_if_le (tgt := 78) F.1 F.2.1 dX6_seek_36 (by decide) (fun hc => ?_) (fun hc => ?_)
    · have h := h.1 (hc)
      exact hK27 (x3, x4, S) h _ _ hP hS ls (lv_sub hl [0, 1, 2, 3, 4] rfl)
    · have h := h.2 hc
      refine lv_aload_n F.1 F.2.1 dX6_seek_39 rfl (lv_at hl 0 rfl) ?_
      refine lv_iload F.1 F.2.1 dX6_seek_40 (lv_at hl 4 rfl) ?_
      refine vp_callSi (va_Run.run (va_runV (As := [.int x4]) (rest := []) F (mX6_mayTell (l := l) (D := D) (cI := cI) (cJ := cJ) (cZ := cZ) (ad := ad) h) (cwV 1 F.2.2.2.2 gX6_seek_X6_mayTell rfl rfl rfl kV_X6_mayTell ⟨Nat.le_of_ble_eq_true rfl, Nat.le_of_ble_eq_true rfl⟩) ⟨rp_blind, va_recv hz.1 hP (ci := 4) (q0 := 0) rfl rfl, rp_pre hz hP (.ref (ad 0) :: [.int x4])⟩ rfl rfl hl.1 rfl (lv_room (Nat.le_of_ble_eq_true rfl)) dX6_seek_42 ⟨Nat.le_of_ble_eq_true rfl, Nat.le_of_ble_eq_true rfl⟩)) (fun r_3 h => ?_)
      obtain ⟨hbr_3, h⟩ := h
      refine lv_if_eq (tgt := 72) F.1 F.2.1 dX6_seek_45 (by decide) (fun hc => ?_) (fun hc => ?_)
      · have h := h.1 (hc)
        refine lv_iinc (v := x4 + 1) (lv' := [(4, .int (x4 + 1)), (0, .ref (ad 0)), (1, .int p1), (2, .int p2), (3, .int x3)]) F.1 F.2.1 dX6_seek_72 hl (k := 4) rfl rfl (by decide) rfl (fun ls hl => ?_)
        refine lv_goto (tgt := 27) F.1 F.2.1 dX6_seek_75 (by decide) ?_
        exact ih27 (x3, x4 + 1, S) h _ _ hP hS ls (lv_sub hl [1, 2, 3, 4, 0] rfl)
      · have h := h.2 hc
        refine lv_aload_n F.1 F.2.1 dX6_seek_48 rfl (lv_at hl 0 rfl) ?_
        refine va_get (D := D) (ci := 4) (v := .ref (ad 12)) (C := RX6) (T := TX6) (N := 19) F.1 F.2.1 F.2.2.2.2 vX6_seek_X6 F.2.2.2.1 hz.1 hP 0 rfl rfl 17 (by decide) (F.2.2.2.2 _ uX6_seek_1) (fun _ h9 => h9) rfl dX6_seek_49 ?_
        refine lv_iload_n F.1 F.2.1 dX6_seek_52 rfl (lv_at hl 3 rfl) ?_
        refine lv_iload F.1 F.2.1 dX6_seek_53 (lv_at hl 4 rfl) ?_
        refine va_iast F.1 F.2.1 hz.1 hP (hD _) hS 12 0 rfl rfl h.1 dX6_seek_55 (fun H locs hP _ hS => ?_)
        have h := h.2
        have hP : va_P D vwCl (w6 ad cI cZ (S.1, S.2.1, S.2.2.1, S.2.2.2.1, S.2.2.2.2.1, S.2.2.2.2.2.1, S.2.2.2.2.2.2.1, S.2.2.2.2.2.2.2.1, S.2.2.2.2.2.2.2.2.1, S.2.2.2.2.2.2.2.2.2.1, S.2.2.2.2.2.2.2.2.2.2.1, S.2.2.2.2.2.2.2.2.2.2.2.1, S.2.2.2.2.2.2.2.2.2.2.2.2.1, S.2.2.2.2.2.2.2.2.2.2.2.2.2.1, S.2.2.2.2.2.2.2.2.2.2.2.2.2.2.1, S.2.2.2.2.2.2.2.2.2.2.2.2.2.2.2.1, S.2.2.2.2.2.2.2.2.2.2.2.2.2.2.2.2.1, (upd S.2.2.2.2.2.2.2.2.2.2.2.2.2.2.2.2.2.1 x3.toNatClampNeg x4), S.2.2.2.2.2.2.2.2.2.2.2.2.2.2.2.2.2.2)) H := hP
        refine lv_aload_n F.1 F.2.1 dX6_seek_56 rfl (lv_at hl 0 rfl) ?_
        refine va_get (D := D) (ci := 4) (v := .ref (ad 13)) (C := RX6) (T := TX6) (N := 19) F.1 F.2.1 F.2.2.2.2 vX6_seek_X6 F.2.2.2.1 hz.1 hP 0 rfl rfl 18 (by decide) (F.2.2.2.2 _ uX6_seek_2) (fun _ h9 => h9) rfl dX6_seek_57 ?_
        refine lv_iload_n F.1 F.2.1 dX6_seek_60 rfl (lv_at hl 3 rfl) ?_
        refine lv_aload_n F.1 F.2.1 dX6_seek_61 rfl (lv_at hl 0 rfl) ?_
        refine lv_iload F.1 F.2.1 dX6_seek_62 (lv_at hl 4 rfl) ?_
        refine lv_iconst (v := (0 : Int32)) F.1 F.2.1 dX6_seek_64 (by decide) ?_
        refine vp_callSi (va_Run.run (va_runV (As := [.int x4, .int (0 : Int32)]) (rest := [.int x3, .ref (ad 13)]) F (mX6_changed (l := l) (D := D) (cI := cI) (cJ := cJ) (cZ := cZ) (ad := ad) h) (cwV 2 F.2.2.2.2 gX6_seek_X6_changed rfl rfl rfl kV_X6_changed ⟨Nat.le_of_ble_eq_true rfl, Nat.le_of_ble_eq_true rfl⟩) ⟨rp_blind, va_recv hz.1 hP (ci := 4) (q0 := 0) rfl rfl, rp_pre hz hP (.ref (ad 0) :: [.int x4, .int (0 : Int32)])⟩ rfl rfl hl.1 rfl (lv_room (Nat.le_of_ble_eq_true rfl)) dX6_seek_65 ⟨Nat.le_of_ble_eq_true rfl, Nat.le_of_ble_eq_true rfl⟩)) (fun r_4 h => ?_)
        refine va_iast F.1 F.2.1 hz.1 hP (hD _) hS 13 0 rfl rfl h.1 dX6_seek_68 (fun H locs hP _ hS => ?_)
        have h := h.2
        have hP : va_P D vwCl (w6 ad cI cZ (S.1, S.2.1, S.2.2.1, S.2.2.2.1, S.2.2.2.2.1, S.2.2.2.2.2.1, S.2.2.2.2.2.2.1, S.2.2.2.2.2.2.2.1, S.2.2.2.2.2.2.2.2.1, S.2.2.2.2.2.2.2.2.2.1, S.2.2.2.2.2.2.2.2.2.2.1, S.2.2.2.2.2.2.2.2.2.2.2.1, S.2.2.2.2.2.2.2.2.2.2.2.2.1, S.2.2.2.2.2.2.2.2.2.2.2.2.2.1, S.2.2.2.2.2.2.2.2.2.2.2.2.2.2.1, S.2.2.2.2.2.2.2.2.2.2.2.2.2.2.2.1, S.2.2.2.2.2.2.2.2.2.2.2.2.2.2.2.2.1, (upd S.2.2.2.2.2.2.2.2.2.2.2.2.2.2.2.2.2.1 x3.toNatClampNeg x4), (upd S.2.2.2.2.2.2.2.2.2.2.2.2.2.2.2.2.2.2 x3.toNatClampNeg r_4))) H := hP
        refine lv_iinc (v := x3 + 1) (lv' := [(3, .int (x3 + 1)), (0, .ref (ad 0)), (1, .int p1), (2, .int p2), (4, .int x4)]) F.1 F.2.1 dX6_seek_69 hl (k := 3) rfl rfl (by decide) rfl (fun ls hl => ?_)
        refine lv_iinc (v := x4 + 1) (lv' := [(4, .int (x4 + 1)), (3, .int (x3 + 1)), (0, .ref (ad 0)), (1, .int p1), (2, .int p2)]) F.1 F.2.1 dX6_seek_72 hl (k := 4) rfl rfl (by decide) rfl (fun ls hl => ?_)
        refine lv_goto (tgt := 27) F.1 F.2.1 dX6_seek_75 (by decide) ?_
        exact ih27 (x3 + 1, x4 + 1, (S.1, S.2.1, S.2.2.1, S.2.2.2.1, S.2.2.2.2.1, S.2.2.2.2.2.1, S.2.2.2.2.2.2.1, S.2.2.2.2.2.2.2.1, S.2.2.2.2.2.2.2.2.1, S.2.2.2.2.2.2.2.2.2.1, S.2.2.2.2.2.2.2.2.2.2.1, S.2.2.2.2.2.2.2.2.2.2.2.1, S.2.2.2.2.2.2.2.2.2.2.2.2.1, S.2.2.2.2.2.2.2.2.2.2.2.2.2.1, S.2.2.2.2.2.2.2.2.2.2.2.2.2.2.1, S.2.2.2.2.2.2.2.2.2.2.2.2.2.2.2.1, S.2.2.2.2.2.2.2.2.2.2.2.2.2.2.2.2.1, (upd S.2.2.2.2.2.2.2.2.2.2.2.2.2.2.2.2.2.1 x3.toNatClampNeg x4), (upd S.2.2.2.2.2.2.2.2.2.2.2.2.2.2.2.2.2.2 x3.toNatClampNeg r_4))) h _ _ hP hS ls (lv_sub hl [2, 3, 4, 1, 0] rfl)
set_option maxRecDepth 100000 in
theorem kX6_seek_117 {p1 : Int32} {p2 : Int32} {p3 : Int32} {p4 : Int32} (F : CallFix p m c cX6_seek 10 s args wsX6_seek RX6) (hz : gz D cI cJ cZ s) (hD : ∀ u : S6, va_D A (w6 ad cI cZ u)) (hA : ∀ q : Nat, s.heap.size ≤ q → A q) {K : Int32 × Int32 × S6 → Prop} (hK : ∀ x : Int32 × Int32 × S6, K x → match x with | (x5, x6, S) => ∀ (H : Heap) (locs : List Loc), va_P D vwCl (w6 ad cI cZ S) H → va_S A s.heap H locs → ∀ ls : Array Slot, lv_has ls 10 [(0, .ref (ad 0)), (1, .int p1), (2, .int p2), (3, .int p3), (4, .int p4), (5, .int x5), (6, .int x6)] → W p l e rX6_seek s m args below meth c H locs 0 0 QQ (F0 m 189 ls [])) : ∀ (nn : Nat) (x : Int32 × Int32 × S6), iter (sX6_seek_117 p1 p2 p3 p4 K) nn x → match x with | (x5, x6, S) => ∀ (H : Heap) (locs : List Loc), va_P D vwCl (w6 ad cI cZ S) H → va_S A s.heap H locs → ∀ ls : Array Slot, lv_has ls 10 [(0, .ref (ad 0)), (1, .int p1), (2, .int p2), (3, .int p3), (4, .int p4), (5, .int x5), (6, .int x6)] → W p l e rX6_seek s m args below meth c H locs 0 0 QQ (F0 m 117 ls []) := by
  refine iter_walk ?_
  rintro again117 ⟨x5, x6, S⟩ ih117 h H locs hP hS ls hl
  have hK117 := hK
  refine lv_iload F.1 F.2.1 dX6_seek_117 (lv_at hl 6 rfl) ?_
  refine lv_iload_n F.1 F.2.1 dX6_seek_119 rfl (lv_at hl 3 rfl) ?_
  refine lv_icmp_ge (tgt := 189) F.1 F.2.1 dX6_seek_120 (by decide) (fun hc => ?_) (fun hc => ?_)
  · have h := h.1 (hc)
    exact hK117 (x5, x6, S) h _ _ hP hS ls (lv_sub hl [0, 1, 2, 3, 4, 5, 6] rfl)
  · have h := h.2 hc
    refine lv_iload F.1 F.2.1 dX6_seek_123 (lv_at hl 4 rfl) ?_
    refine lv_aload_n F.1 F.2.1 dX6_seek_125 rfl (lv_at hl 0 rfl) ?_
    refine va_get (D := D) (ci := 4) (v := .ref (ad 13)) (C := RX6) (T := TX6) (N := 19) F.1 F.2.1 F.2.2.2.2 vX6_seek_X6 F.2.2.2.1 hz.1 hP 0 rfl rfl 18 (by decide) (F.2.2.2.2 _ uX6_seek_2) (fun _ h9 => h9) rfl dX6_seek_126 ?_
    refine lv_iload F.1 F.2.1 dX6_seek_129 (lv_at hl 6 rfl) ?_
    refine va_iald F.1 F.2.1 hz.1 hP 13 0 rfl rfl h.1 dX6_seek_131 ?_
    have h := h.2
    refine lv_isub F.1 F.2.1 dX6_seek_132 ?_
    refine lv_aload_n F.1 F.2.1 dX6_seek_133 rfl (lv_at hl 0 rfl) ?_
    refine va_get (D := D) (ci := 4) (v := .ref (ad 12)) (C := RX6) (T := TX6) (N := 19) F.1 F.2.1 F.2.2.2.2 vX6_seek_X6 F.2.2.2.1 hz.1 hP 0 rfl rfl 17 (by decide) (F.2.2.2.2 _ uX6_seek_1) (fun _ h9 => h9) rfl dX6_seek_134 ?_
    refine lv_iload F.1 F.2.1 dX6_seek_137 (lv_at hl 6 rfl) ?_
    refine va_iald F.1 F.2.1 hz.1 hP 12 0 rfl rfl h.1 dX6_seek_139 ?_
    have h := h.2
    refine vp_callSi (va_Run.run (va_runS (As := [.int (S.2.2.2.2.2.2.2.2.2.2.2.2.2.2.2.2.2.1 x6.toNatClampNeg)]) (rest := [.int (p4 - (S.2.2.2.2.2.2.2.2.2.2.2.2.2.2.2.2.2.2 x6.toNatClampNeg))]) F (mX6_tests (l := l) (D := D) (cI := cI) (cJ := cJ) (cZ := cZ) h) (va_cwS 1 F.2.2.2.2 gX6_seek_X6_tests rfl rfl rfl kS_X6_tests ⟨Nat.le_of_ble_eq_true rfl, Nat.le_of_ble_eq_true rfl⟩) ⟨rp_blind, rp_pre hz (hP.sub (ws' := []) [] rfl) [.int (S.2.2.2.2.2.2.2.2.2.2.2.2.2.2.2.2.2.1 x6.toNatClampNeg)]⟩ rfl rfl hl.1 rfl (lv_room (Nat.le_of_ble_eq_true rfl)) dX6_seek_140 ⟨Nat.le_of_ble_eq_true rfl, Nat.le_of_ble_eq_true rfl⟩)) (fun r_7 h => ?_)
    refine lv_iload_n F.1 F.2.1 dX6_seek_143 rfl (lv_at hl 1 rfl) ?_
    refine vp_callSi (va_Run.run (va_runS (As := [.int (p4 - (S.2.2.2.2.2.2.2.2.2.2.2.2.2.2.2.2.2.2 x6.toNatClampNeg)), .int r_7, .int p1]) (rest := []) F (mX6_tolled (l := l) (D := D) (cI := cI) (cJ := cJ) (cZ := cZ) h) (va_cwS 3 F.2.2.2.2 gX6_seek_X6_tolled rfl rfl rfl kS_X6_tolled ⟨Nat.le_of_ble_eq_true rfl, Nat.le_of_ble_eq_true rfl⟩) ⟨rp_blind, rp_pre hz (hP.sub (ws' := []) [] rfl) [.int (p4 - (S.2.2.2.2.2.2.2.2.2.2.2.2.2.2.2.2.2.2 x6.toNatClampNeg)), .int r_7, .int p1]⟩ rfl rfl hl.1 rfl (lv_room (Nat.le_of_ble_eq_true rfl)) dX6_seek_144 ⟨Nat.le_of_ble_eq_true rfl, Nat.le_of_ble_eq_true rfl⟩)) (fun r_8 h => ?_)
    refine lv_istore (lv' := [(7, .int r_8), (0, .ref (ad 0)), (1, .int p1), (2, .int p2), (3, .int p3), (4, .int p4), (5, .int x5), (6, .int x6)]) F.1 F.2.1 dX6_seek_147 hl (by decide) rfl (fun ls hl => ?_)
    refine lv_iload F.1 F.2.1 dX6_seek_149 (lv_at hl 0 rfl) ?_
    refine lv_iload F.1 F.2.1 dX6_seek_151 (lv_at hl 6 rfl) ?_
    refine lv_icmp_ge (tgt := 183) F.1 F.2.1 dX6_seek_153 (by decide) (fun hc => ?_) (fun hc => ?_)
    · have h := h.1 (hc)
      refine lv_iinc (v := x6 + 1) (lv' := [(6, .int (x6 + 1)), (7, .int r_8), (0, .ref (ad 0)), (1, .int p1), (2, .int p2), (3, .int p3), (4, .int p4), (5, .int x5)]) F.1 F.2.1 dX6_seek_183 hl (k := 7) rfl rfl (by decide) rfl (fun ls hl => ?_)
      refine lv_goto (tgt := 117) F.1 F.2.1 dX6_seek_186 (by decide) ?_
      exact ih117 (x5, x6 + 1, S) h _ _ hP hS ls (lv_sub hl [2, 3, 4, 5, 6, 7, 0] rfl)
    · have h := h.2 hc
      refine lv_iload F.1 F.2.1 dX6_seek_156 (lv_at hl 0 rfl) ?_
      refine lv_istore (lv' := [(5, .int r_8), (7, .int r_8), (0, .ref (ad 0)), (1, .int p1), (2, .int p2), (3, .int p3), (4, .int p4), (6, .int x6)]) F.1 F.2.1 dX6_seek_158 hl (by decide) rfl (fun ls hl => ?_)
      refine lv_aload_n F.1 F.2.1 dX6_seek_160 rfl (lv_at hl 2 rfl) ?_
      refine lv_iconst (v := (1 : Int32)) F.1 F.2.1 dX6_seek_161 (by decide) ?_
      refine lv_aload_n F.1 F.2.1 dX6_seek_162 rfl (lv_at hl 2 rfl) ?_
      refine va_get (D := D) (ci := 4) (v := .ref (ad 12)) (C := RX6) (T := TX6) (N := 19) F.1 F.2.1 F.2.2.2.2 vX6_seek_X6 F.2.2.2.1 hz.1 hP 0 rfl rfl 17 (by decide) (F.2.2.2.2 _ uX6_seek_1) (fun _ h9 => h9) rfl dX6_seek_163 ?_
      refine lv_iload F.1 F.2.1 dX6_seek_166 (lv_at hl 7 rfl) ?_
      refine va_iald F.1 F.2.1 hz.1 hP 12 0 rfl rfl h.1 dX6_seek_168 ?_
      have h := h.2
      refine lv_iconst (v := (-1 : Int32)) F.1 F.2.1 dX6_seek_169 (by decide) ?_
      refine lv_iload F.1 F.2.1 dX6_seek_170 (lv_at hl 6 rfl) ?_
      refine lv_aload_n F.1 F.2.1 dX6_seek_172 rfl (lv_at hl 2 rfl) ?_
      refine va_get (D := D) (ci := 4) (v := .ref (ad 13)) (C := RX6) (T := TX6) (N := 19) F.1 F.2.1 F.2.2.2.2 vX6_seek_X6 F.2.2.2.1 hz.1 hP 0 rfl rfl 18 (by decide) (F.2.2.2.2 _ uX6_seek_2) (fun _ h9 => h9) rfl dX6_seek_173 ?_
      refine lv_iload F.1 F.2.1 dX6_seek_176 (lv_at hl 7 rfl) ?_
      refine va_iald F.1 F.2.1 hz.1 hP 13 0 rfl rfl h.1 dX6_seek_178 ?_
      have h := h.2
      refine lv_isub F.1 F.2.1 dX6_seek_179 ?_
      refine call_wv (wf := w6 ad cI cZ) (va_runV (As := [.int (1 : Int32), .int (S.2.2.2.2.2.2.2.2.2.2.2.2.2.2.2.2.2.1 x6.toNatClampNeg), .int (-1 : Int32), .int (p4 - (S.2.2.2.2.2.2.2.2.2.2.2.2.2.2.2.2.2.2 x6.toNatClampNeg))]) (rest := []) F (mX6_tells (l := l) (D := D) (cI := cI) (cJ := cJ) (cZ := cZ) (ad := ad) _ h) (cwV 4 F.2.2.2.2 gX6_seek_X6_tells rfl rfl rfl kV_X6_tells ⟨Nat.le_of_ble_eq_true rfl, Nat.le_of_ble_eq_true rfl⟩) ⟨wp_blind, va_recv hz.1 hP (ci := 4) (q0 := 0) rfl rfl, wp_pre hz hP (hD _) (.ref (ad 0) :: [.int (1 : Int32), .int (S.2.2.2.2.2.2.2.2.2.2.2.2.2.2.2.2.2.1 x6.toNatClampNeg), .int (-1 : Int32), .int (p4 - (S.2.2.2.2.2.2.2.2.2.2.2.2.2.2.2.2.2.2 x6.toNatClampNeg))])⟩ rfl rfl hl.1 rfl (lv_room (Nat.le_of_ble_eq_true rfl)) dX6_seek_180 ⟨Nat.le_of_ble_eq_true rfl, Nat.le_of_ble_eq_true rfl⟩) hS (hD _) hA (fun S_10 H locs h hP hS => ?_)
      refine lv_iinc (v := x6 + 1) (lv' := [(6, .int (x6 + 1)), (5, .int r_8), (7, .int r_8), (0, .ref (ad 0)), (1, .int p1), (2, .int p2), (3, .int p3), (4, .int p4)]) F.1 F.2.1 dX6_seek_183 hl (k := 7) rfl rfl (by decide) rfl (fun ls hl => ?_)
      refine lv_goto (tgt := 117) F.1 F.2.1 dX6_seek_186 (by decide) ?_
      exact ih117 (r_8, x6 + 1, S_10) h _ _ hP hS ls (lv_sub hl [3, 4, 5, 6, 7, 1, 0] rfl)
set_option maxRecDepth 100000 in
theorem kX6_seek_209 {p1 : Int32} {p2 : Int32} {p3 : Int32} {p4 : Int32} {p6 : Int32} (F : CallFix p m c cX6_seek 10 s args wsX6_seek RX6) (hz : gz D cI cJ cZ s) (hD : ∀ u : S6, va_D A (w6 ad cI cZ u)) (hA : ∀ q : Nat, s.heap.size ≤ q → A q) {K : Int32 × Int32 × S6 → Prop} (hK : ∀ x : Int32 × Int32 × S6, K x → match x with | (x5, x7, S) => ∀ (H : Heap) (locs : List Loc), va_P D vwCl (w6 ad cI cZ S) H → va_S A s.heap H locs → ∀ ls : Array Slot, lv_has ls 10 [(0, .ref (ad 0)), (1, .int p1), (2, .int p2), (3, .int p3), (4, .int p4), (5, .int x5), (6, .int p6), (7, .int x7)] → W p l e rX6_seek s m args below meth c H locs 0 0 QQ (F0 m 323 ls [])) : ∀ (nn : Nat) (x : Int32 × Int32 × S6), iter (sX6_seek_209 p1 p2 p3 p4 p6 K) nn x → match x with | (x5, x7, S) => ∀ (H : Heap) (locs : List Loc), va_P D vwCl (w6 ad cI cZ S) H → va_S A s.heap H locs → ∀ ls : Array Slot, lv_has ls 10 [(0, .ref (ad 0)), (1, .int p1), (2, .int p2), (3, .int p3), (4, .int p4), (5, .int x5), (6, .int p6), (7, .int x7)] → W p l e rX6_seek s m args below meth c H locs 0 0 QQ (F0 m 209 ls []) := by
  refine iter_walk ?_
  rintro again209 ⟨x5, x7, S⟩ ih209 h H locs hP hS ls hl
  have hK209 := hK
  refine lv_iload F.1 F.2.1 dX6_seek_209 (lv_at hl 7 rfl) ?_
  refine lv_iload_n F.1 F.2.1 dX6_seek_211 rfl (lv_at hl 3 rfl) ?_
  refine lv_icmp_ge (tgt := 323) F.1 F.2.1 dX6_seek_212 (by decide) (fun hc => ?_) (fun hc => ?_)
  · have h := h.1 (hc)
    exact hK209 (x5, x7, S) h _ _ hP hS ls (lv_sub hl [0, 1, 2, 3, 4, 5, 6, 7] rfl)
  · have h := h.2 hc
    refine lv_iload F.1 F.2.1 dX6_seek_215 (lv_at hl 4 rfl) ?_
    refine lv_aload_n F.1 F.2.1 dX6_seek_217 rfl (lv_at hl 0 rfl) ?_
    refine va_get (D := D) (ci := 4) (v := .ref (ad 13)) (C := RX6) (T := TX6) (N := 19) F.1 F.2.1 F.2.2.2.2 vX6_seek_X6 F.2.2.2.1 hz.1 hP 0 rfl rfl 18 (by decide) (F.2.2.2.2 _ uX6_seek_2) (fun _ h9 => h9) rfl dX6_seek_218 ?_
    refine lv_iload F.1 F.2.1 dX6_seek_221 (lv_at hl 6 rfl) ?_
    refine va_iald F.1 F.2.1 hz.1 hP 13 0 rfl rfl h.1 dX6_seek_223 ?_
    have h := h.2
    refine lv_isub F.1 F.2.1 dX6_seek_224 ?_
    refine lv_aload_n F.1 F.2.1 dX6_seek_225 rfl (lv_at hl 0 rfl) ?_
    refine va_get (D := D) (ci := 4) (v := .ref (ad 13)) (C := RX6) (T := TX6) (N := 19) F.1 F.2.1 F.2.2.2.2 vX6_seek_X6 F.2.2.2.1 hz.1 hP 0 rfl rfl 18 (by decide) (F.2.2.2.2 _ uX6_seek_2) (fun _ h9 => h9) rfl dX6_seek_226 ?_
    refine lv_iload F.1 F.2.1 dX6_seek_229 (lv_at hl 7 rfl) ?_
    refine va_iald F.1 F.2.1 hz.1 hP 13 0 rfl rfl h.1 dX6_seek_231 ?_
    have h := h.2
    refine lv_isub F.1 F.2.1 dX6_seek_232 ?_
    refine lv_topi (fun y_11 ey_11 => ?_)
    have h := h y_11 ey_11
    refine lv_istore (lv' := [(8, .int y_11), (0, .ref (ad 0)), (1, .int p1), (2, .int p2), (3, .int p3), (4, .int p4), (5, .int x5), (6, .int p6), (7, .int x7)]) F.1 F.2.1 dX6_seek_233 hl (by decide) rfl (fun ls hl => ?_)
    refine lv_iload F.1 F.2.1 dX6_seek_235 (lv_at hl 0 rfl) ?_
    refine lv_aload_n F.1 F.2.1 dX6_seek_237 rfl (lv_at hl 1 rfl) ?_
    refine va_get (D := D) (ci := 4) (v := .ref (ad 12)) (C := RX6) (T := TX6) (N := 19) F.1 F.2.1 F.2.2.2.2 vX6_seek_X6 F.2.2.2.1 hz.1 hP 0 rfl rfl 17 (by decide) (F.2.2.2.2 _ uX6_seek_1) (fun _ h9 => h9) rfl dX6_seek_238 ?_
    refine lv_iload F.1 F.2.1 dX6_seek_241 (lv_at hl 7 rfl) ?_
    refine va_iald F.1 F.2.1 hz.1 hP 12 0 rfl rfl h.1 dX6_seek_243 ?_
    have h := h.2
    refine vp_callSi (va_Run.run (va_runS (As := [.int (S.2.2.2.2.2.2.2.2.2.2.2.2.2.2.2.2.2.1 p6.toNatClampNeg)]) (rest := [.int y_11]) F (mX6_tests (l := l) (D := D) (cI := cI) (cJ := cJ) (cZ := cZ) h) (va_cwS 1 F.2.2.2.2 gX6_seek_X6_tests rfl rfl rfl kS_X6_tests ⟨Nat.le_of_ble_eq_true rfl, Nat.le_of_ble_eq_true rfl⟩) ⟨rp_blind, rp_pre hz (hP.sub (ws' := []) [] rfl) [.int (S.2.2.2.2.2.2.2.2.2.2.2.2.2.2.2.2.2.1 p6.toNatClampNeg)]⟩ rfl rfl hl.1 rfl (lv_room (Nat.le_of_ble_eq_true rfl)) dX6_seek_244 ⟨Nat.le_of_ble_eq_true rfl, Nat.le_of_ble_eq_true rfl⟩)) (fun r_12 h => ?_)
    refine lv_aload_n F.1 F.2.1 dX6_seek_247 rfl (lv_at hl 1 rfl) ?_
    refine va_get (D := D) (ci := 4) (v := .ref (ad 12)) (C := RX6) (T := TX6) (N := 19) F.1 F.2.1 F.2.2.2.2 vX6_seek_X6 F.2.2.2.1 hz.1 hP 0 rfl rfl 17 (by decide) (F.2.2.2.2 _ uX6_seek_1) (fun _ h9 => h9) rfl dX6_seek_248 ?_
    refine lv_iload F.1 F.2.1 dX6_seek_251 (lv_at hl 8 rfl) ?_
    refine va_iald F.1 F.2.1 hz.1 hP 12 0 rfl rfl h.1 dX6_seek_253 ?_
    have h := h.2
    refine vp_callSi (va_Run.run (va_runS (As := [.int (S.2.2.2.2.2.2.2.2.2.2.2.2.2.2.2.2.2.1 x7.toNatClampNeg)]) (rest := [.int r_12, .int y_11]) F (mX6_tests (l := l) (D := D) (cI := cI) (cJ := cJ) (cZ := cZ) h) (va_cwS 1 F.2.2.2.2 gX6_seek_X6_tests rfl rfl rfl kS_X6_tests ⟨Nat.le_of_ble_eq_true rfl, Nat.le_of_ble_eq_true rfl⟩) ⟨rp_blind, rp_pre hz (hP.sub (ws' := []) [] rfl) [.int (S.2.2.2.2.2.2.2.2.2.2.2.2.2.2.2.2.2.1 x7.toNatClampNeg)]⟩ rfl rfl hl.1 rfl (lv_room (Nat.le_of_ble_eq_true rfl)) dX6_seek_254 ⟨Nat.le_of_ble_eq_true rfl, Nat.le_of_ble_eq_true rfl⟩)) (fun r_13 h => ?_)
    refine lv_iadd F.1 F.2.1 dX6_seek_257 ?_
    refine lv_iload_n F.1 F.2.1 dX6_seek_258 rfl (lv_at hl 2 rfl) ?_
    refine vp_callSi (va_Run.run (va_runS (As := [.int y_11, .int (r_12 + r_13), .int p1]) (rest := []) F (mX6_tolled (l := l) (D := D) (cI := cI) (cJ := cJ) (cZ := cZ) h) (va_cwS 3 F.2.2.2.2 gX6_seek_X6_tolled rfl rfl rfl kS_X6_tolled ⟨Nat.le_of_ble_eq_true rfl, Nat.le_of_ble_eq_true rfl⟩) ⟨rp_blind, rp_pre hz (hP.sub (ws' := []) [] rfl) [.int y_11, .int (r_12 + r_13), .int p1]⟩ rfl rfl hl.1 rfl (lv_room (Nat.le_of_ble_eq_true rfl)) dX6_seek_259 ⟨Nat.le_of_ble_eq_true rfl, Nat.le_of_ble_eq_true rfl⟩)) (fun r_14 h => ?_)
    refine lv_istore (lv' := [(9, .int r_14), (8, .int y_11), (0, .ref (ad 0)), (1, .int p1), (2, .int p2), (3, .int p3), (4, .int p4), (5, .int x5), (6, .int p6), (7, .int x7)]) F.1 F.2.1 dX6_seek_262 hl (by decide) rfl (fun ls hl => ?_)
    refine lv_iload F.1 F.2.1 dX6_seek_264 (lv_at hl 0 rfl) ?_
    refine lv_iload F.1 F.2.1 dX6_seek_266 (lv_at hl 7 rfl) ?_
    refine lv_icmp_ge (tgt := 317) F.1 F.2.1 dX6_seek_268 (by decide) (fun hc => ?_) (fun hc => ?_)
    · have h := h.1 (hc)
      refine lv_iinc (v := x7 + 1) (lv' := [(7, .int (x7 + 1)), (9, .int r_14), (8, .int y_11), (0, .ref (ad 0)), (1, .int p1), (2, .int p2), (3, .int p3), (4, .int p4), (5, .int x5), (6, .int p6)]) F.1 F.2.1 dX6_seek_317 hl (k := 9) rfl rfl (by decide) rfl (fun ls hl => ?_)
      refine lv_goto (tgt := 209) F.1 F.2.1 dX6_seek_320 (by decide) ?_
      exact ih209 (x5, x7 + 1, S) h _ _ hP hS ls (lv_sub hl [3, 4, 5, 6, 7, 8, 9, 0] rfl)
    · have h := h.2 hc
      refine lv_aload_n F.1 F.2.1 dX6_seek_271 rfl (lv_at hl 2 rfl) ?_
      refine lv_aload_n F.1 F.2.1 dX6_seek_272 rfl (lv_at hl 2 rfl) ?_
      refine va_get (D := D) (ci := 4) (v := .ref (ad 12)) (C := RX6) (T := TX6) (N := 19) F.1 F.2.1 F.2.2.2.2 vX6_seek_X6 F.2.2.2.1 hz.1 hP 0 rfl rfl 17 (by decide) (F.2.2.2.2 _ uX6_seek_1) (fun _ h9 => h9) rfl dX6_seek_273 ?_
      refine lv_iload F.1 F.2.1 dX6_seek_276 (lv_at hl 8 rfl) ?_
      refine va_iald F.1 F.2.1 hz.1 hP 12 0 rfl rfl h.1 dX6_seek_278 ?_
      have h := h.2
      refine lv_aload_n F.1 F.2.1 dX6_seek_279 rfl (lv_at hl 2 rfl) ?_
      refine va_get (D := D) (ci := 4) (v := .ref (ad 12)) (C := RX6) (T := TX6) (N := 19) F.1 F.2.1 F.2.2.2.2 vX6_seek_X6 F.2.2.2.1 hz.1 hP 0 rfl rfl 17 (by decide) (F.2.2.2.2 _ uX6_seek_1) (fun _ h9 => h9) rfl dX6_seek_280 ?_
      refine lv_iload F.1 F.2.1 dX6_seek_283 (lv_at hl 9 rfl) ?_
      refine va_iald F.1 F.2.1 hz.1 hP 12 0 rfl rfl h.1 dX6_seek_285 ?_
      have h := h.2
      refine vp_callSi (va_Run.run (va_runV (As := [.int (S.2.2.2.2.2.2.2.2.2.2.2.2.2.2.2.2.2.1 p6.toNatClampNeg), .int (S.2.2.2.2.2.2.2.2.2.2.2.2.2.2.2.2.2.1 x7.toNatClampNeg)]) (rest := []) F (mX6_shareRow (l := l) (D := D) (cI := cI) (cJ := cJ) (cZ := cZ) (ad := ad) h) (cwV 2 F.2.2.2.2 gX6_seek_X6_shareRow rfl rfl rfl kV_X6_shareRow ⟨Nat.le_of_ble_eq_true rfl, Nat.le_of_ble_eq_true rfl⟩) ⟨rp_blind, va_recv hz.1 hP (ci := 4) (q0 := 0) rfl rfl, rp_pre hz hP (.ref (ad 0) :: [.int (S.2.2.2.2.2.2.2.2.2.2.2.2.2.2.2.2.2.1 p6.toNatClampNeg), .int (S.2.2.2.2.2.2.2.2.2.2.2.2.2.2.2.2.2.1 x7.toNatClampNeg)])⟩ rfl rfl hl.1 rfl (lv_room (Nat.le_of_ble_eq_true rfl)) dX6_seek_286 ⟨Nat.le_of_ble_eq_true rfl, Nat.le_of_ble_eq_true rfl⟩)) (fun r_15 h => ?_)
      obtain ⟨hbr_15, h⟩ := h
      refine lv_if_ne (tgt := 317) F.1 F.2.1 dX6_seek_289 (by decide) (fun hc => ?_) (fun hc => ?_)
      · have h := h.2 hc
        refine lv_iinc (v := x7 + 1) (lv' := [(7, .int (x7 + 1)), (9, .int r_14), (8, .int y_11), (0, .ref (ad 0)), (1, .int p1), (2, .int p2), (3, .int p3), (4, .int p4), (5, .int x5), (6, .int p6)]) F.1 F.2.1 dX6_seek_317 hl (k := 9) rfl rfl (by decide) rfl (fun ls hl => ?_)
        refine lv_goto (tgt := 209) F.1 F.2.1 dX6_seek_320 (by decide) ?_
        exact ih209 (x5, x7 + 1, S) h _ _ hP hS ls (lv_sub hl [3, 4, 5, 6, 7, 8, 9, 0] rfl)
      · have h := h.1 (hc)
        refine lv_iload F.1 F.2.1 dX6_seek_292 (lv_at hl 0 rfl) ?_
        refine lv_istore (lv' := [(5, .int r_14), (9, .int r_14), (8, .int y_11), (0, .ref (ad 0)), (1, .int p1), (2, .int p2), (3, .int p3), (4, .int p4), (6, .int p6), (7, .int x7)]) F.1 F.2.1 dX6_seek_294 hl (by decide) rfl (fun ls hl => ?_)
        refine lv_aload_n F.1 F.2.1 dX6_seek_296 rfl (lv_at hl 3 rfl) ?_
        refine lv_iconst (v := (2 : Int32)) F.1 F.2.1 dX6_seek_297 (by decide) ?_
        refine lv_aload_n F.1 F.2.1 dX6_seek_298 rfl (lv_at hl 3 rfl) ?_
        refine va_get (D := D) (ci := 4) (v := .ref (ad 12)) (C := RX6) (T := TX6) (N := 19) F.1 F.2.1 F.2.2.2.2 vX6_seek_X6 F.2.2.2.1 hz.1 hP 0 rfl rfl 17 (by decide) (F.2.2.2.2 _ uX6_seek_1) (fun _ h9 => h9) rfl dX6_seek_299 ?_
        refine lv_iload F.1 F.2.1 dX6_seek_302 (lv_at hl 8 rfl) ?_
        refine va_iald F.1 F.2.1 hz.1 hP 12 0 rfl rfl h.1 dX6_seek_304 ?_
        have h := h.2
        refine lv_aload_n F.1 F.2.1 dX6_seek_305 rfl (lv_at hl 3 rfl) ?_
        refine va_get (D := D) (ci := 4) (v := .ref (ad 12)) (C := RX6) (T := TX6) (N := 19) F.1 F.2.1 F.2.2.2.2 vX6_seek_X6 F.2.2.2.1 hz.1 hP 0 rfl rfl 17 (by decide) (F.2.2.2.2 _ uX6_seek_1) (fun _ h9 => h9) rfl dX6_seek_306 ?_
        refine lv_iload F.1 F.2.1 dX6_seek_309 (lv_at hl 9 rfl) ?_
        refine va_iald F.1 F.2.1 hz.1 hP 12 0 rfl rfl h.1 dX6_seek_311 ?_
        have h := h.2
        refine lv_iload F.1 F.2.1 dX6_seek_312 (lv_at hl 2 rfl) ?_
        refine call_wv (wf := w6 ad cI cZ) (va_runV (As := [.int (2 : Int32), .int (S.2.2.2.2.2.2.2.2.2.2.2.2.2.2.2.2.2.1 p6.toNatClampNeg), .int (S.2.2.2.2.2.2.2.2.2.2.2.2.2.2.2.2.2.1 x7.toNatClampNeg), .int y_11]) (rest := []) F (mX6_tells (l := l) (D := D) (cI := cI) (cJ := cJ) (cZ := cZ) (ad := ad) _ h) (cwV 4 F.2.2.2.2 gX6_seek_X6_tells rfl rfl rfl kV_X6_tells ⟨Nat.le_of_ble_eq_true rfl, Nat.le_of_ble_eq_true rfl⟩) ⟨wp_blind, va_recv hz.1 hP (ci := 4) (q0 := 0) rfl rfl, wp_pre hz hP (hD _) (.ref (ad 0) :: [.int (2 : Int32), .int (S.2.2.2.2.2.2.2.2.2.2.2.2.2.2.2.2.2.1 p6.toNatClampNeg), .int (S.2.2.2.2.2.2.2.2.2.2.2.2.2.2.2.2.2.1 x7.toNatClampNeg), .int y_11])⟩ rfl rfl hl.1 rfl (lv_room (Nat.le_of_ble_eq_true rfl)) dX6_seek_314 ⟨Nat.le_of_ble_eq_true rfl, Nat.le_of_ble_eq_true rfl⟩) hS (hD _) hA (fun S_17 H locs h hP hS => ?_)
        refine lv_iinc (v := x7 + 1) (lv' := [(7, .int (x7 + 1)), (5, .int r_14), (9, .int r_14), (8, .int y_11), (0, .ref (ad 0)), (1, .int p1), (2, .int p2), (3, .int p3), (4, .int p4), (6, .int p6)]) F.1 F.2.1 dX6_seek_317 hl (k := 9) rfl rfl (by decide) rfl (fun ls hl => ?_)
        refine lv_goto (tgt := 209) F.1 F.2.1 dX6_seek_320 (by decide) ?_
        exact ih209 (r_14, x7 + 1, S_17) h _ _ hP hS ls (lv_sub hl [4, 5, 6, 7, 8, 1, 9, 0] rfl)
set_option maxRecDepth 100000 in
theorem kX6_seek_192 {p1 : Int32} {p2 : Int32} {p3 : Int32} {p4 : Int32} (F : CallFix p m c cX6_seek 10 s args wsX6_seek RX6) (hz : gz D cI cJ cZ s) (hD : ∀ u : S6, va_D A (w6 ad cI cZ u)) (hA : ∀ q : Nat, s.heap.size ≤ q → A q) {K : Int32 × Int32 × S6 → Prop} (hK : ∀ x : Int32 × Int32 × S6, K x → match x with | (x5, x6, S) => ∀ (H : Heap) (locs : List Loc), va_P D vwCl (w6 ad cI cZ S) H → va_S A s.heap H locs → ∀ ls : Array Slot, lv_has ls 10 [(0, .ref (ad 0)), (1, .int p1), (2, .int p2), (3, .int p3), (4, .int p4), (5, .int x5), (6, .int x6)] → W p l e rX6_seek s m args below meth c H locs 0 0 QQ (F0 m 329 ls [])) : ∀ (nn : Nat) (x : Int32 × Int32 × S6), iter (sX6_seek_192 p1 p2 p3 p4 K) nn x → match x with | (x5, x6, S) => ∀ (H : Heap) (locs : List Loc), va_P D vwCl (w6 ad cI cZ S) H → va_S A s.heap H locs → ∀ ls : Array Slot, lv_has ls 10 [(0, .ref (ad 0)), (1, .int p1), (2, .int p2), (3, .int p3), (4, .int p4), (5, .int x5), (6, .int x6)] → W p l e rX6_seek s m args below meth c H locs 0 0 QQ (F0 m 192 ls []) := by
  refine iter_walk ?_
  rintro again192 ⟨x5, x6, S⟩ ih192 h H locs hP hS ls hl
  have hK192 := hK
  refine lv_iload F.1 F.2.1 dX6_seek_192 (lv_at hl 6 rfl) ?_
  refine lv_iload_n F.1 F.2.1 dX6_seek_194 rfl (lv_at hl 3 rfl) ?_
  refine lv_icmp_ge (tgt := 329) F.1 F.2.1 dX6_seek_195 (by decide) (fun hc => ?_) (fun hc => ?_)
  · have h := h.1 (hc)
    exact hK192 (x5, x6, S) h _ _ hP hS ls (lv_sub hl [0, 1, 2, 3, 4, 5, 6] rfl)
  · have h := h.2 hc
    refine lv_iload_n F.1 F.2.1 dX6_seek_198 rfl (lv_at hl 2 rfl) ?_
    refine lv_iconst (v := (2 : Int32)) F.1 F.2.1 dX6_seek_199 (by decide) ?_
    refine lv_icmp_ne (tgt := 329) F.1 F.2.1 dX6_seek_200 (by decide) (fun hc => ?_) (fun hc => ?_)
    · have h := h.2 hc
      exact hK192 (x5, x6, S) h _ _ hP hS ls (lv_sub hl [0, 1, 2, 3, 4, 5, 6] rfl)
    · have h := h.1 (hc)
      refine lv_iload F.1 F.2.1 dX6_seek_203 (lv_at hl 6 rfl) ?_
      refine lv_iconst (v := (1 : Int32)) F.1 F.2.1 dX6_seek_205 (by decide) ?_
      refine lv_iadd F.1 F.2.1 dX6_seek_206 ?_
      refine lv_istore (lv' := [(7, .int (x6 + (1 : Int32))), (0, .ref (ad 0)), (1, .int p1), (2, .int p2), (3, .int p3), (4, .int p4), (5, .int x5), (6, .int x6)]) F.1 F.2.1 dX6_seek_207 hl (by decide) rfl (fun ls hl => ?_)
      obtain ⟨nn, h⟩ := h
      refine kX6_seek_209 F hz hD hA (fun ⟨x5, x7, S⟩ h H locs hP hS ls hl => ?_) nn _ h _ _ hP hS ls (lv_sub hl [1, 2, 3, 4, 5, 6, 7, 0] rfl)
      refine lv_iinc (v := x6 + 1) (lv' := [(6, .int (x6 + 1)), (0, .ref (ad 0)), (1, .int p1), (2, .int p2), (3, .int p3), (4, .int p4), (5, .int x5), (7, .int x7)]) F.1 F.2.1 dX6_seek_323 hl (k := 6) rfl rfl (by decide) rfl (fun ls hl => ?_)
      refine lv_goto (tgt := 192) F.1 F.2.1 dX6_seek_326 (by decide) ?_
      exact ih192 (x5, x6 + 1, S) h _ _ hP hS ls (lv_sub hl [1, 2, 3, 4, 5, 6, 0] rfl)
set_option maxRecDepth 100000 in
theorem bX6_seek {a1 : Int32} {a2 : Int32} {S : S6} {Q : Int32 → S6 → Prop} (F : CallFix p m c cX6_seek 10 s args wsX6_seek RX6) (hz : gz D cI cJ cZ s) (hD : ∀ u : S6, va_D A (w6 ad cI cZ u)) (hA : ∀ q : Nat, s.heap.size ≤ q → A q) (hret : ∀ (v : Int32) (u : S6) (H : Heap) (locs : List Loc) (pc : Nat) (ls : Array Slot), Q v u → va_P D vwCl (w6 ad cI cZ u) H → va_S A s.heap H locs → decode cX6_seek pc = .ok (.ireturn, 1) → W p l e rX6_seek s m args below meth c H locs 0 0 QQ (F0 m pc ls [.int v])) (hP : va_P D vwCl (w6 ad cI cZ S) s.heap) (h : wX6_seek S a1 a2 Q) : ∀ ls : Array Slot, lv_has ls 10 [(0, .ref (ad 0)), (1, .int a1), (2, .int a2)] → W p l e rX6_seek s m args below meth c s.heap [] 0 0 QQ (F0 m 0 ls []) := by
  intro ls hl
  have hS : va_S A s.heap s.heap [] := va_S.rf
  refine lv_iload_n F.1 F.2.1 dX6_seek_0 rfl (lv_at hl 1 rfl) ?_
  refine lv_iconst (v := (0 : Int32)) F.1 F.2.1 dX6_seek_1 (by decide) ?_
  refine lv_sipush (v := (1000 : Int32)) F.1 F.2.1 dX6_seek_2 (by decide) ?_
  refine vp_callSi (va_Run.run (va_runS (As := [.int a1, .int (0 : Int32), .int (1000 : Int32)]) (rest := []) F (mX6_in (l := l) (D := D) (cI := cI) (cJ := cJ) (cZ := cZ) h) (va_cwS 3 F.2.2.2.2 gX6_seek_X6_in rfl rfl rfl kS_X6_in ⟨Nat.le_of_ble_eq_true rfl, Nat.le_of_ble_eq_true rfl⟩) ⟨rp_blind, rp_pre hz (hP.sub (ws' := []) [] rfl) [.int a1, .int (0 : Int32), .int (1000 : Int32)]⟩ rfl rfl hl.1 rfl (lv_room (Nat.le_of_ble_eq_true rfl)) dX6_seek_5 ⟨Nat.le_of_ble_eq_true rfl, Nat.le_of_ble_eq_true rfl⟩)) (fun r_1 h => ?_)
  obtain ⟨hbr_1, h⟩ := h
  refine lv_if_eq (tgt := 20) F.1 F.2.1 dX6_seek_8 (by decide) (fun hc => ?_) (fun hc => ?_)
  · have h := h.1 (hc)
    refine lv_iconst (v := (-1 : Int32)) F.1 F.2.1 dX6_seek_20 (by decide) ?_
    exact hret _ _ _ _ _ _ h hP hS dX6_seek_21
  · have h := h.2 hc
    refine lv_iload_n F.1 F.2.1 dX6_seek_11 rfl (lv_at hl 2 rfl) ?_
    refine lv_iconst (v := (0 : Int32)) F.1 F.2.1 dX6_seek_12 (by decide) ?_
    refine lv_iconst (v := (2 : Int32)) F.1 F.2.1 dX6_seek_13 (by decide) ?_
    refine vp_callSi (va_Run.run (va_runS (As := [.int a2, .int (0 : Int32), .int (2 : Int32)]) (rest := []) F (mX6_in (l := l) (D := D) (cI := cI) (cJ := cJ) (cZ := cZ) h) (va_cwS 3 F.2.2.2.2 gX6_seek_X6_in rfl rfl rfl kS_X6_in ⟨Nat.le_of_ble_eq_true rfl, Nat.le_of_ble_eq_true rfl⟩) ⟨rp_blind, rp_pre hz (hP.sub (ws' := []) [] rfl) [.int a2, .int (0 : Int32), .int (2 : Int32)]⟩ rfl rfl hl.1 rfl (lv_room (Nat.le_of_ble_eq_true rfl)) dX6_seek_14 ⟨Nat.le_of_ble_eq_true rfl, Nat.le_of_ble_eq_true rfl⟩)) (fun r_2 h => ?_)
    obtain ⟨hbr_2, h⟩ := h
    refine lv_if_ne (tgt := 22) F.1 F.2.1 dX6_seek_17 (by decide) (fun hc => ?_) (fun hc => ?_)
    · have h := h.2 hc
      refine lv_iconst (v := (0 : Int32)) F.1 F.2.1 dX6_seek_22 (by decide) ?_
      refine lv_istore_n (lv' := [(3, .int (0 : Int32)), (0, .ref (ad 0)), (1, .int a1), (2, .int a2)]) F.1 F.2.1 dX6_seek_23 rfl hl (by decide) rfl (fun ls hl => ?_)
      refine lv_iconst (v := (1 : Int32)) F.1 F.2.1 dX6_seek_24 (by decide) ?_
      refine lv_istore (lv' := [(4, .int (1 : Int32)), (3, .int (0 : Int32)), (0, .ref (ad 0)), (1, .int a1), (2, .int a2)]) F.1 F.2.1 dX6_seek_25 hl (by decide) rfl (fun ls hl => ?_)
      obtain ⟨nn, h⟩ := h
      refine kX6_seek_27 F hz hD hA (fun ⟨x3, x4, S⟩ h H locs hP hS ls hl => ?_) nn _ h _ _ hP hS ls (lv_sub hl [2, 3, 4, 1, 0] rfl)
      refine lv_aload_n F.1 F.2.1 dX6_seek_78 rfl (lv_at hl 0 rfl) ?_
      refine vp_callSi (va_Run.run (va_runV (As := []) (rest := []) F (mX6_rest (l := l) (D := D) (cI := cI) (cJ := cJ) (cZ := cZ) (ad := ad) h) (cwV 0 F.2.2.2.2 gX6_seek_X6_rest rfl rfl rfl kV_X6_rest ⟨Nat.le_of_ble_eq_true rfl, Nat.le_of_ble_eq_true rfl⟩) ⟨rp_blind, va_recv hz.1 hP (ci := 4) (q0 := 0) rfl rfl, rp_pre hz hP (.ref (ad 0) :: [])⟩ rfl rfl hl.1 rfl (lv_room (Nat.le_of_ble_eq_true rfl)) dX6_seek_79 ⟨Nat.le_of_ble_eq_true rfl, Nat.le_of_ble_eq_true rfl⟩)) (fun r_5 h => ?_)
      refine lv_istore (lv' := [(4, .int r_5), (0, .ref (ad 0)), (1, .int a1), (2, .int a2), (3, .int x3)]) F.1 F.2.1 dX6_seek_82 hl (by decide) rfl (fun ls hl => ?_)
      refine lv_iload F.1 F.2.1 dX6_seek_84 (lv_at hl 0 rfl) ?_
      refine lv_iconst (v := (0 : Int32)) F.1 F.2.1 dX6_seek_86 (by decide) ?_
      refine lv_iload_n F.1 F.2.1 dX6_seek_87 rfl (lv_at hl 2 rfl) ?_
      refine vp_callSi (va_Run.run (va_runS (As := [.int r_5, .int (0 : Int32), .int a1]) (rest := []) F (mX6_tolled (l := l) (D := D) (cI := cI) (cJ := cJ) (cZ := cZ) h) (va_cwS 3 F.2.2.2.2 gX6_seek_X6_tolled rfl rfl rfl kS_X6_tolled ⟨Nat.le_of_ble_eq_true rfl, Nat.le_of_ble_eq_true rfl⟩) ⟨rp_blind, rp_pre hz (hP.sub (ws' := []) [] rfl) [.int r_5, .int (0 : Int32), .int a1]⟩ rfl rfl hl.1 rfl (lv_room (Nat.le_of_ble_eq_true rfl)) dX6_seek_88 ⟨Nat.le_of_ble_eq_true rfl, Nat.le_of_ble_eq_true rfl⟩)) (fun r_6 h => ?_)
      refine lv_istore (lv' := [(5, .int r_6), (4, .int r_5), (0, .ref (ad 0)), (1, .int a1), (2, .int a2), (3, .int x3)]) F.1 F.2.1 dX6_seek_91 hl (by decide) rfl (fun ls hl => ?_)
      refine lv_aload_n F.1 F.2.1 dX6_seek_93 rfl (lv_at hl 2 rfl) ?_
      refine lv_iconst (v := (0 : Int32)) F.1 F.2.1 dX6_seek_94 (by decide) ?_
      refine va_put (D := D) (ci := 4) (v := .int (0 : Int32)) (ty := .int) (C := RX6) (T := TX6) (N := 19) F.1 F.2.1 F.2.2.2.2 vX6_seek_X6 tyX6 tyX6_ok nmX6 F.2.2.2.1 hz.1 hP (hD _) hS 0 rfl rfl 11 (by decide) (F.2.2.2.2 _ uX6_seek_3) (fun _ h9 => h9) rfl (by decide +kernel) rfl rfl (Nat.le_of_ble_eq_true rfl) dX6_seek_95 (fun H locs hP _ hS => ?_)
      have hP : va_P D vwCl (w6 ad cI cZ (S.1, S.2.1, S.2.2.1, S.2.2.2.1, S.2.2.2.2.1, S.2.2.2.2.2.1, S.2.2.2.2.2.2.1, S.2.2.2.2.2.2.2.1, S.2.2.2.2.2.2.2.2.1, S.2.2.2.2.2.2.2.2.2.1, S.2.2.2.2.2.2.2.2.2.2.1, (0 : Int32), S.2.2.2.2.2.2.2.2.2.2.2.2.1, S.2.2.2.2.2.2.2.2.2.2.2.2.2.1, S.2.2.2.2.2.2.2.2.2.2.2.2.2.2.1, S.2.2.2.2.2.2.2.2.2.2.2.2.2.2.2.1, S.2.2.2.2.2.2.2.2.2.2.2.2.2.2.2.2.1, S.2.2.2.2.2.2.2.2.2.2.2.2.2.2.2.2.2.1, S.2.2.2.2.2.2.2.2.2.2.2.2.2.2.2.2.2.2)) H := hP
      refine lv_aload_n F.1 F.2.1 dX6_seek_98 rfl (lv_at hl 2 rfl) ?_
      refine lv_iconst (v := (-1 : Int32)) F.1 F.2.1 dX6_seek_99 (by decide) ?_
      refine va_put (D := D) (ci := 4) (v := .int (-1 : Int32)) (ty := .int) (C := RX6) (T := TX6) (N := 19) F.1 F.2.1 F.2.2.2.2 vX6_seek_X6 tyX6 tyX6_ok nmX6 F.2.2.2.1 hz.1 hP (hD _) hS 0 rfl rfl 12 (by decide) (F.2.2.2.2 _ uX6_seek_4) (fun _ h9 => h9) rfl (by decide +kernel) rfl rfl (Nat.le_of_ble_eq_true rfl) dX6_seek_100 (fun H locs hP _ hS => ?_)
      have hP : va_P D vwCl (w6 ad cI cZ (S.1, S.2.1, S.2.2.1, S.2.2.2.1, S.2.2.2.2.1, S.2.2.2.2.2.1, S.2.2.2.2.2.2.1, S.2.2.2.2.2.2.2.1, S.2.2.2.2.2.2.2.2.1, S.2.2.2.2.2.2.2.2.2.1, S.2.2.2.2.2.2.2.2.2.2.1, (0 : Int32), (-1 : Int32), S.2.2.2.2.2.2.2.2.2.2.2.2.2.1, S.2.2.2.2.2.2.2.2.2.2.2.2.2.2.1, S.2.2.2.2.2.2.2.2.2.2.2.2.2.2.2.1, S.2.2.2.2.2.2.2.2.2.2.2.2.2.2.2.2.1, S.2.2.2.2.2.2.2.2.2.2.2.2.2.2.2.2.2.1, S.2.2.2.2.2.2.2.2.2.2.2.2.2.2.2.2.2.2)) H := hP
      refine lv_aload_n F.1 F.2.1 dX6_seek_103 rfl (lv_at hl 2 rfl) ?_
      refine lv_iconst (v := (-1 : Int32)) F.1 F.2.1 dX6_seek_104 (by decide) ?_
      refine va_put (D := D) (ci := 4) (v := .int (-1 : Int32)) (ty := .int) (C := RX6) (T := TX6) (N := 19) F.1 F.2.1 F.2.2.2.2 vX6_seek_X6 tyX6 tyX6_ok nmX6 F.2.2.2.1 hz.1 hP (hD _) hS 0 rfl rfl 13 (by decide) (F.2.2.2.2 _ uX6_seek_5) (fun _ h9 => h9) rfl (by decide +kernel) rfl rfl (Nat.le_of_ble_eq_true rfl) dX6_seek_105 (fun H locs hP _ hS => ?_)
      have hP : va_P D vwCl (w6 ad cI cZ (S.1, S.2.1, S.2.2.1, S.2.2.2.1, S.2.2.2.2.1, S.2.2.2.2.2.1, S.2.2.2.2.2.2.1, S.2.2.2.2.2.2.2.1, S.2.2.2.2.2.2.2.2.1, S.2.2.2.2.2.2.2.2.2.1, S.2.2.2.2.2.2.2.2.2.2.1, (0 : Int32), (-1 : Int32), (-1 : Int32), S.2.2.2.2.2.2.2.2.2.2.2.2.2.2.1, S.2.2.2.2.2.2.2.2.2.2.2.2.2.2.2.1, S.2.2.2.2.2.2.2.2.2.2.2.2.2.2.2.2.1, S.2.2.2.2.2.2.2.2.2.2.2.2.2.2.2.2.2.1, S.2.2.2.2.2.2.2.2.2.2.2.2.2.2.2.2.2.2)) H := hP
      refine lv_aload_n F.1 F.2.1 dX6_seek_108 rfl (lv_at hl 2 rfl) ?_
      refine lv_iload F.1 F.2.1 dX6_seek_109 (lv_at hl 1 rfl) ?_
      refine va_put (D := D) (ci := 4) (v := .int r_5) (ty := .int) (C := RX6) (T := TX6) (N := 19) F.1 F.2.1 F.2.2.2.2 vX6_seek_X6 tyX6 tyX6_ok nmX6 F.2.2.2.1 hz.1 hP (hD _) hS 0 rfl rfl 14 (by decide) (F.2.2.2.2 _ uX6_seek_6) (fun _ h9 => h9) rfl (by decide +kernel) rfl rfl (Nat.le_of_ble_eq_true rfl) dX6_seek_111 (fun H locs hP _ hS => ?_)
      have hP : va_P D vwCl (w6 ad cI cZ (S.1, S.2.1, S.2.2.1, S.2.2.2.1, S.2.2.2.2.1, S.2.2.2.2.2.1, S.2.2.2.2.2.2.1, S.2.2.2.2.2.2.2.1, S.2.2.2.2.2.2.2.2.1, S.2.2.2.2.2.2.2.2.2.1, S.2.2.2.2.2.2.2.2.2.2.1, (0 : Int32), (-1 : Int32), (-1 : Int32), r_5, S.2.2.2.2.2.2.2.2.2.2.2.2.2.2.2.1, S.2.2.2.2.2.2.2.2.2.2.2.2.2.2.2.2.1, S.2.2.2.2.2.2.2.2.2.2.2.2.2.2.2.2.2.1, S.2.2.2.2.2.2.2.2.2.2.2.2.2.2.2.2.2.2)) H := hP
      refine lv_iconst (v := (0 : Int32)) F.1 F.2.1 dX6_seek_114 (by decide) ?_
      refine lv_istore (lv' := [(6, .int (0 : Int32)), (5, .int r_6), (4, .int r_5), (0, .ref (ad 0)), (1, .int a1), (2, .int a2), (3, .int x3)]) F.1 F.2.1 dX6_seek_115 hl (by decide) rfl (fun ls hl => ?_)
      obtain ⟨nn, h⟩ := h
      refine kX6_seek_117 F hz hD hA (fun ⟨x5, x6, S⟩ h H locs hP hS ls hl => ?_) nn _ h _ _ hP hS ls (lv_sub hl [3, 4, 5, 6, 2, 1, 0] rfl)
      refine lv_iconst (v := (0 : Int32)) F.1 F.2.1 dX6_seek_189 (by decide) ?_
      refine lv_istore (lv' := [(6, .int (0 : Int32)), (0, .ref (ad 0)), (1, .int a1), (2, .int a2), (3, .int x3), (4, .int r_5), (5, .int x5)]) F.1 F.2.1 dX6_seek_190 hl (by decide) rfl (fun ls hl => ?_)
      obtain ⟨nn, h⟩ := h
      refine kX6_seek_192 F hz hD hA (fun ⟨x5, x6, S⟩ h H locs hP hS ls hl => ?_) nn _ h _ _ hP hS ls (lv_sub hl [1, 2, 3, 4, 5, 6, 0] rfl)
      refine lv_iload F.1 F.2.1 dX6_seek_329 (lv_at hl 5 rfl) ?_
      exact hret _ _ _ _ _ _ h hP hS dX6_seek_331
    · have h := h.1 (hc)
      refine lv_iconst (v := (-1 : Int32)) F.1 F.2.1 dX6_seek_20 (by decide) ?_
      exact hret _ _ _ _ _ _ h hP hS dX6_seek_21
theorem mX6_seek {l : Launch} {D : va_G} {cI cJ cZ : ClassId} {ad : Nat → Nat} {S : S6} {a1 : Int32} {a2 : Int32} {Q : Int32 → S6 → Prop} (sz : Nat) (h : wX6_seek S a1 a2 Q) : Met l yX6_seek wsX6_seek rX6_seek (va_Pc [.ref (ad 0), .int a1, .int a2] (wp D cI cJ cZ sz (w6 ad cI cZ S))) (wQi D (w6 ad cI cZ) S sz Q) 0 0 (va_A (w6 ad cI cZ S) sz) :=
  enter_wi (wf := w6 ad cI cZ) (fun _ => rfl) (by decide +kernel) rfl (Nat.le_of_ble_eq_true rfl) (fun p e s m args below meth c QQ A F hz hD hA hP hret => bX6_seek F hz hD hA hret hP h)
abbrev rX6_story : Room := { frames := 1, cells := 0, slots := 0, locals := 22 }
theorem kV_X6_story : yX6_story.cls = RX6 ∧ yX6_story.cls ≠ "java/lang/invoke/MethodHandle" ∧ yX6_story.cls ≠ "java/lang/invoke/VarHandle" ∧ (parseMethodDescriptor yX6_story.desc).map (fun d => d.parameters.length) = some 1 := by decide +kernel
theorem vX6_story_X6 : ∀ w ∈ wsX60, w ∈ wsX6_story := fun _ h => List.mem_cons_of_mem _ (List.mem_append_right _ h)
theorem uX6_story_1 : Cond.fieldLink RX6 38 "SumMovedModel" "found" "I" ∈ wsX6_story := List.mem_of_getElem? (i := 1) rfl
theorem uX6_story_2 : Cond.constant RX6 83 (-1000000) ∈ wsX6_story := List.mem_of_getElem? (i := 2) rfl
theorem uX6_story_5 : Cond.fieldLink RX6 148 "SumMovedModel" "foundRest" "I" ∈ wsX6_story := List.mem_of_getElem? (i := 5) rfl
theorem uX6_story_4 : Cond.fieldLink RX6 145 "SumMovedModel" "secondHeap" "I" ∈ wsX6_story := List.mem_of_getElem? (i := 4) rfl
theorem uX6_story_3 : Cond.fieldLink RX6 142 "SumMovedModel" "firstHeap" "I" ∈ wsX6_story := List.mem_of_getElem? (i := 3) rfl
set_option maxRecDepth 100000 in
theorem bX6_story {a1 : Int32} {S : S6} {Q : Int32 → Prop} (F : CallFix p m c cX6_story 2 s args wsX6_story RX6) (hz : gz D cI cJ cZ s) (hP : va_P D vwCl (w6 ad cI cZ S) s.heap) (hret : ∀ (v : Int32) (pc : Nat) (ls : Array Slot), Q v → decode cX6_story pc = .ok (.ireturn, 1) → W p l e rX6_story s m args below meth c s.heap [] 0 0 QQ (F0 m pc ls [.int v])) (h : wX6_story S a1 Q) : ∀ ls : Array Slot, lv_has ls 2 [(0, .ref (ad 0)), (1, .int a1)] → W p l e rX6_story s m args below meth c s.heap [] 0 0 QQ (F0 m 0 ls []) := by
  intro ls hl
  refine lv_aload_n F.1 F.2.1 dX6_story_0 rfl (lv_at hl 0 rfl) ?_
  refine va_get (D := D) (ci := 4) (v := .int S.2.2.2.2.2.2.2.2.2.2.2.1) (C := RX6) (T := TX6) (N := 19) F.1 F.2.1 F.2.2.2.2 vX6_story_X6 F.2.2.2.1 hz.1 hP 0 rfl rfl 11 (by decide) (F.2.2.2.2 _ uX6_story_1) (fun _ h9 => h9) rfl dX6_story_1 ?_
  refine lv_iconst (v := (-1 : Int32)) F.1 F.2.1 dX6_story_4 (by decide) ?_
  refine lv_icmp_eq (tgt := 17) F.1 F.2.1 dX6_story_5 (by decide) (fun hc => ?_) (fun hc => ?_)
  · have h := h.1 (hc)
    refine lv_ldc (v := (-1000000 : Int32)) F.1 F.2.1 F.2.2.2.1 (F.2.2.2.2 _ uX6_story_2) dX6_story_17 ?_
    exact hret _ _ _ h dX6_story_19
  · have h := h.2 hc
    refine lv_iload_n F.1 F.2.1 dX6_story_8 rfl (lv_at hl 1 rfl) ?_
    refine lv_iconst (v := (0 : Int32)) F.1 F.2.1 dX6_story_9 (by decide) ?_
    refine lv_iconst (v := (3 : Int32)) F.1 F.2.1 dX6_story_10 (by decide) ?_
    refine vp_callSi (va_Run.run (va_runS (As := [.int a1, .int (0 : Int32), .int (3 : Int32)]) (rest := []) F (mX6_in (l := l) (D := D) (cI := cI) (cJ := cJ) (cZ := cZ) h) (va_cwS 3 F.2.2.2.2 gX6_story_X6_in rfl rfl rfl kS_X6_in ⟨Nat.le_of_ble_eq_true rfl, Nat.le_of_ble_eq_true rfl⟩) ⟨rp_blind, rp_pre hz (hP.sub (ws' := []) [] rfl) [.int a1, .int (0 : Int32), .int (3 : Int32)]⟩ rfl rfl hl.1 rfl (lv_room (Nat.le_of_ble_eq_true rfl)) dX6_story_11 ⟨Nat.le_of_ble_eq_true rfl, Nat.le_of_ble_eq_true rfl⟩)) (fun r_1 h => ?_)
    obtain ⟨hbr_1, h⟩ := h
    refine lv_if_ne (tgt := 20) F.1 F.2.1 dX6_story_14 (by decide) (fun hc => ?_) (fun hc => ?_)
    · have h := h.2 hc
      refine lv_iload_n F.1 F.2.1 dX6_story_20 rfl (lv_at hl 1 rfl) ?_
      refine lv_if_ne (tgt := 31) F.1 F.2.1 dX6_story_21 (by decide) (fun hc => ?_) (fun hc => ?_)
      · have h := h.2 hc
        refine lv_iload_n F.1 F.2.1 dX6_story_31 rfl (lv_at hl 1 rfl) ?_
        refine lv_iconst (v := (1 : Int32)) F.1 F.2.1 dX6_story_32 (by decide) ?_
        refine lv_icmp_ne (tgt := 43) F.1 F.2.1 dX6_story_33 (by decide) (fun hc => ?_) (fun hc => ?_)
        · have h := h.2 hc
          refine lv_iload_n F.1 F.2.1 dX6_story_43 rfl (lv_at hl 1 rfl) ?_
          refine lv_iconst (v := (2 : Int32)) F.1 F.2.1 dX6_story_44 (by decide) ?_
          refine lv_icmp_ne (tgt := 55) F.1 F.2.1 dX6_story_45 (by decide) (fun hc => ?_) (fun hc => ?_)
          · have h := h.2 hc
            refine lv_aload_n F.1 F.2.1 dX6_story_55 rfl (lv_at hl 0 rfl) ?_
            refine va_get (D := D) (ci := 4) (v := .int S.2.2.2.2.2.2.2.2.2.2.2.2.2.2.1) (C := RX6) (T := TX6) (N := 19) F.1 F.2.1 F.2.2.2.2 vX6_story_X6 F.2.2.2.1 hz.1 hP 0 rfl rfl 14 (by decide) (F.2.2.2.2 _ uX6_story_5) (fun _ h9 => h9) rfl dX6_story_56 ?_
            exact hret _ _ _ h dX6_story_59
          · have h := h.1 (hc)
            refine lv_aload_n F.1 F.2.1 dX6_story_48 rfl (lv_at hl 0 rfl) ?_
            refine va_get (D := D) (ci := 4) (v := .int S.2.2.2.2.2.2.2.2.2.2.2.2.2.1) (C := RX6) (T := TX6) (N := 19) F.1 F.2.1 F.2.2.2.2 vX6_story_X6 F.2.2.2.1 hz.1 hP 0 rfl rfl 13 (by decide) (F.2.2.2.2 _ uX6_story_4) (fun _ h9 => h9) rfl dX6_story_49 ?_
            refine lv_goto (tgt := 59) F.1 F.2.1 dX6_story_52 (by decide) ?_
            exact hret _ _ _ h dX6_story_59
        · have h := h.1 (hc)
          refine lv_aload_n F.1 F.2.1 dX6_story_36 rfl (lv_at hl 0 rfl) ?_
          refine va_get (D := D) (ci := 4) (v := .int S.2.2.2.2.2.2.2.2.2.2.2.2.1) (C := RX6) (T := TX6) (N := 19) F.1 F.2.1 F.2.2.2.2 vX6_story_X6 F.2.2.2.1 hz.1 hP 0 rfl rfl 12 (by decide) (F.2.2.2.2 _ uX6_story_3) (fun _ h9 => h9) rfl dX6_story_37 ?_
          refine lv_goto (tgt := 59) F.1 F.2.1 dX6_story_40 (by decide) ?_
          exact hret _ _ _ h dX6_story_59
      · have h := h.1 (hc)
        refine lv_aload_n F.1 F.2.1 dX6_story_24 rfl (lv_at hl 0 rfl) ?_
        refine va_get (D := D) (ci := 4) (v := .int S.2.2.2.2.2.2.2.2.2.2.2.1) (C := RX6) (T := TX6) (N := 19) F.1 F.2.1 F.2.2.2.2 vX6_story_X6 F.2.2.2.1 hz.1 hP 0 rfl rfl 11 (by decide) (F.2.2.2.2 _ uX6_story_1) (fun _ h9 => h9) rfl dX6_story_25 ?_
        refine lv_goto (tgt := 59) F.1 F.2.1 dX6_story_28 (by decide) ?_
        exact hret _ _ _ h dX6_story_59
    · have h := h.1 (hc)
      refine lv_ldc (v := (-1000000 : Int32)) F.1 F.2.1 F.2.2.2.1 (F.2.2.2.2 _ uX6_story_2) dX6_story_17 ?_
      exact hret _ _ _ h dX6_story_19
theorem mX6_story {l : Launch} {D : va_G} {cI cJ cZ : ClassId} {ad : Nat → Nat} {S : S6} {a1 : Int32} {Q : Int32 → Prop} (h : wX6_story S a1 Q) : Met l yX6_story wsX6_story rX6_story (va_Pc [.ref (ad 0), .int a1] (rp D cI cJ cZ (w6 ad cI cZ S))) (vp_Si Q) 0 0 (fun _ => False) :=
  enter_i (by decide +kernel) rfl (Nat.le_of_ble_eq_true rfl) (fun p e s m args below meth c QQ F hz hret => bX6_story F hz.1 hz.2 hret h)
abbrev rX6_toll : Room := { frames := 6, cells := 0, slots := 0, locals := 137 }
theorem kV_X6_toll : yX6_toll.cls = RX6 ∧ yX6_toll.cls ≠ "java/lang/invoke/MethodHandle" ∧ yX6_toll.cls ≠ "java/lang/invoke/VarHandle" ∧ (parseMethodDescriptor yX6_toll.desc).map (fun d => d.parameters.length) = some 3 := by decide +kernel
set_option maxRecDepth 100000 in
theorem bX6_toll {a1 : Int32} {a2 : Int32} {a3 : Int32} {S : S6} {Q : Int32 → Prop} (F : CallFix p m c cX6_toll 5 s args wsX6_toll RX6) (hz : gz D cI cJ cZ s) (hP : va_P D vwCl (w6 ad cI cZ S) s.heap) (hret : ∀ (v : Int32) (pc : Nat) (ls : Array Slot), Q v → decode cX6_toll pc = .ok (.ireturn, 1) → W p l e rX6_toll s m args below meth c s.heap [] 0 0 QQ (F0 m pc ls [.int v])) (h : wX6_toll S a1 a2 a3 Q) : ∀ ls : Array Slot, lv_has ls 5 [(0, .ref (ad 0)), (1, .int a1), (2, .int a2), (3, .int a3)] → W p l e rX6_toll s m args below meth c s.heap [] 0 0 QQ (F0 m 0 ls []) := by
  intro ls hl
  refine lv_iload_n F.1 F.2.1 dX6_toll_0 rfl (lv_at hl 1 rfl) ?_
  refine vp_callSi (va_Run.run (va_runS (As := [.int a1]) (rest := []) F (mX6_isHeap (l := l) (D := D) (cI := cI) (cJ := cJ) (cZ := cZ) h) (va_cwS 1 F.2.2.2.2 gX6_toll_X6_isHeap rfl rfl rfl kS_X6_isHeap ⟨Nat.le_of_ble_eq_true rfl, Nat.le_of_ble_eq_true rfl⟩) ⟨rp_blind, rp_pre hz (hP.sub (ws' := []) [] rfl) [.int a1]⟩ rfl rfl hl.1 rfl (lv_room (Nat.le_of_ble_eq_true rfl)) dX6_toll_1 ⟨Nat.le_of_ble_eq_true rfl, Nat.le_of_ble_eq_true rfl⟩)) (fun r_1 h => ?_)
  obtain ⟨hbr_1, h⟩ := h
  refine lv_if_eq (tgt := 39) F.1 F.2.1 dX6_toll_4 (by decide) (fun hc => ?_) (fun hc => ?_)
  · have h := h.1 (hc)
    refine lv_iconst (v := (0 : Int32)) F.1 F.2.1 dX6_toll_39 (by decide) ?_
    refine lv_istore (lv' := [(4, .int (0 : Int32)), (0, .ref (ad 0)), (1, .int a1), (2, .int a2), (3, .int a3)]) F.1 F.2.1 dX6_toll_40 hl (by decide) rfl (fun ls hl => ?_)
    refine lv_iload F.1 F.2.1 dX6_toll_42 (lv_at hl 0 rfl) ?_
    refine lv_if_eq (tgt := 58) F.1 F.2.1 dX6_toll_44 (by decide) (fun hc => ?_) (fun hc => ?_)
    · refine lv_iconst (v := (-1 : Int32)) F.1 F.2.1 dX6_toll_58 (by decide) ?_
      exact hret _ _ _ h dX6_toll_59
    · exact absurd hc (by decide)
  · have h := h.2 hc
    refine lv_aload_n F.1 F.2.1 dX6_toll_7 rfl (lv_at hl 0 rfl) ?_
    refine lv_iload_n F.1 F.2.1 dX6_toll_8 rfl (lv_at hl 1 rfl) ?_
    refine vp_callSi (va_Run.run (va_runV (As := [.int a1]) (rest := []) F (mX6_mayTell (l := l) (D := D) (cI := cI) (cJ := cJ) (cZ := cZ) (ad := ad) h) (cwV 1 F.2.2.2.2 gX6_toll_X6_mayTell rfl rfl rfl kV_X6_mayTell ⟨Nat.le_of_ble_eq_true rfl, Nat.le_of_ble_eq_true rfl⟩) ⟨rp_blind, va_recv hz.1 hP (ci := 4) (q0 := 0) rfl rfl, rp_pre hz hP (.ref (ad 0) :: [.int a1])⟩ rfl rfl hl.1 rfl (lv_room (Nat.le_of_ble_eq_true rfl)) dX6_toll_9 ⟨Nat.le_of_ble_eq_true rfl, Nat.le_of_ble_eq_true rfl⟩)) (fun r_2 h => ?_)
    obtain ⟨hbr_2, h⟩ := h
    refine lv_if_eq (tgt := 39) F.1 F.2.1 dX6_toll_12 (by decide) (fun hc => ?_) (fun hc => ?_)
    · have h := h.1 (hc)
      refine lv_iconst (v := (0 : Int32)) F.1 F.2.1 dX6_toll_39 (by decide) ?_
      refine lv_istore (lv' := [(4, .int (0 : Int32)), (0, .ref (ad 0)), (1, .int a1), (2, .int a2), (3, .int a3)]) F.1 F.2.1 dX6_toll_40 hl (by decide) rfl (fun ls hl => ?_)
      refine lv_iload F.1 F.2.1 dX6_toll_42 (lv_at hl 0 rfl) ?_
      refine lv_if_eq (tgt := 58) F.1 F.2.1 dX6_toll_44 (by decide) (fun hc => ?_) (fun hc => ?_)
      · refine lv_iconst (v := (-1 : Int32)) F.1 F.2.1 dX6_toll_58 (by decide) ?_
        exact hret _ _ _ h dX6_toll_59
      · exact absurd hc (by decide)
    · have h := h.2 hc
      refine lv_iload_n F.1 F.2.1 dX6_toll_15 rfl (lv_at hl 2 rfl) ?_
      refine lv_iconst (v := (-1 : Int32)) F.1 F.2.1 dX6_toll_16 (by decide) ?_
      refine lv_icmp_eq (tgt := 35) F.1 F.2.1 dX6_toll_17 (by decide) (fun hc => ?_) (fun hc => ?_)
      · have h := h.1 (hc)
        refine lv_iconst (v := (1 : Int32)) F.1 F.2.1 dX6_toll_35 (by decide) ?_
        refine lv_goto (tgt := 40) F.1 F.2.1 dX6_toll_36 (by decide) ?_
        refine lv_istore (lv' := [(4, .int (1 : Int32)), (0, .ref (ad 0)), (1, .int a1), (2, .int a2), (3, .int a3)]) F.1 F.2.1 dX6_toll_40 hl (by decide) rfl (fun ls hl => ?_)
        refine lv_iload F.1 F.2.1 dX6_toll_42 (lv_at hl 0 rfl) ?_
        refine lv_if_eq (tgt := 58) F.1 F.2.1 dX6_toll_44 (by decide) (fun hc => ?_) (fun hc => ?_)
        · exact absurd hc (by decide)
        · refine lv_iload_n F.1 F.2.1 dX6_toll_47 rfl (lv_at hl 4 rfl) ?_
          refine lv_iconst (v := (0 : Int32)) F.1 F.2.1 dX6_toll_48 (by decide) ?_
          refine lv_sipush (v := (1000 : Int32)) F.1 F.2.1 dX6_toll_49 (by decide) ?_
          refine vp_callSi (va_Run.run (va_runS (As := [.int a3, .int (0 : Int32), .int (1000 : Int32)]) (rest := []) F (mX6_in (l := l) (D := D) (cI := cI) (cJ := cJ) (cZ := cZ) h) (va_cwS 3 F.2.2.2.2 gX6_toll_X6_in rfl rfl rfl kS_X6_in ⟨Nat.le_of_ble_eq_true rfl, Nat.le_of_ble_eq_true rfl⟩) ⟨rp_blind, rp_pre hz (hP.sub (ws' := []) [] rfl) [.int a3, .int (0 : Int32), .int (1000 : Int32)]⟩ rfl rfl hl.1 rfl (lv_room (Nat.le_of_ble_eq_true rfl)) dX6_toll_52 ⟨Nat.le_of_ble_eq_true rfl, Nat.le_of_ble_eq_true rfl⟩)) (fun r_3 h => ?_)
          obtain ⟨hbr_3, h⟩ := h
          refine lv_if_ne (tgt := 60) F.1 F.2.1 dX6_toll_55 (by decide) (fun hc => ?_) (fun hc => ?_)
          · have h := h.2 hc
            refine lv_iload_n F.1 F.2.1 dX6_toll_60 rfl (lv_at hl 3 rfl) ?_
            refine lv_iconst (v := (-1 : Int32)) F.1 F.2.1 dX6_toll_61 (by decide) ?_
            refine lv_icmp_ne (tgt := 85) F.1 F.2.1 dX6_toll_62 (by decide) (fun hc => ?_) (fun hc => ?_)
            · have h := h.2 hc
              refine lv_iload_n F.1 F.2.1 dX6_toll_85 rfl (lv_at hl 2 rfl) ?_
              refine lv_iload_n F.1 F.2.1 dX6_toll_86 rfl (lv_at hl 3 rfl) ?_
              refine lv_icmp_eq (tgt := 99) F.1 F.2.1 dX6_toll_87 (by decide) (fun hc => ?_) (fun hc => ?_)
              · have h := h.1 (hc)
                refine lv_bipush (v := (-3 : Int32)) F.1 F.2.1 dX6_toll_99 (by decide) ?_
                exact hret _ _ _ h dX6_toll_101
              · have h := h.2 hc
                refine lv_aload_n F.1 F.2.1 dX6_toll_90 rfl (lv_at hl 1 rfl) ?_
                refine lv_iload_n F.1 F.2.1 dX6_toll_91 rfl (lv_at hl 2 rfl) ?_
                refine lv_iload_n F.1 F.2.1 dX6_toll_92 rfl (lv_at hl 3 rfl) ?_
                refine vp_callSi (va_Run.run (va_runV (As := [.int a1, .int a2]) (rest := []) F (mX6_shareRow (l := l) (D := D) (cI := cI) (cJ := cJ) (cZ := cZ) (ad := ad) h) (cwV 2 F.2.2.2.2 gX6_toll_X6_shareRow rfl rfl rfl kV_X6_shareRow ⟨Nat.le_of_ble_eq_true rfl, Nat.le_of_ble_eq_true rfl⟩) ⟨rp_blind, va_recv hz.1 hP (ci := 4) (q0 := 0) rfl rfl, rp_pre hz hP (.ref (ad 0) :: [.int a1, .int a2])⟩ rfl rfl hl.1 rfl (lv_room (Nat.le_of_ble_eq_true rfl)) dX6_toll_93 ⟨Nat.le_of_ble_eq_true rfl, Nat.le_of_ble_eq_true rfl⟩)) (fun r_4 h => ?_)
                obtain ⟨hbr_4, h⟩ := h
                refine lv_if_eq (tgt := 102) F.1 F.2.1 dX6_toll_96 (by decide) (fun hc => ?_) (fun hc => ?_)
                · have h := h.1 (hc)
                  refine lv_aload_n F.1 F.2.1 dX6_toll_102 rfl (lv_at hl 1 rfl) ?_
                  refine vp_callSi (va_Run.run (va_runV (As := []) (rest := []) F (mX6_rest (l := l) (D := D) (cI := cI) (cJ := cJ) (cZ := cZ) (ad := ad) h) (cwV 0 F.2.2.2.2 gX6_toll_X6_rest rfl rfl rfl kV_X6_rest ⟨Nat.le_of_ble_eq_true rfl, Nat.le_of_ble_eq_true rfl⟩) ⟨rp_blind, va_recv hz.1 hP (ci := 4) (q0 := 0) rfl rfl, rp_pre hz hP (.ref (ad 0) :: [])⟩ rfl rfl hl.1 rfl (lv_room (Nat.le_of_ble_eq_true rfl)) dX6_toll_103 ⟨Nat.le_of_ble_eq_true rfl, Nat.le_of_ble_eq_true rfl⟩)) (fun r_5 h => ?_)
                  refine lv_aload_n F.1 F.2.1 dX6_toll_106 rfl (lv_at hl 1 rfl) ?_
                  refine lv_iload_n F.1 F.2.1 dX6_toll_107 rfl (lv_at hl 2 rfl) ?_
                  refine lv_iconst (v := (0 : Int32)) F.1 F.2.1 dX6_toll_108 (by decide) ?_
                  refine vp_callSi (va_Run.run (va_runV (As := [.int a1, .int (0 : Int32)]) (rest := [.int r_5]) F (mX6_changed (l := l) (D := D) (cI := cI) (cJ := cJ) (cZ := cZ) (ad := ad) h) (cwV 2 F.2.2.2.2 gX6_toll_X6_changed rfl rfl rfl kV_X6_changed ⟨Nat.le_of_ble_eq_true rfl, Nat.le_of_ble_eq_true rfl⟩) ⟨rp_blind, va_recv hz.1 hP (ci := 4) (q0 := 0) rfl rfl, rp_pre hz hP (.ref (ad 0) :: [.int a1, .int (0 : Int32)])⟩ rfl rfl hl.1 rfl (lv_room (Nat.le_of_ble_eq_true rfl)) dX6_toll_109 ⟨Nat.le_of_ble_eq_true rfl, Nat.le_of_ble_eq_true rfl⟩)) (fun r_6 h => ?_)
                  refine lv_isub F.1 F.2.1 dX6_toll_112 ?_
                  refine lv_aload_n F.1 F.2.1 dX6_toll_113 rfl (lv_at hl 1 rfl) ?_
                  refine lv_iload_n F.1 F.2.1 dX6_toll_114 rfl (lv_at hl 3 rfl) ?_
                  refine lv_iconst (v := (0 : Int32)) F.1 F.2.1 dX6_toll_115 (by decide) ?_
                  refine vp_callSi (va_Run.run (va_runV (As := [.int a2, .int (0 : Int32)]) (rest := [.int (r_5 - r_6)]) F (mX6_changed (l := l) (D := D) (cI := cI) (cJ := cJ) (cZ := cZ) (ad := ad) h) (cwV 2 F.2.2.2.2 gX6_toll_X6_changed rfl rfl rfl kV_X6_changed ⟨Nat.le_of_ble_eq_true rfl, Nat.le_of_ble_eq_true rfl⟩) ⟨rp_blind, va_recv hz.1 hP (ci := 4) (q0 := 0) rfl rfl, rp_pre hz hP (.ref (ad 0) :: [.int a2, .int (0 : Int32)])⟩ rfl rfl hl.1 rfl (lv_room (Nat.le_of_ble_eq_true rfl)) dX6_toll_116 ⟨Nat.le_of_ble_eq_true rfl, Nat.le_of_ble_eq_true rfl⟩)) (fun r_7 h => ?_)
                  refine lv_isub F.1 F.2.1 dX6_toll_119 ?_
                  refine lv_iload_n F.1 F.2.1 dX6_toll_120 rfl (lv_at hl 2 rfl) ?_
                  refine vp_callSi (va_Run.run (va_runS (As := [.int a1]) (rest := [.int ((r_5 - r_6) - r_7)]) F (mX6_tests (l := l) (D := D) (cI := cI) (cJ := cJ) (cZ := cZ) h) (va_cwS 1 F.2.2.2.2 gX6_toll_X6_tests rfl rfl rfl kS_X6_tests ⟨Nat.le_of_ble_eq_true rfl, Nat.le_of_ble_eq_true rfl⟩) ⟨rp_blind, rp_pre hz (hP.sub (ws' := []) [] rfl) [.int a1]⟩ rfl rfl hl.1 rfl (lv_room (Nat.le_of_ble_eq_true rfl)) dX6_toll_121 ⟨Nat.le_of_ble_eq_true rfl, Nat.le_of_ble_eq_true rfl⟩)) (fun r_8 h => ?_)
                  refine lv_iload_n F.1 F.2.1 dX6_toll_124 rfl (lv_at hl 3 rfl) ?_
                  refine vp_callSi (va_Run.run (va_runS (As := [.int a2]) (rest := [.int r_8, .int ((r_5 - r_6) - r_7)]) F (mX6_tests (l := l) (D := D) (cI := cI) (cJ := cJ) (cZ := cZ) h) (va_cwS 1 F.2.2.2.2 gX6_toll_X6_tests rfl rfl rfl kS_X6_tests ⟨Nat.le_of_ble_eq_true rfl, Nat.le_of_ble_eq_true rfl⟩) ⟨rp_blind, rp_pre hz (hP.sub (ws' := []) [] rfl) [.int a2]⟩ rfl rfl hl.1 rfl (lv_room (Nat.le_of_ble_eq_true rfl)) dX6_toll_125 ⟨Nat.le_of_ble_eq_true rfl, Nat.le_of_ble_eq_true rfl⟩)) (fun r_9 h => ?_)
                  refine lv_iadd F.1 F.2.1 dX6_toll_128 ?_
                  refine lv_iload_n F.1 F.2.1 dX6_toll_129 rfl (lv_at hl 4 rfl) ?_
                  refine vp_callSi (va_Run.run (va_runS (As := [.int ((r_5 - r_6) - r_7), .int (r_8 + r_9), .int a3]) (rest := []) F (mX6_tolled (l := l) (D := D) (cI := cI) (cJ := cJ) (cZ := cZ) h) (va_cwS 3 F.2.2.2.2 gX6_toll_X6_tolled rfl rfl rfl kS_X6_tolled ⟨Nat.le_of_ble_eq_true rfl, Nat.le_of_ble_eq_true rfl⟩) ⟨rp_blind, rp_pre hz (hP.sub (ws' := []) [] rfl) [.int ((r_5 - r_6) - r_7), .int (r_8 + r_9), .int a3]⟩ rfl rfl hl.1 rfl (lv_room (Nat.le_of_ble_eq_true rfl)) dX6_toll_130 ⟨Nat.le_of_ble_eq_true rfl, Nat.le_of_ble_eq_true rfl⟩)) (fun r_10 h => ?_)
                  exact hret _ _ _ h dX6_toll_133
                · have h := h.2 hc
                  refine lv_bipush (v := (-3 : Int32)) F.1 F.2.1 dX6_toll_99 (by decide) ?_
                  exact hret _ _ _ h dX6_toll_101
            · have h := h.1 (hc)
              refine lv_aload_n F.1 F.2.1 dX6_toll_65 rfl (lv_at hl 1 rfl) ?_
              refine vp_callSi (va_Run.run (va_runV (As := []) (rest := []) F (mX6_rest (l := l) (D := D) (cI := cI) (cJ := cJ) (cZ := cZ) (ad := ad) h) (cwV 0 F.2.2.2.2 gX6_toll_X6_rest rfl rfl rfl kV_X6_rest ⟨Nat.le_of_ble_eq_true rfl, Nat.le_of_ble_eq_true rfl⟩) ⟨rp_blind, va_recv hz.1 hP (ci := 4) (q0 := 0) rfl rfl, rp_pre hz hP (.ref (ad 0) :: [])⟩ rfl rfl hl.1 rfl (lv_room (Nat.le_of_ble_eq_true rfl)) dX6_toll_66 ⟨Nat.le_of_ble_eq_true rfl, Nat.le_of_ble_eq_true rfl⟩)) (fun r_11 h => ?_)
              refine lv_aload_n F.1 F.2.1 dX6_toll_69 rfl (lv_at hl 1 rfl) ?_
              refine lv_iload_n F.1 F.2.1 dX6_toll_70 rfl (lv_at hl 2 rfl) ?_
              refine lv_iconst (v := (0 : Int32)) F.1 F.2.1 dX6_toll_71 (by decide) ?_
              refine vp_callSi (va_Run.run (va_runV (As := [.int a1, .int (0 : Int32)]) (rest := [.int r_11]) F (mX6_changed (l := l) (D := D) (cI := cI) (cJ := cJ) (cZ := cZ) (ad := ad) h) (cwV 2 F.2.2.2.2 gX6_toll_X6_changed rfl rfl rfl kV_X6_changed ⟨Nat.le_of_ble_eq_true rfl, Nat.le_of_ble_eq_true rfl⟩) ⟨rp_blind, va_recv hz.1 hP (ci := 4) (q0 := 0) rfl rfl, rp_pre hz hP (.ref (ad 0) :: [.int a1, .int (0 : Int32)])⟩ rfl rfl hl.1 rfl (lv_room (Nat.le_of_ble_eq_true rfl)) dX6_toll_72 ⟨Nat.le_of_ble_eq_true rfl, Nat.le_of_ble_eq_true rfl⟩)) (fun r_12 h => ?_)
              refine lv_isub F.1 F.2.1 dX6_toll_75 ?_
              refine lv_iload_n F.1 F.2.1 dX6_toll_76 rfl (lv_at hl 2 rfl) ?_
              refine vp_callSi (va_Run.run (va_runS (As := [.int a1]) (rest := [.int (r_11 - r_12)]) F (mX6_tests (l := l) (D := D) (cI := cI) (cJ := cJ) (cZ := cZ) h) (va_cwS 1 F.2.2.2.2 gX6_toll_X6_tests rfl rfl rfl kS_X6_tests ⟨Nat.le_of_ble_eq_true rfl, Nat.le_of_ble_eq_true rfl⟩) ⟨rp_blind, rp_pre hz (hP.sub (ws' := []) [] rfl) [.int a1]⟩ rfl rfl hl.1 rfl (lv_room (Nat.le_of_ble_eq_true rfl)) dX6_toll_77 ⟨Nat.le_of_ble_eq_true rfl, Nat.le_of_ble_eq_true rfl⟩)) (fun r_13 h => ?_)
              refine lv_iload_n F.1 F.2.1 dX6_toll_80 rfl (lv_at hl 4 rfl) ?_
              refine vp_callSi (va_Run.run (va_runS (As := [.int (r_11 - r_12), .int r_13, .int a3]) (rest := []) F (mX6_tolled (l := l) (D := D) (cI := cI) (cJ := cJ) (cZ := cZ) h) (va_cwS 3 F.2.2.2.2 gX6_toll_X6_tolled rfl rfl rfl kS_X6_tolled ⟨Nat.le_of_ble_eq_true rfl, Nat.le_of_ble_eq_true rfl⟩) ⟨rp_blind, rp_pre hz (hP.sub (ws' := []) [] rfl) [.int (r_11 - r_12), .int r_13, .int a3]⟩ rfl rfl hl.1 rfl (lv_room (Nat.le_of_ble_eq_true rfl)) dX6_toll_81 ⟨Nat.le_of_ble_eq_true rfl, Nat.le_of_ble_eq_true rfl⟩)) (fun r_14 h => ?_)
              exact hret _ _ _ h dX6_toll_84
          · have h := h.1 (hc)
            refine lv_iconst (v := (-1 : Int32)) F.1 F.2.1 dX6_toll_58 (by decide) ?_
            exact hret _ _ _ h dX6_toll_59
      · have h := h.2 hc
        refine lv_iload_n F.1 F.2.1 dX6_toll_20 rfl (lv_at hl 2 rfl) ?_
        refine vp_callSi (va_Run.run (va_runS (As := [.int a2]) (rest := []) F (mX6_isHeap (l := l) (D := D) (cI := cI) (cJ := cJ) (cZ := cZ) h) (va_cwS 1 F.2.2.2.2 gX6_toll_X6_isHeap rfl rfl rfl kS_X6_isHeap ⟨Nat.le_of_ble_eq_true rfl, Nat.le_of_ble_eq_true rfl⟩) ⟨rp_blind, rp_pre hz (hP.sub (ws' := []) [] rfl) [.int a2]⟩ rfl rfl hl.1 rfl (lv_room (Nat.le_of_ble_eq_true rfl)) dX6_toll_21 ⟨Nat.le_of_ble_eq_true rfl, Nat.le_of_ble_eq_true rfl⟩)) (fun r_15 h => ?_)
        obtain ⟨hbr_15, h⟩ := h
        refine lv_if_eq (tgt := 39) F.1 F.2.1 dX6_toll_24 (by decide) (fun hc => ?_) (fun hc => ?_)
        · have h := h.1 (hc)
          refine lv_iconst (v := (0 : Int32)) F.1 F.2.1 dX6_toll_39 (by decide) ?_
          refine lv_istore (lv' := [(4, .int (0 : Int32)), (0, .ref (ad 0)), (1, .int a1), (2, .int a2), (3, .int a3)]) F.1 F.2.1 dX6_toll_40 hl (by decide) rfl (fun ls hl => ?_)
          refine lv_iload F.1 F.2.1 dX6_toll_42 (lv_at hl 0 rfl) ?_
          refine lv_if_eq (tgt := 58) F.1 F.2.1 dX6_toll_44 (by decide) (fun hc => ?_) (fun hc => ?_)
          · refine lv_iconst (v := (-1 : Int32)) F.1 F.2.1 dX6_toll_58 (by decide) ?_
            exact hret _ _ _ h dX6_toll_59
          · exact absurd hc (by decide)
        · have h := h.2 hc
          refine lv_aload_n F.1 F.2.1 dX6_toll_27 rfl (lv_at hl 0 rfl) ?_
          refine lv_iload_n F.1 F.2.1 dX6_toll_28 rfl (lv_at hl 2 rfl) ?_
          refine vp_callSi (va_Run.run (va_runV (As := [.int a2]) (rest := []) F (mX6_mayTell (l := l) (D := D) (cI := cI) (cJ := cJ) (cZ := cZ) (ad := ad) h) (cwV 1 F.2.2.2.2 gX6_toll_X6_mayTell rfl rfl rfl kV_X6_mayTell ⟨Nat.le_of_ble_eq_true rfl, Nat.le_of_ble_eq_true rfl⟩) ⟨rp_blind, va_recv hz.1 hP (ci := 4) (q0 := 0) rfl rfl, rp_pre hz hP (.ref (ad 0) :: [.int a2])⟩ rfl rfl hl.1 rfl (lv_room (Nat.le_of_ble_eq_true rfl)) dX6_toll_29 ⟨Nat.le_of_ble_eq_true rfl, Nat.le_of_ble_eq_true rfl⟩)) (fun r_16 h => ?_)
          obtain ⟨hbr_16, h⟩ := h
          refine lv_if_eq (tgt := 39) F.1 F.2.1 dX6_toll_32 (by decide) (fun hc => ?_) (fun hc => ?_)
          · have h := h.1 (hc)
            refine lv_iconst (v := (0 : Int32)) F.1 F.2.1 dX6_toll_39 (by decide) ?_
            refine lv_istore (lv' := [(4, .int (0 : Int32)), (0, .ref (ad 0)), (1, .int a1), (2, .int a2), (3, .int a3)]) F.1 F.2.1 dX6_toll_40 hl (by decide) rfl (fun ls hl => ?_)
            refine lv_iload F.1 F.2.1 dX6_toll_42 (lv_at hl 0 rfl) ?_
            refine lv_if_eq (tgt := 58) F.1 F.2.1 dX6_toll_44 (by decide) (fun hc => ?_) (fun hc => ?_)
            · refine lv_iconst (v := (-1 : Int32)) F.1 F.2.1 dX6_toll_58 (by decide) ?_
              exact hret _ _ _ h dX6_toll_59
            · exact absurd hc (by decide)
          · have h := h.2 hc
            refine lv_iconst (v := (1 : Int32)) F.1 F.2.1 dX6_toll_35 (by decide) ?_
            refine lv_goto (tgt := 40) F.1 F.2.1 dX6_toll_36 (by decide) ?_
            refine lv_istore (lv' := [(4, .int (1 : Int32)), (0, .ref (ad 0)), (1, .int a1), (2, .int a2), (3, .int a3)]) F.1 F.2.1 dX6_toll_40 hl (by decide) rfl (fun ls hl => ?_)
            refine lv_iload F.1 F.2.1 dX6_toll_42 (lv_at hl 0 rfl) ?_
            refine lv_if_eq (tgt := 58) F.1 F.2.1 dX6_toll_44 (by decide) (fun hc => ?_) (fun hc => ?_)
            · exact absurd hc (by decide)
            · refine lv_iload_n F.1 F.2.1 dX6_toll_47 rfl (lv_at hl 4 rfl) ?_
              refine lv_iconst (v := (0 : Int32)) F.1 F.2.1 dX6_toll_48 (by decide) ?_
              refine lv_sipush (v := (1000 : Int32)) F.1 F.2.1 dX6_toll_49 (by decide) ?_
              refine vp_callSi (va_Run.run (va_runS (As := [.int a3, .int (0 : Int32), .int (1000 : Int32)]) (rest := []) F (mX6_in (l := l) (D := D) (cI := cI) (cJ := cJ) (cZ := cZ) h) (va_cwS 3 F.2.2.2.2 gX6_toll_X6_in rfl rfl rfl kS_X6_in ⟨Nat.le_of_ble_eq_true rfl, Nat.le_of_ble_eq_true rfl⟩) ⟨rp_blind, rp_pre hz (hP.sub (ws' := []) [] rfl) [.int a3, .int (0 : Int32), .int (1000 : Int32)]⟩ rfl rfl hl.1 rfl (lv_room (Nat.le_of_ble_eq_true rfl)) dX6_toll_52 ⟨Nat.le_of_ble_eq_true rfl, Nat.le_of_ble_eq_true rfl⟩)) (fun r_17 h => ?_)
              obtain ⟨hbr_17, h⟩ := h
              refine lv_if_ne (tgt := 60) F.1 F.2.1 dX6_toll_55 (by decide) (fun hc => ?_) (fun hc => ?_)
              · have h := h.2 hc
                refine lv_iload_n F.1 F.2.1 dX6_toll_60 rfl (lv_at hl 3 rfl) ?_
                refine lv_iconst (v := (-1 : Int32)) F.1 F.2.1 dX6_toll_61 (by decide) ?_
                refine lv_icmp_ne (tgt := 85) F.1 F.2.1 dX6_toll_62 (by decide) (fun hc => ?_) (fun hc => ?_)
                · have h := h.2 hc
                  refine lv_iload_n F.1 F.2.1 dX6_toll_85 rfl (lv_at hl 2 rfl) ?_
                  refine lv_iload_n F.1 F.2.1 dX6_toll_86 rfl (lv_at hl 3 rfl) ?_
                  refine lv_icmp_eq (tgt := 99) F.1 F.2.1 dX6_toll_87 (by decide) (fun hc => ?_) (fun hc => ?_)
                  · have h := h.1 (hc)
                    refine lv_bipush (v := (-3 : Int32)) F.1 F.2.1 dX6_toll_99 (by decide) ?_
                    exact hret _ _ _ h dX6_toll_101
                  · have h := h.2 hc
                    refine lv_aload_n F.1 F.2.1 dX6_toll_90 rfl (lv_at hl 1 rfl) ?_
                    refine lv_iload_n F.1 F.2.1 dX6_toll_91 rfl (lv_at hl 2 rfl) ?_
                    refine lv_iload_n F.1 F.2.1 dX6_toll_92 rfl (lv_at hl 3 rfl) ?_
                    refine vp_callSi (va_Run.run (va_runV (As := [.int a1, .int a2]) (rest := []) F (mX6_shareRow (l := l) (D := D) (cI := cI) (cJ := cJ) (cZ := cZ) (ad := ad) h) (cwV 2 F.2.2.2.2 gX6_toll_X6_shareRow rfl rfl rfl kV_X6_shareRow ⟨Nat.le_of_ble_eq_true rfl, Nat.le_of_ble_eq_true rfl⟩) ⟨rp_blind, va_recv hz.1 hP (ci := 4) (q0 := 0) rfl rfl, rp_pre hz hP (.ref (ad 0) :: [.int a1, .int a2])⟩ rfl rfl hl.1 rfl (lv_room (Nat.le_of_ble_eq_true rfl)) dX6_toll_93 ⟨Nat.le_of_ble_eq_true rfl, Nat.le_of_ble_eq_true rfl⟩)) (fun r_18 h => ?_)
                    obtain ⟨hbr_18, h⟩ := h
                    refine lv_if_eq (tgt := 102) F.1 F.2.1 dX6_toll_96 (by decide) (fun hc => ?_) (fun hc => ?_)
                    · have h := h.1 (hc)
                      refine lv_aload_n F.1 F.2.1 dX6_toll_102 rfl (lv_at hl 1 rfl) ?_
                      refine vp_callSi (va_Run.run (va_runV (As := []) (rest := []) F (mX6_rest (l := l) (D := D) (cI := cI) (cJ := cJ) (cZ := cZ) (ad := ad) h) (cwV 0 F.2.2.2.2 gX6_toll_X6_rest rfl rfl rfl kV_X6_rest ⟨Nat.le_of_ble_eq_true rfl, Nat.le_of_ble_eq_true rfl⟩) ⟨rp_blind, va_recv hz.1 hP (ci := 4) (q0 := 0) rfl rfl, rp_pre hz hP (.ref (ad 0) :: [])⟩ rfl rfl hl.1 rfl (lv_room (Nat.le_of_ble_eq_true rfl)) dX6_toll_103 ⟨Nat.le_of_ble_eq_true rfl, Nat.le_of_ble_eq_true rfl⟩)) (fun r_19 h => ?_)
                      refine lv_aload_n F.1 F.2.1 dX6_toll_106 rfl (lv_at hl 1 rfl) ?_
                      refine lv_iload_n F.1 F.2.1 dX6_toll_107 rfl (lv_at hl 2 rfl) ?_
                      refine lv_iconst (v := (0 : Int32)) F.1 F.2.1 dX6_toll_108 (by decide) ?_
                      refine vp_callSi (va_Run.run (va_runV (As := [.int a1, .int (0 : Int32)]) (rest := [.int r_19]) F (mX6_changed (l := l) (D := D) (cI := cI) (cJ := cJ) (cZ := cZ) (ad := ad) h) (cwV 2 F.2.2.2.2 gX6_toll_X6_changed rfl rfl rfl kV_X6_changed ⟨Nat.le_of_ble_eq_true rfl, Nat.le_of_ble_eq_true rfl⟩) ⟨rp_blind, va_recv hz.1 hP (ci := 4) (q0 := 0) rfl rfl, rp_pre hz hP (.ref (ad 0) :: [.int a1, .int (0 : Int32)])⟩ rfl rfl hl.1 rfl (lv_room (Nat.le_of_ble_eq_true rfl)) dX6_toll_109 ⟨Nat.le_of_ble_eq_true rfl, Nat.le_of_ble_eq_true rfl⟩)) (fun r_20 h => ?_)
                      refine lv_isub F.1 F.2.1 dX6_toll_112 ?_
                      refine lv_aload_n F.1 F.2.1 dX6_toll_113 rfl (lv_at hl 1 rfl) ?_
                      refine lv_iload_n F.1 F.2.1 dX6_toll_114 rfl (lv_at hl 3 rfl) ?_
                      refine lv_iconst (v := (0 : Int32)) F.1 F.2.1 dX6_toll_115 (by decide) ?_
                      refine vp_callSi (va_Run.run (va_runV (As := [.int a2, .int (0 : Int32)]) (rest := [.int (r_19 - r_20)]) F (mX6_changed (l := l) (D := D) (cI := cI) (cJ := cJ) (cZ := cZ) (ad := ad) h) (cwV 2 F.2.2.2.2 gX6_toll_X6_changed rfl rfl rfl kV_X6_changed ⟨Nat.le_of_ble_eq_true rfl, Nat.le_of_ble_eq_true rfl⟩) ⟨rp_blind, va_recv hz.1 hP (ci := 4) (q0 := 0) rfl rfl, rp_pre hz hP (.ref (ad 0) :: [.int a2, .int (0 : Int32)])⟩ rfl rfl hl.1 rfl (lv_room (Nat.le_of_ble_eq_true rfl)) dX6_toll_116 ⟨Nat.le_of_ble_eq_true rfl, Nat.le_of_ble_eq_true rfl⟩)) (fun r_21 h => ?_)
                      refine lv_isub F.1 F.2.1 dX6_toll_119 ?_
                      refine lv_iload_n F.1 F.2.1 dX6_toll_120 rfl (lv_at hl 2 rfl) ?_
                      refine vp_callSi (va_Run.run (va_runS (As := [.int a1]) (rest := [.int ((r_19 - r_20) - r_21)]) F (mX6_tests (l := l) (D := D) (cI := cI) (cJ := cJ) (cZ := cZ) h) (va_cwS 1 F.2.2.2.2 gX6_toll_X6_tests rfl rfl rfl kS_X6_tests ⟨Nat.le_of_ble_eq_true rfl, Nat.le_of_ble_eq_true rfl⟩) ⟨rp_blind, rp_pre hz (hP.sub (ws' := []) [] rfl) [.int a1]⟩ rfl rfl hl.1 rfl (lv_room (Nat.le_of_ble_eq_true rfl)) dX6_toll_121 ⟨Nat.le_of_ble_eq_true rfl, Nat.le_of_ble_eq_true rfl⟩)) (fun r_22 h => ?_)
                      refine lv_iload_n F.1 F.2.1 dX6_toll_124 rfl (lv_at hl 3 rfl) ?_
                      refine vp_callSi (va_Run.run (va_runS (As := [.int a2]) (rest := [.int r_22, .int ((r_19 - r_20) - r_21)]) F (mX6_tests (l := l) (D := D) (cI := cI) (cJ := cJ) (cZ := cZ) h) (va_cwS 1 F.2.2.2.2 gX6_toll_X6_tests rfl rfl rfl kS_X6_tests ⟨Nat.le_of_ble_eq_true rfl, Nat.le_of_ble_eq_true rfl⟩) ⟨rp_blind, rp_pre hz (hP.sub (ws' := []) [] rfl) [.int a2]⟩ rfl rfl hl.1 rfl (lv_room (Nat.le_of_ble_eq_true rfl)) dX6_toll_125 ⟨Nat.le_of_ble_eq_true rfl, Nat.le_of_ble_eq_true rfl⟩)) (fun r_23 h => ?_)
                      refine lv_iadd F.1 F.2.1 dX6_toll_128 ?_
                      refine lv_iload_n F.1 F.2.1 dX6_toll_129 rfl (lv_at hl 4 rfl) ?_
                      refine vp_callSi (va_Run.run (va_runS (As := [.int ((r_19 - r_20) - r_21), .int (r_22 + r_23), .int a3]) (rest := []) F (mX6_tolled (l := l) (D := D) (cI := cI) (cJ := cJ) (cZ := cZ) h) (va_cwS 3 F.2.2.2.2 gX6_toll_X6_tolled rfl rfl rfl kS_X6_tolled ⟨Nat.le_of_ble_eq_true rfl, Nat.le_of_ble_eq_true rfl⟩) ⟨rp_blind, rp_pre hz (hP.sub (ws' := []) [] rfl) [.int ((r_19 - r_20) - r_21), .int (r_22 + r_23), .int a3]⟩ rfl rfl hl.1 rfl (lv_room (Nat.le_of_ble_eq_true rfl)) dX6_toll_130 ⟨Nat.le_of_ble_eq_true rfl, Nat.le_of_ble_eq_true rfl⟩)) (fun r_24 h => ?_)
                      exact hret _ _ _ h dX6_toll_133
                    · have h := h.2 hc
                      refine lv_bipush (v := (-3 : Int32)) F.1 F.2.1 dX6_toll_99 (by decide) ?_
                      exact hret _ _ _ h dX6_toll_101
                · have h := h.1 (hc)
                  refine lv_aload_n F.1 F.2.1 dX6_toll_65 rfl (lv_at hl 1 rfl) ?_
                  refine vp_callSi (va_Run.run (va_runV (As := []) (rest := []) F (mX6_rest (l := l) (D := D) (cI := cI) (cJ := cJ) (cZ := cZ) (ad := ad) h) (cwV 0 F.2.2.2.2 gX6_toll_X6_rest rfl rfl rfl kV_X6_rest ⟨Nat.le_of_ble_eq_true rfl, Nat.le_of_ble_eq_true rfl⟩) ⟨rp_blind, va_recv hz.1 hP (ci := 4) (q0 := 0) rfl rfl, rp_pre hz hP (.ref (ad 0) :: [])⟩ rfl rfl hl.1 rfl (lv_room (Nat.le_of_ble_eq_true rfl)) dX6_toll_66 ⟨Nat.le_of_ble_eq_true rfl, Nat.le_of_ble_eq_true rfl⟩)) (fun r_25 h => ?_)
                  refine lv_aload_n F.1 F.2.1 dX6_toll_69 rfl (lv_at hl 1 rfl) ?_
                  refine lv_iload_n F.1 F.2.1 dX6_toll_70 rfl (lv_at hl 2 rfl) ?_
                  refine lv_iconst (v := (0 : Int32)) F.1 F.2.1 dX6_toll_71 (by decide) ?_
                  refine vp_callSi (va_Run.run (va_runV (As := [.int a1, .int (0 : Int32)]) (rest := [.int r_25]) F (mX6_changed (l := l) (D := D) (cI := cI) (cJ := cJ) (cZ := cZ) (ad := ad) h) (cwV 2 F.2.2.2.2 gX6_toll_X6_changed rfl rfl rfl kV_X6_changed ⟨Nat.le_of_ble_eq_true rfl, Nat.le_of_ble_eq_true rfl⟩) ⟨rp_blind, va_recv hz.1 hP (ci := 4) (q0 := 0) rfl rfl, rp_pre hz hP (.ref (ad 0) :: [.int a1, .int (0 : Int32)])⟩ rfl rfl hl.1 rfl (lv_room (Nat.le_of_ble_eq_true rfl)) dX6_toll_72 ⟨Nat.le_of_ble_eq_true rfl, Nat.le_of_ble_eq_true rfl⟩)) (fun r_26 h => ?_)
                  refine lv_isub F.1 F.2.1 dX6_toll_75 ?_
                  refine lv_iload_n F.1 F.2.1 dX6_toll_76 rfl (lv_at hl 2 rfl) ?_
                  refine vp_callSi (va_Run.run (va_runS (As := [.int a1]) (rest := [.int (r_25 - r_26)]) F (mX6_tests (l := l) (D := D) (cI := cI) (cJ := cJ) (cZ := cZ) h) (va_cwS 1 F.2.2.2.2 gX6_toll_X6_tests rfl rfl rfl kS_X6_tests ⟨Nat.le_of_ble_eq_true rfl, Nat.le_of_ble_eq_true rfl⟩) ⟨rp_blind, rp_pre hz (hP.sub (ws' := []) [] rfl) [.int a1]⟩ rfl rfl hl.1 rfl (lv_room (Nat.le_of_ble_eq_true rfl)) dX6_toll_77 ⟨Nat.le_of_ble_eq_true rfl, Nat.le_of_ble_eq_true rfl⟩)) (fun r_27 h => ?_)
                  refine lv_iload_n F.1 F.2.1 dX6_toll_80 rfl (lv_at hl 4 rfl) ?_
                  refine vp_callSi (va_Run.run (va_runS (As := [.int (r_25 - r_26), .int r_27, .int a3]) (rest := []) F (mX6_tolled (l := l) (D := D) (cI := cI) (cJ := cJ) (cZ := cZ) h) (va_cwS 3 F.2.2.2.2 gX6_toll_X6_tolled rfl rfl rfl kS_X6_tolled ⟨Nat.le_of_ble_eq_true rfl, Nat.le_of_ble_eq_true rfl⟩) ⟨rp_blind, rp_pre hz (hP.sub (ws' := []) [] rfl) [.int (r_25 - r_26), .int r_27, .int a3]⟩ rfl rfl hl.1 rfl (lv_room (Nat.le_of_ble_eq_true rfl)) dX6_toll_81 ⟨Nat.le_of_ble_eq_true rfl, Nat.le_of_ble_eq_true rfl⟩)) (fun r_28 h => ?_)
                  exact hret _ _ _ h dX6_toll_84
              · have h := h.1 (hc)
                refine lv_iconst (v := (-1 : Int32)) F.1 F.2.1 dX6_toll_58 (by decide) ?_
                exact hret _ _ _ h dX6_toll_59
theorem mX6_toll {l : Launch} {D : va_G} {cI cJ cZ : ClassId} {ad : Nat → Nat} {S : S6} {a1 : Int32} {a2 : Int32} {a3 : Int32} {Q : Int32 → Prop} (h : wX6_toll S a1 a2 a3 Q) : Met l yX6_toll wsX6_toll rX6_toll (va_Pc [.ref (ad 0), .int a1, .int a2, .int a3] (rp D cI cJ cZ (w6 ad cI cZ S))) (vp_Si Q) 0 0 (fun _ => False) :=
  enter_i (by decide +kernel) rfl (Nat.le_of_ble_eq_true rfl) (fun p e s m args below meth c QQ F hz hret => bX6_toll F hz.1 hz.2 hret h)
abbrev rX6_first : Room := { frames := 2, cells := 0, slots := 0, locals := 45 }
theorem kV_X6_first : yX6_first.cls = RX6 ∧ yX6_first.cls ≠ "java/lang/invoke/MethodHandle" ∧ yX6_first.cls ≠ "java/lang/invoke/VarHandle" ∧ (parseMethodDescriptor yX6_first.desc).map (fun d => d.parameters.length) = some 2 := by decide +kernel
theorem vX6_first_X6 : ∀ w ∈ wsX60, w ∈ wsX6_first := fun _ h => List.mem_cons_of_mem _ (List.mem_append_right _ h)
theorem uX6_first_1 : Cond.fieldLink RX6 54 "SumMovedModel" "rows" "I" ∈ wsX6_first := List.mem_of_getElem? (i := 1) rfl
theorem uX6_first_2 : Cond.fieldLink RX6 13 "SumMovedModel" "day" "[I" ∈ wsX6_first := List.mem_of_getElem? (i := 2) rfl
theorem uX6_first_3 : Cond.fieldLink RX6 7 "SumMovedModel" "month" "[I" ∈ wsX6_first := List.mem_of_getElem? (i := 3) rfl
theorem uX6_first_4 : Cond.fieldLink RX6 16 "SumMovedModel" "top" "[I" ∈ wsX6_first := List.mem_of_getElem? (i := 4) rfl
set_option maxRecDepth 100000 in
theorem kX6_first_34 {p1 : Int32} {p2 : Int32} {p3 : Int32} {S : S6} (F : CallFix p m c cX6_first 7 s args wsX6_first RX6) (hz : gz D cI cJ cZ s) (hP : va_P D vwCl (w6 ad cI cZ S) s.heap) {K : Int32 × Int32 → Prop} (hK : ∀ x : Int32 × Int32, K x → match x with | (x4, x5) => ∀ ls : Array Slot, lv_has ls 7 [(0, .ref (ad 0)), (1, .int p1), (2, .int p2), (3, .int p3), (4, .int x4), (5, .int x5)] → W p l e rX6_first s m args below meth c s.heap [] 0 0 QQ (F0 m 120 ls [])) : ∀ (nn : Nat) (x : Int32 × Int32), iter (sX6_first_34 S p1 p2 p3 K) nn x → match x with | (x4, x5) => ∀ ls : Array Slot, lv_has ls 7 [(0, .ref (ad 0)), (1, .int p1), (2, .int p2), (3, .int p3), (4, .int x4), (5, .int x5)] → W p l e rX6_first s m args below meth c s.heap [] 0 0 QQ (F0 m 34 ls []) := by
  refine iter_walk ?_
  rintro again34 ⟨x4, x5⟩ ih34 h ls hl
  have hK34 := hK
  refine lv_iload F.1 F.2.1 dX6_first_34 (lv_at hl 5 rfl) ?_
  refine lv_aload_n F.1 F.2.1 dX6_first_36 rfl (lv_at hl 0 rfl) ?_
  refine va_get (D := D) (ci := 4) (v := .int S.1) (C := RX6) (T := TX6) (N := 19) F.1 F.2.1 F.2.2.2.2 vX6_first_X6 F.2.2.2.1 hz.1 hP 0 rfl rfl 0 (by decide) (F.2.2.2.2 _ uX6_first_1) (fun _ h9 => h9) rfl dX6_first_37 ?_
  refine lv_icmp_ge (tgt := 120) F.1 F.2.1 dX6_first_40 (by decide) (fun hc => ?_) (fun hc => ?_)
  · have h := h.1 (hc)
    exact hK34 (x4, x5) h ls (lv_sub hl [0, 1, 2, 3, 4, 5] rfl)
  · have h := h.2 hc
    refine lv_aload_n F.1 F.2.1 dX6_first_43 rfl (lv_at hl 0 rfl) ?_
    refine lv_iload F.1 F.2.1 dX6_first_44 (lv_at hl 5 rfl) ?_
    refine lv_iload_n F.1 F.2.1 dX6_first_46 rfl (lv_at hl 1 rfl) ?_
    refine vp_callSi (va_Run.run (va_runV (As := [.int x5, .int p1]) (rest := []) F (mX6_isIn (l := l) (D := D) (cI := cI) (cJ := cJ) (cZ := cZ) (ad := ad) h) (cwV 2 F.2.2.2.2 gX6_first_X6_isIn rfl rfl rfl kV_X6_isIn ⟨Nat.le_of_ble_eq_true rfl, Nat.le_of_ble_eq_true rfl⟩) ⟨rp_blind, va_recv hz.1 hP (ci := 4) (q0 := 0) rfl rfl, rp_pre hz hP (.ref (ad 0) :: [.int x5, .int p1])⟩ rfl rfl hl.1 rfl (lv_room (Nat.le_of_ble_eq_true rfl)) dX6_first_47 ⟨Nat.le_of_ble_eq_true rfl, Nat.le_of_ble_eq_true rfl⟩)) (fun r_3 h => ?_)
    obtain ⟨hbr_3, h⟩ := h
    refine lv_if_eq (tgt := 68) F.1 F.2.1 dX6_first_50 (by decide) (fun hc => ?_) (fun hc => ?_)
    · have h := h.1 (hc)
      refine lv_iconst (v := (0 : Int32)) F.1 F.2.1 dX6_first_68 (by decide) ?_
      refine lv_istore (lv' := [(6, .int (0 : Int32)), (0, .ref (ad 0)), (1, .int p1), (2, .int p2), (3, .int p3), (4, .int x4), (5, .int x5)]) F.1 F.2.1 dX6_first_69 hl (by decide) rfl (fun ls hl => ?_)
      refine lv_iload F.1 F.2.1 dX6_first_71 (lv_at hl 5 rfl) ?_
      refine lv_iload F.1 F.2.1 dX6_first_73 (lv_at hl 0 rfl) ?_
      refine lv_if_ne (tgt := 82) F.1 F.2.1 dX6_first_75 (by decide) (fun hc => ?_) (fun hc => ?_)
      · exact absurd hc (by decide)
      · refine lv_iconst (v := (0 : Int32)) F.1 F.2.1 dX6_first_78 (by decide) ?_
        refine lv_goto (tgt := 111) F.1 F.2.1 dX6_first_79 (by decide) ?_
        refine lv_iadd F.1 F.2.1 dX6_first_111 ?_
        refine lv_istore (lv' := [(4, .int (x4 + (0 : Int32))), (6, .int (0 : Int32)), (0, .ref (ad 0)), (1, .int p1), (2, .int p2), (3, .int p3), (5, .int x5)]) F.1 F.2.1 dX6_first_112 hl (by decide) rfl (fun ls hl => ?_)
        refine lv_iinc (v := x5 + 1) (lv' := [(5, .int (x5 + 1)), (4, .int (x4 + (0 : Int32))), (6, .int (0 : Int32)), (0, .ref (ad 0)), (1, .int p1), (2, .int p2), (3, .int p3)]) F.1 F.2.1 dX6_first_114 hl (k := 6) rfl rfl (by decide) rfl (fun ls hl => ?_)
        refine lv_goto (tgt := 34) F.1 F.2.1 dX6_first_117 (by decide) ?_
        exact ih34 (x4 + (0 : Int32), x5 + 1) h ls (lv_sub hl [3, 4, 5, 6, 1, 0] rfl)
    · have h := h.2 hc
      refine lv_aload_n F.1 F.2.1 dX6_first_53 rfl (lv_at hl 0 rfl) ?_
      refine va_get (D := D) (ci := 4) (v := .ref (ad 2)) (C := RX6) (T := TX6) (N := 19) F.1 F.2.1 F.2.2.2.2 vX6_first_X6 F.2.2.2.1 hz.1 hP 0 rfl rfl 2 (by decide) (F.2.2.2.2 _ uX6_first_2) (fun _ h9 => h9) rfl dX6_first_54 ?_
      refine lv_iload F.1 F.2.1 dX6_first_57 (lv_at hl 5 rfl) ?_
      refine va_iald F.1 F.2.1 hz.1 hP 2 0 rfl rfl h.1 dX6_first_59 ?_
      have h := h.2
      refine lv_iload_n F.1 F.2.1 dX6_first_60 rfl (lv_at hl 3 rfl) ?_
      refine lv_icmp_gt (tgt := 68) F.1 F.2.1 dX6_first_61 (by decide) (fun hc => ?_) (fun hc => ?_)
      · have h := h.1 (hc)
        refine lv_iconst (v := (0 : Int32)) F.1 F.2.1 dX6_first_68 (by decide) ?_
        refine lv_istore (lv' := [(6, .int (0 : Int32)), (0, .ref (ad 0)), (1, .int p1), (2, .int p2), (3, .int p3), (4, .int x4), (5, .int x5)]) F.1 F.2.1 dX6_first_69 hl (by decide) rfl (fun ls hl => ?_)
        refine lv_iload F.1 F.2.1 dX6_first_71 (lv_at hl 5 rfl) ?_
        refine lv_iload F.1 F.2.1 dX6_first_73 (lv_at hl 0 rfl) ?_
        refine lv_if_ne (tgt := 82) F.1 F.2.1 dX6_first_75 (by decide) (fun hc => ?_) (fun hc => ?_)
        · exact absurd hc (by decide)
        · refine lv_iconst (v := (0 : Int32)) F.1 F.2.1 dX6_first_78 (by decide) ?_
          refine lv_goto (tgt := 111) F.1 F.2.1 dX6_first_79 (by decide) ?_
          refine lv_iadd F.1 F.2.1 dX6_first_111 ?_
          refine lv_istore (lv' := [(4, .int (x4 + (0 : Int32))), (6, .int (0 : Int32)), (0, .ref (ad 0)), (1, .int p1), (2, .int p2), (3, .int p3), (5, .int x5)]) F.1 F.2.1 dX6_first_112 hl (by decide) rfl (fun ls hl => ?_)
          refine lv_iinc (v := x5 + 1) (lv' := [(5, .int (x5 + 1)), (4, .int (x4 + (0 : Int32))), (6, .int (0 : Int32)), (0, .ref (ad 0)), (1, .int p1), (2, .int p2), (3, .int p3)]) F.1 F.2.1 dX6_first_114 hl (k := 6) rfl rfl (by decide) rfl (fun ls hl => ?_)
          refine lv_goto (tgt := 34) F.1 F.2.1 dX6_first_117 (by decide) ?_
          exact ih34 (x4 + (0 : Int32), x5 + 1) h ls (lv_sub hl [3, 4, 5, 6, 1, 0] rfl)
      · have h := h.2 hc
        refine lv_iconst (v := (1 : Int32)) F.1 F.2.1 dX6_first_64 (by decide) ?_
        refine lv_goto (tgt := 69) F.1 F.2.1 dX6_first_65 (by decide) ?_
        refine lv_istore (lv' := [(6, .int (1 : Int32)), (0, .ref (ad 0)), (1, .int p1), (2, .int p2), (3, .int p3), (4, .int x4), (5, .int x5)]) F.1 F.2.1 dX6_first_69 hl (by decide) rfl (fun ls hl => ?_)
        refine lv_iload F.1 F.2.1 dX6_first_71 (lv_at hl 5 rfl) ?_
        refine lv_iload F.1 F.2.1 dX6_first_73 (lv_at hl 0 rfl) ?_
        refine lv_if_ne (tgt := 82) F.1 F.2.1 dX6_first_75 (by decide) (fun hc => ?_) (fun hc => ?_)
        · refine lv_aload_n F.1 F.2.1 dX6_first_82 rfl (lv_at hl 1 rfl) ?_
          refine va_get (D := D) (ci := 4) (v := .ref (ad 1)) (C := RX6) (T := TX6) (N := 19) F.1 F.2.1 F.2.2.2.2 vX6_first_X6 F.2.2.2.1 hz.1 hP 0 rfl rfl 1 (by decide) (F.2.2.2.2 _ uX6_first_3) (fun _ h9 => h9) rfl dX6_first_83 ?_
          refine lv_iload F.1 F.2.1 dX6_first_86 (lv_at hl 6 rfl) ?_
          refine va_iald F.1 F.2.1 hz.1 hP 1 0 rfl rfl h.1 dX6_first_88 ?_
          have h := h.2
          refine lv_iconst (v := (1 : Int32)) F.1 F.2.1 dX6_first_89 (by decide) ?_
          refine lv_icmp_ne (tgt := 103) F.1 F.2.1 dX6_first_90 (by decide) (fun hc => ?_) (fun hc => ?_)
          · have h := h.2 hc
            refine lv_aload_n F.1 F.2.1 dX6_first_103 rfl (lv_at hl 1 rfl) ?_
            refine va_get (D := D) (ci := 4) (v := .ref (ad 3)) (C := RX6) (T := TX6) (N := 19) F.1 F.2.1 F.2.2.2.2 vX6_first_X6 F.2.2.2.1 hz.1 hP 0 rfl rfl 3 (by decide) (F.2.2.2.2 _ uX6_first_4) (fun _ h9 => h9) rfl dX6_first_104 ?_
            refine lv_iload F.1 F.2.1 dX6_first_107 (lv_at hl 6 rfl) ?_
            refine va_iald F.1 F.2.1 hz.1 hP 3 0 rfl rfl h.1 dX6_first_109 ?_
            have h := h.2
            refine lv_ineg F.1 F.2.1 dX6_first_110 ?_
            refine lv_iadd F.1 F.2.1 dX6_first_111 ?_
            refine lv_topi (fun y_4 ey_4 => ?_)
            have h := h y_4 ey_4
            refine lv_istore (lv' := [(4, .int y_4), (6, .int (1 : Int32)), (0, .ref (ad 0)), (1, .int p1), (2, .int p2), (3, .int p3), (5, .int x5)]) F.1 F.2.1 dX6_first_112 hl (by decide) rfl (fun ls hl => ?_)
            refine lv_iinc (v := x5 + 1) (lv' := [(5, .int (x5 + 1)), (4, .int y_4), (6, .int (1 : Int32)), (0, .ref (ad 0)), (1, .int p1), (2, .int p2), (3, .int p3)]) F.1 F.2.1 dX6_first_114 hl (k := 6) rfl rfl (by decide) rfl (fun ls hl => ?_)
            refine lv_goto (tgt := 34) F.1 F.2.1 dX6_first_117 (by decide) ?_
            exact ih34 (y_4, x5 + 1) h ls (lv_sub hl [3, 4, 5, 6, 1, 0] rfl)
          · have h := h.1 (hc)
            refine lv_aload_n F.1 F.2.1 dX6_first_93 rfl (lv_at hl 1 rfl) ?_
            refine va_get (D := D) (ci := 4) (v := .ref (ad 3)) (C := RX6) (T := TX6) (N := 19) F.1 F.2.1 F.2.2.2.2 vX6_first_X6 F.2.2.2.1 hz.1 hP 0 rfl rfl 3 (by decide) (F.2.2.2.2 _ uX6_first_4) (fun _ h9 => h9) rfl dX6_first_94 ?_
            refine lv_iload F.1 F.2.1 dX6_first_97 (lv_at hl 6 rfl) ?_
            refine va_iald F.1 F.2.1 hz.1 hP 3 0 rfl rfl h.1 dX6_first_99 ?_
            have h := h.2
            refine lv_goto (tgt := 111) F.1 F.2.1 dX6_first_100 (by decide) ?_
            refine lv_iadd F.1 F.2.1 dX6_first_111 ?_
            refine lv_topi (fun y_5 ey_5 => ?_)
            have h := h y_5 ey_5
            refine lv_istore (lv' := [(4, .int y_5), (6, .int (1 : Int32)), (0, .ref (ad 0)), (1, .int p1), (2, .int p2), (3, .int p3), (5, .int x5)]) F.1 F.2.1 dX6_first_112 hl (by decide) rfl (fun ls hl => ?_)
            refine lv_iinc (v := x5 + 1) (lv' := [(5, .int (x5 + 1)), (4, .int y_5), (6, .int (1 : Int32)), (0, .ref (ad 0)), (1, .int p1), (2, .int p2), (3, .int p3)]) F.1 F.2.1 dX6_first_114 hl (k := 6) rfl rfl (by decide) rfl (fun ls hl => ?_)
            refine lv_goto (tgt := 34) F.1 F.2.1 dX6_first_117 (by decide) ?_
            exact ih34 (y_5, x5 + 1) h ls (lv_sub hl [3, 4, 5, 6, 1, 0] rfl)
        · exact absurd hc (by decide)
set_option maxRecDepth 100000 in
theorem kX6_first_22 {p1 : Int32} {p2 : Int32} {S : S6} {Q : Int32 → Prop} (F : CallFix p m c cX6_first 7 s args wsX6_first RX6) (hz : gz D cI cJ cZ s) (hP : va_P D vwCl (w6 ad cI cZ S) s.heap) (hret : ∀ (v : Int32) (pc : Nat) (ls : Array Slot), Q v → decode cX6_first pc = .ok (.ireturn, 1) → W p l e rX6_first s m args below meth c s.heap [] 0 0 QQ (F0 m pc ls [.int v])) {K : Int32 → Prop} (hK : ∀ x3 : Int32, K x3 → ∀ ls : Array Slot, lv_has ls 7 [(0, .ref (ad 0)), (1, .int p1), (2, .int p2), (3, .int x3)] → W p l e rX6_first s m args below meth c s.heap [] 0 0 QQ (F0 m 141 ls [])) : ∀ (nn : Nat) (x3 : Int32), iter (sX6_first_22 S p1 p2 Q K) nn x3 → ∀ ls : Array Slot, lv_has ls 7 [(0, .ref (ad 0)), (1, .int p1), (2, .int p2), (3, .int x3)] → W p l e rX6_first s m args below meth c s.heap [] 0 0 QQ (F0 m 22 ls []) := by
  refine iter_walk ?_
  rintro again22 x3 ih22 h ls hl
  have hK22 := hK
  refine lv_iload_n F.1 F.2.1 dX6_first_22 rfl (lv_at hl 3 rfl) ?_
  refine lv_bipush (v := (30 : Int32)) F.1 F.2.1 dX6_first_23 (by decide) ?_
  refine lv_icmp_gt (tgt := 141) F.1 F.2.1 dX6_first_25 (by decide) (fun hc => ?_) (fun hc => ?_)
  · have h := h.1 (hc)
    exact hK22 x3 h ls (lv_sub hl [0, 1, 2, 3] rfl)
  · have h := h.2 hc
    refine lv_iconst (v := (0 : Int32)) F.1 F.2.1 dX6_first_28 (by decide) ?_
    refine lv_istore (lv' := [(4, .int (0 : Int32)), (0, .ref (ad 0)), (1, .int p1), (2, .int p2), (3, .int x3)]) F.1 F.2.1 dX6_first_29 hl (by decide) rfl (fun ls hl => ?_)
    refine lv_iconst (v := (0 : Int32)) F.1 F.2.1 dX6_first_31 (by decide) ?_
    refine lv_istore (lv' := [(5, .int (0 : Int32)), (4, .int (0 : Int32)), (0, .ref (ad 0)), (1, .int p1), (2, .int p2), (3, .int x3)]) F.1 F.2.1 dX6_first_32 hl (by decide) rfl (fun ls hl => ?_)
    obtain ⟨nn, h⟩ := h
    refine kX6_first_34 F hz hP (fun ⟨x4, x5⟩ h ls hl => ?_) nn _ h ls (lv_sub hl [2, 3, 4, 5, 1, 0] rfl)
    refine lv_iload F.1 F.2.1 dX6_first_120 (lv_at hl 4 rfl) ?_
    refine lv_iload_n F.1 F.2.1 dX6_first_122 rfl (lv_at hl 2 rfl) ?_
    refine lv_icmp_gt (tgt := 133) F.1 F.2.1 dX6_first_123 (by decide) (fun hc => ?_) (fun hc => ?_)
    · have h := h.1 (hc)
      refine lv_iload_n F.1 F.2.1 dX6_first_133 rfl (lv_at hl 3 rfl) ?_
      exact hret _ _ _ h dX6_first_134
    · have h := h.2 hc
      refine lv_iload F.1 F.2.1 dX6_first_126 (lv_at hl 4 rfl) ?_
      refine lv_ineg F.1 F.2.1 dX6_first_128 ?_
      refine lv_iload_n F.1 F.2.1 dX6_first_129 rfl (lv_at hl 2 rfl) ?_
      refine lv_icmp_le (tgt := 135) F.1 F.2.1 dX6_first_130 (by decide) (fun hc => ?_) (fun hc => ?_)
      · have h := h.1 (hc)
        refine lv_iinc (v := x3 + 1) (lv' := [(3, .int (x3 + 1)), (0, .ref (ad 0)), (1, .int p1), (2, .int p2), (4, .int x4), (5, .int x5)]) F.1 F.2.1 dX6_first_135 hl (k := 3) rfl rfl (by decide) rfl (fun ls hl => ?_)
        refine lv_goto (tgt := 22) F.1 F.2.1 dX6_first_138 (by decide) ?_
        exact ih22 (x3 + 1) h ls (lv_sub hl [1, 2, 3, 0] rfl)
      · have h := h.2 hc
        refine lv_iload_n F.1 F.2.1 dX6_first_133 rfl (lv_at hl 3 rfl) ?_
        exact hret _ _ _ h dX6_first_134
set_option maxRecDepth 100000 in
theorem bX6_first {a1 : Int32} {a2 : Int32} {S : S6} {Q : Int32 → Prop} (F : CallFix p m c cX6_first 7 s args wsX6_first RX6) (hz : gz D cI cJ cZ s) (hP : va_P D vwCl (w6 ad cI cZ S) s.heap) (hret : ∀ (v : Int32) (pc : Nat) (ls : Array Slot), Q v → decode cX6_first pc = .ok (.ireturn, 1) → W p l e rX6_first s m args below meth c s.heap [] 0 0 QQ (F0 m pc ls [.int v])) (h : wX6_first S a1 a2 Q) : ∀ ls : Array Slot, lv_has ls 7 [(0, .ref (ad 0)), (1, .int a1), (2, .int a2)] → W p l e rX6_first s m args below meth c s.heap [] 0 0 QQ (F0 m 0 ls []) := by
  intro ls hl
  refine lv_iload_n F.1 F.2.1 dX6_first_0 rfl (lv_at hl 1 rfl) ?_
  refine vp_callSi (va_Run.run (va_runS (As := [.int a1]) (rest := []) F (mX6_isHeap (l := l) (D := D) (cI := cI) (cJ := cJ) (cZ := cZ) h) (va_cwS 1 F.2.2.2.2 gX6_first_X6_isHeap rfl rfl rfl kS_X6_isHeap ⟨Nat.le_of_ble_eq_true rfl, Nat.le_of_ble_eq_true rfl⟩) ⟨rp_blind, rp_pre hz (hP.sub (ws' := []) [] rfl) [.int a1]⟩ rfl rfl hl.1 rfl (lv_room (Nat.le_of_ble_eq_true rfl)) dX6_first_1 ⟨Nat.le_of_ble_eq_true rfl, Nat.le_of_ble_eq_true rfl⟩)) (fun r_1 h => ?_)
  obtain ⟨hbr_1, h⟩ := h
  refine lv_if_eq (tgt := 18) F.1 F.2.1 dX6_first_4 (by decide) (fun hc => ?_) (fun hc => ?_)
  · have h := h.1 (hc)
    refine lv_iconst (v := (-1 : Int32)) F.1 F.2.1 dX6_first_18 (by decide) ?_
    exact hret _ _ _ h dX6_first_19
  · have h := h.2 hc
    refine lv_iload_n F.1 F.2.1 dX6_first_7 rfl (lv_at hl 2 rfl) ?_
    refine lv_iconst (v := (0 : Int32)) F.1 F.2.1 dX6_first_8 (by decide) ?_
    refine lv_sipush (v := (9999 : Int32)) F.1 F.2.1 dX6_first_9 (by decide) ?_
    refine vp_callSi (va_Run.run (va_runS (As := [.int a2, .int (0 : Int32), .int (9999 : Int32)]) (rest := []) F (mX6_in (l := l) (D := D) (cI := cI) (cJ := cJ) (cZ := cZ) h) (va_cwS 3 F.2.2.2.2 gX6_first_X6_in rfl rfl rfl kS_X6_in ⟨Nat.le_of_ble_eq_true rfl, Nat.le_of_ble_eq_true rfl⟩) ⟨rp_blind, rp_pre hz (hP.sub (ws' := []) [] rfl) [.int a2, .int (0 : Int32), .int (9999 : Int32)]⟩ rfl rfl hl.1 rfl (lv_room (Nat.le_of_ble_eq_true rfl)) dX6_first_12 ⟨Nat.le_of_ble_eq_true rfl, Nat.le_of_ble_eq_true rfl⟩)) (fun r_2 h => ?_)
    obtain ⟨hbr_2, h⟩ := h
    refine lv_if_ne (tgt := 20) F.1 F.2.1 dX6_first_15 (by decide) (fun hc => ?_) (fun hc => ?_)
    · have h := h.2 hc
      refine lv_iconst (v := (0 : Int32)) F.1 F.2.1 dX6_first_20 (by decide) ?_
      refine lv_istore_n (lv' := [(3, .int (0 : Int32)), (0, .ref (ad 0)), (1, .int a1), (2, .int a2)]) F.1 F.2.1 dX6_first_21 rfl hl (by decide) rfl (fun ls hl => ?_)
      obtain ⟨nn, h⟩ := h
      refine kX6_first_22 F hz hP hret (fun x3 h ls hl => ?_) nn _ h ls (lv_sub hl [1, 2, 3, 0] rfl)
      refine lv_bipush (v := (31 : Int32)) F.1 F.2.1 dX6_first_141 (by decide) ?_
      exact hret _ _ _ h dX6_first_143
    · have h := h.1 (hc)
      refine lv_iconst (v := (-1 : Int32)) F.1 F.2.1 dX6_first_18 (by decide) ?_
      exact hret _ _ _ h dX6_first_19
theorem mX6_first {l : Launch} {D : va_G} {cI cJ cZ : ClassId} {ad : Nat → Nat} {S : S6} {a1 : Int32} {a2 : Int32} {Q : Int32 → Prop} (h : wX6_first S a1 a2 Q) : Met l yX6_first wsX6_first rX6_first (va_Pc [.ref (ad 0), .int a1, .int a2] (rp D cI cJ cZ (w6 ad cI cZ S))) (vp_Si Q) 0 0 (fun _ => False) :=
  enter_i (by decide +kernel) rfl (Nat.le_of_ble_eq_true rfl) (fun p e s m args below meth c QQ F hz hret => bX6_first F hz.1 hz.2 hret h)
abbrev rX6_count : Room := { frames := 4, cells := 0, slots := 0, locals := 88 }
theorem kV_X6_count : yX6_count.cls = RX6 ∧ yX6_count.cls ≠ "java/lang/invoke/MethodHandle" ∧ yX6_count.cls ≠ "java/lang/invoke/VarHandle" ∧ (parseMethodDescriptor yX6_count.desc).map (fun d => d.parameters.length) = some 1 := by decide +kernel
theorem vX6_count_X6 : ∀ w ∈ wsX60, w ∈ wsX6_count := fun _ h => List.mem_cons_of_mem _ (List.mem_append_right _ h)
theorem uX6_count_1 : Cond.fieldLink RX6 54 "SumMovedModel" "rows" "I" ∈ wsX6_count := List.mem_of_getElem? (i := 1) rfl
theorem uX6_count_2 : Cond.fieldLink RX6 28 "SumMovedModel" "isStruck" "[Z" ∈ wsX6_count := List.mem_of_getElem? (i := 2) rfl
set_option maxRecDepth 100000 in
theorem kX6_count_35 {S : S6} (F : CallFix p m c cX6_count 4 s args wsX6_count RX6) (hz : gz D cI cJ cZ s) (hP : va_P D vwCl (w6 ad cI cZ S) s.heap) {K : Int32 × Int32 → Prop} (hK : ∀ x : Int32 × Int32, K x → match x with | (x2, x3) => ∀ ls : Array Slot, lv_has ls 4 [(0, .ref (ad 0)), (2, .int x2), (3, .int x3)] → W p l e rX6_count s m args below meth c s.heap [] 0 0 QQ (F0 m 66 ls [])) : ∀ (nn : Nat) (x : Int32 × Int32), iter (sX6_count_35 S K) nn x → match x with | (x2, x3) => ∀ ls : Array Slot, lv_has ls 4 [(0, .ref (ad 0)), (2, .int x2), (3, .int x3)] → W p l e rX6_count s m args below meth c s.heap [] 0 0 QQ (F0 m 35 ls []) := by
  refine iter_walk ?_
  rintro again35 ⟨x2, x3⟩ ih35 h ls hl
  have hK35 := hK
  refine lv_iload_n F.1 F.2.1 dX6_count_35 rfl (lv_at hl 2 rfl) ?_
  refine lv_aload_n F.1 F.2.1 dX6_count_36 rfl (lv_at hl 0 rfl) ?_
  refine va_get (D := D) (ci := 4) (v := .int S.1) (C := RX6) (T := TX6) (N := 19) F.1 F.2.1 F.2.2.2.2 vX6_count_X6 F.2.2.2.1 hz.1 hP 0 rfl rfl 0 (by decide) (F.2.2.2.2 _ uX6_count_1) (fun _ h9 => h9) rfl dX6_count_37 ?_
  refine lv_icmp_ge (tgt := 66) F.1 F.2.1 dX6_count_40 (by decide) (fun hc => ?_) (fun hc => ?_)
  · have h := h.1 (hc)
    exact hK35 (x2, x3) h ls (lv_sub hl [0, 1, 2] rfl)
  · have h := h.2 hc
    refine lv_iload_n F.1 F.2.1 dX6_count_43 rfl (lv_at hl 1 rfl) ?_
    refine lv_aload_n F.1 F.2.1 dX6_count_44 rfl (lv_at hl 0 rfl) ?_
    refine va_get (D := D) (ci := 4) (v := .ref (ad 7)) (C := RX6) (T := TX6) (N := 19) F.1 F.2.1 F.2.2.2.2 vX6_count_X6 F.2.2.2.1 hz.1 hP 0 rfl rfl 7 (by decide) (F.2.2.2.2 _ uX6_count_2) (fun _ h9 => h9) rfl dX6_count_45 ?_
    refine lv_iload_n F.1 F.2.1 dX6_count_48 rfl (lv_at hl 2 rfl) ?_
    refine va_zald F.1 F.2.1 hz.1 hP 7 2 rfl rfl h.1 dX6_count_49 ?_
    have h := h.2
    refine lv_if_eq (tgt := 57) F.1 F.2.1 dX6_count_50 (by decide) (fun hc => ?_) (fun hc => ?_)
    · have h := h.1 (hc)
      refine lv_iconst (v := (0 : Int32)) F.1 F.2.1 dX6_count_57 (by decide) ?_
      refine lv_iadd F.1 F.2.1 dX6_count_58 ?_
      refine lv_istore_n (lv' := [(2, .int (x2 + (0 : Int32))), (0, .ref (ad 0)), (3, .int x3)]) F.1 F.2.1 dX6_count_59 rfl hl (by decide) rfl (fun ls hl => ?_)
      refine lv_iinc (v := x3 + 1) (lv' := [(3, .int (x3 + 1)), (2, .int (x2 + (0 : Int32))), (0, .ref (ad 0))]) F.1 F.2.1 dX6_count_60 hl (k := 2) rfl rfl (by decide) rfl (fun ls hl => ?_)
      refine lv_goto (tgt := 35) F.1 F.2.1 dX6_count_63 (by decide) ?_
      exact ih35 (x2 + (0 : Int32), x3 + 1) h ls (lv_sub hl [2, 1, 0] rfl)
    · have h := h.2 hc
      refine lv_iconst (v := (1 : Int32)) F.1 F.2.1 dX6_count_53 (by decide) ?_
      refine lv_goto (tgt := 58) F.1 F.2.1 dX6_count_54 (by decide) ?_
      refine lv_iadd F.1 F.2.1 dX6_count_58 ?_
      refine lv_istore_n (lv' := [(2, .int (x2 + (1 : Int32))), (0, .ref (ad 0)), (3, .int x3)]) F.1 F.2.1 dX6_count_59 rfl hl (by decide) rfl (fun ls hl => ?_)
      refine lv_iinc (v := x3 + 1) (lv' := [(3, .int (x3 + 1)), (2, .int (x2 + (1 : Int32))), (0, .ref (ad 0))]) F.1 F.2.1 dX6_count_60 hl (k := 2) rfl rfl (by decide) rfl (fun ls hl => ?_)
      refine lv_goto (tgt := 35) F.1 F.2.1 dX6_count_63 (by decide) ?_
      exact ih35 (x2 + (1 : Int32), x3 + 1) h ls (lv_sub hl [2, 1, 0] rfl)
set_option maxRecDepth 100000 in
theorem kX6_count_70 {S : S6} (F : CallFix p m c cX6_count 4 s args wsX6_count RX6) (hz : gz D cI cJ cZ s) (hP : va_P D vwCl (w6 ad cI cZ S) s.heap) {K : Int32 × Int32 → Prop} (hK : ∀ x : Int32 × Int32, K x → match x with | (x2, x3) => ∀ ls : Array Slot, lv_has ls 4 [(0, .ref (ad 0)), (2, .int x2), (3, .int x3)] → W p l e rX6_count s m args below meth c s.heap [] 0 0 QQ (F0 m 99 ls [])) : ∀ (nn : Nat) (x : Int32 × Int32), iter (sX6_count_70 S K) nn x → match x with | (x2, x3) => ∀ ls : Array Slot, lv_has ls 4 [(0, .ref (ad 0)), (2, .int x2), (3, .int x3)] → W p l e rX6_count s m args below meth c s.heap [] 0 0 QQ (F0 m 70 ls []) := by
  refine iter_walk ?_
  rintro again70 ⟨x2, x3⟩ ih70 h ls hl
  have hK70 := hK
  refine lv_iload_n F.1 F.2.1 dX6_count_70 rfl (lv_at hl 2 rfl) ?_
  refine lv_sipush (v := (729 : Int32)) F.1 F.2.1 dX6_count_71 (by decide) ?_
  refine lv_icmp_ge (tgt := 99) F.1 F.2.1 dX6_count_74 (by decide) (fun hc => ?_) (fun hc => ?_)
  · have h := h.1 (hc)
    exact hK70 (x2, x3) h ls (lv_sub hl [0, 1, 2] rfl)
  · have h := h.2 hc
    refine lv_iload_n F.1 F.2.1 dX6_count_77 rfl (lv_at hl 1 rfl) ?_
    refine lv_aload_n F.1 F.2.1 dX6_count_78 rfl (lv_at hl 0 rfl) ?_
    refine lv_iload_n F.1 F.2.1 dX6_count_79 rfl (lv_at hl 2 rfl) ?_
    refine vp_callSi (va_Run.run (va_runV (As := [.int x3]) (rest := [.int x2]) F (mX6_mayTell (l := l) (D := D) (cI := cI) (cJ := cJ) (cZ := cZ) (ad := ad) h) (cwV 1 F.2.2.2.2 gX6_count_X6_mayTell rfl rfl rfl kV_X6_mayTell ⟨Nat.le_of_ble_eq_true rfl, Nat.le_of_ble_eq_true rfl⟩) ⟨rp_blind, va_recv hz.1 hP (ci := 4) (q0 := 0) rfl rfl, rp_pre hz hP (.ref (ad 0) :: [.int x3])⟩ rfl rfl hl.1 rfl (lv_room (Nat.le_of_ble_eq_true rfl)) dX6_count_80 ⟨Nat.le_of_ble_eq_true rfl, Nat.le_of_ble_eq_true rfl⟩)) (fun r_1 h => ?_)
    obtain ⟨hbr_1, h⟩ := h
    refine lv_if_eq (tgt := 90) F.1 F.2.1 dX6_count_83 (by decide) (fun hc => ?_) (fun hc => ?_)
    · have h := h.1 (hc)
      refine lv_iconst (v := (0 : Int32)) F.1 F.2.1 dX6_count_90 (by decide) ?_
      refine lv_iadd F.1 F.2.1 dX6_count_91 ?_
      refine lv_istore_n (lv' := [(2, .int (x2 + (0 : Int32))), (0, .ref (ad 0)), (3, .int x3)]) F.1 F.2.1 dX6_count_92 rfl hl (by decide) rfl (fun ls hl => ?_)
      refine lv_iinc (v := x3 + 1) (lv' := [(3, .int (x3 + 1)), (2, .int (x2 + (0 : Int32))), (0, .ref (ad 0))]) F.1 F.2.1 dX6_count_93 hl (k := 2) rfl rfl (by decide) rfl (fun ls hl => ?_)
      refine lv_goto (tgt := 70) F.1 F.2.1 dX6_count_96 (by decide) ?_
      exact ih70 (x2 + (0 : Int32), x3 + 1) h ls (lv_sub hl [2, 1, 0] rfl)
    · have h := h.2 hc
      refine lv_iconst (v := (1 : Int32)) F.1 F.2.1 dX6_count_86 (by decide) ?_
      refine lv_goto (tgt := 91) F.1 F.2.1 dX6_count_87 (by decide) ?_
      refine lv_iadd F.1 F.2.1 dX6_count_91 ?_
      refine lv_istore_n (lv' := [(2, .int (x2 + (1 : Int32))), (0, .ref (ad 0)), (3, .int x3)]) F.1 F.2.1 dX6_count_92 rfl hl (by decide) rfl (fun ls hl => ?_)
      refine lv_iinc (v := x3 + 1) (lv' := [(3, .int (x3 + 1)), (2, .int (x2 + (1 : Int32))), (0, .ref (ad 0))]) F.1 F.2.1 dX6_count_93 hl (k := 2) rfl rfl (by decide) rfl (fun ls hl => ?_)
      refine lv_goto (tgt := 70) F.1 F.2.1 dX6_count_96 (by decide) ?_
      exact ih70 (x2 + (1 : Int32), x3 + 1) h ls (lv_sub hl [2, 1, 0] rfl)
set_option maxRecDepth 100000 in
theorem bX6_count {a1 : Int32} {S : S6} {Q : Int32 → Prop} (F : CallFix p m c cX6_count 4 s args wsX6_count RX6) (hz : gz D cI cJ cZ s) (hP : va_P D vwCl (w6 ad cI cZ S) s.heap) (hret : ∀ (v : Int32) (pc : Nat) (ls : Array Slot), Q v → decode cX6_count pc = .ok (.ireturn, 1) → W p l e rX6_count s m args below meth c s.heap [] 0 0 QQ (F0 m pc ls [.int v])) (h : wX6_count S a1 Q) : ∀ ls : Array Slot, lv_has ls 4 [(0, .ref (ad 0)), (1, .int a1)] → W p l e rX6_count s m args below meth c s.heap [] 0 0 QQ (F0 m 0 ls []) := by
  intro ls hl
  refine lv_iconst (v := (0 : Int32)) F.1 F.2.1 dX6_count_0 (by decide) ?_
  refine lv_istore_n (lv' := [(2, .int (0 : Int32)), (0, .ref (ad 0)), (1, .int a1)]) F.1 F.2.1 dX6_count_1 rfl hl (by decide) rfl (fun ls hl => ?_)
  refine lv_iload_n F.1 F.2.1 dX6_count_2 rfl (lv_at hl 2 rfl) ?_
  by_cases hc0 : a1 = 0
  · have h := h.1 hc0
    refine lv_tableIn (off := 25) (tgt := 28) F.1 F.2.1 dX6_count_3 (by rw [hc0]; decide) (by rw [hc0]; decide) (by rw [hc0]; rfl) (by decide) ?_
    refine lv_aload_n F.1 F.2.1 dX6_count_28 rfl (lv_at hl 1 rfl) ?_
    refine va_get (D := D) (ci := 4) (v := .int S.1) (C := RX6) (T := TX6) (N := 19) F.1 F.2.1 F.2.2.2.2 vX6_count_X6 F.2.2.2.1 hz.1 hP 0 rfl rfl 0 (by decide) (F.2.2.2.2 _ uX6_count_1) (fun _ h9 => h9) rfl dX6_count_29 ?_
    exact hret _ _ _ h dX6_count_32
  · have h := h.2 hc0
    by_cases hc1 : a1 = 1
    · have h := h.1 hc1
      refine lv_tableIn (off := 30) (tgt := 33) F.1 F.2.1 dX6_count_3 (by rw [hc1]; decide) (by rw [hc1]; decide) (by rw [hc1]; rfl) (by decide) ?_
      refine lv_iconst (v := (0 : Int32)) F.1 F.2.1 dX6_count_33 (by decide) ?_
      refine lv_istore_n (lv' := [(3, .int (0 : Int32)), (2, .int (0 : Int32)), (0, .ref (ad 0)), (1, .int a1)]) F.1 F.2.1 dX6_count_34 rfl hl (by decide) rfl (fun ls hl => ?_)
      obtain ⟨nn, h⟩ := h
      refine kX6_count_35 F hz hP (fun ⟨x2, x3⟩ h ls hl => ?_) nn _ h ls (lv_sub hl [2, 1, 0] rfl)
      refine lv_iload_n F.1 F.2.1 dX6_count_66 rfl (lv_at hl 1 rfl) ?_
      exact hret _ _ _ h dX6_count_67
    · have h := h.2 hc1
      by_cases hc2 : a1 = 2
      · have h := h.1 hc2
        refine lv_tableIn (off := 65) (tgt := 68) F.1 F.2.1 dX6_count_3 (by rw [hc2]; decide) (by rw [hc2]; decide) (by rw [hc2]; rfl) (by decide) ?_
        refine lv_iconst (v := (1 : Int32)) F.1 F.2.1 dX6_count_68 (by decide) ?_
        refine lv_istore_n (lv' := [(3, .int (1 : Int32)), (2, .int (0 : Int32)), (0, .ref (ad 0)), (1, .int a1)]) F.1 F.2.1 dX6_count_69 rfl hl (by decide) rfl (fun ls hl => ?_)
        obtain ⟨nn, h⟩ := h
        refine kX6_count_70 F hz hP (fun ⟨x2, x3⟩ h ls hl => ?_) nn _ h ls (lv_sub hl [2, 1, 0] rfl)
        refine lv_iload_n F.1 F.2.1 dX6_count_99 rfl (lv_at hl 1 rfl) ?_
        exact hret _ _ _ h dX6_count_100
      · have h := h.2 hc2
        refine lv_tableOut (tgt := 101) F.1 F.2.1 dX6_count_3 (by have := lv_neT hc0 (a := 0) rfl; have := lv_neT hc1 (a := 1) rfl; have := lv_neT hc2 (a := 2) rfl; omega) (by decide) ?_
        refine lv_iconst (v := (-1 : Int32)) F.1 F.2.1 dX6_count_101 (by decide) ?_
        exact hret _ _ _ h dX6_count_102
theorem mX6_count {l : Launch} {D : va_G} {cI cJ cZ : ClassId} {ad : Nat → Nat} {S : S6} {a1 : Int32} {Q : Int32 → Prop} (h : wX6_count S a1 Q) : Met l yX6_count wsX6_count rX6_count (va_Pc [.ref (ad 0), .int a1] (rp D cI cJ cZ (w6 ad cI cZ S))) (vp_Si Q) 0 0 (fun _ => False) :=
  enter_i (by decide +kernel) rfl (Nat.le_of_ble_eq_true rfl) (fun p e s m args below meth c QQ F hz hret => bX6_count F hz.1 hz.2 hret h)
end WALKS
