/-! THE WALKS of frac, printed by wip/whole/gen.py -/
section WALKS
variable {p : Program} {l : Launch} {e : Env} {s : State} {m : MethodId} {args : Array Value} {below : List Frame} {meth : Method} {c : Code} {QQ : State → Prop} {A : Nat → Prop} {D : va_G} {cI cJ cZ : ClassId} {ad : Nat → Nat}
abbrev rX0_difference : Room := { frames := 3, cells := 0, slots := 0, locals := 72 }
theorem kS_X0_difference : yX0_difference.cls ≠ "java/lang/invoke/MethodHandle" ∧ yX0_difference.cls ≠ "java/lang/invoke/VarHandle" ∧ (parseMethodDescriptor yX0_difference.desc).map (fun d => d.parameters.length) = some 4 := by decide +kernel
set_option maxRecDepth 100000 in
theorem bX0_difference {a1 : Int32} {a2 : Int32} {a3 : Int32} {S : S2} {Q : Int64 → Prop} (F : CallFix p m c cX0_difference 12 s args wsX0_difference RX0) (hz : gz D cI cJ cZ s) (hP : va_P D vwCl (w2 ad cI S) s.heap) (hret : ∀ (v : Int64) (pc : Nat) (ls : Array Slot), Q v → decode cX0_difference pc = .ok (.lreturn, 1) → W p l e rX0_difference s m args below meth c s.heap [] 0 0 QQ (F0 m pc ls [.long v])) (h : wX0_difference S a1 a2 a3 Q) : ∀ ls : Array Slot, lv_has ls 12 [(0, .ref (ad 1)), (1, .int a1), (2, .int a2), (3, .int a3)] → W p l e rX0_difference s m args below meth c s.heap [] 0 0 QQ (F0 m 0 ls []) := by
  intro ls hl
  refine lv_aload_n F.1 F.2.1 dX0_difference_0 rfl (lv_at hl 0 rfl) ?_
  refine lv_iload_n F.1 F.2.1 dX0_difference_1 rfl (lv_at hl 1 rfl) ?_
  refine lv_iconst (v := (0 : Int32)) F.1 F.2.1 dX0_difference_2 (by decide) ?_
  refine lv_iconst (v := (0 : Int32)) F.1 F.2.1 dX0_difference_3 (by decide) ?_
  refine vp_callSi (va_Run.run (va_runV (As := [.int a1, .int (0 : Int32), .int (0 : Int32)]) (rest := []) F (mX2_total (l := l) (D := D) (cI := cI) (cJ := cJ) (cZ := cZ) (ad := ad) h) (cwV 3 F.2.2.2.2 gX0_difference_X2_total rfl rfl rfl kV_X2_total ⟨Nat.le_of_ble_eq_true rfl, Nat.le_of_ble_eq_true rfl⟩) ⟨rp_blind, va_recv hz.1 hP (ci := 0) (q0 := 0) rfl rfl, rp_pre hz hP (.ref (ad 1) :: [.int a1, .int (0 : Int32), .int (0 : Int32)])⟩ rfl rfl hl.1 rfl (lv_room (Nat.le_of_ble_eq_true rfl)) dX0_difference_4 ⟨Nat.le_of_ble_eq_true rfl, Nat.le_of_ble_eq_true rfl⟩)) (fun r_1 h => ?_)
  refine lv_i2l F.1 F.2.1 dX0_difference_7 rfl ?_
  refine lv_lstore (lv' := [(4, .long r_1.toInt64), (0, .ref (ad 1)), (1, .int a1), (2, .int a2), (3, .int a3)]) F.1 F.2.1 dX0_difference_8 hl (by decide) rfl (fun ls hl => ?_)
  refine lv_aload_n F.1 F.2.1 dX0_difference_10 rfl (lv_at hl 1 rfl) ?_
  refine lv_iload_n F.1 F.2.1 dX0_difference_11 rfl (lv_at hl 2 rfl) ?_
  refine lv_iconst (v := (1 : Int32)) F.1 F.2.1 dX0_difference_12 (by decide) ?_
  refine lv_iconst (v := (0 : Int32)) F.1 F.2.1 dX0_difference_13 (by decide) ?_
  refine vp_callSi (va_Run.run (va_runV (As := [.int a1, .int (1 : Int32), .int (0 : Int32)]) (rest := []) F (mX2_total (l := l) (D := D) (cI := cI) (cJ := cJ) (cZ := cZ) (ad := ad) h) (cwV 3 F.2.2.2.2 gX0_difference_X2_total rfl rfl rfl kV_X2_total ⟨Nat.le_of_ble_eq_true rfl, Nat.le_of_ble_eq_true rfl⟩) ⟨rp_blind, va_recv hz.1 hP (ci := 0) (q0 := 0) rfl rfl, rp_pre hz hP (.ref (ad 1) :: [.int a1, .int (1 : Int32), .int (0 : Int32)])⟩ rfl rfl hl.1 rfl (lv_room (Nat.le_of_ble_eq_true rfl)) dX0_difference_14 ⟨Nat.le_of_ble_eq_true rfl, Nat.le_of_ble_eq_true rfl⟩)) (fun r_2 h => ?_)
  refine lv_i2l F.1 F.2.1 dX0_difference_17 rfl ?_
  refine lv_lstore (lv' := [(6, .long r_2.toInt64), (4, .long r_1.toInt64), (0, .ref (ad 1)), (1, .int a1), (2, .int a2), (3, .int a3)]) F.1 F.2.1 dX0_difference_18 hl (by decide) rfl (fun ls hl => ?_)
  refine lv_aload_n F.1 F.2.1 dX0_difference_20 rfl (lv_at hl 2 rfl) ?_
  refine lv_iload_n F.1 F.2.1 dX0_difference_21 rfl (lv_at hl 4 rfl) ?_
  refine lv_iconst (v := (0 : Int32)) F.1 F.2.1 dX0_difference_22 (by decide) ?_
  refine lv_iconst (v := (2 : Int32)) F.1 F.2.1 dX0_difference_23 (by decide) ?_
  refine vp_callSi (va_Run.run (va_runV (As := [.int a2, .int (0 : Int32), .int (2 : Int32)]) (rest := []) F (mX2_total (l := l) (D := D) (cI := cI) (cJ := cJ) (cZ := cZ) (ad := ad) h) (cwV 3 F.2.2.2.2 gX0_difference_X2_total rfl rfl rfl kV_X2_total ⟨Nat.le_of_ble_eq_true rfl, Nat.le_of_ble_eq_true rfl⟩) ⟨rp_blind, va_recv hz.1 hP (ci := 0) (q0 := 0) rfl rfl, rp_pre hz hP (.ref (ad 1) :: [.int a2, .int (0 : Int32), .int (2 : Int32)])⟩ rfl rfl hl.1 rfl (lv_room (Nat.le_of_ble_eq_true rfl)) dX0_difference_24 ⟨Nat.le_of_ble_eq_true rfl, Nat.le_of_ble_eq_true rfl⟩)) (fun r_3 h => ?_)
  refine lv_i2l F.1 F.2.1 dX0_difference_27 rfl ?_
  refine lv_lstore (lv' := [(8, .long r_3.toInt64), (6, .long r_2.toInt64), (4, .long r_1.toInt64), (0, .ref (ad 1)), (1, .int a1), (2, .int a2), (3, .int a3)]) F.1 F.2.1 dX0_difference_28 hl (by decide) rfl (fun ls hl => ?_)
  refine lv_aload_n F.1 F.2.1 dX0_difference_30 rfl (lv_at hl 3 rfl) ?_
  refine lv_iload_n F.1 F.2.1 dX0_difference_31 rfl (lv_at hl 5 rfl) ?_
  refine lv_iconst (v := (1 : Int32)) F.1 F.2.1 dX0_difference_32 (by decide) ?_
  refine lv_iconst (v := (2 : Int32)) F.1 F.2.1 dX0_difference_33 (by decide) ?_
  refine vp_callSi (va_Run.run (va_runV (As := [.int a2, .int (1 : Int32), .int (2 : Int32)]) (rest := []) F (mX2_total (l := l) (D := D) (cI := cI) (cJ := cJ) (cZ := cZ) (ad := ad) h) (cwV 3 F.2.2.2.2 gX0_difference_X2_total rfl rfl rfl kV_X2_total ⟨Nat.le_of_ble_eq_true rfl, Nat.le_of_ble_eq_true rfl⟩) ⟨rp_blind, va_recv hz.1 hP (ci := 0) (q0 := 0) rfl rfl, rp_pre hz hP (.ref (ad 1) :: [.int a2, .int (1 : Int32), .int (2 : Int32)])⟩ rfl rfl hl.1 rfl (lv_room (Nat.le_of_ble_eq_true rfl)) dX0_difference_34 ⟨Nat.le_of_ble_eq_true rfl, Nat.le_of_ble_eq_true rfl⟩)) (fun r_4 h => ?_)
  refine lv_i2l F.1 F.2.1 dX0_difference_37 rfl ?_
  refine lv_lstore (lv' := [(10, .long r_4.toInt64), (8, .long r_3.toInt64), (6, .long r_2.toInt64), (4, .long r_1.toInt64), (0, .ref (ad 1)), (1, .int a1), (2, .int a2), (3, .int a3)]) F.1 F.2.1 dX0_difference_38 hl (by decide) rfl (fun ls hl => ?_)
  refine lv_lload F.1 F.2.1 dX0_difference_40 (lv_at hl 2 rfl) ?_
  refine lv_lload F.1 F.2.1 dX0_difference_42 (lv_at hl 1 rfl) ?_
  refine lv_lmul F.1 F.2.1 dX0_difference_44 ?_
  refine lv_lload F.1 F.2.1 dX0_difference_45 (lv_at hl 3 rfl) ?_
  refine lv_lload F.1 F.2.1 dX0_difference_47 (lv_at hl 0 rfl) ?_
  refine lv_lmul F.1 F.2.1 dX0_difference_49 ?_
  refine lv_lsub F.1 F.2.1 dX0_difference_50 ?_
  refine lv_lload F.1 F.2.1 dX0_difference_51 (lv_at hl 1 rfl) ?_
  refine lv_lload F.1 F.2.1 dX0_difference_53 (lv_at hl 0 rfl) ?_
  refine lv_lmul F.1 F.2.1 dX0_difference_55 ?_
  refine lv_iload_n F.1 F.2.1 dX0_difference_56 rfl (lv_at hl 7 rfl) ?_
  refine vp_callSl (va_Run.run (va_runS (As := [.long ((r_2.toInt64 * r_3.toInt64) - (r_1.toInt64 * r_4.toInt64)), .long (r_3.toInt64 * r_4.toInt64), .int a3]) (rest := []) F (mX0_tell (l := l) (D := D) (cI := cI) (cJ := cJ) (cZ := cZ) h) (va_cwS 3 F.2.2.2.2 gX0_difference_X0_tell rfl rfl rfl kS_X0_tell ⟨Nat.le_of_ble_eq_true rfl, Nat.le_of_ble_eq_true rfl⟩) ⟨rp_blind, rp_pre hz (hP.sub (ws' := []) [] rfl) [.long ((r_2.toInt64 * r_3.toInt64) - (r_1.toInt64 * r_4.toInt64)), .long (r_3.toInt64 * r_4.toInt64), .int a3]⟩ rfl rfl hl.1 rfl (lv_room (Nat.le_of_ble_eq_true rfl)) dX0_difference_57 ⟨Nat.le_of_ble_eq_true rfl, Nat.le_of_ble_eq_true rfl⟩)) (fun r_5 h => ?_)
  exact hret _ _ _ h dX0_difference_60
theorem mX0_difference {l : Launch} {D : va_G} {cI cJ cZ : ClassId} {ad : Nat → Nat} {S : S2} {a1 : Int32} {a2 : Int32} {a3 : Int32} {Q : Int64 → Prop} (h : wX0_difference S a1 a2 a3 Q) : Met l yX0_difference wsX0_difference rX0_difference (va_Pc [.ref (ad 1), .int a1, .int a2, .int a3] (rp D cI cJ cZ (w2 ad cI S))) (vp_Sl Q) 0 0 (fun _ => False) :=
  enter_l (by decide +kernel) rfl (Nat.le_of_ble_eq_true rfl) (fun p e s m args below meth c QQ F hz hret => bX0_difference F hz.1 hz.2 hret h)
abbrev rX0_parted : Room := { frames := 3, cells := 0, slots := 0, locals := 72 }
theorem kS_X0_parted : yX0_parted.cls ≠ "java/lang/invoke/MethodHandle" ∧ yX0_parted.cls ≠ "java/lang/invoke/VarHandle" ∧ (parseMethodDescriptor yX0_parted.desc).map (fun d => d.parameters.length) = some 5 := by decide +kernel
theorem uX0_parted_1 : Cond.constantLong RX0 33 (2) ∈ wsX0_parted := List.mem_of_getElem? (i := 1) rfl
set_option maxRecDepth 100000 in
theorem bX0_parted {a1 : Int32} {a2 : Int32} {a3 : Int32} {a4 : Int32} {S : S2} {Q : Int64 → Prop} (F : CallFix p m c cX0_parted 21 s args wsX0_parted RX0) (hz : gz D cI cJ cZ s) (hP : va_P D vwCl (w2 ad cI S) s.heap) (hret : ∀ (v : Int64) (pc : Nat) (ls : Array Slot), Q v → decode cX0_parted pc = .ok (.lreturn, 1) → W p l e rX0_parted s m args below meth c s.heap [] 0 0 QQ (F0 m pc ls [.long v])) (h : wX0_parted S a1 a2 a3 a4 Q) : ∀ ls : Array Slot, lv_has ls 21 [(0, .ref (ad 1)), (1, .int a1), (2, .int a2), (3, .int a3), (4, .int a4)] → W p l e rX0_parted s m args below meth c s.heap [] 0 0 QQ (F0 m 0 ls []) := by
  intro ls hl
  refine lv_aload_n F.1 F.2.1 dX0_parted_0 rfl (lv_at hl 0 rfl) ?_
  refine lv_iload_n F.1 F.2.1 dX0_parted_1 rfl (lv_at hl 2 rfl) ?_
  refine lv_iconst (v := (0 : Int32)) F.1 F.2.1 dX0_parted_2 (by decide) ?_
  refine lv_iconst (v := (0 : Int32)) F.1 F.2.1 dX0_parted_3 (by decide) ?_
  refine vp_callSi (va_Run.run (va_runV (As := [.int a2, .int (0 : Int32), .int (0 : Int32)]) (rest := []) F (mX2_total (l := l) (D := D) (cI := cI) (cJ := cJ) (cZ := cZ) (ad := ad) h) (cwV 3 F.2.2.2.2 gX0_parted_X2_total rfl rfl rfl kV_X2_total ⟨Nat.le_of_ble_eq_true rfl, Nat.le_of_ble_eq_true rfl⟩) ⟨rp_blind, va_recv hz.1 hP (ci := 0) (q0 := 0) rfl rfl, rp_pre hz hP (.ref (ad 1) :: [.int a2, .int (0 : Int32), .int (0 : Int32)])⟩ rfl rfl hl.1 rfl (lv_room (Nat.le_of_ble_eq_true rfl)) dX0_parted_4 ⟨Nat.le_of_ble_eq_true rfl, Nat.le_of_ble_eq_true rfl⟩)) (fun r_1 h => ?_)
  refine lv_i2l F.1 F.2.1 dX0_parted_7 rfl ?_
  refine lv_lstore (lv' := [(5, .long r_1.toInt64), (0, .ref (ad 1)), (1, .int a1), (2, .int a2), (3, .int a3), (4, .int a4)]) F.1 F.2.1 dX0_parted_8 hl (by decide) rfl (fun ls hl => ?_)
  refine lv_aload_n F.1 F.2.1 dX0_parted_10 rfl (lv_at hl 1 rfl) ?_
  refine lv_iload_n F.1 F.2.1 dX0_parted_11 rfl (lv_at hl 3 rfl) ?_
  refine lv_iconst (v := (1 : Int32)) F.1 F.2.1 dX0_parted_12 (by decide) ?_
  refine lv_iconst (v := (0 : Int32)) F.1 F.2.1 dX0_parted_13 (by decide) ?_
  refine vp_callSi (va_Run.run (va_runV (As := [.int a2, .int (1 : Int32), .int (0 : Int32)]) (rest := []) F (mX2_total (l := l) (D := D) (cI := cI) (cJ := cJ) (cZ := cZ) (ad := ad) h) (cwV 3 F.2.2.2.2 gX0_parted_X2_total rfl rfl rfl kV_X2_total ⟨Nat.le_of_ble_eq_true rfl, Nat.le_of_ble_eq_true rfl⟩) ⟨rp_blind, va_recv hz.1 hP (ci := 0) (q0 := 0) rfl rfl, rp_pre hz hP (.ref (ad 1) :: [.int a2, .int (1 : Int32), .int (0 : Int32)])⟩ rfl rfl hl.1 rfl (lv_room (Nat.le_of_ble_eq_true rfl)) dX0_parted_14 ⟨Nat.le_of_ble_eq_true rfl, Nat.le_of_ble_eq_true rfl⟩)) (fun r_2 h => ?_)
  refine lv_i2l F.1 F.2.1 dX0_parted_17 rfl ?_
  refine lv_lstore (lv' := [(7, .long r_2.toInt64), (5, .long r_1.toInt64), (0, .ref (ad 1)), (1, .int a1), (2, .int a2), (3, .int a3), (4, .int a4)]) F.1 F.2.1 dX0_parted_18 hl (by decide) rfl (fun ls hl => ?_)
  refine lv_aload_n F.1 F.2.1 dX0_parted_20 rfl (lv_at hl 2 rfl) ?_
  refine lv_iload_n F.1 F.2.1 dX0_parted_21 rfl (lv_at hl 4 rfl) ?_
  refine lv_iconst (v := (0 : Int32)) F.1 F.2.1 dX0_parted_22 (by decide) ?_
  refine lv_iconst (v := (2 : Int32)) F.1 F.2.1 dX0_parted_23 (by decide) ?_
  refine vp_callSi (va_Run.run (va_runV (As := [.int a2, .int (0 : Int32), .int (2 : Int32)]) (rest := []) F (mX2_total (l := l) (D := D) (cI := cI) (cJ := cJ) (cZ := cZ) (ad := ad) h) (cwV 3 F.2.2.2.2 gX0_parted_X2_total rfl rfl rfl kV_X2_total ⟨Nat.le_of_ble_eq_true rfl, Nat.le_of_ble_eq_true rfl⟩) ⟨rp_blind, va_recv hz.1 hP (ci := 0) (q0 := 0) rfl rfl, rp_pre hz hP (.ref (ad 1) :: [.int a2, .int (0 : Int32), .int (2 : Int32)])⟩ rfl rfl hl.1 rfl (lv_room (Nat.le_of_ble_eq_true rfl)) dX0_parted_24 ⟨Nat.le_of_ble_eq_true rfl, Nat.le_of_ble_eq_true rfl⟩)) (fun r_3 h => ?_)
  refine lv_i2l F.1 F.2.1 dX0_parted_27 rfl ?_
  refine lv_lstore (lv' := [(9, .long r_3.toInt64), (7, .long r_2.toInt64), (5, .long r_1.toInt64), (0, .ref (ad 1)), (1, .int a1), (2, .int a2), (3, .int a3), (4, .int a4)]) F.1 F.2.1 dX0_parted_28 hl (by decide) rfl (fun ls hl => ?_)
  refine lv_aload_n F.1 F.2.1 dX0_parted_30 rfl (lv_at hl 3 rfl) ?_
  refine lv_iload_n F.1 F.2.1 dX0_parted_31 rfl (lv_at hl 5 rfl) ?_
  refine lv_iconst (v := (1 : Int32)) F.1 F.2.1 dX0_parted_32 (by decide) ?_
  refine lv_iconst (v := (2 : Int32)) F.1 F.2.1 dX0_parted_33 (by decide) ?_
  refine vp_callSi (va_Run.run (va_runV (As := [.int a2, .int (1 : Int32), .int (2 : Int32)]) (rest := []) F (mX2_total (l := l) (D := D) (cI := cI) (cJ := cJ) (cZ := cZ) (ad := ad) h) (cwV 3 F.2.2.2.2 gX0_parted_X2_total rfl rfl rfl kV_X2_total ⟨Nat.le_of_ble_eq_true rfl, Nat.le_of_ble_eq_true rfl⟩) ⟨rp_blind, va_recv hz.1 hP (ci := 0) (q0 := 0) rfl rfl, rp_pre hz hP (.ref (ad 1) :: [.int a2, .int (1 : Int32), .int (2 : Int32)])⟩ rfl rfl hl.1 rfl (lv_room (Nat.le_of_ble_eq_true rfl)) dX0_parted_34 ⟨Nat.le_of_ble_eq_true rfl, Nat.le_of_ble_eq_true rfl⟩)) (fun r_4 h => ?_)
  refine lv_i2l F.1 F.2.1 dX0_parted_37 rfl ?_
  refine lv_lstore (lv' := [(11, .long r_4.toInt64), (9, .long r_3.toInt64), (7, .long r_2.toInt64), (5, .long r_1.toInt64), (0, .ref (ad 1)), (1, .int a1), (2, .int a2), (3, .int a3), (4, .int a4)]) F.1 F.2.1 dX0_parted_38 hl (by decide) rfl (fun ls hl => ?_)
  refine lv_aload_n F.1 F.2.1 dX0_parted_40 rfl (lv_at hl 4 rfl) ?_
  refine lv_iload_n F.1 F.2.1 dX0_parted_41 rfl (lv_at hl 5 rfl) ?_
  refine lv_iconst (v := (0 : Int32)) F.1 F.2.1 dX0_parted_42 (by decide) ?_
  refine lv_iconst (v := (2 : Int32)) F.1 F.2.1 dX0_parted_43 (by decide) ?_
  refine vp_callSi (va_Run.run (va_runV (As := [.int a1, .int (0 : Int32), .int (2 : Int32)]) (rest := []) F (mX2_total (l := l) (D := D) (cI := cI) (cJ := cJ) (cZ := cZ) (ad := ad) h) (cwV 3 F.2.2.2.2 gX0_parted_X2_total rfl rfl rfl kV_X2_total ⟨Nat.le_of_ble_eq_true rfl, Nat.le_of_ble_eq_true rfl⟩) ⟨rp_blind, va_recv hz.1 hP (ci := 0) (q0 := 0) rfl rfl, rp_pre hz hP (.ref (ad 1) :: [.int a1, .int (0 : Int32), .int (2 : Int32)])⟩ rfl rfl hl.1 rfl (lv_room (Nat.le_of_ble_eq_true rfl)) dX0_parted_44 ⟨Nat.le_of_ble_eq_true rfl, Nat.le_of_ble_eq_true rfl⟩)) (fun r_5 h => ?_)
  refine lv_i2l F.1 F.2.1 dX0_parted_47 rfl ?_
  refine lv_lstore (lv' := [(13, .long r_5.toInt64), (11, .long r_4.toInt64), (9, .long r_3.toInt64), (7, .long r_2.toInt64), (5, .long r_1.toInt64), (0, .ref (ad 1)), (1, .int a1), (2, .int a2), (3, .int a3), (4, .int a4)]) F.1 F.2.1 dX0_parted_48 hl (by decide) rfl (fun ls hl => ?_)
  refine lv_aload_n F.1 F.2.1 dX0_parted_50 rfl (lv_at hl 5 rfl) ?_
  refine lv_iload_n F.1 F.2.1 dX0_parted_51 rfl (lv_at hl 6 rfl) ?_
  refine lv_iconst (v := (1 : Int32)) F.1 F.2.1 dX0_parted_52 (by decide) ?_
  refine lv_iconst (v := (2 : Int32)) F.1 F.2.1 dX0_parted_53 (by decide) ?_
  refine vp_callSi (va_Run.run (va_runV (As := [.int a1, .int (1 : Int32), .int (2 : Int32)]) (rest := []) F (mX2_total (l := l) (D := D) (cI := cI) (cJ := cJ) (cZ := cZ) (ad := ad) h) (cwV 3 F.2.2.2.2 gX0_parted_X2_total rfl rfl rfl kV_X2_total ⟨Nat.le_of_ble_eq_true rfl, Nat.le_of_ble_eq_true rfl⟩) ⟨rp_blind, va_recv hz.1 hP (ci := 0) (q0 := 0) rfl rfl, rp_pre hz hP (.ref (ad 1) :: [.int a1, .int (1 : Int32), .int (2 : Int32)])⟩ rfl rfl hl.1 rfl (lv_room (Nat.le_of_ble_eq_true rfl)) dX0_parted_54 ⟨Nat.le_of_ble_eq_true rfl, Nat.le_of_ble_eq_true rfl⟩)) (fun r_6 h => ?_)
  refine lv_i2l F.1 F.2.1 dX0_parted_57 rfl ?_
  refine lv_lstore (lv' := [(15, .long r_6.toInt64), (13, .long r_5.toInt64), (11, .long r_4.toInt64), (9, .long r_3.toInt64), (7, .long r_2.toInt64), (5, .long r_1.toInt64), (0, .ref (ad 1)), (1, .int a1), (2, .int a2), (3, .int a3), (4, .int a4)]) F.1 F.2.1 dX0_parted_58 hl (by decide) rfl (fun ls hl => ?_)
  refine lv_ldc2 (v := (2 : Int64)) F.1 F.2.1 F.2.2.2.1 (F.2.2.2.2 _ uX0_parted_1) dX0_parted_60 ?_
  refine lv_lload F.1 F.2.1 dX0_parted_63 (lv_at hl 3 rfl) ?_
  refine lv_lmul F.1 F.2.1 dX0_parted_65 ?_
  refine lv_lload F.1 F.2.1 dX0_parted_66 (lv_at hl 2 rfl) ?_
  refine lv_lmul F.1 F.2.1 dX0_parted_68 ?_
  refine lv_lload F.1 F.2.1 dX0_parted_69 (lv_at hl 1 rfl) ?_
  refine lv_lmul F.1 F.2.1 dX0_parted_71 ?_
  refine lv_lload F.1 F.2.1 dX0_parted_72 (lv_at hl 0 rfl) ?_
  refine lv_lmul F.1 F.2.1 dX0_parted_74 ?_
  refine lv_topl (fun y_7 ey_7 => ?_)
  have h := h y_7 ey_7
  refine lv_lstore (lv' := [(17, .long y_7), (15, .long r_6.toInt64), (13, .long r_5.toInt64), (11, .long r_4.toInt64), (9, .long r_3.toInt64), (7, .long r_2.toInt64), (5, .long r_1.toInt64), (0, .ref (ad 1)), (1, .int a1), (2, .int a2), (3, .int a3), (4, .int a4)]) F.1 F.2.1 dX0_parted_75 hl (by decide) rfl (fun ls hl => ?_)
  refine lv_iload_n F.1 F.2.1 dX0_parted_77 rfl (lv_at hl 10 rfl) ?_
  refine lv_if_ne (tgt := 107) F.1 F.2.1 dX0_parted_78 (by decide) (fun hc => ?_) (fun hc => ?_)
  · have h := h.2 hc
    refine lv_lload F.1 F.2.1 dX0_parted_107 (lv_at hl 3 rfl) ?_
    refine lv_lload F.1 F.2.1 dX0_parted_109 (lv_at hl 2 rfl) ?_
    refine lv_lmul F.1 F.2.1 dX0_parted_111 ?_
    refine lv_lload F.1 F.2.1 dX0_parted_112 (lv_at hl 4 rfl) ?_
    refine lv_lload F.1 F.2.1 dX0_parted_114 (lv_at hl 1 rfl) ?_
    refine lv_lmul F.1 F.2.1 dX0_parted_116 ?_
    refine lv_lsub F.1 F.2.1 dX0_parted_117 ?_
    refine lv_lload F.1 F.2.1 dX0_parted_118 (lv_at hl 6 rfl) ?_
    refine lv_lload F.1 F.2.1 dX0_parted_120 (lv_at hl 3 rfl) ?_
    refine lv_lmul F.1 F.2.1 dX0_parted_122 ?_
    refine lv_lload F.1 F.2.1 dX0_parted_123 (lv_at hl 5 rfl) ?_
    refine lv_lload F.1 F.2.1 dX0_parted_125 (lv_at hl 4 rfl) ?_
    refine lv_lmul F.1 F.2.1 dX0_parted_127 ?_
    refine lv_ladd F.1 F.2.1 dX0_parted_128 ?_
    refine lv_lmul F.1 F.2.1 dX0_parted_129 ?_
    refine lv_topl (fun y_8 ey_8 => ?_)
    have h := h y_8 ey_8
    refine lv_lstore (lv' := [(19, .long y_8), (17, .long y_7), (15, .long r_6.toInt64), (13, .long r_5.toInt64), (11, .long r_4.toInt64), (9, .long r_3.toInt64), (7, .long r_2.toInt64), (5, .long r_1.toInt64), (0, .ref (ad 1)), (1, .int a1), (2, .int a2), (3, .int a3), (4, .int a4)]) F.1 F.2.1 dX0_parted_130 hl (by decide) rfl (fun ls hl => ?_)
    refine lv_lload F.1 F.2.1 dX0_parted_132 (lv_at hl 0 rfl) ?_
    refine lv_lload F.1 F.2.1 dX0_parted_134 (lv_at hl 1 rfl) ?_
    refine lv_iload F.1 F.2.1 dX0_parted_136 (lv_at hl 12 rfl) ?_
    refine vp_callSl (va_Run.run (va_runS (As := [.long y_8, .long y_7, .int a4]) (rest := []) F (mX0_tell (l := l) (D := D) (cI := cI) (cJ := cJ) (cZ := cZ) h) (va_cwS 3 F.2.2.2.2 gX0_parted_X0_tell rfl rfl rfl kS_X0_tell ⟨Nat.le_of_ble_eq_true rfl, Nat.le_of_ble_eq_true rfl⟩) ⟨rp_blind, rp_pre hz (hP.sub (ws' := []) [] rfl) [.long y_8, .long y_7, .int a4]⟩ rfl rfl hl.1 rfl (lv_room (Nat.le_of_ble_eq_true rfl)) dX0_parted_138 ⟨Nat.le_of_ble_eq_true rfl, Nat.le_of_ble_eq_true rfl⟩)) (fun r_9 h => ?_)
    exact hret _ _ _ h dX0_parted_141
  · have h := h.1 (hc)
    refine lv_lload F.1 F.2.1 dX0_parted_81 (lv_at hl 5 rfl) ?_
    refine lv_lload F.1 F.2.1 dX0_parted_83 (lv_at hl 4 rfl) ?_
    refine lv_lmul F.1 F.2.1 dX0_parted_85 ?_
    refine lv_lload F.1 F.2.1 dX0_parted_86 (lv_at hl 6 rfl) ?_
    refine lv_lload F.1 F.2.1 dX0_parted_88 (lv_at hl 3 rfl) ?_
    refine lv_lmul F.1 F.2.1 dX0_parted_90 ?_
    refine lv_lsub F.1 F.2.1 dX0_parted_91 ?_
    refine lv_lload F.1 F.2.1 dX0_parted_92 (lv_at hl 4 rfl) ?_
    refine lv_lload F.1 F.2.1 dX0_parted_94 (lv_at hl 1 rfl) ?_
    refine lv_lmul F.1 F.2.1 dX0_parted_96 ?_
    refine lv_lload F.1 F.2.1 dX0_parted_97 (lv_at hl 3 rfl) ?_
    refine lv_lload F.1 F.2.1 dX0_parted_99 (lv_at hl 2 rfl) ?_
    refine lv_lmul F.1 F.2.1 dX0_parted_101 ?_
    refine lv_ladd F.1 F.2.1 dX0_parted_102 ?_
    refine lv_lmul F.1 F.2.1 dX0_parted_103 ?_
    refine lv_goto (tgt := 130) F.1 F.2.1 dX0_parted_104 (by decide) ?_
    refine lv_topl (fun y_10 ey_10 => ?_)
    have h := h y_10 ey_10
    refine lv_lstore (lv' := [(19, .long y_10), (17, .long y_7), (15, .long r_6.toInt64), (13, .long r_5.toInt64), (11, .long r_4.toInt64), (9, .long r_3.toInt64), (7, .long r_2.toInt64), (5, .long r_1.toInt64), (0, .ref (ad 1)), (1, .int a1), (2, .int a2), (3, .int a3), (4, .int a4)]) F.1 F.2.1 dX0_parted_130 hl (by decide) rfl (fun ls hl => ?_)
    refine lv_lload F.1 F.2.1 dX0_parted_132 (lv_at hl 0 rfl) ?_
    refine lv_lload F.1 F.2.1 dX0_parted_134 (lv_at hl 1 rfl) ?_
    refine lv_iload F.1 F.2.1 dX0_parted_136 (lv_at hl 12 rfl) ?_
    refine vp_callSl (va_Run.run (va_runS (As := [.long y_10, .long y_7, .int a4]) (rest := []) F (mX0_tell (l := l) (D := D) (cI := cI) (cJ := cJ) (cZ := cZ) h) (va_cwS 3 F.2.2.2.2 gX0_parted_X0_tell rfl rfl rfl kS_X0_tell ⟨Nat.le_of_ble_eq_true rfl, Nat.le_of_ble_eq_true rfl⟩) ⟨rp_blind, rp_pre hz (hP.sub (ws' := []) [] rfl) [.long y_10, .long y_7, .int a4]⟩ rfl rfl hl.1 rfl (lv_room (Nat.le_of_ble_eq_true rfl)) dX0_parted_138 ⟨Nat.le_of_ble_eq_true rfl, Nat.le_of_ble_eq_true rfl⟩)) (fun r_11 h => ?_)
    exact hret _ _ _ h dX0_parted_141
theorem mX0_parted {l : Launch} {D : va_G} {cI cJ cZ : ClassId} {ad : Nat → Nat} {S : S2} {a1 : Int32} {a2 : Int32} {a3 : Int32} {a4 : Int32} {Q : Int64 → Prop} (h : wX0_parted S a1 a2 a3 a4 Q) : Met l yX0_parted wsX0_parted rX0_parted (va_Pc [.ref (ad 1), .int a1, .int a2, .int a3, .int a4] (rp D cI cJ cZ (w2 ad cI S))) (vp_Sl Q) 0 0 (fun _ => False) :=
  enter_l (by decide +kernel) rfl (Nat.le_of_ble_eq_true rfl) (fun p e s m args below meth c QQ F hz hret => bX0_parted F hz.1 hz.2 hret h)
abbrev rX4_number : Room := { frames := 0, cells := 0, slots := 0, locals := 0 }
theorem kV_X4_number : yX4_number.cls = RX4 ∧ yX4_number.cls ≠ "java/lang/invoke/MethodHandle" ∧ yX4_number.cls ≠ "java/lang/invoke/VarHandle" ∧ (parseMethodDescriptor yX4_number.desc).map (fun d => d.parameters.length) = some 2 := by decide +kernel
theorem vX4_number_X4 : ∀ w ∈ wsX40, w ∈ wsX4_number := fun _ h => List.mem_cons_of_mem _ (List.mem_append_right _ h)
theorem uX4_number_2 : Cond.fieldLink RX4 9 "SumMoved$Switches" "before" "[I" ∈ wsX4_number := List.mem_of_getElem? (i := 2) rfl
theorem uX4_number_1 : Cond.fieldLink RX4 13 "SumMoved$Switches" "after" "[I" ∈ wsX4_number := List.mem_of_getElem? (i := 1) rfl
set_option maxRecDepth 100000 in
theorem bX4_number {a1 : Int32} {a2 : Int32} {S : S4} {Q : Int32 → Prop} (F : CallFix p m c cX4_number 3 s args wsX4_number RX4) (hz : gz D cI cJ cZ s) (hP : va_P D vwCl (w4 ad cI S) s.heap) (hret : ∀ (v : Int32) (pc : Nat) (ls : Array Slot), Q v → decode cX4_number pc = .ok (.ireturn, 1) → W p l e rX4_number s m args below meth c s.heap [] 0 0 QQ (F0 m pc ls [.int v])) (h : wX4_number S a1 a2 Q) : ∀ ls : Array Slot, lv_has ls 3 [(0, .ref (ad 9)), (1, .int a1), (2, .int a2)] → W p l e rX4_number s m args below meth c s.heap [] 0 0 QQ (F0 m 0 ls []) := by
  intro ls hl
  refine lv_iload_n F.1 F.2.1 dX4_number_0 rfl (lv_at hl 2 rfl) ?_
  refine lv_iload_n F.1 F.2.1 dX4_number_1 rfl (lv_at hl 1 rfl) ?_
  refine lv_ishr F.1 F.2.1 dX4_number_2 ?_
  refine lv_iconst (v := (1 : Int32)) F.1 F.2.1 dX4_number_3 (by decide) ?_
  refine lv_iand F.1 F.2.1 dX4_number_4 ?_
  refine lv_iconst (v := (1 : Int32)) F.1 F.2.1 dX4_number_5 (by decide) ?_
  refine lv_icmp_ne (tgt := 18) F.1 F.2.1 dX4_number_6 (by decide) (fun hc => ?_) (fun hc => ?_)
  · have h := h.2 hc
    refine lv_aload_n F.1 F.2.1 dX4_number_18 rfl (lv_at hl 0 rfl) ?_
    refine va_get (D := D) (ci := 2) (v := .ref (ad 10)) (C := RX4) (T := TX4) (N := 2) F.1 F.2.1 F.2.2.2.2 vX4_number_X4 F.2.2.2.1 hz.1 hP 0 rfl rfl 0 (by decide) (F.2.2.2.2 _ uX4_number_2) (fun _ h9 => h9) rfl dX4_number_19 ?_
    refine lv_iload_n F.1 F.2.1 dX4_number_22 rfl (lv_at hl 1 rfl) ?_
    refine va_iald F.1 F.2.1 hz.1 hP 1 0 rfl rfl h.1 dX4_number_23 ?_
    have h := h.2
    exact hret _ _ _ h dX4_number_24
  · have h := h.1 (hc)
    refine lv_aload_n F.1 F.2.1 dX4_number_9 rfl (lv_at hl 0 rfl) ?_
    refine va_get (D := D) (ci := 2) (v := .ref (ad 11)) (C := RX4) (T := TX4) (N := 2) F.1 F.2.1 F.2.2.2.2 vX4_number_X4 F.2.2.2.1 hz.1 hP 0 rfl rfl 1 (by decide) (F.2.2.2.2 _ uX4_number_1) (fun _ h9 => h9) rfl dX4_number_10 ?_
    refine lv_iload_n F.1 F.2.1 dX4_number_13 rfl (lv_at hl 1 rfl) ?_
    refine va_iald F.1 F.2.1 hz.1 hP 2 0 rfl rfl h.1 dX4_number_14 ?_
    have h := h.2
    refine lv_goto (tgt := 24) F.1 F.2.1 dX4_number_15 (by decide) ?_
    exact hret _ _ _ h dX4_number_24
theorem mX4_number {l : Launch} {D : va_G} {cI cJ cZ : ClassId} {ad : Nat → Nat} {S : S4} {a1 : Int32} {a2 : Int32} {Q : Int32 → Prop} (h : wX4_number S a1 a2 Q) : Met l yX4_number wsX4_number rX4_number (va_Pc [.ref (ad 9), .int a1, .int a2] (rp D cI cJ cZ (w4 ad cI S))) (vp_Si Q) 0 0 (fun _ => False) :=
  enter_i (by decide +kernel) rfl (Nat.le_of_ble_eq_true rfl) (fun p e s m args below meth c QQ F hz hret => bX4_number F hz.1 hz.2 hret h)
abbrev rX4_result : Room := { frames := 1, cells := 0, slots := 0, locals := 22 }
theorem kV_X4_result : yX4_result.cls = RX4 ∧ yX4_result.cls ≠ "java/lang/invoke/MethodHandle" ∧ yX4_result.cls ≠ "java/lang/invoke/VarHandle" ∧ (parseMethodDescriptor yX4_result.desc).map (fun d => d.parameters.length) = some 1 := by decide +kernel
set_option maxRecDepth 100000 in
theorem bX4_result {a1 : Int32} {S : S4} {Q : Int32 → Prop} (F : CallFix p m c cX4_result 2 s args wsX4_result RX4) (hz : gz D cI cJ cZ s) (hP : va_P D vwCl (w4 ad cI S) s.heap) (hret : ∀ (v : Int32) (pc : Nat) (ls : Array Slot), Q v → decode cX4_result pc = .ok (.ireturn, 1) → W p l e rX4_result s m args below meth c s.heap [] 0 0 QQ (F0 m pc ls [.int v])) (h : wX4_result S a1 Q) : ∀ ls : Array Slot, lv_has ls 2 [(0, .ref (ad 9)), (1, .int a1)] → W p l e rX4_result s m args below meth c s.heap [] 0 0 QQ (F0 m 0 ls []) := by
  intro ls hl
  refine lv_aload_n F.1 F.2.1 dX4_result_0 rfl (lv_at hl 0 rfl) ?_
  refine lv_iconst (v := (0 : Int32)) F.1 F.2.1 dX4_result_1 (by decide) ?_
  refine lv_iload_n F.1 F.2.1 dX4_result_2 rfl (lv_at hl 1 rfl) ?_
  refine vp_callSi (va_Run.run (va_runV (As := [.int (0 : Int32), .int a1]) (rest := []) F (mX4_number (l := l) (D := D) (cI := cI) (cJ := cJ) (cZ := cZ) (ad := ad) h) (cwV 2 F.2.2.2.2 gX4_result_X4_number rfl rfl rfl kV_X4_number ⟨Nat.le_of_ble_eq_true rfl, Nat.le_of_ble_eq_true rfl⟩) ⟨rp_blind, va_recv hz.1 hP (ci := 2) (q0 := 0) rfl rfl, rp_pre hz hP (.ref (ad 9) :: [.int (0 : Int32), .int a1])⟩ rfl rfl hl.1 rfl (lv_room (Nat.le_of_ble_eq_true rfl)) dX4_result_3 ⟨Nat.le_of_ble_eq_true rfl, Nat.le_of_ble_eq_true rfl⟩)) (fun r_1 h => ?_)
  refine lv_aload_n F.1 F.2.1 dX4_result_6 rfl (lv_at hl 0 rfl) ?_
  refine lv_iconst (v := (1 : Int32)) F.1 F.2.1 dX4_result_7 (by decide) ?_
  refine lv_iload_n F.1 F.2.1 dX4_result_8 rfl (lv_at hl 1 rfl) ?_
  refine vp_callSi (va_Run.run (va_runV (As := [.int (1 : Int32), .int a1]) (rest := [.int r_1]) F (mX4_number (l := l) (D := D) (cI := cI) (cJ := cJ) (cZ := cZ) (ad := ad) h) (cwV 2 F.2.2.2.2 gX4_result_X4_number rfl rfl rfl kV_X4_number ⟨Nat.le_of_ble_eq_true rfl, Nat.le_of_ble_eq_true rfl⟩) ⟨rp_blind, va_recv hz.1 hP (ci := 2) (q0 := 0) rfl rfl, rp_pre hz hP (.ref (ad 9) :: [.int (1 : Int32), .int a1])⟩ rfl rfl hl.1 rfl (lv_room (Nat.le_of_ble_eq_true rfl)) dX4_result_9 ⟨Nat.le_of_ble_eq_true rfl, Nat.le_of_ble_eq_true rfl⟩)) (fun r_2 h => ?_)
  refine lv_imul F.1 F.2.1 dX4_result_12 ?_
  refine lv_aload_n F.1 F.2.1 dX4_result_13 rfl (lv_at hl 0 rfl) ?_
  refine lv_iconst (v := (2 : Int32)) F.1 F.2.1 dX4_result_14 (by decide) ?_
  refine lv_iload_n F.1 F.2.1 dX4_result_15 rfl (lv_at hl 1 rfl) ?_
  refine vp_callSi (va_Run.run (va_runV (As := [.int (2 : Int32), .int a1]) (rest := [.int (r_1 * r_2)]) F (mX4_number (l := l) (D := D) (cI := cI) (cJ := cJ) (cZ := cZ) (ad := ad) h) (cwV 2 F.2.2.2.2 gX4_result_X4_number rfl rfl rfl kV_X4_number ⟨Nat.le_of_ble_eq_true rfl, Nat.le_of_ble_eq_true rfl⟩) ⟨rp_blind, va_recv hz.1 hP (ci := 2) (q0 := 0) rfl rfl, rp_pre hz hP (.ref (ad 9) :: [.int (2 : Int32), .int a1])⟩ rfl rfl hl.1 rfl (lv_room (Nat.le_of_ble_eq_true rfl)) dX4_result_16 ⟨Nat.le_of_ble_eq_true rfl, Nat.le_of_ble_eq_true rfl⟩)) (fun r_3 h => ?_)
  refine lv_aload_n F.1 F.2.1 dX4_result_19 rfl (lv_at hl 0 rfl) ?_
  refine lv_iconst (v := (3 : Int32)) F.1 F.2.1 dX4_result_20 (by decide) ?_
  refine lv_iload_n F.1 F.2.1 dX4_result_21 rfl (lv_at hl 1 rfl) ?_
  refine vp_callSi (va_Run.run (va_runV (As := [.int (3 : Int32), .int a1]) (rest := [.int r_3, .int (r_1 * r_2)]) F (mX4_number (l := l) (D := D) (cI := cI) (cJ := cJ) (cZ := cZ) (ad := ad) h) (cwV 2 F.2.2.2.2 gX4_result_X4_number rfl rfl rfl kV_X4_number ⟨Nat.le_of_ble_eq_true rfl, Nat.le_of_ble_eq_true rfl⟩) ⟨rp_blind, va_recv hz.1 hP (ci := 2) (q0 := 0) rfl rfl, rp_pre hz hP (.ref (ad 9) :: [.int (3 : Int32), .int a1])⟩ rfl rfl hl.1 rfl (lv_room (Nat.le_of_ble_eq_true rfl)) dX4_result_22 ⟨Nat.le_of_ble_eq_true rfl, Nat.le_of_ble_eq_true rfl⟩)) (fun r_4 h => ?_)
  refine lv_imul F.1 F.2.1 dX4_result_25 ?_
  refine lv_iadd F.1 F.2.1 dX4_result_26 ?_
  refine lv_aload_n F.1 F.2.1 dX4_result_27 rfl (lv_at hl 0 rfl) ?_
  refine lv_iconst (v := (4 : Int32)) F.1 F.2.1 dX4_result_28 (by decide) ?_
  refine lv_iload_n F.1 F.2.1 dX4_result_29 rfl (lv_at hl 1 rfl) ?_
  refine vp_callSi (va_Run.run (va_runV (As := [.int (4 : Int32), .int a1]) (rest := [.int ((r_1 * r_2) + (r_3 * r_4))]) F (mX4_number (l := l) (D := D) (cI := cI) (cJ := cJ) (cZ := cZ) (ad := ad) h) (cwV 2 F.2.2.2.2 gX4_result_X4_number rfl rfl rfl kV_X4_number ⟨Nat.le_of_ble_eq_true rfl, Nat.le_of_ble_eq_true rfl⟩) ⟨rp_blind, va_recv hz.1 hP (ci := 2) (q0 := 0) rfl rfl, rp_pre hz hP (.ref (ad 9) :: [.int (4 : Int32), .int a1])⟩ rfl rfl hl.1 rfl (lv_room (Nat.le_of_ble_eq_true rfl)) dX4_result_30 ⟨Nat.le_of_ble_eq_true rfl, Nat.le_of_ble_eq_true rfl⟩)) (fun r_5 h => ?_)
  refine lv_iadd F.1 F.2.1 dX4_result_33 ?_
  exact hret _ _ _ h dX4_result_34
theorem mX4_result {l : Launch} {D : va_G} {cI cJ cZ : ClassId} {ad : Nat → Nat} {S : S4} {a1 : Int32} {Q : Int32 → Prop} (h : wX4_result S a1 Q) : Met l yX4_result wsX4_result rX4_result (va_Pc [.ref (ad 9), .int a1] (rp D cI cJ cZ (w4 ad cI S))) (vp_Si Q) 0 0 (fun _ => False) :=
  enter_i (by decide +kernel) rfl (Nat.le_of_ble_eq_true rfl) (fun p e s m args below meth c QQ F hz hret => bX4_result F hz.1 hz.2 hret h)
abbrev rX4_overAllOrders : Room := { frames := 2, cells := 0, slots := 0, locals := 43 }
theorem kV_X4_overAllOrders : yX4_overAllOrders.cls = RX4 ∧ yX4_overAllOrders.cls ≠ "java/lang/invoke/MethodHandle" ∧ yX4_overAllOrders.cls ≠ "java/lang/invoke/VarHandle" ∧ (parseMethodDescriptor yX4_overAllOrders.desc).map (fun d => d.parameters.length) = some 1 := by decide +kernel
theorem uX4_overAllOrders_1 : Cond.fieldLink RX4 30 "SumMoved$Switches" "ORDERS_WITH" "[I" ∈ wsX4_overAllOrders := List.mem_of_getElem? (i := 1) rfl
set_option maxRecDepth 100000 in
theorem kX4_overAllOrders_18 {p2 : Int32} {S : S4} (F : CallFix p m c cX4_overAllOrders 5 s args wsX4_overAllOrders RX4) (hz : gz D cI cJ cZ s) (hP : va_P D vwCl (w4 ad cI S) s.heap) (ht : gt s s.heap) {K : Int32 × Int32 → Prop} (hK : ∀ x : Int32 × Int32, K x → match x with | (x3, x4) => ∀ ls : Array Slot, lv_has ls 5 [(0, .ref (ad 9)), (2, .int p2), (3, .int x3), (4, .int x4)] → W p l e rX4_overAllOrders s m args below meth c s.heap [] 0 0 QQ (F0 m 66 ls [])) : ∀ (nn : Nat) (x : Int32 × Int32), iter (sX4_overAllOrders_18 S p2 K) nn x → match x with | (x3, x4) => ∀ ls : Array Slot, lv_has ls 5 [(0, .ref (ad 9)), (2, .int p2), (3, .int x3), (4, .int x4)] → W p l e rX4_overAllOrders s m args below meth c s.heap [] 0 0 QQ (F0 m 18 ls []) := by
  refine iter_walk ?_
  rintro again18 ⟨x3, x4⟩ ih18 h ls hl
  have hK18 := hK
  have ht0 := ht
  obtain ⟨t1, t2, hZ1, hT1, hZ2, hT2⟩ := ht0
  refine lv_iload F.1 F.2.1 dX4_overAllOrders_18 (lv_at hl 3 rfl) ?_
  refine lv_bipush (v := (31 : Int32)) F.1 F.2.1 dX4_overAllOrders_20 (by decide) ?_
  refine lv_icmp_gt (tgt := 66) F.1 F.2.1 dX4_overAllOrders_22 (by decide) (fun hc => ?_) (fun hc => ?_)
  · have h := h.1 (hc)
    exact hK18 (x3, x4) h ls (lv_sub hl [0, 1, 2, 3] rfl)
  · have h := h.2 hc
    refine lv_iload F.1 F.2.1 dX4_overAllOrders_25 (lv_at hl 3 rfl) ?_
    refine lv_iload_n F.1 F.2.1 dX4_overAllOrders_27 rfl (lv_at hl 1 rfl) ?_
    refine lv_iand F.1 F.2.1 dX4_overAllOrders_28 ?_
    refine lv_if_ne (tgt := 60) F.1 F.2.1 dX4_overAllOrders_29 (by decide) (fun hc => ?_) (fun hc => ?_)
    · have h := h.2 hc
      refine lv_iinc (v := x4 + 1) (lv' := [(4, .int (x4 + 1)), (0, .ref (ad 9)), (2, .int p2), (3, .int x3)]) F.1 F.2.1 dX4_overAllOrders_60 hl (k := 3) rfl rfl (by decide) rfl (fun ls hl => ?_)
      refine lv_goto (tgt := 18) F.1 F.2.1 dX4_overAllOrders_63 (by decide) ?_
      exact ih18 (x3, x4 + 1) h ls (lv_sub hl [1, 2, 3, 0] rfl)
    · have h := h.1 (hc)
      refine lv_iload_n F.1 F.2.1 dX4_overAllOrders_32 rfl (lv_at hl 2 rfl) ?_
      refine va_gets F.1 F.2.1 hZ2 va_S.rf F.2.2.2.1 (F.2.2.2.2 _ uX4_overAllOrders_1) (fun _ h9 => h9) dX4_overAllOrders_33 ?_
      refine lv_iload F.1 F.2.1 dX4_overAllOrders_36 (lv_at hl 3 rfl) ?_
      refine vp_callSi (va_Run.run (va_runS (As := [.int x4]) (rest := [.ref t2, .int x3]) F (mJ6_bitCount_0f7a4 (l := l) (D := D) (cI := cI) (cJ := cJ) (cZ := cZ) h) (va_cwS 1 F.2.2.2.2 gX4_overAllOrders_J6_bitCount_0f7a4 rfl rfl rfl kS_J6_bitCount_0f7a4 ⟨Nat.le_of_ble_eq_true rfl, Nat.le_of_ble_eq_true rfl⟩) ⟨rp_blind, rp_pre hz (hP.sub (ws' := []) [] rfl) [.int x4]⟩ rfl rfl hl.1 rfl (lv_room (Nat.le_of_ble_eq_true rfl)) dX4_overAllOrders_38 ⟨Nat.le_of_ble_eq_true rfl, Nat.le_of_ble_eq_true rfl⟩)) (fun r_3 h => ?_)
      refine va_ti (v := .int (tb_O r_3.toNatClampNeg)) F.1 F.2.1 hT2 va_S.rf h.1 rfl dX4_overAllOrders_41 ?_
      have h := h.2
      refine lv_aload_n F.1 F.2.1 dX4_overAllOrders_42 rfl (lv_at hl 0 rfl) ?_
      refine lv_iload F.1 F.2.1 dX4_overAllOrders_43 (lv_at hl 3 rfl) ?_
      refine lv_iload_n F.1 F.2.1 dX4_overAllOrders_45 rfl (lv_at hl 1 rfl) ?_
      refine lv_ior F.1 F.2.1 dX4_overAllOrders_46 ?_
      refine vp_callSi (va_Run.run (va_runV (As := [.int (x4 ||| p2)]) (rest := [.int (tb_O r_3.toNatClampNeg), .int x3]) F (mX4_result (l := l) (D := D) (cI := cI) (cJ := cJ) (cZ := cZ) (ad := ad) h) (cwV 1 F.2.2.2.2 gX4_overAllOrders_X4_result rfl rfl rfl kV_X4_result ⟨Nat.le_of_ble_eq_true rfl, Nat.le_of_ble_eq_true rfl⟩) ⟨rp_blind, va_recv hz.1 hP (ci := 2) (q0 := 0) rfl rfl, rp_pre hz hP (.ref (ad 9) :: [.int (x4 ||| p2)])⟩ rfl rfl hl.1 rfl (lv_room (Nat.le_of_ble_eq_true rfl)) dX4_overAllOrders_47 ⟨Nat.le_of_ble_eq_true rfl, Nat.le_of_ble_eq_true rfl⟩)) (fun r_4 h => ?_)
      refine lv_aload_n F.1 F.2.1 dX4_overAllOrders_50 rfl (lv_at hl 0 rfl) ?_
      refine lv_iload F.1 F.2.1 dX4_overAllOrders_51 (lv_at hl 3 rfl) ?_
      refine vp_callSi (va_Run.run (va_runV (As := [.int x4]) (rest := [.int r_4, .int (tb_O r_3.toNatClampNeg), .int x3]) F (mX4_result (l := l) (D := D) (cI := cI) (cJ := cJ) (cZ := cZ) (ad := ad) h) (cwV 1 F.2.2.2.2 gX4_overAllOrders_X4_result rfl rfl rfl kV_X4_result ⟨Nat.le_of_ble_eq_true rfl, Nat.le_of_ble_eq_true rfl⟩) ⟨rp_blind, va_recv hz.1 hP (ci := 2) (q0 := 0) rfl rfl, rp_pre hz hP (.ref (ad 9) :: [.int x4])⟩ rfl rfl hl.1 rfl (lv_room (Nat.le_of_ble_eq_true rfl)) dX4_overAllOrders_53 ⟨Nat.le_of_ble_eq_true rfl, Nat.le_of_ble_eq_true rfl⟩)) (fun r_5 h => ?_)
      refine lv_isub F.1 F.2.1 dX4_overAllOrders_56 ?_
      refine lv_imul F.1 F.2.1 dX4_overAllOrders_57 ?_
      refine lv_iadd F.1 F.2.1 dX4_overAllOrders_58 ?_
      refine lv_topi (fun y_6 ey_6 => ?_)
      have h := h y_6 ey_6
      refine lv_istore_n (lv' := [(3, .int y_6), (0, .ref (ad 9)), (2, .int p2), (4, .int x4)]) F.1 F.2.1 dX4_overAllOrders_59 rfl hl (by decide) rfl (fun ls hl => ?_)
      refine lv_iinc (v := x4 + 1) (lv' := [(4, .int (x4 + 1)), (3, .int y_6), (0, .ref (ad 9)), (2, .int p2)]) F.1 F.2.1 dX4_overAllOrders_60 hl (k := 3) rfl rfl (by decide) rfl (fun ls hl => ?_)
      refine lv_goto (tgt := 18) F.1 F.2.1 dX4_overAllOrders_63 (by decide) ?_
      exact ih18 (y_6, x4 + 1) h ls (lv_sub hl [2, 3, 1, 0] rfl)
set_option maxRecDepth 100000 in
theorem bX4_overAllOrders {a1 : Int32} {S : S4} {Q : Int32 → Prop} (F : CallFix p m c cX4_overAllOrders 5 s args wsX4_overAllOrders RX4) (hz : gz D cI cJ cZ s) (hP : va_P D vwCl (w4 ad cI S) s.heap) (ht : gt s s.heap) (hret : ∀ (v : Int32) (pc : Nat) (ls : Array Slot), Q v → decode cX4_overAllOrders pc = .ok (.ireturn, 1) → W p l e rX4_overAllOrders s m args below meth c s.heap [] 0 0 QQ (F0 m pc ls [.int v])) (h : wX4_overAllOrders S a1 Q) : ∀ ls : Array Slot, lv_has ls 5 [(0, .ref (ad 9)), (1, .int a1)] → W p l e rX4_overAllOrders s m args below meth c s.heap [] 0 0 QQ (F0 m 0 ls []) := by
  intro ls hl
  have ht0 := ht
  obtain ⟨t1, t2, hZ1, hT1, hZ2, hT2⟩ := ht0
  refine lv_iload_n F.1 F.2.1 dX4_overAllOrders_0 rfl (lv_at hl 1 rfl) ?_
  refine vp_callSi (va_Run.run (va_runS (As := [.int a1]) (rest := []) F (mX4_has (l := l) (D := D) (cI := cI) (cJ := cJ) (cZ := cZ) h) (va_cwS 1 F.2.2.2.2 gX4_overAllOrders_X4_has rfl rfl rfl kS_X4_has ⟨Nat.le_of_ble_eq_true rfl, Nat.le_of_ble_eq_true rfl⟩) ⟨rp_blind, rp_pre hz (hP.sub (ws' := []) [] rfl) [.int a1]⟩ rfl rfl hl.1 rfl (lv_room (Nat.le_of_ble_eq_true rfl)) dX4_overAllOrders_1 ⟨Nat.le_of_ble_eq_true rfl, Nat.le_of_ble_eq_true rfl⟩)) (fun r_1 h => ?_)
  obtain ⟨hbr_1, h⟩ := h
  refine lv_if_ne (tgt := 9) F.1 F.2.1 dX4_overAllOrders_4 (by decide) (fun hc => ?_) (fun hc => ?_)
  · have h := h.2 hc
    refine lv_iconst (v := (1 : Int32)) F.1 F.2.1 dX4_overAllOrders_9 (by decide) ?_
    refine lv_iload_n F.1 F.2.1 dX4_overAllOrders_10 rfl (lv_at hl 1 rfl) ?_
    refine lv_ishl F.1 F.2.1 dX4_overAllOrders_11 ?_
    refine lv_topi (fun y_2 ey_2 => ?_)
    have h := h y_2 ey_2
    refine lv_istore_n (lv' := [(2, .int y_2), (0, .ref (ad 9)), (1, .int a1)]) F.1 F.2.1 dX4_overAllOrders_12 rfl hl (by decide) rfl (fun ls hl => ?_)
    refine lv_iconst (v := (0 : Int32)) F.1 F.2.1 dX4_overAllOrders_13 (by decide) ?_
    refine lv_istore_n (lv' := [(3, .int (0 : Int32)), (2, .int y_2), (0, .ref (ad 9)), (1, .int a1)]) F.1 F.2.1 dX4_overAllOrders_14 rfl hl (by decide) rfl (fun ls hl => ?_)
    refine lv_iconst (v := (0 : Int32)) F.1 F.2.1 dX4_overAllOrders_15 (by decide) ?_
    refine lv_istore (lv' := [(4, .int (0 : Int32)), (3, .int (0 : Int32)), (2, .int y_2), (0, .ref (ad 9)), (1, .int a1)]) F.1 F.2.1 dX4_overAllOrders_16 hl (by decide) rfl (fun ls hl => ?_)
    obtain ⟨nn, h⟩ := h
    refine kX4_overAllOrders_18 F hz hP ht (fun ⟨x3, x4⟩ h ls hl => ?_) nn _ h ls (lv_sub hl [3, 2, 1, 0] rfl)
    refine lv_iload_n F.1 F.2.1 dX4_overAllOrders_66 rfl (lv_at hl 2 rfl) ?_
    exact hret _ _ _ h dX4_overAllOrders_67
  · have h := h.1 (hc)
    refine lv_iconst (v := (0 : Int32)) F.1 F.2.1 dX4_overAllOrders_7 (by decide) ?_
    exact hret _ _ _ h dX4_overAllOrders_8
theorem mX4_overAllOrders {l : Launch} {D : va_G} {cI cJ cZ : ClassId} {ad : Nat → Nat} {S : S4} {a1 : Int32} {Q : Int32 → Prop} (h : wX4_overAllOrders S a1 Q) : Met l yX4_overAllOrders wsX4_overAllOrders rX4_overAllOrders (va_Pc [.ref (ad 9), .int a1] (rpt D cI cJ cZ (w4 ad cI S))) (vp_Si Q) 0 0 (fun _ => False) :=
  enter_i (by decide +kernel) rfl (Nat.le_of_ble_eq_true rfl) (fun p e s m args below meth c QQ F hz hret => bX4_overAllOrders F hz.1.1 hz.1.2 hz.2 hret h)
end WALKS
