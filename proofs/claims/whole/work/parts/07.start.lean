/-! THE LAW FROM ITS ENTRY, printed by wip/whole/gen_start.py: open in 'Eqs' and in the relation at the start -/
set_option maxRecDepth 100000 in
theorem uL_n1 : Cond.methodLinkNest RX1 9 yX5_isIn "SumMoved" ∈ lw_tbl := List.mem_of_getElem? (i := 213) rfl
set_option maxRecDepth 100000 in
theorem uL_n2 : Cond.methodLinkNest RX4 16 yX5_isIn "SumMoved" ∈ lw_tbl := List.mem_of_getElem? (i := 333) rfl
set_option maxRecDepth 100000 in
theorem uL_n3 : Cond.methodLinkNest RX3 52 yX5_isIn "SumMoved" ∈ lw_tbl := List.mem_of_getElem? (i := 444) rfl
set_option maxRecDepth 100000 in
theorem uL_aI : Cond.arrayClass .int ∈ lw_tbl := List.mem_of_getElem? (i := 74) rfl
set_option maxRecDepth 100000 in
theorem uL_aJ : Cond.arrayClass .long ∈ lw_tbl := List.mem_of_getElem? (i := 137) rfl
set_option maxRecDepth 100000 in
theorem uL_aZ : Cond.arrayClass .boolean ∈ lw_tbl := List.mem_of_getElem? (i := 545) rfl
set_option maxRecDepth 100000 in
theorem uL_s1 : Cond.laysStatic RX1 "PLACES" "[I" ∈ lw_tbl := List.mem_of_getElem? (i := 288) rfl
set_option maxRecDepth 100000 in
theorem uL_s2 : Cond.laysStatic RX4 "ORDERS_WITH" "[I" ∈ lw_tbl := List.mem_of_getElem? (i := 360) rfl
set_option maxRecDepth 100000 in
theorem uL_i1 : Cond.initialized RX1 ∈ lw_tbl := List.mem_of_getElem? (i := 30) rfl
set_option maxRecDepth 100000 in
theorem uL_i4 : Cond.initialized RX4 ∈ lw_tbl := List.mem_of_getElem? (i := 27) rfl
set_option maxRecDepth 100000 in
theorem uL_k2 : Cond.instantiable RX2 8 ∈ lw_tbl := List.mem_of_getElem? (i := 44) rfl
set_option maxRecDepth 100000 in
theorem uL_k3 : Cond.instantiable RX3 14 ∈ lw_tbl := List.mem_of_getElem? (i := 89) rfl
set_option maxRecDepth 100000 in
theorem uL_k4 : Cond.instantiable RX4 2 ∈ lw_tbl := List.mem_of_getElem? (i := 76) rfl
set_option maxRecDepth 100000 in
theorem uL_k5 : Cond.instantiable RX5 3 ∈ lw_tbl := List.mem_of_getElem? (i := 36) rfl
set_option maxRecDepth 100000 in
theorem uL_k6 : Cond.instantiable RX6 19 ∈ lw_tbl := List.mem_of_getElem? (i := 482) rfl
set_option maxRecDepth 100000 in
theorem uL_j5 : Cond.initialized RX5 ∈ lw_tbl := List.mem_of_getElem? (i := 25) rfl
set_option maxRecDepth 100000 in
theorem uL_j6 : Cond.initialized RX6 ∈ lw_tbl := List.mem_of_getElem? (i := 29) rfl
set_option maxRecDepth 100000 in
theorem uL_c5 : Cond.classLink RL 7 RX5 ∈ lw_tbl := List.mem_of_getElem? (i := 35) rfl
set_option maxRecDepth 100000 in
theorem uL_c6 : Cond.classLink RL 10 RX6 ∈ lw_tbl := List.mem_of_getElem? (i := 481) rfl
set_option maxRecDepth 100000 in
theorem uL_m5 : Cond.methodLink RL 9 yX5_init ∈ lw_tbl := List.mem_of_getElem? (i := 37) rfl
set_option maxRecDepth 100000 in
theorem uL_m6 : Cond.methodLink RL 12 yX6_init ∈ lw_tbl := List.mem_of_getElem? (i := 483) rfl
set_option maxRecDepth 100000 in
theorem uL_o5 : Cond.instanceMethod yX5_init ∈ lw_tbl := List.mem_of_getElem? (i := 38) rfl
set_option maxRecDepth 100000 in
theorem uL_o6 : Cond.instanceMethod yX6_init ∈ lw_tbl := List.mem_of_getElem? (i := 484) rfl
set_option maxRecDepth 100000 in
theorem gt_P {s : State} {b : Nat} (hts : ∀ w ∈ lw_tbl, w.before #[Value.ref b] s = true) (hgv : (Jvm.Cond.and given_1 narrow_1).before #[Value.ref b] s = true) : ∃ t : Nat, va_Z RX1 "PLACES" "[I" (.ref t) tb_N s s.heap ∧ va_T .int t 3 (fun j => .int (tb_P j)) tb_N s s.heap := by
  have hg := flat_of_before _ hgv
  have harr := hg (Cond.arrayOf (.static "SumMoved$Heaps" "PLACES" "[I") .int) (by decide +kernel)
  have hlen := va_eqt (hg (Cond.eq (.length (.static "SumMoved$Heaps" "PLACES" "[I")) (.int 3)) (by decide +kernel))
  have eP0 := va_eqt (hg (Cond.eq (.elem (.static "SumMoved$Heaps" "PLACES" "[I") (.int 0)) (.int 1)) (by decide +kernel))
  have eP1 := va_eqt (hg (Cond.eq (.elem (.static "SumMoved$Heaps" "PLACES" "[I") (.int 1)) (.int 9)) (by decide +kernel))
  have eP2 := va_eqt (hg (Cond.eq (.elem (.static "SumMoved$Heaps" "PLACES" "[I") (.int 2)) (.int 81)) (by decide +kernel))
  obtain ⟨t, h1, h2⟩ := va_Tof (A := tb_N) (N := 3) (f := fun j => .int (tb_P j)) (by decide) harr hlen (fun j hj => by
    rcases (show j = 0 ∨ j = 1 ∨ j = 2 by omega) with rfl | rfl | rfl
    · exact eP0
    · exact eP1
    · exact eP2) (fun _ _ h => h)
  exact ⟨t, va_Zof (hts _ uL_s1) (hts _ uL_i1) h1 (fun _ _ h => h), h2⟩
set_option maxRecDepth 100000 in
theorem gt_O {s : State} {b : Nat} (hts : ∀ w ∈ lw_tbl, w.before #[Value.ref b] s = true) (hgv : (Jvm.Cond.and given_1 narrow_1).before #[Value.ref b] s = true) : ∃ t : Nat, va_Z RX4 "ORDERS_WITH" "[I" (.ref t) tb_N s s.heap ∧ va_T .int t 5 (fun j => .int (tb_O j)) tb_N s s.heap := by
  have hg := flat_of_before _ hgv
  have harr := hg (Cond.arrayOf (.static "SumMoved$Switches" "ORDERS_WITH" "[I") .int) (by decide +kernel)
  have hlen := va_eqt (hg (Cond.eq (.length (.static "SumMoved$Switches" "ORDERS_WITH" "[I")) (.int 5)) (by decide +kernel))
  have eO0 := va_eqt (hg (Cond.eq (.elem (.static "SumMoved$Switches" "ORDERS_WITH" "[I") (.int 0)) (.int 24)) (by decide +kernel))
  have eO1 := va_eqt (hg (Cond.eq (.elem (.static "SumMoved$Switches" "ORDERS_WITH" "[I") (.int 1)) (.int 6)) (by decide +kernel))
  have eO2 := va_eqt (hg (Cond.eq (.elem (.static "SumMoved$Switches" "ORDERS_WITH" "[I") (.int 2)) (.int 4)) (by decide +kernel))
  have eO3 := va_eqt (hg (Cond.eq (.elem (.static "SumMoved$Switches" "ORDERS_WITH" "[I") (.int 3)) (.int 6)) (by decide +kernel))
  have eO4 := va_eqt (hg (Cond.eq (.elem (.static "SumMoved$Switches" "ORDERS_WITH" "[I") (.int 4)) (.int 24)) (by decide +kernel))
  obtain ⟨t, h1, h2⟩ := va_Tof (A := tb_N) (N := 5) (f := fun j => .int (tb_O j)) (by decide) harr hlen (fun j hj => by
    rcases (show j = 0 ∨ j = 1 ∨ j = 2 ∨ j = 3 ∨ j = 4 by omega) with rfl | rfl | rfl | rfl | rfl
    · exact eO0
    · exact eO1
    · exact eO2
    · exact eO3
    · exact eO4) (fun _ _ h => h)
  exact ⟨t, va_Zof (hts _ uL_s2) (hts _ uL_i4) h1 (fun _ _ h => h), h2⟩
set_option maxHeartbeats 4000000 in
set_option maxRecDepth 100000 in
theorem whole_open {Rel : SX → S6 → Prop} (E : Eqs Rel) (h0 : Rel z5 z6) {p : Program} {e : Env} {s : State} {m : MethodId} {below : List Frame} {meth : Method} {c : Code} (l : Launch) {b L : Nat} {xs : Nat → Int32} (hL : L ≤ 3072) (C0 : lw_At p s m meth c b L xs) : W p l e room_1 s m #[Value.ref b] below meth c s.heap [] 0 0 (lw_Z below #[Value.ref b] s) (entryFrame m ([Value.ref b] : List Value).toArray 4) := by
  obtain ⟨hx, hb, hr, hml, hown, hts, hX, hbl, hlocks, hgv⟩ := id C0
  have htl : ∀ w ∈ wsL_law, w.before #[Value.ref b] s = true := fun w h => hts w (wsL_law_in w h)
  have F : CallFix p m c cL_law 4 s #[Value.ref b] wsL_law RL := ⟨hx, hb, hml, hown, htl⟩
  have hA : ∀ q : Nat, s.heap.size ≤ q → (fun q : Nat => s.heap.size ≤ q) q := fun _ h => h
  obtain ⟨c0, iS0, hKn0⟩ := u_known (C := RX2) (T := TX2) (N := 8) (n := 8) hts inX2 (hts _ uL_k2)
  obtain ⟨c1, iS1, hKn1⟩ := u_known (C := RX3) (T := TX3) (N := 14) (n := 14) hts inX3 (hts _ uL_k3)
  obtain ⟨c2, iS2, hKn2⟩ := u_known (C := RX4) (T := TX4) (N := 2) (n := 2) hts inX4 (hts _ uL_k4)
  obtain ⟨c3, iS3, hKn3⟩ := u_known (C := RX5) (T := TX5) (N := 3) (n := 3) hts inX5 (hts _ uL_k5)
  obtain ⟨c4, iS4, hKn4⟩ := u_known (C := RX6) (T := TX6) (N := 19) (n := 19) hts inX6 (hts _ uL_k6)
  obtain ⟨D, hKc⟩ : ∃ D : va_G, ∀ (k : Nat) (q : vw_C), vwCl[k]? = some q → u_Kn s q.1 q.2.1 q.2.2 (D.1 k) (D.2 k) := by
    refine ⟨(fun k => match k with | 0 => c0 | 1 => c1 | 2 => c2 | 3 => c3 | _ => c4, fun k => match k with | 0 => iS0 | 1 => iS1 | 2 => iS2 | 3 => iS3 | _ => iS4), ?_⟩
    intro k q hq
    match k, hq with
    | 0, hq => cases hq; exact hKn0
    | 1, hq => cases hq; exact hKn1
    | 2, hq => cases hq; exact hKn2
    | 3, hq => cases hq; exact hKn3
    | 4, hq => cases hq; exact hKn4
    | k + 5, hq => simp [vwCl] at hq
  obtain ⟨cI, kI, pI, fI, gI, hI⟩ := Cond.arrayClass_spec (hts _ uL_aI)
  obtain ⟨cJ, kJ, pJ, fJ, gJ, hJ⟩ := Cond.arrayClass_spec (hts _ uL_aJ)
  obtain ⟨cZ, kZ, pZ, fZ, gZ, hZ⟩ := Cond.arrayClass_spec (hts _ uL_aZ)
  have hK : va_K D vwCl [(cI, .int), (cJ, .long), (cZ, .boolean)] s := by
    refine ⟨hKc, fun k q h => ?_⟩
    match k, h with
    | 0, h => cases h; exact ⟨fun n z => ⟨fun k h => (by cases h), kI, gI, pI, hI⟩, fI⟩
    | 1, h => cases h; exact ⟨fun n z => ⟨fun k h => (by cases h), kJ, gJ, pJ, hJ⟩, fJ⟩
    | 2, h => cases h; exact ⟨fun n z => ⟨fun k h => (by cases h), kZ, gZ, pZ, hZ⟩, fZ⟩
    | k + 3, h => simp at h
  have hz : gz D cI cJ cZ s := ⟨hK, va_Nw.of rfl (hts _ uL_n1), va_Nw.of rfl (hts _ uL_n2), va_Nw.of rfl (hts _ uL_n3)⟩
  have hgt : gt s s.heap := by
    obtain ⟨t1, h1, h2⟩ := gt_P hts hgv
    obtain ⟨t2, h3, h4⟩ := gt_O hts hgv
    exact ⟨t1, t2, h1, h2, h3, h4⟩
  have hS : va_S (fun q : Nat => s.heap.size ≤ q) s.heap s.heap [] := va_S.rf
  have hP : va_P D vwCl [] s.heap := fun k q h => by simp at h
  have hD : va_D (fun q : Nat => s.heap.size ≤ q) [] := ⟨fun i j p q h => by simp at h, fun k q h => by simp at h⟩
  have hl := lv_entry ([.ref b]) (n := 4) (Nat.le_of_ble_eq_true rfl)
  rw [lg_entry_eq]
  generalize (lg_sl ([.ref b]) ++ List.replicate (4 - (lg_sl ([.ref b])).length) Slot.unset).toArray = ls at hl ⊢
  have hl : lv_has ls 4 [(0, .ref b)] := hl
  refine va_new (ci := 3) (fs := [.null, .null, .null]) (C := RX5) (T := TX5) (N := 3) F.1 F.2.1 hts inX5 tyX5 tyX5_ok hown (hts _ uL_c5) (hts _ uL_k5) (hts _ uL_j5) hz.1 hP hD hS hA rfl (fun j hj => by rcases (show j = 0 ∨ j = 1 ∨ j = 2 by omega) with rfl | rfl | rfl <;> rfl) (Nat.le_of_ble_eq_true rfl) (Nat.le_of_ble_eq_true rfl) dL_law_0 (fun q0 H hP hD hS => ?_)
  have hP : va_P D vwCl ([(q0, .inr (3, [.null, .null, .null]))]) H := hP
  have hD : va_D (fun q : Nat => s.heap.size ≤ q) ([(q0, .inr (3, [.null, .null, .null]))]) := hD
  refine W.widen (k := 1) (n := 3) (by omega) (by omega) ?_
  refine lv_dup F.1 F.2.1 dL_law_3 rfl ?_
  have hPc := hP.sub (ws' := [(q0, .inr (3, [.null, .null, .null]))]) [0] rfl
  have hDc := hD.sub (ws' := [(q0, .inr (3, [.null, .null, .null]))]) [0] (by decide) rfl
  have hFc := va_free (wc := [(q0, .inr (3, [.null, .null, .null]))]) hD hS hA [0] rfl
  refine va_callv (va_runI (As := []) (rest := [.ref q0]) F (mX5_init (l := l) (D := D) (cI := cI) (cJ := cJ) (cZ := cZ) H.size (q := q0)) (cwI 0 F.2.2.2.2 ggL_law_X5_init rfl rfl rfl (hts _ uL_j5) (hts _ uL_m5) (hts _ uL_o5) rfl (by decide +kernel) ⟨Nat.le_of_ble_eq_true rfl, Nat.le_of_ble_eq_true rfl⟩) ⟨wp_blind, wp_pre hz hPc hDc (.ref q0 :: [])⟩ rfl rfl hl.1 rfl (lv_room (Nat.le_of_ble_eq_true rfl)) dL_law_4 ⟨Nat.le_of_ble_eq_true rfl, Nat.le_of_ble_eq_true rfl⟩) hS (fun q _ h => hFc q h) hFc (fun ad t H1 locs ht hvm hw hB hz1 hk1 hS => ?_)
  obtain ⟨hP1, hD1⟩ := hB
  rw [ht] at hP1
  obtain ⟨hP, hD⟩ := va_join (wr := []) (w1 := w5 ad cI cJ z5) hP hD [0] [] rfl rfl (by decide) (by decide) hk1 hFc hP1 hD1
  generalize H1 = H at hP hS ⊢
  have hPn : va_P D vwCl (w5 ad cI cJ z5) H := hP
  have hDn : va_D (fun q : Nat => s.heap.size ≤ q) (w5 ad cI cJ z5) := hD
  have hSn := hS
  have hw : ad 0 = q0 := hw
  subst hw
  have hP := hPn
  have hD := hDn
  have hS := hSn
  refine W.widen (k := 18) (n := 1957) (by omega) (by omega) ?_
  refine lv_astore_n (lv' := [(1, .ref (ad 0)), (0, .ref b)]) F.1 F.2.1 dL_law_7 rfl hl (by decide) rfl (fun ls hl => ?_)
  refine va_new (ci := 4) (fs := [.int 0, .null, .null, .null, .null, .null, .null, .null, .null, .null, .int 0, .int 0, .int 0, .int 0, .int 0, .null, .null, .null, .null]) (C := RX6) (T := TX6) (N := 19) F.1 F.2.1 hts inX6 tyX6 tyX6_ok hown (hts _ uL_c6) (hts _ uL_k6) (hts _ uL_j6) hz.1 hP hD hS hA rfl (fun j hj => by rcases (show j = 0 ∨ j = 1 ∨ j = 2 ∨ j = 3 ∨ j = 4 ∨ j = 5 ∨ j = 6 ∨ j = 7 ∨ j = 8 ∨ j = 9 ∨ j = 10 ∨ j = 11 ∨ j = 12 ∨ j = 13 ∨ j = 14 ∨ j = 15 ∨ j = 16 ∨ j = 17 ∨ j = 18 by omega) with rfl | rfl | rfl | rfl | rfl | rfl | rfl | rfl | rfl | rfl | rfl | rfl | rfl | rfl | rfl | rfl | rfl | rfl | rfl <;> rfl) (Nat.le_of_ble_eq_true rfl) (Nat.le_of_ble_eq_true rfl) dL_law_8 (fun q6 H hP hD hS => ?_)
  have hP : va_P D vwCl (w5 ad cI cJ z5 ++ [(q6, .inr (4, [.int 0, .null, .null, .null, .null, .null, .null, .null, .null, .null, .int 0, .int 0, .int 0, .int 0, .int 0, .null, .null, .null, .null]))]) H := hP
  have hD : va_D (fun q : Nat => s.heap.size ≤ q) (w5 ad cI cJ z5 ++ [(q6, .inr (4, [.int 0, .null, .null, .null, .null, .null, .null, .null, .null, .null, .int 0, .int 0, .int 0, .int 0, .int 0, .null, .null, .null, .null]))]) := hD
  refine W.widen (k := 19) (n := 1976) (by omega) (by omega) ?_
  refine lv_dup F.1 F.2.1 dL_law_11 rfl ?_
  have hPc := hP.sub (ws' := [(q6, .inr (4, [.int 0, .null, .null, .null, .null, .null, .null, .null, .null, .null, .int 0, .int 0, .int 0, .int 0, .int 0, .null, .null, .null, .null]))]) [18] rfl
  have hDc := hD.sub (ws' := [(q6, .inr (4, [.int 0, .null, .null, .null, .null, .null, .null, .null, .null, .null, .int 0, .int 0, .int 0, .int 0, .int 0, .null, .null, .null, .null]))]) [18] (by decide) rfl
  have hFc := va_free (wc := [(q6, .inr (4, [.int 0, .null, .null, .null, .null, .null, .null, .null, .null, .null, .int 0, .int 0, .int 0, .int 0, .int 0, .null, .null, .null, .null]))]) hD hS hA [18] rfl
  refine va_callv (va_runI (As := []) (rest := [.ref q6]) F (mX6_init (l := l) (D := D) (cI := cI) (cJ := cJ) (cZ := cZ) H.size (q := q6)) (cwI 0 F.2.2.2.2 ggL_law_X6_init rfl rfl rfl (hts _ uL_j6) (hts _ uL_m6) (hts _ uL_o6) rfl (by decide +kernel) ⟨Nat.le_of_ble_eq_true rfl, Nat.le_of_ble_eq_true rfl⟩) ⟨wp_blind, wp_pre hz hPc hDc (.ref q6 :: [])⟩ rfl rfl hl.1 rfl (lv_room (Nat.le_of_ble_eq_true rfl)) dL_law_12 ⟨Nat.le_of_ble_eq_true rfl, Nat.le_of_ble_eq_true rfl⟩) hS (fun q _ h => hFc q h) hFc (fun bd t H1 locs ht hvm hw hB hz1 hk1 hS => ?_)
  obtain ⟨hP1, hD1⟩ := hB
  rw [ht] at hP1
  obtain ⟨hP, hD⟩ := va_join (wr := w5 ad cI cJ z5) (w1 := w6 bd cI cZ z6) hP hD [18] [0, 1, 2, 3, 4, 5, 6, 7, 8, 9, 10, 11, 12, 13, 14, 15, 16, 17] rfl rfl (by decide) (by decide) hk1 hFc hP1 hD1
  generalize H1 = H at hP hS ⊢
  have hPn : va_P D vwCl (w5 ad cI cJ z5 ++ w6 bd cI cZ z6) H := hP
  have hDn : va_D (fun q : Nat => s.heap.size ≤ q) (w5 ad cI cJ z5 ++ w6 bd cI cZ z6) := hD
  have hSn := hS
  have hw : bd 0 = q6 := hw
  subst hw
  have hP := hPn
  have hD := hDn
  have hS := hSn
  refine W.widen (k := 32) (n := 3514) (by omega) (by omega) ?_
  refine lv_astore_n (lv' := [(2, .ref (bd 0)), (1, .ref (ad 0)), (0, .ref b)]) F.1 F.2.1 dL_law_15 rfl hl (by decide) rfl (fun ls hl => ?_)
  refine lv_iconst (v := 0) F.1 F.2.1 dL_law_16 (by decide) ?_
  refine lv_istore_n (lv' := [(3, .int 0), (2, .ref (bd 0)), (1, .ref (ad 0)), (0, .ref b)]) F.1 F.2.1 dL_law_17 rfl hl (by decide) rfl (fun ls hl => ?_)
  have hP5 := hP.sub (ws' := w5 ad cI cJ z5) [0, 1, 2, 3, 4, 5, 6, 7, 8, 9, 10, 11, 12, 13, 14, 15, 16, 17] rfl
  have hP6 := hP.sub (ws' := w6 bd cI cZ z6) [18, 19, 20, 21, 22, 23, 24, 25, 26, 27, 28, 29, 30, 31] rfl
  exact law_loop E hL F hr hlocks hX hbl hz hgt (fun S M => va_D_same (w := w5 ad cI cJ z5 ++ w6 bd cI cZ z6) rfl hD) (L + 1) 0 (by omega) (by omega) z5 z6 h0 H _ hP5 hP6 hS ls (lv_sub hl [3, 2, 1, 0] rfl)
