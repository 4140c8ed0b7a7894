/-! THE LAW'S LOOP, printed by wip/whole/gen_law.py: open in 'Eqs', what is still to be shown of the two sides' predicate transformers -/
def Eq_row (Rel : SX → S6 → Prop) : Prop := ∀ (S : SX) (M : S6) (a1 a2 a3 a4 a5 : Int32), Rel S M → wX5_row S a1 a2 a3 a4 a5 (fun (r : Int32) (S' : SX) => wX6_row M a1 a2 a3 a4 a5 (fun (r' : Int32) (M' : S6) => r = r' ∧ Rel S' M'))
def Eq_right (Rel : SX → S6 → Prop) : Prop := ∀ (S : SX) (M : S6) (a1 a2 a3 : Int32), Rel S M → wX5_right S a1 a2 a3 (fun (r : Int32) (S' : SX) => wX6_right M a1 a2 a3 (fun (r' : Int32) (M' : S6) => r = r' ∧ Rel S' M'))
def Eq_strike (Rel : SX → S6 → Prop) : Prop := ∀ (S : SX) (M : S6) (a1 a2 : Int32), Rel S M → wX5_strike S a1 a2 (fun (r : Int32) (S' : SX) => wX6_strike M a1 a2 (fun (r' : Int32) (M' : S6) => r = r' ∧ Rel S' M'))
def Eq_about (Rel : SX → S6 → Prop) : Prop := ∀ (S : SX) (M : S6) (a1 a2 : Int32), Rel S M → wX5_about S a1 a2 (fun r : Int32 => wX6_about M a1 a2 (fun r' : Int32 => r = r' ∧ Rel S M))
def Eq_sum (Rel : SX → S6 → Prop) : Prop := ∀ (S : SX) (M : S6) (a1 a2 a3 : Int32), Rel S M → wX5_sum S a1 a2 a3 (fun r : Int32 => wX6_sum M a1 a2 a3 (fun r' : Int32 => r = r' ∧ Rel S M))
def Eq_change (Rel : SX → S6 → Prop) : Prop := ∀ (S : SX) (M : S6) (a1 a2 : Int32), Rel S M → wX5_change S a1 a2 (fun r : Int32 => wX6_change M a1 a2 (fun r' : Int32 => r = r' ∧ Rel S M))
def Eq_rate (Rel : SX → S6 → Prop) : Prop := ∀ (S : SX) (M : S6) (a1 a2 a3 : Int32), Rel S M → wX5_rate S a1 a2 a3 (fun r : Int32 => wX6_rate M a1 a2 a3 (fun r' : Int32 => r = r' ∧ Rel S M))
def Eq_shift (Rel : SX → S6 → Prop) : Prop := ∀ (S : SX) (M : S6) (a1 a2 : Int32), Rel S M → wX5_shift S a1 a2 (fun r : Int64 => wX6_shift M a1 a2 (fun r' : Int64 => r = r' ∧ Rel S M))
def Eq_part (Rel : SX → S6 → Prop) : Prop := ∀ (S : SX) (M : S6) (a1 a2 a3 a4 a5 : Int32), Rel S M → wX5_part S a1 a2 a3 a4 a5 (fun r : Int64 => wX6_part M a1 a2 a3 a4 a5 (fun r' : Int64 => r = r' ∧ Rel S M))
def Eq_moves (Rel : SX → S6 → Prop) : Prop := ∀ (S : SX) (M : S6) (a1 a2 : Int32), Rel S M → wX5_moves S a1 a2 (fun r : Int32 => wX6_moves M a1 a2 (fun r' : Int32 => r = r' ∧ Rel S M))
def Eq_move (Rel : SX → S6 → Prop) : Prop := ∀ (S : SX) (M : S6) (a1 a2 : Int32), Rel S M → wX5_move S a1 a2 (fun r : Int32 => wX6_move M a1 a2 (fun r' : Int32 => r = r' ∧ Rel S M))
def Eq_rounded (Rel : SX → S6 → Prop) : Prop := ∀ (S : SX) (M : S6) (a1 a2 a3 a4 : Int32), Rel S M → wX5_rounded S a1 a2 a3 a4 (fun r : Int32 => wX6_rounded M a1 a2 a3 a4 (fun (r' : Int32) (M' : S6) => r = r' ∧ Rel S M'))
def Eq_factor (Rel : SX → S6 → Prop) : Prop := ∀ (S : SX) (M : S6) (a1 a2 a3 : Int32), Rel S M → wX5_factor S a1 a2 a3 (fun (r : Int32) (S' : SX) => wX6_factor M a1 a2 a3 (fun (r' : Int32) (M' : S6) => r = r' ∧ Rel S' M'))
def Eq_outcome (Rel : SX → S6 → Prop) : Prop := ∀ (S : SX) (M : S6) (a1 : Int32), Rel S M → wX5_outcome S a1 (fun r : Int32 => wX6_outcome M a1 (fun r' : Int32 => r = r' ∧ Rel S M))
def Eq_share (Rel : SX → S6 → Prop) : Prop := ∀ (S : SX) (M : S6) (a1 a2 : Int32), Rel S M → wX5_share S a1 a2 (fun r : Int32 => wX6_share M a1 a2 (fun r' : Int32 => r = r' ∧ Rel S M))
def Eq_expect (Rel : SX → S6 → Prop) : Prop := ∀ (S : SX) (M : S6) (a1 : Int32), Rel S M → wX5_expect S a1 (fun (r : Int32) (S' : SX) => wX6_expect M a1 (fun (r' : Int32) (M' : S6) => r = r' ∧ Rel S' M'))
def Eq_seek (Rel : SX → S6 → Prop) : Prop := ∀ (S : SX) (M : S6) (a1 a2 : Int32), Rel S M → wX5_seek S a1 a2 (fun (r : Int32) (S' : SX) => wX6_seek M a1 a2 (fun (r' : Int32) (M' : S6) => r = r' ∧ Rel S' M'))
def Eq_story (Rel : SX → S6 → Prop) : Prop := ∀ (S : SX) (M : S6) (a1 : Int32), Rel S M → wX5_story S a1 (fun r : Int32 => wX6_story M a1 (fun r' : Int32 => r = r' ∧ Rel S M))
def Eq_toll (Rel : SX → S6 → Prop) : Prop := ∀ (S : SX) (M : S6) (a1 a2 a3 : Int32), Rel S M → wX5_toll S a1 a2 a3 (fun r : Int32 => wX6_toll M a1 a2 a3 (fun r' : Int32 => r = r' ∧ Rel S M))
def Eq_first (Rel : SX → S6 → Prop) : Prop := ∀ (S : SX) (M : S6) (a1 a2 : Int32), Rel S M → wX5_first S a1 a2 (fun r : Int32 => wX6_first M a1 a2 (fun r' : Int32 => r = r' ∧ Rel S M))
def Eq_count (Rel : SX → S6 → Prop) : Prop := ∀ (S : SX) (M : S6) (a1 : Int32), Rel S M → wX5_count S a1 (fun (r : Int32) (S' : SX) => wX6_count M a1 (fun r' : Int32 => r = r' ∧ Rel S' M))
def Eqs (Rel : SX → S6 → Prop) : Prop := Eq_row Rel ∧ Eq_right Rel ∧ Eq_strike Rel ∧ Eq_about Rel ∧ Eq_sum Rel ∧ Eq_change Rel ∧ Eq_rate Rel ∧ Eq_shift Rel ∧ Eq_part Rel ∧ Eq_moves Rel ∧ Eq_move Rel ∧ Eq_rounded Rel ∧ Eq_factor Rel ∧ Eq_outcome Rel ∧ Eq_share Rel ∧ Eq_expect Rel ∧ Eq_seek Rel ∧ Eq_story Rel ∧ Eq_toll Rel ∧ Eq_first Rel ∧ Eq_count Rel
section LAW
variable {p : Program} {l : Launch} {e : Env} {R : Room} {s : State} {m : MethodId} {args : Array Value} {below : List Frame} {meth : Method} {c : Code} {H : Heap} {locs : List Loc} {cells slots : Nat} {Q : State → Prop} {pc : Nat} {ls : Array Slot} {rest st0 : List Value} {a : Array Value} {A : Nat → Prop} {H0 : Heap} {D : va_G} {cI cJ cZ : ClassId} {ad bd : Nat → Nat}
/-- the other side's cells are not the callee's -/
theorem lw_apart {w w' : va_W} {H1 : Heap} (hP' : va_P D vwCl w' H) (hD : va_D A (w ++ w')) (hk : ∀ q : Nat, q < H.size → ¬ va_A w H.size q → H1[q]? = H[q]?) : va_P D vwCl w' H1 := by
  refine hP'.kept (fun k q hq => hk q.1 (hP' k q hq).lt (fun h => ?_))
  rcases h with ⟨i, e, h⟩ | h
  · have hi : i < w.length := (List.getElem?_eq_some_iff.mp h).1
    have h1 : (w ++ w')[i]? = some (q.1, e) := by rw [List.getElem?_append_left hi]; exact h
    have h2 : (w ++ w')[w.length + k]? = some q := by rw [List.getElem?_append_right (by omega), Nat.add_sub_cancel_left]; exact hq
    have := hD.1 i (w.length + k) _ _ h1 h2 rfl
    omega
  · exact absurd (hP' k q hq).lt (Nat.not_lt.mpr h)
theorem lw_swap {w w' : va_W} (hD : va_D A (w ++ w')) : va_D A (w' ++ w) := by
  have key : ∀ (k : Nat) (q : Nat × va_E), (w' ++ w)[k]? = some q → ∃ j : Nat, (w ++ w')[j]? = some q ∧ j = (if k < w'.length then w.length + k else k - w'.length) := by
    intro k q hk
    by_cases h : k < w'.length
    · rw [List.getElem?_append_left h] at hk
      exact ⟨w.length + k, by rw [List.getElem?_append_right (by omega), Nat.add_sub_cancel_left]; exact hk, by rw [if_pos h]⟩
    · rw [List.getElem?_append_right (by omega)] at hk
      exact ⟨k - w'.length, by rw [List.getElem?_append_left (List.getElem?_eq_some_iff.mp hk).1]; exact hk, by rw [if_neg h]⟩
  refine ⟨fun i j x y hi hj hxy => ?_, fun k q hk => ?_⟩
  · obtain ⟨i', a1, a2⟩ := key i x hi
    obtain ⟨j', b1, b2⟩ := key j y hj
    have := hD.1 i' j' x y a1 b1 hxy
    have li := (List.getElem?_eq_some_iff.mp hi).1
    have lj := (List.getElem?_eq_some_iff.mp hj).1
    rw [List.length_append] at li lj
    split at a2 <;> split at b2 <;> omega
  · obtain ⟨j, a1, -⟩ := key k q hk
    exact hD.2 j q a1
/-- a writer of one side is called: its world is the new one, the other side's stays -/
theorem lw_call {S : Type} {wf : S → va_W} {u0 : S} {w' : va_W} {post : Int32 → S → Prop} (hr : va_Run p l e R s m args below meth c H locs cells slots 0 0 (F0 m pc ls st0) rest (wQi D wf u0 H.size post a) (va_A (wf u0) H.size)) (hS : va_S A H0 H locs) (hP' : va_P D vwCl w' H) (hD : va_D A (wf u0 ++ w')) (hA : ∀ q : Nat, H0.size ≤ q → A q)
    (kk : ∀ (r : Int32) (u : S) (H1 : Heap) (locs1 : List Loc), post r u → va_P D vwCl (wf u) H1 → va_P D vwCl w' H1 → va_S A H0 H1 locs1 → W p l e R s m args below meth c H1 locs1 cells slots Q (F0 m (pc + 3) ls (.int r :: rest))) : W p l e R s m args below meth c H locs cells slots Q (F0 m pc ls st0) := by
  have hf : ∀ q, va_A (wf u0) H.size q → A q := by
    intro q h
    rcases h with ⟨k, e, h⟩ | h
    · exact hD.2 k _ (by rw [List.getElem?_append_left (List.getElem?_eq_some_iff.mp h).1]; exact h)
    · exact hA q (Nat.le_trans hS.1 h)
  exact va_calli hr hS (fun q _ h => hf q h) hf (fun r u t H1 locs1 ht _ hw hB _ hk hS1 => kk r u H1 locs1 hw (by rw [← ht]; exact hB) (lw_apart hP' hD hk) hS1)
theorem gt_kept (h : gt s s.heap) (hS : va_S (fun q : Nat => s.heap.size ≤ q) s.heap H locs) : gt s H := by
  obtain ⟨t1, t2, h1, h2, h3, h4⟩ := h
  have hk : ∀ a : Nat, a < s.heap.size → ¬ tb_N a → H[a]? = s.heap[a]? := fun a ha _ => hS.2.1 a ha (Nat.not_le.mpr ha)
  exact ⟨t1, t2, h1.kept hk, h2.kept hk, h3.kept hk, h4.kept hk⟩
theorem lw_in {j L k : Nat} (h : 6 * j + 6 ≤ L) (hL : L ≤ 3072) (hk : k < 6) : vp_in (nI (6 * j) + nI k) L := by
  rw [nI_add]
  exact vp_in_nI (by omega) (by omega)
theorem lw_in0 {j L : Nat} (h : 6 * j + 6 ≤ L) (hL : L ≤ 3072) : vp_in (nI (6 * j)) L := vp_in_nI (by omega) (by omega)
theorem lw_on {j L : Nat} (hj : 6 * j < 100000) (hL : L ≤ 3072) (h : ¬ nI L - 6 < nI (6 * j)) : 6 * j + 6 ≤ L := by
  rw [Int32.lt_iff_toInt_lt, show (6 : Int32) = nI 6 from rfl, pk_sub_toInt (by omega) (by omega), nI_toInt (by omega)] at h
  omega
theorem lw_inc (j : Nat) : nI (6 * j) + Int32.ofInt 6 = nI (6 * (j + 1)) := by
  rw [show Int32.ofInt 6 = nI 6 from by decide, nI_add]
  exact congrArg nI (by omega)
set_option maxHeartbeats 4000000 in
set_option maxRecDepth 100000 in
theorem law_step {Rel : SX → S6 → Prop} (E : Eqs Rel) {b L : Nat} {xs : Nat → Int32} (hL : L ≤ 3072) (F : CallFix p m c cL_law 4 s #[Value.ref b] wsL_law RL) (hr : meth.sig.returnType = ret) (hlocks : meth.locks = false) (hX : va_X b L xs s s.heap) (hbl : b < s.heap.size) (hz : gz D cI cJ cZ s) (hgt : gt s s.heap) (hDD : ∀ (S : SX) (M : S6), va_D (fun q : Nat => s.heap.size ≤ q) (w5 ad cI cJ S ++ w6 bd cI cZ M)) (j : Nat) (hj0 : 6 * j < 100000) (next : 6 * j + 6 ≤ L → ∀ (S : SX) (M : S6), Rel S M → ∀ (H : Heap) (locs : List Loc), va_P D vwCl (w5 ad cI cJ S) H → va_P D vwCl (w6 bd cI cZ M) H → va_S (fun q : Nat => s.heap.size ≤ q) s.heap H locs → ∀ ls : Array Slot, lv_has ls 4 [(0, .ref b), (1, .ref (ad 0)), (2, .ref (bd 0)), (3, .int (nI (6 * (j + 1))))] → W p l e room_1 s m #[Value.ref b] below meth c H locs 32 3514 (lw_Z below #[Value.ref b] s) (F0 m 18 ls [])) : ∀ (S : SX) (M : S6), Rel S M → ∀ (H : Heap) (locs : List Loc), va_P D vwCl (w5 ad cI cJ S) H → va_P D vwCl (w6 bd cI cZ M) H → va_S (fun q : Nat => s.heap.size ≤ q) s.heap H locs → ∀ ls : Array Slot, lv_has ls 4 [(0, .ref b), (1, .ref (ad 0)), (2, .ref (bd 0)), (3, .int (nI (6 * j)))] → W p l e room_1 s m #[Value.ref b] below meth c H locs 32 3514 (lw_Z below #[Value.ref b] s) (F0 m 18 ls []) := by
  intro S M hR H locs hP5 hP6 hS ls hl
  have hA : ∀ q : Nat, s.heap.size ≤ q → (fun q : Nat => s.heap.size ≤ q) q := fun _ h => h
  have hbA : ¬ (fun q : Nat => s.heap.size ≤ q) b := Nat.not_le.mpr hbl
  have hD5 : ∀ S : SX, va_D (fun q : Nat => s.heap.size ≤ q) (w5 ad cI cJ S) := fun S => (hDD S M).sub (ws' := w5 ad cI cJ S) [0, 1, 2, 3, 4, 5, 6, 7, 8, 9, 10, 11, 12, 13, 14, 15, 16, 17] (by decide) rfl
  have hD6 : ∀ M : S6, va_D (fun q : Nat => s.heap.size ≤ q) (w6 bd cI cZ M) := fun M => (hDD S M).sub (ws' := w6 bd cI cZ M) [18, 19, 20, 21, 22, 23, 24, 25, 26, 27, 28, 29, 30, 31] (by decide) rfl
  refine lv_iload_n F.1 F.2.1 dL_law_18 rfl (lv_at hl 3 rfl) ?_
  refine lv_aload_n F.1 F.2.1 dL_law_19 rfl (lv_at hl 0 rfl) ?_
  refine va_slen F.1 F.2.1 hX hbl hbA hS dL_law_20 ?_
  refine lv_bipush (v := 6) F.1 F.2.1 dL_law_21 (by decide) ?_
  refine lv_isub F.1 F.2.1 dL_law_23 ?_
  refine lv_icmp_gt (tgt := 923) F.1 F.2.1 dL_law_24 (by decide) (fun hc => ?_) (fun hc => ?_)
  · refine va_forget (fun q h => hS.2.2 q h) ?_
    refine lv_iconst (v := 1) F.1 F.2.1 dL_law_923 (by decide) ?_
    exact lw_ret F.1 F.2.1 hr hlocks dL_law_924
  · have hj : 6 * j + 6 ≤ L := lw_on hj0 hL hc
    refine lv_aload_n F.1 F.2.1 dL_law_27 rfl (lv_at hl 0 rfl) ?_
    refine lv_iload_n F.1 F.2.1 dL_law_28 rfl (lv_at hl 3 rfl) ?_
    refine va_sld F.1 F.2.1 hX hbl hbA hS (lw_in0 hj hL) dL_law_29 ?_
    refine lv_bipush (v := 31) F.1 F.2.1 dL_law_30 (by decide) ?_
    refine lv_iand F.1 F.2.1 dL_law_32 ?_
    refine lv_topi (fun z ez => ?_)
    by_cases hc0 : z = 0
    · have h := E.1 S M (xs (nI (6 * j) + 1).toNatClampNeg) (xs (nI (6 * j) + 2).toNatClampNeg) (xs (nI (6 * j) + 3).toNatClampNeg) (xs (nI (6 * j) + 4).toNatClampNeg) (xs (nI (6 * j) + 5).toNatClampNeg) hR
      refine lv_tableIn (off := 99) (tgt := 132) F.1 F.2.1 dL_law_33 (by rw [hc0]; decide) (by rw [hc0]; decide) (by rw [hc0]; rfl) (by decide) ?_
      refine lv_aload_n F.1 F.2.1 dL_law_132 rfl (lv_at hl 1 rfl) ?_
      refine lv_aload_n F.1 F.2.1 dL_law_133 rfl (lv_at hl 0 rfl) ?_
      refine lv_iload_n F.1 F.2.1 dL_law_134 rfl (lv_at hl 3 rfl) ?_
      refine lv_iconst (v := 1) F.1 F.2.1 dL_law_135 (by decide) ?_
      refine lv_iadd F.1 F.2.1 dL_law_136 ?_
      refine va_sld F.1 F.2.1 hX hbl hbA hS (lw_in (k := 1) hj hL (by decide)) dL_law_137 ?_
      refine lv_aload_n F.1 F.2.1 dL_law_138 rfl (lv_at hl 0 rfl) ?_
      refine lv_iload_n F.1 F.2.1 dL_law_139 rfl (lv_at hl 3 rfl) ?_
      refine lv_iconst (v := 2) F.1 F.2.1 dL_law_140 (by decide) ?_
      refine lv_iadd F.1 F.2.1 dL_law_141 ?_
      refine va_sld F.1 F.2.1 hX hbl hbA hS (lw_in (k := 2) hj hL (by decide)) dL_law_142 ?_
      refine lv_aload_n F.1 F.2.1 dL_law_143 rfl (lv_at hl 0 rfl) ?_
      refine lv_iload_n F.1 F.2.1 dL_law_144 rfl (lv_at hl 3 rfl) ?_
      refine lv_iconst (v := 3) F.1 F.2.1 dL_law_145 (by decide) ?_
      refine lv_iadd F.1 F.2.1 dL_law_146 ?_
      refine va_sld F.1 F.2.1 hX hbl hbA hS (lw_in (k := 3) hj hL (by decide)) dL_law_147 ?_
      refine lv_aload_n F.1 F.2.1 dL_law_148 rfl (lv_at hl 0 rfl) ?_
      refine lv_iload_n F.1 F.2.1 dL_law_149 rfl (lv_at hl 3 rfl) ?_
      refine lv_iconst (v := 4) F.1 F.2.1 dL_law_150 (by decide) ?_
      refine lv_iadd F.1 F.2.1 dL_law_151 ?_
      refine va_sld F.1 F.2.1 hX hbl hbA hS (lw_in (k := 4) hj hL (by decide)) dL_law_152 ?_
      refine lv_aload_n F.1 F.2.1 dL_law_153 rfl (lv_at hl 0 rfl) ?_
      refine lv_iload_n F.1 F.2.1 dL_law_154 rfl (lv_at hl 3 rfl) ?_
      refine lv_iconst (v := 5) F.1 F.2.1 dL_law_155 (by decide) ?_
      refine lv_iadd F.1 F.2.1 dL_law_156 ?_
      refine va_sld F.1 F.2.1 hX hbl hbA hS (lw_in (k := 5) hj hL (by decide)) dL_law_157 ?_
      refine lw_call (wf := w5 ad cI cJ) (va_runV (As := [.int (xs (nI (6 * j) + 1).toNatClampNeg), .int (xs (nI (6 * j) + 2).toNatClampNeg), .int (xs (nI (6 * j) + 3).toNatClampNeg), .int (xs (nI (6 * j) + 4).toNatClampNeg), .int (xs (nI (6 * j) + 5).toNatClampNeg)]) (rest := []) F (mX5_row (l := l) (D := D) (cI := cI) (cJ := cJ) (cZ := cZ) (ad := ad) _ h) (cwV 5 F.2.2.2.2 gL_law_X5_row rfl rfl rfl kV_X5_row ⟨Nat.le_of_ble_eq_true rfl, Nat.le_of_ble_eq_true rfl⟩) ⟨wp_blind, va_recv hz.1 hP5 (ci := 3) (q0 := 0) rfl rfl, wp_pre hz hP5 (hD5 S) (.ref (ad 0) :: [.int (xs (nI (6 * j) + 1).toNatClampNeg), .int (xs (nI (6 * j) + 2).toNatClampNeg), .int (xs (nI (6 * j) + 3).toNatClampNeg), .int (xs (nI (6 * j) + 4).toNatClampNeg), .int (xs (nI (6 * j) + 5).toNatClampNeg)])⟩ rfl rfl hl.1 rfl (lv_room (Nat.le_of_ble_eq_true rfl)) dL_law_158 ⟨Nat.le_of_ble_eq_true rfl, Nat.le_of_ble_eq_true rfl⟩) hS hP6 (hDD S M) hA (fun r5 S1 H locs h hP5 hP6 hS => ?_)
      refine lv_aload_n F.1 F.2.1 dL_law_161 rfl (lv_at hl 2 rfl) ?_
      refine lv_aload_n F.1 F.2.1 dL_law_162 rfl (lv_at hl 0 rfl) ?_
      refine lv_iload_n F.1 F.2.1 dL_law_163 rfl (lv_at hl 3 rfl) ?_
      refine lv_iconst (v := 1) F.1 F.2.1 dL_law_164 (by decide) ?_
      refine lv_iadd F.1 F.2.1 dL_law_165 ?_
      refine va_sld F.1 F.2.1 hX hbl hbA hS (lw_in (k := 1) hj hL (by decide)) dL_law_166 ?_
      refine lv_aload_n F.1 F.2.1 dL_law_167 rfl (lv_at hl 0 rfl) ?_
      refine lv_iload_n F.1 F.2.1 dL_law_168 rfl (lv_at hl 3 rfl) ?_
      refine lv_iconst (v := 2) F.1 F.2.1 dL_law_169 (by decide) ?_
      refine lv_iadd F.1 F.2.1 dL_law_170 ?_
      refine va_sld F.1 F.2.1 hX hbl hbA hS (lw_in (k := 2) hj hL (by decide)) dL_law_171 ?_
      refine lv_aload_n F.1 F.2.1 dL_law_172 rfl (lv_at hl 0 rfl) ?_
      refine lv_iload_n F.1 F.2.1 dL_law_173 rfl (lv_at hl 3 rfl) ?_
      refine lv_iconst (v := 3) F.1 F.2.1 dL_law_174 (by decide) ?_
      refine lv_iadd F.1 F.2.1 dL_law_175 ?_
      refine va_sld F.1 F.2.1 hX hbl hbA hS (lw_in (k := 3) hj hL (by decide)) dL_law_176 ?_
      refine lv_aload_n F.1 F.2.1 dL_law_177 rfl (lv_at hl 0 rfl) ?_
      refine lv_iload_n F.1 F.2.1 dL_law_178 rfl (lv_at hl 3 rfl) ?_
      refine lv_iconst (v := 4) F.1 F.2.1 dL_law_179 (by decide) ?_
      refine lv_iadd F.1 F.2.1 dL_law_180 ?_
      refine va_sld F.1 F.2.1 hX hbl hbA hS (lw_in (k := 4) hj hL (by decide)) dL_law_181 ?_
      refine lv_aload_n F.1 F.2.1 dL_law_182 rfl (lv_at hl 0 rfl) ?_
      refine lv_iload_n F.1 F.2.1 dL_law_183 rfl (lv_at hl 3 rfl) ?_
      refine lv_iconst (v := 5) F.1 F.2.1 dL_law_184 (by decide) ?_
      refine lv_iadd F.1 F.2.1 dL_law_185 ?_
      refine va_sld F.1 F.2.1 hX hbl hbA hS (lw_in (k := 5) hj hL (by decide)) dL_law_186 ?_
      refine lw_call (wf := w6 bd cI cZ) (va_runV (As := [.int (xs (nI (6 * j) + 1).toNatClampNeg), .int (xs (nI (6 * j) + 2).toNatClampNeg), .int (xs (nI (6 * j) + 3).toNatClampNeg), .int (xs (nI (6 * j) + 4).toNatClampNeg), .int (xs (nI (6 * j) + 5).toNatClampNeg)]) (rest := [.int r5]) F (mX6_row (l := l) (D := D) (cI := cI) (cJ := cJ) (cZ := cZ) (ad := bd) _ h) (cwV 5 F.2.2.2.2 gL_law_X6_row rfl rfl rfl kV_X6_row ⟨Nat.le_of_ble_eq_true rfl, Nat.le_of_ble_eq_true rfl⟩) ⟨wp_blind, va_recv hz.1 hP6 (ci := 4) (q0 := 0) rfl rfl, wp_pre hz hP6 (hD6 M) (.ref (bd 0) :: [.int (xs (nI (6 * j) + 1).toNatClampNeg), .int (xs (nI (6 * j) + 2).toNatClampNeg), .int (xs (nI (6 * j) + 3).toNatClampNeg), .int (xs (nI (6 * j) + 4).toNatClampNeg), .int (xs (nI (6 * j) + 5).toNatClampNeg)])⟩ rfl rfl hl.1 rfl (lv_room (Nat.le_of_ble_eq_true rfl)) dL_law_187 ⟨Nat.le_of_ble_eq_true rfl, Nat.le_of_ble_eq_true rfl⟩) hS hP5 (lw_swap (hDD S1 M)) hA (fun r6 M1 H locs h hP6 hP5 hS => ?_)
      refine lv_icmp_eq (tgt := 917) F.1 F.2.1 dL_law_190 (by decide) (fun _ => ?_) (fun hc => absurd h.1 hc)
      refine lv_iinc (v := nI (6 * (j + 1))) (lv' := [(3, .int (nI (6 * (j + 1)))), (0, .ref b), (1, .ref (ad 0)), (2, .ref (bd 0))]) F.1 F.2.1 dL_law_917 hl (k := 3) rfl (lw_inc j) (by decide) rfl (fun ls hl => ?_)
      refine lv_goto (tgt := 18) F.1 F.2.1 dL_law_920 (by decide) ?_
      exact next hj S1 M1 h.2 H locs hP5 hP6 hS ls (lv_sub hl [1, 2, 3, 0] rfl)
    by_cases hc1 : z = 1
    · have h := E.2.1 S M (xs (nI (6 * j) + 1).toNatClampNeg) (xs (nI (6 * j) + 2).toNatClampNeg) (xs (nI (6 * j) + 3).toNatClampNeg) hR
      refine lv_tableIn (off := 162) (tgt := 195) F.1 F.2.1 dL_law_33 (by rw [hc1]; decide) (by rw [hc1]; decide) (by rw [hc1]; rfl) (by decide) ?_
      refine lv_aload_n F.1 F.2.1 dL_law_195 rfl (lv_at hl 1 rfl) ?_
      refine lv_aload_n F.1 F.2.1 dL_law_196 rfl (lv_at hl 0 rfl) ?_
      refine lv_iload_n F.1 F.2.1 dL_law_197 rfl (lv_at hl 3 rfl) ?_
      refine lv_iconst (v := 1) F.1 F.2.1 dL_law_198 (by decide) ?_
      refine lv_iadd F.1 F.2.1 dL_law_199 ?_
      refine va_sld F.1 F.2.1 hX hbl hbA hS (lw_in (k := 1) hj hL (by decide)) dL_law_200 ?_
      refine lv_aload_n F.1 F.2.1 dL_law_201 rfl (lv_at hl 0 rfl) ?_
      refine lv_iload_n F.1 F.2.1 dL_law_202 rfl (lv_at hl 3 rfl) ?_
      refine lv_iconst (v := 2) F.1 F.2.1 dL_law_203 (by decide) ?_
      refine lv_iadd F.1 F.2.1 dL_law_204 ?_
      refine va_sld F.1 F.2.1 hX hbl hbA hS (lw_in (k := 2) hj hL (by decide)) dL_law_205 ?_
      refine lv_aload_n F.1 F.2.1 dL_law_206 rfl (lv_at hl 0 rfl) ?_
      refine lv_iload_n F.1 F.2.1 dL_law_207 rfl (lv_at hl 3 rfl) ?_
      refine lv_iconst (v := 3) F.1 F.2.1 dL_law_208 (by decide) ?_
      refine lv_iadd F.1 F.2.1 dL_law_209 ?_
      refine va_sld F.1 F.2.1 hX hbl hbA hS (lw_in (k := 3) hj hL (by decide)) dL_law_210 ?_
      refine lw_call (wf := w5 ad cI cJ) (va_runV (As := [.int (xs (nI (6 * j) + 1).toNatClampNeg), .int (xs (nI (6 * j) + 2).toNatClampNeg), .int (xs (nI (6 * j) + 3).toNatClampNeg)]) (rest := []) F (mX5_right (l := l) (D := D) (cI := cI) (cJ := cJ) (cZ := cZ) (ad := ad) _ h) (cwV 3 F.2.2.2.2 gL_law_X5_right rfl rfl rfl kV_X5_right ⟨Nat.le_of_ble_eq_true rfl, Nat.le_of_ble_eq_true rfl⟩) ⟨wp_blind, va_recv hz.1 hP5 (ci := 3) (q0 := 0) rfl rfl, wp_pre hz hP5 (hD5 S) (.ref (ad 0) :: [.int (xs (nI (6 * j) + 1).toNatClampNeg), .int (xs (nI (6 * j) + 2).toNatClampNeg), .int (xs (nI (6 * j) + 3).toNatClampNeg)])⟩ rfl rfl hl.1 rfl (lv_room (Nat.le_of_ble_eq_true rfl)) dL_law_211 ⟨Nat.le_of_ble_eq_true rfl, Nat.le_of_ble_eq_true rfl⟩) hS hP6 (hDD S M) hA (fun r5 S1 H locs h hP5 hP6 hS => ?_)
      refine lv_aload_n F.1 F.2.1 dL_law_214 rfl (lv_at hl 2 rfl) ?_
      refine lv_aload_n F.1 F.2.1 dL_law_215 rfl (lv_at hl 0 rfl) ?_
      refine lv_iload_n F.1 F.2.1 dL_law_216 rfl (lv_at hl 3 rfl) ?_
      refine lv_iconst (v := 1) F.1 F.2.1 dL_law_217 (by decide) ?_
      refine lv_iadd F.1 F.2.1 dL_law_218 ?_
      refine va_sld F.1 F.2.1 hX hbl hbA hS (lw_in (k := 1) hj hL (by decide)) dL_law_219 ?_
      refine lv_aload_n F.1 F.2.1 dL_law_220 rfl (lv_at hl 0 rfl) ?_
      refine lv_iload_n F.1 F.2.1 dL_law_221 rfl (lv_at hl 3 rfl) ?_
      refine lv_iconst (v := 2) F.1 F.2.1 dL_law_222 (by decide) ?_
      refine lv_iadd F.1 F.2.1 dL_law_223 ?_
      refine va_sld F.1 F.2.1 hX hbl hbA hS (lw_in (k := 2) hj hL (by decide)) dL_law_224 ?_
      refine lv_aload_n F.1 F.2.1 dL_law_225 rfl (lv_at hl 0 rfl) ?_
      refine lv_iload_n F.1 F.2.1 dL_law_226 rfl (lv_at hl 3 rfl) ?_
      refine lv_iconst (v := 3) F.1 F.2.1 dL_law_227 (by decide) ?_
      refine lv_iadd F.1 F.2.1 dL_law_228 ?_
      refine va_sld F.1 F.2.1 hX hbl hbA hS (lw_in (k := 3) hj hL (by decide)) dL_law_229 ?_
      refine lw_call (wf := w6 bd cI cZ) (va_runV (As := [.int (xs (nI (6 * j) + 1).toNatClampNeg), .int (xs (nI (6 * j) + 2).toNatClampNeg), .int (xs (nI (6 * j) + 3).toNatClampNeg)]) (rest := [.int r5]) F (mX6_right (l := l) (D := D) (cI := cI) (cJ := cJ) (cZ := cZ) (ad := bd) _ h) (cwV 3 F.2.2.2.2 gL_law_X6_right rfl rfl rfl kV_X6_right ⟨Nat.le_of_ble_eq_true rfl, Nat.le_of_ble_eq_true rfl⟩) ⟨wp_blind, va_recv hz.1 hP6 (ci := 4) (q0 := 0) rfl rfl, wp_pre hz hP6 (hD6 M) (.ref (bd 0) :: [.int (xs (nI (6 * j) + 1).toNatClampNeg), .int (xs (nI (6 * j) + 2).toNatClampNeg), .int (xs (nI (6 * j) + 3).toNatClampNeg)])⟩ rfl rfl hl.1 rfl (lv_room (Nat.le_of_ble_eq_true rfl)) dL_law_230 ⟨Nat.le_of_ble_eq_true rfl, Nat.le_of_ble_eq_true rfl⟩) hS hP5 (lw_swap (hDD S1 M)) hA (fun r6 M1 H locs h hP6 hP5 hS => ?_)
      refine lv_icmp_eq (tgt := 917) F.1 F.2.1 dL_law_233 (by decide) (fun _ => ?_) (fun hc => absurd h.1 hc)
      refine lv_iinc (v := nI (6 * (j + 1))) (lv' := [(3, .int (nI (6 * (j + 1)))), (0, .ref b), (1, .ref (ad 0)), (2, .ref (bd 0))]) F.1 F.2.1 dL_law_917 hl (k := 3) rfl (lw_inc j) (by decide) rfl (fun ls hl => ?_)
      refine lv_goto (tgt := 18) F.1 F.2.1 dL_law_920 (by decide) ?_
      exact next hj S1 M1 h.2 H locs hP5 hP6 hS ls (lv_sub hl [1, 2, 3, 0] rfl)
    by_cases hc2 : z = 2
    · have h := E.2.2.1 S M (xs (nI (6 * j) + 1).toNatClampNeg) (xs (nI (6 * j) + 2).toNatClampNeg) hR
      refine lv_tableIn (off := 205) (tgt := 238) F.1 F.2.1 dL_law_33 (by rw [hc2]; decide) (by rw [hc2]; decide) (by rw [hc2]; rfl) (by decide) ?_
      refine lv_aload_n F.1 F.2.1 dL_law_238 rfl (lv_at hl 1 rfl) ?_
      refine lv_aload_n F.1 F.2.1 dL_law_239 rfl (lv_at hl 0 rfl) ?_
      refine lv_iload_n F.1 F.2.1 dL_law_240 rfl (lv_at hl 3 rfl) ?_
      refine lv_iconst (v := 1) F.1 F.2.1 dL_law_241 (by decide) ?_
      refine lv_iadd F.1 F.2.1 dL_law_242 ?_
      refine va_sld F.1 F.2.1 hX hbl hbA hS (lw_in (k := 1) hj hL (by decide)) dL_law_243 ?_
      refine lv_aload_n F.1 F.2.1 dL_law_244 rfl (lv_at hl 0 rfl) ?_
      refine lv_iload_n F.1 F.2.1 dL_law_245 rfl (lv_at hl 3 rfl) ?_
      refine lv_iconst (v := 2) F.1 F.2.1 dL_law_246 (by decide) ?_
      refine lv_iadd F.1 F.2.1 dL_law_247 ?_
      refine va_sld F.1 F.2.1 hX hbl hbA hS (lw_in (k := 2) hj hL (by decide)) dL_law_248 ?_
      refine lw_call (wf := w5 ad cI cJ) (va_runV (As := [.int (xs (nI (6 * j) + 1).toNatClampNeg), .int (xs (nI (6 * j) + 2).toNatClampNeg)]) (rest := []) F (mX5_strike (l := l) (D := D) (cI := cI) (cJ := cJ) (cZ := cZ) (ad := ad) _ h) (cwV 2 F.2.2.2.2 gL_law_X5_strike rfl rfl rfl kV_X5_strike ⟨Nat.le_of_ble_eq_true rfl, Nat.le_of_ble_eq_true rfl⟩) ⟨wp_blind, va_recv hz.1 hP5 (ci := 3) (q0 := 0) rfl rfl, wp_pre hz hP5 (hD5 S) (.ref (ad 0) :: [.int (xs (nI (6 * j) + 1).toNatClampNeg), .int (xs (nI (6 * j) + 2).toNatClampNeg)])⟩ rfl rfl hl.1 rfl (lv_room (Nat.le_of_ble_eq_true rfl)) dL_law_249 ⟨Nat.le_of_ble_eq_true rfl, Nat.le_of_ble_eq_true rfl⟩) hS hP6 (hDD S M) hA (fun r5 S1 H locs h hP5 hP6 hS => ?_)
      refine lv_aload_n F.1 F.2.1 dL_law_252 rfl (lv_at hl 2 rfl) ?_
      refine lv_aload_n F.1 F.2.1 dL_law_253 rfl (lv_at hl 0 rfl) ?_
      refine lv_iload_n F.1 F.2.1 dL_law_254 rfl (lv_at hl 3 rfl) ?_
      refine lv_iconst (v := 1) F.1 F.2.1 dL_law_255 (by decide) ?_
      refine lv_iadd F.1 F.2.1 dL_law_256 ?_
      refine va_sld F.1 F.2.1 hX hbl hbA hS (lw_in (k := 1) hj hL (by decide)) dL_law_257 ?_
      refine lv_aload_n F.1 F.2.1 dL_law_258 rfl (lv_at hl 0 rfl) ?_
      refine lv_iload_n F.1 F.2.1 dL_law_259 rfl (lv_at hl 3 rfl) ?_
      refine lv_iconst (v := 2) F.1 F.2.1 dL_law_260 (by decide) ?_
      refine lv_iadd F.1 F.2.1 dL_law_261 ?_
      refine va_sld F.1 F.2.1 hX hbl hbA hS (lw_in (k := 2) hj hL (by decide)) dL_law_262 ?_
      refine lw_call (wf := w6 bd cI cZ) (va_runV (As := [.int (xs (nI (6 * j) + 1).toNatClampNeg), .int (xs (nI (6 * j) + 2).toNatClampNeg)]) (rest := [.int r5]) F (mX6_strike (l := l) (D := D) (cI := cI) (cJ := cJ) (cZ := cZ) (ad := bd) _ h) (cwV 2 F.2.2.2.2 gL_law_X6_strike rfl rfl rfl kV_X6_strike ⟨Nat.le_of_ble_eq_true rfl, Nat.le_of_ble_eq_true rfl⟩) ⟨wp_blind, va_recv hz.1 hP6 (ci := 4) (q0 := 0) rfl rfl, wp_pre hz hP6 (hD6 M) (.ref (bd 0) :: [.int (xs (nI (6 * j) + 1).toNatClampNeg), .int (xs (nI (6 * j) + 2).toNatClampNeg)])⟩ rfl rfl hl.1 rfl (lv_room (Nat.le_of_ble_eq_true rfl)) dL_law_263 ⟨Nat.le_of_ble_eq_true rfl, Nat.le_of_ble_eq_true rfl⟩) hS hP5 (lw_swap (hDD S1 M)) hA (fun r6 M1 H locs h hP6 hP5 hS => ?_)
      refine lv_icmp_eq (tgt := 917) F.1 F.2.1 dL_law_266 (by decide) (fun _ => ?_) (fun hc => absurd h.1 hc)
      refine lv_iinc (v := nI (6 * (j + 1))) (lv' := [(3, .int (nI (6 * (j + 1)))), (0, .ref b), (1, .ref (ad 0)), (2, .ref (bd 0))]) F.1 F.2.1 dL_law_917 hl (k := 3) rfl (lw_inc j) (by decide) rfl (fun ls hl => ?_)
      refine lv_goto (tgt := 18) F.1 F.2.1 dL_law_920 (by decide) ?_
      exact next hj S1 M1 h.2 H locs hP5 hP6 hS ls (lv_sub hl [1, 2, 3, 0] rfl)
    by_cases hc3 : z = 3
    · have h := E.2.2.2.1 S M (xs (nI (6 * j) + 1).toNatClampNeg) (xs (nI (6 * j) + 2).toNatClampNeg) hR
      refine lv_tableIn (off := 238) (tgt := 271) F.1 F.2.1 dL_law_33 (by rw [hc3]; decide) (by rw [hc3]; decide) (by rw [hc3]; rfl) (by decide) ?_
      refine lv_aload_n F.1 F.2.1 dL_law_271 rfl (lv_at hl 1 rfl) ?_
      refine lv_aload_n F.1 F.2.1 dL_law_272 rfl (lv_at hl 0 rfl) ?_
      refine lv_iload_n F.1 F.2.1 dL_law_273 rfl (lv_at hl 3 rfl) ?_
      refine lv_iconst (v := 1) F.1 F.2.1 dL_law_274 (by decide) ?_
      refine lv_iadd F.1 F.2.1 dL_law_275 ?_
      refine va_sld F.1 F.2.1 hX hbl hbA hS (lw_in (k := 1) hj hL (by decide)) dL_law_276 ?_
      refine lv_aload_n F.1 F.2.1 dL_law_277 rfl (lv_at hl 0 rfl) ?_
      refine lv_iload_n F.1 F.2.1 dL_law_278 rfl (lv_at hl 3 rfl) ?_
      refine lv_iconst (v := 2) F.1 F.2.1 dL_law_279 (by decide) ?_
      refine lv_iadd F.1 F.2.1 dL_law_280 ?_
      refine va_sld F.1 F.2.1 hX hbl hbA hS (lw_in (k := 2) hj hL (by decide)) dL_law_281 ?_
      refine vp_callSi (va_Run.run (va_runV (As := [.int (xs (nI (6 * j) + 1).toNatClampNeg), .int (xs (nI (6 * j) + 2).toNatClampNeg)]) (rest := []) F (mX5_about (l := l) (D := D) (cI := cI) (cJ := cJ) (cZ := cZ) (ad := ad) h) (cwV 2 F.2.2.2.2 gL_law_X5_about rfl rfl rfl kV_X5_about ⟨Nat.le_of_ble_eq_true rfl, Nat.le_of_ble_eq_true rfl⟩) ⟨rp_blind, va_recv hz.1 hP5 (ci := 3) (q0 := 0) rfl rfl, rp_pre hz hP5 (.ref (ad 0) :: [.int (xs (nI (6 * j) + 1).toNatClampNeg), .int (xs (nI (6 * j) + 2).toNatClampNeg)])⟩ rfl rfl hl.1 rfl (lv_room (Nat.le_of_ble_eq_true rfl)) dL_law_282 ⟨Nat.le_of_ble_eq_true rfl, Nat.le_of_ble_eq_true rfl⟩)) (fun r5 h => ?_)
      refine lv_aload_n F.1 F.2.1 dL_law_285 rfl (lv_at hl 2 rfl) ?_
      refine lv_aload_n F.1 F.2.1 dL_law_286 rfl (lv_at hl 0 rfl) ?_
      refine lv_iload_n F.1 F.2.1 dL_law_287 rfl (lv_at hl 3 rfl) ?_
      refine lv_iconst (v := 1) F.1 F.2.1 dL_law_288 (by decide) ?_
      refine lv_iadd F.1 F.2.1 dL_law_289 ?_
      refine va_sld F.1 F.2.1 hX hbl hbA hS (lw_in (k := 1) hj hL (by decide)) dL_law_290 ?_
      refine lv_aload_n F.1 F.2.1 dL_law_291 rfl (lv_at hl 0 rfl) ?_
      refine lv_iload_n F.1 F.2.1 dL_law_292 rfl (lv_at hl 3 rfl) ?_
      refine lv_iconst (v := 2) F.1 F.2.1 dL_law_293 (by decide) ?_
      refine lv_iadd F.1 F.2.1 dL_law_294 ?_
      refine va_sld F.1 F.2.1 hX hbl hbA hS (lw_in (k := 2) hj hL (by decide)) dL_law_295 ?_
      refine vp_callSi (va_Run.run (va_runV (As := [.int (xs (nI (6 * j) + 1).toNatClampNeg), .int (xs (nI (6 * j) + 2).toNatClampNeg)]) (rest := [.int r5]) F (mX6_about (l := l) (D := D) (cI := cI) (cJ := cJ) (cZ := cZ) (ad := bd) h) (cwV 2 F.2.2.2.2 gL_law_X6_about rfl rfl rfl kV_X6_about ⟨Nat.le_of_ble_eq_true rfl, Nat.le_of_ble_eq_true rfl⟩) ⟨rp_blind, va_recv hz.1 hP6 (ci := 4) (q0 := 0) rfl rfl, rp_pre hz hP6 (.ref (bd 0) :: [.int (xs (nI (6 * j) + 1).toNatClampNeg), .int (xs (nI (6 * j) + 2).toNatClampNeg)])⟩ rfl rfl hl.1 rfl (lv_room (Nat.le_of_ble_eq_true rfl)) dL_law_296 ⟨Nat.le_of_ble_eq_true rfl, Nat.le_of_ble_eq_true rfl⟩)) (fun r6 h => ?_)
      refine lv_icmp_eq (tgt := 917) F.1 F.2.1 dL_law_299 (by decide) (fun _ => ?_) (fun hc => absurd h.1 hc)
      refine lv_iinc (v := nI (6 * (j + 1))) (lv' := [(3, .int (nI (6 * (j + 1)))), (0, .ref b), (1, .ref (ad 0)), (2, .ref (bd 0))]) F.1 F.2.1 dL_law_917 hl (k := 3) rfl (lw_inc j) (by decide) rfl (fun ls hl => ?_)
      refine lv_goto (tgt := 18) F.1 F.2.1 dL_law_920 (by decide) ?_
      exact next hj S M h.2 H locs hP5 hP6 hS ls (lv_sub hl [1, 2, 3, 0] rfl)
    by_cases hc4 : z = 4
    · have h := E.2.2.2.2.1 S M (xs (nI (6 * j) + 1).toNatClampNeg) (xs (nI (6 * j) + 2).toNatClampNeg) (xs (nI (6 * j) + 3).toNatClampNeg) hR
      refine lv_tableIn (off := 271) (tgt := 304) F.1 F.2.1 dL_law_33 (by rw [hc4]; decide) (by rw [hc4]; decide) (by rw [hc4]; rfl) (by decide) ?_
      refine lv_aload_n F.1 F.2.1 dL_law_304 rfl (lv_at hl 1 rfl) ?_
      refine lv_aload_n F.1 F.2.1 dL_law_305 rfl (lv_at hl 0 rfl) ?_
      refine lv_iload_n F.1 F.2.1 dL_law_306 rfl (lv_at hl 3 rfl) ?_
      refine lv_iconst (v := 1) F.1 F.2.1 dL_law_307 (by decide) ?_
      refine lv_iadd F.1 F.2.1 dL_law_308 ?_
      refine va_sld F.1 F.2.1 hX hbl hbA hS (lw_in (k := 1) hj hL (by decide)) dL_law_309 ?_
      refine lv_aload_n F.1 F.2.1 dL_law_310 rfl (lv_at hl 0 rfl) ?_
      refine lv_iload_n F.1 F.2.1 dL_law_311 rfl (lv_at hl 3 rfl) ?_
      refine lv_iconst (v := 2) F.1 F.2.1 dL_law_312 (by decide) ?_
      refine lv_iadd F.1 F.2.1 dL_law_313 ?_
      refine va_sld F.1 F.2.1 hX hbl hbA hS (lw_in (k := 2) hj hL (by decide)) dL_law_314 ?_
      refine lv_aload_n F.1 F.2.1 dL_law_315 rfl (lv_at hl 0 rfl) ?_
      refine lv_iload_n F.1 F.2.1 dL_law_316 rfl (lv_at hl 3 rfl) ?_
      refine lv_iconst (v := 3) F.1 F.2.1 dL_law_317 (by decide) ?_
      refine lv_iadd F.1 F.2.1 dL_law_318 ?_
      refine va_sld F.1 F.2.1 hX hbl hbA hS (lw_in (k := 3) hj hL (by decide)) dL_law_319 ?_
      refine vp_callSi (va_Run.run (va_runV (As := [.int (xs (nI (6 * j) + 1).toNatClampNeg), .int (xs (nI (6 * j) + 2).toNatClampNeg), .int (xs (nI (6 * j) + 3).toNatClampNeg)]) (rest := []) F (mX5_sum (l := l) (D := D) (cI := cI) (cJ := cJ) (cZ := cZ) (ad := ad) h) (cwV 3 F.2.2.2.2 gL_law_X5_sum rfl rfl rfl kV_X5_sum ⟨Nat.le_of_ble_eq_true rfl, Nat.le_of_ble_eq_true rfl⟩) ⟨rp_blind, va_recv hz.1 hP5 (ci := 3) (q0 := 0) rfl rfl, rp_pre hz hP5 (.ref (ad 0) :: [.int (xs (nI (6 * j) + 1).toNatClampNeg), .int (xs (nI (6 * j) + 2).toNatClampNeg), .int (xs (nI (6 * j) + 3).toNatClampNeg)])⟩ rfl rfl hl.1 rfl (lv_room (Nat.le_of_ble_eq_true rfl)) dL_law_320 ⟨Nat.le_of_ble_eq_true rfl, Nat.le_of_ble_eq_true rfl⟩)) (fun r5 h => ?_)
      refine lv_aload_n F.1 F.2.1 dL_law_323 rfl (lv_at hl 2 rfl) ?_
      refine lv_aload_n F.1 F.2.1 dL_law_324 rfl (lv_at hl 0 rfl) ?_
      refine lv_iload_n F.1 F.2.1 dL_law_325 rfl (lv_at hl 3 rfl) ?_
      refine lv_iconst (v := 1) F.1 F.2.1 dL_law_326 (by decide) ?_
      refine lv_iadd F.1 F.2.1 dL_law_327 ?_
      refine va_sld F.1 F.2.1 hX hbl hbA hS (lw_in (k := 1) hj hL (by decide)) dL_law_328 ?_
      refine lv_aload_n F.1 F.2.1 dL_law_329 rfl (lv_at hl 0 rfl) ?_
      refine lv_iload_n F.1 F.2.1 dL_law_330 rfl (lv_at hl 3 rfl) ?_
      refine lv_iconst (v := 2) F.1 F.2.1 dL_law_331 (by decide) ?_
      refine lv_iadd F.1 F.2.1 dL_law_332 ?_
      refine va_sld F.1 F.2.1 hX hbl hbA hS (lw_in (k := 2) hj hL (by decide)) dL_law_333 ?_
      refine lv_aload_n F.1 F.2.1 dL_law_334 rfl (lv_at hl 0 rfl) ?_
      refine lv_iload_n F.1 F.2.1 dL_law_335 rfl (lv_at hl 3 rfl) ?_
      refine lv_iconst (v := 3) F.1 F.2.1 dL_law_336 (by decide) ?_
      refine lv_iadd F.1 F.2.1 dL_law_337 ?_
      refine va_sld F.1 F.2.1 hX hbl hbA hS (lw_in (k := 3) hj hL (by decide)) dL_law_338 ?_
      refine vp_callSi (va_Run.run (va_runV (As := [.int (xs (nI (6 * j) + 1).toNatClampNeg), .int (xs (nI (6 * j) + 2).toNatClampNeg), .int (xs (nI (6 * j) + 3).toNatClampNeg)]) (rest := [.int r5]) F (mX6_sum (l := l) (D := D) (cI := cI) (cJ := cJ) (cZ := cZ) (ad := bd) h) (cwV 3 F.2.2.2.2 gL_law_X6_sum rfl rfl rfl kV_X6_sum ⟨Nat.le_of_ble_eq_true rfl, Nat.le_of_ble_eq_true rfl⟩) ⟨rp_blind, va_recv hz.1 hP6 (ci := 4) (q0 := 0) rfl rfl, rp_pre hz hP6 (.ref (bd 0) :: [.int (xs (nI (6 * j) + 1).toNatClampNeg), .int (xs (nI (6 * j) + 2).toNatClampNeg), .int (xs (nI (6 * j) + 3).toNatClampNeg)])⟩ rfl rfl hl.1 rfl (lv_room (Nat.le_of_ble_eq_true rfl)) dL_law_339 ⟨Nat.le_of_ble_eq_true rfl, Nat.le_of_ble_eq_true rfl⟩)) (fun r6 h => ?_)
      refine lv_icmp_eq (tgt := 917) F.1 F.2.1 dL_law_342 (by decide) (fun _ => ?_) (fun hc => absurd h.1 hc)
      refine lv_iinc (v := nI (6 * (j + 1))) (lv' := [(3, .int (nI (6 * (j + 1)))), (0, .ref b), (1, .ref (ad 0)), (2, .ref (bd 0))]) F.1 F.2.1 dL_law_917 hl (k := 3) rfl (lw_inc j) (by decide) rfl (fun ls hl => ?_)
      refine lv_goto (tgt := 18) F.1 F.2.1 dL_law_920 (by decide) ?_
      exact next hj S M h.2 H locs hP5 hP6 hS ls (lv_sub hl [1, 2, 3, 0] rfl)
    by_cases hc5 : z = 5
    · have h := E.2.2.2.2.2.1 S M (xs (nI (6 * j) + 1).toNatClampNeg) (xs (nI (6 * j) + 2).toNatClampNeg) hR
      refine lv_tableIn (off := 314) (tgt := 347) F.1 F.2.1 dL_law_33 (by rw [hc5]; decide) (by rw [hc5]; decide) (by rw [hc5]; rfl) (by decide) ?_
      refine lv_aload_n F.1 F.2.1 dL_law_347 rfl (lv_at hl 1 rfl) ?_
      refine lv_aload_n F.1 F.2.1 dL_law_348 rfl (lv_at hl 0 rfl) ?_
      refine lv_iload_n F.1 F.2.1 dL_law_349 rfl (lv_at hl 3 rfl) ?_
      refine lv_iconst (v := 1) F.1 F.2.1 dL_law_350 (by decide) ?_
      refine lv_iadd F.1 F.2.1 dL_law_351 ?_
      refine va_sld F.1 F.2.1 hX hbl hbA hS (lw_in (k := 1) hj hL (by decide)) dL_law_352 ?_
      refine lv_aload_n F.1 F.2.1 dL_law_353 rfl (lv_at hl 0 rfl) ?_
      refine lv_iload_n F.1 F.2.1 dL_law_354 rfl (lv_at hl 3 rfl) ?_
      refine lv_iconst (v := 2) F.1 F.2.1 dL_law_355 (by decide) ?_
      refine lv_iadd F.1 F.2.1 dL_law_356 ?_
      refine va_sld F.1 F.2.1 hX hbl hbA hS (lw_in (k := 2) hj hL (by decide)) dL_law_357 ?_
      refine vp_callSi (va_Run.run (va_runV (As := [.int (xs (nI (6 * j) + 1).toNatClampNeg), .int (xs (nI (6 * j) + 2).toNatClampNeg)]) (rest := []) F (mX5_change (l := l) (D := D) (cI := cI) (cJ := cJ) (cZ := cZ) (ad := ad) h) (cwV 2 F.2.2.2.2 gL_law_X5_change rfl rfl rfl kV_X5_change ⟨Nat.le_of_ble_eq_true rfl, Nat.le_of_ble_eq_true rfl⟩) ⟨rp_blind, va_recv hz.1 hP5 (ci := 3) (q0 := 0) rfl rfl, rp_pre hz hP5 (.ref (ad 0) :: [.int (xs (nI (6 * j) + 1).toNatClampNeg), .int (xs (nI (6 * j) + 2).toNatClampNeg)])⟩ rfl rfl hl.1 rfl (lv_room (Nat.le_of_ble_eq_true rfl)) dL_law_358 ⟨Nat.le_of_ble_eq_true rfl, Nat.le_of_ble_eq_true rfl⟩)) (fun r5 h => ?_)
      refine lv_aload_n F.1 F.2.1 dL_law_361 rfl (lv_at hl 2 rfl) ?_
      refine lv_aload_n F.1 F.2.1 dL_law_362 rfl (lv_at hl 0 rfl) ?_
      refine lv_iload_n F.1 F.2.1 dL_law_363 rfl (lv_at hl 3 rfl) ?_
      refine lv_iconst (v := 1) F.1 F.2.1 dL_law_364 (by decide) ?_
      refine lv_iadd F.1 F.2.1 dL_law_365 ?_
      refine va_sld F.1 F.2.1 hX hbl hbA hS (lw_in (k := 1) hj hL (by decide)) dL_law_366 ?_
      refine lv_aload_n F.1 F.2.1 dL_law_367 rfl (lv_at hl 0 rfl) ?_
      refine lv_iload_n F.1 F.2.1 dL_law_368 rfl (lv_at hl 3 rfl) ?_
      refine lv_iconst (v := 2) F.1 F.2.1 dL_law_369 (by decide) ?_
      refine lv_iadd F.1 F.2.1 dL_law_370 ?_
      refine va_sld F.1 F.2.1 hX hbl hbA hS (lw_in (k := 2) hj hL (by decide)) dL_law_371 ?_
      refine vp_callSi (va_Run.run (va_runV (As := [.int (xs (nI (6 * j) + 1).toNatClampNeg), .int (xs (nI (6 * j) + 2).toNatClampNeg)]) (rest := [.int r5]) F (mX6_change (l := l) (D := D) (cI := cI) (cJ := cJ) (cZ := cZ) (ad := bd) h) (cwV 2 F.2.2.2.2 gL_law_X6_change rfl rfl rfl kV_X6_change ⟨Nat.le_of_ble_eq_true rfl, Nat.le_of_ble_eq_true rfl⟩) ⟨rp_blind, va_recv hz.1 hP6 (ci := 4) (q0 := 0) rfl rfl, rp_pre hz hP6 (.ref (bd 0) :: [.int (xs (nI (6 * j) + 1).toNatClampNeg), .int (xs (nI (6 * j) + 2).toNatClampNeg)])⟩ rfl rfl hl.1 rfl (lv_room (Nat.le_of_ble_eq_true rfl)) dL_law_372 ⟨Nat.le_of_ble_eq_true rfl, Nat.le_of_ble_eq_true rfl⟩)) (fun r6 h => ?_)
      refine lv_icmp_eq (tgt := 917) F.1 F.2.1 dL_law_375 (by decide) (fun _ => ?_) (fun hc => absurd h.1 hc)
      refine lv_iinc (v := nI (6 * (j + 1))) (lv' := [(3, .int (nI (6 * (j + 1)))), (0, .ref b), (1, .ref (ad 0)), (2, .ref (bd 0))]) F.1 F.2.1 dL_law_917 hl (k := 3) rfl (lw_inc j) (by decide) rfl (fun ls hl => ?_)
      refine lv_goto (tgt := 18) F.1 F.2.1 dL_law_920 (by decide) ?_
      exact next hj S M h.2 H locs hP5 hP6 hS ls (lv_sub hl [1, 2, 3, 0] rfl)
    by_cases hc6 : z = 6
    · have h := E.2.2.2.2.2.2.1 S M (xs (nI (6 * j) + 1).toNatClampNeg) (xs (nI (6 * j) + 2).toNatClampNeg) (xs (nI (6 * j) + 3).toNatClampNeg) hR
      refine lv_tableIn (off := 347) (tgt := 380) F.1 F.2.1 dL_law_33 (by rw [hc6]; decide) (by rw [hc6]; decide) (by rw [hc6]; rfl) (by decide) ?_
      refine lv_aload_n F.1 F.2.1 dL_law_380 rfl (lv_at hl 1 rfl) ?_
      refine lv_aload_n F.1 F.2.1 dL_law_381 rfl (lv_at hl 0 rfl) ?_
      refine lv_iload_n F.1 F.2.1 dL_law_382 rfl (lv_at hl 3 rfl) ?_
      refine lv_iconst (v := 1) F.1 F.2.1 dL_law_383 (by decide) ?_
      refine lv_iadd F.1 F.2.1 dL_law_384 ?_
      refine va_sld F.1 F.2.1 hX hbl hbA hS (lw_in (k := 1) hj hL (by decide)) dL_law_385 ?_
      refine lv_aload_n F.1 F.2.1 dL_law_386 rfl (lv_at hl 0 rfl) ?_
      refine lv_iload_n F.1 F.2.1 dL_law_387 rfl (lv_at hl 3 rfl) ?_
      refine lv_iconst (v := 2) F.1 F.2.1 dL_law_388 (by decide) ?_
      refine lv_iadd F.1 F.2.1 dL_law_389 ?_
      refine va_sld F.1 F.2.1 hX hbl hbA hS (lw_in (k := 2) hj hL (by decide)) dL_law_390 ?_
      refine lv_aload_n F.1 F.2.1 dL_law_391 rfl (lv_at hl 0 rfl) ?_
      refine lv_iload_n F.1 F.2.1 dL_law_392 rfl (lv_at hl 3 rfl) ?_
      refine lv_iconst (v := 3) F.1 F.2.1 dL_law_393 (by decide) ?_
      refine lv_iadd F.1 F.2.1 dL_law_394 ?_
      refine va_sld F.1 F.2.1 hX hbl hbA hS (lw_in (k := 3) hj hL (by decide)) dL_law_395 ?_
      refine vp_callSi (va_Run.run (va_runV (As := [.int (xs (nI (6 * j) + 1).toNatClampNeg), .int (xs (nI (6 * j) + 2).toNatClampNeg), .int (xs (nI (6 * j) + 3).toNatClampNeg)]) (rest := []) F (mX5_rate (l := l) (D := D) (cI := cI) (cJ := cJ) (cZ := cZ) (ad := ad) h) (cwV 3 F.2.2.2.2 gL_law_X5_rate rfl rfl rfl kV_X5_rate ⟨Nat.le_of_ble_eq_true rfl, Nat.le_of_ble_eq_true rfl⟩) ⟨rp_blind, va_recv hz.1 hP5 (ci := 3) (q0 := 0) rfl rfl, rp_pre hz hP5 (.ref (ad 0) :: [.int (xs (nI (6 * j) + 1).toNatClampNeg), .int (xs (nI (6 * j) + 2).toNatClampNeg), .int (xs (nI (6 * j) + 3).toNatClampNeg)])⟩ rfl rfl hl.1 rfl (lv_room (Nat.le_of_ble_eq_true rfl)) dL_law_396 ⟨Nat.le_of_ble_eq_true rfl, Nat.le_of_ble_eq_true rfl⟩)) (fun r5 h => ?_)
      refine lv_aload_n F.1 F.2.1 dL_law_399 rfl (lv_at hl 2 rfl) ?_
      refine lv_aload_n F.1 F.2.1 dL_law_400 rfl (lv_at hl 0 rfl) ?_
      refine lv_iload_n F.1 F.2.1 dL_law_401 rfl (lv_at hl 3 rfl) ?_
      refine lv_iconst (v := 1) F.1 F.2.1 dL_law_402 (by decide) ?_
      refine lv_iadd F.1 F.2.1 dL_law_403 ?_
      refine va_sld F.1 F.2.1 hX hbl hbA hS (lw_in (k := 1) hj hL (by decide)) dL_law_404 ?_
      refine lv_aload_n F.1 F.2.1 dL_law_405 rfl (lv_at hl 0 rfl) ?_
      refine lv_iload_n F.1 F.2.1 dL_law_406 rfl (lv_at hl 3 rfl) ?_
      refine lv_iconst (v := 2) F.1 F.2.1 dL_law_407 (by decide) ?_
      refine lv_iadd F.1 F.2.1 dL_law_408 ?_
      refine va_sld F.1 F.2.1 hX hbl hbA hS (lw_in (k := 2) hj hL (by decide)) dL_law_409 ?_
      refine lv_aload_n F.1 F.2.1 dL_law_410 rfl (lv_at hl 0 rfl) ?_
      refine lv_iload_n F.1 F.2.1 dL_law_411 rfl (lv_at hl 3 rfl) ?_
      refine lv_iconst (v := 3) F.1 F.2.1 dL_law_412 (by decide) ?_
      refine lv_iadd F.1 F.2.1 dL_law_413 ?_
      refine va_sld F.1 F.2.1 hX hbl hbA hS (lw_in (k := 3) hj hL (by decide)) dL_law_414 ?_
      refine vp_callSi (va_Run.run (va_runV (As := [.int (xs (nI (6 * j) + 1).toNatClampNeg), .int (xs (nI (6 * j) + 2).toNatClampNeg), .int (xs (nI (6 * j) + 3).toNatClampNeg)]) (rest := [.int r5]) F (mX6_rate (l := l) (D := D) (cI := cI) (cJ := cJ) (cZ := cZ) (ad := bd) h) (cwV 3 F.2.2.2.2 gL_law_X6_rate rfl rfl rfl kV_X6_rate ⟨Nat.le_of_ble_eq_true rfl, Nat.le_of_ble_eq_true rfl⟩) ⟨rp_blind, va_recv hz.1 hP6 (ci := 4) (q0 := 0) rfl rfl, rp_pre hz hP6 (.ref (bd 0) :: [.int (xs (nI (6 * j) + 1).toNatClampNeg), .int (xs (nI (6 * j) + 2).toNatClampNeg), .int (xs (nI (6 * j) + 3).toNatClampNeg)])⟩ rfl rfl hl.1 rfl (lv_room (Nat.le_of_ble_eq_true rfl)) dL_law_415 ⟨Nat.le_of_ble_eq_true rfl, Nat.le_of_ble_eq_true rfl⟩)) (fun r6 h => ?_)
      refine lv_icmp_eq (tgt := 917) F.1 F.2.1 dL_law_418 (by decide) (fun _ => ?_) (fun hc => absurd h.1 hc)
      refine lv_iinc (v := nI (6 * (j + 1))) (lv' := [(3, .int (nI (6 * (j + 1)))), (0, .ref b), (1, .ref (ad 0)), (2, .ref (bd 0))]) F.1 F.2.1 dL_law_917 hl (k := 3) rfl (lw_inc j) (by decide) rfl (fun ls hl => ?_)
      refine lv_goto (tgt := 18) F.1 F.2.1 dL_law_920 (by decide) ?_
      exact next hj S M h.2 H locs hP5 hP6 hS ls (lv_sub hl [1, 2, 3, 0] rfl)
    by_cases hc7 : z = 7
    · have h := E.2.2.2.2.2.2.2.1 S M (xs (nI (6 * j) + 1).toNatClampNeg) (xs (nI (6 * j) + 2).toNatClampNeg) hR
      refine lv_tableIn (off := 390) (tgt := 423) F.1 F.2.1 dL_law_33 (by rw [hc7]; decide) (by rw [hc7]; decide) (by rw [hc7]; rfl) (by decide) ?_
      refine lv_aload_n F.1 F.2.1 dL_law_423 rfl (lv_at hl 1 rfl) ?_
      refine lv_aload_n F.1 F.2.1 dL_law_424 rfl (lv_at hl 0 rfl) ?_
      refine lv_iload_n F.1 F.2.1 dL_law_425 rfl (lv_at hl 3 rfl) ?_
      refine lv_iconst (v := 1) F.1 F.2.1 dL_law_426 (by decide) ?_
      refine lv_iadd F.1 F.2.1 dL_law_427 ?_
      refine va_sld F.1 F.2.1 hX hbl hbA hS (lw_in (k := 1) hj hL (by decide)) dL_law_428 ?_
      refine lv_aload_n F.1 F.2.1 dL_law_429 rfl (lv_at hl 0 rfl) ?_
      refine lv_iload_n F.1 F.2.1 dL_law_430 rfl (lv_at hl 3 rfl) ?_
      refine lv_iconst (v := 2) F.1 F.2.1 dL_law_431 (by decide) ?_
      refine lv_iadd F.1 F.2.1 dL_law_432 ?_
      refine va_sld F.1 F.2.1 hX hbl hbA hS (lw_in (k := 2) hj hL (by decide)) dL_law_433 ?_
      refine vp_callSl (va_Run.run (va_runV (As := [.int (xs (nI (6 * j) + 1).toNatClampNeg), .int (xs (nI (6 * j) + 2).toNatClampNeg)]) (rest := []) F (mX5_shift (l := l) (D := D) (cI := cI) (cJ := cJ) (cZ := cZ) (ad := ad) h) (cwV 2 F.2.2.2.2 gL_law_X5_shift rfl rfl rfl kV_X5_shift ⟨Nat.le_of_ble_eq_true rfl, Nat.le_of_ble_eq_true rfl⟩) ⟨rp_blind, va_recv hz.1 hP5 (ci := 3) (q0 := 0) rfl rfl, rp_pre hz hP5 (.ref (ad 0) :: [.int (xs (nI (6 * j) + 1).toNatClampNeg), .int (xs (nI (6 * j) + 2).toNatClampNeg)])⟩ rfl rfl hl.1 rfl (lv_room (Nat.le_of_ble_eq_true rfl)) dL_law_434 ⟨Nat.le_of_ble_eq_true rfl, Nat.le_of_ble_eq_true rfl⟩)) (fun r5 h => ?_)
      refine lv_aload_n F.1 F.2.1 dL_law_437 rfl (lv_at hl 2 rfl) ?_
      refine lv_aload_n F.1 F.2.1 dL_law_438 rfl (lv_at hl 0 rfl) ?_
      refine lv_iload_n F.1 F.2.1 dL_law_439 rfl (lv_at hl 3 rfl) ?_
      refine lv_iconst (v := 1) F.1 F.2.1 dL_law_440 (by decide) ?_
      refine lv_iadd F.1 F.2.1 dL_law_441 ?_
      refine va_sld F.1 F.2.1 hX hbl hbA hS (lw_in (k := 1) hj hL (by decide)) dL_law_442 ?_
      refine lv_aload_n F.1 F.2.1 dL_law_443 rfl (lv_at hl 0 rfl) ?_
      refine lv_iload_n F.1 F.2.1 dL_law_444 rfl (lv_at hl 3 rfl) ?_
      refine lv_iconst (v := 2) F.1 F.2.1 dL_law_445 (by decide) ?_
      refine lv_iadd F.1 F.2.1 dL_law_446 ?_
      refine va_sld F.1 F.2.1 hX hbl hbA hS (lw_in (k := 2) hj hL (by decide)) dL_law_447 ?_
      refine vp_callSl (va_Run.run (va_runV (As := [.int (xs (nI (6 * j) + 1).toNatClampNeg), .int (xs (nI (6 * j) + 2).toNatClampNeg)]) (rest := [.long r5]) F (mX6_shift (l := l) (D := D) (cI := cI) (cJ := cJ) (cZ := cZ) (ad := bd) h) (cwV 2 F.2.2.2.2 gL_law_X6_shift rfl rfl rfl kV_X6_shift ⟨Nat.le_of_ble_eq_true rfl, Nat.le_of_ble_eq_true rfl⟩) ⟨rp_blind, va_recv hz.1 hP6 (ci := 4) (q0 := 0) rfl rfl, rp_pre hz hP6 (.ref (bd 0) :: [.int (xs (nI (6 * j) + 1).toNatClampNeg), .int (xs (nI (6 * j) + 2).toNatClampNeg)])⟩ rfl rfl hl.1 rfl (lv_room (Nat.le_of_ble_eq_true rfl)) dL_law_448 ⟨Nat.le_of_ble_eq_true rfl, Nat.le_of_ble_eq_true rfl⟩)) (fun r6 h => ?_)
      refine W.lcmp F.1 F.2.1 dL_law_451 ?_
      refine lv_if_eq (tgt := 917) F.1 F.2.1 dL_law_452 (by decide) (fun _ => ?_) (fun hc => absurd ((lg_cmp_eq _ _).mpr h.1) hc)
      refine lv_iinc (v := nI (6 * (j + 1))) (lv' := [(3, .int (nI (6 * (j + 1)))), (0, .ref b), (1, .ref (ad 0)), (2, .ref (bd 0))]) F.1 F.2.1 dL_law_917 hl (k := 3) rfl (lw_inc j) (by decide) rfl (fun ls hl => ?_)
      refine lv_goto (tgt := 18) F.1 F.2.1 dL_law_920 (by decide) ?_
      exact next hj S M h.2 H locs hP5 hP6 hS ls (lv_sub hl [1, 2, 3, 0] rfl)
    by_cases hc8 : z = 8
    · have h := E.2.2.2.2.2.2.2.2.1 S M (xs (nI (6 * j) + 1).toNatClampNeg) (xs (nI (6 * j) + 2).toNatClampNeg) (xs (nI (6 * j) + 3).toNatClampNeg) (xs (nI (6 * j) + 4).toNatClampNeg) (xs (nI (6 * j) + 5).toNatClampNeg) hR
      refine lv_tableIn (off := 424) (tgt := 457) F.1 F.2.1 dL_law_33 (by rw [hc8]; decide) (by rw [hc8]; decide) (by rw [hc8]; rfl) (by decide) ?_
      refine lv_aload_n F.1 F.2.1 dL_law_457 rfl (lv_at hl 1 rfl) ?_
      refine lv_aload_n F.1 F.2.1 dL_law_458 rfl (lv_at hl 0 rfl) ?_
      refine lv_iload_n F.1 F.2.1 dL_law_459 rfl (lv_at hl 3 rfl) ?_
      refine lv_iconst (v := 1) F.1 F.2.1 dL_law_460 (by decide) ?_
      refine lv_iadd F.1 F.2.1 dL_law_461 ?_
      refine va_sld F.1 F.2.1 hX hbl hbA hS (lw_in (k := 1) hj hL (by decide)) dL_law_462 ?_
      refine lv_aload_n F.1 F.2.1 dL_law_463 rfl (lv_at hl 0 rfl) ?_
      refine lv_iload_n F.1 F.2.1 dL_law_464 rfl (lv_at hl 3 rfl) ?_
      refine lv_iconst (v := 2) F.1 F.2.1 dL_law_465 (by decide) ?_
      refine lv_iadd F.1 F.2.1 dL_law_466 ?_
      refine va_sld F.1 F.2.1 hX hbl hbA hS (lw_in (k := 2) hj hL (by decide)) dL_law_467 ?_
      refine lv_aload_n F.1 F.2.1 dL_law_468 rfl (lv_at hl 0 rfl) ?_
      refine lv_iload_n F.1 F.2.1 dL_law_469 rfl (lv_at hl 3 rfl) ?_
      refine lv_iconst (v := 3) F.1 F.2.1 dL_law_470 (by decide) ?_
      refine lv_iadd F.1 F.2.1 dL_law_471 ?_
      refine va_sld F.1 F.2.1 hX hbl hbA hS (lw_in (k := 3) hj hL (by decide)) dL_law_472 ?_
      refine lv_aload_n F.1 F.2.1 dL_law_473 rfl (lv_at hl 0 rfl) ?_
      refine lv_iload_n F.1 F.2.1 dL_law_474 rfl (lv_at hl 3 rfl) ?_
      refine lv_iconst (v := 4) F.1 F.2.1 dL_law_475 (by decide) ?_
      refine lv_iadd F.1 F.2.1 dL_law_476 ?_
      refine va_sld F.1 F.2.1 hX hbl hbA hS (lw_in (k := 4) hj hL (by decide)) dL_law_477 ?_
      refine lv_aload_n F.1 F.2.1 dL_law_478 rfl (lv_at hl 0 rfl) ?_
      refine lv_iload_n F.1 F.2.1 dL_law_479 rfl (lv_at hl 3 rfl) ?_
      refine lv_iconst (v := 5) F.1 F.2.1 dL_law_480 (by decide) ?_
      refine lv_iadd F.1 F.2.1 dL_law_481 ?_
      refine va_sld F.1 F.2.1 hX hbl hbA hS (lw_in (k := 5) hj hL (by decide)) dL_law_482 ?_
      refine vp_callSl (va_Run.run (va_runV (As := [.int (xs (nI (6 * j) + 1).toNatClampNeg), .int (xs (nI (6 * j) + 2).toNatClampNeg), .int (xs (nI (6 * j) + 3).toNatClampNeg), .int (xs (nI (6 * j) + 4).toNatClampNeg), .int (xs (nI (6 * j) + 5).toNatClampNeg)]) (rest := []) F (mX5_part (l := l) (D := D) (cI := cI) (cJ := cJ) (cZ := cZ) (ad := ad) h) (cwV 5 F.2.2.2.2 gL_law_X5_part rfl rfl rfl kV_X5_part ⟨Nat.le_of_ble_eq_true rfl, Nat.le_of_ble_eq_true rfl⟩) ⟨rpt_blind, va_recv hz.1 hP5 (ci := 3) (q0 := 0) rfl rfl, rpt_pre hz hP5 (gt_kept hgt hS) (.ref (ad 0) :: [.int (xs (nI (6 * j) + 1).toNatClampNeg), .int (xs (nI (6 * j) + 2).toNatClampNeg), .int (xs (nI (6 * j) + 3).toNatClampNeg), .int (xs (nI (6 * j) + 4).toNatClampNeg), .int (xs (nI (6 * j) + 5).toNatClampNeg)])⟩ rfl rfl hl.1 rfl (lv_room (Nat.le_of_ble_eq_true rfl)) dL_law_483 ⟨Nat.le_of_ble_eq_true rfl, Nat.le_of_ble_eq_true rfl⟩)) (fun r5 h => ?_)
      refine lv_aload_n F.1 F.2.1 dL_law_486 rfl (lv_at hl 2 rfl) ?_
      refine lv_aload_n F.1 F.2.1 dL_law_487 rfl (lv_at hl 0 rfl) ?_
      refine lv_iload_n F.1 F.2.1 dL_law_488 rfl (lv_at hl 3 rfl) ?_
      refine lv_iconst (v := 1) F.1 F.2.1 dL_law_489 (by decide) ?_
      refine lv_iadd F.1 F.2.1 dL_law_490 ?_
      refine va_sld F.1 F.2.1 hX hbl hbA hS (lw_in (k := 1) hj hL (by decide)) dL_law_491 ?_
      refine lv_aload_n F.1 F.2.1 dL_law_492 rfl (lv_at hl 0 rfl) ?_
      refine lv_iload_n F.1 F.2.1 dL_law_493 rfl (lv_at hl 3 rfl) ?_
      refine lv_iconst (v := 2) F.1 F.2.1 dL_law_494 (by decide) ?_
      refine lv_iadd F.1 F.2.1 dL_law_495 ?_
      refine va_sld F.1 F.2.1 hX hbl hbA hS (lw_in (k := 2) hj hL (by decide)) dL_law_496 ?_
      refine lv_aload_n F.1 F.2.1 dL_law_497 rfl (lv_at hl 0 rfl) ?_
      refine lv_iload_n F.1 F.2.1 dL_law_498 rfl (lv_at hl 3 rfl) ?_
      refine lv_iconst (v := 3) F.1 F.2.1 dL_law_499 (by decide) ?_
      refine lv_iadd F.1 F.2.1 dL_law_500 ?_
      refine va_sld F.1 F.2.1 hX hbl hbA hS (lw_in (k := 3) hj hL (by decide)) dL_law_501 ?_
      refine lv_aload_n F.1 F.2.1 dL_law_502 rfl (lv_at hl 0 rfl) ?_
      refine lv_iload_n F.1 F.2.1 dL_law_503 rfl (lv_at hl 3 rfl) ?_
      refine lv_iconst (v := 4) F.1 F.2.1 dL_law_504 (by decide) ?_
      refine lv_iadd F.1 F.2.1 dL_law_505 ?_
      refine va_sld F.1 F.2.1 hX hbl hbA hS (lw_in (k := 4) hj hL (by decide)) dL_law_506 ?_
      refine lv_aload_n F.1 F.2.1 dL_law_507 rfl (lv_at hl 0 rfl) ?_
      refine lv_iload_n F.1 F.2.1 dL_law_508 rfl (lv_at hl 3 rfl) ?_
      refine lv_iconst (v := 5) F.1 F.2.1 dL_law_509 (by decide) ?_
      refine lv_iadd F.1 F.2.1 dL_law_510 ?_
      refine va_sld F.1 F.2.1 hX hbl hbA hS (lw_in (k := 5) hj hL (by decide)) dL_law_511 ?_
      refine vp_callSl (va_Run.run (va_runV (As := [.int (xs (nI (6 * j) + 1).toNatClampNeg), .int (xs (nI (6 * j) + 2).toNatClampNeg), .int (xs (nI (6 * j) + 3).toNatClampNeg), .int (xs (nI (6 * j) + 4).toNatClampNeg), .int (xs (nI (6 * j) + 5).toNatClampNeg)]) (rest := [.long r5]) F (mX6_part (l := l) (D := D) (cI := cI) (cJ := cJ) (cZ := cZ) (ad := bd) h) (cwV 5 F.2.2.2.2 gL_law_X6_part rfl rfl rfl kV_X6_part ⟨Nat.le_of_ble_eq_true rfl, Nat.le_of_ble_eq_true rfl⟩) ⟨rp_blind, va_recv hz.1 hP6 (ci := 4) (q0 := 0) rfl rfl, rp_pre hz hP6 (.ref (bd 0) :: [.int (xs (nI (6 * j) + 1).toNatClampNeg), .int (xs (nI (6 * j) + 2).toNatClampNeg), .int (xs (nI (6 * j) + 3).toNatClampNeg), .int (xs (nI (6 * j) + 4).toNatClampNeg), .int (xs (nI (6 * j) + 5).toNatClampNeg)])⟩ rfl rfl hl.1 rfl (lv_room (Nat.le_of_ble_eq_true rfl)) dL_law_512 ⟨Nat.le_of_ble_eq_true rfl, Nat.le_of_ble_eq_true rfl⟩)) (fun r6 h => ?_)
      refine W.lcmp F.1 F.2.1 dL_law_515 ?_
      refine lv_if_eq (tgt := 917) F.1 F.2.1 dL_law_516 (by decide) (fun _ => ?_) (fun hc => absurd ((lg_cmp_eq _ _).mpr h.1) hc)
      refine lv_iinc (v := nI (6 * (j + 1))) (lv' := [(3, .int (nI (6 * (j + 1)))), (0, .ref b), (1, .ref (ad 0)), (2, .ref (bd 0))]) F.1 F.2.1 dL_law_917 hl (k := 3) rfl (lw_inc j) (by decide) rfl (fun ls hl => ?_)
      refine lv_goto (tgt := 18) F.1 F.2.1 dL_law_920 (by decide) ?_
      exact next hj S M h.2 H locs hP5 hP6 hS ls (lv_sub hl [1, 2, 3, 0] rfl)
    by_cases hc9 : z = 9
    · have h := E.2.2.2.2.2.2.2.2.2.1 S M (xs (nI (6 * j) + 1).toNatClampNeg) (xs (nI (6 * j) + 2).toNatClampNeg) hR
      refine lv_tableIn (off := 488) (tgt := 521) F.1 F.2.1 dL_law_33 (by rw [hc9]; decide) (by rw [hc9]; decide) (by rw [hc9]; rfl) (by decide) ?_
      refine lv_aload_n F.1 F.2.1 dL_law_521 rfl (lv_at hl 1 rfl) ?_
      refine lv_aload_n F.1 F.2.1 dL_law_522 rfl (lv_at hl 0 rfl) ?_
      refine lv_iload_n F.1 F.2.1 dL_law_523 rfl (lv_at hl 3 rfl) ?_
      refine lv_iconst (v := 1) F.1 F.2.1 dL_law_524 (by decide) ?_
      refine lv_iadd F.1 F.2.1 dL_law_525 ?_
      refine va_sld F.1 F.2.1 hX hbl hbA hS (lw_in (k := 1) hj hL (by decide)) dL_law_526 ?_
      refine lv_aload_n F.1 F.2.1 dL_law_527 rfl (lv_at hl 0 rfl) ?_
      refine lv_iload_n F.1 F.2.1 dL_law_528 rfl (lv_at hl 3 rfl) ?_
      refine lv_iconst (v := 2) F.1 F.2.1 dL_law_529 (by decide) ?_
      refine lv_iadd F.1 F.2.1 dL_law_530 ?_
      refine va_sld F.1 F.2.1 hX hbl hbA hS (lw_in (k := 2) hj hL (by decide)) dL_law_531 ?_
      refine vp_callSi (va_Run.run (va_runV (As := [.int (xs (nI (6 * j) + 1).toNatClampNeg), .int (xs (nI (6 * j) + 2).toNatClampNeg)]) (rest := []) F (mX5_moves (l := l) (D := D) (cI := cI) (cJ := cJ) (cZ := cZ) (ad := ad) h) (cwV 2 F.2.2.2.2 gL_law_X5_moves rfl rfl rfl kV_X5_moves ⟨Nat.le_of_ble_eq_true rfl, Nat.le_of_ble_eq_true rfl⟩) ⟨rp_blind, va_recv hz.1 hP5 (ci := 3) (q0 := 0) rfl rfl, rp_pre hz hP5 (.ref (ad 0) :: [.int (xs (nI (6 * j) + 1).toNatClampNeg), .int (xs (nI (6 * j) + 2).toNatClampNeg)])⟩ rfl rfl hl.1 rfl (lv_room (Nat.le_of_ble_eq_true rfl)) dL_law_532 ⟨Nat.le_of_ble_eq_true rfl, Nat.le_of_ble_eq_true rfl⟩)) (fun r5 h => ?_)
      refine lv_aload_n F.1 F.2.1 dL_law_535 rfl (lv_at hl 2 rfl) ?_
      refine lv_aload_n F.1 F.2.1 dL_law_536 rfl (lv_at hl 0 rfl) ?_
      refine lv_iload_n F.1 F.2.1 dL_law_537 rfl (lv_at hl 3 rfl) ?_
      refine lv_iconst (v := 1) F.1 F.2.1 dL_law_538 (by decide) ?_
      refine lv_iadd F.1 F.2.1 dL_law_539 ?_
      refine va_sld F.1 F.2.1 hX hbl hbA hS (lw_in (k := 1) hj hL (by decide)) dL_law_540 ?_
      refine lv_aload_n F.1 F.2.1 dL_law_541 rfl (lv_at hl 0 rfl) ?_
      refine lv_iload_n F.1 F.2.1 dL_law_542 rfl (lv_at hl 3 rfl) ?_
      refine lv_iconst (v := 2) F.1 F.2.1 dL_law_543 (by decide) ?_
      refine lv_iadd F.1 F.2.1 dL_law_544 ?_
      refine va_sld F.1 F.2.1 hX hbl hbA hS (lw_in (k := 2) hj hL (by decide)) dL_law_545 ?_
      refine vp_callSi (va_Run.run (va_runV (As := [.int (xs (nI (6 * j) + 1).toNatClampNeg), .int (xs (nI (6 * j) + 2).toNatClampNeg)]) (rest := [.int r5]) F (mX6_moves (l := l) (D := D) (cI := cI) (cJ := cJ) (cZ := cZ) (ad := bd) h) (cwV 2 F.2.2.2.2 gL_law_X6_moves rfl rfl rfl kV_X6_moves ⟨Nat.le_of_ble_eq_true rfl, Nat.le_of_ble_eq_true rfl⟩) ⟨rp_blind, va_recv hz.1 hP6 (ci := 4) (q0 := 0) rfl rfl, rp_pre hz hP6 (.ref (bd 0) :: [.int (xs (nI (6 * j) + 1).toNatClampNeg), .int (xs (nI (6 * j) + 2).toNatClampNeg)])⟩ rfl rfl hl.1 rfl (lv_room (Nat.le_of_ble_eq_true rfl)) dL_law_546 ⟨Nat.le_of_ble_eq_true rfl, Nat.le_of_ble_eq_true rfl⟩)) (fun r6 h => ?_)
      refine lv_icmp_eq (tgt := 917) F.1 F.2.1 dL_law_549 (by decide) (fun _ => ?_) (fun hc => absurd h.1 hc)
      refine lv_iinc (v := nI (6 * (j + 1))) (lv' := [(3, .int (nI (6 * (j + 1)))), (0, .ref b), (1, .ref (ad 0)), (2, .ref (bd 0))]) F.1 F.2.1 dL_law_917 hl (k := 3) rfl (lw_inc j) (by decide) rfl (fun ls hl => ?_)
      refine lv_goto (tgt := 18) F.1 F.2.1 dL_law_920 (by decide) ?_
      exact next hj S M h.2 H locs hP5 hP6 hS ls (lv_sub hl [1, 2, 3, 0] rfl)
    by_cases hc10 : z = 10
    · have h := E.2.2.2.2.2.2.2.2.2.2.1 S M (xs (nI (6 * j) + 1).toNatClampNeg) (xs (nI (6 * j) + 2).toNatClampNeg) hR
      refine lv_tableIn (off := 521) (tgt := 554) F.1 F.2.1 dL_law_33 (by rw [hc10]; decide) (by rw [hc10]; decide) (by rw [hc10]; rfl) (by decide) ?_
      refine lv_aload_n F.1 F.2.1 dL_law_554 rfl (lv_at hl 1 rfl) ?_
      refine lv_aload_n F.1 F.2.1 dL_law_555 rfl (lv_at hl 0 rfl) ?_
      refine lv_iload_n F.1 F.2.1 dL_law_556 rfl (lv_at hl 3 rfl) ?_
      refine lv_iconst (v := 1) F.1 F.2.1 dL_law_557 (by decide) ?_
      refine lv_iadd F.1 F.2.1 dL_law_558 ?_
      refine va_sld F.1 F.2.1 hX hbl hbA hS (lw_in (k := 1) hj hL (by decide)) dL_law_559 ?_
      refine lv_aload_n F.1 F.2.1 dL_law_560 rfl (lv_at hl 0 rfl) ?_
      refine lv_iload_n F.1 F.2.1 dL_law_561 rfl (lv_at hl 3 rfl) ?_
      refine lv_iconst (v := 2) F.1 F.2.1 dL_law_562 (by decide) ?_
      refine lv_iadd F.1 F.2.1 dL_law_563 ?_
      refine va_sld F.1 F.2.1 hX hbl hbA hS (lw_in (k := 2) hj hL (by decide)) dL_law_564 ?_
      refine vp_callSi (va_Run.run (va_runV (As := [.int (xs (nI (6 * j) + 1).toNatClampNeg), .int (xs (nI (6 * j) + 2).toNatClampNeg)]) (rest := []) F (mX5_move (l := l) (D := D) (cI := cI) (cJ := cJ) (cZ := cZ) (ad := ad) h) (cwV 2 F.2.2.2.2 gL_law_X5_move rfl rfl rfl kV_X5_move ⟨Nat.le_of_ble_eq_true rfl, Nat.le_of_ble_eq_true rfl⟩) ⟨rp_blind, va_recv hz.1 hP5 (ci := 3) (q0 := 0) rfl rfl, rp_pre hz hP5 (.ref (ad 0) :: [.int (xs (nI (6 * j) + 1).toNatClampNeg), .int (xs (nI (6 * j) + 2).toNatClampNeg)])⟩ rfl rfl hl.1 rfl (lv_room (Nat.le_of_ble_eq_true rfl)) dL_law_565 ⟨Nat.le_of_ble_eq_true rfl, Nat.le_of_ble_eq_true rfl⟩)) (fun r5 h => ?_)
      refine lv_aload_n F.1 F.2.1 dL_law_568 rfl (lv_at hl 2 rfl) ?_
      refine lv_aload_n F.1 F.2.1 dL_law_569 rfl (lv_at hl 0 rfl) ?_
      refine lv_iload_n F.1 F.2.1 dL_law_570 rfl (lv_at hl 3 rfl) ?_
      refine lv_iconst (v := 1) F.1 F.2.1 dL_law_571 (by decide) ?_
      refine lv_iadd F.1 F.2.1 dL_law_572 ?_
      refine va_sld F.1 F.2.1 hX hbl hbA hS (lw_in (k := 1) hj hL (by decide)) dL_law_573 ?_
      refine lv_aload_n F.1 F.2.1 dL_law_574 rfl (lv_at hl 0 rfl) ?_
      refine lv_iload_n F.1 F.2.1 dL_law_575 rfl (lv_at hl 3 rfl) ?_
      refine lv_iconst (v := 2) F.1 F.2.1 dL_law_576 (by decide) ?_
      refine lv_iadd F.1 F.2.1 dL_law_577 ?_
      refine va_sld F.1 F.2.1 hX hbl hbA hS (lw_in (k := 2) hj hL (by decide)) dL_law_578 ?_
      refine vp_callSi (va_Run.run (va_runV (As := [.int (xs (nI (6 * j) + 1).toNatClampNeg), .int (xs (nI (6 * j) + 2).toNatClampNeg)]) (rest := [.int r5]) F (mX6_move (l := l) (D := D) (cI := cI) (cJ := cJ) (cZ := cZ) (ad := bd) h) (cwV 2 F.2.2.2.2 gL_law_X6_move rfl rfl rfl kV_X6_move ⟨Nat.le_of_ble_eq_true rfl, Nat.le_of_ble_eq_true rfl⟩) ⟨rp_blind, va_recv hz.1 hP6 (ci := 4) (q0 := 0) rfl rfl, rp_pre hz hP6 (.ref (bd 0) :: [.int (xs (nI (6 * j) + 1).toNatClampNeg), .int (xs (nI (6 * j) + 2).toNatClampNeg)])⟩ rfl rfl hl.1 rfl (lv_room (Nat.le_of_ble_eq_true rfl)) dL_law_579 ⟨Nat.le_of_ble_eq_true rfl, Nat.le_of_ble_eq_true rfl⟩)) (fun r6 h => ?_)
      refine lv_icmp_eq (tgt := 917) F.1 F.2.1 dL_law_582 (by decide) (fun _ => ?_) (fun hc => absurd h.1 hc)
      refine lv_iinc (v := nI (6 * (j + 1))) (lv' := [(3, .int (nI (6 * (j + 1)))), (0, .ref b), (1, .ref (ad 0)), (2, .ref (bd 0))]) F.1 F.2.1 dL_law_917 hl (k := 3) rfl (lw_inc j) (by decide) rfl (fun ls hl => ?_)
      refine lv_goto (tgt := 18) F.1 F.2.1 dL_law_920 (by decide) ?_
      exact next hj S M h.2 H locs hP5 hP6 hS ls (lv_sub hl [1, 2, 3, 0] rfl)
    by_cases hc11 : z = 11
    · have h := E.2.2.2.2.2.2.2.2.2.2.2.1 S M (xs (nI (6 * j) + 1).toNatClampNeg) (xs (nI (6 * j) + 2).toNatClampNeg) (xs (nI (6 * j) + 3).toNatClampNeg) (xs (nI (6 * j) + 4).toNatClampNeg) hR
      refine lv_tableIn (off := 554) (tgt := 587) F.1 F.2.1 dL_law_33 (by rw [hc11]; decide) (by rw [hc11]; decide) (by rw [hc11]; rfl) (by decide) ?_
      refine lv_aload_n F.1 F.2.1 dL_law_587 rfl (lv_at hl 1 rfl) ?_
      refine lv_aload_n F.1 F.2.1 dL_law_588 rfl (lv_at hl 0 rfl) ?_
      refine lv_iload_n F.1 F.2.1 dL_law_589 rfl (lv_at hl 3 rfl) ?_
      refine lv_iconst (v := 1) F.1 F.2.1 dL_law_590 (by decide) ?_
      refine lv_iadd F.1 F.2.1 dL_law_591 ?_
      refine va_sld F.1 F.2.1 hX hbl hbA hS (lw_in (k := 1) hj hL (by decide)) dL_law_592 ?_
      refine lv_aload_n F.1 F.2.1 dL_law_593 rfl (lv_at hl 0 rfl) ?_
      refine lv_iload_n F.1 F.2.1 dL_law_594 rfl (lv_at hl 3 rfl) ?_
      refine lv_iconst (v := 2) F.1 F.2.1 dL_law_595 (by decide) ?_
      refine lv_iadd F.1 F.2.1 dL_law_596 ?_
      refine va_sld F.1 F.2.1 hX hbl hbA hS (lw_in (k := 2) hj hL (by decide)) dL_law_597 ?_
      refine lv_aload_n F.1 F.2.1 dL_law_598 rfl (lv_at hl 0 rfl) ?_
      refine lv_iload_n F.1 F.2.1 dL_law_599 rfl (lv_at hl 3 rfl) ?_
      refine lv_iconst (v := 3) F.1 F.2.1 dL_law_600 (by decide) ?_
      refine lv_iadd F.1 F.2.1 dL_law_601 ?_
      refine va_sld F.1 F.2.1 hX hbl hbA hS (lw_in (k := 3) hj hL (by decide)) dL_law_602 ?_
      refine lv_aload_n F.1 F.2.1 dL_law_603 rfl (lv_at hl 0 rfl) ?_
      refine lv_iload_n F.1 F.2.1 dL_law_604 rfl (lv_at hl 3 rfl) ?_
      refine lv_iconst (v := 4) F.1 F.2.1 dL_law_605 (by decide) ?_
      refine lv_iadd F.1 F.2.1 dL_law_606 ?_
      refine va_sld F.1 F.2.1 hX hbl hbA hS (lw_in (k := 4) hj hL (by decide)) dL_law_607 ?_
      refine vp_callSi (va_Run.run (va_runV (As := [.int (xs (nI (6 * j) + 1).toNatClampNeg), .int (xs (nI (6 * j) + 2).toNatClampNeg), .int (xs (nI (6 * j) + 3).toNatClampNeg), .int (xs (nI (6 * j) + 4).toNatClampNeg)]) (rest := []) F (mX5_rounded (l := l) (D := D) (cI := cI) (cJ := cJ) (cZ := cZ) (ad := ad) h) (cwV 4 F.2.2.2.2 gL_law_X5_rounded rfl rfl rfl kV_X5_rounded ⟨Nat.le_of_ble_eq_true rfl, Nat.le_of_ble_eq_true rfl⟩) ⟨rpt_blind, va_recv hz.1 hP5 (ci := 3) (q0 := 0) rfl rfl, rpt_pre hz hP5 (gt_kept hgt hS) (.ref (ad 0) :: [.int (xs (nI (6 * j) + 1).toNatClampNeg), .int (xs (nI (6 * j) + 2).toNatClampNeg), .int (xs (nI (6 * j) + 3).toNatClampNeg), .int (xs (nI (6 * j) + 4).toNatClampNeg)])⟩ rfl rfl hl.1 rfl (lv_room (Nat.le_of_ble_eq_true rfl)) dL_law_608 ⟨Nat.le_of_ble_eq_true rfl, Nat.le_of_ble_eq_true rfl⟩)) (fun r5 h => ?_)
      refine lv_aload_n F.1 F.2.1 dL_law_611 rfl (lv_at hl 2 rfl) ?_
      refine lv_aload_n F.1 F.2.1 dL_law_612 rfl (lv_at hl 0 rfl) ?_
      refine lv_iload_n F.1 F.2.1 dL_law_613 rfl (lv_at hl 3 rfl) ?_
      refine lv_iconst (v := 1) F.1 F.2.1 dL_law_614 (by decide) ?_
      refine lv_iadd F.1 F.2.1 dL_law_615 ?_
      refine va_sld F.1 F.2.1 hX hbl hbA hS (lw_in (k := 1) hj hL (by decide)) dL_law_616 ?_
      refine lv_aload_n F.1 F.2.1 dL_law_617 rfl (lv_at hl 0 rfl) ?_
      refine lv_iload_n F.1 F.2.1 dL_law_618 rfl (lv_at hl 3 rfl) ?_
      refine lv_iconst (v := 2) F.1 F.2.1 dL_law_619 (by decide) ?_
      refine lv_iadd F.1 F.2.1 dL_law_620 ?_
      refine va_sld F.1 F.2.1 hX hbl hbA hS (lw_in (k := 2) hj hL (by decide)) dL_law_621 ?_
      refine lv_aload_n F.1 F.2.1 dL_law_622 rfl (lv_at hl 0 rfl) ?_
      refine lv_iload_n F.1 F.2.1 dL_law_623 rfl (lv_at hl 3 rfl) ?_
      refine lv_iconst (v := 3) F.1 F.2.1 dL_law_624 (by decide) ?_
      refine lv_iadd F.1 F.2.1 dL_law_625 ?_
      refine va_sld F.1 F.2.1 hX hbl hbA hS (lw_in (k := 3) hj hL (by decide)) dL_law_626 ?_
      refine lv_aload_n F.1 F.2.1 dL_law_627 rfl (lv_at hl 0 rfl) ?_
      refine lv_iload_n F.1 F.2.1 dL_law_628 rfl (lv_at hl 3 rfl) ?_
      refine lv_iconst (v := 4) F.1 F.2.1 dL_law_629 (by decide) ?_
      refine lv_iadd F.1 F.2.1 dL_law_630 ?_
      refine va_sld F.1 F.2.1 hX hbl hbA hS (lw_in (k := 4) hj hL (by decide)) dL_law_631 ?_
      refine lw_call (wf := w6 bd cI cZ) (va_runV (As := [.int (xs (nI (6 * j) + 1).toNatClampNeg), .int (xs (nI (6 * j) + 2).toNatClampNeg), .int (xs (nI (6 * j) + 3).toNatClampNeg), .int (xs (nI (6 * j) + 4).toNatClampNeg)]) (rest := [.int r5]) F (mX6_rounded (l := l) (D := D) (cI := cI) (cJ := cJ) (cZ := cZ) (ad := bd) _ h) (cwV 4 F.2.2.2.2 gL_law_X6_rounded rfl rfl rfl kV_X6_rounded ⟨Nat.le_of_ble_eq_true rfl, Nat.le_of_ble_eq_true rfl⟩) ⟨wp_blind, va_recv hz.1 hP6 (ci := 4) (q0 := 0) rfl rfl, wp_pre hz hP6 (hD6 M) (.ref (bd 0) :: [.int (xs (nI (6 * j) + 1).toNatClampNeg), .int (xs (nI (6 * j) + 2).toNatClampNeg), .int (xs (nI (6 * j) + 3).toNatClampNeg), .int (xs (nI (6 * j) + 4).toNatClampNeg)])⟩ rfl rfl hl.1 rfl (lv_room (Nat.le_of_ble_eq_true rfl)) dL_law_632 ⟨Nat.le_of_ble_eq_true rfl, Nat.le_of_ble_eq_true rfl⟩) hS hP5 (lw_swap (hDD S M)) hA (fun r6 M1 H locs h hP6 hP5 hS => ?_)
      refine lv_icmp_eq (tgt := 917) F.1 F.2.1 dL_law_635 (by decide) (fun _ => ?_) (fun hc => absurd h.1 hc)
      refine lv_iinc (v := nI (6 * (j + 1))) (lv' := [(3, .int (nI (6 * (j + 1)))), (0, .ref b), (1, .ref (ad 0)), (2, .ref (bd 0))]) F.1 F.2.1 dL_law_917 hl (k := 3) rfl (lw_inc j) (by decide) rfl (fun ls hl => ?_)
      refine lv_goto (tgt := 18) F.1 F.2.1 dL_law_920 (by decide) ?_
      exact next hj S M1 h.2 H locs hP5 hP6 hS ls (lv_sub hl [1, 2, 3, 0] rfl)
    by_cases hc12 : z = 12
    · have h := E.2.2.2.2.2.2.2.2.2.2.2.2.1 S M (xs (nI (6 * j) + 1).toNatClampNeg) (xs (nI (6 * j) + 2).toNatClampNeg) (xs (nI (6 * j) + 3).toNatClampNeg) hR
      refine lv_tableIn (off := 607) (tgt := 640) F.1 F.2.1 dL_law_33 (by rw [hc12]; decide) (by rw [hc12]; decide) (by rw [hc12]; rfl) (by decide) ?_
      refine lv_aload_n F.1 F.2.1 dL_law_640 rfl (lv_at hl 1 rfl) ?_
      refine lv_aload_n F.1 F.2.1 dL_law_641 rfl (lv_at hl 0 rfl) ?_
      refine lv_iload_n F.1 F.2.1 dL_law_642 rfl (lv_at hl 3 rfl) ?_
      refine lv_iconst (v := 1) F.1 F.2.1 dL_law_643 (by decide) ?_
      refine lv_iadd F.1 F.2.1 dL_law_644 ?_
      refine va_sld F.1 F.2.1 hX hbl hbA hS (lw_in (k := 1) hj hL (by decide)) dL_law_645 ?_
      refine lv_aload_n F.1 F.2.1 dL_law_646 rfl (lv_at hl 0 rfl) ?_
      refine lv_iload_n F.1 F.2.1 dL_law_647 rfl (lv_at hl 3 rfl) ?_
      refine lv_iconst (v := 2) F.1 F.2.1 dL_law_648 (by decide) ?_
      refine lv_iadd F.1 F.2.1 dL_law_649 ?_
      refine va_sld F.1 F.2.1 hX hbl hbA hS (lw_in (k := 2) hj hL (by decide)) dL_law_650 ?_
      refine lv_aload_n F.1 F.2.1 dL_law_651 rfl (lv_at hl 0 rfl) ?_
      refine lv_iload_n F.1 F.2.1 dL_law_652 rfl (lv_at hl 3 rfl) ?_
      refine lv_iconst (v := 3) F.1 F.2.1 dL_law_653 (by decide) ?_
      refine lv_iadd F.1 F.2.1 dL_law_654 ?_
      refine va_sld F.1 F.2.1 hX hbl hbA hS (lw_in (k := 3) hj hL (by decide)) dL_law_655 ?_
      refine lw_call (wf := w5 ad cI cJ) (va_runV (As := [.int (xs (nI (6 * j) + 1).toNatClampNeg), .int (xs (nI (6 * j) + 2).toNatClampNeg), .int (xs (nI (6 * j) + 3).toNatClampNeg)]) (rest := []) F (mX5_factor (l := l) (D := D) (cI := cI) (cJ := cJ) (cZ := cZ) (ad := ad) _ h) (cwV 3 F.2.2.2.2 gL_law_X5_factor rfl rfl rfl kV_X5_factor ⟨Nat.le_of_ble_eq_true rfl, Nat.le_of_ble_eq_true rfl⟩) ⟨wp_blind, va_recv hz.1 hP5 (ci := 3) (q0 := 0) rfl rfl, wp_pre hz hP5 (hD5 S) (.ref (ad 0) :: [.int (xs (nI (6 * j) + 1).toNatClampNeg), .int (xs (nI (6 * j) + 2).toNatClampNeg), .int (xs (nI (6 * j) + 3).toNatClampNeg)])⟩ rfl rfl hl.1 rfl (lv_room (Nat.le_of_ble_eq_true rfl)) dL_law_656 ⟨Nat.le_of_ble_eq_true rfl, Nat.le_of_ble_eq_true rfl⟩) hS hP6 (hDD S M) hA (fun r5 S1 H locs h hP5 hP6 hS => ?_)
      refine lv_aload_n F.1 F.2.1 dL_law_659 rfl (lv_at hl 2 rfl) ?_
      refine lv_aload_n F.1 F.2.1 dL_law_660 rfl (lv_at hl 0 rfl) ?_
      refine lv_iload_n F.1 F.2.1 dL_law_661 rfl (lv_at hl 3 rfl) ?_
      refine lv_iconst (v := 1) F.1 F.2.1 dL_law_662 (by decide) ?_
      refine lv_iadd F.1 F.2.1 dL_law_663 ?_
      refine va_sld F.1 F.2.1 hX hbl hbA hS (lw_in (k := 1) hj hL (by decide)) dL_law_664 ?_
      refine lv_aload_n F.1 F.2.1 dL_law_665 rfl (lv_at hl 0 rfl) ?_
      refine lv_iload_n F.1 F.2.1 dL_law_666 rfl (lv_at hl 3 rfl) ?_
      refine lv_iconst (v := 2) F.1 F.2.1 dL_law_667 (by decide) ?_
      refine lv_iadd F.1 F.2.1 dL_law_668 ?_
      refine va_sld F.1 F.2.1 hX hbl hbA hS (lw_in (k := 2) hj hL (by decide)) dL_law_669 ?_
      refine lv_aload_n F.1 F.2.1 dL_law_670 rfl (lv_at hl 0 rfl) ?_
      refine lv_iload_n F.1 F.2.1 dL_law_671 rfl (lv_at hl 3 rfl) ?_
      refine lv_iconst (v := 3) F.1 F.2.1 dL_law_672 (by decide) ?_
      refine lv_iadd F.1 F.2.1 dL_law_673 ?_
      refine va_sld F.1 F.2.1 hX hbl hbA hS (lw_in (k := 3) hj hL (by decide)) dL_law_674 ?_
      refine lw_call (wf := w6 bd cI cZ) (va_runV (As := [.int (xs (nI (6 * j) + 1).toNatClampNeg), .int (xs (nI (6 * j) + 2).toNatClampNeg), .int (xs (nI (6 * j) + 3).toNatClampNeg)]) (rest := [.int r5]) F (mX6_factor (l := l) (D := D) (cI := cI) (cJ := cJ) (cZ := cZ) (ad := bd) _ h) (cwV 3 F.2.2.2.2 gL_law_X6_factor rfl rfl rfl kV_X6_factor ⟨Nat.le_of_ble_eq_true rfl, Nat.le_of_ble_eq_true rfl⟩) ⟨wp_blind, va_recv hz.1 hP6 (ci := 4) (q0 := 0) rfl rfl, wp_pre hz hP6 (hD6 M) (.ref (bd 0) :: [.int (xs (nI (6 * j) + 1).toNatClampNeg), .int (xs (nI (6 * j) + 2).toNatClampNeg), .int (xs (nI (6 * j) + 3).toNatClampNeg)])⟩ rfl rfl hl.1 rfl (lv_room (Nat.le_of_ble_eq_true rfl)) dL_law_675 ⟨Nat.le_of_ble_eq_true rfl, Nat.le_of_ble_eq_true rfl⟩) hS hP5 (lw_swap (hDD S1 M)) hA (fun r6 M1 H locs h hP6 hP5 hS => ?_)
      refine lv_icmp_eq (tgt := 917) F.1 F.2.1 dL_law_678 (by decide) (fun _ => ?_) (fun hc => absurd h.1 hc)
      refine lv_iinc (v := nI (6 * (j + 1))) (lv' := [(3, .int (nI (6 * (j + 1)))), (0, .ref b), (1, .ref (ad 0)), (2, .ref (bd 0))]) F.1 F.2.1 dL_law_917 hl (k := 3) rfl (lw_inc j) (by decide) rfl (fun ls hl => ?_)
      refine lv_goto (tgt := 18) F.1 F.2.1 dL_law_920 (by decide) ?_
      exact next hj S1 M1 h.2 H locs hP5 hP6 hS ls (lv_sub hl [1, 2, 3, 0] rfl)
    by_cases hc13 : z = 13
    · have h := E.2.2.2.2.2.2.2.2.2.2.2.2.2.1 S M (xs (nI (6 * j) + 1).toNatClampNeg) hR
      refine lv_tableIn (off := 650) (tgt := 683) F.1 F.2.1 dL_law_33 (by rw [hc13]; decide) (by rw [hc13]; decide) (by rw [hc13]; rfl) (by decide) ?_
      refine lv_aload_n F.1 F.2.1 dL_law_683 rfl (lv_at hl 1 rfl) ?_
      refine lv_aload_n F.1 F.2.1 dL_law_684 rfl (lv_at hl 0 rfl) ?_
      refine lv_iload_n F.1 F.2.1 dL_law_685 rfl (lv_at hl 3 rfl) ?_
      refine lv_iconst (v := 1) F.1 F.2.1 dL_law_686 (by decide) ?_
      refine lv_iadd F.1 F.2.1 dL_law_687 ?_
      refine va_sld F.1 F.2.1 hX hbl hbA hS (lw_in (k := 1) hj hL (by decide)) dL_law_688 ?_
      refine vp_callSi (va_Run.run (va_runV (As := [.int (xs (nI (6 * j) + 1).toNatClampNeg)]) (rest := []) F (mX5_outcome (l := l) (D := D) (cI := cI) (cJ := cJ) (cZ := cZ) (ad := ad) h) (cwV 1 F.2.2.2.2 gL_law_X5_outcome rfl rfl rfl kV_X5_outcome ⟨Nat.le_of_ble_eq_true rfl, Nat.le_of_ble_eq_true rfl⟩) ⟨rp_blind, va_recv hz.1 hP5 (ci := 3) (q0 := 0) rfl rfl, rp_pre hz hP5 (.ref (ad 0) :: [.int (xs (nI (6 * j) + 1).toNatClampNeg)])⟩ rfl rfl hl.1 rfl (lv_room (Nat.le_of_ble_eq_true rfl)) dL_law_689 ⟨Nat.le_of_ble_eq_true rfl, Nat.le_of_ble_eq_true rfl⟩)) (fun r5 h => ?_)
      refine lv_aload_n F.1 F.2.1 dL_law_692 rfl (lv_at hl 2 rfl) ?_
      refine lv_aload_n F.1 F.2.1 dL_law_693 rfl (lv_at hl 0 rfl) ?_
      refine lv_iload_n F.1 F.2.1 dL_law_694 rfl (lv_at hl 3 rfl) ?_
      refine lv_iconst (v := 1) F.1 F.2.1 dL_law_695 (by decide) ?_
      refine lv_iadd F.1 F.2.1 dL_law_696 ?_
      refine va_sld F.1 F.2.1 hX hbl hbA hS (lw_in (k := 1) hj hL (by decide)) dL_law_697 ?_
      refine vp_callSi (va_Run.run (va_runV (As := [.int (xs (nI (6 * j) + 1).toNatClampNeg)]) (rest := [.int r5]) F (mX6_outcome (l := l) (D := D) (cI := cI) (cJ := cJ) (cZ := cZ) (ad := bd) h) (cwV 1 F.2.2.2.2 gL_law_X6_outcome rfl rfl rfl kV_X6_outcome ⟨Nat.le_of_ble_eq_true rfl, Nat.le_of_ble_eq_true rfl⟩) ⟨rp_blind, va_recv hz.1 hP6 (ci := 4) (q0 := 0) rfl rfl, rp_pre hz hP6 (.ref (bd 0) :: [.int (xs (nI (6 * j) + 1).toNatClampNeg)])⟩ rfl rfl hl.1 rfl (lv_room (Nat.le_of_ble_eq_true rfl)) dL_law_698 ⟨Nat.le_of_ble_eq_true rfl, Nat.le_of_ble_eq_true rfl⟩)) (fun r6 h => ?_)
      refine lv_icmp_eq (tgt := 917) F.1 F.2.1 dL_law_701 (by decide) (fun _ => ?_) (fun hc => absurd h.1 hc)
      refine lv_iinc (v := nI (6 * (j + 1))) (lv' := [(3, .int (nI (6 * (j + 1)))), (0, .ref b), (1, .ref (ad 0)), (2, .ref (bd 0))]) F.1 F.2.1 dL_law_917 hl (k := 3) rfl (lw_inc j) (by decide) rfl (fun ls hl => ?_)
      refine lv_goto (tgt := 18) F.1 F.2.1 dL_law_920 (by decide) ?_
      exact next hj S M h.2 H locs hP5 hP6 hS ls (lv_sub hl [1, 2, 3, 0] rfl)
    by_cases hc14 : z = 14
    · have h := E.2.2.2.2.2.2.2.2.2.2.2.2.2.2.1 S M (xs (nI (6 * j) + 1).toNatClampNeg) (xs (nI (6 * j) + 2).toNatClampNeg) hR
      refine lv_tableIn (off := 673) (tgt := 706) F.1 F.2.1 dL_law_33 (by rw [hc14]; decide) (by rw [hc14]; decide) (by rw [hc14]; rfl) (by decide) ?_
      refine lv_aload_n F.1 F.2.1 dL_law_706 rfl (lv_at hl 1 rfl) ?_
      refine lv_aload_n F.1 F.2.1 dL_law_707 rfl (lv_at hl 0 rfl) ?_
      refine lv_iload_n F.1 F.2.1 dL_law_708 rfl (lv_at hl 3 rfl) ?_
      refine lv_iconst (v := 1) F.1 F.2.1 dL_law_709 (by decide) ?_
      refine lv_iadd F.1 F.2.1 dL_law_710 ?_
      refine va_sld F.1 F.2.1 hX hbl hbA hS (lw_in (k := 1) hj hL (by decide)) dL_law_711 ?_
      refine lv_aload_n F.1 F.2.1 dL_law_712 rfl (lv_at hl 0 rfl) ?_
      refine lv_iload_n F.1 F.2.1 dL_law_713 rfl (lv_at hl 3 rfl) ?_
      refine lv_iconst (v := 2) F.1 F.2.1 dL_law_714 (by decide) ?_
      refine lv_iadd F.1 F.2.1 dL_law_715 ?_
      refine va_sld F.1 F.2.1 hX hbl hbA hS (lw_in (k := 2) hj hL (by decide)) dL_law_716 ?_
      refine vp_callSi (va_Run.run (va_runV (As := [.int (xs (nI (6 * j) + 1).toNatClampNeg), .int (xs (nI (6 * j) + 2).toNatClampNeg)]) (rest := []) F (mX5_share (l := l) (D := D) (cI := cI) (cJ := cJ) (cZ := cZ) (ad := ad) h) (cwV 2 F.2.2.2.2 gL_law_X5_share rfl rfl rfl kV_X5_share ⟨Nat.le_of_ble_eq_true rfl, Nat.le_of_ble_eq_true rfl⟩) ⟨rpt_blind, va_recv hz.1 hP5 (ci := 3) (q0 := 0) rfl rfl, rpt_pre hz hP5 (gt_kept hgt hS) (.ref (ad 0) :: [.int (xs (nI (6 * j) + 1).toNatClampNeg), .int (xs (nI (6 * j) + 2).toNatClampNeg)])⟩ rfl rfl hl.1 rfl (lv_room (Nat.le_of_ble_eq_true rfl)) dL_law_717 ⟨Nat.le_of_ble_eq_true rfl, Nat.le_of_ble_eq_true rfl⟩)) (fun r5 h => ?_)
      refine lv_aload_n F.1 F.2.1 dL_law_720 rfl (lv_at hl 2 rfl) ?_
      refine lv_aload_n F.1 F.2.1 dL_law_721 rfl (lv_at hl 0 rfl) ?_
      refine lv_iload_n F.1 F.2.1 dL_law_722 rfl (lv_at hl 3 rfl) ?_
      refine lv_iconst (v := 1) F.1 F.2.1 dL_law_723 (by decide) ?_
      refine lv_iadd F.1 F.2.1 dL_law_724 ?_
      refine va_sld F.1 F.2.1 hX hbl hbA hS (lw_in (k := 1) hj hL (by decide)) dL_law_725 ?_
      refine lv_aload_n F.1 F.2.1 dL_law_726 rfl (lv_at hl 0 rfl) ?_
      refine lv_iload_n F.1 F.2.1 dL_law_727 rfl (lv_at hl 3 rfl) ?_
      refine lv_iconst (v := 2) F.1 F.2.1 dL_law_728 (by decide) ?_
      refine lv_iadd F.1 F.2.1 dL_law_729 ?_
      refine va_sld F.1 F.2.1 hX hbl hbA hS (lw_in (k := 2) hj hL (by decide)) dL_law_730 ?_
      refine vp_callSi (va_Run.run (va_runV (As := [.int (xs (nI (6 * j) + 1).toNatClampNeg), .int (xs (nI (6 * j) + 2).toNatClampNeg)]) (rest := [.int r5]) F (mX6_share (l := l) (D := D) (cI := cI) (cJ := cJ) (cZ := cZ) (ad := bd) h) (cwV 2 F.2.2.2.2 gL_law_X6_share rfl rfl rfl kV_X6_share ⟨Nat.le_of_ble_eq_true rfl, Nat.le_of_ble_eq_true rfl⟩) ⟨rp_blind, va_recv hz.1 hP6 (ci := 4) (q0 := 0) rfl rfl, rp_pre hz hP6 (.ref (bd 0) :: [.int (xs (nI (6 * j) + 1).toNatClampNeg), .int (xs (nI (6 * j) + 2).toNatClampNeg)])⟩ rfl rfl hl.1 rfl (lv_room (Nat.le_of_ble_eq_true rfl)) dL_law_731 ⟨Nat.le_of_ble_eq_true rfl, Nat.le_of_ble_eq_true rfl⟩)) (fun r6 h => ?_)
      refine lv_icmp_eq (tgt := 917) F.1 F.2.1 dL_law_734 (by decide) (fun _ => ?_) (fun hc => absurd h.1 hc)
      refine lv_iinc (v := nI (6 * (j + 1))) (lv' := [(3, .int (nI (6 * (j + 1)))), (0, .ref b), (1, .ref (ad 0)), (2, .ref (bd 0))]) F.1 F.2.1 dL_law_917 hl (k := 3) rfl (lw_inc j) (by decide) rfl (fun ls hl => ?_)
      refine lv_goto (tgt := 18) F.1 F.2.1 dL_law_920 (by decide) ?_
      exact next hj S M h.2 H locs hP5 hP6 hS ls (lv_sub hl [1, 2, 3, 0] rfl)
    by_cases hc15 : z = 15
    · have h := E.2.2.2.2.2.2.2.2.2.2.2.2.2.2.2.1 S M (xs (nI (6 * j) + 1).toNatClampNeg) hR
      refine lv_tableIn (off := 706) (tgt := 739) F.1 F.2.1 dL_law_33 (by rw [hc15]; decide) (by rw [hc15]; decide) (by rw [hc15]; rfl) (by decide) ?_
      refine lv_aload_n F.1 F.2.1 dL_law_739 rfl (lv_at hl 1 rfl) ?_
      refine lv_aload_n F.1 F.2.1 dL_law_740 rfl (lv_at hl 0 rfl) ?_
      refine lv_iload_n F.1 F.2.1 dL_law_741 rfl (lv_at hl 3 rfl) ?_
      refine lv_iconst (v := 1) F.1 F.2.1 dL_law_742 (by decide) ?_
      refine lv_iadd F.1 F.2.1 dL_law_743 ?_
      refine va_sld F.1 F.2.1 hX hbl hbA hS (lw_in (k := 1) hj hL (by decide)) dL_law_744 ?_
      refine lw_call (wf := w5 ad cI cJ) (va_runV (As := [.int (xs (nI (6 * j) + 1).toNatClampNeg)]) (rest := []) F (mX5_expect (l := l) (D := D) (cI := cI) (cJ := cJ) (cZ := cZ) (ad := ad) _ h) (cwV 1 F.2.2.2.2 gL_law_X5_expect rfl rfl rfl kV_X5_expect ⟨Nat.le_of_ble_eq_true rfl, Nat.le_of_ble_eq_true rfl⟩) ⟨wp_blind, va_recv hz.1 hP5 (ci := 3) (q0 := 0) rfl rfl, wp_pre hz hP5 (hD5 S) (.ref (ad 0) :: [.int (xs (nI (6 * j) + 1).toNatClampNeg)])⟩ rfl rfl hl.1 rfl (lv_room (Nat.le_of_ble_eq_true rfl)) dL_law_745 ⟨Nat.le_of_ble_eq_true rfl, Nat.le_of_ble_eq_true rfl⟩) hS hP6 (hDD S M) hA (fun r5 S1 H locs h hP5 hP6 hS => ?_)
      refine lv_aload_n F.1 F.2.1 dL_law_748 rfl (lv_at hl 2 rfl) ?_
      refine lv_aload_n F.1 F.2.1 dL_law_749 rfl (lv_at hl 0 rfl) ?_
      refine lv_iload_n F.1 F.2.1 dL_law_750 rfl (lv_at hl 3 rfl) ?_
      refine lv_iconst (v := 1) F.1 F.2.1 dL_law_751 (by decide) ?_
      refine lv_iadd F.1 F.2.1 dL_law_752 ?_
      refine va_sld F.1 F.2.1 hX hbl hbA hS (lw_in (k := 1) hj hL (by decide)) dL_law_753 ?_
      refine lw_call (wf := w6 bd cI cZ) (va_runV (As := [.int (xs (nI (6 * j) + 1).toNatClampNeg)]) (rest := [.int r5]) F (mX6_expect (l := l) (D := D) (cI := cI) (cJ := cJ) (cZ := cZ) (ad := bd) _ h) (cwV 1 F.2.2.2.2 gL_law_X6_expect rfl rfl rfl kV_X6_expect ⟨Nat.le_of_ble_eq_true rfl, Nat.le_of_ble_eq_true rfl⟩) ⟨wp_blind, va_recv hz.1 hP6 (ci := 4) (q0 := 0) rfl rfl, wp_pre hz hP6 (hD6 M) (.ref (bd 0) :: [.int (xs (nI (6 * j) + 1).toNatClampNeg)])⟩ rfl rfl hl.1 rfl (lv_room (Nat.le_of_ble_eq_true rfl)) dL_law_754 ⟨Nat.le_of_ble_eq_true rfl, Nat.le_of_ble_eq_true rfl⟩) hS hP5 (lw_swap (hDD S1 M)) hA (fun r6 M1 H locs h hP6 hP5 hS => ?_)
      refine lv_icmp_eq (tgt := 917) F.1 F.2.1 dL_law_757 (by decide) (fun _ => ?_) (fun hc => absurd h.1 hc)
      refine lv_iinc (v := nI (6 * (j + 1))) (lv' := [(3, .int (nI (6 * (j + 1)))), (0, .ref b), (1, .ref (ad 0)), (2, .ref (bd 0))]) F.1 F.2.1 dL_law_917 hl (k := 3) rfl (lw_inc j) (by decide) rfl (fun ls hl => ?_)
      refine lv_goto (tgt := 18) F.1 F.2.1 dL_law_920 (by decide) ?_
      exact next hj S1 M1 h.2 H locs hP5 hP6 hS ls (lv_sub hl [1, 2, 3, 0] rfl)
    by_cases hc16 : z = 16
    · have h := E.2.2.2.2.2.2.2.2.2.2.2.2.2.2.2.2.1 S M (xs (nI (6 * j) + 1).toNatClampNeg) (xs (nI (6 * j) + 2).toNatClampNeg) hR
      refine lv_tableIn (off := 729) (tgt := 762) F.1 F.2.1 dL_law_33 (by rw [hc16]; decide) (by rw [hc16]; decide) (by rw [hc16]; rfl) (by decide) ?_
      refine lv_aload_n F.1 F.2.1 dL_law_762 rfl (lv_at hl 1 rfl) ?_
      refine lv_aload_n F.1 F.2.1 dL_law_763 rfl (lv_at hl 0 rfl) ?_
      refine lv_iload_n F.1 F.2.1 dL_law_764 rfl (lv_at hl 3 rfl) ?_
      refine lv_iconst (v := 1) F.1 F.2.1 dL_law_765 (by decide) ?_
      refine lv_iadd F.1 F.2.1 dL_law_766 ?_
      refine va_sld F.1 F.2.1 hX hbl hbA hS (lw_in (k := 1) hj hL (by decide)) dL_law_767 ?_
      refine lv_aload_n F.1 F.2.1 dL_law_768 rfl (lv_at hl 0 rfl) ?_
      refine lv_iload_n F.1 F.2.1 dL_law_769 rfl (lv_at hl 3 rfl) ?_
      refine lv_iconst (v := 2) F.1 F.2.1 dL_law_770 (by decide) ?_
      refine lv_iadd F.1 F.2.1 dL_law_771 ?_
      refine va_sld F.1 F.2.1 hX hbl hbA hS (lw_in (k := 2) hj hL (by decide)) dL_law_772 ?_
      refine lw_call (wf := w5 ad cI cJ) (va_runV (As := [.int (xs (nI (6 * j) + 1).toNatClampNeg), .int (xs (nI (6 * j) + 2).toNatClampNeg)]) (rest := []) F (mX5_seek (l := l) (D := D) (cI := cI) (cJ := cJ) (cZ := cZ) (ad := ad) _ h) (cwV 2 F.2.2.2.2 gL_law_X5_seek rfl rfl rfl kV_X5_seek ⟨Nat.le_of_ble_eq_true rfl, Nat.le_of_ble_eq_true rfl⟩) ⟨wp_blind, va_recv hz.1 hP5 (ci := 3) (q0 := 0) rfl rfl, wp_pre hz hP5 (hD5 S) (.ref (ad 0) :: [.int (xs (nI (6 * j) + 1).toNatClampNeg), .int (xs (nI (6 * j) + 2).toNatClampNeg)])⟩ rfl rfl hl.1 rfl (lv_room (Nat.le_of_ble_eq_true rfl)) dL_law_773 ⟨Nat.le_of_ble_eq_true rfl, Nat.le_of_ble_eq_true rfl⟩) hS hP6 (hDD S M) hA (fun r5 S1 H locs h hP5 hP6 hS => ?_)
      refine lv_aload_n F.1 F.2.1 dL_law_776 rfl (lv_at hl 2 rfl) ?_
      refine lv_aload_n F.1 F.2.1 dL_law_777 rfl (lv_at hl 0 rfl) ?_
      refine lv_iload_n F.1 F.2.1 dL_law_778 rfl (lv_at hl 3 rfl) ?_
      refine lv_iconst (v := 1) F.1 F.2.1 dL_law_779 (by decide) ?_
      refine lv_iadd F.1 F.2.1 dL_law_780 ?_
      refine va_sld F.1 F.2.1 hX hbl hbA hS (lw_in (k := 1) hj hL (by decide)) dL_law_781 ?_
      refine lv_aload_n F.1 F.2.1 dL_law_782 rfl (lv_at hl 0 rfl) ?_
      refine lv_iload_n F.1 F.2.1 dL_law_783 rfl (lv_at hl 3 rfl) ?_
      refine lv_iconst (v := 2) F.1 F.2.1 dL_law_784 (by decide) ?_
      refine lv_iadd F.1 F.2.1 dL_law_785 ?_
      refine va_sld F.1 F.2.1 hX hbl hbA hS (lw_in (k := 2) hj hL (by decide)) dL_law_786 ?_
      refine lw_call (wf := w6 bd cI cZ) (va_runV (As := [.int (xs (nI (6 * j) + 1).toNatClampNeg), .int (xs (nI (6 * j) + 2).toNatClampNeg)]) (rest := [.int r5]) F (mX6_seek (l := l) (D := D) (cI := cI) (cJ := cJ) (cZ := cZ) (ad := bd) _ h) (cwV 2 F.2.2.2.2 gL_law_X6_seek rfl rfl rfl kV_X6_seek ⟨Nat.le_of_ble_eq_true rfl, Nat.le_of_ble_eq_true rfl⟩) ⟨wp_blind, va_recv hz.1 hP6 (ci := 4) (q0 := 0) rfl rfl, wp_pre hz hP6 (hD6 M) (.ref (bd 0) :: [.int (xs (nI (6 * j) + 1).toNatClampNeg), .int (xs (nI (6 * j) + 2).toNatClampNeg)])⟩ rfl rfl hl.1 rfl (lv_room (Nat.le_of_ble_eq_true rfl)) dL_law_787 ⟨Nat.le_of_ble_eq_true rfl, Nat.le_of_ble_eq_true rfl⟩) hS hP5 (lw_swap (hDD S1 M)) hA (fun r6 M1 H locs h hP6 hP5 hS => ?_)
      refine lv_icmp_eq (tgt := 917) F.1 F.2.1 dL_law_790 (by decide) (fun _ => ?_) (fun hc => absurd h.1 hc)
      refine lv_iinc (v := nI (6 * (j + 1))) (lv' := [(3, .int (nI (6 * (j + 1)))), (0, .ref b), (1, .ref (ad 0)), (2, .ref (bd 0))]) F.1 F.2.1 dL_law_917 hl (k := 3) rfl (lw_inc j) (by decide) rfl (fun ls hl => ?_)
      refine lv_goto (tgt := 18) F.1 F.2.1 dL_law_920 (by decide) ?_
      exact next hj S1 M1 h.2 H locs hP5 hP6 hS ls (lv_sub hl [1, 2, 3, 0] rfl)
    by_cases hc17 : z = 17
    · have h := E.2.2.2.2.2.2.2.2.2.2.2.2.2.2.2.2.2.1 S M (xs (nI (6 * j) + 1).toNatClampNeg) hR
      refine lv_tableIn (off := 762) (tgt := 795) F.1 F.2.1 dL_law_33 (by rw [hc17]; decide) (by rw [hc17]; decide) (by rw [hc17]; rfl) (by decide) ?_
      refine lv_aload_n F.1 F.2.1 dL_law_795 rfl (lv_at hl 1 rfl) ?_
      refine lv_aload_n F.1 F.2.1 dL_law_796 rfl (lv_at hl 0 rfl) ?_
      refine lv_iload_n F.1 F.2.1 dL_law_797 rfl (lv_at hl 3 rfl) ?_
      refine lv_iconst (v := 1) F.1 F.2.1 dL_law_798 (by decide) ?_
      refine lv_iadd F.1 F.2.1 dL_law_799 ?_
      refine va_sld F.1 F.2.1 hX hbl hbA hS (lw_in (k := 1) hj hL (by decide)) dL_law_800 ?_
      refine vp_callSi (va_Run.run (va_runV (As := [.int (xs (nI (6 * j) + 1).toNatClampNeg)]) (rest := []) F (mX5_story (l := l) (D := D) (cI := cI) (cJ := cJ) (cZ := cZ) (ad := ad) h) (cwV 1 F.2.2.2.2 gL_law_X5_story rfl rfl rfl kV_X5_story ⟨Nat.le_of_ble_eq_true rfl, Nat.le_of_ble_eq_true rfl⟩) ⟨rp_blind, va_recv hz.1 hP5 (ci := 3) (q0 := 0) rfl rfl, rp_pre hz hP5 (.ref (ad 0) :: [.int (xs (nI (6 * j) + 1).toNatClampNeg)])⟩ rfl rfl hl.1 rfl (lv_room (Nat.le_of_ble_eq_true rfl)) dL_law_801 ⟨Nat.le_of_ble_eq_true rfl, Nat.le_of_ble_eq_true rfl⟩)) (fun r5 h => ?_)
      refine lv_aload_n F.1 F.2.1 dL_law_804 rfl (lv_at hl 2 rfl) ?_
      refine lv_aload_n F.1 F.2.1 dL_law_805 rfl (lv_at hl 0 rfl) ?_
      refine lv_iload_n F.1 F.2.1 dL_law_806 rfl (lv_at hl 3 rfl) ?_
      refine lv_iconst (v := 1) F.1 F.2.1 dL_law_807 (by decide) ?_
      refine lv_iadd F.1 F.2.1 dL_law_808 ?_
      refine va_sld F.1 F.2.1 hX hbl hbA hS (lw_in (k := 1) hj hL (by decide)) dL_law_809 ?_
      refine vp_callSi (va_Run.run (va_runV (As := [.int (xs (nI (6 * j) + 1).toNatClampNeg)]) (rest := [.int r5]) F (mX6_story (l := l) (D := D) (cI := cI) (cJ := cJ) (cZ := cZ) (ad := bd) h) (cwV 1 F.2.2.2.2 gL_law_X6_story rfl rfl rfl kV_X6_story ⟨Nat.le_of_ble_eq_true rfl, Nat.le_of_ble_eq_true rfl⟩) ⟨rp_blind, va_recv hz.1 hP6 (ci := 4) (q0 := 0) rfl rfl, rp_pre hz hP6 (.ref (bd 0) :: [.int (xs (nI (6 * j) + 1).toNatClampNeg)])⟩ rfl rfl hl.1 rfl (lv_room (Nat.le_of_ble_eq_true rfl)) dL_law_810 ⟨Nat.le_of_ble_eq_true rfl, Nat.le_of_ble_eq_true rfl⟩)) (fun r6 h => ?_)
      refine lv_icmp_eq (tgt := 917) F.1 F.2.1 dL_law_813 (by decide) (fun _ => ?_) (fun hc => absurd h.1 hc)
      refine lv_iinc (v := nI (6 * (j + 1))) (lv' := [(3, .int (nI (6 * (j + 1)))), (0, .ref b), (1, .ref (ad 0)), (2, .ref (bd 0))]) F.1 F.2.1 dL_law_917 hl (k := 3) rfl (lw_inc j) (by decide) rfl (fun ls hl => ?_)
      refine lv_goto (tgt := 18) F.1 F.2.1 dL_law_920 (by decide) ?_
      exact next hj S M h.2 H locs hP5 hP6 hS ls (lv_sub hl [1, 2, 3, 0] rfl)
    by_cases hc18 : z = 18
    · have h := E.2.2.2.2.2.2.2.2.2.2.2.2.2.2.2.2.2.2.1 S M (xs (nI (6 * j) + 1).toNatClampNeg) (xs (nI (6 * j) + 2).toNatClampNeg) (xs (nI (6 * j) + 3).toNatClampNeg) hR
      refine lv_tableIn (off := 785) (tgt := 818) F.1 F.2.1 dL_law_33 (by rw [hc18]; decide) (by rw [hc18]; decide) (by rw [hc18]; rfl) (by decide) ?_
      refine lv_aload_n F.1 F.2.1 dL_law_818 rfl (lv_at hl 1 rfl) ?_
      refine lv_aload_n F.1 F.2.1 dL_law_819 rfl (lv_at hl 0 rfl) ?_
      refine lv_iload_n F.1 F.2.1 dL_law_820 rfl (lv_at hl 3 rfl) ?_
      refine lv_iconst (v := 1) F.1 F.2.1 dL_law_821 (by decide) ?_
      refine lv_iadd F.1 F.2.1 dL_law_822 ?_
      refine va_sld F.1 F.2.1 hX hbl hbA hS (lw_in (k := 1) hj hL (by decide)) dL_law_823 ?_
      refine lv_aload_n F.1 F.2.1 dL_law_824 rfl (lv_at hl 0 rfl) ?_
      refine lv_iload_n F.1 F.2.1 dL_law_825 rfl (lv_at hl 3 rfl) ?_
      refine lv_iconst (v := 2) F.1 F.2.1 dL_law_826 (by decide) ?_
      refine lv_iadd F.1 F.2.1 dL_law_827 ?_
      refine va_sld F.1 F.2.1 hX hbl hbA hS (lw_in (k := 2) hj hL (by decide)) dL_law_828 ?_
      refine lv_aload_n F.1 F.2.1 dL_law_829 rfl (lv_at hl 0 rfl) ?_
      refine lv_iload_n F.1 F.2.1 dL_law_830 rfl (lv_at hl 3 rfl) ?_
      refine lv_iconst (v := 3) F.1 F.2.1 dL_law_831 (by decide) ?_
      refine lv_iadd F.1 F.2.1 dL_law_832 ?_
      refine va_sld F.1 F.2.1 hX hbl hbA hS (lw_in (k := 3) hj hL (by decide)) dL_law_833 ?_
      refine vp_callSi (va_Run.run (va_runV (As := [.int (xs (nI (6 * j) + 1).toNatClampNeg), .int (xs (nI (6 * j) + 2).toNatClampNeg), .int (xs (nI (6 * j) + 3).toNatClampNeg)]) (rest := []) F (mX5_toll (l := l) (D := D) (cI := cI) (cJ := cJ) (cZ := cZ) (ad := ad) h) (cwV 3 F.2.2.2.2 gL_law_X5_toll rfl rfl rfl kV_X5_toll ⟨Nat.le_of_ble_eq_true rfl, Nat.le_of_ble_eq_true rfl⟩) ⟨rp_blind, va_recv hz.1 hP5 (ci := 3) (q0 := 0) rfl rfl, rp_pre hz hP5 (.ref (ad 0) :: [.int (xs (nI (6 * j) + 1).toNatClampNeg), .int (xs (nI (6 * j) + 2).toNatClampNeg), .int (xs (nI (6 * j) + 3).toNatClampNeg)])⟩ rfl rfl hl.1 rfl (lv_room (Nat.le_of_ble_eq_true rfl)) dL_law_834 ⟨Nat.le_of_ble_eq_true rfl, Nat.le_of_ble_eq_true rfl⟩)) (fun r5 h => ?_)
      refine lv_aload_n F.1 F.2.1 dL_law_837 rfl (lv_at hl 2 rfl) ?_
      refine lv_aload_n F.1 F.2.1 dL_law_838 rfl (lv_at hl 0 rfl) ?_
      refine lv_iload_n F.1 F.2.1 dL_law_839 rfl (lv_at hl 3 rfl) ?_
      refine lv_iconst (v := 1) F.1 F.2.1 dL_law_840 (by decide) ?_
      refine lv_iadd F.1 F.2.1 dL_law_841 ?_
      refine va_sld F.1 F.2.1 hX hbl hbA hS (lw_in (k := 1) hj hL (by decide)) dL_law_842 ?_
      refine lv_aload_n F.1 F.2.1 dL_law_843 rfl (lv_at hl 0 rfl) ?_
      refine lv_iload_n F.1 F.2.1 dL_law_844 rfl (lv_at hl 3 rfl) ?_
      refine lv_iconst (v := 2) F.1 F.2.1 dL_law_845 (by decide) ?_
      refine lv_iadd F.1 F.2.1 dL_law_846 ?_
      refine va_sld F.1 F.2.1 hX hbl hbA hS (lw_in (k := 2) hj hL (by decide)) dL_law_847 ?_
      refine lv_aload_n F.1 F.2.1 dL_law_848 rfl (lv_at hl 0 rfl) ?_
      refine lv_iload_n F.1 F.2.1 dL_law_849 rfl (lv_at hl 3 rfl) ?_
      refine lv_iconst (v := 3) F.1 F.2.1 dL_law_850 (by decide) ?_
      refine lv_iadd F.1 F.2.1 dL_law_851 ?_
      refine va_sld F.1 F.2.1 hX hbl hbA hS (lw_in (k := 3) hj hL (by decide)) dL_law_852 ?_
      refine vp_callSi (va_Run.run (va_runV (As := [.int (xs (nI (6 * j) + 1).toNatClampNeg), .int (xs (nI (6 * j) + 2).toNatClampNeg), .int (xs (nI (6 * j) + 3).toNatClampNeg)]) (rest := [.int r5]) F (mX6_toll (l := l) (D := D) (cI := cI) (cJ := cJ) (cZ := cZ) (ad := bd) h) (cwV 3 F.2.2.2.2 gL_law_X6_toll rfl rfl rfl kV_X6_toll ⟨Nat.le_of_ble_eq_true rfl, Nat.le_of_ble_eq_true rfl⟩) ⟨rp_blind, va_recv hz.1 hP6 (ci := 4) (q0 := 0) rfl rfl, rp_pre hz hP6 (.ref (bd 0) :: [.int (xs (nI (6 * j) + 1).toNatClampNeg), .int (xs (nI (6 * j) + 2).toNatClampNeg), .int (xs (nI (6 * j) + 3).toNatClampNeg)])⟩ rfl rfl hl.1 rfl (lv_room (Nat.le_of_ble_eq_true rfl)) dL_law_853 ⟨Nat.le_of_ble_eq_true rfl, Nat.le_of_ble_eq_true rfl⟩)) (fun r6 h => ?_)
      refine lv_icmp_eq (tgt := 917) F.1 F.2.1 dL_law_856 (by decide) (fun _ => ?_) (fun hc => absurd h.1 hc)
      refine lv_iinc (v := nI (6 * (j + 1))) (lv' := [(3, .int (nI (6 * (j + 1)))), (0, .ref b), (1, .ref (ad 0)), (2, .ref (bd 0))]) F.1 F.2.1 dL_law_917 hl (k := 3) rfl (lw_inc j) (by decide) rfl (fun ls hl => ?_)
      refine lv_goto (tgt := 18) F.1 F.2.1 dL_law_920 (by decide) ?_
      exact next hj S M h.2 H locs hP5 hP6 hS ls (lv_sub hl [1, 2, 3, 0] rfl)
    by_cases hc19 : z = 19
    · have h := E.2.2.2.2.2.2.2.2.2.2.2.2.2.2.2.2.2.2.2.1 S M (xs (nI (6 * j) + 1).toNatClampNeg) (xs (nI (6 * j) + 2).toNatClampNeg) hR
      refine lv_tableIn (off := 828) (tgt := 861) F.1 F.2.1 dL_law_33 (by rw [hc19]; decide) (by rw [hc19]; decide) (by rw [hc19]; rfl) (by decide) ?_
      refine lv_aload_n F.1 F.2.1 dL_law_861 rfl (lv_at hl 1 rfl) ?_
      refine lv_aload_n F.1 F.2.1 dL_law_862 rfl (lv_at hl 0 rfl) ?_
      refine lv_iload_n F.1 F.2.1 dL_law_863 rfl (lv_at hl 3 rfl) ?_
      refine lv_iconst (v := 1) F.1 F.2.1 dL_law_864 (by decide) ?_
      refine lv_iadd F.1 F.2.1 dL_law_865 ?_
      refine va_sld F.1 F.2.1 hX hbl hbA hS (lw_in (k := 1) hj hL (by decide)) dL_law_866 ?_
      refine lv_aload_n F.1 F.2.1 dL_law_867 rfl (lv_at hl 0 rfl) ?_
      refine lv_iload_n F.1 F.2.1 dL_law_868 rfl (lv_at hl 3 rfl) ?_
      refine lv_iconst (v := 2) F.1 F.2.1 dL_law_869 (by decide) ?_
      refine lv_iadd F.1 F.2.1 dL_law_870 ?_
      refine va_sld F.1 F.2.1 hX hbl hbA hS (lw_in (k := 2) hj hL (by decide)) dL_law_871 ?_
      refine vp_callSi (va_Run.run (va_runV (As := [.int (xs (nI (6 * j) + 1).toNatClampNeg), .int (xs (nI (6 * j) + 2).toNatClampNeg)]) (rest := []) F (mX5_first (l := l) (D := D) (cI := cI) (cJ := cJ) (cZ := cZ) (ad := ad) h) (cwV 2 F.2.2.2.2 gL_law_X5_first rfl rfl rfl kV_X5_first ⟨Nat.le_of_ble_eq_true rfl, Nat.le_of_ble_eq_true rfl⟩) ⟨rp_blind, va_recv hz.1 hP5 (ci := 3) (q0 := 0) rfl rfl, rp_pre hz hP5 (.ref (ad 0) :: [.int (xs (nI (6 * j) + 1).toNatClampNeg), .int (xs (nI (6 * j) + 2).toNatClampNeg)])⟩ rfl rfl hl.1 rfl (lv_room (Nat.le_of_ble_eq_true rfl)) dL_law_872 ⟨Nat.le_of_ble_eq_true rfl, Nat.le_of_ble_eq_true rfl⟩)) (fun r5 h => ?_)
      refine lv_aload_n F.1 F.2.1 dL_law_875 rfl (lv_at hl 2 rfl) ?_
      refine lv_aload_n F.1 F.2.1 dL_law_876 rfl (lv_at hl 0 rfl) ?_
      refine lv_iload_n F.1 F.2.1 dL_law_877 rfl (lv_at hl 3 rfl) ?_
      refine lv_iconst (v := 1) F.1 F.2.1 dL_law_878 (by decide) ?_
      refine lv_iadd F.1 F.2.1 dL_law_879 ?_
      refine va_sld F.1 F.2.1 hX hbl hbA hS (lw_in (k := 1) hj hL (by decide)) dL_law_880 ?_
      refine lv_aload_n F.1 F.2.1 dL_law_881 rfl (lv_at hl 0 rfl) ?_
      refine lv_iload_n F.1 F.2.1 dL_law_882 rfl (lv_at hl 3 rfl) ?_
      refine lv_iconst (v := 2) F.1 F.2.1 dL_law_883 (by decide) ?_
      refine lv_iadd F.1 F.2.1 dL_law_884 ?_
      refine va_sld F.1 F.2.1 hX hbl hbA hS (lw_in (k := 2) hj hL (by decide)) dL_law_885 ?_
      refine vp_callSi (va_Run.run (va_runV (As := [.int (xs (nI (6 * j) + 1).toNatClampNeg), .int (xs (nI (6 * j) + 2).toNatClampNeg)]) (rest := [.int r5]) F (mX6_first (l := l) (D := D) (cI := cI) (cJ := cJ) (cZ := cZ) (ad := bd) h) (cwV 2 F.2.2.2.2 gL_law_X6_first rfl rfl rfl kV_X6_first ⟨Nat.le_of_ble_eq_true rfl, Nat.le_of_ble_eq_true rfl⟩) ⟨rp_blind, va_recv hz.1 hP6 (ci := 4) (q0 := 0) rfl rfl, rp_pre hz hP6 (.ref (bd 0) :: [.int (xs (nI (6 * j) + 1).toNatClampNeg), .int (xs (nI (6 * j) + 2).toNatClampNeg)])⟩ rfl rfl hl.1 rfl (lv_room (Nat.le_of_ble_eq_true rfl)) dL_law_886 ⟨Nat.le_of_ble_eq_true rfl, Nat.le_of_ble_eq_true rfl⟩)) (fun r6 h => ?_)
      refine lv_icmp_eq (tgt := 917) F.1 F.2.1 dL_law_889 (by decide) (fun _ => ?_) (fun hc => absurd h.1 hc)
      refine lv_iinc (v := nI (6 * (j + 1))) (lv' := [(3, .int (nI (6 * (j + 1)))), (0, .ref b), (1, .ref (ad 0)), (2, .ref (bd 0))]) F.1 F.2.1 dL_law_917 hl (k := 3) rfl (lw_inc j) (by decide) rfl (fun ls hl => ?_)
      refine lv_goto (tgt := 18) F.1 F.2.1 dL_law_920 (by decide) ?_
      exact next hj S M h.2 H locs hP5 hP6 hS ls (lv_sub hl [1, 2, 3, 0] rfl)
    by_cases hc20 : z = 20
    · have h := E.2.2.2.2.2.2.2.2.2.2.2.2.2.2.2.2.2.2.2.2 S M (xs (nI (6 * j) + 1).toNatClampNeg) hR
      refine lv_tableIn (off := 861) (tgt := 894) F.1 F.2.1 dL_law_33 (by rw [hc20]; decide) (by rw [hc20]; decide) (by rw [hc20]; rfl) (by decide) ?_
      refine lv_aload_n F.1 F.2.1 dL_law_894 rfl (lv_at hl 1 rfl) ?_
      refine lv_aload_n F.1 F.2.1 dL_law_895 rfl (lv_at hl 0 rfl) ?_
      refine lv_iload_n F.1 F.2.1 dL_law_896 rfl (lv_at hl 3 rfl) ?_
      refine lv_iconst (v := 1) F.1 F.2.1 dL_law_897 (by decide) ?_
      refine lv_iadd F.1 F.2.1 dL_law_898 ?_
      refine va_sld F.1 F.2.1 hX hbl hbA hS (lw_in (k := 1) hj hL (by decide)) dL_law_899 ?_
      refine lw_call (wf := w5 ad cI cJ) (va_runV (As := [.int (xs (nI (6 * j) + 1).toNatClampNeg)]) (rest := []) F (mX5_count (l := l) (D := D) (cI := cI) (cJ := cJ) (cZ := cZ) (ad := ad) _ h) (cwV 1 F.2.2.2.2 gL_law_X5_count rfl rfl rfl kV_X5_count ⟨Nat.le_of_ble_eq_true rfl, Nat.le_of_ble_eq_true rfl⟩) ⟨wp_blind, va_recv hz.1 hP5 (ci := 3) (q0 := 0) rfl rfl, wp_pre hz hP5 (hD5 S) (.ref (ad 0) :: [.int (xs (nI (6 * j) + 1).toNatClampNeg)])⟩ rfl rfl hl.1 rfl (lv_room (Nat.le_of_ble_eq_true rfl)) dL_law_900 ⟨Nat.le_of_ble_eq_true rfl, Nat.le_of_ble_eq_true rfl⟩) hS hP6 (hDD S M) hA (fun r5 S1 H locs h hP5 hP6 hS => ?_)
      refine lv_aload_n F.1 F.2.1 dL_law_903 rfl (lv_at hl 2 rfl) ?_
      refine lv_aload_n F.1 F.2.1 dL_law_904 rfl (lv_at hl 0 rfl) ?_
      refine lv_iload_n F.1 F.2.1 dL_law_905 rfl (lv_at hl 3 rfl) ?_
      refine lv_iconst (v := 1) F.1 F.2.1 dL_law_906 (by decide) ?_
      refine lv_iadd F.1 F.2.1 dL_law_907 ?_
      refine va_sld F.1 F.2.1 hX hbl hbA hS (lw_in (k := 1) hj hL (by decide)) dL_law_908 ?_
      refine vp_callSi (va_Run.run (va_runV (As := [.int (xs (nI (6 * j) + 1).toNatClampNeg)]) (rest := [.int r5]) F (mX6_count (l := l) (D := D) (cI := cI) (cJ := cJ) (cZ := cZ) (ad := bd) h) (cwV 1 F.2.2.2.2 gL_law_X6_count rfl rfl rfl kV_X6_count ⟨Nat.le_of_ble_eq_true rfl, Nat.le_of_ble_eq_true rfl⟩) ⟨rp_blind, va_recv hz.1 hP6 (ci := 4) (q0 := 0) rfl rfl, rp_pre hz hP6 (.ref (bd 0) :: [.int (xs (nI (6 * j) + 1).toNatClampNeg)])⟩ rfl rfl hl.1 rfl (lv_room (Nat.le_of_ble_eq_true rfl)) dL_law_909 ⟨Nat.le_of_ble_eq_true rfl, Nat.le_of_ble_eq_true rfl⟩)) (fun r6 h => ?_)
      refine lv_icmp_eq (tgt := 917) F.1 F.2.1 dL_law_912 (by decide) (fun _ => ?_) (fun hc => absurd h.1 hc)
      refine lv_iinc (v := nI (6 * (j + 1))) (lv' := [(3, .int (nI (6 * (j + 1)))), (0, .ref b), (1, .ref (ad 0)), (2, .ref (bd 0))]) F.1 F.2.1 dL_law_917 hl (k := 3) rfl (lw_inc j) (by decide) rfl (fun ls hl => ?_)
      refine lv_goto (tgt := 18) F.1 F.2.1 dL_law_920 (by decide) ?_
      exact next hj S1 M h.2 H locs hP5 hP6 hS ls (lv_sub hl [1, 2, 3, 0] rfl)
    refine lv_tableOut (tgt := 917) F.1 F.2.1 dL_law_33 (by have := lv_neT hc0 (a := 0) rfl; have := lv_neT hc1 (a := 1) rfl; have := lv_neT hc2 (a := 2) rfl; have := lv_neT hc3 (a := 3) rfl; have := lv_neT hc4 (a := 4) rfl; have := lv_neT hc5 (a := 5) rfl; have := lv_neT hc6 (a := 6) rfl; have := lv_neT hc7 (a := 7) rfl; have := lv_neT hc8 (a := 8) rfl; have := lv_neT hc9 (a := 9) rfl; have := lv_neT hc10 (a := 10) rfl; have := lv_neT hc11 (a := 11) rfl; have := lv_neT hc12 (a := 12) rfl; have := lv_neT hc13 (a := 13) rfl; have := lv_neT hc14 (a := 14) rfl; have := lv_neT hc15 (a := 15) rfl; have := lv_neT hc16 (a := 16) rfl; have := lv_neT hc17 (a := 17) rfl; have := lv_neT hc18 (a := 18) rfl; have := lv_neT hc19 (a := 19) rfl; have := lv_neT hc20 (a := 20) rfl; omega) (by decide) ?_
    have h : (0 : Nat) = 0 ∧ Rel S M := ⟨rfl, hR⟩
    refine lv_iinc (v := nI (6 * (j + 1))) (lv' := [(3, .int (nI (6 * (j + 1)))), (0, .ref b), (1, .ref (ad 0)), (2, .ref (bd 0))]) F.1 F.2.1 dL_law_917 hl (k := 3) rfl (lw_inc j) (by decide) rfl (fun ls hl => ?_)
    refine lv_goto (tgt := 18) F.1 F.2.1 dL_law_920 (by decide) ?_
    exact next hj S M h.2 H locs hP5 hP6 hS ls (lv_sub hl [1, 2, 3, 0] rfl)
theorem law_loop {Rel : SX → S6 → Prop} (E : Eqs Rel) {b L : Nat} {xs : Nat → Int32} (hL : L ≤ 3072) (F : CallFix p m c cL_law 4 s #[Value.ref b] wsL_law RL) (hr : meth.sig.returnType = ret) (hlocks : meth.locks = false) (hX : va_X b L xs s s.heap) (hbl : b < s.heap.size) (hz : gz D cI cJ cZ s) (hgt : gt s s.heap) (hDD : ∀ (S : SX) (M : S6), va_D (fun q : Nat => s.heap.size ≤ q) (w5 ad cI cJ S ++ w6 bd cI cZ M)) : ∀ (k j : Nat), L < 6 * j + k → 6 * j < 50000 → ∀ (S : SX) (M : S6), Rel S M → ∀ (H : Heap) (locs : List Loc), va_P D vwCl (w5 ad cI cJ S) H → va_P D vwCl (w6 bd cI cZ M) H → va_S (fun q : Nat => s.heap.size ≤ q) s.heap H locs → ∀ ls : Array Slot, lv_has ls 4 [(0, .ref b), (1, .ref (ad 0)), (2, .ref (bd 0)), (3, .int (nI (6 * j)))] → W p l e room_1 s m #[Value.ref b] below meth c H locs 32 3514 (lw_Z below #[Value.ref b] s) (F0 m 18 ls []) := by
  intro k
  induction k with
  | zero => intro j h1 h2; exact law_step E hL F hr hlocks hX hbl hz hgt hDD j (by omega) (fun h => absurd h (by omega))
  | succ k ih => intro j h1 h2; exact law_step E hL F hr hlocks hX hbl hz hgt hDD j (by omega) (fun h => ih (j + 1) (by omega) (by omega))
end LAW
