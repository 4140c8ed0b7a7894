/-! seek, count -/
/-- the heaps below h that a story may hold -/
def el (S : S2) (h : Nat) : List Nat := (List.range h).filter (fun j => may S j)
def ec (S : S2) (h : Nat) : Nat := (el S h).length
theorem el_y {S : S2} {h : Nat} (m : may S h = true) : el S (h + 1) = el S h ++ [h] := by
  unfold el; rw [List.range_succ, List.filter_append]; simp [m]
theorem el_n {S : S2} {h : Nat} (m : may S h = false) : el S (h + 1) = el S h := by
  unfold el; rw [List.range_succ, List.filter_append]; simp [m]
theorem ec_y {S : S2} {h : Nat} (m : may S h = true) : ec S (h + 1) = ec S h + 1 := by unfold ec; rw [el_y m, List.length_append]; rfl
theorem ec_n {S : S2} {h : Nat} (m : may S h = false) : ec S (h + 1) = ec S h := by unfold ec; rw [el_n m]
theorem ec_le (S : S2) (h : Nat) : ec S h ≤ ec S (h + 1) := by
  cases m : may S h with
  | true => rw [ec_y m]; omega
  | false => rw [ec_n m]; omega
theorem ec_mono (S : S2) {a b : Nat} (h : a ≤ b) : ec S a ≤ ec S b := by
  obtain ⟨d, rfl⟩ := Nat.exists_eq_add_of_le h
  clear h
  induction d with
  | zero => exact Nat.le_refl _
  | succ d ih => exact Nat.le_trans ih (ec_le S (a + d))
theorem ts216 : ((List.range 729).filter (fun h => decide (1 ≤ ts h ∧ ts h ≤ 2))).length = 216 := by decide +kernel
theorem ec216 (S : S2) : ec S 729 ≤ 216 := by
  have h1 : ec S 729 = (List.range 729).countP (fun j => may S j) := by unfold ec el; rw [List.countP_eq_length_filter]
  have h2 : (List.range 729).countP (fun j => may S j) ≤ (List.range 729).countP (fun h => decide (1 ≤ ts h ∧ ts h ≤ 2)) := List.countP_mono_left (fun x _ h => by
    rw [may, Bool.and_eq_true] at h
    exact h.1)
  rw [← h1, List.countP_eq_length_filter, ts216] at h2
  exact h2
theorem may0 (S : S2) : may S 0 = false := by
  rw [may, decide_eq_false (by decide), Bool.false_and]
theorem ec1 (S : S2) : ec S 1 = 0 := by rw [ec_n (may0 S)]; rfl
theorem ts_pos {h : Nat} (h0 : h ≠ 0) : 1 ≤ ts h := by
  rcases Nat.eq_zero_or_pos (ts h) with q | q
  · exfalso
    unfold ts dg at q
    simp at q
    omega
  · exact q
/-- the k-th of them -/
def en (S : S2) (k : Nat) : Nat := (el S 729).getD k 0
theorem el_pre (S : S2) {h : Nat} : ∀ d, ∃ r : List Nat, el S (h + d) = el S h ++ r
  | 0 => ⟨[], (List.append_nil _).symm⟩
  | d + 1 => by
    obtain ⟨r, e⟩ := el_pre S (h := h) d
    cases m : may S (h + d) with
    | true => exact ⟨r ++ [h + d], by rw [← Nat.add_assoc, el_y m, e, List.append_assoc]⟩
    | false => exact ⟨r, by rw [← Nat.add_assoc, el_n m, e]⟩
theorem en_at (S : S2) {h : Nat} (hh : h < 729) (m : may S h = true) : en S (ec S h) = h := by
  obtain ⟨r, e⟩ := el_pre S (h := h + 1) (729 - (h + 1))
  rw [show h + 1 + (729 - (h + 1)) = 729 by omega, el_y m, List.append_assoc] at e
  unfold en ec
  rw [e, List.getD_eq_getElem?_getD, List.getElem?_append_right (Nat.le_refl _), Nat.sub_self]
  rfl
theorem en_may (S : S2) {k : Nat} (hk : k < ec S 729) : en S k < 729 ∧ may S (en S k) = true := by
  have hk' : k < (el S 729).length := hk
  have e : en S k = (el S 729)[k] := by unfold en; rw [List.getD_eq_getElem?_getD, List.getElem?_eq_getElem hk']; rfl
  have hm : en S k ∈ el S 729 := by rw [e]; exact List.getElem_mem hk'
  unfold el at hm
  rw [List.mem_filter, List.mem_range] at hm
  exact hm
/-- an array that is filled as the heaps come: behind the heaps up to j -/
def bl {α : Type} (S : S2) (f : Nat → α) (g : Nat → α) : Nat → Nat → α
  | 0 => f
  | j + 1 => if may S (j + 1) = true then va_up (bl S f g j) (ec S (j + 1)) (g (j + 1)) else bl S f g j
theorem bl_at {α : Type} (S : S2) (f g : Nat → α) : ∀ j, j ≤ 728 → ∀ k, k < ec S (j + 1) → bl S f g j k = g (en S k)
  | 0, _, k, hk => absurd hk (by rw [ec1]; exact Nat.not_lt_zero k)
  | j + 1, hj, k, hk => by
    cases m : may S (j + 1) with
    | true =>
      rw [bl, if_pos m]
      rw [ec_y m] at hk
      by_cases e : k = ec S (j + 1)
      · subst e; rw [va_up_self, en_at S (by omega) m]
      · rw [va_up_ne _ _ e]; exact bl_at S f g j (by omega) k (by omega)
    | false =>
      rw [bl, if_neg (by rw [m]; decide)]
      rw [ec_n m] at hk
      exact bl_at S f g j (by omega) k hk
abbrev Bst : Type := Int32 × Int32 × Int32 × Int32 × Int32
/-- the stories' state while the heaps are gathered, and behind it -/
def tgT (S : S2) (T : S3) (j : Nat) : S3 := (bl S T.1 (fun h => nI h) j, bl S T.2.1 (chg S) j, bl S T.2.2.1 (fun h => nI (ts h)) j, bl S T.2.2.2.1 (fun h => lN (b0 S h)) j, bl S T.2.2.2.2.1 (fun h => lN (b1 S h)) j, nI (ec S (j + 1)), T.2.2.2.2.2.2)
theorem tg_n {S : S2} {T : S3} {j : Nat} (m : may S (j + 1) = false) : tgT S T (j + 1) = tgT S T j := by
  have q : ¬ may S (j + 1) = true := by rw [m]; decide
  simp only [tgT, bl, if_neg q, ec_n m]
theorem tg_full {S : S2} {T : S3} {j : Nat} (hj : j ≤ 728) (h : 216 ≤ ec S (j + 1)) : tgT S T 728 = tgT S T j := by
  have key : ∀ d, j + d ≤ 728 → tgT S T (j + d) = tgT S T j := by
    intro d
    induction d with
    | zero => intro _; rfl
    | succ d ih =>
      intro hd
      have m : may S (j + d + 1) = false := by
        cases m : may S (j + d + 1) with
        | false => rfl
        | true =>
          have h1 := ec_y m
          have h2 := ec_mono S (show j + 1 ≤ j + d + 1 by omega)
          have h3 := ec_mono S (show j + d + 1 + 1 ≤ 729 by omega)
          have h4 := ec216 S
          omega
      rw [← Nat.add_assoc, tg_n m]
      exact ih (by omega)
  have := key (728 - j) (by omega)
  rw [show j + (728 - j) = 728 by omega] at this
  exact this
theorem le2 {h : Nat} : (nI (ts h) ≤ 2) ↔ ts h ≤ 2 := by
  have := ts_le h
  rw [show (2 : Int32) = nI 2 from rfl, nI_leI (by omega) (by omega)]
theorem p_gather {S : SX} (ok : RowsOK S.1) {Q : Int32 → SX → Prop} (hq : Q (nI (ec S.1 729)) (S.1, S.2.1, tgT S.1 S.2.2 728)) : wX3_gather S Q := by
  have start : ((S.1, S.2.1, (S.2.2.1, S.2.2.2.1, S.2.2.2.2.1, S.2.2.2.2.2.1, S.2.2.2.2.2.2.1, (0 : Int32), S.2.2.2.2.2.2.2.2)) : SX) = (S.1, S.2.1, tgT S.1 S.2.2 0) := by
    show _ = (S.1, S.2.1, (S.2.2.1, S.2.2.2.1, S.2.2.2.2.1, S.2.2.2.2.2.1, S.2.2.2.2.2.2.1, nI (ec S.1 1), S.2.2.2.2.2.2.2.2))
    rw [ec1]; rfl
  show ∃ n : Nat, iter _ n ((1 : Int32), ((S.1, S.2.1, (S.2.2.1, S.2.2.2.1, S.2.2.2.2.1, S.2.2.2.2.2.1, S.2.2.2.2.2.2.1, (0 : Int32), S.2.2.2.2.2.2.2.2)) : SX))
  rw [start]
  refine iter_of (fun x => ∃ j : Nat, j ≤ 728 ∧ x = (nI (j + 1), (S.1, S.2.1, tgT S.1 S.2.2 j))) (fun x => 729 - x.1.toNatClampNeg) (fun again x hx hg => ?_) _ ⟨0, by omega, rfl⟩
  obtain ⟨j, hj, rfl⟩ := hx
  have hcl : (nI (j + 1)).toNatClampNeg = j + 1 := nI_clamp (by omega)
  have hm : ec S.1 (j + 1) ≤ 216 := Nat.le_trans (ec_mono S.1 (by omega)) (ec216 S.1)
  by_cases hend : j = 728
  · subst hend
    exact ⟨fun _ => hq, fun c => absurd (by decide) c⟩
  have nx : tgT S.1 S.2.2 (j + 1) = tgT S.1 S.2.2 j → again (nI (j + 1) + 1, (S.1, S.2.1, tgT S.1 S.2.2 j)) := by
    intro e
    refine hg _ ⟨j + 1, by omega, by rw [nI_1, e]⟩ ?_
    show 729 - (nI (j + 1) + 1).toNatClampNeg < 729 - (nI (j + 1)).toNatClampNeg
    rw [nI_1, nI_clamp (by omega), hcl]; omega
  refine ⟨fun c => absurd c (i_nle.mpr (nI_lt (b := 729) (by omega) (by decide))), fun _ => ⟨fun c => ?_, fun c => p_tests (by omega) ⟨fun d => p_bits0 ok (by omega) (p_bits1 ok (by omega) ?_), fun d => nx (tg_n ?_)⟩⟩⟩
  · have c' : nI 216 ≤ nI (ec S.1 (j + 1)) := c
    rw [nI_leI (by omega) (by omega)] at c'
    have e := tg_full (T := S.2.2) hj c'
    show Q (nI (ec S.1 (j + 1))) (S.1, S.2.1, tgT S.1 S.2.2 j)
    have e3 : ec S.1 729 = ec S.1 (j + 1) := by
      have h1 := ec_mono S.1 (show j + 1 ≤ 729 by omega)
      have h2 := ec216 S.1
      omega
    have e2 : nI (ec S.1 729) = nI (ec S.1 (j + 1)) := congrArg nI e3
    rw [e, e2] at hq
    exact hq
  · have c' : ¬ nI 216 ≤ nI (ec S.1 (j + 1)) := c
    rw [nI_leI (by omega) (by omega)] at c'
    have hin : vp_in (nI (ec S.1 (j + 1))) 216 := vp_in_nI (by omega) (by decide)
    have hk : (nI (ec S.1 (j + 1))).toNatClampNeg = ec S.1 (j + 1) := nI_clamp (by omega)
    have ag : may S.1 (j + 1) = true → again (nI (j + 1) + 1, (S.1, S.2.1, ((upd (tgT S.1 S.2.2 j).1 (nI (ec S.1 (j + 1))).toNatClampNeg (nI (j + 1))), (upd (tgT S.1 S.2.2 j).2.1 (nI (ec S.1 (j + 1))).toNatClampNeg (chg S.1 (j + 1))), (upd (tgT S.1 S.2.2 j).2.2.1 (nI (ec S.1 (j + 1))).toNatClampNeg (nI (ts (j + 1)))), (vp_updL (tgT S.1 S.2.2 j).2.2.2.1 (nI (ec S.1 (j + 1))).toNatClampNeg (lN (b0 S.1 (j + 1)))), (vp_updL (tgT S.1 S.2.2 j).2.2.2.2.1 (nI (ec S.1 (j + 1))).toNatClampNeg (lN (b1 S.1 (j + 1)))), nI (ec S.1 (j + 1)) + (1 : Int32), S.2.2.2.2.2.2.2.2))) := by
      intro m
      refine hg _ ⟨j + 1, by omega, ?_⟩ ?_
      · rw [hk, nI_1, nI_1, ← ec_y m]
        simp only [tgT, bl, if_pos m]
        rfl
      · show 729 - (nI (j + 1) + 1).toNatClampNeg < 729 - (nI (j + 1)).toNatClampNeg
        rw [nI_1, nI_clamp (by omega), hcl]; omega
    have mt : (b0 S.1 (j + 1) ≠ 0 ∨ b1 S.1 (j + 1) ≠ 0) → may S.1 (j + 1) = true := fun z => by
      rw [may, (has_iff S.1 (j + 1)).mpr z, decide_eq_true ⟨ts_pos (by omega), le2.mp d⟩]; rfl
    rw [lz (b0_64 S.1 (j + 1)), lz (b1_64 ok (j + 1))]
    refine ⟨fun z0 => ⟨fun z1 => nx (tg_n ?_), fun z1 => ⟨hin, p_moved ok (by omega) ⟨hin, p_tests (by omega) ⟨hin, hin, hin, ag (mt (Or.inr z1))⟩⟩⟩⟩, fun z0 => ⟨hin, p_moved ok (by omega) ⟨hin, p_tests (by omega) ⟨hin, hin, hin, ag (mt (Or.inl z0))⟩⟩⟩⟩
    cases m : may S.1 (j + 1) with
    | false => rfl
    | true =>
      rw [may, Bool.and_eq_true] at m
      rcases (has_iff S.1 (j + 1)).mp m.2 with z | z
      · exact absurd z0 z
      · exact absurd z1 z
  · cases m : may S.1 (j + 1) with
    | false => rfl
    | true =>
      rw [may, Bool.and_eq_true, decide_eq_true_eq] at m
      exact absurd (le2.mpr m.1.2) d
