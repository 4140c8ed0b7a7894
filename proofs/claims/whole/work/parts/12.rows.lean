/-! PURE ROWS: Rows, what its readers answer -/
abbrev r_mo (S : S2) : Ar := S.1
abbrev r_dy (S : S2) : Ar := S.2.1
abbrev r_tp (S : S2) : Ar := S.2.2.1
abbrev r_bs (S : S2) : Ar := S.2.2.2.1
abbrev r_mb (S : S2) : Ar := S.2.2.2.2.1
abbrev r_mk (S : S2) : Ar := S.2.2.2.2.2.1
abbrev r_sk (S : S2) : Ar := S.2.2.2.2.2.2.1
abbrev r_n (S : S2) : Int32 := S.2.2.2.2.2.2.2
/-- how many rows; a row's marks as a number -/
def nn (S : S2) : Nat := (r_n S).toNatClampNeg
def vw (S : S2) (r : Nat) : Nat := (r_mk S r).toNatClampNeg
def RowsOK (S : S2) : Prop := (nn S ≤ 120 ∧ r_n S = nI (nn S)) ∧ (∀ r, vw S r < 512 ∧ r_mk S r = nI (vw S r)) ∧ (∀ r, r_mo S r = 0 ∨ r_mo S r = 1) ∧ (∀ r, -99 ≤ (r_tp S r).toInt ∧ (r_tp S r).toInt ≤ 99) ∧ (∀ r, 0 ≤ (r_bs S r).toInt ∧ (r_bs S r).toInt ≤ 9) ∧ (∀ r, ∃ q : Nat, q < 64 ∧ r_mb S r = nI q) ∧ (∀ r, r_sk S r = 0 ∨ r_sk S r = 1) ∧ (∀ r, nn S ≤ r → r_sk S r = 0)
theorem ok_n {S : S2} (h : RowsOK S) : nn S ≤ 120 := h.1.1
theorem ok_sz {S : S2} (h : RowsOK S) : r_n S = nI (nn S) := h.1.2
/-- a row is in a heap -/
def fit (S : S2) (h r : Nat) : Bool := decide (r_sk S r = 0) && okm h (vw S r)
theorem p_fits {S : S2} (ok : RowsOK S) {h r : Nat} (hh : h < 729) (hr : r < 120) {A B : Prop} (h1 : fit S h r = true → B) (h0 : fit S h r = false → A) : wX2_fits S (nI r) (nI (tbk h 3)) (nI (wbk h 3)) (fun q => (q = 0 → A) ∧ (¬ q = 0 → B)) := by
  have e := nI_clamp (n := r) (by omega)
  have hin : vp_in (nI r) 120 := vp_in_nI hr (by decide)
  have e2 : S.2.2.2.2.2.1 r = nI (vw S r) := (ok.2.1 r).2
  unfold wX2_fits
  rw [e, e2]
  refine ⟨hin, fun c => ⟨hin, fun d => ⟨fun z => absurd z (by decide), fun _ => h1 ?_⟩, fun d => ⟨fun _ => h0 ?_, fun z => absurd rfl z⟩⟩, fun c => ⟨fun _ => h0 ?_, fun z => absurd rfl z⟩⟩
  · simp [fit, c, (okm_iff hh (ok.2.1 r).1).mp d]
  · have : okm h (vw S r) = false := by
      cases z : okm h (vw S r) with
      | false => rfl
      | true => exact absurd ((okm_iff hh (ok.2.1 r).1).mpr z) d
    simp [fit, this]
  · simp [fit, c]
def sumI (f : Nat → Int32) : Nat → Int32
  | 0 => 0
  | n + 1 => sumI f n + f n
theorem sumI_cong {f g : Nat → Int32} : ∀ {n : Nat}, (∀ r, r < n → f r = g r) → sumI f n = sumI g n
  | 0, _ => rfl
  | n + 1, h => by rw [sumI, sumI, sumI_cong (fun r hr => h r (by omega)), h n (by omega)]
/-- a row is in a heap, in a month -/
def sel (S : S2) (h : Nat) (m : Int32) (r : Nat) : Bool := decide (r_mo S r = m) && fit S h r
def val (S : S2) (ms : Int32) (r : Nat) : Int32 := if ms = 0 then r_tp S r else if ms = 2 then r_bs S r else 1
def acc (S : S2) (h : Nat) (m ms : Int32) : Nat → Int32 := sumI (fun r => if sel S h m r = true then val S ms r else 0)
def seen (S : S2) (h : Nat) (m : Int32) : Nat → Int64
  | 0 => 0
  | r + 1 => if sel S h m r = true then seen S h m r ||| (1 <<< ((r_mb S r).toInt64 &&& 63)) else seen S h m r
theorem acc_y {S : S2} {h : Nat} {m ms : Int32} {r : Nat} (hs : sel S h m r = true) : acc S h m ms (r + 1) = acc S h m ms r + val S ms r := by
  unfold acc; rw [sumI, if_pos hs]
theorem acc_x {S : S2} {h : Nat} {m ms : Int32} {r : Nat} (hs : sel S h m r = false) : acc S h m ms (r + 1) = acc S h m ms r := by
  unfold acc; rw [sumI, if_neg (by rw [hs]; decide), Int32.add_zero]
theorem seen_y {S : S2} {h : Nat} {m : Int32} {r : Nat} (hs : sel S h m r = true) : seen S h m (r + 1) = seen S h m r ||| (1 <<< ((r_mb S r).toInt64 &&& 63)) := by
  rw [seen, if_pos hs]
theorem seen_x {S : S2} {h : Nat} {m : Int32} {r : Nat} (hs : sel S h m r = false) : seen S h m (r + 1) = seen S h m r := by
  rw [seen, if_neg (by rw [hs]; decide)]
theorem l_in {S : S2} (ok : RowsOK S) {r : Nat} (h : r < nn S) : ¬ r_n S ≤ nI r ∧ vp_in (nI r) 120 ∧ (nI r).toNatClampNeg = r := by
  have := ok_n ok
  exact ⟨by rw [ok_sz ok]; exact nI_ge h (by omega), vp_in_nI (by omega) (by decide), nI_clamp (by omega)⟩
theorem l_end {S : S2} (ok : RowsOK S) : r_n S ≤ nI (nn S) := by rw [ok_sz ok]; exact nI_le (Nat.le_refl _) (by have := ok_n ok; omega)
theorem p_total_loop {S : S2} (ok : RowsOK S) {h : Nat} (hh : h < 729) {m ms : Int32} {K : Int32 × Int64 × Int32 → Prop} (hK : K (acc S h m ms (nn S), seen S h m (nn S), nI (nn S))) : ∃ n : Nat, iter (sX2_total_21 S m ms (nI (tbk h 3)) (nI (wbk h 3)) K) n (0, 0, 0) := by
  refine iter_st (fun r => (acc S h m ms r, seen S h m r, nI r)) 0 (nn S) (Nat.zero_le _) (fun r hr again hk => ?_) (fun again => ⟨fun _ => hK, fun c => absurd (l_end ok) c⟩)
  obtain ⟨hlt, hin, e⟩ := l_in ok hr
  simp only [sX2_total_21, e]
  refine ⟨fun c => absurd c hlt, fun _ => ⟨hin, fun c => p_fits ok hh (by have := ok_n ok; omega) (fun hf => ?_) (fun hf => ?_), fun c => ?_⟩⟩
  · have hs : sel S h m r = true := by simp [sel, c, hf]
    rw [acc_y hs, seen_y hs, ← nI_1] at hk
    refine ⟨fun c0 => ⟨hin, fun y ey => ⟨hin, fun z ez => ?_⟩⟩, fun c0 => ⟨fun c2 => ⟨hin, fun y ey => ⟨hin, fun z ez => ?_⟩⟩, fun c2 => ⟨hin, fun z ez => ?_⟩⟩⟩
    · rw [ey, ez]; simp only [val, if_pos c0] at hk; exact hk
    · rw [ey, ez]; simp only [val, if_neg c0, if_pos c2] at hk; exact hk
    · rw [ez]; simp only [val, if_neg c0, if_neg c2] at hk; exact hk
  · have hs : sel S h m r = false := by simp [sel, hf]
    rw [acc_x hs, seen_x hs, ← nI_1] at hk
    exact hk
  · have hs : sel S h m r = false := by simp [sel, c]
    rw [acc_x hs, seen_x hs, ← nI_1] at hk
    exact hk
/-- a measure but DISTINCT -/
theorem p_total {S : S2} (ok : RowsOK S) {h : Nat} (hh : h < 729) {m ms : Int32} (hms : ¬ ms = 3) {Q : Int32 → Prop} (hq : Q (acc S h m ms (nn S))) : wX2_total S (nI h) m ms Q :=
  p_testedBits hh (p_wantedBits hh (p_total_loop ok hh ⟨fun c => absurd c hms, fun _ => hq⟩))
theorem p_total3 {S : S2} (ok : RowsOK S) {h : Nat} (hh : h < 729) {m : Int32} {Q : Int32 → Prop} (hq : wJ13_bitCount_95d88 (seen S h m (nn S)) Q) : wX2_total S (nI h) m 3 Q :=
  p_testedBits hh (p_wantedBits hh (p_total_loop ok hh ⟨fun _ => hq, fun c => absurd rfl c⟩))
/-- the change of the SUM of a heap -/
def chg (S : S2) (h : Nat) : Int32 := acc S h 1 0 (nn S) - acc S h 0 0 (nn S)
theorem p_moved {S : S2} (ok : RowsOK S) {h : Nat} (hh : h < 729) {Q : Int32 → Prop} (hq : Q (chg S h)) : wX2_moved S (nI h) 0 Q :=
  p_total ok hh (by decide) (p_total ok hh (by decide) hq)
theorem p_movedn {S : S2} (ok : RowsOK S) {h : Nat} (hh : h < 729) {ms : Int32} (hms : ¬ ms = 3) {Q : Int32 → Prop} (hq : Q (acc S h 1 ms (nn S) - acc S h 0 ms (nn S))) : wX2_moved S (nI h) ms Q :=
  p_total ok hh hms (p_total ok hh hms hq)
theorem p_struckOnes {S : S2} (ok : RowsOK S) {Q : Int32 → Prop} (hq : Q (sumI (r_sk S) (nn S))) : wX2_struckOnes S Q := by
  refine iter_st (fun r => (sumI (r_sk S) r, nI r)) 0 (nn S) (Nat.zero_le _) (fun r hr again hk => ?_) (fun again => ⟨fun _ => hq, fun c => absurd (l_end ok) c⟩)
  obtain ⟨hlt, hin, e⟩ := l_in ok hr
  simp only [sX2_struckOnes_4, e]
  exact ⟨fun c => absurd c hlt, fun _ => ⟨hin, fun y ey => by rw [ey, nI_1]; exact hk⟩⟩
/-- the values of a mark that a member has in a month, as bits -/
def hasv (S : S2) (q m : Int32) (r : Nat) : Bool := decide (r_sk S r = 0) && (decide (r_mb S r = q) && decide (r_mo S r = m))
def vals (S : S2) (k : Nat) (q m : Int32) : Nat → Int32
  | 0 => 0
  | r + 1 => if hasv S q m r = true then vals S k q m r ||| (1 <<< (nI (vw S r / 8 ^ k % 8) &&& 31)) else vals S k q m r
theorem shr3 : ∀ k, k < 3 → (((3 : Int32) * nI k &&& 31).toBitVec.smod 32).toNat = 3 * k := by decide +kernel
theorem p_value {S : S2} (ok : RowsOK S) {r k : Nat} (hr : r < 120) (hk : k < 3) {Q : Int32 → Prop} (hq : Q (nI (vw S r / 8 ^ k % 8))) : wX2_valueOf S (nI r) (nI k) Q := by
  have e := nI_clamp (n := r) (by omega)
  have hv : vw S r < 512 ∧ S.2.2.2.2.2.1 r = nI (vw S r) := ok.2.1 r
  refine ⟨vp_in_nI hr (by decide), ?_⟩
  rw [e, hv.2, pk_shrN (by omega) _ (3 * k) (shr3 k hk), show (7 : Int32) = nI (2 ^ 3 - 1) from rfl, fa_mask, Nat.pow_mul]
  exact hq
theorem p_valuesOf {S : S2} (ok : RowsOK S) {k : Nat} (hk3 : k < 3) {q m : Int32} {Q : Int32 → Prop} (hq : Q (vals S k q m (nn S))) : wX2_valuesOf S (nI k) q m Q := by
  refine iter_st (fun r => (vals S k q m r, nI r)) 0 (nn S) (Nat.zero_le _) (fun r hr again hk => ?_) (fun again => ⟨fun _ => hq, fun c => absurd (l_end ok) c⟩)
  obtain ⟨hlt, hin, e⟩ := l_in ok hr
  simp only [sX2_valuesOf_6, e]
  have no : hasv S q m r = false → again (vals S k q m r, nI r + 1) := fun h => by
    rw [vals, if_neg (by rw [h]; decide)] at hk; rw [nI_1]; exact hk
  refine ⟨fun c => absurd c hlt, fun _ => ⟨hin, fun c1 => ⟨hin, fun c2 => ⟨hin, fun c3 => p_value ok (by have := ok_n ok; omega) hk3 (fun y ey => ?_), fun c3 => ?_⟩, fun c2 => ?_⟩, fun c1 => ?_⟩⟩
  · rw [vals, if_pos (by simp [hasv, c1, c2, c3])] at hk; rw [ey, nI_1]; exact hk
  · exact no (by simp [hasv, c3])
  · exact no (by simp [hasv, c2])
  · exact no (by simp [hasv, c1])
/-- the way of a member by a mark -/
def way (a b : Int32) : Int32 := if a = 0 then (if b = 0 then 4 else 0) else if b = 0 then 1 else if a = b then 2 else 3
theorem p_wayOf {S : S2} (ok : RowsOK S) {k : Nat} (hk3 : k < 3) {q : Int32} {Q : Int32 → Prop} (hq : Q (way (vals S k q 0 (nn S)) (vals S k q 1 (nn S)))) : wX2_wayOf S (nI k) q Q := by
  refine p_valuesOf ok hk3 (p_valuesOf ok hk3 ⟨fun a => ⟨fun b => ?_, fun b => ?_⟩, fun a => ⟨fun b => ?_, fun b => ⟨fun d => ?_, fun d => ?_⟩⟩⟩)
  · simp only [way, if_pos a, if_pos b] at hq; exact hq
  · simp only [way, if_pos a, if_neg b] at hq; exact hq
  · simp only [way, if_neg a, if_pos b] at hq; exact hq
  · simp only [way, if_neg a, if_neg b, if_pos d] at hq; exact hq
  · simp only [way, if_neg a, if_neg b, if_neg d] at hq; exact hq
/-- up to a day -/
def upto (S : S2) (h : Nat) (d : Int32) : Nat → Int32 := sumI (fun r => if (decide (r_dy S r ≤ d) && fit S h r) = true then (if r_mo S r = 1 then r_tp S r else -(r_tp S r)) else 0)
theorem p_movedUpTo {S : S2} (ok : RowsOK S) {h : Nat} (hh : h < 729) {d : Int32} {Q : Int32 → Prop} (hq : Q (upto S h d (nn S))) : wX2_movedUpTo S (nI h) d Q := by
  refine p_testedBits hh (p_wantedBits hh (iter_st (fun r => (upto S h d r, nI r)) 0 (nn S) (Nat.zero_le _) (fun r hr again hk => ?_) (fun again => ⟨fun _ => hq, fun c => absurd (l_end ok) c⟩)))
  obtain ⟨hlt, hin, e⟩ := l_in ok hr
  simp only [sX2_movedUpTo_17, e]
  have no : (decide (r_dy S r ≤ d) && fit S h r) = false → again (upto S h d r, nI r + 1) := fun z => by
    have e2 : upto S h d (r + 1) = upto S h d r := by unfold upto; rw [sumI, if_neg (by rw [z]; decide), Int32.add_zero]
    rw [e2] at hk; rw [nI_1]; exact hk
  have yes : (decide (r_dy S r ≤ d) && fit S h r) = true → again (upto S h d r + (if r_mo S r = 1 then r_tp S r else -(r_tp S r)), nI r + 1) := fun z => by
    have e2 : upto S h d (r + 1) = upto S h d r + (if r_mo S r = 1 then r_tp S r else -(r_tp S r)) := by unfold upto; rw [sumI, if_pos z]
    rw [e2] at hk; rw [nI_1]; exact hk
  refine ⟨fun c => absurd c hlt, fun _ => ⟨hin, fun c => no (by simp [i_nle.mpr c]), fun c => p_fits ok hh (by have := ok_n ok; omega) (fun hf => ⟨hin, fun c1 => ⟨hin, fun y ey => ?_⟩, fun c1 => ⟨hin, fun y ey => ?_⟩⟩) (fun hf => no (by simp [hf]))⟩⟩
  · have := yes (by simp [i_nlt.mp c, hf]); rw [if_pos c1] at this; rw [ey]; exact this
  · have := yes (by simp [i_nlt.mp c, hf]); rw [if_neg c1] at this; rw [ey]; exact this
