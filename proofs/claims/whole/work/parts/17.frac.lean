/-! FRACTIONS: both sides come to lowest terms -/
theorem uNat {n : Nat} (h : n < 2 ^ 63) : (lN n).toBitVec.toNat = n := lN_nat (by omega)
theorem l0 {n : Nat} (h : n < 2 ^ 63) : lN n = 0 ↔ n = 0 := pk_lEQ (b := 0) h (by decide)
theorem gcd_step (A B : Nat) : Nat.gcd B (A % B) = Nat.gcd A B := by
  rw [Nat.gcd_comm B (A % B), ← Nat.gcd_rec, Nat.gcd_comm]
theorem p6_gcd {A B : Nat} (hA : A < 2 ^ 63) (hB : B < 2 ^ 63) {Q : Int64 → Prop} (hq : Q (lN (Nat.gcd A B))) : ∃ n : Nat, iter (sX6_common_28 (fun (x4, x6) => Q x4)) n (lN A, lN B) := by
  refine iter_of (fun x => ∃ a b : Nat, a < 2 ^ 63 ∧ b < 2 ^ 63 ∧ x = (lN a, lN b) ∧ Nat.gcd a b = Nat.gcd A B) (fun x => x.2.toBitVec.toNat) (fun again x hx hg => ?_) _ ⟨A, B, hA, hB, rfl, rfl⟩
  obtain ⟨a, b, ha, hb, rfl, e⟩ := hx
  refine ⟨fun c => ?_, fun c => ⟨c, ?_⟩⟩
  · rw [(l0 hb).mp c, Nat.gcd_zero_right] at e
    show Q (lN a)
    rw [e]; exact hq
  · have hb0 : 0 < b := Nat.pos_of_ne_zero (fun z => c ((l0 hb).mpr z))
    have hm : a % b < b := Nat.mod_lt _ hb0
    rw [pk_lRem ha hb0 hb]
    refine hg _ ⟨b, a % b, hb, by omega, rfl, by rw [gcd_step]; exact e⟩ ?_
    show (lN (a % b)).toBitVec.toNat < (lN b).toBitVec.toNat
    rw [uNat (by omega), uNat hb]; exact hm
theorem mod_half {A B : Nat} (h : B < A) (h0 : 0 < B) : 2 * (A % B) < A := by
  rcases Nat.lt_or_ge (2 * B) (A + 1) with q | q
  · have := Nat.mod_lt A h0; omega
  · have : A % B = A - B := by
      rw [Nat.mod_eq_sub_mod (by omega), Nat.mod_eq_of_lt (by omega)]
    omega
theorem p_gcd {A B : Nat} (hA : A < 2 ^ 63) (hB : B < 2 ^ 63) {Q : Int64 → Prop} (hq : Q (lN (Nat.gcd A B))) : wX0_commonDivisor (lN A) (lN B) Q := by
  refine iter_of (fun x => ∃ a b c j : Nat, a < 2 ^ 63 ∧ b < 2 ^ 63 ∧ x = (lN a, lN b, nI c) ∧ Nat.gcd a b = Nat.gcd A B ∧ c ≤ 191 ∧ ((b < 2 ^ j ∧ c + 2 * j ≤ 190) ∨ (b < a ∧ a < 2 ^ j ∧ c + 2 * j ≤ 191))) (fun x => x.2.1.toBitVec.toNat) (fun again x hx hg => ?_) _ ⟨A, B, 0, 63, hA, hB, rfl, rfl, by omega, Or.inl ⟨hB, by omega⟩⟩
  obtain ⟨a, b, c, j, ha, hb, rfl, e, hc, hj⟩ := hx
  refine ⟨fun z => absurd z (i_nle.mpr (nI_lt (b := 200) (by omega) (by decide))), fun _ => ⟨fun z => ?_, fun z => ⟨z, ?_⟩⟩⟩
  · rw [(l0 hb).mp z, Nat.gcd_zero_right] at e
    show Q (lN a)
    rw [e]; exact hq
  · have hb0 : 0 < b := Nat.pos_of_ne_zero (fun q => z ((l0 hb).mpr q))
    have hm : a % b < b := Nat.mod_lt _ hb0
    rw [pk_lRem ha hb0 hb, nI_1]
    have hd : (lN (a % b)).toBitVec.toNat < (lN b).toBitVec.toNat := by rw [uNat (by omega), uNat hb]; exact hm
    rcases hj with ⟨h1, h2⟩ | ⟨h1, h2, h3⟩
    · exact hg _ ⟨b, a % b, c + 1, j, hb, by omega, rfl, by rw [gcd_step]; exact e, by omega, Or.inr ⟨hm, h1, by omega⟩⟩ hd
    · have hh := mod_half h1 hb0
      have hj1 : 1 ≤ j := by
        rcases Nat.eq_zero_or_pos j with q | q
        · rw [q] at h2; omega
        · exact q
      have hp : 2 ^ j = 2 * 2 ^ (j - 1) := by
        rw [show 2 ^ j = 2 ^ (j - 1 + 1) from congrArg (fun k => 2 ^ k) (by omega), Nat.pow_succ]; omega
      exact hg _ ⟨b, a % b, c + 1, j - 1, hb, by omega, rfl, by rw [gcd_step]; exact e, by omega, Or.inl ⟨by omega, by omega⟩⟩ hd
theorem l_neg {u : Int64} (h : -9223372036854775808 < u.toInt) : (-u).toInt = -u.toInt := by
  rw [Int64.toInt_neg]
  have := fb_rngL u
  exact fb_bmodL (by omega) (by omega)
theorem l_pos {u : Int64} (h : 0 ≤ u.toInt) : u = lN u.toInt.natAbs := by
  have := fb_rngL u
  refine Int64.toInt_inj.mp ?_
  rw [pk_lT (by omega)]
  omega
theorem l_abs0 {u : Int64} (h : -9223372036854775808 < u.toInt) (hn : ¬ 0 ≤ u) : -u = lN u.toInt.natAbs := by
  rw [fa_le64] at hn
  have e0 : (0 : Int64).toInt = 0 := by decide
  have := fb_rngL u
  refine Int64.toInt_inj.mp ?_
  rw [pk_lT (by omega), l_neg h]
  omega
theorem l_abs {u : Int64} (h : -9223372036854775808 < u.toInt) : (if 0 < u then u else -u) = lN u.toInt.natAbs := by
  have e0 : (0 : Int64).toInt = 0 := by decide
  have hr := fb_rngL u
  by_cases c : 0 < u
  · rw [if_pos c]
    rw [fa_lt64] at c
    exact l_pos (by omega)
  · rw [if_neg c]
    rw [fa_lt64] at c
    refine Int64.toInt_inj.mp ?_
    rw [pk_lT (by omega), l_neg h]
    omega
/-- the upper or the lower number in lowest terms -/
def tellv (u : Int64) (L : Nat) (w : Int32) : Int64 := if w = 0 then u / lN (Nat.gcd u.toInt.natAbs L) else lN L / lN (Nat.gcd u.toInt.natAbs L)
theorem p_tell {u : Int64} (h : -9223372036854775808 < u.toInt) {L : Nat} (h0 : 0 < L) (hL : L < 2 ^ 63) {w : Int32} {Q : Int64 → Prop} (hq : Q (tellv u L w)) : wX0_tell u (lN L) w Q := by
  have hr := fb_rngL u
  have g0 : 0 < Nat.gcd u.toInt.natAbs L := Nat.gcd_pos_of_pos_right _ h0
  have gl : Nat.gcd u.toInt.natAbs L ≤ L := Nat.gcd_le_right _ h0
  unfold wX0_tell
  rw [l_abs h]
  refine p_gcd (by omega) hL ⟨fun _ => ⟨fun c => ⟨fun z => ?_, ?_⟩, fun c => ⟨fun z => ?_, ?_⟩⟩, fun c => absurd ((pk_lLE (a := 1) (by decide) (by omega)).mpr g0) c⟩
  · exact absurd ((l0 (by omega)).mp z) (by omega)
  · rw [tellv, if_pos c] at hq; exact hq
  · exact absurd ((l0 (by omega)).mp z) (by omega)
  · rw [tellv, if_neg c] at hq; exact hq
theorem p6_lowest {u : Int64} (h : -9223372036854775808 < u.toInt) {L : Nat} (h0 : 0 < L) (hL : L < 2 ^ 63) {w : Int32} {Q : Int64 → Prop} (hq : Q (tellv u L w)) : wX6_lowest u (lN L) w Q := by
  have hr := fb_rngL u
  have g0 : 0 < Nat.gcd u.toInt.natAbs L := Nat.gcd_pos_of_pos_right _ h0
  have gl : Nat.gcd u.toInt.natAbs L ≤ L := Nat.gcd_le_right _ h0
  have e0 : (0 : Int64).toInt = 0 := by decide
  have pl : (0 : Int64) ≤ lN L := (pk_lLE (a := 0) (by decide) hL).mpr (Nat.zero_le _)
  have fin : (fun r_1 : Int64 => (w = 0 → (¬ r_1 = 0 ∧ (Q (u / r_1)))) ∧ (¬ w = 0 → (¬ r_1 = 0 ∧ (Q (lN L / r_1))))) (lN (Nat.gcd u.toInt.natAbs L)) := by
    refine ⟨fun c => ⟨fun z => absurd ((l0 (by omega)).mp z) (by omega), ?_⟩, fun c => ⟨fun z => absurd ((l0 (by omega)).mp z) (by omega), ?_⟩⟩
    · rw [tellv, if_pos c] at hq; exact hq
    · rw [tellv, if_neg c] at hq; exact hq
  refine ⟨fun c => ⟨fun _ => ?_, fun z => absurd pl z⟩, fun c => ⟨fun _ => ?_, fun z => absurd pl z⟩⟩
  · have c2 := c
    rw [fa_le64, e0] at c2
    have e := l_pos c2
    have key := p6_gcd (A := u.toInt.natAbs) (B := L) (Q := fun r_1 : Int64 => (w = 0 → (¬ r_1 = 0 ∧ (Q (u / r_1)))) ∧ (¬ w = 0 → (¬ r_1 = 0 ∧ (Q (lN L / r_1))))) (by omega) hL fin
    rw [← e] at key
    exact key
  · rw [l_abs0 h c]
    exact p6_gcd (A := u.toInt.natAbs) (B := L) (Q := fun r_1 : Int64 => (w = 0 → (¬ r_1 = 0 ∧ (Q (u / r_1)))) ∧ (¬ w = 0 → (¬ r_1 = 0 ∧ (Q (lN L / r_1))))) (by omega) hL fin
/-! bounds of the sums -/
theorem acc_top {S : S2} (ok : RowsOK S) (h : Nat) (m : Int32) : ∀ n : Nat, n ≤ 120 → -(99 * n : Int) ≤ (acc S h m 0 n).toInt ∧ (acc S h m 0 n).toInt ≤ 99 * n
  | 0, _ => by show -(99 * (0 : Nat) : Int) ≤ (0 : Int32).toInt ∧ (0 : Int32).toInt ≤ 99 * (0 : Nat); decide
  | n + 1, hn => by
    obtain ⟨h1, h2⟩ := acc_top ok h m n (by omega)
    cases hs : sel S h m n with
    | false => rw [acc_x hs]; constructor <;> push_cast <;> omega
    | true =>
      rw [acc_y hs, val, if_pos rfl]
      have ht : -99 ≤ (r_tp S n).toInt ∧ (r_tp S n).toInt ≤ 99 := ok.2.2.2.1 n
      rw [fb_addI (by omega) (by omega)]
      constructor <;> push_cast <;> omega
theorem acc_base {S : S2} (ok : RowsOK S) (h : Nat) (m : Int32) : ∀ n : Nat, n ≤ 120 → 0 ≤ (acc S h m 2 n).toInt ∧ (acc S h m 2 n).toInt ≤ 9 * n
  | 0, _ => by show 0 ≤ (0 : Int32).toInt ∧ (0 : Int32).toInt ≤ 9 * (0 : Nat); decide
  | n + 1, hn => by
    obtain ⟨h1, h2⟩ := acc_base ok h m n (by omega)
    cases hs : sel S h m n with
    | false => rw [acc_x hs]; constructor <;> push_cast <;> omega
    | true =>
      rw [acc_y hs, val, if_neg (by decide), if_pos rfl]
      have ht : 0 ≤ (r_bs S n).toInt ∧ (r_bs S n).toInt ≤ 9 := ok.2.2.2.2.1 n
      rw [fb_addI (by omega) (by omega)]
      constructor <;> push_cast <;> omega
/-- the SUM and the BASES of a heap in a month -/
def tops (S : S2) (h : Nat) (m : Int32) : Int32 := acc S h m 0 (nn S)
def bass (S : S2) (h : Nat) (m : Int32) : Int32 := acc S h m 2 (nn S)
theorem tops_b {S : S2} (ok : RowsOK S) (h : Nat) (m : Int32) : -11880 ≤ (tops S h m).toInt ∧ (tops S h m).toInt ≤ 11880 := by
  have hn := ok_n ok
  have := acc_top ok h m (nn S) hn
  unfold tops
  omega
theorem bass_b {S : S2} (ok : RowsOK S) (h : Nat) (m : Int32) : ∃ b : Nat, b ≤ 1080 ∧ bass S h m = nI b := by
  have hn := ok_n ok
  have := acc_base ok h m (nn S) hn
  refine ⟨(bass S h m).toInt.toNat, by unfold bass; omega, Int32.toInt_inj.mp ?_⟩
  rw [nI_toInt (by unfold bass; omega)]
  unfold bass
  omega
