/-! ROWS AS BITS: bitsOf, meet, mayTell; toll -/
def bv (S : S2) (h lo : Nat) : Nat → Nat
  | 0 => 0
  | c + 1 => bv S h lo c ||| (if fit S h (lo + c) = true then 2 ^ c else 0)
theorem bv_lt (S : S2) (h lo : Nat) : ∀ c, bv S h lo c < 2 ^ c
  | 0 => (by decide : (0 : Nat) < 2 ^ 0)
  | c + 1 => by
    have h1 := bv_lt S h lo c
    have h2 : 2 ^ c < 2 ^ (c + 1) := Nat.pow_lt_pow_right (by decide) (Nat.lt_succ_self c)
    refine Nat.or_lt_two_pow (Nat.lt_trans h1 h2) ?_
    split
    · exact h2
    · exact Nat.lt_of_le_of_lt (Nat.zero_le _) h2
theorem bv_bit (S : S2) (h lo : Nat) (j : Nat) : ∀ c, (bv S h lo c).testBit j = (decide (j < c) && fit S h (lo + j))
  | 0 => by rw [bv, Nat.zero_testBit, decide_eq_false (Nat.not_lt_zero j), Bool.false_and]
  | c + 1 => by
    rw [bv, Nat.testBit_or, bv_bit S h lo j c]
    by_cases e : j = c
    · subst e
      rw [decide_eq_false (Nat.lt_irrefl j), Bool.false_and, Bool.false_or, decide_eq_true (Nat.lt_succ_self j), Bool.true_and]
      cases fit S h (lo + j) with
      | true => rw [if_pos rfl, Nat.testBit_two_pow_self]
      | false => rw [if_neg (by decide), Nat.zero_testBit]
    · have e2 : (if fit S h (lo + c) = true then 2 ^ c else 0).testBit j = false := by
        split
        · exact Nat.testBit_two_pow_of_ne (fun z => e z.symm)
        · exact Nat.zero_testBit j
      rw [e2, Bool.or_false]
      congr 1
      exact decide_eq_decide.mpr (by omega)
theorem bv64 {S : S2} {h lo c : Nat} (hc : c ≤ 64) : bv S h lo c < 2 ^ 64 := Nat.lt_of_lt_of_le (bv_lt S h lo c) (Nat.pow_le_pow_right (by decide) hc)
theorem p_bits_loop {S : S2} (ok : RowsOK S) {h : Nat} (hh : h < 729) {lo c : Nat} (hc : c ≤ 64) (hl : lo + c ≤ 120) {p6 : Int32} (h1 : ∀ j, j < c → ¬ p6 ≤ nI (lo + j)) (h2 : p6 ≤ nI (lo + c)) {K : Int64 × Int32 → Prop} (hK : K (lN (bv S h lo c), nI (lo + c))) : ∃ n : Nat, iter (sX2_bitsOf_52 S (nI (tbk h 3)) (nI (wbk h 3)) (nI lo) p6 K) n (lN 0, nI (lo + 0)) := by
  refine iter_st (fun j => (lN (bv S h lo j), nI (lo + j))) 0 c (Nat.zero_le _) (fun j hj again hg => ?_) (fun again => ⟨fun _ => hK, fun z => absurd h2 z⟩)
  refine ⟨fun z => absurd z (h1 j hj), fun _ => p_fits ok hh (by omega) (fun hf => ?_) (fun hf => ?_)⟩
  · intro y ey
    have e1 : nI (lo + j) - nI lo = nI j := by rw [pk_sub (by omega)]; exact congrArg nI (by omega)
    have e2 : (1 : Int64) <<< ((nI j).toInt64 &&& 63) = lN (2 ^ j) := by
      have := wb_shl 1 (k := j) (by omega)
      rw [Nat.one_mul] at this
      exact this
    rw [e1, e2, wb_or (bv64 (by omega)) (Nat.pow_lt_pow_right (by decide) (by omega))] at ey
    simp only [bv] at hg
    rw [if_pos hf] at hg
    rw [ey, nI_1]
    exact hg
  · simp only [bv] at hg
    rw [if_neg (by rw [hf]; decide), Nat.or_zero] at hg
    rw [nI_1]
    exact hg
def c0 (S : S2) : Nat := if nn S < 64 then nn S else 64
def b0 (S : S2) (h : Nat) : Nat := bv S h 0 (c0 S)
def b1 (S : S2) (h : Nat) : Nat := bv S h 64 (nn S - 64)
theorem p_bits0 {S : S2} (ok : RowsOK S) {h : Nat} (hh : h < 729) {Q : Int64 → Prop} (hq : Q (lN (b0 S h))) : wX2_bitsOf S (nI h) 0 Q := by
  have hn := ok_n ok
  have eS : S.2.2.2.2.2.2.2 = nI (nn S) := ok_sz ok
  refine p_testedBits hh (p_wantedBits hh ⟨fun _ => ⟨fun _ => fun y ey => ?_, fun z => absurd rfl z⟩, fun z => absurd rfl z⟩)
  have e : y = nI (c0 S) := by
    rw [ey, eS, c0]
    by_cases q : nn S < 64
    · rw [if_pos q, if_neg]
      exact i_nlt.mpr (nI_le (b := 64) (by omega) (by decide))
    · rw [if_neg q]
      by_cases q2 : nn S = 64
      · rw [q2]; rfl
      · rw [if_pos]
        · rfl
        · exact nI_lt (a := 64) (by omega) (by omega)
  have hc : c0 S ≤ 64 := by unfold c0; split <;> omega
  have := p_bits_loop (lo := 0) (p6 := y) (K := fun (x7, x9) => Q x7) ok hh hc (by omega) (fun j hj => by rw [e, Nat.zero_add]; exact nI_ge hj (by omega)) (by rw [e, Nat.zero_add]; exact nI_le (Nat.le_refl _) (by omega)) hq
  exact this
theorem p_bits1 {S : S2} (ok : RowsOK S) {h : Nat} (hh : h < 729) {Q : Int64 → Prop} (hq : Q (lN (b1 S h))) : wX2_bitsOf S (nI h) 1 Q := by
  have hn := ok_n ok
  have eS : S.2.2.2.2.2.2.2 = nI (nn S) := ok_sz ok
  refine p_testedBits hh (p_wantedBits hh ⟨fun z => absurd z (by decide), fun _ => ⟨fun z => absurd z (by decide), fun _ => ?_⟩⟩)
  rw [eS]
  have := p_bits_loop (lo := 64) (c := nn S - 64) (p6 := nI (nn S)) (K := fun (x7, x9) => Q x7) ok hh (by omega) (by omega) (fun j hj => nI_ge (by omega) (by omega)) (nI_le (by omega) (by omega)) hq
  exact this
theorem lz {x : Nat} (h : x < 2 ^ 64) : lN x = 0 ↔ x = 0 := by
  refine ⟨fun e => ?_, fun e => by rw [e]; rfl⟩
  have := lN_nat h
  rw [e] at this
  rw [← this]
  rfl
theorem nz_bit {x : Nat} : x ≠ 0 ↔ ∃ j, x.testBit j = true := by
  refine ⟨fun h => ?_, fun ⟨j, h⟩ e => ?_⟩
  · refine Classical.byContradiction (fun k => h (Nat.eq_of_testBit_eq (fun i => ?_)))
    rw [Nat.zero_testBit]
    cases z : x.testBit i with
    | false => rfl
    | true => exact absurd ⟨i, z⟩ k
  · rw [e, Nat.zero_testBit] at h; cases h
theorem c0_le (S : S2) : c0 S ≤ 64 := by unfold c0; split <;> omega
theorem has_iff (S : S2) (h : Nat) : hasRs S h = true ↔ (b0 S h ≠ 0 ∨ b1 S h ≠ 0) := by
  rw [hasRs, anyN_iff, nz_bit, nz_bit]
  refine ⟨fun ⟨r, h1, h2⟩ => ?_, fun z => ?_⟩
  · by_cases q : r < 64
    · refine Or.inl ⟨r, ?_⟩
      rw [b0, bv_bit, Nat.zero_add, h2, decide_eq_true (by unfold c0; split <;> omega)]; rfl
    · refine Or.inr ⟨r - 64, ?_⟩
      rw [b1, bv_bit, show 64 + (r - 64) = r by omega, h2, decide_eq_true (by omega)]; rfl
  · rcases z with ⟨j, hj⟩ | ⟨j, hj⟩
    · rw [b0, bv_bit, Bool.and_eq_true, decide_eq_true_eq, Nat.zero_add] at hj
      exact ⟨j, by have := hj.1; unfold c0 at this; split at this <;> omega, hj.2⟩
    · rw [b1, bv_bit, Bool.and_eq_true, decide_eq_true_eq] at hj
      exact ⟨64 + j, by omega, hj.2⟩
theorem both_iff (S : S2) (a b : Nat) : both S a b = true ↔ (b0 S a &&& b0 S b ≠ 0 ∨ b1 S a &&& b1 S b ≠ 0) := by
  rw [both, anyN_iff, nz_bit, nz_bit]
  refine ⟨fun ⟨r, h1, h2⟩ => ?_, fun z => ?_⟩
  · rw [Bool.and_eq_true] at h2
    by_cases q : r < 64
    · refine Or.inl ⟨r, ?_⟩
      rw [Nat.testBit_and, b0, b0, bv_bit, bv_bit, Nat.zero_add, h2.1, h2.2, decide_eq_true (by unfold c0; split <;> omega)]; rfl
    · refine Or.inr ⟨r - 64, ?_⟩
      rw [Nat.testBit_and, b1, b1, bv_bit, bv_bit, show 64 + (r - 64) = r by omega, h2.1, h2.2, decide_eq_true (by omega)]; rfl
  · rcases z with ⟨j, hj⟩ | ⟨j, hj⟩
    · rw [Nat.testBit_and, b0, b0, bv_bit, bv_bit, Bool.and_eq_true, Bool.and_eq_true, Bool.and_eq_true, decide_eq_true_eq, Nat.zero_add] at hj
      exact ⟨j, by have := hj.1.1; unfold c0 at this; split at this <;> omega, by rw [hj.1.2, hj.2.2]; rfl⟩
    · rw [Nat.testBit_and, b1, b1, bv_bit, bv_bit, Bool.and_eq_true, Bool.and_eq_true, Bool.and_eq_true, decide_eq_true_eq] at hj
      exact ⟨64 + j, by omega, by rw [hj.1.2, hj.2.2]; rfl⟩
theorem b0_64 (S : S2) (h : Nat) : b0 S h < 2 ^ 64 := bv64 (c0_le S)
theorem b1_64 {S : S2} (ok : RowsOK S) (h : Nat) : b1 S h < 2 ^ 64 := bv64 (by have := ok_n ok; omega)
theorem and64 {a b : Nat} (h : a < 2 ^ 64) : a &&& b < 2 ^ 64 := Nat.lt_of_le_of_lt Nat.and_le_left h
theorem p_meet {S : S2} (ok : RowsOK S) {a b : Nat} (ha : a < 729) (hb : b < 729) {A B : Prop} (h1 : both S a b = true → B) (h0 : both S a b = false → A) : wX2_meet S (nI a) (nI b) (fun r => (r = 0 → A) ∧ (¬ r = 0 → B)) := by
  have no : ¬ both S a b = true → A := fun z => h0 (by cases q : both S a b with
    | true => exact absurd q z
    | false => rfl)
  refine p_bits0 ok ha (p_bits0 ok hb ?_)
  rw [wb_and (b0_64 S a) (b0_64 S b), lz (and64 (b0_64 S a))]
  refine ⟨fun c => p_bits1 ok ha (p_bits1 ok hb ?_), fun c => ⟨fun z => absurd z (by decide), fun _ => h1 ((both_iff S a b).mpr (Or.inl c))⟩⟩
  rw [wb_and (b1_64 ok a) (b1_64 ok b), lz (and64 (b1_64 ok a))]
  refine ⟨fun d => ⟨fun _ => no ?_, fun z => absurd rfl z⟩, fun d => ⟨fun z => absurd z (by decide), fun _ => h1 ((both_iff S a b).mpr (Or.inr d))⟩⟩
  rw [both_iff]
  rintro (z | z)
  · exact z c
  · exact z d
/-- a number that names a heap which a story may hold -/
def mayI (S : S2) (a : Int32) : Prop := ∃ h : Nat, h < 729 ∧ a = nI h ∧ may S h = true
theorem p_mayTell {S : SX} (ok : RowsOK S.1) {a : Int32} {A B : Prop} (h1 : mayI S.1 a → B) (h0 : ¬ mayI S.1 a → A) : wX3_mayTell S a (fun r => (r = 0 → A) ∧ (¬ r = 0 → B)) := by
  refine p_in (fun x1 => ?_) (fun z => ⟨fun _ => h0 ?_, fun q => absurd rfl q⟩)
  · obtain ⟨h, hh, rfl⟩ := inR_nI (n := 728) (by decide) x1
    have nof : ∀ {P : Prop}, (mayI S.1 (nI h) → (1 ≤ ts h ∧ ts h ≤ 2) → hasRs S.1 h = true → P) → mayI S.1 (nI h) → P := by
      intro P f m
      obtain ⟨h', hh', eh, em⟩ := id m
      have e1 : h = h' := (nI_eq (by omega) (by omega)).mp eh
      subst e1
      rw [may, Bool.and_eq_true, decide_eq_true_eq] at em
      exact f m em.1 em.2
    refine p_tests (by omega) (p_in (fun x2 => p_bits0 ok (by omega) ?_) (fun z => ⟨fun _ => h0 ?_, fun q => absurd rfl q⟩))
    · have yes : hasRs S.1 h = true → mayI S.1 (nI h) := fun z => ⟨h, by omega, rfl, by rw [may, z, decide_eq_true ((inR_ts h).mp x2)]; rfl⟩
      rw [lz (b0_64 S.1 h)]
      refine ⟨fun c => p_bits1 ok (by omega) ?_, fun c => ⟨fun q => absurd q (by decide), fun _ => h1 (yes ((has_iff S.1 h).mpr (Or.inl c)))⟩⟩
      rw [lz (b1_64 ok h)]
      refine ⟨fun d => ⟨fun _ => h0 (nof (fun _ _ m => ?_)), fun q => absurd rfl q⟩, fun d => ⟨fun q => absurd q (by decide), fun _ => h1 (yes ((has_iff S.1 h).mpr (Or.inr d)))⟩⟩
      rcases (has_iff S.1 h).mp m with z | z
      · exact z c
      · exact z d
    · exact nof (fun _ t _ => z ((inR_ts h).mpr t))
  · rintro ⟨h, hh, rfl, -⟩
    exact z ⟨nI_pos' (by omega), nI_le (b := 728) (by omega) (by decide)⟩
theorem p6_mayI {S : S2} {M : S6} (R : RR S M) {a : Int32} {A B : Prop} (h1 : mayI S a → B) (h0 : ¬ mayI S a → A) : wX6_isHeap a (fun r => (r = 0 → A) ∧ (¬ r = 0 → wX6_mayTell M a (fun r => (r = 0 → A) ∧ (¬ r = 0 → B)))) := by
  refine p_in (fun x1 => ?_) (fun z => h0 ?_)
  · obtain ⟨h, hh, rfl⟩ := inR_nI (n := 728) (by decide) x1
    refine p6_mayTell R (by omega) (fun m => ⟨fun q => absurd q (by decide), fun _ => h1 ⟨h, by omega, rfl, m⟩⟩) (fun m => ⟨fun _ => h0 ?_, fun q => absurd rfl q⟩)
    rintro ⟨h', hh', eh, em⟩
    have e1 : h = h' := (nI_eq (by omega) (by omega)).mp eh
    subst e1
    rw [m] at em; cases em
  · rintro ⟨h, hh, rfl, -⟩
    exact z ⟨nI_pos' (by omega), nI_le (b := 728) (by omega) (by decide)⟩
/-- what is left to be told; a number without its sign -/
def left (S : SX) : Int32 := chg S.1 0 - t_ex S.2.2
def absI (x : Int32) : Int32 := if 0 ≤ x then x else -x
theorem abs_i (x : Int32) : (if 0 ≤ x then x else 0 - x) = absI x := by rw [absI, Int32.zero_sub]
theorem p_left {S : SX} (ok : RowsOK S.1) {Q : Int32 → Prop} (hq : Q (left S)) : wX3_left S Q := p_moved (h := 0) ok (by decide) hq
theorem p_tollOf {S : SX} (ok : RowsOK S.1) {a b : Int32} {Q : Int32 → Prop} (hq : Q (absI (left S - a) + b)) : wX3_tollOf S a b Q := by
  refine p_left ok ?_
  rw [abs_i]
  exact hq
theorem p6_rest {S : SX} {M : S6} (R : RR S.1 M) (e : m_ex M = t_ex S.2.2) {Q : Int32 → Prop} (hq : Q (left S)) : wX6_rest M Q := by
  refine p6_changed0 (h := 0) R (by decide) ?_
  have e' : M.2.2.2.2.2.2.2.2.2.2.1 = t_ex S.2.2 := e
  rw [e']
  exact hq
theorem p6_tolled {a t c : Int32} {Q : Int32 → Prop} (hq : Q (absI a + c * t)) : wX6_tolled a t c Q :=
  ⟨fun z => by rw [absI, if_pos z] at hq; exact hq, fun z => by rw [absI, if_neg z] at hq; exact hq⟩
theorem may_self {S : S2} {h : Nat} (m : may S h = true) : both S h h = true := by
  rw [may, Bool.and_eq_true] at m
  obtain ⟨r, h1, h2⟩ := anyN_iff.mp m.2
  exact anyN_iff.mpr ⟨r, h1, by rw [h2]; rfl⟩
theorem sub3 (x a b : Int32) : x - (a + b) = x - a - b := by
  rw [Int32.sub_eq_add_neg, Int32.sub_eq_add_neg, Int32.sub_eq_add_neg, Int32.neg_add, Int32.add_assoc, Int32.sub_eq_add_neg]
theorem eq_toll : Eq_toll rl := by
  intro S M a1 a2 a3 R
  obtain ⟨R1, R2, R3⟩ := id R
  have ok := R1.1
  by_cases c2 : a2 = -1
  · refine ⟨fun _ => ?_, fun z => absurd c2 z⟩
    by_cases C : inR a3 0 1000 ∧ mayI S.1 a1
    · obtain ⟨c3, c1⟩ := C
      obtain ⟨h, hh, rfl, m⟩ := id c1
      refine p_in (fun _ => p_mayTell ok (fun _ => p_moved ok hh (p_tests hh (p_tollOf ok ?_))) (fun z => absurd c1 z)) (fun z => absurd c3 z)
      exact p6_mayI R1 (fun _ => ⟨fun _ => p_in (fun _ => ⟨fun _ => p6_rest R1 R3.1 (p6_changed0 R1 hh (p6_tests hh (p6_tolled ⟨rfl, R⟩))), fun z => absurd c2 z⟩) (fun z => absurd c3 z), fun z => absurd c2 z⟩) (fun z => absurd c1 z)
    · have n6 : wX6_toll M a1 a2 a3 (fun r' : Int32 => -1 = r' ∧ rl S M) := p6_mayI R1 (fun x1 => ⟨fun _ => p_in (fun x3 => absurd ⟨x3, x1⟩ C) (fun _ => ⟨rfl, R⟩), fun z => absurd c2 z⟩) (fun _ => ⟨rfl, R⟩)
      exact p_in (fun x3 => p_mayTell ok (fun x1 => absurd ⟨x3, x1⟩ C) (fun _ => n6)) (fun _ => n6)
  · refine ⟨fun z => absurd z c2, fun _ => ?_⟩
    by_cases C : inR a3 0 1000 ∧ mayI S.1 a1 ∧ mayI S.1 a2
    · obtain ⟨c3, m1, m2⟩ := C
      obtain ⟨a, ha, rfl, ma⟩ := id m1
      obtain ⟨b, hb, rfl, mb⟩ := id m2
      have six : ∀ {Q : Int32 → Prop}, ((both S.1 a b = true → Q (-3)) ∧ (both S.1 a b = false → Q (absI (left S - chg S.1 a - chg S.1 b) + a3 * (nI (ts a) + nI (ts b))))) → wX6_toll M (nI a) (nI b) a3 Q := by
        intro Q q
        refine p6_mayI R1 (fun _ => ⟨fun z => absurd z c2, fun _ => p6_mayI R1 (fun _ => p_in (fun _ => ⟨fun z => absurd z c2, fun _ => ⟨fun e => q.1 ?_, fun _ => p6_shareRow R1 ha hb (fun z => ⟨fun w => absurd w (by decide), fun _ => q.1 z⟩) (fun z => ⟨fun _ => ?_, fun w => absurd rfl w⟩)⟩⟩) (fun z => absurd c3 z)) (fun z => absurd m2 z)⟩) (fun z => absurd m1 z)
        · have e1 : a = b := (nI_eq (by omega) (by omega)).mp e
          subst e1
          exact may_self ma
        · exact p6_rest R1 R3.1 (p6_changed0 R1 ha (p6_changed0 R1 hb (p6_tests ha (p6_tests hb (p6_tolled (q.2 z))))))
      refine p_in (fun _ => p_mayTell ok (fun _ => p_mayTell ok (fun _ => p_meet ok ha hb (fun z => six ⟨fun _ => ⟨rfl, R⟩, fun w => ?_⟩) (fun z => p_moved ok ha (p_moved ok hb (p_tests ha (p_tests hb (p_tollOf ok (six ⟨fun w => ?_, fun _ => ⟨?_, R⟩⟩))))))) (fun z => absurd m2 z)) (fun z => absurd m1 z)) (fun z => absurd c3 z)
      · rw [z] at w; cases w
      · rw [z] at w; cases w
      · rw [sub3]
    · have n6 : wX6_toll M a1 a2 a3 (fun r' : Int32 => -1 = r' ∧ rl S M) := p6_mayI R1 (fun x1 => ⟨fun z => absurd z c2, fun _ => p6_mayI R1 (fun x2 => p_in (fun x3 => absurd ⟨x3, x1, x2⟩ C) (fun _ => ⟨rfl, R⟩)) (fun _ => ⟨rfl, R⟩)⟩) (fun _ => ⟨rfl, R⟩)
      exact p_in (fun x3 => p_mayTell ok (fun x1 => p_mayTell ok (fun x2 => absurd ⟨x3, x1, x2⟩ C) (fun _ => n6)) (fun _ => n6)) (fun _ => n6)
