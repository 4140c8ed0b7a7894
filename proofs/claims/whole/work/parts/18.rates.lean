/-! rate, shift, part -/
def bd (x : Int64) (a : Nat) : Prop := x.toInt.natAbs ≤ a
theorem bd_mul {x y : Int64} {a b : Nat} (hx : bd x a) (hy : bd y b) (h : a * b < 9223372036854775808) : bd (x * y) (a * b) := by
  have e : (x.toInt * y.toInt).natAbs ≤ a * b := by rw [Int.natAbs_mul]; exact Nat.mul_le_mul hx hy
  unfold bd
  rw [fb_mulL (by omega) (by omega)]
  exact e
theorem bd_sub {x y : Int64} {a b : Nat} (hx : bd x a) (hy : bd y b) (h : a + b < 9223372036854775808) : bd (x - y) (a + b) := by
  unfold bd at *
  rw [fb_subL (by omega) (by omega)]
  omega
theorem bd_add {x y : Int64} {a b : Nat} (hx : bd x a) (hy : bd y b) (h : a + b < 9223372036854775808) : bd (x + y) (a + b) := by
  unfold bd at *
  rw [fb_addL (by omega) (by omega)]
  omega
theorem bd_ok {x : Int64} {a : Nat} (h : bd x a) (ha : a < 9223372036854775808) : -9223372036854775808 < x.toInt := by unfold bd at h; omega
theorem bd_lN {b a : Nat} (h : b ≤ a) (ha : a < 9223372036854775808) : bd (lN b) a := by unfold bd; rw [pk_lT (by omega)]; omega
theorem bd_top {S : S2} (ok : RowsOK S) (h : Nat) (m : Int32) : bd (tops S h m).toInt64 11880 := by
  have := tops_b ok h m
  unfold bd
  rw [Int32.toInt_toInt64]
  omega
theorem bas_l {b : Nat} (h : b ≤ 1080) : (nI b).toInt64 = lN b := nI_l (by omega)
theorem p_tops {S : S2} (ok : RowsOK S) {h : Nat} (hh : h < 729) {m : Int32} {Q : Int32 → Prop} (hq : Q (tops S h m)) : wX2_total S (nI h) m 0 Q := p_total ok hh (by decide) hq
theorem p_bass {S : S2} (ok : RowsOK S) {h : Nat} (hh : h < 729) {m : Int32} {Q : Int32 → Prop} (hq : Q (bass S h m)) : wX2_total S (nI h) m 2 Q := p_total ok hh (by decide) hq
theorem p6_tops {S : S2} {M : S6} (R : RR S M) {h : Nat} (hh : h < 729) {m : Int32} {Q : Int32 → Prop} (hq : Q (tops S h m)) : wX6_measured M (nI h) m 0 Q := p6_measured R hh ⟨by decide, by decide⟩ hq
theorem p6_bass {S : S2} {M : S6} (R : RR S M) {h : Nat} (hh : h < 729) {m : Int32} {Q : Int32 → Prop} (hq : Q (bass S h m)) : wX6_measured M (nI h) m 2 Q := p6_measured R hh ⟨by decide, by decide⟩ hq
theorem eq_rate : Eq_rate rl := by
  intro S M a1 a2 a3 R
  obtain ⟨R1, R2, R3⟩ := id R
  have ok := R1.1
  by_cases C : inR a1 0 728 ∧ inR a2 0 1 ∧ inR a3 0 1
  · obtain ⟨c1, c2, c3⟩ := C
    obtain ⟨h, hh, rfl⟩ := inR_nI (n := 728) (by decide) c1
    obtain ⟨b, hb, eb⟩ := bass_b ok h a2
    refine p_in (fun _ => p_in (fun _ => p_in (fun _ => p_bass ok (by omega) ?_) (fun z => absurd c3 z)) (fun z => absurd c2 z)) (fun z => absurd c1 z)
    have six : ∀ {Q : Int32 → Prop}, ((bass S.1 h a2 = 0 → Q 0) ∧ (¬ bass S.1 h a2 = 0 → wX6_lowest (tops S.1 h a2).toInt64 (bass S.1 h a2).toInt64 a3 (fun r_6 : Int64 => Q r_6.toInt32))) → wX6_rate M (nI h) a2 a3 Q := by
      intro Q q
      exact p_in (fun _ => p_in (fun _ => p_in (fun _ => p6_bass R1 (by omega) ⟨fun z => q.1 z, fun z => p6_tops R1 (by omega) (q.2 z)⟩) (fun z => absurd c3 z)) (fun z => absurd c2 z)) (fun z => absurd c1 z)
    refine ⟨fun z => six ⟨fun _ => ⟨rfl, R⟩, fun z2 => absurd z z2⟩, fun z => p_tops ok (by omega) ?_⟩
    have hb0 : 0 < b := Nat.pos_of_ne_zero (fun q => z (by rw [eb, q]; rfl))
    have t := bd_ok (bd_top ok h a2) (by decide)
    rw [eb, bas_l hb]
    refine p_tell t hb0 (by omega) (six ⟨fun z2 => absurd z2 z, fun _ => ?_⟩)
    rw [eb, bas_l hb]
    exact p6_lowest t hb0 (by omega) ⟨rfl, R⟩
  · have n6 : wX6_rate M a1 a2 a3 (fun r' : Int32 => -1000000 = r' ∧ rl S M) := p_in (fun x1 => p_in (fun x2 => p_in (fun x3 => absurd ⟨x1, x2, x3⟩ C) (fun _ => ⟨rfl, R⟩)) (fun _ => ⟨rfl, R⟩)) (fun _ => ⟨rfl, R⟩)
    exact p_in (fun x1 => p_in (fun x2 => p_in (fun x3 => absurd ⟨x1, x2, x3⟩ C) (fun _ => n6)) (fun _ => n6)) (fun _ => n6)
theorem b_nle {b : Nat} (h : b ≤ 1080) : (nI b ≤ 0) ↔ b = 0 := by
  rw [show (0 : Int32) = nI 0 from rfl, nI_leI (by omega) (by omega)]; omega
/-- a heap has rates in both months, or not -/
theorem p_hasRates {S : S2} (ok : RowsOK S) {h : Nat} (hh : h < 729) {b0 b1 : Nat} (l0 : b0 ≤ 1080) (l1 : b1 ≤ 1080) (e0 : bass S h 0 = nI b0) (e1 : bass S h 1 = nI b1) {A B : Prop} (h1 : 0 < b0 → 0 < b1 → B) (h0 : b0 = 0 ∨ b1 = 0 → A) : wX2_hasRates S (nI h) (fun r => (r = 0 → A) ∧ (¬ r = 0 → B)) := by
  refine p_bass ok hh ?_
  rw [e0]
  refine ⟨fun c => ⟨fun _ => h0 (Or.inl ((b_nle l0).mp c)), fun z => absurd rfl z⟩, fun c => p_bass ok hh ?_⟩
  rw [e1]
  refine ⟨fun d => ⟨fun _ => h0 (Or.inr ((b_nle l1).mp d)), fun z => absurd rfl z⟩, fun d => ⟨fun z => absurd z (by decide), fun _ => h1 ?_ ?_⟩⟩
  · exact Nat.pos_of_ne_zero (fun q => c ((b_nle l0).mpr q))
  · exact Nat.pos_of_ne_zero (fun q => d ((b_nle l1).mpr q))
/-- the upper number of a difference -/
def diffu (S : S2) (p h : Nat) : Int64 := ((tops S p 1).toInt64 * (bass S h 0).toInt64) - ((tops S p 0).toInt64 * (bass S h 1).toInt64)
theorem diffu_ok {S : S2} (ok : RowsOK S) (p h : Nat) : -9223372036854775808 < (diffu S p h).toInt := by
  obtain ⟨b0, l0, e0⟩ := bass_b ok h 0
  obtain ⟨b1, l1, e1⟩ := bass_b ok h 1
  unfold diffu
  rw [e0, e1, bas_l l0, bas_l l1]
  exact bd_ok (bd_sub (bd_mul (bd_top ok p 1) (bd_lN l0 (by decide)) (by decide)) (bd_mul (bd_top ok p 0) (bd_lN l1 (by decide)) (by decide)) (by decide)) (by decide)
theorem mul_small {a b : Nat} (ha : a ≤ 1080) (hb : b ≤ 1080) (h0 : 0 < a) (h1 : 0 < b) : 0 < a * b ∧ a * b < 2 ^ 63 :=
  ⟨Nat.mul_pos h0 h1, Nat.lt_of_le_of_lt (Nat.mul_le_mul ha hb) (by decide)⟩
theorem p_difference {S : S2} (ok : RowsOK S) {p h : Nat} (hp : p < 729) (hh : h < 729) {b0 b1 : Nat} (l0 : b0 ≤ 1080) (l1 : b1 ≤ 1080) (e0 : bass S h 0 = nI b0) (e1 : bass S h 1 = nI b1) (p0 : 0 < b0) (p1 : 0 < b1) {w : Int32} {Q : Int64 → Prop} (hq : Q (tellv (diffu S p h) (b0 * b1) w)) : wX0_difference S (nI p) (nI h) w Q := by
  obtain ⟨m0, m1⟩ := mul_small l0 l1 p0 p1
  refine p_tops ok hp (p_tops ok hp (p_bass ok hh (p_bass ok hh ?_)))
  rw [show (bass S h 0).toInt64 * (bass S h 1).toInt64 = lN (b0 * b1) from by rw [e0, e1, bas_l l0, bas_l l1, lN_mul]]
  exact p_tell (diffu_ok ok p h) m0 m1 hq
theorem eq_shift : Eq_shift rl := by
  intro S M a1 a2 R
  obtain ⟨R1, R2, R3⟩ := id R
  have ok := R1.1
  by_cases C : inR a1 0 728 ∧ inR a2 0 1
  · obtain ⟨c1, c2⟩ := C
    obtain ⟨h, hh, rfl⟩ := inR_nI (n := 728) (by decide) c1
    obtain ⟨b0, l0', e0⟩ := bass_b ok h 0
    obtain ⟨b1, l1', e1⟩ := bass_b ok h 1
    have six : ∀ {Q : Int64 → Prop}, ((b0 = 0 ∨ b1 = 0 → Q (-4000000000000000000)) ∧ (0 < b0 → 0 < b1 → Q (tellv (diffu S.1 h h) (b0 * b1) a2))) → wX6_shift M (nI h) a2 Q := by
      intro Q q
      refine p_in (fun _ => p_in (fun _ => p6_bass R1 (by omega) (p6_bass R1 (by omega) ?_)) (fun z => absurd c2 z)) (fun z => absurd c1 z)
      have f0 : (bass S.1 h 0).toInt64 = lN b0 := by rw [e0, bas_l l0']
      have f1 : (bass S.1 h 1).toInt64 = lN b1 := by rw [e1, bas_l l1']
      refine ⟨fun z => q.1 (Or.inl ?_), fun z => ⟨fun z2 => q.1 (Or.inr ?_), fun z2 => p6_tops R1 (by omega) (p6_tops R1 (by omega) ?_)⟩⟩
      · rw [f0] at z; exact (l0 (by omega)).mp z
      · rw [f1] at z2; exact (l0 (by omega)).mp z2
      · have p0 : 0 < b0 := Nat.pos_of_ne_zero (fun k => z (by rw [f0, k]; rfl))
        have p1 : 0 < b1 := Nat.pos_of_ne_zero (fun k => z2 (by rw [f1, k]; rfl))
        obtain ⟨m0, m1⟩ := mul_small l0' l1' p0 p1
        rw [show (bass S.1 h 0).toInt64 * (bass S.1 h 1).toInt64 = lN (b0 * b1) from by rw [f0, f1, lN_mul]]
        exact p6_lowest (diffu_ok ok h h) m0 m1 (q.2 p0 p1)
    refine p_in (fun _ => p_in (fun _ => p_hasRates ok (by omega) l0' l1' e0 e1 (fun p0 p1 => p_difference ok (by omega) (by omega) l0' l1' e0 e1 p0 p1 (six ⟨fun z => ?_, fun _ _ => ⟨rfl, R⟩⟩)) (fun z => six ⟨fun _ => ⟨rfl, R⟩, fun p0 p1 => ?_⟩)) (fun z => absurd c2 z)) (fun z => absurd c1 z)
    · rcases z with z | z <;> omega
    · rcases z with z | z <;> omega
  · have n6 : wX6_shift M a1 a2 (fun r' : Int64 => -4000000000000000000 = r' ∧ rl S M) := p_in (fun x1 => p_in (fun x2 => absurd ⟨x1, x2⟩ C) (fun _ => ⟨rfl, R⟩)) (fun _ => ⟨rfl, R⟩)
    exact p_in (fun x1 => p_in (fun x2 => absurd ⟨x1, x2⟩ C) (fun _ => n6)) (fun _ => n6)
/-- a heap without a test on a mark; with a test more -/
def isO (a1 a2 : Int32) : Prop := ∃ h k : Nat, h < 729 ∧ k < 3 ∧ a1 = nI h ∧ a2 = nI k ∧ dg h k = 0
theorem p_isOpen {a1 a2 : Int32} {Q : Int32 → Prop} (h1 : isO a1 a2 → Q 1) (h0 : ¬ isO a1 a2 → Q 0) : wX1_isOpen a1 a2 Q := by
  refine p_in (fun x1 => p_in (fun x2 => ?_) (fun z => h0 ?_)) (fun z => h0 ?_)
  · obtain ⟨h, hh, rfl⟩ := inR_nI (n := 728) (by decide) x1
    obtain ⟨k, hk, rfl⟩ := inR_nI (n := 2) (by decide) x2
    refine p_digit (by omega) (by omega) ⟨fun c => h1 ⟨h, k, by omega, by omega, rfl, rfl, (dg0 (by omega)).mp c⟩, fun c => h0 ?_⟩
    rintro ⟨h', k', hh', hk', eh, ek, ed⟩
    have e1 : h = h' := (nI_eq (by omega) (by omega)).mp eh
    have e2 : k = k' := (nI_eq (by omega) (by omega)).mp ek
    subst e1; subst e2
    exact c ((dg0 hh').mpr ed)
  · rintro ⟨h', k', hh', hk', rfl, rfl, ed⟩
    exact z ⟨nI_pos' (by omega), nI_le (b := 2) (by omega) (by decide)⟩
  · rintro ⟨h', k', hh', hk', rfl, rfl, ed⟩
    exact z ⟨nI_pos' (by omega), nI_le (b := 728) (by omega) (by decide)⟩
def wt (h k v : Nat) : Nat := h + (v + 1) * 9 ^ k
theorem wt_lt {h k v : Nat} (hh : h < 729) (hk : k < 3) (hd : dg h k = 0) (hv : v < 8) : wt h k v < 729 := by
  rcases (show k = 0 ∨ k = 1 ∨ k = 2 by omega) with rfl | rfl | rfl <;> simp [dg, wt] at * <;> omega
theorem tb_P9 {k : Nat} (hk : k < 3) : tb_P k = nI (9 ^ k) := by
  rcases (show k = 0 ∨ k = 1 ∨ k = 2 by omega) with rfl | rfl | rfl <;> decide
theorem p_withTest {h k v : Nat} (hh : h < 729) (hk : k < 3) (hd : dg h k = 0) {Q : Int32 → Prop} (hq : Q (nI (wt h k v))) : wX1_withTest (nI h) (nI k) (nI v) Q := by
  refine p_isOpen (fun _ => ⟨fun z => absurd z (by decide), fun _ => ⟨vp_in_nI hk (by decide), ?_⟩⟩) (fun z => absurd ⟨h, k, hh, hk, rfl, rfl, hd⟩ z)
  rw [nI_clamp (by omega), tb_P9 hk, nI_1, pk_mul, nI_add]
  exact hq
theorem p6_place {k : Nat} (hk : k < 3) {Q : Int32 → Prop} (hq : Q (nI (9 ^ k))) : wX6_place (nI k) Q := by
  rcases (show k = 0 ∨ k = 1 ∨ k = 2 by omega) with rfl | rfl | rfl
  · exact ⟨fun _ => hq, fun z => absurd rfl z⟩
  · exact ⟨fun z => absurd z (by decide), fun _ => ⟨fun _ => hq, fun z => absurd rfl z⟩⟩
  · exact ⟨fun z => absurd z (by decide), fun _ => ⟨fun z => absurd z (by decide), fun _ => hq⟩⟩
theorem p6_wt {h k v : Nat} : nI h + (nI (9 ^ k) * (nI v + 1)) = nI (wt h k v) := by
  rw [nI_1, pk_mul, nI_add, Nat.mul_comm]; rfl
