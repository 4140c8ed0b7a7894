/-! PURE ROWS: the reference's readers of rows, over the same rows -/
def RR (S : S2) (M : S6) : Prop := RowsOK S ∧ M.1 = S.2.2.2.2.2.2.2 ∧ M.2.1 = S.1 ∧ M.2.2.1 = S.2.1 ∧ M.2.2.2.1 = S.2.2.1 ∧ M.2.2.2.2.1 = S.2.2.2.1 ∧ M.2.2.2.2.2.1 = S.2.2.2.2.1 ∧ M.2.2.2.2.2.2.2.1 = S.2.2.2.2.2.2.1 ∧ ∀ r k, k < 3 → M.2.2.2.2.2.2.1 (3 * r + k) = nI (vw S r / 8 ^ k % 8)
def bk (S : S2) (h r : Nat) : Nat → Bool
  | 0 => decide (r_sk S r = 0)
  | k + 1 => bk S h r k && (dg h k == 0 || dg h k == vw S r / 8 ^ k % 8 + 1)
theorem bk_fit {S : S2} (ok : RowsOK S) (h r : Nat) : bk S h r 3 = fit S h r := by
  have hv := (ok.2.1 r).1
  have e0 : vw S r / 8 ^ 0 % 8 = vw S r % 8 := by simp
  have e1 : vw S r / 8 ^ 1 % 8 = vw S r / 8 % 8 := by simp
  have e2 : vw S r / 8 ^ 2 % 8 = vw S r / 64 := by rw [show 8 ^ 2 = 64 from rfl]; omega
  simp only [bk, fit, okm, e0, e1, e2, Bool.and_assoc]
theorem ix3 {r k : Nat} (hr : r < 120) (hk : k < 3) : vp_in (((3 : Int32) * nI r) + nI k) 360 ∧ (((3 : Int32) * nI r) + nI k).toNatClampNeg = 3 * r + k := by
  have e : ((3 : Int32) * nI r) + nI k = nI (3 * r + k) := by rw [show (3 : Int32) = nI 3 from rfl, pk_mul, nI_add]
  rw [e]
  exact ⟨vp_in_nI (by omega) (by decide), nI_clamp (by omega)⟩
theorem b01 (b : Bool) : narrow .boolean (.int (if b = true then 1 else 0)) = .int (if b = true then 1 else 0) := by cases b <;> decide
theorem dg_eq {h k v : Nat} (hh : h < 729) (hv : v < 8) : nI (dg h k) = nI v + 1 ↔ dg h k = v + 1 := by
  rw [nI_1]
  exact nI_eq (by have := dg_lt (k := k) hh; omega) (by omega)
theorem p6_isIn0 {S : S2} {M : S6} (R : RR S M) {h r : Nat} (hh : h < 729) (hr : r < 120) {Q : Int32 → Prop} (hq : Q (if fit S h r = true then 1 else 0)) : wX6_isIn M (nI r) (nI h) Q := by
  obtain ⟨ok, e0, e1, e2, e3, e4, e5, e6, e7⟩ := R
  have e := nI_clamp (n := r) (by omega)
  have key : ∃ n : Nat, iter (sX6_isIn_18 M (nI r) (nI h) (fun (x3, x4) => narrow .boolean (.int x3) = .int x3 ∧ Q x3)) n ((if bk S h r 0 = true then 1 else 0), nI 0) := by
    refine iter_st (fun k => ((if bk S h r k = true then 1 else 0), nI k)) 0 3 (by decide) (fun k hk again hg => ?_) (fun again => ⟨fun _ => ?_, fun c => absurd (by decide) c⟩)
    · obtain ⟨i1, i2⟩ := ix3 hr hk
      simp only [sX6_isIn_18, e_digit, i2, e7 r k hk]
      rw [← nI_1] at hg
      have hv8 : vw S r / 8 ^ k % 8 < 8 := Nat.mod_lt _ (by decide)
      refine ⟨fun c => absurd c (i_nle.mpr (nI_lt (b := 3) hk (by decide))), fun _ => ⟨fun c => ?_, fun c => ?_⟩⟩
      · have hb : bk S h r k = false := by cases z : bk S h r k with
          | false => rfl
          | true => rw [z] at c; exact absurd c (by decide)
        simp only [bk, hb, Bool.false_and] at hg
        exact hg
      · have hb : bk S h r k = true := by cases z : bk S h r k with
          | true => rfl
          | false => rw [z] at c; exact absurd rfl c
        simp only [bk, hb, Bool.true_and] at hg
        refine p_digit (by omega) hk ⟨fun d => ?_, fun d => p_digit (by omega) hk ⟨i1, fun f => ?_, fun f => ?_⟩⟩
        · have := (dg0 hh).mp d
          simpa [this] using hg
        · have := (dg_eq hh hv8).mp f
          simpa [this] using hg
        · have n1 : ¬ dg h k = 0 := fun z => d ((dg0 hh).mpr z)
          have n2 : ¬ dg h k = vw S r / 8 ^ k % 8 + 1 := fun z => f ((dg_eq hh hv8).mpr z)
          have n3 : (dg h k == 0 || dg h k == vw S r / 8 ^ k % 8 + 1) = false := by simp [n1, n2]
          rw [n3] at hg
          exact hg
    · rw [bk_fit ok]
      exact ⟨b01 _, hq⟩
  unfold wX6_isIn
  rw [e, e6]
  refine ⟨vp_in_nI hr (by decide), fun c => ?_, fun c => ?_⟩
  · rw [show bk S h r 0 = true from by simp [bk, c]] at key
    exact key
  · rw [show bk S h r 0 = false from by simp [bk, c]] at key
    exact key
theorem p6_isIn {S : S2} {M : S6} (R : RR S M) {h r : Nat} (hh : h < 729) (hr : r < 120) {A B : Prop} (h1 : fit S h r = true → B) (h0 : fit S h r = false → A) : wX6_isIn M (nI r) (nI h) (fun q => (q = 0 → A) ∧ (¬ q = 0 → B)) := by
  refine p6_isIn0 R hh hr ?_
  cases z : fit S h r with
  | true => exact ⟨fun c => absurd c (by decide), fun _ => h1 z⟩
  | false => exact ⟨fun _ => h0 z, fun c => absurd rfl c⟩
theorem l6_in {S : S2} {M : S6} (R : RR S M) {r : Nat} (h : r < nn S) : ¬ M.1 ≤ nI r ∧ vp_in (nI r) 120 ∧ (nI r).toNatClampNeg = r := by rw [R.2.1]; exact l_in R.1 h
theorem l6_end {S : S2} {M : S6} (R : RR S M) : M.1 ≤ nI (nn S) := by rw [R.2.1]; exact l_end R.1
def anyN (p : Nat → Bool) : Nat → Bool
  | 0 => false
  | n + 1 => anyN p n || p n
theorem anyN_yes {p : Nat → Bool} {r : Nat} (hp : p r = true) : ∀ {n : Nat}, r < n → anyN p n = true
  | 0, h => absurd h (Nat.not_lt_zero r)
  | n + 1, h => by
    rw [anyN]
    by_cases e : r = n
    · rw [← e, hp, Bool.or_true]
    · rw [anyN_yes hp (show r < n by omega), Bool.true_or]
theorem anyN_iff {p : Nat → Bool} : ∀ {n : Nat}, anyN p n = true ↔ ∃ r, r < n ∧ p r = true
  | 0 => ⟨fun h => (by cases h), fun ⟨_, h, _⟩ => absurd h (Nat.not_lt_zero _)⟩
  | n + 1 => by
    refine ⟨fun h => ?_, fun ⟨r, h1, h2⟩ => anyN_yes h2 h1⟩
    rw [anyN, Bool.or_eq_true] at h
    rcases h with h | h
    · obtain ⟨r, h1, h2⟩ := anyN_iff.mp h
      exact ⟨r, by omega, h2⟩
    · exact ⟨n, by omega, h⟩
/-- some row of a heap in a month is of a member -/
def hasR (S : S2) (h : Nat) (m q : Int32) : Bool := anyN (fun r => sel S h m r && decide (r_mb S r = q)) (nn S)
theorem p6_hasRow {S : S2} {M : S6} (R : RR S M) {h : Nat} (hh : h < 729) {m q : Int32} {Q : Int32 → Prop} (h1 : hasR S h m q = true → Q 1) (h0 : hasR S h m q = false → Q 0) : wX6_hasRow M (nI h) m q Q := by
  have hn := ok_n R.1
  refine iter_up (fun r => nI r) (fun r => anyN (fun r => sel S h m r && decide (r_mb S r = q)) r = false) (nn S) (fun r hr hI again hk => ?_) (fun hI again => ⟨fun _ => h0 hI, fun c => absurd (l6_end R) c⟩) 0 (Nat.zero_le _) rfl
  obtain ⟨hlt, hin, e⟩ := l6_in R hr
  obtain ⟨ok, e0, e1, e2, e3, e4, e5, e6, e7⟩ := id R
  simp only [sX6_hasRow_3, e, e1, e5]
  have no : (sel S h m r && decide (r_mb S r = q)) = false → again (nI r + 1) := fun z => by
    rw [nI_1]; exact hk (by rw [anyN, hI, z]; rfl)
  refine ⟨fun c => absurd c hlt, fun _ => p6_isIn R hh (by omega) (fun hf => ⟨hin, fun c1 => ⟨hin, fun c2 => h1 ?_, fun c2 => no ?_⟩, fun c1 => no ?_⟩) (fun hf => no ?_)⟩
  · exact anyN_yes (r := r) (by simp [sel, hf, c1, c2]) hr
  · simp [c2]
  · simp [sel, c1]
  · simp [sel, hf]
/-- how many members -/
def dist (S : S2) (h : Nat) (m : Int32) : Nat → Nat
  | 0 => 0
  | p + 1 => dist S h m p + (if hasR S h m (nI p) = true then 1 else 0)
/-- a measure -/
def tot (S : S2) (h : Nat) (m ms : Int32) : Int32 := if ms = 3 then nI (dist S h m 64) else acc S h m ms (nn S)
theorem p6_measured {S : S2} {M : S6} (R : RR S M) {h : Nat} (hh : h < 729) {m ms : Int32} (hms : inR ms 0 3) {Q : Int32 → Prop} (hq : Q (tot S h m ms)) : wX6_measured M (nI h) m ms Q := by
  have hn := ok_n R.1
  obtain ⟨j, hj, rfl⟩ := inR_nI (n := 3) (by decide) hms
  by_cases h3 : j = 3
  · subst h3
    have second : ∃ n : Nat, iter (sX6_measured_101 M (nI h) m (nI 3) (fun (x4, x5) => Q x4)) n (nI (dist S h m 0), nI 0) := by
      refine iter_st (fun p => (nI (dist S h m p), nI p)) 0 64 (by decide) (fun p hp again hk => ?_) (fun again => ⟨fun _ => hq, fun c => absurd (by decide) c⟩)
      simp only [sX6_measured_101]
      refine ⟨fun c => absurd c (i_nle.mpr (nI_lt (b := 64) hp (by decide))), fun _ => ⟨fun _ => p6_hasRow R hh (fun z => ?_) (fun z => ?_), fun c => absurd rfl c⟩⟩
      · rw [dist, if_pos z] at hk
        exact ⟨fun c => absurd c (by decide), fun _ => by rw [nI_1, nI_1]; exact hk⟩
      · rw [dist, if_neg (by rw [z]; decide)] at hk
        exact ⟨fun _ => by rw [nI_1, Int32.add_zero]; exact hk, fun c => absurd rfl c⟩
    refine ⟨1, ?_⟩
    exact ⟨fun _ => second, fun _ => ⟨fun _ => second, fun c => absurd (by decide) c⟩⟩
  · have hne : ¬ nI j = 3 := fun z => h3 ((nI_eq (b := 3) (by omega) (by decide)).mp z)
    have hlt : ¬ (3 : Int32) ≤ nI j := i_nle.mpr (nI_lt (b := 3) (by omega) (by decide))
    rw [tot, if_neg hne] at hq
    refine iter_st (fun r => (acc S h m (nI j) r, nI r)) 0 (nn S) (Nat.zero_le _) (fun r hr again hk => ?_) (fun again => ⟨fun _ => ?_, fun c => absurd (l6_end R) c⟩)
    · obtain ⟨hl, hin, e⟩ := l6_in R hr
      obtain ⟨ok, e0, e1, e2, e3, e4, e5, e6, e7⟩ := id R
      simp only [sX6_measured_6, e, e1, e3, e4]
      have no : sel S h m r = false → again (acc S h m (nI j) r + 0, nI r + 1) := fun z => by
        rw [acc_x z] at hk; rw [nI_1, Int32.add_zero]; exact hk
      refine ⟨fun c => absurd c hl, fun _ => ⟨fun c => absurd c hlt, fun _ => p6_isIn R hh (by omega) (fun hf => ⟨hin, fun c1 => ?_, fun c1 => no (by simp [sel, c1])⟩) (fun hf => no (by simp [sel, hf]))⟩⟩
      have hs : sel S h m r = true := by simp [sel, c1, hf]
      rw [acc_y hs, ← nI_1] at hk
      refine ⟨fun c0 => ⟨hin, fun y ey => ?_⟩, fun c0 => ⟨fun c2 => ?_, fun c2 => ⟨hin, fun y ey => ?_⟩⟩⟩
      · rw [val, if_pos c0] at hk; rw [ey]; exact hk
      · rw [val, if_neg c0, if_neg (by rw [c2]; decide)] at hk; exact hk
      · have h2 : nI j = 2 := by
          have a0 : j ≠ 0 := fun z => c0 (by rw [z]; rfl)
          have a1 : j ≠ 1 := fun z => c2 (by rw [z]; rfl)
          rw [show j = 2 by omega]; rfl
        rw [val, if_neg c0, if_pos h2] at hk; rw [ey]; exact hk
    · exact ⟨1, fun c => absurd c (by decide), fun _ => ⟨fun c => absurd c hne, fun _ => hq⟩⟩
theorem p6_changed {S : S2} {M : S6} (R : RR S M) {h : Nat} (hh : h < 729) {ms : Int32} (hms : inR ms 0 3) {Q : Int32 → Prop} (hq : Q (tot S h 1 ms - tot S h 0 ms)) : wX6_changed M (nI h) ms Q :=
  p6_measured R hh hms (p6_measured R hh hms hq)
theorem p6_changed0 {S : S2} {M : S6} (R : RR S M) {h : Nat} (hh : h < 729) {Q : Int32 → Prop} (hq : Q (chg S h)) : wX6_changed M (nI h) 0 Q :=
  p6_changed R hh ⟨by decide, by decide⟩ hq
theorem p6_valuesOf {S : S2} {M : S6} (R : RR S M) {k : Nat} (hk3 : k < 3) {q m : Int32} {Q : Int32 → Prop} (hq : Q (vals S k q m (nn S))) : wX6_valuesOf M (nI k) q m Q := by
  have hn := ok_n R.1
  refine iter_st (fun r => (vals S k q m r, nI r)) 0 (nn S) (Nat.zero_le _) (fun r hr again hk => ?_) (fun again => ⟨fun _ => hq, fun c => absurd (l6_end R) c⟩)
  obtain ⟨hlt, hin, e⟩ := l6_in R hr
  obtain ⟨i1, i2⟩ := ix3 (r := r) (k := k) (by omega) hk3
  obtain ⟨ok, e0, e1, e2, e3, e4, e5, e6, e7⟩ := id R
  simp only [sX6_valuesOf_6, e, e1, e5, e6, i2, e7 r k hk3]
  have no : hasv S q m r = false → again (vals S k q m r ||| 0, nI r + 1) := fun h => by
    rw [vals, if_neg (by rw [h]; decide)] at hk; rw [nI_1, Int32.or_zero]; exact hk
  refine ⟨fun c => absurd c hlt, fun _ => ⟨hin, fun c1 => ⟨hin, fun c2 => ⟨hin, fun c3 => ⟨i1, fun y ey => ?_⟩, fun c3 => ?_⟩, fun c2 => ?_⟩, fun c1 => ?_⟩⟩
  · rw [vals, if_pos (by simp [hasv, c1, c2, c3])] at hk; rw [ey, nI_1]; exact hk
  · exact no (by simp [hasv, c3])
  · exact no (by simp [hasv, c2])
  · exact no (by simp [hasv, c1])
theorem p6_moved {S : S2} {M : S6} (R : RR S M) {k : Nat} (hk3 : k < 3) {q : Int32} {Q : Int32 → Prop} (hq : Q (way (vals S k q 0 (nn S)) (vals S k q 1 (nn S)))) : wX6_moved M (nI k) q Q := by
  refine p6_valuesOf R hk3 (p6_valuesOf R hk3 ⟨fun a => ⟨fun _ => ⟨fun b => ?_, fun b => ?_⟩, fun a' => absurd a a'⟩, fun a => ⟨fun b => ⟨fun a' => absurd a' a, fun _ => ?_⟩, fun b => ⟨fun d => ?_, fun d => ?_⟩⟩⟩)
  · simp only [way, if_pos a, if_pos b] at hq; exact hq
  · simp only [way, if_pos a, if_neg b] at hq; exact hq
  · simp only [way, if_neg a, if_pos b] at hq; exact hq
  · simp only [way, if_neg a, if_neg b, if_pos d] at hq; exact hq
  · simp only [way, if_neg a, if_neg b, if_neg d] at hq; exact hq
/-- some row is in a heap; in both -/
def hasRs (S : S2) (h : Nat) : Bool := anyN (fit S h) (nn S)
def both (S : S2) (a b : Nat) : Bool := anyN (fun r => fit S a r && fit S b r) (nn S)
theorem p6_hasRows {S : S2} {M : S6} (R : RR S M) {h : Nat} (hh : h < 729) {Q : Int32 → Prop} (h1 : hasRs S h = true → Q 1) (h0 : hasRs S h = false → Q 0) : wX6_hasRows M (nI h) Q := by
  have hn := ok_n R.1
  refine iter_up (fun r => nI r) (fun r => anyN (fit S h) r = false) (nn S) (fun r hr hI again hk => ?_) (fun hI again => ⟨fun _ => h0 hI, fun c => absurd (l6_end R) c⟩) 0 (Nat.zero_le _) rfl
  obtain ⟨hlt, hin, e⟩ := l6_in R hr
  refine ⟨fun c => absurd c hlt, fun _ => p6_isIn R hh (by omega) (fun hf => h1 (anyN_yes hf hr)) (fun hf => ?_)⟩
  rw [nI_1]; exact hk (by rw [anyN, hI, hf]; rfl)
theorem p6_shareRow {S : S2} {M : S6} (R : RR S M) {a b : Nat} (ha : a < 729) (hb : b < 729) {Q : Int32 → Prop} (h1 : both S a b = true → Q 1) (h0 : both S a b = false → Q 0) : wX6_shareRow M (nI a) (nI b) Q := by
  have hn := ok_n R.1
  refine iter_up (fun r => nI r) (fun r => anyN (fun r => fit S a r && fit S b r) r = false) (nn S) (fun r hr hI again hk => ?_) (fun hI again => ⟨fun _ => h0 hI, fun c => absurd (l6_end R) c⟩) 0 (Nat.zero_le _) rfl
  obtain ⟨hlt, hin, e⟩ := l6_in R hr
  have no : (fit S a r && fit S b r) = false → again (nI r + 1) := fun z => by
    rw [nI_1]; exact hk (by rw [anyN, hI, z]; rfl)
  exact ⟨fun c => absurd c hlt, fun _ => p6_isIn R ha (by omega) (fun hf => p6_isIn R hb (by omega) (fun hg => h1 (anyN_yes (r := r) (by simp [hf, hg]) hr)) (fun hg => no (by simp [hg]))) (fun hf => no (by simp [hf]))⟩
theorem p6_tests {h : Nat} (hh : h < 729) {Q : Int32 → Prop} (hq : Q (nI (ts h))) : wX6_tests (nI h) Q := by
  refine iter_st (fun i => (nI (tsk h i), nI i)) 0 3 (by decide) (fun i hi again hk => ?_) (fun again => ?_)
  · simp only [sX6_tests_4, e_digit]
    have hd := dg_lt (k := i) hh
    refine ⟨fun c => absurd c (i_nle.mpr (nI_lt (b := 3) hi (by decide))), fun _ => p_digit (by omega) hi ⟨fun c => ?_, fun c => ?_⟩⟩
    · have z : dg h i = 0 := by
        rcases Nat.eq_zero_or_pos (dg h i) with z | z
        · exact z
        · exact absurd c (nI_nle z (by omega))
      rw [tsk, if_pos z] at hk
      rw [nI_1, Int32.add_zero]; exact hk
    · have z : dg h i ≠ 0 := fun z => c (by rw [z]; decide)
      rw [tsk, if_neg z] at hk
      rw [nI_1, nI_1]; exact hk
  · exact ⟨fun _ => (show Q (nI (tsk h 3)) from by rw [show tsk h 3 = ts h from by simp [tsk, ts]]; exact hq), fun c => absurd (by decide) c⟩
/-- a heap that a story may hold -/
def may (S : S2) (h : Nat) : Bool := decide (1 ≤ ts h ∧ ts h ≤ 2) && hasRs S h
theorem ts_le (h : Nat) : ts h ≤ 3 := by unfold ts; split <;> split <;> split <;> omega
theorem inR_ts (h : Nat) : inR (nI (ts h)) 1 2 ↔ (1 ≤ ts h ∧ ts h ≤ 2) := by
  have := ts_le h
  rw [inR, show (1 : Int32) = nI 1 from rfl, show (2 : Int32) = nI 2 from rfl, nI_leI (by omega) (by omega), nI_leI (by omega) (by omega)]
theorem p6_mayTell {S : S2} {M : S6} (R : RR S M) {h : Nat} (hh : h < 729) {Q : Int32 → Prop} (h1 : may S h = true → Q 1) (h0 : may S h = false → Q 0) : wX6_mayTell M (nI h) Q := by
  refine p6_tests hh (p_in (fun c => p6_hasRows R hh (fun z => ⟨fun c => absurd c (by decide), fun _ => h1 ?_⟩) (fun z => ⟨fun _ => h0 ?_, fun c => absurd rfl c⟩)) (fun c => h0 ?_))
  · simp [may, z, (inR_ts h).mp c]
  · simp [may, z]
  · rw [may, decide_eq_false (fun z => c ((inR_ts h).mpr z)), Bool.false_and]
