/-! PURE ROWS: loops by a counter; numbers; digits of a heap -/
theorem iter_up {α : Type} {step : (α → Prop) → α → Prop} (st : Nat → α) (I : Nat → Prop) (e : Nat) (hs : ∀ i, i < e → I i → ∀ again : α → Prop, (I (i + 1) → again (st (i + 1))) → step again (st i)) (he : I e → ∀ again : α → Prop, step again (st e)) : ∀ i, i ≤ e → I i → ∃ n : Nat, iter step n (st i) := by
  have key : ∀ d i, i + d = e → I i → iter step (d + 1) (st i) := by
    intro d
    induction d with
    | zero => intro i h hi; have h2 : i = e := by omega
              subst h2; exact he hi _
    | succ d ih => intro i h hi; exact hs i (by omega) hi _ (fun h1 => ih (i + 1) (by omega) h1)
  intro i hi hI
  exact ⟨e - i + 1, key (e - i) i (by omega) hI⟩
/-- a loop whose state at each turn is known -/
theorem iter_st {α : Type} {step : (α → Prop) → α → Prop} (st : Nat → α) (i e : Nat) (hi : i ≤ e) (hs : ∀ i, i < e → ∀ again : α → Prop, again (st (i + 1)) → step again (st i)) (he : ∀ again : α → Prop, step again (st e)) : ∃ n : Nat, iter step n (st i) :=
  iter_up st (fun _ => True) e (fun i h _ again k => hs i h again (k trivial)) (fun _ => he) i hi trivial
theorem i_nlt {a b : Int32} : ¬ a < b ↔ b ≤ a := by rw [fa_lt, fa_le]; omega
theorem i_nle {a b : Int32} : ¬ a ≤ b ↔ b < a := by rw [fa_lt, fa_le]; omega
def inR (a lo hi : Int32) : Prop := lo ≤ a ∧ a ≤ hi
theorem p_in {a lo hi : Int32} {A B : Prop} (h1 : inR a lo hi → B) (h0 : ¬ inR a lo hi → A) : wX5_isIn a lo hi (fun r => (r = 0 → A) ∧ (¬ r = 0 → B)) := by
  refine ⟨fun c => ⟨fun _ => h0 (fun z => ?_), fun z => absurd rfl z⟩, fun c => ⟨fun d => ⟨fun _ => h0 (fun z => ?_), fun z => absurd rfl z⟩, fun d => ⟨fun z => absurd z (by decide), fun _ => h1 ⟨i_nlt.mp c, i_nlt.mp d⟩⟩⟩⟩
  · exact absurd c (i_nlt.mpr z.1)
  · exact absurd d (i_nlt.mpr z.2)
theorem p_isIn {a lo hi : Int32} {Q : Int32 → Prop} (h1 : inR a lo hi → Q 1) (h0 : ¬ inR a lo hi → Q 0) : wX5_isIn a lo hi Q := by
  refine ⟨fun c => h0 (fun z => ?_), fun c => ⟨fun d => h0 (fun z => ?_), fun d => h1 ⟨i_nlt.mp c, i_nlt.mp d⟩⟩⟩
  · exact absurd c (i_nlt.mpr z.1)
  · exact absurd d (i_nlt.mpr z.2)
theorem e_in : wX6_in = wX5_isIn := rfl
theorem e_digit : wX6_digit = wX1_digit := rfl
theorem inR_nI {a hi : Int32} {n : Nat} (hn : hi.toInt = n) (h : inR a 0 hi) : ∃ k : Nat, k ≤ n ∧ a = nI k := nI_of2 hn (i_nlt.mpr h.1) h.2
def dg (h k : Nat) : Nat := if k = 0 then h % 9 else if k = 1 then h / 9 % 9 else h / 81
theorem p_digit {h k : Nat} (hh : h < 2 ^ 31) (hk : k < 3) {Q : Int32 → Prop} (hq : Q (nI (dg h k))) : wX1_digit (nI h) (nI k) Q := by
  have e9 : nI h - nI h / 9 * 9 = nI (h % 9) := pk_rem (d := 9) hh (by decide) (by decide)
  have e1 : nI h / 9 = nI (h / 9) := pk_div (d := 9) hh (by decide) (by decide)
  have e99 : nI h / 9 - nI h / 9 / 9 * 9 = nI (h / 9 % 9) := by rw [e1]; exact pk_rem (d := 9) (by omega) (by decide) (by decide)
  have e81 : nI h / 81 = nI (h / 81) := pk_div (d := 81) hh (by decide) (by decide)
  rcases (show k = 0 ∨ k = 1 ∨ k = 2 by omega) with rfl | rfl | rfl
  · exact ⟨fun _ => by rw [e9]; exact hq, fun c => absurd rfl c⟩
  · exact ⟨fun c => absurd c (by decide), fun _ => ⟨fun _ => by rw [e99]; exact hq, fun c => absurd rfl c⟩⟩
  · exact ⟨fun c => absurd c (by decide), fun _ => ⟨fun c => absurd c (by decide), fun _ => by rw [e81]; exact hq⟩⟩
/-- how many tests a heap has -/
def ts (h : Nat) : Nat := (if dg h 0 = 0 then 0 else 1) + (if dg h 1 = 0 then 0 else 1) + (if dg h 2 = 0 then 0 else 1)
def tsk (h k : Nat) : Nat := match k with
  | 0 => 0
  | k + 1 => tsk h k + (if dg h k = 0 then 0 else 1)
theorem dg_lt {h k : Nat} (hh : h < 729) : dg h k < 9 := by
  unfold dg; split
  · omega
  · split <;> omega
theorem dg0 {h k : Nat} (hh : h < 729) : nI (dg h k) = 0 ↔ dg h k = 0 := nI_eq (b := 0) (by have := dg_lt (k := k) hh; omega) (by decide)
theorem p_tests {h : Nat} (hh : h < 729) {Q : Int32 → Prop} (hq : Q (nI (ts h))) : wX1_tests (nI h) Q := by
  refine iter_st (fun i => (nI (tsk h i), nI i)) 0 3 (by decide) (fun i hi again hk => ?_) (fun again => ?_)
  · refine ⟨fun c => absurd c (i_nle.mpr (nI_lt (b := 3) hi (by decide))), fun _ => p_digit (by omega) hi ⟨fun c => ?_, fun c => ?_⟩⟩
    · have e : tsk h (i + 1) = tsk h i := by rw [tsk, if_pos ((dg0 hh).mp c)]; rfl
      rw [e] at hk
      rw [nI_1]
      exact hk
    · have e : tsk h (i + 1) = tsk h i + 1 := by rw [tsk, if_neg (fun z => c ((dg0 hh).mpr z))]
      rw [e] at hk
      rw [nI_1, nI_1]
      exact hk
  · exact ⟨fun _ => (show Q (nI (tsk h 3)) from by rw [show tsk h 3 = ts h from by simp [tsk, ts]]; exact hq), fun c => absurd (by decide) c⟩
/-- the bits of a row's marks that a heap's tests look at, and what they want -/
def tbk (h k : Nat) : Nat := match k with
  | 0 => 0
  | k + 1 => if dg h k = 0 then tbk h k else tbk h k ||| 7 * 8 ^ k
def wbk (h k : Nat) : Nat := match k with
  | 0 => 0
  | k + 1 => if dg h k = 0 then wbk h k else wbk h k ||| (dg h k - 1) * 8 ^ k
theorem sh_d : ∀ d, d < 9 → ∀ i, i < 3 → nI d <<< ((3 * nI i) &&& 31) = nI (d * 8 ^ i) := by decide +kernel
theorem p_testedBits {h : Nat} (hh : h < 729) {Q : Int32 → Prop} (hq : Q (nI (tbk h 3))) : wX1_testedBits (nI h) Q := by
  refine iter_st (fun i => (nI (tbk h i), nI i)) 0 3 (by decide) (fun i hi again hk => ?_) (fun again => ?_)
  · refine ⟨fun c => absurd c (i_nle.mpr (nI_lt (b := 3) hi (by decide))), fun _ => p_digit (by omega) hi ⟨fun c => ?_, fun c y ey => ?_⟩⟩
    · have e : tbk h (i + 1) = tbk h i := by rw [tbk, if_pos ((dg0 hh).mp c)]
      rw [e] at hk
      rw [nI_1]
      exact hk
    · have e : tbk h (i + 1) = tbk h i ||| 7 * 8 ^ i := by rw [tbk, if_neg (fun z => c ((dg0 hh).mpr z))]
      rw [e] at hk
      rw [nI_1, ey, show ((7 : Int32) <<< ((3 * nI i) &&& 31)) = nI (7 * 8 ^ i) from sh_d 7 (by decide) i hi, fa_or]
      exact hk
  · exact ⟨fun _ => hq, fun c => absurd (by decide) c⟩
theorem p_wantedBits {h : Nat} (hh : h < 729) {Q : Int32 → Prop} (hq : Q (nI (wbk h 3))) : wX1_wantedBits (nI h) Q := by
  refine iter_st (fun i => (nI (wbk h i), nI i)) 0 3 (by decide) (fun i hi again hk => ?_) (fun again => ?_)
  · refine ⟨fun c => absurd c (i_nle.mpr (nI_lt (b := 3) hi (by decide))), fun _ => p_digit (by omega) hi ⟨fun c => ?_, fun c => p_digit (by omega) hi (fun y ey => ?_)⟩⟩
    · have e : wbk h (i + 1) = wbk h i := by rw [wbk, if_pos ((dg0 hh).mp c)]
      rw [e] at hk
      rw [nI_1]
      exact hk
    · have hd : dg h i ≠ 0 := fun z => c ((dg0 hh).mpr z)
      have e : wbk h (i + 1) = wbk h i ||| (dg h i - 1) * 8 ^ i := by rw [wbk, if_neg hd]
      have e2 : nI (dg h i) - 1 = nI (dg h i - 1) := pk_sub (b := 1) (by omega)
      rw [e] at hk
      rw [nI_1, ey, e2, sh_d (dg h i - 1) (by have := dg_lt (k := i) hh; omega) i hi, fa_or]
      exact hk
  · exact ⟨fun _ => hq, fun c => absurd (by decide) c⟩
theorem and_mask : ∀ b0, b0 < 2 → ∀ b1, b1 < 2 → ∀ b2, b2 < 2 → ∀ v, v < 512 → v &&& (7 * b0 ||| 56 * b1 ||| 448 * b2) = v % 8 * b0 + 8 * (v / 8 % 8) * b1 + 64 * (v / 64) * b2 := by decide +kernel
theorem or_sum : ∀ e0, e0 < 8 → ∀ e1, e1 < 8 → ∀ e2, e2 < 8 → e0 ||| e1 * 8 ||| e2 * 64 = e0 + 8 * e1 + 64 * e2 := by decide +kernel
/-- whether a row with these marks has all of a heap's tests -/
def okm (h v : Nat) : Bool := (dg h 0 == 0 || dg h 0 == v % 8 + 1) && (dg h 1 == 0 || dg h 1 == v / 8 % 8 + 1) && (dg h 2 == 0 || dg h 2 == v / 64 + 1)
theorem tb_form (h : Nat) : tbk h 3 = (7 * (if dg h 0 = 0 then 0 else 1) ||| 56 * (if dg h 1 = 0 then 0 else 1) ||| 448 * (if dg h 2 = 0 then 0 else 1)) := by
  simp only [tbk]
  by_cases h0 : dg h 0 = 0 <;> by_cases h1 : dg h 1 = 0 <;> by_cases h2 : dg h 2 = 0 <;> simp [h0, h1, h2]
theorem wb_form (h : Nat) : wbk h 3 = ((if dg h 0 = 0 then 0 else dg h 0 - 1) ||| (if dg h 1 = 0 then 0 else dg h 1 - 1) * 8 ||| (if dg h 2 = 0 then 0 else dg h 2 - 1) * 64) := by
  simp only [wbk]
  by_cases h0 : dg h 0 = 0 <;> by_cases h1 : dg h 1 = 0 <;> by_cases h2 : dg h 2 = 0 <;> simp [h0, h1, h2]
theorem okm_iff {h v : Nat} (hh : h < 729) (hv : v < 512) : (nI v &&& nI (tbk h 3) = nI (wbk h 3)) ↔ okm h v = true := by
  have d0 := dg_lt (k := 0) hh
  have d1 := dg_lt (k := 1) hh
  have d2 := dg_lt (k := 2) hh
  have a1 : v &&& tbk h 3 ≤ v := Nat.and_le_left
  have e1 : v &&& tbk h 3 = v % 8 * (if dg h 0 = 0 then 0 else 1) + 8 * (v / 8 % 8) * (if dg h 1 = 0 then 0 else 1) + 64 * (v / 64) * (if dg h 2 = 0 then 0 else 1) := by
    rw [tb_form]
    exact and_mask _ (by split <;> omega) _ (by split <;> omega) _ (by split <;> omega) v hv
  have e2 : wbk h 3 = (if dg h 0 = 0 then 0 else dg h 0 - 1) + 8 * (if dg h 1 = 0 then 0 else dg h 1 - 1) + 64 * (if dg h 2 = 0 then 0 else dg h 2 - 1) := by
    rw [wb_form]
    exact or_sum _ (by split <;> omega) _ (by split <;> omega) _ (by split <;> omega)
  rw [fa_and, nI_eq (by omega) (by rw [e2]; split <;> split <;> split <;> omega), e1, e2]
  simp only [okm, Bool.and_eq_true, Bool.or_eq_true, beq_iff_eq]
  by_cases h0 : dg h 0 = 0 <;> by_cases h1 : dg h 1 = 0 <;> by_cases h2 : dg h 2 = 0 <;> simp only [h0, h1, h2, ↓reduceIte, Nat.mul_zero, Nat.mul_one, true_or, true_and, and_true, false_or] <;> clear e1 e2 a1 <;> omega
