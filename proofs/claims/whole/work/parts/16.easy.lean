/-! move, moves, factor, outcome, expect, story, first -/
theorem p6_mark {a : Int32} {A B : Prop} (h1 : inR a 0 2 → B) (h0 : ¬ inR a 0 2 → A) : wX6_isMark a (fun r => (r = 0 → A) ∧ (¬ r = 0 → B)) := p_in h1 h0
theorem eq_move : Eq_move rl := by
  intro S M a1 a2 R
  obtain ⟨R1, R2, R3⟩ := id R
  by_cases C : inR a1 0 2 ∧ inR a2 0 63
  · obtain ⟨c1, c2⟩ := C
    obtain ⟨k, hk, rfl⟩ := inR_nI (n := 2) (by decide) c1
    exact p_in (fun _ => p_in (fun _ => p_wayOf R1.1 (by omega) (p_in (fun _ => p_in (fun _ => p6_moved R1 (by omega) ⟨rfl, R⟩) (fun z => absurd c2 z)) (fun z => absurd c1 z))) (fun z => absurd c2 z)) (fun z => absurd c1 z)
  · have n6 : wX6_move M a1 a2 (fun r' : Int32 => -1 = r' ∧ rl S M) := p_in (fun x1 => p_in (fun x2 => absurd ⟨x1, x2⟩ C) (fun _ => ⟨rfl, R⟩)) (fun _ => ⟨rfl, R⟩)
    exact p_in (fun x1 => p_in (fun x2 => absurd ⟨x1, x2⟩ C) (fun _ => n6)) (fun _ => n6)
/-- how many members went so -/
def ways (S : S2) (k : Nat) (a : Int32) : Nat → Int32
  | 0 => 0
  | p + 1 => if way (vals S k (nI p) 0 (nn S)) (vals S k (nI p) 1 (nn S)) = a then ways S k a p + 1 else ways S k a p
theorem p5_moves {S : SX} (ok : RowsOK S.1) {k : Nat} (hk : k < 3) {a : Int32} {Q : Int32 → Prop} (hq : Q (ways S.1 k a 64)) : ∃ n : Nat, iter (sX5_moves_25 S (nI k) a (fun (x3, x4) => Q x3)) n (0, 0) := by
  refine iter_st (fun p => (ways S.1 k a p, nI p)) 0 64 (by decide) (fun p hp again hg => ?_) (fun again => ⟨fun _ => hq, fun c => absurd (by decide) c⟩)
  refine ⟨fun c => absurd c (i_nle.mpr (nI_lt (b := 64) hp (by decide))), fun _ => p_wayOf ok hk ⟨fun c => ?_, fun c => ?_⟩⟩
  · rw [ways, if_pos c] at hg; rw [nI_1]; exact hg
  · rw [ways, if_neg c] at hg; rw [nI_1]; exact hg
theorem p6_moves {S : S2} {M : S6} (R : RR S M) {k : Nat} (hk : k < 3) {a : Int32} {Q : Int32 → Prop} (hq : Q (ways S k a 64)) : ∃ n : Nat, iter (sX6_moves_23 M (nI k) a (fun (x3, x4) => Q x3)) n (0, 0) := by
  refine iter_st (fun p => (ways S k a p, nI p)) 0 64 (by decide) (fun p hp again hg => ?_) (fun again => ⟨fun _ => hq, fun c => absurd (by decide) c⟩)
  refine ⟨fun c => absurd c (i_nle.mpr (nI_lt (b := 64) hp (by decide))), fun _ => p6_moved R hk ⟨fun c => ?_, fun c => ?_⟩⟩
  · rw [ways, if_pos c] at hg; rw [nI_1]; exact hg
  · rw [ways, if_neg c] at hg; rw [nI_1, Int32.add_zero]; exact hg
theorem eq_moves : Eq_moves rl := by
  intro S M a1 a2 R
  obtain ⟨R1, R2, R3⟩ := id R
  by_cases C : inR a1 0 2 ∧ inR a2 0 3
  · obtain ⟨c1, c2⟩ := C
    obtain ⟨k, hk, rfl⟩ := inR_nI (n := 2) (by decide) c1
    have s6 : wX6_moves M (nI k) a2 (fun r' : Int32 => ways S.1 k a2 64 = r' ∧ rl S M) := p_in (fun _ => p_in (fun _ => p6_moves (k := k) (Q := fun r' : Int32 => ways S.1 k a2 64 = r' ∧ rl S M) R1 (by omega) ⟨rfl, R⟩) (fun z => absurd c2 z)) (fun z => absurd c1 z)
    exact p_in (fun _ => p_in (fun _ => p5_moves (k := k) (Q := fun r : Int32 => wX6_moves M (nI k) a2 (fun r' : Int32 => r = r' ∧ rl S M)) R1.1 (by omega) s6) (fun z => absurd c2 z)) (fun z => absurd c1 z)
  · have n6 : wX6_moves M a1 a2 (fun r' : Int32 => -1 = r' ∧ rl S M) := p_in (fun x1 => p_in (fun x2 => absurd ⟨x1, x2⟩ C) (fun _ => ⟨rfl, R⟩)) (fun _ => ⟨rfl, R⟩)
    exact p_in (fun x1 => p_in (fun x2 => absurd ⟨x1, x2⟩ C) (fun _ => n6)) (fun _ => n6)
theorem eq_factor : Eq_factor rl := by
  intro S M a1 a2 a3 R
  obtain ⟨R1, R2, R3⟩ := id R
  by_cases C : inR a1 0 4 ∧ inR a2 (-99) 99 ∧ inR a3 (-99) 99
  · obtain ⟨c1, c2, c3⟩ := C
    obtain ⟨k, hk, rfl⟩ := inR_nI (n := 4) (by decide) c1
    have hin : vp_in (nI k) 5 := vp_in_nI (by omega) (by decide)
    refine p_in (fun _ => p_in (fun _ => p_in (fun _ => p_in (fun _ => ⟨hin, hin, ?_⟩) (fun z => absurd c1 z)) (fun z => absurd c3 z)) (fun z => absurd c2 z)) (fun z => absurd c1 z)
    exact p_in (fun _ => p_in (fun _ => p_in (fun _ => ⟨hin, hin, rfl, R1, ⟨congrArg (fun f => upd f _ _) R2.1, congrArg (fun f => upd f _ _) R2.2⟩, R3⟩) (fun z => absurd c3 z)) (fun z => absurd c2 z)) (fun z => absurd c1 z)
  · have n6 : wX6_factor M a1 a2 a3 (fun (r' : Int32) (M' : S6) => -1 = r' ∧ rl S M') := p_in (fun x1 => p_in (fun x2 => p_in (fun x3 => absurd ⟨x1, x2, x3⟩ C) (fun _ => ⟨rfl, R⟩)) (fun _ => ⟨rfl, R⟩)) (fun _ => ⟨rfl, R⟩)
    exact p_in (fun x1 => p_in (fun x2 => p_in (fun x3 => absurd ⟨x1, x2, x3⟩ C) (fun _ => n6)) (fun _ => n6)) (fun _ => n6)
/-- the number of a factor in a set; an outcome -/
def num (K : S4) (k : Nat) (s : Int32) : Int32 := if ((s >>> (nI k &&& 31)) &&& (1 : Int32)) = (1 : Int32) then K.2 k else K.1 k
def outc (K : S4) (s : Int32) : Int32 := num K 0 s * num K 1 s + num K 2 s * num K 3 s + num K 4 s
theorem p_number {K : S4} {k : Nat} (hk : k < 5) {s : Int32} {Q : Int32 → Prop} (hq : Q (num K k s)) : wX4_number K (nI k) s Q := by
  have e := nI_clamp (n := k) (by omega)
  have hin : vp_in (nI k) 5 := vp_in_nI hk (by decide)
  unfold wX4_number
  rw [e]
  exact ⟨fun c => ⟨hin, by rw [num, if_pos c] at hq; exact hq⟩, fun c => ⟨hin, by rw [num, if_neg c] at hq; exact hq⟩⟩
theorem p_result {K : S4} {s : Int32} {Q : Int32 → Prop} (hq : Q (outc K s)) : wX4_result K s Q :=
  p_number (k := 0) (by decide) (p_number (k := 1) (by decide) (p_number (k := 2) (by decide) (p_number (k := 3) (by decide) (p_number (k := 4) (by decide) hq))))
theorem p6_of {K : S4} {M : S6} (R : m_bf M = K.1 ∧ m_af M = K.2) {k : Nat} (hk : k < 5) {s : Int32} {Q : Int32 → Prop} (hq : Q (num K k s)) : wX6_of M (nI k) s Q := by
  have e := nI_clamp (n := k) (by omega)
  have hin : vp_in (nI k) 5 := vp_in_nI hk (by decide)
  have r1 : M.2.2.2.2.2.2.2.2.1 = K.1 := R.1
  have r2 : M.2.2.2.2.2.2.2.2.2.1 = K.2 := R.2
  unfold wX6_of
  rw [e, r1, r2]
  exact ⟨fun c => ⟨hin, by rw [num, if_pos c] at hq; exact hq⟩, fun c => ⟨hin, by rw [num, if_neg c] at hq; exact hq⟩⟩
theorem p6_comes {K : S4} {M : S6} (R : m_bf M = K.1 ∧ m_af M = K.2) {s : Int32} {Q : Int32 → Prop} (hq : Q (outc K s)) : wX6_comes M s Q :=
  p6_of R (k := 0) (by decide) (p6_of R (k := 1) (by decide) (p6_of R (k := 2) (by decide) (p6_of R (k := 3) (by decide) (p6_of R (k := 4) (by decide) hq))))
theorem eq_outcome : Eq_outcome rl := by
  intro S M a1 R
  obtain ⟨R1, R2, R3⟩ := id R
  by_cases C : inR a1 0 31
  · exact p_in (fun _ => p_result (p_in (fun _ => p6_comes R2 ⟨rfl, R⟩) (fun z => absurd C z))) (fun z => absurd C z)
  · exact p_in (fun z => absurd z C) (fun _ => p_in (fun z => absurd z C) (fun _ => ⟨rfl, R⟩))
theorem eq_expect : Eq_expect rl := by
  intro S M a1 R
  obtain ⟨R1, R2, R3⟩ := id R
  by_cases C : inR a1 (-9999) 9999
  · exact p_in (fun _ => p_in (fun _ => ⟨R3.1.symm, R1, R2, rfl, R3.2⟩) (fun z => absurd C z)) (fun z => absurd C z)
  · exact p_in (fun z => absurd z C) (fun _ => p_in (fun z => absurd z C) (fun _ => ⟨rfl, R⟩))
theorem eq_story : Eq_story rl := by
  intro S M a1 R
  obtain ⟨R1, R2, R3⟩ := id R
  obtain ⟨x, hx⟩ := R3
  rcases hx with ⟨h1, h2⟩ | ⟨h1, h2, h3, h4, h5, h6⟩
  · exact ⟨fun _ => ⟨fun _ => ⟨rfl, R⟩, fun z => absurd h2 z⟩, fun z => absurd h1 z⟩
  · have hne : ¬ m_fd M = -1 := by rw [h2]; rcases h3 with h | h | h <;> rw [h] <;> decide
    refine ⟨fun z => absurd (h1.symm.trans z) (by decide), fun _ => ⟨fun c0 => ?_, fun c0 => ⟨fun c1 => ?_, fun c1 => ⟨fun c2 => ?_, fun c2 => ⟨fun c3 => ?_, fun c3 => ?_⟩⟩⟩⟩⟩
    · subst c0
      exact ⟨fun z => absurd z hne, fun _ => p_in (fun _ => ⟨fun _ => ⟨h2.symm, R⟩, fun z => absurd rfl z⟩) (fun z => absurd ⟨by decide, by decide⟩ z)⟩
    · subst c1
      exact ⟨fun z => absurd z hne, fun _ => p_in (fun _ => ⟨fun z => absurd z (by decide), fun _ => ⟨fun _ => ⟨h4.symm, R⟩, fun z => absurd rfl z⟩⟩) (fun z => absurd ⟨by decide, by decide⟩ z)⟩
    · subst c2
      exact ⟨fun z => absurd z hne, fun _ => p_in (fun _ => ⟨fun z => absurd z (by decide), fun _ => ⟨fun z => absurd z (by decide), fun _ => ⟨fun _ => ⟨h5.symm, R⟩, fun z => absurd rfl z⟩⟩⟩) (fun z => absurd ⟨by decide, by decide⟩ z)⟩
    · subst c3
      exact ⟨fun z => absurd z hne, fun _ => p_in (fun _ => ⟨fun z => absurd z (by decide), fun _ => ⟨fun z => absurd z (by decide), fun _ => ⟨fun z => absurd z (by decide), fun _ => ⟨h6.symm, R⟩⟩⟩⟩) (fun z => absurd ⟨by decide, by decide⟩ z)⟩
    · refine ⟨fun z => absurd z hne, fun _ => p_in (fun c => ?_) (fun _ => ⟨rfl, R⟩)⟩
      exfalso
      obtain ⟨k, hk, rfl⟩ := inR_nI (n := 3) (by decide) c
      rcases (show k = 0 ∨ k = 1 ∨ k = 2 ∨ k = 3 by omega) with rfl | rfl | rfl | rfl
      · exact c0 rfl
      · exact c1 rfl
      · exact c2 rfl
      · exact c3 rfl
/-- the first day -/
theorem abs_gt {x b : Int32} (hb : 0 ≤ b) : ((if 0 ≤ x then x else 0 - x) ≤ b) ↔ (¬ b < x ∧ -x ≤ b) := by
  have h0 : (0 : Int32) - x = -x := by rw [Int32.zero_sub]
  by_cases h : 0 ≤ x
  · rw [if_pos h, i_nlt]
    refine ⟨fun z => ⟨z, ?_⟩, fun z => z.1⟩
    rw [fa_le] at h z hb ⊢
    have hr := fb_rng x
    have e0 : (0 : Int32).toInt = 0 := by decide
    rw [e0] at h hb
    rw [fb_negI (by omega)]
    omega
  · rw [if_neg h, h0]
    refine ⟨fun z => ⟨?_, z⟩, fun z => z.2⟩
    rw [fa_le] at h hb
    rw [fa_lt]
    have e0 : (0 : Int32).toInt = 0 := by decide
    omega
def late (S : S2) (h : Nat) (b : Int32) (d : Nat) : Bool := decide (¬ (if 0 ≤ upto S h (nI d) (nn S) then upto S h (nI d) (nn S) else 0 - upto S h (nI d) (nn S)) ≤ b)
/-- the least day, or 31 -/
def fday (S : S2) (h : Nat) (b : Int32) : Nat := fa_first (late S h b) 31
theorem p_firstDay {S : S2} (ok : RowsOK S) {h : Nat} (hh : h < 729) {b : Int32} {Q : Int32 → Prop} (hq : Q (nI (if fday S h b < 31 then fday S h b else 31))) : wX2_firstDay S (nI h) b Q := by
  refine iter_up (fun d => nI d) (fun d => ∀ j, j < d → late S h b j = false) 31 (fun d hd hI again hg => ?_) (fun hI again => ⟨fun _ => ?_, fun c => absurd (by decide) c⟩) 0 (by decide) (fun j hj => absurd hj (Nat.not_lt_zero j))
  · refine ⟨fun c => absurd c (i_nle.mpr (nI_lt (b := 31) hd (by decide))), fun _ => p_movedUpTo ok hh ⟨fun c => ?_, fun c => ?_⟩⟩
    · rw [nI_1]
      exact hg (fun j hj => by
        by_cases e : j = d
        · subst e; exact decide_eq_false (fun z => z c)
        · exact hI j (by omega))
    · have hl : late S h b d = true := decide_eq_true c
      have e : fday S h b = d := by
        have h1 : ¬ d < fday S h b := fun z => by rw [fa_first_no _ _ _ z] at hl; cases hl
        have h2 : ¬ fday S h b < d := fun z => by have := fa_first_yes (late S h b) 31 (by unfold fday at z; omega); rw [hI _ (by unfold fday at z; exact z)] at this; cases this
        omega
      rw [e, if_pos hd] at hq
      exact hq
  · have e : ¬ fday S h b < 31 := fun z => by have := fa_first_yes (late S h b) 31 z; rw [hI _ (by unfold fday at z; exact z)] at this; cases this
    rw [if_neg e] at hq
    exact hq
theorem p6_upto {S : S2} {M : S6} (R : RR S M) {h : Nat} (hh : h < 729) {b d : Int32} {K : Int32 × Int32 → Prop} (hK : K (upto S h d (nn S), nI (nn S))) : ∃ n : Nat, iter (sX6_first_34 M (nI h) b d K) n (0, 0) := by
  have hn := ok_n R.1
  refine iter_st (fun r => (upto S h d r, nI r)) 0 (nn S) (Nat.zero_le _) (fun r hr again hk => ?_) (fun again => ⟨fun _ => hK, fun c => absurd (l6_end R) c⟩)
  obtain ⟨hlt, hin, e⟩ := l6_in R hr
  obtain ⟨ok, e0, e1, e2, e3, e4, e5, e6, e7⟩ := id R
  simp only [sX6_first_34, e, e1, e2, e3]
  have no : (decide (r_dy S r ≤ d) && fit S h r) = false → again (upto S h d r + 0, nI r + 1) := fun z => by
    have q : upto S h d (r + 1) = upto S h d r := by unfold upto; rw [sumI, if_neg (by rw [z]; decide), Int32.add_zero]
    rw [q] at hk; rw [nI_1, Int32.add_zero]; exact hk
  have yes : (decide (r_dy S r ≤ d) && fit S h r) = true → again (upto S h d r + (if r_mo S r = 1 then r_tp S r else -(r_tp S r)), nI r + 1) := fun z => by
    have q : upto S h d (r + 1) = upto S h d r + (if r_mo S r = 1 then r_tp S r else -(r_tp S r)) := by unfold upto; rw [sumI, if_pos z]
    rw [q] at hk; rw [nI_1]; exact hk
  refine ⟨fun c => absurd c hlt, fun _ => p6_isIn R hh (by omega) (fun hf => ⟨hin, fun c => no (by simp [i_nle.mpr c]), fun c => ⟨hin, fun c1 => ⟨hin, fun y ey => ?_⟩, fun c1 => ⟨hin, fun y ey => ?_⟩⟩⟩) (fun hf => no (by simp [hf]))⟩
  · have := yes (by simp [i_nlt.mp c, hf]); rw [if_pos c1] at this; rw [ey]; exact this
  · have := yes (by simp [i_nlt.mp c, hf]); rw [if_neg c1] at this; rw [ey]; exact this
theorem p6_first {S : S2} {M : S6} (R : RR S M) {h : Nat} (hh : h < 729) {b : Int32} (hb : 0 ≤ b) {Q : Int32 → Prop} (hq : Q (nI (if fday S h b < 31 then fday S h b else 31))) : ∃ n : Nat, iter (sX6_first_22 M (nI h) b Q (fun x3 => Q (31 : Int32))) n 0 := by
  have hit : ∀ d, d < 31 → (∀ j, j < d → late S h b j = false) → late S h b d = true → Q (nI d) := by
    intro d hd hI hl
    have e : fday S h b = d := by
      have h1 : ¬ d < fday S h b := fun z => by rw [fa_first_no _ _ _ z] at hl; cases hl
      have h2 : ¬ fday S h b < d := fun z => by have := fa_first_yes (late S h b) 31 (by unfold fday at z; omega); rw [hI _ (by unfold fday at z; exact z)] at this; cases this
      omega
    rw [e, if_pos hd] at hq
    exact hq
  refine iter_up (fun d => nI d) (fun d => ∀ j, j < d → late S h b j = false) 31 (fun d hd hI again hg => ?_) (fun hI again => ⟨fun _ => ?_, fun c => absurd (by decide) c⟩) 0 (by decide) (fun j hj => absurd hj (Nat.not_lt_zero j))
  · have hnd : ¬ (30 : Int32) < nI d := i_nlt.mpr (nI_le (b := 30) (by omega) (by decide))
    refine ⟨fun c => absurd c hnd, fun _ => p6_upto R hh ⟨fun c => hit d hd hI ?_, fun c => ⟨fun c2 => ?_, fun c2 => hit d hd hI ?_⟩⟩⟩
    · simp only [late, abs_gt hb]; simp [c]
    · rw [nI_1]
      exact hg (fun j hj => by
        by_cases e : j = d
        · subst e; simp only [late, abs_gt hb]; simp [c, c2]
        · exact hI j (by omega))
    · simp only [late, abs_gt hb]; simp [c2]
  · have e : ¬ fday S h b < 31 := fun z => by have := fa_first_yes (late S h b) 31 z; rw [hI _ (by unfold fday at z; exact z)] at this; cases this
    rw [if_neg e] at hq
    exact hq
theorem eq_first : Eq_first rl := by
  intro S M a1 a2 R
  obtain ⟨R1, R2, R3⟩ := id R
  by_cases C : inR a1 0 728 ∧ inR a2 0 9999
  · obtain ⟨c1, c2⟩ := C
    obtain ⟨h, hh, rfl⟩ := inR_nI (n := 728) (by decide) c1
    exact p_in (fun _ => p_in (fun _ => p_firstDay R1.1 (by omega) (p_in (fun _ => p_in (fun _ => p6_first R1 (by omega) c2.1 ⟨rfl, R⟩) (fun z => absurd c2 z)) (fun z => absurd c1 z))) (fun z => absurd c2 z)) (fun z => absurd c1 z)
  · have n6 : wX6_first M a1 a2 (fun r' : Int32 => -1 = r' ∧ rl S M) := p_in (fun x1 => p_in (fun x2 => absurd ⟨x1, x2⟩ C) (fun _ => ⟨rfl, R⟩)) (fun _ => ⟨rfl, R⟩)
    exact p_in (fun x1 => p_in (fun x2 => absurd ⟨x1, x2⟩ C) (fun _ => n6)) (fun _ => n6)
