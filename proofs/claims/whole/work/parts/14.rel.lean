/-! THE RELATION of the two sides, and the rows' writers -/
abbrev t_ex (T : S3) : Int32 := T.2.2.2.2.2.2.1
abbrev t_fd (T : S3) : Int32 := T.2.2.2.2.2.2.2.1
abbrev t_mn (T : S3) : Int32 := T.2.2.2.2.2.2.2.2.1
abbrev t_f1 (T : S3) : Int32 := T.2.2.2.2.2.2.2.2.2.1
abbrev t_f2 (T : S3) : Int32 := T.2.2.2.2.2.2.2.2.2.2.1
abbrev t_rs (T : S3) : Int32 := T.2.2.2.2.2.2.2.2.2.2.2.1
abbrev t_tl (T : S3) : Int32 := T.2.2.2.2.2.2.2.2.2.2.2.2
abbrev m_bf (M : S6) : Ar := M.2.2.2.2.2.2.2.2.1
abbrev m_af (M : S6) : Ar := M.2.2.2.2.2.2.2.2.2.1
abbrev m_ex (M : S6) : Int32 := M.2.2.2.2.2.2.2.2.2.2.1
abbrev m_fd (M : S6) : Int32 := M.2.2.2.2.2.2.2.2.2.2.2.1
abbrev m_f1 (M : S6) : Int32 := M.2.2.2.2.2.2.2.2.2.2.2.2.1
abbrev m_f2 (M : S6) : Int32 := M.2.2.2.2.2.2.2.2.2.2.2.2.2.1
abbrev m_fr (M : S6) : Int32 := M.2.2.2.2.2.2.2.2.2.2.2.2.2.2.1
/-- the stories: EXPECTED, and what the latest seek found -/
def StR (T : S3) (M : S6) : Prop := m_ex M = t_ex T ∧ ((t_fd T = 0 ∧ m_fd M = -1) ∨ (t_fd T = 1 ∧ m_fd M = t_mn T ∧ (t_mn T = 0 ∨ t_mn T = 1 ∨ t_mn T = 2) ∧ m_f1 M = t_f1 T ∧ m_f2 M = t_f2 T ∧ m_fr M = t_rs T))
def rl (S : SX) (M : S6) : Prop := RR S.1 M ∧ (m_bf M = S.2.1.1 ∧ m_af M = S.2.1.2) ∧ StR S.2.2 M
theorem rl_init : rl z5 z6 := by
  have h0 : (0 : Int32).toNatClampNeg = 0 := by decide
  refine ⟨⟨⟨⟨by decide, by decide⟩, fun r => ⟨by show (0 : Int32).toNatClampNeg < 512; decide, by show (0 : Int32) = nI (0 : Int32).toNatClampNeg; decide⟩, fun r => Or.inl rfl, fun r => by show -99 ≤ (0 : Int32).toInt ∧ (0 : Int32).toInt ≤ 99; decide, fun r => by show 0 ≤ (0 : Int32).toInt ∧ (0 : Int32).toInt ≤ 9; decide, fun r => ⟨0, by decide, rfl⟩, fun r => Or.inl rfl, fun r _ => rfl⟩, rfl, rfl, rfl, rfl, rfl, rfl, rfl, fun r k _ => ?_⟩, ⟨rfl, rfl⟩, rfl, Or.inl ⟨rfl, rfl⟩⟩
  show (0 : Int32) = nI ((0 : Int32).toNatClampNeg / 8 ^ k % 8)
  rw [h0, Nat.zero_div]
  rfl
def isR (S : S2) (a : Int32) : Prop := ∃ r : Nat, r < nn S ∧ a = nI r
theorem p_has {S : S2} (ok : RowsOK S) {a : Int32} {Q : Int32 → Prop} (h1 : isR S a → Q 1) (h0 : ¬ isR S a → Q 0) : wX2_has S a Q := by
  have hn := ok_n ok
  have e : S.2.2.2.2.2.2.2 = nI (nn S) := ok_sz ok
  unfold wX2_has
  rw [e]
  refine ⟨fun c => h0 ?_, fun c => ⟨fun d => h0 ?_, fun d => h1 ?_⟩⟩
  · rintro ⟨r, hr, rfl⟩
    exact absurd c (nI_pos (by omega))
  · rintro ⟨r, hr, rfl⟩
    exact absurd d (nI_ge hr (by omega))
  · obtain ⟨j, hj, rfl⟩ := nI_of c
    refine ⟨j, ?_, rfl⟩
    rcases Nat.lt_or_ge j (nn S) with q | q
    · exact q
    · exact absurd (nI_le q hj) d
theorem p6_isRow {S : S2} {M : S6} (R : RR S M) {a : Int32} {Q : Int32 → Prop} (h1 : isR S a → Q 1) (h0 : ¬ isR S a → Q 0) : wX6_isRow M a Q := by
  have hn := ok_n R.1
  have e : M.1 = nI (nn S) := R.2.1.trans (ok_sz R.1)
  have t : (nI (nn S) - 1).toInt = (nn S : Int) - 1 := pk_sub_toInt (b := 1) (by omega) (by decide)
  unfold wX6_isRow
  rw [e]
  refine p_isIn (fun c => h1 ?_) (fun c => h0 ?_)
  · obtain ⟨j, hj, rfl⟩ := nI_of (i_nlt.mpr c.1)
    have c2 := c.2
    rw [fa_le, t, nI_toInt hj] at c2
    exact ⟨j, by omega, rfl⟩
  · rintro ⟨r, hr, rfl⟩
    refine c ⟨nI_pos' (by omega), ?_⟩
    rw [fa_le, t, nI_toInt (by omega)]
    omega
theorem inR_toInt {a lo hi : Int32} (h : inR a lo hi) : lo.toInt ≤ a.toInt ∧ a.toInt ≤ hi.toInt := ⟨(fa_le _ _).mp h.1, (fa_le _ _).mp h.2⟩
/-- right -/
theorem eq_right : Eq_right rl := by
  intro S M a1 a2 a3 R
  obtain ⟨R1, R2, R3⟩ := id R
  obtain ⟨ok, e0, e1, e2, e3, e4, e5, e6, e7⟩ := id R1
  have hn := ok_n ok
  by_cases C : isR S.1 a1 ∧ inR a2 (-99) 99 ∧ inR a3 0 9
  · obtain ⟨⟨r, hr, rfl⟩, c2, c3⟩ := C
    have hin : vp_in (nI r) 120 := vp_in_nI (by omega) (by decide)
    have hR : isR S.1 (nI r) := ⟨r, hr, rfl⟩
    refine p_has ok (fun _ => ⟨fun z => absurd z (by decide), fun _ => p_in (fun _ => p_in (fun _ => p_has ok (fun _ => ⟨fun z => absurd z (by decide), fun _ => ⟨hin, hin, ?_⟩⟩) (fun z => absurd hR z)) (fun z => absurd c3 z)) (fun z => absurd c2 z)⟩) (fun z => absurd hR z)
    refine p6_isRow R1 (fun _ => ⟨fun z => absurd z (by decide), fun _ => p_in (fun _ => p_in (fun _ => ⟨hin, hin, rfl, ?_⟩) (fun z => absurd c3 z)) (fun z => absurd c2 z)⟩) (fun z => absurd hR z)
    refine ⟨⟨⟨ok.1, ok.2.1, ok.2.2.1, fun j => ?_, fun j => ?_, ok.2.2.2.2.2.1, ok.2.2.2.2.2.2.1, ok.2.2.2.2.2.2.2⟩, e0, e1, e2, congrArg (fun f => upd f _ _) e3, congrArg (fun f => upd f _ _) e4, e5, e6, e7⟩, R2, R3⟩
    · show -99 ≤ (upd S.1.2.2.1 _ a2 j).toInt ∧ (upd S.1.2.2.1 _ a2 j).toInt ≤ 99
      unfold upd
      split
      · exact inR_toInt c2
      · exact ok.2.2.2.1 j
    · show 0 ≤ (upd S.1.2.2.2.1 _ a3 j).toInt ∧ (upd S.1.2.2.2.1 _ a3 j).toInt ≤ 9
      unfold upd
      split
      · exact inR_toInt c3
      · exact ok.2.2.2.2.1 j
  · have n6 : wX6_right M a1 a2 a3 (fun (r' : Int32) (M' : S6) => -1 = r' ∧ rl S M') := by
      refine p6_isRow R1 (fun x1 => ⟨fun z => absurd z (by decide), fun _ => p_in (fun x2 => p_in (fun x3 => absurd ⟨x1, x2, x3⟩ C) (fun _ => ⟨rfl, R⟩)) (fun _ => ⟨rfl, R⟩)⟩) (fun _ => ⟨fun _ => ⟨rfl, R⟩, fun z => absurd rfl z⟩)
    exact p_has ok (fun x1 => ⟨fun z => absurd z (by decide), fun _ => p_in (fun x2 => p_in (fun x3 => absurd ⟨x1, x2, x3⟩ C) (fun _ => n6)) (fun _ => n6)⟩) (fun _ => ⟨fun _ => n6, fun z => absurd rfl z⟩)
theorem nar0 : vp_nar .boolean 0 = 0 := by decide
theorem nar1 : vp_nar .boolean 1 = 1 := by decide
/-- strike -/
theorem eq_strike : Eq_strike rl := by
  intro S M a1 a2 R
  obtain ⟨R1, R2, R3⟩ := id R
  obtain ⟨ok, e0, e1, e2, e3, e4, e5, e6, e7⟩ := id R1
  have hn := ok_n ok
  by_cases C : isR S.1 a1 ∧ inR a2 0 1
  · obtain ⟨⟨r, hr, rfl⟩, c2⟩ := C
    have hin : vp_in (nI r) 120 := vp_in_nI (by omega) (by decide)
    have hR : isR S.1 (nI r) := ⟨r, hr, rfl⟩
    have e := nI_clamp (n := r) (by omega)
    refine p_has ok (fun _ => ⟨fun z => absurd z (by decide), fun _ => p_in (fun _ => p_has ok (fun _ => ⟨fun z => absurd z (by decide), fun _ => ⟨hin, fun y ey => ⟨hin, ?_⟩⟩⟩) (fun z => absurd hR z)) (fun z => absurd c2 z)⟩) (fun z => absurd hR z)
    rw [e] at ey
    have hnew : ∀ x : Int32, (x = 0 ∨ x = 1) → rl ((S.1.1, S.1.2.1, S.1.2.2.1, S.1.2.2.2.1, S.1.2.2.2.2.1, S.1.2.2.2.2.2.1, upd S.1.2.2.2.2.2.2.1 (nI r).toNatClampNeg x, S.1.2.2.2.2.2.2.2), S.2.1, S.2.2) (M.1, M.2.1, M.2.2.1, M.2.2.2.1, M.2.2.2.2.1, M.2.2.2.2.2.1, M.2.2.2.2.2.2.1, upd M.2.2.2.2.2.2.2.1 (nI r).toNatClampNeg x, M.2.2.2.2.2.2.2.2) := by
      intro x hx
      refine ⟨⟨⟨ok.1, ok.2.1, ok.2.2.1, ok.2.2.2.1, ok.2.2.2.2.1, ok.2.2.2.2.2.1, fun j => ?_, fun j hj => ?_⟩, e0, e1, e2, e3, e4, e5, congrArg (fun f => upd f _ _) e6, e7⟩, R2, R3⟩
      · show upd S.1.2.2.2.2.2.2.1 _ x j = 0 ∨ upd S.1.2.2.2.2.2.2.1 _ x j = 1
        unfold upd
        split
        · exact hx
        · exact ok.2.2.2.2.2.2.1 j
      · show upd S.1.2.2.2.2.2.2.1 (nI r).toNatClampNeg x j = 0
        have hj : nn S.1 ≤ j := hj
        rw [e, pk_un (by omega)]
        exact ok.2.2.2.2.2.2.2 j hj
    have ha : a2 = 0 ∨ a2 = 1 := by
      obtain ⟨k, hk, rfl⟩ := inR_nI (n := 1) (by decide) c2
      rcases (show k = 0 ∨ k = 1 by omega) with rfl | rfl
      · exact Or.inl rfl
      · exact Or.inr rfl
    have e6r : M.2.2.2.2.2.2.2.1 r = S.1.2.2.2.2.2.2.1 r := congrFun e6 r
    have hs : S.1.2.2.2.2.2.2.1 r = 0 ∨ S.1.2.2.2.2.2.2.1 r = 1 := ok.2.2.2.2.2.2.1 r
    refine p6_isRow R1 (fun _ => ⟨fun z => absurd z (by decide), fun _ => p_in (fun _ => ⟨hin, fun c => ?_, fun c => ?_⟩) (fun z => absurd c2 z)⟩) (fun z => absurd hR z)
    · rw [e, e6r] at c
      have hy : y = 0 := ey.trans c
      refine ⟨fun d => ⟨hin, hy, ?_⟩, fun d => ⟨hin, hy, ?_⟩⟩
      · rw [nar1, d]; exact hnew 1 (Or.inr rfl)
      · rw [nar0, ha.resolve_right d]; exact hnew 0 (Or.inl rfl)
    · rw [e, e6r] at c
      have hy : y = 1 := ey.trans (hs.resolve_left c)
      refine ⟨fun d => ⟨hin, hy, ?_⟩, fun d => ⟨hin, hy, ?_⟩⟩
      · rw [nar1, d]; exact hnew 1 (Or.inr rfl)
      · rw [nar0, ha.resolve_right d]; exact hnew 0 (Or.inl rfl)
  · have n6 : wX6_strike M a1 a2 (fun (r' : Int32) (M' : S6) => -1 = r' ∧ rl S M') := by
      refine p6_isRow R1 (fun x1 => ⟨fun z => absurd z (by decide), fun _ => p_in (fun x2 => absurd ⟨x1, x2⟩ C) (fun _ => ⟨rfl, R⟩)⟩) (fun _ => ⟨fun _ => ⟨rfl, R⟩, fun z => absurd rfl z⟩)
    exact p_has ok (fun x1 => ⟨fun z => absurd z (by decide), fun _ => p_in (fun x2 => absurd ⟨x1, x2⟩ C) (fun _ => n6)⟩) (fun _ => ⟨fun _ => n6, fun z => absurd rfl z⟩)
