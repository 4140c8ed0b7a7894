/-! row and about -/
theorem shr3v {v k : Nat} (hv : v < 512) (hk : k < 3) : (nI v >>> (((3 : Int32) * nI k) &&& 31)) &&& (7 : Int32) = nI (v / 8 ^ k % 8) := by
  rw [pk_shrN (by omega) _ (3 * k) (shr3 k hk), show (7 : Int32) = nI (2 ^ 3 - 1) from rfl, fa_mask, Nat.pow_mul]
/-- the reference's marks behind k turns of row's loop -/
def mkf (f : Ar) (n v : Nat) : Nat → Ar
  | 0 => f
  | k + 1 => upd (mkf f n v k) (3 * n + k) (nI (v / 8 ^ k % 8))
theorem mkf_old (f : Ar) (n v : Nat) {r k : Nat} (hr : r ≠ n) (hk : k < 3) : ∀ j, j ≤ 3 → mkf f n v j (3 * r + k) = f (3 * r + k)
  | 0, _ => rfl
  | j + 1, hj => by rw [mkf, pk_un (by omega), mkf_old f n v hr hk j (by omega)]
theorem mkf_new (f : Ar) (n v : Nat) {k : Nat} : ∀ j, k < j → mkf f n v j (3 * n + k) = nI (v / 8 ^ k % 8)
  | 0, h => absurd h (Nat.not_lt_zero k)
  | j + 1, h => by
    rw [mkf]
    by_cases e : k = j
    · subst e; exact pk_us
    · rw [pk_un (by omega), mkf_new f n v j (by omega)]
theorem eq_row : Eq_row rl := by
  intro S M a1 a2 a3 a4 a5 R
  obtain ⟨R1, R2, R3⟩ := id R
  obtain ⟨ok, e0, e1, e2, e3, e4, e5, e6, e7⟩ := id R1
  have hn := ok_n ok
  have eS : S.1.2.2.2.2.2.2.2 = nI (nn S.1) := ok_sz ok
  have eM : M.1 = nI (nn S.1) := e0.trans eS
  by_cases C : 0 ≤ a1 ∧ inR (a1 / 100) 0 1 ∧ inR (a1 - a1 / 100 * 100) 0 30 ∧ inR a2 (-99) 99 ∧ inR a3 0 9 ∧ inR a4 0 63 ∧ inR a5 0 511
  · obtain ⟨c0, c1, c2, c3, c4, c5, c6⟩ := C
    refine ⟨fun z => absurd z (i_nlt.mpr c0), fun _ => p_in (fun _ => p_in (fun _ => p_in (fun _ => p_in (fun _ => p_in (fun _ => p_in (fun _ => ?_) (fun z => absurd c6 z)) (fun z => absurd c5 z)) (fun z => absurd c4 z)) (fun z => absurd c3 z)) (fun z => absurd c2 z)) (fun z => absurd c1 z)⟩
    by_cases F : nn S.1 = 120
    · have hf : ¬ S.1.2.2.2.2.2.2.2 < 120 := by rw [eS, F]; decide
      refine ⟨fun z => absurd z hf, fun _ => ⟨fun z => absurd z (by decide), fun _ => ⟨fun z => absurd z (i_nlt.mpr c0), fun _ => p_in (fun _ => p_in (fun _ => p_in (fun _ => p_in (fun _ => p_in (fun _ => p_in (fun _ => ⟨fun _ => ⟨rfl, R⟩, fun z => absurd (by rw [eM, F]; rfl) z⟩) (fun z => absurd c6 z)) (fun z => absurd c5 z)) (fun z => absurd c4 z)) (fun z => absurd c3 z)) (fun z => absurd c2 z)) (fun z => absurd c1 z)⟩⟩⟩
    · have hlt : nn S.1 < 120 := by omega
      have hf : S.1.2.2.2.2.2.2.2 < 120 := by rw [eS]; exact nI_lt (b := 120) hlt (by decide)
      have hne : ¬ M.1 = 120 := by rw [eM]; exact fun z => F ((nI_eq (b := 120) (by omega) (by decide)).mp z)
      have hin : vp_in (nI (nn S.1)) 120 := vp_in_nI hlt (by decide)
      have hinS : vp_in S.1.2.2.2.2.2.2.2 120 := by rw [eS]; exact hin
      have hinM : vp_in M.1 120 := by rw [eM]; exact hin
      have ec := nI_clamp (n := nn S.1) (by omega)
      refine ⟨fun _ => ⟨fun _ => ⟨fun _ => ⟨fun _ => ⟨hinS, hinS, hinS, hinS, hinS, hinS, ?_⟩, fun z => absurd rfl z⟩, fun z => absurd hf z⟩, fun z => absurd rfl z⟩, fun z => absurd hf z⟩
      refine ⟨fun z => absurd z (i_nlt.mpr c0), fun _ => p_in (fun _ => p_in (fun _ => p_in (fun _ => p_in (fun _ => p_in (fun _ => p_in (fun _ => ⟨fun z => absurd z hne, fun _ => ⟨hinM, hinM, hinM, hinM, hinM, ?_⟩⟩) (fun z => absurd c6 z)) (fun z => absurd c5 z)) (fun z => absurd c4 z)) (fun z => absurd c3 z)) (fun z => absurd c2 z)) (fun z => absurd c1 z)⟩
      obtain ⟨v, hv, rfl⟩ := inR_nI (n := 511) (by decide) c6
      rw [eM, eS, ec]
      refine iter_st (fun k => (nI k, (nI (nn S.1), upd M.2.1 (nn S.1) (a1 / 100), upd M.2.2.1 (nn S.1) (a1 - a1 / 100 * 100), upd M.2.2.2.1 (nn S.1) a2, upd M.2.2.2.2.1 (nn S.1) a3, upd M.2.2.2.2.2.1 (nn S.1) a4, mkf M.2.2.2.2.2.2.1 (nn S.1) v k, M.2.2.2.2.2.2.2))) 0 3 (by decide) (fun k hk again hg => ?_) (fun again => ⟨fun _ => ⟨rfl, ?_⟩, fun c => absurd (by decide) c⟩)
      · obtain ⟨i1, i2⟩ := ix3 hlt hk
        refine ⟨fun c => absurd c (i_nle.mpr (nI_lt (b := 3) hk (by decide))), fun _ => ⟨i1, ?_⟩⟩
        show again (nI k + 1, (nI (nn S.1), _, _, _, _, _, upd (mkf M.2.2.2.2.2.2.1 (nn S.1) v k) (((3 : Int32) * nI (nn S.1)) + nI k).toNatClampNeg ((nI v >>> (((3 : Int32) * nI k) &&& 31)) &&& (7 : Int32)), _))
        rw [i2, shr3v (by omega) hk, nI_1]
        exact hg
      · have hu : ∀ (f : Ar) (x : Int32) (P : Int32 → Prop), (∀ j, P (f j)) → P x → ∀ j, P (upd f (nn S.1) x j) := by
          intro f x P h1 h2 j
          unfold upd
          split
          · exact h2
          · exact h1 j
        have hm : a1 / 100 = 0 ∨ a1 / 100 = 1 := by
          obtain ⟨k, hk, e⟩ := inR_nI (n := 1) (by decide) c1
          rw [e]
          rcases (show k = 0 ∨ k = 1 by omega) with rfl | rfl
          · exact Or.inl rfl
          · exact Or.inr rfl
        have hmb : ∃ q : Nat, q < 64 ∧ a4 = nI q := by
          obtain ⟨k, hk, e⟩ := inR_nI (n := 63) (by decide) c5
          exact ⟨k, by omega, e⟩
        have hnn : (nI (nn S.1) + 1).toNatClampNeg = nn S.1 + 1 := by rw [nI_1]; exact nI_clamp (by omega)
        have hvw : ∀ r, (upd S.1.2.2.2.2.2.1 (nn S.1) (nI v) r).toNatClampNeg = if r = nn S.1 then v else vw S.1 r := by
          intro r
          unfold upd
          split
          · exact nI_clamp (by omega)
          · rfl
        refine ⟨⟨⟨⟨?_, ?_⟩, fun r => ?_, hu _ _ (fun x => x = 0 ∨ x = 1) ok.2.2.1 hm, hu _ _ (fun x => -99 ≤ x.toInt ∧ x.toInt ≤ 99) ok.2.2.2.1 (inR_toInt c3), hu _ _ (fun x => 0 ≤ x.toInt ∧ x.toInt ≤ 9) ok.2.2.2.2.1 (inR_toInt c4), hu _ _ (fun x => ∃ q : Nat, q < 64 ∧ x = nI q) ok.2.2.2.2.2.1 hmb, ok.2.2.2.2.2.2.1, fun r hr => ?_⟩, rfl, congrArg (fun f => upd f _ _) e1, congrArg (fun f => upd f _ _) e2, congrArg (fun f => upd f _ _) e3, congrArg (fun f => upd f _ _) e4, congrArg (fun f => upd f _ _) e5, e6, fun r k hk => ?_⟩, R2, R3⟩
        · show (nI (nn S.1) + 1).toNatClampNeg ≤ 120
          rw [hnn]; omega
        · show nI (nn S.1) + 1 = nI (nI (nn S.1) + 1).toNatClampNeg
          rw [hnn, nI_1]
        · show (upd S.1.2.2.2.2.2.1 (nn S.1) (nI v) r).toNatClampNeg < 512 ∧ upd S.1.2.2.2.2.2.1 (nn S.1) (nI v) r = nI (upd S.1.2.2.2.2.2.1 (nn S.1) (nI v) r).toNatClampNeg
          rw [hvw]
          unfold upd
          split
          · exact ⟨by omega, rfl⟩
          · exact ok.2.1 r
        · have hr : (nI (nn S.1) + 1).toNatClampNeg ≤ r := hr
          rw [hnn] at hr
          exact ok.2.2.2.2.2.2.2 r (by omega)
        · show mkf M.2.2.2.2.2.2.1 (nn S.1) v 3 (3 * r + k) = nI ((upd S.1.2.2.2.2.2.1 (nn S.1) (nI v) r).toNatClampNeg / 8 ^ k % 8)
          rw [hvw]
          split
          · rename_i h; rw [h]; exact mkf_new _ _ _ 3 hk
          · rename_i h; rw [mkf_old _ _ _ h hk 3 (Nat.le_refl 3)]; exact e7 r k hk
  · have n6 : wX6_row M a1 a2 a3 a4 a5 (fun (r' : Int32) (M' : S6) => -1 = r' ∧ rl S M') :=
      ⟨fun _ => ⟨rfl, R⟩, fun x0 => p_in (fun x1 => p_in (fun x2 => p_in (fun x3 => p_in (fun x4 => p_in (fun x5 => p_in (fun x6 => absurd ⟨i_nlt.mp x0, x1, x2, x3, x4, x5, x6⟩ C) (fun _ => ⟨rfl, R⟩)) (fun _ => ⟨rfl, R⟩)) (fun _ => ⟨rfl, R⟩)) (fun _ => ⟨rfl, R⟩)) (fun _ => ⟨rfl, R⟩)) (fun _ => ⟨rfl, R⟩)⟩
    exact ⟨fun _ => n6, fun x0 => p_in (fun x1 => p_in (fun x2 => p_in (fun x3 => p_in (fun x4 => p_in (fun x5 => p_in (fun x6 => absurd ⟨i_nlt.mp x0, x1, x2, x3, x4, x5, x6⟩ C) (fun _ => n6)) (fun _ => n6)) (fun _ => n6)) (fun _ => n6)) (fun _ => n6)) (fun _ => n6)⟩
def fld (S : S2) (r k : Nat) : Int32 := match k with
  | 0 => S.1 r
  | 1 => S.2.1 r
  | 2 => S.2.2.1 r
  | 3 => S.2.2.2.1 r
  | 4 => S.2.2.2.2.1 r
  | 5 => nI (vw S r / 8 ^ 0 % 8)
  | 6 => nI (vw S r / 8 ^ 1 % 8)
  | 7 => nI (vw S r / 8 ^ 2 % 8)
  | _ => S.2.2.2.2.2.2.1 r
theorem p_field {S : S2} (ok : RowsOK S) {r k : Nat} (hr : r < nn S) (hk : k ≤ 8) {Q : Int32 → Prop} (hq : Q (fld S r k)) : wX2_field S (nI r) (nI k) Q := by
  have hn := ok_n ok
  have hin : vp_in (nI r) 120 := vp_in_nI (by omega) (by decide)
  have e := nI_clamp (n := r) (by omega)
  refine p_has ok (fun _ => ⟨fun z => absurd z (by decide), fun _ => ?_⟩) (fun z => absurd ⟨r, hr, rfl⟩ z)
  rcases (show k = 0 ∨ k = 1 ∨ k = 2 ∨ k = 3 ∨ k = 4 ∨ k = 5 ∨ k = 6 ∨ k = 7 ∨ k = 8 by omega) with rfl | rfl | rfl | rfl | rfl | rfl | rfl | rfl | rfl
  · exact ⟨fun _ => ⟨hin, by rw [e]; exact hq⟩, fun z => absurd rfl z⟩
  · exact ⟨fun z => absurd z (by decide), fun _ => ⟨fun _ => ⟨hin, by rw [e]; exact hq⟩, fun z => absurd rfl z⟩⟩
  · exact ⟨fun z => absurd z (by decide), fun _ => ⟨fun z => absurd z (by decide), fun _ => ⟨fun _ => ⟨hin, by rw [e]; exact hq⟩, fun z => absurd rfl z⟩⟩⟩
  · exact ⟨fun z => absurd z (by decide), fun _ => ⟨fun z => absurd z (by decide), fun _ => ⟨fun z => absurd z (by decide), fun _ => ⟨fun _ => ⟨hin, by rw [e]; exact hq⟩, fun z => absurd rfl z⟩⟩⟩⟩
  · exact ⟨fun z => absurd z (by decide), fun _ => ⟨fun z => absurd z (by decide), fun _ => ⟨fun z => absurd z (by decide), fun _ => ⟨fun z => absurd z (by decide), fun _ => ⟨fun _ => ⟨hin, by rw [e]; exact hq⟩, fun z => absurd rfl z⟩⟩⟩⟩⟩
  · exact ⟨fun z => absurd z (by decide), fun _ => ⟨fun z => absurd z (by decide), fun _ => ⟨fun z => absurd z (by decide), fun _ => ⟨fun z => absurd z (by decide), fun _ => ⟨fun z => absurd z (by decide), fun _ => ⟨fun _ => p_value (k := 0) ok (by omega) (by decide) hq, fun z => absurd rfl z⟩⟩⟩⟩⟩⟩
  · exact ⟨fun z => absurd z (by decide), fun _ => ⟨fun z => absurd z (by decide), fun _ => ⟨fun z => absurd z (by decide), fun _ => ⟨fun z => absurd z (by decide), fun _ => ⟨fun z => absurd z (by decide), fun _ => ⟨fun z => absurd z (by decide), fun _ => ⟨fun _ => p_value (k := 1) ok (by omega) (by decide) hq, fun z => absurd rfl z⟩⟩⟩⟩⟩⟩⟩
  · exact ⟨fun z => absurd z (by decide), fun _ => ⟨fun z => absurd z (by decide), fun _ => ⟨fun z => absurd z (by decide), fun _ => ⟨fun z => absurd z (by decide), fun _ => ⟨fun z => absurd z (by decide), fun _ => ⟨fun z => absurd z (by decide), fun _ => ⟨fun z => absurd z (by decide), fun _ => ⟨fun _ => p_value (k := 2) ok (by omega) (by decide) hq, fun z => absurd rfl z⟩⟩⟩⟩⟩⟩⟩⟩
  · exact ⟨fun z => absurd z (by decide), fun _ => ⟨fun z => absurd z (by decide), fun _ => ⟨fun z => absurd z (by decide), fun _ => ⟨fun z => absurd z (by decide), fun _ => ⟨fun z => absurd z (by decide), fun _ => ⟨fun z => absurd z (by decide), fun _ => ⟨fun z => absurd z (by decide), fun _ => ⟨fun z => absurd z (by decide), fun _ => ⟨fun _ => ⟨hin, by rw [e]; exact hq⟩, fun z => absurd rfl z⟩⟩⟩⟩⟩⟩⟩⟩⟩
theorem ix5 {r k : Nat} (hr : r < 120) (hk : k < 3) : vp_in ((((3 : Int32) * nI r) + nI (k + 5)) - 5) 360 ∧ ((((3 : Int32) * nI r) + nI (k + 5)) - 5).toNatClampNeg = 3 * r + k := by
  have e : (((3 : Int32) * nI r) + nI (k + 5)) - 5 = nI (3 * r + k) := by
    rw [show (3 : Int32) = nI 3 from rfl, pk_mul, nI_add, show (5 : Int32) = nI 5 from rfl, pk_sub (by omega)]
    exact congrArg nI (by omega)
  rw [e]
  exact ⟨vp_in_nI (by omega) (by decide), nI_clamp (by omega)⟩
theorem p6_about {S : S2} {M : S6} (R : RR S M) {r k : Nat} (hr : r < nn S) (hk : k ≤ 8) {Q : Int32 → Prop} (hq : Q (fld S r k)) : wX6_about M (nI r) (nI k) Q := by
  obtain ⟨ok, e0, e1, e2, e3, e4, e5, e6, e7⟩ := id R
  have hn := ok_n ok
  have hin : vp_in (nI r) 120 := vp_in_nI (by omega) (by decide)
  have e := nI_clamp (n := r) (by omega)
  have hc : inR (nI k) 0 8 := ⟨nI_pos' (by omega), nI_le (b := 8) hk (by decide)⟩
  refine p6_isRow R (fun _ => ⟨fun z => absurd z (by decide), fun _ => p_in (fun _ => ?_) (fun z => absurd hc z)⟩) (fun z => absurd ⟨r, hr, rfl⟩ z)
  rw [e, e1, e2, e3, e4, e5, e6]
  rcases (show k = 0 ∨ k = 1 ∨ k = 2 ∨ k = 3 ∨ k = 4 ∨ k = 5 ∨ k = 6 ∨ k = 7 ∨ k = 8 by omega) with rfl | rfl | rfl | rfl | rfl | rfl | rfl | rfl | rfl
  · exact ⟨fun _ => ⟨hin, hq⟩, fun z => absurd rfl z⟩
  · exact ⟨fun z => absurd z (by decide), fun _ => ⟨fun _ => ⟨hin, hq⟩, fun z => absurd rfl z⟩⟩
  · exact ⟨fun z => absurd z (by decide), fun _ => ⟨fun z => absurd z (by decide), fun _ => ⟨fun _ => ⟨hin, hq⟩, fun z => absurd rfl z⟩⟩⟩
  · exact ⟨fun z => absurd z (by decide), fun _ => ⟨fun z => absurd z (by decide), fun _ => ⟨fun z => absurd z (by decide), fun _ => ⟨fun _ => ⟨hin, hq⟩, fun z => absurd rfl z⟩⟩⟩⟩
  · exact ⟨fun z => absurd z (by decide), fun _ => ⟨fun z => absurd z (by decide), fun _ => ⟨fun z => absurd z (by decide), fun _ => ⟨fun z => absurd z (by decide), fun _ => ⟨fun _ => ⟨hin, hq⟩, fun z => absurd rfl z⟩⟩⟩⟩⟩
  · exact ⟨fun z => absurd z (by decide), fun _ => ⟨fun z => absurd z (by decide), fun _ => ⟨fun z => absurd z (by decide), fun _ => ⟨fun z => absurd z (by decide), fun _ => ⟨fun z => absurd z (by decide), fun _ => ⟨fun _ => ⟨(ix5 (k := 0) (by omega) (by decide)).1, by rw [show (((3 : Int32) * nI r) + nI 5 - 5).toNatClampNeg = 3 * r + 0 from (ix5 (k := 0) (by omega) (by decide)).2, e7 r 0 (by decide)]; exact hq⟩, fun z => absurd rfl z⟩⟩⟩⟩⟩⟩
  · exact ⟨fun z => absurd z (by decide), fun _ => ⟨fun z => absurd z (by decide), fun _ => ⟨fun z => absurd z (by decide), fun _ => ⟨fun z => absurd z (by decide), fun _ => ⟨fun z => absurd z (by decide), fun _ => ⟨fun z => absurd z (by decide), fun _ => ⟨fun _ => ⟨(ix5 (k := 1) (by omega) (by decide)).1, by rw [show (((3 : Int32) * nI r) + nI 6 - 5).toNatClampNeg = 3 * r + 1 from (ix5 (k := 1) (by omega) (by decide)).2, e7 r 1 (by decide)]; exact hq⟩, fun z => absurd rfl z⟩⟩⟩⟩⟩⟩⟩
  · exact ⟨fun z => absurd z (by decide), fun _ => ⟨fun z => absurd z (by decide), fun _ => ⟨fun z => absurd z (by decide), fun _ => ⟨fun z => absurd z (by decide), fun _ => ⟨fun z => absurd z (by decide), fun _ => ⟨fun z => absurd z (by decide), fun _ => ⟨fun z => absurd z (by decide), fun _ => ⟨fun _ => ⟨(ix5 (k := 2) (by omega) (by decide)).1, by rw [show (((3 : Int32) * nI r) + nI 7 - 5).toNatClampNeg = 3 * r + 2 from (ix5 (k := 2) (by omega) (by decide)).2, e7 r 2 (by decide)]; exact hq⟩, fun z => absurd rfl z⟩⟩⟩⟩⟩⟩⟩⟩
  · exact ⟨fun z => absurd z (by decide), fun _ => ⟨fun z => absurd z (by decide), fun _ => ⟨fun z => absurd z (by decide), fun _ => ⟨fun z => absurd z (by decide), fun _ => ⟨fun z => absurd z (by decide), fun _ => ⟨fun z => absurd z (by decide), fun _ => ⟨fun z => absurd z (by decide), fun _ => ⟨fun z => absurd z (by decide), fun _ => ⟨fun _ => ⟨hin, fun c => by rw [show fld S r 8 = S.2.2.2.2.2.2.1 r from rfl, c] at hq; exact hq, fun c => by rw [show fld S r 8 = 1 from (ok.2.2.2.2.2.2.1 r).resolve_left c] at hq; exact hq⟩, fun z => absurd rfl z⟩⟩⟩⟩⟩⟩⟩⟩⟩
theorem eq_about : Eq_about rl := by
  intro S M a1 a2 R
  obtain ⟨R1, R2, R3⟩ := id R
  have ok := R1.1
  by_cases C : isR S.1 a1 ∧ inR a2 0 8
  · obtain ⟨⟨r, hr, rfl⟩, c2⟩ := C
    obtain ⟨k, hk, rfl⟩ := inR_nI (n := 8) (by decide) c2
    exact p_has ok (fun _ => ⟨fun z => absurd z (by decide), fun _ => p_field ok hr hk (p6_about R1 hr hk ⟨rfl, R⟩)⟩) (fun z => absurd ⟨r, hr, rfl⟩ z)
  · have n6 : wX6_about M a1 a2 (fun r' : Int32 => -1000 = r' ∧ rl S M) := by
      refine p6_isRow R1 (fun x1 => ⟨fun z => absurd z (by decide), fun _ => p_in (fun x2 => absurd ⟨x1, x2⟩ C) (fun _ => ⟨rfl, R⟩)⟩) (fun _ => ⟨fun _ => ⟨rfl, R⟩, fun z => absurd rfl z⟩)
    refine p_has ok (fun x1 => ⟨fun z => absurd z (by decide), fun _ => p_has ok (fun _ => ⟨fun z => absurd z (by decide), fun _ => ?_⟩) (fun z => absurd x1 z)⟩) (fun _ => ⟨fun _ => n6, fun z => absurd rfl z⟩)
    have no : ∀ k, k ≤ 8 → ¬ a2 = nI k := fun k hk z => C ⟨x1, by rw [z]; exact ⟨nI_pos' (by omega), nI_le (b := 8) hk (by decide)⟩⟩
    exact ⟨fun z => absurd z (no 0 (by decide)), fun _ => ⟨fun z => absurd z (no 1 (by decide)), fun _ => ⟨fun z => absurd z (no 2 (by decide)), fun _ => ⟨fun z => absurd z (no 3 (by decide)), fun _ => ⟨fun z => absurd z (no 4 (by decide)), fun _ => ⟨fun z => absurd z (no 5 (by decide)), fun _ => ⟨fun z => absurd z (no 6 (by decide)), fun _ => ⟨fun z => absurd z (no 7 (by decide)), fun _ => ⟨fun z => absurd z (no 8 (by decide)), fun _ => n6⟩⟩⟩⟩⟩⟩⟩⟩⟩
