/-! rounded: both walks -/
def qv (S : S2) (h k : Nat) (u : Int32) (v : Nat) : Int32 := flo (chg S (wt h k v)) u
def rv (S : S2) (h k : Nat) (u : Int32) (v : Nat) : Int32 := rm (chg S (wt h k v)) u
theorem rv_0 {S : S2} (ok : RowsOK S) {h k : Nat} {u : Int32} (hu : un u) (v : Nat) : 0 ≤ (rv S h k u v).toInt := by
  unfold rv
  rw [rm_i (chg_s ok _) hu]
  exact Int.emod_nonneg _ (by have := hu.1; omega)
/-- a part in units -/
def ans (S : S2) (h k : Nat) (u : Int32) (t v : Nat) : Int32 := qv S h k u v + (if fb_ct (fun w => bef (rv S h k u) w v) 8 < t then 1 else 0)
theorem sub_s (x : Int32) (f : Nat → Int32) (n : Nat) : x - sumI f n - f n = x - sumI f (n + 1) := by rw [sumI, sub3]
theorem p_inUnits {S : S2} (ok : RowsOK S) {h k v t : Nat} (hh : h < 729) (hk : k < 3) (hd : dg h k = 0) (hv : v < 8) {u : Int32} (hu : un u) (ht : t < 8) (et : mor S h k u = nI t) {Q : Int32 → Prop} (hq : Q (ans S h k u t v)) : wX2_inUnits S (nI h) (nI k) (nI v) u Q := by
  have hu1 : (1 : Int32) ≤ u := by rw [fa_le, show (1 : Int32).toInt = 1 from by decide]; exact hu.1
  have hv8 : ¬ nI v = 8 := fun z => by have := (nI_eq (b := 8) (by omega) (by decide)).mp z; omega
  have lt : wt h k v < 729 := wt_lt hh hk hd hv
  refine ⟨fun _ => p_moved ok hh (p_floorDiv (chg_s ok h) hu ⟨fun z => absurd z hv8, fun _ => p_withTest hh hk hd (p_moved ok lt (p_floorMod (chg_s ok _) hu ?_))⟩), fun z => absurd hu1 z⟩
  rw [show flo (chg S h) u = flo (chg S h) u - sumI (qv S h k u) 0 from (Int32.sub_zero _).symm]
  refine iter_st (fun i => (flo (chg S h) u - sumI (qv S h k u) i, nI (fb_ct (fun w => bef (rv S h k u) w v) i), nI i)) 0 8 (by decide) (fun w hw again hg => ?_) (fun again => ⟨fun _ => ?_, fun c => absurd (by decide) c⟩)
  · have lw : wt h k w < 729 := wt_lt hh hk hd hw
    refine ⟨fun c => absurd c (i_nle.mpr (nI_lt (b := 8) hw (by decide))), fun _ => p_withTest hh hk hd (p_moved ok lw (p_floorMod (chg_s ok _) hu (p_floorDiv (chg_s ok _) hu ?_)))⟩
    have es : flo (chg S h) u - sumI (qv S h k u) w - flo (chg S (wt h k w)) u = flo (chg S h) u - sumI (qv S h k u) (w + 1) := sub_s _ (qv S h k u) w
    rw [es]
    have yes : bef (rv S h k u) w v = true → again (flo (chg S h) u - sumI (qv S h k u) (w + 1), nI (fb_ct (fun w => bef (rv S h k u) w v) w) + 1, nI w + 1) := fun z => by
      have e : fb_ct (fun w => bef (rv S h k u) w v) (w + 1) = fb_ct (fun w => bef (rv S h k u) w v) w + 1 := by rw [fb_ct_succ, if_pos z]
      rw [e] at hg
      rw [nI_1, nI_1]; exact hg
    have no : bef (rv S h k u) w v = false → again (flo (chg S h) u - sumI (qv S h k u) (w + 1), nI (fb_ct (fun w => bef (rv S h k u) w v) w), nI w + 1) := fun z => by
      have e : fb_ct (fun w => bef (rv S h k u) w v) (w + 1) = fb_ct (fun w => bef (rv S h k u) w v) w := by rw [fb_ct_succ, if_neg (by rw [z]; decide), Nat.add_zero]
      rw [e] at hg
      rw [nI_1]; exact hg
    have nb : ¬ rv S h k u v < rv S h k u w → (rv S h k u w = rv S h k u v → ¬ w < v) → bef (rv S h k u) w v = false := fun a b => by
      rw [bef, decide_eq_false a, Bool.false_or]
      by_cases c : rv S h k u w = rv S h k u v
      · rw [decide_eq_false (b c), Bool.and_false]
      · rw [decide_eq_false c, Bool.false_and]
    refine ⟨fun c => yes ?_, fun c => ⟨fun d => ⟨fun e => no (nb c (fun _ => ?_)), fun e => yes ?_⟩, fun d => no (nb c (fun z => absurd z d))⟩⟩
    · rw [bef, decide_eq_true (show rv S h k u v < rv S h k u w from c), Bool.true_or]
    · have := (nI_leI (a := v) (b := w) (by omega) (by omega)).mp e
      omega
    · have : ¬ v ≤ w := fun z => e ((nI_leI (a := v) (b := w) (by omega) (by omega)).mpr z)
      rw [bef, decide_eq_true (show rv S h k u w = rv S h k u v from d), decide_eq_true (show w < v by omega), Bool.and_self, Bool.or_true]
  · have em : flo (chg S h) u - sumI (qv S h k u) 8 = nI t := et
    have hc := fb_ct_le (fun w => bef (rv S h k u) w v) 8
    simp only [em]
    refine p_floorDiv (chg_s ok _) hu ⟨fun c => ?_, fun c => ?_⟩
    · rw [nI_leI (by omega) (by omega)] at c
      rw [ans, if_neg (by omega)] at hq
      exact hq
    · rw [nI_leI (by omega) (by omega)] at c
      rw [ans, if_pos (by omega)] at hq
      exact hq
/-- the reference's two rows of eight -/
def put (M : S6) (P L : Ar) : S6 := (M.1, M.2.1, M.2.2.1, M.2.2.2.1, M.2.2.2.2.1, M.2.2.2.2.2.1, M.2.2.2.2.2.2.1, M.2.2.2.2.2.2.2.1, M.2.2.2.2.2.2.2.2.1, M.2.2.2.2.2.2.2.2.2.1, M.2.2.2.2.2.2.2.2.2.2.1, M.2.2.2.2.2.2.2.2.2.2.2.1, M.2.2.2.2.2.2.2.2.2.2.2.2.1, M.2.2.2.2.2.2.2.2.2.2.2.2.2.1, M.2.2.2.2.2.2.2.2.2.2.2.2.2.2.1, P, L, M.2.2.2.2.2.2.2.2.2.2.2.2.2.2.2.2.2.1, M.2.2.2.2.2.2.2.2.2.2.2.2.2.2.2.2.2.2)
abbrev m_pt (M : S6) : Ar := M.2.2.2.2.2.2.2.2.2.2.2.2.2.2.2.1
abbrev m_lf (M : S6) : Ar := M.2.2.2.2.2.2.2.2.2.2.2.2.2.2.2.2.1
theorem rl_put {S : SX} {M : S6} (R : rl S M) (P L : Ar) : rl S (put M P L) := R
theorem put_self (M : S6) : put M (m_pt M) (m_lf M) = M := rfl
def wr (f : Nat → Int32) (A : Ar) : Nat → Ar
  | 0 => A
  | i + 1 => upd (wr f A i) i (f i)
theorem wr_get {f : Nat → Int32} {A : Ar} {j : Nat} : ∀ {i : Nat}, j < i → wr f A i j = f j
  | 0, h => absurd h (Nat.not_lt_zero _)
  | i + 1, h => by
    rw [wr, upd]
    by_cases e : j = i
    · rw [if_pos e, e]
    · rw [if_neg e]; exact wr_get (by omega)
theorem up_s (A : Ar) (i : Nat) (x : Int32) : upd A i x i = x := by unfold upd; exact if_pos rfl
theorem p6_best {a3 r7 x6 : Int32} {M : S6} {P L : Ar} {K : Int32 × Int32 × S6 → Prop} (hK : K (nI (bst L 7), nI 8, put M P L)) : ∃ n : Nat, iter (sX6_rounded_155 a3 r7 x6 K) n (0, 1, put M P L) := by
  refine iter_st (fun i => (nI (bst L i), nI (i + 1), put M P L)) 0 7 (by decide) (fun i hi again hg => ?_) (fun again => ⟨fun _ => hK, fun c => absurd (by decide) c⟩)
  have hb := (bst_ok L i).1
  have c1 : (nI (i + 1)).toNatClampNeg = i + 1 := nI_clamp (by omega)
  have c2 : (nI (bst L i)).toNatClampNeg = bst L i := nI_clamp (by omega)
  refine ⟨fun c => absurd c (i_nle.mpr (nI_lt (b := 8) (by omega) (by decide))), fun _ => ⟨vp_in_nI (by omega) (by decide), vp_in_nI (by omega) (by decide), fun c => ?_, fun c => ?_⟩⟩
  · rw [c1, c2] at c
    have c : L (i + 1) ≤ L (bst L i) := c
    rw [bst, if_pos c] at hg
    rw [nI_1]; exact hg
  · rw [c1, c2] at c
    have c : ¬ L (i + 1) ≤ L (bst L i) := c
    rw [bst, if_neg c] at hg
    rw [nI_1]; exact hg
theorem p6_give {S : S2} (ok : RowsOK S) {h k t : Nat} {u : Int32} (hu : un u) (ht : t < 8) {M : S6} {a3 r7 : Int32} {K : Int32 × S6 → Prop} (hK : ∀ P L : Ar, (∀ v, v < 8 → P v = ans S h k u t v) → K (nI 0, put M P L)) : ∀ (d : Nat) (P L : Ar) (B : Nat → Bool), fb_ct B 8 + d = t → Shut (rv S h k u) B → (∀ v, v < 8 → P v = qv S h k u v + (if B v = true then 1 else 0)) → (∀ v, v < 8 → L v = if B v = true then -1 else rv S h k u v) → iter (sX6_rounded_144 a3 r7 K) (d + 1) (nI d, put M P L) := by
  intro d
  induction d with
  | zero =>
    intro P L B hc hs hP hL
    refine ⟨fun _ => hK P L (fun v hv => ?_), fun c => absurd (by decide) c⟩
    rw [hP v hv, ans]
    have := rank_iff hs hv
    rw [show fb_ct B 8 = t by omega] at this
    by_cases q : B v = true
    · rw [if_pos q, if_pos (this.mp q)]
    · rw [if_neg q, if_neg (fun z => q (this.mpr z))]
  | succ d ih =>
    intro P L B hc hs hP hL
    obtain ⟨g1, g2, g3, g4⟩ := pick (fun v _ => rv_0 ok hu v) hs hL (by omega)
    refine ⟨fun c => absurd c (nI_nle (by omega) (by omega)), fun _ => p6_best ?_⟩
    have c2 : (nI (bst L 7)).toNatClampNeg = bst L 7 := nI_clamp (by omega)
    have hin : vp_in (nI (bst L 7)) 8 := vp_in_nI g1 (by decide)
    refine ⟨hin, hin, hin, ?_⟩
    rw [c2, show nI (d + 1) + (-1) = nI d from by rw [← nI_1 (a := d), Int32.add_assoc, show (1 : Int32) + -1 = 0 from by decide, Int32.add_zero]]
    refine ih (upd P (bst L 7) (P (bst L 7) + 1)) (upd L (bst L 7) (-1)) _ (by rw [g4]; omega) g3 (fun v hv => ?_) (fun v hv => ?_)
    · by_cases q : v = bst L 7
      · rw [q, up_s, hP _ g1, if_neg (by rw [g2]; decide), if_pos rfl, if_pos rfl, Int32.add_zero]
      · rw [pk_un q, hP v hv, if_neg q]
    · by_cases q : v = bst L 7
      · rw [q, up_s, if_pos rfl, if_pos rfl]
      · rw [pk_un q, hL v hv, if_neg q]
theorem p6_units {S : S2} {M : S6} (R : RR S M) {h k t : Nat} (hh : h < 729) (hk : k < 3) (hd : dg h k = 0) {u : Int32} (hu : un u) (ht : t < 8) (et : mor S h k u = nI t) {a3 r7 : Int32} {K : Int32 × S6 → Prop} (hK : ∀ P L : Ar, (∀ v, v < 8 → P v = ans S h k u t v) → K (nI 0, put M P L)) : ∃ n : Nat, iter (sX6_rounded_67 (nI h) (nI k) a3 u r7 (fun (x6, x7, S) => ∃ nn : Nat, iter (sX6_rounded_144 a3 r7 K) nn (x6, S))) n (flo (chg S h) u, 0, M) := by
  have ok := R.1
  have key : ∃ n : Nat, iter (sX6_rounded_67 (nI h) (nI k) a3 u r7 (fun (x6, x7, S) => ∃ nn : Nat, iter (sX6_rounded_144 a3 r7 K) nn (x6, S))) n (flo (chg S h) u - sumI (qv S h k u) 0, nI 0, put M (wr (qv S h k u) (m_pt M) 0) (wr (rv S h k u) (m_lf M) 0)) := by
    refine iter_st (fun i => (flo (chg S h) u - sumI (qv S h k u) i, nI i, put M (wr (qv S h k u) (m_pt M) i) (wr (rv S h k u) (m_lf M) i))) 0 8 (by decide) (fun w hw again hg => ?_) (fun again => ⟨fun _ => ?_, fun c => absurd (by decide) c⟩)
    · have lw : wt h k w < 729 := wt_lt hh hk hd hw
      have c1 : (nI w).toNatClampNeg = w := nI_clamp (by omega)
      have hin : vp_in (nI w) 8 := vp_in_nI hw (by decide)
      have Rw : RR S (put M (wr (qv S h k u) (m_pt M) w) (wr (rv S h k u) (m_lf M) w)) := R
      refine ⟨fun c => absurd c (i_nle.mpr (nI_lt (b := 8) hw (by decide))), fun _ => p6_place hk ?_⟩
      rw [p6_wt]
      refine p6_changed0 Rw lw (p6_floor (chg_s ok _) hu ⟨hin, hin, hin, hin, fun y ey => ?_⟩)
      rw [c1, up_s] at ey
      rw [c1, up_s, ey, nI_1]
      have es : flo (chg S h) u - sumI (qv S h k u) w - flo (chg S (wt h k w)) u = flo (chg S h) u - sumI (qv S h k u) (w + 1) := sub_s _ (qv S h k u) w
      rw [es]
      exact hg
    · have em : flo (chg S h) u - sumI (qv S h k u) 8 = nI t := et
      simp only [em]
      have z0 : fb_ct (fun _ => false) 8 = 0 := by decide
      refine ⟨t + 1, p6_give ok hu ht hK t _ _ (fun _ => false) (by rw [z0]; omega) (fun w x _ _ z => absurd (show false = true from z) (by decide)) (fun v hv => ?_) (fun v hv => ?_)⟩
      · rw [wr_get hv, if_neg Bool.false_ne_true, Int32.add_zero]
      · rw [wr_get hv, if_neg Bool.false_ne_true]
  rw [sumI, Int32.sub_zero] at key
  exact key
theorem p_inUnits8 {S : S2} (ok : RowsOK S) {h : Nat} (hh : h < 729) {a2 u : Int32} (hu : un u) {Q : Int32 → Prop} (hq : Q (flo (chg S h) u)) : wX2_inUnits S (nI h) a2 8 u Q := by
  have hu1 : (1 : Int32) ≤ u := by rw [fa_le, show (1 : Int32).toInt = 1 from by decide]; exact hu.1
  exact ⟨fun _ => p_moved ok hh (p_floorDiv (chg_s ok h) hu ⟨fun _ => hq, fun z => absurd rfl z⟩), fun z => absurd hu1 z⟩
theorem p6_dig {h k : Nat} (hh : h < 2 ^ 31) (hk : k < 3) {Q : Int32 → Prop} (hq : Q (nI (dg h k))) : wX6_digit (nI h) (nI k) Q := by
  rw [e_digit]; exact p_digit hh hk hq
theorem eq_rounded : Eq_rounded rl := by
  intro S M a1 a2 a3 a4 R
  obtain ⟨R1, R2, R3⟩ := id R
  have ok := R1.1
  by_cases C : isO a1 a2 ∧ inR a3 0 8 ∧ inR a4 1 1000
  · obtain ⟨c1, c3, c4⟩ := C
    obtain ⟨h, k, hh, hk, rfl, rfl, hd⟩ := id c1
    have hu : un a4 := inR_toInt c4
    obtain ⟨t, ht, et⟩ := mor_n ok hh hk hd hu
    have x1 : inR (nI h) 0 728 := ⟨nI_pos' (by omega), nI_le (b := 728) (by omega) (by decide)⟩
    have x2 : inR (nI k) 0 2 := ⟨nI_pos' (by omega), nI_le (b := 2) (by omega) (by decide)⟩
    have six : ∀ {Q : Int32 → S6 → Prop}, (∀ P L : Ar, (∀ v, v < 8 → P v = ans S.1 h k a4 t v) → (a3 = 8 → Q (flo (chg S.1 h) a4) (put M P L)) ∧ (¬ a3 = 8 → vp_in a3 8 ∧ Q (P a3.toNatClampNeg) (put M P L))) → wX6_rounded M (nI h) (nI k) a3 a4 Q := by
      intro Q q
      refine p_in (fun _ => p_in (fun _ => p_in (fun _ => p_in (fun _ => p6_dig (by omega) hk ⟨fun _ => p6_changed0 R1 hh (p6_floor (chg_s ok h) hu (p6_units R1 hh hk hd hu ht et q)), fun z => absurd ((dg0 hh).mpr hd) z⟩) (fun z => absurd c4 z)) (fun z => absurd c3 z)) (fun z => absurd x2 z)) (fun z => absurd x1 z)
    refine p_isOpen (fun _ => ⟨fun z => absurd z (by decide), fun _ => p_in (fun _ => p_in (fun _ => ?_) (fun z => absurd c4 z)) (fun z => absurd c3 z)⟩) (fun z => absurd c1 z)
    obtain ⟨v, hv, rfl⟩ := inR_nI (n := 8) (by decide) c3
    by_cases v8 : v = 8
    · subst v8
      exact p_inUnits8 ok hh hu (six (fun P L _ => ⟨fun _ => ⟨rfl, rl_put R P L⟩, fun z => absurd rfl z⟩))
    · refine p_inUnits ok hh hk hd (by omega) hu ht et (six (fun P L hP => ⟨fun z => ?_, fun _ => ⟨vp_in_nI (by omega) (by decide), ?_, rl_put R P L⟩⟩))
      · exact absurd ((nI_eq (b := 8) (by omega) (by decide)).mp z) v8
      · rw [nI_clamp (by omega)]
        exact (hP v (by omega)).symm
  · have n6 : wX6_rounded M a1 a2 a3 a4 (fun (r' : Int32) (M' : S6) => -1000000 = r' ∧ rl S M') := by
      refine p_in (fun x1 => p_in (fun x2 => p_in (fun x3 => p_in (fun x4 => ?_) (fun _ => ⟨rfl, R⟩)) (fun _ => ⟨rfl, R⟩)) (fun _ => ⟨rfl, R⟩)) (fun _ => ⟨rfl, R⟩)
      obtain ⟨h, hh, rfl⟩ := inR_nI (n := 728) (by decide) x1
      obtain ⟨k, hk, rfl⟩ := inR_nI (n := 2) (by decide) x2
      refine p6_dig (by omega) (by omega) ⟨fun c => absurd ⟨⟨h, k, by omega, by omega, rfl, rfl, (dg0 (by omega)).mp c⟩, x3, x4⟩ C, fun _ => ⟨rfl, R⟩⟩
    exact p_isOpen (fun x1 => ⟨fun z => absurd z (by decide), fun _ => p_in (fun x3 => p_in (fun x4 => absurd ⟨x1, x3, x4⟩ C) (fun _ => n6)) (fun _ => n6)⟩) (fun _ => ⟨fun _ => n6, fun z => absurd rfl z⟩)
