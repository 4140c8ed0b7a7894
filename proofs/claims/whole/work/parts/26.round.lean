/-! rounded: floors; a change parted over the values of a mark; ranks -/
def flo (x u : Int32) : Int32 := Int32.ofInt (x.toInt / u.toInt)
def rm (x u : Int32) : Int32 := x - flo x u * u
def sm (x : Int32) : Prop := -100000 ≤ x.toInt ∧ x.toInt ≤ 100000
def un (u : Int32) : Prop := 1 ≤ u.toInt ∧ u.toInt ≤ 1000
theorem td_cases {X U : Int} (hU : 0 < U) : X / U * U ≤ X ∧ X < X / U * U + U ∧ ((X.tdiv U = X / U ∧ (X < 0 → X / U * U = X)) ∨ (X < 0 ∧ X.tdiv U = X / U + 1 ∧ (X / U + 1) * U = X / U * U + U)) := by
  have l2 := Int.lt_ediv_add_one_mul_self X hU
  have l3 : (X / U + 1) * U = X / U * U + U := by rw [Int.add_mul, Int.one_mul]
  refine ⟨Int.ediv_mul_le X (by omega), by omega, ?_⟩
  rw [Int.tdiv_eq_ediv]
  by_cases h : 0 ≤ X ∨ U ∣ X
  · rw [if_pos h, Int.add_zero]
    exact Or.inl ⟨rfl, fun hx => Int.ediv_mul_cancel (h.resolve_left (by omega))⟩
  · rw [if_neg h, Int.sign_eq_one_of_pos hU]
    have : ¬ 0 ≤ X := fun z => h (Or.inl z)
    exact Or.inr ⟨by omega, rfl, l3⟩
theorem q_abs (X U : Int) : (X / U).natAbs ≤ X.natAbs := Int.natAbs_ediv_le_natAbs X U
theorem flo_i {x u : Int32} (hx : sm x) : (flo x u).toInt = x.toInt / u.toInt := by
  have := q_abs x.toInt u.toInt
  obtain ⟨h1, h2⟩ := hx
  exact fb_ofI (by omega) (by omega)
theorem flo_m {x u : Int32} (hx : sm x) (hu : un u) : (flo x u * u).toInt = x.toInt / u.toInt * u.toInt := by
  obtain ⟨h1, h2, -⟩ := td_cases (X := x.toInt) (U := u.toInt) (by have := hu.1; omega)
  have e := flo_i (u := u) hx
  obtain ⟨h3, h4⟩ := hx
  obtain ⟨h5, h6⟩ := hu
  rw [fb_mulI (by rw [e]; omega) (by rw [e]; omega), e]
theorem rm_i {x u : Int32} (hx : sm x) (hu : un u) : (rm x u).toInt = x.toInt % u.toInt := by
  obtain ⟨h1, h2, -⟩ := td_cases (X := x.toInt) (U := u.toInt) (by have := hu.1; omega)
  have e := flo_m hx hu
  obtain ⟨h3, h4⟩ := hx
  obtain ⟨h5, h6⟩ := hu
  unfold rm
  rw [fb_subI (by rw [e]; omega) (by rw [e]; omega), e, Int.emod_def, Int.mul_comm]
theorem div_i {x u : Int32} (hx : sm x) (hu : un u) : (x / u).toInt = x.toInt.tdiv u.toInt := by
  obtain ⟨-, -, h⟩ := td_cases (X := x.toInt) (U := u.toInt) (by have := hu.1; omega)
  have := q_abs x.toInt u.toInt
  obtain ⟨h3, h4⟩ := hx
  rw [Int32.toInt_div]
  exact fb_bmod (by omega) (by omega)
theorem dv_cases {x u : Int32} (hx : sm x) (hu : un u) : (x / u = flo x u ∧ (x.toInt < 0 → x.toInt / u.toInt * u.toInt = x.toInt)) ∨ (x.toInt < 0 ∧ x / u - 1 = flo x u ∧ (x / u * u).toInt = x.toInt / u.toInt * u.toInt + u.toInt) := by
  obtain ⟨h1, h2, h⟩ := td_cases (X := x.toInt) (U := u.toInt) (by have := hu.1; omega)
  have e := div_i hx hu
  have ef := flo_i (u := u) hx
  have := q_abs x.toInt u.toInt
  obtain ⟨h3, h4⟩ := hx
  obtain ⟨h5, h6⟩ := hu
  have o1 : (1 : Int32).toInt = 1 := by decide
  rcases h with ⟨a, b⟩ | ⟨a, b, c⟩
  · refine Or.inl ⟨Int32.toInt_inj.mp ?_, b⟩
    rw [e, ef, a]
  · refine Or.inr ⟨a, Int32.toInt_inj.mp ?_, ?_⟩
    · rw [fb_subI (by rw [e, b, o1]; omega) (by rw [e, b, o1]; omega), e, ef, b, o1]; omega
    · rw [fb_mulI (by rw [e, b, c]; omega) (by rw [e, b, c]; omega), e, b, c]
theorem xs {x u : Int32} (hu : un u) : 0 ≤ x ^^^ u ↔ 0 ≤ x.toInt := by
  have h1 : (x.toBitVec ^^^ u.toBitVec).msb = (x.toBitVec.msb ^^ u.toBitVec.msb) := BitVec.msb_xor
  have h2 : u.toBitVec.msb = false := by
    rw [BitVec.msb_eq_toInt]
    exact decide_eq_false (by have := hu.1; show ¬ u.toInt < 0; omega)
  rw [h2, Bool.xor_false, BitVec.msb_eq_toInt, BitVec.msb_eq_toInt, decide_eq_decide] at h1
  have h3 : (x ^^^ u).toInt < 0 ↔ x.toInt < 0 := h1
  rw [fa_le, show (0 : Int32).toInt = 0 from by decide]
  omega
theorem un0 {u : Int32} (hu : un u) : ¬ u = 0 := by
  intro z
  have := hu.1
  rw [z] at this
  exact absurd this (by decide)
theorem p_floorDiv {x u : Int32} (hx : sm x) (hu : un u) {Q : Int32 → Prop} (hq : Q (flo x u)) : wJ9_floorDiv_7cf53 x u Q := by
  have l2 := (td_cases (X := x.toInt) (U := u.toInt) (by have := hu.1; omega)).2.1
  refine ⟨un0 hu, fun c => ?_, fun c => ⟨fun d => ?_, fun d => ?_⟩⟩
  · rw [xs hu] at c
    rcases dv_cases hx hu with ⟨a, -⟩ | ⟨a, -⟩
    · rw [a]; exact hq
    · omega
  · rcases dv_cases hx hu with ⟨a, -⟩ | ⟨a, b, e⟩
    · rw [a]; exact hq
    · rw [d] at e; omega
  · rcases dv_cases hx hu with ⟨a, b⟩ | ⟨a, b, e⟩
    · rw [xs hu] at c
      refine absurd (Int32.toInt_inj.mp ?_) d
      rw [a, flo_m hx hu]
      exact b (by omega)
    · rw [b]; exact hq
theorem p_floorMod {x u : Int32} (hx : sm x) (hu : un u) {Q : Int32 → Prop} (hq : Q (rm x u)) : wJ9_floorMod_7cf53 x u Q := by
  obtain ⟨l1, l2, -⟩ := td_cases (X := x.toInt) (U := u.toInt) (by have := hu.1; omega)
  have z0 : (0 : Int32).toInt = 0 := by decide
  refine ⟨un0 hu, fun c => ?_, fun c => ⟨fun d => ?_, fun d => ?_⟩⟩
  · rw [xs hu] at c
    rcases dv_cases hx hu with ⟨a, -⟩ | ⟨a, -⟩
    · rw [a]; exact hq
    · omega
  · rcases dv_cases hx hu with ⟨a, -⟩ | ⟨a, b, e⟩
    · rw [a]; exact hq
    · have := congrArg Int32.toInt d
      obtain ⟨h3, h4⟩ := hx
      obtain ⟨h5, h6⟩ := hu
      rw [fb_subI (by rw [e]; omega) (by rw [e]; omega), e, z0] at this
      omega
  · rcases dv_cases hx hu with ⟨a, b⟩ | ⟨a, b, e⟩
    · rw [xs hu] at c
      refine absurd (Int32.toInt_inj.mp ?_) d
      have e := flo_m hx hu
      have b2 := b (by omega)
      obtain ⟨h3, h4⟩ := hx
      rw [a, fb_subI (by rw [e]; omega) (by rw [e]; omega), e, z0]
      omega
    · have er := rm_i hx hu
      obtain ⟨h3, h4⟩ := id hx
      obtain ⟨h5, h6⟩ := id hu
      have e1 : (x - x / u * u).toInt = x.toInt - (x.toInt / u.toInt * u.toInt + u.toInt) := by
        rw [fb_subI (by rw [e]; omega) (by rw [e]; omega), e]
      have : x - x / u * u + u = rm x u := by
        refine Int32.toInt_inj.mp ?_
        rw [er, fb_addI (by rw [e1]; omega) (by rw [e1]; omega), e1, Int.emod_def, Int.mul_comm u.toInt]
        omega
      rw [this]; exact hq
theorem p6_floor {x u : Int32} (hx : sm x) (hu : un u) {Q : Int32 → Prop} (hq : Q (flo x u)) : wX6_floor x u Q := by
  obtain ⟨l1, l2, -⟩ := td_cases (X := x.toInt) (U := u.toInt) (by have := hu.1; omega)
  refine ⟨un0 hu, fun d => ?_, fun d => ?_⟩
  · rcases dv_cases hx hu with ⟨a, -⟩ | ⟨a, b, e⟩
    · rw [a]; exact hq
    · rw [fa_le, e] at d; omega
  · rcases dv_cases hx hu with ⟨a, b⟩ | ⟨a, b, e⟩
    · rw [a, fa_le, flo_m hx hu] at d; omega
    · rw [b]; exact hq
/-- a heap with a test more on a mark -/
theorem dg_wt {h k v : Nat} (hh : h < 729) (hk : k < 3) (hd : dg h k = 0) (hv : v < 8) {j : Nat} (hj : j < 3) : dg (wt h k v) j = if j = k then v + 1 else dg h j := by
  rcases (show k = 0 ∨ k = 1 ∨ k = 2 by omega) with rfl | rfl | rfl <;> rcases (show j = 0 ∨ j = 1 ∨ j = 2 by omega) with rfl | rfl | rfl <;> simp [dg, wt] at * <;> omega
theorem okm_wt {h k v x : Nat} (hh : h < 729) (hk : k < 3) (hd : dg h k = 0) (hv : v < 8) (hx : x < 512) : okm (wt h k v) x = (okm h x && decide (v = x / 8 ^ k % 8)) := by
  rw [Bool.eq_iff_iff]
  simp only [okm, dg_wt hh hk hd hv (show 0 < 3 by omega), dg_wt hh hk hd hv (show 1 < 3 by omega), dg_wt hh hk hd hv (show 2 < 3 by omega), Bool.and_eq_true, Bool.or_eq_true, beq_iff_eq, decide_eq_true_eq]
  generalize e0 : dg h 0 = d0 at *
  generalize e1 : dg h 1 = d1 at *
  generalize e2 : dg h 2 = d2 at *
  rcases (show k = 0 ∨ k = 1 ∨ k = 2 by omega) with rfl | rfl | rfl
  · rw [hd] at e0
    subst e0
    simp
    omega
  · rw [hd] at e1
    subst e1
    simp
    omega
  · rw [hd] at e2
    subst e2
    simp
    omega
theorem sel_wt {S : S2} (ok : RowsOK S) {h k v : Nat} (hh : h < 729) (hk : k < 3) (hd : dg h k = 0) (hv : v < 8) (m : Int32) (r : Nat) : sel S (wt h k v) m r = (sel S h m r && decide (v = vw S r / 8 ^ k % 8)) := by
  rw [sel, sel, fit, fit, okm_wt hh hk hd hv (ok.2.1 r).1, Bool.and_assoc, Bool.and_assoc]
theorem sumI_at (b : Bool) (a : Nat) (y : Int32) : ∀ n, sumI (fun v => if (b && decide (v = a)) = true then y else 0) n = if b = true ∧ a < n then y else 0
  | 0 => by rw [sumI, if_neg (fun z => absurd z.2 (Nat.not_lt_zero _))]
  | n + 1 => by
    rw [sumI, sumI_at b a y n]
    cases b with
    | false => simp
    | true =>
      by_cases e : n = a
      · subst e
        simp
      · by_cases l : a < n
        · have l2 : a < n + 1 := by omega
          simp [e, l, l2]
        · have l2 : ¬ a < n + 1 := by omega
          simp [e, l, l2]
theorem sumI_plus (f g : Nat → Int32) : ∀ n, sumI (fun v => f v + g v) n = sumI f n + sumI g n
  | 0 => rfl
  | n + 1 => by
    rw [sumI, sumI, sumI, sumI_plus f g n, Int32.add_assoc, Int32.add_assoc, ← Int32.add_assoc (sumI g n), Int32.add_comm (sumI g n) (f n), Int32.add_assoc (f n)]
theorem sumI_nil {f : Nat → Int32} : ∀ {n : Nat}, (∀ v, v < n → f v = 0) → sumI f n = 0
  | 0, _ => rfl
  | n + 1, h => by rw [sumI, sumI_nil (fun v hv => h v (by omega)), h n (by omega)]; rfl
theorem acc_part {S : S2} (ok : RowsOK S) {h k : Nat} (hh : h < 729) (hk : k < 3) (hd : dg h k = 0) (m : Int32) : ∀ n, sumI (fun v => acc S (wt h k v) m 0 n) 8 = acc S h m 0 n
  | 0 => sumI_nil (fun _ _ => rfl)
  | n + 1 => by
    have e : ∀ h', acc S h' m 0 (n + 1) = acc S h' m 0 n + (if sel S h' m n = true then val S 0 n else 0) := fun h' => rfl
    have e2 : sumI (fun v => acc S (wt h k v) m 0 (n + 1)) 8 = sumI (fun v => acc S (wt h k v) m 0 n + (if (sel S h m n && decide (v = vw S n / 8 ^ k % 8)) = true then val S 0 n else 0)) 8 :=
      sumI_cong (fun v hv => by rw [e, sel_wt ok hh hk hd hv])
    rw [e2, sumI_plus, acc_part ok hh hk hd m n, e h, sumI_at]
    congr 1
    by_cases c : sel S h m n = true
    · rw [if_pos ⟨c, Nat.mod_lt _ (by decide)⟩, if_pos c]
    · rw [if_neg (fun z => c z.1), if_neg c]
theorem sumI_int {f : Nat → Int32} {B : Nat} : ∀ {n : Nat}, (∀ v, v < n → (f v).toInt.natAbs ≤ B) → n * B < 2147483648 → (sumI f n).toInt = fb_si (fun v => (f v).toInt) n ∧ (fb_si (fun v => (f v).toInt) n).natAbs ≤ n * B
  | 0, _, _ => ⟨(by decide : (0 : Int32).toInt = 0), Nat.zero_le _⟩
  | n + 1, h, hb => by
    have e : (n + 1) * B = n * B + B := Nat.succ_mul n B
    obtain ⟨i1, i2⟩ := sumI_int (fun v hv => h v (by omega)) (show n * B < 2147483648 by omega)
    have hn := h n (by omega)
    refine ⟨?_, ?_⟩
    · rw [sumI, fb_si_succ, fb_addI (by rw [i1]; omega) (by rw [i1]; omega), i1]
    · rw [fb_si_succ]; omega
theorem chg_i {S : S2} (ok : RowsOK S) (h : Nat) : (chg S h).toInt = (tops S h 1).toInt - (tops S h 0).toInt := by
  have h1 := tops_b ok h 1
  have h0 := tops_b ok h 0
  exact fb_subI (x := tops S h 1) (y := tops S h 0) (by omega) (by omega)
theorem chg_b {S : S2} (ok : RowsOK S) (h : Nat) : (chg S h).toInt.natAbs ≤ 23760 := by
  have h1 := tops_b ok h 1
  have h0 := tops_b ok h 0
  rw [chg_i ok]
  omega
theorem chg_s {S : S2} (ok : RowsOK S) (h : Nat) : sm (chg S h) := by
  have := chg_b ok h
  unfold sm
  omega
theorem tops_part {S : S2} (ok : RowsOK S) {h k : Nat} (hh : h < 729) (hk : k < 3) (hd : dg h k = 0) (m : Int32) : fb_si (fun v => (tops S (wt h k v) m).toInt) 8 = (tops S h m).toInt := by
  have := (sumI_int (f := fun v => tops S (wt h k v) m) (B := 11880) (n := 8) (fun v _ => by have := tops_b ok (wt h k v) m; omega) (by decide)).1
  rw [← this]
  exact congrArg Int32.toInt (acc_part ok hh hk hd m (nn S))
theorem chg_part {S : S2} (ok : RowsOK S) {h k : Nat} (hh : h < 729) (hk : k < 3) (hd : dg h k = 0) : fb_si (fun v => (chg S (wt h k v)).toInt) 8 = (chg S h).toInt := by
  rw [chg_i ok, ← tops_part ok hh hk hd 1, ← tops_part ok hh hk hd 0, ← fb_si_sub]
  exact fb_si_cong (fun v _ => chg_i ok _)
theorem si_split (c : Nat → Int) (U : Int) : ∀ n, fb_si c n = fb_si (fun v => c v % U) n + U * fb_si (fun v => c v / U) n
  | 0 => by rw [fb_si, fb_si, fb_si]; omega
  | n + 1 => by
    rw [fb_si_succ, fb_si_succ, fb_si_succ, si_split c U n, Int.mul_add]
    have := Int.emod_def (c n) U
    omega
theorem si_rest (c : Nat → Int) {U : Int} (hU : 0 < U) : ∀ n : Nat, 0 ≤ fb_si (fun v => c v % U) n ∧ (0 < n → fb_si (fun v => c v % U) n < n * U)
  | 0 => ⟨by rw [fb_si]; omega, fun z => absurd z (Nat.not_lt_zero _)⟩
  | n + 1 => by
    obtain ⟨h1, h2⟩ := si_rest c hU n
    have h3 := Int.emod_nonneg (c n) (show U ≠ 0 by omega)
    have h4 := Int.emod_lt_of_pos (c n) hU
    rw [fb_si_succ]
    refine ⟨by omega, fun _ => ?_⟩
    rw [show ((n + 1 : Nat) : Int) * U = (n : Int) * U + U by rw [Int.natCast_add, Int.add_mul]; simp]
    rcases Nat.eq_zero_or_pos n with z | z
    · subst z
      rw [fb_si]
      omega
    · have := h2 z
      omega
/-- how many parts go up by one -/
def mor (S : S2) (h k : Nat) (u : Int32) : Int32 := flo (chg S h) u - sumI (fun v => flo (chg S (wt h k v)) u) 8
theorem mor_n {S : S2} (ok : RowsOK S) {h k : Nat} (hh : h < 729) (hk : k < 3) (hd : dg h k = 0) {u : Int32} (hu : un u) : ∃ t : Nat, t < 8 ∧ mor S h k u = nI t := by
  have hU : 0 < u.toInt := by have := hu.1; omega
  have fb : ∀ h', (flo (chg S h') u).toInt.natAbs ≤ 23760 := fun h' => by
    rw [flo_i (chg_s ok h')]
    exact Nat.le_trans (q_abs _ _) (chg_b ok h')
  obtain ⟨s1, s2⟩ := sumI_int (f := fun v => flo (chg S (wt h k v)) u) (B := 23760) (n := 8) (fun v _ => fb _) (by decide)
  have e1 : fb_si (fun v => (flo (chg S (wt h k v)) u).toInt) 8 = fb_si (fun v => (chg S (wt h k v)).toInt / u.toInt) 8 := fb_si_cong (fun v _ => flo_i (chg_s ok _))
  have e2 := si_split (fun v => (chg S (wt h k v)).toInt) u.toInt 8
  rw [chg_part ok hh hk hd] at e2
  obtain ⟨r1, r2⟩ := si_rest (fun v => (chg S (wt h k v)).toInt) hU 8
  have r3 := r2 (by decide)
  have fh := fb h
  have e3 : (mor S h k u).toInt = fb_si (fun v => (chg S (wt h k v)).toInt % u.toInt) 8 / u.toInt := by
    unfold mor
    rw [fb_subI (by rw [s1]; omega) (by rw [s1]; omega), s1, flo_i (chg_s ok h), e1, e2, Int.add_mul_ediv_left _ _ (by omega)]
    omega
  have g1 : 0 ≤ fb_si (fun v => (chg S (wt h k v)).toInt % u.toInt) 8 / u.toInt := Int.ediv_nonneg r1 (by omega)
  have g2 : fb_si (fun v => (chg S (wt h k v)).toInt % u.toInt) 8 / u.toInt < 8 := Int.ediv_lt_of_lt_mul hU r3
  refine ⟨(mor S h k u).toInt.natAbs, by rw [e3]; omega, Int32.toInt_inj.mp ?_⟩
  rw [nI_toInt (by rw [e3]; omega), e3]
  omega
/-- which of two parts goes up first -/
def bef (r : Nat → Int32) (w v : Nat) : Bool := decide (r v < r w) || (decide (r w = r v) && decide (w < v))
theorem bef_iff (r : Nat → Int32) (w v : Nat) : bef r w v = true ↔ ((r v).toInt < (r w).toInt ∨ ((r w).toInt = (r v).toInt ∧ w < v)) := by
  rw [bef, Bool.or_eq_true, Bool.and_eq_true, decide_eq_true_eq, decide_eq_true_eq, decide_eq_true_eq, fa_lt, Int32.toInt_inj]
def Shut (r : Nat → Int32) (P : Nat → Bool) : Prop := ∀ w x, w < 8 → x < 8 → P w = true → bef r x w = true → P x = true
theorem rank_iff {r : Nat → Int32} {P : Nat → Bool} (hP : Shut r P) {v : Nat} (hv : v < 8) : P v = true ↔ fb_ct (fun w => bef r w v) 8 < fb_ct P 8 := by
  have bvv : bef r v v = false := by
    cases z : bef r v v with
    | false => rfl
    | true => have := (bef_iff r v v).mp z; omega
  refine ⟨fun h => ?_, fun h => ?_⟩
  · have e := fb_ct_upd (fun w => bef r w v) true hv
    rw [if_neg (by rw [bvv]; decide), if_pos rfl] at e
    have l : fb_ct (fun w => if w = v then true else bef r w v) 8 ≤ fb_ct P 8 := by
      refine fb_ct_sub (fun w hw z => ?_)
      by_cases q : w = v
      · rw [q]; exact h
      · rw [if_neg q] at z
        exact hP v w hv hw h z
    omega
  · cases z : P v with
    | true => rfl
    | false =>
      have l : fb_ct P 8 ≤ fb_ct (fun w => bef r w v) 8 := by
        refine fb_ct_sub (fun w hw y => ?_)
        cases b : bef r w v with
        | true => rfl
        | false =>
          have n1 : ¬ ((r v).toInt < (r w).toInt ∨ ((r w).toInt = (r v).toInt ∧ w < v)) := fun q => by
            rw [(bef_iff r w v).mpr q] at b; cases b
          have n2 : w ≠ v := fun q => by rw [q, z] at y; cases y
          have := hP w v hw hv y ((bef_iff r v w).mpr (by omega))
          rw [z] at this; cases this
      omega
/-- the first of the greatest -/
def bst (f : Nat → Int32) : Nat → Nat
  | 0 => 0
  | i + 1 => if f (i + 1) ≤ f (bst f i) then bst f i else i + 1
theorem bst_ok (f : Nat → Int32) : ∀ i, bst f i ≤ i ∧ (∀ j, j ≤ i → (f j).toInt ≤ (f (bst f i)).toInt) ∧ ∀ j, j < bst f i → (f j).toInt < (f (bst f i)).toInt
  | 0 => ⟨Nat.le_refl _, fun j hj => by rw [show j = 0 by omega]; exact Int.le_refl _, fun j hj => absurd hj (Nat.not_lt_zero _)⟩
  | i + 1 => by
    obtain ⟨h1, h2, h3⟩ := bst_ok f i
    rw [bst]
    by_cases c : f (i + 1) ≤ f (bst f i)
    · rw [if_pos c]
      rw [fa_le] at c
      refine ⟨by omega, fun j hj => ?_, h3⟩
      by_cases q : j = i + 1
      · rw [q]; exact c
      · exact h2 j (by omega)
    · rw [if_neg c]
      rw [fa_le] at c
      refine ⟨Nat.le_refl _, fun j hj => ?_, fun j hj => ?_⟩
      · by_cases q : j = i + 1
        · rw [q]; exact Int.le_refl _
        · have := h2 j (by omega)
          omega
      · have := h2 j (by omega)
        omega
theorem pick {r L : Nat → Int32} {P : Nat → Bool} (hr : ∀ v, v < 8 → 0 ≤ (r v).toInt) (hP : Shut r P) (hL : ∀ v, v < 8 → L v = if P v = true then -1 else r v) (hc : fb_ct P 8 < 8) : bst L 7 < 8 ∧ P (bst L 7) = false ∧ Shut r (fun k => if k = bst L 7 then true else P k) ∧ fb_ct (fun k => if k = bst L 7 then true else P k) 8 = fb_ct P 8 + 1 := by
  obtain ⟨h1, h2, h3⟩ := bst_ok L 7
  have hb : bst L 7 < 8 := by omega
  revert h1 h2 h3 hb
  generalize bst L 7 = b
  intro h1 h2 h3 hb
  have m1 : (-1 : Int32).toInt = -1 := by decide
  have hf : P b = false := by
    cases z : P b with
    | false => rfl
    | true =>
      exfalso
      have all : ∀ k, k < 8 → P k = true := fun k hk => by
        cases y : P k with
        | true => rfl
        | false =>
          have a := h2 k (by omega)
          rw [hL k hk, hL b hb, if_pos z, if_neg (by rw [y]; decide), m1] at a
          have := hr k hk
          omega
      rw [fb_ct_all.mpr all] at hc
      omega
  have eb : L b = r b := by rw [hL b hb, if_neg (by rw [hf]; decide)]
  refine ⟨hb, hf, ?_, ?_⟩
  · intro w x hw hx pw bx
    show (if x = b then true else P x) = true
    by_cases q : x = b
    · rw [if_pos q]
    · rw [if_neg q]
      have pw : (if w = b then true else P w) = true := pw
      by_cases q2 : w = b
      · cases y : P x with
        | true => rfl
        | false =>
          exfalso
          have ex : L x = r x := by rw [hL x hx, if_neg (by rw [y]; decide)]
          have a := h2 x (by omega)
          have bi := (bef_iff r x w).mp bx
          rw [q2] at bi
          rw [eb, ex] at a
          rcases bi with bi | ⟨bi, lt⟩
          · omega
          · have := h3 x lt
            rw [eb, ex] at this
            omega
      · rw [if_neg q2] at pw
        exact hP w x hw hx pw bx
  · have e := fb_ct_upd P true hb
    rw [hf, if_neg (by decide), if_pos rfl] at e
    exact e
