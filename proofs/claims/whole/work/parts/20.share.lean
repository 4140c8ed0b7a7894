/-! share -/
def sumL : List Int32 → Int32
  | [] => 0
  | x :: l => x + sumL l
theorem sumL_app : ∀ (a b : List Int32), sumL (a ++ b) = sumL a + sumL b
  | [], b => by rw [List.nil_append, sumL, Int32.zero_add]
  | x :: a, b => by rw [List.cons_append, sumL, sumL, sumL_app a b, Int32.add_assoc]
/-- a sum over the numbers that are wanted -/
theorem sumI_list (g : Nat → Option Nat) (D : Nat → Int32) : ∀ n, sumI (fun x => match g x with | some a => D a | none => 0) n = sumL (((List.range n).filterMap g).map D)
  | 0 => rfl
  | n + 1 => by
    rw [sumI, sumI_list g D n, List.range_succ, List.filterMap_append, List.map_append, sumL_app]
    congr 1
    cases h : g n with
    | none => simp [h, sumL]
    | some a => simp [h, sumL]
theorem sumI_add (f g : Nat → Int32) : ∀ n, sumI (fun r => f r + g r) n = sumI f n + sumI g n
  | 0 => by rw [sumI, sumI, sumI, Int32.add_zero]
  | n + 1 => by
    rw [sumI, sumI, sumI, sumI_add f g n]
    ac_rfl
theorem sumI_zero : ∀ n, sumI (fun _ => 0) n = 0
  | 0 => rfl
  | n + 1 => by rw [sumI, sumI_zero n, Int32.add_zero]
theorem sumI_one (D : Nat → Int32) (b : Nat) : ∀ n, sumI (fun a => if b = a then D a else 0) n = if b < n then D b else 0
  | 0 => rfl
  | n + 1 => by
    rw [sumI, sumI_one D b n]
    by_cases h : b = n
    · rw [if_neg (by omega), if_pos h, if_pos (by omega), Int32.zero_add, h]
    · by_cases h2 : b < n
      · rw [if_pos h2, if_neg h, if_pos (by omega), Int32.add_zero]
      · rw [if_neg h2, if_neg h, if_neg (by omega), Int32.add_zero]
theorem nI_1s : nI 1 = 1 := rfl
/-- the same, by how often each comes -/
theorem sumL_count (D : Nat → Int32) : ∀ (L : List Nat), (∀ x ∈ L, x < 32) → sumL (L.map D) = sumI (fun a => nI (L.count a) * D a) 32
  | [], _ => by
    rw [List.map_nil, sumL]
    rw [show (fun a => nI (([] : List Nat).count a) * D a) = (fun _ => (0 : Int32)) from funext (fun a => by rw [List.count_nil, nI_0, Int32.zero_mul])]
    exact (sumI_zero 32).symm
  | b :: L, h => by
    rw [List.map_cons, sumL, sumL_count D L (fun x hx => h x (List.mem_cons_of_mem _ hx))]
    have e : (fun a => nI ((b :: L).count a) * D a) = (fun a => nI (L.count a) * D a + (if b = a then D a else 0)) := by
      funext a
      rw [List.count_cons]
      by_cases q : b = a
      · subst q
        rw [if_pos rfl, beq_self_eq_true, if_pos rfl, ← nI_add, Int32.add_mul, nI_1s, Int32.one_mul]
      · rw [if_neg q, if_neg (by simpa using q), Nat.add_zero, Int32.add_zero]
    rw [e, sumI_add, sumI_one, if_pos (h b List.mem_cons_self), Int32.add_comm]
/-- the turns of an order: what has been seen, what stood ahead -/
def sn (x : Nat) : Nat → Nat
  | 0 => 0
  | k + 1 => sn x k ||| 2 ^ (x / 5 ^ k % 5)
def ah (i x : Nat) : Nat → Nat
  | 0 => 0
  | k + 1 => if x / 5 ^ k % 5 = i then sn x k else ah i x k
def ordg (i x : Nat) : Option Nat := if sn x 5 = 31 then some (ah i x 5) else none
def ordl_0 : List Nat := [30, 30, 30, 30, 30, 30, 30, 30, 30, 30, 30, 30, 30, 30, 30, 30, 30, 30, 30, 30, 30, 30, 30, 30, 28, 28, 28, 28, 28, 28, 24, 24, 16, 0, 8, 0, 20, 20, 16, 0, 4, 0, 12, 12, 8, 0, 4, 0, 26, 26, 26, 26, 26, 26, 24, 24, 16, 0, 8, 0, 18, 18, 16, 0, 2, 0, 10, 10, 8, 0, 2, 0, 22, 22, 22, 22, 22, 22, 20, 20, 16, 0, 4, 0, 18, 18, 16, 0, 2, 0, 6, 6, 4, 0, 2, 0, 14, 14, 14, 14, 14, 14, 12, 12, 8, 0, 4, 0, 10, 10, 8, 0, 2, 0, 6, 6, 4, 0, 2, 0]
def ordl_1 : List Nat := [28, 28, 28, 28, 28, 28, 24, 24, 16, 0, 8, 0, 20, 20, 16, 0, 4, 0, 12, 12, 8, 0, 4, 0, 29, 29, 29, 29, 29, 29, 29, 29, 29, 29, 29, 29, 29, 29, 29, 29, 29, 29, 29, 29, 29, 29, 29, 29, 24, 24, 16, 0, 8, 0, 25, 25, 25, 25, 25, 25, 16, 0, 17, 17, 0, 1, 8, 0, 9, 9, 0, 1, 20, 20, 16, 0, 4, 0, 21, 21, 21, 21, 21, 21, 16, 0, 17, 17, 0, 1, 4, 0, 5, 5, 0, 1, 12, 12, 8, 0, 4, 0, 13, 13, 13, 13, 13, 13, 8, 0, 9, 9, 0, 1, 4, 0, 5, 5, 0, 1]
def ordl_2 : List Nat := [24, 24, 16, 0, 8, 0, 26, 26, 26, 26, 26, 26, 16, 0, 18, 18, 0, 2, 8, 0, 10, 10, 0, 2, 24, 24, 16, 0, 8, 0, 25, 25, 25, 25, 25, 25, 16, 0, 17, 17, 0, 1, 8, 0, 9, 9, 0, 1, 27, 27, 27, 27, 27, 27, 27, 27, 27, 27, 27, 27, 27, 27, 27, 27, 27, 27, 27, 27, 27, 27, 27, 27, 16, 0, 18, 18, 0, 2, 16, 0, 17, 17, 0, 1, 19, 19, 19, 19, 19, 19, 0, 2, 0, 1, 3, 3, 8, 0, 10, 10, 0, 2, 8, 0, 9, 9, 0, 1, 11, 11, 11, 11, 11, 11, 0, 2, 0, 1, 3, 3]
def ordl_3 : List Nat := [16, 0, 20, 20, 0, 4, 16, 0, 18, 18, 0, 2, 22, 22, 22, 22, 22, 22, 0, 4, 0, 2, 6, 6, 16, 0, 20, 20, 0, 4, 16, 0, 17, 17, 0, 1, 21, 21, 21, 21, 21, 21, 0, 4, 0, 1, 5, 5, 16, 0, 18, 18, 0, 2, 16, 0, 17, 17, 0, 1, 19, 19, 19, 19, 19, 19, 0, 2, 0, 1, 3, 3, 23, 23, 23, 23, 23, 23, 23, 23, 23, 23, 23, 23, 23, 23, 23, 23, 23, 23, 23, 23, 23, 23, 23, 23, 0, 4, 0, 2, 6, 6, 0, 4, 0, 1, 5, 5, 0, 2, 0, 1, 3, 3, 7, 7, 7, 7, 7, 7]
def ordl_4 : List Nat := [0, 8, 0, 4, 12, 12, 0, 8, 0, 2, 10, 10, 0, 4, 0, 2, 6, 6, 14, 14, 14, 14, 14, 14, 0, 8, 0, 4, 12, 12, 0, 8, 0, 1, 9, 9, 0, 4, 0, 1, 5, 5, 13, 13, 13, 13, 13, 13, 0, 8, 0, 2, 10, 10, 0, 8, 0, 1, 9, 9, 0, 2, 0, 1, 3, 3, 11, 11, 11, 11, 11, 11, 0, 4, 0, 2, 6, 6, 0, 4, 0, 1, 5, 5, 0, 2, 0, 1, 3, 3, 7, 7, 7, 7, 7, 7, 15, 15, 15, 15, 15, 15, 15, 15, 15, 15, 15, 15, 15, 15, 15, 15, 15, 15, 15, 15, 15, 15, 15, 15]
def ordl (i : Nat) : List Nat := match i with
  | 0 => ordl_0
  | 1 => ordl_1
  | 2 => ordl_2
  | 3 => ordl_3
  | _ => ordl_4
set_option maxRecDepth 100000 in
theorem ordl_0_ok : (List.range 3125).filterMap (ordg 0) = ordl_0 := by decide +kernel
set_option maxRecDepth 100000 in
theorem ordl_1_ok : (List.range 3125).filterMap (ordg 1) = ordl_1 := by decide +kernel
set_option maxRecDepth 100000 in
theorem ordl_2_ok : (List.range 3125).filterMap (ordg 2) = ordl_2 := by decide +kernel
set_option maxRecDepth 100000 in
theorem ordl_3_ok : (List.range 3125).filterMap (ordg 3) = ordl_3 := by decide +kernel
set_option maxRecDepth 100000 in
theorem ordl_4_ok : (List.range 3125).filterMap (ordg 4) = ordl_4 := by decide +kernel
theorem ordl_ok {i : Nat} (hi : i < 5) : (List.range 3125).filterMap (ordg i) = ordl i := by
  rcases (show i = 0 ∨ i = 1 ∨ i = 2 ∨ i = 3 ∨ i = 4 by omega) with rfl | rfl | rfl | rfl | rfl
  · exact ordl_0_ok
  · exact ordl_1_ok
  · exact ordl_2_ok
  · exact ordl_3_ok
  · exact ordl_4_ok
theorem ordl_lt : ∀ i, i < 5 → ∀ x ∈ ordl i, x < 32 := by decide +kernel
/-- how many of five -/
def pc5 (a : Nat) : Nat := a % 2 + a / 2 % 2 + a / 4 % 2 + a / 8 % 2 + a / 16 % 2
theorem ordl_cnt : ∀ i, i < 5 → ∀ a, a < 32 → nI ((ordl i).count a) = (if a &&& 2 ^ i = 0 then tb_O (pc5 a) else 0) := by decide +kernel
def bc32 (a0 : Int32) : Int32 :=
  let y1 := a0 - (((a0.toUInt32 >>> ((1 : Int32).toUInt32 &&& Int32.toUInt32 31)).toInt32) &&& (1431655765 : Int32))
  let y2 := (y1 &&& (858993459 : Int32)) + (((y1.toUInt32 >>> ((2 : Int32).toUInt32 &&& Int32.toUInt32 31)).toInt32) &&& (858993459 : Int32))
  let y3 := (y2 + ((y2.toUInt32 >>> ((4 : Int32).toUInt32 &&& Int32.toUInt32 31)).toInt32)) &&& (252645135 : Int32)
  let y4 := y3 + ((y3.toUInt32 >>> ((8 : Int32).toUInt32 &&& Int32.toUInt32 31)).toInt32)
  let y5 := y4 + ((y4.toUInt32 >>> ((16 : Int32).toUInt32 &&& Int32.toUInt32 31)).toInt32)
  y5 &&& (63 : Int32)
theorem bc_5 : ∀ a, a < 32 → bc32 (nI a) = nI (pc5 a) := by decide +kernel
theorem p_bc5 {a : Nat} (ha : a < 32) {Q : Int32 → Prop} (hq : Q (nI (pc5 a))) : wJ6_bitCount_0f7a4 (nI a) Q := by
  intro y1 e1 y2 e2 y3 e3 y4 e4 y5 e5
  rw [← bc_5 a ha] at hq
  subst e1; subst e2; subst e3; subst e4; subst e5
  exact hq
/-- what switching a factor does, those of a set ahead of it -/
def swd (K : S4) (i s : Nat) : Int32 := outc K (nI s ||| nI (2 ^ i)) - outc K (nI s)
def shv (K : S4) (i : Nat) : Int32 := sumI (fun a => if a &&& 2 ^ i = 0 then tb_O (pc5 a) * swd K i a else 0) 32
theorem own_i : ∀ i, i < 5 → (1 : Int32) <<< (nI i &&& 31) = nI (2 ^ i) := by decide +kernel
theorem pc5_lt {a : Nat} : pc5 a ≤ 5 := by unfold pc5; omega
theorem pc5_4 : ∀ i, i < 5 → ∀ a, a < 32 → a &&& 2 ^ i = 0 → pc5 a < 5 := by decide +kernel
theorem and0 {a i : Nat} (ha : a < 32) : nI a &&& nI (2 ^ i) = 0 ↔ a &&& 2 ^ i = 0 := by
  rw [fa_and]
  exact nI_eq (b := 0) (Nat.lt_of_le_of_lt Nat.and_le_left (by omega)) (by decide)
theorem p_over {K : S4} {i : Nat} (hi : i < 5) {Q : Int32 → Prop} (hq : Q (shv K i)) : wX4_overAllOrders K (nI i) Q := by
  refine p_in (fun _ => fun y ey => ?_) (fun z => absurd ⟨nI_pos' (by omega), nI_le (b := 4) (by omega) (by decide)⟩ z)
  rw [own_i i hi] at ey
  rw [ey]
  refine iter_st (fun a => (sumI (fun a => if a &&& 2 ^ i = 0 then tb_O (pc5 a) * swd K i a else 0) a, nI a)) 0 32 (by decide) (fun a ha again hg => ?_) (fun again => ⟨fun _ => hq, fun c => absurd (by decide) c⟩)
  refine ⟨fun c => absurd c (i_nlt.mpr (nI_le (b := 31) (by omega) (by decide))), fun _ => ⟨fun c => p_bc5 ha ⟨vp_in_nI (pc5_4 i hi a ha ((and0 ha).mp c)) (by decide), p_result (p_result (fun y ey => ?_))⟩, fun c => ?_⟩⟩
  · rw [ey, nI_clamp (by have := pc5_lt (a := a); omega), nI_1]
    rw [sumI, if_pos ((and0 ha).mp c)] at hg
    exact hg
  · rw [nI_1]
    rw [sumI, if_neg (fun z => c ((and0 ha).mpr z)), Int32.add_zero] at hg
    exact hg
theorem sn_lt (x : Nat) : ∀ k, sn x k < 32
  | 0 => (by decide : (0 : Nat) < 32)
  | k + 1 => by
    have h5 : x / 5 ^ k % 5 < 5 := Nat.mod_lt _ (by decide)
    exact Nat.or_lt_two_pow (n := 5) (sn_lt x k) (Nat.pow_lt_pow_right (by decide) h5)
theorem ah_lt (i x : Nat) : ∀ k, ah i x k < 32
  | 0 => (by decide : (0 : Nat) < 32)
  | k + 1 => by
    rw [ah]
    split
    · exact sn_lt x k
    · exact ah_lt i x k
theorem p6_order {M : S6} {i x : Nat} (hi : i < 5) (hx : x < 3125) {p2 p3 p4 : Int32} {K : Int32 × Int32 × Int32 × Int32 → Prop} (hK : K (nI (sn x 5), nI (ah i x 5), nI (x / 5 ^ 5), nI 5)) : ∃ n : Nat, iter (sX6_share_47 M (nI i) p2 p3 p4 K) n (0, 0, nI x, 0) := by
  have e0 : ((0, 0, nI x, 0) : Int32 × Int32 × Int32 × Int32) = (nI (sn x 0), nI (ah i x 0), nI (x / 5 ^ 0), nI 0) := by rw [Nat.pow_zero, Nat.div_one]; rfl
  rw [e0]
  refine iter_st (fun k => (nI (sn x k), nI (ah i x k), nI (x / 5 ^ k), nI k)) 0 5 (by decide) (fun k hk again hg => ?_) (fun again => ⟨fun _ => hK, fun c => absurd (by decide) c⟩)
  have hle : x / 5 ^ k ≤ x := Nat.div_le_self _ _
  have r5 : nI (x / 5 ^ k) - nI (x / 5 ^ k) / 5 * 5 = nI (x / 5 ^ k % 5) := pk_rem (d := 5) (by omega) (by decide) (by decide)
  have d5 : nI (x / 5 ^ k) / 5 = nI (x / 5 ^ (k + 1)) := by rw [show nI (x / 5 ^ k) / 5 = nI (x / 5 ^ k / 5) from pk_div (d := 5) (by omega) (by decide) (by decide), Nat.div_div_eq_div_mul, ← Nat.pow_succ]
  have h5 : x / 5 ^ k % 5 < 5 := Nat.mod_lt _ (by decide)
  simp only [sX6_share_47, r5]
  simp only [d5]
  rw [own_i _ h5, fa_or, nI_1]
  refine ⟨fun c => absurd c (i_nle.mpr (nI_lt (b := 5) hk (by decide))), fun _ => ⟨fun c y ey => ?_, fun c y ey => ?_⟩⟩
  · rw [ey]
    have : x / 5 ^ k % 5 = i := (nI_eq (by omega) (by omega)).mp c
    rw [ah, if_pos this] at hg
    exact hg
  · rw [ey]
    have : ¬ x / 5 ^ k % 5 = i := fun z => c (by rw [z])
    rw [ah, if_neg this] at hg
    exact hg
def shF (K : S4) (i x : Nat) : Int32 := match ordg i x with
  | some a => swd K i a
  | none => 0
theorem shF_sum (K : S4) {i : Nat} (hi : i < 5) : sumI (shF K i) 3125 = shv K i := by
  have e := sumI_list (ordg i) (swd K i) 3125
  rw [ordl_ok hi, sumL_count _ _ (ordl_lt i hi)] at e
  refine Eq.trans e (sumI_cong (fun a ha => ?_))
  show nI ((ordl i).count a) * swd K i a = if a &&& 2 ^ i = 0 then tb_O (pc5 a) * swd K i a else 0
  rw [ordl_cnt i hi a ha]
  split
  · rfl
  · rw [Int32.zero_mul]
theorem p6_share {K : S4} {M : S6} (R : m_bf M = K.1 ∧ m_af M = K.2) {i : Nat} (hi : i < 5) {p2 : Int32} {KK : Int32 × Int32 → Prop} (hK : KK (shv K i, nI 3125)) : ∃ n : Nat, iter (sX6_share_26 M (nI i) p2 KK) n (0, 0) := by
  refine iter_st (fun x => (sumI (shF K i) x, nI x)) 0 3125 (by decide) (fun x hx again hg => ?_) (fun again => ⟨fun _ => by rw [shF_sum K hi]; exact hK, fun c => absurd (by decide) c⟩)
  refine ⟨fun c => absurd c (i_nle.mpr (nI_lt (b := 3125) hx (by decide))), fun _ => p6_order hi hx ⟨fun c => ?_, fun c => ?_⟩⟩
  · rw [own_i i hi]
    refine p6_comes R (p6_comes R ?_)
    have h31 : sn x 5 = 31 := (nI_eq (b := 31) (by have := sn_lt x 5; omega) (by decide)).mp c
    rw [sumI, shF, ordg, if_pos h31] at hg
    rw [nI_1]
    exact hg
  · have h31 : ¬ sn x 5 = 31 := fun z => c (by rw [z]; rfl)
    rw [sumI, shF, ordg, if_neg h31] at hg
    rw [nI_1]
    exact hg
theorem wide_ok (x : Int32) : -9223372036854775808 < x.toInt64.toInt := by
  rw [Int32.toInt_toInt64]
  have := fb_rng x
  omega
theorem eq_share : Eq_share rl := by
  intro S M a1 a2 R
  obtain ⟨R1, R2, R3⟩ := id R
  by_cases C : inR a1 0 4 ∧ inR a2 0 1
  · obtain ⟨c1, c2⟩ := C
    obtain ⟨i, hi, rfl⟩ := inR_nI (n := 4) (by decide) c1
    have s6 : wX6_share M (nI i) a2 (fun r' : Int32 => (tellv (shv S.2.1 i).toInt64 120 a2).toInt32 = r' ∧ rl S M) := by
      refine p_in (fun _ => p_in (fun _ => ?_) (fun z => absurd c2 z)) (fun z => absurd c1 z)
      refine p6_share R2 (by omega) ?_
      exact p6_lowest (L := 120) (wide_ok _) (by decide) (by decide) ⟨rfl, R⟩
    exact p_in (fun _ => p_in (fun _ => p_over (by omega) (p_tell (L := 120) (wide_ok _) (by decide) (by decide) s6)) (fun z => absurd c2 z)) (fun z => absurd c1 z)
  · have n6 : wX6_share M a1 a2 (fun r' : Int32 => -1000000 = r' ∧ rl S M) := p_in (fun x1 => p_in (fun x2 => absurd ⟨x1, x2⟩ C) (fun _ => ⟨rfl, R⟩)) (fun _ => ⟨rfl, R⟩)
    exact p_in (fun x1 => p_in (fun x2 => absurd ⟨x1, x2⟩ C) (fun _ => n6)) (fun _ => n6)
