/-! sum, change: how many bits a long has -/
def cnb (X : Nat) : Nat → Nat
  | 0 => 0
  | k + 1 => cnb X k + (if X.testBit k = true then 1 else 0)
theorem cnb_split (X a : Nat) : ∀ k, cnb X (a + k) = cnb X a + cnb (X / 2 ^ a) k
  | 0 => rfl
  | k + 1 => by rw [← Nat.add_assoc, cnb, cnb, cnb_split X a k, Nat.testBit_div_two_pow, Nat.add_assoc, Nat.add_comm k a]
theorem cnb_low (X : Nat) {k : Nat} (hk : k ≤ 8) : cnb X k = cnb (X % 256) k := by
  induction k with
  | zero => rfl
  | succ k ih =>
    have e : (X % 256).testBit k = X.testBit k := by
      rw [show 256 = 2 ^ 8 from rfl, Nat.testBit_mod_two_pow, decide_eq_true (by omega), Bool.true_and]
    rw [cnb, cnb, ih (by omega), e]
theorem cnb8 (X k : Nat) : cnb X (8 + k) = cnb (X % 256) 8 + cnb (X / 256) k := by
  rw [cnb_split X 8 k, cnb_low X (Nat.le_refl 8)]
theorem land256 (u v : Nat) : u &&& v = (u % 256 &&& v % 256) + 256 * (u / 256 &&& v / 256) := by
  have h1 : (u &&& v) % 256 = (u % 256 &&& v % 256) := Nat.and_mod_two_pow (n := 8)
  have h2 : (u &&& v) / 256 = (u / 256 &&& v / 256) := Nat.and_div_two_pow (n := 8)
  have := Nat.mod_add_div (u &&& v) 256
  rw [← h1, ← h2]
  exact this.symm
def K1 : Nat → Nat
  | 0 => 0
  | n + 1 => 85 + 256 * K1 n
def K2 : Nat → Nat
  | 0 => 0
  | n + 1 => 51 + 256 * K2 n
def K3 : Nat → Nat
  | 0 => 0
  | n + 1 => 15 + 256 * K3 n
def ym (n X : Nat) : Nat := X - (X / 2 &&& K1 n)
def yn (n X : Nat) : Nat := (ym n X &&& K2 n) + (ym n X / 4 &&& K2 n)
def yo (n X : Nat) : Nat := (yn n X + yn n X / 16) &&& K3 n
def y1b (b : Nat) : Nat := b - (b / 2 &&& 85)
def y2b (b : Nat) : Nat := (y1b b &&& 51) + (y1b b / 4 &&& 51)
theorem c1 : ∀ b, b < 256 → ∀ t, t < 2 → (b / 2 + 128 * t) &&& 85 = b / 2 &&& 85 := by decide +kernel
theorem c2 : ∀ y, y < 256 → ∀ t, t < 4 → (y / 4 + 64 * t) &&& 51 = y / 4 &&& 51 := by decide +kernel
theorem c3 : ∀ b, b < 256 → ∀ t, t < 5 → (y2b b + y2b b / 16 + 16 * t) % 256 &&& 15 = cnb b 8 ∧ y2b b + y2b b / 16 + 16 * t < 256 := by decide +kernel
theorem c4 : ∀ b, b < 256 → y1b b < 256 ∧ b / 2 &&& 85 ≤ b ∧ y2b b < 256 ∧ y2b b % 16 < 5 := by decide +kernel
theorem ym_s (n b X : Nat) (hb : b < 256) : ym (n + 1) (b + 256 * X) = y1b b + 256 * ym n X := by
  have e1 : (b + 256 * X) / 2 % 256 = b / 2 + 128 * (X % 2) := by omega
  have e2 : (b + 256 * X) / 2 / 256 = X / 2 := by omega
  have e3 : K1 (n + 1) % 256 = 85 := by rw [K1]; omega
  have e4 : K1 (n + 1) / 256 = K1 n := by rw [K1]; omega
  have h1 := (c4 b hb).2.1
  have h2 : X / 2 &&& K1 n ≤ X := Nat.le_trans Nat.and_le_left (by omega)
  unfold ym y1b
  rw [land256, e1, e2, e3, e4, c1 b hb _ (Nat.mod_lt _ (by decide))]
  omega
theorem yn_s (n b X : Nat) (hb : b < 256) : yn (n + 1) (b + 256 * X) = y2b b + 256 * yn n X := by
  have h1 := (c4 b hb).1
  have e3 : K2 (n + 1) % 256 = 51 := by rw [K2]; omega
  have e4 : K2 (n + 1) / 256 = K2 n := by rw [K2]; omega
  unfold yn y2b
  rw [ym_s n b X hb, land256 (y1b b + 256 * ym n X), land256 ((y1b b + 256 * ym n X) / 4), e3, e4]
  rw [show (y1b b + 256 * ym n X) % 256 = y1b b by omega, show (y1b b + 256 * ym n X) / 256 = ym n X by omega, show (y1b b + 256 * ym n X) / 4 % 256 = y1b b / 4 + 64 * (ym n X % 4) by omega, show (y1b b + 256 * ym n X) / 4 / 256 = ym n X / 4 by omega, c2 _ h1 _ (Nat.mod_lt _ (by decide))]
  omega
theorem yn_16 : ∀ (n X : Nat), yn n X % 16 < 5
  | 0, X => by
    have : yn 0 X = 0 := by unfold yn K2; rw [Nat.and_zero, Nat.and_zero]
    rw [this]; decide
  | n + 1, X => by
    have h := c4 (X % 256) (Nat.mod_lt _ (by decide))
    have e := yn_s n (X % 256) (X / 256) (Nat.mod_lt _ (by decide))
    rw [Nat.mod_add_div] at e
    rw [e]
    omega
theorem yo_s (n b X : Nat) (hb : b < 256) : yo (n + 1) (b + 256 * X) = cnb b 8 + 256 * yo n X := by
  have h := c4 b hb
  obtain ⟨h5, h6⟩ := c3 b hb (yn n X % 16) (yn_16 n X)
  have e3 : K3 (n + 1) % 256 = 15 := by rw [K3]; omega
  have e4 : K3 (n + 1) / 256 = K3 n := by rw [K3]; omega
  unfold yo
  rw [yn_s n b X hb, land256, e3, e4]
  rw [show (y2b b + 256 * yn n X + (y2b b + 256 * yn n X) / 16) % 256 = (y2b b + y2b b / 16 + 16 * (yn n X % 16)) % 256 by omega, show (y2b b + 256 * yn n X + (y2b b + 256 * yn n X) / 16) / 256 = yn n X + yn n X / 16 by omega, h5]
theorem yo_d (n X : Nat) : yo (n + 1) X = cnb (X % 256) 8 + 256 * yo n (X / 256) := by
  have e := yo_s n (X % 256) (X / 256) (Nat.mod_lt _ (by decide))
  rw [Nat.mod_add_div] at e
  exact e
theorem cnb_le (X : Nat) : ∀ k, cnb X k ≤ k
  | 0 => Nat.le_refl _
  | k + 1 => by
    have := cnb_le X k
    rw [cnb]
    split <;> omega
theorem yo_0 (X : Nat) : yo 0 X = 0 := by unfold yo K3; rw [Nat.and_zero]
theorem sum8 (X : Nat) : ∃ p0 p1 p2 p3 p4 p5 p6 p7 : Nat, (p0 ≤ 8 ∧ p1 ≤ 8 ∧ p2 ≤ 8 ∧ p3 ≤ 8 ∧ p4 ≤ 8 ∧ p5 ≤ 8 ∧ p6 ≤ 8 ∧ p7 ≤ 8) ∧ yo 8 X = p0 + 256 * (p1 + 256 * (p2 + 256 * (p3 + 256 * (p4 + 256 * (p5 + 256 * (p6 + 256 * p7)))))) ∧ cnb X 64 = p0 + p1 + p2 + p3 + p4 + p5 + p6 + p7 := by
  refine ⟨_, _, _, _, _, _, _, _, ⟨cnb_le (X % 256) 8, cnb_le (X / 256 % 256) 8, cnb_le (X / 256 / 256 % 256) 8, cnb_le (X / 256 / 256 / 256 % 256) 8, cnb_le (X / 256 / 256 / 256 / 256 % 256) 8, cnb_le (X / 256 / 256 / 256 / 256 / 256 % 256) 8, cnb_le (X / 256 / 256 / 256 / 256 / 256 / 256 % 256) 8, cnb_le (X / 256 / 256 / 256 / 256 / 256 / 256 / 256 % 256) 8⟩, ?_, ?_⟩
  · rw [yo_d, yo_d, yo_d, yo_d, yo_d, yo_d, yo_d, yo_d, yo_0, Nat.mul_zero, Nat.add_zero]
  · rw [show 64 = 8 + (8 + (8 + (8 + (8 + (8 + (8 + (8 + 0))))))) from rfl, cnb8, cnb8, cnb8, cnb8, cnb8, cnb8, cnb8, cnb8]
    simp only [cnb, Nat.add_zero]
    omega
theorem dv {a : Nat} (b : Nat) (h : a < 256) : (a + 256 * b) / 256 = b := by
  rw [Nat.add_mul_div_left _ _ (by decide), Nat.div_eq_of_lt h, Nat.zero_add]
theorem dv2 {a b : Nat} (c : Nat) (h : a < 256) (h2 : b < 256) : (a + 256 * (b + 256 * c)) / 65536 = c := by
  rw [show 65536 = 256 * 256 from rfl, ← Nat.div_div_eq_div_mul, dv _ h, dv _ h2]
theorem dv4 {a b c d : Nat} (e : Nat) (h : a < 256) (h2 : b < 256) (h3 : c < 256) (h4 : d < 256) : (a + 256 * (b + 256 * (c + 256 * (d + 256 * e)))) / 4294967296 = e := by
  rw [show 4294967296 = 65536 * 65536 from rfl, ← Nat.div_div_eq_div_mul, dv2 _ h h2, dv2 _ h3 h4]
theorem md {a : Nat} (b : Nat) (h : a < 128) : (a + 256 * b) % 128 = a := by
  rw [show 256 * b = 128 * (2 * b) by omega, Nat.add_mul_mod_self_left, Nat.mod_eq_of_lt h]
theorem ar1 (p0 p1 p2 p3 p4 p5 p6 p7 : Nat) : p0 + 256 * (p1 + 256 * (p2 + 256 * (p3 + 256 * (p4 + 256 * (p5 + 256 * (p6 + 256 * p7)))))) + (p1 + 256 * (p2 + 256 * (p3 + 256 * (p4 + 256 * (p5 + 256 * (p6 + 256 * p7)))))) = (p0 + p1) + 256 * ((p1 + p2) + 256 * ((p2 + p3) + 256 * ((p3 + p4) + 256 * ((p4 + p5) + 256 * ((p5 + p6) + 256 * ((p6 + p7) + 256 * p7)))))) := by omega
theorem ar2 (p0 p1 p2 p3 p4 p5 p6 p7 : Nat) : (p0 + p1) + 256 * ((p1 + p2) + 256 * ((p2 + p3) + 256 * ((p3 + p4) + 256 * ((p4 + p5) + 256 * ((p5 + p6) + 256 * ((p6 + p7) + 256 * p7)))))) + ((p2 + p3) + 256 * ((p3 + p4) + 256 * ((p4 + p5) + 256 * ((p5 + p6) + 256 * ((p6 + p7) + 256 * p7))))) = (p0 + p1 + p2 + p3) + 256 * ((p1 + p2 + p3 + p4) + 256 * ((p2 + p3 + p4 + p5) + 256 * ((p3 + p4 + p5 + p6) + 256 * ((p4 + p5 + p6 + p7) + 256 * ((p5 + p6 + p7) + 256 * ((p6 + p7) + 256 * p7)))))) := by omega
theorem ar3 (p0 p1 p2 p3 p4 p5 p6 p7 B D : Nat) : p0 + p1 + p2 + p3 + 256 * B + (p4 + p5 + p6 + p7 + 256 * D) = (p0 + p1 + p2 + p3 + p4 + p5 + p6 + p7) + 256 * (B + D) := by omega
theorem fold8 {p0 p1 p2 p3 p4 p5 p6 p7 Y : Nat} (h : p0 ≤ 8 ∧ p1 ≤ 8 ∧ p2 ≤ 8 ∧ p3 ≤ 8 ∧ p4 ≤ 8 ∧ p5 ≤ 8 ∧ p6 ≤ 8 ∧ p7 ≤ 8) (e : Y = p0 + 256 * (p1 + 256 * (p2 + 256 * (p3 + 256 * (p4 + 256 * (p5 + 256 * (p6 + 256 * p7))))))) : ((Y + Y / 256) + (Y + Y / 256) / 65536 + ((Y + Y / 256) + (Y + Y / 256) / 65536) / 4294967296) % 128 = p0 + p1 + p2 + p3 + p4 + p5 + p6 + p7 := by
  have a1 : Y / 256 = p1 + 256 * (p2 + 256 * (p3 + 256 * (p4 + 256 * (p5 + 256 * (p6 + 256 * p7))))) := by rw [e]; exact dv _ (by omega)
  have a2 : Y + Y / 256 = (p0 + p1) + 256 * ((p1 + p2) + 256 * ((p2 + p3) + 256 * ((p3 + p4) + 256 * ((p4 + p5) + 256 * ((p5 + p6) + 256 * ((p6 + p7) + 256 * p7)))))) := by rw [a1, e]; exact ar1 ..
  have a3 : (Y + Y / 256) / 65536 = (p2 + p3) + 256 * ((p3 + p4) + 256 * ((p4 + p5) + 256 * ((p5 + p6) + 256 * ((p6 + p7) + 256 * p7)))) := by rw [a2]; exact dv2 _ (by omega) (by omega)
  have a4 : (Y + Y / 256) + (Y + Y / 256) / 65536 = (p0 + p1 + p2 + p3) + 256 * ((p1 + p2 + p3 + p4) + 256 * ((p2 + p3 + p4 + p5) + 256 * ((p3 + p4 + p5 + p6) + 256 * ((p4 + p5 + p6 + p7) + 256 * ((p5 + p6 + p7) + 256 * ((p6 + p7) + 256 * p7)))))) := by rw [a3, a2]; exact ar2 ..
  have a5 : ((Y + Y / 256) + (Y + Y / 256) / 65536) / 4294967296 = (p4 + p5 + p6 + p7) + 256 * ((p5 + p6 + p7) + 256 * ((p6 + p7) + 256 * p7)) := by rw [a4]; exact dv4 _ (by omega) (by omega) (by omega) (by omega)
  rw [a5, a4]
  generalize (p1 + p2 + p3 + p4) + 256 * ((p2 + p3 + p4 + p5) + 256 * ((p3 + p4 + p5 + p6) + 256 * ((p4 + p5 + p6 + p7) + 256 * ((p5 + p6 + p7) + 256 * ((p6 + p7) + 256 * p7))))) = B
  generalize (p5 + p6 + p7) + 256 * ((p6 + p7) + 256 * p7) = D
  clear a1 a2 a3 a4 a5 e
  rw [ar3]
  exact md _ (by omega)
theorem K1_8 : lN (K1 8) = 6148914691236517205 := by decide +kernel
theorem K2_8 : lN (K2 8) = 3689348814741910323 := by decide +kernel
theorem K3_8 : lN (K3 8) = 1085102592571150095 := by decide +kernel
theorem K2_v : K2 8 = 3689348814741910323 := by decide +kernel
theorem K3_v : K3 8 = 1085102592571150095 := by decide +kernel
/-- bitCount -/
theorem p_bitCount {X : Nat} (hX : X < 2 ^ 64) {Q : Int32 → Prop} (hq : Q (nI (cnb X 64))) : wJ13_bitCount_95d88 (lN X) Q := by
  intro y1 e1 y2 e2 y3 e3 y4 e4 y5 e5 y6 e6
  have l1 : X / 2 &&& K1 8 ≤ X := Nat.le_trans Nat.and_le_left (by omega)
  have s1 : ((lN X).toUInt64 >>> ((1 : Int32).toInt64.toUInt64 &&& Int64.toUInt64 63)).toInt64 = lN (X / 2) := wb_shr (k := 1) hX (by decide)
  have f1 : y1 = lN (ym 8 X) := by rw [e1, s1, ← K1_8, fb_andL, lN_sub l1]; rfl
  have b1 : ym 8 X < 2 ^ 64 := Nat.lt_of_le_of_lt (Nat.sub_le _ _) hX
  have s2 : ((lN (ym 8 X)).toUInt64 >>> ((2 : Int32).toInt64.toUInt64 &&& Int64.toUInt64 63)).toInt64 = lN (ym 8 X / 4) := wb_shr (k := 2) b1 (by decide)
  have f2 : y2 = lN (yn 8 X) := by rw [e2, f1, s2, ← K2_8, fb_andL, fb_andL, lN_add]; rfl
  have b2 : yn 8 X < 2 ^ 64 := by
    have q1 : ym 8 X &&& K2 8 ≤ K2 8 := Nat.and_le_right
    have q2 : ym 8 X / 4 &&& K2 8 ≤ K2 8 := Nat.and_le_right
    have q3 : yn 8 X ≤ K2 8 + K2 8 := Nat.add_le_add q1 q2
    rw [K2_v] at q3
    omega
  have s3 : ((lN (yn 8 X)).toUInt64 >>> ((4 : Int32).toInt64.toUInt64 &&& Int64.toUInt64 63)).toInt64 = lN (yn 8 X / 16) := wb_shr (k := 4) b2 (by decide)
  have f3 : y3 = lN (yo 8 X) := by rw [e3, f2, s3, lN_add, ← K3_8, fb_andL]; rfl
  have b3 : yo 8 X ≤ 1085102592571150095 := by
    have q1 : yo 8 X ≤ K3 8 := Nat.and_le_right
    rw [K3_v] at q1
    exact q1
  obtain ⟨p0, p1, p2, p3, p4, p5, p6, p7, hp, hy, hc⟩ := sum8 X
  have fin := fold8 hp hy
  rw [← hc] at fin
  revert b3 f3 fin
  generalize yo 8 X = Y
  intro f3 b3 fin
  have s4 : ((lN Y).toUInt64 >>> ((8 : Int32).toInt64.toUInt64 &&& Int64.toUInt64 63)).toInt64 = lN (Y / 256) := wb_shr (k := 8) (by omega) (by decide)
  have f4 : y4 = lN (Y + Y / 256) := by rw [e4, f3, s4, lN_add]
  have b4 : Y + Y / 256 ≤ 2170205185142300190 := by omega
  revert b4 f4 fin
  generalize Y + Y / 256 = Z
  intro fin f4 b4
  have s5 : ((lN Z).toUInt64 >>> ((16 : Int32).toInt64.toUInt64 &&& Int64.toUInt64 63)).toInt64 = lN (Z / 65536) := wb_shr (k := 16) (by omega) (by decide)
  have f5 : y5 = lN (Z + Z / 65536) := by rw [e5, f4, s5, lN_add]
  have b5 : Z + Z / 65536 ≤ 4340410370284600380 := by omega
  revert b5 f5 fin
  generalize Z + Z / 65536 = W
  intro fin f5 b5
  have s6 : ((lN W).toUInt64 >>> ((32 : Int32).toInt64.toUInt64 &&& Int64.toUInt64 63)).toInt64 = lN (W / 4294967296) := wb_shr (k := 32) (by omega) (by decide)
  rw [e6, f5, s6, lN_add, lN_i, show (127 : Int32) = nI (2 ^ 7 - 1) from rfl, fa_mask, show 2 ^ 7 = 128 from rfl, fin]
  exact hq
/-- the members of a heap's rows, as bits -/
def qm (S : S2) (r : Nat) : Nat := (r_mb S r).toNatClampNeg
theorem qm_ok {S : S2} (ok : RowsOK S) (r : Nat) : qm S r < 64 ∧ r_mb S r = nI (qm S r) := by
  obtain ⟨q, h1, h2⟩ := ok.2.2.2.2.2.1 r
  have e : qm S r = q := by unfold qm; rw [h2]; exact nI_clamp (by omega)
  rw [e]
  exact ⟨h1, h2⟩
def sbn (S : S2) (h : Nat) (m : Int32) : Nat → Nat
  | 0 => 0
  | r + 1 => if sel S h m r = true then sbn S h m r ||| 2 ^ qm S r else sbn S h m r
theorem seen_n {S : S2} (ok : RowsOK S) (h : Nat) (m : Int32) : ∀ n, seen S h m n = lN (sbn S h m n) ∧ sbn S h m n < 2 ^ 64
  | 0 => ⟨rfl, (by decide : (0 : Nat) < 2 ^ 64)⟩
  | n + 1 => by
    obtain ⟨i1, i2⟩ := seen_n ok h m n
    obtain ⟨q1, q2⟩ := qm_ok ok n
    by_cases hs : sel S h m n = true
    · have e2 : (1 : Int64) <<< ((nI (qm S n)).toInt64 &&& 63) = lN (2 ^ qm S n) := by
        have := wb_shl 1 (k := qm S n) q1
        rw [Nat.one_mul] at this
        exact this
      rw [seen_y hs, sbn, if_pos hs, i1]
      refine ⟨?_, Nat.or_lt_two_pow i2 (Nat.pow_lt_pow_right (by decide) q1)⟩
      rw [q2, e2, fb_orL]
    · rw [seen, sbn, if_neg hs, if_neg hs]
      exact ⟨i1, i2⟩
theorem sbn_bit {S : S2} (ok : RowsOK S) (h : Nat) (m : Int32) {p : Nat} (hp : p < 64) : ∀ n, (sbn S h m n).testBit p = anyN (fun r => sel S h m r && decide (r_mb S r = nI p)) n
  | 0 => by rw [sbn, anyN, Nat.zero_testBit]
  | n + 1 => by
    obtain ⟨q1, q2⟩ := qm_ok ok n
    have ih := sbn_bit ok h m hp n
    by_cases hs : sel S h m n = true
    · rw [sbn, if_pos hs, fb_bit_set, ih, anyN, hs, Bool.true_and, q2]
      congr 1
      exact decide_eq_decide.mpr ⟨fun z => by rw [z], fun z => ((nI_eq (by omega) (by omega)).mp z).symm⟩
    · rw [sbn, if_neg hs, ih, anyN, show sel S h m n = false from by simpa using hs, Bool.false_and, Bool.or_false]
theorem cnb_dist {S : S2} (ok : RowsOK S) (h : Nat) (m : Int32) : ∀ k, k ≤ 64 → cnb (sbn S h m (nn S)) k = dist S h m k
  | 0, _ => rfl
  | k + 1, hk => by
    rw [cnb, dist, cnb_dist ok h m k (by omega), sbn_bit ok h m (by omega), hasR]
/-- every measure of the class -/
theorem p_tot {S : S2} (ok : RowsOK S) {h : Nat} (hh : h < 729) {m ms : Int32} {Q : Int32 → Prop} (hq : Q (tot S h m ms)) : wX2_total S (nI h) m ms Q := by
  by_cases h3 : ms = 3
  · subst h3
    refine p_total3 ok hh ?_
    obtain ⟨i1, i2⟩ := seen_n ok h m (nn S)
    rw [i1]
    refine p_bitCount i2 ?_
    rw [cnb_dist ok h m 64 (Nat.le_refl _)]
    rw [tot, if_pos rfl] at hq
    exact hq
  · rw [tot, if_neg h3] at hq
    exact p_total ok hh h3 hq
theorem eq_sum : Eq_sum rl := by
  intro S M a1 a2 a3 R
  obtain ⟨R1, R2, R3⟩ := id R
  have ok := R1.1
  by_cases C : inR a1 0 728 ∧ inR a2 0 1 ∧ inR a3 0 3
  · obtain ⟨c1, c2, c3⟩ := C
    obtain ⟨h, hh, rfl⟩ := inR_nI (n := 728) (by decide) c1
    refine p_in (fun _ => p_in (fun _ => p_in (fun _ => p_tot ok (by omega) ?_) (fun z => absurd c3 z)) (fun z => absurd c2 z)) (fun z => absurd c1 z)
    exact p_in (fun _ => p_in (fun _ => p_in (fun _ => p6_measured R1 (by omega) c3 ⟨rfl, R⟩) (fun z => absurd c3 z)) (fun z => absurd c2 z)) (fun z => absurd c1 z)
  · have n6 : wX6_sum M a1 a2 a3 (fun r' : Int32 => -1000000 = r' ∧ rl S M) := p_in (fun x1 => p_in (fun x2 => p_in (fun x3 => absurd ⟨x1, x2, x3⟩ C) (fun _ => ⟨rfl, R⟩)) (fun _ => ⟨rfl, R⟩)) (fun _ => ⟨rfl, R⟩)
    exact p_in (fun x1 => p_in (fun x2 => p_in (fun x3 => absurd ⟨x1, x2, x3⟩ C) (fun _ => n6)) (fun _ => n6)) (fun _ => n6)
theorem eq_change : Eq_change rl := by
  intro S M a1 a2 R
  obtain ⟨R1, R2, R3⟩ := id R
  have ok := R1.1
  by_cases C : inR a1 0 728 ∧ inR a2 0 3
  · obtain ⟨c1, c2⟩ := C
    obtain ⟨h, hh, rfl⟩ := inR_nI (n := 728) (by decide) c1
    refine p_in (fun _ => p_in (fun _ => p_tot ok (by omega) (p_tot ok (by omega) ?_)) (fun z => absurd c2 z)) (fun z => absurd c1 z)
    exact p_in (fun _ => p_in (fun _ => p6_changed R1 (by omega) c2 ⟨rfl, R⟩) (fun z => absurd c2 z)) (fun z => absurd c1 z)
  · have n6 : wX6_change M a1 a2 (fun r' : Int32 => -1000000 = r' ∧ rl S M) := p_in (fun x1 => p_in (fun x2 => absurd ⟨x1, x2⟩ C) (fun _ => ⟨rfl, R⟩)) (fun _ => ⟨rfl, R⟩)
    exact p_in (fun x1 => p_in (fun x2 => absurd ⟨x1, x2⟩ C) (fun _ => n6)) (fun _ => n6)
