/-! sum, change: how many bits a long has -/
def cnb (X : Nat) : Nat → Nat
  | 0 => 0
  | k + 1 => cnb X k + (if X.testBit k = true then 1 else 0)
theorem cnb_split (X a : Nat) : ∀ k, cnb X (a + k) = cnb X a + cnb (X / 2 ^ a) k
  | 0 => rfl
  | k + 1 => by rw [← Nat.add_assoc, cnb, cnb, cnb_split X a k, Nat.testBit_div_two_pow, Nat.add_assoc, Nat.add_comm k a]
theorem cnb_low (X : Nat) {k : Nat} (hk : k ≤ 8) : cnb X k = cnb (X % 256) k := by
  induction k with
  | zero => rfl
  | succ k ih =>
    have e : (X % 256).testBit k = X.testBit k := by
      rw [show 256 = 2 ^ 8 from rfl, Nat.testBit_mod_two_pow, decide_eq_true (by omega), Bool.true_and]
    rw [cnb, cnb, ih (by omega), e]
theorem cnb8 (X k : Nat) : cnb X (8 + k) = cnb (X % 256) 8 + cnb (X / 256) k := by
  rw [cnb_split X 8 k, cnb_low X (Nat.le_refl 8)]
theorem land256 (u v : Nat) : u &&& v = (u % 256 &&& v % 256) + 256 * (u / 256 &&& v / 256) := by
  have h1 : (u &&& v) % 256 = (u % 256 &&& v % 256) := Nat.and_mod_two_pow (n := 8)
  have h2 : (u &&& v) / 256 = (u / 256 &&& v / 256) := Nat.and_div_two_pow (n := 8)
  have := Nat.mod_add_div (u &&& v) 256
  rw [← h1, ← h2]
  exact this.symm
def K1 : Nat → Nat
  | 0 => 0
  | n + 1 => 85 + 256 * K1 n
def K2 : Nat → Nat
  | 0 => 0
  | n + 1 => 51 + 256 * K2 n
def K3 : Nat → Nat
  | 0 => 0
  | n + 1 => 15 + 256 * K3 n
def ym (n X : Nat) : Nat := X - (X / 2 &&& K1 n)
def yn (n X : Nat) : Nat := (ym n X &&& K2 n) + (ym n X / 4 &&& K2 n)
def yo (n X : Nat) : Nat := (yn n X + yn n X / 16) &&& K3 n
def y1b (b : Nat) : Nat := b - (b / 2 &&& 85)
def y2b (b : Nat) : Nat := (y1b b &&& 51) + (y1b b / 4 &&& 51)
theorem c1 : ∀ b, b < 256 → ∀ t, t < 2 → (b / 2 + 128 * t) &&& 85 = b / 2 &&& 85 := by decide +kernel
theorem c2 : ∀ y, y < 256 → ∀ t, t < 4 → (y / 4 + 64 * t) &&& 51 = y / 4 &&& 51 := by decide +kernel
theorem c3 : ∀ b, b < 256 → ∀ t, t < 5 → (y2b b + y2b b / 16 + 16 * t) % 256 &&& 15 = cnb b 8 ∧ y2b b + y2b b / 16 + 16 * t < 256 := by decide +kernel
theorem c4 : ∀ b, b < 256 → y1b b < 256 ∧ b / 2 &&& 85 ≤ b ∧ y2b b < 256 ∧ y2b b % 16 < 5 := by decide +kernel
theorem ym_s (n b X : Nat) (hb : b < 256) : ym (n + 1) (b + 256 * X) = y1b b + 256 * ym n X := by
  have e1 : (b + 256 * X) / 2 % 256 = b / 2 + 128 * (X % 2) := by omega
  have e2 : (b + 256 * X) / 2 / 256 = X / 2 := by omega
  have e3 : K1 (n + 1) % 256 = 85 := by rw [K1]; omega
  have e4 : K1 (n + 1) / 256 = K1 n := by rw [K1]; omega
  have h1 := (c4 b hb).2.1
  have h2 : X / 2 &&& K1 n ≤ X := Nat.le_trans Nat.and_le_left (by omega)
  unfold ym y1b
  rw [land256, e1, e2, e3, e4, c1 b hb _ (Nat.mod_lt _ (by decide))]
  omega
theorem yn_s (n b X : Nat) (hb : b < 256) : yn (n + 1) (b + 256 * X) = y2b b + 256 * yn n X := by
  have h1 := (c4 b hb).1
  have e3 : K2 (n + 1) % 256 = 51 := by rw [K2]; omega
  have e4 : K2 (n + 1) / 256 = K2 n := by rw [K2]; omega
  unfold yn y2b
  rw [ym_s n b X hb, land256 (y1b b + 256 * ym n X), land256 ((y1b b + 256 * ym n X) / 4), e3, e4]
  rw [show (y1b b + 256 * ym n X) % 256 = y1b b by omega, show (y1b b + 256 * ym n X) / 256 = ym n X by omega, show (y1b b + 256 * ym n X) / 4 % 256 = y1b b / 4 + 64 * (ym n X % 4) by omega, show (y1b b + 256 * ym n X) / 4 / 256 = ym n X / 4 by omega, c2 _ h1 _ (Nat.mod_lt _ (by decide))]
  omega
theorem yn_16 : ∀ (n X : Nat), yn n X % 16 < 5
  | 0, X => by
    have : yn 0 X = 0 := by unfold yn K2; rw [Nat.and_zero, Nat.and_zero]
    rw [this]; decide
  | n + 1, X => by
    have h := c4 (X % 256) (Nat.mod_lt _ (by decide))
    have e := yn_s n (X % 256) (X / 256) (Nat.mod_lt _ (by decide))
    rw [Nat.mod_add_div] at e
    rw [e]
    omega
theorem yo_s (n b X : Nat) (hb : b < 256) : yo (n + 1) (b + 256 * X) = cnb b 8 + 256 * yo n X := by
  have h := c4 b hb
  obtain ⟨h5, h6⟩ := c3 b hb (yn n X % 16) (yn_16 n X)
  have e3 : K3 (n + 1) % 256 = 15 := by rw [K3]; omega
  have e4 : K3 (n + 1) / 256 = K3 n := by rw [K3]; omega
  unfold yo
  rw [yn_s n b X hb, land256, e3, e4]
  rw [show (y2b b + 256 * yn n X + (y2b b + 256 * yn n X) / 16) % 256 = (y2b b + y2b b / 16 + 16 * (yn n X % 16)) % 256 by omega, show (y2b b + 256 * yn n X + (y2b b + 256 * yn n X) / 16) / 256 = yn n X + yn n X / 16 by omega, h5]
theorem yo_d (n X : Nat) : yo (n + 1) X = cnb (X % 256) 8 + 256 * yo n (X / 256) := by
  have e := yo_s n (X % 256) (X / 256) (Nat.mod_lt _ (by decide))
  rw [Nat.mod_add_div] at e
  exact e
theorem cnb_le (X : Nat) : ∀ k, cnb X k ≤ k
  | 0 => Nat.le_refl _
  | k + 1 => by
    have := cnb_le X k
    rw [cnb]
    split <;> omega
theorem yo_0 (X : Nat) : yo 0 X = 0 := by unfold yo K3; rw [Nat.and_zero]
theorem sum8 (X : Nat) : ∃ p0 p1 p2 p3 p4 p5 p6 p7 : Nat, (p0 ≤ 8 ∧ p1 ≤ 8 ∧ p2 ≤ 8 ∧ p3 ≤ 8 ∧ p4 ≤ 8 ∧ p5 ≤ 8 ∧ p6 ≤ 8 ∧ p7 ≤ 8) ∧ yo 8 X = p0 + 256 * (p1 + 256 * (p2 + 256 * (p3 + 256 * (p4 + 256 * (p5 + 256 * (p6 + 256 * p7)))))) ∧ cnb X 64 = p0 + p1 + p2 + p3 + p4 + p5 + p6 + p7 := by
  refine ⟨_, _, _, _, _, _, _, _, ⟨cnb_le (X % 256) 8, cnb_le (X / 256 % 256) 8, cnb_le (X / 256 / 256 % 256) 8, cnb_le (X / 256 / 256 / 256 % 256) 8, cnb_le (X / 256 / 256 / 256 / 256 % 256) 8, cnb_le (X / 256 / 256 / 256 / 256 / 256 % 256) 8, cnb_le (X / 256 / 256 / 256 / 256 / 256 / 256 % 256) 8, cnb_le (X / 256 / 256 / 256 / 256 / 256 / 256 / 256 % 256) 8⟩, ?_, ?_⟩
  · rw [yo_d, yo_d, yo_d, yo_d, yo_d, yo_d, yo_d, yo_d, yo_0]
  · rw [show 64 = 8 + (8 + (8 + (8 + (8 + (8 + (8 + (8 + 0))))))) from rfl, cnb8, cnb8, cnb8, cnb8, cnb8, cnb8, cnb8, cnb8]
    simp only [cnb, Nat.add_zero]
    omega
theorem fold8 {p0 p1 p2 p3 p4 p5 p6 p7 Y : Nat} (h : p0 ≤ 8 ∧ p1 ≤ 8 ∧ p2 ≤ 8 ∧ p3 ≤ 8 ∧ p4 ≤ 8 ∧ p5 ≤ 8 ∧ p6 ≤ 8 ∧ p7 ≤ 8) (e : Y = p0 + 256 * (p1 + 256 * (p2 + 256 * (p3 + 256 * (p4 + 256 * (p5 + 256 * (p6 + 256 * p7))))))) : ((Y + Y / 256) + (Y + Y / 256) / 65536 + ((Y + Y / 256) + (Y + Y / 256) / 65536) / 4294967296) % 128 = p0 + p1 + p2 + p3 + p4 + p5 + p6 + p7 := by
  have a1 : Y / 256 = p1 + 256 * (p2 + 256 * (p3 + 256 * (p4 + 256 * (p5 + 256 * (p6 + 256 * p7))))) := by omega
  have a2 : Y + Y / 256 = (p0 + p1) + 256 * ((p1 + p2) + 256 * ((p2 + p3) + 256 * ((p3 + p4) + 256 * ((p4 + p5) + 256 * ((p5 + p6) + 256 * ((p6 + p7) + 256 * p7)))))) := by omega
  have a3 : (Y + Y / 256) / 65536 = (p2 + p3) + 256 * ((p3 + p4) + 256 * ((p4 + p5) + 256 * ((p5 + p6) + 256 * ((p6 + p7) + 256 * p7)))) := by omega
  have a4 : (Y + Y / 256) + (Y + Y / 256) / 65536 = (p0 + p1 + p2 + p3) + 256 * ((p1 + p2 + p3 + p4) + 256 * ((p2 + p3 + p4 + p5) + 256 * ((p3 + p4 + p5 + p6) + 256 * ((p4 + p5 + p6 + p7) + 256 * ((p5 + p6 + p7) + 256 * ((p6 + p7) + 256 * p7)))))) := by omega
  have a5 : ((Y + Y / 256) + (Y + Y / 256) / 65536) / 4294967296 = (p4 + p5 + p6 + p7) + 256 * ((p5 + p6 + p7) + 256 * ((p6 + p7) + 256 * p7)) := by rw [a4]; omega
  rw [a5, a4]
  omega
