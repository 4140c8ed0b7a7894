/-! part -/
theorem p6_digit {h k : Nat} (hh : h < 2 ^ 31) (hk : k < 3) {Q : Int32 → Prop} (hq : Q (nI (dg h k))) : wX6_digit (nI h) (nI k) Q := p_digit hh hk hq
def partu (S : S2) (p h : Nat) (kind : Int32) : Int64 := if kind = 0 then (((tops S p 1).toInt64 * (bass S p 0).toInt64) - ((tops S p 0).toInt64 * (bass S p 1).toInt64)) * (((bass S p 0).toInt64 * (bass S h 1).toInt64) + ((bass S p 1).toInt64 * (bass S h 0).toInt64)) else (((bass S p 1).toInt64 * (bass S h 0).toInt64) - ((bass S p 0).toInt64 * (bass S h 1).toInt64)) * (((tops S p 0).toInt64 * (bass S p 1).toInt64) + ((tops S p 1).toInt64 * (bass S p 0).toInt64))
theorem partu_ok {S : S2} (ok : RowsOK S) (p h : Nat) (kind : Int32) : -9223372036854775808 < (partu S p h kind).toInt := by
  obtain ⟨b0, l0, e0⟩ := bass_b ok h 0
  obtain ⟨b1, l1, e1⟩ := bass_b ok h 1
  obtain ⟨c0, k0, f0⟩ := bass_b ok p 0
  obtain ⟨c1, k1, f1⟩ := bass_b ok p 1
  have B0 := bd_lN l0 (by decide)
  have B1 := bd_lN l1 (by decide)
  have C0 := bd_lN k0 (by decide)
  have C1 := bd_lN k1 (by decide)
  have T0 := bd_top ok p 0
  have T1 := bd_top ok p 1
  unfold partu
  rw [e0, e1, f0, f1, bas_l l0, bas_l l1, bas_l k0, bas_l k1]
  split
  · exact bd_ok (bd_mul (bd_sub (bd_mul T1 C0 (by decide)) (bd_mul T0 C1 (by decide)) (by decide)) (bd_add (bd_mul C0 B1 (by decide)) (bd_mul C1 B0 (by decide)) (by decide)) (by decide)) (by decide)
  · exact bd_ok (bd_mul (bd_sub (bd_mul C1 B0 (by decide)) (bd_mul C0 B1 (by decide)) (by decide)) (bd_add (bd_mul T0 C1 (by decide)) (bd_mul T1 C0 (by decide)) (by decide)) (by decide)) (by decide)
theorem low4 {c0 c1 b0 b1 : Nat} (k0 : c0 ≤ 1080) (k1 : c1 ≤ 1080) (l0 : b0 ≤ 1080) (l1 : b1 ≤ 1080) (p0 : 0 < c0) (p1 : 0 < c1) (q0 : 0 < b0) (q1 : 0 < b1) : 0 < 2 * c0 * c1 * b0 * b1 ∧ 2 * c0 * c1 * b0 * b1 < 2 ^ 63 :=
  ⟨Nat.mul_pos (Nat.mul_pos (Nat.mul_pos (Nat.mul_pos (by decide) p0) p1) q0) q1, Nat.lt_of_le_of_lt (Nat.mul_le_mul (Nat.mul_le_mul (Nat.mul_le_mul (Nat.mul_le_mul (Nat.le_refl 2) k0) k1) l0) l1) (by decide)⟩
/-- what part answers where there is a parting -/
def partv (S : S2) (p h : Nat) (kind w : Int32) : Int64 := if bass S p 0 = 0 ∨ bass S p 1 = 0 then (if kind = 0 then tellv 0 1 w else tellv (diffu S p h) ((bass S h 0).toNatClampNeg * (bass S h 1).toNatClampNeg) w) else tellv (partu S p h kind) (2 * (bass S p 0).toNatClampNeg * (bass S p 1).toNatClampNeg * (bass S h 0).toNatClampNeg * (bass S h 1).toNatClampNeg) w
theorem eq_part : Eq_part rl := by
  intro S M a1 a2 a3 a4 a5 R
  obtain ⟨R1, R2, R3⟩ := id R
  have ok := R1.1
  by_cases C : isO a1 a2 ∧ inR a3 0 7 ∧ inR a4 0 1 ∧ inR a5 0 1
  · obtain ⟨c1, c3, c4, c5⟩ := C
    obtain ⟨h, k, hh, hk, rfl, rfl, hd⟩ := id c1
    obtain ⟨v, hv, rfl⟩ := inR_nI (n := 7) (by decide) c3
    have hp : wt h k v < 729 := wt_lt hh hk hd (by omega)
    have w1 : inR (nI h) 0 728 := ⟨nI_pos' (by omega), nI_le (b := 728) (by omega) (by decide)⟩
    have w2 : inR (nI k) 0 2 := ⟨nI_pos' (by omega), nI_le (b := 2) (by omega) (by decide)⟩
    obtain ⟨b0, l0', e0⟩ := bass_b ok h 0
    obtain ⟨b1, l1', e1⟩ := bass_b ok h 1
    obtain ⟨c0, k0', f0⟩ := bass_b ok (wt h k v) 0
    obtain ⟨c1', k1', f1⟩ := bass_b ok (wt h k v) 1
    have g0 : (bass S.1 h 0).toInt64 = lN b0 := by rw [e0, bas_l l0']
    have g1 : (bass S.1 h 1).toInt64 = lN b1 := by rw [e1, bas_l l1']
    have i0 : (bass S.1 (wt h k v) 0).toInt64 = lN c0 := by rw [f0, bas_l k0']
    have i1 : (bass S.1 (wt h k v) 1).toInt64 = lN c1' := by rw [f1, bas_l k1']
    have z0 : bass S.1 (wt h k v) 0 = 0 ↔ c0 = 0 := by rw [f0]; exact nI_eq (b := 0) (by omega) (by decide)
    have z1 : bass S.1 (wt h k v) 1 = 0 ↔ c1' = 0 := by rw [f1]; exact nI_eq (b := 0) (by omega) (by decide)
    have n0 : (bass S.1 h 0).toNatClampNeg = b0 := by rw [e0]; exact nI_clamp (by omega)
    have n1 : (bass S.1 h 1).toNatClampNeg = b1 := by rw [e1]; exact nI_clamp (by omega)
    have m0 : (bass S.1 (wt h k v) 0).toNatClampNeg = c0 := by rw [f0]; exact nI_clamp (by omega)
    have m1 : (bass S.1 (wt h k v) 1).toNatClampNeg = c1' := by rw [f1]; exact nI_clamp (by omega)
    have dl : (bass S.1 h 0).toInt64 * (bass S.1 h 1).toInt64 = lN (b0 * b1) := by rw [g0, g1, lN_mul]
    have dl4 : ((((2 : Int64) * (bass S.1 (wt h k v) 0).toInt64) * (bass S.1 (wt h k v) 1).toInt64) * (bass S.1 h 0).toInt64) * (bass S.1 h 1).toInt64 = lN (2 * c0 * c1' * b0 * b1) := by
      rw [i0, i1, g0, g1, show (2 : Int64) = lN 2 from rfl, lN_mul, lN_mul, lN_mul, lN_mul]
    have vz : c0 = 0 ∨ c1' = 0 → partv S.1 (wt h k v) h a4 a5 = if a4 = 0 then tellv 0 1 a5 else tellv (diffu S.1 (wt h k v) h) (b0 * b1) a5 := by
      intro z
      rw [partv, if_pos (by rcases z with z | z; exact Or.inl (z0.mpr z); exact Or.inr (z1.mpr z)), n0, n1]
    have vn : 0 < c0 → 0 < c1' → partv S.1 (wt h k v) h a4 a5 = tellv (partu S.1 (wt h k v) h a4) (2 * c0 * c1' * b0 * b1) a5 := by
      intro x y
      rw [partv, if_neg (by rintro (z | z); exact absurd (z0.mp z) (by omega); exact absurd (z1.mp z) (by omega)), n0, n1, m0, m1]
    have six : ∀ {Q : Int64 → Prop}, ((b0 = 0 ∨ b1 = 0 → Q (-4000000000000000000)) ∧ (0 < b0 → 0 < b1 → Q (partv S.1 (wt h k v) h a4 a5))) → wX6_part M (nI h) (nI k) (nI v) a4 a5 Q := by
      intro Q q
      refine p_in (fun _ => p_in (fun _ => p_in (fun _ => p_in (fun _ => p_in (fun _ => p6_digit (by omega) hk ⟨fun _ => p6_bass R1 hh (p6_bass R1 hh ?_), fun z => absurd ((dg0 hh).mpr hd) z⟩) (fun z => absurd c5 z)) (fun z => absurd c4 z)) (fun z => absurd c3 z)) (fun z => absurd w2 z)) (fun z => absurd w1 z)
      refine ⟨fun z => q.1 (Or.inl ?_), fun z => ⟨fun z2 => q.1 (Or.inr ?_), fun z2 => p6_place hk (fun y ey => ?_)⟩⟩
      · rw [g0] at z; exact (l0 (by omega)).mp z
      · rw [g1] at z2; exact (l0 (by omega)).mp z2
      · have p0 : 0 < b0 := Nat.pos_of_ne_zero (fun k => z (by rw [g0, k]; rfl))
        have p1 : 0 < b1 := Nat.pos_of_ne_zero (fun k => z2 (by rw [g1, k]; rfl))
        have hq := q.2 p0 p1
        obtain ⟨s0, s1⟩ := mul_small l0' l1' p0 p1
        rw [p6_wt] at ey
        rw [ey]
        have zero : c0 = 0 ∨ c1' = 0 → ((a4 = 0 → (wX6_lowest (0 : Int64) (1 : Int64) a5 (fun r_16 : Int64 => Q r_16))) ∧ (¬ a4 = 0 → (wX6_lowest (((tops S.1 (wt h k v) 1).toInt64 * (bass S.1 h 0).toInt64) - ((tops S.1 (wt h k v) 0).toInt64 * (bass S.1 h 1).toInt64)) ((bass S.1 h 0).toInt64 * (bass S.1 h 1).toInt64) a5 (fun r_15 : Int64 => Q r_15)))) := by
          intro zz
          rw [vz zz] at hq
          refine ⟨fun d => ?_, fun d => ?_⟩
          · rw [if_pos d] at hq
            exact p6_lowest (L := 1) (by decide) (by decide) (by decide) hq
          · rw [if_neg d] at hq
            rw [dl]
            exact p6_lowest (diffu_ok ok (wt h k v) h) s0 s1 hq
        refine p6_tops R1 hp (p6_bass R1 hp (p6_tops R1 hp (p6_bass R1 hp ⟨fun z => zero (Or.inl ?_), fun z => ⟨fun z2 => zero (Or.inr ?_), fun z2 y2 ey2 => ?_⟩⟩)))
        · rw [i0] at z; exact (l0 (by omega)).mp z
        · rw [i1] at z2; exact (l0 (by omega)).mp z2
        · have t0 : 0 < c0 := Nat.pos_of_ne_zero (fun k => z (by rw [i0, k]; rfl))
          have t1 : 0 < c1' := Nat.pos_of_ne_zero (fun k => z2 (by rw [i1, k]; rfl))
          obtain ⟨u0, u1⟩ := low4 k0' k1' l0' l1' t0 t1 p0 p1
          rw [vn t0 t1] at hq
          rw [ey2, dl4]
          refine ⟨fun d y3 ey3 => ?_, fun d y3 ey3 => ?_⟩
          · have e3 : y3 = partu S.1 (wt h k v) h a4 := by rw [ey3, partu, if_pos d]
            rw [e3]
            exact p6_lowest (partu_ok ok _ _ _) u0 u1 hq
          · have e3 : y3 = partu S.1 (wt h k v) h a4 := by rw [ey3, partu, if_neg d]
            rw [e3]
            exact p6_lowest (partu_ok ok _ _ _) u0 u1 hq
    refine p_isOpen (fun _ => ⟨fun z => absurd z (by decide), fun _ => p_in (fun _ => p_in (fun _ => p_in (fun _ => p_hasRates ok hh l0' l1' e0 e1 (fun p0 p1 => p_withTest hh hk hd ?_) (fun z => six ⟨fun _ => ⟨rfl, R⟩, fun p0 p1 => by rcases z with z | z <;> omega⟩)) (fun z => absurd c5 z)) (fun z => absurd c4 z)) (fun z => absurd c3 z)⟩) (fun z => absurd c1 z)
    obtain ⟨s0, s1⟩ := mul_small l0' l1' p0 p1
    have fin : wX6_part M (nI h) (nI k) (nI v) a4 a5 (fun r' : Int64 => partv S.1 (wt h k v) h a4 a5 = r' ∧ rl S M) := six ⟨fun z => by rcases z with z | z <;> omega, fun _ _ => ⟨rfl, R⟩⟩
    refine p_hasRates ok hp k0' k1' f0 f1 (fun t0 t1 => ?_) (fun z => ⟨fun d => ?_, fun d => ?_⟩)
    · obtain ⟨u0, u1⟩ := low4 k0' k1' l0' l1' t0 t1 p0 p1
      rw [vn t0 t1] at fin
      refine p_tops ok hp (p_tops ok hp (p_bass ok hp (p_bass ok hp (p_bass ok hh (p_bass ok hh (fun y ey => ?_))))))
      rw [ey, dl4]
      refine ⟨fun d y3 ey3 => ?_, fun d y3 ey3 => ?_⟩
      · have e3 : y3 = partu S.1 (wt h k v) h a4 := by rw [ey3, partu, if_pos d]
        rw [e3]
        exact p_tell (partu_ok ok _ _ _) u0 u1 fin
      · have e3 : y3 = partu S.1 (wt h k v) h a4 := by rw [ey3, partu, if_neg d]
        rw [e3]
        exact p_tell (partu_ok ok _ _ _) u0 u1 fin
    · rw [vz z, if_pos d] at fin
      exact p_tell (L := 1) (by decide) (by decide) (by decide) fin
    · rw [vz z, if_neg d] at fin
      exact p_difference ok hp hh l0' l1' e0 e1 p0 p1 fin
  · have n6 : wX6_part M a1 a2 a3 a4 a5 (fun r' : Int64 => -4000000000000000000 = r' ∧ rl S M) := by
      refine p_in (fun x1 => p_in (fun x2 => p_in (fun x3 => p_in (fun x4 => p_in (fun x5 => ?_) (fun _ => ⟨rfl, R⟩)) (fun _ => ⟨rfl, R⟩)) (fun _ => ⟨rfl, R⟩)) (fun _ => ⟨rfl, R⟩)) (fun _ => ⟨rfl, R⟩)
      obtain ⟨h, hh, rfl⟩ := inR_nI (n := 728) (by decide) x1
      obtain ⟨k, hk, rfl⟩ := inR_nI (n := 2) (by decide) x2
      exact p6_digit (by omega) (by omega) ⟨fun c => absurd ⟨⟨h, k, by omega, by omega, rfl, rfl, (dg0 (by omega)).mp c⟩, x3, x4, x5⟩ C, fun _ => ⟨rfl, R⟩⟩
    exact p_isOpen (fun x1 => ⟨fun z => absurd z (by decide), fun _ => p_in (fun x3 => p_in (fun x4 => p_in (fun x5 => absurd ⟨x1, x3, x4, x5⟩ C) (fun _ => n6)) (fun _ => n6)) (fun _ => n6)⟩) (fun _ => ⟨fun _ => n6, fun z => absurd rfl z⟩)
