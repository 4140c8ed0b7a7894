/-! seek and count, on -/
def TG (S : SX) : S3 := tgT S.1 S.2.2 728
theorem tg_tail (S : S2) (T : S3) (j : Nat) : (tgT S T j).2.2.2.2.2.2 = T.2.2.2.2.2.2 := rfl
theorem tg_sz (S : S2) (T : S3) (j : Nat) : (tgT S T j).2.2.2.2.2.1 = nI (ec S (j + 1)) := rfl
theorem tg_at (S : S2) (T : S3) {j : Nat} (hj : j ≤ 728) {k : Nat} (hk : k < ec S (j + 1)) : (tgT S T j).1 k = nI (en S k) ∧ (tgT S T j).2.1 k = chg S (en S k) ∧ (tgT S T j).2.2.1 k = nI (ts (en S k)) ∧ (tgT S T j).2.2.2.1 k = lN (b0 S (en S k)) ∧ (tgT S T j).2.2.2.2.1 k = lN (b1 S (en S k)) :=
  ⟨bl_at S T.1 (fun h => nI h) j hj k hk, bl_at S T.2.1 (chg S) j hj k hk, bl_at S T.2.2.1 (fun h => nI (ts h)) j hj k hk, bl_at S T.2.2.2.1 (fun h => lN (b0 S h)) j hj k hk, bl_at S T.2.2.2.2.1 (fun h => lN (b1 S h)) j hj k hk⟩
theorem StR_tail {T T' : S3} {M : S6} (h : T'.2.2.2.2.2.2 = T.2.2.2.2.2.2) (r : StR T M) : StR T' M := by
  unfold StR at *
  show m_ex M = T'.2.2.2.2.2.2.1 ∧ ((T'.2.2.2.2.2.2.2.1 = 0 ∧ m_fd M = -1) ∨ (T'.2.2.2.2.2.2.2.1 = 1 ∧ m_fd M = T'.2.2.2.2.2.2.2.2.1 ∧ (T'.2.2.2.2.2.2.2.2.1 = 0 ∨ T'.2.2.2.2.2.2.2.2.1 = 1 ∨ T'.2.2.2.2.2.2.2.2.1 = 2) ∧ m_f1 M = T'.2.2.2.2.2.2.2.2.2.1 ∧ m_f2 M = T'.2.2.2.2.2.2.2.2.2.2.1 ∧ m_fr M = T'.2.2.2.2.2.2.2.2.2.2.2.1))
  rw [h]
  exact r
theorem p6_struck {S : S2} {M : S6} (R : RR S M) {Q : Int32 → Prop} (hq : Q (sumI (r_sk S) (nn S))) : ∃ n : Nat, iter (sX6_count_35 M (fun (x2, x3) => Q x2)) n (0, 0) := by
  refine iter_st (fun r => (sumI (r_sk S) r, nI r)) 0 (nn S) (Nat.zero_le _) (fun r hr again hk => ?_) (fun again => ⟨fun _ => hq, fun c => absurd (l6_end R) c⟩)
  obtain ⟨hlt, hin, e⟩ := l6_in R hr
  obtain ⟨ok, e0, e1, e2, e3, e4, e5, e6, e7⟩ := id R
  simp only [sX6_count_35, e, e6]
  have hk2 : again (sumI (r_sk S) r + S.2.2.2.2.2.2.1 r, nI r + 1) := by rw [nI_1]; exact hk
  refine ⟨fun c => absurd c hlt, fun _ => ⟨hin, fun c => ?_, fun c => ?_⟩⟩
  · rw [c] at hk2; exact hk2
  · have h1 : S.2.2.2.2.2.2.1 r = 1 := (ok.2.2.2.2.2.2.1 r).resolve_left c
    rw [h1] at hk2; exact hk2
theorem p6_heaps {S : S2} {M : S6} (R : RR S M) {Q : Int32 → Prop} (hq : Q (nI (ec S 729))) : ∃ n : Nat, iter (sX6_count_70 M (fun (x2, x3) => Q x2)) n (0, 1) := by
  have e0 : ((0, 1) : Int32 × Int32) = (nI (ec S 1), nI 1) := by rw [ec1]; rfl
  rw [e0]
  refine iter_st (fun h => (nI (ec S h), nI h)) 1 729 (by decide) (fun h hh again hk => ?_) (fun again => ⟨fun _ => hq, fun c => absurd (by decide) c⟩)
  refine ⟨fun c => absurd c (i_nle.mpr (nI_lt (b := 729) hh (by decide))), fun _ => p6_mayTell R hh (fun m => ⟨fun q => absurd q (by decide), fun _ => ?_⟩) (fun m => ⟨fun _ => ?_, fun q => absurd rfl q⟩)⟩
  · rw [ec_y m] at hk; rw [nI_1, nI_1]; exact hk
  · rw [ec_n m] at hk; rw [nI_1, Int32.add_zero]; exact hk
theorem eq_count : Eq_count rl := by
  intro S M a1 R
  obtain ⟨R1, R2, R3⟩ := id R
  have ok := R1.1
  refine ⟨fun c => ?_, fun c => ⟨fun d => ?_, fun d => ⟨fun f => ?_, fun f => ?_⟩⟩⟩
  · exact ⟨fun _ => ⟨R1.2.1.symm, R⟩, fun z => absurd c z⟩
  · refine p_struckOnes ok ?_
    exact ⟨fun z => absurd z c, fun _ => ⟨fun _ => p6_struck (Q := fun r' : Int32 => sumI (r_sk S.1) (nn S.1) = r' ∧ rl S M) R1 ⟨rfl, R⟩, fun z => absurd d z⟩⟩
  · refine p_gather ok ?_
    exact ⟨fun z => absurd z c, fun _ => ⟨fun z => absurd z d, fun _ => ⟨fun _ => p6_heaps (Q := fun r' : Int32 => nI (ec S.1 729) = r' ∧ rl (S.1, S.2.1, tgT S.1 S.2.2 728) M) R1 ⟨rfl, R1, R2, StR_tail (tg_tail _ _ _) R3⟩, fun z => absurd f z⟩⟩⟩
  · exact ⟨fun z => absurd z c, fun _ => ⟨fun z => absurd z d, fun _ => ⟨fun z => absurd z f, fun _ => ⟨rfl, R⟩⟩⟩⟩
/-- one heap, two heaps are offered -/
def oneb (S : S2) (l c : Int32) (h : Nat) (b : Bst) : Bst := if b.2.2.2.2 ≤ absI (l - chg S h) + c * nI (ts h) then b else (1, nI h, -1, l - chg S h, absI (l - chg S h) + c * nI (ts h))
def twob (S : S2) (l c : Int32) (a h : Nat) (b : Bst) : Bst := if b.2.2.2.2 ≤ absI (l - chg S a - chg S h) + c * (nI (ts a) + nI (ts h)) then b else if both S a h = true then b else (2, nI a, nI h, l - chg S a - chg S h, absI (l - chg S a - chg S h) + c * (nI (ts a) + nI (ts h)))
def ones (S : S2) (l c : Int32) (b : Bst) : Nat → Bst
  | 0 => b
  | i + 1 => oneb S l c (en S i) (ones S l c b i)
def inn (S : S2) (l c : Int32) (i : Nat) (b : Bst) : Nat → Bst
  | 0 => b
  | m + 1 => twob S l c (en S i) (en S (i + 1 + m)) (inn S l c i b m)
def twos (S : S2) (l c : Int32) (N : Nat) (b : Bst) : Nat → Bst
  | 0 => b
  | i + 1 => inn S l c i (twos S l c N b i) (N - (i + 1))
def okb (b : Bst) : Prop := b.1 = 0 ∨ b.1 = 1 ∨ b.1 = 2
theorem okb_one {S : S2} {l c : Int32} {h : Nat} {b : Bst} (ok : okb b) : okb (oneb S l c h b) := by
  unfold oneb; split
  · exact ok
  · exact Or.inr (Or.inl rfl)
theorem okb_two {S : S2} {l c : Int32} {a h : Nat} {b : Bst} (ok : okb b) : okb (twob S l c a h b) := by
  unfold twob; split
  · exact ok
  · split
    · exact ok
    · exact Or.inr (Or.inr rfl)
theorem okb_ones {S : S2} {l c : Int32} {b : Bst} (ok : okb b) : ∀ i, okb (ones S l c b i)
  | 0 => ok
  | i + 1 => okb_one (okb_ones ok i)
theorem okb_inn {S : S2} {l c : Int32} {i : Nat} {b : Bst} (ok : okb b) : ∀ m, okb (inn S l c i b m)
  | 0 => ok
  | m + 1 => okb_two (okb_inn ok m)
theorem okb_twos {S : S2} {l c : Int32} {N : Nat} {b : Bst} (ok : okb b) : ∀ i, okb (twos S l c N b i)
  | 0 => ok
  | i + 1 => okb_inn (okb_twos ok i) _
/-- the gathered lists -/
def Gat (S : S2) (A0 A1 A2 : Ar) (A3 A4 : Al) : Prop := ∀ k, k < ec S 729 → A0 k = nI (en S k) ∧ A1 k = chg S (en S k) ∧ A2 k = nI (ts (en S k)) ∧ A3 k = lN (b0 S (en S k)) ∧ A4 k = lN (b1 S (en S k))
theorem ix216 {S : S2} {i : Nat} (hi : i < ec S 729) : vp_in (nI i) 216 ∧ (nI i).toNatClampNeg = i ∧ ¬ nI (ec S 729) ≤ nI i := by
  have := ec216 S
  exact ⟨vp_in_nI (by omega) (by decide), nI_clamp (by omega), nI_ge hi (by omega)⟩
theorem end216 (S : S2) : nI (ec S 729) ≤ nI (ec S 729) := nI_le (Nat.le_refl _) (by have := ec216 S; omega)
theorem p_offerOnes {S : S2} {K : S4} {A0 A1 A2 : Ar} {A3 A4 : Al} (G : Gat S A0 A1 A2 A3 A4) {ex fd l c : Int32} {b : Bst} {Q : SX → Prop} (hq : Q (S, K, (A0, A1, A2, A3, A4, nI (ec S 729), ex, fd, ones S l c b (ec S 729)))) : wX3_offerOnes (S, K, (A0, A1, A2, A3, A4, nI (ec S 729), ex, fd, b)) c l Q := by
  refine iter_st (fun i => (nI i, ((S, K, (A0, A1, A2, A3, A4, nI (ec S 729), ex, fd, ones S l c b i)) : SX))) 0 (ec S 729) (Nat.zero_le _) (fun i hi again hg => ?_) (fun again => ⟨fun _ => hq, fun z => absurd (end216 S) z⟩)
  obtain ⟨h1, h2, h3⟩ := ix216 hi
  obtain ⟨g0, g1, g2, g3, g4⟩ := G i hi
  rw [← nI_1] at hg
  refine ⟨fun z => absurd z h3, fun _ => ⟨h1, fun y1 e1 => ⟨h1, fun y2 e2 => ?_⟩⟩⟩
  have e1' : y1 = l - chg S (en S i) := by rw [e1]; show l - A1 (nI i).toNatClampNeg = _; rw [h2, g1]
  have e2' : y2 = absI (l - chg S (en S i)) + c * nI (ts (en S i)) := by
    rw [e2, abs_i, e1']; show absI _ + c * A2 (nI i).toNatClampNeg = _; rw [h2, g2]
  refine ⟨fun z => ?_, fun z => ⟨h1, ?_⟩⟩
  · have z' : (ones S l c b i).2.2.2.2 ≤ absI (l - chg S (en S i)) + c * nI (ts (en S i)) := by rw [← e2']; exact z
    have q : ones S l c b (i + 1) = ones S l c b i := by rw [ones, oneb, if_pos z']
    simp only [q] at hg
    exact hg
  · have z' : ¬ (ones S l c b i).2.2.2.2 ≤ absI (l - chg S (en S i)) + c * nI (ts (en S i)) := by rw [← e2']; exact z
    have q : ones S l c b (i + 1) = (1, nI (en S i), -1, l - chg S (en S i), absI (l - chg S (en S i)) + c * nI (ts (en S i))) := by rw [ones, oneb, if_neg z']
    simp only [q] at hg
    show again (nI i + 1, ((S, K, (A0, A1, A2, A3, A4, nI (ec S 729), ex, fd, (1, A0 (nI i).toNatClampNeg, -1, y1, y2))) : SX))
    rw [h2, g0, e1', e2']
    exact hg
theorem p_apart {S : S2} (ok : RowsOK S) {K : S4} {A0 A1 A2 : Ar} {A3 A4 : Al} (G : Gat S A0 A1 A2 A3 A4) {t : Int32 × Int32 × Int32 × Bst} {i j : Nat} (hi : i < ec S 729) (hj : j < ec S 729) {A B : Prop} (h1 : both S (en S i) (en S j) = true → A) (h0 : both S (en S i) (en S j) = false → B) : wX3_areApart (S, K, (A0, A1, A2, A3, A4, t)) (nI i) (nI j) (fun r => (r = 0 → A) ∧ (¬ r = 0 → B)) := by
  obtain ⟨i1, i2, i3⟩ := ix216 hi
  obtain ⟨j1, j2, j3⟩ := ix216 hj
  obtain ⟨g0, g1, g2, g3, g4⟩ := G i hi
  obtain ⟨k0, k1, k2, k3, k4⟩ := G j hj
  have no : ¬ both S (en S i) (en S j) = true → B := fun z => h0 (by cases q : both S (en S i) (en S j) with
    | true => exact absurd q z
    | false => rfl)
  have m0 : A3 (nI i).toNatClampNeg &&& A3 (nI j).toNatClampNeg = lN (b0 S (en S i) &&& b0 S (en S j)) := by rw [i2, j2, g3, k3, wb_and (b0_64 S _) (b0_64 S _)]
  have m1 : A4 (nI i).toNatClampNeg &&& A4 (nI j).toNatClampNeg = lN (b1 S (en S i) &&& b1 S (en S j)) := by rw [i2, j2, g4, k4, wb_and (b1_64 ok _) (b1_64 ok _)]
  refine ⟨i1, j1, fun c => ⟨i1, j1, fun d => ⟨fun z => absurd z (by decide), fun _ => no ?_⟩, fun d => ⟨fun _ => h1 ?_, fun z => absurd rfl z⟩⟩, fun c => ⟨fun _ => h1 ?_, fun z => absurd rfl z⟩⟩
  · have c' := (lz (and64 (b0_64 S _))).mp (m0.symm.trans c)
    have d' := (lz (and64 (b1_64 ok _))).mp (m1.symm.trans d)
    rw [both_iff]
    rintro (z | z)
    · exact z c'
    · exact z d'
  · exact (both_iff S _ _).mpr (Or.inr (fun z => d (m1.trans ((lz (and64 (b1_64 ok _))).mpr z))))
  · exact (both_iff S _ _).mpr (Or.inl (fun z => c (m0.trans ((lz (and64 (b0_64 S _))).mpr z))))
theorem p_inner {S : S2} (ok : RowsOK S) {K : S4} {A0 A1 A2 : Ar} {A3 A4 : Al} (G : Gat S A0 A1 A2 A3 A4) {ex fd l c : Int32} {b : Bst} {i : Nat} (hi : i < ec S 729) {KK : Int32 × SX → Prop} (hq : ∀ x : Int32, KK (x, (S, K, (A0, A1, A2, A3, A4, nI (ec S 729), ex, fd, inn S l c i b (ec S 729 - (i + 1)))))) : ∃ n : Nat, iter (sX3_offerTwos_15 c l (nI i) KK) n (nI i + 1, (S, K, (A0, A1, A2, A3, A4, nI (ec S 729), ex, fd, b))) := by
  have e0 : ((nI i + 1, (S, K, (A0, A1, A2, A3, A4, nI (ec S 729), ex, fd, b))) : Int32 × SX) = (nI (i + 1 + 0), (S, K, (A0, A1, A2, A3, A4, nI (ec S 729), ex, fd, inn S l c i b 0))) := by rw [nI_1]; rfl
  rw [e0]
  refine iter_st (fun m => (nI (i + 1 + m), ((S, K, (A0, A1, A2, A3, A4, nI (ec S 729), ex, fd, inn S l c i b m)) : SX))) 0 (ec S 729 - (i + 1)) (Nat.zero_le _) (fun m hm again hg => ?_) (fun again => ⟨fun _ => hq _, fun z => absurd ?_ z⟩)
  · have hj : i + 1 + m < ec S 729 := by omega
    obtain ⟨i1, i2, i3⟩ := ix216 hi
    obtain ⟨j1, j2, j3⟩ := ix216 hj
    obtain ⟨g0, g1, g2, g3, g4⟩ := G i hi
    obtain ⟨k0, k1, k2, k3, k4⟩ := G (i + 1 + m) hj
    have hg : again (nI (i + 1 + m) + 1, ((S, K, (A0, A1, A2, A3, A4, nI (ec S 729), ex, fd, inn S l c i b (m + 1))) : SX)) := by rw [nI_1]; exact hg
    refine ⟨fun z => absurd z j3, fun _ => ⟨i1, j1, fun y1 e1 => ⟨i1, j1, fun y2 e2 => ?_⟩⟩⟩
    have e1' : y1 = l - chg S (en S i) - chg S (en S (i + 1 + m)) := by
      rw [e1]; show l - A1 (nI i).toNatClampNeg - A1 (nI (i + 1 + m)).toNatClampNeg = _; rw [i2, j2, g1, k1]
    have e2' : y2 = absI (l - chg S (en S i) - chg S (en S (i + 1 + m))) + c * (nI (ts (en S i)) + nI (ts (en S (i + 1 + m)))) := by
      rw [e2, abs_i, e1']; show absI _ + c * (A2 (nI i).toNatClampNeg + A2 (nI (i + 1 + m)).toNatClampNeg) = _; rw [i2, j2, g2, k2]
    refine ⟨fun z => ?_, fun z => p_apart ok G hi hj (fun ap => ?_) (fun ap => ⟨i1, j1, ?_⟩)⟩
    · have z' : (inn S l c i b m).2.2.2.2 ≤ absI (l - chg S (en S i) - chg S (en S (i + 1 + m))) + c * (nI (ts (en S i)) + nI (ts (en S (i + 1 + m)))) := by rw [← e2']; exact z
      have q : inn S l c i b (m + 1) = inn S l c i b m := by rw [inn, twob, if_pos z']
      rw [q] at hg
      exact hg
    · have z' : ¬ (inn S l c i b m).2.2.2.2 ≤ absI (l - chg S (en S i) - chg S (en S (i + 1 + m))) + c * (nI (ts (en S i)) + nI (ts (en S (i + 1 + m)))) := by rw [← e2']; exact z
      have q : inn S l c i b (m + 1) = inn S l c i b m := by rw [inn, twob, if_neg z', if_pos ap]
      rw [q] at hg
      exact hg
    · have z' : ¬ (inn S l c i b m).2.2.2.2 ≤ absI (l - chg S (en S i) - chg S (en S (i + 1 + m))) + c * (nI (ts (en S i)) + nI (ts (en S (i + 1 + m)))) := by rw [← e2']; exact z
      have q : inn S l c i b (m + 1) = (2, nI (en S i), nI (en S (i + 1 + m)), l - chg S (en S i) - chg S (en S (i + 1 + m)), absI (l - chg S (en S i) - chg S (en S (i + 1 + m))) + c * (nI (ts (en S i)) + nI (ts (en S (i + 1 + m))))) := by rw [inn, twob, if_neg z', if_neg (by rw [ap]; decide)]
      rw [q] at hg
      show again (nI (i + 1 + m) + 1, ((S, K, (A0, A1, A2, A3, A4, nI (ec S 729), ex, fd, (2, A0 (nI i).toNatClampNeg, A0 (nI (i + 1 + m)).toNatClampNeg, y1, y2))) : SX))
      rw [i2, j2, g0, k0, e1', e2']
      exact hg
  · show nI (ec S 729) ≤ nI (i + 1 + (ec S 729 - (i + 1)))
    rw [show i + 1 + (ec S 729 - (i + 1)) = ec S 729 by omega]
    exact end216 S
theorem p_offerTwos {S : S2} (ok : RowsOK S) {K : S4} {A0 A1 A2 : Ar} {A3 A4 : Al} (G : Gat S A0 A1 A2 A3 A4) {ex fd l c : Int32} {b : Bst} {Q : SX → Prop} (hq : Q (S, K, (A0, A1, A2, A3, A4, nI (ec S 729), ex, fd, twos S l c (ec S 729) b (ec S 729)))) : wX3_offerTwos (S, K, (A0, A1, A2, A3, A4, nI (ec S 729), ex, fd, b)) c l Q := by
  refine iter_st (fun i => (nI i, ((S, K, (A0, A1, A2, A3, A4, nI (ec S 729), ex, fd, twos S l c (ec S 729) b i)) : SX))) 0 (ec S 729) (Nat.zero_le _) (fun i hi again hg => ?_) (fun again => ⟨fun _ => hq, fun z => absurd (end216 S) z⟩)
  obtain ⟨h1, h2, h3⟩ := ix216 hi
  rw [← nI_1] at hg
  exact ⟨fun z => absurd z h3, fun _ => p_inner ok G hi (fun _ => hg)⟩
