/-! seek, at last -/
def best (S : SX) (c n : Int32) : Bst := if n < 1 then (0, -1, -1, left S, absI (left S)) else if n < 2 then ones S.1 (left S) c (0, -1, -1, left S, absI (left S)) (ec S.1 729) else twos S.1 (left S) c (ec S.1 729) (ones S.1 (left S) c (0, -1, -1, left S, absI (left S)) (ec S.1 729)) (ec S.1 729)
theorem okb_best (S : SX) (c n : Int32) : okb (best S c n) := by
  have h0 : okb ((0, -1, -1, left S, absI (left S)) : Bst) := Or.inl rfl
  unfold best; split
  · exact h0
  · split
    · exact okb_ones h0 _
    · exact okb_twos (okb_ones h0 _) _
theorem p_findBest {S : SX} (ok : RowsOK S.1) {c n : Int32} {Q : Int32 → SX → Prop} (hq : ∀ (A0 A1 A2 : Ar) (A3 A4 : Al), Q (best S c n).2.2.2.2 (S.1, S.2.1, (A0, A1, A2, A3, A4, nI (ec S.1 729), t_ex S.2.2, 1, best S c n))) : wX3_findBest S c n Q := by
  refine p_left ok (p_gather ok ?_)
  rw [abs_i]
  have G : Gat S.1 (tgT S.1 S.2.2 728).1 (tgT S.1 S.2.2 728).2.1 (tgT S.1 S.2.2 728).2.2.1 (tgT S.1 S.2.2 728).2.2.2.1 (tgT S.1 S.2.2 728).2.2.2.2.1 := fun k hk => tg_at S.1 S.2.2 (j := 728) (by decide) hk
  have hsz := tg_sz S.1 S.2.2 728
  have htl := tg_tail S.1 S.2.2 728
  rw [show 728 + 1 = 729 from rfl] at hsz
  generalize tgT S.1 S.2.2 728 = T1 at G hsz htl ⊢
  obtain ⟨A0, A1, A2, A3, A4, sz, ex, fd, b⟩ := T1
  have hsz' : sz = nI (ec S.1 729) := hsz
  subst hsz'
  have hex : ex = t_ex S.2.2 := congrArg (fun t : Int32 × Int32 × Bst => t.1) htl
  subst hex
  have hq := hq A0 A1 A2 A3 A4
  refine ⟨fun c1 => ⟨fun _ => ?_, fun c2 => absurd ?_ c2⟩, fun c1 => p_offerOnes G ⟨fun c2 => ?_, fun c2 => p_offerTwos ok G ?_⟩⟩
  · rw [best, if_pos c1] at hq
    exact hq
  · rw [fa_lt] at c1 ⊢
    have e1 : (1 : Int32).toInt = 1 := by decide
    have e2 : (2 : Int32).toInt = 2 := by decide
    omega
  · rw [best, if_neg c1, if_pos c2] at hq
    generalize ones S.1 (left S) c (0, -1, -1, left S, absI (left S)) (ec S.1 729) = B at hq ⊢
    generalize ec S.1 729 = N at hq ⊢
    exact hq
  · rw [best, if_neg c1, if_neg c2] at hq
    generalize twos S.1 (left S) c (ec S.1 729) (ones S.1 (left S) c (0, -1, -1, left S, absI (left S)) (ec S.1 729)) (ec S.1 729) = B at hq ⊢
    generalize ec S.1 729 = N at hq ⊢
    exact hq
/-- the reference's state with a best story and two lists -/
def mst (M : S6) (b : Bst) (li wo : Ar) : S6 := (M.1, M.2.1, M.2.2.1, M.2.2.2.1, M.2.2.2.2.1, M.2.2.2.2.2.1, M.2.2.2.2.2.2.1, M.2.2.2.2.2.2.2.1, M.2.2.2.2.2.2.2.2.1, M.2.2.2.2.2.2.2.2.2.1, M.2.2.2.2.2.2.2.2.2.2.1, b.1, b.2.1, b.2.2.1, b.2.2.2.1, M.2.2.2.2.2.2.2.2.2.2.2.2.2.2.2.1, M.2.2.2.2.2.2.2.2.2.2.2.2.2.2.2.2.1, li, wo)
theorem RR_mst {S : S2} {M : S6} (R : RR S M) (b : Bst) (li wo : Ar) : RR S (mst M b li wo) := R
def Lst (S : S2) (li wo : Ar) : Prop := ∀ k, k < ec S 729 → li k = nI (en S k) ∧ wo k = chg S (en S k)
theorem p6_ones {S : S2} {M : S6} (R : RR S M) {li wo : Ar} (G : Lst S li wo) {l c p2 : Int32} {b : Bst} {KK : Int32 × Int32 × S6 → Prop} (hq : ∀ x : Int32, KK ((ones S l c b (ec S 729)).2.2.2.2, x, mst M (ones S l c b (ec S 729)) li wo)) : ∃ n : Nat, iter (sX6_seek_117 c p2 (nI (ec S 729)) l KK) n (b.2.2.2.2, 0, mst M b li wo) := by
  refine iter_st (fun i => ((ones S l c b i).2.2.2.2, nI i, mst M (ones S l c b i) li wo)) 0 (ec S 729) (Nat.zero_le _) (fun i hi again hg => ?_) (fun again => ⟨fun _ => hq _, fun z => absurd (end216 S) z⟩)
  obtain ⟨h1, h2, h3⟩ := ix216 hi
  obtain ⟨g0, g1⟩ := G i hi
  obtain ⟨m1, m2⟩ := en_may S hi
  have f0 : (mst M (ones S l c b i) li wo).2.2.2.2.2.2.2.2.2.2.2.2.2.2.2.2.2.1 (nI i).toNatClampNeg = nI (en S i) := by rw [h2]; exact g0
  have f1 : (mst M (ones S l c b i) li wo).2.2.2.2.2.2.2.2.2.2.2.2.2.2.2.2.2.2 (nI i).toNatClampNeg = chg S (en S i) := by rw [h2]; exact g1
  have hg : again ((ones S l c b (i + 1)).2.2.2.2, nI i + 1, mst M (ones S l c b (i + 1)) li wo) := by rw [nI_1]; exact hg
  simp only [sX6_seek_117]
  rw [f0, f1]
  refine ⟨fun z => absurd z h3, fun _ => ⟨h1, h1, p6_tests m1 (p6_tolled ⟨fun z => ?_, fun z => ⟨h1, h1, ?_⟩⟩)⟩⟩
  · have q : ones S l c b (i + 1) = ones S l c b i := by rw [ones, oneb, if_pos z]
    rw [q] at hg
    exact hg
  · have q : ones S l c b (i + 1) = (1, nI (en S i), -1, l - chg S (en S i), absI (l - chg S (en S i)) + c * nI (ts (en S i))) := by rw [ones, oneb, if_neg z]
    rw [q] at hg
    exact hg
theorem p6_inner {S : S2} {M : S6} (R : RR S M) {li wo : Ar} (G : Lst S li wo) {l c p2 : Int32} {b : Bst} {i : Nat} (hi : i < ec S 729) {KK : Int32 × Int32 × S6 → Prop} (hq : ∀ x : Int32, KK ((inn S l c i b (ec S 729 - (i + 1))).2.2.2.2, x, mst M (inn S l c i b (ec S 729 - (i + 1))) li wo)) : ∃ n : Nat, iter (sX6_seek_209 c p2 (nI (ec S 729)) l (nI i) KK) n (b.2.2.2.2, nI i + 1, mst M b li wo) := by
  have e0 : ((b.2.2.2.2, nI i + 1, mst M b li wo) : Int32 × Int32 × S6) = ((inn S l c i b 0).2.2.2.2, nI (i + 1 + 0), mst M (inn S l c i b 0) li wo) := by rw [nI_1]; rfl
  rw [e0]
  refine iter_st (fun m => ((inn S l c i b m).2.2.2.2, nI (i + 1 + m), mst M (inn S l c i b m) li wo)) 0 (ec S 729 - (i + 1)) (Nat.zero_le _) (fun m hm again hg => ?_) (fun again => ⟨fun _ => hq _, fun z => absurd ?_ z⟩)
  · have hj : i + 1 + m < ec S 729 := by omega
    obtain ⟨i1, i2, i3⟩ := ix216 hi
    obtain ⟨j1, j2, j3⟩ := ix216 hj
    obtain ⟨g0, g1⟩ := G i hi
    obtain ⟨k0, k1⟩ := G (i + 1 + m) hj
    obtain ⟨m1, m2⟩ := en_may S hi
    obtain ⟨n1, n2⟩ := en_may S hj
    have f0 : (mst M (inn S l c i b m) li wo).2.2.2.2.2.2.2.2.2.2.2.2.2.2.2.2.2.1 (nI i).toNatClampNeg = nI (en S i) := by rw [i2]; exact g0
    have f1 : (mst M (inn S l c i b m) li wo).2.2.2.2.2.2.2.2.2.2.2.2.2.2.2.2.2.2 (nI i).toNatClampNeg = chg S (en S i) := by rw [i2]; exact g1
    have f2 : (mst M (inn S l c i b m) li wo).2.2.2.2.2.2.2.2.2.2.2.2.2.2.2.2.2.1 (nI (i + 1 + m)).toNatClampNeg = nI (en S (i + 1 + m)) := by rw [j2]; exact k0
    have f3 : (mst M (inn S l c i b m) li wo).2.2.2.2.2.2.2.2.2.2.2.2.2.2.2.2.2.2 (nI (i + 1 + m)).toNatClampNeg = chg S (en S (i + 1 + m)) := by rw [j2]; exact k1
    have hg : again ((inn S l c i b (m + 1)).2.2.2.2, nI (i + 1 + m) + 1, mst M (inn S l c i b (m + 1)) li wo) := by rw [nI_1]; exact hg
    simp only [sX6_seek_209]
    rw [f0, f1, f2, f3]
    refine ⟨fun z => absurd z j3, fun _ => ⟨i1, j1, fun y1 e1 => ⟨i1, p6_tests m1 ⟨j1, p6_tests n1 (p6_tolled ?_)⟩⟩⟩⟩
    rw [e1]
    refine ⟨fun z => ?_, fun z => ⟨i1, j1, p6_shareRow (RR_mst R _ _ _) m1 n1 (fun ap => ⟨fun q => absurd q (by decide), fun _ => ?_⟩) (fun ap => ⟨fun _ => ⟨i1, j1, ?_⟩, fun q => absurd rfl q⟩)⟩⟩
    · have q : inn S l c i b (m + 1) = inn S l c i b m := by rw [inn, twob, if_pos z]
      rw [q] at hg
      exact hg
    · have q : inn S l c i b (m + 1) = inn S l c i b m := by rw [inn, twob, if_neg z, if_pos ap]
      rw [q] at hg
      exact hg
    · have q : inn S l c i b (m + 1) = (2, nI (en S i), nI (en S (i + 1 + m)), l - chg S (en S i) - chg S (en S (i + 1 + m)), absI (l - chg S (en S i) - chg S (en S (i + 1 + m))) + c * (nI (ts (en S i)) + nI (ts (en S (i + 1 + m))))) := by rw [inn, twob, if_neg z, if_neg (by rw [ap]; decide)]
      rw [q] at hg
      exact hg
  · show nI (ec S 729) ≤ nI (i + 1 + (ec S 729 - (i + 1)))
    rw [show i + 1 + (ec S 729 - (i + 1)) = ec S 729 by omega]
    exact end216 S
theorem p6_twos {S : S2} {M : S6} (R : RR S M) {li wo : Ar} (G : Lst S li wo) {l c : Int32} {b : Bst} {KK : Int32 × Int32 × S6 → Prop} (hq : ∀ x : Int32, KK ((twos S l c (ec S 729) b (ec S 729)).2.2.2.2, x, mst M (twos S l c (ec S 729) b (ec S 729)) li wo)) : ∃ n : Nat, iter (sX6_seek_192 c 2 (nI (ec S 729)) l KK) n (b.2.2.2.2, 0, mst M b li wo) := by
  refine iter_st (fun i => ((twos S l c (ec S 729) b i).2.2.2.2, nI i, mst M (twos S l c (ec S 729) b i) li wo)) 0 (ec S 729) (Nat.zero_le _) (fun i hi again hg => ?_) (fun again => ⟨fun _ => hq _, fun z => absurd (end216 S) z⟩)
  obtain ⟨h1, h2, h3⟩ := ix216 hi
  rw [← nI_1] at hg
  exact ⟨fun z => absurd z h3, fun _ => ⟨fun _ => p6_inner R G hi (fun _ => hg), fun z => absurd rfl z⟩⟩
theorem p6_list {S : S2} {M : S6} (R : RR S M) {c n : Int32} (hn : ¬ n ≤ 0) {KK : Int32 × Int32 × S6 → Prop} (hq : ∀ li wo : Ar, Lst S li wo → KK (nI (ec S 729), nI 729, mst M (M.2.2.2.2.2.2.2.2.2.2.2.1, M.2.2.2.2.2.2.2.2.2.2.2.2.1, M.2.2.2.2.2.2.2.2.2.2.2.2.2.1, M.2.2.2.2.2.2.2.2.2.2.2.2.2.2.1, 0) li wo)) : ∃ k : Nat, iter (sX6_seek_27 c n KK) k (0, 1, M) := by
  have e0 : ((0, 1, M) : Int32 × Int32 × S6) = (nI (ec S (0 + 1)), nI (0 + 1), mst M (M.2.2.2.2.2.2.2.2.2.2.2.1, M.2.2.2.2.2.2.2.2.2.2.2.2.1, M.2.2.2.2.2.2.2.2.2.2.2.2.2.1, M.2.2.2.2.2.2.2.2.2.2.2.2.2.2.1, 0) (bl S M.2.2.2.2.2.2.2.2.2.2.2.2.2.2.2.2.2.1 (fun h => nI h) 0) (bl S M.2.2.2.2.2.2.2.2.2.2.2.2.2.2.2.2.2.2 (chg S) 0)) := by
    rw [Nat.zero_add, ec1]; rfl
  rw [e0]
  have fin := hq (bl S M.2.2.2.2.2.2.2.2.2.2.2.2.2.2.2.2.2.1 (fun h => nI h) 728) (bl S M.2.2.2.2.2.2.2.2.2.2.2.2.2.2.2.2.2.2 (chg S) 728) (fun k hk => ⟨bl_at S _ (fun h => nI h) 728 (by decide) k hk, bl_at S _ (chg S) 728 (by decide) k hk⟩)
  generalize hB : ((M.2.2.2.2.2.2.2.2.2.2.2.1, M.2.2.2.2.2.2.2.2.2.2.2.2.1, M.2.2.2.2.2.2.2.2.2.2.2.2.2.1, M.2.2.2.2.2.2.2.2.2.2.2.2.2.2.1, 0) : Bst) = B at fin ⊢
  refine iter_st (fun j => (nI (ec S (j + 1)), nI (j + 1), mst M B (bl S M.2.2.2.2.2.2.2.2.2.2.2.2.2.2.2.2.2.1 (fun h => nI h) j) (bl S M.2.2.2.2.2.2.2.2.2.2.2.2.2.2.2.2.2.2 (chg S) j))) 0 728 (by decide) (fun j hj again hg => ?_) (fun again => ⟨fun _ => fin, fun z => absurd (by decide) z⟩)
  have hle : ec S (j + 1 + 1) ≤ 216 := Nat.le_trans (ec_mono S (by omega)) (ec216 S)
  have hle2 := ec_le S (j + 1)
  have hk : (nI (ec S (j + 1))).toNatClampNeg = ec S (j + 1) := nI_clamp (by omega)
  refine ⟨fun z => absurd z (i_nle.mpr (nI_lt (b := 729) (by omega) (by decide))), fun _ => ⟨fun z => absurd z hn, fun _ => p6_mayTell (RR_mst R _ _ _) (by omega) (fun m => ⟨fun q => absurd q (by decide), fun _ => ?_⟩) (fun m => ⟨fun _ => ?_, fun q => absurd rfl q⟩)⟩⟩
  · rw [ec_y m] at hle
    have hin : vp_in (nI (ec S (j + 1))) 216 := vp_in_nI (by omega) (by decide)
    refine ⟨hin, ?_⟩
    show wX6_changed (mst M B (upd (bl S M.2.2.2.2.2.2.2.2.2.2.2.2.2.2.2.2.2.1 (fun h => nI h) j) (nI (ec S (j + 1))).toNatClampNeg (nI (j + 1))) (bl S M.2.2.2.2.2.2.2.2.2.2.2.2.2.2.2.2.2.2 (chg S) j)) (nI (j + 1)) 0 _
    refine p6_changed0 (RR_mst R _ _ _) (by omega) ⟨hin, ?_⟩
    show again (nI (ec S (j + 1)) + 1, nI (j + 1) + 1, mst M B (upd (bl S M.2.2.2.2.2.2.2.2.2.2.2.2.2.2.2.2.2.1 (fun h => nI h) j) (nI (ec S (j + 1))).toNatClampNeg (nI (j + 1))) (upd (bl S M.2.2.2.2.2.2.2.2.2.2.2.2.2.2.2.2.2.2 (chg S) j) (nI (ec S (j + 1))).toNatClampNeg (chg S (j + 1))))
    simp only [bl, if_pos m, ec_y m] at hg
    rw [hk, nI_1, nI_1]
    exact hg
  · have m' : ¬ may S (j + 1) = true := by rw [m]; decide
    simp only [bl, if_neg m', ec_n m] at hg
    rw [nI_1]
    exact hg
theorem p6_seek {S : SX} {M : S6} (R : RR S.1 M) (ex : m_ex M = t_ex S.2.2) {c n : Int32} (hc : inR c 0 1000) (hn : inR n 0 2) {Q : Int32 → S6 → Prop} (hq : ∀ li wo : Ar, Q (best S c n).2.2.2.2 (mst M (best S c n) li wo)) : wX6_seek M c n Q := by
  refine p_in (fun _ => p_in (fun _ => ?_) (fun z => absurd hn z)) (fun z => absurd hc z)
  obtain ⟨k, hk, rfl⟩ := inR_nI (n := 2) (by decide) hn
  have t0 : absI (left S) + c * 0 = absI (left S) := by rw [Int32.mul_zero, Int32.add_zero]
  rcases (show k = 0 ∨ k = 1 ∨ k = 2 by omega) with rfl | rfl | rfl
  · refine ⟨1, fun z => absurd z (by decide), fun _ => ⟨fun _ => ?_, fun z => absurd (by decide) z⟩⟩
    refine p6_rest R ex (p6_tolled ?_)
    rw [t0]
    exact ⟨1, fun _ => ⟨1, fun _ => hq _ _, fun z => absurd (by decide) z⟩, fun z => absurd (by decide) z⟩
  · refine p6_list R (by decide) (fun li wo G => ?_)
    refine p6_rest (RR_mst R _ _ _) ex (p6_tolled ?_)
    rw [t0]
    refine p6_ones (b := (0, -1, -1, left S, absI (left S))) R G (fun x => ?_)
    have hq := hq li wo
    rw [best, if_neg (by decide), if_pos (by decide)] at hq
    generalize ones S.1 (left S) c (0, -1, -1, left S, absI (left S)) (ec S.1 729) = B at hq ⊢
    generalize ec S.1 729 = N at hq ⊢
    exact ⟨1, fun _ => hq, fun _ => ⟨fun z => absurd z (by decide), fun _ => hq⟩⟩
  · refine p6_list R (by decide) (fun li wo G => ?_)
    refine p6_rest (RR_mst R _ _ _) ex (p6_tolled ?_)
    rw [t0]
    refine p6_ones (b := (0, -1, -1, left S, absI (left S))) R G (fun x => ?_)
    refine p6_twos R G (fun x => ?_)
    have hq := hq li wo
    rw [best, if_neg (by decide), if_neg (by decide)] at hq
    generalize twos S.1 (left S) c (ec S.1 729) (ones S.1 (left S) c (0, -1, -1, left S, absI (left S)) (ec S.1 729)) (ec S.1 729) = B at hq ⊢
    exact hq
theorem eq_seek : Eq_seek rl := by
  intro S M a1 a2 R
  obtain ⟨R1, R2, R3⟩ := id R
  have ok := R1.1
  by_cases C : inR a1 0 1000 ∧ inR a2 0 2
  · obtain ⟨c1, c2⟩ := C
    refine p_in (fun _ => p_in (fun _ => p_findBest ok (fun A0 A1 A2 A3 A4 => p6_seek R1 R3.1 c1 c2 (fun li wo => ⟨rfl, R1, R2, R3.1, Or.inr ⟨rfl, rfl, okb_best S a1 a2, rfl, rfl, rfl⟩⟩))) (fun z => absurd c2 z)) (fun z => absurd c1 z)
  · have n6 : wX6_seek M a1 a2 (fun (r' : Int32) (M' : S6) => -1 = r' ∧ rl S M') := p_in (fun x1 => p_in (fun x2 => absurd ⟨x1, x2⟩ C) (fun _ => ⟨rfl, R⟩)) (fun _ => ⟨rfl, R⟩)
    exact p_in (fun x1 => p_in (fun x2 => absurd ⟨x1, x2⟩ C) (fun _ => n6)) (fun _ => n6)
