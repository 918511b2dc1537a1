/-! PURE 10: differ -/
theorem RT_kept {k : Nat} {I : zI} {P : zP} (hk : k < 3) (hT : RT k I) : ∃ r, r < 2 ^ 31 ∧ I (93 + 5 * k) 12 = nI r ∧ (∀ K : Int32 → zI → zP → Prop, K (nI (kpt r)) I P → w_X10_kept (nI k) I P K) ∧ (∀ i, i < kpt r → I (96 + 5 * k) i = I 219 (400 * k + i) ∧ I (97 + 5 * k) i = I 220 (400 * k + i)) := by
  obtain ⟨t0, t | t⟩ := hT
  · obtain ⟨t1, -, -, -, -, -, -, -, t12, -⟩ := t
    exact ⟨0, by decide, t12, fun K q => s_mkF hk t1 q, fun i hi => absurd hi (by simp [kpt])⟩
  · obtain ⟨t1, -, -, -, -, -, -, mc, rc, hmc, hrc, -, -, t12, r12, -, -, t4⟩ := t
    have := kpt_le rc
    exact ⟨rc, hrc, t12, fun K q => s_mkT hk t1 r12 hrc q, fun i hi => t4 i (by omega) (by omega)⟩
theorem l_dif {r1 r2 : Nat} {I : zI} {P : zP} {K : Int32 → zI → zP → Prop} (hP : PSt P) (h1 : I 98 12 = nI r1) (h2 : I 103 12 = nI r2) (hr1 : r1 < 2 ^ 31) (hr2 : r2 < 2 ^ 31) {b j : Nat} (hb1 : b ≤ kpt r1) (hb2 : b ≤ kpt r2) (hj : j < b) (hs : ∀ i, i < j → I 101 i = I 106 i ∧ I 102 i = I 107 i) (hn : ¬ (I 101 j = I 106 j ∧ I 102 j = I 107 j)) (q : K (nI j) I P) : ∀ d i, i + d = j → l_X9_differ_29 K (d + 1) 98 103 (nI b) (nI i) I P := by
  have k1 := kpt_le r1
  have k2 := kpt_le r2
  have p10 : ∀ {i : Nat} {K : Int32 → zI → zP → Prop}, i < b → K (I 101 i) I P → w_X6_recordPart 98 (nI i) 0 I P K := fun hi q => s_rp0 (k := 1) hP (by decide) h1 hr1 (by omega) q
  have p20 : ∀ {i : Nat} {K : Int32 → zI → zP → Prop}, i < b → K (I 106 i) I P → w_X6_recordPart 103 (nI i) 0 I P K := fun hi q => s_rp0 (k := 2) hP (by decide) h2 hr2 (by omega) q
  have p11 : ∀ {i : Nat} {K : Int32 → zI → zP → Prop}, i < b → K (I 102 i) I P → w_X6_recordPart 98 (nI i) 1 I P K := fun hi q => s_rp1 (k := 1) hP (by decide) h1 hr1 (by omega) q
  have p21 : ∀ {i : Nat} {K : Int32 → zI → zP → Prop}, i < b → K (I 107 i) I P → w_X6_recordPart 103 (nI i) 1 I P K := fun hi q => s_rp1 (k := 2) hP (by decide) h2 hr2 (by omega) q
  intro d
  induction d with
  | zero =>
    intro i hi
    obtain rfl : i = j := by omega
    rw [l_X9_differ_29]
    refine zin (nI_ge hj (by omega)) ⟨shT (m := 1) (by decide), p10 hj ⟨shT (m := 2) (by decide), p20 hj ?_⟩⟩
    by_cases g : I 101 i = I 106 i
    · exact zip g (p11 hj (p21 hj (zin (fun e => hn ⟨g, e⟩) q)))
    · exact zin g q
  | succ d ih =>
    intro i hi
    rw [l_X9_differ_29]
    have g := hs i (by omega)
    have g2 : i < b := by omega
    refine zin (nI_ge g2 (by omega)) ⟨shT (m := 1) (by decide), p10 g2 ⟨shT (m := 2) (by decide), p20 g2 (zip g.1 (p11 g2 (p21 g2 (zip g.2 ?_))))⟩⟩
    rw [nI_1]
    exact ih (i + 1) (by omega)
theorem l_difE {r1 r2 : Nat} {I : zI} {P : zP} {K : Int32 → zI → zP → Prop} (hP : PSt P) (h1 : I 98 12 = nI r1) (h2 : I 103 12 = nI r2) (hr1 : r1 < 2 ^ 31) (hr2 : r2 < 2 ^ 31) {b : Nat} (hb1 : b ≤ kpt r1) (hb2 : b ≤ kpt r2) (hs : ∀ i, i < b → I 101 i = I 106 i ∧ I 102 i = I 107 i) (q : K (if kpt r1 = kpt r2 then -1 else nI b) I P) : ∀ d i, i + d = b → l_X9_differ_29 K (d + 1) 98 103 (nI b) (nI i) I P := by
  have k1 := kpt_le r1
  have k2 := kpt_le r2
  intro d
  induction d with
  | zero =>
    intro i hi
    obtain rfl : i = b := by omega
    rw [l_X9_differ_29]
    refine zip (nI_le (Nat.le_refl _) (by omega)) ⟨shT (m := 1) (by decide), s_rk (k := 1) (by decide) h1 hr1 ⟨shT (m := 2) (by decide), s_rk (k := 2) (by decide) h2 hr2 ?_⟩⟩
    by_cases g : kpt r1 = kpt r2
    · rw [if_pos g] at q
      exact zip (by rw [g]) q
    · rw [if_neg g] at q
      exact zin (fun e => g ((nI_eq (by omega) (by omega)).mp e)) q
  | succ d ih =>
    intro i hi
    rw [l_X9_differ_29]
    have g := hs i (by omega)
    refine zin (nI_ge (by omega) (by omega)) ⟨shT (m := 1) (by decide), s_rp0 (k := 1) hP (by decide) h1 hr1 (by omega) ⟨shT (m := 2) (by decide), s_rp0 (k := 2) hP (by decide) h2 hr2 (by omega) (zip g.1 (s_rp1 (k := 1) hP (by decide) h1 hr1 (by omega) (s_rp1 (k := 2) hP (by decide) h2 hr2 (by omega) (zip g.2 ?_))))⟩⟩
    rw [nI_1]
    exact ih (i + 1) (by omega)
theorem l_mdif {b1 b2 : Nat} {I : zI} {P : zP} {K : Int32 → zI → zP → Prop} (k1 : b1 ≤ 400) (k2 : b2 ≤ 400) {j : Nat} (hj1 : j < b1) (hj2 : j < b2) (hs : ∀ i, i < j → I 219 (400 + i) = I 219 (800 + i) ∧ I 220 (400 + i) = I 220 (800 + i)) (hn : ¬ (I 219 (400 + j) = I 219 (800 + j) ∧ I 220 (400 + j) = I 220 (800 + j))) (q : K (nI j) I P) : ∀ d i, i + d = j → l_X10_differ_14 K (d + 1) (nI b1) (nI b2) (nI i) I P := by
  have e4 : ∀ i, 400 + nI i = nI (400 + i) := fun i => by rw [show (400 : Int32) = nI 400 from rfl, nI_add]
  have e8 : ∀ i, 800 + nI i = nI (800 + i) := fun i => by rw [show (800 : Int32) = nI 800 from rfl, nI_add]
  intro d
  induction d with
  | zero =>
    intro i hi
    obtain rfl : i = j := by omega
    rw [l_X10_differ_14, e4, e8, nI_clamp (by omega), nI_clamp (by omega)]
    refine zin (nI_ge hj1 (by omega)) (zin (nI_ge hj2 (by omega)) ⟨vp_in_nI (by omega) (by decide), vp_in_nI (by omega) (by decide), ?_⟩)
    by_cases g : I 219 (400 + i) = I 219 (800 + i)
    · exact zip g ⟨vp_in_nI (by omega) (by decide), vp_in_nI (by omega) (by decide), zin (fun e => hn ⟨g, e⟩) q⟩
    · exact zin g q
  | succ d ih =>
    intro i hi
    rw [l_X10_differ_14, e4, e8, nI_clamp (by omega), nI_clamp (by omega)]
    have g := hs i (by omega)
    refine zin (nI_ge (by omega) (by omega)) (zin (nI_ge (by omega) (by omega)) ⟨vp_in_nI (by omega) (by decide), vp_in_nI (by omega) (by decide), zip g.1 ⟨vp_in_nI (by omega) (by decide), vp_in_nI (by omega) (by decide), zip g.2 ?_⟩⟩)
    rw [nI_1]
    exact ih (i + 1) (by omega)
theorem l_mdifE {b1 b2 : Nat} {I : zI} {P : zP} {K : Int32 → zI → zP → Prop} (k1 : b1 ≤ 400) (k2 : b2 ≤ 400) {b : Nat} (hb : b = min b1 b2) (hs : ∀ i, i < b → I 219 (400 + i) = I 219 (800 + i) ∧ I 220 (400 + i) = I 220 (800 + i)) (q : K (if b1 = b2 then -1 else nI b) I P) : ∀ d i, i + d = b → l_X10_differ_14 K (d + 1) (nI b1) (nI b2) (nI i) I P := by
  have e4 : ∀ i, 400 + nI i = nI (400 + i) := fun i => by rw [show (400 : Int32) = nI 400 from rfl, nI_add]
  have e8 : ∀ i, 800 + nI i = nI (800 + i) := fun i => by rw [show (800 : Int32) = nI 800 from rfl, nI_add]
  have hj : j_X10_differ_78 K (nI b1) (nI b2) I P := by
    unfold j_X10_differ_78
    by_cases g : b1 = b2
    · rw [if_pos g] at q
      exact zip (by rw [g]) q
    · rw [if_neg g] at q
      refine zin (fun e => g ((nI_eq (by omega) (by omega)).mp e)) ?_
      by_cases g2 : b2 ≤ b1
      · obtain rfl : b = b2 := by omega
        exact zip (nI_le g2 (by omega)) q
      · obtain rfl : b = b1 := by omega
        exact zin (nI_ge (by omega) (by omega)) q
  intro d
  induction d with
  | zero =>
    intro i hi
    obtain rfl : i = b := by omega
    rw [l_X10_differ_14]
    by_cases g : b1 ≤ b2
    · exact zip (nI_le (by omega) (by omega)) hj
    · exact zin (nI_ge (by omega) (by omega)) (zip (nI_le (by omega) (by omega)) hj)
  | succ d ih =>
    intro i hi
    rw [l_X10_differ_14, e4, e8, nI_clamp (by omega), nI_clamp (by omega)]
    have g := hs i (by omega)
    refine zin (nI_ge (by omega) (by omega)) (zin (nI_ge (by omega) (by omega)) ⟨vp_in_nI (by omega) (by decide), vp_in_nI (by omega) (by decide), zip g.1 ⟨vp_in_nI (by omega) (by decide), vp_in_nI (by omega) (by decide), zip g.2 ?_⟩⟩)
    rw [nI_1]
    exact ih (i + 1) (by omega)
theorem c_differ {a : Nat → Int32} {Q : zI → zP → Prop} {I : zI} {P : zP} (hP : PSt P) (hT : ∀ k, k < 3 → RT k I) (hq : Q I P) : ok_differ a Q I P := by
  unfold ok_differ w_X9_differ w_X10_differ
  obtain ⟨r1, hr1, t1, m1, s1⟩ := RT_kept (P := P) (k := 1) (by decide) (hT 1 (by decide))
  obtain ⟨r2, hr2, t2, m2, s2⟩ := RT_kept (P := P) (k := 2) (by decide) (hT 2 (by decide))
  have k1 := kpt_le r1
  have k2 := kpt_le r2
  refine ⟨vin_lit (j := 1) (by decide) (by decide) (by decide), 98, pT (m := 1) hP (by decide), vin_lit (j := 2) (by decide) (by decide) (by decide), 103, pT (m := 2) hP (by decide), shT (m := 1) (by decide), s_rk (k := 1) (by decide) t1 hr1 ⟨shT (m := 2) (by decide), s_rk (k := 2) (by decide) t2 hr2 ?_⟩⟩
  have hb : (if nI (kpt r2) < nI (kpt r1) then nI (kpt r2) else nI (kpt r1)) = nI (min (kpt r1) (kpt r2)) := by
    by_cases g : kpt r2 < kpt r1
    · rw [if_pos ((nI_ltI (by omega) (by omega)).mpr g), Nat.min_eq_right (by omega)]
    · rw [if_neg (fun e => g ((nI_ltI (by omega) (by omega)).mp e)), Nat.min_eq_left (by omega)]
  rw [hb]
  generalize hbe : min (kpt r1) (kpt r2) = b
  have hb1 : b ≤ kpt r1 := by omega
  have hb2 : b ≤ kpt r2 := by omega
  by_cases hd : ∃ j, j < b ∧ ¬ (I 101 j = I 106 j ∧ I 102 j = I 107 j)
  · obtain ⟨j, ⟨hj, hn⟩, hs⟩ := pk_least _ hd
    have hs2 : ∀ i, i < j → I 101 i = I 106 i ∧ I 102 i = I 107 i := fun i hi => by
      have := hs i hi
      by_cases g : I 101 i = I 106 i ∧ I 102 i = I 107 i
      · exact g
      · exact absurd ⟨by omega, g⟩ this
    refine ⟨_, l_dif hP t1 t2 hr1 hr2 hb1 hb2 hj hs2 hn ?_ j 0 (by omega)⟩
    refine m1 _ (m2 _ ?_)
    refine ⟨_, l_mdif (by omega) (by omega) (by omega) (by omega) (fun i hi => ?_) ?_ ⟨rfl, hq⟩ j 0 (by omega)⟩
    · rw [← (s1 i (by omega)).1, ← (s1 i (by omega)).2, ← (s2 i (by omega)).1, ← (s2 i (by omega)).2]
      exact hs2 i hi
    · rw [← (s1 j (by omega)).1, ← (s1 j (by omega)).2, ← (s2 j (by omega)).1, ← (s2 j (by omega)).2]
      exact hn
  · have hs2 : ∀ i, i < b → I 101 i = I 106 i ∧ I 102 i = I 107 i := fun i hi => by
      by_cases g : I 101 i = I 106 i ∧ I 102 i = I 107 i
      · exact g
      · exact absurd ⟨i, hi, g⟩ hd
    refine ⟨_, l_difE hP t1 t2 hr1 hr2 hb1 hb2 hs2 ?_ b 0 (by omega)⟩
    refine m1 _ (m2 _ ?_)
    refine ⟨_, l_mdifE (by omega) (by omega) hbe.symm (fun i hi => ?_) ⟨rfl, hq⟩ b 0 (by omega)⟩
    rw [← (s1 i (by omega)).1, ← (s1 i (by omega)).2, ← (s2 i (by omega)).1, ← (s2 i (by omega)).2]
    exact hs2 i hi
