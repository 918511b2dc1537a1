/-! PURE 67: RUN: handlers on both sides -/
/-- handler j of METHOD m as it is run takes kind kd at place p -/
def hcd (hd : Nat → Nat → Nat) (m p kd j : Nat) : Prop := hd m (4 * j) ≤ p ∧ p < hd m (4 * j + 1) ∧ (hd m (4 * j + 3) = 0 ∨ hd m (4 * j + 3) = kd)
def hit (hd : Nat → Nat → Nat) (hn : nuN) (m p kd j : Nat) : Prop := j < hn m ∧ hcd hd m p kd j ∧ ∀ i, i < j → ¬ hcd hd m p kd i
def HdL (I0 : zI) (wv : nuN) (hd : Nat → Nat → Nat) (hn : nuN) (m : Nat) : Prop := hn m ≤ (if wv m = 0 then 8 else 9) ∧ (∀ i, hd m i < 65536) ∧ (wv m = 0 → I0 (20 + 12 * m) 10 = nI (hn m) ∧ ∀ i, i < 4 * hn m → I0 (25 + 12 * m) i = nI (hd m i)) ∧ (wv m ≠ 0 → I0 (26 + 12 * m) 7 = nI (hn m) ∧ ∀ i, i < 4 * hn m → I0 (31 + 12 * m) i = nI (hd m i))
def HdM (I0 : zI) (wv : nuN) (hd : Nat → Nat → Nat) (hn : nuN) (m : Nat) : Prop := hn m ≤ (if wv m = 0 then 8 else 9) ∧ (∀ i, hd m i < 65536) ∧ (wv m = 0 → I0 161 m = nI (hn m) ∧ ∀ j, j < hn m → I0 162 (8 * m + j) = nI (hd m (4 * j)) ∧ I0 163 (8 * m + j) = nI (hd m (4 * j + 1)) ∧ I0 164 (8 * m + j) = nI (hd m (4 * j + 2)) ∧ I0 165 (8 * m + j) = nI (hd m (4 * j + 3))) ∧ (wv m ≠ 0 → I0 179 m = nI (hn m) ∧ ∀ j, j < hn m → I0 180 (9 * m + j) = nI (hd m (4 * j)) ∧ I0 181 (9 * m + j) = nI (hd m (4 * j + 1)) ∧ I0 182 (9 * m + j) = nI (hd m (4 * j + 2)) ∧ I0 183 (9 * m + j) = nI (hd m (4 * j + 3)))
theorem hcd_d (hd : Nat → Nat → Nat) (m p kd j : Nat) : hcd hd m p kd j ∨ ¬ hcd hd m p kd j := by unfold hcd; omega
/-- resetting a frame's stack to one value -/
theorem L_reset {I0 I : zI} {k lim m p : Nat} {wv n : nuN} {z : nuZ} {s : List Va} {l : Nat → Va} {fs : List Frm} {P : zP} (h : SL I0 k lim wv ((m, p, s, l) :: fs) n z I P) : SL I0 k lim wv ((m, p, [], l) :: fs) n z (zu I (119 + 3 * fs.length) 2 0) P := by
  obtain ⟨h1, h2, h3, h4, h5, h6, h7, h8, h9⟩ := h.2.2.2.1.1
  refine SL_top h ⟨h1, h2, ?_, ?_, h5, zu_same, Nat.zero_le _, trivial, fun q hq => ?_⟩ (fun c j a => zu_nc (by omega))
  · rw [zu_nj (by omega)]; exact h3
  · rw [zu_nj (by omega)]; exact h4
  · rw [zu_nc (by omega)]; exact h9 q hq
theorem L_catch {I0 I : zI} {k lim m p kd : Nat} {wv n hn : nuN} {hd : Nat → Nat → Nat} {z : nuZ} {s : List Va} {l : Nat → Va} {fs : List Frm} {P : zP} {K : Int32 → zI → zP → Prop} (h : SL I0 k lim wv ((m, p, s, l) :: fs) n z I P) (hw : wv m ≤ 1) (hh : HdL I0 wv hd hn m) (hk2 : kd < 2 ^ 31) (ht : ∀ j, j < hn m → hd m (4 * j + 2) < 1000) (k1 : ∀ j, hit hd hn m p kd j → ∀ J, SL I0 k lim wv ((m, hd m (4 * j + 2), [Sum.inl (nI kd)], l) :: fs) n z J P → sL k I J → K 1 J P) (k0 : (∀ j, j < hn m → ¬ hcd hd m p kd j) → K 0 I P) : w_X0_catches (119 + 3 * fs.length) (nI kd) I P K := by
  obtain ⟨e, hf, hm, hp⟩ := L_pl h
  have hk := h.1.1
  have hP := h.1.2.2.1
  have h2 := h.2.2.2.1.1.2.1
  have h3 := h.2.2.2.1.1.2.2.1
  dsimp only at h2 h3
  obtain ⟨n9, b16, g0, g1⟩ := hh
  -- the loop over handlers in cell cH
  have lp : ∀ cH N, SHy[cH]? = some (11, zlen cH) → zlen cH = N → N < 2 ^ 31 → 4 * hn m ≤ N → (∀ i, i < 4 * hn m → I cH i = nI (hd m i)) → (∀ J : zI, (∀ c j, ¬ (119 + 3 * fs.length ≤ c ∧ c ≤ 121 + 3 * fs.length) → J c j = I c j) → J cH = I cH) → ∀ d j, j + d = hn m → (∀ i, i < j → ¬ hcd hd m p kd i) → l_X0_catches_59 K (d + 1) (119 + 3 * fs.length) (nI kd) (nI (hn m)) cH (nI j) I P := by
    intro cH N s1 s2 s3 s4 s5 s6 d
    induction d with
    | zero =>
      intro j hj no
      obtain rfl : j = hn m := by omega
      rw [l_X0_catches_59]
      exact zip (by first | omega | decide | (simp (maxSteps := 400000) (disch := omega) only [q_lit, q_neg, nI_ltI, nI_leI, nI_eq, nI_add, pk_mul, pk_sub, nI_clamp, vp_q, zu_same, zu_nc, zu_nj, ng_lt, ng_le, ng_gt, ng_ge, ng_eq, ng_qe, ng_ee, ng_add, not_false_eq_true, not_true_eq_false, ne_eq]; done) | (simp (maxSteps := 400000) (disch := omega) only [q_lit, q_neg, nI_ltI, nI_leI, nI_eq, nI_add, pk_mul, pk_sub, nI_clamp, vp_q, zu_same, zu_nc, zu_nj, ng_lt, ng_le, ng_gt, ng_ge, ng_eq, ng_qe, ng_ee, ng_add, not_false_eq_true, not_true_eq_false, ne_eq]; omega)) (k0 no)
    | succ d ih =>
      intro j hj no
      have c0 := b16 (4 * j)
      have c1 := b16 (4 * j + 1)
      have c3 := b16 (4 * j + 3)
      have next : ¬ hcd hd m p kd j → l_X0_catches_59 K (d + 1) (119 + 3 * fs.length) (nI kd) (nI (hn m)) cH (nI (j + 1)) I P := fun q => ih (j + 1) (by omega) (fun i hi => by
        by_cases ei : i = j
        · rw [ei]; exact q
        · exact no i (by omega))
      have hitj : hcd hd m p kd j → j_X0_catches_113 K (119 + 3 * fs.length) (nI kd) cH (nI j) I P := fun q => by
        unfold j_X0_catches_113
        refine ⟨shF hf, L_push (v := Sum.inl (nI kd)) (L_reset h) (by decide) rfl (fun J hJ g => ?_)⟩
        have g' : ∀ c j, ¬ (119 + 3 * fs.length ≤ c ∧ c ≤ 121 + 3 * fs.length) → J c j = I c j := fun c j a => by rw [g c j a, zu_nc (by omega)]
        refine s_hpart (w := 2) s1 s2 s3 (by omega) ?_
        rw [s6 J g', s5 _ (by omega)]
        exact k1 j ⟨by omega, q, no⟩ _ (L_place hJ (ht j (by omega))) (sL_t (sL_f hk g') (sL_f hk (f := fs.length) (fun c j a => zu_nc (by omega))))
      rw [l_X0_catches_59, nI_1]
      refine zin (by first | omega | decide | (simp (maxSteps := 400000) (disch := omega) only [q_lit, q_neg, nI_ltI, nI_leI, nI_eq, nI_add, pk_mul, pk_sub, nI_clamp, vp_q, zu_same, zu_nc, zu_nj, ng_lt, ng_le, ng_gt, ng_ge, ng_eq, ng_qe, ng_ee, ng_add, not_false_eq_true, not_true_eq_false, ne_eq]; done) | (simp (maxSteps := 400000) (disch := omega) only [q_lit, q_neg, nI_ltI, nI_leI, nI_eq, nI_add, pk_mul, pk_sub, nI_clamp, vp_q, zu_same, zu_nc, zu_nj, ng_lt, ng_le, ng_gt, ng_ge, ng_eq, ng_qe, ng_ee, ng_add, not_false_eq_true, not_true_eq_false, ne_eq]; omega)) (s_hpart (w := 3) s1 s2 s3 (by omega) ⟨shF hf, s_hpart (w := 0) s1 s2 s3 (by omega) ?_⟩)
      rw [e, s5 (4 * j + 3) (by omega), s5 (4 * j + 0) (by omega), Nat.add_zero]
      by_cases q1 : p < hd m (4 * j)
      · exact zip (by first | omega | decide | (simp (maxSteps := 400000) (disch := omega) only [q_lit, q_neg, nI_ltI, nI_leI, nI_eq, nI_add, pk_mul, pk_sub, nI_clamp, vp_q, zu_same, zu_nc, zu_nj, ng_lt, ng_le, ng_gt, ng_ge, ng_eq, ng_qe, ng_ee, ng_add, not_false_eq_true, not_true_eq_false, ne_eq]; done) | (simp (maxSteps := 400000) (disch := omega) only [q_lit, q_neg, nI_ltI, nI_leI, nI_eq, nI_add, pk_mul, pk_sub, nI_clamp, vp_q, zu_same, zu_nc, zu_nj, ng_lt, ng_le, ng_gt, ng_ge, ng_eq, ng_qe, ng_ee, ng_add, not_false_eq_true, not_true_eq_false, ne_eq]; omega)) (next (fun y => by have := y.1; omega))
      · refine zin (by first | omega | decide | (simp (maxSteps := 400000) (disch := omega) only [q_lit, q_neg, nI_ltI, nI_leI, nI_eq, nI_add, pk_mul, pk_sub, nI_clamp, vp_q, zu_same, zu_nc, zu_nj, ng_lt, ng_le, ng_gt, ng_ge, ng_eq, ng_qe, ng_ee, ng_add, not_false_eq_true, not_true_eq_false, ne_eq]; done) | (simp (maxSteps := 400000) (disch := omega) only [q_lit, q_neg, nI_ltI, nI_leI, nI_eq, nI_add, pk_mul, pk_sub, nI_clamp, vp_q, zu_same, zu_nc, zu_nj, ng_lt, ng_le, ng_gt, ng_ge, ng_eq, ng_qe, ng_ee, ng_add, not_false_eq_true, not_true_eq_false, ne_eq]; omega)) (s_hpart (w := 1) s1 s2 s3 (by omega) ?_)
        rw [s5 (4 * j + 1) (by omega)]
        by_cases q2 : hd m (4 * j + 1) ≤ p
        · exact zip (by first | omega | decide | (simp (maxSteps := 400000) (disch := omega) only [q_lit, q_neg, nI_ltI, nI_leI, nI_eq, nI_add, pk_mul, pk_sub, nI_clamp, vp_q, zu_same, zu_nc, zu_nj, ng_lt, ng_le, ng_gt, ng_ge, ng_eq, ng_qe, ng_ee, ng_add, not_false_eq_true, not_true_eq_false, ne_eq]; done) | (simp (maxSteps := 400000) (disch := omega) only [q_lit, q_neg, nI_ltI, nI_leI, nI_eq, nI_add, pk_mul, pk_sub, nI_clamp, vp_q, zu_same, zu_nc, zu_nj, ng_lt, ng_le, ng_gt, ng_ge, ng_eq, ng_qe, ng_ee, ng_add, not_false_eq_true, not_true_eq_false, ne_eq]; omega)) (next (fun y => by have := y.2.1; omega))
        · refine zin (by first | omega | decide | (simp (maxSteps := 400000) (disch := omega) only [q_lit, q_neg, nI_ltI, nI_leI, nI_eq, nI_add, pk_mul, pk_sub, nI_clamp, vp_q, zu_same, zu_nc, zu_nj, ng_lt, ng_le, ng_gt, ng_ge, ng_eq, ng_qe, ng_ee, ng_add, not_false_eq_true, not_true_eq_false, ne_eq]; done) | (simp (maxSteps := 400000) (disch := omega) only [q_lit, q_neg, nI_ltI, nI_leI, nI_eq, nI_add, pk_mul, pk_sub, nI_clamp, vp_q, zu_same, zu_nc, zu_nj, ng_lt, ng_le, ng_gt, ng_ge, ng_eq, ng_qe, ng_ee, ng_add, not_false_eq_true, not_true_eq_false, ne_eq]; omega)) ?_
          by_cases q3 : hd m (4 * j + 3) = 0
          · exact zip (by rw [q3]; rfl) (hitj ⟨by omega, by omega, Or.inl q3⟩)
          · refine zin (by first | omega | decide | (simp (maxSteps := 400000) (disch := omega) only [q_lit, q_neg, nI_ltI, nI_leI, nI_eq, nI_add, pk_mul, pk_sub, nI_clamp, vp_q, zu_same, zu_nc, zu_nj, ng_lt, ng_le, ng_gt, ng_ge, ng_eq, ng_qe, ng_ee, ng_add, not_false_eq_true, not_true_eq_false, ne_eq]; done) | (simp (maxSteps := 400000) (disch := omega) only [q_lit, q_neg, nI_ltI, nI_leI, nI_eq, nI_add, pk_mul, pk_sub, nI_clamp, vp_q, zu_same, zu_nc, zu_nj, ng_lt, ng_le, ng_gt, ng_ge, ng_eq, ng_qe, ng_ee, ng_add, not_false_eq_true, not_true_eq_false, ne_eq]; omega)) ?_
            by_cases q4 : hd m (4 * j + 3) = kd
            · exact zip (by rw [q4]) (hitj ⟨by omega, by omega, Or.inr q4⟩)
            · exact zin (fun y => q4 (nI_inj (by omega) hk2 y)) (next (fun y => y.2.2.elim q3 q4))
  unfold w_X0_catches j_X0_catches_27
  rw [h3]
  refine ⟨shF hf, ?_⟩
  by_cases e0 : wv m = 0
  · rw [if_pos e0] at n9
    obtain ⟨a1, a2⟩ := g0 e0
    refine zip (by rw [e0]; rfl) ⟨_, h2, shM hm, shF hf, zip (by rw [e0]; rfl) ⟨_, h2, shM hm, _, pM5 hP hm, hn m + 1, ?_⟩⟩
    rw [L_s0 h (c := 20 + 12 * m) (by unfold rcL; omega), a1]
    exact lp _ 32 (shM5 hm) (zzM5 hm) (by decide) (by omega) (fun i hi => by rw [L_s0 h (by unfold rcL; omega)]; exact a2 i hi) (fun J g => by funext j; exact g _ _ (by omega)) (hn m) 0 (by omega) (fun i hi => absurd hi (by omega))
  · rw [if_neg e0] at n9
    obtain ⟨a1, a2⟩ := g1 e0
    refine zin (by first | omega | decide | (simp (maxSteps := 400000) (disch := omega) only [q_lit, q_neg, nI_ltI, nI_leI, nI_eq, nI_add, pk_mul, pk_sub, nI_clamp, vp_q, zu_same, zu_nc, zu_nj, ng_lt, ng_le, ng_gt, ng_ge, ng_eq, ng_qe, ng_ee, ng_add, not_false_eq_true, not_true_eq_false, ne_eq]; done) | (simp (maxSteps := 400000) (disch := omega) only [q_lit, q_neg, nI_ltI, nI_leI, nI_eq, nI_add, pk_mul, pk_sub, nI_clamp, vp_q, zu_same, zu_nc, zu_nj, ng_lt, ng_le, ng_gt, ng_ge, ng_eq, ng_qe, ng_ee, ng_add, not_false_eq_true, not_true_eq_false, ne_eq]; omega)) ⟨_, h2, shM hm, _, pM6 hP hm, shW hm, shF hf, zin (by first | omega | decide | (simp (maxSteps := 400000) (disch := omega) only [q_lit, q_neg, nI_ltI, nI_leI, nI_eq, nI_add, pk_mul, pk_sub, nI_clamp, vp_q, zu_same, zu_nc, zu_nj, ng_lt, ng_le, ng_gt, ng_ge, ng_eq, ng_qe, ng_ee, ng_add, not_false_eq_true, not_true_eq_false, ne_eq]; done) | (simp (maxSteps := 400000) (disch := omega) only [q_lit, q_neg, nI_ltI, nI_leI, nI_eq, nI_add, pk_mul, pk_sub, nI_clamp, vp_q, zu_same, zu_nc, zu_nj, ng_lt, ng_le, ng_gt, ng_ge, ng_eq, ng_qe, ng_ee, ng_add, not_false_eq_true, not_true_eq_false, ne_eq]; omega)) ⟨_, h2, shM hm, _, pM6 hP hm, shW hm, _, pW4 hP hm, hn m + 1, ?_⟩⟩
    rw [L_s0 h (c := 26 + 12 * m) (by unfold rcL; omega), a1]
    exact lp _ 36 (shW4 hm) (zzW4 hm) (by decide) (by omega) (fun i hi => by rw [L_s0 h (by unfold rcL; omega)]; exact a2 i hi) (fun J g => by funext j; exact g _ _ (by omega)) (hn m) 0 (by omega) (fun i hi => absurd hi (by omega))
theorem e9m {m j : Nat} : (9 : Int32) * nI m + nI j = nI (9 * m + j) := by rw [show (9 : Int32) = nI 9 from rfl, pk_mul, nI_add]
theorem e8m {m j : Nat} : (8 : Int32) * nI m + nI j = nI (8 * m + j) := by rw [show (8 : Int32) = nI 8 from rfl, pk_mul, nI_add]
theorem M_catch {I0 I : zI} {k lim m p kd : Nat} {wv n hn ln : nuN} {cb hd : Nat → Nat → Nat} {z : nuZ} {fs : List Frm} {P : zP} {K : Int32 → zI → zP → Prop} (hm : m < 6) (hp : p < 1000) (h : SM I0 k lim fs n z I) (hc : CdM I0 k wv cb ln m) (hh : HdM I0 wv hd hn m) (h65 : I 155 65 = nI kd) (hk2 : kd < 2 ^ 31) (k1 : ∀ j, hit hd hn m p kd j → K (nI (if wv m = 0 then 8 * m + j else 9 * m + j)) I P) (k0 : (∀ j, j < hn m → ¬ hcd hd m p kd j) → K (-1) I P) : w_X10_catches (nI m) (nI p) I P K := by
  obtain ⟨n9, b16, g0, g1⟩ := hh
  have w1 := hc.1
  unfold w_X10_catches
  refine M_rw hm h hc ?_
  have step : ∀ d j (X : Int32 → Int32 → Int32 → Int32 → Int32 → zI → zP → Prop), (¬ hcd hd m p kd j → X (nI m) (nI p) (nI (wv m)) (nI (hn m)) (nI (j + 1)) I P) → (hcd hd m p kd j → K d I P) → ∀ (a b c : Nat), a = hd m (4 * j) → b = hd m (4 * j + 1) → c = hd m (4 * j + 3) → j_X10_catches_127 X K (nI m) (nI p) (nI (wv m)) (nI (hn m)) (nI j) d (nI a) (nI b) (nI c) I P := by
    intro d j X nx hi a b c ea eb ec
    have c0 := b16 (4 * j)
    have c1 := b16 (4 * j + 1)
    have c3 := b16 (4 * j + 3)
    unfold j_X10_catches_127
    rw [h65, nI_1]
    by_cases q1 : p < a
    · exact zip (by first | omega | decide | (simp (maxSteps := 400000) (disch := omega) only [q_lit, q_neg, nI_ltI, nI_leI, nI_eq, nI_add, pk_mul, pk_sub, nI_clamp, vp_q, zu_same, zu_nc, zu_nj, ng_lt, ng_le, ng_gt, ng_ge, ng_eq, ng_qe, ng_ee, ng_add, not_false_eq_true, not_true_eq_false, ne_eq]; done) | (simp (maxSteps := 400000) (disch := omega) only [q_lit, q_neg, nI_ltI, nI_leI, nI_eq, nI_add, pk_mul, pk_sub, nI_clamp, vp_q, zu_same, zu_nc, zu_nj, ng_lt, ng_le, ng_gt, ng_ge, ng_eq, ng_qe, ng_ee, ng_add, not_false_eq_true, not_true_eq_false, ne_eq]; omega)) (nx (fun y => by have := y.1; omega))
    · refine zin (by first | omega | decide | (simp (maxSteps := 400000) (disch := omega) only [q_lit, q_neg, nI_ltI, nI_leI, nI_eq, nI_add, pk_mul, pk_sub, nI_clamp, vp_q, zu_same, zu_nc, zu_nj, ng_lt, ng_le, ng_gt, ng_ge, ng_eq, ng_qe, ng_ee, ng_add, not_false_eq_true, not_true_eq_false, ne_eq]; done) | (simp (maxSteps := 400000) (disch := omega) only [q_lit, q_neg, nI_ltI, nI_leI, nI_eq, nI_add, pk_mul, pk_sub, nI_clamp, vp_q, zu_same, zu_nc, zu_nj, ng_lt, ng_le, ng_gt, ng_ge, ng_eq, ng_qe, ng_ee, ng_add, not_false_eq_true, not_true_eq_false, ne_eq]; omega)) ?_
      by_cases q2 : b ≤ p
      · exact zip (by first | omega | decide | (simp (maxSteps := 400000) (disch := omega) only [q_lit, q_neg, nI_ltI, nI_leI, nI_eq, nI_add, pk_mul, pk_sub, nI_clamp, vp_q, zu_same, zu_nc, zu_nj, ng_lt, ng_le, ng_gt, ng_ge, ng_eq, ng_qe, ng_ee, ng_add, not_false_eq_true, not_true_eq_false, ne_eq]; done) | (simp (maxSteps := 400000) (disch := omega) only [q_lit, q_neg, nI_ltI, nI_leI, nI_eq, nI_add, pk_mul, pk_sub, nI_clamp, vp_q, zu_same, zu_nc, zu_nj, ng_lt, ng_le, ng_gt, ng_ge, ng_eq, ng_qe, ng_ee, ng_add, not_false_eq_true, not_true_eq_false, ne_eq]; omega)) (nx (fun y => by have := y.2.1; omega))
      · refine zin (by first | omega | decide | (simp (maxSteps := 400000) (disch := omega) only [q_lit, q_neg, nI_ltI, nI_leI, nI_eq, nI_add, pk_mul, pk_sub, nI_clamp, vp_q, zu_same, zu_nc, zu_nj, ng_lt, ng_le, ng_gt, ng_ge, ng_eq, ng_qe, ng_ee, ng_add, not_false_eq_true, not_true_eq_false, ne_eq]; done) | (simp (maxSteps := 400000) (disch := omega) only [q_lit, q_neg, nI_ltI, nI_leI, nI_eq, nI_add, pk_mul, pk_sub, nI_clamp, vp_q, zu_same, zu_nc, zu_nj, ng_lt, ng_le, ng_gt, ng_ge, ng_eq, ng_qe, ng_ee, ng_add, not_false_eq_true, not_true_eq_false, ne_eq]; omega)) ?_
        by_cases q3 : c = 0
        · exact zip (by rw [q3]; rfl) (hi ⟨by omega, by omega, Or.inl (by omega)⟩)
        · refine zin (by first | omega | decide | (simp (maxSteps := 400000) (disch := omega) only [q_lit, q_neg, nI_ltI, nI_leI, nI_eq, nI_add, pk_mul, pk_sub, nI_clamp, vp_q, zu_same, zu_nc, zu_nj, ng_lt, ng_le, ng_gt, ng_ge, ng_eq, ng_qe, ng_ee, ng_add, not_false_eq_true, not_true_eq_false, ne_eq]; done) | (simp (maxSteps := 400000) (disch := omega) only [q_lit, q_neg, nI_ltI, nI_leI, nI_eq, nI_add, pk_mul, pk_sub, nI_clamp, vp_q, zu_same, zu_nc, zu_nj, ng_lt, ng_le, ng_gt, ng_ge, ng_eq, ng_qe, ng_ee, ng_add, not_false_eq_true, not_true_eq_false, ne_eq]; omega)) ?_
          by_cases q4 : c = kd
          · exact zip (by rw [q4]) (hi ⟨by omega, by omega, Or.inr (by omega)⟩)
          · exact zin (fun y => q4 (nI_inj (by omega) hk2 y)) (nx (fun y => by have := y.2.2; omega))
  have lp : ∀ d j, j + d = hn m → (∀ i, i < j → ¬ hcd hd m p kd i) → l_X10_catches_30 K (d + 1) (nI m) (nI p) (nI (wv m)) (nI (hn m)) (nI j) I P := by
    intro d
    induction d with
    | zero =>
      intro j hj no
      obtain rfl : j = hn m := by omega
      rw [l_X10_catches_30]
      exact zip (by split at n9 <;> first | omega | decide | (simp (maxSteps := 400000) (disch := omega) only [q_lit, q_neg, nI_ltI, nI_leI, nI_eq, nI_add, pk_mul, pk_sub, nI_clamp, vp_q, zu_same, zu_nc, zu_nj, ng_lt, ng_le, ng_gt, ng_ge, ng_eq, ng_qe, ng_ee, ng_add, not_false_eq_true, not_true_eq_false, ne_eq]; done) | (simp (maxSteps := 400000) (disch := omega) only [q_lit, q_neg, nI_ltI, nI_leI, nI_eq, nI_add, pk_mul, pk_sub, nI_clamp, vp_q, zu_same, zu_nc, zu_nj, ng_lt, ng_le, ng_gt, ng_ge, ng_eq, ng_qe, ng_ee, ng_add, not_false_eq_true, not_true_eq_false, ne_eq]; omega)) (k0 no)
    | succ d ih =>
      intro j hj no
      have nx : ¬ hcd hd m p kd j → l_X10_catches_30 K (d + 1) (nI m) (nI p) (nI (wv m)) (nI (hn m)) (nI (j + 1)) I P := fun q => ih (j + 1) (by omega) (fun i hi => by
        by_cases ei : i = j
        · rw [ei]; exact q
        · exact no i (by omega))
      rw [l_X10_catches_30]
      refine zin (by split at n9 <;> first | omega | decide | (simp (maxSteps := 400000) (disch := omega) only [q_lit, q_neg, nI_ltI, nI_leI, nI_eq, nI_add, pk_mul, pk_sub, nI_clamp, vp_q, zu_same, zu_nc, zu_nj, ng_lt, ng_le, ng_gt, ng_ge, ng_eq, ng_qe, ng_ee, ng_add, not_false_eq_true, not_true_eq_false, ne_eq]; done) | (simp (maxSteps := 400000) (disch := omega) only [q_lit, q_neg, nI_ltI, nI_leI, nI_eq, nI_add, pk_mul, pk_sub, nI_clamp, vp_q, zu_same, zu_nc, zu_nj, ng_lt, ng_le, ng_gt, ng_ge, ng_eq, ng_qe, ng_ee, ng_add, not_false_eq_true, not_true_eq_false, ne_eq]; omega)) ?_
      by_cases e0 : wv m = 0
      · rw [if_pos e0] at n9
        obtain ⟨x0, x1, x2, x3⟩ := (g0 e0).2 j (by omega)
        have v : vp_in (nI (8 * m + j)) 48 := vp_in_nI (by omega) (by decide)
        have z0 : nI (wv m) = 0 := by rw [e0]; rfl
        refine zip z0 ?_
        unfold j_X10_catches_58 j_X10_catches_81 j_X10_catches_104
        rw [e8m, nI_clamp (by omega), M_s0 h (c := 162) (by unfold rcM; omega), M_s0 h (c := 163) (by unfold rcM; omega), M_s0 h (c := 165) (by unfold rcM; omega), x0, x1, x3]
        exact zip z0 ⟨v, zip z0 ⟨v, zip z0 ⟨v, step _ j _ nx (fun q => by have := k1 j ⟨by omega, q, no⟩; rw [if_pos e0] at this; exact this) _ _ _ rfl rfl rfl⟩⟩⟩
      · rw [if_neg e0] at n9
        obtain ⟨x0, x1, x2, x3⟩ := (g1 e0).2 j (by omega)
        have v : vp_in (nI (9 * m + j)) 54 := vp_in_nI (by omega) (by decide)
        have z0 : ¬ nI (wv m) = 0 := by first | omega | decide | (simp (maxSteps := 400000) (disch := omega) only [q_lit, q_neg, nI_ltI, nI_leI, nI_eq, nI_add, pk_mul, pk_sub, nI_clamp, vp_q, zu_same, zu_nc, zu_nj, ng_lt, ng_le, ng_gt, ng_ge, ng_eq, ng_qe, ng_ee, ng_add, not_false_eq_true, not_true_eq_false, ne_eq]; done) | (simp (maxSteps := 400000) (disch := omega) only [q_lit, q_neg, nI_ltI, nI_leI, nI_eq, nI_add, pk_mul, pk_sub, nI_clamp, vp_q, zu_same, zu_nc, zu_nj, ng_lt, ng_le, ng_gt, ng_ge, ng_eq, ng_qe, ng_ee, ng_add, not_false_eq_true, not_true_eq_false, ne_eq]; omega)
        refine zin z0 ?_
        unfold j_X10_catches_58 j_X10_catches_81 j_X10_catches_104
        rw [e9m, nI_clamp (by omega), M_s0 h (c := 180) (by unfold rcM; omega), M_s0 h (c := 181) (by unfold rcM; omega), M_s0 h (c := 183) (by unfold rcM; omega), x0, x1, x3]
        exact zin z0 ⟨v, zin z0 ⟨v, zin z0 ⟨v, step _ j _ nx (fun q => by have := k1 j ⟨by omega, q, no⟩; rw [if_neg e0] at this; exact this) _ _ _ rfl rfl rfl⟩⟩⟩
  have vm : vp_in (nI m) 6 := vp_in_nI hm (by decide)
  by_cases e0 : wv m = 0
  · refine zip (by rw [e0]; rfl) ⟨vm, hn m + 1, ?_⟩
    rw [nI_clamp (by omega), M_s0 h (c := 161) (by unfold rcM; omega), (g0 e0).1]
    exact lp (hn m) 0 (by omega) (fun i hi => absurd hi (by omega))
  · refine zin (by first | omega | decide | (simp (maxSteps := 400000) (disch := omega) only [q_lit, q_neg, nI_ltI, nI_leI, nI_eq, nI_add, pk_mul, pk_sub, nI_clamp, vp_q, zu_same, zu_nc, zu_nj, ng_lt, ng_le, ng_gt, ng_ge, ng_eq, ng_qe, ng_ee, ng_add, not_false_eq_true, not_true_eq_false, ne_eq]; done) | (simp (maxSteps := 400000) (disch := omega) only [q_lit, q_neg, nI_ltI, nI_leI, nI_eq, nI_add, pk_mul, pk_sub, nI_clamp, vp_q, zu_same, zu_nc, zu_nj, ng_lt, ng_le, ng_gt, ng_ge, ng_eq, ng_qe, ng_ee, ng_add, not_false_eq_true, not_true_eq_false, ne_eq]; omega)) ⟨vm, hn m + 1, ?_⟩
    rw [nI_clamp (by omega), M_s0 h (c := 179) (by unfold rcM; omega), (g1 e0).1]
    exact lp (hn m) 0 (by omega) (fun i hi => absurd hi (by omega))
