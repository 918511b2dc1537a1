/-! PURE 103: RUN: the call -/
theorem ty_lc {a b : Int32} {n2 : Nat} {t : Nat → Nat} (h : ∀ i, t i < 2) : TyL n2 (lc2 a b) t := fun i _ g => by
  have h1 : t i = 1 := by have := h i; omega
  rw [h1]
  unfold lc2 upl
  by_cases e1 : i = 1
  · rw [if_pos e1]; exact ⟨rfl, trivial⟩
  · rw [if_neg e1]
    by_cases e0 : i = 0
    · rw [if_pos e0]; exact ⟨rfl, trivial⟩
    · rw [if_neg e0]; exact ⟨rfl, trivial⟩
/-- the invariant holds at the beginning -/
theorem inv0 {I0 : zI} {I1 : zI → Prop} {k lim kp nm m : Nat} {wv wt hn ln ar fX fY : nuN} {cb hd B ho og : Nat → Nat → Nat} {xq : Nat → Int32} {Pl : PlT} {x y : Int32} {z : nuZ} (hC : Cg I0 I1 k wv wt hn ln ar fX fY cb hd B ho og xq kp nm) (hPl : PlOk Pl I0 wv hn ln ar cb hd B ho og kp nm) (hm : m < nm) (hl : lim ≤ 3000) : ∃ ph, ph < 1000000 ∧ Inv Pl cb hd hn nm fX lim ph [(m, 0, [], lc2 x y)] (erN B m (ar m) (mxN n00 1) (wt m)) z none none (fun _ => False) := by
  obtain ⟨L', r', z', p1, p2, p3, p4⟩ := hPl.2 m hm
  have a4 := (hC.2.2.2.1 m hm).2.2.1
  have w24 := (hC.1.2.2 m hm).2.2.2.1.1
  obtain ⟨e1, e2, e3⟩ := erN_4 (B := B) (m := m) (n := mxN n00 1) a4 (wt m)
  have o : ∀ i, i ≠ 4 → i ≠ 1 → erN B m (ar m) (mxN n00 1) (wt m) i = 0 := fun i h1 h2 => by rw [e3 i h1, mx_i h2]; rfl
  have o4 : mxN n00 1 4 = 0 := mx_i (by omega)
  have u := ufn_le (X := fX) (n := erN B m (ar m) (mxN n00 1) (wt m)) 24
  have ph1 : phi fX lim 1 (erN B m (ar m) (mxN n00 1) (wt m)) r' ≤ 600000 := by
    unfold phi
    rw [o 0 (by omega) (by omega)]; omega
  refine ⟨phi fX lim 1 (erN B m (ar m) (mxN n00 1) (wt m)) r', by omega, m, 0, [], lc2 x y, [], [], L', r', z', rfl, by decide, p1, ⟨rfl, fun v hv => absurd hv (by simp)⟩, TyL_b (ty_lc (fun i => by split <;> decide)) p2, fun x hx => absurd hx (by simp), Zin_ok p4, rfl, ?_, hl, ?_, ?_, fun q hq => ?_, fun r hr => ?_⟩
  · rw [o 0 (by omega) (by omega)]; omega
  · rw [o 2 (by omega) (by omega)]; omega
  · omega
  · rw [o _ (by omega) (by omega)]; omega
  · rw [o 2 (by omega) (by omega)] at hr; omega
theorem k_run {a : Nat → Int32} {I : zI} {P : zP} (hP : PSt P) (h : RelE I P) : ok_run a RelE I P := by
  obtain ⟨n, A, kq, B, hR⟩ := h
  have same : RelE I P := ⟨n, A, kq, B, hR⟩
  obtain ⟨hn, e1, e2⟩ := Rel_n hR
  unfold ok_run
  have refuse : (¬ (0 ≤ a 1 ∧ a 1 ≤ 2)) ∨ (a 2 < 0 ∨ nI n ≤ a 2) ∨ ¬ (1 ≤ a 5 ∧ a 5 ≤ 3000) → w_X10_run (a 1) (a 2) (a 3) (a 4) (a 5) I P (fun r2 I3 P3 => (-2 : Int32) = r2 ∧ RelE I3 P3) := fun hno => by
    unfold w_X10_run
    rw [s_in]
    by_cases y1 : 0 ≤ a 1 ∧ a 1 ≤ 2
    · rw [if_pos y1]
      refine zin (by decide) ?_
      rcases ix_cases (a 2) (n := n) (by omega) with ⟨m, hm, e⟩ | hm
      · rw [e]
        refine s_misMT e2 hn hm (zin (by decide) ?_)
        rw [s_in]
        have y5 : ¬ (1 ≤ a 5 ∧ a 5 ≤ 3000) := by
          rcases hno with q | q | q
          · exact absurd y1 q
          · rcases q with q | q
            · rw [e] at q; exact absurd q (by first | omega | decide | (simp (maxSteps := 400000) (disch := omega) only [q_lit, q_neg, nI_ltI, nI_leI, nI_eq, nI_add, pk_mul, pk_sub, nI_clamp, vp_q, zu_same, zu_nc, zu_nj, ng_lt, ng_le, ng_gt, ng_ge, ng_eq, ng_qe, ng_ee, ng_add, not_false_eq_true, not_true_eq_false, ne_eq]; done) | (simp (maxSteps := 400000) (disch := omega) only [q_lit, q_neg, nI_ltI, nI_leI, nI_eq, nI_add, pk_mul, pk_sub, nI_clamp, vp_q, zu_same, zu_nc, zu_nj, ng_lt, ng_le, ng_gt, ng_ge, ng_eq, ng_qe, ng_ee, ng_add, not_false_eq_true, not_true_eq_false, ne_eq]; omega))
            · rw [e] at q; exact absurd q (by first | omega | decide | (simp (maxSteps := 400000) (disch := omega) only [q_lit, q_neg, nI_ltI, nI_leI, nI_eq, nI_add, pk_mul, pk_sub, nI_clamp, vp_q, zu_same, zu_nc, zu_nj, ng_lt, ng_le, ng_gt, ng_ge, ng_eq, ng_qe, ng_ee, ng_add, not_false_eq_true, not_true_eq_false, ne_eq]; done) | (simp (maxSteps := 400000) (disch := omega) only [q_lit, q_neg, nI_ltI, nI_leI, nI_eq, nI_add, pk_mul, pk_sub, nI_clamp, vp_q, zu_same, zu_nc, zu_nj, ng_lt, ng_le, ng_gt, ng_ge, ng_eq, ng_qe, ng_ee, ng_add, not_false_eq_true, not_true_eq_false, ne_eq]; omega))
          · exact q
        rw [if_neg y5]
        exact zip rfl ⟨rfl, same⟩
      · exact s_misMF e2 hn hm (zip rfl ⟨rfl, same⟩)
    · rw [if_neg y1]
      exact zip rfl ⟨rfl, same⟩
  unfold w_X9_run
  rcases ix_cases (a 1) (n := 3) (by decide) with ⟨k, hk, ek⟩ | hno
  · have y1 : 0 ≤ a 1 ∧ a 1 ≤ 2 := by
      rw [ek]
      exact ⟨nI_pos' (by omega), (nI_leI (a := k) (b := 2) (by omega) (by decide)).mpr (by omega)⟩
    refine s_isMannerT y1 (zin (by decide) ?_)
    rcases ix_cases (a 2) (n := n) (by omega) with ⟨m, hm, em⟩ | hno2
    · rw [em]
      have hm6 : m < 6 := by omega
      refine s_isMT e1 hn hm (zin (by decide) ?_)
      by_cases l1 : a 5 < 1
      · refine zip l1 ?_
        rw [← em]
        exact refuse (Or.inr (Or.inr (fun q => absurd l1 (i32_nlt.mpr q.1))))
      refine zin l1 ?_
      by_cases l2 : a 5 ≤ 3000
      · refine zip l2 ?_
        have lx : ∃ lim, 1 ≤ lim ∧ lim ≤ 3000 ∧ a 5 = nI lim := by
          rcases ix_cases (a 5) (n := 3001) (by decide) with ⟨j, hj, ej⟩ | hno5
          · refine ⟨j, ?_, by omega, ej⟩
            by_cases j0 : j = 0
            · rw [ej, j0] at l1; exact absurd (by decide) l1
            · omega
          · rcases hno5 with q | q
            · refine absurd ?_ l1
              rw [Int32.lt_iff_toInt_lt] at q ⊢
              have e0 : (0 : Int32).toInt = 0 := by decide
              have e1 : (1 : Int32).toInt = 1 := by decide
              omega
            · rw [Int32.le_iff_toInt_le] at q l2
              rw [nI_toInt (by omega)] at q
              have e3 : (3000 : Int32).toInt = 3000 := by decide
              omega
        obtain ⟨lim, q1, q3, el⟩ := lx
        have y5 : 1 ≤ a 5 ∧ a 5 ≤ 3000 := ⟨i32_nlt.mp l1, l2⟩
        rw [ek] at y1 ⊢
        rw [el] at y5 ⊢
        rw [nI_clamp (by omega), nI_clamp (by omega)]
        refine ⟨vp_in_nI hk (by decide), _, pT hP hk, vp_in_nI hm6 (by decide), _, pM hP hm6, L_bg hk q3 hP hm6 (fun J R hS fJ j10 tl => ?_)⟩
        have fJ' : ∀ c j, ¬ (c = 0 ∧ j = 11) → ¬ (c = 114 ∧ 7 ≤ j) → ¬ (93 + 5 * k ≤ c ∧ c ≤ 97 + 5 * k) → ¬ (116 ≤ c ∧ c ≤ 118) → J c j = I c j := fun c j p0 p1 p2 p3 => by
          rw [fJ c j p1 p2 p3, zu_ne p0]
        have j11 : J 0 11 = I 0 11 + 1 := by rw [fJ _ _ (by omega) (by omega) (by omega), zu_same]
        obtain ⟨wv, wt, hn', ln, ar, fX, fY, cb, hd, ho, og, xq, Pl, hC, hPl⟩ := mkC (k := k) (I0 := J) (I1 := fun Gb => ∀ c j, (157 ≤ c ∧ c ≤ 186) ∨ (c = 155 ∧ j = 17) → Gb c j = I c j) hR (fun c j q => fJ' c j (by omega) (by omega) (by omega) (by omega)) (fun Gb hGb c j q => hGb c j q)
        obtain ⟨d1, d2, d3, d4, -, -⟩ := hC.2.2.2.1 m hm
        obtain ⟨g1, g2, g3, g4, g5, g6⟩ := hC.1.2.2 m hm
        have m4 : mxN n00 1 4 = 0 := mx_i (by omega)
        refine L_open (fs := []) hm6 (hS wv) (by decide) d4 (fun J2 R2 hJ2 s2 => ?_)
        refine L_b2 (a0 := 0) hm6 hJ2 g1 d1 d3 g4 hC.1.2.1 g5 (by show mxN n00 1 4 + 120 < 2 ^ 30; rw [m4]; decide) (fun J3 hJ3 s3 => ?_)
        obtain ⟨ph, hph, hI⟩ := inv0 (x := if ar m = 0 then 0 else a 3) (y := if ar m ≤ 1 then 0 else a 4) (z := erZ B m (ar m) (lc2 (if ar m = 0 then 0 else a 3) (if ar m ≤ 1 then 0 else a 4)) (mxN n00 1) z00z (wt m)) hC hPl hm q3
        obtain ⟨fs', n', z', e, av, tp, tm, he, ⟨f1, hL⟩, ⟨f2, hM⟩⟩ := runs hC hPl ph _ _ _ none none _ hI
        have en : e ≠ -1 := by rcases he with e | e | e <;> rw [e] <;> decide
        have s23 := sL_t s2 s3
        refine ⟨f1, hL J3 R2 _ 0 ⟨hJ3, by rw [s23.1 10 (by omega)]; exact j10, ⟨by rw [s23.2 4 (by omega)]; exact tl.1, by rw [s23.2 5 (by omega)]; exact tl.2.1, by rw [s23.2 9 (by omega)]; exact tl.2.2.1, by rw [s23.2 10 (by omega)]; exact tl.2.2.2⟩, fun _ _ q => (by cases q), fun _ _ _ q => (by cases q)⟩ (by omega) (fun J4 R4 hLE => ?_)⟩
        unfold j_X2_perform_153
        refine ⟨_, hLE.1.1.2.2.2.1, shT hk, _, pT0 hLE.1.1.2.2.1 hk, shT0 hk, by rw [zzT0 hk]; decide, shT hk, ?_⟩
        rw [zcpy_o (by omega)]
        have o2 : ∀ c j, c ≠ 94 + 5 * k → zcpy J4 116 ((0 : Int32).toNatClampNeg) (94 + 5 * k) ((0 : Int32).toNatClampNeg) ((8 : Int32).toNatClampNeg) c j = J4 c j := fun c j q => zcpy_o q
        have i2 : ∀ f, f < 8 → zcpy J4 116 ((0 : Int32).toNatClampNeg) (94 + 5 * k) ((0 : Int32).toNatClampNeg) ((8 : Int32).toNatClampNeg) (94 + 5 * k) f = J4 116 f := fun f hf => zcpy_i hf
        generalize zcpy J4 116 ((0 : Int32).toNatClampNeg) (94 + 5 * k) ((0 : Int32).toNatClampNeg) ((8 : Int32).toNatClampNeg) = I2 at o2 i2 ⊢
        have b4 : ∀ c j, 155 ≤ c → I2 c j = I c j := fun c j q => by
          rw [o2 c j (by omega), L_s0 hLE.1 (by unfold rcL; omega)]
          exact fJ' c j (by omega) (by omega) (by omega) (by omega)
        show w_X10_run (nI k) (nI m) (a 3) (a 4) (nI lim) I2 R4 _
        unfold w_X10_run
        rw [s_in, if_pos y1]
        refine zin (by decide) (s_misMT (by rw [b4 _ _ (by omega)]; exact e2) hn hm (zin (by decide) ?_))
        rw [s_in, if_pos y5]
        refine zin (by decide) (M_bg hk q3 (fun J5 hS5 f5 j52 j73 => ?_))
        have hG : ∀ c j, (157 ≤ c ∧ c ≤ 186) ∨ (c = 155 ∧ j = 17) → J5 c j = I c j := fun c j q => by
          rw [f5 c j (by omega) (by omega) (by omega)]; exact b4 c j (by omega)
        obtain ⟨b1, b2, b3, b5, b6⟩ := (hC.2.1 J5 hG).2.2 m hm
        refine M_open (fs := []) hm6 hS5 (by decide) (fun J6 hJ6 s6 _ => ?_)
        refine M_b2 hm6 hJ6 (d2 J5 hG) d3 b3 (hC.2.1 J5 hG).2.1 b5 (by show mxN n00 1 4 + 120 < 2 ^ 30; rw [m4]; decide) (fun J7 hJ7 s7 => ⟨f2, hM J5 hG J7 R4 _ ⟨hJ7, ?_, fun _ _ q => (by cases q), fun _ _ _ q => (by cases q)⟩ (fun J8 hME => M_keep hME (fun J9 f9 c1 c2 c3 c4 c5 c6 c7 c8 => ⟨?_, n, A, kq, B, ?_⟩))⟩)
        · rw [s7.1 52 (by omega), s6.1 52 (by omega)]; exact j52
        · rw [hLE.2.1, f9 155 52 (by omega) (by omega) (by omega), hME.2.1]
        · refine Rel_run hR en fJ' j11 hLE (fun c j p1 p2 p3 p4 => ?_) (fun f hf => ?_) ?_ hME f9 c1 c2 c3 c4 c5 c6 c7 c8
          · rw [f5 c j p1 p2 p3]; exact o2 c j p4
          · rw [f5 _ _ (by omega) (by omega) (by omega)]; exact i2 f hf
          · rw [j73, o2 _ _ (by omega)]
      · refine zin l2 ?_
        rw [← em]
        exact refuse (Or.inr (Or.inr (fun q => l2 q.2)))
    · exact s_isMF e1 hno2 (zip rfl (refuse (Or.inr (Or.inl hno2))))
  · have y1 : ¬ (0 ≤ a 1 ∧ a 1 ≤ 2) := fun q => by
      rcases hno with p | p
      · exact absurd p (i32_nlt.mpr q.1)
      · rw [Int32.le_iff_toInt_le] at p
        have q2 := q.2
        rw [Int32.le_iff_toInt_le] at q2
        rw [nI_toInt (by decide)] at p
        have e2 : (2 : Int32).toInt = 2 := by decide
        omega
    exact s_mnF hno (zip rfl (refuse (Or.inl y1)))
