/-! PURE 71: RUN: CALL and GIVE, on both sides -/
def cloL : (Nat → Va) → List Va → Nat → (Nat → Va)
  | l, _, 0 => l
  | l, [], _ + 1 => l
  | l, v :: s, j + 1 => cloL (upl l j v) s j
def cloS : List Va → Nat → List Va
  | s, 0 => s
  | [], _ + 1 => []
  | _ :: s, j + 1 => cloS s j
theorem clo_at : ∀ (a : Nat) (s : List Va) (l : Nat → Va), a ≤ s.length → (∀ i, i < a → s[a - 1 - i]? = some (cloL l s a i)) ∧ (∀ i, a ≤ i → cloL l s a i = l i) ∧ (cloS s a).length = s.length - a
  | 0, s, l, _ => ⟨fun i hi => absurd hi (by omega), fun i _ => by rw [cloL], by rw [cloS]; omega⟩
  | a + 1, [], l, h => absurd h (by simp)
  | a + 1, v :: s, l, h => by
    rw [List.length_cons] at h
    obtain ⟨x1, x2, x3⟩ := clo_at a s (upl l a v) (by omega)
    rw [cloL, cloS]
    refine ⟨fun i hi => ?_, fun i hi => by rw [x2 i (by omega), upl_n (by omega)], by rw [x3, List.length_cons]; omega⟩
    by_cases e : i = a
    · subst e
      rw [x2 i (Nat.le_refl _), upl_s, show i + 1 - 1 - i = 0 by omega, List.getElem?_cons_zero]
    · rw [show a + 1 - 1 - i = (a - 1 - i) + 1 by omega, List.getElem?_cons_succ]
      exact x1 i (by omega)
theorem SL_2 {I0 I J : zI} {k lim : Nat} {wv n : nuN} {z : nuZ} {x y y' : Frm} {fs : List Frm} {P : zP} (h : SL I0 k lim wv (x :: y :: fs) n z I P) (hy : qFrL wv fs.length y' J P) (g : ∀ c j, ¬ (119 + 3 * fs.length ≤ c ∧ c ≤ 121 + 3 * fs.length) → J c j = I c j) : SL I0 k lim wv (x :: y' :: fs) n z J P := by
  obtain ⟨h1, h2, h3, ⟨h4, -, h4'⟩, h5, h6⟩ := h
  have hk := h1.1
  rw [List.length_cons, List.length_cons] at h2
  rw [List.length_cons] at h4
  refine ⟨ScL_c h1 (fun c j a => g c j (by unfold rcL at a; omega)), by rw [List.length_cons, List.length_cons]; exact h2, by rw [g _ _ (by omega)]; exact h3, ⟨?_, hy, FsL_c h4' (fun c j a => g c j (by omega)) (fun _ _ => rfl)⟩, MmL_c h5 (fun c j a => g c j (by omega)), TaL_c h6 (fun c j a => g c j (by omega))⟩
  rw [List.length_cons]
  exact qFrL_c h4 (fun c j a => g c j (by omega)) rfl
theorem L_pop2 {I0 I : zI} {k lim m p : Nat} {wv n : nuN} {z : nuZ} {s : List Va} {l : Nat → Va} {x : Frm} {fs : List Frm} {P : zP} {K : Int32 → zI → zP → Prop} {v : Va} (h : SL I0 k lim wv (x :: (m, p, v :: s, l) :: fs) n z I P) (kk : ∀ J, SL I0 k lim wv (x :: (m, p, s, l) :: fs) n z J P → sL k I J → K (lv v) J P) : w_X0_pop (119 + 3 * fs.length) I P K := by
  obtain ⟨h1, h2, h3, h4, h5, h6, h7, h8, h9⟩ := h.2.2.2.1.2.1
  have hf : fs.length < 12 := by have := h.2.1; rw [List.length_cons, List.length_cons] at this; omega
  have hk := h.1.1
  have hP := h.1.2.2.1
  dsimp only at h6 h7 h8 h9
  rw [List.length_cons] at h6 h7
  unfold w_X0_pop
  rw [h6, show nI (s.length + 1) - 1 = nI s.length from by rw [← nq1, pk_sub (by omega)]; rfl, zu_same]
  refine ⟨shF hf, zin (by first | omega | decide | (simp (maxSteps := 400000) (disch := omega) only [q_lit, q_neg, nI_ltI, nI_leI, nI_eq, nI_add, pk_mul, pk_sub, nI_clamp, vp_q, zu_same, zu_nc, zu_nj, ng_lt, ng_le, ng_gt, ng_ge, ng_eq, ng_qe, ng_ee, ng_add, not_false_eq_true, not_true_eq_false, ne_eq]; done) | (simp (maxSteps := 400000) (disch := omega) only [q_lit, q_neg, nI_ltI, nI_leI, nI_eq, nI_add, pk_mul, pk_sub, nI_clamp, vp_q, zu_same, zu_nc, zu_nj, ng_lt, ng_le, ng_gt, ng_ge, ng_eq, ng_qe, ng_ee, ng_add, not_false_eq_true, not_true_eq_false, ne_eq]; omega)) (zip (by first | omega | decide | (simp (maxSteps := 400000) (disch := omega) only [q_lit, q_neg, nI_ltI, nI_leI, nI_eq, nI_add, pk_mul, pk_sub, nI_clamp, vp_q, zu_same, zu_nc, zu_nj, ng_lt, ng_le, ng_gt, ng_ge, ng_eq, ng_qe, ng_ee, ng_add, not_false_eq_true, not_true_eq_false, ne_eq]; done) | (simp (maxSteps := 400000) (disch := omega) only [q_lit, q_neg, nI_ltI, nI_leI, nI_eq, nI_add, pk_mul, pk_sub, nI_clamp, vp_q, zu_same, zu_nc, zu_nj, ng_lt, ng_le, ng_gt, ng_ge, ng_eq, ng_qe, ng_ee, ng_add, not_false_eq_true, not_true_eq_false, ne_eq]; omega)) ⟨_, pF1 hP hf, shF1 hf, by rw [zzF1 hf]; exact vp_in_nI (by omega) (by decide), ?_⟩)⟩
  rw [nI_clamp (by omega), zu_nc (a := 121 + 3 * fs.length) (by omega), h8.1]
  have g : ∀ c j, ¬ (119 + 3 * fs.length ≤ c ∧ c ≤ 121 + 3 * fs.length) → zu I (119 + 3 * fs.length) 2 (nI s.length) c j = I c j := fun c j a => zu_nc (by omega)
  refine kk _ (SL_2 h ⟨h1, h2, ?_, ?_, h5, zu_same, (by show s.length ≤ 10; omega), SkL_c h8.2 (fun i hi => zu_nc (by omega)), fun q hq => ?_⟩ g) (sL_f hk g)
  · rw [zu_nj (by omega)]; exact h3
  · rw [zu_nj (by omega)]; exact h4
  · rw [zu_nc (by omega)]; exact h9 q hq
theorem L_cl55 {I0 I : zI} {k lim m p mc : Nat} {wv n : nuN} {z : nuZ} {l : Nat → Va} {fs : List Frm} {P : zP} {K : zI → zP → Prop} : ∀ (a : Nat) (s : List Va) (lc : Nat → Va) (J : zI), a ≤ s.length → a ≤ 12 → SL I0 k lim wv ((mc, 0, [], lc) :: (m, p, s, l) :: fs) n z J P → sL k I J → (∀ J2, SL I0 k lim wv ((mc, 0, [], cloL lc s a) :: (m, p, cloS s a, l) :: fs) n z J2 P → sL k I J2 → w_X2_noteEnter (119 + 3 * (fs.length + 1)) J2 P (fun I2 P2 => K I2 P2)) → l_X2_doCall_55 K (a + 1) (119 + 3 * fs.length) (119 + 3 * (fs.length + 1)) (nI a - 1) J P
  | 0, s, lc, J, _, _, hJ, g, kk => by
    rw [l_X2_doCall_55]
    rw [cloL, cloS] at kk
    exact zip (by decide) (kk J hJ g)
  | a + 1, [], lc, J, h, _, _, _, _ => absurd h (by simp)
  | a + 1, v :: s, lc, J, h, h12, hJ, g, kk => by
    rw [List.length_cons] at h
    have hf : fs.length + 1 < 12 := by have := hJ.2.1; rw [List.length_cons, List.length_cons] at this; omega
    have hk := hJ.1.1
    rw [cloL, cloS] at kk
    rw [l_X2_doCall_55, show nI (a + 1) - 1 = nI a from by rw [← nq1, pk_sub (by omega)]; rfl, show nI a + (-1) = nI a - 1 from (Int32.sub_eq_add_neg _ _).symm]
    refine zin (by first | omega | decide | (simp (maxSteps := 400000) (disch := omega) only [q_lit, q_neg, nI_ltI, nI_leI, nI_eq, nI_add, pk_mul, pk_sub, nI_clamp, vp_q, zu_same, zu_nc, zu_nj, ng_lt, ng_le, ng_gt, ng_ge, ng_eq, ng_qe, ng_ee, ng_add, not_false_eq_true, not_true_eq_false, ne_eq]; done) | (simp (maxSteps := 400000) (disch := omega) only [q_lit, q_neg, nI_ltI, nI_leI, nI_eq, nI_add, pk_mul, pk_sub, nI_clamp, vp_q, zu_same, zu_nc, zu_nj, ng_lt, ng_le, ng_gt, ng_ge, ng_eq, ng_qe, ng_ee, ng_add, not_false_eq_true, not_true_eq_false, ne_eq]; omega)) ⟨shF (by omega), L_pop2 hJ (fun J2 hJ2 g2 => ⟨shF hf, ?_⟩)⟩
    exact L_setLocal (fs := (m, p, s, l) :: fs) hJ2 (by omega) rfl (fun J3 hJ3 g3 => L_cl55 a s (upl lc a v) J3 (by omega) (by omega) hJ3 (sL_t g (sL_t g2 (sL_f hk g3))) kk)
theorem Lo_call {I0 I : zI} {k lim m p mc a nm : Nat} {wv n ln : nuN} {cb : Nat → Nat → Nat} {z : nuZ} {s : List Va} {l : Nat → Va} {fs : List Frm} {P : zP} {K : zI → zP → Prop} (h : SL I0 k lim wv ((m, p, s, l) :: fs) n z I P) (hc : CdL I0 wv cb ln m) (hn0 : I0 (20 + 12 * m) 0 = nI m) (hp : p + 1 < ln m) (hmc : cb m (p + 1) = mc) (hm6 : mc < 6) (ha : I0 (20 + 12 * mc) 7 = nI a) (hal : a ≤ s.length) (ha4 : a ≤ 4) (hw : wv mc = if k = 1 ∧ ¬ I0 (26 + 12 * mc) 5 = 0 then 1 else 0) (kt : fs.length = 11 → ∀ J, SL I0 k lim wv ((m, p, s, l) :: fs) n z J P → tL k m (nI 105) I J → K J P) (kk : fs.length < 11 → ∀ J Q, SL I0 k lim wv ((mc, 0, [], cloL (fun _ => Sum.inl 0) s a) :: (m, p, cloS s a, l) :: fs) (mxN n (fs.length + 2)) z J Q → sL k I J → w_X2_noteEnter (119 + 3 * (fs.length + 1)) J Q (fun I2 P2 => K I2 P2)) : w_X2_doCall (119 + 3 * fs.length) I P K := by
  obtain ⟨e, hf, hm, -⟩ := L_pl h
  have hk := h.1.1
  have h9 := h.2.2.1
  rw [List.length_cons] at h9
  unfold w_X2_doCall
  refine ⟨shF hf, L_oper h hc hp ?_⟩
  rw [h9, hmc]
  by_cases e11 : fs.length = 11
  · refine zip (by rw [e11]; decide) ?_
    unfold j_X2_doCall_23
    exact L_throw h hn0 (fun J hJ t => kt e11 J hJ t)
  · refine zin (by first | omega | decide | (simp (maxSteps := 400000) (disch := omega) only [q_lit, q_neg, nI_ltI, nI_leI, nI_eq, nI_add, pk_mul, pk_sub, nI_clamp, vp_q, zu_same, zu_nc, zu_nj, ng_lt, ng_le, ng_gt, ng_ge, ng_eq, ng_qe, ng_ee, ng_add, not_false_eq_true, not_true_eq_false, ne_eq]; done) | (simp (maxSteps := 400000) (disch := omega) only [q_lit, q_neg, nI_ltI, nI_leI, nI_eq, nI_add, pk_mul, pk_sub, nI_clamp, vp_q, zu_same, zu_nc, zu_nj, ng_lt, ng_le, ng_gt, ng_ge, ng_eq, ng_qe, ng_ee, ng_add, not_false_eq_true, not_true_eq_false, ne_eq]; omega)) (zip (by first | omega | decide | (simp (maxSteps := 400000) (disch := omega) only [q_lit, q_neg, nI_ltI, nI_leI, nI_eq, nI_add, pk_mul, pk_sub, nI_clamp, vp_q, zu_same, zu_nc, zu_nj, ng_lt, ng_le, ng_gt, ng_ge, ng_eq, ng_qe, ng_ee, ng_add, not_false_eq_true, not_true_eq_false, ne_eq]; done) | (simp (maxSteps := 400000) (disch := omega) only [q_lit, q_neg, nI_ltI, nI_leI, nI_eq, nI_add, pk_mul, pk_sub, nI_clamp, vp_q, zu_same, zu_nc, zu_nj, ng_lt, ng_le, ng_gt, ng_ge, ng_eq, ng_qe, ng_ee, ng_add, not_false_eq_true, not_true_eq_false, ne_eq]; omega)) ⟨vp_in_nI hm6 (by decide), ?_⟩)
    rw [nI_clamp (by omega)]
    refine ⟨_, pM h.1.2.2.1 hm6, L_open hm6 h (by rw [List.length_cons]; omega) hw (fun J Q hJ g => ⟨vp_in_nI hm6 (by decide), _, pM hJ.1.2.2.1 hm6, shM hm6, a + 1, ?_⟩)⟩
    rw [L_s0 hJ (c := 20 + 12 * mc) (by unfold rcL; omega), ha]
    exact L_cl55 a s _ J hal (by omega) hJ g (fun J2 hJ2 g2 => kk (by omega) J2 Q hJ2 g2)
theorem SkM_clo {b : Nat} {I : zI} : ∀ (a : Nat) (s : List Va), a ≤ s.length → SkM b s I → SkM b (cloS s a) I
  | 0, s, _, h => by rw [cloS]; exact h
  | a + 1, [], h, _ => absurd h (by simp)
  | a + 1, v :: s, h, hs => by
    rw [List.length_cons] at h
    rw [cloS]; exact SkM_clo a s (by omega) hs.2
theorem Mo_call {I0 I : zI} {k lim m p mc a : Nat} {n : nuN} {z : nuZ} {s : List Va} {l : Nat → Va} {fs : List Frm} {P : zP} {K : zI → zP → Prop} (h : SM I0 k lim ((m, p, s, l) :: fs) n z I) (hm6 : mc < 6) (ha : I0 157 mc = nI a) (hal : a ≤ s.length) (ha4 : a ≤ 4) (kt : fs.length = 11 → ∀ J, SM I0 k lim ((m, p, s, l) :: fs) n z J → tM (nI 105) I J → K J P) (kk : fs.length < 11 → ∀ J, SM I0 k lim ((mc, 0, [], cloL (fun _ => Sum.inl 0) s a) :: (m, p, cloS s a, l) :: fs) (mxN n (fs.length + 2)) z J → sM I J → w_X10_enters (nI mc) J P (fun I2 P2 => K I2 P2)) : w_X10_call (nI mc) I P K := by
  obtain ⟨hf, hm, hp, hlen⟩ := M_pl h
  obtain ⟨-, e1⟩ := M_f1 h
  have h54 := h.2.2.1
  rw [List.length_cons] at h54
  obtain ⟨q1, q2, q3, q4, q5, q6, q7, q8⟩ := h.2.2.2.1.1
  dsimp only at q5 q7 q8
  have y7 : I 157 mc = nI a := by rw [M_s0 h (by unfold rcM; omega)]; exact ha
  obtain ⟨c1, c2, c3⟩ := clo_at a s (fun _ => Sum.inl 0) hal
  unfold w_X10_call
  rw [nI_clamp (n := mc) (by omega), y7, e1, nI_clamp (by omega), q5, pk_sub hal, h54]
  by_cases e11 : fs.length = 11
  · exact zip (by rw [e11]; rfl) (kt e11 _ (M_thr h) tM_z)
  · have v1 : vp_in (nI fs.length) 12 := vp_in_nI hf (by decide)
    refine zin (by first | omega | decide | (simp (maxSteps := 400000) (disch := omega) only [q_lit, q_neg, nI_ltI, nI_leI, nI_eq, nI_add, pk_mul, pk_sub, nI_clamp, vp_q, zu_same, zu_nc, zu_nj, ng_lt, ng_le, ng_gt, ng_ge, ng_eq, ng_qe, ng_ee, ng_add, not_false_eq_true, not_true_eq_false, ne_eq]; done) | (simp (maxSteps := 400000) (disch := omega) only [q_lit, q_neg, nI_ltI, nI_leI, nI_eq, nI_add, pk_mul, pk_sub, nI_clamp, vp_q, zu_same, zu_nc, zu_nj, ng_lt, ng_le, ng_gt, ng_ge, ng_eq, ng_qe, ng_ee, ng_add, not_false_eq_true, not_true_eq_false, ne_eq]; omega)) ⟨vp_in_nI hm6 (by decide), v1, v1, ?_⟩
    have hD : SM I0 k lim ((m, p, cloS s a, l) :: fs) n z (zu I 198 fs.length (nI (s.length - a))) := by
      refine SM_top h ⟨q1, ?_, ?_, q4, ?_, ?_, SkM_c (SkM_clo a s hal q7) (fun i hi => zu_nc (by omega)), fun q hq => ?_⟩ (fun c j b => by unfold blkF at b; rw [zu_ne (by omega)])
      · rw [zu_nc (by omega)]; exact q2
      · rw [zu_nc (by omega)]; exact q3
      · rw [zu_same]; dsimp only; rw [c3]
      · show (cloS s a).length ≤ 10
        omega
      · rw [zu_nc (by omega)]; exact q8 q hq
    refine M_open hm6 hD (by rw [List.length_cons]; omega) (fun J hJ g g200 => ?_)
    have g' : sM I J := sM_t ⟨fun j _ => zu_nc (by omega), fun c j _ => zu_nc (by omega)⟩ g
    have cell : ∀ i, i < a → J 200 (12 * fs.length + (s.length - a) + i) = mv (cloL (fun _ => Sum.inl 0) s a i) := fun i hi => by
      rw [g200, zu_nc (by omega)]
      have := SkM_at q7 (c1 i hi)
      rw [← this]; congr 1; omega
    have lp : ∀ d i J2, i + d = a → SM I0 k lim ((mc, 0, [], fun j => if j < i then cloL (fun _ => Sum.inl 0) s a j else Sum.inl 0) :: (m, p, cloS s a, l) :: fs) (mxN n (fs.length + 2)) z J2 → sM I J2 → (∀ j, J2 200 j = J 200 j) → l_X10_call_48 K (d + 1) (nI mc) (nI a) (nI fs.length) (nI i) J2 P := by
      intro d
      induction d with
      | zero =>
        intro i J2 hi hJ2 g2 _
        obtain rfl : i = a := by omega
        rw [l_X10_call_48]
        refine zip (by first | omega | decide | (simp (maxSteps := 400000) (disch := omega) only [q_lit, q_neg, nI_ltI, nI_leI, nI_eq, nI_add, pk_mul, pk_sub, nI_clamp, vp_q, zu_same, zu_nc, zu_nj, ng_lt, ng_le, ng_gt, ng_ge, ng_eq, ng_qe, ng_ee, ng_add, not_false_eq_true, not_true_eq_false, ne_eq]; done) | (simp (maxSteps := 400000) (disch := omega) only [q_lit, q_neg, nI_ltI, nI_leI, nI_eq, nI_add, pk_mul, pk_sub, nI_clamp, vp_q, zu_same, zu_nc, zu_nj, ng_lt, ng_le, ng_gt, ng_ge, ng_eq, ng_qe, ng_ee, ng_add, not_false_eq_true, not_true_eq_false, ne_eq]; omega)) (kk (by omega) J2 ?_ g2)
        have el : (fun j => if j < i then cloL (fun _ => Sum.inl 0) s i j else Sum.inl 0) = cloL (fun _ => Sum.inl 0) s i := by
          funext j
          by_cases q : j < i
          · rw [if_pos q]
          · rw [if_neg q, c2 j (by omega)]
        rw [el] at hJ2; exact hJ2
      | succ d ih =>
        intro i J2 hi hJ2 g2 f2
        have y98 := hJ2.2.2.2.1.2.1.2.2.2.2.1
        dsimp only at y98
        rw [c3] at y98
        rw [l_X10_call_48, nI_clamp (by omega), y98, e12, nI_add, nI_1 (a := fs.length), e12, nI_clamp (by omega), nI_clamp (by omega), f2, cell i (by omega)]
        refine zin (by first | omega | decide | (simp (maxSteps := 400000) (disch := omega) only [q_lit, q_neg, nI_ltI, nI_leI, nI_eq, nI_add, pk_mul, pk_sub, nI_clamp, vp_q, zu_same, zu_nc, zu_nj, ng_lt, ng_le, ng_gt, ng_ge, ng_eq, ng_qe, ng_ee, ng_add, not_false_eq_true, not_true_eq_false, ne_eq]; done) | (simp (maxSteps := 400000) (disch := omega) only [q_lit, q_neg, nI_ltI, nI_leI, nI_eq, nI_add, pk_mul, pk_sub, nI_clamp, vp_q, zu_same, zu_nc, zu_nj, ng_lt, ng_le, ng_gt, ng_ge, ng_eq, ng_qe, ng_ee, ng_add, not_false_eq_true, not_true_eq_false, ne_eq]; omega)) ⟨v1, vp_in_nI (by omega) (by decide), vp_in_nI (by omega) (by decide), ?_⟩
        rw [nI_1]
        have st := M_setLocal (fs := (m, p, cloS s a, l) :: fs) (i := i) (v := cloL (fun _ => Sum.inl 0) s a i) hJ2 (by omega)
        refine ih (i + 1) _ (by omega) ?_ (sM_t g2 ⟨fun j _ => zu_nc (by omega), fun c j _ => zu_nc (by omega)⟩) (fun j => by rw [zu_nc (by omega)]; exact f2 j)
        have el : (fun j => if j < i + 1 then cloL (fun _ => Sum.inl 0) s a j else Sum.inl 0) = upl (fun j => if j < i then cloL (fun _ => Sum.inl 0) s a j else Sum.inl 0) i (cloL (fun _ => Sum.inl 0) s a i) := by
          funext j
          by_cases q : j = i
          · rw [q, upl_s, if_pos (by omega)]
          · rw [upl_n q]
            by_cases q2 : j < i
            · rw [if_pos q2, if_pos (by omega)]
            · rw [if_neg q2, if_neg (by omega)]
        rw [el]; exact st
    refine ⟨_, lp a 0 J (by omega) ?_ g' (fun _ => rfl)⟩
    have el : (fun j => if j < 0 then cloL (fun _ => Sum.inl 0) s a j else Sum.inl (0 : Int32)) = fun _ => Sum.inl 0 := by
      funext j; rw [if_neg (by omega)]
    rw [el]; exact hJ
