/-! PURE 79: RUN: unwinding, whatever the top FRAME's stack is -/
theorem uw_s {I0 : zI} {I1 : zI → Prop} {k lim kd kp nm : Nat} {wv wt hn ln : nuN} {cb hd B : Nat → Nat → Nat} (hL : CfL I0 k wv wt hn ln cb hd B kp nm) (hM : ∀ Gb, I1 Gb → CfM Gb k wv wt hn ln cb hd B kp nm) (hkd : 1 ≤ kd ∧ kd ≤ 105) {m p : Nat} {l : Nat → Va} {fs : List Frm} {n : nuN} {z : nuZ} (hm : m < nm) (hp : p < 1000) (hx : ∀ x, x ∈ fs → x.1 < nm ∧ x.2.1 < 1000) (h12 : fs.length + 1 ≤ 12) (hr : n 4 + 48 * (fs.length + 1) < 2 ^ 30) :
    (∃ m' p' l' rest j n' z', ((m' = m ∧ p' = p ∧ l' = l ∧ rest = fs) ∨ ∃ pre s', fs = pre ++ (m', p', s', l') :: rest) ∧ hit hd hn m' p' kd j ∧ (∀ s, OuC I0 I1 k lim kd wv ((m, p, s, l) :: fs) n z ((m', hd m' (4 * j + 2), [Sum.inl (nI kd)], l') :: rest) n' z') ∧ n' 4 ≤ n 4 + 48 * (fs.length + 1) ∧ ∀ i, i ≠ 4 → n' i = n i) ∨
    (∃ n' z', (∀ s, OuE I0 I1 k lim kd wv ((m, p, s, l) :: fs) n z n' z') ∧ n' 4 ≤ n 4 + 48 * (fs.length + 1) ∧ ∀ i, i ≠ 4 → n' i = n i) := by
    have hL' := hL
    have hM' := hM
    obtain ⟨nm6, hpL, cL⟩ := hL
    have hpM := fun Gb hGb => (hM Gb hGb).2.1
    have cM := fun Gb hGb => (hM Gb hGb).2.2 m hm
    obtain ⟨a1, a2, a3, a4, a5, a6⟩ := cL m hm
    have b1 := fun Gb hGb => (cM Gb hGb).1
    have b2 := fun Gb hGb => (cM Gb hGb).2.1
    have b3 := fun Gb hGb => (cM Gb hGb).2.2.1
    have b4 := fun Gb hGb => (cM Gb hGb).2.2.2.1
    have b5 := fun Gb hGb => (cM Gb hGb).2.2.2.2
    have hm6 : m < 6 := by omega
    have wl := a4.1
    have q8 : hn m ≤ 9 := by have := a3.1; split at this <;> omega
    by_cases hh : ∃ j, hit hd hn m p kd j
    · obtain ⟨j, hj⟩ := hh
      have uni : ∀ j', hit hd hn m p kd j' → j' = j := fun j' h' => by
        rcases Nat.lt_trichotomy j' j with q | q | q
        · exact absurd h'.2.1 (hj.2.2 j' q)
        · exact q
        · exact absurd hj.2.1 (h'.2.2 j q)
      have t4 := tlN_4 (B := B) (m := m) (sx := 5) (px := hd m (4 * j + 2)) (n := n) (wt m)
      refine Or.inl ⟨m, p, l, fs, j, tlN B m 5 (hd m (4 * j + 2)) n (wt m), tlZ B m 5 (hd m (4 * j + 2)) (nI kd) n z (wt m), Or.inl ⟨rfl, rfl, rfl, rfl⟩, hj, fun s => ⟨fun I P K h kk => ?_, fun Gb hGb I P K h h65 kk => ?_⟩, by omega, t4.2.2⟩
      · have e9 := h.2.2.1
        rw [List.length_cons] at e9 ⊢
        have e8 : nI (fs.length + 1) - 1 = nI fs.length := by rw [← nq1, pk_sub (by omega)]; rfl
        rw [l_X2_unwind_10, e9, e8, nI_clamp (by omega)]
        refine zin (by first | omega | decide | (simp (maxSteps := 400000) (disch := omega) only [q_lit, q_neg, nI_ltI, nI_leI, nI_eq, nI_add, pk_mul, pk_sub, nI_clamp, vp_q, zu_same, zu_nc, zu_nj, ng_lt, ng_le, ng_gt, ng_ge, ng_eq, ng_qe, ng_ee, ng_add, not_false_eq_true, not_true_eq_false, ne_eq]; done) | (simp (maxSteps := 400000) (disch := omega) only [q_lit, q_neg, nI_ltI, nI_leI, nI_eq, nI_add, pk_mul, pk_sub, nI_clamp, vp_q, zu_same, zu_nc, zu_nj, ng_lt, ng_le, ng_gt, ng_ge, ng_eq, ng_qe, ng_ee, ng_add, not_false_eq_true, not_true_eq_false, ne_eq]; omega)) (zin (by first | omega | decide | (simp (maxSteps := 400000) (disch := omega) only [q_lit, q_neg, nI_ltI, nI_leI, nI_eq, nI_add, pk_mul, pk_sub, nI_clamp, vp_q, zu_same, zu_nc, zu_nj, ng_lt, ng_le, ng_gt, ng_ge, ng_eq, ng_qe, ng_ee, ng_add, not_false_eq_true, not_true_eq_false, ne_eq]; done) | (simp (maxSteps := 400000) (disch := omega) only [q_lit, q_neg, nI_ltI, nI_leI, nI_eq, nI_add, pk_mul, pk_sub, nI_clamp, vp_q, zu_same, zu_nc, zu_nj, ng_lt, ng_le, ng_gt, ng_ge, ng_eq, ng_qe, ng_ee, ng_add, not_false_eq_true, not_true_eq_false, ne_eq]; omega)) ⟨vp_in_nI (by omega) (by decide), _, pF h.1.2.2.1 (by omega), shF (by omega), L_catch h a2.1 a3 (by omega) a6 (fun j' h' J hJ g => zin (by decide) ?_) (fun no => absurd hj.2.1 (no j hj.1))⟩)
        obtain rfl := uni j' h'
        obtain ⟨e5, -, -, -⟩ := L_pl hJ
        rw [e5]
        exact L_tall (sx := 5) hJ a1 a4 hpL a5 (by decide) (a6 _ hj.1) (by omega) (fun J2 hJ2 g2 => kk J2 hJ2 (sL_t g g2))
      · obtain ⟨hf, e1⟩ := M_f1 h
        obtain ⟨q1, q2, q3, -⟩ := h.2.2.2.1.1
        dsimp only at q2 q3
        have v1 : vp_in (nI fs.length) 12 := vp_in_nI hf (by decide)
        rw [List.length_cons, l_X10_isThrown_2, e1, nI_clamp (by omega), q2, q3]
        refine zin (by decide) ⟨v1, v1, M_catch hm6 hp h (b1 Gb hGb) (b2 Gb hGb) h65 (by omega) (fun j' h' => zin ?_ ?_) (fun no => absurd hj.2.1 (no j hj.1))⟩
        · have := h'.1
          split <;> first | omega | decide | (simp (maxSteps := 400000) (disch := omega) only [q_lit, q_neg, nI_ltI, nI_leI, nI_eq, nI_add, pk_mul, pk_sub, nI_clamp, vp_q, zu_same, zu_nc, zu_nj, ng_lt, ng_le, ng_gt, ng_ge, ng_eq, ng_qe, ng_ee, ng_add, not_false_eq_true, not_true_eq_false, ne_eq]; done) | (simp (maxSteps := 400000) (disch := omega) only [q_lit, q_neg, nI_ltI, nI_leI, nI_eq, nI_add, pk_mul, pk_sub, nI_clamp, vp_q, zu_same, zu_nc, zu_nj, ng_lt, ng_le, ng_gt, ng_ge, ng_eq, ng_qe, ng_ee, ng_add, not_false_eq_true, not_true_eq_false, ne_eq]; omega)
        · obtain rfl := uni j' h'
          exact M_caught h (b1 Gb hGb) (b2 Gb hGb) (b3 Gb hGb) (hpM Gb hGb) (b4 Gb hGb) h65 (by omega) hj.1 (b5 Gb hGb _ hj.1) kk
    · have nohit : ∀ j, hit hd hn m p kd j → False := fun j h => hh ⟨j, h⟩
      have t4 := tlN_4 (B := B) (m := m) (sx := 3) (px := 0) (n := n) (wt m)
      have goL : ∀ s I P K, SL I0 k lim wv ((m, p, s, l) :: fs) n z I P → (∀ J, SL I0 k lim wv fs (tlN B m 3 0 n (wt m)) (tlZ B m 3 0 (-(nI kd)) n z (wt m)) J P → sL k I J → l_X2_unwind_10 K (fs.length + 1) (nI kd) J P) → l_X2_unwind_10 K (((m, p, s, l) :: fs).length + 1) (nI kd) I P := fun s I P K h kk => by
        have e9 := h.2.2.1
        rw [List.length_cons] at e9 ⊢
        have e8 : nI (fs.length + 1) - 1 = nI fs.length := by rw [← nq1, pk_sub (by omega)]; rfl
        rw [l_X2_unwind_10, e9, e8, nI_clamp (by omega)]
        refine zin (by first | omega | decide | (simp (maxSteps := 400000) (disch := omega) only [q_lit, q_neg, nI_ltI, nI_leI, nI_eq, nI_add, pk_mul, pk_sub, nI_clamp, vp_q, zu_same, zu_nc, zu_nj, ng_lt, ng_le, ng_gt, ng_ge, ng_eq, ng_qe, ng_ee, ng_add, not_false_eq_true, not_true_eq_false, ne_eq]; done) | (simp (maxSteps := 400000) (disch := omega) only [q_lit, q_neg, nI_ltI, nI_leI, nI_eq, nI_add, pk_mul, pk_sub, nI_clamp, vp_q, zu_same, zu_nc, zu_nj, ng_lt, ng_le, ng_gt, ng_ge, ng_eq, ng_qe, ng_ee, ng_add, not_false_eq_true, not_true_eq_false, ne_eq]; omega)) (zin (by first | omega | decide | (simp (maxSteps := 400000) (disch := omega) only [q_lit, q_neg, nI_ltI, nI_leI, nI_eq, nI_add, pk_mul, pk_sub, nI_clamp, vp_q, zu_same, zu_nc, zu_nj, ng_lt, ng_le, ng_gt, ng_ge, ng_eq, ng_qe, ng_ee, ng_add, not_false_eq_true, not_true_eq_false, ne_eq]; done) | (simp (maxSteps := 400000) (disch := omega) only [q_lit, q_neg, nI_ltI, nI_leI, nI_eq, nI_add, pk_mul, pk_sub, nI_clamp, vp_q, zu_same, zu_nc, zu_nj, ng_lt, ng_le, ng_gt, ng_ge, ng_eq, ng_qe, ng_ee, ng_add, not_false_eq_true, not_true_eq_false, ne_eq]; omega)) ⟨vp_in_nI (by omega) (by decide), _, pF h.1.2.2.1 (by omega), shF (by omega), L_catch h a2.1 a3 (by omega) a6 (fun j' h' => (nohit j' h').elim) (fun _ => zip rfl (L_tall (sx := 3) (px := 0) h a1 a4 hpL a5 (by decide) (by decide) (by omega) (fun J hJ g => ?_)))⟩)
        have e9' := hJ.2.2.1
        rw [List.length_cons] at e9'
        rw [e9', e8]
        exact kk _ (SL_drop hJ) (sL_t g ⟨fun j q => zu_nj (by omega), fun j q => zu_nc (by have := h.1.1; omega)⟩)
      have goM : ∀ Gb, I1 Gb → ∀ s I P K, SM Gb k lim ((m, p, s, l) :: fs) n z I → I 155 65 = nI kd → (∀ J, SM Gb k lim fs (tlN B m 3 0 n (wt m)) (tlZ B m 3 0 (-(nI kd)) n z (wt m)) J → sM I J → l_X10_isThrown_2 K (fs.length + 1) (if fs.length = 0 then 0 else 1) J P) → l_X10_isThrown_2 K (((m, p, s, l) :: fs).length + 1) 1 I P := fun Gb hGb s I P K h h65 kk => by
        obtain ⟨hf, e1⟩ := M_f1 h
        obtain ⟨q1, q2, q3, -⟩ := h.2.2.2.1.1
        dsimp only at q2 q3
        have v1 : vp_in (nI fs.length) 12 := vp_in_nI hf (by decide)
        rw [List.length_cons, l_X10_isThrown_2, e1, nI_clamp (by omega), q2, q3]
        refine zin (by decide) ⟨v1, v1, M_catch hm6 hp h (b1 Gb hGb) (b2 Gb hGb) h65 (by omega) (fun j' h' => (nohit j' h').elim) (fun _ => zip rfl (M_tall55 hm6 h (b3 Gb hGb) (hpM Gb hGb) (b4 Gb hGb) h65 (by omega) (fun J hJ g => ?_)))⟩
        obtain ⟨-, e2⟩ := M_f1 hJ
        rw [e2]
        have k2 := kk _ (SM_drop hJ) (sM_t g ⟨fun j q => zu_nj (by omega), fun c j q => zu_nc (by omega)⟩)
        by_cases e0 : fs.length = 0
        · rw [if_pos e0] at k2
          exact zip (by rw [e0]; decide) k2
        · rw [if_neg e0] at k2
          exact zin (by first | omega | decide | (simp (maxSteps := 400000) (disch := omega) only [q_lit, q_neg, nI_ltI, nI_leI, nI_eq, nI_add, pk_mul, pk_sub, nI_clamp, vp_q, zu_same, zu_nc, zu_nj, ng_lt, ng_le, ng_gt, ng_ge, ng_eq, ng_qe, ng_ee, ng_add, not_false_eq_true, not_true_eq_false, ne_eq]; done) | (simp (maxSteps := 400000) (disch := omega) only [q_lit, q_neg, nI_ltI, nI_leI, nI_eq, nI_add, pk_mul, pk_sub, nI_clamp, vp_q, zu_same, zu_nc, zu_nj, ng_lt, ng_le, ng_gt, ng_ge, ng_eq, ng_qe, ng_ee, ng_add, not_false_eq_true, not_true_eq_false, ne_eq]; omega)) k2
      by_cases ne : fs = []
      · subst ne
        refine Or.inr ⟨_, _, fun s => ⟨fun I P K h kk => goL s I P K h (fun J hJ g => L_unw0 hJ (fun J2 hJ2 en => kk J2 hJ2 ⟨en.1, en.2.1, by rw [en.2.2.1]; exact g.1 11 (by omega), by rw [en.2.2.2]; exact g.1 12 (by omega)⟩)), fun Gb hGb I P K h h65 kk => goM Gb hGb s I P K h h65 (fun J hJ g => ?_)⟩, by omega, t4.2.2⟩
        rw [List.length_nil, if_pos rfl, l_X10_isThrown_2]
        exact zip rfl (kk _ (SM_aux hJ (fun c j a b => zu_ne (by omega))) ⟨zu_same, fun j q => by rw [zu_nj (by omega)]; exact g.1 j (by omega)⟩)
      · have nl : fs.length ≠ 0 := fun q => ne (List.eq_nil_of_length_eq_zero q)
        rcases uw_ok hL' hM' hkd fs (tlN B m 3 0 n (wt m)) (tlZ B m 3 0 (-(nI kd)) n z (wt m)) ne hx (by omega) (by omega) with ⟨m', p', s', l', rest, j, n', z', ⟨pre, e⟩, hj, ⟨o1, o2⟩, r1, r2⟩ | ⟨n', z', ⟨o1, o2⟩, r1, r2⟩
        · refine Or.inl ⟨m', p', l', rest, j, n', z', Or.inr ⟨pre, s', e⟩, hj, fun s => ⟨fun I P K h kk => goL s I P K h (fun J hJ g => o1 J P K hJ (fun J2 hJ2 g2 => kk J2 hJ2 (sL_t g g2))), fun Gb hGb I P K h h65 kk => goM Gb hGb s I P K h h65 (fun J hJ g => ?_)⟩, by omega, fun i hi => by rw [r2 i hi]; exact t4.2.2 i hi⟩
          rw [if_neg nl]
          exact o2 Gb hGb J P K hJ (by rw [g.1 65 (by omega)]; exact h65) (fun J2 hJ2 g2 => kk J2 hJ2 (sM_t g g2))
        · refine Or.inr ⟨n', z', fun s => ⟨fun I P K h kk => goL s I P K h (fun J hJ g => o1 J P K hJ (fun J2 hJ2 en => kk J2 hJ2 ⟨en.1, en.2.1, by rw [en.2.2.1]; exact g.1 11 (by omega), by rw [en.2.2.2]; exact g.1 12 (by omega)⟩)), fun Gb hGb I P K h h65 kk => goM Gb hGb s I P K h h65 (fun J hJ g => ?_)⟩, by omega, fun i hi => by rw [r2 i hi]; exact t4.2.2 i hi⟩
          rw [if_neg nl]
          exact o2 Gb hGb J P K hJ (by rw [g.1 65 (by omega)]; exact h65) (fun J2 hJ2 en => kk J2 hJ2 ⟨en.1, fun j q => by rw [en.2 j q]; exact g.1 j (by omega)⟩)
