/-! PURE 91: RUN: all turns, on both sides -/
section
variable {I0 I Gb : zI} {I1 : zI → Prop} {k lim kp nm : Nat} {wv wt hn ln ar X Y : nuN} {cb hd B ho og : Nat → Nat → Nat} {xq : Nat → Int32} {Pl : PlT} {n n2 : nuN} {z z2 : nuZ} {P : zP}
theorem runs (hC : Cg I0 I1 k wv wt hn ln ar X Y cb hd B ho og xq kp nm) (hPl : PlOk Pl I0 wv hn ln ar cb hd B ho og kp nm) : ∀ ph fs n z th ko Q, Inv Pl cb hd hn nm X lim ph fs n z th ko Q → ∃ fs' n' z' e a tp tm, (e = 0 ∨ e = 1 ∨ e = 2) ∧ (∃ f, ∀ I P K d, LR I0 k lim wv fs n z th ko Q I P → d + ph < 1000000 → (∀ J R, LE I0 k lim wv fs' n' z' e a tp tm J R → j_X2_perform_153 K J R) → l_X2_perform_107 K f (nI d) I P) ∧ (∃ f, ∀ Gb, I1 Gb → ∀ I P K, MR Gb k lim fs n z th ko Q I → (∀ J, ME Gb k lim fs' n' z' e a tp tm J → w_X10_keepRun J P (fun I2 P2 => K (I2 155 52) I2 P2)) → l_X10_run_115 K f I P) := by
  intro ph
  induction ph using Nat.strongRecOn with
  | _ ph ih =>
    intro fs n z th ko Q h
    have hne : ∃ x rest, fs = x :: rest ∧ rest.length < 12 := by
      obtain ⟨m, p, s, l, rest, S, L, r, zn, e, t1, -⟩ := h
      exact ⟨_, rest, e, t1⟩
    obtain ⟨x, rest, efs, hr⟩ := hne
    have stL : ∀ I P K d f, LR I0 k lim wv fs n z th ko Q I P → d + ph < 1000000 → w_X2_takeTurn (119 + 3 * (fs.length - 1)) I P (fun I10 P10 => l_X2_perform_107 K f (nI (d + 1)) I10 P10) → l_X2_perform_107 K (f + 1) (nI d) I P := fun I P K d f hh hd q => by
      have hk := hh.1.1.1
      have e9 : I 114 9 = nI (rest.length + 1) := by have := hh.1.2.2.1; rw [efs] at this; exact this
      have e1 : nI (rest.length + 1) - 1 = nI rest.length := by rw [← nq1, pk_sub (by omega)]; rfl
      rw [l_X2_perform_107, e9, e1, nI_1]
      rw [efs, List.length_cons, Nat.add_sub_cancel] at q
      refine zin (by first | omega | decide | (simp (maxSteps := 400000) (disch := omega) only [q_lit, q_neg, nI_ltI, nI_leI, nI_eq, nI_add, pk_mul, pk_sub, nI_clamp, vp_q, zu_same, zu_nc, zu_nj, ng_lt, ng_le, ng_gt, ng_ge, ng_eq, ng_qe, ng_ee, ng_add, not_false_eq_true, not_true_eq_false, ne_eq]; done) | (simp (maxSteps := 400000) (disch := omega) only [q_lit, q_neg, nI_ltI, nI_leI, nI_eq, nI_add, pk_mul, pk_sub, nI_clamp, vp_q, zu_same, zu_nc, zu_nj, ng_lt, ng_le, ng_gt, ng_ge, ng_eq, ng_qe, ng_ee, ng_add, not_false_eq_true, not_true_eq_false, ne_eq]; omega)) ⟨_, hh.1.1.2.2.2.1, shT hk, zip hh.2.2.1.1 (zin (by first | omega | decide | (simp (maxSteps := 400000) (disch := omega) only [q_lit, q_neg, nI_ltI, nI_leI, nI_eq, nI_add, pk_mul, pk_sub, nI_clamp, vp_q, zu_same, zu_nc, zu_nj, ng_lt, ng_le, ng_gt, ng_ge, ng_eq, ng_qe, ng_ee, ng_add, not_false_eq_true, not_true_eq_false, ne_eq]; done) | (simp (maxSteps := 400000) (disch := omega) only [q_lit, q_neg, nI_ltI, nI_leI, nI_eq, nI_add, pk_mul, pk_sub, nI_clamp, vp_q, zu_same, zu_nc, zu_nj, ng_lt, ng_le, ng_gt, ng_ge, ng_eq, ng_qe, ng_ee, ng_add, not_false_eq_true, not_true_eq_false, ne_eq]; omega)) ⟨vp_in_nI hr (by decide), _, by rw [nI_clamp (by omega)]; exact pF hh.1.1.2.2.1 hr, q⟩)⟩
    have stM : ∀ Gb I P K f, MR Gb k lim fs n z th ko Q I → w_X10_step I P (fun I3 P3 => l_X10_run_115 K f I3 P3) → l_X10_run_115 K (f + 1) I P := fun Gb I P K f hh q => by
      rw [l_X10_run_115]
      exact zip hh.2.1 q
    rcases turn hC hPl h with ⟨ph', fs', n', z', th', ko', Q', hlt, hI, gL, gM⟩ | ⟨fs', n', z', e, a, tp, tm, he, gL, gM⟩
    · obtain ⟨fs2, n2, z2, e, a, tp, tm, he, ⟨f1, hL⟩, ⟨f2, hM⟩⟩ := ih ph' hlt fs' n' z' th' ko' Q' hI
      exact ⟨fs2, n2, z2, e, a, tp, tm, he, ⟨f1 + 1, fun I P K d hh hd kk => stL I P K d f1 hh hd (gL I P _ hh (fun J R hJ => hL J R K (d + 1) hJ (by omega) kk))⟩, ⟨f2 + 1, fun Gb hGb I P K hh kk => stM Gb I P K f2 hh (gM Gb hGb I P _ hh (fun J hJ => hM Gb hGb J P K hJ kk))⟩⟩
    · have en : e ≠ -1 := by rcases he with e | e | e <;> rw [e] <;> decide
      refine ⟨fs', n', z', e, a, tp, tm, he, ⟨2, fun I P K d hh hd kk => stL I P K d 1 hh hd (gL I P _ hh (fun J R hJ => ?_))⟩, ⟨2, fun Gb hGb I P K hh kk => stM Gb I P K 1 hh (gM Gb hGb I P _ hh (fun J hJ => ?_))⟩⟩
      · have hk := hJ.1.1.1
        rw [l_X2_perform_107]
        by_cases b : (1000000 : Int32) ≤ nI (d + 1)
        · exact zip b (kk J R hJ)
        · exact zin b ⟨_, hJ.1.1.2.2.2.1, shT hk, zin (by rw [hJ.2.1]; exact en) (kk J R hJ)⟩
      · rw [l_X10_run_115]
        exact zin (by rw [hJ.2.1]; exact en) (kk J hJ)
end
