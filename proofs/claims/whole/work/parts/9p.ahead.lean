/-! PURE 75: RUN: PASS and FAULT ahead of an INSTRUCTION, on both sides -/
abbrev Ast : Type := nuN × nuZ
def apT (B : Nat → Nat → Nat) (m p : Nat) (t : Ast) : Nat → Ast
  | 0 => t
  | q + 1 =>
    if atq B m 0 p q then (rcN (apT B m p t q).1, rcZ (apT B m p t q).1 (apT B m p t q).2 q 0)
    else if atq B m 6 p q then (up1 (apT B m p t q).1 (50 + q) ((apT B m p t q).1 (50 + q) + 1), (apT B m p t q).2)
    else apT B m p t q
theorem ap_i {B : Nat → Nat → Nat} {m p : Nat} {t : Ast} : ∀ q, t.1 4 ≤ (apT B m p t q).1 4 ∧ (apT B m p t q).1 4 ≤ t.1 4 + q ∧ (∀ i, i ≠ 4 → i < 50 → (apT B m p t q).1 i = t.1 i) ∧ (∀ i, 50 + q ≤ i → (apT B m p t q).1 i = t.1 i) ∧ (∀ c j, c < 3 → (apT B m p t q).2 c j = t.2 c j) ∧ (∀ i, 50 ≤ i → t.1 i ≤ (apT B m p t q).1 i ∧ (apT B m p t q).1 i ≤ t.1 i + 1)
  | 0 => ⟨Nat.le_refl _, Nat.le_refl _, fun _ _ _ => rfl, fun _ _ => rfl, fun _ _ _ => rfl, fun _ _ => ⟨Nat.le_refl _, Nat.le_succ _⟩⟩
  | q + 1 => by
    obtain ⟨a, b, c, d, e, f⟩ := ap_i (B := B) (m := m) (p := p) (t := t) q
    rw [apT]
    split
    · unfold rcN rcZ; dsimp only; rw [up1_s]
      exact ⟨by omega, by omega, fun i hi h5 => by rw [up1_n hi]; exact c i hi h5, fun i hi => by rw [up1_n (by omega)]; exact d i (by omega), fun x j hx => by rw [zu_nc (by omega), zu_nc (by omega)]; exact e x j hx, fun i hi => by rw [up1_n (by omega)]; exact f i hi⟩
    · split
      · dsimp only
        refine ⟨by rw [up1_n (by omega)]; exact a, by rw [up1_n (by omega)]; omega, fun i hi h5 => by rw [up1_n (by omega)]; exact c i hi h5, fun i hi => by rw [up1_n (by omega)]; exact d i (by omega), e, fun i hi => ?_⟩
        by_cases z : i = 50 + q
        · rw [z, up1_s, d (50 + q) (Nat.le_refl _)]; exact ⟨by omega, by omega⟩
        · rw [up1_n z]; exact f i hi
      · exact ⟨a, by omega, c, fun i hi => d i (by omega), e, f⟩
/-- PROBE q throws now -/
def fires (B : Nat → Nat → Nat) (m p : Nat) (X : nuN) (t : Ast) (q : Nat) : Prop := atq B m 6 p q ∧ t.1 (50 + q) + 1 = X q
theorem SL_pas {I0 I : zI} {k lim q : Nat} {wv n : nuN} {z : nuZ} {fs : List Frm} {P : zP} (hq : q < 24) (h : SL I0 k lim wv fs n z I P) : SL I0 k lim wv fs (up1 n (50 + q) (n (50 + q) + 1)) z (zu I 118 q (nI (n (50 + q) + 1))) P := by
  have hk := h.1.1
  obtain ⟨m0, m1, m2, m3⟩ := h.2.2.2.2.1
  obtain ⟨t1, t2, t3, t4, t5, t6, t7, t8, t9, t10, t11⟩ := h.2.2.2.2.2
  refine SL_nz h (fun c j a _ => zu_nc (by omega)) ⟨by rw [up1_n (by omega)]; exact m0, fun f hf => by rw [zu_nc (by omega)]; exact m1 f hf, fun r hr => ?_, fun q' hq' => ?_⟩ ⟨by rw [up1_n (by omega)]; exact t1, by rw [up1_n (by omega)]; exact t2, by rw [up1_n (by omega)]; exact t3, by rw [up1_n (by omega)]; exact t4, by rw [up1_n (by omega), zu_nc (by omega)]; exact t5, by rw [up1_n (by omega), zu_nc (by omega)]; exact t6, by rw [up1_n (by omega), zu_nc (by omega)]; exact t7, by rw [up1_n (by omega), zu_nc (by omega)]; exact t8, by rw [up1_n (by omega), zu_nc (by omega)]; exact t9, fun i hi => ?_, fun i hi hi2 => ?_⟩
  · rw [up1_n (by omega)] at hr
    rw [up1_n (by omega), zu_nc (by omega)]
    exact ⟨(m2 r hr).1, (m2 r hr).2.1, fun i hi => by rw [zu_nc (by omega)]; exact (m2 r hr).2.2 i hi⟩
  · by_cases e : q' = q
    · rw [e, zu_same, up1_s]
    · rw [zu_nj e, up1_n (by omega)]; exact m3 q' hq'
  · rw [up1_n (by omega)] at hi
    rw [zu_nc (by omega)]; exact t10 i hi
  · rw [up1_n (by omega)] at hi
    rw [zu_nc (by omega), zu_nc (by omega)]; exact t11 i hi hi2
theorem SM_pas {I0 I : zI} {k lim q : Nat} {n : nuN} {z : nuZ} {fs : List Frm} (hq : q < 24) (h : SM I0 k lim fs n z I) : SM I0 k lim fs (up1 n (50 + q) (n (50 + q) + 1)) z (zu I 204 q (nI (n (50 + q) + 1))) := by
  obtain ⟨m0, m0', m1, m2, m3⟩ := h.2.2.2.2.1
  obtain ⟨t1, t2, t3, t4, t5, t6, t7, t8, t9, t10, t11⟩ := h.2.2.2.2.2
  refine SM_nz h (fun c j _ a _ => zu_nc (by omega)) ⟨by rw [up1_n (by omega)]; exact m0, by rw [up1_n (by omega), zu_nc (by omega)]; exact m0', fun f hf => by rw [zu_nc (by omega)]; exact m1 f hf, fun r hr => ?_, fun q' hq' => ?_⟩ ⟨by rw [up1_n (by omega)]; exact t1, by rw [up1_n (by omega)]; exact t2, by rw [up1_n (by omega)]; exact t3, by rw [up1_n (by omega)]; exact t4, by rw [up1_n (by omega), zu_nc (by omega)]; exact t5, by rw [up1_n (by omega), zu_nc (by omega)]; exact t6, by rw [up1_n (by omega), zu_nc (by omega)]; exact t7, by rw [up1_n (by omega), zu_nc (by omega)]; exact t8, fun i hi => ?_, fun i hi hi2 => ?_, fun c j q1 q2 q3 q4 q5 => by rw [zu_nc (by omega)]; exact t11 c j q1 q2 q3 q4 q5⟩
  · rw [up1_n (by omega)] at hr
    rw [up1_n (by omega), zu_nc (by omega)]
    exact ⟨(m2 r hr).1, (m2 r hr).2.1, fun i hi => by rw [zu_nc (by omega)]; exact (m2 r hr).2.2 i hi⟩
  · by_cases e : q' = q
    · rw [e, zu_same, up1_s]
    · rw [zu_nj e, up1_n (by omega)]; exact m3 q' hq'
  · rw [up1_n (by omega)] at hi
    rw [zu_nc (by omega)]; exact t9 i hi
  · rw [up1_n (by omega)] at hi
    rw [zu_nc (by omega), zu_nc (by omega)]; exact t10 i hi hi2
/-- one FAULT passed, on both sides -/
theorem L_pf {I0 I : zI} {k lim m p q X Y : Nat} {wv n : nuN} {z : nuZ} {s : List Va} {l : Nat → Va} {fs : List Frm} {P : zP} {K : zI → zP → Prop} (hq : q < 24) (h : SL I0 k lim wv ((m, p, s, l) :: fs) n z I P) (hn0 : I0 (20 + 12 * m) 0 = nI m) (hX : I0 112 q = nI X) (hX2 : X ≤ 1000) (hY : I0 113 q = nI Y) (hb : n (50 + q) < 2 ^ 30) (k1 : n (50 + q) + 1 = X → ∀ J, SL I0 k lim wv ((m, p, s, l) :: fs) (up1 n (50 + q) (n (50 + q) + 1)) z J P → tL k m (nI Y) I J → K J P) (k0 : n (50 + q) + 1 ≠ X → ∀ J, SL I0 k lim wv ((m, p, s, l) :: fs) (up1 n (50 + q) (n (50 + q) + 1)) z J P → sL k I J → K J P) : w_X2_passFault (119 + 3 * fs.length) (nI q) I P K := by
  have hk := h.1.1
  have v : vp_in (nI q) 24 := vp_in_nI hq (by decide)
  have y : I 118 q = nI (n (50 + q)) := h.2.2.2.2.1.2.2.2 q hq
  have hS := SL_pas hq h
  have sS : sL k I (zu I 118 q (nI (n (50 + q) + 1))) := ⟨fun j _ => zu_nc (by omega), fun j _ => zu_nc (by omega)⟩
  unfold w_X2_passFault w_X4_xOf w_X4_yOf
  rw [nI_clamp (by omega), y, nI_1, zu_same]
  refine zin (by first | omega | decide | (simp (maxSteps := 400000) (disch := omega) only [q_lit, q_neg, nI_ltI, nI_leI, nI_eq, nI_add, pk_mul, pk_sub, nI_clamp, vp_q, zu_same, zu_nc, zu_nj, ng_lt, ng_le, ng_gt, ng_ge, ng_eq, ng_qe, ng_ee, ng_add, not_false_eq_true, not_true_eq_false, ne_eq]; done) | (simp (maxSteps := 400000) (disch := omega) only [q_lit, q_neg, nI_ltI, nI_leI, nI_eq, nI_add, pk_mul, pk_sub, nI_clamp, vp_q, zu_same, zu_nc, zu_nj, ng_lt, ng_le, ng_gt, ng_ge, ng_eq, ng_qe, ng_ee, ng_add, not_false_eq_true, not_true_eq_false, ne_eq]; omega)) (zip (by first | omega | decide | (simp (maxSteps := 400000) (disch := omega) only [q_lit, q_neg, nI_ltI, nI_leI, nI_eq, nI_add, pk_mul, pk_sub, nI_clamp, vp_q, zu_same, zu_nc, zu_nj, ng_lt, ng_le, ng_gt, ng_ge, ng_eq, ng_qe, ng_ee, ng_add, not_false_eq_true, not_true_eq_false, ne_eq]; done) | (simp (maxSteps := 400000) (disch := omega) only [q_lit, q_neg, nI_ltI, nI_leI, nI_eq, nI_add, pk_mul, pk_sub, nI_clamp, vp_q, zu_same, zu_nc, zu_nj, ng_lt, ng_le, ng_gt, ng_ge, ng_eq, ng_qe, ng_ee, ng_add, not_false_eq_true, not_true_eq_false, ne_eq]; omega)) ⟨v, v, v, zin (by first | omega | decide | (simp (maxSteps := 400000) (disch := omega) only [q_lit, q_neg, nI_ltI, nI_leI, nI_eq, nI_add, pk_mul, pk_sub, nI_clamp, vp_q, zu_same, zu_nc, zu_nj, ng_lt, ng_le, ng_gt, ng_ge, ng_eq, ng_qe, ng_ee, ng_add, not_false_eq_true, not_true_eq_false, ne_eq]; done) | (simp (maxSteps := 400000) (disch := omega) only [q_lit, q_neg, nI_ltI, nI_leI, nI_eq, nI_add, pk_mul, pk_sub, nI_clamp, vp_q, zu_same, zu_nc, zu_nj, ng_lt, ng_le, ng_gt, ng_ge, ng_eq, ng_qe, ng_ee, ng_add, not_false_eq_true, not_true_eq_false, ne_eq]; omega)) (zin (by first | omega | decide | (simp (maxSteps := 400000) (disch := omega) only [q_lit, q_neg, nI_ltI, nI_leI, nI_eq, nI_add, pk_mul, pk_sub, nI_clamp, vp_q, zu_same, zu_nc, zu_nj, ng_lt, ng_le, ng_gt, ng_ge, ng_eq, ng_qe, ng_ee, ng_add, not_false_eq_true, not_true_eq_false, ne_eq]; done) | (simp (maxSteps := 400000) (disch := omega) only [q_lit, q_neg, nI_ltI, nI_leI, nI_eq, nI_add, pk_mul, pk_sub, nI_clamp, vp_q, zu_same, zu_nc, zu_nj, ng_lt, ng_le, ng_gt, ng_ge, ng_eq, ng_qe, ng_ee, ng_add, not_false_eq_true, not_true_eq_false, ne_eq]; omega)) ⟨v, ?_⟩)⟩)
  rw [L_s0 hS (c := 112) (by unfold rcL; omega), hX]
  by_cases e : n (50 + q) + 1 = X
  · refine zip (by rw [e]) (zin (by first | omega | decide | (simp (maxSteps := 400000) (disch := omega) only [q_lit, q_neg, nI_ltI, nI_leI, nI_eq, nI_add, pk_mul, pk_sub, nI_clamp, vp_q, zu_same, zu_nc, zu_nj, ng_lt, ng_le, ng_gt, ng_ge, ng_eq, ng_qe, ng_ee, ng_add, not_false_eq_true, not_true_eq_false, ne_eq]; done) | (simp (maxSteps := 400000) (disch := omega) only [q_lit, q_neg, nI_ltI, nI_leI, nI_eq, nI_add, pk_mul, pk_sub, nI_clamp, vp_q, zu_same, zu_nc, zu_nj, ng_lt, ng_le, ng_gt, ng_ge, ng_eq, ng_qe, ng_ee, ng_add, not_false_eq_true, not_true_eq_false, ne_eq]; omega)) (zin (by first | omega | decide | (simp (maxSteps := 400000) (disch := omega) only [q_lit, q_neg, nI_ltI, nI_leI, nI_eq, nI_add, pk_mul, pk_sub, nI_clamp, vp_q, zu_same, zu_nc, zu_nj, ng_lt, ng_le, ng_gt, ng_ge, ng_eq, ng_qe, ng_ee, ng_add, not_false_eq_true, not_true_eq_false, ne_eq]; done) | (simp (maxSteps := 400000) (disch := omega) only [q_lit, q_neg, nI_ltI, nI_leI, nI_eq, nI_add, pk_mul, pk_sub, nI_clamp, vp_q, zu_same, zu_nc, zu_nj, ng_lt, ng_le, ng_gt, ng_ge, ng_eq, ng_qe, ng_ee, ng_add, not_false_eq_true, not_true_eq_false, ne_eq]; omega)) ⟨v, ?_⟩))
    rw [L_s0 hS (c := 113) (by unfold rcL; omega), hY]
    exact L_throw hS hn0 (fun J hJ t => k1 e J hJ (tL_s sS t))
  · exact zin (fun w => e (nI_inj (by omega) (by omega) w)) (k0 e _ hS sS)
theorem M_pf {I0 I : zI} {k lim q X : Nat} {n : nuN} {z : nuZ} {fs : List Frm} {P : zP} {K : Int32 → zI → zP → Prop} (hq : q < 24) (h : SM I0 k lim fs n z I) (hX : I0 173 q = nI X) (hX2 : X ≤ 1000) (hb : n (50 + q) < 2 ^ 30) (k1 : n (50 + q) + 1 = X → ∀ J, SM I0 k lim fs (up1 n (50 + q) (n (50 + q) + 1)) z J → sM I J → K 1 J P) (k0 : n (50 + q) + 1 ≠ X → ∀ J, SM I0 k lim fs (up1 n (50 + q) (n (50 + q) + 1)) z J → sM I J → K 0 J P) : w_X10_faults (nI q) I P K := by
  have v : vp_in (nI q) 24 := vp_in_nI hq (by decide)
  have y : I 204 q = nI (n (50 + q)) := h.2.2.2.2.1.2.2.2.2 q hq
  have hS := SM_pas hq h
  have sS : sM I (zu I 204 q (nI (n (50 + q) + 1))) := ⟨fun j _ => zu_nc (by omega), fun c j _ => zu_nc (by omega)⟩
  unfold w_X10_faults
  rw [nI_clamp (by omega), y, nI_1, zu_same, M_s0 hS (c := 173) (by unfold rcM; omega), hX]
  refine ⟨v, v, v, v, ?_⟩
  by_cases e : n (50 + q) + 1 = X
  · exact zip (by rw [e]) (k1 e _ hS sS)
  · exact zin (fun w => e (nI_inj (by omega) (by omega) w)) (k0 e _ hS sS)
