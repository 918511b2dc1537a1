/-! PURE 54: the reference's weaver: keep -/
def blkV (m c j : Nat) : Prop := ((c = 175 ∨ c = 177 ∨ c = 179 ∨ c = 185 ∨ c = 186) ∧ j = m) ∨ ((c = 176 ∨ c = 178) ∧ 1000 * m ≤ j ∧ j < 1000 * m + 1000) ∨ ((180 ≤ c ∧ c ≤ 183) ∧ 9 * m ≤ j ∧ j < 9 * m + 9) ∨ (c = 184 ∧ 400 * m ≤ j ∧ j < 400 * m + 400)
theorem RDn_c {A B F : Nat → Nat → Nat} {m w : Nat} {I J : zI} (h : RDn A m B w F I) (f : ∀ c j, (155 ≤ c ∧ c ≤ 172) ∨ (189 ≤ c ∧ c ≤ 195) → J c j = I c j) : RDn A m B w F J := by
  obtain ⟨h1, h2, h3, h4, h5, h6⟩ := h
  exact ⟨CY_c h1 (fun c j a => f c j (by omega)), by rw [f _ _ (by omega)]; exact h2, fun i hi h => by rw [f _ _ (by omega), f _ _ (by omega)]; exact h3 i hi h, RSw_c h4 (fun c j a => f c j (by omega)), by rw [f _ _ (by omega)]; exact h5, by rw [f _ _ (by omega)]; exact h6⟩
theorem RDn_k {A B F : Nat → Nat → Nat} {m w : Nat} {I J : zI} (hm : m < 6) (h : RDn A m B w F I) (f : ∀ c j, ¬ blkV m c j → J c j = I c j) : RDn A m B w F J := RDn_c h (fun c j a => f c j (by unfold blkV; omega))
theorem s_k295 {m k y s a b t kd : Nat} {s0 : Int32} {J : zI} {P : zP} {K : zI → zP → Prop} {X : Int32 → Int32 → Int32 → zI → zP → Prop} (hm : m < 6) (hk : k < 8) (hy : y < 500) (hs : (s = 0 ∧ s0 = 0) ∨ (s = 1 ∧ s0 = 1)) (f2 : J 162 (8 * m + k) = nI a) (f3 : J 163 (8 * m + k) = nI b) (f4 : J 164 (8 * m + k) = nI t) (f5 : J 165 (8 * m + k) = nI kd) (ha : a ≤ 400) (hb : b ≤ 400) (ht : t ≤ 400) (kk : ∀ J', (∀ c j, ¬ (180 ≤ c ∧ c ≤ 183 ∧ j = 9 * m + k) → J' c j = J c j) → J' 180 (9 * m + k) = J 191 a → J' 181 (9 * m + k) = J 191 b → J' 182 (9 * m + k) = (if s = 0 then J 191 t else J 193 y) → J' 183 (9 * m + k) = nI kd → X (nI m) (nI (y + s)) (nI (k + 1)) J' P) : j_X10_keep_295 X K (nI m) (nI y) (nI k) (nI (8 * m + k)) s0 J P := by
  unfold j_X10_keep_295
  have e9 : (9 : Int32) * nI m + nI k = nI (9 * m + k) := by rw [show (9 : Int32) = nI 9 from rfl, pk_mul, nI_add]
  have v8 : vp_in (nI (8 * m + k)) 48 := vp_in_nI (by omega) (by decide)
  have v9 : vp_in (nI (9 * m + k)) 54 := vp_in_nI (by omega) (by decide)
  simp (disch := omega) only [e9, nI_clamp, zu_nc, zu_same, f2, f3, f4, f5]
  refine ⟨v8, vp_in_nI (by omega) (by decide), v9, v8, vp_in_nI (by omega) (by decide), v9, ?_⟩
  have fin : ∀ x : Int32, x = (if s = 0 then J 191 t else J 193 y) → j_X10_keep_382 X K (nI m) (nI y) (nI k) (nI (8 * m + k)) s0 x (nI (9 * m + k)) (zu (zu J 180 (9 * m + k) (J 191 a)) 181 (9 * m + k) (J 191 b)) P := fun x hx => by
    unfold j_X10_keep_382
    simp (disch := omega) only [e9, nI_clamp, zu_nc, zu_same, f5]
    refine ⟨v9, v8, v9, ?_⟩
    have hit : X (nI m) (nI (y + s)) (nI (k + 1)) (zu (zu (zu (zu J 180 (9 * m + k) (J 191 a)) 181 (9 * m + k) (J 191 b)) 182 (9 * m + k) x) 183 (9 * m + k) (nI kd)) P := by
      refine kk _ (fun c j q => ?_) ?_ ?_ ?_ ?_
      · rw [zu_ne (by omega), zu_ne (by omega), zu_ne (by omega), zu_ne (by omega)]
      · rw [zu_nc (by omega), zu_nc (by omega), zu_nc (by omega), zu_same]
      · rw [zu_nc (by omega), zu_nc (by omega), zu_same]
      · rw [zu_nc (by omega), zu_same]; exact hx
      · rw [zu_same]
    rw [nI_1]
    rcases hs with ⟨rfl, rfl⟩ | ⟨rfl, rfl⟩
    · exact zip rfl hit
    · rw [nI_1]; exact zin (by decide) hit
  rcases hs with ⟨rfl, rfl⟩ | ⟨rfl, rfl⟩
  · exact zip rfl ⟨v8, vp_in_nI (by omega) (by decide), fin _ (by rw [if_pos rfl])⟩
  · exact zin (by decide) ⟨vp_in_nI hy (by decide), fin _ (by rw [if_neg (by decide)])⟩
theorem SP_z {A B F : Nat → Nat → Nat} {m w : Nat} : ∀ p, nsp m B w p = 0 → SPp A m B w F p = SPp A m B w F 0
  | 0, _ => rfl
  | p + 1, h => by
    rw [nsp_s] at h
    have e : cnq B m 1 p w = 0 := by
      by_cases z : cnq B m 1 p w = 0
      · exact z
      · rw [if_neg z] at h; omega
    exact (by rw [SPp, if_pos e] : SPp A m B w F (p + 1) = SPp A m B w F p).trans (SP_z p (by omega))
theorem CP_z {A B F : Nat → Nat → Nat} {m w : Nat} : ∀ p, ncp A m B w p = 0 → CPp A m B w F p = CPp A m B w F 0
  | 0, _ => rfl
  | p + 1, h => by
    rw [ncp_s] at h
    have e : cnq B m 5 (A 3 (4 * p + 2)) w = 0 := by
      by_cases z : cnq B m 5 (A 3 (4 * p + 2)) w = 0
      · exact z
      · rw [if_neg z] at h; omega
    exact (by rw [CPp, if_pos e] : CPp A m B w F (p + 1) = CPp A m B w F p).trans (CP_z p (by omega))
theorem nsp_f {B : Nat → Nat → Nat} {m w : Nat} : ∀ p, 0 < nsp m B w p → ∃ q, q < p ∧ 0 < cnq B m 1 q w ∧ nsp m B w q = 0
  | 0, h => absurd h (Nat.lt_irrefl _)
  | p + 1, h => by
    by_cases z : 0 < nsp m B w p
    · obtain ⟨q, a, b, c⟩ := nsp_f p z
      exact ⟨q, by omega, b, c⟩
    · refine ⟨p, by omega, ?_, by omega⟩
      rw [nsp_s] at h
      by_cases e : cnq B m 1 p w = 0
      · rw [if_pos e] at h; omega
      · omega
theorem ncp_f {A B : Nat → Nat → Nat} {m w : Nat} : ∀ p, 0 < ncp A m B w p → ∃ q, q < p ∧ 0 < cnq B m 5 (A 3 (4 * q + 2)) w ∧ ncp A m B w q = 0
  | 0, h => absurd h (Nat.lt_irrefl _)
  | p + 1, h => by
    by_cases z : 0 < ncp A m B w p
    · obtain ⟨q, a, b, c⟩ := ncp_f p z
      exact ⟨q, by omega, b, c⟩
    · refine ⟨p, by omega, ?_, by omega⟩
      rw [ncp_s] at h
      by_cases e : cnq B m 5 (A 3 (4 * p + 2)) w = 0
      · rw [if_pos e] at h; omega
      · omega
theorem pad0 {A B F : Nat → Nat → Nat} {m w : Nat} {J : zI} (h : RDn A m B w F J) (hn : 0 < nsp m B w (A 0 2) + ncp A m B w (A 0 3)) : J 193 0 = nI (Gp A m B w F (A 0 2)) := by
  obtain ⟨-, -, -, s, -, -⟩ := h
  by_cases z : 0 < nsp m B w (A 0 2)
  · obtain ⟨q, a, b, c⟩ := nsp_f _ z
    have := s.2.2.1 q a b (Or.inl trivial)
    rw [c, SP_z q c] at this; exact this
  · obtain ⟨q, a, b, c⟩ := ncp_f (A := A) (B := B) (m := m) (w := w) (A 0 3) (by omega)
    have := s.2.2.2.1 q a b (Or.inl trivial)
    have z0 : nsp m B w (A 0 2) = 0 := by omega
    rw [c, z0, CP_z q c, show CPp A m B w F 0 = SPp A m B w F (A 0 2) from rfl, SP_z _ z0] at this; exact this
/-- the reference holds what was woven -/
def MV (A : Nat → Nat → Nat) (m : Nat) (B : Nat → Nat → Nat) (w : Nat) (F : Nat → Nat → Nat) (I : zI) : Prop :=
  I 177 m = nI (TOT A m B w F) ∧ I 179 m = nI (A 0 3 + if cnq B m 3 0 w = 0 then 0 else 1) ∧ I 185 m = nI (gnw A F (A 0 2)) ∧ I 186 m = nI (nsp m B w (A 0 2) + ncp A m B w (A 0 3) + if cnq B m 3 0 w = 0 then 0 else 1) ∧ I 175 m = nI w ∧
  (∀ i, i < TOT A m B w F → I 176 (1000 * m + i) = nI ((codL A m B w F).getD i (0, 0, 0)).1 ∧ I 178 (1000 * m + i) = oM ((codL A m B w F).getD i (0, 0, 0)).2.2) ∧
  (∀ p, p < A 0 2 → 0 < A 2 p → I 184 (400 * m + p) = nI (Sp A m B w F p)) ∧
  (∀ q, q < A 0 3 → I 180 (9 * m + q) = nI (Gp A m B w F (A 3 (4 * q))) ∧ I 181 (9 * m + q) = nI (Gp A m B w F (A 3 (4 * q + 1))) ∧ I 182 (9 * m + q) = nI (hT A m B w F q) ∧ I 183 (9 * m + q) = nI (A 3 (4 * q + 3))) ∧
  (cnq B m 3 0 w ≠ 0 → I 180 (9 * m + A 0 3) = nI (Gp A m B w F 0) ∧ I 181 (9 * m + A 0 3) = nI (Gp A m B w F (A 0 2)) ∧ I 182 (9 * m + A 0 3) = nI (LPp A m B w F) ∧ I 183 (9 * m + A 0 3) = 0)
theorem s_keep {A B F : Nat → Nat → Nat} {m w : Nat} {I : zI} {P : zP} {K : zI → zP → Prop} (hm : m < 6) (hB : W0 A m) (hH : ∀ k, k < A 0 3 → hok A k) (hQ : BQ A m B w) (hF : FOK A m B w F) (hT1 : TOT A m B w F ≤ 1000) (hD : RDn A m B w F I) (k : ∀ J, (∀ c j, ¬ blkV m c j → J c j = I c j) → MV A m B w F J → K J P) : w_X10_keep (nI m) I P K := by
  have hl := hB.2.2.2.2.1
  have h8 := hB.2.2.2.2.2.1
  have hw := hD.1.2.1.1
  have vm : vp_in (nI m) 6 := vp_in_nI hm (by decide)
  have n1 := nsp_le (B := B) (m := m) (w := w) (A 0 2)
  have n2 := ncp_le (A := A) (B := B) (m := m) (w := w) (A 0 3)
  have c3 := cnq_le (B := B) (m := m) (s := 3) (p := 0) w
  have tl : TOT A m B w F = LPp A m B w F + (if cnq B m 3 0 w = 0 then 0 else 2 * cnq B m 3 0 w + 1) := rfl
  -- handlers
  have l3 : ∀ d i J, i + d = A 0 3 → (∀ c j, ¬ blkV m c j → J c j = I c j) → J 177 m = nI (TOT A m B w F) → J 179 m = nI (A 0 3) → J 185 m = nI (gnw A F (A 0 2)) → J 186 m = nI (nsp m B w (A 0 2) + ncp A m B w (A 0 3) + if cnq B m 3 0 w = 0 then 0 else 1) → J 175 m = nI w → (∀ i, i < TOT A m B w F → J 176 (1000 * m + i) = nI ((codL A m B w F).getD i (0, 0, 0)).1 ∧ J 178 (1000 * m + i) = oM ((codL A m B w F).getD i (0, 0, 0)).2.2) → (∀ p, p < A 0 2 → 0 < A 2 p → J 184 (400 * m + p) = nI (Sp A m B w F p)) → (∀ q, q < i → J 180 (9 * m + q) = nI (Gp A m B w F (A 3 (4 * q))) ∧ J 181 (9 * m + q) = nI (Gp A m B w F (A 3 (4 * q + 1))) ∧ J 182 (9 * m + q) = nI (hT A m B w F q) ∧ J 183 (9 * m + q) = nI (A 3 (4 * q + 3))) → l_X10_keep_250 K (d + 1) (nI m) (nI (nsp m B w (A 0 2) + ncp A m B w i)) (nI i) J P := by
    intro d
    induction d with
    | zero =>
      intro i J hi f y77 y79 y85 y86 y75 yb ys yh
      obtain rfl : i = A 0 3 := by omega
      have hDJ := RDn_k hm hD f
      have e9 : (9 : Int32) * nI m + nI (A 0 3) = nI (9 * m + A 0 3) := by rw [show (9 : Int32) = nI 9 from rfl, pk_mul, nI_add]
      rw [l_X10_keep_250, nI_clamp (by omega), hDJ.1.1.2.2.2.1]
      refine ⟨vm, zip (by first | omega | decide | (simp (maxSteps := 400000) (disch := omega) only [q_lit, q_neg, nI_ltI, nI_leI, nI_eq, nI_add, pk_mul, pk_sub, nI_clamp, vp_q, zu_same, zu_nc, zu_nj, ng_lt, ng_le, ng_gt, ng_ge, ng_eq, ng_qe, ng_ee, ng_add, not_false_eq_true, not_true_eq_false, ne_eq]; done) | (simp (maxSteps := 400000) (disch := omega) only [q_lit, q_neg, nI_ltI, nI_leI, nI_eq, nI_add, pk_mul, pk_sub, nI_clamp, vp_q, zu_same, zu_nc, zu_nj, ng_lt, ng_le, ng_gt, ng_ge, ng_eq, ng_qe, ng_ee, ng_add, not_false_eq_true, not_true_eq_false, ne_eq]; omega)) ?_⟩
      rw [hDJ.2.1, hDJ.2.2.2.2.2]
      by_cases e : cnq B m 3 0 w = 0
      · rw [if_pos e] at tl
        exact zip (by first | omega | decide | (simp (maxSteps := 400000) (disch := omega) only [q_lit, q_neg, nI_ltI, nI_leI, nI_eq, nI_add, pk_mul, pk_sub, nI_clamp, vp_q, zu_same, zu_nc, zu_nj, ng_lt, ng_le, ng_gt, ng_ge, ng_eq, ng_qe, ng_ee, ng_add, not_false_eq_true, not_true_eq_false, ne_eq]; done) | (simp (maxSteps := 400000) (disch := omega) only [q_lit, q_neg, nI_ltI, nI_leI, nI_eq, nI_add, pk_mul, pk_sub, nI_clamp, vp_q, zu_same, zu_nc, zu_nj, ng_lt, ng_le, ng_gt, ng_ge, ng_eq, ng_qe, ng_ee, ng_add, not_false_eq_true, not_true_eq_false, ne_eq]; omega)) (k J f ⟨y77, by rw [if_pos e]; exact y79, y85, y86, y75, yb, ys, yh, fun z => absurd e z⟩)
      · rw [if_neg e] at tl
        have y191 : J 191 0 = nI (Gp A m B w F 0) := hDJ.2.2.2.1.1 0 (by omega) (Or.inr hB.2.2.2.2.2.2.2.2.1) (Or.inl trivial)
        refine zin (by first | omega | decide | (simp (maxSteps := 400000) (disch := omega) only [q_lit, q_neg, nI_ltI, nI_leI, nI_eq, nI_add, pk_mul, pk_sub, nI_clamp, vp_q, zu_same, zu_nc, zu_nj, ng_lt, ng_le, ng_gt, ng_ge, ng_eq, ng_qe, ng_ee, ng_add, not_false_eq_true, not_true_eq_false, ne_eq]; done) | (simp (maxSteps := 400000) (disch := omega) only [q_lit, q_neg, nI_ltI, nI_leI, nI_eq, nI_add, pk_mul, pk_sub, nI_clamp, vp_q, zu_same, zu_nc, zu_nj, ng_lt, ng_le, ng_gt, ng_ge, ng_eq, ng_qe, ng_ee, ng_add, not_false_eq_true, not_true_eq_false, ne_eq]; omega)) ⟨vm, ?_⟩
        have v9 : vp_in (nI (9 * m + A 0 3)) 54 := vp_in_nI (by omega) (by decide)
        have z47 := hDJ.2.2.2.2.1
        have z48 := hDJ.2.2.2.2.2
        simp (disch := omega) only [e9, nI_clamp, zu_nc, zu_same, y191, z47, z48]
        have fin : ∀ x : Int32, x = nI (Gp A m B w F (A 0 2)) → j_X10_keep_484 K (nI m) (nI (9 * m + A 0 3)) x (nI (9 * m + A 0 3)) (zu J 180 (9 * m + A 0 3) (nI (Gp A m B w F 0))) P := fun x hx => by
          unfold j_X10_keep_484
          simp (disch := omega) only [nI_clamp, zu_nc, zu_same, z48, y79]
          refine ⟨v9, v9, v9, vm, vm, k _ (fun c j q => ?_) ⟨?_, ?_, ?_, ?_, ?_, fun i hi => ?_, fun p hp hz => ?_, fun q hq => ?_, fun _ => ?_⟩⟩
          · unfold blkV at q
            rw [zu_ne (by omega), zu_ne (by omega), zu_ne (by omega), zu_ne (by omega), zu_ne (by omega)]; exact f c j (by unfold blkV; exact q)
          · rw [zu_nc (by omega), zu_nc (by omega), zu_nc (by omega), zu_nc (by omega), zu_nc (by omega)]; exact y77
          · rw [zu_same, if_neg e, nI_1]
          · rw [zu_nc (by omega), zu_nc (by omega), zu_nc (by omega), zu_nc (by omega), zu_nc (by omega)]; exact y85
          · rw [zu_nc (by omega), zu_nc (by omega), zu_nc (by omega), zu_nc (by omega), zu_nc (by omega)]; exact y86
          · rw [zu_nc (by omega), zu_nc (by omega), zu_nc (by omega), zu_nc (by omega), zu_nc (by omega)]; exact y75
          · rw [zu_nc (by omega), zu_nc (by omega), zu_nc (by omega), zu_nc (by omega), zu_nc (by omega), zu_nc (by omega), zu_nc (by omega), zu_nc (by omega), zu_nc (by omega), zu_nc (by omega)]; exact yb i hi
          · rw [zu_nc (by omega), zu_nc (by omega), zu_nc (by omega), zu_nc (by omega), zu_nc (by omega)]; exact ys p hp hz
          · obtain ⟨a, b, c, d⟩ := yh q hq
            refine ⟨?_, ?_, ?_, ?_⟩
            · rw [zu_nc (by omega), zu_nc (by omega), zu_nc (by omega), zu_nc (by omega), zu_nj (by omega)]; exact a
            · rw [zu_nc (by omega), zu_nc (by omega), zu_nc (by omega), zu_nj (by omega), zu_nc (by omega)]; exact b
            · rw [zu_nc (by omega), zu_nc (by omega), zu_nj (by omega), zu_nc (by omega), zu_nc (by omega)]; exact c
            · rw [zu_nc (by omega), zu_nj (by omega), zu_nc (by omega), zu_nc (by omega), zu_nc (by omega)]; exact d
          · refine ⟨?_, ?_, ?_, ?_⟩
            · rw [zu_nc (by omega), zu_nc (by omega), zu_nc (by omega), zu_nc (by omega), zu_same]
            · rw [zu_nc (by omega), zu_nc (by omega), zu_nc (by omega), zu_same]; exact hx
            · rw [zu_nc (by omega), zu_nc (by omega), zu_same]
            · rw [zu_nc (by omega), zu_same]
        refine ⟨v9, ?_⟩
        by_cases ez : nsp m B w (A 0 2) + ncp A m B w (A 0 3) = 0
        · refine zip (by rw [ez]; decide) (fin _ ?_)
          have a0 : nsp m B w (A 0 2) = 0 := by omega
          have b0 : ncp A m B w (A 0 3) = 0 := by omega
          unfold LPp
          rw [CP_z _ b0, show CPp A m B w F 0 = SPp A m B w F (A 0 2) from rfl, SP_z _ a0]; rfl
        · exact zin (by first | omega | decide | (simp (maxSteps := 400000) (disch := omega) only [q_lit, q_neg, nI_ltI, nI_leI, nI_eq, nI_add, pk_mul, pk_sub, nI_clamp, vp_q, zu_same, zu_nc, zu_nj, ng_lt, ng_le, ng_gt, ng_ge, ng_eq, ng_qe, ng_ee, ng_add, not_false_eq_true, not_true_eq_false, ne_eq]; done) | (simp (maxSteps := 400000) (disch := omega) only [q_lit, q_neg, nI_ltI, nI_leI, nI_eq, nI_add, pk_mul, pk_sub, nI_clamp, vp_q, zu_same, zu_nc, zu_nj, ng_lt, ng_le, ng_gt, ng_ge, ng_eq, ng_qe, ng_ee, ng_add, not_false_eq_true, not_true_eq_false, ne_eq]; omega)) (fin _ (pad0 hDJ (by omega)))
    | succ d ih =>
      intro i J hi f y77 y79 y85 y86 y75 yb ys yh
      have hDJ := RDn_k hm hD f
      have hok := hH i (by omega)
      obtain ⟨t1, t2⟩ := hk_t hB hok
      obtain ⟨u1, u2⟩ := hk_f hB hok
      have gu : A 3 (4 * i + 1) ≤ 400 ∧ J 191 (A 3 (4 * i + 1)) = nI (Gp A m B w F (A 3 (4 * i + 1))) := by
        rcases hk_u hB hok with z | ⟨z1, z2⟩
        · rw [z]; exact ⟨hl, hDJ.2.2.2.1.1 _ (Nat.le_refl _) (Or.inl rfl) (Or.inl trivial)⟩
        · exact ⟨by omega, hDJ.2.2.2.1.1 _ (by omega) (Or.inr z2) (Or.inl trivial)⟩
      have g0 := hDJ.2.2.2.1.1 _ (Nat.le_of_lt u1) (Or.inr u2) (Or.inl trivial)
      have g2 := hDJ.2.2.2.1.1 _ (Nat.le_of_lt t1) (Or.inr t2) (Or.inl trivial)
      obtain ⟨f2, f3, f4, f5⟩ := hDJ.1.1.2.2.2.2.2 i (by omega)
      have c5 := cnq_le (B := B) (m := m) (s := 5) (p := A 3 (4 * i + 2)) w
      have e8 : (8 : Int32) * nI m + nI i = nI (8 * m + i) := by rw [show (8 : Int32) = nI 8 from rfl, pk_mul, nI_add]
      have nc := ncp_le (A := A) (B := B) (m := m) (w := w) i
      have nx : ∀ s J', (s = if cnq B m 5 (A 3 (4 * i + 2)) w = 0 then 0 else 1) → (∀ c j, ¬ (180 ≤ c ∧ c ≤ 183 ∧ j = 9 * m + i) → J' c j = J c j) → J' 180 (9 * m + i) = J 191 (A 3 (4 * i)) → J' 181 (9 * m + i) = J 191 (A 3 (4 * i + 1)) → J' 182 (9 * m + i) = (if s = 0 then J 191 (A 3 (4 * i + 2)) else J 193 (nsp m B w (A 0 2) + ncp A m B w i)) → J' 183 (9 * m + i) = nI (A 3 (4 * i + 3)) → l_X10_keep_250 K (d + 1) (nI m) (nI (nsp m B w (A 0 2) + ncp A m B w i + s)) (nI (i + 1)) J' P := fun s J' hs f' b0 b1 b2 b3 => by
        have := ih (i + 1) J' (by omega) (fun c j q => by rw [f' c j (by unfold blkV at q; omega)]; exact f c j q) (by rw [f' _ _ (by omega)]; exact y77) (by rw [f' _ _ (by omega)]; exact y79) (by rw [f' _ _ (by omega)]; exact y85) (by rw [f' _ _ (by omega)]; exact y86) (by rw [f' _ _ (by omega)]; exact y75) (fun i hi => by rw [f' _ _ (by omega), f' _ _ (by omega)]; exact yb i hi) (fun p hp hz => by rw [f' _ _ (by omega)]; exact ys p hp hz) (fun q hq => by
          by_cases e : q = i
          · subst e
            refine ⟨by rw [b0]; exact g0, by rw [b1]; exact gu.2, ?_, b3⟩
            rw [b2, hs]
            unfold hT
            by_cases z : cnq B m 5 (A 3 (4 * q + 2)) w = 0
            · rw [if_pos z, if_pos z, if_pos rfl]; exact g2
            · rw [if_neg z, if_neg z, if_neg (by decide)]; exact hDJ.2.2.2.1.2.2.2.1 q (by omega) (by omega) (Or.inl trivial)
          · rw [f' _ _ (by omega), f' _ _ (by omega), f' _ _ (by omega), f' _ _ (by omega)]; exact yh q (by omega))
        rw [ncp_s, ← hs, ← Nat.add_assoc] at this
        exact this
      rw [l_X10_keep_250, nI_clamp (by omega), hDJ.1.1.2.2.2.1, e8, nI_clamp (by omega), f4, hDJ.1.2.1.2.1]
      refine ⟨vm, zin (by first | omega | decide | (simp (maxSteps := 400000) (disch := omega) only [q_lit, q_neg, nI_ltI, nI_leI, nI_eq, nI_add, pk_mul, pk_sub, nI_clamp, vp_q, zu_same, zu_nc, zu_nj, ng_lt, ng_le, ng_gt, ng_ge, ng_eq, ng_qe, ng_ee, ng_add, not_false_eq_true, not_true_eq_false, ne_eq]; done) | (simp (maxSteps := 400000) (disch := omega) only [q_lit, q_neg, nI_ltI, nI_leI, nI_eq, nI_add, pk_mul, pk_sub, nI_clamp, vp_q, zu_same, zu_nc, zu_nj, ng_lt, ng_le, ng_gt, ng_ge, ng_eq, ng_qe, ng_ee, ng_add, not_false_eq_true, not_true_eq_false, ne_eq]; omega)) ⟨vp_in_nI (by omega) (by decide), s_hm (s := 5) hDJ.1.2.1 hQ (by decide) hm (by omega) ?_⟩⟩
      by_cases e : cnq B m 5 (A 3 (4 * i + 2)) w = 0
      · exact zip (by rw [e]; decide) (s_k295 (s := 0) hm (by omega) (by omega) (Or.inl ⟨rfl, rfl⟩) f2 f3 f4 f5 (by omega) gu.1 (by omega) (fun J' a b c d' e' => nx 0 J' (by rw [if_pos e]) a b c d' e'))
      · exact zin (by first | omega | decide | (simp (maxSteps := 400000) (disch := omega) only [q_lit, q_neg, nI_ltI, nI_leI, nI_eq, nI_add, pk_mul, pk_sub, nI_clamp, vp_q, zu_same, zu_nc, zu_nj, ng_lt, ng_le, ng_gt, ng_ge, ng_eq, ng_qe, ng_ee, ng_add, not_false_eq_true, not_true_eq_false, ne_eq]; done) | (simp (maxSteps := 400000) (disch := omega) only [q_lit, q_neg, nI_ltI, nI_leI, nI_eq, nI_add, pk_mul, pk_sub, nI_clamp, vp_q, zu_same, zu_nc, zu_nj, ng_lt, ng_le, ng_gt, ng_ge, ng_eq, ng_qe, ng_ee, ng_add, not_false_eq_true, not_true_eq_false, ne_eq]; omega)) (s_k295 (s := 1) hm (by omega) (by omega) (Or.inr ⟨rfl, rfl⟩) f2 f3 f4 f5 (by omega) gu.1 (by omega) (fun J' a b c d' e' => nx 1 J' (by rw [if_neg e]) a b c d' e'))
  -- places
  have l2 : ∀ d i J, i + d = A 0 2 → (∀ c j, ¬ blkV m c j → J c j = I c j) → J 177 m = nI (TOT A m B w F) → (∀ i, i < TOT A m B w F → J 176 (1000 * m + i) = nI ((codL A m B w F).getD i (0, 0, 0)).1 ∧ J 178 (1000 * m + i) = oM ((codL A m B w F).getD i (0, 0, 0)).2.2) → (∀ p, p < i → 0 < A 2 p → J 184 (400 * m + p) = nI (Sp A m B w F p)) → l_X10_keep_69 K (d + 1) (nI m) (nI (gnw A F i)) (nI (nsp m B w i)) (nI i) J P := by
    intro d
    induction d with
    | zero =>
      intro i J hi f y77 yb ys
      obtain rfl : i = A 0 2 := by omega
      have hDJ := RDn_k hm hD f
      have z47 := hDJ.2.2.2.2.1
      have z48 := hDJ.2.2.2.2.2
      have z42 := hDJ.2.1
      have z17 := hDJ.1.2.1.2.1
      have z61 := hDJ.1.1.2.2.2.1
      have fin : ∀ x : Int32, x = nI (nsp m B w (A 0 2) + ncp A m B w (A 0 3) + if cnq B m 3 0 w = 0 then 0 else 1) → j_X10_keep_224 K (nI m) (nI (nsp m B w (A 0 2))) x (nI m) (zu J 185 m (nI (gnw A F (A 0 2)))) P := fun x hx => by
        unfold j_X10_keep_224
        simp (disch := omega) only [nI_clamp, zu_nc, zu_same, z17, z61]
        refine ⟨vm, vm, vm, vm, _, l3 (A 0 3) 0 _ (by omega) (fun c j q => ?_) ?_ ?_ ?_ ?_ ?_ (fun i hi => ?_) (fun p hp hz => ?_) (fun q hq => absurd hq (by omega))⟩
        · unfold blkV at q
          rw [zu_ne (by omega), zu_ne (by omega), zu_ne (by omega), zu_ne (by omega)]; exact f c j (by unfold blkV; exact q)
        · rw [zu_nc (by omega), zu_nc (by omega), zu_nc (by omega), zu_nc (by omega)]; exact y77
        · rw [zu_same]
        · rw [zu_nc (by omega), zu_nc (by omega), zu_nc (by omega), zu_same]
        · rw [zu_nc (by omega), zu_nc (by omega), zu_same]; exact hx
        · rw [zu_nc (by omega), zu_same]
        · rw [zu_nc (by omega), zu_nc (by omega), zu_nc (by omega), zu_nc (by omega), zu_nc (by omega), zu_nc (by omega), zu_nc (by omega), zu_nc (by omega)]; exact yb i hi
        · rw [zu_nc (by omega), zu_nc (by omega), zu_nc (by omega), zu_nc (by omega)]; exact ys p hp hz
      rw [l_X10_keep_69, nI_clamp (by omega), hDJ.1.1.2.2.1]
      simp (disch := omega) only [zu_nc, z47, z48, z42]
      refine ⟨vm, zip (by first | omega | decide | (simp (maxSteps := 400000) (disch := omega) only [q_lit, q_neg, nI_ltI, nI_leI, nI_eq, nI_add, pk_mul, pk_sub, nI_clamp, vp_q, zu_same, zu_nc, zu_nj, ng_lt, ng_le, ng_gt, ng_ge, ng_eq, ng_qe, ng_ee, ng_add, not_false_eq_true, not_true_eq_false, ne_eq]; done) | (simp (maxSteps := 400000) (disch := omega) only [q_lit, q_neg, nI_ltI, nI_leI, nI_eq, nI_add, pk_mul, pk_sub, nI_clamp, vp_q, zu_same, zu_nc, zu_nj, ng_lt, ng_le, ng_gt, ng_ge, ng_eq, ng_qe, ng_ee, ng_add, not_false_eq_true, not_true_eq_false, ne_eq]; omega)) ⟨vm, ?_⟩⟩
      by_cases e : cnq B m 3 0 w = 0
      · rw [if_pos e] at tl
        exact zip (by first | omega | decide | (simp (maxSteps := 400000) (disch := omega) only [q_lit, q_neg, nI_ltI, nI_leI, nI_eq, nI_add, pk_mul, pk_sub, nI_clamp, vp_q, zu_same, zu_nc, zu_nj, ng_lt, ng_le, ng_gt, ng_ge, ng_eq, ng_qe, ng_ee, ng_add, not_false_eq_true, not_true_eq_false, ne_eq]; done) | (simp (maxSteps := 400000) (disch := omega) only [q_lit, q_neg, nI_ltI, nI_leI, nI_eq, nI_add, pk_mul, pk_sub, nI_clamp, vp_q, zu_same, zu_nc, zu_nj, ng_lt, ng_le, ng_gt, ng_ge, ng_eq, ng_qe, ng_ee, ng_add, not_false_eq_true, not_true_eq_false, ne_eq]; omega)) (fin _ (by rw [if_pos e]; rfl))
      · rw [if_neg e] at tl
        exact zin (by first | omega | decide | (simp (maxSteps := 400000) (disch := omega) only [q_lit, q_neg, nI_ltI, nI_leI, nI_eq, nI_add, pk_mul, pk_sub, nI_clamp, vp_q, zu_same, zu_nc, zu_nj, ng_lt, ng_le, ng_gt, ng_ge, ng_eq, ng_qe, ng_ee, ng_add, not_false_eq_true, not_true_eq_false, ne_eq]; done) | (simp (maxSteps := 400000) (disch := omega) only [q_lit, q_neg, nI_ltI, nI_leI, nI_eq, nI_add, pk_mul, pk_sub, nI_clamp, vp_q, zu_same, zu_nc, zu_nj, ng_lt, ng_le, ng_gt, ng_ge, ng_eq, ng_qe, ng_ee, ng_add, not_false_eq_true, not_true_eq_false, ne_eq]; omega)) (fin _ (by rw [if_neg e, nI_1]))
    | succ d ih =>
      intro i J hi f y77 yb ys
      have hDJ := RDn_k hm hD f
      have c1 := cnq_le (B := B) (m := m) (s := 1) (p := i) w
      have v4 : vp_in (nI (400 * m + i)) 2400 := vp_in_nI (by omega) (by decide)
      have z66 := (hDJ.1.1.2.2.2.2.1 i (by omega)).2
      have z60 := (hDJ.1.1.2.2.2.2.1 i (by omega)).1
      rw [l_X10_keep_69, nI_clamp (by omega), hDJ.1.1.2.2.1, e400]
      simp (disch := omega) only [nI_clamp, zu_nc, z66, z60]
      have fZ : ∀ c j, ¬ blkV m c j → zu J 184 (400 * m + i) (J 192 i) c j = I c j := fun c j q => by
        rw [zu_ne (by unfold blkV at q; omega)]; exact f c j q
      have hDZ := RDn_k hm hD fZ
      have nx : l_X10_keep_69 K (d + 1) (nI m) (nI (gnw A F (i + 1))) (nI (nsp m B w (i + 1))) (nI (i + 1)) (zu J 184 (400 * m + i) (J 192 i)) P := by
        refine ih (i + 1) _ (by omega) fZ (by rw [zu_nc (by omega)]; exact y77) (fun i hi => by rw [zu_nc (by omega), zu_nc (by omega)]; exact yb i hi) (fun p hp hz => ?_)
        by_cases e : p = i
        · subst e
          rw [zu_same]; exact hDJ.2.2.2.1.2.1 p (by omega) hz (Or.inl trivial)
        · rw [zu_nj (by omega)]; exact ys p (by omega) hz
      refine ⟨vm, zin (by first | omega | decide | (simp (maxSteps := 400000) (disch := omega) only [q_lit, q_neg, nI_ltI, nI_leI, nI_eq, nI_add, pk_mul, pk_sub, nI_clamp, vp_q, zu_same, zu_nc, zu_nj, ng_lt, ng_le, ng_gt, ng_ge, ng_eq, ng_qe, ng_ee, ng_add, not_false_eq_true, not_true_eq_false, ne_eq]; done) | (simp (maxSteps := 400000) (disch := omega) only [q_lit, q_neg, nI_ltI, nI_leI, nI_eq, nI_add, pk_mul, pk_sub, nI_clamp, vp_q, zu_same, zu_nc, zu_nj, ng_lt, ng_le, ng_gt, ng_ge, ng_eq, ng_qe, ng_ee, ng_add, not_false_eq_true, not_true_eq_false, ne_eq]; omega)) ⟨vp_in_nI (by omega) (by decide), v4, v4, ?_⟩⟩
      have z66' : zu J 184 (400 * m + i) (J 192 i) 166 (400 * m + i) = if A 2 i = 0 then 0 else 1 := by rw [zu_nc (by omega)]; exact z66
      have m148 : ∀ x : Int32, x = nI (gnw A F (i + 1)) → j_X10_keep_148 (l_X10_keep_69 K (d + 1)) K (nI m) (nI (nsp m B w i)) (nI i) (nI (400 * m + i)) x (zu J 184 (400 * m + i) (J 192 i)) P := fun x hx => by
        unfold j_X10_keep_148 j_X10_keep_180
        rw [nI_clamp (by omega), z66', nI_1, hDZ.1.2.1.2.1, hx]
        refine ⟨v4, ?_⟩
        rw [nsp_s] at nx
        by_cases hz : A 2 i = 0
        · rw [if_pos hz]
          have cz : cnq B m 1 i w = 0 := by
            by_cases z2 : cnq B m 1 i w = 0
            · exact z2
            · have := (sd_ok hQ (p := i) (by omega)).2.1; omega
          rw [if_pos cz] at nx
          exact zip rfl nx
        · rw [if_neg hz]
          refine zin (by decide) (s_hm (s := 1) hDZ.1.2.1 hQ (by decide) hm (by omega) ?_)
          by_cases z2 : cnq B m 1 i w = 0
          · rw [if_pos z2] at nx
            exact zip (by rw [z2]; decide) nx
          · rw [if_neg z2] at nx
            rw [nI_1]
            exact zin (by first | omega | decide | (simp (maxSteps := 400000) (disch := omega) only [q_lit, q_neg, nI_ltI, nI_leI, nI_eq, nI_add, pk_mul, pk_sub, nI_clamp, vp_q, zu_same, zu_nc, zu_nj, ng_lt, ng_le, ng_gt, ng_ge, ng_eq, ng_qe, ng_ee, ng_add, not_false_eq_true, not_true_eq_false, ne_eq]; done) | (simp (maxSteps := 400000) (disch := omega) only [q_lit, q_neg, nI_ltI, nI_leI, nI_eq, nI_add, pk_mul, pk_sub, nI_clamp, vp_q, zu_same, zu_nc, zu_nj, ng_lt, ng_le, ng_gt, ng_ge, ng_eq, ng_qe, ng_ee, ng_add, not_false_eq_true, not_true_eq_false, ne_eq]; omega)) nx
      by_cases hz : A 2 i = 0
      · rw [if_pos hz]
        refine zip rfl ?_
        unfold j_X10_keep_147
        exact m148 _ (by rw [gnw_s, if_pos hz]; rfl)
      · rw [if_neg hz]
        refine zin (by decide) ⟨v4, ?_⟩
        have c256 := hB.2.2.2.2.2.2.1 i
        have f1 := hF.1 0 i
        by_cases gs : isSt (A 1 i)
        · have gl : ¬ isLg (A 1 i) := fun q => by unfold isSt isLg at *; omega
          have z94 : zu J 184 (400 * m + i) (J 192 i) 194 i = nI (F 0 i) := by
            have := hDZ.1.2.2.1 i (by omega) (by omega) (Or.inl gs)
            rw [if_neg gl] at this; exact this
          refine s_inT ⟨by unfold isSt at gs; first | omega | decide | (simp (maxSteps := 400000) (disch := omega) only [q_lit, q_neg, nI_ltI, nI_leI, nI_eq, nI_add, pk_mul, pk_sub, nI_clamp, vp_q, zu_same, zu_nc, zu_nj, ng_lt, ng_le, ng_gt, ng_ge, ng_eq, ng_qe, ng_ee, ng_add, not_false_eq_true, not_true_eq_false, ne_eq]; done) | (simp (maxSteps := 400000) (disch := omega) only [q_lit, q_neg, nI_ltI, nI_leI, nI_eq, nI_add, pk_mul, pk_sub, nI_clamp, vp_q, zu_same, zu_nc, zu_nj, ng_lt, ng_le, ng_gt, ng_ge, ng_eq, ng_qe, ng_ee, ng_add, not_false_eq_true, not_true_eq_false, ne_eq]; omega), by unfold isSt at gs; first | omega | decide | (simp (maxSteps := 400000) (disch := omega) only [q_lit, q_neg, nI_ltI, nI_leI, nI_eq, nI_add, pk_mul, pk_sub, nI_clamp, vp_q, zu_same, zu_nc, zu_nj, ng_lt, ng_le, ng_gt, ng_ge, ng_eq, ng_qe, ng_ee, ng_add, not_false_eq_true, not_true_eq_false, ne_eq]; done) | (simp (maxSteps := 400000) (disch := omega) only [q_lit, q_neg, nI_ltI, nI_leI, nI_eq, nI_add, pk_mul, pk_sub, nI_clamp, vp_q, zu_same, zu_nc, zu_nj, ng_lt, ng_le, ng_gt, ng_ge, ng_eq, ng_qe, ng_ee, ng_add, not_false_eq_true, not_true_eq_false, ne_eq]; omega)⟩ (zin (by decide) ⟨vp_in_nI (by omega) (by decide), ?_⟩)
          rw [z94]
          rcases f01 hF.1 0 i with z | z
          · refine zip (by rw [z]; rfl) ?_
            unfold j_X10_keep_147
            exact m148 _ (by rw [gnw_s, if_neg hz, z]; rfl)
          · refine zin (by rw [z]; decide) ?_
            rw [nI_1]
            exact m148 _ (by rw [gnw_s, if_neg hz, z])
        · refine s_inF (fun q => gs ?_) (zip rfl ?_)
          · have z1 : nI 20 ≤ nI (A 1 i) := q.1
            have z2 : nI (A 1 i) ≤ nI 32 := q.2
            rw [nI_leI (by omega) (by omega)] at z1 z2
            exact ⟨z1, z2⟩
          · unfold j_X10_keep_147
            have z : F 0 i = 0 := by
              have : F 0 i ≠ 1 := fun q => gs (hF.2.1 i q).2.2
              omega
            exact m148 _ (by rw [gnw_s, if_neg hz, z]; rfl)
  -- bytes
  have l1 : ∀ d i J, i + d = TOT A m B w F → (∀ c j, ¬ blkV m c j → J c j = I c j) → J 177 m = nI (TOT A m B w F) → (∀ j, j < i → J 176 (1000 * m + j) = nI ((codL A m B w F).getD j (0, 0, 0)).1 ∧ J 178 (1000 * m + j) = oM ((codL A m B w F).getD j (0, 0, 0)).2.2) → l_X10_keep_12 K (d + 1) (nI m) (nI i) J P := by
    intro d
    induction d with
    | zero =>
      intro i J hi f y77 yb
      obtain rfl : i = TOT A m B w F := by omega
      have hDJ := RDn_k hm hD f
      rw [l_X10_keep_12, hDJ.2.1]
      exact zip (by first | omega | decide | (simp (maxSteps := 400000) (disch := omega) only [q_lit, q_neg, nI_ltI, nI_leI, nI_eq, nI_add, pk_mul, pk_sub, nI_clamp, vp_q, zu_same, zu_nc, zu_nj, ng_lt, ng_le, ng_gt, ng_ge, ng_eq, ng_qe, ng_ee, ng_add, not_false_eq_true, not_true_eq_false, ne_eq]; done) | (simp (maxSteps := 400000) (disch := omega) only [q_lit, q_neg, nI_ltI, nI_leI, nI_eq, nI_add, pk_mul, pk_sub, nI_clamp, vp_q, zu_same, zu_nc, zu_nj, ng_lt, ng_le, ng_gt, ng_ge, ng_eq, ng_qe, ng_ee, ng_add, not_false_eq_true, not_true_eq_false, ne_eq]; omega)) ⟨_, l2 (A 0 2) 0 J (by omega) f y77 yb (fun p hp => absurd hp (by omega))⟩
    | succ d ih =>
      intro i J hi f y77 yb
      have hDJ := RDn_k hm hD f
      obtain ⟨b1, b2⟩ := hDJ.2.2.1 i (by omega) (by omega)
      have e1 : (1000 : Int32) * nI m + nI i = nI (1000 * m + i) := by rw [show (1000 : Int32) = nI 1000 from rfl, pk_mul, nI_add]
      have v1 : vp_in (nI i) 4000 := vp_in_nI (by omega) (by decide)
      have v2 : vp_in (nI (1000 * m + i)) 6000 := vp_in_nI (by omega) (by decide)
      rw [l_X10_keep_12, hDJ.2.1, e1, nI_1]
      simp (disch := omega) only [nI_clamp, zu_nc, b1, b2]
      refine zin (by first | omega | decide | (simp (maxSteps := 400000) (disch := omega) only [q_lit, q_neg, nI_ltI, nI_leI, nI_eq, nI_add, pk_mul, pk_sub, nI_clamp, vp_q, zu_same, zu_nc, zu_nj, ng_lt, ng_le, ng_gt, ng_ge, ng_eq, ng_qe, ng_ee, ng_add, not_false_eq_true, not_true_eq_false, ne_eq]; done) | (simp (maxSteps := 400000) (disch := omega) only [q_lit, q_neg, nI_ltI, nI_leI, nI_eq, nI_add, pk_mul, pk_sub, nI_clamp, vp_q, zu_same, zu_nc, zu_nj, ng_lt, ng_le, ng_gt, ng_ge, ng_eq, ng_qe, ng_ee, ng_add, not_false_eq_true, not_true_eq_false, ne_eq]; omega)) ⟨v1, v2, v1, v2, ih (i + 1) _ (by omega) (fun c j q => ?_) (by rw [zu_nc (by omega), zu_nc (by omega)]; exact y77) (fun j hj => ?_)⟩
      · rw [zu_ne (by unfold blkV at q; omega), zu_ne (by unfold blkV at q; omega)]; exact f c j q
      · by_cases e : j = i
        · subst e
          rw [zu_nc (by omega), zu_same, zu_same]; exact ⟨rfl, rfl⟩
        · rw [zu_nc (by omega), zu_nj (by omega), zu_nj (by omega), zu_nc (by omega)]; exact yb j (by omega)
  unfold w_X10_keep
  rw [nI_clamp (by omega), hD.2.1]
  refine ⟨vm, _, l1 (TOT A m B w F) 0 _ (by omega) (fun c j q => ?_) zu_same (fun j hj => absurd hj (by omega))⟩
  rw [zu_ne (by unfold blkV at q; omega)]
