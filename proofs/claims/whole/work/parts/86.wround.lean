/-! PURE 46: the loom's weaver: growing, rounds -/
theorem bnd {A B F : Nat → Nat → Nat} {m w : Nat} (hB : W0 A m) (hw : w ≤ 24) (hF : ∀ i p, F i p ≤ 1) : (∀ p, p ≤ A 0 2 → Gp A m B w F p ≤ 200000 ∧ SPp A m B w F p ≤ 200000) ∧ ∀ k, k ≤ A 0 3 → CPp A m B w F k ≤ 200000 := by
  have hl := hB.2.2.2.2.1
  have h8 := hB.2.2.2.2.2.1
  have hA := hB.2.2.2.2.2.2.2.2.2.2
  refine ⟨fun p hp => ⟨?_, ?_⟩, fun k hk => ?_⟩
  · have := Gp_lt (B := B) (m := m) hw hF hA p hp; omega
  · have := SP_lt (B := B) (m := m) hw hF hA p; omega
  · have := CP_lt (B := B) (m := m) hw hF hA k; omega
theorem cn_ex {B : Nat → Nat → Nat} {m s p : Nat} : ∀ {w : Nat}, 0 < cnq B m s p w → ∃ q, q < w ∧ atq B m s p q
  | 0, h => absurd h (Nat.lt_irrefl _)
  | w + 1, h => by
    by_cases e : atq B m s p w
    · exact ⟨w, Nat.lt_succ_self w, e⟩
    · rw [cnq_s, if_neg e] at h
      obtain ⟨q, hq, e2⟩ := cn_ex h
      exact ⟨q, Nat.lt_succ_of_lt hq, e2⟩
theorem sd_ok {A B : Nat → Nat → Nat} {m p w : Nat} (hQ : BQ A m B w) (h : 0 < cnq B m 1 p w) : p < A 0 2 ∧ 0 < A 2 p ∧ (isSt (A 1 p) ∨ isLg (A 1 p)) := by
  obtain ⟨q, hq, e1, e2, e3⟩ := cn_ex h
  obtain ⟨-, -, -, g⟩ := hQ q hq
  obtain ⟨g1, g2, g3⟩ := g e2
  rw [e3] at g1 g2 g3
  refine ⟨g1, g2, ?_⟩
  have := g3.1 e1
  unfold sho at this
  unfold isSt isLg
  split at this <;> omega
theorem s_gc {A B F : Nat → Nat → Nat} {m w : Nat} {I : zI} {P : zP} {K : Int32 → zI → zP → Prop} (hP : PSt P) (hm : m < 6) (hB : W0 A m) (hH : ∀ k, k < A 0 3 → hok A k) (hL : LM0 A m I) (hC : LCn A m B w I) (hw : w ≤ 24) (hF : ∀ i p, F i p ≤ 1) (hI : ∀ k, k < 8 → I 18 k = nI (F 2 k)) (hG : LG A m B w F I) (k : ∀ r J, (∀ c j, c ≠ 18 → J c j = I c j) → (∀ q, q < 8 → J 18 q = nI (grw A m B w F 2 q)) → (r = 0 ∧ ∀ q, q < A 0 3 → grw A m B w F 2 q = F 2 q) ∨ (r = 1 ∧ grw A m B w F ≠ F) → K r J P) : w_X7_growCaughtPads (20 + 12 * m) I P K := by
  have hl := hB.2.2.2.2.1
  have h8 := hB.2.2.2.2.2.1
  obtain ⟨bG, bC⟩ := bnd (B := B) hB hw hF
  have lp : ∀ d i y J, i + d = A 0 3 → (∀ c j, c ≠ 18 → J c j = I c j) → (∀ q, q < 8 → J 18 q = nI (if q < i then grw A m B w F 2 q else F 2 q)) → (y = 0 ∧ ∀ q, q < i → grw A m B w F 2 q = F 2 q) ∨ (y = 1 ∧ grw A m B w F ≠ F) → l_X7_growCaughtPads_4 K (d + 1) (20 + 12 * m) y (nI i) J P := by
    intro d
    induction d with
    | zero =>
      intro i y J hi f h1 h2
      obtain rfl : i = A 0 3 := by omega
      rw [l_X7_growCaughtPads_4]
      refine ⟨shM hm, zip (by rw [f _ _ (by omega), hL.2.2.2.1]; first | omega | decide | (simp (maxSteps := 400000) (disch := omega) only [q_lit, q_neg, nI_ltI, nI_leI, nI_eq, nI_add, pk_mul, pk_sub, nI_clamp, vp_q, zu_same, zu_nc, zu_nj, ng_lt, ng_le, ng_gt, ng_ge, ng_eq, ng_qe, ng_ee, ng_add, not_false_eq_true, not_true_eq_false, ne_eq]; done) | (simp (maxSteps := 400000) (disch := omega) only [q_lit, q_neg, nI_ltI, nI_leI, nI_eq, nI_add, pk_mul, pk_sub, nI_clamp, vp_q, zu_same, zu_nc, zu_nj, ng_lt, ng_le, ng_gt, ng_ge, ng_eq, ng_qe, ng_ee, ng_add, not_false_eq_true, not_true_eq_false, ne_eq]; omega)) ⟨?_, k y J f (fun q hq => ?_) h2⟩⟩
      · rcases h2 with ⟨e, -⟩ | ⟨e, -⟩
        · rw [e]; exact zbo0
        · rw [e]; exact zbo1
      · rw [h1 q hq]
        by_cases e : q < A 0 3
        · rw [if_pos e]
        · rw [if_neg e, grw2, if_neg (fun z => e z.1)]
    | succ d ih =>
      intro i y J hi f h1 h2
      have hLJ : LM0 A m J := LM0_c hL (fun c j a b => f c j (by omega))
      have hCJ : LCn A m B w J := LCn_c hl hC (fun c j a => f c j (by omega))
      have hGJ : LG A m B w F J := LG_c hG (fun c j a => f c j (by omega))
      have c5 := cnq_le (B := B) (m := m) (s := 5) (p := A 3 (4 * i + 2)) w
      have v : vp_in (nI i) 8 := vp_in_nI (by omega) (by decide)
      obtain ⟨t1, t2⟩ := hk_t hB (hH i (by omega))
      have fi := h1 i (by omega)
      rw [if_neg (by omega)] at fi
      have same : grw A m B w F 2 i = F 2 i → l_X7_growCaughtPads_4 K (d + 1) (20 + 12 * m) y (nI (i + 1)) J P := fun e => by
        refine ih (i + 1) y J (by omega) f (fun q hq => ?_) (h2.imp (fun z => ⟨z.1, fun q hq => ?_⟩) id)
        · rw [h1 q hq]
          by_cases e2 : q = i
          · rw [e2, if_neg (by omega), if_pos (by omega), e]
          · by_cases e3 : q < i
            · rw [if_pos e3, if_pos (by omega)]
            · rw [if_neg e3, if_neg (by omega)]
        · by_cases e2 : q = i
          · rw [e2]; exact e
          · exact z.2 q (by omega)
      rw [l_X7_growCaughtPads_4, nI_1]
      refine ⟨shM hm, zin (by rw [hLJ.2.2.2.1]; first | omega | decide | (simp (maxSteps := 400000) (disch := omega) only [q_lit, q_neg, nI_ltI, nI_leI, nI_eq, nI_add, pk_mul, pk_sub, nI_clamp, vp_q, zu_same, zu_nc, zu_nj, ng_lt, ng_le, ng_gt, ng_ge, ng_eq, ng_qe, ng_ee, ng_add, not_false_eq_true, not_true_eq_false, ne_eq]; done) | (simp (maxSteps := 400000) (disch := omega) only [q_lit, q_neg, nI_ltI, nI_leI, nI_eq, nI_add, pk_mul, pk_sub, nI_clamp, vp_q, zu_same, zu_nc, zu_nj, ng_lt, ng_le, ng_gt, ng_ge, ng_eq, ng_qe, ng_ee, ng_add, not_false_eq_true, not_true_eq_false, ne_eq]; omega)) (s_ca hP hm hB hLJ hCJ (by omega) (hH i (by omega)) ⟨_, pM5 hP hm, s_hpart (w := 2) (shM5 hm) (zzM5 hm) (by decide) (by omega) ?_⟩)⟩
      rw [hLJ.2.2.2.2.2 _ (by omega)]
      refine s_ga (by omega) ?_
      rw [(hGJ.1 _ t1 t2).1]
      by_cases e : cnq B m 5 (A 3 (4 * i + 2)) w = 0
      · exact zip (by rw [e]; decide) (same (by rw [grw2, if_neg (by omega)]))
      · refine zin (by first | omega | decide | (simp (maxSteps := 400000) (disch := omega) only [q_lit, q_neg, nI_ltI, nI_leI, nI_eq, nI_add, pk_mul, pk_sub, nI_clamp, vp_q, zu_same, zu_nc, zu_nj, ng_lt, ng_le, ng_gt, ng_ge, ng_eq, ng_qe, ng_ee, ng_add, not_false_eq_true, not_true_eq_false, ne_eq]; done) | (simp (maxSteps := 400000) (disch := omega) only [q_lit, q_neg, nI_ltI, nI_leI, nI_eq, nI_add, pk_mul, pk_sub, nI_clamp, vp_q, zu_same, zu_nc, zu_nj, ng_lt, ng_le, ng_gt, ng_ge, ng_eq, ng_qe, ng_ee, ng_add, not_false_eq_true, not_true_eq_false, ne_eq]; omega)) ⟨v, ?_⟩
        rw [nI_clamp (by omega), fi, hGJ.2.2.2.1 i (by omega) (by omega), nar1]
        rcases f01 hF 2 i with z | z
        · refine zip (by rw [z]; rfl) ⟨v, ?_⟩
          rw [← nq2, pk_mul, nI_add]
          have := bC i (by omega)
          have := (bG _ (Nat.le_of_lt t1)).1
          refine s_rc (by omega) (by omega) (fun q => zip rfl ⟨v, ?_⟩) (fun q => zin (by decide) (same (by rw [grw2, if_neg (fun z => q z.2.2)])))
          have g1 : grw A m B w F 2 i = 1 := by rw [grw2, if_pos ⟨by omega, by omega, q⟩]
          refine ih (i + 1) 1 _ (by omega) (fun c j a => by rw [zu_nc a]; exact f c j a) (fun q hq => ?_) (Or.inr ⟨rfl, fun z2 => ?_⟩)
          · by_cases e2 : q = i
            · rw [e2, zu_same, if_pos (by omega), g1]; rfl
            · rw [zu_nj e2, h1 q hq]
              by_cases e3 : q < i
              · rw [if_pos e3, if_pos (by omega)]
              · rw [if_neg e3, if_neg (by omega)]
          · rw [z2] at g1; omega
        · refine zin (by rw [z]; decide) (same ?_)
          have := grw_le (A := A) (B := B) (m := m) (w := w) hF 2 i
          omega
  exact ⟨_, lp (A 0 3) 0 0 I (by omega) (fun _ _ _ => rfl) (fun q hq => by rw [hI q hq, if_neg (by omega)]) (Or.inl ⟨rfl, fun q hq => absurd hq (by omega)⟩)⟩
theorem s_gr {A B F : Nat → Nat → Nat} {m w : Nat} {I : zI} {P : zP} {K : Int32 → zI → zP → Prop} (hP : PSt P) (hm : m < 6) (hB : W0 A m) (hJ : ∀ p, p < A 0 2 → jok A p) (hH : ∀ k, k < A 0 3 → hok A k) (hL : LM0 A m I) (hQ : BQ A m B w) (hC : LCn A m B w I) (hw : w ≤ 24) (hF : ∀ i p, F i p ≤ 1) (hI : LF F I) (hG : LG A m B w F I) (k : ∀ r J, (∀ c j, ¬ (16 ≤ c ∧ c ≤ 18) → J c j = I c j) → LF (grw A m B w F) J → (r = 0 ∧ grw A m B w F = F) ∨ (r = 1 ∧ grw A m B w F ≠ F) → K r J P) : w_X7_growJumps (20 + 12 * m) I P K := by
  have hl := hB.2.2.2.2.1
  obtain ⟨bG, bC⟩ := bnd (B := B) hB hw hF
  have lp : ∀ d i y J, i + d = A 0 2 → (∀ c j, ¬ (16 ≤ c ∧ c ≤ 17) → J c j = I c j) → (∀ p, p < 400 → J 16 p = nI (if p < i then grw A m B w F 0 p else F 0 p) ∧ J 17 p = nI (if p < i then grw A m B w F 1 p else F 1 p)) → (y = 0 ∧ ∀ p, p < i → grw A m B w F 0 p = F 0 p ∧ grw A m B w F 1 p = F 1 p) ∨ (y = 1 ∧ grw A m B w F ≠ F) → l_X7_growJumps_4 K (d + 1) (20 + 12 * m) y (nI i) J P := by
    intro d
    induction d with
    | zero =>
      intro i y J hi f h1 h2
      obtain rfl : i = A 0 2 := by omega
      have hLJ : LM0 A m J := LM0_c hL (fun c j a b => f c j (by omega))
      have hCJ : LCn A m B w J := LCn_c hl hC (fun c j a => f c j (by omega))
      have hGJ : LG A m B w F J := LG_c hG (fun c j a => f c j (by omega))
      rw [l_X7_growJumps_4]
      refine ⟨shM hm, zip (by rw [hLJ.2.2.1]; first | omega | decide | (simp (maxSteps := 400000) (disch := omega) only [q_lit, q_neg, nI_ltI, nI_leI, nI_eq, nI_add, pk_mul, pk_sub, nI_clamp, vp_q, zu_same, zu_nc, zu_nj, ng_lt, ng_le, ng_gt, ng_ge, ng_eq, ng_qe, ng_ee, ng_add, not_false_eq_true, not_true_eq_false, ne_eq]; done) | (simp (maxSteps := 400000) (disch := omega) only [q_lit, q_neg, nI_ltI, nI_leI, nI_eq, nI_add, pk_mul, pk_sub, nI_clamp, vp_q, zu_same, zu_nc, zu_nj, ng_lt, ng_le, ng_gt, ng_ge, ng_eq, ng_qe, ng_ee, ng_add, not_false_eq_true, not_true_eq_false, ne_eq]; omega)) (s_gc hP hm hB hH hLJ hCJ hw hF (fun q hq => by rw [f _ _ (by omega)]; exact hI.2 q hq) hGJ (fun r J' f' g1 g2 => ?_))⟩
      have lf : LF (grw A m B w F) J' := ⟨fun p hp => by
        rw [f' _ _ (by omega), f' _ _ (by omega), (h1 p hp).1, (h1 p hp).2]
        by_cases e : p < A 0 2
        · rw [if_pos e, if_pos e]; exact ⟨rfl, rfl⟩
        · rw [if_neg e, if_neg e, grw0, if_neg (fun z => e z.1), grw1, if_neg (fun z => e z.1)]; exact ⟨rfl, rfl⟩, g1⟩
      have fr : ∀ c j, ¬ (16 ≤ c ∧ c ≤ 18) → J' c j = I c j := fun c j q => by rw [f' c j (by omega)]; exact f c j (by omega)
      rcases g2 with ⟨rfl, g2⟩ | ⟨rfl, g2⟩
      · refine zip rfl ?_
        rcases h2 with ⟨rfl, h2⟩ | ⟨rfl, h2⟩
        · exact zip rfl (k 0 J' fr lf (Or.inl ⟨rfl, grw_eq h2 g2⟩))
        · exact zin (by decide) (k 1 J' fr lf (Or.inr ⟨rfl, h2⟩))
      · exact zin (by decide) (k 1 J' fr lf (Or.inr ⟨rfl, g2⟩))
    | succ d ih =>
      intro i y J hi f h1 h2
      have v : vp_in (nI i) 400 := vp_in_nI (by omega) (by decide)
      have c1 := cnq_le (B := B) (m := m) (s := 1) (p := i) w
      have b1 := bG i (by omega)
      have p2 : ∀ y J, (∀ c j, ¬ (16 ≤ c ∧ c ≤ 17) → J c j = I c j) → (∀ p, p < 400 → J 16 p = nI (if p < i + 1 then grw A m B w F 0 p else F 0 p) ∧ J 17 p = nI (if p < i then grw A m B w F 1 p else F 1 p)) → (y = 0 ∧ (∀ p, p < i → grw A m B w F 0 p = F 0 p ∧ grw A m B w F 1 p = F 1 p) ∧ grw A m B w F 0 i = F 0 i) ∨ (y = 1 ∧ grw A m B w F ≠ F) → j_X7_growJumps_69 (l_X7_growJumps_4 K (d + 1)) K (20 + 12 * m) y (nI i) J P := by
        intro y J f h1 h2
        have hLJ : LM0 A m J := LM0_c hL (fun c j a b => f c j (by omega))
        have hGJ : LG A m B w F J := LG_c hG (fun c j a => f c j (by omega))
        have f10 : J 10 i = nI (cnq B m 1 i w) := by rw [f _ _ (by omega)]; exact (hC.2.1 i (by omega)).1
        have f17 := (h1 i (by omega)).2
        rw [if_neg (by omega)] at f17
        have same : grw A m B w F 1 i = F 1 i → l_X7_growJumps_4 K (d + 1) (20 + 12 * m) y (nI (i + 1)) J P := fun e => by
          refine ih (i + 1) y J (by omega) f (fun q hq => ⟨(h1 q hq).1, ?_⟩) (h2.imp (fun z => ⟨z.1, fun q hq => ?_⟩) id)
          · rw [(h1 q hq).2]
            by_cases e2 : q = i
            · rw [e2, if_neg (by omega), if_pos (by omega), e]
            · by_cases e3 : q < i
              · rw [if_pos e3, if_pos (by omega)]
              · rw [if_neg e3, if_neg (by omega)]
          · by_cases e2 : q = i
            · rw [e2]; exact ⟨z.2.2, e⟩
            · exact z.2.1 q (by omega)
        unfold j_X7_growJumps_69
        rw [nI_1, nI_clamp (by omega), f10, f17, nar1]
        refine ⟨v, ?_⟩
        by_cases e : cnq B m 1 i w = 0
        · exact zip (by rw [e]; decide) (same (by rw [grw1, if_neg (by omega)]))
        · refine zin (by first | omega | decide | (simp (maxSteps := 400000) (disch := omega) only [q_lit, q_neg, nI_ltI, nI_leI, nI_eq, nI_add, pk_mul, pk_sub, nI_clamp, vp_q, zu_same, zu_nc, zu_nj, ng_lt, ng_le, ng_gt, ng_ge, ng_eq, ng_qe, ng_ee, ng_add, not_false_eq_true, not_true_eq_false, ne_eq]; done) | (simp (maxSteps := 400000) (disch := omega) only [q_lit, q_neg, nI_ltI, nI_leI, nI_eq, nI_add, pk_mul, pk_sub, nI_clamp, vp_q, zu_same, zu_nc, zu_nj, ng_lt, ng_le, ng_gt, ng_ge, ng_eq, ng_qe, ng_ee, ng_add, not_false_eq_true, not_true_eq_false, ne_eq]; omega)) ⟨v, ?_⟩
          obtain ⟨s1, s2, s3⟩ := sd_ok hQ (p := i) (by omega)
          rcases f01 hF 1 i with z | z
          · obtain ⟨t1, t2, t3⟩ := tg_n hB (hJ i (by omega)) s2 (njp_1 s3)
            refine zip (by rw [z]; rfl) ⟨v, v, shM hm, _, pM1 hP hm, s_ta (i := 0) hm hLJ hB (by omega) s2 (njp_1 s3) ?_⟩
            rw [t1]
            refine s_ga (by omega) ?_
            rw [(hGJ.1 _ t2 t3).1, hGJ.2.2.1 i (by omega) (by omega), ← nq3, pk_mul, nI_add]
            have := (bG _ (Nat.le_of_lt t2)).1
            refine s_rc (by omega) (by omega) (fun q => zip rfl ⟨v, ?_⟩) (fun q => zin (by decide) (same (by rw [grw1, if_neg (fun z => q z.2.2)])))
            have g1 : grw A m B w F 1 i = 1 := by rw [grw1, if_pos ⟨by omega, by omega, q⟩]
            refine ih (i + 1) 1 _ (by omega) (fun c j a => by rw [zu_nc (by omega)]; exact f c j a) (fun q hq => ?_) (Or.inr ⟨rfl, fun z2 => ?_⟩)
            · rw [zu_nc (by omega)]
              refine ⟨(h1 q hq).1, ?_⟩
              by_cases e2 : q = i
              · rw [e2, zu_same, if_pos (by omega), g1]; rfl
              · rw [zu_nj e2, (h1 q hq).2]
                by_cases e3 : q < i
                · rw [if_pos e3, if_pos (by omega)]
                · rw [if_neg e3, if_neg (by omega)]
            · rw [z2] at g1; omega
          · refine zin (by rw [z]; decide) (same ?_)
            have := grw_le (A := A) (B := B) (m := m) (w := w) hF 1 i
            omega
      have hLJ : LM0 A m J := LM0_c hL (fun c j a b => f c j (by omega))
      have hCJ : LCn A m B w J := LCn_c hl hC (fun c j a => f c j (by omega))
      have hGJ : LG A m B w F J := LG_c hG (fun c j a => f c j (by omega))
      have f16 := (h1 i (by omega)).1
      rw [if_neg (by omega)] at f16
      have same : grw A m B w F 0 i = F 0 i → j_X7_growJumps_69 (l_X7_growJumps_4 K (d + 1)) K (20 + 12 * m) y (nI i) J P := fun e => by
        refine p2 y J f (fun q hq => ⟨?_, (h1 q hq).2⟩) (h2.imp (fun z => ⟨z.1, z.2, e⟩) id)
        rw [(h1 q hq).1]
        by_cases e2 : q = i
        · rw [e2, if_neg (by omega), if_pos (by omega), e]
        · by_cases e3 : q < i
          · rw [if_pos e3, if_pos (by omega)]
          · rw [if_neg e3, if_neg (by omega)]
      rw [l_X7_growJumps_4]
      refine ⟨shM hm, zin (by rw [hLJ.2.2.1]; first | omega | decide | (simp (maxSteps := 400000) (disch := omega) only [q_lit, q_neg, nI_ltI, nI_leI, nI_eq, nI_add, pk_mul, pk_sub, nI_clamp, vp_q, zu_same, zu_nc, zu_nj, ng_lt, ng_le, ng_gt, ng_ge, ng_eq, ng_qe, ng_ee, ng_add, not_false_eq_true, not_true_eq_false, ne_eq]; done) | (simp (maxSteps := 400000) (disch := omega) only [q_lit, q_neg, nI_ltI, nI_leI, nI_eq, nI_add, pk_mul, pk_sub, nI_clamp, vp_q, zu_same, zu_nc, zu_nj, ng_lt, ng_le, ng_gt, ng_ge, ng_eq, ng_qe, ng_ee, ng_add, not_false_eq_true, not_true_eq_false, ne_eq]; omega)) ?_⟩
      by_cases hz : 0 < A 2 i
      · refine s_bg1 hP hm hLJ hB ⟨i, by omega, rfl, hz⟩ (zin (by decide) ⟨_, pM1 hP hm, shM1 hm, by rw [zzM1 hm]; exact v, ?_⟩)
        rw [nI_clamp (by omega), (hLJ.2.2.2.2.1 i (by omega)).1]
        have a256 := hB.2.2.2.2.2.2.1 i
        by_cases g : isSt (A 1 i)
        · refine s_stT g (zin (by decide) ⟨v, ?_⟩)
          rw [f16, nar1]
          rcases f01 hF 0 i with z | z
          · refine zip (by rw [z]; rfl) ⟨v, s_ld (i := 0) hP hm hB hLJ hCJ hw hGJ (by omega) hz (hJ i (by omega)) (njp_1 (Or.inl g)) ?_⟩
            rw [(hGJ.1 i (by omega) hz).2]
            obtain ⟨t1, t2, t3⟩ := tg_n hB (hJ i (by omega)) hz (njp_1 (Or.inl g))
            have := (bG _ (Nat.le_of_lt t2)).1
            have := ahn_le (A := A) (B := B) (m := m) (p := i) hw
            have hd : dst A m B w F i 0 ≤ 200000 := by unfold dst; split <;> omega
            have hs : Sp A m B w F i ≤ 200192 := by unfold Sp; omega
            refine s_rc (by omega) (by omega) (fun q => zip rfl ⟨v, ?_⟩) (fun q => zin (by decide) (same (by rw [grw0, if_neg (fun z => q z.2.2.2)])))
            have g1 : grw A m B w F 0 i = 1 := by rw [grw0, if_pos ⟨by omega, hz, g, q⟩]
            refine p2 1 _ (fun c j a => by rw [zu_nc (by omega)]; exact f c j a) (fun q hq => ?_) (Or.inr ⟨rfl, fun z2 => ?_⟩)
            · rw [zu_nc (a := 17) (by omega)]
              refine ⟨?_, (h1 q hq).2⟩
              by_cases e2 : q = i
              · rw [e2, zu_same, if_pos (by omega), g1]; rfl
              · rw [zu_nj e2, (h1 q hq).1]
                by_cases e3 : q < i
                · rw [if_pos e3, if_pos (by omega)]
                · rw [if_neg e3, if_neg (by omega)]
            · rw [z2] at g1; omega
          · refine zin (by rw [z]; decide) (same ?_)
            have := grw_le (A := A) (B := B) (m := m) (w := w) hF 0 i
            omega
        · exact s_stF a256 g (zip rfl (same (by rw [grw0, if_neg (fun z => g z.2.2.1)])))
      · exact s_bg0 hP hm hLJ hB (fun q => hz (bg_n (by omega) hl q).2) (zip rfl (same (by rw [grw0, if_neg (fun z => hz z.2.1)])))
  exact ⟨_, lp (A 0 2) 0 0 I (by omega) (fun _ _ _ => rfl) (fun q hq => by rw [if_neg (by omega), if_neg (by omega)]; exact hI.1 q hq) (Or.inl ⟨rfl, fun q hq => absurd hq (by omega)⟩)⟩
theorem s_rd {A B : Nat → Nat → Nat} {m w : Nat} {I : zI} {P : zP} {K : Int32 → zI → zP → Prop} (hP : PSt P) (hm : m < 6) (hB : W0 A m) (hJ : ∀ p, p < A 0 2 → jok A p) (hH : ∀ k, k < A 0 3 → hok A k) (hC : CL A m B w I) (hQ : BQ A m B w) (k : ∀ n J, Fr7 I J → LCn A m B w J → LF (grI A m B w n) J → LG A m B w (grI A m B w n) J → grw A m B w (grI A m B w n) = grI A m B w n → j_X7_weaveIn_44 K (20 + 12 * m) J P) : w_X7_weaveIn (20 + 12 * m) I P K := by
  have hl := hB.2.2.2.2.1
  have h8 := hB.2.2.2.2.2.1
  have hw := hC.2.2.1
  have lp : ∀ d n J, 433 ≤ smF (grI A m B w n) + d → n ≤ smF (grI A m B w n) → Fr7 I J → LCn A m B w J → LF (grI A m B w n) J → l_X7_weaveIn_15 K (d + 2) (20 + 12 * m) 1 (nI n) J P := by
    intro d
    induction d with
    | zero =>
      intro n J h1 h2 f hc hf
      have := smF_le (FOK_I (A := A) (B := B) (m := m) (w := w) n) hw
      omega
    | succ d ih =>
      intro n J h1 h2 f hc hf
      have ok := FOK_I (A := A) (B := B) (m := m) (w := w) n
      have s1 := smF_le ok hw
      have hLJ := (CL_7 hC f).1
      rw [l_X7_weaveIn_15, nI_1]
      refine zin (by first | omega | decide | (simp (maxSteps := 400000) (disch := omega) only [q_lit, q_neg, nI_ltI, nI_leI, nI_eq, nI_add, pk_mul, pk_sub, nI_clamp, vp_q, zu_same, zu_nc, zu_nj, ng_lt, ng_le, ng_gt, ng_ge, ng_eq, ng_qe, ng_ee, ng_add, not_false_eq_true, not_true_eq_false, ne_eq]; done) | (simp (maxSteps := 400000) (disch := omega) only [q_lit, q_neg, nI_ltI, nI_leI, nI_eq, nI_add, pk_mul, pk_sub, nI_clamp, vp_q, zu_same, zu_nc, zu_nj, ng_lt, ng_le, ng_gt, ng_ge, ng_eq, ng_qe, ng_ee, ng_add, not_false_eq_true, not_true_eq_false, ne_eq]; omega)) (zin (by decide) (s_lay hP hm hB hH hLJ hc hw ok.1 hf (fun J1 f1 g1 => ?_)))
      have hL1 : LM0 A m J1 := LM0_c hLJ (fun c j a b => f1 c j (by omega) (by omega))
      have hC1 : LCn A m B w J1 := LCn_c hl hc (fun c j a => f1 c j (by omega) (by omega))
      have hF1 : LF (grI A m B w n) J1 := LF_c hf (fun c j a => f1 c j (by omega) (by omega))
      refine s_gr hP hm hB hJ hH hL1 hQ hC1 hw ok.1 hF1 g1 (fun r J2 f2 lf2 o => ?_)
      have hC2 : LCn A m B w J2 := LCn_c hl hC1 (fun c j a => f2 c j (by omega))
      have fr : Fr7 I J2 := fun c j a => by rw [f2 c j (by omega), f1 c j (by omega) (by omega)]; exact f c j a
      rcases o with ⟨rfl, e⟩ | ⟨rfl, e⟩
      · rw [e] at lf2
        rw [l_X7_weaveIn_15]
        exact zin (by first | omega | decide | (simp (maxSteps := 400000) (disch := omega) only [q_lit, q_neg, nI_ltI, nI_leI, nI_eq, nI_add, pk_mul, pk_sub, nI_clamp, vp_q, zu_same, zu_nc, zu_nj, ng_lt, ng_le, ng_gt, ng_ge, ng_eq, ng_qe, ng_ee, ng_add, not_false_eq_true, not_true_eq_false, ne_eq]; done) | (simp (maxSteps := 400000) (disch := omega) only [q_lit, q_neg, nI_ltI, nI_leI, nI_eq, nI_add, pk_mul, pk_sub, nI_clamp, vp_q, zu_same, zu_nc, zu_nj, ng_lt, ng_le, ng_gt, ng_ge, ng_eq, ng_qe, ng_ee, ng_add, not_false_eq_true, not_true_eq_false, ne_eq]; omega)) (zip rfl (k n J2 fr hC2 lf2 (LG_c g1 (fun c j a => f2 c j (by omega))) e))
      · have := smF_up hl h8 ok e
        refine ih (n + 1) J2 ?_ ?_ fr hC2 lf2
        · rw [grI]; omega
        · rw [grI]; omega
  unfold w_X7_weaveIn
  refine s_anew (fun J f a b c z1 z2 => s_cnt hP hm hB (CL_7 hC f) hQ a z1 z2 (fun J2 f2 lc => ⟨_, lp 433 0 J2 (by omega) (by omega) (fun c j q => by rw [f2 c j (by omega)]; exact f c j q) lc ⟨fun p hp => ?_, fun q hq => ?_⟩⟩))
  · rw [f2 16 p (by omega), f2 17 p (by omega)]; exact b p hp
  · rw [f2 18 q (by omega)]; exact c q hq
