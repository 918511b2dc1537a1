/-! PURE 78: RUN: all that is ahead of an INSTRUCTION, on both sides -/
theorem kcM_q {kc : Kc} {n : nuN} {q : Nat} {I J : zI} (h : kcM kc n q I) (g6 : J 206 q = I 206 q) (g7 : J 207 q = I 207 q) : kcM kc n q J := by
  match kc, h with
  | Sum.inl b, h => exact ⟨h.1, by rw [g6]; exact h.2.1, by rw [g7]; exact h.2.2⟩
  | Sum.inr (r, i), h => exact ⟨h.1, h.2.1, by rw [g6]; exact h.2.2.1, by rw [g7]; exact h.2.2.2⟩
def lvN (B : Nat → Nat → Nat) (m op : Nat) (n : nuN) (w : Nat) : nuN := if op = 42 then tlN B m 3 0 n w else n
def lvZ (B : Nat → Nat → Nat) (m op : Nat) (x : Int32) (n : nuN) (z : nuZ) (w : Nat) : nuZ := if op = 42 then tlZ B m 3 0 x n z w else z
theorem tlZ_c {B : Nat → Nat → Nat} {m sx px : Nat} {x : Int32} {n : nuN} {z : nuZ} : ∀ q c j, c < 3 → tlZ B m sx px x n z q c j = z c j
  | 0, c, j, _ => rfl
  | q + 1, c, j, h => by
    rw [tlZ]
    by_cases e : atq B m sx px q
    · rw [if_pos e]
      unfold rcZ
      rw [zu_nc (by omega), zu_nc (by omega)]; exact tlZ_c q c j h
    · rw [if_neg e]; exact tlZ_c q c j h
theorem tl_n {B : Nat → Nat → Nat} {m sx px : Nat} {x : Int32} {n : nuN} {z : nuZ} : ∀ {w : Nat}, (∀ q, q < w → ¬ atq B m sx px q) → tlN B m sx px n w = n ∧ tlZ B m sx px x n z w = z
  | 0, _ => ⟨rfl, rfl⟩
  | q + 1, h => by
    rw [tlN, tlZ, if_neg (h q (by omega)), if_neg (h q (by omega))]
    exact tl_n (fun i hi => h i (by omega))
theorem ap_n {B : Nat → Nat → Nat} {m p : Nat} {t : Ast} : ∀ {w : Nat}, (∀ q, q < w → ¬ (atq B m 0 p q ∨ atq B m 6 p q)) → apT B m p t w = t
  | 0, _ => rfl
  | q + 1, h => by
    rw [apT, if_neg (fun y => h q (by omega) (Or.inl y)), if_neg (fun y => h q (by omega) (Or.inr y))]
    exact ap_n (fun i hi => h i (by omega))
theorem lv_4 {B : Nat → Nat → Nat} {m op : Nat} {x : Int32} {n : nuN} {z : nuZ} (q : Nat) : n 4 ≤ lvN B m op n q 4 ∧ lvN B m op n q 4 ≤ n 4 + q ∧ (∀ i, i ≠ 4 → lvN B m op n q i = n i) ∧ ∀ c j, c < 3 → lvZ B m op x n z q c j = z c j := by
  unfold lvN lvZ
  by_cases e : op = 42
  · rw [if_pos e, if_pos e]
    obtain ⟨a, b, c⟩ := tlN_4 (B := B) (m := m) (sx := 3) (px := 0) (n := n) q
    exact ⟨a, b, c, tlZ_c q⟩
  · rw [if_neg e, if_neg e]
    exact ⟨Nat.le_refl _, by omega, fun _ _ => rfl, fun _ _ _ => rfl⟩
theorem L_93 {I0 I : zI} {k lim m p kp op b : Nat} {wv n wt : nuN} {B : Nat → Nat → Nat} {z : nuZ} {s : List Va} {l : Nat → Va} {fs : List Frm} {P : zP} {K : zI → zP → Prop} (h : SL I0 k lim wv ((m, p, s, l) :: fs) n z I P) (h10 : I 114 10 = 0) (hn0 : I0 (20 + 12 * m) 0 = nI m) (hw : WtL I0 k wt m) (hp : PrL I0 B kp) (hle : wt m ≤ kp) (hop : op < 256) (h42 : op = 42 → ∃ x r, s = Sum.inl x :: r) (h39 : op = 35 ∨ op = 39 → stf op b s n ∧ I 114 16 = nI p ∧ p < 400 ∧ (op = 35 → p + 1 < 400) ∧ I0 (21 + 12 * m) p = nI op ∧ (op = 35 → I0 (21 + 12 * m) (p + 1) = nI b)) (hr : n 4 + 24 < 2 ^ 30) (kk : ∀ J, SL I0 k lim wv ((m, p, s, l) :: fs) (lvN B m op n (wt m)) (lvZ B m op (lv (s.headD (Sum.inl 0))) n z (wt m)) J P → sK k I J → (∀ kc, stc op b s n kc → kcL kc n J ∧ J 114 14 = kcv kc z) → K J P) : j_X2_passAhead_93 K (119 + 3 * fs.length) (nI op) I P := by
  obtain ⟨e, hf, hm, -⟩ := L_pl h
  unfold lvN lvZ at kk
  unfold j_X2_passAhead_93
  refine zip h10 ?_
  by_cases e42 : op = 42
  · obtain ⟨x, r, es⟩ := h42 e42
    rw [if_pos e42, if_pos e42] at kk
    subst e42
    subst es
    refine zip rfl ⟨shF hf, L_peek (i := 0) h (v := Sum.inl x) rfl (L_tall (sx := 3) (px := 0) h hn0 hw hp hle (by decide) (by decide) hr (fun J hJ g => kk J hJ (sK_w g) (fun kc hkc => ?_)))⟩
    rcases hkc with ⟨e, -⟩ | ⟨e, -⟩ <;> omega
  · rw [if_neg e42, if_neg e42] at kk
    refine zin (by first | omega | decide | (simp (maxSteps := 400000) (disch := omega) only [q_lit, q_neg, nI_ltI, nI_leI, nI_eq, nI_add, pk_mul, pk_sub, nI_clamp, vp_q, zu_same, zu_nc, zu_nj, ng_lt, ng_le, ng_gt, ng_ge, ng_eq, ng_qe, ng_ee, ng_add, not_false_eq_true, not_true_eq_false, ne_eq]; done) | (simp (maxSteps := 400000) (disch := omega) only [q_lit, q_neg, nI_ltI, nI_leI, nI_eq, nI_add, pk_mul, pk_sub, nI_clamp, vp_q, zu_same, zu_nc, zu_nj, ng_lt, ng_le, ng_gt, ng_ge, ng_eq, ng_qe, ng_ee, ng_add, not_false_eq_true, not_true_eq_false, ne_eq]; omega)) ?_
    by_cases e3 : op = 35 ∨ op = 39
    · obtain ⟨a1, a2, a3, a4, a5, a6⟩ := h39 e3
      have kp : j_X2_passAhead_134 K (119 + 3 * fs.length) I P := by
        unfold j_X2_passAhead_134
        exact L_keep h a2 a3 a4 a5 a6 a1 (fun J hJ g hk => kk J hJ g hk)
      rcases e3 with e3 | e3
      · exact zip (by rw [e3]; rfl) kp
      · exact zin (by first | omega | decide | (simp (maxSteps := 400000) (disch := omega) only [q_lit, q_neg, nI_ltI, nI_leI, nI_eq, nI_add, pk_mul, pk_sub, nI_clamp, vp_q, zu_same, zu_nc, zu_nj, ng_lt, ng_le, ng_gt, ng_ge, ng_eq, ng_qe, ng_ee, ng_add, not_false_eq_true, not_true_eq_false, ne_eq]; done) | (simp (maxSteps := 400000) (disch := omega) only [q_lit, q_neg, nI_ltI, nI_leI, nI_eq, nI_add, pk_mul, pk_sub, nI_clamp, vp_q, zu_same, zu_nc, zu_nj, ng_lt, ng_le, ng_gt, ng_ge, ng_eq, ng_qe, ng_ee, ng_add, not_false_eq_true, not_true_eq_false, ne_eq]; omega)) (zip (by rw [e3]; rfl) kp)
    · refine zin (by first | omega | decide | (simp (maxSteps := 400000) (disch := omega) only [q_lit, q_neg, nI_ltI, nI_leI, nI_eq, nI_add, pk_mul, pk_sub, nI_clamp, vp_q, zu_same, zu_nc, zu_nj, ng_lt, ng_le, ng_gt, ng_ge, ng_eq, ng_qe, ng_ee, ng_add, not_false_eq_true, not_true_eq_false, ne_eq]; done) | (simp (maxSteps := 400000) (disch := omega) only [q_lit, q_neg, nI_ltI, nI_leI, nI_eq, nI_add, pk_mul, pk_sub, nI_clamp, vp_q, zu_same, zu_nc, zu_nj, ng_lt, ng_le, ng_gt, ng_ge, ng_eq, ng_qe, ng_ee, ng_add, not_false_eq_true, not_true_eq_false, ne_eq]; omega)) (zin (by first | omega | decide | (simp (maxSteps := 400000) (disch := omega) only [q_lit, q_neg, nI_ltI, nI_leI, nI_eq, nI_add, pk_mul, pk_sub, nI_clamp, vp_q, zu_same, zu_nc, zu_nj, ng_lt, ng_le, ng_gt, ng_ge, ng_eq, ng_qe, ng_ee, ng_add, not_false_eq_true, not_true_eq_false, ne_eq]; done) | (simp (maxSteps := 400000) (disch := omega) only [q_lit, q_neg, nI_ltI, nI_leI, nI_eq, nI_add, pk_mul, pk_sub, nI_clamp, vp_q, zu_same, zu_nc, zu_nj, ng_lt, ng_le, ng_gt, ng_ge, ng_eq, ng_qe, ng_ee, ng_add, not_false_eq_true, not_true_eq_false, ne_eq]; omega)) (kk I h ⟨fun _ _ _ _ => rfl, fun _ _ => rfl⟩ (fun kc hkc => ?_)))
      rcases hkc with ⟨e, -⟩ | ⟨e, -⟩ <;> omega
theorem M_98 {I0 I : zI} {k lim m p kp op b : Nat} {n wt : nuN} {B : Nat → Nat → Nat} {z : nuZ} {s : List Va} {l : Nat → Va} {fs : List Frm} {P : zP} {K : Int32 → zI → zP → Prop} (h : SM I0 k lim ((m, p, s, l) :: fs) n z I) (hw : wt m ≤ 24) (hp : PrM I0 B kp) (hle : wt m ≤ kp) (hop : op < 256) (h42 : op = 42 → ∃ x r, s = Sum.inl x :: r) (h4 : ∀ q, q < wt m → atq B m 4 p q → (op = 35 ∨ op = 39) ∧ stf op b s n ∧ p + 1 < 400 ∧ (op = 35 → I0 160 (400 * m + p + 1) = nI b)) (hr : n 4 + 25 < 2 ^ 30) (kk : ∀ J, SM I0 k lim ((m, p, s, l) :: fs) (lvN B m op n (wt m)) (lvZ B m op (lv (s.headD (Sum.inl 0))) n z (wt m)) J → sV I J → (∀ q, q < wt m → atq B m 4 p q → ∀ kc, stc op b s n kc → kcM kc n q J ∧ J 205 q = kcv kc z) → K 0 J P) : ∃ n9, l_X10_ahead_98 K n9 (nI m) (nI p) (nI op) (nI (wt m)) 0 I P := by
  obtain ⟨hf, hm, hp4, -⟩ := M_pl h
  have lp : ∀ d q J, q + d = wt m → SM I0 k lim ((m, p, s, l) :: fs) (lvN B m op n q) (lvZ B m op (lv (s.headD (Sum.inl 0))) n z q) J → sV I J → (∀ i, i < q → atq B m 4 p i → ∀ kc, stc op b s n kc → kcM kc n i J ∧ J 205 i = kcv kc z) → l_X10_ahead_98 K (d + 1) (nI m) (nI p) (nI op) (nI (wt m)) (nI q) J P := by
    intro d
    induction d with
    | zero =>
      intro q J hq hJ g hk
      obtain rfl : q = wt m := by omega
      rw [l_X10_ahead_98]
      exact zip (by first | omega | decide | (simp (maxSteps := 400000) (disch := omega) only [q_lit, q_neg, nI_ltI, nI_leI, nI_eq, nI_add, pk_mul, pk_sub, nI_clamp, vp_q, zu_same, zu_nc, zu_nj, ng_lt, ng_le, ng_gt, ng_ge, ng_eq, ng_qe, ng_ee, ng_add, not_false_eq_true, not_true_eq_false, ne_eq]; done) | (simp (maxSteps := 400000) (disch := omega) only [q_lit, q_neg, nI_ltI, nI_leI, nI_eq, nI_add, pk_mul, pk_sub, nI_clamp, vp_q, zu_same, zu_nc, zu_nj, ng_lt, ng_le, ng_gt, ng_ge, ng_eq, ng_qe, ng_ee, ng_add, not_false_eq_true, not_true_eq_false, ne_eq]; omega)) (kk J hJ g hk)
    | succ d ih =>
      intro q J hq hJ g hk
      obtain ⟨l1, l2, l3, l4⟩ := lv_4 (B := B) (m := m) (op := op) (x := lv (s.headD (Sum.inl 0))) (n := n) (z := z) q
      have q24 : q < 24 := by omega
      have st4 : ∀ J2, SM I0 k lim ((m, p, s, l) :: fs) (lvN B m op n (q + 1)) (lvZ B m op (lv (s.headD (Sum.inl 0))) n z (q + 1)) J2 → sM J J2 → j_X10_ahead_136 (l_X10_ahead_98 K (d + 1)) K (nI m) (nI p) (nI op) (nI (wt m)) (nI q) J2 P := fun J2 hJ2 g2 => by
        have hk2 : ∀ i, i < q → atq B m 4 p i → ∀ kc, stc op b s n kc → kcM kc n i J2 ∧ J2 205 i = kcv kc z := fun i hi ai kc hc => ⟨kcM_q (hk i hi ai kc hc).1 (g2.2 _ _ (by omega)) (g2.2 _ _ (by omega)), (g2.2 _ _ (by omega)).trans (hk i hi ai kc hc).2⟩
        unfold j_X10_ahead_136
        rw [nI_1]
        refine M_sd (s := 4) (PrM_q hJ2 hp) hp.2 (by omega) (by omega) (by omega) (by decide) (by omega) (by omega) (fun y => zin (by decide) ?_) (fun y => zip rfl (ih (q + 1) J2 (by omega) hJ2 (sV_t g (sV_w g2)) (fun i hi ai => ?_)))
        · obtain ⟨a0, a1, a2, a3⟩ := h4 q (by omega) y
          have n42 : ¬ op = 42 := by omega
          have e0 : lvN B m op n (q + 1) = n := by unfold lvN; rw [if_neg n42]
          have e1 : lvZ B m op (lv (s.headD (Sum.inl 0))) n z (q + 1) = z := by unfold lvZ; rw [if_neg n42]
          rw [e400, nI_1, nI_clamp (by omega)]
          refine ⟨vp_in_nI (by omega) (by decide), ?_⟩
          rw [M_s0 hJ2 (c := 160) (by unfold rcM; omega)]
          have hJ3 := hJ2
          rw [e0, e1] at hJ3
          refine M_old (b := b) q24 hop hJ3 (fun e => a3 e) a1 (fun J4 hJ4 g4 o4 k4 => ih (q + 1) J4 (by omega) (by rw [e0, e1]; exact hJ4) (sV_t (sV_t g (sV_w g2)) g4) (fun i hi ai kc hc => ?_))
          by_cases ei : i = q
          · subst ei
            exact k4 kc hc
          · have kq := hk2 i (by omega) ai kc hc
            exact ⟨kcM_q kq.1 (o4 _ _ (by omega) ei) (o4 _ _ (by omega) ei), (o4 _ _ (by omega) ei).trans kq.2⟩
        · by_cases ei : i = q
          · subst ei
            exact absurd ai y
          · exact hk2 i (by omega) ai
      rw [l_X10_ahead_98]
      refine zin (by first | omega | decide | (simp (maxSteps := 400000) (disch := omega) only [q_lit, q_neg, nI_ltI, nI_leI, nI_eq, nI_add, pk_mul, pk_sub, nI_clamp, vp_q, zu_same, zu_nc, zu_nj, ng_lt, ng_le, ng_gt, ng_ge, ng_eq, ng_qe, ng_ee, ng_add, not_false_eq_true, not_true_eq_false, ne_eq]; done) | (simp (maxSteps := 400000) (disch := omega) only [q_lit, q_neg, nI_ltI, nI_leI, nI_eq, nI_add, pk_mul, pk_sub, nI_clamp, vp_q, zu_same, zu_nc, zu_nj, ng_lt, ng_le, ng_gt, ng_ge, ng_eq, ng_qe, ng_ee, ng_add, not_false_eq_true, not_true_eq_false, ne_eq]; omega)) ?_
      by_cases e42 : op = 42
      · obtain ⟨x, r, es⟩ := h42 e42
        refine zip (by rw [e42]; rfl) (M_sd (s := 3) (p := 0) (PrM_q hJ hp) hp.2 (by omega) (by omega) (by omega) (by decide) (by omega) (by decide) (fun y => zin (by decide) ?_) (fun y => zip rfl (st4 J ?_ sM_r)))
        · refine M_top (i := 0) hJ (v := Sum.inl x) (by rw [es]; rfl) (M_rcs (q := q) hJ (by omega) (fun J2 hJ2 g2 => st4 J2 ?_ g2))
          have ex : lv (s.headD (Sum.inl 0)) = mv (Sum.inl x) := by rw [es]; rfl
          have eN : lvN B m op n (q + 1) = rcN (lvN B m op n q) := by unfold lvN; rw [if_pos e42, if_pos e42, tlN, if_pos y]
          have eZ : lvZ B m op (lv (s.headD (Sum.inl 0))) n z (q + 1) = rcZ (lvN B m op n q) (lvZ B m op (lv (s.headD (Sum.inl 0))) n z q) q (mv (Sum.inl x)) := by unfold lvZ lvN; rw [if_pos e42, if_pos e42, if_pos e42, tlZ, if_pos y, ex]
          rw [eN, eZ]; exact hJ2
        · have eN : lvN B m op n (q + 1) = lvN B m op n q := by unfold lvN; rw [if_pos e42, if_pos e42, tlN, if_neg y]
          have eZ : lvZ B m op (lv (s.headD (Sum.inl 0))) n z (q + 1) = lvZ B m op (lv (s.headD (Sum.inl 0))) n z q := by unfold lvZ; rw [if_pos e42, if_pos e42, tlZ, if_neg y]
          rw [eN, eZ]; exact hJ
      · refine zin (by first | omega | decide | (simp (maxSteps := 400000) (disch := omega) only [q_lit, q_neg, nI_ltI, nI_leI, nI_eq, nI_add, pk_mul, pk_sub, nI_clamp, vp_q, zu_same, zu_nc, zu_nj, ng_lt, ng_le, ng_gt, ng_ge, ng_eq, ng_qe, ng_ee, ng_add, not_false_eq_true, not_true_eq_false, ne_eq]; done) | (simp (maxSteps := 400000) (disch := omega) only [q_lit, q_neg, nI_ltI, nI_leI, nI_eq, nI_add, pk_mul, pk_sub, nI_clamp, vp_q, zu_same, zu_nc, zu_nj, ng_lt, ng_le, ng_gt, ng_ge, ng_eq, ng_qe, ng_ee, ng_add, not_false_eq_true, not_true_eq_false, ne_eq]; omega)) (st4 J ?_ sM_r)
        have eN : lvN B m op n (q + 1) = lvN B m op n q := by unfold lvN; rw [if_neg e42, if_neg e42]
        have eZ : lvZ B m op (lv (s.headD (Sum.inl 0))) n z (q + 1) = lvZ B m op (lv (s.headD (Sum.inl 0))) n z q := by unfold lvZ; rw [if_neg e42, if_neg e42]
        rw [eN, eZ]; exact hJ
  have e0 : lvN B m op n 0 = n := by unfold lvN; by_cases e : op = 42 <;> simp [e, tlN]
  have e1 : lvZ B m op (lv (s.headD (Sum.inl 0))) n z 0 = z := by unfold lvZ; by_cases e : op = 42 <;> simp [e, tlZ]
  exact ⟨_, lp (wt m) 0 I (by omega) (by rw [e0, e1]; exact h) (fun _ _ => rfl) (fun i hi => absurd hi (by omega))⟩
