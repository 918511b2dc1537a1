/-! PURE 64: RUN: jumps on both sides -/
def tgv (cb : Nat → Nat → Nat) (m p i : Nat) : Int32 := nI p + (if cb m p = 33 then sb16 (cb m (p + 2 + 2 * i)) (cb m (p + 2 + 2 * i + 1)) else if isLg (cb m p) then sb16 (cb m (p + 1)) (cb m (p + 1 + 1)) else sb8 (cb m (p + 1)))
theorem L_ta {I0 I : zI} {k lim m p i : Nat} {wv n ln : nuN} {cb : Nat → Nat → Nat} {z : nuZ} {fs : List Frm} {P : zP} {K : Int32 → zI → zP → Prop} (hm : m < 6) (h : SL I0 k lim wv fs n z I P) (hc : CdL I0 wv cb ln m) (hp : p < ln m) (ho : isSt (cb m p) ∨ isLg (cb m p) ∨ cb m p = 33) (h1 : isSt (cb m p) → p + 1 < ln m) (h2 : isLg (cb m p) → p + 2 < ln m) (h3 : cb m p = 33 → p + 3 + 2 * i < ln m) (kk : K (tgv cb m p i) I P) : w_X9_targetAt (cc wv m) (nI p) (nI i) I P K := by
  have c256 := (hc.2.2 p hp).1
  unfold w_X9_targetAt
  unfold tgv at kk
  refine L_byt hm h hc hp ?_
  by_cases e : cb m p = 33
  · rw [if_pos e] at kk
    refine zip (by rw [e]; rfl) ?_
    have e5 : nI p + 2 + 2 * nI i = nI (p + 2 + 2 * i) := by rw [show (2 : Int32) = nI 2 from rfl, pk_mul, nI_add, nI_add]
    rw [e5]
    exact L_sp hm h hc (by have := h3 e; omega) kk
  · rw [if_neg e] at kk
    refine zin (fun q => e (nI_inj (by omega) (by decide) q)) ?_
    by_cases g2 : isLg (cb m p)
    · rw [if_pos g2] at kk
      refine s_lgT g2 (zin (by decide) ?_)
      rw [nI_1]
      exact L_sp hm h hc (by have := h2 g2; omega) kk
    · rw [if_neg g2] at kk
      have g1 : isSt (cb m p) := ho.elim id (fun q => q.elim (fun y => absurd y g2) (fun y => absurd y e))
      refine s_lgF c256 g2 (zip rfl ?_)
      rw [nI_1]
      exact L_sb hm h hc (h1 g1) kk
def hld (t : Nat) (i j : Int32) : Prop := if t = 0 then i = j else if t = 1 then i ≠ j else if t = 2 then i < j else if t = 3 then j ≤ i else if t = 4 then j < i else i ≤ j
theorem i32_nle {x y : Int32} : ¬ x ≤ y ↔ y < x := by rw [Int32.le_iff_toInt_le, Int32.lt_iff_toInt_lt]; omega
theorem i32_nlt {x y : Int32} : ¬ x < y ↔ y ≤ x := by rw [Int32.le_iff_toInt_le, Int32.lt_iff_toInt_lt]; omega
theorem s_cj46 {t : Nat} {i j : Int32} {I : zI} {P : zP} {K : Int32 → zI → zP → Prop} (ht : t < 6) (k1 : hld t i j → K 1 I P) (k0 : ¬ hld t i j → K 0 I P) : j_X2_choosesJump_46 K j i (nI t) I P := by
  unfold j_X2_choosesJump_46
  unfold hld at k1 k0
  rcases (by omega : t = 0 ∨ t = 1 ∨ t = 2 ∨ t = 3 ∨ t = 4 ∨ t = 5) with rfl | rfl | rfl | rfl | rfl | rfl
  · simp only [if_true] at k1 k0
    refine zip (by decide) ?_
    by_cases e : i = j
    · exact zip e (k1 e)
    · exact zin e (k0 e)
  · refine zin (by decide) (zip (by decide) ?_)
    by_cases e : i = j
    · exact zip e (k0 (by rw [if_neg (by decide), if_pos rfl]; exact fun q => q e))
    · exact zin e (k1 (by rw [if_neg (by decide), if_pos rfl]; exact e))
  · refine zin (by decide) (zin (by decide) (zip (by decide) ?_))
    by_cases e : j ≤ i
    · exact zip e (k0 (by rw [if_neg (by decide), if_neg (by decide), if_pos rfl]; exact fun q => i32_nle.mpr q e))
    · exact zin e (k1 (by rw [if_neg (by decide), if_neg (by decide), if_pos rfl]; exact i32_nle.mp e))
  · refine zin (by decide) (zin (by decide) (zin (by decide) (zip (by decide) ?_)))
    by_cases e : i < j
    · exact zip e (k0 (by rw [if_neg (by decide), if_neg (by decide), if_neg (by decide), if_pos rfl]; exact fun q => i32_nlt.mpr q e))
    · exact zin e (k1 (by rw [if_neg (by decide), if_neg (by decide), if_neg (by decide), if_pos rfl]; exact i32_nlt.mp e))
  · refine zin (by decide) (zin (by decide) (zin (by decide) (zin (by decide) (zip (by decide) ?_))))
    by_cases e : i ≤ j
    · exact zip e (k0 (by rw [if_neg (by decide), if_neg (by decide), if_neg (by decide), if_neg (by decide), if_pos rfl]; exact fun q => i32_nle.mpr q e))
    · exact zin e (k1 (by rw [if_neg (by decide), if_neg (by decide), if_neg (by decide), if_neg (by decide), if_pos rfl]; exact i32_nle.mp e))
  · refine zin (by decide) (zin (by decide) (zin (by decide) (zin (by decide) (zin (by decide) ?_))))
    by_cases e : j < i
    · exact zip e (k0 (by rw [if_neg (by decide), if_neg (by decide), if_neg (by decide), if_neg (by decide), if_neg (by decide)]; exact fun q => i32_nlt.mpr q e))
    · exact zin e (k1 (by rw [if_neg (by decide), if_neg (by decide), if_neg (by decide), if_neg (by decide), if_neg (by decide)]; exact i32_nlt.mp e))
theorem s_holds {t : Nat} {i j : Int32} {I : zI} {P : zP} {K : Int32 → zI → zP → Prop} (ht : t < 6) (k1 : hld t i j → K 1 I P) (k0 : ¬ hld t i j → K 0 I P) : w_X10_holds (nI t) i j I P K := by
  have := s_cj46 (K := K) (I := I) (P := P) ht k1 k0
  unfold j_X2_choosesJump_46 at this
  exact this
/-- what a jump takes from the stack, and whether it jumps -/
def jmO (c : Nat) (s s' : List Va) (b : Prop) : Prop := (c = 20 ∧ s' = s ∧ b) ∨ (21 ≤ c ∧ c ≤ 26 ∧ ∃ i, s = Sum.inl i :: s' ∧ (b ↔ hld (c - 21) i 0)) ∨ (27 ≤ c ∧ c ≤ 32 ∧ ∃ j i, s = Sum.inl j :: Sum.inl i :: s' ∧ (b ↔ hld (c - 27) i j))
def sL' (k : Nat) (I J : zI) : Prop := (∀ j, 10 ≤ j → j ≠ 15 → J 114 j = I 114 j) ∧ ∀ j, j = 4 ∨ j = 5 ∨ j = 9 ∨ j = 10 → J (93 + 5 * k) j = I (93 + 5 * k) j
theorem sL_w {k : Nat} {I J : zI} (a : sL k I J) : sL' k I J := ⟨fun j q _ => a.1 j q, a.2⟩
theorem sL'_t {k : Nat} {I J H : zI} (a : sL' k I J) (b : sL' k J H) : sL' k I H := ⟨fun j q r => by rw [b.1 j q r]; exact a.1 j q r, fun j q => by rw [b.2 j q]; exact a.2 j q⟩
theorem Lo_jump {I0 I : zI} {k lim m p c t nx : Nat} {wv n ln : nuN} {cb : Nat → Nat → Nat} {z : nuZ} {s s' : List Va} {l : Nat → Va} {fs : List Frm} {P : zP} {K : Int32 → zI → zP → Prop} {b : Prop} (h : SL I0 k lim wv ((m, p, s, l) :: fs) n z I P) (hc : CdL I0 wv cb ln m) (hp : p < ln m) (ho : isSt (cb m p) ∨ isLg (cb m p)) (h1 : isSt (cb m p) → p + 1 < ln m) (h2 : isLg (cb m p) → p + 2 < ln m) (hj : jmO c s s' b) (ht : b → tgv cb m p 0 = nI t) (k1 : b → ∀ J, SL I0 k lim wv ((m, p, s', l) :: fs) n z J P → sL' k I J → J 114 15 = 1 → K (nI t) J P) (k0 : ¬ b → ∀ J, SL I0 k lim wv ((m, p, s', l) :: fs) n z J P → sL' k I J → J 114 15 = 0 → K (nI nx) J P) : w_X2_whereJumped (119 + 3 * fs.length) (nI c) (nI nx) I P K := by
  obtain ⟨e, hf, hm, -⟩ := L_pl h
  have hk := h.1.1
  unfold w_X2_whereJumped
  have n33 : cb m p ≠ 33 := by unfold isSt isLg at ho; omega
  have set15 : ∀ J : zI, SL I0 k lim wv ((m, p, s', l) :: fs) n z J P → sL k I J → ∀ x : Int32, SL I0 k lim wv ((m, p, s', l) :: fs) n z (zu J 114 15 x) P ∧ sL' k I (zu J 114 15 x) ∧ zu J 114 15 x 114 15 = x := fun J hJ g x => ⟨SL_aux hJ (fun c j a => zu_ne (by omega)), ⟨fun j q r => by rw [zu_nj r]; exact g.1 j q, fun j q => by rw [zu_nc (by omega)]; exact g.2 j q⟩, zu_same⟩
  have yes : b → ∀ J : zI, SL I0 k lim wv ((m, p, s', l) :: fs) n z J P → sL k I J → j_X2_whereJumped_82 K (119 + 3 * fs.length) (nI nx) (cc wv m) 1 J P := fun hb J hJ g => by
    obtain ⟨a1, a2, a3⟩ := set15 J hJ g 1
    unfold j_X2_whereJumped_82
    obtain ⟨e', -, -, -⟩ := L_pl a1
    rw [e']
    refine ⟨zbo1, zin (by decide) ⟨shF hf, L_ta (i := 0) hm a1 hc hp (ho.imp id Or.inl) h1 h2 (fun q => absurd q n33) ?_⟩⟩
    rw [ht hb]
    exact k1 hb _ a1 a2 a3
  have no : ¬ b → ∀ J : zI, SL I0 k lim wv ((m, p, s', l) :: fs) n z J P → sL k I J → j_X2_whereJumped_82 K (119 + 3 * fs.length) (nI nx) (cc wv m) 0 J P := fun hb J hJ g => by
    obtain ⟨a1, a2, a3⟩ := set15 J hJ g 0
    unfold j_X2_whereJumped_82
    exact ⟨zbo0, zip rfl (k0 hb _ a1 a2 a3)⟩
  refine ⟨shF hf, L_code h hc ?_⟩
  rcases hj with ⟨rfl, rfl, hb⟩ | ⟨q1, q2, i, rfl, hb⟩ | ⟨q1, q2, j, i, rfl, hb⟩
  · exact zin (by decide) (zip (by decide) (yes hb I h sL_r))
  · refine zin (by first | omega | decide | (simp (maxSteps := 400000) (disch := omega) only [q_lit, q_neg, nI_ltI, nI_leI, nI_eq, nI_add, pk_mul, pk_sub, nI_clamp, vp_q, zu_same, zu_nc, zu_nj, ng_lt, ng_le, ng_gt, ng_ge, ng_eq, ng_qe, ng_ee, ng_add, not_false_eq_true, not_true_eq_false, ne_eq]; done) | (simp (maxSteps := 400000) (disch := omega) only [q_lit, q_neg, nI_ltI, nI_leI, nI_eq, nI_add, pk_mul, pk_sub, nI_clamp, vp_q, zu_same, zu_nc, zu_nj, ng_lt, ng_le, ng_gt, ng_ge, ng_eq, ng_qe, ng_ee, ng_add, not_false_eq_true, not_true_eq_false, ne_eq]; omega)) (zin (by first | omega | decide | (simp (maxSteps := 400000) (disch := omega) only [q_lit, q_neg, nI_ltI, nI_leI, nI_eq, nI_add, pk_mul, pk_sub, nI_clamp, vp_q, zu_same, zu_nc, zu_nj, ng_lt, ng_le, ng_gt, ng_ge, ng_eq, ng_qe, ng_ee, ng_add, not_false_eq_true, not_true_eq_false, ne_eq]; done) | (simp (maxSteps := 400000) (disch := omega) only [q_lit, q_neg, nI_ltI, nI_leI, nI_eq, nI_add, pk_mul, pk_sub, nI_clamp, vp_q, zu_same, zu_nc, zu_nj, ng_lt, ng_le, ng_gt, ng_ge, ng_eq, ng_qe, ng_ee, ng_add, not_false_eq_true, not_true_eq_false, ne_eq]; omega)) ?_)
    unfold w_X2_choosesJump j_X2_choosesJump_11 j_X2_choosesJump_24
    refine zip (by first | omega | decide | (simp (maxSteps := 400000) (disch := omega) only [q_lit, q_neg, nI_ltI, nI_leI, nI_eq, nI_add, pk_mul, pk_sub, nI_clamp, vp_q, zu_same, zu_nc, zu_nj, ng_lt, ng_le, ng_gt, ng_ge, ng_eq, ng_qe, ng_ee, ng_add, not_false_eq_true, not_true_eq_false, ne_eq]; done) | (simp (maxSteps := 400000) (disch := omega) only [q_lit, q_neg, nI_ltI, nI_leI, nI_eq, nI_add, pk_mul, pk_sub, nI_clamp, vp_q, zu_same, zu_nc, zu_nj, ng_lt, ng_le, ng_gt, ng_ge, ng_eq, ng_qe, ng_ee, ng_add, not_false_eq_true, not_true_eq_false, ne_eq]; omega)) (zip rfl ⟨shF hf, L_pop h (fun J hJ g => zip rfl ?_)⟩)
    simp only [lv_i]
    rw [show (21 : Int32) = nI 21 from rfl, pk_sub (by omega)]
    exact s_cj46 (by omega) (fun y => zin (by decide) (yes (hb.mpr y) J hJ (sL_f hk g))) (fun y => zip rfl (no (fun w => y (hb.mp w)) J hJ (sL_f hk g)))
  · refine zin (by first | omega | decide | (simp (maxSteps := 400000) (disch := omega) only [q_lit, q_neg, nI_ltI, nI_leI, nI_eq, nI_add, pk_mul, pk_sub, nI_clamp, vp_q, zu_same, zu_nc, zu_nj, ng_lt, ng_le, ng_gt, ng_ge, ng_eq, ng_qe, ng_ee, ng_add, not_false_eq_true, not_true_eq_false, ne_eq]; done) | (simp (maxSteps := 400000) (disch := omega) only [q_lit, q_neg, nI_ltI, nI_leI, nI_eq, nI_add, pk_mul, pk_sub, nI_clamp, vp_q, zu_same, zu_nc, zu_nj, ng_lt, ng_le, ng_gt, ng_ge, ng_eq, ng_qe, ng_ee, ng_add, not_false_eq_true, not_true_eq_false, ne_eq]; omega)) (zin (by first | omega | decide | (simp (maxSteps := 400000) (disch := omega) only [q_lit, q_neg, nI_ltI, nI_leI, nI_eq, nI_add, pk_mul, pk_sub, nI_clamp, vp_q, zu_same, zu_nc, zu_nj, ng_lt, ng_le, ng_gt, ng_ge, ng_eq, ng_qe, ng_ee, ng_add, not_false_eq_true, not_true_eq_false, ne_eq]; done) | (simp (maxSteps := 400000) (disch := omega) only [q_lit, q_neg, nI_ltI, nI_leI, nI_eq, nI_add, pk_mul, pk_sub, nI_clamp, vp_q, zu_same, zu_nc, zu_nj, ng_lt, ng_le, ng_gt, ng_ge, ng_eq, ng_qe, ng_ee, ng_add, not_false_eq_true, not_true_eq_false, ne_eq]; omega)) ?_)
    unfold w_X2_choosesJump j_X2_choosesJump_11 j_X2_choosesJump_24
    refine zin (by first | omega | decide | (simp (maxSteps := 400000) (disch := omega) only [q_lit, q_neg, nI_ltI, nI_leI, nI_eq, nI_add, pk_mul, pk_sub, nI_clamp, vp_q, zu_same, zu_nc, zu_nj, ng_lt, ng_le, ng_gt, ng_ge, ng_eq, ng_qe, ng_ee, ng_add, not_false_eq_true, not_true_eq_false, ne_eq]; done) | (simp (maxSteps := 400000) (disch := omega) only [q_lit, q_neg, nI_ltI, nI_leI, nI_eq, nI_add, pk_mul, pk_sub, nI_clamp, vp_q, zu_same, zu_nc, zu_nj, ng_lt, ng_le, ng_gt, ng_ge, ng_eq, ng_qe, ng_ee, ng_add, not_false_eq_true, not_true_eq_false, ne_eq]; omega)) (zin (by decide) ⟨shF hf, L_pop h (fun J hJ g => ⟨shF hf, L_pop hJ (fun J2 hJ2 g2 => zin (by decide) ?_)⟩)⟩)
    simp only [lv_i]
    rw [show (27 : Int32) = nI 27 from rfl, pk_sub (by omega)]
    exact s_cj46 (by omega) (fun y => zin (by decide) (yes (hb.mpr y) J2 hJ2 (sL_t (sL_f hk g) (sL_f hk g2)))) (fun y => zip rfl (no (fun w => y (hb.mp w)) J2 hJ2 (sL_t (sL_f hk g) (sL_f hk g2))))
theorem M_jt {I0 I : zI} {k lim m p : Nat} {wv n ln : nuN} {cb : Nat → Nat → Nat} {z : nuZ} {fs : List Frm} {P : zP} {K : Int32 → zI → zP → Prop} (hm : m < 6) (h : SM I0 k lim fs n z I) (hc : CdM I0 k wv cb ln m) (hp : p < ln m) (ho : isSt (cb m p) ∨ isLg (cb m p)) (h1 : isSt (cb m p) → p + 1 < ln m) (h2 : isLg (cb m p) → p + 2 < ln m) (kk : K (tgv cb m p 0) I P) : w_X10_jumpTo (nI m) (nI p) (nI (cb m p)) I P K := by
  unfold w_X10_jumpTo
  unfold tgv at kk
  have c256 := (hc.2.2.2 p hp).1
  rw [if_neg (by unfold isSt isLg at ho; omega)] at kk
  by_cases g2 : isLg (cb m p)
  · rw [if_pos g2] at kk
    have q := h2 g2
    rw [nI_1, ← nq2, nI_add]
    exact zip (by unfold isLg at g2; first | omega | decide | (simp (maxSteps := 400000) (disch := omega) only [q_lit, q_neg, nI_ltI, nI_leI, nI_eq, nI_add, pk_mul, pk_sub, nI_clamp, vp_q, zu_same, zu_nc, zu_nj, ng_lt, ng_le, ng_gt, ng_ge, ng_eq, ng_qe, ng_ee, ng_add, not_false_eq_true, not_true_eq_false, ne_eq]; done) | (simp (maxSteps := 400000) (disch := omega) only [q_lit, q_neg, nI_ltI, nI_leI, nI_eq, nI_add, pk_mul, pk_sub, nI_clamp, vp_q, zu_same, zu_nc, zu_nj, ng_lt, ng_le, ng_gt, ng_ge, ng_eq, ng_qe, ng_ee, ng_add, not_false_eq_true, not_true_eq_false, ne_eq]; omega)) (M_oct hm h hc (by omega) (M_oct hm h hc q (s_ms16 (hc.2.2.2 _ (by omega)).1 (hc.2.2.2 _ q).1 kk)))
  · rw [if_neg g2] at kk
    have g1 := ho.resolve_right g2
    have q := h1 g1
    rw [nI_1]
    exact zin (by unfold isSt at g1; first | omega | decide | (simp (maxSteps := 400000) (disch := omega) only [q_lit, q_neg, nI_ltI, nI_leI, nI_eq, nI_add, pk_mul, pk_sub, nI_clamp, vp_q, zu_same, zu_nc, zu_nj, ng_lt, ng_le, ng_gt, ng_ge, ng_eq, ng_qe, ng_ee, ng_add, not_false_eq_true, not_true_eq_false, ne_eq]; done) | (simp (maxSteps := 400000) (disch := omega) only [q_lit, q_neg, nI_ltI, nI_leI, nI_eq, nI_add, pk_mul, pk_sub, nI_clamp, vp_q, zu_same, zu_nc, zu_nj, ng_lt, ng_le, ng_gt, ng_ge, ng_eq, ng_qe, ng_ee, ng_add, not_false_eq_true, not_true_eq_false, ne_eq]; omega)) (M_oct hm h hc q (s_ms8 (hc.2.2.2 _ q).1 kk))
theorem Mo_jump {I0 I : zI} {k lim m p c t nx : Nat} {wv n ln : nuN} {cb : Nat → Nat → Nat} {z : nuZ} {s s' : List Va} {l : Nat → Va} {fs : List Frm} {P : zP} {K : Int32 → zI → zP → Prop} {b : Prop} (h : SM I0 k lim ((m, p, s, l) :: fs) n z I) (hc : CdM I0 k wv cb ln m) (hp : p < ln m) (ho : isSt (cb m p) ∨ isLg (cb m p)) (h1 : isSt (cb m p) → p + 1 < ln m) (h2 : isLg (cb m p) → p + 2 < ln m) (hcs : c = sho (cb m p)) (hj : jmO c s s' b) (ht : b → tgv cb m p 0 = nI t ∧ t < 1000) (hnx : ¬ b → nx < 1000) (k1 : b → ∀ J, SM I0 k lim ((m, t, s', l) :: fs) n z J → sM I J → K 1 J P) (k0 : ¬ b → ∀ J, SM I0 k lim ((m, nx, s', l) :: fs) n z J → sM I J → K 0 J P) : w_X10_jump_ (nI m) (nI p) (nI (cb m p)) (nI nx) I P K := by
  obtain ⟨hf, hm, -, -⟩ := M_pl h
  have v1 : vp_in (nI fs.length) 12 := vp_in_nI hf (by decide)
  have pl : ∀ {x : Int32} (J : zI), sM J (zu J 197 fs.length x) := fun J => ⟨fun j _ => zu_nc (by omega), fun c j _ => zu_nc (by omega)⟩
  have yes : b → ∀ J : zI, SM I0 k lim ((m, p, s', l) :: fs) n z J → sM I J → j_X10_jump__77 K (nI m) (nI p) (nI (cb m p)) (nI nx) 1 J P := fun hb J hJ g => by
    obtain ⟨-, e1⟩ := M_f1 hJ
    unfold j_X10_jump__77
    refine zin (by decide) (M_jt hm hJ hc hp ho h1 h2 ?_)
    rw [(ht hb).1, e1, nI_clamp (by omega)]
    exact ⟨v1, zbo1, k1 hb _ (M_place hJ (ht hb).2) (sM_t g (pl J))⟩
  have no : ¬ b → ∀ J : zI, SM I0 k lim ((m, p, s', l) :: fs) n z J → sM I J → j_X10_jump__77 K (nI m) (nI p) (nI (cb m p)) (nI nx) 0 J P := fun hb J hJ g => by
    obtain ⟨-, e1⟩ := M_f1 hJ
    unfold j_X10_jump__77
    rw [e1, nI_clamp (by omega)]
    exact zip rfl ⟨v1, zbo0, k0 hb _ (M_place hJ (hnx hb)) (sM_t g (pl J))⟩
  have go : j_X10_jump__14 K (nI m) (nI p) (nI (cb m p)) (nI nx) (nI c) I P := by
    unfold j_X10_jump__14
    rcases hj with ⟨rfl, rfl, hb⟩ | ⟨q1, q2, i, rfl, hb⟩ | ⟨q1, q2, j, i, rfl, hb⟩
    · exact zip (by decide) (zip (by decide) (yes hb I h sM_r))
    · refine zip (by first | omega | decide | (simp (maxSteps := 400000) (disch := omega) only [q_lit, q_neg, nI_ltI, nI_leI, nI_eq, nI_add, pk_mul, pk_sub, nI_clamp, vp_q, zu_same, zu_nc, zu_nj, ng_lt, ng_le, ng_gt, ng_ge, ng_eq, ng_qe, ng_ee, ng_add, not_false_eq_true, not_true_eq_false, ne_eq]; done) | (simp (maxSteps := 400000) (disch := omega) only [q_lit, q_neg, nI_ltI, nI_leI, nI_eq, nI_add, pk_mul, pk_sub, nI_clamp, vp_q, zu_same, zu_nc, zu_nj, ng_lt, ng_le, ng_gt, ng_ge, ng_eq, ng_qe, ng_ee, ng_add, not_false_eq_true, not_true_eq_false, ne_eq]; omega)) (zin (by first | omega | decide | (simp (maxSteps := 400000) (disch := omega) only [q_lit, q_neg, nI_ltI, nI_leI, nI_eq, nI_add, pk_mul, pk_sub, nI_clamp, vp_q, zu_same, zu_nc, zu_nj, ng_lt, ng_le, ng_gt, ng_ge, ng_eq, ng_qe, ng_ee, ng_add, not_false_eq_true, not_true_eq_false, ne_eq]; done) | (simp (maxSteps := 400000) (disch := omega) only [q_lit, q_neg, nI_ltI, nI_leI, nI_eq, nI_add, pk_mul, pk_sub, nI_clamp, vp_q, zu_same, zu_nc, zu_nj, ng_lt, ng_le, ng_gt, ng_ge, ng_eq, ng_qe, ng_ee, ng_add, not_false_eq_true, not_true_eq_false, ne_eq]; omega)) (M_take h (fun J hJ g => ?_)))
      simp only [mv_i]
      rw [show (21 : Int32) = nI 21 from rfl, pk_sub (by omega)]
      exact s_holds (by omega) (fun y => yes (hb.mpr y) J hJ (sM_f g)) (fun y => no (fun w => y (hb.mp w)) J hJ (sM_f g))
    · refine zin (by first | omega | decide | (simp (maxSteps := 400000) (disch := omega) only [q_lit, q_neg, nI_ltI, nI_leI, nI_eq, nI_add, pk_mul, pk_sub, nI_clamp, vp_q, zu_same, zu_nc, zu_nj, ng_lt, ng_le, ng_gt, ng_ge, ng_eq, ng_qe, ng_ee, ng_add, not_false_eq_true, not_true_eq_false, ne_eq]; done) | (simp (maxSteps := 400000) (disch := omega) only [q_lit, q_neg, nI_ltI, nI_leI, nI_eq, nI_add, pk_mul, pk_sub, nI_clamp, vp_q, zu_same, zu_nc, zu_nj, ng_lt, ng_le, ng_gt, ng_ge, ng_eq, ng_qe, ng_ee, ng_add, not_false_eq_true, not_true_eq_false, ne_eq]; omega)) (M_take h (fun J hJ g => M_take hJ (fun J2 hJ2 g2 => ?_)))
      simp only [mv_i]
      rw [show (27 : Int32) = nI 27 from rfl, pk_sub (by omega)]
      exact s_holds (by omega) (fun y => yes (hb.mpr y) J2 hJ2 (sM_t (sM_f g) (sM_f g2))) (fun y => no (fun w => y (hb.mp w)) J2 hJ2 (sM_t (sM_f g) (sM_f g2)))
  unfold w_X10_jump_
  by_cases gl : isLg (cb m p)
  · have e : c = cb m p - 64 := by rw [hcs]; unfold sho isLg at *; split <;> omega
    refine zin (by unfold isLg at gl; first | omega | decide | (simp (maxSteps := 400000) (disch := omega) only [q_lit, q_neg, nI_ltI, nI_leI, nI_eq, nI_add, pk_mul, pk_sub, nI_clamp, vp_q, zu_same, zu_nc, zu_nj, ng_lt, ng_le, ng_gt, ng_ge, ng_eq, ng_qe, ng_ee, ng_add, not_false_eq_true, not_true_eq_false, ne_eq]; done) | (simp (maxSteps := 400000) (disch := omega) only [q_lit, q_neg, nI_ltI, nI_leI, nI_eq, nI_add, pk_mul, pk_sub, nI_clamp, vp_q, zu_same, zu_nc, zu_nj, ng_lt, ng_le, ng_gt, ng_ge, ng_eq, ng_qe, ng_ee, ng_add, not_false_eq_true, not_true_eq_false, ne_eq]; omega)) ?_
    rw [show (64 : Int32) = nI 64 from rfl, pk_sub (by unfold isLg at gl; omega), ← e]
    exact go
  · have e : c = cb m p := by rw [hcs]; unfold sho isLg at *; split <;> omega
    have gs := ho.resolve_right gl
    refine zip (by unfold isSt at gs; first | omega | decide | (simp (maxSteps := 400000) (disch := omega) only [q_lit, q_neg, nI_ltI, nI_leI, nI_eq, nI_add, pk_mul, pk_sub, nI_clamp, vp_q, zu_same, zu_nc, zu_nj, ng_lt, ng_le, ng_gt, ng_ge, ng_eq, ng_qe, ng_ee, ng_add, not_false_eq_true, not_true_eq_false, ne_eq]; done) | (simp (maxSteps := 400000) (disch := omega) only [q_lit, q_neg, nI_ltI, nI_leI, nI_eq, nI_add, pk_mul, pk_sub, nI_clamp, vp_q, zu_same, zu_nc, zu_nj, ng_lt, ng_le, ng_gt, ng_ge, ng_eq, ng_qe, ng_ee, ng_add, not_false_eq_true, not_true_eq_false, ne_eq]; omega)) ?_
    rw [← e] at go ⊢
    exact go
