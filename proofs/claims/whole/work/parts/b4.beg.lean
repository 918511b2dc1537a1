/-! PURE 100: RUN: how it begins, on both sides -/
def n00 : nuN := fun _ => 0
def z00z : nuZ := fun _ _ => 0
def lc2 (a b : Int32) : Nat → Va := upl (upl (fun _ => Sum.inl 0) 0 (Sum.inl a)) 1 (Sum.inl b)
theorem sh118 : SHy[118]? = some (11, zlen 118) := by decide +kernel
theorem zz118 : zlen 118 = 24 := by decide +kernel
theorem upl_id {l : Nat → Va} {i : Nat} {v : Va} (h : l i = v) : upl l i v = l := by
  funext j
  unfold upl
  split
  · rename_i e; rw [e]; exact h.symm
  · rfl
section
variable {I : zI} {P : zP} {k lim m : Nat} {wv : nuN}
/-- the loom's side, up to the first FRAME -/
theorem L_bg {x4 x5 : Int32} {K : zI → zP → Prop} (hk : k < 3) (hl : lim ≤ 3000) (hP : PSt P) (hm : m < 6)
    (kk : ∀ J R, (∀ wv : nuN, SL J k lim wv [] n00 z00z J R) → (∀ c j, ¬ (c = 114 ∧ 7 ≤ j) → ¬ (93 + 5 * k ≤ c ∧ c ≤ 97 + 5 * k) → ¬ (116 ≤ c ∧ c ≤ 118) → J c j = I c j) → J 114 10 = 0 → (J (93 + 5 * k) 4 = -1 ∧ J (93 + 5 * k) 5 = 0 ∧ J (93 + 5 * k) 9 = -1 ∧ J (93 + 5 * k) 10 = -1) →
      w_X2_openFrame (20 + 12 * m) J R (fun v7 I7 P7 => SHy[20 + 12 * m]? = some (3, 11) ∧ (if (I7 (20 + 12 * m) 7) ≤ 0 then (j_X2_perform_75 K (20 + 12 * m) x5 v7 0 0 v7 I7 P7) else (j_X2_perform_75 K (20 + 12 * m) x5 v7 x4 0 v7 I7 P7)))) : w_X2_perform (93 + 5 * k) (nI k) (20 + 12 * m) x4 x5 (nI lim) I P K := by
  unfold w_X2_perform w_X6_startAnew
  have hP' : PSt (zu P 114 6 (some (93 + 5 * k))) := pst_put (o := 114) (k := 6) (t := 2) (n := 17) hP (by decide +kernel) (by decide +kernel)
  refine ⟨_, zu_same, shT hk, shT hk, _, pT0 hP' hk, s_fill (shT0 hk) (zzT0 hk) (by decide) ?_⟩
  have f1 : ∀ c j, c ≠ 94 + 5 * k → flI I (94 + 5 * k) 8 0 c j = I c j := fun c j a => flI_out a
  generalize flI I (94 + 5 * k) 8 0 = Z at f1 ⊢
  refine s_fr (a := 0) (b := 8) (by omega) (by omega) (fun J1 g1 g2 => s_fill sh118 zz118 (by decide) ?_)
  have o : ∀ c j, c ≠ 118 → flI J1 118 24 0 c j = J1 c j := fun c j a => flI_out a
  have i8 : ∀ j, j < 24 → flI J1 118 24 0 118 j = 0 := fun j hj => flI_in hj
  generalize flI J1 118 24 0 = J at o i8 ⊢
  refine kk J _ (fun wv => ⟨⟨hk, hl, hP', zu_same, fun _ _ _ => rfl, ?_, ?_⟩, Nat.zero_le _, ?_, trivial, ⟨Nat.zero_le _, fun f hf => ?_, fun r hr => absurd hr (Nat.not_lt_zero _), fun q hq => ?_⟩, ?_⟩) (fun c j a b d => ?_) ?_ ⟨?_, ?_, ?_, ?_⟩
  · rw [o _ _ (by omega), g1 _ _ (by omega), zu_nj (by omega), zu_nj (by omega), zu_nj (by omega), zu_same]
  · rw [o _ _ (by omega), g1 _ _ (by omega), zu_nj (by omega), zu_nj (by omega), zu_same]
  · rw [o _ _ (by omega), g1 _ _ (by omega), zu_nj (by omega), zu_same]; rfl
  · rw [o _ _ (by omega)]; exact g2 f (Nat.zero_le _) hf
  · rw [i8 q hq]; rfl
  · refine ⟨Nat.zero_le _, by decide, Nat.zero_le _, Nat.zero_le _, ?_, ?_, ?_, ?_, ?_, fun i hi => absurd hi (Nat.not_lt_zero _), fun i hi => absurd hi (Nat.not_lt_zero _)⟩
    · rw [o _ _ (by omega), g1 _ _ (by omega), zu_nc (by omega), zu_nc (by omega), zu_nc (by omega), zu_nc (by omega), zu_nj (by omega), zu_nj (by omega), zu_nj (by omega), zu_nj (by omega), zu_nj (by omega), zu_nj (by omega), zu_same]; rfl
    · rw [o _ _ (by omega), g1 _ _ (by omega), zu_nc (by omega), zu_nc (by omega), zu_nc (by omega), zu_nc (by omega), zu_nj (by omega), zu_nj (by omega), zu_nj (by omega), zu_nj (by omega), zu_nj (by omega), zu_same]; rfl
    · rw [o _ _ (by omega), g1 _ _ (by omega), zu_nc (by omega), zu_nc (by omega), zu_nc (by omega), zu_nc (by omega), zu_nj (by omega), zu_nj (by omega), zu_nj (by omega), zu_nj (by omega), zu_same]; rfl
    · rw [o _ _ (by omega), g1 _ _ (by omega), zu_nc (by omega), zu_nc (by omega), zu_nc (by omega), zu_nc (by omega), zu_nj (by omega), zu_same]; rfl
    · rw [o _ _ (by omega), g1 _ _ (by omega), zu_nc (by omega), zu_nc (by omega), zu_nc (by omega), zu_nc (by omega), zu_same]; rfl
  · rw [o _ _ (by omega), g1 _ _ (by omega), zu_ne (by omega), zu_ne (by omega), zu_ne (by omega), zu_ne (by omega), zu_nc (by omega), zu_nc (by omega), zu_nc (by omega), zu_nc (by omega), zu_nc (by omega), zu_nc (by omega), zu_nc (by omega), zu_nc (by omega), zu_nc (by omega)]
    exact f1 c j (by omega)
  · rw [o _ _ (by omega), g1 _ _ (by omega), zu_same]
  · rw [o _ _ (by omega), g1 _ _ (by omega), zu_nc (by omega), zu_nc (by omega), zu_nc (by omega), zu_nc (by omega), zu_nj (by omega), zu_nj (by omega), zu_nj (by omega), zu_nj (by omega), zu_nj (by omega), zu_nj (by omega), zu_nj (by omega), zu_nj (by omega), zu_same]
  · rw [o _ _ (by omega), g1 _ _ (by omega), zu_nc (by omega), zu_nc (by omega), zu_nc (by omega), zu_nc (by omega), zu_nj (by omega), zu_nj (by omega), zu_nj (by omega), zu_nj (by omega), zu_nj (by omega), zu_nj (by omega), zu_nj (by omega), zu_same]
  · rw [o _ _ (by omega), g1 _ _ (by omega), zu_nc (by omega), zu_nc (by omega), zu_nc (by omega), zu_nc (by omega), zu_nj (by omega), zu_nj (by omega), zu_nj (by omega), zu_same]
  · rw [o _ _ (by omega), g1 _ _ (by omega), zu_nc (by omega), zu_nc (by omega), zu_nc (by omega), zu_nc (by omega), zu_nj (by omega), zu_nj (by omega), zu_same]
theorem L_b2 {I0 : zI} {n : nuN} {z : nuZ} {a0 a kp : Nat} {x4 x5 : Int32} {B : Nat → Nat → Nat} {wt : nuN} {K : zI → zP → Prop} (hm : m < 6) (h : SL I0 k lim wv [(m, 0, [], fun _ => Sum.inl 0)] n z I P) (h10 : I0 (20 + 12 * m) 0 = nI m) (ha : I0 (20 + 12 * m) 7 = nI a) (ha4 : a ≤ 4) (hw : WtL I0 k wt m) (hp : PrL I0 B kp) (hle : wt m ≤ kp) (hr : n 4 + 120 < 2 ^ 30)
    (kk : ∀ J, SL I0 k lim wv [(m, 0, [], lc2 (if a = 0 then 0 else x4) (if a ≤ 1 then 0 else x5))] (erN B m a n (wt m)) (erZ B m a (lc2 (if a = 0 then 0 else x4) (if a ≤ 1 then 0 else x5)) n z (wt m)) J P → sL k I J → ∃ n9, l_X2_perform_107 K n9 0 J P) : SHy[20 + 12 * m]? = some (3, 11) ∧ (if (I (20 + 12 * m) 7) ≤ 0 then (j_X2_perform_75 K (20 + 12 * m) x5 119 0 0 119 I P) else (j_X2_perform_75 K (20 + 12 * m) x5 119 x4 0 119 I P)) := by
  have hk := h.1.1
  have c7 : ∀ J, SL I0 k lim wv [(m, 0, [], fun _ => Sum.inl 0)] n z J P → True := fun _ _ => trivial
  have e7 : I (20 + 12 * m) 7 = nI a := by rw [L_s0 h (by unfold rcL; omega)]; exact ha
  have go : ∀ y : Int32, y = (if a = 0 then 0 else x4) → j_X2_perform_75 K (20 + 12 * m) x5 119 y 0 119 I P := fun y hy => by
    unfold j_X2_perform_75
    refine ⟨shF (m := 0) (by omega), L_setLocal (i := 0) (fs := []) (v := Sum.inl (if a = 0 then 0 else x4)) h (by omega) hy (fun J hJ g => ⟨shM hm, ?_⟩)⟩
    have e7' : J (20 + 12 * m) 7 = nI a := by rw [L_s0 hJ (by unfold rcL; omega)]; exact ha
    have go2 : ∀ y : Int32, y = (if a ≤ 1 then 0 else x5) → j_X2_perform_95 K 119 y 1 119 J P := fun y hy => by
      unfold j_X2_perform_95
      refine ⟨shF (m := 0) (by omega), L_setLocal (i := 1) (fs := []) (v := Sum.inl (if a ≤ 1 then 0 else x5)) hJ (by omega) hy (fun J2 hJ2 g2 => L_enter (fs := []) hJ2 h10 ha ha4 hw hp hle hr (fun J3 hJ3 g3 => kk J3 hJ3 (sL_t ⟨fun j _ => ?_, fun j _ => ?_⟩ g3)))⟩
      · rw [g2 _ _ (by simp), g _ _ (by simp)]
      · rw [g2 _ _ (by simp; omega), g _ _ (by simp; omega)]
    rw [e7']
    by_cases q : a ≤ 1
    · exact zip (by first | omega | decide | (simp (maxSteps := 400000) (disch := omega) only [q_lit, q_neg, nI_ltI, nI_leI, nI_eq, nI_add, pk_mul, pk_sub, nI_clamp, vp_q, zu_same, zu_nc, zu_nj, ng_lt, ng_le, ng_gt, ng_ge, ng_eq, ng_qe, ng_ee, ng_add, not_false_eq_true, not_true_eq_false, ne_eq]; done) | (simp (maxSteps := 400000) (disch := omega) only [q_lit, q_neg, nI_ltI, nI_leI, nI_eq, nI_add, pk_mul, pk_sub, nI_clamp, vp_q, zu_same, zu_nc, zu_nj, ng_lt, ng_le, ng_gt, ng_ge, ng_eq, ng_qe, ng_ee, ng_add, not_false_eq_true, not_true_eq_false, ne_eq]; omega)) (go2 0 (by rw [if_pos q]))
    · exact zin (by first | omega | decide | (simp (maxSteps := 400000) (disch := omega) only [q_lit, q_neg, nI_ltI, nI_leI, nI_eq, nI_add, pk_mul, pk_sub, nI_clamp, vp_q, zu_same, zu_nc, zu_nj, ng_lt, ng_le, ng_gt, ng_ge, ng_eq, ng_qe, ng_ee, ng_add, not_false_eq_true, not_true_eq_false, ne_eq]; done) | (simp (maxSteps := 400000) (disch := omega) only [q_lit, q_neg, nI_ltI, nI_leI, nI_eq, nI_add, pk_mul, pk_sub, nI_clamp, vp_q, zu_same, zu_nc, zu_nj, ng_lt, ng_le, ng_gt, ng_ge, ng_eq, ng_qe, ng_ee, ng_add, not_false_eq_true, not_true_eq_false, ne_eq]; omega)) (go2 x5 (by rw [if_neg q]))
  refine ⟨shM hm, ?_⟩
  rw [e7]
  by_cases q : a = 0
  · exact zip (by rw [q]; decide) (go 0 (by rw [if_pos q]))
  · exact zin (by first | omega | decide | (simp (maxSteps := 400000) (disch := omega) only [q_lit, q_neg, nI_ltI, nI_leI, nI_eq, nI_add, pk_mul, pk_sub, nI_clamp, vp_q, zu_same, zu_nc, zu_nj, ng_lt, ng_le, ng_gt, ng_ge, ng_eq, ng_qe, ng_ee, ng_add, not_false_eq_true, not_true_eq_false, ne_eq]; done) | (simp (maxSteps := 400000) (disch := omega) only [q_lit, q_neg, nI_ltI, nI_leI, nI_eq, nI_add, pk_mul, pk_sub, nI_clamp, vp_q, zu_same, zu_nc, zu_nj, ng_lt, ng_le, ng_gt, ng_ge, ng_eq, ng_qe, ng_ee, ng_add, not_false_eq_true, not_true_eq_false, ne_eq]; omega)) (go x4 (by rw [if_neg q]))
end
