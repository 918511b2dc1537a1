/-! PURE 101: RUN: how it begins and what it keeps, the reference's side -/
section
variable {I Gb : zI} {P : zP} {k lim m : Nat} {n : nuN} {z : nuZ}
theorem M_bg {x : Int32} {K : zI → zP → Prop} (hk : k < 3) (hl : lim ≤ 3000)
    (kk : ∀ J, SM J k lim [] n00 z00z J → (∀ c j, ¬ (c = 155 ∧ 50 ≤ j ∧ j ≤ 73) → ¬ ((c = 211 ∨ c = 212) ∧ j = k) → ¬ (203 ≤ c ∧ c ≤ 204) → J c j = I c j) → J 155 52 = -1 → J 155 73 = x → K J P) : w_X10_begin (zu (zu (zu I 155 50 (nI k)) 155 51 (nI lim)) 155 73 x) P K := by
  unfold w_X10_begin
  have e50 : zu (zu (zu I 155 50 (nI k)) 155 51 (nI lim)) 155 73 x 155 50 = nI k := by rw [zu_nj (by omega), zu_nj (by omega), zu_same]
  have e51 : zu (zu (zu I 155 50 (nI k)) 155 51 (nI lim)) 155 73 x 155 51 = nI lim := by rw [zu_nj (by omega), zu_same]
  have e73 : zu (zu (zu I 155 50 (nI k)) 155 51 (nI lim)) 155 73 x 155 73 = x := zu_same
  have fr : ∀ c j, ¬ (c = 155 ∧ 50 ≤ j ∧ j ≤ 73) → zu (zu (zu I 155 50 (nI k)) 155 51 (nI lim)) 155 73 x c j = I c j := fun c j a => by rw [zu_ne (by omega), zu_ne (by omega), zu_ne (by omega)]
  generalize zu (zu (zu I 155 50 (nI k)) 155 51 (nI lim)) 155 73 x = U at e50 e51 e73 fr ⊢
  have e50' : zu (zu (zu (zu (zu (zu (zu (zu (zu (zu U 155 52 (-1)) 155 53 0) 155 54 0) 155 55 0) 155 63 0) 155 65 0) 155 66 (-1)) 155 67 (-1)) 155 68 0) 211 (nI k).toNatClampNeg 0 155 50 = nI k := by
    rw [zu_nc (by omega), zu_nj (by omega), zu_nj (by omega), zu_nj (by omega), zu_nj (by omega), zu_nj (by omega), zu_nj (by omega), zu_nj (by omega), zu_nj (by omega), zu_nj (by omega)]; exact e50
  rw [e50, e50', nI_clamp (by omega)]
  have V : ∃ X : zI, X = zu (zu (zu (zu (zu (zu (zu (zu (zu (zu (zu U 155 52 (-1)) 155 53 0) 155 54 0) 155 55 0) 155 63 0) 155 65 0) 155 66 (-1)) 155 67 (-1)) 155 68 0) 211 k 0) 212 k 0 := ⟨_, rfl⟩
  obtain ⟨X, eX⟩ := V
  have cell : ∀ j, X 155 j = zu (zu (zu (zu (zu (zu (zu (zu (zu U 155 52 (-1)) 155 53 0) 155 54 0) 155 55 0) 155 63 0) 155 65 0) 155 66 (-1)) 155 67 (-1)) 155 68 0 155 j := fun j => by rw [eX, zu_nc (by omega), zu_nc (by omega)]
  have x50 : X 155 50 = nI k := by rw [cell, zu_nj (by omega), zu_nj (by omega), zu_nj (by omega), zu_nj (by omega), zu_nj (by omega), zu_nj (by omega), zu_nj (by omega), zu_nj (by omega), zu_nj (by omega)]; exact e50
  have x51 : X 155 51 = nI lim := by rw [cell, zu_nj (by omega), zu_nj (by omega), zu_nj (by omega), zu_nj (by omega), zu_nj (by omega), zu_nj (by omega), zu_nj (by omega), zu_nj (by omega), zu_nj (by omega)]; exact e51
  have x73 : X 155 73 = x := by rw [cell, zu_nj (by omega), zu_nj (by omega), zu_nj (by omega), zu_nj (by omega), zu_nj (by omega), zu_nj (by omega), zu_nj (by omega), zu_nj (by omega), zu_nj (by omega)]; exact e73
  have x52 : X 155 52 = -1 := by rw [cell, zu_nj (by omega), zu_nj (by omega), zu_nj (by omega), zu_nj (by omega), zu_nj (by omega), zu_nj (by omega), zu_nj (by omega), zu_nj (by omega), zu_same]
  have x53 : X 155 53 = 0 := by rw [cell, zu_nj (by omega), zu_nj (by omega), zu_nj (by omega), zu_nj (by omega), zu_nj (by omega), zu_nj (by omega), zu_nj (by omega), zu_same]
  have x54 : X 155 54 = 0 := by rw [cell, zu_nj (by omega), zu_nj (by omega), zu_nj (by omega), zu_nj (by omega), zu_nj (by omega), zu_nj (by omega), zu_same]
  have x55 : X 155 55 = 0 := by rw [cell, zu_nj (by omega), zu_nj (by omega), zu_nj (by omega), zu_nj (by omega), zu_nj (by omega), zu_same]
  have x63 : X 155 63 = 0 := by rw [cell, zu_nj (by omega), zu_nj (by omega), zu_nj (by omega), zu_nj (by omega), zu_same]
  have x211 : X 211 k = 0 := by rw [eX, zu_nc (by omega), zu_same]
  have x212 : X 212 k = 0 := by rw [eX, zu_same]
  have fX : ∀ c j, ¬ (c = 155 ∧ 50 ≤ j ∧ j ≤ 73) → ¬ ((c = 211 ∨ c = 212) ∧ j = k) → X c j = I c j := fun c j a b => by
    rw [eX, zu_ne (by omega), zu_ne (by omega), zu_ne (by omega), zu_ne (by omega), zu_ne (by omega), zu_ne (by omega), zu_ne (by omega), zu_ne (by omega), zu_ne (by omega), zu_ne (by omega), zu_ne (by omega)]
    exact fr c j a
  rw [← eX]
  have l2 : ∀ d i J, i + d = 24 → (∀ c j, ¬ (c = 203 ∧ j < 8) → ¬ (c = 204 ∧ j < i) → J c j = X c j) → (∀ j, j < 8 → J 203 j = 0) → (∀ j, j < i → J 204 j = 0) → l_X10_begin_88 K (d + 1) (nI i) J P := by
    intro d
    induction d with
    | zero =>
      intro i J hi f g8 g
      obtain rfl : i = 24 := by omega
      have o : ∀ c j, ¬ (203 ≤ c ∧ c ≤ 204) → J c j = X c j := fun c j a => f c j (by omega) (by omega)
      rw [l_X10_begin_88]
      refine zip (by decide) (kk J ⟨⟨hk, hl, fun _ _ _ => rfl, by rw [o _ _ (by omega)]; exact x50, by rw [o _ _ (by omega)]; exact x51⟩, Nat.zero_le _, by rw [o _ _ (by omega)]; exact x54, trivial, ⟨Nat.zero_le _, by rw [o _ _ (by omega)]; exact x63, fun f' hf => g8 f' hf, fun r hr => absurd hr (Nat.not_lt_zero _), fun q hq => g q hq⟩, ⟨Nat.zero_le _, by decide, Nat.zero_le _, Nat.zero_le _, by rw [o _ _ (by omega)]; exact x53, by rw [o _ _ (by omega)]; exact x55, by rw [o _ _ (by omega)]; exact x211, by rw [o _ _ (by omega)]; exact x212, fun i hi => absurd hi (Nat.not_lt_zero _), fun i hi => absurd hi (Nat.not_lt_zero _), fun _ _ _ _ _ _ _ => rfl⟩⟩ (fun c j a b d => by rw [o c j d]; exact fX c j a b) (by rw [o _ _ (by omega)]; exact x52) (by rw [o _ _ (by omega)]; exact x73))
    | succ d ih =>
      intro i J hi f g8 g
      rw [l_X10_begin_88, nI_1, nI_clamp (by omega)]
      refine zin (by first | omega | decide | (simp (maxSteps := 400000) (disch := omega) only [q_lit, q_neg, nI_ltI, nI_leI, nI_eq, nI_add, pk_mul, pk_sub, nI_clamp, vp_q, zu_same, zu_nc, zu_nj, ng_lt, ng_le, ng_gt, ng_ge, ng_eq, ng_qe, ng_ee, ng_add, not_false_eq_true, not_true_eq_false, ne_eq]; done) | (simp (maxSteps := 400000) (disch := omega) only [q_lit, q_neg, nI_ltI, nI_leI, nI_eq, nI_add, pk_mul, pk_sub, nI_clamp, vp_q, zu_same, zu_nc, zu_nj, ng_lt, ng_le, ng_gt, ng_ge, ng_eq, ng_qe, ng_ee, ng_add, not_false_eq_true, not_true_eq_false, ne_eq]; omega)) ⟨vp_in_nI (by omega) (by decide), ih (i + 1) _ (by omega) (fun c j a b => ?_) (fun j hj => ?_) (fun j hj => ?_)⟩
      · rw [zu_ne (by omega)]; exact f c j a (by omega)
      · rw [zu_nc (by omega)]; exact g8 j hj
      · by_cases e : j = i
        · rw [e, zu_same]
        · rw [zu_nj e]; exact g j (by omega)
  have l1 : ∀ d i J, i + d = 8 → (∀ c j, ¬ (c = 203 ∧ j < i) → J c j = X c j) → (∀ j, j < i → J 203 j = 0) → l_X10_begin_67 K (d + 1) (nI i) J P := by
    intro d
    induction d with
    | zero =>
      intro i J hi f g
      obtain rfl : i = 8 := by omega
      rw [l_X10_begin_67]
      exact zip (by decide) ⟨25, l2 24 0 J (by omega) (fun c j a _ => f c j a) g (fun j hj => absurd hj (by omega))⟩
    | succ d ih =>
      intro i J hi f g
      rw [l_X10_begin_67, nI_1, nI_clamp (by omega)]
      refine zin (by first | omega | decide | (simp (maxSteps := 400000) (disch := omega) only [q_lit, q_neg, nI_ltI, nI_leI, nI_eq, nI_add, pk_mul, pk_sub, nI_clamp, vp_q, zu_same, zu_nc, zu_nj, ng_lt, ng_le, ng_gt, ng_ge, ng_eq, ng_qe, ng_ee, ng_add, not_false_eq_true, not_true_eq_false, ne_eq]; done) | (simp (maxSteps := 400000) (disch := omega) only [q_lit, q_neg, nI_ltI, nI_leI, nI_eq, nI_add, pk_mul, pk_sub, nI_clamp, vp_q, zu_same, zu_nc, zu_nj, ng_lt, ng_le, ng_gt, ng_ge, ng_eq, ng_qe, ng_ee, ng_add, not_false_eq_true, not_true_eq_false, ne_eq]; omega)) ⟨vp_in_nI (by omega) (by decide), ih (i + 1) _ (by omega) (fun c j a => ?_) (fun j hj => ?_)⟩
      · rw [zu_ne (by omega)]; exact f c j (by omega)
      · by_cases e : j = i
        · rw [e, zu_same]
        · rw [zu_nj e]; exact g j (by omega)
  exact ⟨vp_in_nI hk (by decide), vp_in_nI hk (by decide), 9, l1 8 0 X (by omega) (fun _ _ _ => rfl) (fun j hj => absurd hj (by omega))⟩
theorem M_b2 {a kp : Nat} {x3 x4 : Int32} {B : Nat → Nat → Nat} {wt : nuN} {K : Int32 → zI → zP → Prop} (hm : m < 6) (h : SM Gb k lim [(m, 0, [], fun _ => Sum.inl 0)] n z I) (ha : Gb 157 m = nI a) (ha4 : a ≤ 4) (hw : WtM Gb k wt m) (hp : PrM Gb B kp) (hle : wt m ≤ kp) (hr : n 4 + 120 < 2 ^ 30)
    (kk : ∀ J, SM Gb k lim [(m, 0, [], lc2 (if a = 0 then 0 else x3) (if a ≤ 1 then 0 else x4))] (erN B m a n (wt m)) (erZ B m a (lc2 (if a = 0 then 0 else x3) (if a ≤ 1 then 0 else x4)) n z (wt m)) J → sM I J → ∃ n9, l_X10_run_115 K n9 J P) : ∃ n9, l_X10_run_65 K n9 (nI m) x3 x4 0 I P := by
  have v6 : vp_in (nI m) 6 := vp_in_nI hm (by decide)
  have st : ∀ i J l f, i < a → SM Gb k lim [(m, 0, [], l)] n z J → l_X10_run_65 K f (nI m) x3 x4 (nI (i + 1)) (zu J 199 i (if i = 0 then x3 else if i = 1 then x4 else 0)) P → l_X10_run_65 K (f + 1) (nI m) x3 x4 (nI i) J P := fun i J l f hi hJ q => by
    have e7 : J 157 m = nI a := by rw [M_s0 hJ (by unfold rcM; omega)]; exact ha
    rw [l_X10_run_65, nI_clamp (n := m) (by omega), e7, nI_clamp (n := i) (by omega), nI_1]
    refine ⟨v6, zin (by first | omega | decide | (simp (maxSteps := 400000) (disch := omega) only [q_lit, q_neg, nI_ltI, nI_leI, nI_eq, nI_add, pk_mul, pk_sub, nI_clamp, vp_q, zu_same, zu_nc, zu_nj, ng_lt, ng_le, ng_gt, ng_ge, ng_eq, ng_qe, ng_ee, ng_add, not_false_eq_true, not_true_eq_false, ne_eq]; done) | (simp (maxSteps := 400000) (disch := omega) only [q_lit, q_neg, nI_ltI, nI_leI, nI_eq, nI_add, pk_mul, pk_sub, nI_clamp, vp_q, zu_same, zu_nc, zu_nj, ng_lt, ng_le, ng_gt, ng_ge, ng_eq, ng_qe, ng_ee, ng_add, not_false_eq_true, not_true_eq_false, ne_eq]; omega)) ?_⟩
    by_cases i0 : i = 0
    · rw [if_pos i0] at q
      exact zip (by rw [i0]; rfl) ⟨vp_in_nI (by omega) (by decide), q⟩
    · rw [if_neg i0] at q
      refine zin (by first | omega | decide | (simp (maxSteps := 400000) (disch := omega) only [q_lit, q_neg, nI_ltI, nI_leI, nI_eq, nI_add, pk_mul, pk_sub, nI_clamp, vp_q, zu_same, zu_nc, zu_nj, ng_lt, ng_le, ng_gt, ng_ge, ng_eq, ng_qe, ng_ee, ng_add, not_false_eq_true, not_true_eq_false, ne_eq]; done) | (simp (maxSteps := 400000) (disch := omega) only [q_lit, q_neg, nI_ltI, nI_leI, nI_eq, nI_add, pk_mul, pk_sub, nI_clamp, vp_q, zu_same, zu_nc, zu_nj, ng_lt, ng_le, ng_gt, ng_ge, ng_eq, ng_qe, ng_ee, ng_add, not_false_eq_true, not_true_eq_false, ne_eq]; omega)) ?_
      by_cases i1 : i = 1
      · rw [if_pos i1] at q
        exact zip (by rw [i1]; rfl) ⟨vp_in_nI (by omega) (by decide), q⟩
      · rw [if_neg i1] at q
        exact zin (by first | omega | decide | (simp (maxSteps := 400000) (disch := omega) only [q_lit, q_neg, nI_ltI, nI_leI, nI_eq, nI_add, pk_mul, pk_sub, nI_clamp, vp_q, zu_same, zu_nc, zu_nj, ng_lt, ng_le, ng_gt, ng_ge, ng_eq, ng_qe, ng_ee, ng_add, not_false_eq_true, not_true_eq_false, ne_eq]; done) | (simp (maxSteps := 400000) (disch := omega) only [q_lit, q_neg, nI_ltI, nI_leI, nI_eq, nI_add, pk_mul, pk_sub, nI_clamp, vp_q, zu_same, zu_nc, zu_nj, ng_lt, ng_le, ng_gt, ng_ge, ng_eq, ng_qe, ng_ee, ng_add, not_false_eq_true, not_true_eq_false, ne_eq]; omega)) ⟨vp_in_nI (by omega) (by decide), q⟩
  have fin : ∀ J, SM Gb k lim [(m, 0, [], lc2 (if a = 0 then 0 else x3) (if a ≤ 1 then 0 else x4))] n z J → sM I J → l_X10_run_65 K 1 (nI m) x3 x4 (nI a) J P := fun J hJ g => by
    have e7 : J 157 m = nI a := by rw [M_s0 hJ (by unfold rcM; omega)]; exact ha
    rw [l_X10_run_65, nI_clamp (n := m) (by omega), e7]
    refine ⟨v6, zip (by first | omega | decide | (simp (maxSteps := 400000) (disch := omega) only [q_lit, q_neg, nI_ltI, nI_leI, nI_eq, nI_add, pk_mul, pk_sub, nI_clamp, vp_q, zu_same, zu_nc, zu_nj, ng_lt, ng_le, ng_gt, ng_ge, ng_eq, ng_qe, ng_ee, ng_add, not_false_eq_true, not_true_eq_false, ne_eq]; done) | (simp (maxSteps := 400000) (disch := omega) only [q_lit, q_neg, nI_ltI, nI_leI, nI_eq, nI_add, pk_mul, pk_sub, nI_clamp, vp_q, zu_same, zu_nc, zu_nj, ng_lt, ng_le, ng_gt, ng_ge, ng_eq, ng_qe, ng_ee, ng_add, not_false_eq_true, not_true_eq_false, ne_eq]; omega)) (M_enter (fs := []) hJ ha ha4 (fun i hi => ?_) hw hp hle hr (fun J2 hJ2 g2 => kk J2 hJ2 (sM_t g g2)))⟩
    unfold lc2 upl
    by_cases e1 : i = 1
    · rw [if_pos e1]; rfl
    · rw [if_neg e1]
      by_cases e0 : i = 0
      · rw [if_pos e0]; rfl
      · rw [if_neg e0]; rfl
  have sl : ∀ {J : zI} {l : Nat → Va} (i : Nat) (x : Int32), i < 12 → SM Gb k lim [(m, 0, [], l)] n z J → SM Gb k lim [(m, 0, [], upl l i (Sum.inl x))] n z (zu J 199 i x) := fun {J l} i x hi hJ => by
    have := M_setLocal (fs := []) (v := Sum.inl x) hJ hi
    simp only [List.length_nil, Nat.mul_zero, Nat.zero_add] at this
    exact this
  have gs : ∀ {J : zI} (i : Nat) (x : Int32), sM I J → sM I (zu J 199 i x) := fun {J} i x g => sM_t g ⟨fun j _ => zu_nc (by omega), fun c j _ => zu_nc (by omega)⟩
  have l0e : (fun _ => Sum.inl 0 : Nat → Va) 1 = Sum.inl 0 := rfl
  obtain rfl | rfl | rfl | rfl | rfl : a = 0 ∨ a = 1 ∨ a = 2 ∨ a = 3 ∨ a = 4 := by omega
  · refine ⟨1, fin I ?_ sM_r⟩
    have : lc2 (if (0 : Nat) = 0 then (0 : Int32) else x3) (if (0 : Nat) ≤ 1 then (0 : Int32) else x4) = fun _ => Sum.inl 0 := by
      unfold lc2
      rw [if_pos rfl, if_pos (by omega), upl_id (l := fun _ => Sum.inl 0) (i := 0) rfl, upl_id (l := fun _ => Sum.inl 0) (i := 1) rfl]
    rw [this]; exact h
  · refine ⟨2, st 0 I _ 1 (by omega) h (fin _ ?_ (gs 0 _ sM_r))⟩
    have : lc2 (if (1 : Nat) = 0 then (0 : Int32) else x3) (if (1 : Nat) ≤ 1 then (0 : Int32) else x4) = upl (fun _ => Sum.inl 0) 0 (Sum.inl x3) := by
      unfold lc2
      rw [if_neg (by decide), if_pos (by omega), upl_id (l := upl (fun _ => Sum.inl 0) 0 (Sum.inl x3)) (i := 1) (v := Sum.inl 0) rfl]
    rw [this]; exact sl 0 x3 (by omega) h
  · have h1 := sl 0 x3 (by omega) h
    exact ⟨3, st 0 I _ 2 (by omega) h (st 1 _ _ 1 (by omega) h1 (fin _ (sl 1 x4 (by omega) h1) (gs 1 _ (gs 0 _ sM_r))))⟩
  · have h1 := sl 0 x3 (by omega) h
    have h2 := sl 1 x4 (by omega) h1
    have h3 := sl 2 0 (by omega) h2
    rw [upl_id (l := upl (upl (fun _ => Sum.inl 0) 0 (Sum.inl x3)) 1 (Sum.inl x4)) (i := 2) (v := Sum.inl 0) rfl] at h3
    exact ⟨4, st 0 I _ 3 (by omega) h (st 1 _ _ 2 (by omega) h1 (st 2 _ _ 1 (by omega) h2 (fin _ h3 (gs 2 _ (gs 1 _ (gs 0 _ sM_r))))))⟩
  · have h1 := sl 0 x3 (by omega) h
    have h2 := sl 1 x4 (by omega) h1
    have h3 := sl 2 0 (by omega) h2
    rw [upl_id (l := upl (upl (fun _ => Sum.inl 0) 0 (Sum.inl x3)) 1 (Sum.inl x4)) (i := 2) (v := Sum.inl 0) rfl] at h3
    have h4 := sl 3 0 (by omega) h3
    rw [upl_id (l := upl (upl (fun _ => Sum.inl 0) 0 (Sum.inl x3)) 1 (Sum.inl x4)) (i := 3) (v := Sum.inl 0) rfl] at h4
    exact ⟨5, st 0 I _ 4 (by omega) h (st 1 _ _ 3 (by omega) h1 (st 2 _ _ 2 (by omega) h2 (st 3 _ _ 1 (by omega) h3 (fin _ h4 (gs 3 _ (gs 2 _ (gs 1 _ (gs 0 _ sM_r))))))))⟩
theorem M_keep {fs : List Frm} {e a tp tm : Int32} {K : zI → zP → Prop} (h : ME Gb k lim fs n z e a tp tm I)
    (kk : ∀ J, (∀ c j, ¬ (208 ≤ c ∧ c ≤ 210 ∧ j = k) → ¬ (213 ≤ c ∧ c ≤ 216 ∧ j = k) → ¬ (c = 218 ∧ 8 * k ≤ j ∧ j < 8 * k + 8) → J c j = I c j) → J 208 k = e → J 209 k = a → J 210 k = nI (n 0) → J 213 k = nI (n 2) → J 214 k = tp → J 215 k = tm → J 216 k = nI (n 1) → (∀ f, f < 8 → J 218 (8 * k + f) = z 0 f) → K J P) : w_X10_keepRun I P K := by
  obtain ⟨hS, h52, hd⟩ := h
  have hk := hS.1.1
  have h50 : I 155 50 = nI k := hS.1.2.2.2.1
  have h53 : I 155 53 = nI (n 0) := hS.2.2.2.2.2.2.2.2.2.1
  have h55 : I 155 55 = nI (n 1) := hS.2.2.2.2.2.2.2.2.2.2.1
  have h63 : I 155 63 = nI (n 2) := hS.2.2.2.2.1.2.1
  have h203 : ∀ f, f < 8 → I 203 f = z 0 f := hS.2.2.2.2.1.2.2.1
  have v3 : vp_in (nI k) 3 := vp_in_nI hk (by decide)
  have lp : ∀ d i J, i + d = 8 → J 155 50 = nI k → (∀ f, f < 8 → J 203 f = z 0 f) → (∀ c j, ¬ (208 ≤ c ∧ c ≤ 210 ∧ j = k) → ¬ (213 ≤ c ∧ c ≤ 216 ∧ j = k) → ¬ (c = 218 ∧ 8 * k ≤ j ∧ j < 8 * k + 8) → J c j = I c j) → J 208 k = e → J 209 k = a → J 210 k = nI (n 0) → J 213 k = nI (n 2) → J 214 k = tp → J 215 k = tm → J 216 k = nI (n 1) → (∀ f, f < i → J 218 (8 * k + f) = z 0 f) → l_X10_keepRun_144 K (d + 1) (nI i) J P := by
    intro d
    induction d with
    | zero =>
      intro i J hi y50 y203 fr c1 c2 c3 c4 c5 c6 c7 c8
      obtain rfl : i = 8 := by omega
      rw [l_X10_keepRun_144]
      exact zip (by decide) (kk J fr c1 c2 c3 c4 c5 c6 c7 c8)
    | succ d ih =>
      intro i J hi y50 y203 fr c1 c2 c3 c4 c5 c6 c7 c8
      rw [l_X10_keepRun_144, nI_1, y50, show (8 : Int32) * nI k + nI i = nI (8 * k + i) from by rw [q_lit 8, pk_mul, nI_add], nI_clamp (n := 8 * k + i) (by omega), nI_clamp (n := i) (by omega)]
      refine zin (by first | omega | decide | (simp (maxSteps := 400000) (disch := omega) only [q_lit, q_neg, nI_ltI, nI_leI, nI_eq, nI_add, pk_mul, pk_sub, nI_clamp, vp_q, zu_same, zu_nc, zu_nj, ng_lt, ng_le, ng_gt, ng_ge, ng_eq, ng_qe, ng_ee, ng_add, not_false_eq_true, not_true_eq_false, ne_eq]; done) | (simp (maxSteps := 400000) (disch := omega) only [q_lit, q_neg, nI_ltI, nI_leI, nI_eq, nI_add, pk_mul, pk_sub, nI_clamp, vp_q, zu_same, zu_nc, zu_nj, ng_lt, ng_le, ng_gt, ng_ge, ng_eq, ng_qe, ng_ee, ng_add, not_false_eq_true, not_true_eq_false, ne_eq]; omega)) ⟨vp_in_nI (by omega) (by decide), vp_in_nI (by omega) (by decide), ih (i + 1) _ (by omega) (by rw [zu_nc (by omega)]; exact y50) (fun f hf => by rw [zu_nc (by omega)]; exact y203 f hf) (fun c j p1 p2 p3 => by rw [zu_ne (by omega)]; exact fr c j p1 p2 p3) (by rw [zu_nc (by omega)]; exact c1) (by rw [zu_nc (by omega)]; exact c2) (by rw [zu_nc (by omega)]; exact c3) (by rw [zu_nc (by omega)]; exact c4) (by rw [zu_nc (by omega)]; exact c5) (by rw [zu_nc (by omega)]; exact c6) (by rw [zu_nc (by omega)]; exact c7) (fun f hf => ?_)⟩
      by_cases ef : f = i
      · rw [ef, zu_same]; exact y203 i (by omega)
      · rw [zu_nj (by omega)]; exact c8 f (by omega)
  have fin : l_X10_keepRun_144 K 9 0 (zu (zu (zu (zu (zu (zu (zu I 208 k (I 155 52)) 209 k a) 210 k (nI (n 0))) 213 k (nI (n 2))) 214 k tp) 215 k tm) 216 k (nI (n 1))) P := by
    refine lp 8 0 _ (by omega) ?_ (fun f hf => ?_) (fun c j p1 p2 p3 => ?_) ?_ ?_ ?_ ?_ ?_ ?_ ?_ (fun f hf => absurd hf (by omega))
    · rw [zu_nc (by omega), zu_nc (by omega), zu_nc (by omega), zu_nc (by omega), zu_nc (by omega), zu_nc (by omega), zu_nc (by omega)]; exact h50
    · rw [zu_nc (by omega), zu_nc (by omega), zu_nc (by omega), zu_nc (by omega), zu_nc (by omega), zu_nc (by omega), zu_nc (by omega)]; exact h203 f hf
    · rw [zu_ne (by omega), zu_ne (by omega), zu_ne (by omega), zu_ne (by omega), zu_ne (by omega), zu_ne (by omega), zu_ne (by omega)]
    · rw [zu_nc (by omega), zu_nc (by omega), zu_nc (by omega), zu_nc (by omega), zu_nc (by omega), zu_nc (by omega), zu_same]; exact h52
    · rw [zu_nc (by omega), zu_nc (by omega), zu_nc (by omega), zu_nc (by omega), zu_nc (by omega), zu_same]
    · rw [zu_nc (by omega), zu_nc (by omega), zu_nc (by omega), zu_nc (by omega), zu_same]
    · rw [zu_nc (by omega), zu_nc (by omega), zu_nc (by omega), zu_same]
    · rw [zu_nc (by omega), zu_nc (by omega), zu_same]
    · rw [zu_nc (by omega), zu_same]
    · rw [zu_same]
  unfold w_X10_keepRun j_X10_keepRun_52 j_X10_keepRun_103 j_X10_keepRun_128
  simp (disch := omega) only [h50, nI_clamp, zu_nc, h53, h55, h63]
  rw [h52] at fin ⊢
  rcases hd with ⟨e2, ea, et, em⟩ | ⟨e1, ea, et, em⟩ | ⟨e0, ea, et, em⟩
  · rw [e2] at fin ⊢
    rw [ea, et, em] at fin
    exact ⟨v3, zip rfl ⟨v3, v3, v3, zin (by decide) ⟨v3, zin (by decide) ⟨v3, v3, 9, fin⟩⟩⟩⟩
  · rw [e1] at fin ⊢
    rw [← ea, ← et, ← em] at fin
    exact ⟨v3, zin (by decide) (zip rfl ⟨v3, v3, v3, zip rfl ⟨v3, zip rfl ⟨v3, v3, 9, fin⟩⟩⟩)⟩
  · rw [e0] at fin ⊢
    rw [← ea, et, em] at fin
    exact ⟨v3, zin (by decide) (zin (by decide) ⟨v3, v3, v3, zin (by decide) ⟨v3, zin (by decide) ⟨v3, v3, 9, fin⟩⟩⟩)⟩
end
