/-! PURE 32: the reference: comes(), lay() -/
theorem RC_keep {A : Nat → Nat → Nat} {m q : Nat} {C : TS} {s : List Nat} {l : Nat → Nat} {I I' : zI} (hC : RCx A m C I) (hq : I' 167 (400 * m + q) = nI s.length) (hq8 : ∀ j, j < 12 → I' 168 (12 * (400 * m + q) + j) = nI (l j)) (hq9 : ∀ j, j < s.length → I' 169 (10 * (400 * m + q) + j) = nI (bot s j)) (hs : s.length ≤ 10)
    (f : ∀ c j, ¬ (c = 155 ∧ (j = 38 ∨ j = 39)) → ¬ (c = 167 ∧ j = 400 * m + q) → ¬ (c = 168 ∧ 12 * (400 * m + q) ≤ j ∧ j < 12 * (400 * m + q) + 12) → ¬ (c = 169 ∧ 10 * (400 * m + q) ≤ j ∧ j < 10 * (400 * m + q) + 10) → I' c j = I c j) (hT : TG A C) : RCx A m (upC C q (s, l)) I' := by
  intro p hp hp2
  unfold upC
  by_cases e : p = q
  · subst e
    rw [if_pos rfl]
    refine ⟨fun h => by (cases h), fun s1 l1 h => ?_⟩
    cases h
    exact ⟨hq, hq8, hq9⟩
  · rw [if_neg e]
    obtain ⟨g1, g2⟩ := hC p hp hp2
    refine ⟨fun h => by rw [f _ _ (by omega) (by omega) (by omega) (by omega)]; exact g1 h, fun s1 l1 h => ?_⟩
    obtain ⟨z1, z2, z3⟩ := g2 s1 l1 h
    have hl1 := (hT p s1 l1 h).2.2.1.1
    exact ⟨by rw [f _ _ (by omega) (by omega) (by omega) (by omega)]; exact z1, fun k hk => by rw [f _ _ (by omega) (by omega) (by omega) (by omega)]; exact z2 k hk, fun k hk => by rw [f _ _ (by omega) (by omega) (by omega) (by omega)]; exact z3 k hk⟩
theorem m_comes {A : Nat → Nat → Nat} {m q : Nat} {s : List Nat} {l : Nat → Nat} {C : TS} {I : zI} {P : zP} {K : zI → zP → Prop} (hm : m < 6) (hB : W0 A m) (hR : RS A m C I) (hc : CurM s l I) (hs : gs s) (hl : gl l) (h5 : I 155 38 = 1) (hq : q < A 0 2) (h2 : 0 < A 2 q)
    (k1 : ∀ C' I', RS A m C' I' → FrK m I I' → I' 155 38 = 1 → CurM s l I' → Cov C' q s l → blw C' C → (∀ T, abv C T → Cov T q s l → abv C' T) → ((C' = C ∧ I' 155 39 = I 155 39) ∨ (I' 155 39 = 1 ∧ mu C' (A 0 2) < mu C (A 0 2))) → K I' P)
    (k2 : ∀ I', (∀ T, abv C T → ¬ Cov T q s l) → FrK m I I' → I' 155 38 = 0 → (∀ j, I' 167 j = I 167 j) → K I' P) : w_X10_comes (nI m) (nI q) I P K := by
  obtain ⟨hL, hT, hC⟩ := hR
  have b1 := hB.2.2.2.2.1
  have hq4 : q < 400 := by omega
  have e4 : (400 : Int32) * nI m + nI q = nI (400 * m + q) := by rw [show (400 : Int32) = nI 400 from rfl, pk_mul, nI_add]
  obtain ⟨c0, c1⟩ := hC q hq h2
  have hs10 := hs.1
  unfold w_X10_comes
  rw [e4, nI_clamp (by omega), nI_clamp (by omega), hL.2.2.1]
  refine ⟨vp_in_nI hm (by decide), zip (nI_lt hq (by omega)) ⟨vp_in_nI (by omega) (by decide), ?_⟩⟩
  cases eC : C q with
  | none =>
    rw [c0 eC]
    refine zip rfl ⟨vp_in_nI (by omega) (by decide), 13, ?_⟩
    have hm1 : Cm C q s l (upC C q (s, l)) := Or.inl ⟨eC, rfl⟩
    have hc1 : CurM s l (zu I 167 (400 * m + q) (I 155 37)) := ⟨by rw [zu_nc (by decide)]; exact hc.1, fun j hj => by rw [zu_nc (by decide)]; exact hc.2.1 j hj, fun j hj => by rw [zu_nc (by decide)]; exact hc.2.2 j hj⟩
    refine l_47 hm hq4 hs10 hc1 (fun I' g1 g2 g3 g4 => ?_) 12 0 _ (by omega) (fun _ _ _ => rfl) (fun j hj => absurd hj (by omega))
    have fk : FrK m I I' := fun c j q1 q2 q3 q4 => by rw [g1 c j (by omega) (by omega) (by omega), zu_ne (by omega)]
    refine k1 (upC C q (s, l)) I' ⟨RM0_K hL fk, ?_, ?_⟩ fk ?_ (Cur_K hc fk) (Cov_Cm hm1) (blw_Cm hm1) (fun T ha h => abv_Cm ha h hm1) (Or.inr ⟨g2, (mu_Cm hq hm1).2 (Or.inl eC)⟩)
    · intro p s1 l1 e
      unfold upC at e
      split at e
      · cases e; rename_i hp; subst hp; exact ⟨hq, h2, hs, hl⟩
      · exact hT p s1 l1 e
    · refine RC_keep hC ?_ g3 g4 hs10 (fun c j q1 q2 q3 q4 => by rw [g1 c j (by omega) q3 q4, zu_ne q2]) hT
      rw [g1 _ _ (by omega) (by omega) (by omega), zu_same, hc.1]
    · rw [g1 _ _ (by omega) (by omega) (by omega), zu_nc (by decide)]; exact h5
  | some v =>
    obtain ⟨s', l'⟩ := v
    obtain ⟨-, -, gs', gl'⟩ := hT q s' l' eC
    obtain ⟨d1, d2, d3⟩ := c1 s' l' eC
    have hs' := gs'.1
    rw [d1, hc.1]
    refine zin (fun e => absurd ((ng_eq (a := s'.length) (b := 1) (by omega) (by decide)).mp e) (by omega)) (zin (by rw [h5]; decide) ⟨vp_in_nI (by omega) (by decide), ?_⟩)
    -- wrong
    have bad : s' ≠ s → (∀ T, abv C T → ¬ Cov T q s l) := fun hne T ha hcv => by
      rcases Cm_ok ha hcv with h | ⟨l2, h⟩
      · rw [eC] at h; cases h
      · rw [eC] at h; cases h; exact hne rfl
    have go0 : s' ≠ s → ∃ n, l_X10_comes_210 K n (nI (400 * m + q)) 0 (zu I 155 38 0) P := fun hne =>
      ⟨13, n_210 hm hq4 12 0 _ (by omega) (fun I' f g => k2 I' (bad hne) (FrK_t (FrK_u (by omega)) f) (by rw [g _ _ (by decide) (by omega), zu_same]) (fun j => by rw [g _ _ (by decide) (by omega), zu_nc (by decide)]))⟩
    have go1 : s' = s → ∃ n, l_X10_comes_210 K n (nI (400 * m + q)) 0 (zu I 155 38 1) P := fun he => by
      subst he
      refine ⟨13, l_210 (I0 := zu I 155 38 1) hm hq4 gl' hl (fun j hj => by rw [zu_nc (by decide)]; exact hc.2.1 j hj) (fun I' f g h => ?_) 12 0 _ (by omega) (fun _ _ _ _ => rfl) (fun j hj => absurd hj (by omega)) (fun j _ hj => by rw [zu_nc (by decide)]; exact d2 j hj) (Or.inl ⟨rfl, fun j hj => absurd hj (by omega)⟩)⟩
      have fk : FrK m I I' := fun c j q1 q2 q3 q4 => by rw [f c j (by omega) (by omega), zu_ne (by omega)]
      have h38 : I' 155 38 = 1 := by rw [f _ _ (by omega) (by omega)]; exact zu_same
      have hm1 : Cm C q s' l (upC C q (s', jnl l' l)) := Or.inr ⟨l', eC, rfl⟩
      rcases h with ⟨h39, hsame⟩ | ⟨h39, hdiff⟩
      · have hb : ble l' l := fun j hj => by
          have h1 := hsame j hj
          unfold jnl at h1
          split at h1
          · rename_i z; exact Or.inl z
          · exact Or.inr h1.symm
        refine k1 C I' ⟨RM0_K hL fk, hT, ?_⟩ fk h38 (Cur_K hc fk) ⟨l', eC, hb⟩ (blw_r C) (fun T ha _ => ha) (Or.inl ⟨rfl, by rw [h39, zu_nj (by decide)]⟩)
        intro p hp hp2
        obtain ⟨z0, z1⟩ := hC p hp hp2
        refine ⟨fun e => by rw [f _ _ (by omega) (by omega), zu_nc (by decide)]; exact z0 e, fun s1 l1 e => ?_⟩
        obtain ⟨y1, y2, y3⟩ := z1 s1 l1 e
        refine ⟨by rw [f _ _ (by omega) (by omega), zu_nc (by decide)]; exact y1, fun j hj => ?_, fun j hj => by rw [f _ _ (by omega) (by omega), zu_nc (by decide)]; exact y3 j hj⟩
        by_cases epq : p = q
        · subst epq
          rw [eC] at e; cases e
          rw [g j hj, hsame j hj]
        · rw [f _ _ (by omega) (by omega), zu_nc (by decide)]; exact y2 j hj
      · refine k1 (upC C q (s', jnl l' l)) I' ⟨RM0_K hL fk, ?_, ?_⟩ fk h38 (Cur_K hc fk) (Cov_Cm hm1) (blw_Cm hm1) (fun T ha h => abv_Cm ha h hm1) (Or.inr ⟨h39, (mu_Cm hq hm1).2 (Or.inr ⟨l', eC, hdiff⟩)⟩)
        · intro p s1 l1 e
          unfold upC at e
          split at e
          · cases e; rename_i hp; subst hp; exact ⟨hq, h2, hs, gl_jnl gl'⟩
          · exact hT p s1 l1 e
        · refine RC_keep hC ?_ g (fun j hj => ?_) hs10 (fun c j q1 q2 q3 q4 => by rw [f c j (by omega) q3, zu_ne (by omega)]) hT
          · rw [f _ _ (by omega) (by omega), zu_nc (by decide)]; exact d1
          · rw [f _ _ (by omega) (by omega), zu_nc (by decide)]; exact d3 j hj
    by_cases el : s'.length = s.length
    · refine zip (by rw [el]) ⟨s.length + 2, l_154 hm hq4 gs' hs el hc d3 go1 go0 s.length 0 (by omega) (fun j hj => absurd hj (by omega))⟩
    · refine zin (fun e => el ((nI_eq (by omega) (by omega)).mp e)) ?_
      unfold j_X10_comes_147
      have hne : s' ≠ s := fun e => el (by rw [e])
      refine ⟨1, ?_⟩
      rw [l_X10_comes_154]
      by_cases e0 : zu I 155 38 0 155 37 ≤ 0
      · exact zip e0 (go0 hne)
      · exact zin e0 (zip zu_same (go0 hne))
/-- not typed any more: nothing counts -/
theorem n_comes {A : Nat → Nat → Nat} {m : Nat} {q h : Nat} {I : zI} {P : zP} {K : zI → zP → Prop} (hm : m < 6) (hB : W0 A m) (hL : RM0 A m I) (h37 : I 155 37 = nI h) (hh : h ≤ 10) (h5 : I 155 38 = 0) (hq : q < 2 ^ 30) (k : ∀ I', FrK m I I' → I' 155 38 = 0 → (∀ j, I 167 j ≠ -1 → I' 167 j = I 167 j) → K I' P) : w_X10_comes (nI m) (nI q) I P K := by
  have b1 := hB.2.2.2.2.1
  unfold w_X10_comes
  rw [nI_clamp (by omega), hL.2.2.1]
  refine ⟨vp_in_nI hm (by decide), ?_⟩
  by_cases hq2 : q < A 0 2
  case neg => exact zin (nI_nlt (by omega) (by omega)) (k _ (FrK_u (by omega)) zu_same (fun j _ => zu_nc (by decide)))
  have e4 : (400 : Int32) * nI m + nI q = nI (400 * m + q) := by rw [show (400 : Int32) = nI 400 from rfl, pk_mul, nI_add]
  have hq4 : q < 400 := by omega
  rw [e4, nI_clamp (by omega)]
  refine zip (nI_lt hq2 (by omega)) ⟨vp_in_nI (by omega) (by decide), ?_⟩
  by_cases hnone : I 167 (400 * m + q) = -1
  · refine zip hnone ⟨vp_in_nI (by omega) (by decide), 13, ?_⟩
    have l82 : ∀ d i J, i + d = h → J 155 37 = nI h → (∀ I', FrK m J I' → I' 155 38 = J 155 38 → (∀ j, I' 167 j = J 167 j) → K I' P) → l_X10_comes_82 K (d + 1) (nI (400 * m + q)) (nI i) J P := by
      intro d
      induction d with
      | zero =>
        intro i J hi e kk
        obtain rfl : i = h := by omega
        rw [l_X10_comes_82]
        exact zip (by rw [e]; exact nI_le (Nat.le_refl _) (by omega)) (kk _ (FrK_u (by omega)) (zu_nj (by decide)) (fun j => zu_nc (by decide)))
      | succ d ih =>
        intro i J hi e kk
        rw [l_X10_comes_82]
        have e10 : 10 * nI (400 * m + q) + nI i = nI (10 * (400 * m + q) + i) := by rw [show (10 : Int32) = nI 10 from rfl, pk_mul, nI_add]
        rw [e10, nI_clamp (by omega), nI_clamp (by omega), nI_1]
        exact zin (by rw [e]; exact nI_ge (by omega) (by omega)) ⟨vp_in_nI (by omega) (by decide), vp_in_nI (by omega) (by decide), ih (i + 1) _ (by omega) (by rw [zu_nc (by decide)]; exact e) (fun I' f g g7 => kk I' (FrK_t (FrK_u (by omega)) f) (by rw [g, zu_nc (by decide)]) (fun j => by rw [g7 j, zu_nc (by decide)]))⟩
    have l47 : ∀ d i J, i + d = 12 → J 155 37 = nI h → (∀ I', FrK m J I' → I' 155 38 = J 155 38 → (∀ j, I' 167 j = J 167 j) → K I' P) → l_X10_comes_47 K (d + 1) (nI (400 * m + q)) (nI i) J P := by
      intro d
      induction d with
      | zero =>
        intro i J hi e kk
        obtain rfl : i = 12 := by omega
        rw [l_X10_comes_47]
        exact zip (nI_le (a := 12) (by omega) (by omega)) ⟨h + 1, l82 h 0 J (by omega) e kk⟩
      | succ d ih =>
        intro i J hi e kk
        rw [l_X10_comes_47]
        have e12 : 12 * nI (400 * m + q) + nI i = nI (12 * (400 * m + q) + i) := by rw [show (12 : Int32) = nI 12 from rfl, pk_mul, nI_add]
        rw [e12, nI_clamp (by omega), nI_clamp (by omega), nI_1]
        exact zin (nI_ge (b := 12) (by omega) (by decide)) ⟨vp_in_nI (by omega) (by decide), vp_in_nI (by omega) (by decide), ih (i + 1) _ (by omega) (by rw [zu_nc (by decide)]; exact e) (fun I' f g g7 => kk I' (FrK_t (FrK_u (by omega)) f) (by rw [g, zu_nc (by decide)]) (fun j => by rw [g7 j, zu_nc (by decide)]))⟩
    exact l47 12 0 _ (by omega) (by rw [zu_nc (by decide)]; exact h37) (fun I' f g g7 => k I' (FrK_t (FrK_u (by omega)) f) (by rw [g, zu_nc (by decide)]; exact h5) (fun j hj => by rw [g7 j]; by_cases e : j = 400 * m + q; exact absurd (e ▸ hnone) hj; exact zu_nj e))
  · refine zin hnone (zip h5 ?_)
    unfold j_X10_comes_147
    have go0 : ∃ n, l_X10_comes_210 K n (nI (400 * m + q)) 0 (zu I 155 38 0) P := ⟨13, n_210 hm hq4 12 0 _ (by omega) (fun I' f g => k I' (FrK_t (FrK_u (by omega)) f) (by rw [g _ _ (by decide) (by omega), zu_same]) (fun j _ => by rw [g _ _ (by decide) (by omega), zu_nc (by decide)]))⟩
    refine ⟨1, ?_⟩
    rw [l_X10_comes_154]
    by_cases e0 : zu I 155 38 0 155 37 ≤ 0
    · exact zip e0 go0
    · exact zin e0 (zip zu_same go0)
def FrL (I I' : zI) : Prop := ∀ c j, ¬ (c = 155 ∧ j = 37) → c ≠ 187 → c ≠ 188 → I' c j = I c j
theorem m_lay {A : Nat → Nat → Nat} {m p : Nat} {s : List Nat} {l : Nat → Nat} {C : TS} {I : zI} {P : zP} {K : zI → zP → Prop} (hm : m < 6) (hB : W0 A m) (hR : RS A m C I) (hC : C p = some (s, l)) (k : ∀ I', CurM s l I' → FrL I I' → K I' P) : w_X10_lay (nI m) (nI p) I P K := by
  obtain ⟨hp, h2, gs1, gl1⟩ := hR.2.1 p s l hC
  obtain ⟨-, d⟩ := hR.2.2 p hp h2
  obtain ⟨d1, d2, d3⟩ := d s l hC
  have b1 := hB.2.2.2.2.1
  have hs := gs1.1
  have e4 : (400 : Int32) * nI m + nI p = nI (400 * m + p) := by rw [show (400 : Int32) = nI 400 from rfl, pk_mul, nI_add]
  unfold w_X10_lay
  rw [e4, nI_clamp (by omega), d1]
  have l56 : ∀ d i J, i + d = s.length → J 155 37 = nI s.length → (∀ j, j < s.length → J 169 (10 * (400 * m + p) + j) = nI (bot s j)) → (∀ j, j < i → J 188 j = nI (bot s j)) → (∀ I', (∀ c j, c ≠ 188 → I' c j = J c j) → (∀ j, j < s.length → I' 188 j = nI (bot s j)) → K I' P) → l_X10_lay_56 K (d + 1) (nI (400 * m + p)) (nI i) J P := by
    intro d
    induction d with
    | zero =>
      intro i J hi e g9 g8 kk
      obtain rfl : i = s.length := by omega
      rw [l_X10_lay_56]
      exact zip (by rw [e]; exact nI_le (Nat.le_refl _) (by omega)) (kk J (fun _ _ _ => rfl) g8)
    | succ d ih =>
      intro i J hi e g9 g8 kk
      rw [l_X10_lay_56]
      have e10 : 10 * nI (400 * m + p) + nI i = nI (10 * (400 * m + p) + i) := by rw [show (10 : Int32) = nI 10 from rfl, pk_mul, nI_add]
      rw [e10, nI_clamp (by omega), nI_clamp (by omega), nI_1, g9 i (by omega)]
      refine zin (by rw [e]; exact nI_ge (by omega) (by omega)) ⟨vp_in_nI (by omega) (by decide), vp_in_nI (by omega) (by decide), ih (i + 1) _ (by omega) (by rw [zu_nc (by decide)]; exact e) (fun j hj => by rw [zu_nc (by decide)]; exact g9 j hj) (fun j hj => ?_) (fun I' f g => kk I' (fun c j q => by rw [f c j q, zu_nc q]) g)⟩
      by_cases ej : j = i
      · rw [ej, zu_same]
      · rw [zu_nj ej]; exact g8 j (by omega)
  have l21 : ∀ d i J, i + d = 12 → J 155 37 = nI s.length → (∀ j, j < 12 → J 168 (12 * (400 * m + p) + j) = nI (l j)) → (∀ j, j < s.length → J 169 (10 * (400 * m + p) + j) = nI (bot s j)) → (∀ j, j < i → J 187 j = nI (l j)) → (∀ I', (∀ c j, c ≠ 187 → c ≠ 188 → I' c j = J c j) → (∀ j, j < 12 → I' 187 j = nI (l j)) → (∀ j, j < s.length → I' 188 j = nI (bot s j)) → K I' P) → l_X10_lay_21 K (d + 1) (nI (400 * m + p)) (nI i) J P := by
    intro d
    induction d with
    | zero =>
      intro i J hi e g8 g9 g7 kk
      obtain rfl : i = 12 := by omega
      rw [l_X10_lay_21]
      exact zip (nI_le (a := 12) (by omega) (by omega)) ⟨s.length + 1, l56 s.length 0 J (by omega) e g9 (fun j hj => absurd hj (by omega)) (fun I' f g => kk I' (fun c j q1 q2 => f c j q2) (fun j hj => by rw [f _ _ (by omega)]; exact g7 j hj) g)⟩
    | succ d ih =>
      intro i J hi e g8 g9 g7 kk
      rw [l_X10_lay_21]
      have e12 : 12 * nI (400 * m + p) + nI i = nI (12 * (400 * m + p) + i) := by rw [show (12 : Int32) = nI 12 from rfl, pk_mul, nI_add]
      rw [e12, nI_clamp (by omega), nI_clamp (by omega), nI_1, g8 i (by omega)]
      refine zin (nI_ge (b := 12) (by omega) (by decide)) ⟨vp_in_nI (by omega) (by decide), vp_in_nI (by omega) (by decide), ih (i + 1) _ (by omega) (by rw [zu_nc (by decide)]; exact e) (fun j hj => by rw [zu_nc (by decide)]; exact g8 j hj) (fun j hj => by rw [zu_nc (by decide)]; exact g9 j hj) (fun j hj => ?_) (fun I' f g => kk I' (fun c j q1 q2 => by rw [f c j q1 q2, zu_nc q1]) g)⟩
      by_cases ej : j = i
      · rw [ej, zu_same]
      · rw [zu_nj ej]; exact g7 j (by omega)
  refine ⟨vp_in_nI (by omega) (by decide), 13, l21 12 0 _ (by omega) zu_same (fun j hj => by rw [zu_nc (by decide)]; exact d2 j hj) (fun j hj => by rw [zu_nc (by decide)]; exact d3 j hj) (fun j hj => absurd hj (by omega)) (fun I' f g7 g8 => k I' ⟨by rw [f _ _ (by omega) (by omega)]; exact zu_same, g7, g8⟩ (fun c j q1 q2 q3 => by rw [f c j q2 q3, zu_ne q1]))⟩
