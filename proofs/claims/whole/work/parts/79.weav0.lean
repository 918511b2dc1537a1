/-! PURE 40: unweave, clear, make over Rel -/
theorem Rel_n {n k : Nat} {A : Nat → Nat → Nat → Nat} {B : Nat → Nat → Nat} {I : zI} (h : Rel n A k B I) : n ≤ 6 ∧ I 0 9 = nI n ∧ I 155 3 = nI n := ⟨h.2.2.2.1.1, h.2.2.2.1.2.1, h.2.2.2.1.2.2.1⟩
/-- some METHOD is not woven any more -/
theorem Rel_u {n k m : Nat} {A : Nat → Nat → Nat → Nat} {B : Nat → Nat → Nat} {I I' : zI} (hm : m < 6) (h : Rel n A k B I) (h1 : I' (26 + 12 * m) 5 = 0) (h2 : I' 175 m = -1) (f : ∀ c j, ¬ (c = 26 + 12 * m ∧ j = 5) → ¬ (c = 175 ∧ j = m) → I' c j = I c j) : Rel n A k B I' := by
  obtain ⟨g1, g2, g3, g4, g5, g6, g7, g8, g9⟩ := h
  have h6n := g4.1
  refine ⟨RTp_c g1 (fun c j q => f c j (by omega) (by omega)), by rw [f _ _ (by omega) (by omega), f _ _ (by omega) (by omega)]; exact g2, by rw [f _ _ (by omega) (by omega), f _ _ (by omega) (by omega)]; exact g3, RM_c g4 (f _ _ (by omega) (by omega)) (f _ _ (by omega) (by omega)) (fun m' hm' c j q => f c j (by unfold blkM at q; omega) (by unfold blkM at q; omega)), g5, fun m' hm' => by rw [f _ _ (by omega) (by omega)]; exact g6 m' hm', PB_c g7 (fun c j q => f c j (by omega) (by omega)), fun m' hm' => ?_, fun j hj => RT_c hj (g9 j hj) (fun c i q => f c i (by omega) (by omega))⟩
  by_cases e : m' = m
  · subst e; exact Or.inl ⟨h1, h2⟩
  · exact VW_c (fun m hm => (g4.2.2.2 m hm).2.2) (g8 m' hm') (fun c j q => f c j (by unfold blkW at q; omega) (by unfold blkW at q; omega))
theorem k_unweave {a : Nat → Int32} {I : zI} {P : zP} (hP : PSt P) (h : RelE I P) : ok_unweave a RelE I P := by
  obtain ⟨n, A, k, B, hR⟩ := h
  obtain ⟨hn, e1, e2⟩ := Rel_n hR
  unfold ok_unweave w_X9_unweave w_X10_unweave
  rcases ix_cases (a 1) (n := n) (by omega) with ⟨m, hm, e⟩ | hno
  · rw [e]
    have hm6 : m < 6 := by omega
    have fin : Rel n A k B (zu (zu I (26 + 12 * m) 5 0) 175 m (-1)) := Rel_u hm6 hR (by rw [zu_nc (by omega), zu_same]) zu_same (fun c j q1 q2 => by rw [zu_ne q2, zu_ne q1])
    have lp : P 19 (nI m).toNatClampNeg = some (20 + 12 * m) := by rw [nI_clamp (by omega)]; exact pM hP hm6
    have e2' : zu I (26 + 12 * m) 5 0 155 3 = nI n := by rw [zu_nc (by omega)]; exact e2
    refine s_isMT e1 hn hm (zin (by decide) ⟨vp_in_nI hm6 (by decide), _, lp, shM hm6, _, pM6 hP hm6, shW hm6, vp_in_nI hm6 (by decide), _, lp, shM hm6, _, pM6 hP hm6, shW hm6, ?_⟩)
    have tail : ∀ (v : Int32), j_X10_unweave_24 (fun r2 I3 P3 => v = r2 ∧ RelE I3 P3) (nI m) v (zu I (26 + 12 * m) 5 0) P := fun v => by
      unfold j_X10_unweave_24
      rw [nI_clamp (by omega)]
      exact ⟨vp_in_nI hm6 (by decide), rfl, n, A, k, B, fin⟩
    rcases hR.2.2.2.2.2.2.2.1 m hm6 with ⟨w1, w2⟩ | ⟨-, w1, w, F, hw, w2⟩
    · refine zip w1 (s_misMT e2' hn hm (zin (by decide) (s_woF hm6 (by rw [zu_nc (by omega)]; exact w2) (zip rfl (tail 0)))))
    · have h24 := hR.2.2.2.2.2.2.1.1
      refine zin (by rw [w1]; decide) (s_misMT e2' hn hm (zin (by decide) (s_woT (w := w) hm6 (by rw [zu_nc (by omega)]; exact w2.2.2.2.2.2.2.2.2.2.2.2.1) (by omega) (zin (by decide) (tail 1)))))
  · exact s_isMF e1 hno (zip rfl (s_misMF e2 hn hno (zip rfl ⟨rfl, n, A, k, B, hR⟩)))
def clL (I : zI) (i : Nat) : zI := fun c j => if (∃ m, m < i ∧ c = 26 + 12 * m) ∧ j = 5 then 0 else I c j
def clM (I : zI) (i : Nat) : zI := fun c j => if c = 175 ∧ j < i then -1 else I c j
theorem k_clear {a : Nat → Int32} {I : zI} {P : zP} (hP : PSt P) (h : RelE I P) : ok_clear a RelE I P := by
  obtain ⟨n, A, k, B, hR⟩ := h
  obtain ⟨hn, e1, e2⟩ := Rel_n hR
  obtain ⟨hk, p1, p2, -⟩ := hR.2.2.2.2.2.2.1
  unfold ok_clear w_X9_clear w_X10_clear
  -- the loom
  have lL : ∀ (KK : Int32 → zI → zP → Prop) (v : Int32) d i J, i + d = 6 → (∀ J', (∀ c j, ¬ ((∃ m, m < 6 ∧ c = 26 + 12 * m) ∧ j = 5) → J' c j = J c j) → (∀ m, m < 6 → (i ≤ m ∨ J (26 + 12 * m) 5 = 0) → J' (26 + 12 * m) 5 = 0) → KK v J' P) → l_X9_clear_18 KK (d + 1) v (nI i) J P := by
    intro KK v d
    induction d with
    | zero =>
      intro i J hi kk
      obtain rfl : i = 6 := by omega
      rw [l_X9_clear_18]
      exact zip (by decide) (kk J (fun _ _ _ => rfl) (fun m hm q => q.resolve_left (by omega)))
    | succ d ih =>
      intro i J hi kk
      rw [l_X9_clear_18, nI_1]
      refine zin (nI_ge (b := 6) (by omega) (by decide)) ⟨vp_in_nI (by omega) (by decide), _, by rw [nI_clamp (by omega)]; exact pM hP (by omega), shM (by omega), _, pM6 hP (by omega), shW (by omega), ih (i + 1) _ (by omega) (fun J' f g => kk J' (fun c j q => ?_) (fun m hm q => ?_))⟩
      · rw [f c j q, zu_ne (fun z => q ⟨⟨i, by omega, z.1⟩, z.2⟩)]
      · refine g m hm ?_
        by_cases e : m = i
        · subst e; exact Or.inr zu_same
        · rcases q with q | q
          · exact Or.inl (by omega)
          · exact Or.inr (by rw [zu_nc (by omega)]; exact q)
  have lM : ∀ (KK : Int32 → zI → zP → Prop) (v : Int32) d i J, i + d = 6 → (∀ J', (∀ c j, ¬ (c = 175 ∧ j < 6) → J' c j = J c j) → (∀ m, m < 6 → (i ≤ m ∨ J 175 m = -1) → J' 175 m = -1) → KK v J' P) → l_X10_clear_12 KK (d + 1) v (nI i) J P := by
    intro KK v d
    induction d with
    | zero =>
      intro i J hi kk
      obtain rfl : i = 6 := by omega
      rw [l_X10_clear_12]
      exact zip (by decide) (kk J (fun _ _ _ => rfl) (fun m hm q => q.resolve_left (by omega)))
    | succ d ih =>
      intro i J hi kk
      rw [l_X10_clear_12, nI_1, nI_clamp (by omega)]
      refine zin (nI_ge (b := 6) (by omega) (by decide)) ⟨vp_in_nI (by omega) (by decide), ih (i + 1) _ (by omega) (fun J' f g => kk J' (fun c j q => ?_) (fun m hm q => ?_))⟩
      · rw [f c j q, zu_ne (by omega)]
      · refine g m hm ?_
        by_cases e : m = i
        · subst e; exact Or.inr zu_same
        · rcases q with q | q
          · exact Or.inl (by omega)
          · exact Or.inr (by rw [zu_nj e]; exact q)
  refine ⟨7, lL _ _ 6 0 _ (by omega) (fun J f g => ?_)⟩
  have j17 : J 155 17 = nI k := by rw [f _ _ (by rintro ⟨⟨m', hm', z⟩, zz⟩; omega), zu_nc (by decide)]; exact p2
  refine ⟨7, lM _ _ 6 0 _ (by omega) (fun L f2 g2 => ⟨by rw [p1, j17], n, A, 0, B, ?_⟩)⟩
  have fr : ∀ c j, ¬ ((∃ m, m < 6 ∧ c = 26 + 12 * m) ∧ j = 5) → ¬ (c = 175 ∧ j < 6) → ¬ (c = 108 ∧ j = 5) → ¬ (c = 155 ∧ j = 17) → L c j = I c j := fun c j q1 q2 q3 q4 => by
    rw [f2 c j q2, zu_ne q4, f c j q1, zu_ne q3]
  have hw0 : ∀ m, m < 6 → L (26 + 12 * m) 5 = 0 := fun m hm => by rw [f2 _ _ (by omega), zu_nc (by omega)]; exact g m hm (Or.inl (by omega))
  have hw1 : ∀ m, m < 6 → L 175 m = -1 := fun m hm => g2 m hm (Or.inl (by omega))
  obtain ⟨g1', g2', g3', g4', g5', g6', -, -, g9'⟩ := hR
  have nw : ∀ c j, (c < 26 ∨ 87 ≤ c ∨ j ≠ 5 ∨ (c - 26) % 12 ≠ 0) → ¬ ((∃ m, m < 6 ∧ c = 26 + 12 * m) ∧ j = 5) := fun c j q => by
    rintro ⟨⟨m', hm', z⟩, zz⟩; omega
  have hn' := g4'.1
  refine ⟨RTp_c g1' (fun c j q => fr c j (nw _ _ (by omega)) (by omega) (by omega) (by omega)), by rw [fr _ _ (nw _ _ (by omega)) (by omega) (by omega) (by omega), fr _ _ (nw _ _ (by omega)) (by omega) (by omega) (by omega)]; exact g2', by rw [fr _ _ (nw _ _ (by omega)) (by omega) (by omega) (by omega), fr _ _ (nw _ _ (by omega)) (by omega) (by omega) (by omega)]; exact g3', RM_c g4' (fr _ _ (nw _ _ (by omega)) (by omega) (by omega) (by omega)) (fr _ _ (nw _ _ (by omega)) (by omega) (by omega) (by omega)) (fun m hm c j q => fr c j (nw _ _ (by unfold blkM at q; omega)) (by unfold blkM at q; omega) (by unfold blkM at q; omega) (by unfold blkM at q; omega)), g5', fun m hm => by rw [fr _ _ (nw _ _ (by omega)) (by omega) (by omega) (by omega)]; exact g6' m hm, ⟨by omega, ?_, ?_, fun q hq => absurd hq (by omega)⟩, fun m hm => Or.inl ⟨hw0 m hm, hw1 m hm⟩, fun j hj => RT_c hj (g9' j hj) (fun c i q => fr c i (nw _ _ (by omega)) (by omega) (by omega) (by omega))⟩
  · rw [f2 _ _ (by omega), zu_nc (by decide), f _ _ (nw _ _ (by omega))]; exact zu_same
  · rw [f2 _ _ (by omega)]; exact zu_same
theorem k_make {a : Nat → Int32} {I : zI} {P : zP} (hP : PSt P) (h : RelE I P) : ok_make a RelE I P := by
  obtain ⟨n, A, k, B, hR⟩ := h
  obtain ⟨hn, e1, e2⟩ := Rel_n hR
  have hR0 := hR
  obtain ⟨t, b, ht, h8, h1, hb, hb2⟩ := hR.1
  obtain ⟨g1, g2, g3, g4, g5, g6, g7, g8, g9⟩ := hR
  unfold ok_make
  by_cases hn6 : n = 6
  · subst hn6
    unfold w_X9_make w_X10_make
    rw [e1]
    refine zin (by decide) (zin (by decide) ?_)
    have e2' : zu (zu I 0 8 0) 0 10 (-1) 155 3 = nI 6 := by rw [zu_nc (by decide), zu_nc (by decide)]; exact e2
    refine zip (by rw [e2']; rfl) ⟨rfl, 6, A, k, B, ?_⟩
    have fr : ∀ c j, ¬ (c = 0 ∧ (j = 8 ∨ j = 10)) → ¬ (c = 155 ∧ (j = 1 ∨ j = 2)) → zu (zu (zu (zu I 0 8 0) 0 10 (-1)) 155 1 0) 155 2 (-1) c j = I c j := fun c j q1 q2 => by rw [zu_ne (by omega), zu_ne (by omega), zu_ne (by omega), zu_ne (by omega)]
    have f8 : zu (zu (zu (zu I 0 8 0) 0 10 (-1)) 155 1 0) 155 2 (-1) 0 8 = 0 := by rw [zu_nc (by decide), zu_nc (by decide), zu_nj (by decide), zu_same]
    have f10 : zu (zu (zu (zu I 0 8 0) 0 10 (-1)) 155 1 0) 155 2 (-1) 0 10 = -1 := by rw [zu_nc (by decide), zu_nc (by decide), zu_same]
    have f1 : zu (zu (zu (zu I 0 8 0) 0 10 (-1)) 155 1 0) 155 2 (-1) 155 1 = 0 := by rw [zu_nj (by decide), zu_same]
    have f2 : zu (zu (zu (zu I 0 8 0) 0 10 (-1)) 155 1 0) 155 2 (-1) 155 2 = -1 := zu_same
    generalize zu (zu (zu (zu I 0 8 0) 0 10 (-1)) 155 1 0) 155 2 (-1) = J at fr f8 f10 f1 f2 ⊢
    exact ⟨⟨0, b, by omega, f8, f1, fun j hj => ⟨(hb j hj).1, by rw [fr _ _ (by omega) (by omega)]; exact (hb j hj).2⟩, fun j hj => absurd hj (by omega)⟩, by rw [f10, f2], by rw [fr _ _ (by omega) (by omega), fr _ _ (by omega) (by omega)]; exact g3, RM_c g4 (fr _ _ (by omega) (by omega)) (fr _ _ (by omega) (by omega)) (fun m hm c j q => fr c j (by unfold blkM at q; omega) (by unfold blkM at q; omega)), g5, fun m hm => by rw [fr _ _ (by omega) (by omega)]; exact g6 m hm, PB_c g7 (fun c j q => fr c j (by omega) (by omega)), fun m hm => VW_c (fun m hm => (g4.2.2.2 m hm).2.2) (g8 m hm) (fun c j q => fr c j (by unfold blkW at q; omega) (by unfold blkW at q; omega)), fun j hj => RT_c hj (g9 j hj) (fun c i q => fr c i (by omega) (by omega))⟩
  have hn5 : n < 6 := by omega
  have hunw : I (26 + 12 * n) 5 = 0 ∧ I 175 n = -1 := by
    rcases g8 n hn5 with z | ⟨z, -⟩
    · exact z
    · omega
  have har : ∀ j, j < n → (fun i => if i = n then b 0 else A i 0 0) j ≤ 4 ∧ I (20 + 12 * j) 7 = nI ((fun i => if i = n then b 0 else A i 0 0) j) ∧ I 157 j = nI ((fun i => if i = n then b 0 else A i 0 0) j) := fun j hj => by
    obtain ⟨z1, z2, z3⟩ := g4.2.2.2 j hj
    dsimp only
    rw [if_neg (by omega)]
    exact ⟨z3.1, z1.1, z2.1⟩
  have har2 : (fun i => if i = n then b 0 else A i 0 0) n = b 0 := if_pos rfl
  generalize hae : (fun i => if i = n then b 0 else A i 0 0) = ar at har har2
  -- what is left alone by both
  have keep : ∀ {I1 I2 : zI}, FrML n I I1 → FrMM n I1 I2 → I2 0 8 = 0 → I2 155 1 = 0 → I2 0 10 = I2 155 2 → (∀ (n2 : Nat) (A2 : Nat → Nat → Nat → Nat), n ≤ n2 → (∀ m, m < n → A2 m = A m) → RM n2 A2 I2 → (∀ m, m < n2 → WFm A2 m) → I2 175 n = -1 → RelE I2 P) := by
    intro I1 I2 f1 f2 q8 q1 q10 n2 A2 hn2 hA2 hRM hWF h175
    have fr : ∀ c j, ¬ (c = 0 ∧ 8 ≤ j ∧ j ≤ 10) → ¬ tfL n c j → ¬ (c = 4 ∧ 2 ≤ j ∧ j ≤ 5) → c ≠ 5 → c ≠ 6 → c ≠ 23 + 12 * n → c ≠ 24 + 12 * n → ¬ (c = 155 ∧ ((1 ≤ j ∧ j ≤ 3) ∨ (37 ≤ j ∧ j ≤ 39))) → ¬ tfR n c j → c ≠ 187 → c ≠ 188 → ¬ (c = 167 ∧ 400 * n ≤ j ∧ j < 400 * n + 400) → ¬ (c = 168 ∧ 4800 * n ≤ j ∧ j < 4800 * n + 4800) → ¬ (c = 169 ∧ 4000 * n ≤ j ∧ j < 4000 * n + 4000) → ¬ (c = 175 ∧ j = n) → I2 c j = I c j := fun c j q1 q2 q3 q4 q5 q6 q7 q8 q9 q10 q11 q12 q13 q14 q15 => by
      rw [f2 c j q8 q9 q10 q11 q12 q13 q14 q15, f1 c j q1 q2 q3 q4 q5 q6 q7]
    have hn26 := hRM.1
    have fs : ∀ c j, (c = 1 ∨ (c = 0 ∧ j = 11) ∨ (c = 155 ∧ (j = 17 ∨ j = 73)) ∨ (108 ≤ c ∧ c ≤ 113) ∨ (170 ≤ c ∧ c ≤ 174) ∨ (93 ≤ c ∧ c ≤ 107) ∨ (208 ≤ c ∧ c ≤ 220) ∨ (∃ m, m < 6 ∧ c = 20 + 12 * m ∧ j = 0)) → I2 c j = I c j := fun c j q => by
      have q' : c = 1 ∨ (c = 0 ∧ j = 11) ∨ (c = 155 ∧ (j = 17 ∨ j = 73)) ∨ (108 ≤ c ∧ c ≤ 113) ∨ (170 ≤ c ∧ c ≤ 174) ∨ (93 ≤ c ∧ c ≤ 107) ∨ (208 ≤ c ∧ c ≤ 220) ∨ ((c = 20 ∨ c = 32 ∨ c = 44 ∨ c = 56 ∨ c = 68 ∨ c = 80) ∧ j = 0) := by
        rcases q with q | q | q | q | q | q | q | ⟨m, hm, q1, q2⟩ <;> omega
      refine fr c j ?_ ?_ ?_ ?_ ?_ ?_ ?_ ?_ ?_ ?_ ?_ ?_ ?_ ?_ ?_ <;> first | omega | (unfold tfL; omega) | (unfold tfR; omega)
    have fw : ∀ m c j, m < 6 → blkW m c j → ¬ (c = 175 ∧ j = n) → I2 c j = I c j := fun m c j hm q hq => by
      unfold blkW at q
      refine fr c j ?_ ?_ ?_ ?_ ?_ ?_ ?_ ?_ ?_ ?_ ?_ ?_ ?_ ?_ ?_ <;> first | omega | (unfold tfL; omega) | (unfold tfR; omega)
    refine ⟨n2, A2, k, B, ⟨0, b, by omega, q8, q1, fun j hj => ⟨(hb j hj).1, by rw [fs 1 j (Or.inl rfl)]; exact (hb j hj).2⟩, fun j hj => absurd hj (by omega)⟩, q10, by rw [fs 0 11 (by omega), fs 155 73 (by omega)]; exact g3, hRM, hWF, fun m hm => by rw [fs _ _ (Or.inr (Or.inr (Or.inr (Or.inr (Or.inr (Or.inr (Or.inr ⟨m, hm, rfl, rfl⟩)))))))]; exact g6 m hm, ?_, fun m hm => ?_, fun j hj => RT_c hj (g9 j hj) (fun c i q => fs c i (by omega))⟩
    · obtain ⟨y1, y2, y3, y4⟩ := PB_c g7 (I' := I2) (fun c j q => fs c j (by omega))
      refine ⟨y1, y2, y3, fun q hq => ?_⟩
      obtain ⟨x1, x2, x3, x4, x5, x6, x7, x8, x9, x10, x11, x12, x13, x14⟩ := y4 q hq
      have ex := hA2 (B 1 q) x10
      exact ⟨x1, x2, x3, x4, x5, x6, x7, x8, x9, by omega, by rw [ex]; exact x11, by rw [ex]; exact x12, by rw [ex]; exact x13, x14⟩
    · by_cases e : m = n
      · subst e
        refine Or.inl ⟨?_, h175⟩
        rw [fw m _ _ hm (by unfold blkW; omega) (by omega)]; exact hunw.1
      · rcases g8 m hm with ⟨w1, w2⟩ | ⟨hmn, w1, w, F, hw, w2⟩
        · exact Or.inl ⟨by rw [fw m _ _ hm (by unfold blkW; omega) (by omega)]; exact w1, by rw [fw m _ _ hm (by unfold blkW; omega) (by omega)]; exact w2⟩
        · have hB := (g4.2.2.2 m hmn).2.2
          refine Or.inr ⟨by omega, by rw [fw m _ _ hm (by unfold blkW; omega) (by omega)]; exact w1, w, F, hw, ?_⟩
          rw [hA2 m hmn]
          exact WVo_c hB.2.2.2.2.1 hB.2.2.2.2.2.1 w2 (fun c j q => fw m c j hm q (by unfold blkW at q; omega))
  -- old METHODS stay
  have olds : ∀ {I1 I2 : zI}, FrML n I I1 → FrMM n I1 I2 → ∀ m, m < n → LMI (A m) m I2 ∧ RMI (A m) m I2 ∧ WB (A m) := by
    intro I1 I2 f1 f2 m hm
    obtain ⟨z1, z2, z3⟩ := g4.2.2.2 m hm
    have fr : ∀ c j, (c = 20 + 12 * m ∧ 7 ≤ j ∧ j ≤ 10) ∨ (21 + 12 * m ≤ c ∧ c ≤ 25 + 12 * m) ∨ blkM m c j → I2 c j = I c j := fun c j q => by
      unfold blkM at q
      rw [f2 c j ?_ ?_ ?_ ?_ ?_ ?_ ?_ ?_, f1 c j ?_ ?_ ?_ ?_ ?_ ?_ ?_] <;> first | omega | (unfold tfL; omega) | (unfold tfR; omega)
    exact ⟨LMI_c z1 (fun c j q => fr c j (by omega)), RMI_c z3 z2 (fun c j q => fr c j (Or.inr (Or.inr q))), z3⟩
  have frR : ∀ {I1 : zI}, FrML n I I1 → ∀ c j, 155 ≤ c → I1 c j = I c j := fun f1 c j q => f1 c j (by omega) (by unfold tfL; omega) (by omega) (by omega) (by omega) (by omega) (by omega)
  refine mk_L (ar := ar) hP hn5 e1 h8 ht (g6 n hn5) hb (fun j hj => ⟨(har j hj).1, (har j hj).2.1⟩) har2 (fun f x I1 P1 m1 hP1 f1 q8 q9 q10 => ?_) (fun C I1 P1 m1 hP1 f1 q8 q9 q10 qL qC qW qj qh qc qab => ?_)
  · have ref := frR f1
    refine mk_M (ar := ar) hn5 (by rw [ref _ _ (by omega)]; exact e2) (by rw [ref _ _ (by omega)]; exact h1) ht (fun j hj => (hb j hj).1) (fun j hj => by rw [ref _ _ (by omega)]; exact hb2 j hj) (fun j hj => ⟨(har j hj).1, by rw [ref _ _ (by omega)]; exact (har j hj).2.2⟩) har2 (fun f' x' I2 m2 f2 y1 y3 y2 y175 => ?_) (fun C I2 m2 f2 _ _ _ _ _ _ _ _ => ?_)
    · have hu := MKR_u m1 m2
      cases hu
      have i8 : I2 0 8 = 0 := by rw [f2 _ _ (by omega) (by unfold tfR; omega) (by omega) (by omega) (by omega) (by omega) (by omega) (by omega)]; exact q8
      have i9 : I2 0 9 = nI n := by rw [f2 _ _ (by omega) (by unfold tfR; omega) (by omega) (by omega) (by omega) (by omega) (by omega) (by omega)]; exact q9
      have i10 : I2 0 10 = nI x := by rw [f2 _ _ (by omega) (by unfold tfR; omega) (by omega) (by omega) (by omega) (by omega) (by omega) (by omega)]; exact q10
      exact ⟨rfl, keep f1 f2 i8 y1 (by rw [i10, y2]) n A (Nat.le_refl _) (fun _ _ => rfl) ⟨hn, i9, y3, olds f1 f2⟩ g5 (by rw [y175, ref _ _ (by omega)]; exact hunw.2)⟩
    · have hu := MKR_u m1 m2
      cases hu
  · have ref := frR f1
    refine mk_M (ar := ar) hn5 (by rw [ref _ _ (by omega)]; exact e2) (by rw [ref _ _ (by omega)]; exact h1) ht (fun j hj => (hb j hj).1) (fun j hj => by rw [ref _ _ (by omega)]; exact hb2 j hj) (fun j hj => ⟨(har j hj).1, by rw [ref _ _ (by omega)]; exact (har j hj).2.2⟩) har2 (fun f' x' I2 m2 f2 _ _ _ _ => ?_) (fun D I2 m2 f2 y1 y3 y2 y175 yM yR yc yab => ?_)
    · have hu := MKR_u m1 m2
      cases hu
    · have fL : ∀ c j, c < 155 → I2 c j = I1 c j := fun c j q => f2 c j (by omega) (by unfold tfR; omega) (by omega) (by omega) (by omega) (by omega) (by omega) (by omega)
      have hCD := abv_anti (qab D yc) (yab C qc)
      have hTC := qc.1
      refine ⟨rfl, keep f1 f2 (by rw [fL _ _ (by omega)]; exact q8) y1 (by rw [fL _ _ (by omega), q10, y2]) (n + 1) (fun i => if i = n then aT (fA b) C else A i) (by omega) (fun m hm => if_neg (by omega)) ⟨by omega, by rw [fL _ _ (by omega)]; exact q9, y3, fun m hm => ?_⟩ (fun m hm => ?_) y175⟩
      · dsimp only
        by_cases e : m = n
        · subst e
          rw [if_pos rfl]
          refine ⟨LMI_c (LMI_aT hTC qL qC) (fun c j q => fL c j (by omega)), RMI_aT hTC yM yR hCD, WB_aT hTC qW⟩
        · rw [if_neg e]
          exact olds f1 f2 m (by omega)
      · by_cases e : m = n
        · subst e
          refine ⟨by dsimp only; rw [if_pos rfl]; exact W0_aT qW, by dsimp only; rw [if_pos rfl]; exact fun p hp => jok_aT (qj p hp), by dsimp only; rw [if_pos rfl]; exact fun k hk => hok_aT (qh k hk), ar, C, fun j hj => ?_, by dsimp only; rw [if_pos rfl]; exact Cons_aT qc⟩
          dsimp only
          by_cases e : j = m
          · subst e
            rw [if_pos rfl, har2]; rfl
          · rw [if_neg e, ← hae]
            dsimp only
            rw [if_neg e]
        · obtain ⟨z1, z2, z3, ar', T, z4, z5⟩ := g5 m (by omega)
          refine ⟨by dsimp only; rw [if_neg e]; exact z1, by dsimp only; rw [if_neg e]; exact z2, by dsimp only; rw [if_neg e]; exact z3, ar', T, fun j hj => by dsimp only; rw [if_neg (by omega)]; exact z4 j hj, by dsimp only; rw [if_neg e]; exact z5⟩
