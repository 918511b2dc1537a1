/-! PURE 25: the judge's OPs -/
theorem s_j100 {c : Nat} {s : List Nat} {I : zI} {P : zP} {K : zI → zP → Prop} (hc : c < 44) (h40 : c ≠ 40) (hs : gs s) (h3 : I 4 3 = nI (enS s)) (k1 : ∀ z I', (if pts c = 0 then some s else pshT (pts c) s) = some z → I' 4 3 = nI (enS z) → I' 4 5 = I 4 5 → FrJ I I' → I' 4 4 = I 4 4 → K I' P) (k2 : ∀ I', (if pts c = 0 then some s else pshT (pts c) s) = none → FrJ I I' → I' 4 5 = 1 → K I' P) : j_X1_doTyped_100 K (nI c) I P := by
  unfold j_X1_doTyped_100
  have psh : ∀ t, pts c = t → (t = 1 ∨ t = 2) → w_X1_put (nI t) I P (fun I5 P5 => K I5 P5) := fun t e ht => by
    rw [e, if_neg (by omega)] at k1 k2
    unfold pshT at k1 k2
    by_cases hl : s.length < 10
    · rw [if_pos hl] at k1
      exact s_put (gs4 hs) hl (by omega) h3 (k1 _ _ rfl zu_same (zu_nj (by decide)) (FrJ_u (by decide)) (zu_nj (by decide)))
    · rw [if_neg hl] at k2
      exact s_putF (gs4 hs) (by have := hs.1; omega) h3 (k2 _ rfl (FrJ_u (by decide)) zu_same)
  by_cases h36 : c = 36
  · subst h36
    exact zip rfl (psh 2 rfl (Or.inr rfl))
  · refine zin (fun e => h36 ((nI_eq (b := 36) (by omega) (by decide)).mp e)) ⟨vp_in_nI hc (by decide), ?_⟩
    rw [zT2_r c hc h40 h36]
    have pr := pts_r c
    have p2 : pts c ≠ 2 := by unfold pts; rw [if_neg h36]; split <;> decide
    by_cases p0 : pts c = 0
    · rw [if_pos p0] at k1
      exact zip (by rw [p0]; decide) (k1 s I rfl h3 rfl (FrJ_r I) rfl)
    · have p1 : pts c = 1 := by omega
      exact zin (by rw [p1]; decide) (psh 1 p1 (Or.inl rfl))
theorem a_j100 {c : Nat} {I : zI} {P : zP} {K : zI → zP → Prop} (hc : c < 44) (h5 : I 4 5 = 1) (k : ∀ I', FrJ I I' → I' 4 5 = 1 → K I' P) : j_X1_doTyped_100 K (nI c) I P := by
  unfold j_X1_doTyped_100
  split
  · exact a_put h5 k
  · refine ⟨vp_in_nI hc (by decide), ?_⟩
    split
    · exact k I (FrJ_r I) h5
    · exact a_put h5 k
theorem a_dtC {c : Nat} {I : zI} {P : zP} {K : zI → zP → Prop} (hc : c < 44) (h5 : I 4 5 = 1) (k : ∀ I', FrJ I I' → I' 4 5 = 1 → K I' P) : dtC K c I P := by
  have h78 : j_X1_doTyped_78 K (nI c) I P := by
    unfold j_X1_doTyped_78
    rw [h5]
    refine a_take h5 (fun v I' f g => ?_)
    unfold j_X1_doTyped_96
    have nx : ∀ x : Int32, x = 1 → j_X1_doTyped_100 K (nI c) (zu I' 4 5 x) P := fun x hx => a_j100 hc (by rw [zu_same]; exact hx) (fun I2 f2 g2 => k I2 (FrJ_t f (FrJ_t (FrJ_u (by decide)) f2)) g2)
    split
    · exact ⟨by rw [or10]; exact zbo1, nx _ or10⟩
    · exact ⟨by rw [or11]; exact zbo1, nx _ or11⟩
  unfold dtC
  split
  · exact h78
  split
  · exact h78
  split
  · exact h78
  · exact a_j100 hc h5 k
theorem s_dtC {c : Nat} {s : List Nat} {I : zI} {P : zP} {K : zI → zP → Prop} (hc : c < 44) (h40 : c ≠ 40) (hs : gs s) (h3 : I 4 3 = nI (enS s)) (h5 : zbo (I 4 5)) (k1 : ∀ z I', ((popR c s).bind fun s2 => if pts c = 0 then some s2 else pshT (pts c) s2) = some z → I' 4 3 = nI (enS z) → I' 4 5 = I 4 5 → FrJ I I' → I' 4 4 = I 4 4 → K I' P) (k2 : ∀ I', ((popR c s).bind fun s2 => if pts c = 0 then some s2 else pshT (pts c) s2) = none → FrJ I I' → I' 4 5 = 1 → K I' P) : dtC K c I P := by
  obtain ⟨o0, o1⟩ := orz h5
  by_cases hr : c = 37 ∨ c = 38 ∨ c = 39
  · have h78 : j_X1_doTyped_78 K (nI c) I P := by
      unfold j_X1_doTyped_78 j_X1_doTyped_96
      rw [o0, o1]
      cases s with
      | nil =>
        have e : ((popR c []).bind fun s2 => if pts c = 0 then some s2 else pshT (pts c) s2) = none := by unfold popR; rw [if_pos hr]; rfl
        refine s_takeE h3 (zin (by decide) ⟨zbo1, ?_⟩)
        exact a_j100 hc zu_same (fun I2 f2 g2 => k2 I2 e (FrJ_t (FrJ_u (by decide)) (FrJ_t (FrJ_u (by decide)) f2)) g2)
      | cons t r =>
        have hl : r.length + 1 ≤ 10 := by have := hs.1; simpa using this
        have t4 : t < 4 := gs4 hs t List.mem_cons_self
        refine s_take (gs4 hs) hl h3 ?_
        by_cases t2 : t = 2
        · subst t2
          have e : popR c (2 :: r) = some r := by unfold popR; rw [if_pos hr]; rfl
          rw [e] at k1 k2
          refine zip rfl ⟨h5, ?_⟩
          refine s_j100 hc h40 (gs_tl hs) (by rw [zu_nj (by decide), zu_same]) (fun z I' q1 q2 q3 q4 q5 => ?_) (fun I' q1 q2 q3 => ?_)
          · rw [zu_same] at q3
            exact k1 z I' q1 q2 q3 (FrJ_t (FrJ_u (by decide)) (FrJ_t (FrJ_u (by decide)) q4)) (by rw [q5, zu_nj (by decide), zu_nj (by decide)])
          · exact k2 I' q1 (FrJ_t (FrJ_u (by decide)) (FrJ_t (FrJ_u (by decide)) q2)) q3
        · have e : ((popR c (t :: r)).bind fun s2 => if pts c = 0 then some s2 else pshT (pts c) s2) = none := by
            unfold popR; rw [if_pos hr]; simp only [if_neg t2]; rfl
          refine zin (fun q => t2 ((nI_eq (b := 2) (by omega) (by decide)).mp q)) ⟨zbo1, ?_⟩
          exact a_j100 hc zu_same (fun I2 f2 g2 => k2 I2 e (FrJ_t (FrJ_u (by decide)) (FrJ_t (FrJ_u (by decide)) f2)) g2)
    unfold dtC
    split
    · exact h78
    split
    · exact h78
    split
    · exact h78
    · rename_i g1 g2 g3
      rcases hr with rfl | rfl | rfl
      · exact absurd rfl g1
      · exact absurd rfl g2
      · exact absurd rfl g3
  · have e : popR c s = some s := by unfold popR; rw [if_neg hr]
    rw [e] at k1 k2
    unfold dtC
    have ne : ∀ v, v < 2 ^ 31 → c ≠ v → ¬ nI c = nI v := fun v hv h q => h ((nI_eq (by omega) hv).mp q)
    exact zin (ne 37 (by decide) (by omega)) (zin (ne 38 (by decide) (by omega)) (zin (ne 39 (by decide) (by omega)) (s_j100 hc h40 hs h3 k1 k2)))
theorem s_doT {c : Nat} {s : List Nat} {I : zI} {P : zP} {K : zI → zP → Prop} (hc : c < 44) (h40 : c ≠ 40) (hs : gs s) (h3 : I 4 3 = nI (enS s)) (h5 : zbo (I 4 5)) (k1 : ∀ z I', effT c s = some z → I' 4 3 = nI (enS z) → I' 4 5 = I 4 5 → FrJ I I' → I' 4 4 = I 4 4 → K I' P) (k2 : ∀ I', effT c s = none → FrJ I I' → I' 4 5 = 1 → K I' P) : w_X1_doTyped (nI c) I P K := by
  unfold w_X1_doTyped
  refine zin (nI_pos (by omega)) (zin (nI_ge (b := 44) hc (by decide)) (zip (nI_lt (b := 44) hc (by decide)) ⟨tki c + 1, ?_⟩))
  refine l_dt hc (tki c) 0 s I (by omega) hs h3 h5 (fun s1 I' q1 q2 q3 q4 q5 => ?_) (fun I' q1 q2 q3 => ?_)
  · refine s_dtC hc h40 (gs_popI hs q1) q2 (by rw [q3]; exact h5) (fun z I2 r1 r2 r3 r4 r5 => ?_) (fun I2 r1 r2 r3 => ?_)
    · exact k1 z I2 (by unfold effT; rw [q1]; exact r1) r2 (by rw [r3, q3]) (FrJ_t q4 r4) (by rw [r5, q5])
    · exact k2 I2 (by unfold effT; rw [q1]; exact r1) (FrJ_t q4 r2) r3
  · exact a_dtC hc q3 (fun I2 r1 r2 => k2 I2 (by unfold effT; rw [q1]; rfl) (FrJ_t q2 r1) r2)
theorem la_ti {P : zP} {K : zI → zP → Prop} {n : Nat} (hn : n < 2 ^ 31) : ∀ d i I, i + d = n → I 4 5 = 1 → (∀ I', FrJ I I' → I' 4 5 = 1 → K I' P) → l_X1_takeInts_2 K (d + 1) (nI n) (nI i) I P := by
  intro d
  induction d with
  | zero =>
    intro i I hi h5 k
    obtain rfl : i = n := by omega
    rw [l_X1_takeInts_2]
    exact zip (nI_le (Nat.le_refl _) hn) (k I (FrJ_r I) h5)
  | succ d ih =>
    intro i I hi h5 k
    rw [l_X1_takeInts_2, h5]
    refine zin (nI_ge (by omega) hn) (a_take h5 (fun v I' f1 g1 => ?_))
    have nx : ∀ x : Int32, x = 1 → l_X1_takeInts_2 K (d + 1) (nI n) (nI i + 1) (zu I' 4 5 x) P := fun x hx => by
      rw [nI_1]
      exact ih (i + 1) _ (by omega) (by rw [zu_same]; exact hx) (fun I2 f2 g2 => k I2 (FrJ_t f1 (FrJ_t (FrJ_u (by decide)) f2)) g2)
    unfold j_X1_takeInts_25
    split
    · exact ⟨by rw [or10]; exact zbo1, nx _ or10⟩
    · exact ⟨by rw [or11]; exact zbo1, nx _ or11⟩
theorem l_ti {P : zP} {K : zI → zP → Prop} {n : Nat} (hn : n < 2 ^ 31) : ∀ d i s I, i + d = n → gs s → I 4 3 = nI (enS s) → zbo (I 4 5) → (∀ s1 I', popI d s = some s1 → I' 4 3 = nI (enS s1) → I' 4 5 = I 4 5 → FrJ I I' → I' 4 4 = I 4 4 → K I' P) → (∀ I', popI d s = none → FrJ I I' → I' 4 5 = 1 → K I' P) → l_X1_takeInts_2 K (d + 1) (nI n) (nI i) I P := by
  intro d
  induction d with
  | zero =>
    intro i s I hi hs h3 h5 k1 k2
    obtain rfl : i = n := by omega
    rw [l_X1_takeInts_2]
    exact zip (nI_le (Nat.le_refl _) hn) (k1 s I rfl h3 rfl (FrJ_r I) rfl)
  | succ d ih =>
    intro i s I hi hs h3 h5 k1 k2
    obtain ⟨o0, o1⟩ := orz h5
    rw [l_X1_takeInts_2]
    refine zin (nI_ge (by omega) hn) ?_
    unfold j_X1_takeInts_25
    rw [o0, o1]
    cases s with
    | nil =>
      refine s_takeE h3 (zin (by decide) ⟨zbo1, ?_⟩)
      rw [nI_1]
      exact la_ti hn d (i + 1) _ (by omega) zu_same (fun I2 f2 g2 => k2 I2 rfl (FrJ_t (FrJ_u (by decide)) (FrJ_t (FrJ_u (by decide)) f2)) g2)
    | cons t r =>
      have hl : r.length + 1 ≤ 10 := by have := hs.1; simpa using this
      refine s_take (gs4 hs) hl h3 ?_
      rw [nI_1]
      by_cases t1 : t = 1
      · subst t1
        refine zip rfl ⟨h5, ?_⟩
        refine ih (i + 1) r _ (by omega) (gs_tl hs) (by rw [zu_nj (by decide), zu_same]) (by rw [zu_same]; exact h5) (fun s1 I' q1 q2 q3 q4 q5 => ?_) (fun I' q1 q2 q3 => ?_)
        · rw [zu_same] at q3
          exact k1 s1 I' (by rw [popI, if_pos rfl]; exact q1) q2 q3 (FrJ_t (FrJ_u (by decide)) (FrJ_t (FrJ_u (by decide)) q4)) (by rw [q5, zu_nj (by decide), zu_nj (by decide)])
        · exact k2 I' (by rw [popI, if_pos rfl]; exact q1) (FrJ_t (FrJ_u (by decide)) (FrJ_t (FrJ_u (by decide)) q2)) q3
      · have t4 : t < 4 := gs4 hs t List.mem_cons_self
        refine zin (fun e => t1 ((nI_eq (b := 1) (by omega) (by decide)).mp e)) ⟨zbo1, ?_⟩
        exact la_ti hn d (i + 1) _ (by omega) zu_same (fun I2 f2 g2 => k2 I2 (by rw [popI, if_neg t1]) (FrJ_t (FrJ_u (by decide)) (FrJ_t (FrJ_u (by decide)) f2)) g2)
theorem s_lty {n : Nat} {l : Nat → Nat} {I : zI} {P : zP} {K : Int32 → zI → zP → Prop} (hl : gl l) (h4 : I 4 4 = nI (pqk l 12)) (hn : n < 12) (k : K (nI (l n)) I P) : w_X1_localType (nI n) I P K := by
  unfold w_X1_localType
  have f : ∀ k, l k < 4 := fun k => by have := hl k; omega
  have := sl_lt f
  refine zin (nI_pos (by omega)) (zin (nI_ge (b := 12) hn (by decide)) ?_)
  rw [h4, e2n, q_dig (by omega) (by omega), pqk_dig (fun k _ => f k) hn]
  exact k
theorem s_slt {n t : Nat} {l : Nat → Nat} {I : zI} {P : zP} {K : zI → zP → Prop} (hl : gl l) (h4 : I 4 4 = nI (pqk l 12)) (hn : n < 12) (ht : t < 3) (k : K (zu I 4 4 (nI (pqk (upN l n t) 12))) P) : w_X1_setLocalType (nI n) (nI t) I P K := by
  unfold w_X1_setLocalType
  have hp : (2 : Nat) ^ (2 * n) ≤ 2 ^ 22 := Nat.pow_le_pow_right (by decide) (by omega)
  have hp2 : (2 : Nat) ^ 22 = 4194304 := by decide
  have hp3 : t * 2 ^ (2 * n) ≤ 2 * 2 ^ (2 * n) := Nat.mul_le_mul_right _ (by omega)
  refine zin (nI_pos (by omega)) (zin (nI_ge (b := 12) hn (by decide)) ?_)
  have e1 : (3 : Int32) <<< (nI (2 * n) &&& 31) = nI (3 * 2 ^ (2 * n)) := q_shl (v := 3) (by omega) (by omega)
  rw [h4, e2n, e1, q_shl (v := t) (by omega) (by omega), nI_andn, nI_or, st_bits hl hn ht]
  exact k
theorem s_doOp {c n : Nat} {ar : Nat → Nat} {s : List Nat} {l : Nat → Nat} {I : zI} {P : zP} {K : zI → zP → Prop} (hP : PSt P) (hc : c < 44) (hs : gs s) (hl : gl l) (hn : c = 3 ∨ c = 4 ∨ c = 5 → n < 12) (hn2 : c = 40 → n < 6 ∧ ar n ≤ 4 ∧ I (20 + 12 * n) 7 = nI (ar n)) (h3 : I 4 3 = nI (enS s)) (h4 : I 4 4 = nI (pqk l 12)) (h5 : zbo (I 4 5)) (k1 : ∀ s2 l2 I', eff c n ar s l = some (s2, l2) → I' 4 3 = nI (enS s2) → I' 4 4 = nI (pqk l2 12) → I' 4 5 = I 4 5 → FrJ I I' → K I' P) (k2 : ∀ I', eff c n ar s l = none → FrJ I I' → I' 4 5 = 1 → K I' P) : w_X1_doOp (nI c) (nI n) 19 I P K := by
  obtain ⟨o0, o1⟩ := orz h5
  have ne : ∀ v, v < 2 ^ 31 → c ≠ v → ¬ nI c = nI v := fun v hv h q => h ((nI_eq (by omega) hv).mp q)
  unfold eff at k1 k2
  unfold w_X1_doOp
  by_cases c3 : c = 3
  · rw [if_pos c3] at k1 k2
    have n12 := hn (Or.inl c3)
    subst c3
    refine zip rfl ?_
    unfold w_X1_loadType j_X1_loadType_20
    refine s_lty hl h4 n12 ?_
    rw [o0, o1]
    by_cases l0 : l n = 0
    · rw [if_pos l0] at k2
      exact zip (by rw [l0]; rfl) ⟨zbo1, a_put zu_same (fun I' f g => k2 I' rfl (FrJ_t (FrJ_u (by decide)) f) g)⟩
    · rw [if_neg l0] at k1 k2
      have l3 := hl n
      refine zin (fun e => l0 ((nI_eq (b := 0) (by omega) (by decide)).mp e)) ⟨h5, ?_⟩
      unfold pshT at k1 k2
      by_cases hl10 : s.length < 10
      · rw [if_pos hl10] at k1
        refine s_put (gs4 hs) hl10 (by omega) (by rw [zu_nj (by decide)]; exact h3) ?_
        refine k1 _ _ _ rfl zu_same ?_ ?_ (FrJ_t (FrJ_u (by decide)) (FrJ_u (by decide)))
        · rw [zu_nj (by decide), zu_nj (by decide)]; exact h4
        · rw [zu_nj (by decide), zu_same]
      · rw [if_neg hl10] at k2
        exact s_putF (gs4 hs) (by have := hs.1; omega) (by rw [zu_nj (by decide)]; exact h3) (k2 _ rfl (FrJ_t (FrJ_u (by decide)) (FrJ_u (by decide))) zu_same)
  rw [if_neg c3] at k1 k2
  refine zin (ne 3 (by decide) c3) ?_
  by_cases c4 : c = 4
  · rw [if_pos c4] at k1 k2
    have n12 := hn (Or.inr (Or.inl c4))
    subst c4
    refine zip rfl ?_
    cases s with
    | nil =>
      refine s_takeE h3 ?_
      unfold w_X1_setLocalType
      refine zin (nI_pos (by omega)) (zin (nI_ge (b := 12) n12 (by decide)) ?_)
      exact k2 _ rfl (FrJ_t (FrJ_u (by decide)) (FrJ_u (by decide))) (by rw [zu_nj (by decide), zu_same])
    | cons t r =>
      have hl10 : r.length + 1 ≤ 10 := by have := hs.1; simpa using this
      have t2 := hs.2 t List.mem_cons_self
      refine s_take (gs4 hs) hl10 h3 (s_slt hl (by rw [zu_nj (by decide)]; exact h4) n12 (by omega) ?_)
      refine k1 _ _ _ rfl ?_ zu_same ?_ (FrJ_t (FrJ_u (by decide)) (FrJ_u (by decide)))
      · rw [zu_nj (by decide), zu_same]
      · rw [zu_nj (by decide), zu_nj (by decide)]
  rw [if_neg c4] at k1 k2
  refine zin (ne 4 (by decide) c4) ?_
  by_cases c5 : c = 5
  · rw [if_pos c5] at k1 k2
    have n12 := hn (Or.inr (Or.inr c5))
    subst c5
    refine zip rfl (s_lty hl h4 n12 ?_)
    rw [o0, o1]
    by_cases l1 : l n = 1
    · rw [if_pos l1] at k1
      refine zip (by rw [l1]; rfl) ⟨h5, k1 _ _ _ rfl ?_ ?_ zu_same (FrJ_u (by decide))⟩
      · rw [zu_nj (by decide)]; exact h3
      · rw [zu_nj (by decide)]; exact h4
    · rw [if_neg l1] at k2
      have l3 := hl n
      exact zin (fun e => l1 ((nI_eq (b := 1) (by omega) (by decide)).mp e)) ⟨zbo1, k2 _ rfl (FrJ_u (by decide)) zu_same⟩
  rw [if_neg c5] at k1 k2
  refine zin (ne 5 (by decide) c5) ?_
  by_cases c6 : c = 6
  · rw [if_pos c6] at k1 k2
    subst c6
    refine zip rfl ?_
    unfold w_X1_shiftAny
    cases s with
    | nil =>
      refine s_takeE h3 (zip rfl (a_put zu_same (fun I1 f1 g1 => a_put g1 (fun I2 f2 g2 => ?_))))
      exact k2 I2 rfl (FrJ_t (FrJ_u (by decide)) (FrJ_t f1 f2)) g2
    | cons t r =>
      have hl10 : r.length + 1 ≤ 10 := by have := hs.1; simpa using this
      have t2 := hs.2 t List.mem_cons_self
      refine s_take (gs4 hs) hl10 h3 (zip rfl ?_)
      refine s_put (gs4 (gs_tl hs)) (by omega) (by omega) zu_same ?_
      unfold pshT at k1 k2
      by_cases h9 : (t :: r).length < 10
      · simp only [if_pos h9] at k1
        refine s_put (gs4 hs) h9 (by omega) zu_same ?_
        refine k1 _ _ _ rfl zu_same ?_ ?_ (FrJ_t (FrJ_u (by decide)) (FrJ_t (FrJ_u (by decide)) (FrJ_u (by decide))))
        · rw [zu_nj (by decide), zu_nj (by decide), zu_nj (by decide)]; exact h4
        · rw [zu_nj (by decide), zu_nj (by decide), zu_nj (by decide)]
      · simp only [if_neg h9] at k2
        exact s_putF (gs4 hs) (by simp at h9 ⊢; omega) zu_same (k2 _ rfl (FrJ_t (FrJ_u (by decide)) (FrJ_t (FrJ_u (by decide)) (FrJ_u (by decide)))) zu_same)
  rw [if_neg c6] at k1 k2
  refine zin (ne 6 (by decide) c6) ?_
  by_cases c7 : c = 7
  · rw [if_pos c7] at k1 k2
    subst c7
    refine zip rfl ?_
    unfold w_X1_shiftAny
    cases s with
    | nil =>
      exact s_takeE h3 (zin (by decide) (zin (by decide) (k2 _ rfl (FrJ_u (by decide)) zu_same)))
    | cons t r =>
      have hl10 : r.length + 1 ≤ 10 := by have := hs.1; simpa using this
      refine s_take (gs4 hs) hl10 h3 (zin (by decide) (zin (by decide) ?_))
      refine k1 _ _ _ rfl zu_same ?_ ?_ (FrJ_u (by decide))
      · rw [zu_nj (by decide)]; exact h4
      · rw [zu_nj (by decide)]
  rw [if_neg c7] at k1 k2
  refine zin (ne 7 (by decide) c7) ?_
  by_cases c8 : c = 8
  · rw [if_pos c8] at k1 k2
    subst c8
    refine zip rfl ?_
    unfold w_X1_shiftAny
    cases s with
    | nil =>
      refine s_takeE h3 (zin (by decide) (zip rfl (a_take zu_same (fun v I0 f0 g0 => a_put g0 (fun I1 f1 g1 => a_put g1 (fun I2 f2 g2 => ?_))))))
      exact k2 I2 rfl (FrJ_t (FrJ_u (by decide)) (FrJ_t f0 (FrJ_t f1 f2))) g2
    | cons w r =>
      have hl10 : r.length + 1 ≤ 10 := by have := hs.1; simpa using this
      have w2 := hs.2 w List.mem_cons_self
      refine s_take (gs4 hs) hl10 h3 (zin (by decide) (zip rfl ?_))
      cases r with
      | nil =>
        refine s_takeE zu_same (a_put zu_same (fun I1 f1 g1 => a_put g1 (fun I2 f2 g2 => ?_)))
        exact k2 I2 rfl (FrJ_t (FrJ_u (by decide)) (FrJ_t (FrJ_u (by decide)) (FrJ_t f1 f2))) g2
      | cons v r =>
        have hl9 : r.length + 1 ≤ 10 := by simp at hl10; omega
        have v2 := (gs_tl hs).2 v List.mem_cons_self
        simp only [List.length_cons] at hl10
        refine s_take (gs4 (gs_tl hs)) hl9 zu_same ?_
        refine s_put (gs4 (gs_tl (gs_tl hs))) (by omega) (by omega) zu_same ?_
        have gw : ∀ x, x ∈ w :: r → x < 4 := fun x hx => by
          rcases List.mem_cons.mp hx with h | h
          · omega
          · exact gs4 (gs_tl (gs_tl hs)) x h
        refine s_put gw (by simp; omega) (by omega) zu_same ?_
        refine k1 _ _ _ rfl zu_same ?_ ?_ (FrJ_t (FrJ_u (by decide)) (FrJ_t (FrJ_u (by decide)) (FrJ_t (FrJ_u (by decide)) (FrJ_u (by decide)))))
        · rw [zu_nj (by decide), zu_nj (by decide), zu_nj (by decide), zu_nj (by decide)]; exact h4
        · rw [zu_nj (by decide), zu_nj (by decide), zu_nj (by decide), zu_nj (by decide)]
  rw [if_neg c8] at k1 k2
  refine zin (ne 8 (by decide) c8) ?_
  by_cases c40 : c = 40
  · rw [if_pos c40] at k1 k2
    obtain ⟨n6, a4, h7⟩ := hn2 c40
    subst c40
    have z19 : zlen 19 = 6 := by decide +kernel
    refine zip rfl ⟨by decide +kernel, zin ?_ ⟨?_, _, ?_, shM n6, ?_⟩⟩
    · rw [z19]; exact nI_ge n6 (by decide)
    · rw [z19]; exact vp_in_nI n6 (by decide)
    · rw [nI_clamp (by omega)]; exact pM hP n6
    · rw [h7]
      unfold j_X1_doOp_139 w_X1_takeInts
      refine ⟨_, l_ti (by omega) (ar n) 0 s I (by omega) hs h3 h5 (fun s1 I' q1 q2 q3 q4 q5 => ?_) (fun I' q1 q2 q3 => ?_)⟩
      · rw [q1] at k1 k2
        have g1 := gs_popI hs q1
        have kk1 : ∀ s2 l2 I', (Option.map (fun z => (z, l)) (pshT 1 s1)) = some (s2, l2) → _ := k1
        have kk2 : ∀ I', (Option.map (fun z => (z, l)) (pshT 1 s1)) = none → _ := k2
        unfold pshT at kk1 kk2
        by_cases hl10 : s1.length < 10
        · rw [if_pos hl10] at kk1
          refine s_put (t := 1) (gs4 g1) hl10 (by decide) q2 ?_
          refine kk1 _ _ _ rfl zu_same ?_ ?_ (FrJ_t q4 (FrJ_u (by decide)))
          · rw [zu_nj (by decide), q5]; exact h4
          · rw [zu_nj (by decide), q3]
        · rw [if_neg hl10] at kk2
          exact s_putF (gs4 g1) (by have := g1.1; omega) q2 (kk2 _ rfl (FrJ_t q4 (FrJ_u (by decide))) zu_same)
      · rw [q1] at k2
        exact a_put q3 (fun I2 f2 g2 => k2 I2 rfl (FrJ_t q2 f2) g2)
  rw [if_neg c40] at k1 k2
  refine zin (ne 40 (by decide) c40) (s_doT hc c40 hs h3 h5 (fun z I' q1 q2 q3 q4 q5 => ?_) (fun I' q1 q2 q3 => ?_))
  · exact k1 z l I' (by rw [q1]; rfl) q2 (by rw [q5]; exact h4) q3 q4
  · exact k2 I' (by rw [q1]; rfl) q2 q3
