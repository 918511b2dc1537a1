/-! PURE 18: the reference's form(), whole -/
def cpI (b : Nat → Nat) (t len m n : Nat) (I : zI) : zI := fun c j =>
  if 400 * m ≤ j ∧ j < 400 * m + n then (if c = 166 then 0 else if c = 160 then (if j - 400 * m < len ∧ 4 + (j - 400 * m) < t then nI (b (4 + (j - 400 * m))) else 0) else I c j) else I c j
theorem cpI_out {b : Nat → Nat} {t len m n c j : Nat} {I : zI} (h : ¬ ((c = 160 ∨ c = 166) ∧ 400 * m ≤ j ∧ j < 400 * m + 400)) (hn : n ≤ 400) : cpI b t len m n I c j = I c j := by
  unfold cpI
  by_cases h1 : 400 * m ≤ j ∧ j < 400 * m + n
  · rw [if_pos h1, if_neg (by omega), if_neg (by omega)]
  · rw [if_neg h1]
theorem cpI_s {b : Nat → Nat} {t len m n : Nat} {I : zI} : cpI b t len m (n + 1) I = zu (zu (cpI b t len m n I) 166 (400 * m + n) 0) 160 (400 * m + n) (if n < len ∧ 4 + n < t then nI (b (4 + n)) else 0) := by
  funext c j
  by_cases hj : j = 400 * m + n
  · subst hj
    by_cases hc : c = 160
    · subst hc
      rw [zu_same]; unfold cpI
      rw [if_pos (by omega), if_neg (by decide), if_pos rfl, show 400 * m + n - 400 * m = n by omega]
    · rw [zu_nc hc]
      by_cases hc2 : c = 166
      · subst hc2
        rw [zu_same]; unfold cpI
        rw [if_pos (by omega), if_pos rfl]
      · rw [zu_nc hc2]; unfold cpI
        rw [if_pos (by omega), if_neg hc2, if_neg hc, if_neg (by omega)]
  · rw [zu_nj hj, zu_nj hj]
    unfold cpI
    by_cases h1 : 400 * m ≤ j ∧ j < 400 * m + n
    · rw [if_pos (by omega), if_pos h1]
    · rw [if_neg (by omega), if_neg h1]
theorem cpI_0 {b : Nat → Nat} {t len m : Nat} {I : zI} : cpI b t len m 0 I = I := by
  funext c j
  unfold cpI
  rw [if_neg (by omega)]
theorem l_copy {b : Nat → Nat} {t len m : Nat} {I0 : zI} {P : zP} {K : Int32 → zI → zP → Prop} (hm : m < 6) (ht6 : t ≤ 600) (hlen : I0 159 m = nI len) (hl4 : len ≤ 400) (hb : ∀ j, j < t → b j < 256 ∧ I0 156 j = nI (b j)) (k : ∃ n9, l_X10_form_191 K n9 (nI m) (nI t) 0 (cpI b t len m 400 I0) P) : ∀ d i, i + d = 400 → l_X10_form_122 K (d + 1) (nI m) (nI t) (nI i) (cpI b t len m i I0) P := by
  intro d
  induction d with
  | zero =>
    intro i hi
    obtain rfl : i = 400 := by omega
    rw [l_X10_form_122]
    exact zip (nI_le (a := 400) (by omega) (by omega)) k
  | succ d ih =>
    intro i hi
    rw [l_X10_form_122]
    have e4 : (400 : Int32) * nI m + nI i = nI (400 * m + i) := by rw [show (400 : Int32) = nI 400 from rfl, pk_mul, nI_add]
    have e5 : (4 : Int32) + nI i = nI (4 + i) := by rw [show (4 : Int32) = nI 4 from rfl, nI_add]
    have h9 : zu (cpI b t len m i I0) 166 (400 * m + i) 0 159 m = nI len := by rw [zu_nc (by decide), cpI_out (by omega) (by omega)]; exact hlen
    have hih := ih (i + 1) (by omega)
    rw [cpI_s] at hih
    rw [e4, e5, nar0, nI_clamp (by omega), nI_clamp (by omega), nI_clamp (by omega), nI_1, h9]
    refine zin (nI_ge (b := 400) (by omega) (by decide)) ⟨vp_in_nI (by omega) (by decide), vp_in_nI hm (by decide), ?_⟩
    by_cases h1 : len ≤ i
    · rw [if_neg (by omega)] at hih
      refine zip (nI_le h1 (by omega)) ?_
      unfold j_X10_form_181
      rw [nI_clamp (by omega), nI_1]
      exact ⟨vp_in_nI (by omega) (by decide), hih⟩
    refine zin (nI_ge (by omega) (by omega)) ?_
    by_cases h2 : t ≤ 4 + i
    · rw [if_neg (by omega)] at hih
      refine zip (nI_le h2 (by omega)) ?_
      unfold j_X10_form_181
      rw [nI_clamp (by omega), nI_1]
      exact ⟨vp_in_nI (by omega) (by decide), hih⟩
    rw [if_pos (by omega)] at hih
    refine zin (nI_ge (by omega) (by omega)) ⟨vp_in_nI (by omega) (by decide), vp_in_nI (by omega) (by decide), ?_⟩
    rw [zu_nc (by decide), cpI_out (by omega) (by omega), (hb _ (by omega)).2]
    exact hih
theorem s_formM {b : Nat → Nat} {t m : Nat} {I : zI} {P : zP} {K : Int32 → zI → zP → Prop} (hm : m < 6) (ht6 : t ≤ 600) (hnum : I 155 3 = nI m) (hb : ∀ j, j < t → b j < 256 ∧ I 156 j = nI (b j))
    (k : ∀ r I', formR b t m r → (∀ a, r = some a → a < 2 ^ 31) → (∀ c j, ¬ tfR m c j → I' c j = I c j) → (r = none → FormM b m I') → K (oI r) I' P) : w_X10_form (nI m) (nI t) I P K := by
  unfold w_X10_form
  by_cases h1 : t < 1
  · refine zip (nI_lt (b := 1) h1 (by decide)) ?_
    exact k (some 0) I (Or.inl ⟨by unfold headF; rw [if_pos h1], by simp⟩) (fun a e => by cases e; decide) (fun _ _ _ => rfl) (fun e => by cases e)
  refine zin (nI_nlt (b := 1) (by omega) (by omega)) ?_
  obtain ⟨a0, b0⟩ := hb 0 (by omega)
  rw [b0]
  by_cases h2 : 4 < b 0
  · refine s_inNF (lo := 0) (hi := 4) (by omega) (by omega) (zip rfl ?_)
    exact k (some 0) I (Or.inl ⟨by unfold headF; rw [if_neg h1, if_pos h2], by simp⟩) (fun a e => by cases e; decide) (fun _ _ _ => rfl) (fun e => by cases e)
  refine s_inNT (lo := 0) (hi := 4) (by omega) (by omega) (zin (by decide) ?_)
  by_cases h3 : t < 2
  · refine zip (nI_lt (b := 2) h3 (by decide)) ?_
    exact k (some 1) I (Or.inl ⟨by unfold headF; rw [if_neg h1, if_neg h2, if_pos h3], by simp⟩) (fun a e => by cases e; decide) (fun _ _ _ => rfl) (fun e => by cases e)
  refine zin (nI_nlt (b := 2) (by omega) (by omega)) ?_
  obtain ⟨a1, b1⟩ := hb 1 (by omega)
  rw [b1, b0]
  by_cases h4 : b 1 < b 0 ∨ 12 < b 1
  · refine s_inNF (hi := 12) (by omega) (by omega) (zip rfl ?_)
    exact k (some 1) I (Or.inl ⟨by unfold headF; rw [if_neg h1, if_neg h2, if_neg h3, if_pos h4], by simp⟩) (fun a e => by cases e; decide) (fun _ _ _ => rfl) (fun e => by cases e)
  refine s_inNT (hi := 12) (by omega) (by omega) (zin (by decide) ?_)
  by_cases h5 : t < 4
  · refine zin (nI_ge (b := 4) h5 (by decide)) ?_
    exact k (some t) I (Or.inl ⟨by unfold headF; rw [if_neg h1, if_neg h2, if_neg h3, if_neg h4, if_pos h5], by simp⟩) (fun a e => by cases e; omega) (fun _ _ _ => rfl) (fun e => by cases e)
  refine zip (nI_le (a := 4) (by omega) (by omega)) ⟨vp_in_nI hm (by decide), vp_in_nI hm (by decide), vp_in_nI hm (by decide), vp_in_nI hm (by decide), ?_⟩
  obtain ⟨a2, b2⟩ := hb 2 (by omega)
  obtain ⟨a3, b3⟩ := hb 3 (by omega)
  rw [nI_clamp (by omega), b0]
  simp only [zu_nc (show (156 : Nat) ≠ 157 by decide), zu_nc (show (156 : Nat) ≠ 158 by decide)]
  rw [b1, b2, b3, zu_same]
  have ew : ∀ x y, 256 * nI x + nI y = nI (256 * x + y) := fun x y => by rw [show (256 : Int32) = nI 256 from rfl, pk_mul, nI_add]
  rw [ew]
  have fr0 : ∀ c j, ¬ ((c = 157 ∨ c = 158 ∨ c = 159) ∧ j = m) → zu (zu (zu I 157 m (nI (b 0))) 158 m (nI (b 1))) 159 m (nI (256 * b 2 + b 3)) c j = I c j := fun c j h => by rw [zu_ne (by omega), zu_ne (by omega), zu_ne (by omega)]
  have i7 : zu (zu (zu I 157 m (nI (b 0))) 158 m (nI (b 1))) 159 m (nI (256 * b 2 + b 3)) 157 m = nI (b 0) := by rw [zu_nc (by decide), zu_nc (by decide), zu_same]
  have i8 : zu (zu (zu I 157 m (nI (b 0))) 158 m (nI (b 1))) 159 m (nI (256 * b 2 + b 3)) 158 m = nI (b 1) := by rw [zu_nc (by decide), zu_same]
  have i9 : zu (zu (zu I 157 m (nI (b 0))) 158 m (nI (b 1))) 159 m (nI (256 * b 2 + b 3)) 159 m = nI (256 * b 2 + b 3) := zu_same
  generalize zu (zu (zu I 157 m (nI (b 0))) 158 m (nI (b 1))) 159 m (nI (256 * b 2 + b 3)) = J at fr0 i7 i8 i9 ⊢
  by_cases h6 : 256 * b 2 + b 3 < 1 ∨ 400 < 256 * b 2 + b 3
  · refine s_inNF (lo := 1) (hi := 400) (by omega) (by omega) (zip rfl ?_)
    refine k (some 2) J (Or.inl ⟨by unfold headF; rw [if_neg h1, if_neg h2, if_neg h3, if_neg h4, if_neg h5, if_pos h6], by simp⟩) (fun a e => by cases e; decide) (fun c j h => ?_) (fun e => by cases e)
    unfold tfR at h
    exact fr0 c j (by omega)
  refine s_inNT (lo := 1) (hi := 400) (by omega) (by omega) (zin (by decide) ?_)
  have hh : headF b t = none := by unfold headF; rw [if_neg h1, if_neg h2, if_neg h3, if_neg h4, if_neg h5, if_neg h6]
  have hJb : ∀ j, j < t → b j < 256 ∧ J 156 j = nI (b j) := fun j hj => ⟨(hb j hj).1, by rw [fr0 _ _ (by omega)]; exact (hb j hj).2⟩
  refine ⟨401, ?_⟩
  have := l_copy (K := K) (P := P) (I0 := J) (b := b) hm ht6 i9 (by omega) hJb ?_ 400 0 (by omega)
  · rw [cpI_0] at this
    exact this
  have fr1 : ∀ c j, ¬ ((c = 160 ∨ c = 166) ∧ 400 * m ≤ j ∧ j < 400 * m + 400) → cpI b t (256 * b 2 + b 3) m 400 J c j = J c j := fun c j h => cpI_out h (by omega)
  have c0 : ∀ q, q < 400 → cpI b t (256 * b 2 + b 3) m 400 J 166 (400 * m + q) = 0 := fun q hq => by
    unfold cpI; rw [if_pos (by omega), if_pos rfl]
  have c1 : ∀ q, q < 256 * b 2 + b 3 → 4 + q < t → cpI b t (256 * b 2 + b 3) m 400 J 160 (400 * m + q) = nI (b (4 + q)) := fun q hq hq2 => by
    unfold cpI; rw [if_pos (by omega), if_neg (by decide), if_pos rfl, show 400 * m + q - 400 * m = q by omega, if_pos ⟨hq, hq2⟩]
  generalize cpI b t (256 * b 2 + b 3) m 400 J = J2 at fr1 c0 c1 ⊢
  refine ⟨(256 * b 2 + b 3) + 1, l_scan hm (by omega) ht6 (len := 256 * b 2 + b 3) (loc := b 1) (by rw [fr1 _ _ (by omega)]; exact i9) (by omega) (by rw [fr1 _ _ (by omega)]; exact i8) (by rw [fr1 _ _ (by omega), fr0 _ _ (by omega)]; exact hnum) (by omega) (fun j hj => ⟨(hb j hj).1, by rw [fr1 _ _ (by omega)]; exact (hJb j hj).2⟩) c1 ?_ ?_ (256 * b 2 + b 3) 0 J2 (by omega) (by omega) rfl (fun q hq => absurd hq (by omega)) (fun _ _ _ => rfl) (fun q hq => by rw [c0 q (by omega), if_neg (by omega)])⟩
  · intro r I1 hr hn f1
    refine k r I1 (Or.inr (Or.inl ⟨hh, hn, hr⟩)) (fun a e => codeR_b (by omega) (by omega) (e ▸ hr)) ?_ (fun e => absurd e hn)
    intro c j h
    unfold tfR at h
    rw [f1 c j (by omega), fr1 c j (by omega), fr0 c j (by omega)]
  · intro I1 hr f1 g1
    have hq : ∀ p, p < 256 * b 2 + b 3 → nxt b p = p → insF b t (256 * b 2 + b 3) (b 1) m p = none := by
      rcases hr with ⟨-, h⟩ | ⟨h, -⟩
      · exact h
      · exact absurd rfl h
    refine s_rest hm ht6 (by omega) (fun j hj => ⟨(hb j hj).1, by rw [f1 _ _ (by omega), fr1 _ _ (by omega)]; exact (hJb j hj).2⟩) ?_
    intro I2 f2 g2
    refine k _ I2 (Or.inr (Or.inr ⟨hh, hr, rfl⟩)) (fun a e => tailF_b (by omega) (by omega) e) ?_ ?_
    · intro c j h
      unfold tfR at h
      rw [f2 c j (by omega) (by omega), f1 c j (by omega), fr1 c j (by omega), fr0 c j (by omega)]
    · intro e
      obtain ⟨e1, e2⟩ := g2 e
      have nin := nxt_in (n := 256 * b 2 + b 3) (by omega : 4 ≤ t) hq (256 * b 2 + b 3) (Nat.le_refl _)
      refine ⟨?_, ?_, ?_, e1, ?_, e2⟩
      · rw [f2 _ _ (by omega) (by omega), f1 _ _ (by omega), fr1 _ _ (by omega)]; exact i7
      · rw [f2 _ _ (by omega) (by omega), f1 _ _ (by omega), fr1 _ _ (by omega)]; exact i8
      · rw [f2 _ _ (by omega) (by omega), f1 _ _ (by omega), fr1 _ _ (by omega)]; exact i9
      · intro q hq1
        rw [f2 _ _ (by omega) (by omega), f2 _ _ (by omega) (by omega), f1 160 _ (by omega), g1 q hq1]
        refine ⟨c1 q hq1 (by omega), ?_⟩
        unfold szo
        by_cases hn : nxt b q = q
        · have := (insF_n (hq q hq1 hn)).2.2.1
          rw [if_pos hn, if_pos hn, if_neg (by omega)]
        · rw [if_neg hn, if_neg hn, if_pos rfl]
