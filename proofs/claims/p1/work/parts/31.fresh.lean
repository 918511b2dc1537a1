theorem man3 {x : Int32} (h : 0 ≤ x ∧ x ≤ 2) : x = 0 ∨ x = 1 ∨ x = 2 := by
  have h1 := Int32.le_iff_toInt_le.mp h.1
  have h2 := Int32.le_iff_toInt_le.mp h.2
  have e0 : (0 : Int32).toInt = 0 := by decide
  have e1 : (1 : Int32).toInt = 1 := by decide
  have e2 : (2 : Int32).toInt = 2 := by decide
  rw [e0] at h1
  rw [e2] at h2
  rcases (show x.toInt = 0 ∨ x.toInt = 1 ∨ x.toInt = 2 by omega) with q | q | q
  · exact Or.inl (Int32.toInt_inj.mp (q.trans e0.symm))
  · exact Or.inr (Or.inl (Int32.toInt_inj.mp (q.trans e1.symm)))
  · exact Or.inr (Or.inr (Int32.toInt_inj.mp (q.trans e2.symm)))
theorem nin8 {x : Int32} (h0 : ¬ x = 0) (h1 : ¬ x = 1) (h2 : ¬ x = 2) (h3 : ¬ x = 3) (h4 : ¬ x = 4) (h5 : ¬ x = 5) (h6 : ¬ x = 6) (h7 : ¬ x = 7) (h8 : ¬ x = 8) : ¬ (0 ≤ x ∧ x ≤ 8) := by
  rintro ⟨a, b⟩
  have a := Int32.le_iff_toInt_le.mp a
  have b := Int32.le_iff_toInt_le.mp b
  have e0 : (0 : Int32).toInt = 0 := by decide
  have e8 : (8 : Int32).toInt = 8 := by decide
  have q0 : x.toInt ≠ 0 := i32ne h0
  have q1 : x.toInt ≠ 1 := i32ne h1
  have q2 : x.toInt ≠ 2 := i32ne h2
  have q3 : x.toInt ≠ 3 := i32ne h3
  have q4 : x.toInt ≠ 4 := i32ne h4
  have q5 : x.toInt ≠ 5 := i32ne h5
  have q6 : x.toInt ≠ 6 := i32ne h6
  have q7 : x.toInt ≠ 7 := i32ne h7
  have q8 : x.toInt ≠ 8 := i32ne h8
  omega
/-- what a fresh world holds of the run of a manner -/
def frT (m : Int32) (o : Nat) : Prop := (0 ≤ m ∧ m ≤ 2) ∧ vp_in m 3 ∧ PPy 92 m.toNatClampNeg = some o ∧ SHy[o]? = some (6, 13) ∧ (IIy o 4 = -1 ∧ IIy o 5 = 0 ∧ IIy o 6 = 0 ∧ IIy o 11 = 0 ∧ IIy o 12 = 0 ∧ IIy o 7 = 0 ∧ IIy o 9 = -1 ∧ IIy o 10 = -1 ∧ IIy o 8 = 0) ∧ IIy 208 m.toNatClampNeg = -1 ∧ ∃ v, PPy o 0 = some v ∧ SHy[v]? = some (11, 8) ∧ ∀ f, f < 8 → IIy v f = 0
theorem frT_0 : frT 0 93 := ⟨by decide, vin_lit (j := 0) (by decide) (by decide) (by decide), by decide +kernel, by decide +kernel, by decide +kernel, by decide +kernel, 94, by decide +kernel, by decide +kernel, by decide +kernel⟩
theorem frT_1 : frT 1 98 := ⟨by decide, vin_lit (j := 1) (by decide) (by decide) (by decide), by decide +kernel, by decide +kernel, by decide +kernel, by decide +kernel, 99, by decide +kernel, by decide +kernel, by decide +kernel⟩
theorem frT_2 : frT 2 103 := ⟨by decide, vin_lit (j := 2) (by decide) (by decide) (by decide), by decide +kernel, by decide +kernel, by decide +kernel, by decide +kernel, 104, by decide +kernel, by decide +kernel, by decide +kernel⟩
theorem frT_of {m : Int32} (h : 0 ≤ m ∧ m ≤ 2) : ∃ o, frT m o := by
  rcases man3 h with rfl | rfl | rfl
  · exact ⟨93, frT_0⟩
  · exact ⟨98, frT_1⟩
  · exact ⟨103, frT_2⟩
theorem fr_isRun {m : Int32} {o : Nat} {K : Int32 → zI → zP → Prop} (h : frT m o) (k : K 0 IIy PPy) : w_X10_isRun m IIy PPy K := by
  obtain ⟨h1, h2, -, -, -, h6, -⟩ := h
  unfold w_X10_isRun
  exact s_inT h1 (zin (by decide) ⟨h2, zip h6 k⟩)
theorem fr_isRunF {m : Int32} {K : Int32 → zI → zP → Prop} (h : ¬ (0 ≤ m ∧ m ≤ 2)) (k : K 0 IIy PPy) : w_X10_isRun m IIy PPy K := by
  unfold w_X10_isRun
  exact s_inF h (zip rfl k)
theorem fr_told (a : Nat → Int32) : ok_told a (fun _ _ => True) IIy PPy := by
  unfold ok_told w_X9_told w_X10_told
  by_cases h : 0 ≤ a 1 ∧ a 1 ≤ 2
  · obtain ⟨o, g1, g2, g3, g4, ⟨e4, e5, e6, e11, e12, e7, e9, e10, e8⟩, g6, -⟩ := frT_of h
    refine s_isMannerT h (zin (by decide) ⟨g2, o, g3, g4, ?_⟩)
    unfold w_X6_tell
    by_cases h0 : a 2 = 0
    · exact zip h0 ⟨g4, s_inT h (zin (by decide) (s_inT (by rw [h0]; decide) (zin (by decide) ⟨g2, zip g6 (zip h0 ⟨e4, trivial⟩)⟩)))⟩
    by_cases h1 : a 2 = 1
    · exact zin h0 (zip h1 ⟨g4, s_inT h (zin (by decide) (s_inT (by rw [h1]; decide) (zin (by decide) ⟨g2, zip g6 (zin h0 (zin (by rw [h1]; decide) (zin (by rw [h1]; decide) ⟨e5, trivial⟩)))⟩)))⟩)
    by_cases h2 : a 2 = 2
    · exact zin h0 (zin h1 (zip h2 ⟨g4, s_inT h (zin (by decide) (s_inT (by rw [h2]; decide) (zin (by decide) ⟨g2, zip g6 (zin h0 (zin (by rw [h2]; decide) (zin (by rw [h2]; decide) ⟨e6, trivial⟩)))⟩)))⟩))
    by_cases h3 : a 2 = 3
    · exact zin h0 (zin h1 (zin h2 (zip h3 ⟨g4, s_inT h (zin (by decide) (s_inT (by rw [h3]; decide) (zin (by decide) ⟨g2, zip g6 (zin h0 (zin (by rw [h3]; decide) (zin (by rw [h3]; decide) ⟨e11, trivial⟩)))⟩)))⟩)))
    by_cases h4 : a 2 = 4
    · exact zin h0 (zin h1 (zin h2 (zin h3 (zip h4 ⟨g4, s_inT h (zin (by decide) (s_inT (by rw [h4]; decide) (zin (by decide) ⟨g2, zip g6 (zin h0 (zin (by rw [h4]; decide) (zin (by rw [h4]; decide) ⟨e12, trivial⟩)))⟩)))⟩))))
    by_cases h5 : a 2 = 5
    · exact zin h0 (zin h1 (zin h2 (zin h3 (zin h4 (zip h5 ⟨g4, s_inT h (zin (by decide) (s_inT (by rw [h5]; decide) (zin (by decide) ⟨g2, zip g6 (zin h0 (zin (by rw [h5]; decide) (zin (by rw [h5]; decide) ⟨e7, trivial⟩)))⟩)))⟩)))))
    by_cases h6 : a 2 = 6
    · exact zin h0 (zin h1 (zin h2 (zin h3 (zin h4 (zin h5 (zip h6 ⟨g4, s_inT h (zin (by decide) (s_inT (by rw [h6]; decide) (zin (by decide) ⟨g2, zip g6 (zin h0 (zip h6 ⟨e9, trivial⟩))⟩)))⟩))))))
    by_cases h7 : a 2 = 7
    · exact zin h0 (zin h1 (zin h2 (zin h3 (zin h4 (zin h5 (zin h6 (zip h7 ⟨g4, s_inT h (zin (by decide) (s_inT (by rw [h7]; decide) (zin (by decide) ⟨g2, zip g6 (zin h0 (zin h6 (zip h7 ⟨e10, trivial⟩)))⟩)))⟩)))))))
    by_cases h8 : a 2 = 8
    · exact zin h0 (zin h1 (zin h2 (zin h3 (zin h4 (zin h5 (zin h6 (zin h7 (zip h8 ⟨g4, s_inT h (zin (by decide) (s_inT (by rw [h8]; decide) (zin (by decide) ⟨g2, zip g6 (zin h0 (zin h6 (zin h7 ⟨e8, trivial⟩)))⟩)))⟩))))))))
    · exact zin h0 (zin h1 (zin h2 (zin h3 (zin h4 (zin h5 (zin h6 (zin h7 (zin h8 (s_inT h (zin (by decide) (s_inF (nin8 h0 h1 h2 h3 h4 h5 h6 h7 h8) (zip rfl ⟨rfl, trivial⟩))))))))))))
  · exact s_isMannerF h (zip rfl (s_inF h (zip rfl ⟨rfl, trivial⟩)))
theorem fr_mark (a : Nat → Int32) : ok_mark a (fun _ _ => True) IIy PPy := by
  unfold ok_mark w_X9_mark w_X10_mark
  by_cases h : 0 ≤ a 1 ∧ a 1 ≤ 2
  · obtain ⟨o, hT⟩ := frT_of h
    obtain ⟨g1, g2, g3, g4, ⟨e4, e5, e6, e11, e12, e7, e9, e10, e8⟩, g6, -⟩ := id hT
    refine s_isMannerT h (zin (by decide) ⟨g2, o, g3, g4, ?_⟩)
    unfold w_X6_markAt
    by_cases h0 : a 2 < 0
    · exact zip h0 (fr_isRun hT (zip rfl ⟨rfl, trivial⟩))
    · exact zin h0 ⟨g4, zip (by rw [e11]; exact Int32.not_lt.mp h0) (fr_isRun hT (zip rfl ⟨rfl, trivial⟩))⟩
  · exact s_isMannerF h (zip rfl (fr_isRunF h (zip rfl ⟨rfl, trivial⟩)))
