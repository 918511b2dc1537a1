/-! PURE: the small predicates of both sides -/
theorem zip {c A B : Prop} [Decidable c] (hc : c) (h : A) : if c then A else B := by rwa [if_pos hc]
theorem zin {c A B : Prop} [Decidable c] (hc : ¬ c) (h : B) : if c then A else B := by rwa [if_neg hc]
theorem s_in {x lo hi : Int32} {I : zI} {P : zP} {K : Int32 → zI → zP → Prop} : w_X10_in x lo hi I P K ↔ K (if lo ≤ x ∧ x ≤ hi then 1 else 0) I P := by
  unfold w_X10_in
  by_cases h1 : x < lo
  · rw [if_pos h1, if_neg (fun q => absurd h1 (Int32.not_lt.mpr q.1))]
  · rw [if_neg h1]
    by_cases h2 : hi < x
    · rw [if_pos h2, if_neg (fun q => absurd h2 (Int32.not_lt.mpr q.2))]
    · rw [if_neg h2, if_pos ⟨Int32.not_lt.mp h1, Int32.not_lt.mp h2⟩]
theorem s_inT {x lo hi : Int32} {I : zI} {P : zP} {K : Int32 → zI → zP → Prop} (h : lo ≤ x ∧ x ≤ hi) (k : K 1 I P) : w_X10_in x lo hi I P K := s_in.mpr (by rw [if_pos h]; exact k)
theorem s_inF {x lo hi : Int32} {I : zI} {P : zP} {K : Int32 → zI → zP → Prop} (h : ¬ (lo ≤ x ∧ x ≤ hi)) (k : K 0 I P) : w_X10_in x lo hi I P K := s_in.mpr (by rw [if_neg h]; exact k)
theorem s_isManner {x : Int32} {I : zI} {P : zP} {K : Int32 → zI → zP → Prop} : w_X9_isManner x I P K ↔ K (if 0 ≤ x ∧ x ≤ 2 then 1 else 0) I P := by
  unfold w_X9_isManner
  by_cases h1 : x < 0
  · rw [if_pos h1, if_neg (fun q => absurd h1 (Int32.not_lt.mpr q.1))]
  · rw [if_neg h1]
    by_cases h2 : 3 ≤ x
    · rw [if_pos h2, if_neg (fun q => by have := Int32.le_trans h2 q.2; exact absurd this (by decide))]
    · have h3 := Int32.lt_iff_toInt_lt.mp (Int32.not_le.mp h2)
      have e3 : (3 : Int32).toInt = 3 := by decide
      have e2 : (2 : Int32).toInt = 2 := by decide
      rw [if_neg h2, if_pos ⟨Int32.not_lt.mp h1, Int32.le_iff_toInt_le.mpr (by omega)⟩]
theorem s_isMannerT {x : Int32} {I : zI} {P : zP} {K : Int32 → zI → zP → Prop} (h : 0 ≤ x ∧ x ≤ 2) (k : K 1 I P) : w_X9_isManner x I P K := s_isManner.mpr (by rw [if_pos h]; exact k)
theorem s_isMannerF {x : Int32} {I : zI} {P : zP} {K : Int32 → zI → zP → Prop} (h : ¬ (0 ≤ x ∧ x ≤ 2)) (k : K 0 I P) : w_X9_isManner x I P K := s_isManner.mpr (by rw [if_neg h]; exact k)
/-- no method is there: both sides say so -/
theorem s_isMethod0 {x : Int32} {I : zI} {P : zP} {K : Int32 → zI → zP → Prop} (h : I 0 9 = 0) : w_X9_isMethod x I P K ↔ K 0 I P := by
  unfold w_X9_isMethod
  rw [h]
  by_cases h1 : x < 0
  · rw [if_pos h1]
  · rw [if_neg h1, if_pos (Int32.not_lt.mp h1)]
theorem s_mIsMethod0 {x : Int32} {I : zI} {P : zP} {K : Int32 → zI → zP → Prop} (h : I 155 3 = 0) : w_X10_isMethod x I P K ↔ K 0 I P := by
  unfold w_X10_isMethod
  rw [s_in, h, if_neg]
  · exact ⟨fun q => q.2, fun q => ⟨Or.inl rfl, q⟩⟩
  · rintro ⟨h1, h2⟩
    have h3 := Int32.le_trans h1 h2
    exact absurd h3 (by decide)
theorem iy_0_8 : IIy 0 8 = 0 := by decide +kernel
theorem iy_0_9 : IIy 0 9 = 0 := by decide +kernel
theorem iy_0_10 : IIy 0 10 = -1 := by decide +kernel
theorem iy_0_11 : IIy 0 11 = 0 := by decide +kernel
theorem iy_108_5 : IIy 108 5 = 0 := by decide +kernel
theorem iy_m_1 : IIy 155 1 = 0 := by decide +kernel
theorem iy_m_2 : IIy 155 2 = -1 := by decide +kernel
theorem iy_m_3 : IIy 155 3 = 0 := by decide +kernel
theorem iy_m_17 : IIy 155 17 = 0 := by decide +kernel
theorem iy_m_73 : IIy 155 73 = 0 := by decide +kernel
theorem fr_place (a : Nat → Int32) : ok_place a (fun _ _ => True) IIy PPy := by
  unfold ok_place w_X9_place w_X10_place
  exact ⟨by rw [iy_0_10, iy_m_2], trivial⟩
theorem fr_count (a : Nat → Int32) : ok_count a (fun _ _ => True) IIy PPy := by
  unfold ok_count w_X9_count w_X10_count
  by_cases h0 : a 1 = 0
  · exact zip h0 (zip h0 ⟨by rw [iy_0_9, iy_m_3], trivial⟩)
  by_cases h1 : a 1 = 1
  · exact zin h0 (zip h1 (zin h0 (zip h1 ⟨by rw [iy_108_5, iy_m_17], trivial⟩)))
  by_cases h2 : a 1 = 2
  · exact zin h0 (zin h1 (zip h2 (zin h0 (zin h1 (zip h2 ⟨by rw [iy_0_8, iy_m_1], trivial⟩)))))
  by_cases h3 : a 1 = 3
  · exact zin h0 (zin h1 (zin h2 (zip h3 (zin h0 (zin h1 (zin h2 (zip h3 ⟨by rw [iy_0_11, iy_m_73], trivial⟩)))))))
  · exact zin h0 (zin h1 (zin h2 (zin h3 (zin h0 (zin h1 (zin h2 (zin h3 ⟨rfl, trivial⟩)))))))
theorem fr_method (a : Nat → Int32) : ok_method a (fun _ _ => True) IIy PPy := by
  unfold ok_method w_X9_method w_X10_method
  exact (s_isMethod0 iy_0_9).mpr (zip rfl ((s_mIsMethod0 iy_m_3).mpr (zip rfl ⟨rfl, trivial⟩)))
theorem fr_octet (a : Nat → Int32) : ok_octet a (fun _ _ => True) IIy PPy := by
  unfold ok_octet w_X9_octet w_X10_octet
  exact (s_isMethod0 iy_0_9).mpr (zip rfl ((s_mIsMethod0 iy_m_3).mpr (zip rfl ⟨rfl, trivial⟩)))
theorem fr_handler (a : Nat → Int32) : ok_handler a (fun _ _ => True) IIy PPy := by
  unfold ok_handler w_X9_handler w_X10_handler
  exact (s_isMethod0 iy_0_9).mpr (zip rfl ((s_mIsMethod0 iy_m_3).mpr (zip rfl ⟨rfl, trivial⟩)))
theorem fr_type (a : Nat → Int32) : ok_type a (fun _ _ => True) IIy PPy := by
  unfold ok_type w_X9_type w_X10_type
  exact (s_isMethod0 iy_0_9).mpr (zip rfl ((s_mIsMethod0 iy_m_3).mpr (zip rfl ⟨rfl, trivial⟩)))
theorem fr_moved (a : Nat → Int32) : ok_moved a (fun _ _ => True) IIy PPy := by
  unfold ok_moved w_X9_moved w_X10_moved
  exact (s_isMethod0 iy_0_9).mpr (zip rfl ((s_mIsMethod0 iy_m_3).mpr (zip rfl ⟨rfl, trivial⟩)))
theorem fr_weave (a : Nat → Int32) : ok_weave a (fun _ _ => True) IIy PPy := by
  unfold ok_weave w_X9_weave w_X10_weave
  exact (s_isMethod0 iy_0_9).mpr (zip rfl ((s_mIsMethod0 iy_m_3).mpr (zip rfl ⟨rfl, trivial⟩)))
theorem fr_unweave (a : Nat → Int32) : ok_unweave a (fun _ _ => True) IIy PPy := by
  unfold ok_unweave w_X9_unweave w_X10_unweave
  exact (s_isMethod0 iy_0_9).mpr (zip rfl ((s_mIsMethod0 iy_m_3).mpr (zip rfl ⟨rfl, trivial⟩)))
theorem fr_cut (a : Nat → Int32) : ok_cut a (fun _ _ => True) IIy PPy := by
  unfold ok_cut w_X9_cut w_X10_cut
  rw [iy_0_8]
  by_cases h1 : a 1 < 0
  · exact zip h1 (s_inF (by rw [iy_m_1]; exact fun q => absurd h1 (Int32.not_lt.mpr q.1)) (zip rfl ⟨rfl, trivial⟩))
  by_cases h2 : a 1 ≤ 0
  · refine zin h1 (zip h2 (s_inT (by rw [zu_ne (by decide), iy_m_1]; exact ⟨Int32.not_lt.mp h1, h2⟩) (zin (by decide) ⟨?_, trivial⟩)))
    rw [zu_ne (by decide), iy_m_1]
  · exact zin h1 (zin h2 (s_inF (by rw [iy_m_1]; exact fun q => h2 q.2) (zip rfl ⟨rfl, trivial⟩)))
theorem fr_run (a : Nat → Int32) : ok_run a (fun _ _ => True) IIy PPy := by
  unfold ok_run w_X9_run w_X10_run
  by_cases h : 0 ≤ a 1 ∧ a 1 ≤ 2
  · exact s_isMannerT h (zin (by decide) ((s_isMethod0 iy_0_9).mpr (zip rfl (s_inT h (zin (by decide) ((s_mIsMethod0 iy_m_3).mpr (zip rfl ⟨rfl, trivial⟩)))))))
  · exact s_isMannerF h (zip rfl (s_inF h (zip rfl ⟨rfl, trivial⟩)))
