theorem fr_probe (a : Nat → Int32) : ok_probe a (fun _ _ => True) IIy PPy := by
  unfold ok_probe w_X9_probe w_X10_probe
  refine (s_isMethod0 iy_0_9).mpr (zip rfl ?_)
  by_cases h : 0 ≤ a 1 ∧ a 1 ≤ 7
  · exact s_inT h (zin (by decide) ((s_mIsMethod0 iy_m_3).mpr (zip rfl ⟨rfl, trivial⟩)))
  · exact s_inF h (zip rfl ⟨rfl, trivial⟩)
theorem zlen_of {a t n : Nat} (h : SHy[a]? = some (t, n)) : zlen a = n := by
  unfold zlen
  rw [List.getD_eq_getElem?_getD, h]
  rfl
theorem fr_field (a : Nat → Int32) : ok_field a (fun _ _ => True) IIy PPy := by
  unfold ok_field w_X9_field w_X10_field
  by_cases h : 0 ≤ a 1 ∧ a 1 ≤ 2
  · obtain ⟨o, hT⟩ := frT_of h
    obtain ⟨g1, g2, g3, g4, -, -, v, g7, g8, g9⟩ := id hT
    refine s_isMannerT h (zin (by decide) ?_)
    by_cases h0 : a 2 < 0
    · exact zip h0 (fr_isRun hT (zip rfl ⟨rfl, trivial⟩))
    by_cases h1 : 8 ≤ a 2
    · exact zin h0 (zip h1 (fr_isRun hT (zip rfl ⟨rfl, trivial⟩)))
    · obtain ⟨j, hj, e, -, ej, -⟩ := pk_mu (L := 8) h0 h1 (by decide)
      refine zin h0 (zin h1 ⟨g2, o, g3, g4, v, g7, by rw [zlen_of g8]; exact g8, by rw [zlen_of g8]; exact vin_of h0 h1 (by decide), fr_isRun hT (zip rfl ⟨?_, trivial⟩)⟩)
      rw [ej]
      exact g9 j hj
  · exact s_isMannerF h (zip rfl (fr_isRunF h (zip rfl ⟨rfl, trivial⟩)))
theorem fr_kept {m : Int32} {K : Int32 → zI → zP → Prop} (k : K 0 IIy PPy) : w_X10_kept m IIy PPy K := by
  unfold w_X10_kept
  by_cases h : 0 ≤ m ∧ m ≤ 2
  · obtain ⟨o, hT⟩ := frT_of h
    exact fr_isRun hT (zip rfl k)
  · exact fr_isRunF h (zip rfl k)
theorem fr_recordsKept {m : Int32} {o : Nat} {K : Int32 → zI → zP → Prop} (h : frT m o) (k : K 0 IIy PPy) : w_X6_recordsKept o IIy PPy K := by
  obtain ⟨g1, g2, g3, g4, ⟨e4, e5, e6, e11, e12, e7, e9, e10, e8⟩, g6, -⟩ := h
  unfold w_X6_recordsKept
  rw [e12, if_neg (by decide)]
  exact ⟨g4, k⟩
theorem nin0 {x : Int32} : ¬ (0 ≤ x ∧ x ≤ 0 - 1) := by
  rintro ⟨h1, h2⟩
  exact absurd (Int32.le_trans h1 h2) (by decide)
theorem fr_record (a : Nat → Int32) : ok_record a (fun _ _ => True) IIy PPy := by
  unfold ok_record w_X9_record w_X10_record
  by_cases h : 0 ≤ a 1 ∧ a 1 ≤ 2
  · obtain ⟨o, hT⟩ := frT_of h
    obtain ⟨g1, g2, g3, g4, -⟩ := id hT
    refine s_isMannerT h (zin (by decide) ⟨g2, o, g3, g4, ?_⟩)
    unfold w_X6_recordPart
    by_cases h0 : a 2 < 0
    · exact zip h0 (fr_kept (s_inF nin0 (zip rfl ⟨rfl, trivial⟩)))
    · exact zin h0 ⟨g4, fr_recordsKept hT (zin h0 (fr_kept (s_inF nin0 (zip rfl ⟨rfl, trivial⟩))))⟩
  · exact s_isMannerF h (zip rfl (fr_kept (s_inF nin0 (zip rfl ⟨rfl, trivial⟩))))
theorem fr_mrecords {x y : Int32} {K : Int32 → zI → zP → Prop} (k : K 0 IIy PPy) : w_X10_records x y IIy PPy K := by
  unfold w_X10_records
  refine ⟨1, ?_⟩
  rw [l_X10_records_5]
  exact fr_kept (zip (by decide) k)
theorem fr_records (a : Nat → Int32) : ok_records a (fun _ _ => True) IIy PPy := by
  unfold ok_records w_X9_records
  by_cases h : 0 ≤ a 1 ∧ a 1 ≤ 2
  · obtain ⟨o, hT⟩ := frT_of h
    obtain ⟨g1, g2, g3, g4, -⟩ := id hT
    refine s_isMannerT h (zin (by decide) ⟨g2, o, g3, g4, ?_⟩)
    unfold w_X6_recordsOf
    refine ⟨1, ?_⟩
    rw [l_X6_recordsOf_4]
    exact ⟨g4, fr_recordsKept hT (zip (by decide) (fr_mrecords ⟨rfl, trivial⟩))⟩
  · exact s_isMannerF h (zip rfl (fr_mrecords ⟨rfl, trivial⟩))
theorem fr_differ (a : Nat → Int32) : ok_differ a (fun _ _ => True) IIy PPy := by
  unfold ok_differ w_X9_differ
  obtain ⟨-, a2, a3, a4, -⟩ := id frT_1
  obtain ⟨-, b2, b3, b4, -⟩ := id frT_2
  refine ⟨a2, 98, a3, b2, 103, b3, a4, fr_recordsKept frT_1 ⟨b4, fr_recordsKept frT_2 ⟨1, ?_⟩⟩⟩
  rw [l_X9_differ_29]
  refine zip (by decide) ⟨a4, fr_recordsKept frT_1 ⟨b4, fr_recordsKept frT_2 (zip rfl ?_)⟩⟩
  unfold w_X10_differ
  refine fr_kept (fr_kept ⟨1, ?_⟩)
  rw [l_X10_differ_14]
  refine zip (by decide) ?_
  unfold j_X10_differ_78
  exact zip rfl ⟨rfl, trivial⟩
