theorem fr_feed (a : Nat → Int32) : ok_feed a (fun _ _ => True) IIy PPy := by
  unfold ok_feed w_X9_feed w_X10_feed
  refine zip (by rw [iy_0_8]; decide) (s_append (t := 0) iy_0_8 (by decide) (s_append (t := 4) apI_8 (by decide) (s_append (t := 8) apI_8 (by decide) (s_append (t := 12) apI_8 (by decide) (s_append (t := 16) apI_8 (by decide) ?_)))))
  have m0 : apI (apI (apI (apI (apI IIy 0 (a 1)) 4 (a 2)) 8 (a 3)) 12 (a 4)) 16 (a 5) 155 1 = nI 0 := by
    rw [apI_m (by decide) (by decide), apI_m (by decide) (by decide), apI_m (by decide) (by decide), apI_m (by decide) (by decide), apI_m (by decide) (by decide)]
    exact iy_m_1
  have m1 : apI (apI (apI (apI (apI IIy 0 (a 1)) 4 (a 2)) 8 (a 3)) 12 (a 4)) 16 (a 5) 0 8 = nI (16 + 4) := apI_8
  generalize apI (apI (apI (apI (apI IIy 0 (a 1)) 4 (a 2)) 8 (a 3)) 12 (a 4)) 16 (a 5) = J at m0 m1 ⊢
  refine zip (by rw [m0]; decide) (s_four (t := 0) m0 (by decide) (s_four (t := 4) foI_1 (by decide) (s_four (t := 8) foI_1 (by decide) (s_four (t := 12) foI_1 (by decide) (s_four (t := 16) foI_1 (by decide) ⟨?_, trivial⟩)))))
  rw [m1, foI_1]
theorem fr_clear (a : Nat → Int32) : ok_clear a (fun _ _ => True) IIy PPy := by
  unfold ok_clear w_X9_clear
  refine ⟨7, ?_⟩
  rw [l_X9_clear_18]
  refine zin (by decide) ⟨vin_lit (j := 0) (by decide) (by decide) (by decide), 20, by decide +kernel, rfl, 26, by decide +kernel, rfl, ?_⟩
  rw [l_X9_clear_18]
  refine zin (by decide) ⟨vin_lit (j := 1) (by decide) (by decide) (by decide), 32, by decide +kernel, rfl, 38, by decide +kernel, rfl, ?_⟩
  rw [l_X9_clear_18]
  refine zin (by decide) ⟨vin_lit (j := 2) (by decide) (by decide) (by decide), 44, by decide +kernel, rfl, 50, by decide +kernel, rfl, ?_⟩
  rw [l_X9_clear_18]
  refine zin (by decide) ⟨vin_lit (j := 3) (by decide) (by decide) (by decide), 56, by decide +kernel, rfl, 62, by decide +kernel, rfl, ?_⟩
  rw [l_X9_clear_18]
  refine zin (by decide) ⟨vin_lit (j := 4) (by decide) (by decide) (by decide), 68, by decide +kernel, rfl, 74, by decide +kernel, rfl, ?_⟩
  rw [l_X9_clear_18]
  refine zin (by decide) ⟨vin_lit (j := 5) (by decide) (by decide) (by decide), 80, by decide +kernel, rfl, 86, by decide +kernel, rfl, ?_⟩
  rw [l_X9_clear_18]
  refine zip (by decide) ?_
  unfold w_X10_clear
  refine ⟨7, ?_⟩
  rw [l_X10_clear_12]
  refine zin (by decide) ⟨vin_lit (j := 0) (by decide) (by decide) (by decide), ?_⟩
  rw [l_X10_clear_12]
  refine zin (by decide) ⟨vin_lit (j := 1) (by decide) (by decide) (by decide), ?_⟩
  rw [l_X10_clear_12]
  refine zin (by decide) ⟨vin_lit (j := 2) (by decide) (by decide) (by decide), ?_⟩
  rw [l_X10_clear_12]
  refine zin (by decide) ⟨vin_lit (j := 3) (by decide) (by decide) (by decide), ?_⟩
  rw [l_X10_clear_12]
  refine zin (by decide) ⟨vin_lit (j := 4) (by decide) (by decide) (by decide), ?_⟩
  rw [l_X10_clear_12]
  refine zin (by decide) ⟨vin_lit (j := 5) (by decide) (by decide) (by decide), ?_⟩
  rw [l_X10_clear_12]
  exact zip (by decide) ⟨by decide +kernel, trivial⟩
