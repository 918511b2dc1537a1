theorem fr_byte {i : Int32} {I : zI} {P : zP} {K : Int32 → zI → zP → Prop} (h0 : ¬ i < 0) (h1 : ¬ Int32.ofNat (zlen 1) ≤ i) (hv : vp_in i (zlen 1)) (k : K (I 1 i.toNatClampNeg) I P) : w_X9_byteAt 1 i I P K := by
  unfold w_X9_byteAt
  exact zin h0 ⟨by decide +kernel, zin h1 ⟨hv, k⟩⟩
theorem fr_zl : zlen 1 = 600 := by decide +kernel
theorem fr_bytej {j : Nat} {i : Int32} {I : zI} {P : zP} {K : Int32 → zI → zP → Prop} (hi : i = nI j) (hj : j < 600) (k : K (I 1 i.toNatClampNeg) I P) : w_X9_byteAt 1 i I P K := by
  refine fr_byte ?_ ?_ ?_ k
  · rw [hi]; exact nI_pos (by omega)
  · rw [hi, fr_zl]; exact nI_ge (a := j) (b := 600) hj (by decide)
  · rw [hi, fr_zl]; exact vp_in_nI hj (by decide)
theorem fr_mmake {I : zI} {P : zP} {K : Int32 → zI → zP → Prop} (h3 : I 155 3 = 0) (h1 : I 155 1 = 0) (k : ∀ I2 P2, K (-11) I2 P2) : w_X10_make I P K := by
  unfold w_X10_make w_X10_form w_X10_fault
  exact zin (by rw [h3]; decide) (zip (by rw [h1]; decide) (zin (by decide) (k _ _)))
set_option maxRecDepth 100000 in
theorem fr_make (a : Nat → Int32) : ok_make a (fun _ _ => True) IIy PPy := by
  unfold ok_make w_X9_make
  refine zin (by rw [iy_0_9]; decide) (zip (by rw [iy_0_9]; decide) ⟨by rw [iy_0_9]; exact vin_lit (j := 0) (by decide) (by decide) (by decide), 20, by decide +kernel, ?_⟩)
  unfold w_X9_findFault w_X5_formFault w_X5_headFault
  refine ⟨by decide +kernel, 1, by decide +kernel, fr_bytej (j := 0) rfl (by decide) ⟨by decide +kernel, 1, by decide +kernel, fr_bytej (j := 1) rfl (by decide) ⟨1, by decide +kernel, fr_bytej (j := 2) rfl (by decide) ⟨1, by decide +kernel, fr_bytej (j := 3) rfl (by decide) ?_⟩⟩⟩⟩
  refine zin (by decide +kernel) (zin (by decide +kernel) ?_)
  unfold j_X5_formFault_35
  refine zin (by decide +kernel) (zin (by decide +kernel) (zin (by decide) ?_))
  exact fr_mmake (by decide +kernel) (by decide +kernel) (fun _ _ => ⟨by decide, trivial⟩)
/-- the first call on fresh objects -/
theorem fr_step (a : Nat → Int32) : lawStep a (fun _ _ => True) IIy PPy := by
  unfold lawStep
  exact ⟨fun _ => fr_feed a, fun _ => fr_cut a, fun _ => fr_make a, fun _ => fr_place a, fun _ => fr_method a, fun _ => fr_octet a, fun _ => fr_handler a, fun _ => fr_type a, fun _ => fr_moved a, fun _ => fr_probe a, fun _ => fr_clear a, fun _ => fr_weave a, fun _ => fr_unweave a, fun _ => fr_run a, fun _ => fr_told a, fun _ => fr_mark a, fun _ => fr_field a, fun _ => fr_record a, fun _ => fr_records a, fun _ => fr_differ a, fun _ => fr_count a, fun _ _ _ _ _ _ _ _ _ _ _ _ _ _ _ _ _ _ _ _ _ => trivial⟩
