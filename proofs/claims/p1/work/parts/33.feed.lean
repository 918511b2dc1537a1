theorem ap_step {K : zI → zP → Prop} {n t : Nat} {y1 y2 : Int32} {I : zI} {P : zP} (h : ¬ y2 < 0) (ht : I 0 8 = nI t) (hb : t < 600) (k : l_X9_appendWord_3 K n y1 (y2 + (-8)) (zu (zu I 1 t ((((y1 : Int32).toUInt32 >>> ((y2 : Int32).toUInt32 &&& Int32.toUInt32 31)).toInt32) &&& 255)) 0 8 (nI (t + 1))) P) : l_X9_appendWord_3 K (n + 1) y1 y2 I P := by
  rw [l_X9_appendWord_3]
  refine zin h (zin (by rw [ht]; exact nI_pos (by omega)) (zin (by rw [ht]; exact nI_ge (a := t) (b := 600) hb (by decide)) ⟨by rw [ht]; exact vp_in_nI hb (by decide), ?_⟩))
  rw [zu_ne (fun q => absurd q.1 (by decide)), ht, nI_clamp (by omega), nI_1]
  exact k
theorem fo_step {K : zI → zP → Prop} {n t : Nat} {y1 y2 : Int32} {I : zI} {P : zP} (h : ¬ y2 < 0) (ht : I 155 1 = nI t) (hb : t < 600) (k : l_X10_four_3 K n y1 (y2 + (-8)) (zu (zu I 156 t (((y1 : Int32) >>> ((y2 : Int32) &&& 31)) &&& 255)) 155 1 (nI (t + 1))) P) : l_X10_four_3 K (n + 1) y1 y2 I P := by
  rw [l_X10_four_3]
  refine zin h ⟨by rw [ht]; exact vp_in_nI hb (by decide), ?_⟩
  rw [zu_ne (fun q => absurd q.1 (by decide)), ht, nI_clamp (by omega), nI_1]
  exact k
/-- the loom's TAPE behind one int -/
def apI (I : zI) (t : Nat) (x : Int32) : zI := zu (zu (zu (zu (zu (zu (zu (zu I 1 t ((((x : Int32).toUInt32 >>> ((24 : Int32).toUInt32 &&& Int32.toUInt32 31)).toInt32) &&& 255)) 0 8 (nI (t + 1))) 1 (t + 1) ((((x : Int32).toUInt32 >>> ((16 : Int32).toUInt32 &&& Int32.toUInt32 31)).toInt32) &&& 255)) 0 8 (nI (t + 2))) 1 (t + 2) ((((x : Int32).toUInt32 >>> ((8 : Int32).toUInt32 &&& Int32.toUInt32 31)).toInt32) &&& 255)) 0 8 (nI (t + 3))) 1 (t + 3) ((((x : Int32).toUInt32 >>> ((0 : Int32).toUInt32 &&& Int32.toUInt32 31)).toInt32) &&& 255)) 0 8 (nI (t + 4))
def foI (I : zI) (t : Nat) (x : Int32) : zI := zu (zu (zu (zu (zu (zu (zu (zu I 156 t (((x : Int32) >>> ((24 : Int32) &&& 31)) &&& 255)) 155 1 (nI (t + 1))) 156 (t + 1) (((x : Int32) >>> ((16 : Int32) &&& 31)) &&& 255)) 155 1 (nI (t + 2))) 156 (t + 2) (((x : Int32) >>> ((8 : Int32) &&& 31)) &&& 255)) 155 1 (nI (t + 3))) 156 (t + 3) (((x : Int32) >>> ((0 : Int32) &&& 31)) &&& 255)) 155 1 (nI (t + 4))
theorem apI_8 {I : zI} {t : Nat} {x : Int32} : apI I t x 0 8 = nI (t + 4) := zu_same
theorem foI_1 {I : zI} {t : Nat} {x : Int32} : foI I t x 155 1 = nI (t + 4) := zu_same
theorem apI_m {I : zI} {t c j : Nat} {x : Int32} (h : ¬ c = 0) (h1 : ¬ c = 1) : apI I t x c j = I c j := by simp [apI, zu, h, h1]
theorem foI_m {I : zI} {t c j : Nat} {x : Int32} (h : ¬ c = 155) (h1 : ¬ c = 156) : foI I t x c j = I c j := by simp [foI, zu, h, h1]
theorem s_append {x : Int32} {I : zI} {P : zP} {K : zI → zP → Prop} {t : Nat} (ht : I 0 8 = nI t) (hb : t + 4 ≤ 600) (k : K (apI I t x) P) : w_X9_appendWord x I P K := by
  unfold w_X9_appendWord
  refine ⟨5, ap_step (by decide) ht (by omega) (ap_step (by decide) zu_same (by omega) (ap_step (by decide) zu_same (by omega) (ap_step (by decide) zu_same (by omega) ?_)))⟩
  rw [l_X9_appendWord_3]
  exact zip (by decide) k
theorem s_four {x : Int32} {I : zI} {P : zP} {K : zI → zP → Prop} {t : Nat} (ht : I 155 1 = nI t) (hb : t + 4 ≤ 600) (k : K (foI I t x) P) : w_X10_four x I P K := by
  unfold w_X10_four
  refine ⟨5, fo_step (by decide) ht (by omega) (fo_step (by decide) zu_same (by omega) (fo_step (by decide) zu_same (by omega) (fo_step (by decide) zu_same (by omega) ?_)))⟩
  rw [l_X10_four_3]
  exact zip (by decide) k
