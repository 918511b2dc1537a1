/-! PURE 39: feed, cut, and the telling calls over Rel -/
def RelE (I : zI) (_ : zP) : Prop := ∃ n A k B, Rel n A k B I
def byt (x : Int32) (k : Nat) : Nat := x.toBitVec.toNat / 2 ^ k % 256
theorem byt_lt (x : Int32) (k : Nat) : byt x k < 256 := Nat.mod_lt _ (by decide)
theorem ush_b (x s : Int32) (k : Nat) (hs : ((s.toUInt32 &&& Int32.toUInt32 31).toBitVec % 32).toNat = k) : ((x.toUInt32 >>> (s.toUInt32 &&& Int32.toUInt32 31)).toInt32) &&& 255 = nI (byt x k) := by
  rw [pk_and _ 8 (by decide), pk_ushr x s k hs]; rfl
theorem shr_b (x s : Int32) (k : Nat) (hk : k = 24 ∨ k = 16 ∨ k = 8 ∨ k = 0) (hs : (s.toBitVec.smod 32).toNat = k) : (x >>> s) &&& 255 = nI (byt x k) := by
  rw [pk_and _ 8 (by decide)]
  congr 1
  have h1 := pk_shr x s k hs
  have h2 : ∀ y : Int32, y.toInt = if 2 * y.toBitVec.toNat < 2 ^ 32 then (y.toBitVec.toNat : Int) else (y.toBitVec.toNat : Int) - (2 ^ 32 : Nat) := fun y => BitVec.toInt_eq_toNat_cond y.toBitVec
  have h3 : ∀ y : Int32, y.toBitVec.toNat < 2 ^ 32 := fun y => y.toBitVec.isLt
  rw [h2, h2, Int.shiftRight_eq_div_pow] at h1
  have a1 := h3 x
  have a2 := h3 (x >>> s)
  unfold byt
  generalize (x >>> s).toBitVec.toNat = Y at *
  generalize x.toBitVec.toNat = X at *
  rcases hk with rfl | rfl | rfl | rfl <;> (revert h1; split <;> split <;> intro h1 <;> omega)
theorem apI_v {I : zI} {t r : Nat} {x : Int32} (hr : r < 4) : apI I t x 1 (t + r) = nI (byt x (24 - 8 * r)) := by
  unfold apI
  rw [ush_b x 24 24 (by decide), ush_b x 16 16 (by decide), ush_b x 8 8 (by decide), ush_b x 0 0 (by decide)]
  rcases (by omega : r = 0 ∨ r = 1 ∨ r = 2 ∨ r = 3) with rfl | rfl | rfl | rfl
  · rw [zu_nc (by decide), zu_nj (by omega), zu_nc (by decide), zu_nj (by omega), zu_nc (by decide), zu_nj (by omega), zu_nc (by decide)]; exact zu_same
  · rw [zu_nc (by decide), zu_nj (by omega), zu_nc (by decide), zu_nj (by omega), zu_nc (by decide)]; exact zu_same
  · rw [zu_nc (by decide), zu_nj (by omega), zu_nc (by decide)]; exact zu_same
  · rw [zu_nc (by decide)]; exact zu_same
theorem apI_o {I : zI} {t c j : Nat} {x : Int32} (h : ¬ (c = 1 ∧ t ≤ j ∧ j < t + 4)) (h2 : ¬ (c = 0 ∧ j = 8)) : apI I t x c j = I c j := by
  unfold apI
  rw [zu_ne (by omega), zu_ne (by omega), zu_ne (by omega), zu_ne (by omega), zu_ne (by omega), zu_ne (by omega), zu_ne (by omega), zu_ne (by omega)]
theorem foI_v {I : zI} {t r : Nat} {x : Int32} (hr : r < 4) : foI I t x 156 (t + r) = nI (byt x (24 - 8 * r)) := by
  unfold foI
  rw [shr_b x (24 &&& 31) 24 (by omega) (by decide), shr_b x (16 &&& 31) 16 (by omega) (by decide), shr_b x (8 &&& 31) 8 (by omega) (by decide), shr_b x (0 &&& 31) 0 (by omega) (by decide)]
  rcases (by omega : r = 0 ∨ r = 1 ∨ r = 2 ∨ r = 3) with rfl | rfl | rfl | rfl
  · rw [zu_nc (by decide), zu_nj (by omega), zu_nc (by decide), zu_nj (by omega), zu_nc (by decide), zu_nj (by omega), zu_nc (by decide)]; exact zu_same
  · rw [zu_nc (by decide), zu_nj (by omega), zu_nc (by decide), zu_nj (by omega), zu_nc (by decide)]; exact zu_same
  · rw [zu_nc (by decide), zu_nj (by omega), zu_nc (by decide)]; exact zu_same
  · rw [zu_nc (by decide)]; exact zu_same
theorem foI_o {I : zI} {t c j : Nat} {x : Int32} (h : ¬ (c = 156 ∧ t ≤ j ∧ j < t + 4)) (h2 : ¬ (c = 155 ∧ j = 1)) : foI I t x c j = I c j := by
  unfold foI
  rw [zu_ne (by omega), zu_ne (by omega), zu_ne (by omega), zu_ne (by omega), zu_ne (by omega), zu_ne (by omega), zu_ne (by omega), zu_ne (by omega)]
def apN (I : zI) (t : Nat) (xs : Nat → Int32) : Nat → zI
  | 0 => I
  | i + 1 => apI (apN I t xs i) (t + 4 * i) (xs (i + 1))
def foN (I : zI) (t : Nat) (xs : Nat → Int32) : Nat → zI
  | 0 => I
  | i + 1 => foI (foN I t xs i) (t + 4 * i) (xs (i + 1))
theorem apN_v {I : zI} {t : Nat} {xs : Nat → Int32} : ∀ i j, t ≤ j → j < t + 4 * i → apN I t xs i 1 j = nI (byt (xs ((j - t) / 4 + 1)) (24 - 8 * ((j - t) % 4)))
  | 0, j, h1, h2 => absurd h2 (by omega)
  | i + 1, j, h1, h2 => by
    rw [apN]
    by_cases e : j < t + 4 * i
    · rw [apI_o (by omega) (by omega)]; exact apN_v i j h1 e
    · obtain ⟨r, hr, rfl⟩ : ∃ r, r < 4 ∧ j = t + 4 * i + r := ⟨j - (t + 4 * i), by omega, by omega⟩
      rw [apI_v hr, show (t + 4 * i + r - t) / 4 = i by omega, show (t + 4 * i + r - t) % 4 = r by omega]
theorem apN_o {I : zI} {t c j : Nat} {xs : Nat → Int32} : ∀ i, ¬ (c = 1 ∧ t ≤ j ∧ j < t + 4 * i) → ¬ (c = 0 ∧ j = 8) → apN I t xs i c j = I c j
  | 0, _, _ => rfl
  | i + 1, h1, h2 => by rw [apN, apI_o (by omega) h2]; exact apN_o i (by omega) h2
theorem foN_v {I : zI} {t : Nat} {xs : Nat → Int32} : ∀ i j, t ≤ j → j < t + 4 * i → foN I t xs i 156 j = nI (byt (xs ((j - t) / 4 + 1)) (24 - 8 * ((j - t) % 4)))
  | 0, j, h1, h2 => absurd h2 (by omega)
  | i + 1, j, h1, h2 => by
    rw [foN]
    by_cases e : j < t + 4 * i
    · rw [foI_o (by omega) (by omega)]; exact foN_v i j h1 e
    · obtain ⟨r, hr, rfl⟩ : ∃ r, r < 4 ∧ j = t + 4 * i + r := ⟨j - (t + 4 * i), by omega, by omega⟩
      rw [foI_v hr, show (t + 4 * i + r - t) / 4 = i by omega, show (t + 4 * i + r - t) % 4 = r by omega]
theorem foN_o {I : zI} {t c j : Nat} {xs : Nat → Int32} : ∀ i, ¬ (c = 156 ∧ t ≤ j ∧ j < t + 4 * i) → ¬ (c = 155 ∧ j = 1) → foN I t xs i c j = I c j
  | 0, _, _ => rfl
  | i + 1, h1, h2 => by rw [foN, foI_o (by omega) h2]; exact foN_o i (by omega) h2
/-- only the TAPE changes -/
theorem Rel_t {n k : Nat} {A : Nat → Nat → Nat → Nat} {B : Nat → Nat → Nat} {I I' : zI} (h : Rel n A k B I) (ht : RTp I') (f : ∀ c j, ¬ (c = 0 ∧ j = 8) → c ≠ 1 → ¬ (c = 155 ∧ j = 1) → c ≠ 156 → I' c j = I c j) : Rel n A k B I' := by
  obtain ⟨h1, h2, h3, h4, h5, h6, h7, h8, h9⟩ := h
  have h6n := h4.1
  refine ⟨ht, by rw [f _ _ (by omega) (by omega) (by omega) (by omega), f _ _ (by omega) (by omega) (by omega) (by omega)]; exact h2, by rw [f _ _ (by omega) (by omega) (by omega) (by omega), f _ _ (by omega) (by omega) (by omega) (by omega)]; exact h3, RM_c h4 (f _ _ (by omega) (by omega) (by omega) (by omega)) (f _ _ (by omega) (by omega) (by omega) (by omega)) (fun m hm c j q => f c j (by unfold blkM at q; omega) (by unfold blkM at q; omega) (by unfold blkM at q; omega) (by unfold blkM at q; omega)), h5, fun m hm => by rw [f _ _ (by omega) (by omega) (by omega) (by omega)]; exact h6 m hm, PB_c h7 (fun c j q => f c j (by omega) (by omega) (by omega) (by omega)), fun m hm => VW_c (fun m hm => (h4.2.2.2 m hm).2.2) (h8 m hm) (fun c j q => f c j (by unfold blkW at q; omega) (by unfold blkW at q; omega) (by unfold blkW at q; omega) (by unfold blkW at q; omega)), fun j hj => RT_c hj (h9 j hj) (fun c i q => f c i (by omega) (by omega) (by omega) (by omega))⟩
theorem k_feed {a : Nat → Int32} {I : zI} {P : zP} (h : RelE I P) : ok_feed a RelE I P := by
  obtain ⟨n, A, k, B, hR⟩ := h
  obtain ⟨t, b, ht, h8, h1, hb, hb2⟩ := hR.1
  unfold ok_feed w_X9_feed w_X10_feed
  by_cases hf : t ≤ 580
  · have e20 : nI t + 20 = nI (t + 20) := nI_add t 20
    refine zip (by rw [h8]; exact nI_le (b := 580) hf (by decide)) ?_
    refine s_append (t := t + 4 * 0) h8 (by omega) (s_append (t := t + 4 * 1) apI_8 (by omega) (s_append (t := t + 4 * 2) apI_8 (by omega) (s_append (t := t + 4 * 3) apI_8 (by omega) (s_append (t := t + 4 * 4) apI_8 (by omega) ?_))))
    have hJ : apI (apI (apI (apI (apI I (t + 4 * 0) (a 1)) (t + 4 * 1) (a 2)) (t + 4 * 2) (a 3)) (t + 4 * 3) (a 4)) (t + 4 * 4) (a 5) = apN I t a 5 := rfl
    rw [hJ]
    have j8 : apN I t a 5 0 8 = nI (t + 20) := apI_8
    have j1 : apN I t a 5 155 1 = nI t := by rw [apN_o 5 (by omega) (by omega)]; exact h1
    refine zip (by rw [j1, e20]; exact nI_le (b := 600) (by omega) (by decide)) ?_
    refine s_four (t := t + 4 * 0) j1 (by omega) (s_four (t := t + 4 * 1) foI_1 (by omega) (s_four (t := t + 4 * 2) foI_1 (by omega) (s_four (t := t + 4 * 3) foI_1 (by omega) (s_four (t := t + 4 * 4) foI_1 (by omega) ?_))))
    have hM : foI (foI (foI (foI (foI (apN I t a 5) (t + 4 * 0) (a 1)) (t + 4 * 1) (a 2)) (t + 4 * 2) (a 3)) (t + 4 * 3) (a 4)) (t + 4 * 4) (a 5) = foN (apN I t a 5) t a 5 := rfl
    rw [hM]
    have m1 : foN (apN I t a 5) t a 5 155 1 = nI (t + 20) := foI_1
    refine ⟨by rw [j8, m1], n, A, k, B, Rel_t hR ?_ (fun c j q1 q2 q3 q4 => by rw [foN_o 5 (by omega) q3, apN_o 5 (by omega) q1])⟩
    refine ⟨t + 20, fun j => if t ≤ j ∧ j < t + 20 then byt (a ((j - t) / 4 + 1)) (24 - 8 * ((j - t) % 4)) else b j, by omega, by rw [foN_o 5 (by omega) (by omega)]; exact j8, m1, fun j hj => ?_, fun j hj => ?_⟩
    · dsimp only
      by_cases e : t ≤ j ∧ j < t + 20
      · rw [if_pos e, foN_o 5 (by omega) (by omega), apN_v 5 j e.1 (by omega)]
        exact ⟨byt_lt _ _, rfl⟩
      · rw [if_neg e, foN_o 5 (by omega) (by omega), apN_o 5 (by omega) (by omega)]
        exact hb j hj
    · dsimp only
      by_cases e : t ≤ j ∧ j < t + 20
      · rw [if_pos e, foN_v 5 j e.1 (by omega)]
      · rw [if_neg e, foN_o 5 (by omega) (by omega), apN_o 5 (by omega) (by omega)]
        exact hb2 j (by omega)
  · have e20 : nI t + 20 = nI (t + 20) := nI_add t 20
    exact zin (by rw [h8]; exact nI_ge (a := 580) (by omega) (by omega)) (zin (by rw [h1, e20]; exact nI_ge (a := 600) (by omega) (by omega)) ⟨rfl, n, A, k, B, hR⟩)
theorem k_cut {a : Nat → Int32} {I : zI} {P : zP} (h : RelE I P) : ok_cut a RelE I P := by
  obtain ⟨n, A, k, B, hR⟩ := h
  obtain ⟨t, b, ht, h8, h1, hb, hb2⟩ := hR.1
  unfold ok_cut w_X9_cut w_X10_cut
  by_cases h0 : a 1 < 0
  · refine zip h0 (s_inF (fun q => absurd h0 (Int32.not_lt.mpr q.1)) (zip rfl ⟨rfl, n, A, k, B, hR⟩))
  refine zin h0 ?_
  by_cases h2 : a 1 ≤ nI t
  · obtain ⟨x, hx, ex⟩ := nI_of2 (M := nI t) (n := t) (nI_toInt (by omega)) h0 h2
    refine zip (by rw [h8]; exact h2) ?_
    rw [h8, ex, pk_sub hx]
    have j1 : zu I 0 8 (nI (t - x)) 155 1 = nI t := by rw [zu_nc (by decide)]; exact h1
    refine s_inT ⟨nI_pos' (by omega), by rw [j1]; exact nI_le hx (by omega)⟩ (zin (by decide) ?_)
    dsimp only
    rw [j1, pk_sub hx]
    refine ⟨rfl, n, A, k, B, Rel_t hR ⟨t - x, b, by omega, by rw [zu_nc (by decide), zu_same], zu_same, fun j hj => ⟨(hb j hj).1, by rw [zu_nc (by decide), zu_nc (by decide)]; exact (hb j hj).2⟩, fun j hj => by rw [zu_nc (by decide), zu_nc (by decide)]; exact hb2 j (by omega)⟩ (fun c j q1 q2 q3 q4 => by rw [zu_ne q3, zu_ne q1])⟩
  · exact zin (by rw [h8]; exact h2) (s_inF (by rw [h1]; exact fun q => h2 q.2) (zip rfl ⟨rfl, n, A, k, B, hR⟩))
theorem k_place {a : Nat → Int32} {I : zI} {P : zP} (h : RelE I P) : ok_place a RelE I P := by
  have h' := h
  obtain ⟨n, A, k, B, hR⟩ := h
  exact c_place hR.2.1 h'
theorem k_count {a : Nat → Int32} {I : zI} {P : zP} (h : RelE I P) : ok_count a RelE I P := by
  have h' := h
  obtain ⟨n, A, k, B, hR⟩ := h
  obtain ⟨t, b, ht, h8, h1, -⟩ := hR.1
  exact c_count (by rw [hR.2.2.2.1.2.1, hR.2.2.2.1.2.2.1]) (by rw [hR.2.2.2.2.2.2.1.2.1, hR.2.2.2.2.2.2.1.2.2.1]) (by rw [h8, h1]) hR.2.2.1 h'
theorem Rel_W {n k : Nat} {A : Nat → Nat → Nat → Nat} {B : Nat → Nat → Nat} {I : zI} (h : Rel n A k B I) : ∀ m, m < n → RW (A m) m I := fun m hm => RW_of h.2.2.2.2.2.2.1.1 (h.2.2.2.1.2.2.2 m hm).2.2 (h.2.2.2.2.2.2.2.1 m (by have := h.2.2.2.1.1; omega))
theorem k_method {a : Nat → Int32} {I : zI} {P : zP} (hP : PSt P) (h : RelE I P) : ok_method a RelE I P := by
  have h' := h
  obtain ⟨n, A, k, B, hR⟩ := h
  exact c_method hP hR.2.2.2.1 (Rel_W hR) h'
theorem k_octet {a : Nat → Int32} {I : zI} {P : zP} (hP : PSt P) (h : RelE I P) : ok_octet a RelE I P := by
  have h' := h
  obtain ⟨n, A, k, B, hR⟩ := h
  exact c_octet hP hR.2.2.2.1 (Rel_W hR) h'
theorem k_handler {a : Nat → Int32} {I : zI} {P : zP} (hP : PSt P) (h : RelE I P) : ok_handler a RelE I P := by
  have h' := h
  obtain ⟨n, A, k, B, hR⟩ := h
  exact c_handler hP hR.2.2.2.1 (Rel_W hR) h'
theorem k_type {a : Nat → Int32} {I : zI} {P : zP} (hP : PSt P) (h : RelE I P) : ok_type a RelE I P := by
  have h' := h
  obtain ⟨n, A, k, B, hR⟩ := h
  exact c_type hP hR.2.2.2.1 h'
theorem k_moved {a : Nat → Int32} {I : zI} {P : zP} (hP : PSt P) (h : RelE I P) : ok_moved a RelE I P := by
  have h' := h
  obtain ⟨n, A, k, B, hR⟩ := h
  exact c_moved hP hR.2.2.2.1 (Rel_W hR) h'
theorem k_told {a : Nat → Int32} {I : zI} {P : zP} (hP : PSt P) (h : RelE I P) : ok_told a RelE I P := c_told hP (by obtain ⟨n, A, k, B, hR⟩ := h; exact hR.2.2.2.2.2.2.2.2) h
theorem k_mark {a : Nat → Int32} {I : zI} {P : zP} (hP : PSt P) (h : RelE I P) : ok_mark a RelE I P := c_mark hP (by obtain ⟨n, A, k, B, hR⟩ := h; exact hR.2.2.2.2.2.2.2.2) h
theorem k_field {a : Nat → Int32} {I : zI} {P : zP} (hP : PSt P) (h : RelE I P) : ok_field a RelE I P := c_field hP (by obtain ⟨n, A, k, B, hR⟩ := h; exact hR.2.2.2.2.2.2.2.2) h
theorem k_record {a : Nat → Int32} {I : zI} {P : zP} (hP : PSt P) (h : RelE I P) : ok_record a RelE I P := c_record hP (by obtain ⟨n, A, k, B, hR⟩ := h; exact hR.2.2.2.2.2.2.2.2) h
theorem k_records {a : Nat → Int32} {I : zI} {P : zP} (hP : PSt P) (h : RelE I P) : ok_records a RelE I P := c_records hP (by obtain ⟨n, A, k, B, hR⟩ := h; exact hR.2.2.2.2.2.2.2.2) h
theorem k_differ {a : Nat → Int32} {I : zI} {P : zP} (hP : PSt P) (h : RelE I P) : ok_differ a RelE I P := c_differ hP (by obtain ⟨n, A, k, B, hR⟩ := h; exact hR.2.2.2.2.2.2.2.2) h
