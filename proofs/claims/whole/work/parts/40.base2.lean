/-! PURE 2: numbers, cells, places of the objects -/
def ng (n : Nat) : Int32 := -(nI n)
theorem q_lit (n : Nat) : (no_index (OfNat.ofNat n) : Int32) = nI (OfNat.ofNat n) := rfl
theorem q_neg (n : Nat) : -(nI n) = ng n := rfl
theorem ng_T {a : Nat} (h : a < 2 ^ 31) : (ng a).toInt = -(a : Int) := sb_negT h
theorem ng_lt {a b : Nat} (ha : a < 2 ^ 31) (hb : b < 2 ^ 31) : ng a < nI b ↔ 0 < a + b := by
  rw [Int32.lt_iff_toInt_lt, ng_T ha, nI_toInt hb]; omega
theorem ng_le {a b : Nat} (ha : a < 2 ^ 31) (hb : b < 2 ^ 31) : ng a ≤ nI b ↔ True := by
  rw [Int32.le_iff_toInt_le, ng_T ha, nI_toInt hb]; simp <;> omega
theorem ng_gt {a b : Nat} (ha : a < 2 ^ 31) (hb : b < 2 ^ 31) : nI a < ng b ↔ False := by
  rw [Int32.lt_iff_toInt_lt, ng_T hb, nI_toInt ha]; simp <;> omega
theorem ng_ge {a b : Nat} (ha : a < 2 ^ 31) (hb : b < 2 ^ 31) : nI a ≤ ng b ↔ a + b = 0 := by
  rw [Int32.le_iff_toInt_le, ng_T hb, nI_toInt ha]; omega
theorem ng_eq {a b : Nat} (ha : a < 2 ^ 31) (hb : b < 2 ^ 31) : nI a = ng b ↔ a + b = 0 := by
  rw [← Int32.toInt_inj, ng_T hb, nI_toInt ha]; omega
theorem ng_qe {a b : Nat} (ha : a < 2 ^ 31) (hb : b < 2 ^ 31) : ng b = nI a ↔ a + b = 0 := by
  rw [← Int32.toInt_inj, ng_T hb, nI_toInt ha]; omega
theorem ng_ee {a b : Nat} (ha : a < 2 ^ 31) (hb : b < 2 ^ 31) : ng a = ng b ↔ a = b := by
  rw [← Int32.toInt_inj, ng_T ha, ng_T hb]; omega
theorem ng_add {a b : Nat} (h : b ≤ a) : nI a + ng b = nI (a - b) := by
  have := pk_sub h
  rw [← this]; unfold ng; rw [Int32.sub_eq_add_neg]
theorem vp_q {a n : Nat} (ha : a < 2 ^ 31) : vp_in (nI a) n ↔ a < n := by
  rw [vp_in_iff, nI_toInt ha]; omega
theorem zu_nc {α : Type} {I : Nat → Nat → α} {k j a c : Nat} {x : α} (h : a ≠ k) : zu I k j x a c = I a c := zu_ne (fun q => h q.1)
theorem zu_nj {α : Type} {I : Nat → Nat → α} {k j a c : Nat} {x : α} (h : c ≠ j) : zu I k j x a c = I a c := zu_ne (fun q => h q.2)
theorem zu_cell {α : Type} {I : Nat → Nat → α} {k j a : Nat} {x : α} (h : a ≠ k) : zu I k j x a = I a := by funext c; exact zu_nc h
theorem zex {B : Nat → Prop} {o : Option Nat} {v : Nat} (h : o = some v) (k : B v) : ∃ x, o = some x ∧ B x := ⟨v, h, k⟩
theorem s_inNT {j lo hi : Nat} {I : zI} {P : zP} {K : Int32 → zI → zP → Prop} (hb : lo < 2 ^ 31 ∧ hi < 2 ^ 31) (h : lo ≤ j ∧ j ≤ hi) (k : K 1 I P) : w_X10_in (nI j) (nI lo) (nI hi) I P K := s_inT ⟨(nI_leI hb.1 (by omega)).mpr h.1, (nI_leI (by omega) hb.2).mpr h.2⟩ k
theorem s_inNF {j lo hi : Nat} {I : zI} {P : zP} {K : Int32 → zI → zP → Prop} (hb : j < 2 ^ 31 ∧ lo < 2 ^ 31 ∧ hi < 2 ^ 31) (h : ¬ (lo ≤ j ∧ j ≤ hi)) (k : K 0 I P) : w_X10_in (nI j) (nI lo) (nI hi) I P K := s_inF (fun q => h ⟨(nI_leI hb.2.1 (by omega)).mp q.1, (nI_leI (by omega) hb.2.2).mp q.2⟩) k
theorem psl {P : zP} (h : PSt P) {a b c : Nat} (hm : (a, b, c) ∈ PSL) : P a b = some c := h (a, b, c) hm
theorem ix_cases (x : Int32) {n : Nat} (hn : n < 2 ^ 31) : (∃ j : Nat, j < n ∧ x = nI j) ∨ (x < 0 ∨ nI n ≤ x) := by
  rcases pk_ix x hn with h | h | h
  · exact Or.inr (Or.inl h)
  · exact Or.inr (Or.inr h)
  · exact Or.inl h

theorem pM {P : zP} {m : Nat} (h : PSt P) (hm : m < 6) : P 19 m = some (20 + 12 * m) := psl h ((by decide +kernel : ∀ m : Fin 6, ((19 : Nat), m.val, 20 + 12 * m.val) ∈ PSL) ⟨m, hm⟩)
theorem pT {P : zP} {m : Nat} (h : PSt P) (hm : m < 3) : P 92 m = some (93 + 5 * m) := psl h ((by decide +kernel : ∀ m : Fin 3, ((92 : Nat), m.val, 93 + 5 * m.val) ∈ PSL) ⟨m, hm⟩)
theorem pF {P : zP} {m : Nat} (h : PSt P) (hm : m < 12) : P 115 m = some (119 + 3 * m) := psl h ((by decide +kernel : ∀ m : Fin 12, ((115 : Nat), m.val, 119 + 3 * m.val) ∈ PSL) ⟨m, hm⟩)
theorem shM {m : Nat} (hm : m < 6) : SHy[20 + 12 * m]? = some (3, 11) := (by decide +kernel : ∀ m : Fin 6, SHy[20 + 12 * m.val]? = some (3, 11)) ⟨m, hm⟩
theorem shW {m : Nat} (hm : m < 6) : SHy[26 + 12 * m]? = some (8, 11) := (by decide +kernel : ∀ m : Fin 6, SHy[26 + 12 * m.val]? = some (8, 11)) ⟨m, hm⟩
theorem shT {m : Nat} (hm : m < 3) : SHy[93 + 5 * m]? = some (6, 13) := (by decide +kernel : ∀ m : Fin 3, SHy[93 + 5 * m.val]? = some (6, 13)) ⟨m, hm⟩
theorem shF {m : Nat} (hm : m < 12) : SHy[119 + 3 * m]? = some (0, 6) := (by decide +kernel : ∀ m : Fin 12, SHy[119 + 3 * m.val]? = some (0, 6)) ⟨m, hm⟩
theorem pM1 {P : zP} {m : Nat} (h : PSt P) (hm : m < 6) : P (20 + 12 * m) 1 = some (21 + 12 * m) := psl h ((by decide +kernel : ∀ m : Fin 6, ((20 + 12 * m.val : Nat), (1 : Nat), (21 + 12 * m.val : Nat)) ∈ PSL) ⟨m, hm⟩)
theorem zzM1 {m : Nat} (hm : m < 6) : zlen (21 + 12 * m) = 400 := (by decide +kernel : ∀ m : Fin 6, zlen (21 + 12 * m.val) = 400) ⟨m, hm⟩
theorem shM1 {m : Nat} (hm : m < 6) : SHy[21 + 12 * m]? = some (11, zlen (21 + 12 * m)) := (by decide +kernel : ∀ m : Fin 6, SHy[21 + 12 * m.val]? = some (11, zlen (21 + 12 * m.val))) ⟨m, hm⟩
theorem pM2 {P : zP} {m : Nat} (h : PSt P) (hm : m < 6) : P (20 + 12 * m) 2 = some (22 + 12 * m) := psl h ((by decide +kernel : ∀ m : Fin 6, ((20 + 12 * m.val : Nat), (2 : Nat), (22 + 12 * m.val : Nat)) ∈ PSL) ⟨m, hm⟩)
theorem zzM2 {m : Nat} (hm : m < 6) : zlen (22 + 12 * m) = 400 := (by decide +kernel : ∀ m : Fin 6, zlen (22 + 12 * m.val) = 400) ⟨m, hm⟩
theorem shM2 {m : Nat} (hm : m < 6) : SHy[22 + 12 * m]? = some (11, zlen (22 + 12 * m)) := (by decide +kernel : ∀ m : Fin 6, SHy[22 + 12 * m.val]? = some (11, zlen (22 + 12 * m.val))) ⟨m, hm⟩
theorem pM3 {P : zP} {m : Nat} (h : PSt P) (hm : m < 6) : P (20 + 12 * m) 3 = some (23 + 12 * m) := psl h ((by decide +kernel : ∀ m : Fin 6, ((20 + 12 * m.val : Nat), (3 : Nat), (23 + 12 * m.val : Nat)) ∈ PSL) ⟨m, hm⟩)
theorem zzM3 {m : Nat} (hm : m < 6) : zlen (23 + 12 * m) = 400 := (by decide +kernel : ∀ m : Fin 6, zlen (23 + 12 * m.val) = 400) ⟨m, hm⟩
theorem shM3 {m : Nat} (hm : m < 6) : SHy[23 + 12 * m]? = some (11, zlen (23 + 12 * m)) := (by decide +kernel : ∀ m : Fin 6, SHy[23 + 12 * m.val]? = some (11, zlen (23 + 12 * m.val))) ⟨m, hm⟩
theorem pM4 {P : zP} {m : Nat} (h : PSt P) (hm : m < 6) : P (20 + 12 * m) 4 = some (24 + 12 * m) := psl h ((by decide +kernel : ∀ m : Fin 6, ((20 + 12 * m.val : Nat), (4 : Nat), (24 + 12 * m.val : Nat)) ∈ PSL) ⟨m, hm⟩)
theorem zzM4 {m : Nat} (hm : m < 6) : zlen (24 + 12 * m) = 400 := (by decide +kernel : ∀ m : Fin 6, zlen (24 + 12 * m.val) = 400) ⟨m, hm⟩
theorem shM4 {m : Nat} (hm : m < 6) : SHy[24 + 12 * m]? = some (11, zlen (24 + 12 * m)) := (by decide +kernel : ∀ m : Fin 6, SHy[24 + 12 * m.val]? = some (11, zlen (24 + 12 * m.val))) ⟨m, hm⟩
theorem pM5 {P : zP} {m : Nat} (h : PSt P) (hm : m < 6) : P (20 + 12 * m) 5 = some (25 + 12 * m) := psl h ((by decide +kernel : ∀ m : Fin 6, ((20 + 12 * m.val : Nat), (5 : Nat), (25 + 12 * m.val : Nat)) ∈ PSL) ⟨m, hm⟩)
theorem zzM5 {m : Nat} (hm : m < 6) : zlen (25 + 12 * m) = 32 := (by decide +kernel : ∀ m : Fin 6, zlen (25 + 12 * m.val) = 32) ⟨m, hm⟩
theorem shM5 {m : Nat} (hm : m < 6) : SHy[25 + 12 * m]? = some (11, zlen (25 + 12 * m)) := (by decide +kernel : ∀ m : Fin 6, SHy[25 + 12 * m.val]? = some (11, zlen (25 + 12 * m.val))) ⟨m, hm⟩
theorem pM6 {P : zP} {m : Nat} (h : PSt P) (hm : m < 6) : P (20 + 12 * m) 6 = some (26 + 12 * m) := psl h ((by decide +kernel : ∀ m : Fin 6, ((20 + 12 * m.val : Nat), (6 : Nat), (26 + 12 * m.val : Nat)) ∈ PSL) ⟨m, hm⟩)
theorem pW0 {P : zP} {m : Nat} (h : PSt P) (hm : m < 6) : P (26 + 12 * m) 0 = some (27 + 12 * m) := psl h ((by decide +kernel : ∀ m : Fin 6, ((26 + 12 * m.val : Nat), (0 : Nat), (27 + 12 * m.val : Nat)) ∈ PSL) ⟨m, hm⟩)
theorem zzW0 {m : Nat} (hm : m < 6) : zlen (27 + 12 * m) = 1000 := (by decide +kernel : ∀ m : Fin 6, zlen (27 + 12 * m.val) = 1000) ⟨m, hm⟩
theorem shW0 {m : Nat} (hm : m < 6) : SHy[27 + 12 * m]? = some (11, zlen (27 + 12 * m)) := (by decide +kernel : ∀ m : Fin 6, SHy[27 + 12 * m.val]? = some (11, zlen (27 + 12 * m.val))) ⟨m, hm⟩
theorem pW1 {P : zP} {m : Nat} (h : PSt P) (hm : m < 6) : P (26 + 12 * m) 1 = some (28 + 12 * m) := psl h ((by decide +kernel : ∀ m : Fin 6, ((26 + 12 * m.val : Nat), (1 : Nat), (28 + 12 * m.val : Nat)) ∈ PSL) ⟨m, hm⟩)
theorem zzW1 {m : Nat} (hm : m < 6) : zlen (28 + 12 * m) = 1000 := (by decide +kernel : ∀ m : Fin 6, zlen (28 + 12 * m.val) = 1000) ⟨m, hm⟩
theorem shW1 {m : Nat} (hm : m < 6) : SHy[28 + 12 * m]? = some (11, zlen (28 + 12 * m)) := (by decide +kernel : ∀ m : Fin 6, SHy[28 + 12 * m.val]? = some (11, zlen (28 + 12 * m.val))) ⟨m, hm⟩
theorem pW2 {P : zP} {m : Nat} (h : PSt P) (hm : m < 6) : P (26 + 12 * m) 2 = some (29 + 12 * m) := psl h ((by decide +kernel : ∀ m : Fin 6, ((26 + 12 * m.val : Nat), (2 : Nat), (29 + 12 * m.val : Nat)) ∈ PSL) ⟨m, hm⟩)
theorem zzW2 {m : Nat} (hm : m < 6) : zlen (29 + 12 * m) = 400 := (by decide +kernel : ∀ m : Fin 6, zlen (29 + 12 * m.val) = 400) ⟨m, hm⟩
theorem shW2 {m : Nat} (hm : m < 6) : SHy[29 + 12 * m]? = some (11, zlen (29 + 12 * m)) := (by decide +kernel : ∀ m : Fin 6, SHy[29 + 12 * m.val]? = some (11, zlen (29 + 12 * m.val))) ⟨m, hm⟩
theorem pW3 {P : zP} {m : Nat} (h : PSt P) (hm : m < 6) : P (26 + 12 * m) 3 = some (30 + 12 * m) := psl h ((by decide +kernel : ∀ m : Fin 6, ((26 + 12 * m.val : Nat), (3 : Nat), (30 + 12 * m.val : Nat)) ∈ PSL) ⟨m, hm⟩)
theorem zzW3 {m : Nat} (hm : m < 6) : zlen (30 + 12 * m) = 400 := (by decide +kernel : ∀ m : Fin 6, zlen (30 + 12 * m.val) = 400) ⟨m, hm⟩
theorem shW3 {m : Nat} (hm : m < 6) : SHy[30 + 12 * m]? = some (12, zlen (30 + 12 * m)) := (by decide +kernel : ∀ m : Fin 6, SHy[30 + 12 * m.val]? = some (12, zlen (30 + 12 * m.val))) ⟨m, hm⟩
theorem pW4 {P : zP} {m : Nat} (h : PSt P) (hm : m < 6) : P (26 + 12 * m) 4 = some (31 + 12 * m) := psl h ((by decide +kernel : ∀ m : Fin 6, ((26 + 12 * m.val : Nat), (4 : Nat), (31 + 12 * m.val : Nat)) ∈ PSL) ⟨m, hm⟩)
theorem zzW4 {m : Nat} (hm : m < 6) : zlen (31 + 12 * m) = 36 := (by decide +kernel : ∀ m : Fin 6, zlen (31 + 12 * m.val) = 36) ⟨m, hm⟩
theorem shW4 {m : Nat} (hm : m < 6) : SHy[31 + 12 * m]? = some (11, zlen (31 + 12 * m)) := (by decide +kernel : ∀ m : Fin 6, SHy[31 + 12 * m.val]? = some (11, zlen (31 + 12 * m.val))) ⟨m, hm⟩
theorem pT0 {P : zP} {m : Nat} (h : PSt P) (hm : m < 3) : P (93 + 5 * m) 0 = some (94 + 5 * m) := psl h ((by decide +kernel : ∀ m : Fin 3, ((93 + 5 * m.val : Nat), (0 : Nat), (94 + 5 * m.val : Nat)) ∈ PSL) ⟨m, hm⟩)
theorem zzT0 {m : Nat} (hm : m < 3) : zlen (94 + 5 * m) = 8 := (by decide +kernel : ∀ m : Fin 3, zlen (94 + 5 * m.val) = 8) ⟨m, hm⟩
theorem shT0 {m : Nat} (hm : m < 3) : SHy[94 + 5 * m]? = some (11, zlen (94 + 5 * m)) := (by decide +kernel : ∀ m : Fin 3, SHy[94 + 5 * m.val]? = some (11, zlen (94 + 5 * m.val))) ⟨m, hm⟩
theorem pT1 {P : zP} {m : Nat} (h : PSt P) (hm : m < 3) : P (93 + 5 * m) 1 = some (95 + 5 * m) := psl h ((by decide +kernel : ∀ m : Fin 3, ((93 + 5 * m.val : Nat), (1 : Nat), (95 + 5 * m.val : Nat)) ∈ PSL) ⟨m, hm⟩)
theorem zzT1 {m : Nat} (hm : m < 3) : zlen (95 + 5 * m) = 60 := (by decide +kernel : ∀ m : Fin 3, zlen (95 + 5 * m.val) = 60) ⟨m, hm⟩
theorem shT1 {m : Nat} (hm : m < 3) : SHy[95 + 5 * m]? = some (11, zlen (95 + 5 * m)) := (by decide +kernel : ∀ m : Fin 3, SHy[95 + 5 * m.val]? = some (11, zlen (95 + 5 * m.val))) ⟨m, hm⟩
theorem pT2 {P : zP} {m : Nat} (h : PSt P) (hm : m < 3) : P (93 + 5 * m) 2 = some (96 + 5 * m) := psl h ((by decide +kernel : ∀ m : Fin 3, ((93 + 5 * m.val : Nat), (2 : Nat), (96 + 5 * m.val : Nat)) ∈ PSL) ⟨m, hm⟩)
theorem zzT2 {m : Nat} (hm : m < 3) : zlen (96 + 5 * m) = 400 := (by decide +kernel : ∀ m : Fin 3, zlen (96 + 5 * m.val) = 400) ⟨m, hm⟩
theorem shT2 {m : Nat} (hm : m < 3) : SHy[96 + 5 * m]? = some (11, zlen (96 + 5 * m)) := (by decide +kernel : ∀ m : Fin 3, SHy[96 + 5 * m.val]? = some (11, zlen (96 + 5 * m.val))) ⟨m, hm⟩
theorem pT3 {P : zP} {m : Nat} (h : PSt P) (hm : m < 3) : P (93 + 5 * m) 3 = some (97 + 5 * m) := psl h ((by decide +kernel : ∀ m : Fin 3, ((93 + 5 * m.val : Nat), (3 : Nat), (97 + 5 * m.val : Nat)) ∈ PSL) ⟨m, hm⟩)
theorem zzT3 {m : Nat} (hm : m < 3) : zlen (97 + 5 * m) = 400 := (by decide +kernel : ∀ m : Fin 3, zlen (97 + 5 * m.val) = 400) ⟨m, hm⟩
theorem shT3 {m : Nat} (hm : m < 3) : SHy[97 + 5 * m]? = some (11, zlen (97 + 5 * m)) := (by decide +kernel : ∀ m : Fin 3, SHy[97 + 5 * m.val]? = some (11, zlen (97 + 5 * m.val))) ⟨m, hm⟩
theorem pF0 {P : zP} {m : Nat} (h : PSt P) (hm : m < 12) : P (119 + 3 * m) 0 = some (120 + 3 * m) := psl h ((by decide +kernel : ∀ m : Fin 12, ((119 + 3 * m.val : Nat), (0 : Nat), (120 + 3 * m.val : Nat)) ∈ PSL) ⟨m, hm⟩)
theorem zzF0 {m : Nat} (hm : m < 12) : zlen (120 + 3 * m) = 12 := (by decide +kernel : ∀ m : Fin 12, zlen (120 + 3 * m.val) = 12) ⟨m, hm⟩
theorem shF0 {m : Nat} (hm : m < 12) : SHy[120 + 3 * m]? = some (11, zlen (120 + 3 * m)) := (by decide +kernel : ∀ m : Fin 12, SHy[120 + 3 * m.val]? = some (11, zlen (120 + 3 * m.val))) ⟨m, hm⟩
theorem pF1 {P : zP} {m : Nat} (h : PSt P) (hm : m < 12) : P (119 + 3 * m) 1 = some (121 + 3 * m) := psl h ((by decide +kernel : ∀ m : Fin 12, ((119 + 3 * m.val : Nat), (1 : Nat), (121 + 3 * m.val : Nat)) ∈ PSL) ⟨m, hm⟩)
theorem zzF1 {m : Nat} (hm : m < 12) : zlen (121 + 3 * m) = 10 := (by decide +kernel : ∀ m : Fin 12, zlen (121 + 3 * m.val) = 10) ⟨m, hm⟩
theorem shF1 {m : Nat} (hm : m < 12) : SHy[121 + 3 * m]? = some (11, zlen (121 + 3 * m)) := (by decide +kernel : ∀ m : Fin 12, SHy[121 + 3 * m.val]? = some (11, zlen (121 + 3 * m.val))) ⟨m, hm⟩
