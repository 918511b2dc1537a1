/-! PURE 3: the pictures of methods, and small rows over them -/
def pqk (f : Nat → Nat) : Nat → Nat
  | 0 => 0
  | n + 1 => pqk f n + f n * 4 ^ n
theorem pqk_lt {f : Nat → Nat} {n : Nat} (h : ∀ k, k < n → f k < 4) : pqk f n < 4 ^ n := by
  induction n with
  | zero => simp [pqk]
  | succ n ih =>
    have h1 := ih (fun k hk => h k (by omega))
    have h2 := h n (by omega)
    have h3 : f n * 4 ^ n ≤ 3 * 4 ^ n := Nat.mul_le_mul_right _ (by omega)
    rw [pqk, Nat.pow_succ]; omega
theorem dig_add (a b : Nat) {n k : Nat} (h : k < n) : (a + b * 4 ^ n) / 4 ^ k % 4 = a / 4 ^ k % 4 := by
  obtain ⟨d, rfl⟩ : ∃ d, n = k + 1 + d := ⟨n - k - 1, by omega⟩
  have e : b * 4 ^ (k + 1 + d) = 4 ^ k * (4 * (b * 4 ^ d)) := by
    rw [Nat.pow_add, Nat.pow_add, Nat.pow_one]
    ac_rfl
  rw [e, Nat.add_mul_div_left _ _ (Nat.pow_pos (by omega)), Nat.add_mul_mod_self_left]
theorem pqk_dig {f : Nat → Nat} {n : Nat} (h : ∀ k, k < n → f k < 4) {k : Nat} (hk : k < n) : pqk f n / 4 ^ k % 4 = f k := by
  induction n with
  | zero => omega
  | succ n ih =>
    rw [pqk]
    by_cases e : k = n
    · subst e
      have h1 := pqk_lt (f := f) (n := k) (fun j hj => h j (by omega))
      rw [Nat.mul_comm (f k), Nat.add_mul_div_left _ _ (Nat.pow_pos (by omega)), Nat.div_eq_of_lt h1, Nat.zero_add]
      exact Nat.mod_eq_of_lt (h k (by omega))
    · rw [dig_add _ _ (by omega)]
      exact ih (fun j hj => h j (by omega)) (by omega)
theorem q31 : ∀ k, k < 32 → ((nI k &&& 31).toBitVec.smod 32).toNat = k := by decide +kernel
theorem q_shr {v k : Nat} (hv : v < 2 ^ 31) (hk : k < 32) : nI v >>> (nI k &&& 31) = nI (v / 2 ^ k) := pk_shrN hv _ k (q31 k hk)
theorem q_and3 {v : Nat} (hv : v < 2 ^ 31) : nI v &&& 3 = nI (v % 4) := pk_andN (by omega) 2 (by decide)
theorem q_dig {v c : Nat} (hv : v < 2 ^ 31) (hc : c < 16) : nI v >>> (nI (2 * c) &&& 31) &&& 3 = nI (v / 4 ^ c % 4) := by
  rw [q_shr hv (by omega), q_and3 (Nat.lt_of_le_of_lt (Nat.div_le_self _ _) hv), Nat.pow_mul]
/-- the loom's METHOD is A -/
def LMeth (A : Nat → Nat → Nat) (o co si st lt ha : Nat → Int32) : Prop :=
  o 7 = nI (A 0 0) ∧ o 8 = nI (A 0 1) ∧ o 9 = nI (A 0 2) ∧ o 10 = nI (A 0 3) ∧
  (∀ p, p < A 0 2 → co p = nI (A 1 p) ∧ si p = nI (A 2 p)) ∧
  (∀ k, k < 4 * A 0 3 → ha k = nI (A 3 k)) ∧
  (∀ p, p < A 0 2 → 0 < A 2 p → (A 4 p = 0 → st p = -1) ∧ (0 < A 4 p → st p = nI (pqk (fun k => A 6 (10 * p + k)) (A 4 p - 1) + (A 4 p - 1) * 4 ^ 10) ∧ lt p = nI (pqk (fun k => A 5 (12 * p + k)) 12)))
/-- the reference's METHOD m is A -/
def RMeth (A : Nat → Nat → Nat) (m : Nat) (ar lo le co hc fr to ta ki bg he lt ce : Nat → Int32) : Prop :=
  ar m = nI (A 0 0) ∧ lo m = nI (A 0 1) ∧ le m = nI (A 0 2) ∧ hc m = nI (A 0 3) ∧
  (∀ p, p < A 0 2 → co (400 * m + p) = nI (A 1 p) ∧ bg (400 * m + p) = (if A 2 p = 0 then 0 else 1)) ∧
  (∀ k, k < A 0 3 → fr (8 * m + k) = nI (A 3 (4 * k)) ∧ to (8 * m + k) = nI (A 3 (4 * k + 1)) ∧ ta (8 * m + k) = nI (A 3 (4 * k + 2)) ∧ ki (8 * m + k) = nI (A 3 (4 * k + 3))) ∧
  (∀ p, p < A 0 2 → 0 < A 2 p → (A 4 p = 0 → he (400 * m + p) = -1) ∧ (0 < A 4 p → he (400 * m + p) = nI (A 4 p - 1) ∧ (∀ k, k < 12 → lt (12 * (400 * m + p) + k) = nI (A 5 (12 * p + k))) ∧ (∀ k, k < A 4 p - 1 → ce (10 * (400 * m + p) + k) = nI (A 6 (10 * p + k)))))
/-- bounds of a METHOD -/
def WB (A : Nat → Nat → Nat) : Prop :=
  A 0 0 ≤ 4 ∧ A 0 0 ≤ A 0 1 ∧ A 0 1 ≤ 12 ∧ 1 ≤ A 0 2 ∧ A 0 2 ≤ 400 ∧ A 0 3 ≤ 8 ∧
  (∀ p, p < A 0 2 → A 1 p < 256 ∧ A 2 p ≤ 36) ∧ (∀ k, k < 4 * A 0 3 → A 3 k < 65536) ∧
  (∀ p, p < A 0 2 → A 4 p ≤ 11) ∧ (∀ j, A 5 j < 4) ∧ (∀ j, A 6 j < 4)
def LMI (A : Nat → Nat → Nat) (m : Nat) (I : zI) : Prop := LMeth A (I (20 + 12 * m)) (I (21 + 12 * m)) (I (22 + 12 * m)) (I (23 + 12 * m)) (I (24 + 12 * m)) (I (25 + 12 * m))
def RMI (A : Nat → Nat → Nat) (m : Nat) (I : zI) : Prop := RMeth A m (I 157) (I 158) (I 159) (I 160) (I 161) (I 162) (I 163) (I 164) (I 165) (I 166) (I 167) (I 168) (I 169)
/-- the METHODS that there are -/
def RM (n : Nat) (A : Nat → Nat → Nat → Nat) (I : zI) : Prop := n ≤ 6 ∧ I 0 9 = nI n ∧ I 155 3 = nI n ∧ ∀ m, m < n → LMI (A m) m I ∧ RMI (A m) m I ∧ WB (A m)
theorem s_isMT {n m : Nat} {I : zI} {P : zP} {K : Int32 → zI → zP → Prop} (h9 : I 0 9 = nI n) (hn : n ≤ 6) (hm : m < n) (k : K 1 I P) : w_X9_isMethod (nI m) I P K := by
  unfold w_X9_isMethod
  (repeat first | (with_reducible refine zip ?_ ?_; · first | omega | decide | (simp (disch := omega) only [h9, q_lit, q_neg, nI_ltI, nI_leI, nI_eq, nI_add, pk_mul, pk_sub, nI_clamp, vp_q, zu_same, zu_nc, zu_nj, ng_lt, ng_le, ng_gt, ng_ge, ng_eq, ng_qe, ng_ee, ng_add, not_false_eq_true, not_true_eq_false, ne_eq]; done) | (simp (disch := omega) only [h9, q_lit, q_neg, nI_ltI, nI_leI, nI_eq, nI_add, pk_mul, pk_sub, nI_clamp, vp_q, zu_same, zu_nc, zu_nj, ng_lt, ng_le, ng_gt, ng_ge, ng_eq, ng_qe, ng_ee, ng_add, not_false_eq_true, not_true_eq_false, ne_eq]; omega)) | (with_reducible refine zin ?_ ?_; · first | omega | decide | (simp (disch := omega) only [h9, q_lit, q_neg, nI_ltI, nI_leI, nI_eq, nI_add, pk_mul, pk_sub, nI_clamp, vp_q, zu_same, zu_nc, zu_nj, ng_lt, ng_le, ng_gt, ng_ge, ng_eq, ng_qe, ng_ee, ng_add, not_false_eq_true, not_true_eq_false, ne_eq]; done) | (simp (disch := omega) only [h9, q_lit, q_neg, nI_ltI, nI_leI, nI_eq, nI_add, pk_mul, pk_sub, nI_clamp, vp_q, zu_same, zu_nc, zu_nj, ng_lt, ng_le, ng_gt, ng_ge, ng_eq, ng_qe, ng_ee, ng_add, not_false_eq_true, not_true_eq_false, ne_eq]; omega)) | (with_reducible refine And.intro ?_ ?_; · first | (first | exact shM (by omega) | exact shW (by omega) | exact shT (by omega) | exact shF (by omega) | exact shM1 (by omega) | exact shM2 (by omega) | exact shM3 (by omega) | exact shM4 (by omega) | exact shM5 (by omega) | exact shW0 (by omega) | exact shW1 (by omega) | exact shW2 (by omega) | exact shW3 (by omega) | exact shW4 (by omega) | exact shT0 (by omega) | exact shT1 (by omega) | exact shT2 (by omega) | exact shT3 (by omega) | exact shF0 (by omega) | exact shF1 (by omega)) | (first | omega | decide | (simp (disch := omega) only [h9, q_lit, q_neg, nI_ltI, nI_leI, nI_eq, nI_add, pk_mul, pk_sub, nI_clamp, vp_q, zu_same, zu_nc, zu_nj, ng_lt, ng_le, ng_gt, ng_ge, ng_eq, ng_qe, ng_ee, ng_add, not_false_eq_true, not_true_eq_false, ne_eq]; done) | (simp (disch := omega) only [h9, q_lit, q_neg, nI_ltI, nI_leI, nI_eq, nI_add, pk_mul, pk_sub, nI_clamp, vp_q, zu_same, zu_nc, zu_nj, ng_lt, ng_le, ng_gt, ng_ge, ng_eq, ng_qe, ng_ee, ng_add, not_false_eq_true, not_true_eq_false, ne_eq]; omega))) | (with_reducible apply zex; · first | exact pM hP (by omega) | exact pT hP (by omega) | exact pF hP (by omega) | exact pM1 hP (by omega) | exact pM2 hP (by omega) | exact pM3 hP (by omega) | exact pM4 hP (by omega) | exact pM5 hP (by omega) | exact pM6 hP (by omega) | exact pW0 hP (by omega) | exact pW1 hP (by omega) | exact pW2 hP (by omega) | exact pW3 hP (by omega) | exact pW4 hP (by omega) | exact pT0 hP (by omega) | exact pT1 hP (by omega) | exact pT2 hP (by omega) | exact pT3 hP (by omega) | exact pF0 hP (by omega) | exact pF1 hP (by omega)) | (with_reducible refine s_inNT ?_ ?_ ?_; (· omega); (· omega)) | (with_reducible refine s_inNF ?_ ?_ ?_; (· omega); (· omega)) | (simp (disch := omega) only [h9, q_lit, q_neg, nI_ltI, nI_leI, nI_eq, nI_add, pk_mul, pk_sub, nI_clamp, vp_q, zu_same, zu_nc, zu_nj, ng_lt, ng_le, ng_gt, ng_ge, ng_eq, ng_qe, ng_ee, ng_add, not_false_eq_true, not_true_eq_false, ne_eq]))
  exact k
theorem s_isMF {n : Nat} {x : Int32} {I : zI} {P : zP} {K : Int32 → zI → zP → Prop} (h9 : I 0 9 = nI n) (hx : x < 0 ∨ nI n ≤ x) (k : K 0 I P) : w_X9_isMethod x I P K := by
  unfold w_X9_isMethod
  rw [h9]
  by_cases h : x < 0
  · exact zip h k
  · exact zin h (zip (hx.resolve_left h) k)
theorem in_no {x : Int32} {n : Nat} (hn : n < 2 ^ 30) (hx : x < 0 ∨ nI n ≤ x) : ¬ (0 ≤ x ∧ x ≤ nI n - 1) := by
  have e : (nI n - 1).toInt = (n : Int) - 1 := pk_sub_toInt (b := 1) hn (by decide)
  have e0 : (0 : Int32).toInt = 0 := by decide
  rintro ⟨h1, h2⟩
  rw [Int32.le_iff_toInt_le] at h1 h2
  rcases hx with h | h
  · rw [Int32.lt_iff_toInt_lt] at h; omega
  · rw [Int32.le_iff_toInt_le, nI_toInt (by omega)] at h; omega
theorem in_ok {j n : Nat} (hn : n < 2 ^ 30) (hj : j < n) : (0 : Int32) ≤ nI j ∧ nI j ≤ nI n - 1 := by
  have e : (nI n - 1).toInt = (n : Int) - 1 := pk_sub_toInt (b := 1) hn (by decide)
  exact ⟨nI_pos' (by omega), by rw [Int32.le_iff_toInt_le, nI_toInt (by omega)]; omega⟩
theorem s_inT1 {j n : Nat} {y : Int32} {I : zI} {P : zP} {K : Int32 → zI → zP → Prop} (hy : y = nI n) (hn : n < 2 ^ 30) (hj : j < n) (k : K 1 I P) : w_X10_in (nI j) (nI 0) (y - nI 1) I P K := by
  subst hy; exact s_inT (in_ok hn hj) k
theorem s_inF1 {x y : Int32} {n : Nat} {I : zI} {P : zP} {K : Int32 → zI → zP → Prop} (hy : y = nI n) (hn : n < 2 ^ 30) (hx : x < 0 ∨ nI n ≤ x) (k : K 0 I P) : w_X10_in x (nI 0) (y - nI 1) I P K := by
  subst hy; exact s_inF (in_no hn hx) k
theorem s_inFx {x : Int32} {b : Nat} {I : zI} {P : zP} {K : Int32 → zI → zP → Prop} (hb : b + 1 < 2 ^ 30) (hx : x < nI 0 ∨ nI (b + 1) ≤ x) (k : K 0 I P) : w_X10_in x (nI 0) (nI b) I P K := by
  have := s_inF1 (y := nI (b + 1)) (I := I) (P := P) (K := K) rfl hb hx k
  rwa [pk_sub (by omega), Nat.add_sub_cancel] at this
theorem zbo1 : zbo 1 := Or.inr rfl
theorem zbo0 : zbo 0 := Or.inl rfl
theorem s_misMT {n m : Nat} {I : zI} {P : zP} {K : Int32 → zI → zP → Prop} (h9 : I 155 3 = nI n) (hn : n ≤ 6) (hm : m < n) (k : K 1 I P) : w_X10_isMethod (nI m) I P K := by
  unfold w_X10_isMethod
  exact s_inT1 h9 (by omega) hm ⟨zbo1, k⟩
theorem s_misMF {n : Nat} {x : Int32} {I : zI} {P : zP} {K : Int32 → zI → zP → Prop} (h9 : I 155 3 = nI n) (hn : n ≤ 6) (hx : x < 0 ∨ nI n ≤ x) (k : K 0 I P) : w_X10_isMethod x I P K := by
  unfold w_X10_isMethod
  exact s_inF1 h9 (by omega) hx ⟨zbo0, k⟩
theorem s_byte {c i N : Nat} {I : zI} {P : zP} {K : Int32 → zI → zP → Prop} (hs : SHy[c]? = some (11, zlen c)) (hz : zlen c = N) (hN : N < 2 ^ 31) (hi : i < N) (k : K (I c i) I P) : w_X9_byteAt c (nI i) I P K := by
  unfold w_X9_byteAt
  refine zin (nI_pos (by omega)) ⟨hs, zin ?_ ⟨?_, ?_⟩⟩
  · rw [hz]; exact nI_ge hi hN
  · rw [hz]; exact vp_in_nI hi hN
  · rw [nI_clamp (by omega)]; exact k
theorem s_hpart {c i w N : Nat} {I : zI} {P : zP} {K : Int32 → zI → zP → Prop} (hs : SHy[c]? = some (11, zlen c)) (hz : zlen c = N) (hN : N < 2 ^ 31) (hi : 4 * i + w < N) (k : K (I c (4 * i + w)) I P) : w_X9_handlerPart c (nI i) (nI w) I P K := by
  unfold w_X9_handlerPart
  have e : nI i * 4 + nI w = nI (4 * i + w) := by rw [show (4 : Int32) = nI 4 from rfl, pk_mul, nI_add, Nat.mul_comm]
  rw [e]
  refine zin (nI_pos (by omega)) ⟨hs, zin ?_ ⟨?_, ?_⟩⟩
  · rw [hz]; exact nI_ge hi hN
  · rw [hz]; exact vp_in_nI hi hN
  · rw [nI_clamp (by omega)]; exact k
theorem s_bgT {A : Nat → Nat → Nat} {m p : Nat} {I : zI} {P : zP} {K : Int32 → zI → zP → Prop} (hP : PSt P) (hm : m < 6) (hL : LMI A m I) (hB : WB A) (hp : p < A 0 2) (h2 : 0 < A 2 p) (k : K 1 I P) : w_X3_beginsAt (20 + 12 * m) (nI p) I P K := by
  unfold w_X3_beginsAt
  obtain ⟨-, -, h9, -, hc, -⟩ := hL
  obtain ⟨-, -, -, -, b1, -, b2, -⟩ := hB
  have h3 := (hc p hp).2
  have h4 := (b2 p hp).2
  (repeat first | (with_reducible refine zip ?_ ?_; · first | omega | decide | (simp (disch := omega) only [h9, h3, zzM2, q_lit, q_neg, nI_ltI, nI_leI, nI_eq, nI_add, pk_mul, pk_sub, nI_clamp, vp_q, zu_same, zu_nc, zu_nj, ng_lt, ng_le, ng_gt, ng_ge, ng_eq, ng_qe, ng_ee, ng_add, not_false_eq_true, not_true_eq_false, ne_eq]; done) | (simp (disch := omega) only [h9, h3, zzM2, q_lit, q_neg, nI_ltI, nI_leI, nI_eq, nI_add, pk_mul, pk_sub, nI_clamp, vp_q, zu_same, zu_nc, zu_nj, ng_lt, ng_le, ng_gt, ng_ge, ng_eq, ng_qe, ng_ee, ng_add, not_false_eq_true, not_true_eq_false, ne_eq]; omega)) | (with_reducible refine zin ?_ ?_; · first | omega | decide | (simp (disch := omega) only [h9, h3, zzM2, q_lit, q_neg, nI_ltI, nI_leI, nI_eq, nI_add, pk_mul, pk_sub, nI_clamp, vp_q, zu_same, zu_nc, zu_nj, ng_lt, ng_le, ng_gt, ng_ge, ng_eq, ng_qe, ng_ee, ng_add, not_false_eq_true, not_true_eq_false, ne_eq]; done) | (simp (disch := omega) only [h9, h3, zzM2, q_lit, q_neg, nI_ltI, nI_leI, nI_eq, nI_add, pk_mul, pk_sub, nI_clamp, vp_q, zu_same, zu_nc, zu_nj, ng_lt, ng_le, ng_gt, ng_ge, ng_eq, ng_qe, ng_ee, ng_add, not_false_eq_true, not_true_eq_false, ne_eq]; omega)) | (with_reducible refine And.intro ?_ ?_; · first | (first | exact shM (by omega) | exact shW (by omega) | exact shT (by omega) | exact shF (by omega) | exact shM1 (by omega) | exact shM2 (by omega) | exact shM3 (by omega) | exact shM4 (by omega) | exact shM5 (by omega) | exact shW0 (by omega) | exact shW1 (by omega) | exact shW2 (by omega) | exact shW3 (by omega) | exact shW4 (by omega) | exact shT0 (by omega) | exact shT1 (by omega) | exact shT2 (by omega) | exact shT3 (by omega) | exact shF0 (by omega) | exact shF1 (by omega)) | (first | omega | decide | (simp (disch := omega) only [h9, h3, zzM2, q_lit, q_neg, nI_ltI, nI_leI, nI_eq, nI_add, pk_mul, pk_sub, nI_clamp, vp_q, zu_same, zu_nc, zu_nj, ng_lt, ng_le, ng_gt, ng_ge, ng_eq, ng_qe, ng_ee, ng_add, not_false_eq_true, not_true_eq_false, ne_eq]; done) | (simp (disch := omega) only [h9, h3, zzM2, q_lit, q_neg, nI_ltI, nI_leI, nI_eq, nI_add, pk_mul, pk_sub, nI_clamp, vp_q, zu_same, zu_nc, zu_nj, ng_lt, ng_le, ng_gt, ng_ge, ng_eq, ng_qe, ng_ee, ng_add, not_false_eq_true, not_true_eq_false, ne_eq]; omega))) | (with_reducible apply zex; · first | exact pM hP (by omega) | exact pT hP (by omega) | exact pF hP (by omega) | exact pM1 hP (by omega) | exact pM2 hP (by omega) | exact pM3 hP (by omega) | exact pM4 hP (by omega) | exact pM5 hP (by omega) | exact pM6 hP (by omega) | exact pW0 hP (by omega) | exact pW1 hP (by omega) | exact pW2 hP (by omega) | exact pW3 hP (by omega) | exact pW4 hP (by omega) | exact pT0 hP (by omega) | exact pT1 hP (by omega) | exact pT2 hP (by omega) | exact pT3 hP (by omega) | exact pF0 hP (by omega) | exact pF1 hP (by omega)) | (with_reducible refine s_inNT ?_ ?_ ?_; (· omega); (· omega)) | (with_reducible refine s_inNF ?_ ?_ ?_; (· omega); (· omega)) | (simp (disch := omega) only [h9, h3, zzM2, q_lit, q_neg, nI_ltI, nI_leI, nI_eq, nI_add, pk_mul, pk_sub, nI_clamp, vp_q, zu_same, zu_nc, zu_nj, ng_lt, ng_le, ng_gt, ng_ge, ng_eq, ng_qe, ng_ee, ng_add, not_false_eq_true, not_true_eq_false, ne_eq]))
  exact k
theorem s_bgF {A : Nat → Nat → Nat} {m p : Nat} {I : zI} {P : zP} {K : Int32 → zI → zP → Prop} (hP : PSt P) (hm : m < 6) (hL : LMI A m I) (hB : WB A) (hp : p < A 0 2) (h2 : A 2 p = 0) (k : K 0 I P) : w_X3_beginsAt (20 + 12 * m) (nI p) I P K := by
  unfold w_X3_beginsAt
  obtain ⟨-, -, h9, -, hc, -⟩ := hL
  obtain ⟨-, -, -, -, b1, -, b2, -⟩ := hB
  have h3 := (hc p hp).2
  rw [h2] at h3
  (repeat first | (with_reducible refine zip ?_ ?_; · first | omega | decide | (simp (disch := omega) only [h9, h3, zzM2, q_lit, q_neg, nI_ltI, nI_leI, nI_eq, nI_add, pk_mul, pk_sub, nI_clamp, vp_q, zu_same, zu_nc, zu_nj, ng_lt, ng_le, ng_gt, ng_ge, ng_eq, ng_qe, ng_ee, ng_add, not_false_eq_true, not_true_eq_false, ne_eq]; done) | (simp (disch := omega) only [h9, h3, zzM2, q_lit, q_neg, nI_ltI, nI_leI, nI_eq, nI_add, pk_mul, pk_sub, nI_clamp, vp_q, zu_same, zu_nc, zu_nj, ng_lt, ng_le, ng_gt, ng_ge, ng_eq, ng_qe, ng_ee, ng_add, not_false_eq_true, not_true_eq_false, ne_eq]; omega)) | (with_reducible refine zin ?_ ?_; · first | omega | decide | (simp (disch := omega) only [h9, h3, zzM2, q_lit, q_neg, nI_ltI, nI_leI, nI_eq, nI_add, pk_mul, pk_sub, nI_clamp, vp_q, zu_same, zu_nc, zu_nj, ng_lt, ng_le, ng_gt, ng_ge, ng_eq, ng_qe, ng_ee, ng_add, not_false_eq_true, not_true_eq_false, ne_eq]; done) | (simp (disch := omega) only [h9, h3, zzM2, q_lit, q_neg, nI_ltI, nI_leI, nI_eq, nI_add, pk_mul, pk_sub, nI_clamp, vp_q, zu_same, zu_nc, zu_nj, ng_lt, ng_le, ng_gt, ng_ge, ng_eq, ng_qe, ng_ee, ng_add, not_false_eq_true, not_true_eq_false, ne_eq]; omega)) | (with_reducible refine And.intro ?_ ?_; · first | (first | exact shM (by omega) | exact shW (by omega) | exact shT (by omega) | exact shF (by omega) | exact shM1 (by omega) | exact shM2 (by omega) | exact shM3 (by omega) | exact shM4 (by omega) | exact shM5 (by omega) | exact shW0 (by omega) | exact shW1 (by omega) | exact shW2 (by omega) | exact shW3 (by omega) | exact shW4 (by omega) | exact shT0 (by omega) | exact shT1 (by omega) | exact shT2 (by omega) | exact shT3 (by omega) | exact shF0 (by omega) | exact shF1 (by omega)) | (first | omega | decide | (simp (disch := omega) only [h9, h3, zzM2, q_lit, q_neg, nI_ltI, nI_leI, nI_eq, nI_add, pk_mul, pk_sub, nI_clamp, vp_q, zu_same, zu_nc, zu_nj, ng_lt, ng_le, ng_gt, ng_ge, ng_eq, ng_qe, ng_ee, ng_add, not_false_eq_true, not_true_eq_false, ne_eq]; done) | (simp (disch := omega) only [h9, h3, zzM2, q_lit, q_neg, nI_ltI, nI_leI, nI_eq, nI_add, pk_mul, pk_sub, nI_clamp, vp_q, zu_same, zu_nc, zu_nj, ng_lt, ng_le, ng_gt, ng_ge, ng_eq, ng_qe, ng_ee, ng_add, not_false_eq_true, not_true_eq_false, ne_eq]; omega))) | (with_reducible apply zex; · first | exact pM hP (by omega) | exact pT hP (by omega) | exact pF hP (by omega) | exact pM1 hP (by omega) | exact pM2 hP (by omega) | exact pM3 hP (by omega) | exact pM4 hP (by omega) | exact pM5 hP (by omega) | exact pM6 hP (by omega) | exact pW0 hP (by omega) | exact pW1 hP (by omega) | exact pW2 hP (by omega) | exact pW3 hP (by omega) | exact pW4 hP (by omega) | exact pT0 hP (by omega) | exact pT1 hP (by omega) | exact pT2 hP (by omega) | exact pT3 hP (by omega) | exact pF0 hP (by omega) | exact pF1 hP (by omega)) | (with_reducible refine s_inNT ?_ ?_ ?_; (· omega); (· omega)) | (with_reducible refine s_inNF ?_ ?_ ?_; (· omega); (· omega)) | (simp (disch := omega) only [h9, h3, zzM2, q_lit, q_neg, nI_ltI, nI_leI, nI_eq, nI_add, pk_mul, pk_sub, nI_clamp, vp_q, zu_same, zu_nc, zu_nj, ng_lt, ng_le, ng_gt, ng_ge, ng_eq, ng_qe, ng_ee, ng_add, not_false_eq_true, not_true_eq_false, ne_eq]))
  exact k
theorem s_bgO {A : Nat → Nat → Nat} {m : Nat} {x : Int32} {I : zI} {P : zP} {K : Int32 → zI → zP → Prop} (hP : PSt P) (hm : m < 6) (hL : LMI A m I) (hx : x < 0 ∨ nI (A 0 2) ≤ x) (k : K 0 I P) : w_X3_beginsAt (20 + 12 * m) x I P K := by
  unfold w_X3_beginsAt
  obtain ⟨-, -, h9, -, hc, -⟩ := hL
  by_cases h : x < 0
  · exact zip h k
  · exact zin h ⟨shM hm, zip (by rw [h9]; exact hx.resolve_left h) k⟩
theorem s_mbgT {A : Nat → Nat → Nat} {m p : Nat} {I : zI} {P : zP} {K : Int32 → zI → zP → Prop} (hm : m < 6) (hL : RMI A m I) (hB : WB A) (hp : p < A 0 2) (h2 : 0 < A 2 p) (k : K 1 I P) : w_X10_isBegin (nI m) (nI p) I P K := by
  unfold w_X10_isBegin
  obtain ⟨-, -, h9, -, hc, -⟩ := hL
  obtain ⟨-, -, -, -, b1, -, b2, -⟩ := hB
  have h3 := (hc p hp).2
  rw [if_neg (by omega)] at h3
  refine ⟨by first | omega | decide | (simp (disch := omega) only [q_lit, q_neg, nI_ltI, nI_leI, nI_eq, nI_add, pk_mul, pk_sub, nI_clamp, vp_q, zu_same, zu_nc, zu_nj, ng_lt, ng_le, ng_gt, ng_ge, ng_eq, ng_qe, ng_ee, ng_add, not_false_eq_true, not_true_eq_false, ne_eq]; done) | (simp (disch := omega) only [q_lit, q_neg, nI_ltI, nI_leI, nI_eq, nI_add, pk_mul, pk_sub, nI_clamp, vp_q, zu_same, zu_nc, zu_nj, ng_lt, ng_le, ng_gt, ng_ge, ng_eq, ng_qe, ng_ee, ng_add, not_false_eq_true, not_true_eq_false, ne_eq]; omega), s_inT1 (by rw [nI_clamp (by omega)]; exact h9) (by omega) hp ?_⟩
  (repeat first | (with_reducible refine zip ?_ ?_; · first | omega | decide | (simp (disch := omega) only [h3, q_lit, q_neg, nI_ltI, nI_leI, nI_eq, nI_add, pk_mul, pk_sub, nI_clamp, vp_q, zu_same, zu_nc, zu_nj, ng_lt, ng_le, ng_gt, ng_ge, ng_eq, ng_qe, ng_ee, ng_add, not_false_eq_true, not_true_eq_false, ne_eq]; done) | (simp (disch := omega) only [h3, q_lit, q_neg, nI_ltI, nI_leI, nI_eq, nI_add, pk_mul, pk_sub, nI_clamp, vp_q, zu_same, zu_nc, zu_nj, ng_lt, ng_le, ng_gt, ng_ge, ng_eq, ng_qe, ng_ee, ng_add, not_false_eq_true, not_true_eq_false, ne_eq]; omega)) | (with_reducible refine zin ?_ ?_; · first | omega | decide | (simp (disch := omega) only [h3, q_lit, q_neg, nI_ltI, nI_leI, nI_eq, nI_add, pk_mul, pk_sub, nI_clamp, vp_q, zu_same, zu_nc, zu_nj, ng_lt, ng_le, ng_gt, ng_ge, ng_eq, ng_qe, ng_ee, ng_add, not_false_eq_true, not_true_eq_false, ne_eq]; done) | (simp (disch := omega) only [h3, q_lit, q_neg, nI_ltI, nI_leI, nI_eq, nI_add, pk_mul, pk_sub, nI_clamp, vp_q, zu_same, zu_nc, zu_nj, ng_lt, ng_le, ng_gt, ng_ge, ng_eq, ng_qe, ng_ee, ng_add, not_false_eq_true, not_true_eq_false, ne_eq]; omega)) | (with_reducible refine And.intro ?_ ?_; · first | (first | exact shM (by omega) | exact shW (by omega) | exact shT (by omega) | exact shF (by omega) | exact shM1 (by omega) | exact shM2 (by omega) | exact shM3 (by omega) | exact shM4 (by omega) | exact shM5 (by omega) | exact shW0 (by omega) | exact shW1 (by omega) | exact shW2 (by omega) | exact shW3 (by omega) | exact shW4 (by omega) | exact shT0 (by omega) | exact shT1 (by omega) | exact shT2 (by omega) | exact shT3 (by omega) | exact shF0 (by omega) | exact shF1 (by omega)) | (first | omega | decide | (simp (disch := omega) only [h3, q_lit, q_neg, nI_ltI, nI_leI, nI_eq, nI_add, pk_mul, pk_sub, nI_clamp, vp_q, zu_same, zu_nc, zu_nj, ng_lt, ng_le, ng_gt, ng_ge, ng_eq, ng_qe, ng_ee, ng_add, not_false_eq_true, not_true_eq_false, ne_eq]; done) | (simp (disch := omega) only [h3, q_lit, q_neg, nI_ltI, nI_leI, nI_eq, nI_add, pk_mul, pk_sub, nI_clamp, vp_q, zu_same, zu_nc, zu_nj, ng_lt, ng_le, ng_gt, ng_ge, ng_eq, ng_qe, ng_ee, ng_add, not_false_eq_true, not_true_eq_false, ne_eq]; omega))) | (with_reducible apply zex; · first | exact pM hP (by omega) | exact pT hP (by omega) | exact pF hP (by omega) | exact pM1 hP (by omega) | exact pM2 hP (by omega) | exact pM3 hP (by omega) | exact pM4 hP (by omega) | exact pM5 hP (by omega) | exact pM6 hP (by omega) | exact pW0 hP (by omega) | exact pW1 hP (by omega) | exact pW2 hP (by omega) | exact pW3 hP (by omega) | exact pW4 hP (by omega) | exact pT0 hP (by omega) | exact pT1 hP (by omega) | exact pT2 hP (by omega) | exact pT3 hP (by omega) | exact pF0 hP (by omega) | exact pF1 hP (by omega)) | (with_reducible refine s_inNT ?_ ?_ ?_; (· omega); (· omega)) | (with_reducible refine s_inNF ?_ ?_ ?_; (· omega); (· omega)) | (simp (disch := omega) only [h3, q_lit, q_neg, nI_ltI, nI_leI, nI_eq, nI_add, pk_mul, pk_sub, nI_clamp, vp_q, zu_same, zu_nc, zu_nj, ng_lt, ng_le, ng_gt, ng_ge, ng_eq, ng_qe, ng_ee, ng_add, not_false_eq_true, not_true_eq_false, ne_eq]))
  exact k
theorem s_mbgF {A : Nat → Nat → Nat} {m p : Nat} {I : zI} {P : zP} {K : Int32 → zI → zP → Prop} (hm : m < 6) (hL : RMI A m I) (hB : WB A) (hp : p < A 0 2) (h2 : A 2 p = 0) (k : K 0 I P) : w_X10_isBegin (nI m) (nI p) I P K := by
  unfold w_X10_isBegin
  obtain ⟨-, -, h9, -, hc, -⟩ := hL
  obtain ⟨-, -, -, -, b1, -, b2, -⟩ := hB
  have h3 := (hc p hp).2
  rw [if_pos h2] at h3
  refine ⟨by first | omega | decide | (simp (disch := omega) only [q_lit, q_neg, nI_ltI, nI_leI, nI_eq, nI_add, pk_mul, pk_sub, nI_clamp, vp_q, zu_same, zu_nc, zu_nj, ng_lt, ng_le, ng_gt, ng_ge, ng_eq, ng_qe, ng_ee, ng_add, not_false_eq_true, not_true_eq_false, ne_eq]; done) | (simp (disch := omega) only [q_lit, q_neg, nI_ltI, nI_leI, nI_eq, nI_add, pk_mul, pk_sub, nI_clamp, vp_q, zu_same, zu_nc, zu_nj, ng_lt, ng_le, ng_gt, ng_ge, ng_eq, ng_qe, ng_ee, ng_add, not_false_eq_true, not_true_eq_false, ne_eq]; omega), s_inT1 (by rw [nI_clamp (by omega)]; exact h9) (by omega) hp ?_⟩
  (repeat first | (with_reducible refine zip ?_ ?_; · first | omega | decide | (simp (disch := omega) only [h3, q_lit, q_neg, nI_ltI, nI_leI, nI_eq, nI_add, pk_mul, pk_sub, nI_clamp, vp_q, zu_same, zu_nc, zu_nj, ng_lt, ng_le, ng_gt, ng_ge, ng_eq, ng_qe, ng_ee, ng_add, not_false_eq_true, not_true_eq_false, ne_eq]; done) | (simp (disch := omega) only [h3, q_lit, q_neg, nI_ltI, nI_leI, nI_eq, nI_add, pk_mul, pk_sub, nI_clamp, vp_q, zu_same, zu_nc, zu_nj, ng_lt, ng_le, ng_gt, ng_ge, ng_eq, ng_qe, ng_ee, ng_add, not_false_eq_true, not_true_eq_false, ne_eq]; omega)) | (with_reducible refine zin ?_ ?_; · first | omega | decide | (simp (disch := omega) only [h3, q_lit, q_neg, nI_ltI, nI_leI, nI_eq, nI_add, pk_mul, pk_sub, nI_clamp, vp_q, zu_same, zu_nc, zu_nj, ng_lt, ng_le, ng_gt, ng_ge, ng_eq, ng_qe, ng_ee, ng_add, not_false_eq_true, not_true_eq_false, ne_eq]; done) | (simp (disch := omega) only [h3, q_lit, q_neg, nI_ltI, nI_leI, nI_eq, nI_add, pk_mul, pk_sub, nI_clamp, vp_q, zu_same, zu_nc, zu_nj, ng_lt, ng_le, ng_gt, ng_ge, ng_eq, ng_qe, ng_ee, ng_add, not_false_eq_true, not_true_eq_false, ne_eq]; omega)) | (with_reducible refine And.intro ?_ ?_; · first | (first | exact shM (by omega) | exact shW (by omega) | exact shT (by omega) | exact shF (by omega) | exact shM1 (by omega) | exact shM2 (by omega) | exact shM3 (by omega) | exact shM4 (by omega) | exact shM5 (by omega) | exact shW0 (by omega) | exact shW1 (by omega) | exact shW2 (by omega) | exact shW3 (by omega) | exact shW4 (by omega) | exact shT0 (by omega) | exact shT1 (by omega) | exact shT2 (by omega) | exact shT3 (by omega) | exact shF0 (by omega) | exact shF1 (by omega)) | (first | omega | decide | (simp (disch := omega) only [h3, q_lit, q_neg, nI_ltI, nI_leI, nI_eq, nI_add, pk_mul, pk_sub, nI_clamp, vp_q, zu_same, zu_nc, zu_nj, ng_lt, ng_le, ng_gt, ng_ge, ng_eq, ng_qe, ng_ee, ng_add, not_false_eq_true, not_true_eq_false, ne_eq]; done) | (simp (disch := omega) only [h3, q_lit, q_neg, nI_ltI, nI_leI, nI_eq, nI_add, pk_mul, pk_sub, nI_clamp, vp_q, zu_same, zu_nc, zu_nj, ng_lt, ng_le, ng_gt, ng_ge, ng_eq, ng_qe, ng_ee, ng_add, not_false_eq_true, not_true_eq_false, ne_eq]; omega))) | (with_reducible apply zex; · first | exact pM hP (by omega) | exact pT hP (by omega) | exact pF hP (by omega) | exact pM1 hP (by omega) | exact pM2 hP (by omega) | exact pM3 hP (by omega) | exact pM4 hP (by omega) | exact pM5 hP (by omega) | exact pM6 hP (by omega) | exact pW0 hP (by omega) | exact pW1 hP (by omega) | exact pW2 hP (by omega) | exact pW3 hP (by omega) | exact pW4 hP (by omega) | exact pT0 hP (by omega) | exact pT1 hP (by omega) | exact pT2 hP (by omega) | exact pT3 hP (by omega) | exact pF0 hP (by omega) | exact pF1 hP (by omega)) | (with_reducible refine s_inNT ?_ ?_ ?_; (· omega); (· omega)) | (with_reducible refine s_inNF ?_ ?_ ?_; (· omega); (· omega)) | (simp (disch := omega) only [h3, q_lit, q_neg, nI_ltI, nI_leI, nI_eq, nI_add, pk_mul, pk_sub, nI_clamp, vp_q, zu_same, zu_nc, zu_nj, ng_lt, ng_le, ng_gt, ng_ge, ng_eq, ng_qe, ng_ee, ng_add, not_false_eq_true, not_true_eq_false, ne_eq]))
  exact k
theorem s_mbgO {A : Nat → Nat → Nat} {m : Nat} {x : Int32} {I : zI} {P : zP} {K : Int32 → zI → zP → Prop} (hm : m < 6) (hL : RMI A m I) (hB : WB A) (hx : x < 0 ∨ nI (A 0 2) ≤ x) (k : K 0 I P) : w_X10_isBegin (nI m) x I P K := by
  unfold w_X10_isBegin
  obtain ⟨-, -, h9, -, hc, -⟩ := hL
  obtain ⟨-, -, -, -, b1, -, b2, -⟩ := hB
  exact ⟨by first | omega | decide | (simp (disch := omega) only [q_lit, q_neg, nI_ltI, nI_leI, nI_eq, nI_add, pk_mul, pk_sub, nI_clamp, vp_q, zu_same, zu_nc, zu_nj, ng_lt, ng_le, ng_gt, ng_ge, ng_eq, ng_qe, ng_ee, ng_add, not_false_eq_true, not_true_eq_false, ne_eq]; done) | (simp (disch := omega) only [q_lit, q_neg, nI_ltI, nI_leI, nI_eq, nI_add, pk_mul, pk_sub, nI_clamp, vp_q, zu_same, zu_nc, zu_nj, ng_lt, ng_le, ng_gt, ng_ge, ng_eq, ng_qe, ng_ee, ng_add, not_false_eq_true, not_true_eq_false, ne_eq]; omega), s_inF1 (by rw [nI_clamp (by omega)]; exact h9) (by omega) hx (zip rfl k)⟩
