/-! PURE 24: the judge's stack of TYPES -/
def FrJ (I I' : zI) : Prop := ∀ c j, ¬ (c = 4 ∧ 3 ≤ j ∧ j ≤ 5) → I' c j = I c j
theorem FrJ_r (I : zI) : FrJ I I := fun _ _ _ => rfl
theorem FrJ_t {I J L : zI} (h : FrJ I J) (g : FrJ J L) : FrJ I L := fun c j q => by rw [g c j q, h c j q]
theorem FrJ_u {I : zI} {j : Nat} {x : Int32} (hj : 3 ≤ j ∧ j ≤ 5) : FrJ I (zu I 4 j x) := fun c i q => zu_ne (by omega)
theorem enS_lt {s : List Nat} (h : ∀ t, t ∈ s → t < 4) (hl : s.length ≤ 10) : enS s < 2 ^ 31 ∧ enS s / 1048576 = s.length := by
  have := enR_lt20 h hl
  unfold enS
  omega
theorem sh20 {s : List Nat} (h : ∀ t, t ∈ s → t < 4) (hl : s.length ≤ 10) : nI (enS s) >>> ((20 : Int32) &&& 31) = nI s.length := by
  obtain ⟨h1, h2⟩ := enS_lt h hl
  rw [q_sh20 h1, h2]
theorem e2n (k : Nat) : (2 : Int32) * nI k = nI (2 * k) := by rw [show (2 : Int32) = nI 2 from rfl, pk_mul]
theorem s_put {s : List Nat} {t : Nat} {I : zI} {P : zP} {K : zI → zP → Prop} (h : ∀ t, t ∈ s → t < 4) (hl : s.length < 10) (ht : t < 4) (h3 : I 4 3 = nI (enS s)) (k : K (zu I 4 3 (nI (enS (t :: s)))) P) : w_X1_put (nI t) I P K := by
  unfold w_X1_put
  have h20 := sh20 h (by omega)
  have el := enR_lt h
  have el20 := enR_lt20 h (by omega)
  rw [four_pow] at el
  rw [h3, h20, nI_1, e2n]
  refine zip (nI_lt (b := 10) hl (by decide)) ?_
  have e1 : nI (s.length + 1) <<< ((20 : Int32) &&& 31) = nI ((s.length + 1) * 2 ^ 20) := q_shl (k := 20) (by decide) (by omega)
  have e2 : nI (enS s) &&& 1048575 = nI (enR s) := by
    rw [pk_andN (n := enS s) (by unfold enS; omega) 20 (by decide)]
    congr 1
    unfold enS; omega
  have hp : (4 : Nat) ^ (s.length + 1) ≤ 4 ^ 10 := Nat.pow_le_pow_right (by decide) (by omega)
  have hp2 : t * 2 ^ (2 * s.length) ≤ 3 * 2 ^ (2 * s.length) := Nat.mul_le_mul_right _ (by omega)
  have hp3 : (4 : Nat) ^ (s.length + 1) = 4 * 2 ^ (2 * s.length) := by rw [Nat.pow_succ, four_pow, Nat.mul_comm]
  have hp4 : (4 : Nat) ^ 10 = 1048576 := by decide
  have e3 : nI t <<< (nI (2 * s.length) &&& 31) = nI (t * 2 ^ (2 * s.length)) := q_shl (by omega) (by omega)
  have e5 : ((s.length + 1) * 2 ^ 20 ||| enR s) ||| t * 2 ^ (2 * s.length) = enS (t :: s) := by
    rw [Nat.or_assoc, Nat.or_comm (enR s), or_add el, or_add (k := 20) (by omega)]
    unfold enS
    rw [enR, List.length_cons, four_pow]; omega
  rw [e1, e2, e3, nI_or, nI_or, e5]
  exact k
theorem s_putF {s : List Nat} {t : Int32} {I : zI} {P : zP} {K : zI → zP → Prop} (h : ∀ t, t ∈ s → t < 4) (hl : s.length = 10) (h3 : I 4 3 = nI (enS s)) (k : K (zu I 4 5 1) P) : w_X1_put t I P K := by
  unfold w_X1_put
  rw [h3, sh20 h (by omega)]
  exact zin (nI_nlt (b := 10) (by omega) (by omega)) k
theorem s_take {s : List Nat} {t : Nat} {I : zI} {P : zP} {K : Int32 → zI → zP → Prop} (h : ∀ x, x ∈ t :: s → x < 4) (hl : s.length + 1 ≤ 10) (h3 : I 4 3 = nI (enS (t :: s))) (k : K (nI t) (zu I 4 3 (nI (enS s))) P) : w_X1_takeAny I P K := by
  unfold w_X1_takeAny
  have h20 := sh20 h (by simpa using hl)
  have hs : ∀ x, x ∈ s → x < 4 := fun x hx => h x (List.mem_cons_of_mem _ hx)
  have ht : t < 4 := h t List.mem_cons_self
  have el := enR_lt hs
  have el20 := enR_lt20 hs (by omega)
  rw [List.length_cons] at h20
  rw [h3, h20, nI_pred, e2n]
  refine zip (nI_le (a := 1) (by omega) (by omega)) ?_
  obtain ⟨v1, -⟩ := enS_lt h (by simpa using hl)
  have e1 : nI (enS (t :: s)) >>> (nI (2 * s.length) &&& 31) &&& 3 = nI t := by
    rw [q_dig v1 (by omega)]
    congr 1
    have e : enS (t :: s) = (enR s + t * 4 ^ s.length) + (s.length + 1) * 4 ^ 10 := by unfold enS; rw [enR, List.length_cons, show (4 : Nat) ^ 10 = 1048576 by decide]
    rw [e, dig_add _ _ (by omega), Nat.mul_comm t, Nat.add_mul_div_left _ _ (Nat.pow_pos (by decide)), Nat.div_eq_of_lt el, Nat.zero_add]
    exact Nat.mod_eq_of_lt ht
  have hp : (4 : Nat) ^ s.length ≤ 4 ^ 9 := Nat.pow_le_pow_right (by decide) (by omega)
  have hp9 : (4 : Nat) ^ 9 = 262144 := by decide
  have hpp : 0 < (4 : Nat) ^ s.length := Nat.pow_pos (by decide)
  have e2 : (1 : Int32) <<< (nI (2 * s.length) &&& 31) - 1 = nI (2 ^ (2 * s.length) - 1) := by
    have := q_shl (v := 1) (k := 2 * s.length) (by omega) (by rw [← four_pow]; omega)
    rw [show (1 : Int32) = nI 1 from rfl, this, Nat.one_mul, pk_sub (by rw [← four_pow]; omega)]
  have e3 : nI (enS (t :: s)) &&& nI (2 ^ (2 * s.length) - 1) = nI (enR s) := by
    rw [pk_andN (n := enS (t :: s)) (by omega) (2 * s.length) (pk_tn (by rw [← four_pow]; omega))]
    congr 1
    rw [← four_pow]
    have e : enS (t :: s) = enR s + 4 ^ s.length * (t + (s.length + 1) * 4 ^ (10 - s.length)) := by
      have q : (4 : Nat) ^ 10 = 4 ^ s.length * 4 ^ (10 - s.length) := by rw [← Nat.pow_add]; congr 1; omega
      unfold enS
      rw [enR, List.length_cons, show (1048576 : Nat) = 4 ^ 10 by decide, q, Nat.mul_add, Nat.mul_comm t, Nat.add_assoc]
      congr 2
      ac_rfl
    rw [e, Nat.add_mul_mod_self_left]
    exact Nat.mod_eq_of_lt el
  have e4 : nI s.length <<< ((20 : Int32) &&& 31) = nI (s.length * 2 ^ 20) := q_shl (k := 20) (by decide) (by omega)
  have e5 : s.length * 2 ^ 20 ||| enR s = enS s := by rw [or_add (k := 20) (by omega)]; unfold enS; omega
  rw [e1, e2, e3, e4, nI_or, e5]
  exact k
theorem s_takeE {I : zI} {P : zP} {K : Int32 → zI → zP → Prop} (h3 : I 4 3 = nI (enS [])) (k : K 0 (zu I 4 5 1) P) : w_X1_takeAny I P K := by
  unfold w_X1_takeAny
  rw [h3, sh20 (s := []) (fun _ h => by cases h) (by decide)]
  exact zin (by decide) k
theorem a_put {x : Int32} {I : zI} {P : zP} {K : zI → zP → Prop} (h5 : I 4 5 = 1) (k : ∀ I', FrJ I I' → I' 4 5 = 1 → K I' P) : w_X1_put x I P K := by
  unfold w_X1_put
  split
  · exact k _ (FrJ_u (by decide)) (by rw [zu_nj (by decide)]; exact h5)
  · exact k _ (FrJ_u (by decide)) zu_same
theorem a_take {I : zI} {P : zP} {K : Int32 → zI → zP → Prop} (h5 : I 4 5 = 1) (k : ∀ v I', FrJ I I' → I' 4 5 = 1 → K v I' P) : w_X1_takeAny I P K := by
  unfold w_X1_takeAny
  split
  · exact k _ _ (FrJ_u (by decide)) (by rw [zu_nj (by decide)]; exact h5)
  · exact k _ _ (FrJ_u (by decide)) zu_same
theorem or10 : (1 : Int32) ||| 0 = 1 := by decide
theorem or11 : (1 : Int32) ||| 1 = 1 := by decide
theorem orz {w : Int32} (h : zbo w) : w ||| 0 = w ∧ w ||| 1 = 1 := by rcases h with rfl | rfl <;> decide
theorem zT1_r : ∀ c, c < 44 → zT1 (nI c) = nI (tki c) := by decide +kernel
theorem zT2_r : ∀ c, c < 44 → c ≠ 40 → c ≠ 36 → zT2 (nI c) = nI (pts c) := by decide +kernel
theorem tki_le (c : Nat) : tki c ≤ 2 := by unfold tki; (repeat' split) <;> omega
def dtC (K : zI → zP → Prop) (c : Nat) (I : zI) (P : zP) : Prop := if nI c = 37 then j_X1_doTyped_78 K (nI c) I P else (if nI c = 38 then j_X1_doTyped_78 K (nI c) I P else (if nI c = 39 then j_X1_doTyped_78 K (nI c) I P else j_X1_doTyped_100 K (nI c) I P))
theorem la_dt {c : Nat} {P : zP} {K : zI → zP → Prop} (hc : c < 44) : ∀ d i I, i + d = tki c → I 4 5 = 1 → (∀ I', FrJ I I' → I' 4 5 = 1 → dtC K c I' P) → l_X1_doTyped_23 K (d + 1) (nI c) (nI i) I P := by
  have ht := tki_le c
  intro d
  induction d with
  | zero =>
    intro i I hi h5 k
    obtain rfl : i = tki c := by omega
    rw [l_X1_doTyped_23, zT1_r c hc]
    exact ⟨vp_in_nI hc (by decide), zip (nI_le (Nat.le_refl _) (by omega)) (k I (FrJ_r I) h5)⟩
  | succ d ih =>
    intro i I hi h5 k
    rw [l_X1_doTyped_23, zT1_r c hc, h5]
    refine ⟨vp_in_nI hc (by decide), zin (nI_ge (by omega) (by omega)) (a_take h5 (fun v I' f1 g1 => ?_))⟩
    have nx : ∀ x : Int32, x = 1 → l_X1_doTyped_23 K (d + 1) (nI c) (nI i + 1) (zu I' 4 5 x) P := fun x hx => by
      rw [nI_1]
      exact ih (i + 1) _ (by omega) (by rw [zu_same]; exact hx) (fun I2 f2 g2 => k I2 (FrJ_t f1 (FrJ_t (FrJ_u (by decide)) f2)) g2)
    unfold j_X1_doTyped_50
    split
    · exact ⟨by rw [or10]; exact zbo1, nx _ or10⟩
    · exact ⟨by rw [or11]; exact zbo1, nx _ or11⟩
theorem l_dt {c : Nat} {P : zP} {K : zI → zP → Prop} (hc : c < 44) : ∀ d i s I, i + d = tki c → gs s → I 4 3 = nI (enS s) → zbo (I 4 5) → (∀ s1 I', popI d s = some s1 → I' 4 3 = nI (enS s1) → I' 4 5 = I 4 5 → FrJ I I' → I' 4 4 = I 4 4 → dtC K c I' P) → (∀ I', popI d s = none → FrJ I I' → I' 4 5 = 1 → dtC K c I' P) → l_X1_doTyped_23 K (d + 1) (nI c) (nI i) I P := by
  have ht := tki_le c
  intro d
  induction d with
  | zero =>
    intro i s I hi hs h3 h5 k1 k2
    obtain rfl : i = tki c := by omega
    rw [l_X1_doTyped_23, zT1_r c hc]
    exact ⟨vp_in_nI hc (by decide), zip (nI_le (Nat.le_refl _) (by omega)) (k1 s I rfl h3 rfl (FrJ_r I) rfl)⟩
  | succ d ih =>
    intro i s I hi hs h3 h5 k1 k2
    obtain ⟨o0, o1⟩ := orz h5
    rw [l_X1_doTyped_23, zT1_r c hc]
    refine ⟨vp_in_nI hc (by decide), zin (nI_ge (by omega) (by omega)) ?_⟩
    unfold j_X1_doTyped_50
    rw [o0, o1]
    cases s with
    | nil =>
      refine s_takeE h3 (zin (by decide) ⟨zbo1, ?_⟩)
      rw [nI_1]
      exact la_dt hc d (i + 1) _ (by omega) zu_same (fun I2 f2 g2 => k2 I2 rfl (FrJ_t (FrJ_u (by decide)) (FrJ_t (FrJ_u (by decide)) f2)) g2)
    | cons t r =>
      have hl : r.length + 1 ≤ 10 := by have := hs.1; simpa using this
      refine s_take (gs4 hs) hl h3 ?_
      rw [nI_1]
      by_cases t1 : t = 1
      · subst t1
        refine zip rfl ⟨h5, ?_⟩
        refine ih (i + 1) r _ (by omega) (gs_tl hs) (by rw [zu_nj (by decide), zu_same]) (by rw [zu_same]; exact h5) (fun s1 I' q1 q2 q3 q4 q5 => ?_) (fun I' q1 q2 q3 => ?_)
        · rw [zu_same] at q3
          exact k1 s1 I' (by rw [popI, if_pos rfl]; exact q1) q2 q3 (FrJ_t (FrJ_u (by decide)) (FrJ_t (FrJ_u (by decide)) q4)) (by rw [q5, zu_nj (by decide), zu_nj (by decide)])
        · exact k2 I' (by rw [popI, if_pos rfl]; exact q1) (FrJ_t (FrJ_u (by decide)) (FrJ_t (FrJ_u (by decide)) q2)) q3
      · have t4 : t < 4 := gs4 hs t List.mem_cons_self
        refine zin (fun e => t1 ((nI_eq (b := 1) (by omega) (by decide)).mp e)) ⟨zbo1, ?_⟩
        exact la_dt hc d (i + 1) _ (by omega) zu_same (fun I2 f2 g2 => k2 I2 (by rw [popI, if_neg t1]) (FrJ_t (FrJ_u (by decide)) (FrJ_t (FrJ_u (by decide)) f2)) g2)
