/-! PURE 50: the reference's weaver: bytes, PROBES, jumps -/
def RLw (ok : Prop) (l : List WB3) (G J : zI) : Prop := J 155 42 = nI l.length ∧ (ok → ∀ i, i < l.length → i < 4000 → J 189 i = nI (l.getD i (0, 0, 0)).1 ∧ J 190 i = oM (l.getD i (0, 0, 0)).2.2) ∧ ∀ c j, c ≠ 189 → c ≠ 190 → ¬ (c = 155 ∧ j = 42) → J c j = G c j
theorem RLw_u {ok : Prop} {c j : Nat} {l : List WB3} {x : Int32} {G J : zI} (h : RLw ok l G J) (h1 : c ≠ 189) (h2 : c ≠ 190) (h3 : ¬ (c = 155 ∧ j = 42)) : RLw ok l (zu G c j x) (zu J c j x) := by
  obtain ⟨w1, w2, w3⟩ := h
  refine ⟨by rw [zu_ne (by omega)]; exact w1, fun o i hi hi2 => ?_, fun c' j' a b d => ?_⟩
  · rw [zu_nc (Ne.symm h1), zu_nc (Ne.symm h2)]; exact w2 o i hi hi2
  · by_cases e : c' = c ∧ j' = j
    · rw [e.1, e.2, zu_same, zu_same]
    · rw [zu_ne e, zu_ne e]; exact w3 c' j' a b d
theorem s_mput {ok : Prop} {b h : Nat} {l : List WB3} {x : Int32} {G J : zI} {P : zP} {K : zI → zP → Prop} (hW : RLw ok l G J) (hn : l.length < 2 ^ 30) (hx : ok → x &&& 255 = nI b) (k : ∀ J', RLw ok (l ++ [(b, h, 0)]) G J' → K J' P) : w_X10_put x J P K := by
  unfold w_X10_put j_X10_put_34
  obtain ⟨w1, w2, w3⟩ := hW
  rw [zu_nc (a := 155) (by omega), w1, nI_clamp (by omega), zu_nc (a := 155) (by omega), zu_nc (a := 155) (by omega), w1, nI_1]
  by_cases e : l.length < 4000
  · refine zin (by first | omega | decide | (simp (maxSteps := 400000) (disch := omega) only [q_lit, q_neg, nI_ltI, nI_leI, nI_eq, nI_add, pk_mul, pk_sub, nI_clamp, vp_q, zu_same, zu_nc, zu_nj, ng_lt, ng_le, ng_gt, ng_ge, ng_eq, ng_qe, ng_ee, ng_add, not_false_eq_true, not_true_eq_false, ne_eq]; done) | (simp (maxSteps := 400000) (disch := omega) only [q_lit, q_neg, nI_ltI, nI_leI, nI_eq, nI_add, pk_mul, pk_sub, nI_clamp, vp_q, zu_same, zu_nc, zu_nj, ng_lt, ng_le, ng_gt, ng_ge, ng_eq, ng_qe, ng_ee, ng_add, not_false_eq_true, not_true_eq_false, ne_eq]; omega)) ⟨vp_in_nI e (by decide), vp_in_nI e (by decide), k _ ⟨?_, fun o i hi hi2 => ?_, fun c j a b d => ?_⟩⟩
    · rw [zu_same, List.length_append]; rfl
    · rw [List.length_append] at hi
      rw [zu_nc (a := 189) (by omega), zu_nc (a := 190) (by omega), zu_nc (a := 189) (by omega)]
      by_cases e2 : i = l.length
      · subst e2
        rw [zu_same, zu_same, gd_r, hx o]; exact ⟨rfl, rfl⟩
      · have hi3 : i < l.length := by simp only [List.length_cons, List.length_nil] at hi; omega
        rw [zu_nj e2, zu_nj e2, zu_nc (by omega), gd_l hi3]; exact w2 o i hi3 hi2
    · rw [zu_ne d, zu_nc b, zu_nc a]; exact w3 _ _ a b d
  · refine zip (by first | omega | decide | (simp (maxSteps := 400000) (disch := omega) only [q_lit, q_neg, nI_ltI, nI_leI, nI_eq, nI_add, pk_mul, pk_sub, nI_clamp, vp_q, zu_same, zu_nc, zu_nj, ng_lt, ng_le, ng_gt, ng_ge, ng_eq, ng_qe, ng_ee, ng_add, not_false_eq_true, not_true_eq_false, ne_eq]; done) | (simp (maxSteps := 400000) (disch := omega) only [q_lit, q_neg, nI_ltI, nI_leI, nI_eq, nI_add, pk_mul, pk_sub, nI_clamp, vp_q, zu_same, zu_nc, zu_nj, ng_lt, ng_le, ng_gt, ng_ge, ng_eq, ng_qe, ng_ee, ng_add, not_false_eq_true, not_true_eq_false, ne_eq]; omega)) (k _ ⟨?_, fun o i hi hi2 => ?_, fun c j a b d => ?_⟩)
    · rw [zu_same, List.length_append]; rfl
    · rw [zu_nc (a := 189) (by omega), zu_nc (a := 190) (by omega), gd_l (by omega)]; exact w2 o i (by omega) hi2
    · rw [zu_ne d]; exact w3 _ _ a b d
theorem s_mput2 {ok : Prop} {b b' h : Nat} {l : List WB3} {x x' : Int32} {G J : zI} {P : zP} {K : zI → zP → Prop} (hW : RLw ok l G J) (hn : l.length + 2 ≤ 2 ^ 30) (hx : ok → x &&& 255 = nI b) (hx' : ok → x' &&& 255 = nI b') (k : ∀ J', RLw ok (l ++ [(b, h, 0), (b', h, 0)]) G J' → K J' P) : w_X10_put x J P (fun I1 P1 => w_X10_put x' I1 P1 K) :=
  s_mput hW (by omega) hx (fun J1 h1 => s_mput h1 (by rw [List.length_append]; show _ + 1 < _; omega) hx' (fun J2 h2 => k J2 (by rw [List.append_assoc] at h2; exact h2)))
theorem s_po {ok : Prop} {op q h : Nat} {l : List WB3} {G J : zI} {P : zP} {K : zI → zP → Prop} (hW : RLw ok l G J) (ho : op < 256) (hq : q < 256) (hn : l.length + 2 ≤ 2 ^ 30) (k : ∀ J', RLw ok (l ++ e2 op q h) G J' → K J' P) : w_X10_probeOp (nI op) (nI q) J P K := by
  unfold w_X10_probeOp
  exact s_mput2 hW hn (fun _ => by_n ho) (fun _ => by_n hq) k
def MQw (B : Nat → Nat → Nat) (w : Nat) (I : zI) : Prop := w ≤ 24 ∧ I 155 17 = nI w ∧ ∀ q, q < w → I 170 q = nI (B 0 q) ∧ I 171 q = nI (B 1 q) ∧ I 172 q = nI (B 2 q)
def RFl (A : Nat → Nat → Nat) (m : Nat) (B : Nat → Nat → Nat) (w : Nat) (F : Nat → Nat → Nat) (I : zI) : Prop :=
  (∀ p, p < A 0 2 → 0 < A 2 p → isSt (A 1 p) ∨ isLg (A 1 p) → I 194 p = if isLg (A 1 p) then 1 else nI (F 0 p)) ∧
  (∀ p, p < A 0 2 → 0 < cnq B m 1 p w → I 194 (400 + nsp m B w p) = nI (F 1 p)) ∧
  (∀ k, k < A 0 3 → 0 < cnq B m 5 (A 3 (4 * k + 2)) w → I 194 (400 + (nsp m B w (A 0 2) + ncp A m B w k)) = nI (F 2 k))
def CY (A : Nat → Nat → Nat) (m : Nat) (B : Nat → Nat → Nat) (w : Nat) (F : Nat → Nat → Nat) (I : zI) : Prop := RM0 A m I ∧ MQw B w I ∧ RFl A m B w F I
theorem RM0_c {A : Nat → Nat → Nat} {m : Nat} {I J : zI} (h : RM0 A m I) (f : ∀ c j, 157 ≤ c → c ≤ 166 → J c j = I c j) : RM0 A m J := by
  obtain ⟨h1, h2, h3, h4, h5, h6⟩ := h
  exact ⟨by rw [f _ _ (by omega) (by omega)]; exact h1, by rw [f _ _ (by omega) (by omega)]; exact h2, by rw [f _ _ (by omega) (by omega)]; exact h3, by rw [f _ _ (by omega) (by omega)]; exact h4, fun p hp => ⟨by rw [f _ _ (by omega) (by omega)]; exact (h5 p hp).1, by rw [f _ _ (by omega) (by omega)]; exact (h5 p hp).2⟩, fun k hk => ⟨by rw [f _ _ (by omega) (by omega)]; exact (h6 k hk).1, by rw [f _ _ (by omega) (by omega)]; exact (h6 k hk).2.1, by rw [f _ _ (by omega) (by omega)]; exact (h6 k hk).2.2.1, by rw [f _ _ (by omega) (by omega)]; exact (h6 k hk).2.2.2⟩⟩
theorem MQw_c {B : Nat → Nat → Nat} {w : Nat} {I J : zI} (h : MQw B w I) (f : ∀ c j, (170 ≤ c ∧ c ≤ 172) ∨ (c = 155 ∧ j = 17) → J c j = I c j) : MQw B w J := by
  obtain ⟨h1, h2, h3⟩ := h
  exact ⟨h1, by rw [f _ _ (by omega)]; exact h2, fun q hq => ⟨by rw [f _ _ (by omega)]; exact (h3 q hq).1, by rw [f _ _ (by omega)]; exact (h3 q hq).2.1, by rw [f _ _ (by omega)]; exact (h3 q hq).2.2⟩⟩
theorem CY_c {A B F : Nat → Nat → Nat} {m w : Nat} {I J : zI} (h : CY A m B w F I) (f : ∀ c j, (157 ≤ c ∧ c ≤ 172) ∨ (c = 155 ∧ j = 17) ∨ c = 194 → J c j = I c j) : CY A m B w F J :=
  ⟨RM0_c h.1 (fun c j a b => f c j (by omega)), MQw_c h.2.1 (fun c j q => f c j (by omega)), fun p a b c => by rw [f _ _ (by omega)]; exact h.2.2.1 p a b c, fun p a b => by rw [f _ _ (by omega)]; exact h.2.2.2.1 p a b, fun k a b => by rw [f _ _ (by omega)]; exact h.2.2.2.2 k a b⟩
theorem CY_w {A B F : Nat → Nat → Nat} {m w : Nat} {ok : Prop} {l : List WB3} {G J : zI} (h : CY A m B w F G) (hW : RLw ok l G J) : CY A m B w F J := CY_c h (fun c j a => hW.2.2 c j (by omega) (by omega) (by omega))
theorem s_sd {B : Nat → Nat → Nat} {w q s m p : Nat} {J : zI} {P : zP} {K : Int32 → zI → zP → Prop} (hQ : MQw B w J) (hq : q < w) (h0 : B 0 q < 2 ^ 31) (h1 : B 1 q < 2 ^ 31) (h2 : B 2 q < 2 ^ 31) (hs : s < 2 ^ 31) (hm : m < 2 ^ 31) (hp : p < 2 ^ 31) (k1 : atq B m s p q → K 1 J P) (k0 : ¬ atq B m s p q → K 0 J P) : w_X10_stands (nI q) (nI s) (nI m) (nI p) (nI w) J P K := by
  unfold w_X10_stands
  obtain ⟨hw, r5, r⟩ := hQ
  obtain ⟨r9, r10, r11⟩ := r q hq
  have v : vp_in (nI q) 24 := vp_in_nI (by omega) (by decide)
  rw [nI_clamp (by omega), r9, r10, r11]
  refine zin (by first | omega | decide | (simp (maxSteps := 400000) (disch := omega) only [q_lit, q_neg, nI_ltI, nI_leI, nI_eq, nI_add, pk_mul, pk_sub, nI_clamp, vp_q, zu_same, zu_nc, zu_nj, ng_lt, ng_le, ng_gt, ng_ge, ng_eq, ng_qe, ng_ee, ng_add, not_false_eq_true, not_true_eq_false, ne_eq]; done) | (simp (maxSteps := 400000) (disch := omega) only [q_lit, q_neg, nI_ltI, nI_leI, nI_eq, nI_add, pk_mul, pk_sub, nI_clamp, vp_q, zu_same, zu_nc, zu_nj, ng_lt, ng_le, ng_gt, ng_ge, ng_eq, ng_qe, ng_ee, ng_add, not_false_eq_true, not_true_eq_false, ne_eq]; omega)) ⟨v, ?_⟩
  by_cases e0 : B 0 q = s
  · refine zip (by rw [e0]) ⟨v, ?_⟩
    by_cases e : B 1 q = m
    · refine zip (by rw [e]) ⟨v, ?_⟩
      by_cases e2 : B 2 q = p
      · exact zip (by rw [e2]) (k1 ⟨e0, e, e2⟩)
      · exact zin (fun z => e2 (nI_inj h2 hp z)) (k0 (fun z => e2 z.2.2))
    · exact zin (fun z => e (nI_inj h1 hm z)) (k0 (fun z => e z.2.1))
  · exact zin (fun z => e0 (nI_inj h0 hs z)) (k0 (fun z => e0 z.1))
theorem s_hm {A B : Nat → Nat → Nat} {w s m p : Nat} {J : zI} {P : zP} {K : Int32 → zI → zP → Prop} (hQ : MQw B w J) (hq : BQ A m B w) (hs : s < 2 ^ 31) (hm : m < 6) (hp : p < 2 ^ 31) (k : K (nI (cnq B m s p w)) J P) : w_X10_howMany (nI s) (nI m) (nI p) (nI w) J P K := by
  have hw := hQ.1
  have lp : ∀ d q, q + d = w → l_X10_howMany_6 K (d + 1) (nI s) (nI m) (nI p) (nI w) (nI (cnq B m s p q)) (nI q) J P := by
    intro d
    induction d with
    | zero =>
      intro q hq'
      obtain rfl : q = w := by omega
      rw [l_X10_howMany_6]
      exact zip (by first | omega | decide | (simp (maxSteps := 400000) (disch := omega) only [q_lit, q_neg, nI_ltI, nI_leI, nI_eq, nI_add, pk_mul, pk_sub, nI_clamp, vp_q, zu_same, zu_nc, zu_nj, ng_lt, ng_le, ng_gt, ng_ge, ng_eq, ng_qe, ng_ee, ng_add, not_false_eq_true, not_true_eq_false, ne_eq]; done) | (simp (maxSteps := 400000) (disch := omega) only [q_lit, q_neg, nI_ltI, nI_leI, nI_eq, nI_add, pk_mul, pk_sub, nI_clamp, vp_q, zu_same, zu_nc, zu_nj, ng_lt, ng_le, ng_gt, ng_ge, ng_eq, ng_qe, ng_ee, ng_add, not_false_eq_true, not_true_eq_false, ne_eq]; omega)) k
    | succ d ih =>
      intro q hq'
      obtain ⟨q1, q2, q3, -⟩ := hq q (by omega)
      have e := ih (q + 1) (by omega)
      rw [cnq_s] at e
      rw [l_X10_howMany_6, nI_1, nI_1]
      refine zin (by first | omega | decide | (simp (maxSteps := 400000) (disch := omega) only [q_lit, q_neg, nI_ltI, nI_leI, nI_eq, nI_add, pk_mul, pk_sub, nI_clamp, vp_q, zu_same, zu_nc, zu_nj, ng_lt, ng_le, ng_gt, ng_ge, ng_eq, ng_qe, ng_ee, ng_add, not_false_eq_true, not_true_eq_false, ne_eq]; done) | (simp (maxSteps := 400000) (disch := omega) only [q_lit, q_neg, nI_ltI, nI_leI, nI_eq, nI_add, pk_mul, pk_sub, nI_clamp, vp_q, zu_same, zu_nc, zu_nj, ng_lt, ng_le, ng_gt, ng_ge, ng_eq, ng_qe, ng_ee, ng_add, not_false_eq_true, not_true_eq_false, ne_eq]; omega)) (s_sd hQ (by omega) (by omega) (by omega) (by omega) hs (by omega) hp (fun z => zin (by decide) ?_) (fun z => zip rfl ?_))
      · rw [if_pos z] at e; exact e
      · rw [if_neg z] at e; exact e
  exact ⟨_, lp w 0 (by omega)⟩
theorem s_pd {A B : Nat → Nat → Nat} {w m p : Nat} {J : zI} {P : zP} {K : Int32 → zI → zP → Prop} (hB : W0 A m) (hL : RM0 A m J) (hQ : MQw B w J) (hq : BQ A m B w) (hm : m < 6) (hp : p ≤ A 0 2) (k : K (nI (nsp m B w p)) J P) : w_X10_padOf (nI m) (nI p) J P K := by
  have hl := hB.2.2.2.2.1
  have lp : ∀ d q, q + d = p → l_X10_padOf_5 K (d + 1) (nI m) (nI p) (nI (nsp m B w q)) (nI q) J P := by
    intro d
    induction d with
    | zero =>
      intro q hq'
      obtain rfl : q = p := by omega
      rw [l_X10_padOf_5]
      exact zip (by first | omega | decide | (simp (maxSteps := 400000) (disch := omega) only [q_lit, q_neg, nI_ltI, nI_leI, nI_eq, nI_add, pk_mul, pk_sub, nI_clamp, vp_q, zu_same, zu_nc, zu_nj, ng_lt, ng_le, ng_gt, ng_ge, ng_eq, ng_qe, ng_ee, ng_add, not_false_eq_true, not_true_eq_false, ne_eq]; done) | (simp (maxSteps := 400000) (disch := omega) only [q_lit, q_neg, nI_ltI, nI_leI, nI_eq, nI_add, pk_mul, pk_sub, nI_clamp, vp_q, zu_same, zu_nc, zu_nj, ng_lt, ng_le, ng_gt, ng_ge, ng_eq, ng_qe, ng_ee, ng_add, not_false_eq_true, not_true_eq_false, ne_eq]; omega)) k
    | succ d ih =>
      intro q hq'
      have e := ih (q + 1) (by omega)
      rw [nsp_s] at e
      have e4 : (400 : Int32) * nI m + nI q = nI (400 * m + q) := by rw [show (400 : Int32) = nI 400 from rfl, pk_mul, nI_add]
      have c1 := cnq_le (B := B) (m := m) (s := 1) (p := q) w
      have hw := hQ.1
      rw [l_X10_padOf_5, e4, nI_clamp (by omega), (hL.2.2.2.2.1 q (by omega)).2, nI_1, nI_1, hQ.2.1]
      refine zin (by first | omega | decide | (simp (maxSteps := 400000) (disch := omega) only [q_lit, q_neg, nI_ltI, nI_leI, nI_eq, nI_add, pk_mul, pk_sub, nI_clamp, vp_q, zu_same, zu_nc, zu_nj, ng_lt, ng_le, ng_gt, ng_ge, ng_eq, ng_qe, ng_ee, ng_add, not_false_eq_true, not_true_eq_false, ne_eq]; done) | (simp (maxSteps := 400000) (disch := omega) only [q_lit, q_neg, nI_ltI, nI_leI, nI_eq, nI_add, pk_mul, pk_sub, nI_clamp, vp_q, zu_same, zu_nc, zu_nj, ng_lt, ng_le, ng_gt, ng_ge, ng_eq, ng_qe, ng_ee, ng_add, not_false_eq_true, not_true_eq_false, ne_eq]; omega)) ⟨vp_in_nI (by omega) (by decide), ?_⟩
      by_cases z : A 2 q = 0
      · have cz : cnq B m 1 q w = 0 := by
          by_cases z2 : cnq B m 1 q w = 0
          · exact z2
          · have := (sd_ok hq (p := q) (by omega)).2.1; omega
        rw [if_pos cz] at e
        rw [if_pos z]
        refine zip rfl ?_
        unfold j_X10_padOf_48
        rw [nI_1]
        exact e
      · rw [if_neg z]
        refine zin (by decide) (s_hm (s := 1) hQ hq (by decide) hm (by omega) ?_)
        by_cases z2 : cnq B m 1 q w = 0
        · rw [if_pos z2] at e
          refine zip (by rw [z2]; decide) ?_
          unfold j_X10_padOf_48
          rw [nI_1]
          exact e
        · rw [if_neg z2] at e
          exact zin (by first | omega | decide | (simp (maxSteps := 400000) (disch := omega) only [q_lit, q_neg, nI_ltI, nI_leI, nI_eq, nI_add, pk_mul, pk_sub, nI_clamp, vp_q, zu_same, zu_nc, zu_nj, ng_lt, ng_le, ng_gt, ng_ge, ng_eq, ng_qe, ng_ee, ng_add, not_false_eq_true, not_true_eq_false, ne_eq]; done) | (simp (maxSteps := 400000) (disch := omega) only [q_lit, q_neg, nI_ltI, nI_leI, nI_eq, nI_add, pk_mul, pk_sub, nI_clamp, vp_q, zu_same, zu_nc, zu_nj, ng_lt, ng_le, ng_gt, ng_ge, ng_eq, ng_qe, ng_ee, ng_add, not_false_eq_true, not_true_eq_false, ne_eq]; omega)) e
  exact ⟨_, lp p 0 (by omega)⟩
theorem s_jp {ok : Prop} {op num t h : Nat} {lg : Bool} {l : List WB3} {x y : Int32} {G J : zI} {P : zP} {K : zI → zP → Prop} (hop : 20 ≤ op ∧ op ≤ 32) (hx : x = nI op ∨ x = nI (op + 64)) (hnum : num < 1000) (hlg : G 194 num = if lg then 1 else 0) (ht : ok → y = nI t ∧ t < 2 ^ 30) (hW : RLw ok l G J) (hn : l.length + 3 ≤ 2 ^ 30) (k : ∀ J', RLw ok (l ++ jl op lg ((t : Int) - l.length) h 0) (zu G 195 num (y - nI l.length)) J' → K J' P) : w_X10_jump x (nI num) y J P K := by
  unfold w_X10_jump
  rw [hW.1]
  have e : ok → (y - nI l.length).toInt = (t : Int) - l.length := fun o => by
    obtain ⟨e1, e2⟩ := ht o
    rw [e1]; exact pk_sub_toInt e2 (by omega)
  generalize hby : y - nI l.length = by' at k e ⊢
  have go : j_X10_jump_22 K (nI num) by' (nI op) J P := by
    unfold j_X10_jump_22
    have v : vp_in (nI num) 1000 := vp_in_nI hnum (by decide)
    rw [nI_clamp (by omega), zu_nc (a := 194) (by omega), hW.2.2 194 num (by omega) (by omega) (by omega), hlg]
    have hW' : RLw ok l (zu G 195 num by') (zu J 195 num by') := RLw_u hW (by omega) (by omega) (by omega)
    refine ⟨v, v, ?_⟩
    unfold jl at k
    cases lg with
    | true =>
      simp only [if_true] at k
      rw [if_pos rfl]
      refine zin (by decide) (s_mput (b := op + 64) (h := h) hW' (by omega) (fun _ => by rw [show (64 : Int32) = nI 64 from rfl, nI_add]; exact by_n (by omega)) (fun J1 h1 => s_mput2 (h := h) h1 (by rw [List.length_append]; show _ + 1 + 2 ≤ _; omega) (fun o => by_hi (e o)) (fun o => by_lo (e o)) (fun J2 h2 => k J2 ?_)))
      rw [List.append_assoc] at h2; exact h2
    | false =>
      simp only [Bool.false_eq_true, if_false] at k
      refine zip (by decide) (s_mput2 (h := h) hW' (by omega) (fun _ => by_n (by omega)) (fun o => by_lo (e o)) (fun J2 h2 => k J2 h2))
  rcases hx with hx | hx
  · rw [hx]
    exact zip (by first | omega | decide | (simp (maxSteps := 400000) (disch := omega) only [q_lit, q_neg, nI_ltI, nI_leI, nI_eq, nI_add, pk_mul, pk_sub, nI_clamp, vp_q, zu_same, zu_nc, zu_nj, ng_lt, ng_le, ng_gt, ng_ge, ng_eq, ng_qe, ng_ee, ng_add, not_false_eq_true, not_true_eq_false, ne_eq]; done) | (simp (maxSteps := 400000) (disch := omega) only [q_lit, q_neg, nI_ltI, nI_leI, nI_eq, nI_add, pk_mul, pk_sub, nI_clamp, vp_q, zu_same, zu_nc, zu_nj, ng_lt, ng_le, ng_gt, ng_ge, ng_eq, ng_qe, ng_ee, ng_add, not_false_eq_true, not_true_eq_false, ne_eq]; omega)) go
  · rw [hx]
    refine zin (by first | omega | decide | (simp (maxSteps := 400000) (disch := omega) only [q_lit, q_neg, nI_ltI, nI_leI, nI_eq, nI_add, pk_mul, pk_sub, nI_clamp, vp_q, zu_same, zu_nc, zu_nj, ng_lt, ng_le, ng_gt, ng_ge, ng_eq, ng_qe, ng_ee, ng_add, not_false_eq_true, not_true_eq_false, ne_eq]; done) | (simp (maxSteps := 400000) (disch := omega) only [q_lit, q_neg, nI_ltI, nI_leI, nI_eq, nI_add, pk_mul, pk_sub, nI_clamp, vp_q, zu_same, zu_nc, zu_nj, ng_lt, ng_le, ng_gt, ng_ge, ng_eq, ng_qe, ng_ee, ng_add, not_false_eq_true, not_true_eq_false, ne_eq]; omega)) ?_
    rw [show (64 : Int32) = nI 64 from rfl, pk_sub (by omega), Nat.add_sub_cancel]
    exact go
theorem gd_s {l r : List WB3} {x y : WB3} {i : Nat} (h : i ≠ l.length) : (l ++ x :: r).getD i (0, 0, 0) = (l ++ y :: r).getD i (0, 0, 0) := by
  rw [List.getD_eq_getElem?_getD, List.getD_eq_getElem?_getD]
  congr 1
  by_cases e : i < l.length
  · rw [List.getElem?_append_left e, List.getElem?_append_left e]
  · rw [List.getElem?_append_right (by omega), List.getElem?_append_right (by omega)]
    obtain ⟨d, hd⟩ : ∃ d, i - l.length = d + 1 := ⟨i - l.length - 1, by omega⟩
    rw [hd, List.getElem?_cons_succ, List.getElem?_cons_succ]
theorem gd_h {l r : List WB3} {x : WB3} : (l ++ x :: r).getD l.length (0, 0, 0) = x := by
  rw [List.getD_eq_getElem?_getD, List.getElem?_append_right (Nat.le_refl _), Nat.sub_self]; rfl
theorem s_or {ok : Prop} {b h p : Nat} {l r : List WB3} {G J : zI} {P : zP} {K : zI → zP → Prop} (hn : l.length < 2 ^ 30) (hW : RLw ok (l ++ (b, h, 0) :: r) G J) (k : ∀ J', RLw ok (l ++ (b, h, p + 1) :: r) G J' → K J' P) : j_X10_itself_209 K (nI p) (nI l.length) J P := by
  unfold j_X10_itself_209
  obtain ⟨w1, w2, w3⟩ := hW
  have el : (l ++ (b, h, p + 1) :: r).length = (l ++ (b, h, 0) :: r).length := by rw [List.length_append, List.length_append]; rfl
  by_cases e : l.length < 4000
  · rw [nI_clamp (by omega)]
    refine zin (by first | omega | decide | (simp (maxSteps := 400000) (disch := omega) only [q_lit, q_neg, nI_ltI, nI_leI, nI_eq, nI_add, pk_mul, pk_sub, nI_clamp, vp_q, zu_same, zu_nc, zu_nj, ng_lt, ng_le, ng_gt, ng_ge, ng_eq, ng_qe, ng_ee, ng_add, not_false_eq_true, not_true_eq_false, ne_eq]; done) | (simp (maxSteps := 400000) (disch := omega) only [q_lit, q_neg, nI_ltI, nI_leI, nI_eq, nI_add, pk_mul, pk_sub, nI_clamp, vp_q, zu_same, zu_nc, zu_nj, ng_lt, ng_le, ng_gt, ng_ge, ng_eq, ng_qe, ng_ee, ng_add, not_false_eq_true, not_true_eq_false, ne_eq]; omega)) ⟨vp_in_nI e (by decide), k _ ⟨?_, fun o i hi hi2 => ?_, fun c j a b d => ?_⟩⟩
    · rw [zu_nc (by omega), el]; exact w1
    · rw [el] at hi
      rw [zu_nc (a := 189) (by omega)]
      by_cases e2 : i = l.length
      · subst e2
        have := (w2 o _ hi hi2).1
        rw [gd_h] at this
        rw [zu_same, gd_h]; exact ⟨this, rfl⟩
      · rw [zu_nj e2, gd_s (y := (b, h, 0)) e2]; exact w2 o i hi hi2
    · rw [zu_nc b]; exact w3 c j a b d
  · refine zip (by first | omega | decide | (simp (maxSteps := 400000) (disch := omega) only [q_lit, q_neg, nI_ltI, nI_leI, nI_eq, nI_add, pk_mul, pk_sub, nI_clamp, vp_q, zu_same, zu_nc, zu_nj, ng_lt, ng_le, ng_gt, ng_ge, ng_eq, ng_qe, ng_ee, ng_add, not_false_eq_true, not_true_eq_false, ne_eq]; done) | (simp (maxSteps := 400000) (disch := omega) only [q_lit, q_neg, nI_ltI, nI_leI, nI_eq, nI_add, pk_mul, pk_sub, nI_clamp, vp_q, zu_same, zu_nc, zu_nj, ng_lt, ng_le, ng_gt, ng_ge, ng_eq, ng_qe, ng_ee, ng_add, not_false_eq_true, not_true_eq_false, ne_eq]; omega)) (k _ ⟨by rw [el]; exact w1, fun o i hi hi2 => ?_, w3⟩)
    rw [el] at hi
    rw [gd_s (y := (b, h, 0)) (by omega)]; exact w2 o i hi hi2
