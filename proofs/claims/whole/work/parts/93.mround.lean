/-! PURE 53: the reference's weaver: growing, rounds -/
theorem s_mjA {x : Int32} {J : zI} {P : zP} {K : Int32 → zI → zP → Prop} (k1 : (20 ≤ x ∧ x ≤ 32) ∨ (84 ≤ x ∧ x ≤ 96) → K 1 J P) (k0 : ¬ ((20 ≤ x ∧ x ≤ 32) ∨ (84 ≤ x ∧ x ≤ 96)) → K 0 J P) : w_X10_isJump x J P K := by
  unfold w_X10_isJump
  by_cases h1 : 20 ≤ x ∧ x ≤ 32
  · exact s_inT h1 (zin (by decide) (k1 (Or.inl h1)))
  · refine s_inF h1 (zip rfl ?_)
    by_cases h2 : 84 ≤ x ∧ x ≤ 96
    · exact s_inT h2 (zin (by decide) (k1 (Or.inr h2)))
    · exact s_inF h2 (zip rfl (k0 (fun z => z.elim h1 h2)))
def isJ (m : Nat) (I : zI) (k : Nat) : Prop := 400 ≤ k ∨ (I 166 (400 * m + k) ≠ 0 ∧ ((20 ≤ I 160 (400 * m + k) ∧ I 160 (400 * m + k) ≤ 32) ∨ (84 ≤ I 160 (400 * m + k) ∧ I 160 (400 * m + k) ≤ 96)))
def nfr (x : Int32) : Prop := ¬ (-128 ≤ x ∧ x ≤ 127)
theorem nfr_f {a b : Nat} (ha : a < 2 ^ 30) (hb : b < 2 ^ 30) : nfr (nI b - nI a) ↔ farB a b = true := by
  have e := pk_sub_toInt hb ha
  have e1 : (-128 : Int32).toInt = -128 := by decide
  have e2 : (127 : Int32).toInt = 127 := by decide
  rw [farB_t]
  unfold nfr far
  rw [Int32.le_iff_toInt_le, Int32.le_iff_toInt_le, e, e1, e2]
/-- what grows() leaves -/
def grR (m : Nat) (I J : zI) (k : Nat) : Prop := (∀ c j, c ≠ 194 → J c j = I c j) ∧ ∀ j, (k ≤ j → J 194 j = I 194 j) ∧ (j < k → (J 194 j = 1 ∧ isJ m I j ∧ I 194 j = 0 ∧ nfr (I 195 j)) ∨ (J 194 j = I 194 j ∧ ¬ (isJ m I j ∧ I 194 j = 0 ∧ nfr (I 195 j))))
theorem s_mgr {m n : Nat} {I : zI} {P : zP} {K : Int32 → zI → zP → Prop} (hm : m < 6) (hn : n ≤ 408) (h47 : I 155 47 = nI n) (k : ∀ y J, grR m I J (400 + n) → (y = 0 ∧ ∀ j, J 194 j = I 194 j) ∨ (y = 1 ∧ ∃ j, j < 1000 ∧ I 194 j = 0 ∧ J 194 j = 1) → K y J P) : w_X10_grows (nI m) I P K := by
  have lp : ∀ d i y J, i + d = 400 + n → grR m I J i → (y = 0 ∧ ∀ j, J 194 j = I 194 j) ∨ (y = 1 ∧ ∃ j, j < 1000 ∧ I 194 j = 0 ∧ J 194 j = 1) → l_X10_grows_4 K (d + 1) (nI m) y (nI i) J P := by
    intro d
    induction d with
    | zero =>
      intro i y J hi hR hy
      obtain rfl : i = 400 + n := by omega
      rw [l_X10_grows_4, hR.1 _ _ (by omega), h47, show (400 : Int32) = nI 400 from rfl, nI_add]
      refine zip (by first | omega | decide | (simp (maxSteps := 400000) (disch := omega) only [q_lit, q_neg, nI_ltI, nI_leI, nI_eq, nI_add, pk_mul, pk_sub, nI_clamp, vp_q, zu_same, zu_nc, zu_nj, ng_lt, ng_le, ng_gt, ng_ge, ng_eq, ng_qe, ng_ee, ng_add, not_false_eq_true, not_true_eq_false, ne_eq]; done) | (simp (maxSteps := 400000) (disch := omega) only [q_lit, q_neg, nI_ltI, nI_leI, nI_eq, nI_add, pk_mul, pk_sub, nI_clamp, vp_q, zu_same, zu_nc, zu_nj, ng_lt, ng_le, ng_gt, ng_ge, ng_eq, ng_qe, ng_ee, ng_add, not_false_eq_true, not_true_eq_false, ne_eq]; omega)) ⟨?_, k y J hR hy⟩
      rcases hy with ⟨e, -⟩ | ⟨e, -⟩
      · rw [e]; exact zbo0
      · rw [e]; exact zbo1
    | succ d ih =>
      intro i y J hi hR hy
      obtain ⟨f, g⟩ := hR
      have gi := (g i).1 (Nat.le_refl _)
      have keep : ¬ (isJ m I i ∧ I 194 i = 0 ∧ nfr (I 195 i)) → l_X10_grows_4 K (d + 1) (nI m) y (nI (i + 1)) J P := fun no =>
        ih (i + 1) y J (by omega) ⟨f, fun j => ⟨fun h => (g j).1 (by omega), fun h => by
          by_cases e : j = i
          · rw [e]; exact Or.inr ⟨gi, no⟩
          · exact (g j).2 (by omega)⟩⟩ hy
      have go0 : ¬ isJ m I i → j_X10_grows_60 (l_X10_grows_4 K (d + 1)) K (nI m) y (nI i) J P := fun no => by
        unfold j_X10_grows_60 j_X10_grows_61
        rw [nI_1]
        exact zip rfl (keep (fun z => no z.1))
      have go1 : isJ m I i → j_X10_grows_61 (l_X10_grows_4 K (d + 1)) K (nI m) y (nI i) 1 J P := fun yes => by
        unfold j_X10_grows_61
        have v : vp_in (nI i) 1000 := vp_in_nI (by omega) (by decide)
        rw [nI_1, nI_clamp (by omega), gi, f 195 i (by omega), nar1]
        refine zin (by decide) ⟨v, ?_⟩
        by_cases e0 : I 194 i = 0
        · refine zip e0 ⟨v, ?_⟩
          by_cases e1 : -128 ≤ I 195 i ∧ I 195 i ≤ 127
          · exact s_inT e1 (zin (by decide) (keep (fun z => z.2.2 e1)))
          · refine s_inF e1 (zip rfl ⟨v, ih (i + 1) 1 _ (by omega) ⟨fun c j h => by rw [zu_nc h]; exact f c j h, fun j => ⟨fun h => by rw [zu_nj (by omega)]; exact (g j).1 (by omega), fun h => ?_⟩⟩ (Or.inr ⟨rfl, i, by omega, e0, zu_same⟩)⟩)
            by_cases e : j = i
            · rw [e, zu_same]; exact Or.inl ⟨rfl, yes, e0, e1⟩
            · rw [zu_nj e]; exact (g j).2 (by omega)
        · exact zin e0 (keep (fun z => e0 z.2.1))
      rw [l_X10_grows_4, f 155 47 (by omega), h47]
      refine zin (by rw [show (400 : Int32) = nI 400 from rfl, nI_add]; first | omega | decide | (simp (maxSteps := 400000) (disch := omega) only [q_lit, q_neg, nI_ltI, nI_leI, nI_eq, nI_add, pk_mul, pk_sub, nI_clamp, vp_q, zu_same, zu_nc, zu_nj, ng_lt, ng_le, ng_gt, ng_ge, ng_eq, ng_qe, ng_ee, ng_add, not_false_eq_true, not_true_eq_false, ne_eq]; done) | (simp (maxSteps := 400000) (disch := omega) only [q_lit, q_neg, nI_ltI, nI_leI, nI_eq, nI_add, pk_mul, pk_sub, nI_clamp, vp_q, zu_same, zu_nc, zu_nj, ng_lt, ng_le, ng_gt, ng_ge, ng_eq, ng_qe, ng_ee, ng_add, not_false_eq_true, not_true_eq_false, ne_eq]; omega)) ?_
      by_cases h4 : 400 ≤ i
      · exact zip (by first | omega | decide | (simp (maxSteps := 400000) (disch := omega) only [q_lit, q_neg, nI_ltI, nI_leI, nI_eq, nI_add, pk_mul, pk_sub, nI_clamp, vp_q, zu_same, zu_nc, zu_nj, ng_lt, ng_le, ng_gt, ng_ge, ng_eq, ng_qe, ng_ee, ng_add, not_false_eq_true, not_true_eq_false, ne_eq]; done) | (simp (maxSteps := 400000) (disch := omega) only [q_lit, q_neg, nI_ltI, nI_leI, nI_eq, nI_add, pk_mul, pk_sub, nI_clamp, vp_q, zu_same, zu_nc, zu_nj, ng_lt, ng_le, ng_gt, ng_ge, ng_eq, ng_qe, ng_ee, ng_add, not_false_eq_true, not_true_eq_false, ne_eq]; omega)) (go1 (Or.inl h4))
      · have v : vp_in (nI (400 * m + i)) 2400 := vp_in_nI (by omega) (by decide)
        rw [e400, nI_clamp (by omega), f 166 _ (by omega), f 160 _ (by omega)]
        refine zin (by first | omega | decide | (simp (maxSteps := 400000) (disch := omega) only [q_lit, q_neg, nI_ltI, nI_leI, nI_eq, nI_add, pk_mul, pk_sub, nI_clamp, vp_q, zu_same, zu_nc, zu_nj, ng_lt, ng_le, ng_gt, ng_ge, ng_eq, ng_qe, ng_ee, ng_add, not_false_eq_true, not_true_eq_false, ne_eq]; done) | (simp (maxSteps := 400000) (disch := omega) only [q_lit, q_neg, nI_ltI, nI_leI, nI_eq, nI_add, pk_mul, pk_sub, nI_clamp, vp_q, zu_same, zu_nc, zu_nj, ng_lt, ng_le, ng_gt, ng_ge, ng_eq, ng_qe, ng_ee, ng_add, not_false_eq_true, not_true_eq_false, ne_eq]; omega)) ⟨v, ?_⟩
        by_cases e6 : I 166 (400 * m + i) = 0
        · exact zip e6 (go0 (fun z => z.elim (fun q => h4 q) (fun q => q.1 e6)))
        · exact zin e6 ⟨v, s_mjA (fun q => zin (by decide) (go1 (Or.inr ⟨e6, q⟩))) (fun q => zip rfl (go0 (fun z => z.elim (fun y => h4 y) (fun y => q y.2))))⟩
  exact ⟨_, lp (400 + n) 0 0 I (by omega) ⟨fun _ _ _ => rfl, fun j => ⟨fun _ => rfl, fun h => absurd h (by omega)⟩⟩ (Or.inl ⟨rfl, fun _ => rfl⟩)⟩
theorem grV {m k : Nat} {I J : zI} (hR : grR m I J k) {j x : Nat} (hj : j < k) (hJ : isJ m I j) (hx : x ≤ 1) (hi : I 194 j = nI x) {c : Bool} (hc : nfr (I 195 j) ↔ c = true) : J 194 j = nI (if c = true then 1 else x) := by
  rcases (hR.2 j).2 hj with ⟨a, b, d, e⟩ | ⟨a, b⟩
  · rw [a, if_pos (hc.mp e)]; rfl
  · rw [a, hi]
    by_cases z : c = true
    · rw [if_pos z]
      have : x ≠ 0 := fun q => b ⟨hJ, by rw [hi, q]; rfl, hc.mpr z⟩
      congr 1; omega
    · rw [if_neg z]
theorem RFl_g {A B F : Nat → Nat → Nat} {m w : Nat} {I J : zI} (hB : W0 A m) (hw : w ≤ 24) (hQ : BQ A m B w) (hjk : ∀ p, p < A 0 2 → jok A p) (hH : ∀ k, k < A 0 3 → hok A k) (hF : FOK A m B w F) (hY : CY A m B w F I) (hS : RSw True A m B w F (A 0 2 + 1) (A 0 2) (A 0 3) I) (hR : grR m I J (400 + (nsp m B w (A 0 2) + ncp A m B w (A 0 3)))) : RFl A m B w (grw A m B w F) J := by
  have hl := hB.2.2.2.2.1
  obtain ⟨bG, bC⟩ := bnd (B := B) hB hw hF.1
  obtain ⟨-, -, -, -, s5, s6, s7⟩ := hS
  refine ⟨fun p hp hz g => ?_, fun p hp hc => ?_, fun k hk hc => ?_⟩
  · have hi := hY.2.2.1 p hp hz g
    have c160 := (hY.1.2.2.2.2.1 p hp).1
    have c166 := (hY.1.2.2.2.2.1 p hp).2
    rw [if_neg (by omega)] at c166
    have c256 := hB.2.2.2.2.2.2.1 p
    have hJ : isJ m I p := Or.inr ⟨by rw [c166]; decide, by
      rw [c160, show (20 : Int32) = nI 20 from rfl, show (32 : Int32) = nI 32 from rfl, show (84 : Int32) = nI 84 from rfl, show (96 : Int32) = nI 96 from rfl, nI_leI (by omega) (by omega), nI_leI (by omega) (by omega), nI_leI (by omega) (by omega), nI_leI (by omega) (by omega)]
      exact g⟩
    by_cases gl : isLg (A 1 p)
    · rw [if_pos gl] at hi ⊢
      rcases (hR.2 p).2 (by omega) with ⟨-, -, d, -⟩ | ⟨a, -⟩
      · rw [hi] at d; exact absurd d (by decide)
      · rw [a]; exact hi
    · rw [if_neg gl] at hi ⊢
      have gs := g.resolve_right gl
      obtain ⟨t1, t2, t3⟩ := tg_n hB (hjk p hp) hz (njp_1 g)
      have b1 := (bG _ (Nat.le_of_lt t2)).1
      have b2 := bG p (by omega)
      have al := ahn_le (A := A) (B := B) (m := m) (p := p) hw
      have hd : dst A m B w F p 0 ≤ 200000 := by unfold dst; split <;> omega
      have hs : Sp A m B w F p ≤ 200192 := by unfold Sp; omega
      have e := grV hR (by omega) hJ (hF.1 0 p) hi (c := farB (Sp A m B w F p) (dst A m B w F p 0)) (by rw [s5 trivial p hp (by omega) hz g]; exact nfr_f (by omega) (by omega))
      rw [e, grw0]
      congr 1
      by_cases z : farB (Sp A m B w F p) (dst A m B w F p 0) = true
      · rw [if_pos z, if_pos ⟨hp, hz, gs, z⟩]
      · rw [if_neg z, if_neg (fun q => z q.2.2.2)]
  · have hi := hY.2.2.2.1 p hp hc
    obtain ⟨g1, g2, g3⟩ := sd_ok hQ hc
    obtain ⟨t1, t2, t3⟩ := tg_n hB (hjk p hp) g2 (njp_1 g3)
    have b1 := (bG _ (Nat.le_of_lt t2)).1
    have b2 := (bG p (by omega)).2
    have cl := cnq_le (B := B) (m := m) (s := 1) (p := p) w
    have nl := nsp_ll hc hp
    have e := grV hR (j := 400 + nsp m B w p) (by omega) (Or.inl (by omega)) (hF.1 1 p) hi (c := farB (SPp A m B w F p + 3 * cnq B m 1 p w) (Gp A m B w F (tgn A p 0))) (by rw [s6 trivial p hp hc]; exact nfr_f (by omega) (by omega))
    rw [e, grw1]
    congr 1
    by_cases z : farB (SPp A m B w F p + 3 * cnq B m 1 p w) (Gp A m B w F (tgn A p 0)) = true
    · rw [if_pos z, if_pos ⟨hp, hc, z⟩]
    · rw [if_neg z, if_neg (fun q => z q.2.2)]
  · have hi := hY.2.2.2.2 k hk hc
    obtain ⟨t1, t2⟩ := hk_t hB (hH k hk)
    have b1 := (bG _ (Nat.le_of_lt t1)).1
    have b2 := bC k (by omega)
    have cl := cnq_le (B := B) (m := m) (s := 5) (p := A 3 (4 * k + 2)) w
    have nl := ncp_ll hc hk
    have e := grV hR (j := 400 + (nsp m B w (A 0 2) + ncp A m B w k)) (by omega) (Or.inl (by omega)) (hF.1 2 k) hi (c := farB (CPp A m B w F k + 2 * cnq B m 5 (A 3 (4 * k + 2)) w) (Gp A m B w F (A 3 (4 * k + 2)))) (by rw [s7 trivial k hk hc]; exact nfr_f (by omega) (by omega))
    rw [e, grw2]
    congr 1
    by_cases z : farB (CPp A m B w F k + 2 * cnq B m 5 (A 3 (4 * k + 2)) w) (Gp A m B w F (A 3 (4 * k + 2))) = true
    · rw [if_pos z, if_pos ⟨hk, hc, z⟩]
    · rw [if_neg z, if_neg (fun q => z q.2.2)]
theorem RFl_e {A B F : Nat → Nat → Nat} {m w : Nat} {I J : zI} (hF : FOK A m B w F) (h : RFl A m B w F I) (g : RFl A m B w (grw A m B w F) J) (e : ∀ j, J 194 j = I 194 j) : grw A m B w F = F := by
  have inj : ∀ {i p}, nI (grw A m B w F i p) = nI (F i p) → grw A m B w F i p = F i p := fun {i p} q => nI_inj (by have := (grw_le (A := A) (B := B) (m := m) (w := w) hF.1 i p).2; omega) (by have := hF.1 i p; omega) q
  refine grw_eq (fun p hp => ⟨?_, ?_⟩) (fun k hk => ?_)
  · by_cases z : 0 < A 2 p ∧ isSt (A 1 p)
    · have gl : ¬ isLg (A 1 p) := fun q => by have := z.2; unfold isSt isLg at *; omega
      have a := h.1 p hp z.1 (Or.inl z.2)
      have b := g.1 p hp z.1 (Or.inl z.2)
      rw [if_neg gl] at a b
      exact inj (by rw [← a, ← b, e])
    · rw [grw0, if_neg (fun q => z ⟨q.2.1, q.2.2.1⟩)]
  · by_cases z : 0 < cnq B m 1 p w
    · exact inj (by rw [← h.2.1 p hp z, ← g.2.1 p hp z, e])
    · rw [grw1, if_neg (fun q => z q.2.1)]
  · by_cases z : 0 < cnq B m 5 (A 3 (4 * k + 2)) w
    · exact inj (by rw [← h.2.2 k hk z, ← g.2.2 k hk z, e])
    · rw [grw2, if_neg (fun q => z q.2.1)]
def zcn (I : zI) : Nat := sm (fun k => if I 194 k = 0 then 1 else 0) 1000
theorem zcn_d {m k : Nat} {I J : zI} (hR : grR m I J k) (h : ∃ j, j < 1000 ∧ I 194 j = 0 ∧ J 194 j = 1) : zcn J + 1 ≤ zcn I := by
  refine sm_lt (fun j _ => ?_) ?_
  · have : J 194 j = 0 → I 194 j = 0 := fun z => by
      by_cases e : j < k
      · rcases (hR.2 j).2 e with ⟨a, -⟩ | ⟨a, -⟩
        · rw [a] at z; exact absurd z (by decide)
        · rw [← a]; exact z
      · rw [← (hR.2 j).1 (by omega)]; exact z
    by_cases z : J 194 j = 0
    · rw [if_pos z, if_pos (this z)]; exact Nat.le_refl _
    · rw [if_neg z]; exact Nat.zero_le _
  · obtain ⟨j, a, b, c⟩ := h
    exact ⟨j, a, by rw [if_pos b, c, if_neg (by decide)]; decide⟩
theorem RSw_c {ok : Prop} {A B F : Nat → Nat → Nat} {m w i a b : Nat} {G J : zI} (h : RSw ok A m B w F i a b G) (f : ∀ c j, 191 ≤ c ∧ c ≤ 195 → J c j = G c j) : RSw ok A m B w F i a b J := by
  obtain ⟨s1, s2, s3, s4, s5, s6, s7⟩ := h
  exact ⟨fun p a b c => by rw [f _ _ (by omega)]; exact s1 p a b c, fun p a b c => by rw [f _ _ (by omega)]; exact s2 p a b c, fun p a b c => by rw [f _ _ (by omega)]; exact s3 p a b c, fun p a b c => by rw [f _ _ (by omega)]; exact s4 p a b c, fun o p a b c d => by rw [f _ _ (by omega)]; exact s5 o p a b c d, fun o p a b => by rw [f _ _ (by omega)]; exact s6 o p a b, fun o p a b => by rw [f _ _ (by omega)]; exact s7 o p a b⟩
/-- what is laid at the end -/
def RDn (A : Nat → Nat → Nat) (m : Nat) (B : Nat → Nat → Nat) (w : Nat) (F : Nat → Nat → Nat) (J : zI) : Prop := CY A m B w F J ∧ J 155 42 = nI (TOT A m B w F) ∧ (∀ i, i < TOT A m B w F → i < 4000 → J 189 i = nI ((codL A m B w F).getD i (0, 0, 0)).1 ∧ J 190 i = oM ((codL A m B w F).getD i (0, 0, 0)).2.2) ∧ RSw True A m B w F (A 0 2 + 1) (A 0 2) (A 0 3) J ∧ J 155 47 = nI (nsp m B w (A 0 2) + ncp A m B w (A 0 3)) ∧ J 155 48 = nI (LPp A m B w F)
theorem s_mrd {A B : Nat → Nat → Nat} {m w : Nat} {I : zI} {P : zP} {K : Int32 → zI → zP → Prop} (hm : m < 6) (hB : W0 A m) (hjk : ∀ p, p < A 0 2 → jok A p) (hH : ∀ k, k < A 0 3 → hok A k) (hQ : BQ A m B w) (hM : RM0 A m I) (hq : MQw B w I) (k : ∀ n J, (∀ c j, ¬ (189 ≤ c ∧ c ≤ 195) → ¬ (c = 155 ∧ (j = 42 ∨ j = 47 ∨ j = 48)) → J c j = I c j) → RDn A m B w (grI A m B w n) J → grw A m B w (grI A m B w n) = grI A m B w n → if (J 155 42) ≤ 1000 then (w_X10_keep (nI m) J P (fun (I3 : zI) (P3 : zP) => (vp_in (nI m) 6 ∧ (K (I3 177 ((nI m).toNatClampNeg)) I3 P3)))) else (K (-3) J P)) : ∃ n9, l_X10_weave_13 K n9 (nI m) 0 I P := by
  have hl := hB.2.2.2.2.1
  have h8 := hB.2.2.2.2.2.1
  have hw := hq.1
  have lp : ∀ d n J, zcn J < d → (∀ c j, ¬ (189 ≤ c ∧ c ≤ 195) → ¬ (c = 155 ∧ (j = 42 ∨ j = 47 ∨ j = 48)) → J c j = I c j) → RFl A m B w (grI A m B w n) J → l_X10_weave_83 K (d + 1) (nI m) 1 J P := by
    intro d
    induction d with
    | zero => intro n J h; exact absurd h (by omega)
    | succ d ih =>
      intro n J hz f hf
      have ok := FOK_I (A := A) (B := B) (m := m) (w := w) n
      generalize hF : grI A m B w n = F at ok hf
      have hY : CY A m B w F J := ⟨RM0_c hM (fun c j a b => f c j (by omega) (by omega)), MQw_c hq (fun c j a => f c j (by omega) (by omega)), hf⟩
      have r0 : RSw False A m B w F 0 0 0 J := ⟨fun p a b c => absurd c (by simp), fun p a b c => absurd c (by simp), fun p a b c => absurd c (by simp), fun p a b c => absurd c (by simp), fun o => o.elim, fun o => o.elim, fun o => o.elim⟩
      rw [l_X10_weave_83]
      refine zin (by decide) (s_mlay hm hB hjk hH ok hY hQ r0 (fun G1 J1 w1 f1 s1 _ _ => ?_))
      have f1' : ∀ c j, ¬ (189 ≤ c ∧ c ≤ 193) → c ≠ 195 → ¬ (c = 155 ∧ (j = 42 ∨ j = 47 ∨ j = 48)) → J1 c j = J c j := fun c j a b e => by rw [w1.2.2 c j (by omega) (by omega) (by omega)]; exact f1 c j (by omega) (by omega)
      have hY1 : CY A m B w F J1 := CY_c hY (fun c j a => f1' c j (by omega) (by omega) (by omega))
      have s1' := RSw_c s1 (J := J1) (fun c j a => w1.2.2 c j (by omega) (by omega) (by omega))
      have r1 : RSw True A m B w F 0 0 0 J1 := ⟨fun p a b _ => s1'.1 p a b (Or.inr (by omega)), fun p a b _ => s1'.2.1 p a b (Or.inr (by omega)), fun p a b _ => s1'.2.2.1 p a b (Or.inr a), fun p a b _ => s1'.2.2.2.1 p a b (Or.inr a), fun _ p _ b => absurd b (by omega), fun _ p b => absurd b (by omega), fun _ p b => absurd b (by omega)⟩
      refine s_mlay hm hB hjk hH ok hY1 hQ r1 (fun G2 J2 w2 f2 s2 g47 g48 => ?_)
      have f2' : ∀ c j, ¬ (189 ≤ c ∧ c ≤ 193) → c ≠ 195 → ¬ (c = 155 ∧ (j = 42 ∨ j = 47 ∨ j = 48)) → J2 c j = J c j := fun c j a b e => by rw [w2.2.2 c j (by omega) (by omega) (by omega), f2 c j (by omega) (by omega)]; exact f1' c j a b e
      have hY2 : CY A m B w F J2 := CY_c hY (fun c j a => f2' c j (by omega) (by omega) (by omega))
      have s2' := RSw_c s2 (J := J2) (fun c j a => w2.2.2 c j (by omega) (by omega) (by omega))
      have y47 : J2 155 47 = nI (nsp m B w (A 0 2) + ncp A m B w (A 0 3)) := by rw [w2.2.2 _ _ (by omega) (by omega) (by omega)]; exact g47
      have y48 : J2 155 48 = nI (LPp A m B w F) := by rw [w2.2.2 _ _ (by omega) (by omega) (by omega)]; exact g48
      have n1 := nsp_le (B := B) (m := m) (w := w) (A 0 2)
      have n2 := ncp_le (A := A) (B := B) (m := m) (w := w) (A 0 3)
      refine s_mgr hm (by omega) y47 (fun y J3 hR hy => ?_)
      have zc : zcn J2 = zcn J := by unfold zcn; congr 1; funext j; rw [f2' 194 j (by omega) (by omega) (by omega)]
      have fr : ∀ c j, ¬ (189 ≤ c ∧ c ≤ 195) → ¬ (c = 155 ∧ (j = 42 ∨ j = 47 ∨ j = 48)) → J3 c j = I c j := fun c j a b => by rw [hR.1 c j (by omega), f2' c j (by omega) (by omega) b]; exact f c j a b
      have g3 := RFl_g hB hw hQ hjk hH ok hY2 s2' hR
      rcases hy with ⟨rfl, e⟩ | ⟨rfl, e⟩
      · have eq := RFl_e ok hY2.2.2 g3 e
        have e3 : ∀ c j, J3 c j = J2 c j := fun c j => by
          by_cases z : c = 194
          · rw [z]; exact e j
          · exact hR.1 c j z
        rw [l_X10_weave_83]
        refine zip rfl (k n J3 fr ?_ (by rw [hF]; exact eq))
        rw [hF]
        refine ⟨CY_c hY2 (fun c j _ => e3 c j), ?_, fun i hi h4 => ?_, RSw_c s2' (fun c j _ => e3 c j), by rw [e3]; exact y47, by rw [e3]; exact y48⟩
        · rw [e3, w2.1, len_cod hB ok]
        · rw [e3, e3]; exact w2.2.1 trivial i (by rw [len_cod hB ok]; exact hi) h4
      · have := zcn_d hR e
        refine ih (n + 1) J3 (by omega) fr ?_
        rw [grI, hF]; exact g3
  have lp0 : ∀ d i J, i + d = 1000 → (∀ c j, c ≠ 194 → J c j = I c j) → (∀ j, j < i → (j < A 0 2 → 0 < A 2 j → J 194 j = if isLg (A 1 j) then 1 else 0) ∧ (400 ≤ j → J 194 j = 0)) → l_X10_weave_13 K (d + 1) (nI m) (nI i) J P := by
    intro d
    induction d with
    | zero =>
      intro i J hi f g
      obtain rfl : i = 1000 := by omega
      have hz : zcn J ≤ 1000 := sm_1 (fun p _ => by split <;> omega)
      have n1 := nsp_le (B := B) (m := m) (w := w) (A 0 2)
      rw [l_X10_weave_13]
      refine zip (by decide) ⟨_, lp 1001 0 J (by omega) (fun c j a b => f c j (by omega)) ⟨fun p hp hz' _ => ?_, fun p hp hc => ?_, fun k hk hc => ?_⟩⟩
      · exact (g p (by omega)).1 hp hz'
      · have := nsp_ll hc hp
        exact (g _ (by omega)).2 (by omega)
      · have := ncp_ll hc hk
        have n2 := ncp_le (A := A) (B := B) (m := m) (w := w) (A 0 3)
        exact (g _ (by omega)).2 (by omega)
    | succ d ih =>
      intro i J hi f g
      have v : vp_in (nI i) 1000 := vp_in_nI (by omega) (by decide)
      have set : ∀ x : Int32, ((i < A 0 2 → 0 < A 2 i → x = if isLg (A 1 i) then 1 else 0) ∧ (400 ≤ i → x = 0)) → l_X10_weave_13 K (d + 1) (nI m) (nI (i + 1)) (zu J 194 i x) P := fun x hx =>
        ih (i + 1) _ (by omega) (fun c j a => by rw [zu_nc a]; exact f c j a) (fun j hj => by
          by_cases e : j = i
          · subst e; rw [zu_same]; exact hx
          · rw [zu_nj e]; exact g j (by omega))
      have zero : ((i < A 0 2 → 0 < A 2 i → ¬ isLg (A 1 i))) → j_X10_weave_73 (l_X10_weave_13 K (d + 1)) K (nI m) (nI i) (nI i) J P := fun no => by
        unfold j_X10_weave_73
        rw [nI_1, nI_clamp (by omega), nar0]
        exact ⟨v, set 0 ⟨fun a b => by rw [if_neg (no a b)], fun _ => rfl⟩⟩
      rw [l_X10_weave_13, nI_1]
      refine zin (by first | omega | decide | (simp (maxSteps := 400000) (disch := omega) only [q_lit, q_neg, nI_ltI, nI_leI, nI_eq, nI_add, pk_mul, pk_sub, nI_clamp, vp_q, zu_same, zu_nc, zu_nj, ng_lt, ng_le, ng_gt, ng_ge, ng_eq, ng_qe, ng_ee, ng_add, not_false_eq_true, not_true_eq_false, ne_eq]; done) | (simp (maxSteps := 400000) (disch := omega) only [q_lit, q_neg, nI_ltI, nI_leI, nI_eq, nI_add, pk_mul, pk_sub, nI_clamp, vp_q, zu_same, zu_nc, zu_nj, ng_lt, ng_le, ng_gt, ng_ge, ng_eq, ng_qe, ng_ee, ng_add, not_false_eq_true, not_true_eq_false, ne_eq]; omega)) ?_
      by_cases h4 : 400 ≤ i
      · exact zip (by first | omega | decide | (simp (maxSteps := 400000) (disch := omega) only [q_lit, q_neg, nI_ltI, nI_leI, nI_eq, nI_add, pk_mul, pk_sub, nI_clamp, vp_q, zu_same, zu_nc, zu_nj, ng_lt, ng_le, ng_gt, ng_ge, ng_eq, ng_qe, ng_ee, ng_add, not_false_eq_true, not_true_eq_false, ne_eq]; done) | (simp (maxSteps := 400000) (disch := omega) only [q_lit, q_neg, nI_ltI, nI_leI, nI_eq, nI_add, pk_mul, pk_sub, nI_clamp, vp_q, zu_same, zu_nc, zu_nj, ng_lt, ng_le, ng_gt, ng_ge, ng_eq, ng_qe, ng_ee, ng_add, not_false_eq_true, not_true_eq_false, ne_eq]; omega)) (zero (fun a => absurd a (by omega)))
      · refine zin (by first | omega | decide | (simp (maxSteps := 400000) (disch := omega) only [q_lit, q_neg, nI_ltI, nI_leI, nI_eq, nI_add, pk_mul, pk_sub, nI_clamp, vp_q, zu_same, zu_nc, zu_nj, ng_lt, ng_le, ng_gt, ng_ge, ng_eq, ng_qe, ng_ee, ng_add, not_false_eq_true, not_true_eq_false, ne_eq]; done) | (simp (maxSteps := 400000) (disch := omega) only [q_lit, q_neg, nI_ltI, nI_leI, nI_eq, nI_add, pk_mul, pk_sub, nI_clamp, vp_q, zu_same, zu_nc, zu_nj, ng_lt, ng_le, ng_gt, ng_ge, ng_eq, ng_qe, ng_ee, ng_add, not_false_eq_true, not_true_eq_false, ne_eq]; omega)) ?_
        rw [e400, nI_clamp (by omega), nI_clamp (by omega), f 166 _ (by omega), f 160 _ (by omega), nar1]
        have v2 : vp_in (nI (400 * m + i)) 2400 := vp_in_nI (by omega) (by decide)
        refine ⟨v2, ?_⟩
        by_cases e6 : I 166 (400 * m + i) = 0
        · refine zip e6 (zero (fun a b => ?_))
          have := (hM.2.2.2.2.1 i a).2
          rw [if_neg (by omega), e6] at this
          exact absurd this (by decide)
        · refine zin e6 ⟨v2, ?_⟩
          have lg : i < A 0 2 → (isLg (A 1 i) ↔ (84 ≤ I 160 (400 * m + i) ∧ I 160 (400 * m + i) ≤ 96)) := fun a => by
            have := hB.2.2.2.2.2.2.1 i
            rw [(hM.2.2.2.2.1 i a).1, show (84 : Int32) = nI 84 from rfl, show (96 : Int32) = nI 96 from rfl, nI_leI (by omega) (by omega), nI_leI (by omega) (by omega)]
          by_cases e8 : 84 ≤ I 160 (400 * m + i) ∧ I 160 (400 * m + i) ≤ 96
          · exact s_inT e8 (zin (by decide) ⟨v, set 1 ⟨fun a b => by rw [if_pos ((lg a).mpr e8)], fun q => absurd q h4⟩⟩)
          · exact s_inF e8 (zip rfl (zero (fun a b q => e8 ((lg a).mp q))))
  exact ⟨_, lp0 1000 0 I (by omega) (fun _ _ _ => rfl) (fun j hj => absurd hj (by omega))⟩
