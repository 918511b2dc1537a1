/-! PURE 51: the reference's weaver: an INSTRUCTION, a GROUP -/
theorem jl_o {op h : Nat} {lg : Bool} {z : Int} : ∃ x r, ∀ o, jl op lg z h o = (x, h, o) :: r := by
  unfold jl
  cases lg with
  | true => exact ⟨_, _, fun o => rfl⟩
  | false => exact ⟨_, _, fun o => rfl⟩
theorem cat_1 {f : Nat → Nat} {h : Nat} : ∀ n, ∃ r, ∀ o, cat (fun i => [(f i, h, if i = 0 then o else 0)]) (n + 1) = (f 0, h, o) :: r
  | 0 => ⟨[], fun o => rfl⟩
  | n + 1 => by
    obtain ⟨r, e⟩ := cat_1 (f := f) (h := h) n
    exact ⟨r ++ [(f (n + 1), h, 0)], fun o => by rw [cat, e o]; rfl⟩
theorem cat_3 {α : Type} {f : Nat → List α} (h : ∀ q, (f q).length ≤ 3) : ∀ n, (cat f n).length ≤ 3 * n
  | 0 => Nat.zero_le _
  | n + 1 => by have := cat_3 h n; have := h n; rw [cat, List.length_append]; omega
theorem e400 {m p : Nat} : (400 : Int32) * nI m + nI p = nI (400 * m + p) := by rw [show (400 : Int32) = nI 400 from rfl, pk_mul, nI_add]
theorem s_it {ok : Prop} {A B F : Nat → Nat → Nat} {m w p : Nat} {l : List WB3} {G J : zI} {P : zP} {K : zI → zP → Prop} (hm : m < 6) (hB : W0 A m) (hj : jok A p) (hF : FOK A m B w F) (hY : CY A m B w F G) (hQ : BQ A m B w) (hp : p < A 0 2) (hz : 0 < A 2 p) (hS : l.length = Sp A m B w F p) (hW : RLw ok l G J) (r1 : ok → ∀ t, t < A 0 2 → 0 < A 2 t → G 191 t = nI (Gp A m B w F t)) (r2 : ok → 0 < cnq B m 1 p w → G 193 (nsp m B w p) = nI (SPp A m B w F p)) (k : ∀ G' J', RLw ok (l ++ selfL A m B w F p) G' J' → (∀ c j, ¬ (c = 192 ∧ j = p) → ¬ (c = 195 ∧ j = p) → G' c j = G c j) → G' 192 p = nI (Sp A m B w F p) → (ok → isSt (A 1 p) ∨ isLg (A 1 p) → G' 195 p = nI (dst A m B w F p 0) - nI (Sp A m B w F p)) → K J' P) : w_X10_itself (nI m) (nI p) (nI (A 1 p)) J P K := by
  have hl := hB.2.2.2.2.1
  have hw := hY.2.1.1
  have v : vp_in (nI p) 400 := vp_in_nI (by omega) (by decide)
  have a256 := hB.2.2.2.2.2.2.1
  have b256 := a256 p
  obtain ⟨bG, -⟩ := bnd (B := B) hB hw hF.1
  obtain ⟨c1, c2, c3, c4, c5, -⟩ := hB.2.2.2.2.2.2.2.2.2.1 p hp hz
  have al := ahn_le (A := A) (B := B) (m := m) (p := p) hw
  have bS : Sp A m B w F p ≤ 200192 := by have := (bG p (by omega)).1; unfold Sp; omega
  unfold w_X10_itself
  rw [zu_nc (a := 155) (by omega), hW.1, nI_clamp (by omega)]
  have hW1 : RLw ok l (zu G 192 p (nI l.length)) (zu J 192 p (nI l.length)) := RLw_u hW (by omega) (by omega) (by omega)
  have hY1 : CY A m B w F (zu G 192 p (nI l.length)) := CY_c hY (fun c j a => zu_nc (by omega))
  generalize hG1 : zu G 192 p (nI l.length) = G1 at hW1 hY1
  have g1 : ∀ c j, ¬ (c = 192 ∧ j = p) → G1 c j = G c j := fun c j a => by rw [← hG1, zu_ne a]
  have g2 : G1 192 p = nI (Sp A m B w F p) := by rw [← hG1, zu_same, hS]
  generalize zu J 192 p (nI l.length) = J1 at hW1 ⊢
  have hYJ := CY_w hY1 hW1
  refine ⟨v, ?_⟩
  by_cases g : isSt (A 1 p) ∨ isLg (A 1 p)
  · obtain ⟨t1, t2, t3⟩ := tg_n hB hj hz (njp_1 g)
    have hd : dst A m B w F p 0 ≤ 200000 := by
      have := (bG _ (Nat.le_of_lt t2)).1
      have := (bG p (by omega)).2
      unfold dst; split <;> omega
    have es : selfL A m B w F p = jl (sho (A 1 p)) (decide (isLg (A 1 p) ∨ F 0 p = 1)) ((dst A m B w F p 0 : Int) - Sp A m B w F p) (p + 1) (p + 1) := by unfold selfL; rw [if_pos g]
    have ho : (20 ≤ sho (A 1 p) ∧ sho (A 1 p) ≤ 32) ∧ (nI (A 1 p) = nI (sho (A 1 p)) ∨ nI (A 1 p) = nI (sho (A 1 p) + 64)) := by
      by_cases gl : isLg (A 1 p)
      · have e : sho (A 1 p) = A 1 p - 64 := by unfold sho isLg at *; split <;> omega
        rw [e]; unfold isLg at gl
        exact ⟨by omega, Or.inr (by congr 1; omega)⟩
      · have e : sho (A 1 p) = A 1 p := by unfold sho isLg at *; split <;> omega
        have gs := g.resolve_right gl
        rw [e]; unfold isSt at gs
        exact ⟨by omega, Or.inl rfl⟩
    have hf : G1 194 p = if decide (isLg (A 1 p) ∨ F 0 p = 1) then 1 else 0 := by
      rw [hY1.2.2.1 p hp hz g]
      by_cases gl : isLg (A 1 p)
      · rw [if_pos gl, if_pos (decide_eq_true (Or.inl gl))]
      · rw [if_neg gl]
        rcases f01 hF.1 0 p with z | z
        · rw [if_neg (by rw [decide_eq_true_iff]; rintro (q | q); · exact gl q
                         · omega), z]; rfl
        · rw [if_pos (decide_eq_true (Or.inr z)), z]; rfl
    have fin : ∀ y : Int32, (ok → y = nI (dst A m B w F p 0)) → w_X10_jump (nI (A 1 p)) (nI p) y J1 P (fun I4 P4 => j_X10_itself_209 K (nI p) (nI l.length) I4 P4) := fun y hy => by
      refine s_jp (h := p + 1) (t := dst A m B w F p 0) ho.1 ho.2 (by omega) hf (fun o => ⟨hy o, by omega⟩) hW1 (by omega) (fun J2 h2 => ?_)
      obtain ⟨x, r, e⟩ := jl_o (op := sho (A 1 p)) (h := p + 1) (lg := decide (isLg (A 1 p) ∨ F 0 p = 1)) (z := (dst A m B w F p 0 : Int) - l.length)
      rw [e 0] at h2
      refine s_or (by omega) h2 (fun J3 h3 => ?_)
      rw [← e (p + 1), hS, ← es] at h3
      refine k _ J3 h3 (fun c j a b => by rw [zu_ne b]; exact g1 c j a) (by rw [zu_nc (by omega)]; exact g2) (fun o _ => by rw [zu_same, hy o])
    refine s_mjpT g (zin (by decide) ?_)
    rw [hYJ.2.1.2.1]
    refine s_hm (s := 1) hYJ.2.1 hQ (by decide) hm (by omega) ?_
    have c1 := cnq_le (B := B) (m := m) (s := 1) (p := p) w
    by_cases e : cnq B m 1 p w = 0
    · refine zip (by rw [e]; decide) ?_
      unfold j_X10_itself_42
      refine zip rfl (s_mta (i := 0) hm hYJ.1 hB hp hz (njp_1 g) ?_)
      rw [t1, nI_clamp (by omega)]
      refine ⟨vp_in_nI (by omega) (by decide), fin _ (fun o => ?_)⟩
      rw [hW1.2.2 _ _ (by omega) (by omega) (by omega), g1 _ _ (by omega), r1 o _ t2 t3]
      unfold dst; rw [if_pos e]
    · refine zin (by first | omega | decide | (simp (maxSteps := 400000) (disch := omega) only [q_lit, q_neg, nI_ltI, nI_leI, nI_eq, nI_add, pk_mul, pk_sub, nI_clamp, vp_q, zu_same, zu_nc, zu_nj, ng_lt, ng_le, ng_gt, ng_ge, ng_eq, ng_qe, ng_ee, ng_add, not_false_eq_true, not_true_eq_false, ne_eq]; done) | (simp (maxSteps := 400000) (disch := omega) only [q_lit, q_neg, nI_ltI, nI_leI, nI_eq, nI_add, pk_mul, pk_sub, nI_clamp, vp_q, zu_same, zu_nc, zu_nj, ng_lt, ng_le, ng_gt, ng_ge, ng_eq, ng_qe, ng_ee, ng_add, not_false_eq_true, not_true_eq_false, ne_eq]; omega)) ?_
      unfold j_X10_itself_42
      have n1 := nsp_le (B := B) (m := m) (w := w) p
      refine zin (by decide) (s_pd hB hYJ.1 hYJ.2.1 hQ hm (by omega) ?_)
      rw [nI_clamp (by omega)]
      refine ⟨vp_in_nI (by omega) (by decide), fin _ (fun o => ?_)⟩
      rw [hW1.2.2 _ _ (by omega) (by omega) (by omega), g1 _ _ (by omega), r2 o (by omega)]
      unfold dst; rw [if_neg e]
  · refine s_mjpF b256 g (zip rfl ?_)
    have noj : ok → isSt (A 1 p) ∨ isLg (A 1 p) → G1 195 p = nI (dst A m B w F p 0) - nI (Sp A m B w F p) := fun _ q => absurd q g
    have fr : ∀ c j, ¬ (c = 192 ∧ j = p) → ¬ (c = 195 ∧ j = p) → G1 c j = G c j := fun c j a _ => g1 c j a
    by_cases e : A 1 p = 33
    · have es : selfL A m B w F p = (33, p + 1, p + 1) :: (A 1 (p + 1), p + 1, 0) :: cat (fun i => [(hi8 ((dst A m B w F p i : Int) - Sp A m B w F p), p + 1, 0), (lo8 ((dst A m B w F p i : Int) - Sp A m B w F p), p + 1, 0)]) (njp A p) := by unfold selfL; rw [if_neg g, if_pos e]
      have hnj : njp A p = A 1 (p + 1) + 1 := by unfold njp; rw [if_pos e]
      have h16 := c5 e
      have cz : cnq B m 1 p w = 0 := by
        by_cases z2 : cnq B m 1 p w = 0
        · exact z2
        · exact absurd (sd_ok hQ (p := p) (by omega)).2.2 g
      generalize hf : (fun i => [(hi8 ((dst A m B w F p i : Int) - Sp A m B w F p), p + 1, 0), (lo8 ((dst A m B w F p i : Int) - Sp A m B w F p), p + 1, 0)]) = f at es
      have lp : ∀ d i J, i + d = njp A p → RLw ok (l ++ ((33, p + 1, 0) :: (A 1 (p + 1), p + 1, 0) :: cat f i)) G1 J → l_X10_itself_117 K (d + 1) (nI m) (nI p) (nI l.length) (nI i) J P := by
        intro d
        induction d with
        | zero =>
          intro i J hi h1
          obtain rfl : i = njp A p := by omega
          rw [l_X10_itself_117]
          refine s_mtc hm (CY_w hY1 h1).1 hB hp hz (zip (by first | omega | decide | (simp (maxSteps := 400000) (disch := omega) only [q_lit, q_neg, nI_ltI, nI_leI, nI_eq, nI_add, pk_mul, pk_sub, nI_clamp, vp_q, zu_same, zu_nc, zu_nj, ng_lt, ng_le, ng_gt, ng_ge, ng_eq, ng_qe, ng_ee, ng_add, not_false_eq_true, not_true_eq_false, ne_eq]; done) | (simp (maxSteps := 400000) (disch := omega) only [q_lit, q_neg, nI_ltI, nI_leI, nI_eq, nI_add, pk_mul, pk_sub, nI_clamp, vp_q, zu_same, zu_nc, zu_nj, ng_lt, ng_le, ng_gt, ng_ge, ng_eq, ng_qe, ng_ee, ng_add, not_false_eq_true, not_true_eq_false, ne_eq]; omega)) (s_or (by omega) h1 (fun J3 h3 => k G1 J3 ?_ fr g2 noj)))
          rw [es]; exact h3
        | succ d ih =>
          intro i J hi h1
          have hYi := CY_w hY1 h1
          obtain ⟨t1, t2, t3⟩ := tg_n hB hj hz (i := i) (by omega)
          have hd : dst A m B w F p i ≤ 200000 := by
            have := (bG _ (Nat.le_of_lt t2)).1
            unfold dst; rw [if_pos cz]; omega
          have lf : (cat f i).length = 2 * i := by rw [← hf]; exact len_k (k := 2) (fun i => rfl) i
          rw [l_X10_itself_117, nI_1]
          refine s_mtc hm hYi.1 hB hp hz (zin (by first | omega | decide | (simp (maxSteps := 400000) (disch := omega) only [q_lit, q_neg, nI_ltI, nI_leI, nI_eq, nI_add, pk_mul, pk_sub, nI_clamp, vp_q, zu_same, zu_nc, zu_nj, ng_lt, ng_le, ng_gt, ng_ge, ng_eq, ng_qe, ng_ee, ng_add, not_false_eq_true, not_true_eq_false, ne_eq]; done) | (simp (maxSteps := 400000) (disch := omega) only [q_lit, q_neg, nI_ltI, nI_leI, nI_eq, nI_add, pk_mul, pk_sub, nI_clamp, vp_q, zu_same, zu_nc, zu_nj, ng_lt, ng_le, ng_gt, ng_ge, ng_eq, ng_qe, ng_ee, ng_add, not_false_eq_true, not_true_eq_false, ne_eq]; omega)) (s_mta hm hYi.1 hB hp hz (by omega) ?_))
          rw [t1, nI_clamp (by omega)]
          have eT : ok → (J 191 (tgn A p i) - nI l.length).toInt = (dst A m B w F p i : Int) - Sp A m B w F p := fun o => by
            rw [h1.2.2 _ _ (by omega) (by omega) (by omega), g1 _ _ (by omega), r1 o _ t2 t3, pk_sub_toInt (by have := (bG _ (Nat.le_of_lt t2)).1; omega) (by omega), hS]
            unfold dst; rw [if_pos cz]
          refine ⟨vp_in_nI (by omega) (by decide), s_mput2 (h := p + 1) h1 (by rw [List.length_append, List.length_cons, List.length_cons, lf]; omega) (fun o => by_hi (eT o)) (fun o => by_lo (eT o)) (fun J2 h2 => ih (i + 1) J2 (by omega) ?_)⟩
          rw [cat]
          rw [List.append_assoc, List.cons_append, List.cons_append] at h2
          rw [← hf] at h2 ⊢
          exact h2
      refine zip (by rw [e]; rfl) (s_mput (b := 33) (h := p + 1) hW1 (by omega) (fun _ => by decide) (fun J2 h2 => ?_))
      have ho : A 2 p = 4 + 2 * A 1 (p + 1) := by rw [c2]; unfold opz; rw [if_pos e]
      rw [e400, nI_1, nI_clamp (by omega), Nat.add_assoc, ((CY_w hY1 h2).1.2.2.2.2.1 (p + 1) (by omega)).1]
      refine ⟨vp_in_nI (by omega) (by decide), s_mput (b := A 1 (p + 1)) (h := p + 1) h2 (by rw [List.length_append]; show _ + 1 < _; omega) (fun _ => by_n (a256 _)) (fun J3 h3 => ⟨_, lp (njp A p) 0 J3 (by omega) ?_⟩)⟩
      rw [List.append_assoc] at h3; exact h3
    · refine zin (by first | omega | decide | (simp (maxSteps := 400000) (disch := omega) only [q_lit, q_neg, nI_ltI, nI_leI, nI_eq, nI_add, pk_mul, pk_sub, nI_clamp, vp_q, zu_same, zu_nc, zu_nj, ng_lt, ng_le, ng_gt, ng_ge, ng_eq, ng_qe, ng_ee, ng_add, not_false_eq_true, not_true_eq_false, ne_eq]; done) | (simp (maxSteps := 400000) (disch := omega) only [q_lit, q_neg, nI_ltI, nI_leI, nI_eq, nI_add, pk_mul, pk_sub, nI_clamp, vp_q, zu_same, zu_nc, zu_nj, ng_lt, ng_le, ng_gt, ng_ge, ng_eq, ng_qe, ng_ee, ng_add, not_false_eq_true, not_true_eq_false, ne_eq]; omega)) ?_
      have es : selfL A m B w F p = cat (fun i => [(A 1 (p + i), p + 1, if i = 0 then p + 1 else 0)]) (A 2 p) := by unfold selfL; rw [if_neg g, if_neg e]
      have lp : ∀ d i J, i + d = A 2 p → RLw ok (l ++ cat (fun i => [(A 1 (p + i), p + 1, if i = 0 then 0 else 0)]) i) G1 J → l_X10_itself_173 K (d + 1) (nI m) (nI p) (nI l.length) (nI i) J P := by
        intro d
        induction d with
        | zero =>
          intro i J hi h1
          obtain rfl : i = A 2 p := by omega
          have hYi := CY_w hY1 h1
          rw [l_X10_itself_173]
          refine s_msize (n := A 1 (p + 1)) hm (by omega) b256 c1 (hYi.1.2.2.2.2.1 p hp).1 (fun q => absurd q e) ?_
          rw [← c2]
          refine zip (by first | omega | decide | (simp (maxSteps := 400000) (disch := omega) only [q_lit, q_neg, nI_ltI, nI_leI, nI_eq, nI_add, pk_mul, pk_sub, nI_clamp, vp_q, zu_same, zu_nc, zu_nj, ng_lt, ng_le, ng_gt, ng_ge, ng_eq, ng_qe, ng_ee, ng_add, not_false_eq_true, not_true_eq_false, ne_eq]; done) | (simp (maxSteps := 400000) (disch := omega) only [q_lit, q_neg, nI_ltI, nI_leI, nI_eq, nI_add, pk_mul, pk_sub, nI_clamp, vp_q, zu_same, zu_nc, zu_nj, ng_lt, ng_le, ng_gt, ng_ge, ng_eq, ng_qe, ng_ee, ng_add, not_false_eq_true, not_true_eq_false, ne_eq]; omega)) ?_
          obtain ⟨n, hn⟩ : ∃ n, A 2 p = n + 1 := ⟨A 2 p - 1, by omega⟩
          obtain ⟨r, er⟩ := cat_1 (f := fun i => A 1 (p + i)) (h := p + 1) n
          rw [hn, er 0] at h1
          refine s_or (by omega) h1 (fun J3 h3 => k G1 J3 ?_ fr g2 noj)
          rw [← er (p + 1), ← hn, ← es] at h3
          exact h3
        | succ d ih =>
          intro i J hi h1
          have hYi := CY_w hY1 h1
          have lf : (cat (fun i => [(A 1 (p + i), p + 1, if i = 0 then 0 else 0)]) i).length = 1 * i := len_k (k := 1) (fun i => rfl) i
          rw [l_X10_itself_173]
          refine s_msize (n := A 1 (p + 1)) hm (by omega) b256 c1 (hYi.1.2.2.2.2.1 p hp).1 (fun q => absurd q e) ?_
          rw [← c2, e400, nI_add, nI_1, nI_clamp (by omega), Nat.add_assoc, (hYi.1.2.2.2.2.1 (p + i) (by omega)).1]
          refine zin (by first | omega | decide | (simp (maxSteps := 400000) (disch := omega) only [q_lit, q_neg, nI_ltI, nI_leI, nI_eq, nI_add, pk_mul, pk_sub, nI_clamp, vp_q, zu_same, zu_nc, zu_nj, ng_lt, ng_le, ng_gt, ng_ge, ng_eq, ng_qe, ng_ee, ng_add, not_false_eq_true, not_true_eq_false, ne_eq]; done) | (simp (maxSteps := 400000) (disch := omega) only [q_lit, q_neg, nI_ltI, nI_leI, nI_eq, nI_add, pk_mul, pk_sub, nI_clamp, vp_q, zu_same, zu_nc, zu_nj, ng_lt, ng_le, ng_gt, ng_ge, ng_eq, ng_qe, ng_ee, ng_add, not_false_eq_true, not_true_eq_false, ne_eq]; omega)) ⟨vp_in_nI (by omega) (by decide), s_mput (b := A 1 (p + i)) (h := p + 1) h1 (by rw [List.length_append, lf]; omega) (fun _ => by_n (a256 _)) (fun J2 h2 => ih (i + 1) J2 (by omega) ?_)⟩
          rw [cat]
          rw [List.append_assoc] at h2
          have : (if i = 0 then (0 : Nat) else 0) = 0 := by split <;> rfl
          rw [this]
          exact h2
      exact ⟨_, lp (A 2 p) 0 J1 (by omega) (by rw [cat, List.append_nil]; exact hW1)⟩
theorem s_grp {ok : Prop} {A B F : Nat → Nat → Nat} {m w p : Nat} {l : List WB3} {G J : zI} {P : zP} {K : zI → zP → Prop} (hm : m < 6) (hB : W0 A m) (hj : jok A p) (hF : FOK A m B w F) (hY : CY A m B w F G) (hQ : BQ A m B w) (hp : p < A 0 2) (hz : 0 < A 2 p) (hS : l.length = Gp A m B w F p) (hW : RLw ok l G J) (r1 : ok → ∀ t, t < A 0 2 → 0 < A 2 t → G 191 t = nI (Gp A m B w F t)) (r2 : ok → 0 < cnq B m 1 p w → G 193 (nsp m B w p) = nI (SPp A m B w F p)) (k : ∀ G' J', RLw ok (l ++ grpL A m B w F p) G' J' → (∀ c j, ¬ ((c = 191 ∨ c = 192 ∨ c = 195) ∧ j = p) → G' c j = G c j) → G' 191 p = nI (Gp A m B w F p) → G' 192 p = nI (Sp A m B w F p) → (ok → isSt (A 1 p) ∨ isLg (A 1 p) → G' 195 p = nI (dst A m B w F p 0) - nI (Sp A m B w F p)) → K J' P) : w_X10_group (nI m) (nI p) J P K := by
  have hl := hB.2.2.2.2.1
  have hw := hY.2.1.1
  have b256 := hB.2.2.2.2.2.2.1 p
  obtain ⟨bG, -⟩ := bnd (B := B) hB hw hF.1
  have bg := (bG p (by omega)).1
  have lP := len_P (B := B) (m := m) (p := p) w
  have lL := len_L (A := A) (B := B) (m := m) (p := p) w
  have lO := len_O (B := B) (m := m) (p := p) w
  have q01 : ∀ q, q < w → B 0 q < 2 ^ 31 ∧ B 1 q < 2 ^ 31 ∧ B 2 q < 2 ^ 31 := fun q hq => by obtain ⟨a, b, c, -⟩ := hQ q hq; omega
  unfold w_X10_group
  rw [e400, nI_clamp (by omega), nI_clamp (by omega), hW.1, hS, hW.2.2 _ _ (by omega) (by omega) (by omega), (hY.1.2.2.2.2.1 p hp).1]
  have hW1 : RLw ok l (zu G 191 p (nI (Gp A m B w F p))) (zu J 191 p (nI (Gp A m B w F p))) := RLw_u hW (by omega) (by omega) (by omega)
  have hY1 : CY A m B w F (zu G 191 p (nI (Gp A m B w F p))) := CY_c hY (fun c j a => zu_nc (by omega))
  have r1' : ok → ∀ t, t < A 0 2 → 0 < A 2 t → zu G 191 p (nI (Gp A m B w F p)) 191 t = nI (Gp A m B w F t) := fun o t ht hz' => by
    by_cases e : t = p
    · rw [e, zu_same]
    · rw [zu_nj e]; exact r1 o t ht hz'
  have r2' : ok → 0 < cnq B m 1 p w → zu G 191 p (nI (Gp A m B w F p)) 193 (nsp m B w p) = nI (SPp A m B w F p) := fun o c => by rw [zu_nc (by omega)]; exact r2 o c
  have g1 : ∀ c j, ¬ (c = 191 ∧ j = p) → zu G 191 p (nI (Gp A m B w F p)) c j = G c j := fun c j a => zu_ne a
  have g2 : zu G 191 p (nI (Gp A m B w F p)) 191 p = nI (Gp A m B w F p) := zu_same
  generalize zu G 191 p (nI (Gp A m B w F p)) = G1 at hW1 hY1 r1' r2' g1 g2
  generalize zu J 191 p (nI (Gp A m B w F p)) = J1 at hW1 ⊢
  refine ⟨vp_in_nI (by omega) (by decide), vp_in_nI (by omega) (by decide), ?_⟩
  have eg : grpL A m B w F p = cat (fP m B p) w ++ cat (fL A m B p) w ++ cat (fO m B p) w ++ selfL A m B w F p ++ cat (fB m B p) w := by unfold grpL; rw [if_neg (by omega)]
  -- behind
  have l4 : ∀ G' l' J, RLw ok l' G' J → l'.length ≤ 300000 → CY A m B w F G' → (∀ J', RLw ok (l' ++ cat (fB m B p) w) G' J' → K J' P) → ∃ n9, l_X10_group_190 K n9 (nI m) (nI p) 0 J P := by
    intro G' l' J hW' hn hY' kk
    have f3 : ∀ q, (fB m B p q).length ≤ 3 := fun q => by unfold fB; (repeat' split) <;> simp [e2, e3]
    have lp : ∀ d q J, q + d = w → RLw ok (l' ++ cat (fB m B p) q) G' J → l_X10_group_190 K (d + 1) (nI m) (nI p) (nI q) J P := by
      intro d
      induction d with
      | zero =>
        intro q J hq h1
        obtain rfl : q = w := by omega
        rw [l_X10_group_190]
        exact zip (by rw [(CY_w hY' h1).2.1.2.1]; first | omega | decide | (simp (maxSteps := 400000) (disch := omega) only [q_lit, q_neg, nI_ltI, nI_leI, nI_eq, nI_add, pk_mul, pk_sub, nI_clamp, vp_q, zu_same, zu_nc, zu_nj, ng_lt, ng_le, ng_gt, ng_ge, ng_eq, ng_qe, ng_ee, ng_add, not_false_eq_true, not_true_eq_false, ne_eq]; done) | (simp (maxSteps := 400000) (disch := omega) only [q_lit, q_neg, nI_ltI, nI_leI, nI_eq, nI_add, pk_mul, pk_sub, nI_clamp, vp_q, zu_same, zu_nc, zu_nj, ng_lt, ng_le, ng_gt, ng_ge, ng_eq, ng_qe, ng_ee, ng_add, not_false_eq_true, not_true_eq_false, ne_eq]; omega)) (kk J h1)
      | succ d ih =>
        intro q J hq h1
        obtain ⟨z0, z1, z2⟩ := q01 q (by omega)
        have hc := cat_3 f3 q
        have hn2 : (l' ++ cat (fB m B p) q).length + 10 ≤ 2 ^ 30 := by rw [List.length_append]; omega
        have st3 : ∀ J, RLw ok (l' ++ cat (fB m B p) (q + 1)) G' J → ¬ atq B m 1 p q → j_X10_group_248 (l_X10_group_190 K (d + 1)) K (nI m) (nI p) (nI q) J P := fun J h2 n1 => by
          unfold j_X10_group_248
          have hYJ := CY_w hY' h2
          rw [hYJ.2.1.2.1, nI_1]
          exact s_sd (s := 1) hYJ.2.1 (by omega) z0 z1 z2 (by decide) (by omega) (by omega) (fun z => absurd z n1) (fun _ => zip rfl (ih (q + 1) J (by omega) h2))
        have st2 : ∀ J, RLw ok (l' ++ cat (fB m B p) (q + 1)) G' J → ¬ atq B m 1 p q → ¬ atq B m 7 p q → j_X10_group_223 (l_X10_group_190 K (d + 1)) K (nI m) (nI p) (nI q) J P := fun J h2 n1 n7 => by
          unfold j_X10_group_223
          have hYJ := CY_w hY' h2
          rw [hYJ.2.1.2.1]
          exact s_sd (s := 7) hYJ.2.1 (by omega) z0 z1 z2 (by decide) (by omega) (by omega) (fun z => absurd z n7) (fun _ => zip rfl (st3 J h2 n1))
        have hYJ := CY_w hY' h1
        rw [l_X10_group_190, hYJ.2.1.2.1]
        refine zin (by first | omega | decide | (simp (maxSteps := 400000) (disch := omega) only [q_lit, q_neg, nI_ltI, nI_leI, nI_eq, nI_add, pk_mul, pk_sub, nI_clamp, vp_q, zu_same, zu_nc, zu_nj, ng_lt, ng_le, ng_gt, ng_ge, ng_eq, ng_qe, ng_ee, ng_add, not_false_eq_true, not_true_eq_false, ne_eq]; done) | (simp (maxSteps := 400000) (disch := omega) only [q_lit, q_neg, nI_ltI, nI_leI, nI_eq, nI_add, pk_mul, pk_sub, nI_clamp, vp_q, zu_same, zu_nc, zu_nj, ng_lt, ng_le, ng_gt, ng_ge, ng_eq, ng_qe, ng_ee, ng_add, not_false_eq_true, not_true_eq_false, ne_eq]; omega)) (s_sd (s := 4) hYJ.2.1 (by omega) z0 z1 z2 (by decide) (by omega) (by omega) (fun z => zin (by decide) ?_) (fun z => zip rfl ?_))
        · refine s_po (op := 54) (h := p + 1) h1 (by decide) (by omega) (by omega) (fun J2 h2 => st2 J2 ?_ (fun y => by have := z.1.symm.trans y.1; omega) (fun y => by have := z.1.symm.trans y.1; omega))
          rw [cat, fB, if_pos z, ← List.append_assoc]; exact h2
        · unfold j_X10_group_223
          rw [hYJ.2.1.2.1]
          refine s_sd (s := 7) hYJ.2.1 (by omega) z0 z1 z2 (by decide) (by omega) (by omega) (fun z7 => zin (by decide) ?_) (fun z7 => zip rfl ?_)
          · refine s_po (op := 57) (h := p + 1) h1 (by decide) (by omega) (by omega) (fun J2 h2 => st3 J2 ?_ (fun y => by have := z7.1.symm.trans y.1; omega))
            rw [cat, fB, if_neg z, if_pos z7, ← List.append_assoc]; exact h2
          · unfold j_X10_group_248
            rw [hYJ.2.1.2.1, nI_1]
            refine s_sd (s := 1) hYJ.2.1 (by omega) z0 z1 z2 (by decide) (by omega) (by omega) (fun z1 => zin (by decide) ?_) (fun z1 => zip rfl (ih (q + 1) J (by omega) ?_))
            · refine s_po (op := 49) (h := p + 1) h1 (by decide) (by omega) (by omega) (fun J2 h2 => s_mput (b := 0) (h := p + 1) h2 (by rw [List.length_append]; show _ + 2 < _; omega) (fun _ => by decide) (fun J3 h3 => ih (q + 1) J3 (by omega) ?_))
              rw [cat, fB, if_neg z, if_neg z7, if_pos z1]
              rw [List.append_assoc, List.append_assoc] at h3
              exact h3
            · rw [cat, fB, if_neg z, if_neg z7, if_neg z1, List.append_nil]; exact h1
    exact ⟨_, lp w 0 J (by omega) (by rw [cat, List.append_nil]; exact hW')⟩
  -- STORE, then itself
  have l3 : ∀ l' J, RLw ok l' G1 J → l'.length + 2 * cnq B m 4 p w = Sp A m B w F p → (∀ G' J', RLw ok (l' ++ cat (fO m B p) w ++ selfL A m B w F p ++ cat (fB m B p) w) G' J' → (∀ c j, ¬ (c = 192 ∧ j = p) → ¬ (c = 195 ∧ j = p) → G' c j = G1 c j) → G' 192 p = nI (Sp A m B w F p) → (ok → isSt (A 1 p) ∨ isLg (A 1 p) → G' 195 p = nI (dst A m B w F p 0) - nI (Sp A m B w F p)) → K J' P) → ∃ n9, l_X10_group_141 K n9 (nI m) (nI p) (nI (A 1 p)) 0 J P := by
    intro l' J hW' hn kk
    have al := ahn_le (A := A) (B := B) (m := m) (p := p) hw
    have bS : Sp A m B w F p ≤ 200192 := by unfold Sp; omega
    have lp : ∀ d q J, q + d = w → RLw ok (l' ++ cat (fO m B p) q) G1 J → l_X10_group_141 K (d + 1) (nI m) (nI p) (nI (A 1 p)) (nI q) J P := by
      intro d
      induction d with
      | zero =>
        intro q J hq h1
        obtain rfl : q = w := by omega
        rw [l_X10_group_141]
        have L : (l' ++ cat (fO m B p) q).length = Sp A m B q F p := by rw [List.length_append, lO]; omega
        refine zip (by rw [(CY_w hY1 h1).2.1.2.1]; first | omega | decide | (simp (maxSteps := 400000) (disch := omega) only [q_lit, q_neg, nI_ltI, nI_leI, nI_eq, nI_add, pk_mul, pk_sub, nI_clamp, vp_q, zu_same, zu_nc, zu_nj, ng_lt, ng_le, ng_gt, ng_ge, ng_eq, ng_qe, ng_ee, ng_add, not_false_eq_true, not_true_eq_false, ne_eq]; done) | (simp (maxSteps := 400000) (disch := omega) only [q_lit, q_neg, nI_ltI, nI_leI, nI_eq, nI_add, pk_mul, pk_sub, nI_clamp, vp_q, zu_same, zu_nc, zu_nj, ng_lt, ng_le, ng_gt, ng_ge, ng_eq, ng_qe, ng_ee, ng_add, not_false_eq_true, not_true_eq_false, ne_eq]; omega)) (s_it hm hB hj hF hY1 hQ hp hz L h1 r1' r2' (fun G' J' h2 f1 f2 f3 => l4 G' _ J' h2 ?_ (CY_c hY1 (fun c j a => f1 c j (by omega) (by omega))) (fun J3 h3 => kk G' J3 h3 f1 f2 f3)))
        rw [List.length_append, L, len_s hB hF hp hz]
        have := hF.1 0 p
        have := hB.2.2.2.2.2.2.2.2.2.2 p hp
        omega
      | succ d ih =>
        intro q J hq h1
        obtain ⟨z0, z1, z2⟩ := q01 q (by omega)
        have hc := cat_3 (f := fO m B p) (fun q => by unfold fO; split <;> simp [e2]) q
        have hYJ := CY_w hY1 h1
        rw [l_X10_group_141, hYJ.2.1.2.1, nI_1]
        refine zin (by first | omega | decide | (simp (maxSteps := 400000) (disch := omega) only [q_lit, q_neg, nI_ltI, nI_leI, nI_eq, nI_add, pk_mul, pk_sub, nI_clamp, vp_q, zu_same, zu_nc, zu_nj, ng_lt, ng_le, ng_gt, ng_ge, ng_eq, ng_qe, ng_ee, ng_add, not_false_eq_true, not_true_eq_false, ne_eq]; done) | (simp (maxSteps := 400000) (disch := omega) only [q_lit, q_neg, nI_ltI, nI_leI, nI_eq, nI_add, pk_mul, pk_sub, nI_clamp, vp_q, zu_same, zu_nc, zu_nj, ng_lt, ng_le, ng_gt, ng_ge, ng_eq, ng_qe, ng_ee, ng_add, not_false_eq_true, not_true_eq_false, ne_eq]; omega)) (s_sd (s := 4) hYJ.2.1 (by omega) z0 z1 z2 (by decide) (by omega) (by omega) (fun z => zin (by decide) ?_) (fun z => zip rfl (ih (q + 1) J (by omega) ?_)))
        · refine s_po (op := 53) (h := p + 1) h1 (by decide) (by omega) (by rw [List.length_append]; omega) (fun J2 h2 => ih (q + 1) J2 (by omega) ?_)
          rw [cat, fO, if_pos z, ← List.append_assoc]; exact h2
        · rw [cat, fO, if_neg z, List.append_nil]; exact h1
    exact ⟨_, lp w 0 J (by omega) (by rw [cat, List.append_nil]; exact hW')⟩
  -- LEAVE
  have l2 : ∀ J, RLw ok (l ++ cat (fP m B p) w) G1 J → ∃ n9, l_X10_group_93 K n9 (nI m) (nI p) (nI (A 1 p)) 0 J P := by
    intro J hW'
    have fin : ∀ J, RLw ok (l ++ cat (fP m B p) w ++ cat (fL A m B p) w) G1 J → ∃ n9, l_X10_group_141 K n9 (nI m) (nI p) (nI (A 1 p)) 0 J P := fun J h1 =>
      l3 _ J h1 (by rw [List.length_append, List.length_append, hS, lP, lL]; unfold Sp ahn; omega) (fun G' J' h2 f1 f2 f3 => k G' J' (by rw [eg]; simp only [List.append_assoc] at h2 ⊢; exact h2) (fun c j a => by rw [f1 c j (by omega) (by omega)]; exact g1 c j (by omega)) (by rw [f1 _ _ (by omega) (by omega)]; exact g2) f2 f3)
    by_cases e4 : A 1 p = 42
    · have lp : ∀ d q J, q + d = w → RLw ok (l ++ cat (fP m B p) w ++ cat (fL A m B p) q) G1 J → l_X10_group_93 K (d + 1) (nI m) (nI p) (nI (A 1 p)) (nI q) J P := by
        intro d
        induction d with
        | zero =>
          intro q J hq h1
          obtain rfl : q = w := by omega
          rw [l_X10_group_93]
          exact zip (by rw [(CY_w hY1 h1).2.1.2.1]; first | omega | decide | (simp (maxSteps := 400000) (disch := omega) only [q_lit, q_neg, nI_ltI, nI_leI, nI_eq, nI_add, pk_mul, pk_sub, nI_clamp, vp_q, zu_same, zu_nc, zu_nj, ng_lt, ng_le, ng_gt, ng_ge, ng_eq, ng_qe, ng_ee, ng_add, not_false_eq_true, not_true_eq_false, ne_eq]; done) | (simp (maxSteps := 400000) (disch := omega) only [q_lit, q_neg, nI_ltI, nI_leI, nI_eq, nI_add, pk_mul, pk_sub, nI_clamp, vp_q, zu_same, zu_nc, zu_nj, ng_lt, ng_le, ng_gt, ng_ge, ng_eq, ng_qe, ng_ee, ng_add, not_false_eq_true, not_true_eq_false, ne_eq]; omega)) (fin J h1)
        | succ d ih =>
          intro q J hq h1
          obtain ⟨z0, z1, z2⟩ := q01 q (by omega)
          have hc := cat_3 (f := fL A m B p) (fun q => by unfold fL; split <;> simp [e2]) q
          have hc2 := cnq_le (B := B) (m := m) (s := 0) (p := p) w
          have hc3 := cnq_le (B := B) (m := m) (s := 6) (p := p) w
          have hYJ := CY_w hY1 h1
          rw [l_X10_group_93, hYJ.2.1.2.1, nI_1]
          refine zin (by first | omega | decide | (simp (maxSteps := 400000) (disch := omega) only [q_lit, q_neg, nI_ltI, nI_leI, nI_eq, nI_add, pk_mul, pk_sub, nI_clamp, vp_q, zu_same, zu_nc, zu_nj, ng_lt, ng_le, ng_gt, ng_ge, ng_eq, ng_qe, ng_ee, ng_add, not_false_eq_true, not_true_eq_false, ne_eq]; done) | (simp (maxSteps := 400000) (disch := omega) only [q_lit, q_neg, nI_ltI, nI_leI, nI_eq, nI_add, pk_mul, pk_sub, nI_clamp, vp_q, zu_same, zu_nc, zu_nj, ng_lt, ng_le, ng_gt, ng_ge, ng_eq, ng_qe, ng_ee, ng_add, not_false_eq_true, not_true_eq_false, ne_eq]; omega)) (zip (by rw [e4]; rfl) (s_sd (s := 3) (p := 0) hYJ.2.1 (by omega) z0 z1 z2 (by decide) (by omega) (by omega) (fun z => zin (by decide) ?_) (fun z => zip rfl (ih (q + 1) J (by omega) ?_))))
          · refine s_po (op := 51) (h := p + 1) h1 (by decide) (by omega) (by rw [List.length_append, List.length_append, lP]; omega) (fun J2 h2 => ih (q + 1) J2 (by omega) ?_)
            rw [cat, fL, if_pos ⟨e4, z⟩, ← List.append_assoc]; exact h2
          · rw [cat, fL, if_neg (fun y => z y.2), List.append_nil]; exact h1
      exact ⟨_, lp w 0 J (by omega) (by rw [cat, List.append_nil]; exact hW')⟩
    · refine ⟨1, ?_⟩
      have h1 := fin J (by rw [fL_no e4, List.append_nil]; exact hW')
      have hYJ := CY_w hY1 hW'
      rw [l_X10_group_93]
      by_cases z : (J 155 17) ≤ 0
      · exact zip z h1
      · exact zin z (zin (by first | omega | decide | (simp (maxSteps := 400000) (disch := omega) only [q_lit, q_neg, nI_ltI, nI_leI, nI_eq, nI_add, pk_mul, pk_sub, nI_clamp, vp_q, zu_same, zu_nc, zu_nj, ng_lt, ng_le, ng_gt, ng_ge, ng_eq, ng_qe, ng_ee, ng_add, not_false_eq_true, not_true_eq_false, ne_eq]; done) | (simp (maxSteps := 400000) (disch := omega) only [q_lit, q_neg, nI_ltI, nI_leI, nI_eq, nI_add, pk_mul, pk_sub, nI_clamp, vp_q, zu_same, zu_nc, zu_nj, ng_lt, ng_le, ng_gt, ng_ge, ng_eq, ng_qe, ng_ee, ng_add, not_false_eq_true, not_true_eq_false, ne_eq]; omega)) h1)
  have lp : ∀ d q J, q + d = w → RLw ok (l ++ cat (fP m B p) q) G1 J → l_X10_group_26 K (d + 1) (nI m) (nI p) (nI (A 1 p)) (nI q) J P := by
    intro d
    induction d with
    | zero =>
      intro q J hq h1
      obtain rfl : q = w := by omega
      rw [l_X10_group_26]
      exact zip (by rw [(CY_w hY1 h1).2.1.2.1]; first | omega | decide | (simp (maxSteps := 400000) (disch := omega) only [q_lit, q_neg, nI_ltI, nI_leI, nI_eq, nI_add, pk_mul, pk_sub, nI_clamp, vp_q, zu_same, zu_nc, zu_nj, ng_lt, ng_le, ng_gt, ng_ge, ng_eq, ng_qe, ng_ee, ng_add, not_false_eq_true, not_true_eq_false, ne_eq]; done) | (simp (maxSteps := 400000) (disch := omega) only [q_lit, q_neg, nI_ltI, nI_leI, nI_eq, nI_add, pk_mul, pk_sub, nI_clamp, vp_q, zu_same, zu_nc, zu_nj, ng_lt, ng_le, ng_gt, ng_ge, ng_eq, ng_qe, ng_ee, ng_add, not_false_eq_true, not_true_eq_false, ne_eq]; omega)) (l2 J h1)
    | succ d ih =>
      intro q J hq h1
      obtain ⟨z0, z1, z2⟩ := q01 q (by omega)
      have hc := cat_3 (f := fP m B p) (fun q => by unfold fP; (repeat' split) <;> simp [e2]) q
      have hYJ := CY_w hY1 h1
      rw [l_X10_group_26, hYJ.2.1.2.1]
      refine zin (by first | omega | decide | (simp (maxSteps := 400000) (disch := omega) only [q_lit, q_neg, nI_ltI, nI_leI, nI_eq, nI_add, pk_mul, pk_sub, nI_clamp, vp_q, zu_same, zu_nc, zu_nj, ng_lt, ng_le, ng_gt, ng_ge, ng_eq, ng_qe, ng_ee, ng_add, not_false_eq_true, not_true_eq_false, ne_eq]; done) | (simp (maxSteps := 400000) (disch := omega) only [q_lit, q_neg, nI_ltI, nI_leI, nI_eq, nI_add, pk_mul, pk_sub, nI_clamp, vp_q, zu_same, zu_nc, zu_nj, ng_lt, ng_le, ng_gt, ng_ge, ng_eq, ng_qe, ng_ee, ng_add, not_false_eq_true, not_true_eq_false, ne_eq]; omega)) (s_sd (s := 0) hYJ.2.1 (by omega) z0 z1 z2 (by decide) (by omega) (by omega) (fun z => zin (by decide) ?_) (fun z => zip rfl ?_))
      · refine s_po (op := 48) (h := p + 1) h1 (by decide) (by omega) (by rw [List.length_append]; omega) (fun J2 h2 => ?_)
        have hY2 := CY_w hY1 h2
        unfold j_X10_group_59
        rw [hY2.2.1.2.1, nI_1]
        refine s_sd (s := 6) hY2.2.1 (by omega) z0 z1 z2 (by decide) (by omega) (by omega) (fun y => absurd (z.1.symm.trans y.1) (by decide)) (fun _ => zip rfl (ih (q + 1) J2 (by omega) ?_))
        rw [cat, fP, if_pos z, ← List.append_assoc]; exact h2
      · unfold j_X10_group_59
        rw [hYJ.2.1.2.1, nI_1]
        refine s_sd (s := 6) hYJ.2.1 (by omega) z0 z1 z2 (by decide) (by omega) (by omega) (fun y => zin (by decide) ?_) (fun y => zip rfl (ih (q + 1) J (by omega) ?_))
        · refine s_po (op := 56) (h := p + 1) h1 (by decide) (by omega) (by rw [List.length_append]; omega) (fun J2 h2 => ih (q + 1) J2 (by omega) ?_)
          rw [cat, fP, if_neg z, if_pos y, ← List.append_assoc]; exact h2
        · rw [cat, fP, if_neg z, if_neg y, List.append_nil]; exact h1
  exact ⟨_, lp w 0 J1 (by omega) (by rw [cat, List.append_nil]; exact hW1)⟩
