/-! PURE 28: the judge, whole -/
theorem l_hd {A : Nat → Nat → Nat} {m p : Nat} {ar : Nat → Nat} {s : List Nat} {l : Nat → Nat} {C : TS} {W : List Nat} {I0 : zI} {P : zP} {K : zI → zP → Prop} (hP : PSt P) (hm : m < 6) (hB : W0 A m) (hp : p < A 0 2) (h2 : 0 < A 2 p) (hj : jok A p) (hh : ∀ k, k < A 0 3 → hok A k) (hs : gs s) (hl : gl l) (har : ∀ n, n ≤ m → ar n ≤ 4 ∧ I0 (20 + 12 * n) 7 = nI (ar n)) (hT : ∀ T, Cons A ar T → SC A ar T p s l)
    (k : ∀ I', (∀ c j, ¬ (c = 4 ∧ 2 ≤ j ∧ j ≤ 5) → c ≠ 5 → c ≠ 6 → c ≠ 23 + 12 * m → c ≠ 24 + 12 * m → I' c j = I0 c j) → GI A m ar C W (fun D => SC A ar D p s l) I' → K I' P) :
    ∀ d h I, h + d = A 0 3 → I 4 3 = nI (enS s) → I 4 4 = nI (pqk l 12) → FrC m I0 I → GI A m ar C W (fun D => ∀ k, k < h → hin A k p → Cov D (A 3 (4 * k + 2)) [1] l) I → l_X1_goFrom_23 K (d + 1) (20 + 12 * m) (nI p) 19 (nI h) I P := by
  have b1 := hB.2.2.2.2.1
  have b6 := hB.2.2.2.2.2.1
  have b8 := hB.2.2.2.2.2.2.2.1
  intro d
  induction d with
  | zero =>
    intro h I hd h3 h4 hf hG
    obtain rfl : h = A 0 3 := by omega
    rw [l_X1_goFrom_23]
    have h10 := hG.1.2.2.2.1
    refine ⟨shM hm, zip (by rw [h10]; exact nI_le (Nat.le_refl _) (by omega)) ?_⟩
    refine s_behind hP hm hB hp h2 hj hs hl (fun n hn => ⟨(har n hn).1, by rw [hf _ _ (by omega) (by omega) (by omega) (by omega) (by omega)]; exact (har n hn).2⟩) hT h3 h4 hG (fun I' f g => k I' (fun c j q1 q2 q3 q4 q5 => ?_) g)
    rw [f c j q1 q2 q3 q4 q5, hf c j (by omega) q2 q3 q4 q5]
  | succ d ih =>
    intro h I hd h3 h4 hf hG
    rw [l_X1_goFrom_23]
    have h10 := hG.1.2.2.2.1
    have hhd := hG.1.2.2.2.2.2
    have q0 : I (25 + 12 * m) (4 * h + 0) = nI (A 3 (4 * h)) := hhd (4 * h + 0) (by omega)
    have q1 := hhd (4 * h + 1) (by omega)
    have q2 := hhd (4 * h + 2) (by omega)
    have v0 := b8 (4 * h)
    have v1 := b8 (4 * h + 1)
    obtain ⟨-, ⟨t, ht, et, ht2⟩, -, -⟩ := hh h (by omega)
    refine ⟨shM hm, zin (by rw [h10]; exact nI_ge (by omega) (by omega)) ⟨_, pM5 hP hm, s_hpart (w := 0) (shM5 hm) (zzM5 hm) (by decide) (by omega) ?_⟩⟩
    rw [q0, nI_1]
    have skip : ¬ hin A h p → l_X1_goFrom_23 K (d + 1) (20 + 12 * m) (nI p) 19 (nI (h + 1)) I P := fun hno => by
      refine ih (h + 1) I (by omega) h3 h4 hf ⟨hG.1, ?_⟩
      rcases hG.2 with ⟨y1, D, V, y2, y3, y4, y5, y6, y7⟩ | z
      · refine Or.inl ⟨y1, D, V, y2, y3, y4, y5, y6, fun k hk hi => ?_⟩
        by_cases e : k = h
        · subst e; exact absurd hi hno
        · exact y7 k (by omega) hi
      · exact Or.inr z
    by_cases g0 : p < A 3 (4 * h)
    · exact zip (nI_lt g0 (by omega)) (skip (fun q => absurd q.1 (by omega)))
    refine zin (nI_nlt (by omega) (by omega)) ⟨_, pM5 hP hm, s_hpart (w := 1) (shM5 hm) (zzM5 hm) (by decide) (by omega) ?_⟩
    rw [q1]
    by_cases g1 : A 3 (4 * h + 1) ≤ p
    · exact zip (nI_le g1 (by omega)) (skip (fun q => absurd q.2 (by omega)))
    refine zin (nI_ge (by omega) (by omega)) ⟨_, pM5 hP hm, s_hpart (w := 2) (shM5 hm) (zzM5 hm) (by decide) (by omega) ?_⟩
    have hin1 : hin A h p := ⟨by omega, by omega⟩
    have b82 := b8 (4 * h + 2)
    have et2 : A 3 (4 * h + 2) = t := (nI_eq (by omega) (by omega)).mp et
    have e1 : (1048577 : Int32) = nI (enS [1]) := by decide
    rw [q2, et, e1, h4]
    refine GI_come hP hm hB hG ht ht2 ⟨by decide, fun x hx => by simp at hx; exact Or.inl hx⟩ hl (fun T hc => ?_) (fun D E hb z k hk hi => Cov_blw hb (z k hk hi)) (fun I' f g => ?_)
    · have := (hT T hc).1 h (by omega) hin1
      rw [et2] at this
      exact this
    · refine ih (h + 1) I' (by omega) (by rw [f _ _ (by omega) (by omega) (by omega) (by omega) (by omega)]; exact h3) (by rw [f _ _ (by omega) (by omega) (by omega) (by omega) (by omega)]; exact h4) (FrC_t hf f) ⟨g.1, ?_⟩
      rcases g.2 with ⟨y1, D, V, y2, y3, y4, y5, y6, y7, y8⟩ | z
      · refine Or.inl ⟨y1, D, V, y2, y3, y4, y5, y6, fun k hk hi => ?_⟩
        by_cases e : k = h
        · subst e; rw [et2]; exact y8
        · exact y7 k (by omega) hi
      · exact Or.inr z
def FrA (m : Nat) (I I' : zI) : Prop := ∀ c j, ¬ (c = 4 ∧ 2 ≤ j ∧ j ≤ 5) → c ≠ 5 → c ≠ 6 → c ≠ 23 + 12 * m → c ≠ 24 + 12 * m → I' c j = I c j
theorem FrA_t {m : Nat} {I J L : zI} (h : FrA m I J) (g : FrA m J L) : FrA m I L := fun c j q1 q2 q3 q4 q5 => by rw [g c j q1 q2 q3 q4 q5, h c j q1 q2 q3 q4 q5]
/-- what holds between two visits -/
def VI (A : Nat → Nat → Nat) (m : Nat) (ar : Nat → Nat) (v : Nat) (I : zI) : Prop :=
  LM0 A m I ∧ ((I 4 5 = 0 ∧ ∃ C W, JS A m C W I ∧ (∀ T, Cons A ar T → abv C T) ∧ Cov C 0 [] (l0 A) ∧ (∀ x s l, C x = some (s, l) → x ∉ W → SC A ar C x s l) ∧ mu C (A 0 2) + W.length + v ≤ 5200) ∨ (I 4 5 = 1 ∧ NoT A ar))
theorem opn12 {A : Nat → Nat → Nat} {m p : Nat} (hB : W0 A m) (hp : p < A 0 2) (h2 : 0 < A 2 p) : sho (A 1 p) = 3 ∨ sho (A 1 p) = 4 ∨ sho (A 1 p) = 5 → A 1 (p + 1) < 12 := by
  intro h
  obtain ⟨-, -, b12, -, b1, -, bb, -, -, b4, -⟩ := hB
  obtain ⟨c1, c2, c3, c4, c5, c6, c7, c8⟩ := b4 p hp h2
  have e : A 1 p = sho (A 1 p) := by
    unfold sho at h ⊢
    by_cases hh : 84 ≤ A 1 p ∧ A 1 p ≤ 96
    · rw [if_pos hh] at h; omega
    · rw [if_neg hh]
  have e33 : A 1 p ≠ 33 := by omega
  have : opz (A 1 p) (A 1 (p + 1)) = fxz (A 1 p) := by unfold opz; rw [if_neg e33]
  rw [this] at c2
  have f2 : 2 ≤ fxz (A 1 p) := by
    unfold fxz
    (repeat' split) <;> omega
  have := (c6 (by omega) e33).1 (by omega)
  omega
theorem s_goFrom {A : Nat → Nat → Nat} {m p : Nat} {ar : Nat → Nat} {s : List Nat} {l : Nat → Nat} {C : TS} {W : List Nat} {I : zI} {P : zP} {K : zI → zP → Prop} (hP : PSt P) (hm : m < 6) (hB : W0 A m) (hj : ∀ p, p < A 0 2 → jok A p) (hh : ∀ k, k < A 0 3 → hok A k) (har : ∀ n, n ≤ m → ar n ≤ 4 ∧ I (20 + 12 * n) 7 = nI (ar n)) (hJ : JS A m C W I) (h5 : I 4 5 = 0) (ha : ∀ T, Cons A ar T → abv C T) (hC : C p = some (s, l))
    (k : ∀ I', FrA m I I' → GI A m ar C W (fun D => SC A ar D p s l) I' → K I' P) : w_X1_goFrom (20 + 12 * m) (nI p) 19 I P K := by
  obtain ⟨hp, h2, gs1, gl1⟩ := hJ.2.1 p s l hC
  have b1 := hB.2.2.2.2.1
  obtain ⟨-, d⟩ := hJ.2.2.1 p hp h2
  obtain ⟨d3, d4⟩ := d s l hC
  unfold w_X1_goFrom
  refine ⟨shM hm, _, pM3 hP hm, shM3 hm, by rw [zzM3 hm]; exact vp_in_nI (by omega) (by decide), _, pM4 hP hm, shM4 hm, by rw [zzM4 hm]; exact vp_in_nI (by omega) (by decide), A 0 3 + 1, ?_⟩
  rw [nI_clamp (by omega), zu_nc (by omega), d3, d4]
  have fj : FrJ I (zu (zu I 4 3 (nI (enS s))) 4 4 (nI (pqk l 12))) := FrJ_t (FrJ_u (by decide)) (FrJ_u (by decide))
  have z5 : zu (zu I 4 3 (nI (enS s))) 4 4 (nI (pqk l 12)) 4 5 = I 4 5 := by rw [zu_nj (by decide), zu_nj (by decide)]
  have hG : GI A m ar C W (fun D => ∀ k, k < 0 → hin A k p → Cov D (A 3 (4 * k + 2)) [1] l) I := ⟨hJ.1, Or.inl ⟨h5, C, W, hJ, blw_r C, ha, fun x hx => ⟨hx, rfl⟩, Nat.le_refl _, fun k hk => absurd hk (by omega)⟩⟩
  refine l_hd (I0 := zu (zu I 4 3 (nI (enS s))) 4 4 (nI (pqk l 12))) hP hm hB hp h2 (hj p hp) hh gs1 gl1 (fun n hn => ⟨(har n hn).1, by rw [fj _ _ (by omega)]; exact (har n hn).2⟩) (fun T hc => ?_) (fun I' f g => k I' (fun c j q1 q2 q3 q4 q5 => ?_) g) (A 0 3) 0 _ (by omega) (by rw [zu_nj (by decide), zu_same]) zu_same (FrC_r m _) (GI_J hm hG fj z5)
  · obtain ⟨l', e1, e2⟩ := ha T hc p s l hC
    exact SC_abv (opn12 hB hp h2) e2 (hc.2.2 p s l' e1)
  · rw [f c j q1 q2 q3 q4 q5, fj c j (by omega)]
theorem l_visit {A : Nat → Nat → Nat} {m : Nat} {ar : Nat → Nat} {I0 : zI} {P : zP} {K : Int32 → zI → zP → Prop} (hP : PSt P) (hm : m < 6) (hB : W0 A m) (hj : ∀ p, p < A 0 2 → jok A p) (hh : ∀ k, k < A 0 3 → hok A k) (har : ∀ n, n ≤ m → ar n ≤ 4 ∧ I0 (20 + 12 * n) 7 = nI (ar n))
    (k1 : ∀ C I', FrA m I0 I' → LM0 A m I' → LC A m C I' → Cons A ar C → (∀ T, Cons A ar T → abv C T) → K 1 I' P) (k2 : ∀ I', FrA m I0 I' → NoT A ar → K 0 I' P) :
    ∀ d v I, v + d = 5200 → FrA m I0 I → VI A m ar v I → l_X1_accepts_70 K (d + 1) (20 + 12 * m) 19 (nI v) I P := by
  have done0 : ∀ I, FrA m I0 I → I 4 5 = 1 → NoT A ar → j_X1_accepts_134 K I P := fun I f h5 hn => by
    unfold j_X1_accepts_134
    exact zin (by rw [h5]; decide) (k2 I f hn)
  have done1 : ∀ I C, FrA m I0 I → I 4 5 = 0 → JS A m C [] I → Cov C 0 [] (l0 A) → (∀ x s l, C x = some (s, l) → SC A ar C x s l) → (∀ T, Cons A ar T → abv C T) → j_X1_accepts_134 K I P := fun I C f h5 hJ hc hs hab => by
    unfold j_X1_accepts_134
    exact zip h5 (k1 C I f hJ.1 hJ.2.2.1 ⟨hJ.2.1, hc, hs⟩ hab)
  intro d
  induction d with
  | zero =>
    intro v I hv hf hV
    obtain rfl : v = 5200 := by omega
    rw [l_X1_accepts_70]
    refine zip (nI_le (a := 5200) (Nat.le_refl _) (by decide)) ?_
    rcases hV.2 with ⟨z5, C, W, hJ, g1, g2, g3, g4⟩ | ⟨z5, hn⟩
    · have : W = [] := List.length_eq_zero_iff.mp (by omega)
      subst this
      exact done1 I C hf z5 hJ g2 (fun x s l e => g3 x s l e (by simp)) g1
    · exact done0 I hf z5 hn
  | succ d ih =>
    intro v I hv hf hV
    rw [l_X1_accepts_70]
    refine zin (nI_ge (b := 5200) (by omega) (by decide)) ?_
    rcases hV.2 with ⟨z5, C, W, hJ, g1, g2, g3, g4⟩ | ⟨z5, hn⟩
    · obtain ⟨w1, w2, w3⟩ := hJ.2.2.2.1
      cases W with
      | nil =>
        refine zip (by rw [w1]; decide) (done1 I C hf z5 hJ g2 (fun x s l e => g3 x s l e (by simp)) g1)
      | cons q V =>
        have hWl : V.length < 400 := by
          have hp := pigeon 400 (q :: V) hJ.2.2.2.2.2 (fun x hx => by
            cases e : C x with
            | none => exact absurd e (hJ.2.2.2.2.1 x hx)
            | some v => have := (hJ.2.1 x v.1 v.2 e).1; have := hB.2.2.2.2.1; omega)
          rw [List.length_cons] at hp
          omega
        have hCq : C q ≠ none := hJ.2.2.2.2.1 q List.mem_cons_self
        have hq : ∃ s l, C q = some (s, l) := by
          cases e : C q with
          | none => exact absurd e hCq
          | some v => exact ⟨v.1, v.2, rfl⟩
        obtain ⟨s, l, hq⟩ := hq
        have hq4 : q < 400 := by have := (hJ.2.1 q s l hq).1; have := hB.2.2.2.2.1; omega
        have w5 := w2 V.length (by simp)
        have e0 : bot (q :: V) V.length = q := by rw [bot, if_pos rfl]
        rw [e0] at w5
        rw [w1, List.length_cons, nI_pred, nI_clamp (by omega), zu_nc (by decide), w5, nI_clamp (by omega), nar0]
        refine zin (nI_nle (by omega) (by omega)) (zip z5 ⟨vp_in_nI hWl (by decide), vp_in_nI hq4 (by decide), ?_⟩)
        have hnd := List.nodup_cons.mp hJ.2.2.2.2.2
        have hfr : ∀ c j, ¬ (c = 4 ∧ j = 2) → c ≠ 6 → zu (zu I 4 2 (nI V.length)) 6 q 0 c j = I c j := fun c j q1 q2 => by rw [zu_nc q2, zu_ne q1]
        have hL1 : LM0 A m (zu (zu I 4 2 (nI V.length)) 6 q 0) := by
          obtain ⟨y1, y2, y3, y4, y5, y6⟩ := hJ.1
          exact ⟨by rw [hfr _ _ (by omega) (by omega)]; exact y1, by rw [hfr _ _ (by omega) (by omega)]; exact y2, by rw [hfr _ _ (by omega) (by omega)]; exact y3, by rw [hfr _ _ (by omega) (by omega)]; exact y4, fun p hp => ⟨by rw [hfr _ _ (by omega) (by omega)]; exact (y5 p hp).1, by rw [hfr _ _ (by omega) (by omega)]; exact (y5 p hp).2⟩, fun k hk => by rw [hfr _ _ (by omega) (by omega)]; exact y6 k hk⟩
        have hJ1 : JS A m C V (zu (zu I 4 2 (nI V.length)) 6 q 0) := by
          refine ⟨hL1, hJ.2.1, fun p hp hp2 => ?_, ⟨?_, fun i hi => ?_, fun p hp => ?_⟩, fun x hx => hJ.2.2.2.2.1 x (List.mem_cons_of_mem _ hx), hnd.2⟩
          · rw [hfr _ _ (by omega) (by omega), hfr _ _ (by omega) (by omega)]; exact hJ.2.2.1 p hp hp2
          · rw [zu_nc (by decide), zu_same]
          · rw [hfr _ _ (by omega) (by omega), w2 i (by simp; omega), bot, if_neg (by omega)]
          · by_cases e : p = q
            · rw [e, zu_same, if_neg hnd.1]
            · rw [zu_nj e, zu_nc (by decide), w3 p hp]
              by_cases e2 : p ∈ V
              · rw [if_pos e2, if_pos (List.mem_cons_of_mem _ e2)]
              · rw [if_neg e2, if_neg (fun z => (List.mem_cons.mp z).elim e e2)]
        have hf1 : FrA m I0 (zu (zu I 4 2 (nI V.length)) 6 q 0) := FrA_t hf (fun c j q1 q2 q3 q4 q5 => hfr c j (by omega) q3)
        refine s_goFrom hP hm hB hj hh (fun n hn => ⟨(har n hn).1, by rw [hf1 _ _ (by omega) (by omega) (by omega) (by omega) (by omega)]; exact (har n hn).2⟩) hJ1 (by rw [hfr _ _ (by omega) (by omega)]; exact z5) g1 hq (fun I' f g => ?_)
        rw [nI_1]
        refine ih (v + 1) I' (by omega) (FrA_t hf1 f) ⟨g.1, ?_⟩
        rcases g.2 with ⟨y5, D, U, yJ, y1, y2, y3, y4, y6⟩ | z
        · refine Or.inl ⟨y5, D, U, yJ, y2, Cov_blw y1 g2, fun x s1 l1 e hx => ?_, ?_⟩
          · obtain ⟨x1, x2⟩ := y3 x hx
            rw [x2] at e
            by_cases exq : x = q
            · subst exq
              rw [hq] at e; cases e
              exact y6
            · exact SC_blw y1 (g3 x s1 l1 e (fun z => (List.mem_cons.mp z).elim exq x1))
          · rw [List.length_cons] at g4; omega
        · exact Or.inr z
    · by_cases hw : I 4 2 ≤ 0
      · exact zip hw (done0 I hf z5 hn)
      · exact zin hw (zin (by rw [z5]; decide) (done0 I hf z5 hn))
theorem l_wz {A : Nat → Nat → Nat} {m : Nat} {I0 : zI} {P : zP} {K : Int32 → zI → zP → Prop} (k : SHy[20 + 12 * m]? = some (3, 11) ∧ (w_X1_comeTo (20 + 12 * m) 0 0 (5592405 &&& (((1 : Int32) <<< (((2 * ((zu (zu (flI I0 6 400 0) 4 2 0) 4 5 0) (20 + 12 * m) 7)) : Int32) &&& 31)) - 1)) (zu (zu (flI I0 6 400 0) 4 2 0) 4 5 0) P (fun (I3 : zI) (P3 : zP) => (∃ n9, l_X1_accepts_70 K n9 (20 + 12 * m) 19 0 I3 P3)))) : ∀ d i, i + d = 400 → l_X1_accepts_18 K (d + 1) (20 + 12 * m) 19 (nI i) (flI I0 6 i 0) P := by
  intro d
  induction d with
  | zero =>
    intro i hi
    obtain rfl : i = 400 := by omega
    rw [l_X1_accepts_18]
    exact zip (nI_le (a := 400) (by omega) (by omega)) k
  | succ d ih =>
    intro i hi
    rw [l_X1_accepts_18, nI_clamp (by omega), nar0, nI_1, ← flI_s]
    exact zin (nI_ge (b := 400) (by omega) (by decide)) ⟨vp_in_nI (by omega) (by decide), ih (i + 1) (by omega)⟩
theorem l0_pk {A : Nat → Nat → Nat} : pqk (fun k => if k < A 0 0 then 1 else 0) 12 = pqk (l0 A) 12 := rfl
theorem gl_l0 (A : Nat → Nat → Nat) : gl (l0 A) := fun k => by unfold l0; split <;> decide
theorem mu_none : ∀ n, mu (fun _ => none) n = 13 * n
  | 0 => rfl
  | n + 1 => by rw [mu, mu_none n]; show 13 * n + 13 = _; omega
theorem s_accepts {A : Nat → Nat → Nat} {m : Nat} {ar : Nat → Nat} {I : zI} {P : zP} {K : Int32 → zI → zP → Prop} (hP : PSt P) (hm : m < 6) (hL : LM0 A m I) (hB : W0 A m) (hj : ∀ p, p < A 0 2 → jok A p) (hh : ∀ k, k < A 0 3 → hok A k) (har : ∀ n, n ≤ m → ar n ≤ 4 ∧ I (20 + 12 * n) 7 = nI (ar n))
    (k1 : ∀ C I', FrA m I I' → LM0 A m I' → LC A m C I' → Cons A ar C → (∀ T, Cons A ar T → abv C T) → K 1 I' P) (k2 : ∀ I', FrA m I I' → NoT A ar → K 0 I' P) : w_X1_accepts (20 + 12 * m) 19 I P K := by
  unfold w_X1_accepts
  have b0 := hB.1
  have b1 := hB.2.2.2.2.1
  have b14 := hB.2.2.2.1
  refine ⟨shM hm, _, pM3 hP hm, s_fill (shM3 hm) (zzM3 hm) (by decide) ⟨_, pM4 hP hm, s_fill (shM4 hm) (zzM4 hm) (by decide) ⟨401, ?_⟩⟩⟩
  have fr : ∀ c j, c ≠ 23 + 12 * m → c ≠ 24 + 12 * m → flI (flI I (23 + 12 * m) 400 (-1)) (24 + 12 * m) 400 0 c j = I c j := fun c j q1 q2 => by rw [flI_out q2, flI_out q1]
  have st : ∀ p, p < 400 → flI (flI I (23 + 12 * m) 400 (-1)) (24 + 12 * m) 400 0 (23 + 12 * m) p = -1 := fun p hp => by rw [flI_out (by omega), flI_in hp]
  generalize flI (flI I (23 + 12 * m) 400 (-1)) (24 + 12 * m) 400 0 = J at fr st ⊢
  have key := l_wz (A := A) (m := m) (I0 := J) (P := P) (K := K) ?_ 400 0 (by omega)
  · rw [flI_0] at key
    exact key
  have fr2 : ∀ c j, ¬ (c = 4 ∧ (j = 2 ∨ j = 5)) → c ≠ 6 → zu (zu (flI J 6 400 0) 4 2 0) 4 5 0 c j = J c j := fun c j q1 q2 => by rw [zu_ne (by omega), zu_ne (by omega), flI_out q2]
  have g2 : zu (zu (flI J 6 400 0) 4 2 0) 4 5 0 4 2 = 0 := by rw [zu_nj (by decide), zu_same]
  have g5 : zu (zu (flI J 6 400 0) 4 2 0) 4 5 0 4 5 = 0 := zu_same
  have g6 : ∀ p, p < 400 → zu (zu (flI J 6 400 0) 4 2 0) 4 5 0 6 p = 0 := fun p hp => by rw [zu_nc (by decide), zu_nc (by decide), flI_in hp]
  generalize zu (zu (flI J 6 400 0) 4 2 0) 4 5 0 = J2 at fr2 g2 g5 g6 ⊢
  have fA : FrA m I J2 := fun c j q1 q2 q3 q4 q5 => by rw [fr2 c j (by omega) q3, fr c j q4 q5]
  have hL2 : LM0 A m J2 := by
    obtain ⟨y1, y2, y3, y4, y5, y6⟩ := hL
    exact ⟨by rw [fA _ _ (by omega) (by omega) (by omega) (by omega) (by omega)]; exact y1, by rw [fA _ _ (by omega) (by omega) (by omega) (by omega) (by omega)]; exact y2, by rw [fA _ _ (by omega) (by omega) (by omega) (by omega) (by omega)]; exact y3, by rw [fA _ _ (by omega) (by omega) (by omega) (by omega) (by omega)]; exact y4, fun p hp => ⟨by rw [fA _ _ (by omega) (by omega) (by omega) (by omega) (by omega)]; exact (y5 p hp).1, by rw [fA _ _ (by omega) (by omega) (by omega) (by omega) (by omega)]; exact (y5 p hp).2⟩, fun k hk => by rw [fA _ _ (by omega) (by omega) (by omega) (by omega) (by omega)]; exact y6 k hk⟩
  have hJ : JS A m (fun _ => none) [] J2 := by
    refine ⟨hL2, fun p s l e => (by cases e), fun p hp hp2 => ⟨fun _ => ?_, fun s l e => (by cases e)⟩, ⟨g2, fun i hi => absurd hi (by simp), fun p hp => by rw [g6 p hp]; simp⟩, fun x hx => absurd hx (by simp), List.nodup_nil⟩
    rw [fr2 _ _ (by omega) (by omega)]; exact st p (by omega)
  refine ⟨shM hm, ?_⟩
  rw [hL2.1, l0_bits (A 0 0) b0, l0_pk]
  refine s_come (q := 0) (s := []) hP hm hB hJ (by omega) hB.2.2.2.2.2.2.2.2.1 ⟨by decide, fun x hx => by cases hx⟩ (gl_l0 A) (fun C W I' z1 z2 z3 z4 z5 z6 z7 z8 => ?_) (fun I' z1 z2 z3 => ?_)
  · have fA2 : FrA m I I' := FrA_t fA (fun c j q1 q2 q3 q4 q5 => z2 c j (by omega) q2 q3 q4 q5)
    refine ⟨5201, l_visit hP hm hB hj hh har k1 k2 5200 0 I' (by omega) fA2 ⟨z1.1, Or.inl ⟨by rw [z3]; exact g5, C, W, z1, fun T hc => z6 T (fun p s l e => (by cases e)) hc.2.1, z4, fun x s l e hx => ?_, ?_⟩⟩⟩
    · have := (z7 x hx).2
      rw [this] at e; cases e
    · rw [mu_none] at z8
      simp only [List.length_nil] at z8
      omega
  · have hno : NoT A ar := fun ⟨T, hc⟩ => z1 T (fun p s l e => (by cases e)) hc.2.1
    have fA2 : FrA m I I' := FrA_t fA (fun c j q1 q2 q3 q4 q5 => z2 c j (by omega) q2 q3 q4 q5)
    exact ⟨5201, l_visit hP hm hB hj hh har k1 k2 5200 0 I' (by omega) fA2 ⟨LM0_C hm hL2 z2, Or.inr ⟨z3, hno⟩⟩⟩
