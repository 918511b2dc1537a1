/-! PURE 26: the judge: what comes to a place -/
theorem pigeon : ∀ (n : Nat) (L : List Nat), L.Nodup → (∀ x, x ∈ L → x < n) → L.length ≤ n
  | 0, L, _, h => by
    cases L with
    | nil => exact Nat.le_refl _
    | cons x r => exact absurd (h x List.mem_cons_self) (by omega)
  | n + 1, L, hd, h => by
    by_cases hm : n ∈ L
    · have h1 := pigeon n (L.erase n) (hd.erase n) (fun x hx => by
        have h2 := (hd.mem_erase_iff).mp hx
        have := h x h2.2
        omega)
      rw [List.length_erase_of_mem hm] at h1
      omega
    · have := pigeon n L hd (fun x hx => by
        have h1 := h x hx
        by_cases e : x = n
        · subst e; exact absurd hx hm
        · omega)
      omega
def FrC (m : Nat) (I I' : zI) : Prop := ∀ c j, ¬ (c = 4 ∧ (j = 2 ∨ j = 5)) → c ≠ 5 → c ≠ 6 → c ≠ 23 + 12 * m → c ≠ 24 + 12 * m → I' c j = I c j
theorem FrC_r (m : Nat) (I : zI) : FrC m I I := fun _ _ _ _ _ _ _ => rfl
theorem FrC_t {m : Nat} {I J L : zI} (h : FrC m I J) (g : FrC m J L) : FrC m I L := fun c j q1 q2 q3 q4 q5 => by rw [g c j q1 q2 q3 q4 q5, h c j q1 q2 q3 q4 q5]
theorem FrC_u {m c j : Nat} {I : zI} {x : Int32} (h : (c = 4 ∧ (j = 2 ∨ j = 5)) ∨ c = 5 ∨ c = 6 ∨ c = 23 + 12 * m ∨ c = 24 + 12 * m) : FrC m I (zu I c j x) := fun a i q1 q2 q3 q4 q5 => zu_ne (by omega)
theorem LM0_C {A : Nat → Nat → Nat} {m : Nat} {I I' : zI} (hm : m < 6) (h : LM0 A m I) (f : FrC m I I') : LM0 A m I' := by
  obtain ⟨h1, h2, h3, h4, h5, h6⟩ := h
  refine ⟨?_, ?_, ?_, ?_, fun p hp => ⟨?_, ?_⟩, fun k hk => ?_⟩
  · rw [f _ _ (by omega) (by omega) (by omega) (by omega) (by omega)]; exact h1
  · rw [f _ _ (by omega) (by omega) (by omega) (by omega) (by omega)]; exact h2
  · rw [f _ _ (by omega) (by omega) (by omega) (by omega) (by omega)]; exact h3
  · rw [f _ _ (by omega) (by omega) (by omega) (by omega) (by omega)]; exact h4
  · rw [f _ _ (by omega) (by omega) (by omega) (by omega) (by omega)]; exact (h5 p hp).1
  · rw [f _ _ (by omega) (by omega) (by omega) (by omega) (by omega)]; exact (h5 p hp).2
  · rw [f _ _ (by omega) (by omega) (by omega) (by omega) (by omega)]; exact h6 k hk
def LC (A : Nat → Nat → Nat) (m : Nat) (C : TS) (I : zI) : Prop := ∀ p, p < A 0 2 → 0 < A 2 p → (C p = none → I (23 + 12 * m) p = -1) ∧ ∀ s l, C p = some (s, l) → I (23 + 12 * m) p = nI (enS s) ∧ I (24 + 12 * m) p = nI (pqk l 12)
def WL (W : List Nat) (I : zI) : Prop := I 4 2 = nI W.length ∧ (∀ i, i < W.length → I 5 i = nI (bot W i)) ∧ (∀ p, p < 400 → I 6 p = if p ∈ W then 1 else 0)
def JS (A : Nat → Nat → Nat) (m : Nat) (C : TS) (W : List Nat) (I : zI) : Prop := LM0 A m I ∧ TG A C ∧ LC A m C I ∧ WL W I ∧ (∀ x, x ∈ W → C x ≠ none) ∧ W.Nodup
theorem a_pil {m q : Nat} {I : zI} {P : zP} {K : zI → zP → Prop} (hq : q < 400) (k : ∀ I', FrC m I I' → I' 4 5 = I 4 5 → K I' P) : w_X1_putInLine (nI q) I P K := by
  unfold w_X1_putInLine
  refine ⟨vp_in_nI hq (by decide), ?_⟩
  split
  · split
    · exact k I (FrC_r m I) rfl
    · split
      · exact k I (FrC_r m I) rfl
      · rename_i h1 h2
        have hv : vp_in (I 4 2) 400 := vin_of h1 h2 (by decide)
        refine ⟨vp_in_nI hq (by decide), ?_, ?_⟩
        · rw [zu_nc (by decide)]; exact hv
        · refine k _ (FrC_t (FrC_u (by omega)) (FrC_t (FrC_u (by omega)) (FrC_u (by omega)))) ?_
          rw [zu_nj (by decide), zu_nc (by decide), zu_nc (by decide)]
  · exact k I (FrC_r m I) rfl
theorem a_come {A : Nat → Nat → Nat} {m : Nat} {x y z : Int32} {I : zI} {P : zP} {K : zI → zP → Prop} (hP : PSt P) (hm : m < 6) (hL : LM0 A m I) (hB : W0 A m) (h5 : I 4 5 = 1) (k : ∀ I', FrC m I I' → I' 4 5 = 1 → K I' P) : w_X1_comeTo (20 + 12 * m) x y z I P K := by
  unfold w_X1_comeTo
  refine ⟨shM hm, ?_⟩
  by_cases hb : isbg A x
  · have hb' := hb
    obtain ⟨q, hq, rfl, h2⟩ := hb
    have b1 := hB.2.2.2.2.1
    have hq4 : q < 400 := by omega
    have v3 : vp_in (nI q) (zlen (23 + 12 * m)) := by rw [zzM3 hm]; exact vp_in_nI hq4 (by decide)
    have v4 : vp_in (nI q) (zlen (24 + 12 * m)) := by rw [zzM4 hm]; exact vp_in_nI hq4 (by decide)
    refine s_bg1 hP hm hL hB hb' (zin (by decide) ⟨_, pM3 hP hm, shM3 hm, v3, ?_⟩)
    split
    · refine ⟨_, pM3 hP hm, shM3 hm, v3, _, pM4 hP hm, shM4 hm, v4, ?_⟩
      refine a_pil (m := m) hq4 (fun I' f g => k I' (FrC_t (FrC_u (by omega)) (FrC_t (FrC_u (by omega)) f)) ?_)
      rw [g, zu_nc (by omega), zu_nc (by omega)]; exact h5
    · refine ⟨_, pM3 hP hm, shM3 hm, v3, ?_⟩
      split
      · refine ⟨_, pM4 hP hm, shM4 hm, v4, _, pM4 hP hm, shM4 hm, v4, _, pM4 hP hm, shM4 hm, v4, ?_⟩
        split
        · exact k I (FrC_r m I) h5
        · refine ⟨_, pM4 hP hm, shM4 hm, v4, ?_⟩
          refine a_pil (m := m) hq4 (fun I' f g => k I' (FrC_t (FrC_u (by omega)) f) ?_)
          rw [g, zu_nc (by omega)]; exact h5
      · exact k _ (FrC_u (by omega)) zu_same
  · exact s_bg0 hP hm hL hB hb (zip rfl (k _ (FrC_u (by omega)) zu_same))
/-- a place is put in line, if it isn't there -/
theorem s_pil {A : Nat → Nat → Nat} {m q : Nat} {C : TS} {W : List Nat} {I : zI} {P : zP} {K : zI → zP → Prop} (hq : q < 400) (hW : WL W I) (hn : W.Nodup) (hl : ∀ x, x ∈ W → x < 400) (k : ∀ W' I', WL W' I' → W'.Nodup → q ∈ W' → (W' = W ∨ (q ∉ W ∧ W' = q :: W)) → (∀ c j, ¬ (c = 4 ∧ j = 2) → c ≠ 5 → c ≠ 6 → I' c j = I c j) → K I' P) : w_X1_putInLine (nI q) I P K := by
  obtain ⟨w1, w2, w3⟩ := hW
  unfold w_X1_putInLine
  rw [nI_clamp (by omega), w3 q hq, w1]
  refine ⟨vp_in_nI hq (by decide), ?_⟩
  by_cases hm : q ∈ W
  · rw [if_pos hm]
    exact zin (by decide) (k W I ⟨w1, w2, w3⟩ hn hm (Or.inl rfl) (fun _ _ _ _ _ => rfl))
  · rw [if_neg hm]
    have hn2 : (q :: W).Nodup := List.nodup_cons.mpr ⟨hm, hn⟩
    have hp := pigeon 400 (q :: W) hn2 (fun x hx => by
      rcases List.mem_cons.mp hx with h | h
      · omega
      · exact hl x h)
    rw [List.length_cons] at hp
    have z42 : zu I 6 q (vp_nar FieldType.boolean 1) 4 2 = nI W.length := by rw [zu_nc (by decide)]; exact w1
    refine zip rfl (zin (nI_pos (by omega)) (zin (nI_ge (b := 400) (by omega) (by decide)) ⟨vp_in_nI hq (by decide), ?_, ?_⟩))
    · rw [z42]; exact vp_in_nI (by omega) (by decide)
    · rw [z42, nI_clamp (by omega), nar1]
      refine k (q :: W) _ ⟨?_, ?_, ?_⟩ hn2 List.mem_cons_self (Or.inr ⟨hm, rfl⟩) ?_
      · rw [zu_same, zu_nc (by decide), zu_nc (by decide), w1, nI_1, List.length_cons]
      · intro i hi
        rw [List.length_cons] at hi
        rw [zu_nc (by decide), bot]
        by_cases e : i = W.length
        · rw [if_pos e, e, zu_same]
        · rw [if_neg e, zu_nj e, zu_nc (by decide)]
          exact w2 i (by omega)
      · intro p hp4
        rw [zu_nc (by decide), zu_nc (by decide)]
        by_cases e : p = q
        · rw [e, zu_same, if_pos List.mem_cons_self]
        · rw [zu_nj e, w3 p hp4]
          by_cases g : p ∈ W
          · rw [if_pos g, if_pos (List.mem_cons_of_mem _ g)]
          · rw [if_neg g, if_neg (fun z => (List.mem_cons.mp z).elim e g)]
      · intro c j q1 q2 q3
        rw [zu_ne q1, zu_nc q2, zu_nc q3]
theorem pqk_inj {f g : Nat → Nat} (hf : ∀ k, f k < 4) (hg : ∀ k, g k < 4) {n : Nat} (e : pqk f n = pqk g n) : ∀ k, k < n → f k = g k := fun k hk => by
  rw [← pqk_dig (f := f) (n := n) (fun k _ => hf k) hk, e, pqk_dig (fun k _ => hg k) hk]
theorem s_come {A : Nat → Nat → Nat} {m q : Nat} {s : List Nat} {l : Nat → Nat} {C : TS} {W : List Nat} {I : zI} {P : zP} {K : zI → zP → Prop} (hP : PSt P) (hm : m < 6) (hB : W0 A m) (hJ : JS A m C W I) (hq : q < A 0 2) (h2 : 0 < A 2 q) (hs : gs s) (hl : gl l)
    (k1 : ∀ C' W' I', JS A m C' W' I' → FrC m I I' → I' 4 5 = I 4 5 → Cov C' q s l → blw C' C → (∀ T, abv C T → Cov T q s l → abv C' T) → (∀ x, x ∉ W' → x ∉ W ∧ C' x = C x) → mu C' (A 0 2) + W'.length ≤ mu C (A 0 2) + W.length → K I' P)
    (k2 : ∀ I', (∀ T, abv C T → ¬ Cov T q s l) → FrC m I I' → I' 4 5 = 1 → K I' P) : w_X1_comeTo (20 + 12 * m) (nI q) (nI (enS s)) (nI (pqk l 12)) I P K := by
  obtain ⟨hL, hT, hC, hW, hW2, hn⟩ := hJ
  have b1 := hB.2.2.2.2.1
  have hq4 : q < 400 := by omega
  have hWl : ∀ x, x ∈ W → x < 400 := fun x hx => by
    cases e : C x with
    | none => exact absurd e (hW2 x hx)
    | some v => have := (hT x v.1 v.2 e).1; omega
  unfold w_X1_comeTo
  have v3 : vp_in (nI q) (zlen (23 + 12 * m)) := by rw [zzM3 hm]; exact vp_in_nI hq4 (by decide)
  have v4 : vp_in (nI q) (zlen (24 + 12 * m)) := by rw [zzM4 hm]; exact vp_in_nI hq4 (by decide)
  refine ⟨shM hm, s_bg1 hP hm hL hB ⟨q, hq, rfl, h2⟩ (zin (by decide) ⟨_, pM3 hP hm, shM3 hm, v3, ?_⟩)⟩
  rw [nI_clamp (by omega)]
  obtain ⟨c0, c1⟩ := hC q hq h2
  have fl : ∀ k, l k < 4 := fun k => by have := hl k; omega
  have stay : ∀ {C' : TS} {J I' : zI} {s1 : List Nat} {l1 : Nat → Nat}, C' = upC C q (s1, l1) → J (23 + 12 * m) q = nI (enS s1) → J (24 + 12 * m) q = nI (pqk l1 12) → (∀ p, p ≠ q → J (23 + 12 * m) p = I (23 + 12 * m) p ∧ J (24 + 12 * m) p = I (24 + 12 * m) p) → (∀ c j, ¬ (c = 4 ∧ j = 2) → c ≠ 5 → c ≠ 6 → I' c j = J c j) → LC A m C' I' := by
    intro C' J I' s1 l1 eC e3 e4 eo ef p hp hp2
    rw [ef _ _ (by omega) (by omega) (by omega), ef _ _ (by omega) (by omega) (by omega), eC]
    unfold upC
    by_cases e : p = q
    · subst e
      rw [if_pos rfl]
      refine ⟨fun h => by (cases h), fun s2 l2 h => ?_⟩
      cases h
      exact ⟨e3, e4⟩
    · rw [if_neg e, (eo p e).1, (eo p e).2]
      exact hC p hp hp2
  cases eC : C q with
  | none =>
    rw [c0 eC]
    refine zip rfl ⟨_, pM3 hP hm, shM3 hm, v3, _, pM4 hP hm, shM4 hm, v4, ?_⟩
    have hm1 : Cm C q s l (upC C q (s, l)) := Or.inl ⟨eC, rfl⟩
    have hWz : WL W (zu (zu I (23 + 12 * m) q (nI (enS s))) (24 + 12 * m) q (nI (pqk l 12))) := by
      obtain ⟨w1, w2, w3⟩ := hW
      exact ⟨by rw [zu_nc (by omega), zu_nc (by omega)]; exact w1, fun i hi => by rw [zu_nc (by omega), zu_nc (by omega)]; exact w2 i hi, fun p hp => by rw [zu_nc (by omega), zu_nc (by omega)]; exact w3 p hp⟩
    refine s_pil (A := A) (m := m) (C := C) hq4 hWz hn hWl (fun W' I' g1 g2 g3 g4 g5 => ?_)
    have f1 : FrC m I I' := fun c j z1 z2 z3 z4 z5 => by rw [g5 c j (by omega) z2 z3, zu_nc z5, zu_nc z4]
    have hnW : q ∉ W := fun h => hW2 q h eC
    refine k1 (upC C q (s, l)) W' I' ⟨LM0_C hm hL f1, ?_, ?_, g1, ?_, g2⟩ f1 ?_ (Cov_Cm hm1) (blw_Cm hm1) (fun T ha hc => abv_Cm ha hc hm1) ?_ ?_
    · intro p s1 l1 e
      unfold upC at e
      split at e
      · cases e; rename_i hp; subst hp; exact ⟨hq, h2, hs, hl⟩
      · exact hT p s1 l1 e
    · refine stay rfl ?_ zu_same (fun p hp => ⟨?_, ?_⟩) g5
      · rw [zu_nc (by omega), zu_same]
      · rw [zu_nj hp, zu_nj hp]
      · rw [zu_nj hp, zu_nj hp]
    · intro x hx
      unfold upC
      by_cases z : x = q
      · rw [if_pos z]; simp
      · rw [if_neg z]
        rcases g4 with h | ⟨-, h⟩
        · rw [h] at hx; exact hW2 x hx
        · rw [h] at hx
          rcases List.mem_cons.mp hx with h | h
          · exact absurd h z
          · exact hW2 x h
    · rw [g5 4 5 (by omega) (by omega) (by omega), zu_nc (by omega), zu_nc (by omega)]
    · intro x hx
      rcases g4 with h | ⟨-, h⟩
      · exact absurd (h ▸ g3) hnW
      · rw [h] at hx
        have hxq : x ≠ q := fun e => hx (by rw [e]; exact List.mem_cons_self)
        exact ⟨fun z => hx (List.mem_cons_of_mem _ z), by unfold upC; rw [if_neg hxq]⟩
    · have := (mu_Cm hq hm1).2 (Or.inl eC)
      rcases g4 with h | ⟨-, h⟩
      · rw [h]; omega
      · rw [h, List.length_cons]; omega
  | some v =>
    obtain ⟨s', l'⟩ := v
    obtain ⟨-, -, gs', gl'⟩ := hT q s' l' eC
    obtain ⟨d3, d4⟩ := c1 s' l' eC
    have fl' : ∀ k, l' k < 4 := fun k => by have := gl' k; omega
    obtain ⟨z1, -⟩ := enS_lt (gs4 gs') gs'.1
    obtain ⟨z2, -⟩ := enS_lt (gs4 hs) hs.1
    rw [d3]
    refine zin (fun e => absurd ((ng_eq (a := enS s') (b := 1) z1 (by decide)).mp e) (by omega)) ⟨_, pM3 hP hm, shM3 hm, v3, ?_⟩
    rw [d3]
    by_cases es : s' = s
    · subst es
      refine zip rfl ⟨_, pM4 hP hm, shM4 hm, v4, _, pM4 hP hm, shM4 hm, v4, _, pM4 hP hm, shM4 hm, v4, ?_⟩
      have p1 := sl_lt fl'
      have p2 := sl_lt fl
      have ux : pqk l' 12 ^^^ pqk l 12 < 2 ^ 24 := Nat.xor_lt_two_pow (by omega) (by omega)
      have e1 : nI (pqk l' 12 ^^^ pqk l 12) >>> ((1 : Int32) &&& 31) = nI ((pqk l' 12 ^^^ pqk l 12) / 2) := q_shr (k := 1) (by omega) (by decide)
      have lo : ((pqk l' 12 ^^^ pqk l 12) ||| (pqk l' 12 ^^^ pqk l 12) / 2) &&& 5592405 < 2 ^ 24 := Nat.and_lt_two_pow _ (by decide)
      have e2 : nI (((pqk l' 12 ^^^ pqk l 12) ||| (pqk l' 12 ^^^ pqk l 12) / 2) &&& 5592405) <<< ((1 : Int32) &&& 31) = nI ((((pqk l' 12 ^^^ pqk l 12) ||| (pqk l' 12 ^^^ pqk l 12) / 2) &&& 5592405) * 2) := by
        have := q_shl (v := (((pqk l' 12 ^^^ pqk l 12) ||| (pqk l' 12 ^^^ pqk l 12) / 2) &&& 5592405)) (k := 1) (by decide) (by omega)
        rw [Nat.pow_one] at this
        exact this
      have e5 : (5592405 : Int32) = nI 5592405 := rfl
      rw [d4, nI_xor, e1, nI_or, e5, nI_and, e2, nI_or, nI_andn, jn_bits gl' hl]
      by_cases ej : pqk (jnl l' l) 12 = pqk l' 12
      · refine zip (by rw [ej]) ?_
        have hb : ble l' l := fun k hk => by
          have h1 := pqk_inj (fun k => by have := gl_jnl (l := l) gl' k; omega) fl' ej k hk
          unfold jnl at h1
          split at h1
          · rename_i h; exact Or.inl h
          · exact Or.inr h1.symm
        have hc : Cov C q s' l := ⟨l', eC, hb⟩
        exact k1 C W I ⟨hL, hT, hC, hW, hW2, hn⟩ (FrC_r m I) rfl hc (blw_r C) (fun T ha _ => ha) (fun x hx => ⟨hx, rfl⟩) (Nat.le_refl _)
      · have fj : ∀ k, jnl l' l k < 4 := fun k => by have := gl_jnl (l := l) gl' k; omega
        have p3 := sl_lt fj
        refine zin (fun e => ej ((nI_eq (by omega) (by omega)).mp e)) ⟨_, pM4 hP hm, shM4 hm, v4, ?_⟩
        have hm1 : Cm C q s' l (upC C q (s', jnl l' l)) := Or.inr ⟨l', eC, rfl⟩
        have hWz : WL W (zu I (24 + 12 * m) q (nI (pqk (jnl l' l) 12))) := by
          obtain ⟨w1, w2, w3⟩ := hW
          exact ⟨by rw [zu_nc (by omega)]; exact w1, fun i hi => by rw [zu_nc (by omega)]; exact w2 i hi, fun p hp => by rw [zu_nc (by omega)]; exact w3 p hp⟩
        refine s_pil (A := A) (m := m) (C := C) hq4 hWz hn hWl (fun W' I' g1 g2 g3 g4 g5 => ?_)
        have f1 : FrC m I I' := fun c j z1 z2 z3 z4 z5 => by rw [g5 c j (by omega) z2 z3, zu_nc z5]
        refine k1 (upC C q (s', jnl l' l)) W' I' ⟨LM0_C hm hL f1, ?_, ?_, g1, ?_, g2⟩ f1 ?_ (Cov_Cm hm1) (blw_Cm hm1) (fun T ha hc => abv_Cm ha hc hm1) ?_ ?_
        · intro p s1 l1 e
          unfold upC at e
          split at e
          · cases e; rename_i hp; subst hp; exact ⟨hq, h2, hs, gl_jnl gl'⟩
          · exact hT p s1 l1 e
        · refine stay rfl ?_ zu_same (fun p hp => ⟨?_, ?_⟩) g5
          · rw [zu_nc (by omega)]; exact d3
          · rw [zu_nc (by omega)]
          · rw [zu_nj hp]
        · intro x hx
          unfold upC
          by_cases z : x = q
          · rw [if_pos z]; simp
          · rw [if_neg z]
            rcases g4 with h | ⟨-, h⟩
            · rw [h] at hx; exact hW2 x hx
            · rw [h] at hx
              rcases List.mem_cons.mp hx with h | h
              · exact absurd h z
              · exact hW2 x h
        · rw [g5 4 5 (by omega) (by omega) (by omega), zu_nc (by omega)]
        · intro x hx
          have hxq : x ≠ q := fun e => hx (by rw [e]; exact g3)
          refine ⟨fun z => hx ?_, by unfold upC; rw [if_neg hxq]⟩
          rcases g4 with h | ⟨-, h⟩
          · rw [h]; exact z
          · rw [h]; exact List.mem_cons_of_mem _ z
        · have : ∃ k, k < 12 ∧ jnl l' l k ≠ l' k := by
            apply Classical.byContradiction
            intro hno
            exact ej (pqk_cong (fun k hk => Classical.byContradiction (fun h => hno ⟨k, hk, h⟩)))
          have := (mu_Cm hq hm1).2 (Or.inr ⟨l', eC, this⟩)
          rcases g4 with h | ⟨-, h⟩
          · rw [h]; omega
          · rw [h, List.length_cons]; omega
    · refine zin (fun e => es (enS_inj gs' hs ((nI_eq z1 z2).mp e))) ?_
      refine k2 _ (fun T ha hc => ?_) (FrC_u (by omega)) zu_same
      rcases Cm_ok ha hc with h | ⟨l2, h⟩
      · rw [eC] at h; cases h
      · rw [eC] at h; cases h; exact es rfl
