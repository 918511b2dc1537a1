/-! PURE 37: make(), each side -/
def MKR (b : Nat → Nat) (t n : Nat) (ar : Nat → Nat) (r : Option (Nat × Nat)) : Prop :=
  (∃ a, r = some (1, a) ∧ formR b t n (some a)) ∨ (formR b t n none ∧ ((∃ a, r = some (2, a) ∧ jmpR (fA b) (some a)) ∨ (jmpR (fA b) none ∧ ((∃ a, r = some (3, a) ∧ hdlR (fA b) (some a)) ∨ (hdlR (fA b) none ∧ ((r = some (4, 0) ∧ NoT (fA b) ar) ∨ (r = none ∧ ∃ T, Cons (fA b) ar T)))))))
theorem MKR_u {b : Nat → Nat} {t n : Nat} {ar : Nat → Nat} {r s : Option (Nat × Nat)} (h : MKR b t n ar r) (g : MKR b t n ar s) : r = s := by
  rcases h with ⟨a, h1, h2⟩ | ⟨h0, h⟩ <;> rcases g with ⟨a', g1, g2⟩ | ⟨g0, g⟩
  · have := formR_u h2 g2; cases this; rw [h1, g1]
  · have := formR_u h2 g0; cases this
  · have := formR_u g2 h0; cases this
  rcases h with ⟨a, h1, h2⟩ | ⟨h0, h⟩ <;> rcases g with ⟨a', g1, g2⟩ | ⟨g0, g⟩
  · have := jmpR_u h2 g2; cases this; rw [h1, g1]
  · have := jmpR_u h2 g0; cases this
  · have := jmpR_u g2 h0; cases this
  rcases h with ⟨a, h1, h2⟩ | ⟨h0, h⟩ <;> rcases g with ⟨a', g1, g2⟩ | ⟨g0, g⟩
  · have := hdlR_u h2 g2; cases this; rw [h1, g1]
  · have := hdlR_u h2 g0; cases this
  · have := hdlR_u g2 h0; cases this
  rcases h with ⟨h1, h2⟩ | ⟨h1, h2⟩ <;> rcases g with ⟨g1, g2⟩ | ⟨g1, g2⟩
  · rw [h1, g1]
  · exact absurd g2 h2
  · exact absurd h2 g2
  · rw [h1, g1]
def FrML (n : Nat) (I I' : zI) : Prop := ∀ c j, ¬ (c = 0 ∧ 8 ≤ j ∧ j ≤ 10) → ¬ tfL n c j → ¬ (c = 4 ∧ 2 ≤ j ∧ j ≤ 5) → c ≠ 5 → c ≠ 6 → c ≠ 23 + 12 * n → c ≠ 24 + 12 * n → I' c j = I c j
theorem jmpR_all {A : Nat → Nat → Nat} (h : jmpR A none) : ∀ p, p < A 0 2 → jok A p := by
  rcases h with ⟨-, h⟩ | ⟨p, -, h, -⟩
  · exact h
  · cases h
theorem hdlR_all {A : Nat → Nat → Nat} (h : hdlR A none) : ∀ k, k < A 0 3 → hok A k := by
  rcases h with ⟨-, h⟩ | ⟨p, -, h, -⟩
  · exact h
  · cases h
theorem LM0_0 {A : Nat → Nat → Nat} {m : Nat} {I I' : zI} (h : LM0 A m I) (f : ∀ c j, c ≠ 0 → I' c j = I c j) : LM0 A m I' := by
  obtain ⟨y1, y2, y3, y4, y5, y6⟩ := h
  exact ⟨by rw [f _ _ (by omega)]; exact y1, by rw [f _ _ (by omega)]; exact y2, by rw [f _ _ (by omega)]; exact y3, by rw [f _ _ (by omega)]; exact y4, fun p hp => ⟨by rw [f _ _ (by omega)]; exact (y5 p hp).1, by rw [f _ _ (by omega)]; exact (y5 p hp).2⟩, fun k hk => by rw [f _ _ (by omega)]; exact y6 k hk⟩
theorem mk_L {b : Nat → Nat} {t n : Nat} {ar : Nat → Nat} {I : zI} {P : zP} {K : Int32 → zI → zP → Prop} (hP : PSt P) (hn : n < 6) (h9 : I 0 9 = nI n) (h8 : I 0 8 = nI t) (ht : t ≤ 600) (hnum : I (20 + 12 * n) 0 = nI n) (hb : ∀ j, j < 600 → b j < 256 ∧ I 1 j = nI (b j)) (har : ∀ k, k < n → ar k ≤ 4 ∧ I (20 + 12 * k) 7 = nI (ar k)) (har2 : ar n = b 0)
    (kF : ∀ f a I' P', MKR b t n ar (some (f, a)) → PSt P' → FrML n I I' → I' 0 8 = 0 → I' 0 9 = nI n → I' 0 10 = nI a → K (-10 - nI f) I' P')
    (kS : ∀ C I' P', MKR b t n ar none → PSt P' → FrML n I I' → I' 0 8 = 0 → I' 0 9 = nI (n + 1) → I' 0 10 = -1 → LM0 (fA b) n I' → LC (fA b) n C I' → W0 (fA b) n → (∀ p, p < fA b 0 2 → jok (fA b) p) → (∀ k, k < fA b 0 3 → hok (fA b) k) → Cons (fA b) ar C → (∀ T, Cons (fA b) ar T → abv C T) → K (nI n) I' P') : w_X9_make I P K := by
  unfold w_X9_make
  rw [h9, h8]
  refine zin (nI_pos (by omega)) (zip (nI_lt (b := 6) hn (by decide)) ⟨vp_in_nI hn (by decide), _, by rw [nI_clamp (by omega)]; exact pM hP hn, ?_⟩)
  have z0 : ∀ c j, ¬ (c = 0 ∧ (j = 8 ∨ j = 10)) → zu (zu I 0 8 0) 0 10 (-1) c j = I c j := fun c j q => by rw [zu_ne (by omega), zu_ne (by omega)]
  have z8 : zu (zu I 0 8 0) 0 10 (-1) 0 8 = 0 := by rw [zu_nj (by decide), zu_same]
  generalize zu (zu I 0 8 0) 0 10 (-1) = J at z0 z8 ⊢
  unfold w_X9_findFault
  refine s_formL hP hn ht (by rw [z0 _ _ (by omega)]; exact hnum) (fun j hj => ⟨(hb j hj).1, by rw [z0 _ _ (by omega)]; exact (hb j hj).2⟩) (fun r I1 hr rb f1 g1 => ?_)
  have hP1 : PSt (zu P 2 0 (some 1)) := PSt_2 hP
  generalize zu P 2 0 (some 1) = P1 at hP1 ⊢
  have i8 : I1 0 8 = 0 := by rw [f1 _ _ (by unfold tfL; omega)]; exact z8
  have i9 : I1 0 9 = nI n := by rw [f1 _ _ (by unfold tfL; omega), z0 _ _ (by omega)]; exact h9
  have fA1' : ∀ c j, ¬ (c = 0 ∧ 8 ≤ j ∧ j ≤ 10) → ¬ tfL n c j → I1 c j = I c j := fun c j q1 q2 => by rw [f1 c j q2, z0 c j (by omega)]
  cases r with
  | some a =>
    refine zin (fun e => by have := oI_some (n := 0) rb e; cases this) (zin (by decide) ?_)
    refine kF 1 a _ P1 (Or.inl ⟨a, rfl, hr⟩) hP1 (fun c j q1 q2 _ _ _ _ _ => ?_) ?_ ?_ zu_same
    · rw [zu_ne (by omega)]; exact fA1' c j q1 q2
    · rw [zu_nj (by decide)]; exact i8
    · rw [zu_nj (by decide)]; exact i9
  | none =>
    have hL1 := LM0_fA (g1 rfl)
    have hW := W0_of (fun j hj => (hb j hj).1) ht hr
    have hL2 : ∀ v, LM0 (fA b) n (zu I1 0 10 v) := fun v => LM0_0 hL1 (fun c j q => zu_nc q)
    refine zip rfl ⟨shM hn, s_jf hP1 hn (hL2 _) hW (fun r2 hr2 => ?_)⟩
    cases r2 with
    | some a =>
      have ab : a < 2 ^ 31 := by
        rcases hr2 with ⟨h, -⟩ | ⟨p, hp, h, -⟩
        · cases h
        · cases h; have := hW.2.2.2.2.1; omega
      refine zin (fun e => absurd ((ng_eq (a := a) (b := 1) ab (by decide)).mp e) (by omega)) (zin (by decide) ?_)
      refine kF 2 a _ P1 (Or.inr ⟨hr, Or.inl ⟨a, rfl, hr2⟩⟩) hP1 (fun c j q1 q2 _ _ _ _ _ => ?_) ?_ ?_ zu_same
      · rw [zu_ne (by omega), zu_ne (by omega)]; exact fA1' c j q1 q2
      · rw [zu_nj (by decide), zu_nj (by decide)]; exact i8
      · rw [zu_nj (by decide), zu_nj (by decide)]; exact i9
    | none =>
      refine zip rfl (s_hf hP1 hn (LM0_0 (hL2 _) (fun c j q => zu_nc q)) hW (fun r3 hr3 => ?_))
      cases r3 with
      | some a =>
        have ab : a < 2 ^ 31 := by
          rcases hr3 with ⟨h, -⟩ | ⟨p, hp, h, -⟩
          · cases h
          · cases h; have := hW.2.2.2.2.1; have := hW.2.2.2.2.2.1; omega
        refine zin (fun e => absurd ((ng_eq (a := a) (b := 1) ab (by decide)).mp e) (by omega)) (zin (by decide) ?_)
        refine kF 3 a _ P1 (Or.inr ⟨hr, Or.inr ⟨hr2, Or.inl ⟨a, rfl, hr3⟩⟩⟩) hP1 (fun c j q1 q2 _ _ _ _ _ => ?_) ?_ ?_ zu_same
        · rw [zu_ne (by omega), zu_ne (by omega), zu_ne (by omega)]; exact fA1' c j q1 q2
        · rw [zu_nj (by decide), zu_nj (by decide), zu_nj (by decide)]; exact i8
        · rw [zu_nj (by decide), zu_nj (by decide), zu_nj (by decide)]; exact i9
      | none =>
        refine zip rfl ?_
        have y0 : ∀ c j, ¬ (c = 0 ∧ j = 10) → zu (zu (zu I1 0 10 (oI none)) 0 10 (oI none)) 0 10 (oI none) c j = I1 c j := fun c j q => by rw [zu_ne q, zu_ne q, zu_ne q]
        have y10 : zu (zu (zu I1 0 10 (oI none)) 0 10 (oI none)) 0 10 (oI none) 0 10 = -1 := zu_same
        generalize zu (zu (zu I1 0 10 (oI none)) 0 10 (oI none)) 0 10 (oI none) = J2 at y0 y10 ⊢
        have hL3 : LM0 (fA b) n J2 := LM0_0 hL1 (fun c j q => y0 c j (by omega))
        have fJ2 : ∀ c j, ¬ (c = 0 ∧ 8 ≤ j ∧ j ≤ 10) → ¬ tfL n c j → J2 c j = I c j := fun c j q1 q2 => by rw [y0 c j (by omega)]; exact fA1' c j q1 q2
        have hj := jmpR_all hr2
        have hh := hdlR_all hr3
        have har3 : ∀ k, k ≤ n → ar k ≤ 4 ∧ J2 (20 + 12 * k) 7 = nI (ar k) := fun k hk => by
          by_cases e : k = n
          · subst e
            rw [har2]
            exact ⟨hW.1, hL3.1⟩
          · refine ⟨(har k (by omega)).1, ?_⟩
            rw [fJ2 _ _ (by omega) (by unfold tfL; omega)]; exact (har k (by omega)).2
        refine s_accepts (ar := ar) hP1 hn hL3 hW hj hh har3 (fun C I' fa la lc hc hab => ?_) (fun I' fa hno => ?_)
        · refine zin (by decide) (zip rfl ?_)
          have e9 : I' 0 9 = nI n := by rw [fa _ _ (by omega) (by omega) (by omega) (by omega) (by omega), y0 _ _ (by omega)]; exact i9
          rw [e9, nI_1, nI_pred]
          refine kS C _ P1 (Or.inr ⟨hr, Or.inr ⟨hr2, Or.inr ⟨hr3, Or.inr ⟨rfl, C, hc⟩⟩⟩⟩) hP1 (fun c j q1 q2 q3 q4 q5 q6 q7 => ?_) ?_ zu_same ?_ (LM0_0 la (fun c j q => zu_nc q)) (fun p hp hp2 => by rw [zu_nc (by omega), zu_nc (by omega)]; exact lc p hp hp2) hW hj hh hc hab
          · rw [zu_ne (by omega), fa c j q3 q4 q5 q6 q7]; exact fJ2 c j q1 q2
          · rw [zu_nj (by decide), fa _ _ (by omega) (by omega) (by omega) (by omega) (by omega), y0 _ _ (by omega)]; exact i8
          · rw [zu_nj (by decide), fa _ _ (by omega) (by omega) (by omega) (by omega) (by omega)]; exact y10
        · refine zip rfl (zin (by decide) ?_)
          refine kF 4 0 _ P1 (Or.inr ⟨hr, Or.inr ⟨hr2, Or.inr ⟨hr3, Or.inl ⟨rfl, hno⟩⟩⟩⟩) hP1 (fun c j q1 q2 q3 q4 q5 q6 q7 => ?_) ?_ ?_ zu_same
          · rw [zu_ne (by omega), fa c j q3 q4 q5 q6 q7]; exact fJ2 c j q1 q2
          · rw [zu_nj (by decide), fa _ _ (by omega) (by omega) (by omega) (by omega) (by omega), y0 _ _ (by omega)]; exact i8
          · rw [zu_nj (by decide), fa _ _ (by omega) (by omega) (by omega) (by omega) (by omega), y0 _ _ (by omega)]; exact i9
def FrMM (n : Nat) (I I' : zI) : Prop := ∀ c j, ¬ (c = 155 ∧ ((1 ≤ j ∧ j ≤ 3) ∨ (37 ≤ j ∧ j ≤ 39))) → ¬ tfR n c j → c ≠ 187 → c ≠ 188 → ¬ (c = 167 ∧ 400 * n ≤ j ∧ j < 400 * n + 400) → ¬ (c = 168 ∧ 4800 * n ≤ j ∧ j < 4800 * n + 4800) → ¬ (c = 169 ∧ 4000 * n ≤ j ∧ j < 4000 * n + 4000) → ¬ (c = 175 ∧ j = n) → I' c j = I c j
theorem RM0_5 {A : Nat → Nat → Nat} {m : Nat} {I I' : zI} (h : RM0 A m I) (f : ∀ c j, c ≠ 155 → c ≠ 175 → I' c j = I c j) : RM0 A m I' := by
  obtain ⟨h1, h2, h3, h4, h5, h6⟩ := h
  refine ⟨?_, ?_, ?_, ?_, fun p hp => ⟨?_, ?_⟩, fun k hk => ⟨?_, ?_, ?_, ?_⟩⟩
  · rw [f _ _ (by omega) (by omega)]; exact h1
  · rw [f _ _ (by omega) (by omega)]; exact h2
  · rw [f _ _ (by omega) (by omega)]; exact h3
  · rw [f _ _ (by omega) (by omega)]; exact h4
  · rw [f _ _ (by omega) (by omega)]; exact (h5 p hp).1
  · rw [f _ _ (by omega) (by omega)]; exact (h5 p hp).2
  · rw [f _ _ (by omega) (by omega)]; exact (h6 k hk).1
  · rw [f _ _ (by omega) (by omega)]; exact (h6 k hk).2.1
  · rw [f _ _ (by omega) (by omega)]; exact (h6 k hk).2.2.1
  · rw [f _ _ (by omega) (by omega)]; exact (h6 k hk).2.2.2
theorem mk_M {b : Nat → Nat} {t n : Nat} {ar : Nat → Nat} {I : zI} {P : zP} {K : Int32 → zI → zP → Prop} (hn : n < 6) (h3 : I 155 3 = nI n) (h1 : I 155 1 = nI t) (ht : t ≤ 600) (hb6 : ∀ j, j < 600 → b j < 256) (hb : ∀ j, j < t → I 156 j = nI (b j)) (har : ∀ k, k < n → ar k ≤ 4 ∧ I 157 k = nI (ar k)) (har2 : ar n = b 0)
    (kF : ∀ f a I', MKR b t n ar (some (f, a)) → FrMM n I I' → I' 155 1 = 0 → I' 155 3 = nI n → I' 155 2 = nI a → I' 175 n = I 175 n → K (-10 - nI f) I' P)
    (kS : ∀ C I', MKR b t n ar none → FrMM n I I' → I' 155 1 = 0 → I' 155 3 = nI (n + 1) → I' 155 2 = -1 → I' 175 n = -1 → RM0 (fA b) n I' → RCx (fA b) n C I' → Cons (fA b) ar C → (∀ T, Cons (fA b) ar T → abv C T) → K (nI n) I' P) : w_X10_make I P K := by
  unfold w_X10_make
  rw [h3, h1]
  refine zin (fun e => absurd ((nI_eq (b := 6) (by omega) (by decide)).mp e) (by omega)) ?_
  have z0 : ∀ c j, ¬ (c = 155 ∧ (j = 1 ∨ j = 2)) → zu (zu I 155 1 0) 155 2 (-1) c j = I c j := fun c j q => by rw [zu_ne (by omega), zu_ne (by omega)]
  have z1 : zu (zu I 155 1 0) 155 2 (-1) 155 1 = 0 := by rw [zu_nj (by decide), zu_same]
  have z2 : zu (zu I 155 1 0) 155 2 (-1) 155 2 = -1 := zu_same
  generalize zu (zu I 155 1 0) 155 2 (-1) = J at z0 z1 z2 ⊢
  refine s_formM hn ht (by rw [z0 _ _ (by omega)]; exact h3) (fun j hj => ⟨hb6 j (by omega), by rw [z0 _ _ (by omega)]; exact hb j hj⟩) (fun r I1 hr rb f1 g1 => ?_)
  have i1 : I1 155 1 = 0 := by rw [f1 _ _ (by unfold tfR; omega)]; exact z1
  have i2 : I1 155 2 = -1 := by rw [f1 _ _ (by unfold tfR; omega)]; exact z2
  have i3 : I1 155 3 = nI n := by rw [f1 _ _ (by unfold tfR; omega), z0 _ _ (by omega)]; exact h3
  have i175 : I1 175 n = I 175 n := by rw [f1 _ _ (by unfold tfR; omega), z0 _ _ (by omega)]
  have fA1' : ∀ c j, ¬ (c = 155 ∧ 1 ≤ j ∧ j ≤ 3) → ¬ tfR n c j → I1 c j = I c j := fun c j q1 q2 => by rw [f1 c j q2, z0 c j (by omega)]
  unfold w_X10_fault
  cases r with
  | some a =>
    refine zin (fun e => by have := oI_some (n := 0) rb e; cases this) ?_
    refine kF 1 a _ (Or.inl ⟨a, rfl, hr⟩) (fun c j q1 q2 _ _ _ _ _ _ => ?_) ?_ ?_ zu_same ?_
    · rw [zu_ne (by omega)]; exact fA1' c j (by omega) q2
    · rw [zu_nj (by decide)]; exact i1
    · rw [zu_nj (by decide)]; exact i3
    · rw [zu_nc (by decide)]; exact i175
  | none =>
    have hL1 := RM0_fA (g1 rfl)
    have hW := W0_of hb6 ht hr
    refine zip rfl (s_mjf hn hL1 hW (fun r2 hr2 => ?_))
    cases r2 with
    | some a =>
      have ab : a < 2 ^ 31 := by
        rcases hr2 with ⟨h, -⟩ | ⟨p, hp, h, -⟩
        · cases h
        · cases h; have := hW.2.2.2.2.1; omega
      refine zin (fun e => absurd ((ng_eq (a := a) (b := 1) ab (by decide)).mp e) (by omega)) ?_
      refine kF 2 a _ (Or.inr ⟨hr, Or.inl ⟨a, rfl, hr2⟩⟩) (fun c j q1 q2 _ _ _ _ _ _ => ?_) ?_ ?_ zu_same ?_
      · rw [zu_ne (by omega)]; exact fA1' c j (by omega) q2
      · rw [zu_nj (by decide)]; exact i1
      · rw [zu_nj (by decide)]; exact i3
      · rw [zu_nc (by decide)]; exact i175
    | none =>
      refine zip rfl (s_mhf hn hL1 hW (fun r3 hr3 => ?_))
      cases r3 with
      | some a =>
        have ab : a < 2 ^ 31 := by
          rcases hr3 with ⟨h, -⟩ | ⟨p, hp, h, -⟩
          · cases h
          · cases h; have := hW.2.2.2.2.1; have := hW.2.2.2.2.2.1; omega
        refine zin (fun e => absurd ((ng_eq (a := a) (b := 1) ab (by decide)).mp e) (by omega)) ?_
        refine kF 3 a _ (Or.inr ⟨hr, Or.inr ⟨hr2, Or.inl ⟨a, rfl, hr3⟩⟩⟩) (fun c j q1 q2 _ _ _ _ _ _ => ?_) ?_ ?_ zu_same ?_
        · rw [zu_ne (by omega)]; exact fA1' c j (by omega) q2
        · rw [zu_nj (by decide)]; exact i1
        · rw [zu_nj (by decide)]; exact i3
        · rw [zu_nc (by decide)]; exact i175
      | none =>
        refine zip rfl ?_
        have hj := jmpR_all hr2
        have hh := hdlR_all hr3
        have har3 : ∀ k, k ≤ n → ar k ≤ 4 ∧ I1 157 k = nI (ar k) := fun k hk => by
          by_cases e : k = n
          · subst e
            rw [har2]
            exact ⟨hW.1, hL1.1⟩
          · refine ⟨(har k (by omega)).1, ?_⟩
            rw [fA1' _ _ (by omega) (by unfold tfR; omega)]; exact (har k (by omega)).2
        refine m_types (ar := ar) hn hL1 hW hj hh har3 (fun C I' fa la lc hc hab => ?_) (fun I' fa hno => ?_)
        · refine zin (by decide) ⟨vp_in_nI hn (by decide), ?_⟩
          rw [nI_clamp (by omega)]
          have e3 : zu I' 175 n (-1) 155 3 = nI n := by rw [zu_nc (by decide), fa _ _ (by omega) (by omega) (by omega) (by omega) (by omega) (by omega)]; exact i3
          rw [e3, nI_1]
          refine kS C _ (Or.inr ⟨hr, Or.inr ⟨hr2, Or.inr ⟨hr3, Or.inr ⟨rfl, C, hc⟩⟩⟩⟩) (fun c j q1 q2 q3 q4 q5 q6 q7 q8 => ?_) ?_ zu_same ?_ ?_ (RM0_5 la (fun c j q1 q2 => by rw [zu_nc q1, zu_nc q2])) (fun p hp hp2 => ?_) hc hab
          · rw [zu_ne (by omega), zu_ne (by omega), fa c j (by omega) q3 q4 q5 q6 q7]; exact fA1' c j (by omega) q2
          · rw [zu_nj (by decide), zu_nc (by decide), fa _ _ (by omega) (by omega) (by omega) (by omega) (by omega) (by omega)]; exact i1
          · rw [zu_nj (by decide), zu_nc (by decide), fa _ _ (by omega) (by omega) (by omega) (by omega) (by omega) (by omega)]; exact i2
          · rw [zu_nc (by decide), zu_same]
          · obtain ⟨y0, y1⟩ := lc p hp hp2
            exact ⟨fun e => by rw [zu_nc (by decide), zu_nc (by decide)]; exact y0 e, fun s l e => ⟨by rw [zu_nc (by decide), zu_nc (by decide)]; exact (y1 s l e).1, fun k hk => by rw [zu_nc (by decide), zu_nc (by decide)]; exact (y1 s l e).2.1 k hk, fun k hk => by rw [zu_nc (by decide), zu_nc (by decide)]; exact (y1 s l e).2.2 k hk⟩⟩
        · refine zip rfl ?_
          refine kF 4 0 _ (Or.inr ⟨hr, Or.inr ⟨hr2, Or.inr ⟨hr3, Or.inl ⟨rfl, hno⟩⟩⟩⟩) (fun c j q1 q2 q3 q4 q5 q6 q7 q8 => ?_) ?_ ?_ zu_same ?_
          · rw [zu_ne (by omega), fa c j (by omega) q3 q4 q5 q6 q7]; exact fA1' c j (by omega) q2
          · rw [zu_nj (by decide), fa _ _ (by omega) (by omega) (by omega) (by omega) (by omega) (by omega)]; exact i1
          · rw [zu_nj (by decide), fa _ _ (by omega) (by omega) (by omega) (by omega) (by omega) (by omega)]; exact i3
          · rw [zu_nc (by decide), fa _ _ (by omega) (by omega) (by omega) (by omega) (by omega) (by omega)]; exact i175
