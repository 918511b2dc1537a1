/-! PURE 31: the reference: what comes to a place -/
def RCx (A : Nat → Nat → Nat) (m : Nat) (C : TS) (I : zI) : Prop := ∀ p, p < A 0 2 → 0 < A 2 p → (C p = none → I 167 (400 * m + p) = -1) ∧ ∀ s l, C p = some (s, l) → I 167 (400 * m + p) = nI s.length ∧ (∀ k, k < 12 → I 168 (12 * (400 * m + p) + k) = nI (l k)) ∧ (∀ k, k < s.length → I 169 (10 * (400 * m + p) + k) = nI (bot s k))
def FrK (m : Nat) (I I' : zI) : Prop := ∀ c j, ¬ (c = 155 ∧ (j = 38 ∨ j = 39)) → ¬ (c = 167 ∧ 400 * m ≤ j ∧ j < 400 * m + 400) → ¬ (c = 168 ∧ 4800 * m ≤ j ∧ j < 4800 * m + 4800) → ¬ (c = 169 ∧ 4000 * m ≤ j ∧ j < 4000 * m + 4000) → I' c j = I c j
theorem FrK_r (m : Nat) (I : zI) : FrK m I I := fun _ _ _ _ _ _ => rfl
theorem FrK_t {m : Nat} {I J L : zI} (h : FrK m I J) (g : FrK m J L) : FrK m I L := fun c j q1 q2 q3 q4 => by rw [g c j q1 q2 q3 q4, h c j q1 q2 q3 q4]
theorem FrK_u {m c j : Nat} {I : zI} {x : Int32} (h : (c = 155 ∧ (j = 38 ∨ j = 39)) ∨ (c = 167 ∧ 400 * m ≤ j ∧ j < 400 * m + 400) ∨ (c = 168 ∧ 4800 * m ≤ j ∧ j < 4800 * m + 4800) ∨ (c = 169 ∧ 4000 * m ≤ j ∧ j < 4000 * m + 4000)) : FrK m I (zu I c j x) := fun a i q1 q2 q3 q4 => zu_ne (by omega)
def RS (A : Nat → Nat → Nat) (m : Nat) (C : TS) (I : zI) : Prop := RM0 A m I ∧ TG A C ∧ RCx A m C I
theorem RM0_K {A : Nat → Nat → Nat} {m : Nat} {I I' : zI} (h : RM0 A m I) (f : FrK m I I') : RM0 A m I' := by
  obtain ⟨h1, h2, h3, h4, h5, h6⟩ := h
  refine ⟨?_, ?_, ?_, ?_, fun p hp => ⟨?_, ?_⟩, fun k hk => ⟨?_, ?_, ?_, ?_⟩⟩
  · rw [f _ _ (by omega) (by omega) (by omega) (by omega)]; exact h1
  · rw [f _ _ (by omega) (by omega) (by omega) (by omega)]; exact h2
  · rw [f _ _ (by omega) (by omega) (by omega) (by omega)]; exact h3
  · rw [f _ _ (by omega) (by omega) (by omega) (by omega)]; exact h4
  · rw [f _ _ (by omega) (by omega) (by omega) (by omega)]; exact (h5 p hp).1
  · rw [f _ _ (by omega) (by omega) (by omega) (by omega)]; exact (h5 p hp).2
  · rw [f _ _ (by omega) (by omega) (by omega) (by omega)]; exact (h6 k hk).1
  · rw [f _ _ (by omega) (by omega) (by omega) (by omega)]; exact (h6 k hk).2.1
  · rw [f _ _ (by omega) (by omega) (by omega) (by omega)]; exact (h6 k hk).2.2.1
  · rw [f _ _ (by omega) (by omega) (by omega) (by omega)]; exact (h6 k hk).2.2.2
theorem Cur_K {m : Nat} {s : List Nat} {l : Nat → Nat} {I I' : zI} (h : CurM s l I) (f : FrK m I I') : CurM s l I' := ⟨by rw [f _ _ (by omega) (by omega) (by omega) (by omega)]; exact h.1, fun k hk => by rw [f _ _ (by omega) (by omega) (by omega) (by omega)]; exact h.2.1 k hk, fun k hk => by rw [f _ _ (by omega) (by omega) (by omega) (by omega)]; exact h.2.2 k hk⟩
theorem bot_ext : ∀ {s r : List Nat}, s.length = r.length → (∀ k, k < s.length → bot s k = bot r k) → s = r
  | [], [], _, _ => rfl
  | [], _ :: _, h, _ => by simp at h
  | _ :: _, [], h, _ => by simp at h
  | t :: s, u :: r, hl, h => by
    have hl2 : s.length = r.length := by simpa using hl
    have h1 := h s.length (by simp)
    rw [bot, bot, if_pos rfl, if_pos hl2] at h1
    have h2 : s = r := bot_ext hl2 (fun k hk => by
      have := h k (by simp; omega)
      rw [bot, bot, if_neg (by omega), if_neg (by omega)] at this
      exact this)
    rw [h1, h2]
/-- the LOCALS are joined -/
theorem l_210 {m q : Nat} {l' l : Nat → Nat} {I0 : zI} {P : zP} {K : zI → zP → Prop} (hm : m < 6) (hq : q < 400) (gl' : gl l') (gl1 : gl l) (h7 : ∀ k, k < 12 → I0 187 k = nI (l k))
    (k : ∀ I', (∀ c j, ¬ (c = 155 ∧ j = 39) → ¬ (c = 168 ∧ 12 * (400 * m + q) ≤ j ∧ j < 12 * (400 * m + q) + 12) → I' c j = I0 c j) → (∀ j, j < 12 → I' 168 (12 * (400 * m + q) + j) = nI (jnl l' l j)) → ((I' 155 39 = I0 155 39 ∧ ∀ j, j < 12 → jnl l' l j = l' j) ∨ (I' 155 39 = 1 ∧ ∃ j, j < 12 ∧ jnl l' l j ≠ l' j)) → K I' P) :
    ∀ d i I, i + d = 12 → (∀ c j, ¬ (c = 155 ∧ j = 39) → ¬ (c = 168 ∧ 12 * (400 * m + q) ≤ j ∧ j < 12 * (400 * m + q) + 12) → I c j = I0 c j) → (∀ j, j < i → I 168 (12 * (400 * m + q) + j) = nI (jnl l' l j)) → (∀ j, i ≤ j → j < 12 → I 168 (12 * (400 * m + q) + j) = nI (l' j)) → ((I 155 39 = I0 155 39 ∧ ∀ j, j < i → jnl l' l j = l' j) ∨ (I 155 39 = 1 ∧ ∃ j, j < 12 ∧ jnl l' l j ≠ l' j)) → l_X10_comes_210 K (d + 1) (nI (400 * m + q)) (nI i) I P := by
  intro d
  induction d with
  | zero =>
    intro i I hi f h1 h2 h3
    obtain rfl : i = 12 := by omega
    rw [l_X10_comes_210]
    exact zip (nI_le (a := 12) (by omega) (by omega)) (k I f h1 h3)
  | succ d ih =>
    intro i I hi f h1 h2 h3
    rw [l_X10_comes_210]
    have e12 : 12 * nI (400 * m + q) + nI i = nI (12 * (400 * m + q) + i) := by rw [show (12 : Int32) = nI 12 from rfl, pk_mul, nI_add]
    have a1 := gl' i
    have a2 := gl1 i
    rw [e12, nI_clamp (by omega), nI_clamp (by omega), h2 i (Nat.le_refl _) (by omega), f 187 i (by omega) (by omega), h7 i (by omega), nI_1]
    refine zin (nI_ge (b := 12) (by omega) (by decide)) ⟨vp_in_nI (by omega) (by decide), vp_in_nI (by omega) (by decide), ?_⟩
    have same : jnl l' l i = l' i → l_X10_comes_210 K (d + 1) (nI (400 * m + q)) (nI (i + 1)) I P := fun e => by
      refine ih (i + 1) I (by omega) f (fun j hj => ?_) (fun j hj1 hj2 => h2 j (by omega) hj2) ?_
      · by_cases ej : j = i
        · rw [ej, e]; exact h2 i (Nat.le_refl _) (by omega)
        · exact h1 j (by omega)
      · rcases h3 with ⟨g1, g2⟩ | g
        · refine Or.inl ⟨g1, fun j hj => ?_⟩
          by_cases ej : j = i
          · rw [ej, e]
          · exact g2 j (by omega)
        · exact Or.inr g
    by_cases g1 : l' i = l i
    · exact zip (by rw [g1]) (same (by unfold jnl; rw [if_pos g1]))
    · refine zin (fun e => g1 ((nI_eq (by omega) (by omega)).mp e)) ⟨vp_in_nI (by omega) (by decide), ?_⟩
      by_cases g2 : l' i = 0
      · exact zip (by rw [g2]; rfl) (same (by unfold jnl; rw [if_neg g1, g2]))
      · refine zin (fun e => g2 ((nI_eq (b := 0) (by omega) (by decide)).mp e)) ⟨vp_in_nI (by omega) (by decide), ?_⟩
        have ej : jnl l' l i = 0 := by unfold jnl; rw [if_neg g1]
        refine ih (i + 1) _ (by omega) (fun c j q1 q2 => ?_) (fun j hj => ?_) (fun j hj1 hj2 => ?_) (Or.inr ⟨zu_same, i, by omega, by rw [ej]; exact fun h => g2 h.symm⟩)
        · rw [zu_ne q1, zu_ne (by omega)]; exact f c j q1 q2
        · rw [zu_nc (by decide)]
          by_cases e : j = i
          · rw [e, zu_same, ej]; rfl
          · rw [zu_nj (by omega)]; exact h1 j (by omega)
        · rw [zu_nc (by decide), zu_nj (by omega)]; exact h2 j (by omega) hj2
theorem n_210 {m q : Nat} {P : zP} {K : zI → zP → Prop} (hm : m < 6) (hq : q < 400) : ∀ d i I, i + d = 12 → (∀ I', FrK m I I' → (∀ c j, c ≠ 168 → ¬ (c = 155 ∧ j = 39) → I' c j = I c j) → K I' P) → l_X10_comes_210 K (d + 1) (nI (400 * m + q)) (nI i) I P := by
  intro d
  induction d with
  | zero =>
    intro i I hi k
    obtain rfl : i = 12 := by omega
    rw [l_X10_comes_210]
    exact zip (nI_le (a := 12) (by omega) (by omega)) (k I (FrK_r m I) (fun _ _ _ _ => rfl))
  | succ d ih =>
    intro i I hi k
    rw [l_X10_comes_210]
    have e12 : 12 * nI (400 * m + q) + nI i = nI (12 * (400 * m + q) + i) := by rw [show (12 : Int32) = nI 12 from rfl, pk_mul, nI_add]
    rw [e12, nI_clamp (by omega), nI_clamp (by omega), nI_1]
    refine zin (nI_ge (b := 12) (by omega) (by decide)) ⟨vp_in_nI (by omega) (by decide), vp_in_nI (by omega) (by decide), ?_⟩
    split
    · exact ih (i + 1) I (by omega) k
    · refine ⟨vp_in_nI (by omega) (by decide), ?_⟩
      split
      · exact ih (i + 1) I (by omega) k
      · refine ⟨vp_in_nI (by omega) (by decide), ih (i + 1) _ (by omega) (fun I' f g => k I' (FrK_t (FrK_u (by omega)) (FrK_t (FrK_u (by omega)) f)) (fun c j q1 q2 => ?_))⟩
        rw [g c j q1 q2, zu_ne q2, zu_nc q1]
/-- first come: all is written -/
theorem l_82 {m q : Nat} {s : List Nat} {l : Nat → Nat} {I0 : zI} {P : zP} {K : zI → zP → Prop} (hm : m < 6) (hq : q < 400) (hs : s.length ≤ 10) (h : CurM s l I0) (k : ∀ I', (∀ c j, ¬ (c = 155 ∧ j = 39) → ¬ (c = 169 ∧ 10 * (400 * m + q) ≤ j ∧ j < 10 * (400 * m + q) + 10) → I' c j = I0 c j) → I' 155 39 = 1 → (∀ j, j < s.length → I' 169 (10 * (400 * m + q) + j) = nI (bot s j)) → K I' P) :
    ∀ d i I, i + d = s.length → (∀ c j, ¬ (c = 169 ∧ 10 * (400 * m + q) ≤ j ∧ j < 10 * (400 * m + q) + 10) → I c j = I0 c j) → (∀ j, j < i → I 169 (10 * (400 * m + q) + j) = nI (bot s j)) → l_X10_comes_82 K (d + 1) (nI (400 * m + q)) (nI i) I P := by
  intro d
  induction d with
  | zero =>
    intro i I hi f h1
    obtain rfl : i = s.length := by omega
    rw [l_X10_comes_82]
    refine zip (by rw [f _ _ (by omega), h.1]; exact nI_le (Nat.le_refl _) (by omega)) (k _ (fun c j q1 q2 => by rw [zu_ne q1]; exact f c j q2) zu_same (fun j hj => by rw [zu_nc (by decide)]; exact h1 j hj))
  | succ d ih =>
    intro i I hi f h1
    rw [l_X10_comes_82]
    have e10 : 10 * nI (400 * m + q) + nI i = nI (10 * (400 * m + q) + i) := by rw [show (10 : Int32) = nI 10 from rfl, pk_mul, nI_add]
    rw [e10, nI_clamp (by omega), nI_clamp (by omega), f 188 i (by omega), h.2.2 i (by omega), nI_1]
    refine zin (by rw [f _ _ (by omega), h.1]; exact nI_ge (by omega) (by omega)) ⟨vp_in_nI (by omega) (by decide), vp_in_nI (by omega) (by decide), ih (i + 1) _ (by omega) (fun c j q1 => by rw [zu_ne (by omega)]; exact f c j q1) (fun j hj => ?_)⟩
    by_cases e : j = i
    · rw [e, zu_same]
    · rw [zu_nj (by omega)]; exact h1 j (by omega)
theorem l_47 {m q : Nat} {s : List Nat} {l : Nat → Nat} {I0 : zI} {P : zP} {K : zI → zP → Prop} (hm : m < 6) (hq : q < 400) (hs : s.length ≤ 10) (h : CurM s l I0) (k : ∀ I', (∀ c j, ¬ (c = 155 ∧ j = 39) → ¬ (c = 168 ∧ 12 * (400 * m + q) ≤ j ∧ j < 12 * (400 * m + q) + 12) → ¬ (c = 169 ∧ 10 * (400 * m + q) ≤ j ∧ j < 10 * (400 * m + q) + 10) → I' c j = I0 c j) → I' 155 39 = 1 → (∀ j, j < 12 → I' 168 (12 * (400 * m + q) + j) = nI (l j)) → (∀ j, j < s.length → I' 169 (10 * (400 * m + q) + j) = nI (bot s j)) → K I' P) :
    ∀ d i I, i + d = 12 → (∀ c j, ¬ (c = 168 ∧ 12 * (400 * m + q) ≤ j ∧ j < 12 * (400 * m + q) + 12) → I c j = I0 c j) → (∀ j, j < i → I 168 (12 * (400 * m + q) + j) = nI (l j)) → l_X10_comes_47 K (d + 1) (nI (400 * m + q)) (nI i) I P := by
  intro d
  induction d with
  | zero =>
    intro i I hi f h1
    obtain rfl : i = 12 := by omega
    rw [l_X10_comes_47]
    have hc : CurM s l I := ⟨by rw [f _ _ (by omega)]; exact h.1, fun j hj => by rw [f _ _ (by omega)]; exact h.2.1 j hj, fun j hj => by rw [f _ _ (by omega)]; exact h.2.2 j hj⟩
    refine zip (nI_le (a := 12) (by omega) (by omega)) ⟨s.length + 1, l_82 hm hq hs hc (fun I' g1 g2 g3 => k I' (fun c j q1 q2 q3 => by rw [g1 c j q1 q3, f c j q2]) g2 (fun j hj => by rw [g1 _ _ (by omega) (by omega)]; exact h1 j hj) g3) s.length 0 I (by omega) (fun _ _ _ => rfl) (fun j hj => absurd hj (by omega))⟩
  | succ d ih =>
    intro i I hi f h1
    rw [l_X10_comes_47]
    have e12 : 12 * nI (400 * m + q) + nI i = nI (12 * (400 * m + q) + i) := by rw [show (12 : Int32) = nI 12 from rfl, pk_mul, nI_add]
    rw [e12, nI_clamp (by omega), nI_clamp (by omega), f 187 i (by omega), h.2.1 i (by omega), nI_1]
    refine zin (nI_ge (b := 12) (by omega) (by decide)) ⟨vp_in_nI (by omega) (by decide), vp_in_nI (by omega) (by decide), ih (i + 1) _ (by omega) (fun c j q1 => by rw [zu_ne (by omega)]; exact f c j q1) (fun j hj => ?_)⟩
    by_cases e : j = i
    · rw [e, zu_same]
    · rw [zu_nj (by omega)]; exact h1 j (by omega)
/-- the STACKS are compared -/
theorem l_154 {m q : Nat} {s' s : List Nat} {l : Nat → Nat} {I0 : zI} {P : zP} {K : zI → zP → Prop} (hm : m < 6) (hq : q < 400) (g4' : gs s') (g4 : gs s) (hl : s'.length = s.length) (h : CurM s l I0) (h9 : ∀ k, k < s'.length → I0 169 (10 * (400 * m + q) + k) = nI (bot s' k))
    (k1 : s' = s → (∃ n, l_X10_comes_210 K n (nI (400 * m + q)) 0 (zu I0 155 38 1) P)) (k2 : s' ≠ s → ∃ n, l_X10_comes_210 K n (nI (400 * m + q)) 0 (zu I0 155 38 0) P) :
    ∀ d i, i + d = s.length → (∀ j, j < i → bot s' j = bot s j) → l_X10_comes_154 K (d + 2) (nI (400 * m + q)) (nI i) (zu I0 155 38 1) P := by
  have zz : ∀ x y : Int32, zu (zu I0 155 38 x) 155 38 y = zu I0 155 38 y := fun x y => by
    funext a b
    by_cases e : a = 155 ∧ b = 38
    · obtain ⟨rfl, rfl⟩ := e; rw [zu_same, zu_same]
    · rw [zu_ne e, zu_ne e, zu_ne e]
  intro d
  induction d with
  | zero =>
    intro i hi hb
    obtain rfl : i = s.length := by omega
    rw [l_X10_comes_154]
    exact zip (by rw [zu_nj (by decide), h.1]; exact nI_le (Nat.le_refl _) (by have := g4.1; omega)) (k1 (bot_ext hl (fun j hj => hb j (by omega))))
  | succ d ih =>
    intro i hi hb
    rw [l_X10_comes_154]
    have e10 : 10 * nI (400 * m + q) + nI i = nI (10 * (400 * m + q) + i) := by rw [show (10 : Int32) = nI 10 from rfl, pk_mul, nI_add]
    have hs := g4.1
    have b1 := bot_lt g4 i
    have b2 := bot_lt g4' i
    rw [e10, nI_clamp (by omega), nI_clamp (by omega), zu_nc (a := 169) (by decide), zu_nc (a := 188) (by decide), h9 i (by omega), h.2.2 i (by omega), nI_1, zz, zz]
    refine zin (by rw [zu_nj (by decide), h.1]; exact nI_ge (by omega) (by omega)) (zin (by rw [zu_same]; decide) ⟨vp_in_nI (by omega) (by decide), vp_in_nI (by omega) (by decide), ?_⟩)
    by_cases e : bot s' i = bot s i
    · refine zip (by rw [e]) (ih (i + 1) (by omega) (fun j hj => ?_))
      by_cases ej : j = i
      · rw [ej, e]
      · exact hb j (by omega)
    · refine zin (fun z => e ((nI_eq (by omega) (by omega)).mp z)) ?_
      have nes : s' ≠ s := fun z => e (by rw [z])
      rw [l_X10_comes_154]
      by_cases e2 : nI s.length ≤ nI (i + 1)
      · exact zip (by rw [zu_nj (by decide), h.1]; exact e2) (k2 nes)
      · exact zin (by rw [zu_nj (by decide), h.1]; exact e2) (zip zu_same (k2 nes))
