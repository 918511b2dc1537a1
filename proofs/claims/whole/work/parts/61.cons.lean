/-! PURE 22: what is judged well; the order of states -/
abbrev TS : Type := Nat → Option (List Nat × (Nat → Nat))
def sho (c : Nat) : Nat := if 84 ≤ c ∧ c ≤ 96 then c - 64 else c
def gon (c : Nat) : Prop := c ≠ 20 ∧ c ≠ 84 ∧ c ≠ 33 ∧ c ≠ 41 ∧ c ≠ 42
def Cov (T : TS) (q : Nat) (s : List Nat) (l : Nat → Nat) : Prop := ∃ lq, T q = some (s, lq) ∧ ble lq l
def hin (A : Nat → Nat → Nat) (k p : Nat) : Prop := A 3 (4 * k) ≤ p ∧ p < A 3 (4 * k + 1)
/-- what comes of a state at p is covered -/
def SC (A : Nat → Nat → Nat) (ar : Nat → Nat) (T : TS) (p : Nat) (s : List Nat) (l : Nat → Nat) : Prop :=
  (∀ k, k < A 0 3 → hin A k p → Cov T (A 3 (4 * k + 2)) [1] l) ∧ ∃ s2 l2, eff (sho (A 1 p)) (A 1 (p + 1)) ar s l = some (s2, l2) ∧
    (∀ i, i < njp A p → ∀ q, tgx A p i = nI q → q < A 0 2 → Cov T q s2 l2) ∧ (gon (A 1 p) → p + A 2 p < A 0 2 ∧ Cov T (p + A 2 p) s2 l2)
def l0 (A : Nat → Nat → Nat) : Nat → Nat := fun k => if k < A 0 0 then 1 else 0
/-- states lie at INSTRUCTIONS, and are good -/
def TG (A : Nat → Nat → Nat) (T : TS) : Prop := ∀ p s l, T p = some (s, l) → p < A 0 2 ∧ 0 < A 2 p ∧ gs s ∧ gl l
def Cons (A : Nat → Nat → Nat) (ar : Nat → Nat) (T : TS) : Prop := TG A T ∧ Cov T 0 [] (l0 A) ∧ ∀ p s l, T p = some (s, l) → SC A ar T p s l
/-- C is above T -/
def abv (C T : TS) : Prop := ∀ p s l, C p = some (s, l) → ∃ l', T p = some (s, l') ∧ ble l' l
def jnl (l' l : Nat → Nat) : Nat → Nat := fun k => if l' k = l k then l' k else 0
def upC (C : TS) (q : Nat) (v : List Nat × (Nat → Nat)) : TS := fun p => if p = q then some v else C p
/-- C' is C with (s, l) come to q; 'wrong' is another thing -/
def Cm (C : TS) (q : Nat) (s : List Nat) (l : Nat → Nat) (C' : TS) : Prop :=
  (C q = none ∧ C' = upC C q (s, l)) ∨ (∃ l', C q = some (s, l') ∧ C' = upC C q (s, jnl l' l))
theorem jnl_ble {l' l : Nat → Nat} : ble (jnl l' l) l' := fun k _ => by unfold jnl; split <;> simp
theorem jnl_ble2 {l' l : Nat → Nat} : ble (jnl l' l) l := fun k _ => by
  unfold jnl
  split
  · rename_i h; exact Or.inl h
  · exact Or.inr rfl
theorem jnl_max {a l' l : Nat → Nat} (h : ble a l') (g : ble a l) : ble a (jnl l' l) := fun k hk => by
  rcases h k hk with h | h
  · rcases g k hk with g | g
    · left
      unfold jnl
      rw [if_pos (by rw [← h, g]), h]
    · exact Or.inr g
  · exact Or.inr h
theorem gl_jnl {l' l : Nat → Nat} (h : gl l') : gl (jnl l' l) := fun k => by
  have := h k
  unfold jnl; split <;> omega
theorem abv_Cm {C T C' : TS} {q : Nat} {s : List Nat} {l : Nat → Nat} (h : abv C T) (hc : Cov T q s l) (hm : Cm C q s l C') : abv C' T := by
  obtain ⟨lq, e1, e2⟩ := hc
  intro p s1 l1 e
  rcases hm with ⟨h0, rfl⟩ | ⟨l', h0, rfl⟩
  · unfold upC at e
    split at e
    · cases e
      rename_i hp; subst hp
      exact ⟨lq, e1, e2⟩
    · exact h p s1 l1 e
  · unfold upC at e
    split at e
    · cases e
      rename_i hp; subst hp
      obtain ⟨l'', e3, e4⟩ := h _ _ _ h0
      rw [e1] at e3
      cases e3
      exact ⟨lq, e1, jnl_max e4 e2⟩
    · exact h p s1 l1 e
/-- nothing is wrong where something consistent lies below -/
theorem Cm_ok {C T : TS} {q : Nat} {s : List Nat} {l : Nat → Nat} (h : abv C T) (hc : Cov T q s l) : C q = none ∨ ∃ l', C q = some (s, l') := by
  obtain ⟨lq, e1, e2⟩ := hc
  cases e : C q with
  | none => exact Or.inl rfl
  | some v =>
    obtain ⟨s1, l1⟩ := v
    obtain ⟨l', e3, -⟩ := h _ _ _ e
    rw [e1] at e3
    cases e3
    exact Or.inr ⟨l1, rfl⟩
theorem Cov_Cm {C C' : TS} {q : Nat} {s : List Nat} {l : Nat → Nat} (hm : Cm C q s l C') : Cov C' q s l := by
  rcases hm with ⟨h0, rfl⟩ | ⟨l', h0, rfl⟩
  · exact ⟨l, by unfold upC; rw [if_pos rfl], ble_r l⟩
  · exact ⟨_, by unfold upC; rw [if_pos rfl], jnl_ble2⟩
/-- C' is below C, with no place less -/
def blw (C' C : TS) : Prop := ∀ p s l, C p = some (s, l) → ∃ l', C' p = some (s, l') ∧ ble l' l
theorem blw_r (C : TS) : blw C C := fun p s l e => ⟨l, e, ble_r l⟩
theorem blw_t {A B C : TS} (h : blw A B) (g : blw B C) : blw A C := fun p s l e => by
  obtain ⟨l1, e1, b1⟩ := g p s l e
  obtain ⟨l2, e2, b2⟩ := h p s l1 e1
  exact ⟨l2, e2, ble_t b2 b1⟩
theorem blw_Cm {C C' : TS} {q : Nat} {s : List Nat} {l : Nat → Nat} (hm : Cm C q s l C') : blw C' C := by
  intro p s1 l1 e
  rcases hm with ⟨h0, rfl⟩ | ⟨l', h0, rfl⟩
  · unfold upC
    by_cases hp : p = q
    · subst hp; rw [h0] at e; cases e
    · rw [if_neg hp]; exact ⟨l1, e, ble_r l1⟩
  · unfold upC
    by_cases hp : p = q
    · subst hp
      rw [h0] at e; cases e
      rw [if_pos rfl]
      exact ⟨_, rfl, jnl_ble⟩
    · rw [if_neg hp]; exact ⟨l1, e, ble_r l1⟩
theorem Cov_blw {C C' : TS} {q : Nat} {s : List Nat} {l : Nat → Nat} (h : blw C' C) (hc : Cov C q s l) : Cov C' q s l := by
  obtain ⟨lq, e1, e2⟩ := hc
  obtain ⟨l', e3, e4⟩ := h _ _ _ e1
  exact ⟨l', e3, ble_t e4 e2⟩
theorem SC_blw {A : Nat → Nat → Nat} {ar : Nat → Nat} {C C' : TS} {p : Nat} {s : List Nat} {l : Nat → Nat} (h : blw C' C) (hs : SC A ar C p s l) : SC A ar C' p s l := by
  obtain ⟨h1, s2, l2, h2, h3, h4⟩ := hs
  exact ⟨fun k hk hi => Cov_blw h (h1 k hk hi), s2, l2, h2, fun i hi q hq hl => Cov_blw h (h3 i hi q hq hl), fun g => ⟨(h4 g).1, Cov_blw h (h4 g).2⟩⟩
/-- two consistent ones, each above the other, are the same -/
theorem abv_anti {C T : TS} (h : abv C T) (g : abv T C) : ∀ p, (C p = none ↔ T p = none) ∧ ∀ s l s' l', C p = some (s, l) → T p = some (s', l') → s = s' ∧ ∀ k, k < 12 → l k = l' k := by
  intro p
  refine ⟨⟨fun e => ?_, fun e => ?_⟩, fun s l s' l' e1 e2 => ?_⟩
  · cases e2 : T p with
    | none => rfl
    | some v =>
      obtain ⟨l', e3, -⟩ := g p v.1 v.2 e2
      rw [e] at e3; cases e3
  · cases e2 : C p with
    | none => rfl
    | some v =>
      obtain ⟨l', e3, -⟩ := h p v.1 v.2 e2
      rw [e] at e3; cases e3
  · obtain ⟨a, h1, h2⟩ := h _ _ _ e1
    obtain ⟨b, g1, g2⟩ := g _ _ _ e2
    rw [e2] at h1
    rw [e1] at g1
    cases h1
    cases g1
    refine ⟨rfl, fun k hk => ?_⟩
    rcases h2 k hk with h | h
    · exact h.symm
    · rcases g2 k hk with g | g
      · exact g
      · rw [g, h]
/-- the effect of a state that lies above a consistent one -/
theorem SC_abv {A : Nat → Nat → Nat} {ar : Nat → Nat} {T : TS} {p : Nat} {s : List Nat} {l' l : Nat → Nat} (hn : sho (A 1 p) = 3 ∨ sho (A 1 p) = 4 ∨ sho (A 1 p) = 5 → A 1 (p + 1) < 12) (hb : ble l' l) (hs : SC A ar T p s l') : SC A ar T p s l := by
  obtain ⟨h1, s2, l2', h2, h3, h4⟩ := hs
  obtain ⟨l2, h5, h6⟩ := eff_mono hn hb h2
  have wk : ∀ {q : Nat} {z : List Nat} {a b : Nat → Nat}, ble a b → Cov T q z a → Cov T q z b := fun hab ⟨lq, e1, e2⟩ => ⟨lq, e1, ble_t e2 hab⟩
  exact ⟨fun k hk hi => wk hb (h1 k hk hi), s2, l2, h5, fun i hi q hq hl => wk h6 (h3 i hi q hq hl), fun g => ⟨(h4 g).1, wk h6 (h4 g).2⟩⟩
/-- the measure: what may still change -/
def cnz (l : Nat → Nat) : Nat → Nat
  | 0 => 0
  | k + 1 => cnz l k + (if l k = 0 then 0 else 1)
def mu1 (v : Option (List Nat × (Nat → Nat))) : Nat := match v with
  | none => 13
  | some v => cnz v.2 12
def mu (C : TS) : Nat → Nat
  | 0 => 0
  | p + 1 => mu C p + mu1 (C p)
theorem cnz_le (l : Nat → Nat) : ∀ n, cnz l n ≤ n
  | 0 => Nat.le_refl _
  | n + 1 => by have := cnz_le l n; rw [cnz]; split <;> omega
theorem cnz_ble {l' l : Nat → Nat} (h : ble l' l) : ∀ n, n ≤ 12 → cnz l' n ≤ cnz l n ∧ ((∃ k, k < n ∧ l' k ≠ l k) → cnz l' n < cnz l n)
  | 0, _ => ⟨Nat.le_refl _, fun ⟨k, hk, _⟩ => absurd hk (by omega)⟩
  | n + 1, hn => by
    obtain ⟨h1, h2⟩ := cnz_ble h n (by omega)
    rw [cnz, cnz]
    refine ⟨?_, fun ⟨k, hk, hne⟩ => ?_⟩
    · rcases h n (by omega) with e | e
      · rw [e]; omega
      · rw [if_pos e]; split <;> omega
    · by_cases e : k = n
      · subst e
        rcases h k (by omega) with e | e
        · exact absurd e hne
        · rw [if_pos e, if_neg (by omega)]; omega
      · have := h2 ⟨k, by omega, hne⟩
        rcases h n (by omega) with e | e
        · rw [e]; omega
        · rw [if_pos e]; split <;> omega
theorem mu_up {C : TS} {q : Nat} {v : List Nat × (Nat → Nat)} : ∀ n, q < n → mu (upC C q v) n + mu1 (C q) = mu C n + mu1 (some v)
  | 0, h => absurd h (by omega)
  | n + 1, h => by
    rw [mu, mu]
    by_cases e : q = n
    · subst e
      have e1 : mu (upC C q v) q = mu C q := by
        have : ∀ k, k ≤ q → mu (upC C q v) k = mu C k := by
          intro k
          induction k with
          | zero => intro _; rfl
          | succ k ih => intro hk; rw [mu, mu, ih (by omega)]; unfold upC; rw [if_neg (by omega)]
        exact this q (Nat.le_refl _)
      rw [e1]
      unfold upC
      rw [if_pos rfl]; omega
    · have := mu_up (C := C) (v := v) n (by omega : q < n)
      have e2 : upC C q v n = C n := by unfold upC; rw [if_neg (by omega)]
      rw [e2]; omega
theorem mu_le (C : TS) : ∀ n, mu C n ≤ 13 * n
  | 0 => Nat.le_refl _
  | n + 1 => by
    have := mu_le C n
    have h2 : mu1 (C n) ≤ 13 := by
      unfold mu1
      split
      · exact Nat.le_refl _
      · have := cnz_le (by rename_i v _; exact v.2) 12; rename_i v _; have := cnz_le v.2 12; omega
    rw [mu]; omega
/-- something come changes the measure, or nothing -/
theorem mu_Cm {C C' : TS} {q N : Nat} {s : List Nat} {l : Nat → Nat} (hq : q < N) (hm : Cm C q s l C') : mu C' N ≤ mu C N ∧ ((C q = none ∨ ∃ l', C q = some (s, l') ∧ ∃ k, k < 12 ∧ jnl l' l k ≠ l' k) → mu C' N < mu C N) := by
  rcases hm with ⟨h0, rfl⟩ | ⟨l', h0, rfl⟩
  · have h1 := mu_up (C := C) (q := q) (v := (s, l)) N hq
    have h2 : mu1 (some (s, l)) ≤ 12 := cnz_le l 12
    rw [h0] at h1
    have h3 : mu1 (none : Option (List Nat × (Nat → Nat))) = 13 := rfl
    omega
  · have h1 := mu_up (C := C) (q := q) (v := (s, jnl l' l)) N hq
    have h2 := cnz_ble (jnl_ble (l' := l') (l := l)) 12 (Nat.le_refl _)
    rw [h0] at h1
    have e1 : mu1 (some (s, l')) = cnz l' 12 := rfl
    have e2 : mu1 (some (s, jnl l' l)) = cnz (jnl l' l) 12 := rfl
    refine ⟨by omega, fun h => ?_⟩
    rcases h with h | ⟨l1, h, k, hk, hne⟩
    · rw [h0] at h; cases h
    · rw [h0] at h; cases h
      have := h2.2 ⟨k, hk, hne⟩
      omega
