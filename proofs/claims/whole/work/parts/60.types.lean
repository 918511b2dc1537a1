/-! PURE 21: TYPES: what is meant -/
def enR : List Nat → Nat
  | [] => 0
  | t :: r => enR r + t * 4 ^ r.length
def enS (s : List Nat) : Nat := enR s + s.length * 1048576
def bot : List Nat → Nat → Nat
  | [], _ => 0
  | t :: r, k => if k = r.length then t else bot r k
def gs (s : List Nat) : Prop := s.length ≤ 10 ∧ ∀ t, t ∈ s → t = 1 ∨ t = 2
def gl (l : Nat → Nat) : Prop := ∀ k, l k < 3
theorem enR_lt : ∀ {s : List Nat}, (∀ t, t ∈ s → t < 4) → enR s < 4 ^ s.length
  | [], _ => by simp [enR]
  | t :: r, h => by
    have h1 := enR_lt (s := r) (fun x hx => h x (List.mem_cons_of_mem _ hx))
    have h2 := h t (List.mem_cons_self)
    have h3 : t * 4 ^ r.length ≤ 3 * 4 ^ r.length := Nat.mul_le_mul_right _ (by omega)
    rw [enR, List.length_cons, Nat.pow_succ]; omega
theorem enR_lt20 {s : List Nat} (h : ∀ t, t ∈ s → t < 4) (hl : s.length ≤ 10) : enR s < 1048576 := by
  have h1 := enR_lt h
  have h2 : 4 ^ s.length ≤ 4 ^ 10 := Nat.pow_le_pow_right (by decide) hl
  have h3 : (4 : Nat) ^ 10 = 1048576 := by decide
  omega
theorem enR_inj : ∀ {s r : List Nat}, (∀ t, t ∈ s → t < 4) → (∀ t, t ∈ r → t < 4) → s.length = r.length → enR s = enR r → s = r
  | [], [], _, _, _, _ => rfl
  | [], _ :: _, _, _, h, _ => by simp at h
  | _ :: _, [], _, _, h, _ => by simp at h
  | t :: s, u :: r, h1, h2, hl, he => by
    have hl2 : s.length = r.length := by simpa using hl
    have a1 := enR_lt (s := s) (fun x hx => h1 x (List.mem_cons_of_mem _ hx))
    have a2 := enR_lt (s := r) (fun x hx => h2 x (List.mem_cons_of_mem _ hx))
    rw [enR, enR, hl2] at he
    rw [hl2] at a1
    have hp : 0 < 4 ^ r.length := Nat.pow_pos (by decide)
    have e1 : t = u := by
      have q1 : (enR s + t * 4 ^ r.length) / 4 ^ r.length = t := by rw [Nat.add_mul_div_right _ _ hp, Nat.div_eq_of_lt a1, Nat.zero_add]
      have q2 : (enR r + u * 4 ^ r.length) / 4 ^ r.length = u := by rw [Nat.add_mul_div_right _ _ hp, Nat.div_eq_of_lt a2, Nat.zero_add]
      rw [← q1, he, q2]
    subst e1
    have e2 : enR s = enR r := by omega
    rw [enR_inj (fun x hx => h1 x (List.mem_cons_of_mem _ hx)) (fun x hx => h2 x (List.mem_cons_of_mem _ hx)) hl2 e2]
theorem gs4 {s : List Nat} (h : gs s) : ∀ t, t ∈ s → t < 4 := fun t ht => by rcases h.2 t ht with h | h <;> omega
theorem enS_inj {s r : List Nat} (h1 : gs s) (h2 : gs r) (e : enS s = enS r) : s = r := by
  unfold enS at e
  have a1 := enR_lt20 (gs4 h1) h1.1
  have a2 := enR_lt20 (gs4 h2) h2.1
  exact enR_inj (gs4 h1) (gs4 h2) (by omega) (by omega)
theorem pqk_cong {f g : Nat → Nat} : ∀ {n : Nat}, (∀ k, k < n → f k = g k) → pqk f n = pqk g n
  | 0, _ => rfl
  | n + 1, h => by rw [pqk, pqk, h n (by omega), pqk_cong (n := n) (fun k hk => h k (by omega))]
theorem enR_pqk : ∀ s : List Nat, enR s = pqk (bot s) s.length
  | [] => rfl
  | t :: r => by
    rw [enR, enR_pqk r, List.length_cons, pqk]
    have e1 : bot (t :: r) r.length = t := by rw [bot, if_pos rfl]
    rw [e1, pqk_cong (f := bot (t :: r)) (g := bot r) (fun k hk => by rw [bot, if_neg (by omega)])]
theorem bot_lt {s : List Nat} (h : gs s) (k : Nat) : bot s k < 4 := by
  induction s with
  | nil => exact Nat.zero_lt_succ _
  | cons t r ih =>
    rw [bot]
    split
    · rcases h.2 t List.mem_cons_self with h | h <;> omega
    · exact ih ⟨by have := h.1; simp at this; omega, fun x hx => h.2 x (List.mem_cons_of_mem _ hx)⟩
def ble (l' l : Nat → Nat) : Prop := ∀ k, k < 12 → l' k = l k ∨ l' k = 0
theorem ble_r (l : Nat → Nat) : ble l l := fun _ _ => Or.inl rfl
theorem ble_t {a b c : Nat → Nat} (h : ble a b) (g : ble b c) : ble a c := fun k hk => by
  rcases h k hk with h | h
  · rcases g k hk with g | g
    · exact Or.inl (by rw [h, g])
    · exact Or.inr (by rw [h, g])
  · exact Or.inr h
def popI : Nat → List Nat → Option (List Nat)
  | 0, s => some s
  | _ + 1, [] => none
  | n + 1, t :: r => if t = 1 then popI n r else none
def pshT (t : Nat) (s : List Nat) : Option (List Nat) := if s.length < 10 then some (t :: s) else none
def popR (c : Nat) (s : List Nat) : Option (List Nat) := if c = 37 ∨ c = 38 ∨ c = 39 then (match s with
  | [] => none
  | t :: r => if t = 2 then some r else none) else some s
def tki (c : Nat) : Nat := if (9 ≤ c ∧ c ≤ 18) ∨ (27 ≤ c ∧ c ≤ 32) ∨ c = 39 then 2 else if c = 19 ∨ (21 ≤ c ∧ c ≤ 26) ∨ c = 33 ∨ c = 35 ∨ c = 36 ∨ c = 38 ∨ c = 41 ∨ c = 42 ∨ c = 43 then 1 else 0
def pts (c : Nat) : Nat := if c = 36 then 2 else if c = 1 ∨ c = 2 ∨ (9 ≤ c ∧ c ≤ 19) ∨ c = 34 ∨ c = 37 ∨ c = 38 then 1 else 0
def effT (c : Nat) (s : List Nat) : Option (List Nat) := (popI (tki c) s).bind fun s1 => (popR c s1).bind fun s2 => if pts c = 0 then some s2 else pshT (pts c) s2
def upN (l : Nat → Nat) (n t : Nat) : Nat → Nat := fun k => if k = n then t else l k
/-- the effect of an OP (in its short form) with its operand -/
def eff (c n : Nat) (ar : Nat → Nat) (s : List Nat) (l : Nat → Nat) : Option (List Nat × (Nat → Nat)) :=
  if c = 3 then (if l n = 0 then none else (pshT (l n) s).map (fun z => (z, l)))
  else if c = 4 then (match s with
    | [] => none
    | t :: r => some (r, upN l n t))
  else if c = 5 then (if l n = 1 then some (s, l) else none)
  else if c = 6 then (match s with
    | [] => none
    | t :: r => (pshT t (t :: r)).map (fun z => (z, l)))
  else if c = 7 then (match s with
    | [] => none
    | _ :: r => some (r, l))
  else if c = 8 then (match s with
    | w :: v :: r => some (v :: w :: r, l)
    | _ => none)
  else if c = 40 then ((popI (ar n) s).bind (pshT 1)).map (fun z => (z, l))
  else (effT c s).map (fun z => (z, l))
theorem gs_tl {t : Nat} {r : List Nat} (h : gs (t :: r)) : gs r := ⟨by have := h.1; simp at this; omega, fun x hx => h.2 x (List.mem_cons_of_mem _ hx)⟩
theorem gs_psh {t : Nat} {s z : List Nat} (h : gs s) (ht : t = 1 ∨ t = 2) (e : pshT t s = some z) : gs z := by
  unfold pshT at e
  split at e
  · cases e
    refine ⟨by simp; omega, fun x hx => ?_⟩
    rcases List.mem_cons.mp hx with h1 | h1
    · rw [h1]; exact ht
    · exact h.2 x h1
  · cases e
theorem gs_popI : ∀ {n : Nat} {s z : List Nat}, gs s → popI n s = some z → gs z
  | 0, s, z, h, e => by cases e; exact h
  | n + 1, [], z, h, e => by cases e
  | n + 1, t :: r, z, h, e => by
    rw [popI] at e
    split at e
    · exact gs_popI (gs_tl h) e
    · cases e
theorem gs_popR {c : Nat} {s z : List Nat} (h : gs s) (e : popR c s = some z) : gs z := by
  unfold popR at e
  split at e
  · cases s with
    | nil => cases e
    | cons t r =>
      simp only at e
      split at e
      · cases e; exact gs_tl h
      · cases e
  · cases e; exact h
theorem pts_r (c : Nat) : pts c = 0 ∨ pts c = 1 ∨ pts c = 2 := by unfold pts; (repeat' split) <;> simp
theorem eff_good {c n : Nat} {ar : Nat → Nat} {s s2 : List Nat} {l l2 : Nat → Nat} (hs : gs s) (hl : gl l) (e : eff c n ar s l = some (s2, l2)) : gs s2 ∧ gl l2 := by
  unfold eff at e
  split at e
  · split at e
    · cases e
    · obtain ⟨z, hz, e2⟩ := Option.map_eq_some_iff.mp e
      cases e2
      have := hl n
      exact ⟨gs_psh hs (by omega) hz, hl⟩
  split at e
  · split at e
    · cases e
    · cases e
      refine ⟨gs_tl hs, fun k => ?_⟩
      unfold upN
      split
      · rcases hs.2 _ List.mem_cons_self with h | h <;> omega
      · exact hl k
  split at e
  · split at e
    · cases e; exact ⟨hs, hl⟩
    · cases e
  split at e
  · split at e
    · cases e
    · obtain ⟨z, hz, e2⟩ := Option.map_eq_some_iff.mp e
      cases e2
      exact ⟨gs_psh hs (hs.2 _ List.mem_cons_self) hz, hl⟩
  split at e
  · split at e
    · cases e
    · cases e; exact ⟨gs_tl hs, hl⟩
  split at e
  · split at e
    · cases e
      rename_i w v r
      refine ⟨⟨by have := hs.1; simpa using this, fun x hx => hs.2 x ?_⟩, hl⟩
      simp only [List.mem_cons] at hx ⊢
      rcases hx with h | h | h
      · exact Or.inr (Or.inl h)
      · exact Or.inl h
      · exact Or.inr (Or.inr h)
    · cases e
  split at e
  · obtain ⟨z, hz, e2⟩ := Option.map_eq_some_iff.mp e
    cases e2
    obtain ⟨y, hy, e3⟩ := Option.bind_eq_some_iff.mp hz
    exact ⟨gs_psh (gs_popI hs hy) (Or.inl rfl) e3, hl⟩
  · obtain ⟨z, hz, e2⟩ := Option.map_eq_some_iff.mp e
    cases e2
    unfold effT at hz
    obtain ⟨y, hy, e3⟩ := Option.bind_eq_some_iff.mp hz
    obtain ⟨x, hx, e4⟩ := Option.bind_eq_some_iff.mp e3
    have g := gs_popR (gs_popI hs hy) hx
    split at e4
    · cases e4; exact ⟨g, hl⟩
    · have := pts_r c
      exact ⟨gs_psh g (by omega) e4, hl⟩
theorem eff_mono {c n : Nat} {ar : Nat → Nat} {s s2 : List Nat} {l' l l2' : Nat → Nat} (hn : c = 3 ∨ c = 4 ∨ c = 5 → n < 12) (h : ble l' l) (e : eff c n ar s l' = some (s2, l2')) : ∃ l2, eff c n ar s l = some (s2, l2) ∧ ble l2' l2 := by
  unfold eff at *
  by_cases c3 : c = 3
  · rw [if_pos c3] at e ⊢
    split at e
    · cases e
    · rename_i h0
      obtain ⟨z, hz, e2⟩ := Option.map_eq_some_iff.mp e
      cases e2
      rcases h n (hn (Or.inl c3)) with h1 | h1
      · rw [← h1, if_neg h0, hz]
        exact ⟨l, rfl, h⟩
      · exact absurd h1 h0
  rw [if_neg c3] at e ⊢
  by_cases c4 : c = 4
  · rw [if_pos c4] at e ⊢
    split at e
    · cases e
    · cases e
      refine ⟨_, rfl, fun k hk => ?_⟩
      unfold upN
      split
      · exact Or.inl rfl
      · exact h k hk
  rw [if_neg c4] at e ⊢
  by_cases c5 : c = 5
  · rw [if_pos c5] at e ⊢
    split at e
    · rename_i h0
      cases e
      rcases h n (hn (Or.inr (Or.inr c5))) with h1 | h1
      · rw [← h1, if_pos h0]
        exact ⟨l, rfl, h⟩
      · omega
    · cases e
  rw [if_neg c5] at e ⊢
  by_cases c6 : c = 6
  · rw [if_pos c6] at e ⊢
    split at e
    · cases e
    · obtain ⟨z, hz, e2⟩ := Option.map_eq_some_iff.mp e
      cases e2
      simp only [hz]
      exact ⟨l, rfl, h⟩
  rw [if_neg c6] at e ⊢
  by_cases c7 : c = 7
  · rw [if_pos c7] at e ⊢
    split at e
    · cases e
    · cases e; exact ⟨l, rfl, h⟩
  rw [if_neg c7] at e ⊢
  by_cases c8 : c = 8
  · rw [if_pos c8] at e ⊢
    split at e
    · cases e; exact ⟨l, rfl, h⟩
    · cases e
  rw [if_neg c8] at e ⊢
  by_cases c40 : c = 40
  · rw [if_pos c40] at e ⊢
    obtain ⟨z, hz, e2⟩ := Option.map_eq_some_iff.mp e
    cases e2
    rw [hz]
    exact ⟨l, rfl, h⟩
  rw [if_neg c40] at e ⊢
  obtain ⟨z, hz, e2⟩ := Option.map_eq_some_iff.mp e
  cases e2
  rw [hz]
  exact ⟨l, rfl, h⟩
