/-! PURE 36: the METHOD that the TAPE tells -/
def fA (b : Nat → Nat) : Nat → Nat → Nat := fun i j =>
  if i = 0 then (if j = 0 then b 0 else if j = 1 then b 1 else if j = 2 then 256 * b 2 + b 3 else if j = 3 then b (4 + (256 * b 2 + b 3)) else 0)
  else if i = 1 then (if j < 256 * b 2 + b 3 then b (4 + j) else 0)
  else if i = 2 then (if j < 256 * b 2 + b 3 then szo b j else 0)
  else if i = 3 then (if j < 4 * b (4 + (256 * b 2 + b 3)) then hpt b (256 * b 2 + b 3) j else 0)
  else 0
theorem fA00 (b : Nat → Nat) : fA b 0 0 = b 0 := rfl
theorem fA01 (b : Nat → Nat) : fA b 0 1 = b 1 := rfl
theorem fA02 (b : Nat → Nat) : fA b 0 2 = 256 * b 2 + b 3 := rfl
theorem fA03 (b : Nat → Nat) : fA b 0 3 = b (4 + (256 * b 2 + b 3)) := rfl
theorem fA1 {b : Nat → Nat} {p : Nat} (h : p < 256 * b 2 + b 3) : fA b 1 p = b (4 + p) := if_pos h
theorem fA2 {b : Nat → Nat} {p : Nat} (h : p < 256 * b 2 + b 3) : fA b 2 p = szo b p := if_pos h
theorem fA3 {b : Nat → Nat} {k : Nat} (h : k < 4 * b (4 + (256 * b 2 + b 3))) : fA b 3 k = hpt b (256 * b 2 + b 3) k := if_pos h
theorem form_n {b : Nat → Nat} {t m : Nat} (h : formR b t m none) : headF b t = none ∧ (∀ p, p < 256 * b 2 + b 3 → nxt b p = p → insF b t (256 * b 2 + b 3) (b 1) m p = none) ∧ b (4 + (256 * b 2 + b 3)) ≤ 8 ∧ t = 4 + (256 * b 2 + b 3) + 1 + 7 * b (4 + (256 * b 2 + b 3)) := by
  rcases h with ⟨-, h⟩ | ⟨-, h, -⟩ | ⟨h1, h2, h3⟩
  · exact absurd rfl h
  · exact absurd rfl h
  · refine ⟨h1, ?_, ?_⟩
    · rcases h2 with ⟨-, h⟩ | ⟨h, -⟩
      · exact h
      · exact absurd rfl h
    · unfold tailF at h3
      revert h3
      (repeat' split) <;> (intro h; first | (cases h; done) | omega)
theorem W0_of {b : Nat → Nat} {t m : Nat} (hb : ∀ j, j < 600 → b j < 256) (ht : t ≤ 600) (h : formR b t m none) : W0 (fA b) m := by
  obtain ⟨h1, h2, h3, h4⟩ := form_n h
  obtain ⟨q1, q2, q3, q4, q5, q6⟩ := headF_n h1
  have nin := nxt_in (n := 256 * b 2 + b 3) q1 h2
  have ge : ∀ p, p < 256 * b 2 + b 3 → nxt b p = p → 1 ≤ opz (b (4 + p)) (b (4 + p + 1)) := fun p hp hn => (insF_n (h2 p hp hn)).2.2.1
  refine ⟨q2, q3, q4, q5, q6, h3, fun p => ?_, fun k => ?_, ?_, fun p hp hz => ?_, fun p hp => ?_⟩
  · by_cases e : p < 256 * b 2 + b 3
    · rw [fA1 e]; exact hb _ (by omega)
    · show (if p < 256 * b 2 + b 3 then b (4 + p) else 0) < 256
      rw [if_neg e]; decide
  · by_cases e : k < 4 * b (4 + (256 * b 2 + b 3))
    · rw [fA3 e]; unfold hpt
      have k4 : k / 4 < b (4 + (256 * b 2 + b 3)) := by omega
      split
      · have := hb (4 + (256 * b 2 + b 3) + 1 + 7 * (k / 4) + 6) (by omega); omega
      · have := hb (4 + (256 * b 2 + b 3) + 1 + 7 * (k / 4) + 2 * (k % 4)) (by omega)
        have := hb (4 + (256 * b 2 + b 3) + 1 + 7 * (k / 4) + 2 * (k % 4) + 1) (by omega)
        omega
    · show (if k < 4 * b (4 + (256 * b 2 + b 3)) then hpt b (256 * b 2 + b 3) k else 0) < 65536
      rw [if_neg e]; decide
  · rw [fA2 (by omega)]
    have := ge 0 (by omega) rfl
    unfold szo
    have e0 : nxt b 0 = 0 := by rw [nxt]
    rw [if_pos e0]; omega
  · rw [fA02] at hp
    rw [fA2 hp] at hz
    have hn : nxt b p = p := by
      unfold szo at hz
      split at hz
      · assumption
      · omega
    have hsz : szo b p = opz (b (4 + p)) (b (4 + p + 1)) := by unfold szo; rw [if_pos hn]
    obtain ⟨i1, i2, i3, i4, i5, i6, i7, i8⟩ := insF_n (h2 p hp hn)
    have sk := nxt_skip hn rfl
    rw [fA2 hp, fA1 hp, fA02, fA01, hsz]
    have e33 : b (4 + p) = 33 → fA b 1 (p + 1) = b (4 + p + 1) := fun e => by
      have := i7 e
      have eo : opz (b (4 + p)) (b (4 + p + 1)) = 4 + 2 * b (4 + p + 1) := by unfold opz; rw [if_pos e]
      exact fA1 (by omega)
    have eop : opz (b (4 + p)) (fA b 1 (p + 1)) = opz (b (4 + p)) (b (4 + p + 1)) := by
      unfold opz
      split
      · rename_i e; rw [e33 e]
      · rfl
    refine ⟨i2, eop.symm, i4, i5, fun e => by rw [e33 e]; exact i7 e, fun g1 g2 => ?_, ?_, fun q hq1 hq2 => ?_⟩
    · rw [fA1 (by omega)]
      exact i8 g1 g2
    · by_cases e : p + opz (b (4 + p)) (b (4 + p + 1)) = 256 * b 2 + b 3
      · exact Or.inl e
      · right
        have hlt : p + opz (b (4 + p)) (b (4 + p + 1)) < 256 * b 2 + b 3 := by omega
        have hn2 : nxt b (p + opz (b (4 + p)) (b (4 + p + 1))) = p + opz (b (4 + p)) (b (4 + p + 1)) := by
          have := sk (opz (b (4 + p)) (b (4 + p + 1)) - 1) (by omega)
          rw [show p + 1 + (opz (b (4 + p)) (b (4 + p + 1)) - 1) = p + opz (b (4 + p)) (b (4 + p + 1)) by omega] at this
          exact this
        rw [fA2 hlt]
        unfold szo
        rw [if_pos hn2]
        exact ge _ hlt hn2
    · have hlt : q < 256 * b 2 + b 3 := by omega
      rw [fA2 hlt]
      have := sk (q - p - 1) (by omega)
      rw [show p + 1 + (q - p - 1) = q by omega] at this
      unfold szo
      rw [if_neg (by omega)]
  · rw [fA02] at hp
    rw [fA2 hp]
    unfold szo
    split
    · rename_i hn
      exact (insF_n (h2 p hp hn)).2.2.2.1
    · omega
theorem LM0_fA {b : Nat → Nat} {m : Nat} {I : zI} (h : FormL b m I) : LM0 (fA b) m I := by
  obtain ⟨h1, h2, h3, h4, h5, h6⟩ := h
  refine ⟨h1, h2, h3, h4, fun p hp => ?_, fun k hk => ?_⟩
  · rw [fA1 hp, fA2 hp]; exact h5 p hp
  · rw [fA3 hk]; exact h6 k hk
theorem RM0_fA {b : Nat → Nat} {m : Nat} {I : zI} (h : FormM b m I) : RM0 (fA b) m I := by
  obtain ⟨h1, h2, h3, h4, h5, h6⟩ := h
  refine ⟨h1, h2, h3, h4, fun p hp => ?_, fun k hk => ?_⟩
  · rw [fA1 hp, fA2 hp]; exact h5 p hp
  · rw [fA03] at hk
    rw [fA3 (by omega), fA3 (by omega), fA3 (by omega), fA3 (by omega)]; exact h6 k hk
/-- with the TYPES -/
def aT (A : Nat → Nat → Nat) (C : TS) : Nat → Nat → Nat := fun i j =>
  if i = 4 then (match C j with
    | none => 0
    | some v => v.1.length + 1)
  else if i = 5 then (match C (j / 12) with
    | none => 0
    | some v => v.2 (j % 12))
  else if i = 6 then (match C (j / 10) with
    | none => 0
    | some v => bot v.1 (j % 10))
  else A i j
theorem aT_o {A : Nat → Nat → Nat} {C : TS} {i j : Nat} (h : i < 4) : aT A C i j = A i j := by
  unfold aT; rw [if_neg (by omega), if_neg (by omega), if_neg (by omega)]
theorem aT4 {A : Nat → Nat → Nat} {C : TS} {p : Nat} : aT A C 4 p = match C p with
    | none => 0
    | some v => v.1.length + 1 := rfl
theorem aT5 {A : Nat → Nat → Nat} {C : TS} {p k : Nat} {s : List Nat} {l : Nat → Nat} (hk : k < 12) (e : C p = some (s, l)) : aT A C 5 (12 * p + k) = l k := by
  show (match C ((12 * p + k) / 12) with
    | none => 0
    | some v => v.2 ((12 * p + k) % 12)) = _
  rw [show (12 * p + k) / 12 = p by omega, show (12 * p + k) % 12 = k by omega, e]
theorem aT6 {A : Nat → Nat → Nat} {C : TS} {p k : Nat} {s : List Nat} {l : Nat → Nat} (hk : k < 10) (e : C p = some (s, l)) : aT A C 6 (10 * p + k) = bot s k := by
  show (match C ((10 * p + k) / 10) with
    | none => 0
    | some v => bot v.1 ((10 * p + k) % 10)) = _
  rw [show (10 * p + k) / 10 = p by omega, show (10 * p + k) % 10 = k by omega, e]
theorem LMI_aT {A : Nat → Nat → Nat} {m : Nat} {C : TS} {I : zI} (hT : TG A C) (hL : LM0 A m I) (hC : LC A m C I) : LMI (aT A C) m I := by
  obtain ⟨h1, h2, h3, h4, h5, h6⟩ := hL
  refine ⟨by rw [aT_o (by decide)]; exact h1, by rw [aT_o (by decide)]; exact h2, by rw [aT_o (by decide)]; exact h3, by rw [aT_o (by decide)]; exact h4, fun p hp => ?_, fun k hk => ?_, fun p hp hz => ?_⟩
  · rw [aT_o (by decide)] at hp
    rw [aT_o (by decide), aT_o (by decide)]; exact h5 p hp
  · rw [aT_o (by decide)] at hk
    rw [aT_o (by decide)]; exact h6 k hk
  · rw [aT_o (by decide)] at hp hz
    obtain ⟨c0, c1⟩ := hC p hp hz
    rw [aT4]
    cases e : C p with
    | none => exact ⟨fun _ => c0 e, fun h => absurd h (by simp)⟩
    | some v =>
      obtain ⟨s, l⟩ := v
      obtain ⟨d1, d2⟩ := c1 s l e
      have hs := (hT p s l e).2.2.1.1
      refine ⟨fun h => absurd h (by simp), fun _ => ⟨?_, ?_⟩⟩
      · rw [d1]
        congr 1
        show enS s = pqk _ (s.length + 1 - 1) + (s.length + 1 - 1) * 1048576
        rw [Nat.add_sub_cancel, pqk_cong (g := bot s) (fun k hk => aT6 (by omega) e), ← enR_pqk]
        rfl
      · rw [d2, pqk_cong (f := l) (fun k hk => (aT5 hk e).symm)]
theorem RMI_aT {A : Nat → Nat → Nat} {m : Nat} {C D : TS} {I : zI} (hT : TG A C) (hL : RM0 A m I) (hC : RCx A m D I) (hCD : ∀ p, (C p = none ↔ D p = none) ∧ ∀ s l s' l', C p = some (s, l) → D p = some (s', l') → s = s' ∧ ∀ k, k < 12 → l k = l' k) : RMI (aT A C) m I := by
  obtain ⟨h1, h2, h3, h4, h5, h6⟩ := hL
  refine ⟨by rw [aT_o (by decide)]; exact h1, by rw [aT_o (by decide)]; exact h2, by rw [aT_o (by decide)]; exact h3, by rw [aT_o (by decide)]; exact h4, fun p hp => ?_, fun k hk => ?_, fun p hp hz => ?_⟩
  · rw [aT_o (by decide)] at hp
    rw [aT_o (by decide), aT_o (by decide)]; exact h5 p hp
  · rw [aT_o (by decide)] at hk
    rw [aT_o (by decide), aT_o (by decide), aT_o (by decide), aT_o (by decide)]; exact h6 k hk
  · rw [aT_o (by decide)] at hp hz
    obtain ⟨c0, c1⟩ := hC p hp hz
    obtain ⟨e1, e2⟩ := hCD p
    rw [aT4]
    cases e : C p with
    | none => exact ⟨fun _ => c0 (e1.mp e), fun h => absurd h (by simp)⟩
    | some v =>
      obtain ⟨s, l⟩ := v
      cases e' : D p with
      | none => rw [e1.mpr e'] at e; cases e
      | some v' =>
        obtain ⟨s', l'⟩ := v'
        obtain ⟨rfl, el⟩ := e2 s l s' l' e e'
        obtain ⟨d1, d2, d3⟩ := c1 s l' e'
        have hs := (hT p s l e).2.2.1.1
        refine ⟨fun h => absurd h (by simp), fun _ => ⟨?_, fun k hk => ?_, fun k hk => ?_⟩⟩
        · rw [d1]; rfl
        · rw [aT5 hk e, d2 k hk, el k hk]
        · have hk2 : k < s.length := by simpa using hk
          rw [aT6 (by omega) e]; exact d3 k hk2
theorem WB_aT {A : Nat → Nat → Nat} {m : Nat} {C : TS} (hT : TG A C) (hB : W0 A m) : WB (aT A C) := by
  obtain ⟨a1, a2, a3, a4, a5, a6, a7, a8, a9, a10, a11⟩ := hB
  refine ⟨by rw [aT_o (by decide)]; exact a1, by rw [aT_o (by decide), aT_o (by decide)]; exact a2, by rw [aT_o (by decide)]; exact a3, by rw [aT_o (by decide)]; exact a4, by rw [aT_o (by decide)]; exact a5, by rw [aT_o (by decide)]; exact a6, fun p hp => ?_, fun k _ => by rw [aT_o (by decide)]; exact a8 k, fun p hp => ?_, fun j => ?_, fun j => ?_⟩
  · rw [aT_o (by decide)] at hp
    rw [aT_o (by decide), aT_o (by decide)]; exact ⟨a7 p, a11 p hp⟩
  · rw [aT4]
    cases e : C p with
    | none => simp
    | some v =>
      have := (hT p v.1 v.2 e).2.2.1.1
      show v.1.length + 1 ≤ 11
      omega
  · show (match C (j / 12) with
      | none => 0
      | some v => v.2 (j % 12)) < 4
    cases e : C (j / 12) with
    | none => simp
    | some v =>
      have := (hT _ v.1 v.2 e).2.2.2 (j % 12)
      show v.2 (j % 12) < 4
      omega
  · show (match C (j / 10) with
      | none => 0
      | some v => bot v.1 (j % 10)) < 4
    cases e : C (j / 10) with
    | none => simp
    | some v => exact bot_lt (hT _ v.1 v.2 e).2.2.1 _
