/-! PURE 98: RUN: what stands still, from what holds between two calls -/
def Al (l : List WB3) : Prop := ∀ x, x ∈ l → x.1 < 256
theorem Al_n : Al [] := fun x h => absurd h (by simp)
theorem Al_c {a : WB3} {l : List WB3} (h1 : a.1 < 256) (h : Al l) : Al (a :: l) := fun x hx => by
  rcases List.mem_cons.mp hx with e | e
  · rw [e]; exact h1
  · exact h x e
theorem Al_a {x y : List WB3} (h : Al x) (g : Al y) : Al (x ++ y) := fun a ha => by
  rcases List.mem_append.mp ha with e | e
  · exact h a e
  · exact g a e
theorem Al_k {f : Nat → List WB3} : ∀ w, (∀ q, q < w → Al (f q)) → Al (cat f w)
  | 0, _ => Al_n
  | w + 1, h => by rw [cat]; exact Al_a (Al_k w (fun q hq => h q (by omega))) (h w (by omega))
theorem Al_g {l : List WB3} {i : Nat} (h : Al l) (hi : i < l.length) : (l.getD i (0, 0, 0)).1 < 256 := by
  rw [List.getD_eq_getElem?_getD, List.getElem?_eq_getElem hi, Option.getD_some]
  exact h _ (List.getElem_mem hi)
theorem Al_2 {op q k : Nat} (h1 : op < 256) (h2 : q < 256) : Al (e2 op q k) := Al_c h1 (Al_c h2 Al_n)
theorem Al_3 {q sd k : Nat} (h1 : q < 256) (h2 : sd < 256) : Al (e3 q sd k) := Al_c (by show (49 : Nat) < 256; decide) (Al_c h1 (Al_c h2 Al_n))
theorem Al_j {op k o : Nat} {lg : Bool} {z : Int} (h : op < 100) : Al (jl op lg z k o) := by
  unfold jl
  split
  · exact Al_c (by show op + 64 < 256; omega) (Al_c (hi8_lt z) (Al_c (lo8_lt z) Al_n))
  · exact Al_c (by show op < 256; omega) (Al_c (lo8_lt z) Al_n)
theorem Al_cod {A B F : Nat → Nat → Nat} {m w : Nat} (hA : ∀ p, A 1 p < 256) (hw : w ≤ 24) : Al (codL A m B w F) := by
  have hs : ∀ c, c < 256 → isSt c ∨ isLg c → sho c < 100 := fun c _ h => by unfold sho; unfold isSt isLg at h; split <;> omega
  have self : ∀ p, Al (selfL A m B w F p) := fun p => by
    unfold selfL
    by_cases h : isSt (A 1 p) ∨ isLg (A 1 p)
    · rw [if_pos h]; exact Al_j (hs _ (hA p) h)
    · rw [if_neg h]
      by_cases h3 : A 1 p = 33
      · rw [if_pos h3]
        exact Al_c (by show (33 : Nat) < 256; decide) (Al_c (hA _) (Al_k _ (fun q _ => Al_c (hi8_lt _) (Al_c (lo8_lt _) Al_n))))
      · rw [if_neg h3]
        exact Al_k _ (fun q _ => Al_c (hA _) Al_n)
  unfold codL
  refine Al_a (Al_a (Al_a (Al_a (Al_k _ (fun q hq => ?_)) (Al_k _ (fun p _ => ?_))) (Al_k _ (fun p _ => ?_))) (Al_k _ (fun j _ => ?_))) ?_
  · unfold fE
    split
    · exact Al_2 (by decide) (by omega)
    · exact Al_n
  · unfold grpL
    split
    · exact Al_n
    · refine Al_a (Al_a (Al_a (Al_a (Al_k _ (fun q hq => ?_)) (Al_k _ (fun q hq => ?_))) (Al_k _ (fun q hq => ?_))) (self p)) (Al_k _ (fun q hq => ?_))
      · unfold fP
        split
        · exact Al_2 (by decide) (by omega)
        · split
          · exact Al_2 (by decide) (by omega)
          · exact Al_n
      · unfold fL
        split
        · exact Al_2 (by decide) (by omega)
        · exact Al_n
      · unfold fO
        split
        · exact Al_2 (by decide) (by omega)
        · exact Al_n
      · unfold fB
        split
        · exact Al_2 (by decide) (by omega)
        · split
          · exact Al_2 (by decide) (by omega)
          · split
            · exact Al_3 (by omega) (by decide)
            · exact Al_n
  · unfold spL
    split
    · exact Al_n
    · refine Al_a (Al_k _ (fun q hq => ?_)) (Al_j (by decide))
      split
      · exact Al_3 (by omega) (by decide)
      · exact Al_n
  · unfold cpL
    split
    · exact Al_n
    · refine Al_a (Al_k _ (fun q hq => ?_)) (Al_j (by decide))
      split
      · exact Al_2 (by decide) (by omega)
      · exact Al_n
  · unfold lfL
    split
    · exact Al_n
    · refine Al_a (Al_k _ (fun q hq => ?_)) (Al_c (by show (58 : Nat) < 256; decide) Al_n)
      split
      · exact Al_2 (by decide) (by omega)
      · exact Al_n
/-- the row of handlers of woven code -/
def hdW (A : Nat → Nat → Nat) (m : Nat) (B : Nat → Nat → Nat) (w : Nat) (F : Nat → Nat → Nat) (i : Nat) : Nat :=
  if i / 4 < A 0 3 then (if i % 4 = 0 then Gp A m B w F (A 3 (4 * (i / 4))) else if i % 4 = 1 then Gp A m B w F (A 3 (4 * (i / 4) + 1)) else if i % 4 = 2 then (if cnq B m 5 (A 3 (4 * (i / 4) + 2)) w = 0 then Gp A m B w F (A 3 (4 * (i / 4) + 2)) else CPp A m B w F (i / 4)) else A 3 (4 * (i / 4) + 3))
  else if i % 4 = 0 then Gp A m B w F 0 else if i % 4 = 1 then Gp A m B w F (A 0 2) else if i % 4 = 2 then LPp A m B w F else 0
section
variable {A : Nat → Nat → Nat} {m : Nat} {B : Nat → Nat → Nat} {w : Nat} {F : Nat → Nat → Nat}
theorem hdW_j {j : Nat} (h : j < A 0 3) : hdW A m B w F (4 * j) = Gp A m B w F (A 3 (4 * j)) ∧ hdW A m B w F (4 * j + 1) = Gp A m B w F (A 3 (4 * j + 1)) ∧ hdW A m B w F (4 * j + 2) = (if cnq B m 5 (A 3 (4 * j + 2)) w = 0 then Gp A m B w F (A 3 (4 * j + 2)) else CPp A m B w F j) ∧ hdW A m B w F (4 * j + 3) = A 3 (4 * j + 3) := by
  have d0 : (4 * j) / 4 = j := by omega
  have d1 : (4 * j + 1) / 4 = j := by omega
  have d2 : (4 * j + 2) / 4 = j := by omega
  have d3 : (4 * j + 3) / 4 = j := by omega
  unfold hdW
  rw [d0, d1, d2, d3]
  refine ⟨?_, ?_, ?_, ?_⟩
  · rw [if_pos h, if_pos (by omega)]
  · rw [if_pos h, if_neg (by omega), if_pos (by omega)]
  · rw [if_pos h, if_neg (by omega), if_neg (by omega), if_pos (by omega)]
  · rw [if_pos h, if_neg (by omega), if_neg (by omega), if_neg (by omega)]
theorem hdW_l : hdW A m B w F (4 * A 0 3) = Gp A m B w F 0 ∧ hdW A m B w F (4 * A 0 3 + 1) = Gp A m B w F (A 0 2) ∧ hdW A m B w F (4 * A 0 3 + 2) = LPp A m B w F ∧ hdW A m B w F (4 * A 0 3 + 3) = 0 := by
  unfold hdW
  refine ⟨?_, ?_, ?_, ?_⟩
  · rw [if_neg (by omega), if_pos (by omega)]
  · rw [if_neg (by omega), if_neg (by omega), if_pos (by omega)]
  · rw [if_neg (by omega), if_neg (by omega), if_neg (by omega), if_pos (by omega)]
  · rw [if_neg (by omega), if_neg (by omega), if_neg (by omega), if_neg (by omega)]
theorem tG {p : Nat} (h : p ≤ A 0 2) : Gp A m B w F p ≤ TOT A m B w F := by
  have h1 := Gp_le (A := A) (m := m) (B := B) (w := w) (F := F) h
  have h2 := SP_0 (A := A) (m := m) (B := B) (w := w) (F := F) (A 0 2)
  have h3 := SP_le (A := A) (m := m) (B := B) (w := w) (F := F) (p := A 0 2) (Nat.le_refl _)
  have h4 := CP_0 (A := A) (m := m) (B := B) (w := w) (F := F) (A 0 3)
  have h5 := CP_le (A := A) (m := m) (B := B) (w := w) (F := F) (p := A 0 3) (Nat.le_refl _)
  have h6 := LP_le (A := A) (m := m) (B := B) (w := w) (F := F)
  omega
theorem tC {p : Nat} (h : p ≤ A 0 3) : CPp A m B w F p ≤ TOT A m B w F := by
  have h5 := CP_le (A := A) (m := m) (B := B) (w := w) (F := F) h
  have h6 := LP_le (A := A) (m := m) (B := B) (w := w) (F := F)
  omega
theorem isbg_n {a : Nat} (h : a < 65536) (g : isbg A (nI a)) (l4 : A 0 2 ≤ 400) : a < A 0 2 ∧ 0 < A 2 a := by
  obtain ⟨j, h1, h2, h3⟩ := g
  have : a = j := nI_inj (by omega) (by omega) h2
  rw [this]; exact ⟨h1, h3⟩
theorem hdW_b (hW : W0 A m) (hF : FW A F) (hk : ∀ k, k < A 0 3 → hok A k) (ht : TOT A m B w F ≤ 1000) : (∀ i, hdW A m B w F i < 65536) ∧ ∀ j, j < A 0 3 + (if cnq B m 3 0 w = 0 then 0 else 1) → hdW A m B w F (4 * j + 2) < 1000 := by
  have l4 := hW.2.2.2.2.1
  have b6 := hW.2.2.2.2.2.2.2.1
  have hL := LP_le (A := A) (m := m) (B := B) (w := w) (F := F)
  have lc := wlen_cod (B := B) (w := w) hW hF
  refine ⟨fun i => ?_, fun j hj => ?_⟩
  · unfold hdW
    by_cases h : i / 4 < A 0 3
    · rw [if_pos h]
      obtain ⟨o1, o2, o3, o4⟩ := hk _ h
      have a1 := isbg_n (b6 _) o1 l4
      have a2 := isbg_n (b6 _) o2 l4
      have a3 : A 3 (4 * (i / 4) + 1) ≤ A 0 2 := by
        rcases o3 with e | e
        · omega
        · have := isbg_n (b6 _) e l4; omega
      have g1 := tG (A := A) (m := m) (B := B) (w := w) (F := F) (Nat.le_of_lt a1.1)
      have g2 := tG (A := A) (m := m) (B := B) (w := w) (F := F) (Nat.le_of_lt a2.1)
      have g3 := tG (A := A) (m := m) (B := B) (w := w) (F := F) a3
      have g4 := tC (A := A) (m := m) (B := B) (w := w) (F := F) (Nat.le_of_lt h)
      have g5 := b6 (4 * (i / 4) + 3)
      split
      · omega
      · split
        · omega
        · split
          · split <;> omega
          · exact g5
    · rw [if_neg h]
      have g1 := tG (A := A) (m := m) (B := B) (w := w) (F := F) (p := 0) (Nat.zero_le _)
      have g2 := tG (A := A) (m := m) (B := B) (w := w) (F := F) (Nat.le_refl (A 0 2))
      split
      · omega
      · split
        · omega
        · split <;> omega
  · by_cases e : j < A 0 3
    · rw [(hdW_j e).2.2.1]
      obtain ⟨o1, o2, o3, o4⟩ := hk _ e
      have a2 := isbg_n (b6 _) o2 l4
      by_cases q : cnq B m 5 (A 3 (4 * j + 2)) w = 0
      · rw [if_pos q]
        have it := At_le (at_s (A := A) (m := m) (B := B) (w := w) (F := F) hW hF a2.1 a2.2)
        have := (self_0 (A := A) (m := m) (B := B) (w := w) (F := F) a2.2).2
        unfold Sp at it
        omega
      · rw [if_neg q]
        obtain ⟨q', q1, q2⟩ := cn_0 w q
        have it := At_le (at_cp (A := A) (m := m) (B := B) (w := w) (F := F) hW hF e q1 q2 q)
        have : (e2 55 q' 0).length = 2 := rfl
        omega
    · have q3 : cnq B m 3 0 w ≠ 0 := fun q => by rw [if_pos q] at hj; omega
      rw [if_neg q3] at hj
      obtain rfl : j = A 0 3 := by omega
      rw [hdW_l.2.2.1]
      have it := At_le (at_ag (A := A) (m := m) (B := B) (w := w) (F := F) hW hF q3)
      have : ([(58, 0, 0)] : List WB3).length = 1 := rfl
      omega
end
/-- another table of arguments -/
theorem Cons_ar {A : Nat → Nat → Nat} {ar ar' : Nat → Nat} {T : TS} {m : Nat} (hW : W0 A m) (h : Cons A ar' T) (he : ∀ j, j ≤ m → ar' j = ar j) : Cons A ar T := by
  refine ⟨h.1, h.2.1, fun p s l hT => ?_⟩
  obtain ⟨h1, s2, l2, h2, h3⟩ := h.2.2 p s l hT
  obtain ⟨hp, hp2, -, -⟩ := h.1 p s l hT
  refine ⟨h1, s2, l2, ?_, h3⟩
  rw [← h2]
  by_cases e : sho (A 1 p) = 40
  · have e1 : A 1 p = 40 := by unfold sho at e; split at e <;> omega
    obtain ⟨c1, c2, c3, c4, c5, c6, -⟩ := hW.2.2.2.2.2.2.2.2.2.1 p hp hp2
    have z2 : A 2 p = 2 := by rw [c2, e1]; rfl
    have := (c6 (by omega) (by omega)).2.2 e1
    rw [e]
    unfold eff
    rw [if_neg (by decide), if_neg (by decide), if_neg (by decide), if_neg (by decide), if_neg (by decide), if_neg (by decide), if_pos rfl, if_neg (by decide), if_neg (by decide), if_neg (by decide), if_neg (by decide), if_neg (by decide), if_neg (by decide), if_pos rfl, he _ this]
  · unfold eff
    rw [if_neg e, if_neg e]
