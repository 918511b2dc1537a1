/-! PURE 93: RUN: the places of woven code -/
abbrev z00 : Zn := (0, 0, 0, fun _ => False)
abbrev zlf : Zn := (1, 0, 0, fun _ => False)
section
variable (A : Nat → Nat → Nat) (m : Nat) (B : Nat → Nat → Nat) (w : Nat) (F : Nat → Nat → Nat) (T : TS) (ar : Nat → Nat) (pos : Nat) (S : List Nat) (L : Nat → Nat) (r : Nat) (z : Zn)
def Kent : Prop := ∃ q, q < w ∧ atq B m 2 0 q ∧ pos = 2 * cnq B m 2 0 q ∧ S = [] ∧ L = l0 A ∧ r = 3 * w + (w - q) ∧ z = z00
def Kpas : Prop := ∃ p q, T p = some (S, L) ∧ q < w ∧ (atq B m 0 p q ∨ atq B m 6 p q) ∧ pos = Gp A m B w F p + 2 * (cnq B m 0 p q + cnq B m 6 p q) ∧ r = 2 * w + (w - q) ∧ z = z00
def Klev : Prop := ∃ p q, T p = some (S, L) ∧ A 1 p = 42 ∧ q < w ∧ atq B m 3 0 q ∧ pos = Gp A m B w F p + (2 * (cnq B m 0 p w + cnq B m 6 p w) + 2 * cnq B m 3 0 q) ∧ r = w + (w - q) ∧ z = z00
def Kold : Prop := ∃ p q, T p = some (S, L) ∧ q < w ∧ atq B m 4 p q ∧ pos = Gp A m B w F p + (2 * (cnq B m 0 p w + cnq B m 6 p w) + (if A 1 p = 42 then 2 * cnq B m 3 0 w else 0) + 2 * cnq B m 4 p q) ∧ r = w - q ∧ z = (2, A 1 p, A 1 (p + 1), fun q' => q' < q ∧ atq B m 4 p q')
def Kslf : Prop := ∃ p, T p = some (S, L) ∧ pos = Sp A m B w F p ∧ r = 0 ∧ z = (2, A 1 p, A 1 (p + 1), fun q' => q' < w ∧ atq B m 4 p q')
def Kbeh : Prop := ∃ p q S0 L0, T p = some (S0, L0) ∧ eff (sho (A 1 p)) (A 1 (p + 1)) ar S0 L0 = some (S, L) ∧ gon (A 1 p) ∧ q < w ∧ (atq B m 4 p q ∨ atq B m 7 p q ∨ atq B m 1 p q) ∧ pos = Sp A m B w F p + (A 2 p + F 0 p + bhn m B q p) ∧ r = 3 * w + (w - q) ∧ z = (3, 0, 0, fun q' => q ≤ q' ∧ q' < w ∧ atq B m 4 p q')
def Ksid : Prop := ∃ p q S0 L0, T p = some (S0, L0) ∧ eff (sho (A 1 p)) (A 1 (p + 1)) ar S0 L0 = some (S, L) ∧ q < w ∧ atq B m 1 p q ∧ pos = SPp A m B w F p + 3 * cnq B m 1 p q ∧ r = 3 * w + 1 + (w - q) ∧ z = z00
def Ksjm : Prop := ∃ p S0 L0, T p = some (S0, L0) ∧ eff (sho (A 1 p)) (A 1 (p + 1)) ar S0 L0 = some (S, L) ∧ cnq B m 1 p w ≠ 0 ∧ pos = SPp A m B w F p + 3 * cnq B m 1 p w ∧ r = 3 * w + 1 ∧ z = z00
def Kcau : Prop := ∃ j q, j < A 0 3 ∧ T (A 3 (4 * j + 2)) = some (S, L) ∧ S = [1] ∧ q < w ∧ atq B m 5 (A 3 (4 * j + 2)) q ∧ pos = CPp A m B w F j + 2 * cnq B m 5 (A 3 (4 * j + 2)) q ∧ r = 3 * w + 1 + (w - q) ∧ z = z00
def Kcjm : Prop := ∃ j, j < A 0 3 ∧ T (A 3 (4 * j + 2)) = some (S, L) ∧ S = [1] ∧ cnq B m 5 (A 3 (4 * j + 2)) w ≠ 0 ∧ pos = CPp A m B w F j + 2 * cnq B m 5 (A 3 (4 * j + 2)) w ∧ r = 3 * w + 1 ∧ z = z00
def Klef : Prop := ∃ q, q < w ∧ atq B m 3 0 q ∧ S = [1] ∧ L = (fun _ => 0) ∧ pos = LPp A m B w F + 2 * cnq B m 3 0 q ∧ r = 1 + (w - q) ∧ z = zlf
def Kaga : Prop := cnq B m 3 0 w ≠ 0 ∧ S = [1] ∧ L = (fun _ => 0) ∧ pos = LPp A m B w F + 2 * cnq B m 3 0 w ∧ r = 0 ∧ z = zlf
def PlW : Prop := Kent A m B w pos S L r z ∨ Kpas A m B w F T pos S L r z ∨ Klev A m B w F T pos S L r z ∨ Kold A m B w F T pos S L r z ∨ Kslf A m B w F T pos S L r z ∨ Kbeh A m B w F T ar pos S L r z ∨ Ksid A m B w F T ar pos S L r z ∨ Ksjm A m B w F T ar pos S L r z ∨ Kcau A m B w F T pos S L r z ∨ Kcjm A m B w F T pos S L r z ∨ Klef A m B w F pos S L r z ∨ Kaga A m B w F pos S L r z
end
section
variable {A : Nat → Nat → Nat} {m : Nat} {B : Nat → Nat → Nat} {w : Nat} {F : Nat → Nat → Nat} {T : TS} {ar : Nat → Nat} {pos : Nat} {S : List Nat} {L : Nat → Nat} {r : Nat} {z : Zn}
theorem kEnt (h : Kent A m B w pos S L r z) : PlW A m B w F T ar pos S L r z := Or.inl h
theorem kPas (h : Kpas A m B w F T pos S L r z) : PlW A m B w F T ar pos S L r z := Or.inr (Or.inl h)
theorem kLev (h : Klev A m B w F T pos S L r z) : PlW A m B w F T ar pos S L r z := Or.inr (Or.inr (Or.inl h))
theorem kOld (h : Kold A m B w F T pos S L r z) : PlW A m B w F T ar pos S L r z := Or.inr (Or.inr (Or.inr (Or.inl h)))
theorem kSlf (h : Kslf A m B w F T pos S L r z) : PlW A m B w F T ar pos S L r z := Or.inr (Or.inr (Or.inr (Or.inr (Or.inl h))))
theorem kBeh (h : Kbeh A m B w F T ar pos S L r z) : PlW A m B w F T ar pos S L r z := Or.inr (Or.inr (Or.inr (Or.inr (Or.inr (Or.inl h)))))
theorem kSid (h : Ksid A m B w F T ar pos S L r z) : PlW A m B w F T ar pos S L r z := Or.inr (Or.inr (Or.inr (Or.inr (Or.inr (Or.inr (Or.inl h))))))
theorem kSjm (h : Ksjm A m B w F T ar pos S L r z) : PlW A m B w F T ar pos S L r z := Or.inr (Or.inr (Or.inr (Or.inr (Or.inr (Or.inr (Or.inr (Or.inl h)))))))
theorem kCau (h : Kcau A m B w F T pos S L r z) : PlW A m B w F T ar pos S L r z := Or.inr (Or.inr (Or.inr (Or.inr (Or.inr (Or.inr (Or.inr (Or.inr (Or.inl h))))))))
theorem kCjm (h : Kcjm A m B w F T pos S L r z) : PlW A m B w F T ar pos S L r z := Or.inr (Or.inr (Or.inr (Or.inr (Or.inr (Or.inr (Or.inr (Or.inr (Or.inr (Or.inl h)))))))))
theorem kLef (h : Klef A m B w F pos S L r z) : PlW A m B w F T ar pos S L r z := Or.inr (Or.inr (Or.inr (Or.inr (Or.inr (Or.inr (Or.inr (Or.inr (Or.inr (Or.inr (Or.inl h))))))))))
theorem kAga (h : Kaga A m B w F pos S L r z) : PlW A m B w F T ar pos S L r z := Or.inr (Or.inr (Or.inr (Or.inr (Or.inr (Or.inr (Or.inr (Or.inr (Or.inr (Or.inr (Or.inr h))))))))))
/-! from a place on: the next one that stands there -/
theorem cn_n {s p q : Nat} (h : ¬ atq B m s p q) : cnq B m s p (q + 1) = cnq B m s p q := by rw [cnq, if_neg h]
theorem cn_y {s p q : Nat} (h : atq B m s p q) : cnq B m s p (q + 1) = cnq B m s p q + 1 := by rw [cnq, if_pos h]
theorem cn_0 {s p : Nat} : ∀ w, cnq B m s p w ≠ 0 → ∃ q, q < w ∧ atq B m s p q
  | 0, h => absurd rfl h
  | w + 1, h => by
    by_cases e : atq B m s p w
    · exact ⟨w, by omega, e⟩
    · rw [cn_n e] at h
      obtain ⟨q, a, b⟩ := cn_0 w h
      exact ⟨q, by omega, b⟩
theorem cn_p {s p q : Nat} : ∀ w, q < w → atq B m s p q → cnq B m s p w ≠ 0
  | 0, h, _ => absurd h (by omega)
  | w + 1, h, a => by
    by_cases e : q = w
    · rw [← e, cn_y a]; omega
    · have := cn_p w (by omega) a
      rw [cnq]; split <;> omega
theorem AS_old {p : Nat} (hT : T p = some (S, L)) : ∀ d q, q + d = w → ∃ r z, PlW A m B w F T ar (Gp A m B w F p + (2 * (cnq B m 0 p w + cnq B m 6 p w) + (if A 1 p = 42 then 2 * cnq B m 3 0 w else 0) + 2 * cnq B m 4 p q)) S L r z ∧ r ≤ w - q ∧ z.1 = 2 ∧ z.2.1 = A 1 p ∧ z.2.2.1 = A 1 (p + 1) ∧ ∀ q', z.2.2.2 q' → q' < q ∧ atq B m 4 p q'
  | 0, q, h => by
    obtain rfl : q = w := by omega
    exact ⟨0, _, kSlf ⟨p, hT, rfl, rfl, rfl⟩, by omega, rfl, rfl, rfl, fun q' h => h⟩
  | d + 1, q, h => by
    by_cases e : atq B m 4 p q
    · exact ⟨w - q, _, kOld ⟨p, q, hT, by omega, e, rfl, rfl, rfl⟩, by omega, rfl, rfl, rfl, fun q' h => h⟩
    · obtain ⟨r, z, h1, h2, h3, h4, h5, h6⟩ := AS_old hT d (q + 1) (by omega)
      rw [cn_n e] at h1
      refine ⟨r, z, h1, by omega, h3, h4, h5, fun q' hq => ?_⟩
      obtain ⟨a, b⟩ := h6 q' hq
      by_cases e2 : q' = q
      · rw [e2] at b; exact absurd b e
      · exact ⟨by omega, b⟩
theorem AS_o0 {p : Nat} (hT : T p = some (S, L)) : ∃ r z, PlW A m B w F T ar (Gp A m B w F p + (2 * (cnq B m 0 p w + cnq B m 6 p w) + (if A 1 p = 42 then 2 * cnq B m 3 0 w else 0))) S L r z ∧ r ≤ w ∧ zOk z := by
  obtain ⟨r, z, h1, h2, h3, -, -, h6⟩ := AS_old (A := A) (m := m) (B := B) (w := w) (F := F) (ar := ar) hT w 0 (by omega)
  exact ⟨r, z, h1, by omega, by omega, fun q hq => by have := (h6 q hq).1; omega⟩
theorem AS_lev {p : Nat} (hT : T p = some (S, L)) (h42 : A 1 p = 42) : ∀ d q, q + d = w → ∃ r z, PlW A m B w F T ar (Gp A m B w F p + (2 * (cnq B m 0 p w + cnq B m 6 p w) + 2 * cnq B m 3 0 q)) S L r z ∧ r ≤ w + (w - q) ∧ zOk z
  | 0, q, h => by
    obtain rfl : q = w := by omega
    obtain ⟨r, z, h1, h2, h3⟩ := AS_o0 (A := A) (m := m) (B := B) (w := q) (F := F) (ar := ar) hT
    rw [if_pos h42] at h1
    exact ⟨r, z, h1, by omega, h3⟩
  | d + 1, q, h => by
    by_cases e : atq B m 3 0 q
    · exact ⟨_, _, kLev ⟨p, q, hT, h42, by omega, e, rfl, rfl, rfl⟩, Nat.le_refl _, by decide, fun _ h => h⟩
    · obtain ⟨r, z, h1, h2, h3⟩ := AS_lev hT h42 d (q + 1) (by omega)
      rw [cn_n e] at h1
      exact ⟨r, z, h1, by omega, h3⟩
theorem AS_pas {p : Nat} (hT : T p = some (S, L)) : ∀ d q, q + d = w → ∃ r z, PlW A m B w F T ar (Gp A m B w F p + 2 * (cnq B m 0 p q + cnq B m 6 p q)) S L r z ∧ r ≤ 2 * w + (w - q) ∧ zOk z
  | 0, q, h => by
    obtain rfl : q = w := by omega
    by_cases e : A 1 p = 42
    · obtain ⟨r, z, h1, h2, h3⟩ := AS_lev (A := A) (m := m) (B := B) (w := q) (F := F) (ar := ar) hT e q 0 (by omega)
      exact ⟨r, z, h1, by omega, h3⟩
    · obtain ⟨r, z, h1, h2, h3⟩ := AS_o0 (A := A) (m := m) (B := B) (w := q) (F := F) (ar := ar) hT
      rw [if_neg e] at h1
      exact ⟨r, z, h1, by omega, h3⟩
  | d + 1, q, h => by
    by_cases e : atq B m 0 p q ∨ atq B m 6 p q
    · exact ⟨_, _, kPas ⟨p, q, hT, by omega, e, rfl, rfl, rfl⟩, Nat.le_refl _, by decide, fun _ h => h⟩
    · obtain ⟨r, z, h1, h2, h3⟩ := AS_pas hT d (q + 1) (by omega)
      rw [cn_n (fun a => e (Or.inl a)), cn_n (fun a => e (Or.inr a))] at h1
      exact ⟨r, z, h1, by omega, h3⟩
/-- where a GROUP begins -/
theorem AS {p : Nat} (hT : T p = some (S, L)) : ∃ r z, PlW A m B w F T ar (Gp A m B w F p) S L r z ∧ r ≤ 3 * w ∧ zOk z := by
  obtain ⟨r, z, h1, h2, h3⟩ := AS_pas (A := A) (m := m) (B := B) (w := w) (F := F) (ar := ar) hT w 0 (by omega)
  exact ⟨r, z, h1, by omega, h3⟩
theorem AS_ent {L0 : Nat → Nat} (hT : T 0 = some ([], L0)) (hb : ble L0 (l0 A)) : ∀ d q, q + d = w → ∃ L r z, PlW A m B w F T ar (2 * cnq B m 2 0 q) [] L r z ∧ ble L (l0 A) ∧ r ≤ 3 * w + (w - q) ∧ zOk z
  | 0, q, h => by
    obtain rfl : q = w := by omega
    obtain ⟨r, z, h1, h2, h3⟩ := AS (A := A) (m := m) (B := B) (w := q) (F := F) (ar := ar) hT
    exact ⟨L0, r, z, h1, hb, by omega, h3⟩
  | d + 1, q, h => by
    by_cases e : atq B m 2 0 q
    · exact ⟨l0 A, _, _, kEnt ⟨q, by omega, e, rfl, rfl, rfl, rfl, rfl⟩, ble_r _, Nat.le_refl _, by decide, fun _ h => h⟩
    · obtain ⟨L, r, z, h1, h2, h3, h4⟩ := AS_ent hT hb d (q + 1) (by omega)
      rw [cn_n e] at h1
      exact ⟨L, r, z, h1, h2, by omega, h4⟩
theorem Gp_n {p : Nat} (h2 : 0 < A 2 p) (h0 : ∀ q, p < q → q < p + A 2 p → A 2 q = 0) : Gp A m B w F (p + A 2 p) = Sp A m B w F p + (A 2 p + F 0 p + bhn m B w p) := by
  have g1 : Gp A m B w F (p + 1) = Sp A m B w F p + (A 2 p + F 0 p + bhn m B w p) := by
    rw [Gp, if_neg (by omega)]; unfold Sp; omega
  have go : ∀ d, d < A 2 p → Gp A m B w F (p + 1 + d) = Gp A m B w F (p + 1) := by
    intro d
    induction d with
    | zero => intro _; rfl
    | succ d ih =>
      intro hd
      rw [← Nat.add_assoc, Gp, if_pos (h0 _ (by omega) (by omega))]
      exact ih (by omega)
  have := go (A 2 p - 1) (by omega)
  rw [show p + 1 + (A 2 p - 1) = p + A 2 p by omega] at this
  rw [this, g1]
theorem bh_c {p q : Nat} (h : ¬ (atq B m 4 p q ∨ atq B m 7 p q ∨ atq B m 1 p q)) : bhn m B (q + 1) p = bhn m B q p := by
  unfold bhn
  rw [cn_n (fun a => h (Or.inr (Or.inr a))), cn_n (fun a => h (Or.inl a)), cn_n (fun a => h (Or.inr (Or.inl a)))]
theorem BS {p : Nat} {S0 : List Nat} {L0 : Nat → Nat} (hW : W0 A m) (hC : Cons A ar T) (hT : T p = some (S0, L0)) (he : eff (sho (A 1 p)) (A 1 (p + 1)) ar S0 L0 = some (S, L)) (hg : gon (A 1 p)) : ∀ d q, q + d = w → ∃ L' r z, PlW A m B w F T ar (Sp A m B w F p + (A 2 p + F 0 p + bhn m B q p)) S L' r z ∧ ble L' L ∧ r ≤ 3 * w + (w - q) ∧ z.1 ≠ 1 ∧ ∀ q', z.2.2.2 q' → z.1 = 3 ∧ q ≤ q' ∧ q' < w ∧ atq B m 4 p q'
  | 0, q, h => by
    obtain rfl : q = w := by omega
    obtain ⟨hp, h2, -, -⟩ := hC.1 p S0 L0 hT
    obtain ⟨-, s2, l2, e2, -, gn⟩ := hC.2.2 p S0 L0 hT
    rw [he] at e2
    injection e2 with e2
    injection e2 with e3 e4
    obtain ⟨hp', lq, hq, hb⟩ := gn hg
    rw [← e3] at hq
    obtain ⟨r, z, h1, h3, h4⟩ := AS (A := A) (m := m) (B := B) (w := q) (F := F) (ar := ar) hq
    rw [Gp_n h2 (hW.2.2.2.2.2.2.2.2.2.1 p hp h2).2.2.2.2.2.2.2] at h1
    exact ⟨lq, r, z, h1, by rw [e4]; exact hb, by omega, h4.1, fun q' hq' => absurd hq' (h4.2 q')⟩
  | d + 1, q, h => by
    by_cases e : atq B m 4 p q ∨ atq B m 7 p q ∨ atq B m 1 p q
    · exact ⟨L, _, _, kBeh ⟨p, q, S0, L0, hT, he, hg, by omega, e, rfl, rfl, rfl⟩, ble_r _, Nat.le_refl _, (by show (3 : Nat) ≠ 1; decide), fun q' hq => ⟨rfl, hq⟩⟩
    · obtain ⟨L', r, z, h1, h2, h3, h4, h5⟩ := BS hW hC hT he hg d (q + 1) (by omega)
      rw [bh_c e] at h1
      exact ⟨L', r, z, h1, h2, by omega, h4, fun q' hq => by obtain ⟨a, b, c⟩ := h5 q' hq; exact ⟨a, by omega, c⟩⟩
theorem SS {p : Nat} {S0 : List Nat} {L0 : Nat → Nat} (hT : T p = some (S0, L0)) (he : eff (sho (A 1 p)) (A 1 (p + 1)) ar S0 L0 = some (S, L)) (h0 : cnq B m 1 p w ≠ 0) : ∀ d q, q + d = w → ∃ r z, PlW A m B w F T ar (SPp A m B w F p + 3 * cnq B m 1 p q) S L r z ∧ r ≤ 3 * w + 1 + (w - q) ∧ zOk z
  | 0, q, h => by
    obtain rfl : q = w := by omega
    exact ⟨_, _, kSjm ⟨p, S0, L0, hT, he, h0, rfl, rfl, rfl⟩, by omega, by decide, fun _ h => h⟩
  | d + 1, q, h => by
    by_cases e : atq B m 1 p q
    · exact ⟨_, _, kSid ⟨p, q, S0, L0, hT, he, by omega, e, rfl, rfl, rfl⟩, Nat.le_refl _, by decide, fun _ h => h⟩
    · obtain ⟨r, z, h1, h2, h3⟩ := SS hT he h0 d (q + 1) (by omega)
      rw [cn_n e] at h1
      exact ⟨r, z, h1, by omega, h3⟩
theorem CS {j : Nat} (hj : j < A 0 3) (hT : T (A 3 (4 * j + 2)) = some ([1], L)) (h0 : cnq B m 5 (A 3 (4 * j + 2)) w ≠ 0) : ∀ d q, q + d = w → ∃ r z, PlW A m B w F T ar (CPp A m B w F j + 2 * cnq B m 5 (A 3 (4 * j + 2)) q) [1] L r z ∧ r ≤ 3 * w + 1 + (w - q) ∧ zOk z
  | 0, q, h => by
    obtain rfl : q = w := by omega
    exact ⟨_, _, kCjm ⟨j, hj, hT, rfl, h0, rfl, rfl, rfl⟩, by omega, by decide, fun _ h => h⟩
  | d + 1, q, h => by
    by_cases e : atq B m 5 (A 3 (4 * j + 2)) q
    · exact ⟨_, _, kCau ⟨j, q, hj, hT, rfl, by omega, e, rfl, rfl, rfl⟩, Nat.le_refl _, by decide, fun _ h => h⟩
    · obtain ⟨r, z, h1, h2, h3⟩ := CS hj hT h0 d (q + 1) (by omega)
      rw [cn_n e] at h1
      exact ⟨r, z, h1, by omega, h3⟩
theorem LfS (h0 : cnq B m 3 0 w ≠ 0) : ∀ d q, q + d = w → ∃ r z, PlW A m B w F T ar (LPp A m B w F + 2 * cnq B m 3 0 q) [1] (fun _ => 0) r z ∧ r ≤ 1 + (w - q) ∧ z.1 = 1 ∧ zNo z
  | 0, q, h => by
    obtain rfl : q = w := by omega
    exact ⟨_, _, kAga ⟨h0, rfl, rfl, rfl, rfl, rfl⟩, by omega, rfl, fun _ h => h⟩
  | d + 1, q, h => by
    by_cases e : atq B m 3 0 q
    · exact ⟨_, _, kLef ⟨q, by omega, e, rfl, rfl, rfl, rfl, rfl⟩, Nat.le_refl _, rfl, fun _ h => h⟩
    · obtain ⟨r, z, h1, h2, h3⟩ := LfS h0 d (q + 1) (by omega)
      rw [cn_n e] at h1
      exact ⟨r, z, h1, by omega, h3⟩
end
