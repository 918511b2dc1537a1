/-! PURE 92: RUN: the bytes of woven code -/
def FW (A : Nat → Nat → Nat) (F : Nat → Nat → Nat) : Prop := (∀ i p, F i p ≤ 1) ∧ ∀ p, F 0 p = 1 → isSt (A 1 p)
theorem wlen_s {A B F : Nat → Nat → Nat} {m w p : Nat} (hW : W0 A m) (hF : FW A F) (hp : p < A 0 2) (h2 : 0 < A 2 p) : (selfL A m B w F p).length = A 2 p + F 0 p := by
  obtain ⟨c1, c2, -⟩ := hW.2.2.2.2.2.2.2.2.2.1 p hp h2
  have f1 := hF.1 0 p
  have f2 := hF.2 p
  unfold selfL
  unfold opz at c2
  by_cases g : isSt (A 1 p) ∨ isLg (A 1 p)
  · rw [if_pos g, len_jl]
    rcases g with g | g
    · rw [if_neg (by unfold isSt at g; omega), fxz_st g] at c2
      by_cases e : F 0 p = 1
      · rw [if_pos (decide_eq_true (Or.inr e))]; omega
      · rw [if_neg (by rw [decide_eq_true_iff]; rintro (q | q); · unfold isSt isLg at *; omega
                       · exact e q)]; omega
    · rw [if_neg (by unfold isLg at g; omega), fxz_lg g] at c2
      rw [if_pos (decide_eq_true (Or.inl g))]
      have : F 0 p ≠ 1 := fun q => by have := f2 q; unfold isSt isLg at *; omega
      omega
  · rw [if_neg g]
    have e0 : F 0 p = 0 := by
      have : F 0 p ≠ 1 := fun q => g (Or.inl (f2 q))
      omega
    by_cases e : A 1 p = 33
    · rw [if_pos e] at c2 ⊢
      rw [List.length_cons, List.length_cons, len_k (k := 2) (fun i => rfl)]
      unfold njp; rw [if_pos e]; omega
    · rw [if_neg e, len_k (k := 1) (fun i => rfl)]; omega
theorem wlen_g {A B F : Nat → Nat → Nat} {m w p : Nat} (hW : W0 A m) (hF : FW A F) (hp : p < A 0 2) (h2 : 0 < A 2 p) : (grpL A m B w F p).length = ahn A m B w p + A 2 p + F 0 p + bhn m B w p := by
  unfold grpL
  rw [if_neg (by omega), List.length_append, List.length_append, List.length_append, List.length_append, len_P, len_L, len_O, len_B, wlen_s hW hF hp h2]
  unfold ahn; omega
theorem wlen_pG {A B F : Nat → Nat → Nat} {m w : Nat} (hW : W0 A m) (hF : FW A F) : ∀ p, p ≤ A 0 2 → (pfG A m B w F p).length = Gp A m B w F p
  | 0, _ => by unfold pfG; rw [cat, List.append_nil, len_E]; rfl
  | p + 1, hp => by
    have ih := wlen_pG (B := B) (w := w) hW hF p (by omega)
    unfold pfG at ih ⊢
    rw [List.length_append] at ih ⊢
    rw [cat, List.length_append, Gp]
    by_cases e : A 2 p = 0
    · rw [if_pos e]; unfold grpL at ih ⊢; rw [if_pos e]; exact ih
    · rw [if_neg e, wlen_g hW hF hp (by omega)]; omega
theorem wlen_pS {A B F : Nat → Nat → Nat} {m w : Nat} (hW : W0 A m) (hF : FW A F) : ∀ p, p ≤ A 0 2 → (pfS A m B w F p).length = SPp A m B w F p
  | 0, _ => by unfold pfS; rw [cat, List.append_nil, wlen_pG hW hF _ (Nat.le_refl _)]; rfl
  | p + 1, hp => by
    have ih := wlen_pS (B := B) (w := w) hW hF p (by omega)
    unfold pfS at ih ⊢
    rw [List.length_append] at ih ⊢
    rw [cat, List.length_append, SPp]
    by_cases e : cnq B m 1 p w = 0
    · rw [if_pos e]; unfold spL at ih ⊢; rw [if_pos e]; exact ih
    · rw [if_neg e]
      have : (spL A m B w F p).length = 3 * cnq B m 1 p w + 2 + F 1 p := by
        unfold spL
        rw [if_neg e, List.length_append, len_c (k := 3) (fun q => rfl), len_jl]
        have f1 := hF.1 1 p
        by_cases z : F 1 p = 1
        · rw [if_pos (decide_eq_true z)]; omega
        · rw [if_neg (by rw [decide_eq_true_iff]; exact z)]; omega
      omega
theorem wlen_pC {A B F : Nat → Nat → Nat} {m w : Nat} (hW : W0 A m) (hF : FW A F) : ∀ k, k ≤ A 0 3 → (pfC A m B w F k).length = CPp A m B w F k
  | 0, _ => by unfold pfC; rw [cat, List.append_nil, wlen_pS hW hF _ (Nat.le_refl _)]; rfl
  | p + 1, hp => by
    have ih := wlen_pC (B := B) (w := w) hW hF p (by omega)
    unfold pfC at ih ⊢
    rw [List.length_append] at ih ⊢
    rw [cat, List.length_append, CPp]
    by_cases e : cnq B m 5 (A 3 (4 * p + 2)) w = 0
    · rw [if_pos e]; unfold cpL at ih ⊢; rw [if_pos e]; exact ih
    · rw [if_neg e]
      have : (cpL A m B w F p).length = 2 * cnq B m 5 (A 3 (4 * p + 2)) w + 2 + F 2 p := by
        unfold cpL
        rw [if_neg e, List.length_append, len_c (k := 2) (fun q => rfl), len_jl]
        have f1 := hF.1 2 p
        by_cases z : F 2 p = 1
        · rw [if_pos (decide_eq_true z)]; omega
        · rw [if_neg (by rw [decide_eq_true_iff]; exact z)]; omega
      omega
theorem wlen_cod {A B F : Nat → Nat → Nat} {m w : Nat} (hW : W0 A m) (hF : FW A F) : (codL A m B w F).length = TOT A m B w F := by
  rw [codL_e, List.length_append, wlen_pC hW hF _ (Nat.le_refl _), len_lf]; rfl
/-! a list lies in another -/
def At {α : Type} (l : List α) (i : Nat) (x : List α) : Prop := ∃ a b, l = a ++ (x ++ b) ∧ a.length = i
theorem At_t {α : Type} {l x y : List α} {i j : Nat} (h : At l i x) (g : At x j y) : At l (i + j) y := by
  obtain ⟨a, b, e1, e2⟩ := h
  obtain ⟨c, d, e3, e4⟩ := g
  refine ⟨a ++ c, d ++ b, ?_, by rw [List.length_append, e2, e4]⟩
  rw [e1, e3]; simp only [List.append_assoc]
theorem At_l {α : Type} {x y : List α} : At (x ++ y) 0 x := ⟨[], y, by rw [List.nil_append], rfl⟩
theorem At_r {α : Type} {x y : List α} : At (x ++ y) x.length y := ⟨x, [], by rw [List.append_nil], rfl⟩
theorem At_z {α : Type} {x : List α} : At x 0 x := ⟨[], [], by simp, rfl⟩
theorem At_cat {α : Type} {f : Nat → List α} {q : Nat} : ∀ {w : Nat}, q < w → At (cat f w) (cat f q).length (f q)
  | 0, h => absurd h (by omega)
  | w + 1, h => by
    rw [cat]
    by_cases e : q = w
    · subst e; exact At_r
    · have := At_t (At_l (x := cat f w) (y := f w)) (At_cat (f := f) (q := q) (w := w) (by omega))
      rw [Nat.zero_add] at this; exact this
theorem At_le {α : Type} {l x : List α} {i : Nat} (h : At l i x) : i + x.length ≤ l.length := by
  obtain ⟨a, b, e1, e2⟩ := h
  rw [e1, List.length_append, List.length_append]; omega
theorem At_get {α : Type} {l x : List α} {i j : Nat} {d : α} (h : At l i x) (hj : j < x.length) : l.getD (i + j) d = x.getD j d := by
  obtain ⟨a, b, e1, e2⟩ := h
  rw [e1, List.getD_eq_getElem?_getD, List.getD_eq_getElem?_getD, ← e2, List.getElem?_append_right (by omega), Nat.add_sub_cancel_left, List.getElem?_append_left hj]
theorem At_get0 {α : Type} {l x : List α} {i : Nat} {d : α} (h : At l i x) (hj : 0 < x.length) : l.getD i d = x.getD 0 d := At_get (j := 0) h hj
/-! what a jump's bytes mean -/
theorem lh_T (z : Int) (h : -32768 ≤ z ∧ z ≤ 32767) : (sb16 (hi8 z) (lo8 z)).toInt = z := by
  rw [sb16_T (hi8_lt z) (lo8_lt z)]
  unfold hi8 lo8
  split <;> omega
theorem lo_T (z : Int) (h : -128 ≤ z ∧ z ≤ 127) : (sb8 (lo8 z)).toInt = z := by
  rw [sb8_T (lo8_lt z)]
  unfold lo8
  split <;> omega
theorem nI_to {a b : Nat} {x : Int32} (ha : a < 2 ^ 30) (hb : b < 2 ^ 30) (h : x.toInt = (b : Int) - a) : nI a + x = nI b := by
  apply Int32.toInt_inj.mp
  rw [Int32.toInt_add, nI_toInt (by omega), nI_toInt (by omega), h]
  rw [show (a : Int) + ((b : Int) - a) = b by omega]
  exact Int.bmod_eq_of_le (by omega) (by omega)
/-- pairs ahead of an INSTRUCTION -/
def PR (h : Nat) (l : List WB3) : Prop := l.length % 2 = 0 ∧ ∀ i, 2 * i < l.length → (l.getD (2 * i) (0, 0, 0)).2.2 = 0 ∧ ((l.getD (2 * i) (0, 0, 0)).1 = 48 ∨ (l.getD (2 * i) (0, 0, 0)).1 = 51 ∨ (l.getD (2 * i) (0, 0, 0)).1 = 53 ∨ (l.getD (2 * i) (0, 0, 0)).1 = 56)
theorem PR_n {h : Nat} : PR h [] := ⟨rfl, fun i hi => absurd hi (by simp)⟩
theorem PR_a {h : Nat} {x y : List WB3} (a : PR h x) (b : PR h y) : PR h (x ++ y) := by
  obtain ⟨a1, a2⟩ := a
  obtain ⟨b1, b2⟩ := b
  refine ⟨by rw [List.length_append]; omega, fun i hi => ?_⟩
  rw [List.length_append] at hi
  by_cases e : 2 * i < x.length
  · have := At_get (d := ((0 : Nat), (0 : Nat), (0 : Nat))) (At_l (x := x) (y := y)) e
    rw [Nat.zero_add] at this
    rw [this]; exact a2 i e
  · have := At_get (d := ((0 : Nat), (0 : Nat), (0 : Nat))) (j := 2 * (i - x.length / 2)) (At_r (x := x) (y := y)) (by omega)
    rw [show x.length + 2 * (i - x.length / 2) = 2 * i by omega] at this
    rw [this]; exact b2 _ (by omega)
theorem PR_2 {h op q k : Nat} (e : op = 48 ∨ op = 51 ∨ op = 53 ∨ op = 56) : PR h (e2 op q k) := ⟨show 2 % 2 = 0 from rfl, fun i hi => by
  have : (e2 op q k).length = 2 := rfl
  obtain rfl : i = 0 := by omega
  exact ⟨rfl, e⟩⟩
theorem PR_c {h : Nat} {f : Nat → List WB3} (a : ∀ q, PR h (f q)) : ∀ w, PR h (cat f w)
  | 0 => PR_n
  | w + 1 => by rw [cat]; exact PR_a (PR_c a w) (a w)
theorem PR_P {m p h : Nat} {B : Nat → Nat → Nat} (q : Nat) : PR h (fP m B p q) := by
  unfold fP
  split
  · exact PR_2 (by decide)
  · split
    · exact PR_2 (by decide)
    · exact PR_n
theorem PR_L {m p h : Nat} {A B : Nat → Nat → Nat} (q : Nat) : PR h (fL A m B p q) := by
  unfold fL
  split
  · exact PR_2 (by decide)
  · exact PR_n
theorem PR_O {m p h : Nat} {B : Nat → Nat → Nat} (q : Nat) : PR h (fO m B p q) := by
  unfold fO
  split
  · exact PR_2 (by decide)
  · exact PR_n
def ahL (A : Nat → Nat → Nat) (m : Nat) (B : Nat → Nat → Nat) (w p : Nat) : List WB3 := cat (fP m B p) w ++ cat (fL A m B p) w ++ cat (fO m B p) w
theorem PR_ah {A B : Nat → Nat → Nat} {m w p h : Nat} : PR h (ahL A m B w p) := PR_a (PR_a (PR_c PR_P w) (PR_c PR_L w)) (PR_c PR_O w)
theorem len_ah {A B : Nat → Nat → Nat} {m w p : Nat} : (ahL A m B w p).length = ahn A m B w p := by
  unfold ahL ahn
  rw [List.length_append, List.length_append, len_P, len_L, len_O]
theorem grpL_e {A B F : Nat → Nat → Nat} {m w p : Nat} (h : 0 < A 2 p) : grpL A m B w F p = ahL A m B w p ++ (selfL A m B w F p ++ cat (fB m B p) w) := by
  unfold grpL ahL
  rw [if_neg (by omega)]
  simp only [List.append_assoc]
/-! where things lie in woven code -/
section
variable {A B F : Nat → Nat → Nat} {m w : Nat}
theorem at_E {q : Nat} (hq : q < w) : At (codL A m B w F) (2 * cnq B m 2 0 q) (fE m B q) := by
  unfold codL
  have h := At_cat (f := fE m B) hq
  rw [len_E] at h
  have := At_t (At_l (x := cat (fE m B) w ++ cat (grpL A m B w F) (A 0 2) ++ cat (spL A m B w F) (A 0 2) ++ cat (cpL A m B w F) (A 0 3)) (y := lfL m B w)) (At_t At_l (At_t At_l (At_t At_l h)))
  simp only [Nat.zero_add] at this
  exact this
theorem at_G {p : Nat} (hW : W0 A m) (hF : FW A F) (hp : p < A 0 2) : At (codL A m B w F) (Gp A m B w F p) (grpL A m B w F p) := by
  have l := wlen_pG (B := B) (w := w) hW hF p (by omega)
  unfold pfG at l
  rw [List.length_append] at l
  unfold codL
  have h := At_cat (f := grpL A m B w F) hp
  have h2 := At_t (At_r (x := cat (fE m B) w) (y := cat (grpL A m B w F) (A 0 2))) h
  rw [l] at h2
  have := At_t (At_l (x := cat (fE m B) w ++ cat (grpL A m B w F) (A 0 2) ++ cat (spL A m B w F) (A 0 2) ++ cat (cpL A m B w F) (A 0 3)) (y := lfL m B w)) (At_t At_l (At_t At_l h2))
  simp only [Nat.zero_add] at this
  exact this
theorem at_S {p : Nat} (hW : W0 A m) (hF : FW A F) (hp : p < A 0 2) : At (codL A m B w F) (SPp A m B w F p) (spL A m B w F p) := by
  have l := wlen_pS (B := B) (w := w) hW hF p (by omega)
  unfold pfS pfG at l
  rw [List.length_append] at l
  unfold codL
  have h := At_cat (f := spL A m B w F) hp
  have h2 := At_t (At_r (x := cat (fE m B) w ++ cat (grpL A m B w F) (A 0 2)) (y := cat (spL A m B w F) (A 0 2))) h
  rw [l] at h2
  have := At_t (At_l (x := cat (fE m B) w ++ cat (grpL A m B w F) (A 0 2) ++ cat (spL A m B w F) (A 0 2) ++ cat (cpL A m B w F) (A 0 3)) (y := lfL m B w)) (At_t At_l h2)
  simp only [Nat.zero_add] at this
  exact this
theorem at_C {p : Nat} (hW : W0 A m) (hF : FW A F) (hp : p < A 0 3) : At (codL A m B w F) (CPp A m B w F p) (cpL A m B w F p) := by
  have l := wlen_pC (B := B) (w := w) hW hF p (by omega)
  unfold pfC pfS pfG at l
  rw [List.length_append] at l
  unfold codL
  have h := At_cat (f := cpL A m B w F) hp
  have h2 := At_t (At_r (x := cat (fE m B) w ++ cat (grpL A m B w F) (A 0 2) ++ cat (spL A m B w F) (A 0 2)) (y := cat (cpL A m B w F) (A 0 3))) h
  rw [l] at h2
  have := At_t (At_l (x := cat (fE m B) w ++ cat (grpL A m B w F) (A 0 2) ++ cat (spL A m B w F) (A 0 2) ++ cat (cpL A m B w F) (A 0 3)) (y := lfL m B w)) h2
  simp only [Nat.zero_add] at this
  exact this
theorem at_L (hW : W0 A m) (hF : FW A F) : At (codL A m B w F) (LPp A m B w F) (lfL m B w) := by
  have l := wlen_pC (B := B) (w := w) hW hF (A 0 3) (Nat.le_refl _)
  unfold pfC pfS pfG at l
  unfold LPp
  rw [← l]
  unfold codL
  exact At_r
theorem at_ah {p : Nat} (hW : W0 A m) (hF : FW A F) (hp : p < A 0 2) (h2 : 0 < A 2 p) : At (codL A m B w F) (Gp A m B w F p) (ahL A m B w p) := by
  have := at_G (B := B) (w := w) hW hF hp
  rw [grpL_e h2] at this
  have := At_t this At_l
  rw [Nat.add_zero] at this; exact this
theorem at_P {p q : Nat} (hW : W0 A m) (hF : FW A F) (hp : p < A 0 2) (h2 : 0 < A 2 p) (hq : q < w) : At (codL A m B w F) (Gp A m B w F p + 2 * (cnq B m 0 p q + cnq B m 6 p q)) (fP m B p q) := by
  have h := At_cat (f := fP m B p) hq
  rw [len_P] at h
  have h3 := At_t (at_ah (B := B) (w := w) hW hF hp h2) (At_t (show At (ahL A m B w p) 0 _ from At_l) (At_t At_l h))
  simp only [Nat.zero_add] at h3
  exact h3
theorem at_Lv {p q : Nat} (hW : W0 A m) (hF : FW A F) (hp : p < A 0 2) (h2 : 0 < A 2 p) (hq : q < w) (h42 : A 1 p = 42) : At (codL A m B w F) (Gp A m B w F p + (2 * (cnq B m 0 p w + cnq B m 6 p w) + 2 * cnq B m 3 0 q)) (fL A m B p q) := by
  have h := At_cat (f := fL A m B p) hq
  rw [len_L, if_pos h42] at h
  have h3 := At_t (At_r (x := cat (fP m B p) w) (y := cat (fL A m B p) w)) h
  rw [len_P] at h3
  have h4 := At_t (at_ah (B := B) (w := w) hW hF hp h2) (At_t (show At (ahL A m B w p) 0 _ from At_l) h3)
  simp only [Nat.zero_add] at h4
  exact h4
theorem at_O {p q : Nat} (hW : W0 A m) (hF : FW A F) (hp : p < A 0 2) (h2 : 0 < A 2 p) (hq : q < w) : At (codL A m B w F) (Gp A m B w F p + (2 * (cnq B m 0 p w + cnq B m 6 p w) + (if A 1 p = 42 then 2 * cnq B m 3 0 w else 0) + 2 * cnq B m 4 p q)) (fO m B p q) := by
  have h := At_cat (f := fO m B p) hq
  rw [len_O] at h
  have h3 := At_t (At_r (x := cat (fP m B p) w ++ cat (fL A m B p) w) (y := cat (fO m B p) w)) h
  rw [List.length_append, len_P, len_L] at h3
  exact At_t (at_ah (B := B) (w := w) hW hF hp h2) h3
theorem at_s {p : Nat} (hW : W0 A m) (hF : FW A F) (hp : p < A 0 2) (h2 : 0 < A 2 p) : At (codL A m B w F) (Sp A m B w F p) (selfL A m B w F p) := by
  have h := at_G (B := B) (w := w) hW hF hp
  rw [grpL_e h2] at h
  have h3 := At_t h (At_t At_r At_l)
  rw [len_ah, Nat.add_zero] at h3
  exact h3
theorem at_B {p q : Nat} (hW : W0 A m) (hF : FW A F) (hp : p < A 0 2) (h2 : 0 < A 2 p) (hq : q < w) : At (codL A m B w F) (Sp A m B w F p + (A 2 p + F 0 p + bhn m B q p)) (fB m B p q) := by
  have h := at_G (B := B) (w := w) hW hF hp
  rw [grpL_e h2] at h
  have g := At_cat (f := fB m B p) hq
  rw [len_B] at g
  have h3 := At_t h (At_t At_r (At_t At_r g))
  rw [len_ah, wlen_s hW hF hp h2] at h3
  unfold Sp
  rw [show Gp A m B w F p + ahn A m B w p + (A 2 p + F 0 p + bhn m B q p) = Gp A m B w F p + (ahn A m B w p + (A 2 p + F 0 p + bhn m B q p)) by omega]
  exact h3
theorem at_sp {p q : Nat} (hW : W0 A m) (hF : FW A F) (hp : p < A 0 2) (hq : q < w) (h1 : atq B m 1 p q) (hc : cnq B m 1 p w ≠ 0) : At (codL A m B w F) (SPp A m B w F p + 3 * cnq B m 1 p q) (e3 q 1 0) := by
  have h := at_S (B := B) (w := w) hW hF hp
  unfold spL at h
  rw [if_neg hc] at h
  have g := At_cat (f := fun q => if atq B m 1 p q then e3 q 1 0 else []) hq
  rw [len_c (k := 3) (fun q => rfl), if_pos h1] at g
  have h3 := At_t h (At_t At_l g)
  rw [Nat.zero_add] at h3
  exact h3
theorem at_sj {p : Nat} (hW : W0 A m) (hF : FW A F) (hp : p < A 0 2) (hc : cnq B m 1 p w ≠ 0) : At (codL A m B w F) (SPp A m B w F p + 3 * cnq B m 1 p w) (jl 20 (decide (F 1 p = 1)) ((Gp A m B w F (tgn A p 0) : Int) - (SPp A m B w F p + 3 * cnq B m 1 p w : Nat)) 0 0) := by
  have h := at_S (B := B) (w := w) hW hF hp
  unfold spL at h
  rw [if_neg hc] at h
  have h3 := At_t h At_r
  rw [len_c (k := 3) (fun q => rfl)] at h3
  exact h3
theorem at_cp {j q : Nat} (hW : W0 A m) (hF : FW A F) (hj : j < A 0 3) (hq : q < w) (h1 : atq B m 5 (A 3 (4 * j + 2)) q) (hc : cnq B m 5 (A 3 (4 * j + 2)) w ≠ 0) : At (codL A m B w F) (CPp A m B w F j + 2 * cnq B m 5 (A 3 (4 * j + 2)) q) (e2 55 q 0) := by
  have h := at_C (B := B) (w := w) hW hF hj
  unfold cpL at h
  rw [if_neg hc] at h
  have g := At_cat (f := fun q => if atq B m 5 (A 3 (4 * j + 2)) q then e2 55 q 0 else []) hq
  rw [len_c (k := 2) (fun q => rfl), if_pos h1] at g
  have h3 := At_t h (At_t At_l g)
  rw [Nat.zero_add] at h3
  exact h3
theorem at_cj {j : Nat} (hW : W0 A m) (hF : FW A F) (hj : j < A 0 3) (hc : cnq B m 5 (A 3 (4 * j + 2)) w ≠ 0) : At (codL A m B w F) (CPp A m B w F j + 2 * cnq B m 5 (A 3 (4 * j + 2)) w) (jl 20 (decide (F 2 j = 1)) ((Gp A m B w F (A 3 (4 * j + 2)) : Int) - (CPp A m B w F j + 2 * cnq B m 5 (A 3 (4 * j + 2)) w : Nat)) 0 0) := by
  have h := at_C (B := B) (w := w) hW hF hj
  unfold cpL at h
  rw [if_neg hc] at h
  have h3 := At_t h At_r
  rw [len_c (k := 2) (fun q => rfl)] at h3
  exact h3
theorem at_lf {q : Nat} (hW : W0 A m) (hF : FW A F) (hq : q < w) (h1 : atq B m 3 0 q) (hc : cnq B m 3 0 w ≠ 0) : At (codL A m B w F) (LPp A m B w F + 2 * cnq B m 3 0 q) (e2 52 q 0) := by
  have h := at_L (B := B) (w := w) hW hF
  unfold lfL at h
  rw [if_neg hc] at h
  have g := At_cat (f := fun q => if atq B m 3 0 q then e2 52 q 0 else []) hq
  rw [len_c (k := 2) (fun q => rfl), if_pos h1] at g
  have h3 := At_t h (At_t At_l g)
  rw [Nat.zero_add] at h3
  exact h3
theorem at_ag (hW : W0 A m) (hF : FW A F) (hc : cnq B m 3 0 w ≠ 0) : At (codL A m B w F) (LPp A m B w F + 2 * cnq B m 3 0 w) [(58, 0, 0)] := by
  have h := at_L (B := B) (w := w) hW hF
  unfold lfL at h
  rw [if_neg hc] at h
  have h3 := At_t h At_r
  rw [len_c (k := 2) (fun q => rfl)] at h3
  exact h3
end
