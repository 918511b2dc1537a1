/-! PURE 38: WEAVING: what is meant; the invariant of the calls -/
abbrev atq (B : Nat → Nat → Nat) (m s p q : Nat) : Prop := B 0 q = s ∧ B 1 q = m ∧ B 2 q = p
/-- how many PROBES below w: a SORT at a place of METHOD m -/
def cnq (B : Nat → Nat → Nat) (m s p : Nat) : Nat → Nat
  | 0 => 0
  | q + 1 => if atq B m s p q then cnq B m s p q + 1 else cnq B m s p q
def cat {α : Type} (f : Nat → List α) : Nat → List α
  | 0 => []
  | n + 1 => cat f n ++ f n
def ahn (A : Nat → Nat → Nat) (m : Nat) (B : Nat → Nat → Nat) (w p : Nat) : Nat := 2 * (cnq B m 0 p w + cnq B m 6 p w) + (if A 1 p = 42 then 2 * cnq B m 3 0 w else 0) + 2 * cnq B m 4 p w
def bhn (m : Nat) (B : Nat → Nat → Nat) (w p : Nat) : Nat := 3 * cnq B m 1 p w + 2 * cnq B m 4 p w + 2 * cnq B m 7 p w
/-- where a GROUP begins -/
def Gp (A : Nat → Nat → Nat) (m : Nat) (B : Nat → Nat → Nat) (w : Nat) (F : Nat → Nat → Nat) : Nat → Nat
  | 0 => 2 * cnq B m 2 0 w
  | p + 1 => if A 2 p = 0 then Gp A m B w F p else Gp A m B w F p + ahn A m B w p + A 2 p + F 0 p + bhn m B w p
def Sp (A : Nat → Nat → Nat) (m : Nat) (B : Nat → Nat → Nat) (w : Nat) (F : Nat → Nat → Nat) (p : Nat) : Nat := Gp A m B w F p + ahn A m B w p
def SPp (A : Nat → Nat → Nat) (m : Nat) (B : Nat → Nat → Nat) (w : Nat) (F : Nat → Nat → Nat) : Nat → Nat
  | 0 => Gp A m B w F (A 0 2)
  | p + 1 => if cnq B m 1 p w = 0 then SPp A m B w F p else SPp A m B w F p + 3 * cnq B m 1 p w + 2 + F 1 p
def CPp (A : Nat → Nat → Nat) (m : Nat) (B : Nat → Nat → Nat) (w : Nat) (F : Nat → Nat → Nat) : Nat → Nat
  | 0 => SPp A m B w F (A 0 2)
  | k + 1 => if cnq B m 5 (A 3 (4 * k + 2)) w = 0 then CPp A m B w F k else CPp A m B w F k + 2 * cnq B m 5 (A 3 (4 * k + 2)) w + 2 + F 2 k
def LPp (A : Nat → Nat → Nat) (m : Nat) (B : Nat → Nat → Nat) (w : Nat) (F : Nat → Nat → Nat) : Nat := CPp A m B w F (A 0 3)
def TOT (A : Nat → Nat → Nat) (m : Nat) (B : Nat → Nat → Nat) (w : Nat) (F : Nat → Nat → Nat) : Nat := LPp A m B w F + (if cnq B m 3 0 w = 0 then 0 else 2 * cnq B m 3 0 w + 1)
def tgn (A : Nat → Nat → Nat) (p i : Nat) : Nat := (tgx A p i).toNatClampNeg
/-- where target i of the jump at p lies -/
def dst (A : Nat → Nat → Nat) (m : Nat) (B : Nat → Nat → Nat) (w : Nat) (F : Nat → Nat → Nat) (p i : Nat) : Nat := if cnq B m 1 p w = 0 then Gp A m B w F (tgn A p i) else SPp A m B w F p
def lo8 (z : Int) : Nat := (z % 256).toNat
def hi8 (z : Int) : Nat := (z / 256 % 256).toNat
/-- a byte, its home + 1, its origin + 1 (0: none) -/
abbrev WB3 : Type := Nat × Nat × Nat
def e2 (op q h : Nat) : List WB3 := [(op, h, 0), (q, h, 0)]
def e3 (q side h : Nat) : List WB3 := [(49, h, 0), (q, h, 0), (side, h, 0)]
def jl (op : Nat) (lg : Bool) (z : Int) (h o : Nat) : List WB3 := if lg then [(op + 64, h, o), (hi8 z, h, 0), (lo8 z, h, 0)] else [(op, h, o), (lo8 z, h, 0)]
def selfL (A : Nat → Nat → Nat) (m : Nat) (B : Nat → Nat → Nat) (w : Nat) (F : Nat → Nat → Nat) (p : Nat) : List WB3 :=
  if isSt (A 1 p) ∨ isLg (A 1 p) then jl (sho (A 1 p)) (decide (isLg (A 1 p) ∨ F 0 p = 1)) ((dst A m B w F p 0 : Int) - Sp A m B w F p) (p + 1) (p + 1)
  else if A 1 p = 33 then (33, p + 1, p + 1) :: (A 1 (p + 1), p + 1, 0) :: cat (fun i => [(hi8 ((dst A m B w F p i : Int) - Sp A m B w F p), p + 1, 0), (lo8 ((dst A m B w F p i : Int) - Sp A m B w F p), p + 1, 0)]) (njp A p)
  else cat (fun i => [(A 1 (p + i), p + 1, if i = 0 then p + 1 else 0)]) (A 2 p)
def fE (m : Nat) (B : Nat → Nat → Nat) (q : Nat) : List WB3 := if atq B m 2 0 q then e2 50 q 0 else []
def fP (m : Nat) (B : Nat → Nat → Nat) (p q : Nat) : List WB3 := if atq B m 0 p q then e2 48 q (p + 1) else if atq B m 6 p q then e2 56 q (p + 1) else []
def fL (A : Nat → Nat → Nat) (m : Nat) (B : Nat → Nat → Nat) (p q : Nat) : List WB3 := if A 1 p = 42 ∧ atq B m 3 0 q then e2 51 q (p + 1) else []
def fO (m : Nat) (B : Nat → Nat → Nat) (p q : Nat) : List WB3 := if atq B m 4 p q then e2 53 q (p + 1) else []
def fB (m : Nat) (B : Nat → Nat → Nat) (p q : Nat) : List WB3 := if atq B m 4 p q then e2 54 q (p + 1) else if atq B m 7 p q then e2 57 q (p + 1) else if atq B m 1 p q then e3 q 0 (p + 1) else []
def grpL (A : Nat → Nat → Nat) (m : Nat) (B : Nat → Nat → Nat) (w : Nat) (F : Nat → Nat → Nat) (p : Nat) : List WB3 := if A 2 p = 0 then [] else cat (fP m B p) w ++ cat (fL A m B p) w ++ cat (fO m B p) w ++ selfL A m B w F p ++ cat (fB m B p) w
def spL (A : Nat → Nat → Nat) (m : Nat) (B : Nat → Nat → Nat) (w : Nat) (F : Nat → Nat → Nat) (p : Nat) : List WB3 := if cnq B m 1 p w = 0 then [] else cat (fun q => if atq B m 1 p q then e3 q 1 0 else []) w ++ jl 20 (decide (F 1 p = 1)) ((Gp A m B w F (tgn A p 0) : Int) - (SPp A m B w F p + 3 * cnq B m 1 p w : Nat)) 0 0
def cpL (A : Nat → Nat → Nat) (m : Nat) (B : Nat → Nat → Nat) (w : Nat) (F : Nat → Nat → Nat) (k : Nat) : List WB3 := if cnq B m 5 (A 3 (4 * k + 2)) w = 0 then [] else cat (fun q => if atq B m 5 (A 3 (4 * k + 2)) q then e2 55 q 0 else []) w ++ jl 20 (decide (F 2 k = 1)) ((Gp A m B w F (A 3 (4 * k + 2)) : Int) - (CPp A m B w F k + 2 * cnq B m 5 (A 3 (4 * k + 2)) w : Nat)) 0 0
def lfL (m : Nat) (B : Nat → Nat → Nat) (w : Nat) : List WB3 := if cnq B m 3 0 w = 0 then [] else cat (fun q => if atq B m 3 0 q then e2 52 q 0 else []) w ++ [(58, 0, 0)]
def codL (A : Nat → Nat → Nat) (m : Nat) (B : Nat → Nat → Nat) (w : Nat) (F : Nat → Nat → Nat) : List WB3 := cat (fE m B) w ++ cat (grpL A m B w F) (A 0 2) ++ cat (spL A m B w F) (A 0 2) ++ cat (cpL A m B w F) (A 0 3) ++ lfL m B w
/-- what still does not reach: a short jump's own distance -/
def far (a b : Nat) : Prop := ¬ (-128 ≤ (b : Int) - a ∧ (b : Int) - a ≤ 127)
def stl (A : Nat → Nat → Nat) (m : Nat) (B : Nat → Nat → Nat) (w : Nat) (F : Nat → Nat → Nat) : Prop :=
  (∀ p, p < A 0 2 → 0 < A 2 p → isSt (A 1 p) → F 0 p = 0 → ¬ far (Sp A m B w F p) (dst A m B w F p 0)) ∧
  (∀ p, p < A 0 2 → 0 < cnq B m 1 p w → F 1 p = 0 → ¬ far (SPp A m B w F p + 3 * cnq B m 1 p w) (Gp A m B w F (tgn A p 0))) ∧
  (∀ k, k < A 0 3 → 0 < cnq B m 5 (A 3 (4 * k + 2)) w → F 2 k = 0 → ¬ far (CPp A m B w F k + 2 * cnq B m 5 (A 3 (4 * k + 2)) w) (Gp A m B w F (A 3 (4 * k + 2))))
def oM (h : Nat) : Int32 := if h = 0 then -1 else nI (h - 1)
/-- both hold what was woven of METHOD m with w PROBES -/
def WVo (A : Nat → Nat → Nat) (m : Nat) (B : Nat → Nat → Nat) (w : Nat) (F : Nat → Nat → Nat) (I : zI) : Prop :=
  TOT A m B w F ≤ 1000 ∧ (∀ i p, F i p ≤ 1) ∧ (∀ p, F 0 p = 1 → isSt (A 1 p)) ∧ stl A m B w F ∧
  I (26 + 12 * m) 6 = nI (TOT A m B w F) ∧ I 177 m = nI (TOT A m B w F) ∧
  I (26 + 12 * m) 7 = nI (A 0 3 + if cnq B m 3 0 w = 0 then 0 else 1) ∧ I 179 m = nI (A 0 3 + if cnq B m 3 0 w = 0 then 0 else 1) ∧
  I (26 + 12 * m) 8 = I 185 m ∧ I (26 + 12 * m) 9 = I 186 m ∧ I (26 + 12 * m) 10 = nI w ∧ I 175 m = nI w ∧
  (∀ i, i < TOT A m B w F → I (27 + 12 * m) i = nI ((codL A m B w F).getD i (0, 0, 0)).1 ∧ I (28 + 12 * m) i = oM ((codL A m B w F).getD i (0, 0, 0)).2.1 ∧ I 176 (1000 * m + i) = nI ((codL A m B w F).getD i (0, 0, 0)).1 ∧ I 178 (1000 * m + i) = oM ((codL A m B w F).getD i (0, 0, 0)).2.2) ∧
  (∀ p, p < A 0 2 → 0 < A 2 p → I (29 + 12 * m) p = nI (Sp A m B w F p) ∧ I 184 (400 * m + p) = nI (Sp A m B w F p) ∧ I (30 + 12 * m) p = if ahn A m B w p + bhn m B w p = 0 then 0 else 1) ∧
  (∀ k, k < A 0 3 → I (31 + 12 * m) (4 * k + 0) = nI (Gp A m B w F (A 3 (4 * k))) ∧ I (31 + 12 * m) (4 * k + 1) = nI (Gp A m B w F (A 3 (4 * k + 1))) ∧ I (31 + 12 * m) (4 * k + 2) = nI (if cnq B m 5 (A 3 (4 * k + 2)) w = 0 then Gp A m B w F (A 3 (4 * k + 2)) else CPp A m B w F k) ∧ I (31 + 12 * m) (4 * k + 3) = nI (A 3 (4 * k + 3)) ∧
    I 180 (9 * m + k) = nI (Gp A m B w F (A 3 (4 * k))) ∧ I 181 (9 * m + k) = nI (Gp A m B w F (A 3 (4 * k + 1))) ∧ I 182 (9 * m + k) = nI (if cnq B m 5 (A 3 (4 * k + 2)) w = 0 then Gp A m B w F (A 3 (4 * k + 2)) else CPp A m B w F k) ∧ I 183 (9 * m + k) = nI (A 3 (4 * k + 3))) ∧
  (cnq B m 3 0 w ≠ 0 → I (31 + 12 * m) (4 * A 0 3 + 0) = nI (Gp A m B w F 0) ∧ I (31 + 12 * m) (4 * A 0 3 + 1) = nI (Gp A m B w F (A 0 2)) ∧ I (31 + 12 * m) (4 * A 0 3 + 2) = nI (LPp A m B w F) ∧ I (31 + 12 * m) (4 * A 0 3 + 3) = 0 ∧
    I 180 (9 * m + A 0 3) = nI (Gp A m B w F 0) ∧ I 181 (9 * m + A 0 3) = nI (Gp A m B w F (A 0 2)) ∧ I 182 (9 * m + A 0 3) = nI (LPp A m B w F) ∧ I 183 (9 * m + A 0 3) = 0)
def VW (n : Nat) (A : Nat → Nat → Nat → Nat) (k : Nat) (B : Nat → Nat → Nat) (m : Nat) (I : zI) : Prop :=
  (I (26 + 12 * m) 5 = 0 ∧ I 175 m = -1) ∨ (m < n ∧ I (26 + 12 * m) 5 = 1 ∧ ∃ w F, w ≤ k ∧ WVo (A m) m B w F I)
/-- a SORT fits an INSTRUCTION -/
def fitP (A : Nat → Nat → Nat) (s p : Nat) : Prop :=
  (s = 1 → 21 ≤ sho (A 1 p) ∧ sho (A 1 p) ≤ 32) ∧ (s = 2 ∨ s = 3 → p = 0) ∧ (s = 4 → A 1 p = 35 ∨ A 1 p = 39) ∧ (s = 5 → ∃ k, k < A 0 3 ∧ A 3 (4 * k + 2) = p) ∧
  (s = 7 → A 1 p = 1 ∨ A 1 p = 2 ∨ (9 ≤ A 1 p ∧ A 1 p ≤ 19) ∨ A 1 p = 34 ∨ A 1 p = 37 ∨ A 1 p = 38 ∨ A 1 p = 40)
def PB (n : Nat) (A : Nat → Nat → Nat → Nat) (k : Nat) (B : Nat → Nat → Nat) (I : zI) : Prop :=
  k ≤ 24 ∧ I 108 5 = nI k ∧ I 155 17 = nI k ∧ ∀ q, q < k → I 109 q = nI (B 0 q) ∧ I 170 q = nI (B 0 q) ∧ I 110 q = nI (B 1 q) ∧ I 171 q = nI (B 1 q) ∧ I 111 q = nI (B 2 q) ∧ I 172 q = nI (B 2 q) ∧ I 112 q = I 173 q ∧ I 113 q = I 174 q ∧
    B 0 q < 8 ∧ B 1 q < n ∧ B 2 q < A (B 1 q) 0 2 ∧ 0 < A (B 1 q) 2 (B 2 q) ∧ fitP (A (B 1 q)) (B 0 q) (B 2 q) ∧
    (B 0 q = 6 → ∃ x y, 1 ≤ x ∧ x ≤ 1000 ∧ 1 ≤ y ∧ y ≤ 100 ∧ I 112 q = nI x ∧ I 113 q = nI y)
def WFm (A : Nat → Nat → Nat → Nat) (m : Nat) : Prop := W0 (A m) m ∧ (∀ p, p < A m 0 2 → jok (A m) p) ∧ (∀ k, k < A m 0 3 → hok (A m) k) ∧ ∃ (ar : Nat → Nat) (T : TS), (∀ j, j ≤ m → ar j = A j 0 0) ∧ Cons (A m) ar T
def RTp (I : zI) : Prop := ∃ (t : Nat) (b : Nat → Nat), t ≤ 600 ∧ I 0 8 = nI t ∧ I 155 1 = nI t ∧ (∀ j, j < 600 → b j < 256 ∧ I 1 j = nI (b j)) ∧ ∀ j, j < t → I 156 j = nI (b j)
/-- what holds between two calls -/
def Rel (n : Nat) (A : Nat → Nat → Nat → Nat) (k : Nat) (B : Nat → Nat → Nat) (I : zI) : Prop :=
  RTp I ∧ I 0 10 = I 155 2 ∧ I 0 11 = I 155 73 ∧ RM n A I ∧ (∀ m, m < n → WFm A m) ∧ (∀ m, m < 6 → I (20 + 12 * m) 0 = nI m) ∧ PB n A k B I ∧ (∀ m, m < 6 → VW n A k B m I) ∧ (∀ j, j < 3 → RT j I)
theorem W0_aT {A : Nat → Nat → Nat} {m : Nat} {C : TS} (h : W0 A m) : W0 (aT A C) m := h
theorem jok_aT {A : Nat → Nat → Nat} {p : Nat} {C : TS} (h : jok A p) : jok (aT A C) p := h
theorem hok_aT {A : Nat → Nat → Nat} {k : Nat} {C : TS} (h : hok A k) : hok (aT A C) k := h
theorem Cons_aT {A : Nat → Nat → Nat} {ar : Nat → Nat} {C T : TS} (h : Cons A ar T) : Cons (aT A C) ar T := h
/-! parts of Rel that a call leaves alone -/
theorem RTp_c {I I' : zI} (h : RTp I) (f : ∀ c j, (c = 0 ∧ j = 8) ∨ c = 1 ∨ (c = 155 ∧ j = 1) ∨ c = 156 → I' c j = I c j) : RTp I' := by
  obtain ⟨t, b, h1, h2, h3, h4, h5⟩ := h
  exact ⟨t, b, h1, by rw [f _ _ (by omega)]; exact h2, by rw [f _ _ (by omega)]; exact h3, fun j hj => ⟨(h4 j hj).1, by rw [f _ _ (by omega)]; exact (h4 j hj).2⟩, fun j hj => by rw [f _ _ (by omega)]; exact h5 j hj⟩
theorem LMI_c {A : Nat → Nat → Nat} {m : Nat} {I I' : zI} (h : LMI A m I) (f : ∀ c j, (c = 20 + 12 * m ∧ 7 ≤ j ∧ j ≤ 10) ∨ (21 + 12 * m ≤ c ∧ c ≤ 25 + 12 * m) → I' c j = I c j) : LMI A m I' := by
  obtain ⟨h1, h2, h3, h4, h5, h6, h7⟩ := h
  refine ⟨by rw [f _ _ (by omega)]; exact h1, by rw [f _ _ (by omega)]; exact h2, by rw [f _ _ (by omega)]; exact h3, by rw [f _ _ (by omega)]; exact h4, fun p hp => ⟨by rw [f _ _ (by omega)]; exact (h5 p hp).1, by rw [f _ _ (by omega)]; exact (h5 p hp).2⟩, fun k hk => by rw [f _ _ (by omega)]; exact h6 k hk, fun p hp hz => ?_⟩
  rw [f _ _ (by omega), f _ _ (by omega)]; exact h7 p hp hz
def blkM (m c j : Nat) : Prop := ((c = 157 ∨ c = 158 ∨ c = 159 ∨ c = 161) ∧ j = m) ∨ ((c = 160 ∨ c = 166 ∨ c = 167) ∧ 400 * m ≤ j ∧ j < 400 * m + 400) ∨ ((162 ≤ c ∧ c ≤ 165) ∧ 8 * m ≤ j ∧ j < 8 * m + 8) ∨ (c = 168 ∧ 4800 * m ≤ j ∧ j < 4800 * m + 4800) ∨ (c = 169 ∧ 4000 * m ≤ j ∧ j < 4000 * m + 4000)
theorem RMI_c {A : Nat → Nat → Nat} {m : Nat} {I I' : zI} (hB : WB A) (h : RMI A m I) (f : ∀ c j, blkM m c j → I' c j = I c j) : RMI A m I' := by
  obtain ⟨h1, h2, h3, h4, h5, h6, h7⟩ := h
  obtain ⟨-, -, -, -, b5, b6, -, -, b9, -⟩ := hB
  unfold blkM at f
  refine ⟨by rw [f _ _ (by omega)]; exact h1, by rw [f _ _ (by omega)]; exact h2, by rw [f _ _ (by omega)]; exact h3, by rw [f _ _ (by omega)]; exact h4, fun p hp => ⟨by rw [f _ _ (by omega)]; exact (h5 p hp).1, by rw [f _ _ (by omega)]; exact (h5 p hp).2⟩, fun k hk => ⟨by rw [f _ _ (by omega)]; exact (h6 k hk).1, by rw [f _ _ (by omega)]; exact (h6 k hk).2.1, by rw [f _ _ (by omega)]; exact (h6 k hk).2.2.1, by rw [f _ _ (by omega)]; exact (h6 k hk).2.2.2⟩, fun p hp hz => ?_⟩
  have := b9 p hp
  rw [f 167 _ (by omega)]
  refine ⟨(h7 p hp hz).1, fun g => ⟨((h7 p hp hz).2 g).1, fun k hk => by rw [f _ _ (by omega)]; exact ((h7 p hp hz).2 g).2.1 k hk, fun k hk => by rw [f _ _ (by omega)]; exact ((h7 p hp hz).2 g).2.2 k hk⟩⟩
theorem RM_c {n : Nat} {A : Nat → Nat → Nat → Nat} {I I' : zI} (h : RM n A I) (f0 : I' 0 9 = I 0 9) (f1 : I' 155 3 = I 155 3) (f : ∀ m, m < n → (∀ c j, (c = 20 + 12 * m ∧ 7 ≤ j ∧ j ≤ 10) ∨ (21 + 12 * m ≤ c ∧ c ≤ 25 + 12 * m) ∨ blkM m c j → I' c j = I c j)) : RM n A I' := by
  obtain ⟨h1, h2, h3, h4⟩ := h
  refine ⟨h1, by rw [f0]; exact h2, by rw [f1]; exact h3, fun m hm => ?_⟩
  obtain ⟨g1, g2, g3⟩ := h4 m hm
  exact ⟨LMI_c g1 (fun c j q => f m hm c j (by omega)), RMI_c g3 g2 (fun c j q => f m hm c j (Or.inr (Or.inr q))), g3⟩
theorem PB_c {n k : Nat} {A : Nat → Nat → Nat → Nat} {B : Nat → Nat → Nat} {I I' : zI} (h : PB n A k B I) (f : ∀ c j, (c = 108 ∧ j = 5) ∨ (109 ≤ c ∧ c ≤ 113) ∨ (c = 155 ∧ j = 17) ∨ (170 ≤ c ∧ c ≤ 174) → I' c j = I c j) : PB n A k B I' := by
  obtain ⟨h1, h2, h3, h4⟩ := h
  refine ⟨h1, by rw [f _ _ (by omega)]; exact h2, by rw [f _ _ (by omega)]; exact h3, fun q hq => ?_⟩
  rw [f 109 q (by omega), f 170 q (by omega), f 110 q (by omega), f 171 q (by omega), f 111 q (by omega), f 172 q (by omega), f 112 q (by omega), f 173 q (by omega), f 113 q (by omega), f 174 q (by omega)]
  exact h4 q hq
def blkW (m c j : Nat) : Prop := (26 + 12 * m ≤ c ∧ c ≤ 31 + 12 * m) ∨ ((c = 175 ∨ c = 177 ∨ c = 179 ∨ c = 185 ∨ c = 186) ∧ j = m) ∨ ((c = 176 ∨ c = 178) ∧ 1000 * m ≤ j ∧ j < 1000 * m + 1000) ∨ ((180 ≤ c ∧ c ≤ 183) ∧ 9 * m ≤ j ∧ j < 9 * m + 9) ∨ (c = 184 ∧ 400 * m ≤ j ∧ j < 400 * m + 400)
theorem WVo_c {A : Nat → Nat → Nat} {m w : Nat} {B F : Nat → Nat → Nat} {I I' : zI} (hl : A 0 2 ≤ 400) (hh : A 0 3 ≤ 8) (h : WVo A m B w F I) (f : ∀ c j, blkW m c j → I' c j = I c j) : WVo A m B w F I' := by
  obtain ⟨h1, h2, h3, h4, h5, h6, h7, h8, h9, h10, h11, h12, h13, h14, h15, h16⟩ := h
  unfold blkW at f
  refine ⟨h1, h2, h3, h4, by rw [f _ _ (by omega)]; exact h5, by rw [f _ _ (by omega)]; exact h6, by rw [f _ _ (by omega)]; exact h7, by rw [f _ _ (by omega)]; exact h8, by rw [f _ _ (by omega), f _ _ (by omega)]; exact h9, by rw [f _ _ (by omega), f _ _ (by omega)]; exact h10, by rw [f _ _ (by omega)]; exact h11, by rw [f _ _ (by omega)]; exact h12, fun i hi => ?_, fun p hp hz => ?_, fun k hk => ?_, fun hz => ?_⟩
  · rw [f (27 + 12 * m) i (by omega), f (28 + 12 * m) i (by omega), f 176 _ (by omega), f 178 _ (by omega)]; exact h13 i hi
  · rw [f (29 + 12 * m) p (by omega), f 184 _ (by omega), f (30 + 12 * m) p (by omega)]; exact h14 p hp hz
  · rw [f (31 + 12 * m) (4 * k + 0) (by omega), f (31 + 12 * m) (4 * k + 1) (by omega), f (31 + 12 * m) (4 * k + 2) (by omega), f (31 + 12 * m) (4 * k + 3) (by omega), f 180 _ (by omega), f 181 _ (by omega), f 182 _ (by omega), f 183 _ (by omega)]; exact h15 k hk
  · rw [f (31 + 12 * m) (4 * A 0 3 + 0) (by omega), f (31 + 12 * m) (4 * A 0 3 + 1) (by omega), f (31 + 12 * m) (4 * A 0 3 + 2) (by omega), f (31 + 12 * m) (4 * A 0 3 + 3) (by omega), f 180 _ (by omega), f 181 _ (by omega), f 182 _ (by omega), f 183 _ (by omega)]; exact h16 hz
theorem VW_c {n k m : Nat} {A : Nat → Nat → Nat → Nat} {B : Nat → Nat → Nat} {I I' : zI} (hW : ∀ m, m < n → WB (A m)) (h : VW n A k B m I) (f : ∀ c j, blkW m c j → I' c j = I c j) : VW n A k B m I' := by
  rcases h with ⟨h1, h2⟩ | ⟨hm, h1, w, F, hw, h2⟩
  · exact Or.inl ⟨by rw [f _ _ (by unfold blkW; omega)]; exact h1, by rw [f _ _ (by unfold blkW; omega)]; exact h2⟩
  · have hB := hW m hm
    exact Or.inr ⟨hm, by rw [f _ _ (by unfold blkW; omega)]; exact h1, w, F, hw, WVo_c hB.2.2.2.2.1 hB.2.2.2.2.2.1 h2 f⟩
theorem RT_c {k : Nat} {I I' : zI} (hk : k < 3) (h : RT k I) (f : ∀ c j, (93 + 5 * k ≤ c ∧ c ≤ 97 + 5 * k) ∨ (208 ≤ c ∧ c ≤ 220) → I' c j = I c j) : RT k I' := by
  obtain ⟨t0, t | t⟩ := h
  · obtain ⟨t1, t5, t6, t7, t8, t9, t10, t11, t12, t13⟩ := t
    exact ⟨by rw [f _ _ (by omega), f _ _ (by omega)]; exact t0, Or.inl ⟨by rw [f _ _ (by omega)]; exact t1, by rw [f _ _ (by omega)]; exact t5, by rw [f _ _ (by omega)]; exact t6, by rw [f _ _ (by omega)]; exact t7, by rw [f _ _ (by omega)]; exact t8, by rw [f _ _ (by omega)]; exact t9, by rw [f _ _ (by omega)]; exact t10, by rw [f _ _ (by omega)]; exact t11, by rw [f _ _ (by omega)]; exact t12, fun j hj => by rw [f _ _ (by omega)]; exact t13 j hj⟩⟩
  · obtain ⟨t1, t5, t6, t7, t8, t9, t10, mc, rc, hmc, hrc, t11, r11, t12, r12, t2, t3, t4⟩ := t
    exact ⟨by rw [f _ _ (by omega), f _ _ (by omega)]; exact t0, Or.inr ⟨by rw [f _ _ (by omega)]; exact t1, by rw [f _ _ (by omega), f _ _ (by omega)]; exact t5, by rw [f _ _ (by omega), f _ _ (by omega)]; exact t6, by rw [f _ _ (by omega), f _ _ (by omega)]; exact t7, by rw [f _ _ (by omega), f _ _ (by omega)]; exact t8, by rw [f _ _ (by omega), f _ _ (by omega)]; exact t9, by rw [f _ _ (by omega), f _ _ (by omega)]; exact t10, mc, rc, hmc, hrc, by rw [f _ _ (by omega)]; exact t11, by rw [f _ _ (by omega)]; exact r11, by rw [f _ _ (by omega)]; exact t12, by rw [f _ _ (by omega)]; exact r12, fun i hi => by rw [f _ _ (by omega), f _ _ (by omega)]; exact t2 i hi, fun i hi => by rw [f _ _ (by omega), f _ _ (by omega)]; exact t3 i hi, fun i hi hi2 => by rw [f _ _ (by omega), f _ _ (by omega), f _ _ (by omega), f _ _ (by omega)]; exact t4 i hi hi2⟩⟩
theorem RW_of {n k m : Nat} {A : Nat → Nat → Nat → Nat} {B : Nat → Nat → Nat} {I : zI} (hk : k ≤ 24) (hB : WB (A m)) (h : VW n A k B m I) : RW (A m) m I := by
  rcases h with h | ⟨hm, h1, w, F, hw, h2⟩
  · exact Or.inl h
  · obtain ⟨g1, g2, g3, g4, g5, g6, g7, g8, g9, g10, g11, g12, g13, g14, g15, g16⟩ := h2
    have hh := hB.2.2.2.2.2.1
    refine Or.inr ⟨h1, w, TOT (A m) m B w F, A m 0 3 + (if cnq B m 3 0 w = 0 then 0 else 1), by omega, g1, ?_, g12, g5, g6, g7, g8, g9, g10, fun i hi => ?_, fun j hj => ?_, fun p hp hz => ?_⟩
    · split <;> omega
    · rw [(g13 i hi).1, (g13 i hi).2.2.1]
    · by_cases e : j < A m 0 3
      · obtain ⟨y0, y1, y2, y3, z0, z1, z2, z3⟩ := g15 j e
        exact ⟨by rw [y0, z0], by rw [y1, z1], by rw [y2, z2], by rw [y3, z3]⟩
      · have hz : cnq B m 3 0 w ≠ 0 := fun z => by rw [if_pos z] at hj; omega
        rw [if_neg hz] at hj
        obtain rfl : j = A m 0 3 := by omega
        obtain ⟨y0, y1, y2, y3, z0, z1, z2, z3⟩ := g16 hz
        exact ⟨by rw [y0, z0], by rw [y1, z1], by rw [y2, z2], by rw [y3, z3]⟩
    · rw [(g14 p hp hz).1, (g14 p hp hz).2.1]
