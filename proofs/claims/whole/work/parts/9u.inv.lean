/-! PURE 80: RUN: places of the code that runs, what is asked of them; the invariant -/
abbrev Zn : Type := Nat × Nat × Nat × (Nat → Prop)
abbrev PlT : Type := Nat → Nat → List Nat → (Nat → Nat) → Nat → Zn → Prop
def zNo (z : Zn) : Prop := ∀ q, ¬ z.2.2.2 q
def zOk (z : Zn) : Prop := z.1 ≠ 1 ∧ zNo z
def Nxt (Pl : PlT) (m p : Nat) (S : List Nat) (L : Nat → Nat) (r : Nat) (φ : Zn → Prop) : Prop := ∃ L' r' z', Pl m p S L' r' z' ∧ ble L' L ∧ r' < r ∧ φ z'
def Hcv (Pl : PlT) (hd : Nat → Nat → Nat) (hn : nuN) (m p : Nat) (L : Nat → Nat) : Prop := ∀ j kd, j < hn m → hcd hd m p kd j → Nxt Pl m (hd m (4 * j + 2)) [1] L 98 zNo
/-- from a place ahead of an INSTRUCTION to it -/
def Rch (ln : nuN) (cb ho og : Nat → Nat → Nat) (m p p0 sp : Nat) : Prop := ho m p = p0 + 1 ∧ p0 < 400 ∧ ∃ j, sp = p + 2 * j ∧ sp < ln m ∧ og m sp = p0 + 1 ∧ ∀ i, i < j → og m (p + 2 * i) = 0 ∧ (cb m (p + 2 * i) = 48 ∨ cb m (p + 2 * i) = 51 ∨ cb m (p + 2 * i) = 53 ∨ cb m (p + 2 * i) = 56)
def OkW (Pl : PlT) (I0 : zI) (wv hn ln ar : nuN) (cb hd B ho og : Nat → Nat → Nat) (kp m p : Nat) (S : List Nat) (L : Nat → Nat) (r : Nat) (z : Zn) : Prop :=
  wv m = 1 ∧ p + 1 < ln m ∧ cb m (p + 1) < kp ∧ (
  (cb m p = 48 ∧ Nxt Pl m (p + 2) S L r zOk) ∨
  (cb m p = 49 ∧ p + 2 < ln m ∧ Nxt Pl m (p + 3) S L r zOk) ∨
  (cb m p = 50 ∧ (∀ i, i < ar m → L i = 1) ∧ Nxt Pl m (p + 2) S L r zOk) ∨
  ((cb m p = 51 ∨ cb m p = 55 ∨ cb m p = 57) ∧ (∃ S', S = 1 :: S') ∧ Nxt Pl m (p + 2) S L r zOk) ∨
  (cb m p = 52 ∧ z.1 = 1 ∧ Nxt Pl m (p + 2) S L r (fun z' => z'.1 = 1 ∧ zNo z')) ∨
  (cb m p = 53 ∧ ∃ p0 c0 b0 sp, Rch ln cb ho og m p p0 sp ∧ cb m sp = c0 ∧ (c0 = 35 → sp + 1 < ln m ∧ cb m (sp + 1) = b0 ∧ b0 < 8) ∧ (c0 = 35 ∨ c0 = 39) ∧ (c0 = 39 → ∃ S', S = 1 :: 1 :: 2 :: S') ∧ (c0 = 35 → p0 + 1 < 400) ∧ I0 (21 + 12 * m) p0 = nI c0 ∧ (c0 = 35 → I0 (21 + 12 * m) (p0 + 1) = nI b0) ∧
    Nxt Pl m (p + 2) S L r (fun z' => z'.1 = 2 ∧ z'.2.1 = c0 ∧ z'.2.2.1 = b0 ∧ ∀ q, z'.2.2.2 q → q = cb m (p + 1) ∨ (z.1 = 2 ∧ z.2.1 = c0 ∧ z.2.2.1 = b0 ∧ z.2.2.2 q))) ∨
  (cb m p = 54 ∧ z.1 = 3 ∧ z.2.2.2 (cb m (p + 1)) ∧ Nxt Pl m (p + 2) S L r (fun z' => z'.1 ≠ 1 ∧ ∀ q, z'.2.2.2 q → z'.1 = 3 ∧ z.2.2.2 q)) ∨
  (cb m p = 56 ∧ B 0 (cb m (p + 1)) = 6 ∧ (∃ p0 sp, Rch ln cb ho og m p p0 sp) ∧ Hcv Pl hd hn m p L ∧ Nxt Pl m (p + 2) S L r zOk))
def OkE (wv : nuN) (cb : Nat → Nat → Nat) (m p : Nat) (z : Zn) : Prop := cb m p = 58 ∧ wv m = 1 ∧ z.1 = 1
def OkJ (Pl : PlT) (wv ln : nuN) (cb ho og : Nat → Nat → Nat) (m p : Nat) (S : List Nat) (L : Nat → Nat) (r : Nat) : Prop := wv m = 1 ∧ ho m p = 0 ∧ og m p = 0 ∧ ((cb m p = 20 ∧ p + 1 < ln m) ∨ (cb m p = 84 ∧ p + 2 < ln m)) ∧ ∃ t, t < 1000 ∧ tgv cb m p 0 = nI t ∧ Nxt Pl m t S L r zOk
def OkI (Pl : PlT) (hn ln ar : nuN) (cb hd ho og : Nat → Nat → Nat) (nm m p : Nat) (S : List Nat) (L : Nat → Nat) (z : Zn) : Prop :=
  Hcv Pl hd hn m p L ∧ (∃ p0, ho m p = p0 + 1 ∧ og m p = p0 + 1 ∧ p0 < 400) ∧ (
  (∃ s2 l2, cb m p < 44 ∧ (¬ (20 ≤ cb m p ∧ cb m p ≤ 33) ∧ cb m p ≠ 40 ∧ cb m p ≠ 42) ∧ p + fxz (cb m p) ≤ ln m ∧ ((cb m p = 3 ∨ cb m p = 4 ∨ cb m p = 5 → cb m (p + 1) < 12) ∧ (cb m p = 34 ∨ cb m p = 35 → cb m (p + 1) < 8)) ∧ eff (cb m p) (cb m (p + 1)) ar S L = some (s2, l2) ∧
    (cb m p ≠ 41 → Nxt Pl m (p + fxz (cb m p)) s2 l2 98 (fun z' => z'.1 ≠ 1 ∧ ∀ q, z'.2.2.2 q → z'.1 = 3 ∧ (cb m p = 35 ∨ cb m p = 39) ∧ z.1 = 2 ∧ z.2.1 = cb m p ∧ (cb m p = 35 → z.2.2.1 = cb m (p + 1)) ∧ z.2.2.2 q))) ∨
  (∃ s2 l2 t, (isSt (cb m p) ∨ isLg (cb m p)) ∧ p + fxz (cb m p) ≤ ln m ∧ eff (sho (cb m p)) (cb m (p + 1)) ar S L = some (s2, l2) ∧ tgv cb m p 0 = nI t ∧ t < 1000 ∧ Nxt Pl m t s2 l2 98 zOk ∧ (sho (cb m p) ≠ 20 → Nxt Pl m (p + fxz (cb m p)) s2 l2 98 zOk)) ∨
  (∃ s2, cb m p = 33 ∧ cb m (p + 1) ≤ 16 ∧ p + 4 + 2 * cb m (p + 1) ≤ ln m ∧ S = 1 :: s2 ∧ ∀ i, i ≤ cb m (p + 1) → ∃ t, tgv cb m p i = nI t ∧ t < 1000 ∧ Nxt Pl m t s2 L 98 zOk) ∨
  (∃ rest, cb m p = 40 ∧ p + 1 < ln m ∧ p + 2 < 1000 ∧ cb m (p + 1) < nm ∧ popI (ar (cb m (p + 1))) S = some rest ∧ rest.length < 10 ∧ Nxt Pl m (p + 2) (1 :: rest) L 98 zOk) ∨
  (cb m p = 42 ∧ ∃ s2, S = 1 :: s2))
def Ok (Pl : PlT) (I0 : zI) (wv hn ln ar : nuN) (cb hd B ho og : Nat → Nat → Nat) (kp nm m p : Nat) (S : List Nat) (L : Nat → Nat) (r : Nat) (z : Zn) : Prop :=
  m < nm ∧ p < ln m ∧ p < 1000 ∧ gs S ∧ gl L ∧ r < 98 ∧ (wv m = 0 → zNo z ∧ ¬ I0 (22 + 12 * m) p = 0) ∧ (OkW Pl I0 wv hn ln ar cb hd B ho og kp m p S L r z ∨ OkE wv cb m p z ∨ OkJ Pl wv ln cb ho og m p S L r ∨ OkI Pl hn ln ar cb hd ho og nm m p S L z)
def PlOk (Pl : PlT) (I0 : zI) (wv hn ln ar : nuN) (cb hd B ho og : Nat → Nat → Nat) (kp nm : Nat) : Prop :=
  (∀ m p S L r z, Pl m p S L r z → Ok Pl I0 wv hn ln ar cb hd B ho og kp nm m p S L r z) ∧ ∀ m, m < nm → Nxt Pl m 0 [] (fun i => if i < ar m then 1 else 0) 98 zOk
/-- all that stands still while a RUN goes on -/
def Cg (I0 : zI) (I1 : zI → Prop) (k : Nat) (wv wt hn ln ar X Y : nuN) (cb hd B ho og : Nat → Nat → Nat) (xq : Nat → Int32) (kp nm : Nat) : Prop :=
  CfL I0 k wv wt hn ln cb hd B kp nm ∧ (∀ Gb, I1 Gb → CfM Gb k wv wt hn ln cb hd B kp nm) ∧ kp ≤ 24 ∧
  (∀ m, m < nm → I0 (20 + 12 * m) 7 = nI (ar m) ∧ (∀ Gb, I1 Gb → Gb 157 m = nI (ar m)) ∧ ar m ≤ 4 ∧ (wv m = if k = 1 ∧ ¬ I0 (26 + 12 * m) 5 = 0 then 1 else 0) ∧ BsL I0 k wt B m ∧ (k = 2 → ∀ p, p < ln m → ¬ I0 (22 + 12 * m) p = 0 → I0 (30 + 12 * m) p = 0 → cb m p = 42 → ∀ q, q < wt m → ¬ atq B m 3 0 q)) ∧
  (∀ q, q < kp → I0 112 q = xq q ∧ (∀ Gb, I1 Gb → Gb 173 q = xq q) ∧ (B 0 q = 6 → xq q = nI (X q) ∧ X q ≤ 1000 ∧ I0 113 q = nI (Y q) ∧ (∀ Gb, I1 Gb → Gb 174 q = nI (Y q)) ∧ 1 ≤ Y q ∧ Y q ≤ 100)) ∧
  (∀ m, m < nm → (wv m = 0 → ∀ i, i < ln m → ho m i = i + 1 ∧ og m i = i + 1) ∧ (wv m ≠ 0 → ∀ i, i < ln m → I0 (28 + 12 * m) i = oM (ho m i) ∧ (∀ Gb, I1 Gb → Gb 178 (1000 * m + i) = oM (og m i)))) ∧
  (∀ m q, m < nm → q < wt m → B 1 q = m → (B 0 q = 4 → cb m (B 2 q) = 35 ∨ cb m (B 2 q) = 39) ∧ (B 0 q = 7 → cb m (B 2 q) = 1 ∨ cb m (B 2 q) = 2 ∨ (9 ≤ cb m (B 2 q) ∧ cb m (B 2 q) ≤ 19) ∨ cb m (B 2 q) = 34 ∨ cb m (B 2 q) = 37 ∨ cb m (B 2 q) = 38 ∨ cb m (B 2 q) = 40) ∧ (B 0 q = 1 → 21 ≤ sho (cb m (B 2 q)) ∧ sho (cb m (B 2 q)) ≤ 32)) ∧
  (∀ m, m < nm → wv m = 1 → wt m = 0)
/-- a FRAME that waits for what it called -/
def FcI (Pl : PlT) (cb hd : Nat → Nat → Nat) (hn : nuN) (nm n2 : Nat) (x : Frm) : Prop := ∃ L rest, x.1 < nm ∧ x.2.1 + 2 < 1000 ∧ cb x.1 x.2.1 = 40 ∧ Hcv Pl hd hn x.1 x.2.1 L ∧ Nxt Pl x.1 (x.2.1 + 2) (1 :: rest) L 98 zOk ∧ rest.length < 10 ∧ TyS n2 x.2.2.1 rest ∧ TyL n2 x.2.2.2 L
theorem FcI_m {Pl : PlT} {cb hd : Nat → Nat → Nat} {hn : nuN} {nm a b : Nat} {x : Frm} (h : a ≤ b) (q : FcI Pl cb hd hn nm a x) : FcI Pl cb hd hn nm b x := by
  obtain ⟨L, rest, h1, h2, h3, h4, h5, h6, h7, h8⟩ := q
  exact ⟨L, rest, h1, h2, h3, h4, h5, h6, TyS_m h h7, TyL_m h h8⟩
/-- FAULTS that have not thrown yet -/
def ufn (X n : nuN) : Nat → Nat
  | 0 => 0
  | q + 1 => ufn X n q + if n (50 + q) < X q then 1 else 0
theorem ufn_le {X n : nuN} : ∀ q, ufn X n q ≤ q
  | 0 => Nat.le_refl _
  | q + 1 => by
    have := ufn_le (X := X) (n := n) q
    rw [ufn]; split <;> omega
theorem ufn_mono {X n n' : nuN} : ∀ w, (∀ q, q < w → n (50 + q) ≤ n' (50 + q)) → ufn X n' w ≤ ufn X n w
  | 0, _ => Nat.le_refl _
  | q + 1, h => by
    have := ufn_mono (X := X) q (fun i hi => h i (by omega))
    have := h q (by omega)
    rw [ufn, ufn]; split <;> split <;> omega
theorem ufn_eq {X n n' : nuN} : ∀ w, (∀ q, q < w → n' (50 + q) = n (50 + q)) → ufn X n' w = ufn X n w
  | 0, _ => rfl
  | q + 1, h => by
    rw [ufn, ufn, h q (by omega), ufn_eq q (fun i hi => h i (by omega))]
theorem ufn_lt {X n n' : nuN} {f : Nat} : ∀ w, (∀ q, q < w → n (50 + q) ≤ n' (50 + q)) → f < w → n (50 + f) < X f → X f ≤ n' (50 + f) → ufn X n' w + 1 ≤ ufn X n w
  | 0, _, hf, _, _ => absurd hf (by omega)
  | q + 1, h, hf, a, b => by
    have h0 := h q (by omega)
    rw [ufn, ufn]
    by_cases e : f = q
    · subst e
      have := ufn_mono (X := X) f (fun i hi => h i (by omega))
      rw [if_neg (by omega : ¬ n' (50 + f) < X f), if_pos a]; omega
    · have := ufn_lt q (fun i hi => h i (by omega)) (by omega) a b
      split <;> split <;> omega
def phi (X : nuN) (lim d : Nat) (n : nuN) (r : Nat) : Nat := 98 * (2 * (lim - n 0) + d + ufn X n 24) + r
def Num (lim ph : Nat) (n : nuN) : Prop := n 0 ≤ lim ∧ lim ≤ 3000 ∧ n 2 ≤ 30 ∧ n 4 + 1000 * ph ≤ 1000000000 ∧ (∀ q, q < 24 → n (50 + q) + ph ≤ 1000000) ∧ ∀ r, r < n 2 → n (10 + r) ≤ 50
abbrev Th : Type := Option (Int32 × Int32)
abbrev Ko : Type := Option (Kc × Int32)
def Zin (zn : Zn) (s : List Va) (n : nuN) (z : nuZ) (th : Th) (ko : Ko) (Q : Nat → Prop) : Prop :=
  (zn.1 = 1 → th ≠ none ∧ ∃ kd, 1 ≤ kd ∧ kd ≤ 105 ∧ s = [Sum.inl (nI kd)]) ∧ (∀ q, zn.2.2.2 q → Q q) ∧
  (zn.1 = 2 → (∃ q, zn.2.2.2 q) → ∀ kc, stc zn.2.1 zn.2.2.1 s n kc → ko = some (kc, kcv kc z)) ∧ (zn.1 = 3 → (∃ q, zn.2.2.2 q) → ∃ v, ko = some v)
theorem Zin_ok {zn : Zn} {s : List Va} {n : nuN} {z : nuZ} {th : Th} {ko : Ko} {Q : Nat → Prop} (h : zOk zn) : Zin zn s n z th ko Q := ⟨fun e => absurd e h.1, fun q hq => absurd hq (h.2 q), fun _ ⟨q, hq⟩ => absurd hq (h.2 q), fun _ ⟨q, hq⟩ => absurd hq (h.2 q)⟩
def Inv (Pl : PlT) (cb hd : Nat → Nat → Nat) (hn : nuN) (nm : Nat) (X : nuN) (lim ph : Nat) (fs : List Frm) (n : nuN) (z : nuZ) (th : Th) (ko : Ko) (Q : Nat → Prop) : Prop :=
  ∃ m p s l rest S L r zn, fs = (m, p, s, l) :: rest ∧ rest.length < 12 ∧ Pl m p S L r zn ∧ TyS (n 2) s S ∧ TyL (n 2) l L ∧ (∀ x, x ∈ rest → FcI Pl cb hd hn nm (n 2) x) ∧ Zin zn s n z th ko Q ∧ ph = phi X lim fs.length n r ∧ Num lim ph n
theorem Inv_mk {Pl : PlT} {cb hd : Nat → Nat → Nat} {hn X n n' : nuN} {nm lim ph m p' ρ : Nat} {s' : List Va} {l' : Nat → Va} {rest : List Frm} {S : List Nat} {L : Nat → Nat} {z' : nuZ} {th : Th} {ko : Ko} {Q : Nat → Prop} {φ : Zn → Prop} (hN : Num lim ph n) (nx : Nxt Pl m p' S L ρ φ) (hph : ∀ r, r < ρ → phi X lim (rest.length + 1) n' r < ph) (hS : TyS (n' 2) s' S) (hL : TyL (n' 2) l' L) (hrest : ∀ x, x ∈ rest → FcI Pl cb hd hn nm (n' 2) x) (h12 : rest.length < 12) (hz : ∀ zn, φ zn → Zin zn s' n' z' th ko Q) (b0 : n' 0 ≤ lim) (b2 : n' 2 ≤ 30) (b4 : n' 4 ≤ n 4 + 1000) (b5 : ∀ q, q < 24 → n' (50 + q) ≤ n (50 + q) + 1) (b50 : ∀ r, r < n' 2 → n' (10 + r) ≤ 50) : ∃ ph', ph' < ph ∧ Inv Pl cb hd hn nm X lim ph' ((m, p', s', l') :: rest) n' z' th ko Q := by
  obtain ⟨L', r', zn, hp, hb, hr, hφ⟩ := nx
  obtain ⟨N1, N2, N3, N4, N5, N6⟩ := hN
  have hlt := hph r' hr
  refine ⟨phi X lim (rest.length + 1) n' r', hlt, m, p', s', l', rest, S, L', r', zn, rfl, h12, hp, hS, TyL_b hL hb, hrest, hz zn hφ, rfl, b0, N2, b2, by omega, fun q hq => ?_, b50⟩
  have := N5 q hq
  have := b5 q hq
  omega
/-- both sides are in the state -/
def LR (I0 : zI) (k lim : Nat) (wv : nuN) (fs : List Frm) (n : nuN) (z : nuZ) (th : Th) (ko : Ko) (Q : Nat → Prop) (I : zI) (P : zP) : Prop :=
  SL I0 k lim wv fs n z I P ∧ I 114 10 = 0 ∧ (I (93 + 5 * k) 4 = -1 ∧ I (93 + 5 * k) 5 = 0 ∧ I (93 + 5 * k) 9 = -1 ∧ I (93 + 5 * k) 10 = -1) ∧ (∀ a b, th = some (a, b) → I 114 11 = a ∧ I 114 12 = b) ∧ ∀ kc ov q, ko = some (kc, ov) → Q q → kcL kc n I ∧ I 114 14 = ov
def MR (I1 : zI) (k lim : Nat) (fs : List Frm) (n : nuN) (z : nuZ) (th : Th) (ko : Ko) (Q : Nat → Prop) (I : zI) : Prop :=
  SM I1 k lim fs n z I ∧ I 155 52 = -1 ∧ (∀ a b, th = some (a, b) → I 155 67 = a ∧ I 155 66 = b) ∧ ∀ kc ov q, ko = some (kc, ov) → Q q → kcM kc n q I ∧ I 205 q = ov
/-- one turn, one step, on both sides -/
def Go (I0 : zI) (I1 : zI → Prop) (k lim : Nat) (wv : nuN) (fs : List Frm) (n : nuN) (z : nuZ) (th : Th) (ko : Ko) (Q : Nat → Prop) (fs' : List Frm) (n' : nuN) (z' : nuZ) (th' : Th) (ko' : Ko) (Q' : Nat → Prop) : Prop :=
  (∀ I P K, LR I0 k lim wv fs n z th ko Q I P → (∀ J R, LR I0 k lim wv fs' n' z' th' ko' Q' J R → K J R) → w_X2_takeTurn (119 + 3 * (fs.length - 1)) I P K) ∧
  (∀ Gb, I1 Gb → ∀ I P K, MR Gb k lim fs n z th ko Q I → (∀ J, MR Gb k lim fs' n' z' th' ko' Q' J → K J P) → w_X10_step I P K)
/-- it has ended -/
def LE (I0 : zI) (k lim : Nat) (wv : nuN) (fs : List Frm) (n : nuN) (z : nuZ) (e a tp tm : Int32) (I : zI) (P : zP) : Prop := SL I0 k lim wv fs n z I P ∧ I (93 + 5 * k) 4 = e ∧ I (93 + 5 * k) 5 = a ∧ I (93 + 5 * k) 9 = tp ∧ I (93 + 5 * k) 10 = tm
def ME (I1 : zI) (k lim : Nat) (fs : List Frm) (n : nuN) (z : nuZ) (e a tp tm : Int32) (I : zI) : Prop := SM I1 k lim fs n z I ∧ I 155 52 = e ∧ ((e = 2 ∧ a = 0 ∧ tp = -1 ∧ tm = -1) ∨ (e = 1 ∧ I 155 65 = a ∧ I 155 67 = tp ∧ I 155 66 = tm) ∨ (e = 0 ∧ I 155 68 = a ∧ tp = -1 ∧ tm = -1))
def Fnd (I0 : zI) (I1 : zI → Prop) (k lim : Nat) (wv : nuN) (fs : List Frm) (n : nuN) (z : nuZ) (th : Th) (ko : Ko) (Q : Nat → Prop) (fs' : List Frm) (n' : nuN) (z' : nuZ) (e a tp tm : Int32) : Prop :=
  (e = 0 ∨ e = 1 ∨ e = 2) ∧ (∀ I P K, LR I0 k lim wv fs n z th ko Q I P → (∀ J R, LE I0 k lim wv fs' n' z' e a tp tm J R → K J R) → w_X2_takeTurn (119 + 3 * (fs.length - 1)) I P K) ∧
  (∀ Gb, I1 Gb → ∀ I P K, MR Gb k lim fs n z th ko Q I → (∀ J, ME Gb k lim fs' n' z' e a tp tm J → K J P) → w_X10_step I P K)
