/-! PURE 94: RUN: woven code: what stands at its places -/
def WX (A B F : Nat → Nat → Nat) (m w : Nat) (T : TS) (Pl : PlT) (I0 : zI) (wv hn ln ar : nuN) (cb hd ho og : Nat → Nat → Nat) (kp nm : Nat) : Prop :=
  (W0 A m ∧ FW A F ∧ (∀ p, p < A 0 2 → jok A p) ∧ (∀ k, k < A 0 3 → hok A k) ∧ Cons A ar T ∧ stl A m B w F) ∧ (TOT A m B w F ≤ 1000 ∧ w ≤ 24 ∧ w ≤ kp ∧ m < nm ∧ wv m = 1 ∧ ar m = A 0 0) ∧
  (∀ q, q < w → B 1 q = m → B 2 q < A 0 2 ∧ 0 < A 2 (B 2 q) ∧ fitP A (B 0 q) (B 2 q)) ∧
  (ln m = TOT A m B w F ∧ ∀ i, cb m i = ((codL A m B w F).getD i (0, 0, 0)).1 ∧ ho m i = ((codL A m B w F).getD i (0, 0, 0)).2.1 ∧ og m i = ((codL A m B w F).getD i (0, 0, 0)).2.2) ∧
  (hn m = A 0 3 + (if cnq B m 3 0 w = 0 then 0 else 1) ∧ (∀ j, j < A 0 3 → hd m (4 * j) = Gp A m B w F (A 3 (4 * j)) ∧ hd m (4 * j + 1) = Gp A m B w F (A 3 (4 * j + 1)) ∧ hd m (4 * j + 2) = (if cnq B m 5 (A 3 (4 * j + 2)) w = 0 then Gp A m B w F (A 3 (4 * j + 2)) else CPp A m B w F j)) ∧ (cnq B m 3 0 w ≠ 0 → hd m (4 * A 0 3 + 2) = LPp A m B w F)) ∧
  (∀ i, i < A 0 2 → I0 (21 + 12 * m) i = nI (A 1 i)) ∧ (∀ q, q < nm → q ≤ m → True) ∧
  (∀ p S L r z, PlW A m B w F T ar p S L r z → Pl m p S L r z)
theorem cat1 {g : Nat → WB3} {i n : Nat} (h : i < n) : At (cat (fun i => [g i]) n) i [g i] := by
  have := At_cat (f := fun i => [g i]) h
  rw [len_k (k := 1) (fun i => rfl), Nat.one_mul] at this
  exact this
theorem cat2 {g : Nat → List WB3} (h2 : ∀ i, (g i).length = 2) {i n : Nat} (h : i < n) : At (cat g n) (2 * i) (g i) := by
  have := At_cat (f := g) h
  rw [len_k (k := 2) h2] at this
  exact this
section
variable {A B F : Nat → Nat → Nat} {m w : Nat} {T : TS} {Pl : PlT} {I0 : zI} {wv hn ln ar : nuN} {cb hd ho og : Nat → Nat → Nat} {kp nm : Nat}
theorem self_p {p i : Nat} (hj : ¬ (isSt (A 1 p) ∨ isLg (A 1 p))) (h3 : A 1 p ≠ 33) (hi : i < A 2 p) : At (selfL A m B w F p) i [(A 1 (p + i), p + 1, if i = 0 then p + 1 else 0)] := by
  unfold selfL
  rw [if_neg hj, if_neg h3]
  exact cat1 (g := fun i => (A 1 (p + i), p + 1, if i = 0 then p + 1 else 0)) hi
theorem self_t {p i : Nat} (hj : ¬ (isSt (A 1 p) ∨ isLg (A 1 p))) (h3 : A 1 p = 33) (hi : i < njp A p) : At (selfL A m B w F p) (2 + 2 * i) [(hi8 ((dst A m B w F p i : Int) - Sp A m B w F p), p + 1, 0), (lo8 ((dst A m B w F p i : Int) - Sp A m B w F p), p + 1, 0)] := by
  unfold selfL
  rw [if_neg hj, if_pos h3]
  exact At_t (At_r (x := [(33, p + 1, p + 1), (A 1 (p + 1), p + 1, 0)])) (cat2 (g := fun i => [(hi8 ((dst A m B w F p i : Int) - Sp A m B w F p), p + 1, 0), (lo8 ((dst A m B w F p i : Int) - Sp A m B w F p), p + 1, 0)]) (fun _ => rfl) hi)
theorem self_t0 {p : Nat} (hj : ¬ (isSt (A 1 p) ∨ isLg (A 1 p))) (h3 : A 1 p = 33) : At (selfL A m B w F p) 0 [(33, p + 1, p + 1), (A 1 (p + 1), p + 1, 0)] := by
  unfold selfL
  rw [if_neg hj, if_pos h3]
  exact ⟨[], _, rfl, rfl⟩
theorem self_j {p : Nat} (hj : isSt (A 1 p) ∨ isLg (A 1 p)) : selfL A m B w F p = jl (sho (A 1 p)) (decide (isLg (A 1 p) ∨ F 0 p = 1)) ((dst A m B w F p 0 : Int) - Sp A m B w F p) (p + 1) (p + 1) := by
  unfold selfL
  rw [if_pos hj]
theorem self_0 {p : Nat} (h2 : 0 < A 2 p) : ((selfL A m B w F p).getD 0 (0, 0, 0)).2 = (p + 1, p + 1) ∧ 0 < (selfL A m B w F p).length := by
  by_cases hj : isSt (A 1 p) ∨ isLg (A 1 p)
  · rw [self_j hj]
    unfold jl
    split
    · exact ⟨rfl, by simp⟩
    · exact ⟨rfl, by simp⟩
  · by_cases h3 : A 1 p = 33
    · have := self_t0 (A := A) (m := m) (B := B) (w := w) (F := F) hj h3
      rw [At_get0 this (by simp)]
      exact ⟨rfl, by have := At_le this; simp at this; omega⟩
    · have := self_p (A := A) (m := m) (B := B) (w := w) (F := F) hj h3 (i := 0) h2
      rw [At_get0 this (by simp)]
      exact ⟨rfl, by have := At_le this; simp at this; omega⟩
theorem wx_b (hX : WX A B F m w T Pl I0 wv hn ln ar cb hd ho og kp nm) {pos : Nat} {x : List WB3} (h : At (codL A m B w F) pos x) {j : Nat} (hj : j < x.length) : cb m (pos + j) = (x.getD j (0, 0, 0)).1 ∧ ho m (pos + j) = (x.getD j (0, 0, 0)).2.1 ∧ og m (pos + j) = (x.getD j (0, 0, 0)).2.2 ∧ pos + j < ln m := by
  obtain ⟨⟨hW, hF, -⟩, -, -, ⟨h1, h2⟩, -⟩ := hX
  obtain ⟨a, b, c⟩ := h2 (pos + j)
  have g := At_get (d := ((0 : Nat), (0 : Nat), (0 : Nat))) h hj
  rw [g] at a b c
  have l := At_le h
  rw [wlen_cod hW hF] at l
  exact ⟨a, b, c, by omega⟩
theorem wx_2 (hX : WX A B F m w T Pl I0 wv hn ln ar cb hd ho og kp nm) {pos op q k : Nat} (h : At (codL A m B w F) pos (e2 op q k)) : cb m pos = op ∧ cb m (pos + 1) = q ∧ ho m pos = k ∧ og m pos = 0 ∧ pos + 1 < ln m := by
  obtain ⟨a1, a2, a3, a4⟩ := wx_b hX h (j := 0) (by show 0 < 2; omega)
  obtain ⟨b1, b2, b3, b4⟩ := wx_b hX h (j := 1) (by show 1 < 2; omega)
  exact ⟨a1, b1, a2, a3, b4⟩
theorem wx_3 (hX : WX A B F m w T Pl I0 wv hn ln ar cb hd ho og kp nm) {pos q sd k : Nat} (h : At (codL A m B w F) pos (e3 q sd k)) : cb m pos = 49 ∧ cb m (pos + 1) = q ∧ cb m (pos + 2) = sd ∧ pos + 2 < ln m := by
  obtain ⟨a1, a2, a3, a4⟩ := wx_b hX h (j := 0) (by show 0 < 3; omega)
  obtain ⟨b1, b2, b3, b4⟩ := wx_b hX h (j := 1) (by show 1 < 3; omega)
  obtain ⟨c1, c2, c3, c4⟩ := wx_b hX h (j := 2) (by show 2 < 3; omega)
  exact ⟨a1, b1, c1, c4⟩
theorem wx_j (hX : WX A B F m w T Pl I0 wv hn ln ar cb hd ho og kp nm) {pos op t k o : Nat} {lg : Bool} (h : At (codL A m B w F) pos (jl op lg ((t : Int) - pos) k o)) (hop : 20 ≤ op ∧ op ≤ 32) (ht : t ≤ 1000) (hs : lg = false → ¬ far pos t) : cb m pos = (if lg then op + 64 else op) ∧ (isSt (cb m pos) ∨ isLg (cb m pos)) ∧ sho (cb m pos) = op ∧ fxz (cb m pos) = (if lg then 3 else 2) ∧ pos + fxz (cb m pos) ≤ ln m ∧ tgv cb m pos 0 = nI t ∧ ho m pos = k ∧ og m pos = o ∧ pos < ln m := by
  have ln1 : ln m ≤ 1000 := by have := hX.2.1.1; have := hX.2.2.2.1.1; omega
  cases lg with
  | true =>
    have e : jl op true ((t : Int) - pos) k o = [(op + 64, k, o), (hi8 ((t : Int) - pos), k, 0), (lo8 ((t : Int) - pos), k, 0)] := rfl
    rw [e] at h
    obtain ⟨a1, a2, a3, a4⟩ := wx_b hX h (j := 0) (by show 0 < 3; omega)
    obtain ⟨b1, b2, b3, b4⟩ := wx_b hX h (j := 1) (by show 1 < 3; omega)
    obtain ⟨c1, c2, c3, c4⟩ := wx_b hX h (j := 2) (by show 2 < 3; omega)
    have a1 : cb m pos = op + 64 := a1
    have b1 : cb m (pos + 1) = hi8 ((t : Int) - pos) := b1
    have c1 : cb m (pos + 1 + 1) = lo8 ((t : Int) - pos) := c1
    have lg : isLg (cb m pos) := by rw [a1]; unfold isLg; omega
    refine ⟨a1, Or.inr lg, by rw [a1]; unfold sho; rw [if_pos (by omega)]; omega, fxz_lg lg, by rw [fxz_lg lg]; omega, ?_, a2, a3, a4⟩
    unfold tgv
    rw [if_neg (by omega), if_pos lg, b1, c1]
    exact nI_to (by omega) (by omega) (lh_T _ (by omega))
  | false =>
    have e : jl op false ((t : Int) - pos) k o = [(op, k, o), (lo8 ((t : Int) - pos), k, 0)] := rfl
    rw [e] at h
    obtain ⟨a1, a2, a3, a4⟩ := wx_b hX h (j := 0) (by show 0 < 2; omega)
    obtain ⟨b1, b2, b3, b4⟩ := wx_b hX h (j := 1) (by show 1 < 2; omega)
    have a1 : cb m pos = op := a1
    have b1 : cb m (pos + 1) = lo8 ((t : Int) - pos) := b1
    have st : isSt (cb m pos) := by rw [a1]; unfold isSt; omega
    have nf := hs rfl
    unfold far at nf
    refine ⟨a1, Or.inl st, by rw [a1]; unfold sho; rw [if_neg (by omega)], fxz_st st, by rw [fxz_st st]; omega, ?_, a2, a3, a4⟩
    unfold tgv
    rw [if_neg (by omega), if_neg (by unfold isLg; omega), b1]
    exact nI_to (by omega) (by omega) (lo_T _ (by omega))
theorem wx_n (hX : WX A B F m w T Pl I0 wv hn ln ar cb hd ho og kp nm) {pos r ρ : Nat} {S : List Nat} {L L' : Nat → Nat} {z : Zn} {φ : Zn → Prop} (h : PlW A m B w F T ar pos S L' r z) (hb : ble L' L) (hr : r < ρ) (hφ : φ z) : Nxt Pl m pos S L ρ φ := ⟨L', r, z, hX.2.2.2.2.2.2.2 _ _ _ _ _ h, hb, hr, hφ⟩
theorem wx_T (hX : WX A B F m w T Pl I0 wv hn ln ar cb hd ho og kp nm) {p : Nat} {S : List Nat} {L : Nat → Nat} (h : T p = some (S, L)) : p < A 0 2 ∧ 0 < A 2 p ∧ gs S ∧ gl L ∧ SC A ar T p S L ∧ p < 400 := by
  obtain ⟨⟨hW, hF, hj, hh, hC, hs⟩, -⟩ := hX
  obtain ⟨a, b, c, d⟩ := hC.1 p S L h
  exact ⟨a, b, c, d, hC.2.2 p S L h, by have := hW.2.2.2.2.1; omega⟩
theorem wx_A (hX : WX A B F m w T Pl I0 wv hn ln ar cb hd ho og kp nm) {p ρ : Nat} {S : List Nat} {L L' : Nat → Nat} (h : T p = some (S, L')) (hb : ble L' L) (hr : 3 * w < ρ) : Nxt Pl m (Gp A m B w F p) S L ρ zOk := by
  obtain ⟨r, z, h1, h2, h3⟩ := AS (A := A) (m := m) (B := B) (w := w) (F := F) (ar := ar) h
  exact wx_n hX h1 hb (by omega) h3
/-- places within the GROUP of p -/
theorem wx_in (hX : WX A B F m w T Pl I0 wv hn ln ar cb hd ho og kp nm) {p pos : Nat} {S : List Nat} {L : Nat → Nat} (h : T p = some (S, L)) (h1 : Gp A m B w F p ≤ pos) (h2 : pos < Sp A m B w F p + A 2 p) : Hcv Pl hd hn m pos L := by
  intro j kd hj hc
  obtain ⟨hp, hp2, hgs, hgl, hsc, h400⟩ := wx_T hX h
  have hX' := hX
  obtain ⟨⟨hW, hF, hjo, hho, hC, hs⟩, ⟨x1, x2, x3, x4, x5, x6⟩, x7, x8, ⟨y1, y2, y3⟩, -⟩ := hX
  rw [y1] at hj
  have gn := Gp_n (A := A) (m := m) (B := B) (w := w) (F := F) hp2 (hW.2.2.2.2.2.2.2.2.2.1 p hp hp2).2.2.2.2.2.2.2
  by_cases e : j < A 0 3
  · obtain ⟨z1, z2, z3⟩ := y2 j e
    obtain ⟨o1, o2, o3, o4⟩ := hho j e
    obtain ⟨c1, c2, -⟩ := hc
    rw [z1] at c1
    rw [z2] at c2
    have hin1 : A 3 (4 * j) ≤ p := by
      by_cases q : A 3 (4 * j) ≤ p
      · exact q
      · obtain ⟨a, a1, a2, a3⟩ := o1
        have b65 := hW.2.2.2.2.2.2.2.1 (4 * j)
        have l4 := hW.2.2.2.2.1
        have ea : A 3 (4 * j) = a := nI_inj (by omega) (by omega) a2
        have : p + A 2 p ≤ A 3 (4 * j) := by
          by_cases q2 : p + A 2 p ≤ A 3 (4 * j)
          · exact q2
          · have := (hW.2.2.2.2.2.2.2.2.2.1 p hp hp2).2.2.2.2.2.2.2 (A 3 (4 * j)) (by omega) (by omega)
            rw [← ea] at a3; omega
        have := Gp_mono (A := A) (m := m) (B := B) (w := w) (F := F) (p := p + A 2 p) (A 3 (4 * j) - (p + A 2 p))
        rw [show p + A 2 p + (A 3 (4 * j) - (p + A 2 p)) = A 3 (4 * j) by omega] at this
        omega
    have hin2 : p < A 3 (4 * j + 1) := by
      by_cases q : p < A 3 (4 * j + 1)
      · exact q
      · have := Gp_mono (A := A) (m := m) (B := B) (w := w) (F := F) (p := A 3 (4 * j + 1)) (p - A 3 (4 * j + 1))
        rw [show A 3 (4 * j + 1) + (p - A 3 (4 * j + 1)) = p by omega] at this
        omega
    obtain ⟨lq, hq, hb⟩ := hsc.1 j e ⟨hin1, hin2⟩
    rw [z3]
    by_cases q5 : cnq B m 5 (A 3 (4 * j + 2)) w = 0
    · rw [if_pos q5]
      obtain ⟨L', r', z', a1, a2, a3, a4⟩ := wx_A hX' (ρ := 98) hq hb (by omega)
      exact ⟨L', r', z', a1, a2, a3, a4.2⟩
    · rw [if_neg q5]
      obtain ⟨r, z, h1, h2, h3⟩ := CS (A := A) (m := m) (B := B) (w := w) (F := F) (T := T) (ar := ar) e hq q5 w 0 (by omega)
      exact wx_n hX' h1 hb (by omega) h3.2
  · have q3 : cnq B m 3 0 w ≠ 0 := fun q => by rw [if_pos q] at hj; omega
    rw [if_neg q3] at hj
    obtain rfl : j = A 0 3 := by omega
    rw [y3 q3]
    obtain ⟨r, z, h1, h2, h3, h4⟩ := LfS (A := A) (m := m) (B := B) (w := w) (F := F) (T := T) (ar := ar) q3 w 0 (by omega)
    exact wx_n hX' h1 (fun _ _ => Or.inr rfl) (by omega) h4
theorem wx_R (hX : WX A B F m w T Pl I0 wv hn ln ar cb hd ho og kp nm) {p t : Nat} {S : List Nat} {L : Nat → Nat} (h : T p = some (S, L)) (ht : 2 * t ≤ ahn A m B w p) (hh : ho m (Gp A m B w F p + 2 * t) = p + 1) : Rch ln cb ho og m (Gp A m B w F p + 2 * t) p (Sp A m B w F p) := by
  obtain ⟨hp, hp2, hgs, hgl, hsc, h400⟩ := wx_T hX h
  have hW := hX.1.1
  have hF := hX.1.2.1
  have pr := PR_ah (A := A) (m := m) (B := B) (w := w) (p := p) (h := 0)
  have la := len_ah (A := A) (m := m) (B := B) (w := w) (p := p)
  have ev := pr.1
  rw [la] at ev
  obtain ⟨s1, s2⟩ := self_0 (A := A) (m := m) (B := B) (w := w) (F := F) hp2
  obtain ⟨b1, b2, b3, b4⟩ := wx_b hX (at_s (B := B) (w := w) hW hF hp hp2) (j := 0) s2
  rw [s1] at b3
  refine ⟨hh, h400, (ahn A m B w p - 2 * t) / 2, by unfold Sp; omega, b4, b3, fun i hi => ?_⟩
  obtain ⟨c1, c2, c3, c4⟩ := wx_b hX (at_ah (B := B) (w := w) hW hF hp hp2) (j := 2 * (t + i)) (by rw [la]; omega)
  rw [show Gp A m B w F p + 2 * t + 2 * i = Gp A m B w F p + 2 * (t + i) by omega]
  obtain ⟨d1, d2⟩ := pr.2 (t + i) (by rw [la]; omega)
  rw [c3, c1]
  exact ⟨d1, d2⟩
end
