/-! PURE 97: RUN: plain code: each place is as it must be -/
def PlN (T : TS) (pos : Nat) (S : List Nat) (L : Nat → Nat) (r : Nat) (z : Zn) : Prop := T pos = some (S, L) ∧ r = 0 ∧ z = z00
def NX (A : Nat → Nat → Nat) (m : Nat) (T : TS) (Pl : PlT) (I0 : zI) (wv hn ln ar : nuN) (cb hd ho og : Nat → Nat → Nat) (nm : Nat) : Prop :=
  (W0 A m ∧ (∀ p, p < A 0 2 → jok A p) ∧ (∀ k, k < A 0 3 → hok A k) ∧ Cons A ar T) ∧ (m < nm ∧ wv m = 0 ∧ ar m = A 0 0) ∧
  (ln m = A 0 2 ∧ ∀ i, cb m i = A 1 i ∧ ho m i = i + 1 ∧ og m i = i + 1) ∧
  (hn m = A 0 3 ∧ ∀ i, hd m i = A 3 i) ∧ (∀ i, i < A 0 2 → I0 (22 + 12 * m) i = nI (A 2 i)) ∧
  (∀ p S L r z, PlN T p S L r z → Pl m p S L r z)
section
variable {A B : Nat → Nat → Nat} {m : Nat} {T : TS} {Pl : PlT} {I0 : zI} {wv hn ln ar : nuN} {cb hd ho og : Nat → Nat → Nat} {kp nm : Nat} {pos r : Nat} {S : List Nat} {L : Nat → Nat} {z : Zn}
theorem nx_n (hX : NX A m T Pl I0 wv hn ln ar cb hd ho og nm) {p ρ : Nat} {L' : Nat → Nat} (h : T p = some (S, L')) (hb : ble L' L) (hr : 0 < ρ) : Nxt Pl m p S L ρ zOk := ⟨L', 0, z00, hX.2.2.2.2.2 _ _ _ _ _ ⟨h, rfl, rfl⟩, hb, hr, by decide, fun _ h => h⟩
theorem ok_N (hX : NX A m T Pl I0 wv hn ln ar cb hd ho og nm) (h : PlN T pos S L r z) : Ok Pl I0 wv hn ln ar cb hd B ho og kp nm m pos S L r z := by
  obtain ⟨hT, rfl, rfl⟩ := h
  have hX' := hX
  obtain ⟨⟨hW, hjo, hho, hC⟩, ⟨x1, x2, x3⟩, ⟨y1, y2⟩, ⟨w1, w2⟩, w3, -⟩ := hX
  obtain ⟨hp, hp2, hgs, hgl⟩ := hC.1 pos S L hT
  have hsc := hC.2.2 pos S L hT
  have l400 := hW.2.2.2.2.1
  have hsc' := hsc
  obtain ⟨hs1, s2, l2, he, htg, hgo⟩ := hsc'
  obtain ⟨c1, c2, c3, c4, c5, c6, c7, c8⟩ := hW.2.2.2.2.2.2.2.2.2.1 pos hp hp2
  have ecb : ∀ i, cb m i = A 1 i := fun i => (y2 i).1
  have nxt : gon (A 1 pos) → Nxt Pl m (pos + A 2 pos) s2 l2 98 zOk := fun g => by
    obtain ⟨-, lq, h1, h2⟩ := hgo g
    exact nx_n hX' h1 h2 (by omega)
  have tgt : ∀ i, i < njp A pos → ∃ j, tgx A pos i = nI j ∧ j < 1000 ∧ Nxt Pl m j s2 l2 98 zOk := fun i hi => by
    obtain ⟨j, j1, j2, j3⟩ := hjo pos hp hp2 i hi
    obtain ⟨lq, h1, h2⟩ := htg i hi j j2 j1
    exact ⟨j, j2, by omega, nx_n hX' h1 h2 (by omega)⟩
  have tge : ∀ i, tgv cb m pos i = tgx A pos i := fun i => by
    unfold tgv tgx
    simp only [ecb]
  refine ⟨x1, by omega, by omega, hgs, hgl, by omega, fun _ => ⟨fun _ h => h, by rw [w3 pos hp]; first | omega | decide | (simp (maxSteps := 400000) (disch := omega) only [q_lit, q_neg, nI_ltI, nI_leI, nI_eq, nI_add, pk_mul, pk_sub, nI_clamp, vp_q, zu_same, zu_nc, zu_nj, ng_lt, ng_le, ng_gt, ng_ge, ng_eq, ng_qe, ng_ee, ng_add, not_false_eq_true, not_true_eq_false, ne_eq]; done) | (simp (maxSteps := 400000) (disch := omega) only [q_lit, q_neg, nI_ltI, nI_leI, nI_eq, nI_add, pk_mul, pk_sub, nI_clamp, vp_q, zu_same, zu_nc, zu_nj, ng_lt, ng_le, ng_gt, ng_ge, ng_eq, ng_qe, ng_ee, ng_add, not_false_eq_true, not_true_eq_false, ne_eq]; omega)⟩, Or.inr (Or.inr (Or.inr ⟨fun j kd hj hc => ?_, ⟨pos, (y2 pos).2.1, (y2 pos).2.2, by omega⟩, ?_⟩))⟩
  · rw [w1] at hj
    obtain ⟨d1, d2, -⟩ := hc
    rw [w2] at d1 d2
    obtain ⟨lq, h1, h2⟩ := hs1 j hj ⟨d1, d2⟩
    rw [w2]
    obtain ⟨L', r', z', a1, a2, a3, a4⟩ := nx_n hX' (ρ := 98) h1 h2 (by omega)
    exact ⟨L', r', z', a1, a2, a3, a4.2⟩
  · rw [ecb pos, ecb (pos + 1)]
    by_cases hj : isSt (A 1 pos) ∨ isLg (A 1 pos)
    · have n33 : A 1 pos ≠ 33 := by unfold isSt isLg at hj; omega
      have z2 : A 2 pos = fxz (A 1 pos) := by rw [c2]; unfold opz; rw [if_neg n33]
      have nj1 : njp A pos = 1 := by unfold njp; rw [if_neg n33, if_pos hj]
      obtain ⟨j, j1, j2, j3⟩ := tgt 0 (by omega)
      refine Or.inr (Or.inl ⟨s2, l2, j, hj, by omega, he, by rw [tge]; exact j1, j2, j3, fun n20 => ?_⟩)
      rw [← z2]
      exact nxt (by unfold gon; unfold sho at n20; refine ⟨?_, ?_, ?_, ?_, ?_⟩ <;> (intro e; rw [e] at n20 hj; first | exact n20 rfl | (unfold isSt isLg at hj; omega)))
    · by_cases h33 : A 1 pos = 33
      · have z2 : A 2 pos = 4 + 2 * A 1 (pos + 1) := by rw [c2]; unfold opz; rw [if_pos h33]
        have njp1 : njp A pos = A 1 (pos + 1) + 1 := by unfold njp; rw [if_pos h33]
        have s33 : sho (A 1 pos) = 33 := by rw [h33]; rfl
        rw [s33] at he
        obtain ⟨eS, eL⟩ := eff_33 he
        refine Or.inr (Or.inr (Or.inl ⟨s2, h33, (c5 h33).2, by omega, eS, fun i hi => ?_⟩))
        obtain ⟨j, j1, j2, j3⟩ := tgt i (by omega)
        exact ⟨j, by rw [tge]; exact j1, j2, by rw [← eL]; exact j3⟩
      · have z2 : A 2 pos = fxz (A 1 pos) := by rw [c2]; unfold opz; rw [if_neg h33]
        have c44 : A 1 pos < 44 := by unfold isOpn at c1; unfold isSt isLg at hj; omega
        have ss : sho (A 1 pos) = A 1 pos := by unfold sho; rw [if_neg (by omega)]
        rw [ss] at he
        by_cases h40 : A 1 pos = 40
        · have z40 : A 2 pos = 2 := by rw [z2, h40]; rfl
          have he' := he
          rw [h40] at he'
          obtain ⟨rest, p1, p2, p3, p4⟩ := eff_40 he'
          have nx := nxt (by rw [h40]; unfold gon; omega)
          rw [z40, p3, p4] at nx
          have cm := (c6 (by omega) h33).2.2 h40
          have := (hgo (by rw [h40]; unfold gon; omega)).1
          exact Or.inr (Or.inr (Or.inr (Or.inl ⟨rest, h40, by omega, by omega, by omega, p1, p2, nx⟩)))
        · by_cases h42 : A 1 pos = 42
          · rw [h42] at he
            exact Or.inr (Or.inr (Or.inr (Or.inr ⟨h42, s2, eff_42 he⟩)))
          · have fxz2 : (A 1 pos = 3 ∨ A 1 pos = 4 ∨ A 1 pos = 5 ∨ A 1 pos = 34 ∨ A 1 pos = 35) → 2 ≤ A 2 pos := fun e => by
              rw [z2]; rcases e with e | e | e | e | e <;> rw [e] <;> decide
            refine Or.inl ⟨s2, l2, c44, by unfold isSt at hj; omega, by omega, ⟨fun e => ?_, fun e => ?_⟩, he, fun n41 => ?_⟩
            · have g2 := fxz2 (by omega)
              have := (c6 (by omega) h33).1 e
              have := hW.2.2.1
              omega
            · exact (c6 (by have := fxz2 (by omega); omega) h33).2.1 e
            · rw [← z2]
              obtain ⟨L', r', z', a1, a2, a3, a4⟩ := nxt (by unfold gon; unfold isSt at hj; omega)
              exact ⟨L', r', z', a1, a2, a3, a4.1, fun q hq => absurd hq (a4.2 q)⟩
theorem st_N (hX : NX A m T Pl I0 wv hn ln ar cb hd ho og nm) : Nxt Pl m 0 [] (fun i => if i < ar m then 1 else 0) 98 zOk := by
  obtain ⟨lq, h0, hb⟩ := hX.1.2.2.2.2.1
  have e : l0 A = fun i => if i < ar m then 1 else 0 := by unfold l0; rw [hX.2.1.2.2]
  rw [← e]
  exact nx_n hX h0 hb (by omega)
end
