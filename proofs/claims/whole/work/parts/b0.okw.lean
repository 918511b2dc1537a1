/-! PURE 96: RUN: woven code: the other places -/
theorem eff_nb {c b b' : Nat} {ar : Nat → Nat} {S : List Nat} {L : Nat → Nat} (h : c = 3 ∨ c = 4 ∨ c = 5 ∨ c = 40 → b = b') : eff c b ar S L = eff c b' ar S L := by
  by_cases e : c = 3 ∨ c = 4 ∨ c = 5 ∨ c = 40
  · rw [h e]
  · unfold eff
    rw [if_neg (by omega : ¬ c = 3), if_neg (by omega : ¬ c = 3), if_neg (by omega : ¬ c = 4), if_neg (by omega : ¬ c = 4), if_neg (by omega : ¬ c = 5), if_neg (by omega : ¬ c = 5), if_neg (by omega : ¬ c = 40), if_neg (by omega : ¬ c = 40)]
section
variable {A B F : Nat → Nat → Nat} {m w : Nat} {T : TS} {Pl : PlT} {I0 : zI} {wv hn ln ar : nuN} {cb hd ho og : Nat → Nat → Nat} {kp nm : Nat} {pos r : Nat} {S : List Nat} {L : Nat → Nat} {z : Zn}
theorem bh_0 {p : Nat} : bhn m B 0 p = 0 := rfl
theorem bh_4 {p q : Nat} (a : atq B m 4 p q) : bhn m B (q + 1) p = bhn m B q p + 2 := by
  unfold bhn
  rw [cn_y a, cn_n (s := 7) (fun y => by have := y.1; have := a.1; omega), cn_n (s := 1) (fun y => by have := y.1; have := a.1; omega)]; omega
theorem bh_7 {p q : Nat} (a : atq B m 7 p q) : bhn m B (q + 1) p = bhn m B q p + 2 := by
  unfold bhn
  rw [cn_y a, cn_n (s := 4) (fun y => by have := y.1; have := a.1; omega), cn_n (s := 1) (fun y => by have := y.1; have := a.1; omega)]; omega
theorem bh_1 {p q : Nat} (a : atq B m 1 p q) : bhn m B (q + 1) p = bhn m B q p + 3 := by
  unfold bhn
  rw [cn_y a, cn_n (s := 4) (fun y => by have := y.1; have := a.1; omega), cn_n (s := 7) (fun y => by have := y.1; have := a.1; omega)]; omega
theorem wx_fit (hX : WX A B F m w T Pl I0 wv hn ln ar cb hd ho og kp nm) {sx p q : Nat} (hq : q < w) (a : atq B m sx p q) : fitP A sx p := by
  have := (hX.2.2.1 q hq a.2.1).2.2
  rw [a.1, a.2.2] at this; exact this
theorem wx_pl (hX : WX A B F m w T Pl I0 wv hn ln ar cb hd ho og kp nm) (h : PlW A m B w F T ar pos S L r z) : pos < ln m := by
  have hW := hX.1.1
  have hF := hX.1.2.1
  rcases h with h | h | h | h | h | h | h | h | h | h | h | h
  · obtain ⟨q, hq, a, rfl, -⟩ := h
    have it := at_E (A := A) (m := m) (B := B) (F := F) hq
    unfold fE at it
    rw [if_pos a] at it
    have := wx_2 hX it; omega
  · obtain ⟨p, q, hT, hq, a, rfl, -⟩ := h
    obtain ⟨hp, hp2, -⟩ := wx_T hX hT
    have it := at_P (A := A) (m := m) (B := B) (w := w) (F := F) hW hF hp hp2 hq
    unfold fP at it
    by_cases a0 : atq B m 0 p q
    · rw [if_pos a0] at it
      have := wx_2 hX it; omega
    · rw [if_neg a0, if_pos (a.resolve_left a0)] at it
      have := wx_2 hX it; omega
  · obtain ⟨p, q, hT, h42, hq, a, rfl, -⟩ := h
    obtain ⟨hp, hp2, -⟩ := wx_T hX hT
    have it := at_Lv (A := A) (m := m) (B := B) (w := w) (F := F) hW hF hp hp2 hq h42
    unfold fL at it
    rw [if_pos ⟨h42, a⟩] at it
    have := wx_2 hX it; omega
  · obtain ⟨p, q, hT, hq, a, rfl, -⟩ := h
    obtain ⟨hp, hp2, -⟩ := wx_T hX hT
    have it := at_O (A := A) (m := m) (B := B) (w := w) (F := F) hW hF hp hp2 hq
    unfold fO at it
    rw [if_pos a] at it
    exact Nat.lt_of_succ_lt (wx_2 hX it).2.2.2.2
  · obtain ⟨p, hT, rfl, -⟩ := h
    obtain ⟨hp, hp2, -⟩ := wx_T hX hT
    exact (wx_b hX (at_s (A := A) (m := m) (B := B) (w := w) (F := F) hW hF hp hp2) (j := 0) (self_0 hp2).2).2.2.2
  · obtain ⟨p, q, S0, L0, hT, -, -, hq, a, rfl, -⟩ := h
    obtain ⟨hp, hp2, -⟩ := wx_T hX hT
    have it := at_B (A := A) (m := m) (B := B) (w := w) (F := F) hW hF hp hp2 hq
    unfold fB at it
    by_cases a4 : atq B m 4 p q
    · rw [if_pos a4] at it
      have := wx_2 hX it; omega
    · rw [if_neg a4] at it
      by_cases a7 : atq B m 7 p q
      · rw [if_pos a7] at it
        have := wx_2 hX it; omega
      · rw [if_neg a7, if_pos ((a.resolve_left a4).resolve_left a7)] at it
        have := wx_3 hX it; omega
  · obtain ⟨p, q, S0, L0, hT, -, hq, a, rfl, -⟩ := h
    obtain ⟨hp, hp2, -⟩ := wx_T hX hT
    have := wx_3 hX (at_sp (A := A) (m := m) (B := B) (w := w) (F := F) hW hF hp hq a (cn_p w hq a)); omega
  · obtain ⟨p, S0, L0, hT, -, h0, rfl, -⟩ := h
    obtain ⟨hp, hp2, -⟩ := wx_T hX hT
    exact (wx_b hX (at_sj (A := A) (m := m) (B := B) (w := w) (F := F) hW hF hp h0) (j := 0) (by rw [len_jl]; split <;> omega)).2.2.2
  · obtain ⟨j, q, hj, hT, -, hq, a, rfl, -⟩ := h
    have := wx_2 hX (at_cp (A := A) (m := m) (B := B) (w := w) (F := F) hW hF hj hq a (cn_p w hq a)); omega
  · obtain ⟨j, hj, hT, -, h0, rfl, -⟩ := h
    exact (wx_b hX (at_cj (A := A) (m := m) (B := B) (w := w) (F := F) hW hF hj h0) (j := 0) (by rw [len_jl]; split <;> omega)).2.2.2
  · obtain ⟨q, hq, a, -, -, rfl, -⟩ := h
    have := wx_2 hX (at_lf (A := A) (m := m) (B := B) (w := w) (F := F) hW hF hq a (cn_p w hq a)); omega
  · obtain ⟨h0, -, -, rfl, -⟩ := h
    exact (wx_b hX (at_ag (A := A) (m := m) (B := B) (w := w) (F := F) hW hF h0) (j := 0) (by simp)).2.2.2
theorem wx_G (hX : WX A B F m w T Pl I0 wv hn ln ar cb hd ho og kp nm) {p : Nat} (h : T p = some (S, L)) : Gp A m B w F p < ln m := by
  obtain ⟨r, z, h1, -⟩ := AS (A := A) (m := m) (B := B) (w := w) (F := F) (ar := ar) h
  exact wx_pl hX h1
/-- a jump's target -/
theorem wx_tg (hX : WX A B F m w T Pl I0 wv hn ln ar cb hd ho og kp nm) {p i : Nat} {s2 : List Nat} {l2 : Nat → Nat} (h : T p = some (S, L)) (he : eff (sho (A 1 p)) (A 1 (p + 1)) ar S L = some (s2, l2)) (hi : i < njp A p) : ∃ lq, T (tgn A p i) = some (s2, lq) ∧ ble lq l2 := by
  obtain ⟨hp, hp2, hgs, hgl, hsc, h400⟩ := wx_T hX h
  obtain ⟨-, s3, l3, e3, ht, -⟩ := hsc
  rw [he] at e3
  injection e3 with e3
  injection e3 with e4 e5
  obtain ⟨j, j1, j2, j3⟩ := hX.1.2.2.1 p hp hp2 i hi
  have l400 := hX.1.1.2.2.2.2.1
  obtain ⟨lq, h1, h2⟩ := ht i hi j j2 j1
  have en : tgn A p i = j := by unfold tgn; rw [j2, nI_clamp (by omega)]
  rw [en]
  exact ⟨lq, by rw [e4]; exact h1, by rw [e5]; exact h2⟩
theorem ok_slf (hX : WX A B F m w T Pl I0 wv hn ln ar cb hd ho og kp nm) (h : Kslf A m B w F T pos S L r z) : Ok Pl I0 wv hn ln ar cb hd B ho og kp nm m pos S L r z := by
  have h0 := wx_pl hX (kSlf (ar := ar) h)
  obtain ⟨p, hT, rfl, rfl, rfl⟩ := h
  obtain ⟨hp, hp2, hgs, hgl, hsc, h400⟩ := wx_T hX hT
  have ln1 : ln m ≤ 1000 := by have := hX.2.1.1; have := hX.2.2.2.1.1; omega
  have hW := hX.1.1
  have hF := hX.1.2.1
  have hC := hX.1.2.2.2.2.1
  have hw := hX.2.1.2.1
  have sp := at_s (A := A) (m := m) (B := B) (w := w) (F := F) hW hF hp hp2
  obtain ⟨s0, s1⟩ := self_0 (A := A) (m := m) (B := B) (w := w) (F := F) hp2
  obtain ⟨-, o1, o2, -⟩ := wx_b hX sp (j := 0) s1
  rw [s0] at o1 o2
  have sl := wlen_s (B := B) (w := w) hW hF hp hp2
  have spl := At_le sp
  rw [wlen_cod hW hF, ← hX.2.2.2.1.1, sl] at spl
  have hsc' := hsc
  obtain ⟨-, s2, l2, he, -, -⟩ := hsc'
  obtain ⟨c1, c2, c3, c4, c5, c6, c7, c8⟩ := hW.2.2.2.2.2.2.2.2.2.1 p hp hp2
  have f1 := hF.1 0 p
  have bs : gon (A 1 p) → ∃ L' r z', PlW A m B w F T ar (Sp A m B w F p + (A 2 p + F 0 p)) s2 L' r z' ∧ ble L' l2 ∧ r < 98 ∧ z'.1 ≠ 1 ∧ ∀ q', z'.2.2.2 q' → z'.1 = 3 ∧ q' < w ∧ atq B m 4 p q' := fun hg => by
    obtain ⟨L', r, z', a1, a2, a3, a4, a5⟩ := BS (A := A) (m := m) (B := B) (w := w) (F := F) (T := T) (ar := ar) hW hC hT he hg w 0 (by omega)
    exact ⟨L', r, z', a1, a2, by omega, a4, fun q' hq' => by obtain ⟨b1, b2, b3, b4⟩ := a5 q' hq'; exact ⟨b1, b3, b4⟩⟩
  have bo : gon (A 1 p) → (A 1 p ≠ 35 ∧ A 1 p ≠ 39) → Nxt Pl m (Sp A m B w F p + (A 2 p + F 0 p)) s2 l2 98 zOk := fun hg hn => by
    obtain ⟨L', r, z', a1, a2, a3, a4, a5⟩ := bs hg
    exact wx_n hX a1 a2 a3 ⟨a4, fun q' hq' => by
      obtain ⟨-, b3, b4⟩ := a5 q' hq'
      have := (wx_fit hX b3 b4).2.2.1 rfl
      omega⟩
  refine ok_mk hX h0 hgs hgl (by omega) (Or.inr (Or.inr (Or.inr ⟨wx_in hX hT (by unfold Sp; omega) (by omega), ⟨p, o1, o2, h400⟩, ?_⟩)))
  by_cases hj : isSt (A 1 p) ∨ isLg (A 1 p)
  · have cs : 20 ≤ sho (A 1 p) ∧ sho (A 1 p) ≤ 32 := by unfold sho; split <;> omega
    have nj1 : njp A p = 1 := by unfold njp; rw [if_neg (by omega), if_pos hj]
    obtain ⟨lq, hq, hb⟩ := wx_tg hX hT he (i := 0) (by omega)
    have tgt : Nxt Pl m (dst A m B w F p 0) s2 l2 98 zOk ∧ dst A m B w F p 0 < ln m := by
      unfold dst
      by_cases q1 : cnq B m 1 p w = 0
      · rw [if_pos q1]
        exact ⟨wx_A hX hq hb (by omega), wx_G hX hq⟩
      · rw [if_neg q1]
        obtain ⟨r', z', n1, n2, n3⟩ := SS (A := A) (m := m) (B := B) (w := w) (F := F) (T := T) (ar := ar) hT he q1 w 0 (by omega)
        exact ⟨wx_n hX n1 (ble_r _) (by omega) n3, wx_pl hX n1⟩
    rw [self_j hj] at sp
    obtain ⟨k1, k2, k3, k4, k5, k6, k7, k8, k9⟩ := wx_j hX sp cs (by omega) (fun e => by
      have e := of_decide_eq_false e
      exact hX.1.2.2.2.2.2.1 p hp hp2 (hj.resolve_right (fun y => e (Or.inl y))) (by
        have : F 0 p ≠ 1 := fun y => e (Or.inr y)
        omega))
    have fz : fxz (cb m (Sp A m B w F p)) = A 2 p + F 0 p := by
      rw [self_j hj, len_jl] at sl
      rw [k4]; exact sl
    refine Or.inr (Or.inl ⟨s2, l2, _, k2, k5, by rw [k3, eff_jn (b' := A 1 (p + 1)) (by omega)]; exact he, k6, by omega, tgt.1, fun n20 => ?_⟩)
    rw [k3] at n20
    rw [fz]
    exact bo (by unfold gon; unfold sho at n20; refine ⟨?_, ?_, ?_, ?_, ?_⟩ <;> (intro e; rw [e] at n20 hj; first | exact n20 rfl | (unfold isSt isLg at hj; omega))) (by omega)
  · by_cases h33 : A 1 p = 33
    · have it0 := At_t sp (self_t0 hj h33)
      obtain ⟨d1, -, -, -⟩ := wx_b hX it0 (j := 0) (by simp)
      obtain ⟨d2, -, -, -⟩ := wx_b hX it0 (j := 1) (by simp)
      have d1 : cb m (Sp A m B w F p) = 33 := d1
      have d2 : cb m (Sp A m B w F p + 1) = A 1 (p + 1) := d2
      have z2 : A 2 p = 4 + 2 * A 1 (p + 1) := by rw [c2]; unfold opz; rw [if_pos h33]
      have njp1 : njp A p = A 1 (p + 1) + 1 := by unfold njp; rw [if_pos h33]
      have s33 : sho (A 1 p) = 33 := by rw [h33]; rfl
      have he' := he
      rw [s33] at he'
      obtain ⟨eS, eL⟩ := eff_33 he'
      refine Or.inr (Or.inr (Or.inl ⟨s2, d1, by rw [d2]; exact (c5 h33).2, by rw [d2]; omega, eS, fun i hi => ?_⟩))
      rw [d2] at hi
      obtain ⟨lq, hq, hb⟩ := wx_tg hX hT he (i := i) (by omega)
      have n1 : cnq B m 1 p w = 0 := by
        by_cases y : cnq B m 1 p w = 0
        · exact y
        · obtain ⟨q, q1, q2⟩ := cn_0 w y
          have := (wx_fit hX q1 q2).1 rfl
          omega
      have ed : dst A m B w F p i = Gp A m B w F (tgn A p i) := by unfold dst; rw [if_pos n1]
      have hG := wx_G hX hq
      have iti := At_t sp (self_t hj h33 (i := i) (by omega))
      rw [ed] at iti
      obtain ⟨g1, -, -, -⟩ := wx_b hX iti (j := 0) (by simp)
      obtain ⟨g2, -, -, -⟩ := wx_b hX iti (j := 1) (by simp)
      have g1 : cb m (Sp A m B w F p + (2 + 2 * i)) = hi8 ((Gp A m B w F (tgn A p i) : Int) - Sp A m B w F p) := g1
      have g2 : cb m (Sp A m B w F p + (2 + 2 * i) + 1) = lo8 ((Gp A m B w F (tgn A p i) : Int) - Sp A m B w F p) := g2
      refine ⟨Gp A m B w F (tgn A p i), ?_, by omega, by rw [← eL]; exact wx_A hX hq hb (by omega)⟩
      unfold tgv
      rw [if_pos d1, show Sp A m B w F p + 2 + 2 * i = Sp A m B w F p + (2 + 2 * i) by omega, g1, g2]
      exact nI_to (by omega) (by omega) (lh_T _ (by omega))
    · have F0 : F 0 p = 0 := by
        have : F 0 p ≠ 1 := fun y => hj (Or.inl (hF.2 p y))
        omega
      have by_ : ∀ i, i < A 2 p → cb m (Sp A m B w F p + i) = A 1 (p + i) := fun i hi => (wx_b hX (At_t sp (self_p hj h33 hi)) (j := 0) (by simp)).1
      have e0 : cb m (Sp A m B w F p) = A 1 p := by_ 0 hp2
      have z2 : A 2 p = fxz (A 1 p) := by rw [c2]; unfold opz; rw [if_neg h33]
      have c44 : A 1 p < 44 := by unfold isOpn at c1; unfold isSt isLg at hj; omega
      have ss : sho (A 1 p) = A 1 p := by unfold sho; rw [if_neg (by omega)]
      rw [ss] at he
      have e1 : 2 ≤ A 2 p → cb m (Sp A m B w F p + 1) = A 1 (p + 1) := fun h => by_ 1 (by omega)
      by_cases h40 : A 1 p = 40
      · have z40 : A 2 p = 2 := by rw [z2, h40]; rfl
        have he' := he
        rw [h40] at he'
        obtain ⟨rest, p1, p2, p3, p4⟩ := eff_40 he'
        have gg : gon (A 1 p) := by rw [h40]; unfold gon; omega
        have nx := bo gg (by omega)
        obtain ⟨L', r', z', n1, -⟩ := bs gg
        have lt := wx_pl hX n1
        have cm := (c6 (by omega) h33).2.2 h40
        have nmm := hX.2.1.2.2.2.1
        rw [z40, F0] at nx lt
        refine Or.inr (Or.inr (Or.inr (Or.inl ⟨rest, by rw [e0]; exact h40, by omega, by omega, by rw [e1 (by omega)]; omega, by rw [e1 (by omega)]; exact p1, p2, by rw [← p3, ← p4]; exact nx⟩)))
      · by_cases h42 : A 1 p = 42
        · rw [h42] at he
          exact Or.inr (Or.inr (Or.inr (Or.inr ⟨by rw [e0]; exact h42, s2, eff_42 he⟩)))
        · have fxz2 : (A 1 p = 3 ∨ A 1 p = 4 ∨ A 1 p = 5 ∨ A 1 p = 34 ∨ A 1 p = 35) → 2 ≤ A 2 p := fun e => by
            rw [z2]; rcases e with e | e | e | e | e <;> rw [e] <;> decide
          refine Or.inl ⟨s2, l2, by rw [e0]; exact c44, by rw [e0]; unfold isSt at hj; omega, by rw [e0, ← z2]; omega, ⟨fun e => ?_, fun e => ?_⟩, ?_, fun n41 => ?_⟩
          · rw [e0] at e
            have g2 := fxz2 (by omega)
            rw [e1 g2]
            have := (c6 (by omega) h33).1 e
            have := hW.2.2.1
            omega
          · rw [e0] at e
            have g2 := fxz2 (by omega)
            rw [e1 g2]
            exact (c6 (by omega) h33).2.1 e
          · rw [e0, eff_nb (b' := A 1 (p + 1)) (fun e => e1 (fxz2 (by omega)))]; exact he
          · rw [e0] at n41
            have gg : gon (A 1 p) := by unfold gon; unfold isSt at hj; omega
            obtain ⟨L', r', z', n1, n2, n3, n4, n5⟩ := bs gg
            rw [e0, ← z2]
            refine wx_n hX (by rw [F0] at n1; exact n1) n2 n3 ⟨n4, fun q' hq' => ?_⟩
            obtain ⟨y1, y2, y3⟩ := n5 q' hq'
            have := (wx_fit hX y2 y3).2.2.1 rfl
            exact ⟨y1, this, rfl, rfl, fun e => (e1 (fxz2 (by omega))).symm, y2, y3⟩
theorem ok_beh (hX : WX A B F m w T Pl I0 wv hn ln ar cb hd ho og kp nm) (h : Kbeh A m B w F T ar pos S L r z) : Ok Pl I0 wv hn ln ar cb hd B ho og kp nm m pos S L r z := by
  have h0 := wx_pl hX (kBeh h)
  obtain ⟨p, q, S0, L0, hT, he, hg, hq, a, rfl, rfl, rfl⟩ := h
  obtain ⟨hp, hp2, hgs, hgl, hsc, h400⟩ := wx_T hX hT
  obtain ⟨gs2, gl2⟩ := eff_good hgs hgl he
  have hW := hX.1.1
  have hF := hX.1.2.1
  have hw := hX.2.1.2.1
  have hk := hX.2.1.2.2.1
  have hWv := hX.2.1.2.2.2.2.1
  obtain ⟨L', r', z', n1, n2, n3, n4, n5⟩ := BS (A := A) (m := m) (B := B) (w := w) (F := F) (T := T) (ar := ar) hW hX.1.2.2.2.2.1 hT he hg (w - (q + 1)) (q + 1) (by omega)
  have it := at_B (A := A) (m := m) (B := B) (w := w) (F := F) hW hF hp hp2 hq
  have no4 : A 1 p ≠ 35 ∧ A 1 p ≠ 39 → zOk z' := fun e => ⟨n4, fun q' hq' => by
    obtain ⟨-, -, b3, b4⟩ := n5 q' hq'
    have := (wx_fit hX b3 b4).2.2.1 rfl
    omega⟩
  unfold fB at it
  by_cases a4 : atq B m 4 p q
  · rw [if_pos a4] at it
    obtain ⟨b1, b2, b3, b4, b5⟩ := wx_2 hX it
    rw [bh_4 a4] at n1
    exact ok_mk hX h0 gs2 gl2 (by omega) (Or.inl ⟨hWv, b5, by omega, Or.inr (Or.inr (Or.inr (Or.inr (Or.inr (Or.inr (Or.inl ⟨b1, rfl, by rw [b2]; exact ⟨Nat.le_refl _, hq, a4⟩, wx_n hX (by rw [show Sp A m B w F p + (A 2 p + F 0 p + bhn m B q p) + 2 = Sp A m B w F p + (A 2 p + F 0 p + (bhn m B q p + 2)) by omega]; exact n1) n2 (by omega) ⟨n4, fun q' hq' => by
      obtain ⟨c1, c2, c3, c4⟩ := n5 q' hq'
      exact ⟨c1, by omega, c3, c4⟩⟩⟩))))))⟩)
  · rw [if_neg a4] at it
    by_cases a7 : atq B m 7 p q
    · rw [if_pos a7] at it
      obtain ⟨b1, b2, b3, b4, b5⟩ := wx_2 hX it
      rw [bh_7 a7] at n1
      have fit := (wx_fit hX hq a7).2.2.2.2 rfl
      have ss : sho (A 1 p) = A 1 p := by unfold sho; rw [if_neg (by omega)]
      rw [ss] at he
      exact ok_mk hX h0 gs2 gl2 (by omega) (Or.inl ⟨hWv, b5, by omega, Or.inr (Or.inr (Or.inr (Or.inl ⟨Or.inr (Or.inr b1), eff_top' fit he, wx_n hX (by rw [show Sp A m B w F p + (A 2 p + F 0 p + bhn m B q p) + 2 = Sp A m B w F p + (A 2 p + F 0 p + (bhn m B q p + 2)) by omega]; exact n1) n2 (by omega) (no4 (by omega))⟩)))⟩)
    · have a1 := (a.resolve_left a4).resolve_left a7
      rw [if_neg a7, if_pos a1] at it
      obtain ⟨b1, b2, b3, b5⟩ := wx_3 hX it
      rw [bh_1 a1] at n1
      have fit := (wx_fit hX hq a1).1 rfl
      exact ok_mk hX h0 gs2 gl2 (by omega) (Or.inl ⟨hWv, by omega, by omega, Or.inr (Or.inl ⟨b1, b5, wx_n hX (by rw [show Sp A m B w F p + (A 2 p + F 0 p + bhn m B q p) + 3 = Sp A m B w F p + (A 2 p + F 0 p + (bhn m B q p + 3)) by omega]; exact n1) n2 (by omega) (no4 ⟨fun e => by rw [e] at fit; exact absurd fit (by decide), fun e => by rw [e] at fit; exact absurd fit (by decide)⟩)⟩)⟩)
theorem ok_sid (hX : WX A B F m w T Pl I0 wv hn ln ar cb hd ho og kp nm) (h : Ksid A m B w F T ar pos S L r z) : Ok Pl I0 wv hn ln ar cb hd B ho og kp nm m pos S L r z := by
  have h0 := wx_pl hX (kSid h)
  obtain ⟨p, q, S0, L0, hT, he, hq, a, rfl, rfl, rfl⟩ := h
  obtain ⟨hp, hp2, hgs, hgl, hsc, h400⟩ := wx_T hX hT
  obtain ⟨gs2, gl2⟩ := eff_good hgs hgl he
  have hw := hX.2.1.2.1
  have hk := hX.2.1.2.2.1
  have c0 := cn_p w hq a
  obtain ⟨b1, b2, b3, b5⟩ := wx_3 hX (at_sp (A := A) (m := m) (B := B) (w := w) (F := F) hX.1.1 hX.1.2.1 hp hq a c0)
  obtain ⟨r', z', n1, n2, n3⟩ := SS (A := A) (m := m) (B := B) (w := w) (F := F) (T := T) (ar := ar) hT he c0 (w - (q + 1)) (q + 1) (by omega)
  rw [cn_y a] at n1
  exact ok_mk hX h0 gs2 gl2 (by omega) (Or.inl ⟨hX.2.1.2.2.2.2.1, by omega, by omega, Or.inr (Or.inl ⟨b1, b5, wx_n hX (by rw [show SPp A m B w F p + 3 * cnq B m 1 p q + 3 = SPp A m B w F p + 3 * (cnq B m 1 p q + 1) by omega]; exact n1) (ble_r _) (by omega) n3⟩)⟩)
theorem ok_sjm (hX : WX A B F m w T Pl I0 wv hn ln ar cb hd ho og kp nm) (h : Ksjm A m B w F T ar pos S L r z) : Ok Pl I0 wv hn ln ar cb hd B ho og kp nm m pos S L r z := by
  have h0 := wx_pl hX (kSjm h)
  obtain ⟨p, S0, L0, hT, he, c0, rfl, rfl, rfl⟩ := h
  obtain ⟨hp, hp2, hgs, hgl, hsc, h400⟩ := wx_T hX hT
  obtain ⟨gs2, gl2⟩ := eff_good hgs hgl he
  have hw := hX.2.1.2.1
  have ln1 : ln m ≤ 1000 := by have := hX.2.1.1; have := hX.2.2.2.1.1; omega
  obtain ⟨q, hq, a⟩ := cn_0 w c0
  have fit := (wx_fit hX hq a).1 rfl
  have hj : isSt (A 1 p) ∨ isLg (A 1 p) := by unfold sho at fit; unfold isSt isLg; split at fit <;> omega
  have nj1 : njp A p = 1 := by unfold njp; rw [if_neg (by unfold isSt isLg at hj; omega), if_pos hj]
  obtain ⟨lq, ht, hb⟩ := wx_tg hX hT he (i := 0) (by omega)
  have hG := wx_G hX ht
  have f1 := hX.1.2.1.1 1 p
  obtain ⟨k1, k2, k3, k4, k5, k6, k7, k8, k9⟩ := wx_j hX (at_sj (A := A) (m := m) (B := B) (w := w) (F := F) hX.1.1 hX.1.2.1 hp c0) (by omega) (by omega) (fun e => hX.1.2.2.2.2.2.2.1 p hp (by omega) (by
    have : F 1 p ≠ 1 := of_decide_eq_false e
    omega))
  refine ok_mk hX h0 gs2 gl2 (by omega) (Or.inr (Or.inr (Or.inl ⟨hX.2.1.2.2.2.2.1, k7, k8, ?_, _, by omega, k6, wx_A hX ht hb (by omega)⟩)))
  by_cases e : F 1 p = 1
  · rw [if_pos (decide_eq_true e)] at k1 k4
    rw [k4] at k5
    exact Or.inr ⟨k1, by omega⟩
  · rw [if_neg (by rw [decide_eq_true_iff]; exact e)] at k1 k4
    rw [k4] at k5
    exact Or.inl ⟨k1, by omega⟩
theorem ok_cau (hX : WX A B F m w T Pl I0 wv hn ln ar cb hd ho og kp nm) (h : Kcau A m B w F T pos S L r z) : Ok Pl I0 wv hn ln ar cb hd B ho og kp nm m pos S L r z := by
  have h0 := wx_pl hX (kCau (ar := ar) h)
  obtain ⟨j, q, hj, hT, rfl, hq, a, rfl, rfl, rfl⟩ := h
  obtain ⟨hp, hp2, hgs, hgl, hsc, h400⟩ := wx_T hX hT
  have hw := hX.2.1.2.1
  have hk := hX.2.1.2.2.1
  have c0 := cn_p w hq a
  obtain ⟨b1, b2, b3, b4, b5⟩ := wx_2 hX (at_cp (A := A) (m := m) (B := B) (w := w) (F := F) hX.1.1 hX.1.2.1 hj hq a c0)
  obtain ⟨r', z', n1, n2, n3⟩ := CS (A := A) (m := m) (B := B) (w := w) (F := F) (T := T) (ar := ar) hj hT c0 (w - (q + 1)) (q + 1) (by omega)
  rw [cn_y a] at n1
  exact ok_mk hX h0 hgs hgl (by omega) (Or.inl ⟨hX.2.1.2.2.2.2.1, b5, by omega, Or.inr (Or.inr (Or.inr (Or.inl ⟨Or.inr (Or.inl b1), ⟨[], rfl⟩, wx_n hX (by rw [show CPp A m B w F j + 2 * cnq B m 5 (A 3 (4 * j + 2)) q + 2 = CPp A m B w F j + 2 * (cnq B m 5 (A 3 (4 * j + 2)) q + 1) by omega]; exact n1) (ble_r _) (by omega) n3⟩)))⟩)
theorem ok_cjm (hX : WX A B F m w T Pl I0 wv hn ln ar cb hd ho og kp nm) (h : Kcjm A m B w F T pos S L r z) : Ok Pl I0 wv hn ln ar cb hd B ho og kp nm m pos S L r z := by
  have h0 := wx_pl hX (kCjm (ar := ar) h)
  obtain ⟨j, hj, hT, rfl, c0, rfl, rfl, rfl⟩ := h
  obtain ⟨hp, hp2, hgs, hgl, hsc, h400⟩ := wx_T hX hT
  have hw := hX.2.1.2.1
  have ln1 : ln m ≤ 1000 := by have := hX.2.1.1; have := hX.2.2.2.1.1; omega
  have hG := wx_G hX hT
  have f1 := hX.1.2.1.1 2 j
  obtain ⟨k1, k2, k3, k4, k5, k6, k7, k8, k9⟩ := wx_j hX (at_cj (A := A) (m := m) (B := B) (w := w) (F := F) hX.1.1 hX.1.2.1 hj c0) (by omega) (by omega) (fun e => hX.1.2.2.2.2.2.2.2 j hj (by omega) (by
    have : F 2 j ≠ 1 := of_decide_eq_false e
    omega))
  refine ok_mk hX h0 hgs hgl (by omega) (Or.inr (Or.inr (Or.inl ⟨hX.2.1.2.2.2.2.1, k7, k8, ?_, _, by omega, k6, wx_A hX hT (ble_r _) (by omega)⟩)))
  by_cases e : F 2 j = 1
  · rw [if_pos (decide_eq_true e)] at k1 k4
    rw [k4] at k5
    exact Or.inr ⟨k1, by omega⟩
  · rw [if_neg (by rw [decide_eq_true_iff]; exact e)] at k1 k4
    rw [k4] at k5
    exact Or.inl ⟨k1, by omega⟩
theorem ok_lef (hX : WX A B F m w T Pl I0 wv hn ln ar cb hd ho og kp nm) (h : Klef A m B w F pos S L r z) : Ok Pl I0 wv hn ln ar cb hd B ho og kp nm m pos S L r z := by
  have h0 := wx_pl hX (kLef (ar := ar) (T := T) h)
  obtain ⟨q, hq, a, rfl, rfl, rfl, rfl, rfl⟩ := h
  have hw := hX.2.1.2.1
  have hk := hX.2.1.2.2.1
  have c0 := cn_p w hq a
  obtain ⟨b1, b2, b3, b4, b5⟩ := wx_2 hX (at_lf (A := A) (m := m) (B := B) (w := w) (F := F) hX.1.1 hX.1.2.1 hq a c0)
  obtain ⟨r', z', n1, n2, n3, n4⟩ := LfS (A := A) (m := m) (B := B) (w := w) (F := F) (T := T) (ar := ar) c0 (w - (q + 1)) (q + 1) (by omega)
  rw [cn_y a] at n1
  exact ok_mk hX h0 gs_1 gl_0 (by omega) (Or.inl ⟨hX.2.1.2.2.2.2.1, b5, by omega, Or.inr (Or.inr (Or.inr (Or.inr (Or.inl ⟨b1, rfl, wx_n hX (by rw [show LPp A m B w F + 2 * cnq B m 3 0 q + 2 = LPp A m B w F + 2 * (cnq B m 3 0 q + 1) by omega]; exact n1) (ble_r _) (by omega) ⟨n3, n4⟩⟩))))⟩)
theorem ok_aga (hX : WX A B F m w T Pl I0 wv hn ln ar cb hd ho og kp nm) (h : Kaga A m B w F pos S L r z) : Ok Pl I0 wv hn ln ar cb hd B ho og kp nm m pos S L r z := by
  have h0 := wx_pl hX (kAga (ar := ar) (T := T) h)
  obtain ⟨c0, rfl, rfl, rfl, rfl, rfl⟩ := h
  obtain ⟨b1, -, -, -⟩ := wx_b hX (at_ag (A := A) (m := m) (B := B) (w := w) (F := F) hX.1.1 hX.1.2.1 c0) (j := 0) (by simp)
  exact ok_mk hX h0 gs_1 gl_0 (by omega) (Or.inr (Or.inl ⟨b1, hX.2.1.2.2.2.2.1, rfl⟩))
theorem ok_W (hX : WX A B F m w T Pl I0 wv hn ln ar cb hd ho og kp nm) (h : PlW A m B w F T ar pos S L r z) : Ok Pl I0 wv hn ln ar cb hd B ho og kp nm m pos S L r z := by
  rcases h with h | h | h | h | h | h | h | h | h | h | h | h
  · exact ok_ent hX h
  · exact ok_pas hX h
  · exact ok_lev hX h
  · exact ok_old hX h
  · exact ok_slf hX h
  · exact ok_beh hX h
  · exact ok_sid hX h
  · exact ok_sjm hX h
  · exact ok_cau hX h
  · exact ok_cjm hX h
  · exact ok_lef hX h
  · exact ok_aga hX h
theorem st_W (hX : WX A B F m w T Pl I0 wv hn ln ar cb hd ho og kp nm) : Nxt Pl m 0 [] (fun i => if i < ar m then 1 else 0) 98 zOk := by
  obtain ⟨lq, h0, hb⟩ := hX.1.2.2.2.2.1.2.1
  have hw := hX.2.1.2.1
  obtain ⟨L', r', z', n1, n2, n3, n4⟩ := AS_ent (A := A) (m := m) (B := B) (w := w) (F := F) (ar := ar) h0 hb w 0 (by omega)
  have e : l0 A = fun i => if i < ar m then 1 else 0 := by unfold l0; rw [hX.2.1.2.2.2.2.2]
  rw [← e]
  exact wx_n hX n1 n2 (by omega) n4
end
