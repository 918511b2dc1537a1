/-! PURE 95: RUN: woven code: each place is as it must be -/
theorem gs_n : gs [] := ⟨by simp, fun t h => absurd h (by simp)⟩
theorem gs_1 : gs [1] := ⟨by simp, fun t h => by simp at h; omega⟩
theorem gl_0 : gl (fun _ => 0) := fun _ => by show (0 : Nat) < 3; decide
theorem eff_42 {b : Nat} {ar : Nat → Nat} {S s2 : List Nat} {L l2 : Nat → Nat} (h : eff 42 b ar S L = some (s2, l2)) : S = 1 :: s2 := by
  obtain ⟨e, -⟩ := eff_T (by omega) h
  have e : (popI 1 S).bind (fun s1 => some s1) = some s2 := e
  obtain ⟨a, e1, e⟩ := bind_o e
  injection e with e
  rw [pop1 e1, e]
theorem eff_33 {b : Nat} {ar : Nat → Nat} {S s2 : List Nat} {L l2 : Nat → Nat} (h : eff 33 b ar S L = some (s2, l2)) : S = 1 :: s2 ∧ l2 = L := by
  obtain ⟨e, el⟩ := eff_T (by omega) h
  have e : (popI 1 S).bind (fun s1 => some s1) = some s2 := e
  obtain ⟨a, e1, e⟩ := bind_o e
  injection e with e
  exact ⟨by rw [pop1 e1, e], el⟩
theorem eff_40 {b : Nat} {ar : Nat → Nat} {S s2 : List Nat} {L l2 : Nat → Nat} (h : eff 40 b ar S L = some (s2, l2)) : ∃ rest, popI (ar b) S = some rest ∧ rest.length < 10 ∧ s2 = 1 :: rest ∧ l2 = L := by
  unfold eff at h
  rw [if_neg (by decide), if_neg (by decide), if_neg (by decide), if_neg (by decide), if_neg (by decide), if_neg (by decide), if_pos rfl] at h
  cases e : (popI (ar b) S).bind (pshT 1) with
  | none => rw [e] at h; exact absurd h (by simp)
  | some x =>
    rw [e] at h
    simp only [Option.map_some, Option.some.injEq, Prod.mk.injEq] at h
    obtain ⟨a, e1, e2⟩ := bind_o e
    obtain ⟨e3, e4⟩ := psh_o e2
    exact ⟨a, e1, e3, by rw [← h.1, e4], h.2.symm⟩
theorem eff_jn {c b b' : Nat} {ar : Nat → Nat} {S : List Nat} {L : Nat → Nat} (hc : 20 ≤ c ∧ c ≤ 33) : eff c b ar S L = eff c b' ar S L := by
  unfold eff
  rw [if_neg (by omega), if_neg (by omega), if_neg (by omega), if_neg (by omega), if_neg (by omega), if_neg (by omega), if_neg (by omega), if_neg (by omega), if_neg (by omega), if_neg (by omega), if_neg (by omega), if_neg (by omega), if_neg (by omega), if_neg (by omega)]
theorem eff_top' {c b : Nat} {ar : Nat → Nat} {S s2 : List Nat} {L l2 : Nat → Nat} (hc : c = 1 ∨ c = 2 ∨ (9 ≤ c ∧ c ≤ 19) ∨ c = 34 ∨ c = 37 ∨ c = 38 ∨ c = 40) (h : eff c b ar S L = some (s2, l2)) : ∃ t, s2 = 1 :: t := by
  by_cases e : c = 40
  · subst e
    obtain ⟨t, -, -, e, -⟩ := eff_40 h
    exact ⟨t, e⟩
  · exact eff_top (no40 hc e) h
section
variable {A B F : Nat → Nat → Nat} {m w : Nat} {T : TS} {Pl : PlT} {I0 : zI} {wv hn ln ar : nuN} {cb hd ho og : Nat → Nat → Nat} {kp nm : Nat} {pos r : Nat} {S : List Nat} {L : Nat → Nat} {z : Zn}
theorem ok_mk (hX : WX A B F m w T Pl I0 wv hn ln ar cb hd ho og kp nm) (h1 : pos < ln m) (h2 : gs S) (h3 : gl L) (h4 : r < 98) (h : OkW Pl I0 wv hn ln ar cb hd B ho og kp m pos S L r z ∨ OkE wv cb m pos z ∨ OkJ Pl wv ln cb ho og m pos S L r ∨ OkI Pl hn ln ar cb hd ho og nm m pos S L z) : Ok Pl I0 wv hn ln ar cb hd B ho og kp nm m pos S L r z := by
  obtain ⟨-, ⟨x1, x2, x3, x4, x5, x6⟩, -, ⟨y1, -⟩, -⟩ := hX
  exact ⟨x4, h1, by omega, h2, h3, h4, fun e => absurd (e.symm.trans x5) (by decide), h⟩
theorem ok_ent (hX : WX A B F m w T Pl I0 wv hn ln ar cb hd ho og kp nm) (h : Kent A m B w pos S L r z) : Ok Pl I0 wv hn ln ar cb hd B ho og kp nm m pos S L r z := by
  obtain ⟨q, hq, a, rfl, rfl, rfl, rfl, rfl⟩ := h
  have hw := hX.2.1.2.1
  have hk := hX.2.1.2.2.1
  have har := hX.2.1.2.2.2.2.2
  obtain ⟨lq, h0, hb⟩ := hX.1.2.2.2.2.1.2.1
  have it := at_E (A := A) (m := m) (B := B) (F := F) hq
  unfold fE at it
  rw [if_pos a] at it
  obtain ⟨b1, b2, b3, b4, b5⟩ := wx_2 hX it
  obtain ⟨L', r', z', n1, n2, n3, n4⟩ := AS_ent (A := A) (m := m) (B := B) (w := w) (F := F) (ar := ar) h0 hb (w - (q + 1)) (q + 1) (by omega)
  rw [cn_y a] at n1
  refine ok_mk hX (by omega) gs_n (gl_l0 A) (by omega) (Or.inl ⟨hX.2.1.2.2.2.2.1, b5, by omega, Or.inr (Or.inr (Or.inl ⟨b1, fun i hi => ?_, wx_n hX (by rw [show 2 * cnq B m 2 0 q + 2 = 2 * (cnq B m 2 0 q + 1) by omega]; exact n1) n2 (by omega) n4⟩))⟩)
  unfold l0
  rw [if_pos (by omega)]
theorem ok_pas (hX : WX A B F m w T Pl I0 wv hn ln ar cb hd ho og kp nm) (h : Kpas A m B w F T pos S L r z) : Ok Pl I0 wv hn ln ar cb hd B ho og kp nm m pos S L r z := by
  obtain ⟨p, q, hT, hq, a, rfl, rfl, rfl⟩ := h
  obtain ⟨hp, hp2, hgs, hgl, hsc, h400⟩ := wx_T hX hT
  have hw := hX.2.1.2.1
  have hk := hX.2.1.2.2.1
  have hWv := hX.2.1.2.2.2.2.1
  have it := at_P (A := A) (m := m) (B := B) (w := w) (F := F) hX.1.1 hX.1.2.1 hp hp2 hq
  obtain ⟨r', z', n1, n3, n4⟩ := AS_pas (A := A) (m := m) (B := B) (w := w) (F := F) (ar := ar) hT (w - (q + 1)) (q + 1) (by omega)
  have la : 2 * (cnq B m 0 p q + cnq B m 6 p q) + 2 ≤ ahn A m B w p := by
    have e1 := len_P (B := B) (m := m) (p := p) w
    have e2 := len_P (B := B) (m := m) (p := p) q
    have e3 := At_le (At_cat (f := fP m B p) hq)
    rw [e1, e2] at e3
    have : 2 ≤ (fP m B p q).length := by
      unfold fP
      by_cases y : atq B m 0 p q
      · rw [if_pos y]; exact Nat.le_refl 2
      · rw [if_neg y, if_pos (a.resolve_left y)]; exact Nat.le_refl 2
    unfold ahn; omega
  unfold fP at it
  by_cases a0 : atq B m 0 p q
  · rw [if_pos a0] at it
    obtain ⟨b1, b2, b3, b4, b5⟩ := wx_2 hX it
    rw [cn_y a0, cn_n (fun y => by have := y.1; have := a0.1; omega)] at n1
    exact ok_mk hX (by omega) hgs hgl (by omega) (Or.inl ⟨hWv, b5, by omega, Or.inl ⟨b1, wx_n hX (by rw [show Gp A m B w F p + 2 * (cnq B m 0 p q + cnq B m 6 p q) + 2 = Gp A m B w F p + 2 * (cnq B m 0 p q + 1 + cnq B m 6 p q) by omega]; exact n1) (ble_r _) (by omega) n4⟩⟩)
  · have a6 := a.resolve_left a0
    rw [if_neg a0, if_pos a6] at it
    obtain ⟨b1, b2, b3, b4, b5⟩ := wx_2 hX it
    rw [cn_n a0, cn_y a6] at n1
    refine ok_mk hX (by omega) hgs hgl (by omega) (Or.inl ⟨hWv, b5, by omega, Or.inr (Or.inr (Or.inr (Or.inr (Or.inr (Or.inr (Or.inr ⟨b1, by rw [b2]; exact a6.1, ⟨p, _, wx_R hX hT (by omega) b3⟩, wx_in hX hT (by omega) (by unfold Sp; omega), wx_n hX (by rw [show Gp A m B w F p + 2 * (cnq B m 0 p q + cnq B m 6 p q) + 2 = Gp A m B w F p + 2 * (cnq B m 0 p q + (cnq B m 6 p q + 1)) by omega]; exact n1) (ble_r _) (by omega) n4⟩))))))⟩)
theorem ok_lev (hX : WX A B F m w T Pl I0 wv hn ln ar cb hd ho og kp nm) (h : Klev A m B w F T pos S L r z) : Ok Pl I0 wv hn ln ar cb hd B ho og kp nm m pos S L r z := by
  obtain ⟨p, q, hT, h42, hq, a, rfl, rfl, rfl⟩ := h
  obtain ⟨hp, hp2, hgs, hgl, hsc, h400⟩ := wx_T hX hT
  have hw := hX.2.1.2.1
  have hk := hX.2.1.2.2.1
  have hWv := hX.2.1.2.2.2.2.1
  have it := at_Lv (A := A) (m := m) (B := B) (w := w) (F := F) hX.1.1 hX.1.2.1 hp hp2 hq h42
  unfold fL at it
  rw [if_pos ⟨h42, a⟩] at it
  obtain ⟨b1, b2, b3, b4, b5⟩ := wx_2 hX it
  obtain ⟨r', z', n1, n3, n4⟩ := AS_lev (A := A) (m := m) (B := B) (w := w) (F := F) (ar := ar) hT h42 (w - (q + 1)) (q + 1) (by omega)
  rw [cn_y a] at n1
  obtain ⟨-, s2, l2, he, -⟩ := hsc
  rw [h42] at he
  have hS := eff_42 he
  exact ok_mk hX (by omega) hgs hgl (by omega) (Or.inl ⟨hWv, b5, by omega, Or.inr (Or.inr (Or.inr (Or.inl ⟨Or.inl b1, ⟨s2, hS⟩, wx_n hX (by rw [show Gp A m B w F p + (2 * (cnq B m 0 p w + cnq B m 6 p w) + 2 * cnq B m 3 0 q) + 2 = Gp A m B w F p + (2 * (cnq B m 0 p w + cnq B m 6 p w) + 2 * (cnq B m 3 0 q + 1)) by omega]; exact n1) (ble_r _) (by omega) n4⟩)))⟩)
theorem ok_old (hX : WX A B F m w T Pl I0 wv hn ln ar cb hd ho og kp nm) (h : Kold A m B w F T pos S L r z) : Ok Pl I0 wv hn ln ar cb hd B ho og kp nm m pos S L r z := by
  obtain ⟨p, q, hT, hq, a, rfl, rfl, rfl⟩ := h
  obtain ⟨hp, hp2, hgs, hgl, hsc, h400⟩ := wx_T hX hT
  have hw := hX.2.1.2.1
  have hk := hX.2.1.2.2.1
  have hWv := hX.2.1.2.2.2.2.1
  have hW := hX.1.1
  have it := at_O (A := A) (m := m) (B := B) (w := w) (F := F) hW hX.1.2.1 hp hp2 hq
  unfold fO at it
  rw [if_pos a] at it
  obtain ⟨b1, b2, b3, b4, b5⟩ := wx_2 hX it
  obtain ⟨r', z', n1, n3, n4, n5, n6, n7⟩ := AS_old (A := A) (m := m) (B := B) (w := w) (F := F) (ar := ar) hT (w - (q + 1)) (q + 1) (by omega)
  rw [cn_y a] at n1
  have fit := (hX.2.2.1 q hq a.2.1).2.2
  rw [a.1, a.2.2] at fit
  have oc := fit.2.2.1 rfl
  obtain ⟨c1, c2, c3, c4, c5, c6, c7, c8⟩ := hW.2.2.2.2.2.2.2.2.2.1 p hp hp2
  have l400 := hW.2.2.2.2.1
  have nj : ¬ (isSt (A 1 p) ∨ isLg (A 1 p)) := by unfold isSt isLg; omega
  have n33 : A 1 p ≠ 33 := by omega
  have sp := at_s (A := A) (m := m) (B := B) (w := w) (F := F) hW hX.1.2.1 hp hp2
  obtain ⟨d1, -, -, d4⟩ := wx_b hX (At_t sp (self_p nj n33 (i := 0) hp2)) (j := 0) (by simp)
  have d1 : cb m (Sp A m B w F p) = A 1 p := d1
  have x35 : A 1 p = 35 → A 2 p = 2 := fun e => by rw [c2, e]; rfl
  have ev : ∃ t, 2 * (cnq B m 0 p w + cnq B m 6 p w) + (if A 1 p = 42 then 2 * cnq B m 3 0 w else 0) + 2 * cnq B m 4 p q = 2 * t ∧ 2 * t ≤ ahn A m B w p := by
    have e3 : 2 * cnq B m 4 p q ≤ 2 * cnq B m 4 p w := by
      have := At_le (At_cat (f := fO m B p) hq)
      rw [len_O, len_O] at this; omega
    rw [if_neg (by omega)]
    refine ⟨cnq B m 0 p w + cnq B m 6 p w + cnq B m 4 p q, by omega, ?_⟩
    unfold ahn
    rw [if_neg (by omega)]; omega
  obtain ⟨t, et, lt⟩ := ev
  rw [et] at b1 b2 b3 b5
  refine ok_mk hX (by rw [et]; omega) hgs hgl (by omega) (Or.inl ⟨hWv, by rw [et]; exact b5, by rw [et, b2]; omega, Or.inr (Or.inr (Or.inr (Or.inr (Or.inr (Or.inl ⟨by rw [et]; exact b1, p, A 1 p, A 1 (p + 1), Sp A m B w F p, by rw [et]; exact wx_R hX hT lt b3, d1, fun e => ?_, oc, fun e => ?_, fun e => ?_, hX.2.2.2.2.2.1 p hp, fun e => hX.2.2.2.2.2.1 (p + 1) (by have := x35 e; omega), wx_n hX (by rw [Nat.add_assoc, show 2 * (cnq B m 0 p w + cnq B m 6 p w) + (if A 1 p = 42 then 2 * cnq B m 3 0 w else 0) + 2 * cnq B m 4 p q + 2 = 2 * (cnq B m 0 p w + cnq B m 6 p w) + (if A 1 p = 42 then 2 * cnq B m 3 0 w else 0) + 2 * (cnq B m 4 p q + 1) by omega]; exact n1) (ble_r _) (by omega) ⟨n4, n5, n6, fun q' hq' => ?_⟩⟩)))))⟩)
  · have e2 := x35 e
    obtain ⟨f1, -, -, f4⟩ := wx_b hX (At_t sp (self_p nj n33 (i := 1) (by omega))) (j := 0) (by simp)
    exact ⟨f4, f1, (c6 (by omega) n33).2.1 (Or.inr e)⟩
  · obtain ⟨-, s2, l2, he, -⟩ := hsc
    rw [e] at he
    exact eff_39 he
  · have := x35 e; omega
  · rw [et, b2]
    obtain ⟨y1, y2⟩ := n7 q' hq'
    by_cases e : q' = q
    · exact Or.inl e
    · exact Or.inr ⟨rfl, rfl, rfl, by omega, y2⟩
end
