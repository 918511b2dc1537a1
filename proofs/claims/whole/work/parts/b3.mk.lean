/-! PURE 99: RUN: the code that runs, and its places -/
/-- METHOD m runs as it is -/
def mP (A : Nat → Nat → Nat) (m : Nat) (wv hn ln : nuN) (cb hd ho og : Nat → Nat → Nat) : Prop := wv m = 0 ∧ ln m = A 0 2 ∧ (∀ i, cb m i = A 1 i ∧ ho m i = i + 1 ∧ og m i = i + 1) ∧ hn m = A 0 3 ∧ ∀ i, hd m i = A 3 i
/-- METHOD m runs woven -/
def mW (A : Nat → Nat → Nat) (m : Nat) (B : Nat → Nat → Nat) (w : Nat) (F : Nat → Nat → Nat) (wv hn ln : nuN) (cb hd ho og : Nat → Nat → Nat) : Prop := wv m = 1 ∧ ln m = TOT A m B w F ∧ (∀ i, cb m i = ((codL A m B w F).getD i (0, 0, 0)).1 ∧ ho m i = ((codL A m B w F).getD i (0, 0, 0)).2.1 ∧ og m i = ((codL A m B w F).getD i (0, 0, 0)).2.2) ∧ hn m = A 0 3 + (if cnq B m 3 0 w = 0 then 0 else 1) ∧ ∀ i, hd m i = hdW A m B w F i
section
variable {A : Nat → Nat → Nat} {m : Nat} {B : Nat → Nat → Nat} {w : Nat} {F : Nat → Nat → Nat} {I I0 Gb : zI} {wv hn ln : nuN} {cb hd ho og : Nat → Nat → Nat} {k : Nat}
theorem mP_L (hm : m < 6) (h : mP A m wv hn ln cb hd ho og) (hW : W0 A m) (hk : ∀ k, k < A 0 3 → hok A k) (hL : LM0 A m I) (eL : ∀ c j, (20 ≤ c ∧ c ≤ 91) ∨ (108 ≤ c ∧ c ≤ 113) → I0 c j = I c j) : CdL I0 wv cb ln m ∧ HdL I0 wv hd hn m ∧ ∀ j, j < hn m → hd m (4 * j + 2) < 1000 := by
  obtain ⟨h1, h2, h3, h4, h5⟩ := h
  obtain ⟨l1, l2, l3, l4, l5, l6⟩ := hL
  have a4 := hW.2.2.2.2.1
  have a8 := hW.2.2.2.2.2.1
  refine ⟨⟨by omega, by rw [if_pos h1]; omega, fun i hi => ⟨by rw [(h3 i).1]; exact hW.2.2.2.2.2.2.1 i, ?_⟩⟩, ⟨by rw [if_pos h1]; omega, fun i => by rw [h5]; exact hW.2.2.2.2.2.2.2.1 i, fun _ => ⟨?_, fun i hi => ?_⟩, fun e => absurd h1 e⟩, fun j hj => ?_⟩
  · unfold cc
    rw [if_pos h1, eL _ _ (by omega), (h3 i).1]
    exact (l5 i (by omega)).1
  · rw [eL _ _ (by omega), h4]; exact l4
  · rw [eL _ _ (by omega), h5]; exact l6 i (by omega)
  · rw [h5]
    have := isbg_n (hW.2.2.2.2.2.2.2.1 _) (hk j (by omega)).2.1 a4
    omega
theorem mP_M (hm : m < 6) (h : mP A m wv hn ln cb hd ho og) (hW : W0 A m) (hk : ∀ k, k < A 0 3 → hok A k) (hL : RM0 A m I) (eM : ∀ c j, (157 ≤ c ∧ c ≤ 186) ∨ (c = 155 ∧ j = 17) → Gb c j = I c j) (hv : k = 1 → I 175 m < 0) : CdM Gb k wv cb ln m ∧ HdM Gb wv hd hn m ∧ ∀ j, j < hn m → hd m (4 * j + 2) < 1000 := by
  obtain ⟨h1, h2, h3, h4, h5⟩ := h
  obtain ⟨l1, l2, l3, l4, l5, l6⟩ := hL
  have a4 := hW.2.2.2.2.1
  have a8 := hW.2.2.2.2.2.1
  refine ⟨⟨by omega, ⟨fun e => by omega, fun e => absurd (hv e.1) (by rw [← eM 175 m (by omega)]; exact e.2)⟩, by rw [if_pos h1]; omega, fun i hi => ⟨by rw [(h3 i).1]; exact hW.2.2.2.2.2.2.1 i, fun _ => ?_, fun e => by omega⟩⟩, ⟨by rw [if_pos h1]; omega, fun i => by rw [h5]; exact hW.2.2.2.2.2.2.2.1 i, fun _ => ⟨?_, fun j hj => ?_⟩, fun e => absurd h1 e⟩, fun j hj => ?_⟩
  · rw [eM _ _ (by omega), (h3 i).1]
    exact (l5 i (by omega)).1
  · rw [eM _ _ (by omega), h4]; exact l4
  · rw [eM _ _ (by omega), eM _ _ (by omega), eM _ _ (by omega), eM _ _ (by omega), h5, h5, h5, h5]; exact l6 j (by omega)
  · rw [h5]
    have := isbg_n (hW.2.2.2.2.2.2.2.1 _) (hk j (by omega)).2.1 a4
    omega
theorem mW_L (hm : m < 6) (h : mW A m B w F wv hn ln cb hd ho og) (hW : W0 A m) (hk : ∀ k, k < A 0 3 → hok A k) (hw : w ≤ 24) (hV : WVo A m B w F I) (eL : ∀ c j, (20 ≤ c ∧ c ≤ 91) ∨ (108 ≤ c ∧ c ≤ 113) → I0 c j = I c j) : CdL I0 wv cb ln m ∧ HdL I0 wv hd hn m ∧ ∀ j, j < hn m → hd m (4 * j + 2) < 1000 := by
  obtain ⟨h1, h2, h3, h4, h5⟩ := h
  obtain ⟨g1, g2, g3, g4, g5, g6, g7, g8, g9, g10, g11, g12, g13, g14, g15, g16⟩ := hV
  have hF : FW A F := ⟨g2, g3⟩
  have a8 := hW.2.2.2.2.2.1
  have lc := wlen_cod (B := B) (w := w) hW hF
  obtain ⟨b1, b2⟩ := hdW_b (B := B) (w := w) hW hF hk g1
  refine ⟨⟨by omega, by rw [if_neg (by omega)]; omega, fun i hi => ⟨by rw [(h3 i).1]; exact Al_g (Al_cod hW.2.2.2.2.2.2.1 hw) (by omega), ?_⟩⟩, ⟨by rw [if_neg (by omega), h4]; split <;> omega, fun i => by rw [h5]; exact b1 i, fun e => by omega, fun _ => ⟨?_, fun i hi => ?_⟩⟩, fun j hj => by rw [h5]; exact b2 j (by omega)⟩
  · unfold cc
    rw [if_neg (by omega), eL _ _ (by omega), (h3 i).1]
    exact (g13 i (by omega)).1
  · rw [eL _ _ (by omega), h4]; exact g7
  · rw [eL _ _ (by omega), h5]
    rw [h4] at hi
    have ei : i = 4 * (i / 4) + i % 4 := by omega
    have i4 : i % 4 < 4 := Nat.mod_lt _ (by decide)
    generalize i / 4 = j at ei
    generalize i % 4 = c at ei i4
    subst ei
    by_cases e : j < A 0 3
    · obtain ⟨y0, y1, y2, y3, -⟩ := g15 j e
      obtain ⟨w0, w1, w2, w3⟩ := hdW_j (A := A) (m := m) (B := B) (w := w) (F := F) e
      obtain rfl | rfl | rfl | rfl : c = 0 ∨ c = 1 ∨ c = 2 ∨ c = 3 := by omega
      · rw [Nat.add_zero, w0]; exact y0
      · rw [w1]; exact y1
      · rw [w2]; exact y2
      · rw [w3]; exact y3
    · have q3 : cnq B m 3 0 w ≠ 0 := fun q => by rw [if_pos q] at hi; omega
      rw [if_neg q3] at hi
      obtain rfl : j = A 0 3 := by omega
      obtain ⟨y0, y1, y2, y3, -⟩ := g16 q3
      obtain ⟨w0, w1, w2, w3⟩ := hdW_l (A := A) (m := m) (B := B) (w := w) (F := F)
      obtain rfl | rfl | rfl | rfl : c = 0 ∨ c = 1 ∨ c = 2 ∨ c = 3 := by omega
      · rw [Nat.add_zero, w0]; exact y0
      · rw [w1]; exact y1
      · rw [w2]; exact y2
      · rw [w3]; exact y3
theorem mW_M (hm : m < 6) (h : mW A m B w F wv hn ln cb hd ho og) (hW : W0 A m) (hk : ∀ k, k < A 0 3 → hok A k) (hw : w ≤ 24) (hV : WVo A m B w F I) (eM : ∀ c j, (157 ≤ c ∧ c ≤ 186) ∨ (c = 155 ∧ j = 17) → Gb c j = I c j) (k1 : k = 1) : CdM Gb k wv cb ln m ∧ HdM Gb wv hd hn m ∧ ∀ j, j < hn m → hd m (4 * j + 2) < 1000 := by
  obtain ⟨h1, h2, h3, h4, h5⟩ := h
  obtain ⟨g1, g2, g3, g4, g5, g6, g7, g8, g9, g10, g11, g12, g13, g14, g15, g16⟩ := hV
  have hF : FW A F := ⟨g2, g3⟩
  have a8 := hW.2.2.2.2.2.1
  have lc := wlen_cod (B := B) (w := w) hW hF
  obtain ⟨b1, b2⟩ := hdW_b (B := B) (w := w) hW hF hk g1
  refine ⟨⟨by omega, ⟨fun _ => ⟨k1, ?_⟩, fun _ => h1⟩, by rw [if_neg (by omega)]; omega, fun i hi => ⟨by rw [(h3 i).1]; exact Al_g (Al_cod hW.2.2.2.2.2.2.1 hw) (by omega), fun e => by omega, fun _ => ?_⟩⟩, ⟨by rw [if_neg (by omega), h4]; split <;> omega, fun i => by rw [h5]; exact b1 i, fun e => by omega, fun _ => ⟨?_, fun j hj => ?_⟩⟩, fun j hj => by rw [h5]; exact b2 j (by omega)⟩
  · rw [eM _ _ (by omega), g12]; first | omega | decide | (simp (maxSteps := 400000) (disch := omega) only [q_lit, q_neg, nI_ltI, nI_leI, nI_eq, nI_add, pk_mul, pk_sub, nI_clamp, vp_q, zu_same, zu_nc, zu_nj, ng_lt, ng_le, ng_gt, ng_ge, ng_eq, ng_qe, ng_ee, ng_add, not_false_eq_true, not_true_eq_false, ne_eq]; done) | (simp (maxSteps := 400000) (disch := omega) only [q_lit, q_neg, nI_ltI, nI_leI, nI_eq, nI_add, pk_mul, pk_sub, nI_clamp, vp_q, zu_same, zu_nc, zu_nj, ng_lt, ng_le, ng_gt, ng_ge, ng_eq, ng_qe, ng_ee, ng_add, not_false_eq_true, not_true_eq_false, ne_eq]; omega)
  · rw [eM _ _ (by omega), (h3 i).1]
    exact (g13 i (by omega)).2.2.1
  · rw [eM _ _ (by omega), h4]; exact g8
  · rw [eM _ _ (by omega), eM _ _ (by omega), eM _ _ (by omega), eM _ _ (by omega), h5, h5, h5, h5]
    rw [h4] at hj
    by_cases e : j < A 0 3
    · obtain ⟨-, -, -, -, y0, y1, y2, y3⟩ := g15 j e
      obtain ⟨w0, w1, w2, w3⟩ := hdW_j (A := A) (m := m) (B := B) (w := w) (F := F) e
      rw [w0, w1, w2, w3]
      exact ⟨y0, y1, y2, y3⟩
    · have q3 : cnq B m 3 0 w ≠ 0 := fun q => by rw [if_pos q] at hj; omega
      rw [if_neg q3] at hj
      obtain rfl : j = A 0 3 := by omega
      obtain ⟨-, -, -, -, y0, y1, y2, y3⟩ := g16 q3
      obtain ⟨w0, w1, w2, w3⟩ := hdW_l (A := A) (m := m) (B := B) (w := w) (F := F)
      rw [w0, w1, w2, w3]
      exact ⟨y0, y1, y2, y3⟩
end
theorem mkC {n kq k : Nat} {A : Nat → Nat → Nat → Nat} {B : Nat → Nat → Nat} {I I0 : zI} {I1 : zI → Prop} (h : Rel n A kq B I) (eL : ∀ c j, (20 ≤ c ∧ c ≤ 91) ∨ (108 ≤ c ∧ c ≤ 113) → I0 c j = I c j) (eM : ∀ Gb, I1 Gb → ∀ c j, (157 ≤ c ∧ c ≤ 186) ∨ (c = 155 ∧ j = 17) → Gb c j = I c j) : ∃ wv wt hn ln ar fX fY cb hd ho og xq Pl, Cg I0 I1 k wv wt hn ln ar fX fY cb hd B ho og xq kq n ∧ PlOk Pl I0 wv hn ln ar cb hd B ho og kq n := by
  obtain ⟨-, -, -, ⟨n6, -, -, hM⟩, hWF, hnum, ⟨k24, p1, p2, hq⟩, hVW, -⟩ := h
  obtain ⟨ar, har0⟩ : ∃ ar : nuN, ∀ j, ar j = A j 0 0 := ⟨fun j => A j 0 0, fun _ => rfl⟩
  obtain ⟨fX, hfX⟩ : ∃ fX : nuN, ∀ q, fX q = (I 112 q).toNatClampNeg := ⟨fun q => (I 112 q).toNatClampNeg, fun _ => rfl⟩
  obtain ⟨fY, hfY⟩ : ∃ fY : nuN, ∀ q, fY q = (I 113 q).toNatClampNeg := ⟨fun q => (I 113 q).toNatClampNeg, fun _ => rfl⟩
  obtain ⟨xq, hxq⟩ : ∃ xq : Nat → Int32, ∀ q, xq q = I 112 q := ⟨fun q => I 112 q, fun _ => rfl⟩
  have key : ∀ m, ∃ d : Nat × (Nat → Nat → Nat) × TS, m < n → Cons (A m) ar d.2.2 ∧ (¬ I (26 + 12 * m) 5 = 0 → d.1 ≤ kq ∧ WVo (A m) m B d.1 d.2.1 I) := fun m => by
    by_cases hm : m < n
    · obtain ⟨hW, hj, hh, ar', T, har, hC⟩ := hWF m hm
      have hC' := Cons_ar (ar := ar) hW hC (fun j hj' => by rw [har j hj', har0])
      rcases hVW m (by omega) with ⟨y1, y2⟩ | ⟨y0, y1, w, F, y2, y3⟩
      · exact ⟨(0, fun _ _ => 0, T), fun _ => ⟨hC', fun e => absurd y1 e⟩⟩
      · exact ⟨(w, F, T), fun _ => ⟨hC', fun _ => ⟨y2, y3⟩⟩⟩
    · exact ⟨(0, fun _ _ => 0, fun _ => none), fun e => absurd e hm⟩
  obtain ⟨d, hd0⟩ := Classical.axiomOfChoice key
  have fn : ∃ (wv hn ln : nuN) (cb hd ho og : Nat → Nat → Nat), ∀ m, m < n → (mP (A m) m wv hn ln cb hd ho og ∧ (k = 1 → I (26 + 12 * m) 5 = 0)) ∨ (mW (A m) m B (d m).1 (d m).2.1 wv hn ln cb hd ho og ∧ k = 1 ∧ ¬ I (26 + 12 * m) 5 = 0) := by
    refine ⟨fun m => if k = 1 ∧ ¬ I (26 + 12 * m) 5 = 0 then 1 else 0, fun m => if k = 1 ∧ ¬ I (26 + 12 * m) 5 = 0 then A m 0 3 + (if cnq B m 3 0 (d m).1 = 0 then 0 else 1) else A m 0 3, fun m => if k = 1 ∧ ¬ I (26 + 12 * m) 5 = 0 then TOT (A m) m B (d m).1 (d m).2.1 else A m 0 2, fun m i => if k = 1 ∧ ¬ I (26 + 12 * m) 5 = 0 then ((codL (A m) m B (d m).1 (d m).2.1).getD i (0, 0, 0)).1 else A m 1 i, fun m i => if k = 1 ∧ ¬ I (26 + 12 * m) 5 = 0 then hdW (A m) m B (d m).1 (d m).2.1 i else A m 3 i, fun m i => if k = 1 ∧ ¬ I (26 + 12 * m) 5 = 0 then ((codL (A m) m B (d m).1 (d m).2.1).getD i (0, 0, 0)).2.1 else i + 1, fun m i => if k = 1 ∧ ¬ I (26 + 12 * m) 5 = 0 then ((codL (A m) m B (d m).1 (d m).2.1).getD i (0, 0, 0)).2.2 else i + 1, fun m hm => ?_⟩
    by_cases e : k = 1 ∧ ¬ I (26 + 12 * m) 5 = 0
    · refine Or.inr ⟨⟨if_pos e, if_pos e, fun i => ⟨if_pos e, if_pos e, if_pos e⟩, if_pos e, fun i => if_pos e⟩, e⟩
    · refine Or.inl ⟨⟨if_neg e, if_neg e, fun i => ⟨if_neg e, if_neg e, if_neg e⟩, if_neg e, fun i => if_neg e⟩, fun k1 => ?_⟩
      by_cases y : I (26 + 12 * m) 5 = 0
      · exact y
      · exact absurd ⟨k1, y⟩ e
  obtain ⟨wv, hn, ln, cb, hd, ho, og, hfn⟩ := fn
  have wv1 : ∀ m, m < n → wv m = if k = 1 ∧ ¬ I (26 + 12 * m) 5 = 0 then 1 else 0 := fun m hm => by
    rcases hfn m hm with ⟨h1, h2⟩ | ⟨h1, h2⟩
    · rw [h1.1, if_neg (fun e => e.2 (h2 e.1))]
    · rw [h1.1, if_pos h2]
  have w175 : ∀ m, m < n → (I (26 + 12 * m) 5 = 0 → I 175 m < 0) ∧ (¬ I (26 + 12 * m) 5 = 0 → I 175 m = nI (d m).1 ∧ I (26 + 12 * m) 10 = nI (d m).1 ∧ (d m).1 ≤ kq) := fun m hm => by
    refine ⟨fun e => ?_, fun e => ?_⟩
    · rcases hVW m (by omega) with ⟨y1, y2⟩ | ⟨y0, y1, -⟩
      · rw [y2]; decide
      · rw [y1] at e; exact absurd e (by decide)
    · obtain ⟨e1, e2⟩ := (hd0 m hm).2 e
      obtain ⟨g1, g2, g3, g4, g5, g6, g7, g8, g9, g10, g11, g12, -⟩ := e2
      exact ⟨g12, g11, e1⟩
  obtain ⟨wt, hwt1, hwt0⟩ : ∃ wt : nuN, (∀ m, k = 2 → ¬ I (26 + 12 * m) 5 = 0 → wt m = (d m).1) ∧ (∀ m, ¬ (k = 2 ∧ ¬ I (26 + 12 * m) 5 = 0) → wt m = 0) := ⟨fun m => if k = 2 ∧ ¬ I (26 + 12 * m) 5 = 0 then (d m).1 else 0, fun m a b => if_pos ⟨a, b⟩, fun m a => if_neg a⟩
  refine ⟨wv, wt, hn, ln, ar, fX, fY, cb, hd, ho, og, xq, fun m p S L r z => m < n ∧ ((wv m = 0 ∧ PlN (d m).2.2 p S L r z) ∨ (wv m = 1 ∧ PlW (A m) m B (d m).1 (d m).2.1 (d m).2.2 ar p S L r z)), ?_, ?_⟩
  · have wtl : ∀ m, m < n → wt m ≤ kq := fun m hm => by
      by_cases e : k = 2 ∧ ¬ I (26 + 12 * m) 5 = 0
      · rw [hwt1 m e.1 e.2]; exact ((w175 m hm).2 e.2).2.2
      · rw [hwt0 m e]; omega
    have B6 : ∀ q, q < kq → B 0 q < 8 ∧ B 1 q < 6 ∧ B 2 q < 400 := fun q hq' => by
      obtain ⟨-, -, -, -, -, -, -, -, b1, b2, b3, b4, -⟩ := hq q hq'
      have := (hM (B 1 q) b2).2.2.2.2.2.2.1
      exact ⟨b1, by omega, by omega⟩
    refine ⟨⟨n6, ⟨⟨k24, by rw [eL _ _ (by omega)]; exact p1, fun q hq' => ?_⟩, B6⟩, fun m hm => ?_⟩, fun Gb hGb => ⟨n6, ⟨⟨k24, by rw [eM Gb hGb _ _ (by omega)]; exact p2, fun q hq' => ?_⟩, B6⟩, fun m hm => ?_⟩, k24, fun m hm => ?_, fun q hq' => ?_, fun m hm => ?_, fun m q hm hq' hB => ?_, fun m hm hw => ?_⟩
    · rw [eL _ _ (by omega), eL _ _ (by omega), eL _ _ (by omega)]
      obtain ⟨y1, -, y3, -, y5, -⟩ := hq q hq'
      exact ⟨y1, y3, y5⟩
    · obtain ⟨hW, hj, hh, -⟩ := hWF m hm
      have x : CdL I0 wv cb ln m ∧ HdL I0 wv hd hn m ∧ ∀ j, j < hn m → hd m (4 * j + 2) < 1000 := by
        rcases hfn m hm with ⟨h1, h2⟩ | ⟨h1, h2⟩
        · exact mP_L (by omega) h1 hW hh (LM0_of (hM m hm).1) eL
        · exact mW_L (by omega) h1 hW hh (by have := ((w175 m hm).2 h2.2).2.2; omega) ((hd0 m hm).2 h2.2).2 eL
      refine ⟨by rw [eL _ _ (by omega)]; exact hnum m (by omega), x.1, x.2.1, ⟨by have := wtl m hm; omega, fun e2 e5 => ?_, fun e2 e5 => ?_, fun e2 => ?_⟩, wtl m hm, x.2.2⟩
      · rw [eL _ _ (by omega)] at e5 ⊢
        rw [hwt1 m e2 e5]
        exact ((w175 m hm).2 e5).2.1
      · rw [eL _ _ (by omega)] at e5
        exact hwt0 m (fun y => y.2 e5)
      · exact hwt0 m (fun y => e2 y.1)
    · rw [eM Gb hGb _ _ (by omega), eM Gb hGb _ _ (by omega), eM Gb hGb _ _ (by omega)]
      obtain ⟨-, y2, -, y4, -, y6, -⟩ := hq q hq'
      exact ⟨y2, y4, y6⟩
    · obtain ⟨hW, hj, hh, -⟩ := hWF m hm
      have x : CdM Gb k wv cb ln m ∧ HdM Gb wv hd hn m ∧ ∀ j, j < hn m → hd m (4 * j + 2) < 1000 := by
        rcases hfn m hm with ⟨h1, h2⟩ | ⟨h1, h2⟩
        · exact mP_M (by omega) h1 hW hh (RM0_of (hM m hm).2.1) (eM Gb hGb) (fun k1 => (w175 m hm).1 (h2 k1))
        · exact mW_M (by omega) h1 hW hh (by have := ((w175 m hm).2 h2.2).2.2; omega) ((hd0 m hm).2 h2.2).2 (eM Gb hGb) h2.1
      refine ⟨x.1, x.2.1, ⟨by have := wtl m hm; omega, fun e2 e5 => ?_, fun e2 e5 => ?_, fun e2 => ?_⟩, wtl m hm, x.2.2⟩
      · rw [eM Gb hGb _ _ (by omega)] at e5 ⊢
        have ne : ¬ I (26 + 12 * m) 5 = 0 := fun y => e5 ((w175 m hm).1 y)
        rw [hwt1 m e2 ne]
        exact ((w175 m hm).2 ne).1
      · rw [eM Gb hGb _ _ (by omega)] at e5
        refine hwt0 m (fun y => ?_)
        obtain ⟨y1, -, y3⟩ := (w175 m hm).2 y.2
        rw [y1] at e5
        revert e5
        first | omega | decide | (simp (maxSteps := 400000) (disch := omega) only [q_lit, q_neg, nI_ltI, nI_leI, nI_eq, nI_add, pk_mul, pk_sub, nI_clamp, vp_q, zu_same, zu_nc, zu_nj, ng_lt, ng_le, ng_gt, ng_ge, ng_eq, ng_qe, ng_ee, ng_add, not_false_eq_true, not_true_eq_false, ne_eq]; done) | (simp (maxSteps := 400000) (disch := omega) only [q_lit, q_neg, nI_ltI, nI_leI, nI_eq, nI_add, pk_mul, pk_sub, nI_clamp, vp_q, zu_same, zu_nc, zu_nj, ng_lt, ng_le, ng_gt, ng_ge, ng_eq, ng_qe, ng_ee, ng_add, not_false_eq_true, not_true_eq_false, ne_eq]; omega)
      · exact hwt0 m (fun y => e2 y.1)
    · obtain ⟨hW, hj, hh, -⟩ := hWF m hm
      obtain ⟨l1, l2, l3, l4, l5, l6⟩ := LM0_of (hM m hm).1
      obtain ⟨r1, -⟩ := RM0_of (hM m hm).2.1
      have fitq : ∀ q, q < kq → B 1 q = m → B 2 q < A m 0 2 ∧ 0 < A m 2 (B 2 q) := fun q hq' e => by
        obtain ⟨-, -, -, -, -, -, -, -, b1, b2, b3, b4, -⟩ := hq q hq'
        rw [e] at b3 b4; exact ⟨b3, b4⟩
      refine ⟨by rw [eL _ _ (by omega), har0]; exact l1, fun Gb hGb => by rw [eM Gb hGb _ _ (by omega), har0]; exact r1, by rw [har0]; exact hW.1, by rw [eL _ _ (by omega)]; exact wv1 m hm, fun e2 p hp e30 q hq' a => ?_, fun e2 p hp e22 e30 e42 q hq' a => ?_⟩
      · by_cases e5 : I (26 + 12 * m) 5 = 0
        · rw [hwt0 m (fun y => y.2 e5)] at hq'; omega
        · rw [hwt1 m e2 e5] at hq'
          obtain ⟨e1, hV⟩ := (hd0 m hm).2 e5
          have pq : B 1 q = m ∧ B 2 q = p := by rcases a with a | a | a | a | a <;> exact ⟨a.2.1, a.2.2⟩
          obtain ⟨f1, f2⟩ := fitq q (by omega) pq.1
          rw [pq.2] at f1 f2
          obtain ⟨-, -, -, -, -, -, -, -, -, -, -, -, -, g14, -⟩ := hV
          have z := (g14 p f1 f2).2.2
          rw [eL _ _ (by omega)] at e30
          rw [e30] at z
          by_cases s0 : ahn (A m) m B (d m).1 p + bhn m B (d m).1 p = 0
          · unfold ahn bhn at s0
            rcases a with a | a | a | a | a <;> (have := cn_p _ hq' a; omega)
          · rw [if_neg s0] at z; exact absurd z (by decide)
      · by_cases e5 : I (26 + 12 * m) 5 = 0
        · rw [hwt0 m (fun y => y.2 e5)] at hq'; omega
        · rw [hwt1 m e2 e5] at hq'
          obtain ⟨e1, hV⟩ := (hd0 m hm).2 e5
          have pl : mP (A m) m wv hn ln cb hd ho og := by
            rcases hfn m hm with ⟨h1, h2⟩ | ⟨h1, h2⟩
            · exact h1
            · omega
          rw [pl.2.1] at hp
          rw [(pl.2.2.1 p).1] at e42
          have z2 : 0 < A m 2 p := by
            by_cases y : A m 2 p = 0
            · refine absurd ?_ e22
              rw [eL _ _ (by omega), (l5 p hp).2, y]; rfl
            · omega
          obtain ⟨-, -, -, -, -, -, -, -, -, -, -, -, -, g14, -⟩ := hV
          have z := (g14 p hp z2).2.2
          rw [eL _ _ (by omega)] at e30
          rw [e30] at z
          by_cases s0 : ahn (A m) m B (d m).1 p + bhn m B (d m).1 p = 0
          · unfold ahn at s0
            rw [if_pos e42] at s0
            have := cn_p _ hq' a
            omega
          · rw [if_neg s0] at z; exact absurd z (by decide)
    · obtain ⟨-, -, -, -, -, -, y7, y8, -, -, -, -, -, y6⟩ := hq q hq'
      refine ⟨by rw [eL _ _ (by omega), hxq], fun Gb hGb => by rw [eM Gb hGb _ _ (by omega), hxq]; exact y7.symm, fun e6 => ?_⟩
      obtain ⟨x, y, x1, x2, y1, y2, ex, ey⟩ := y6 e6
      have cx : fX q = x := by rw [hfX, ex, nI_clamp (by omega)]
      have cy : fY q = y := by rw [hfY, ey, nI_clamp (by omega)]
      refine ⟨by rw [cx, hxq]; exact ex, by rw [cx]; exact x2, by rw [cy, eL _ _ (by omega)]; exact ey, fun Gb hGb => by rw [cy, eM Gb hGb _ _ (by omega), ← y8]; exact ey, by rw [cy]; exact y1, by rw [cy]; exact y2⟩
    · refine ⟨fun w0 i hi => ?_, fun w0 i hi => ?_⟩
      · rcases hfn m hm with ⟨h1, h2⟩ | ⟨h1, h2⟩
        · exact ⟨(h1.2.2.1 i).2.1, (h1.2.2.1 i).2.2⟩
        · have := h1.1; omega
      · rcases hfn m hm with ⟨h1, h2⟩ | ⟨h1, h2⟩
        · exact absurd h1.1 w0
        · obtain ⟨e1, hV⟩ := (hd0 m hm).2 h2.2
          obtain ⟨-, -, -, -, -, -, -, -, -, -, -, -, g13, -⟩ := hV
          have hi' : i < TOT (A m) m B (d m).1 (d m).2.1 := by rw [← h1.2.1]; exact hi
          obtain ⟨y1, y2, y3, y4⟩ := g13 i hi'
          refine ⟨by rw [eL _ _ (by omega), (h1.2.2.1 i).2.1]; exact y2, fun Gb hGb => by rw [eM Gb hGb _ _ (by omega), (h1.2.2.1 i).2.2]; exact y4⟩
    · have pl : mP (A m) m wv hn ln cb hd ho og := by
        rcases hfn m hm with ⟨h1, h2⟩ | ⟨h1, h2⟩
        · exact h1
        · rw [hwt0 m (fun y => by have := y.1; omega)] at hq'; omega
      have hqk : q < kq := by have := wtl m hm; omega
      obtain ⟨-, -, -, -, -, -, -, -, b1, b2, b3, b4, b5, -⟩ := hq q hqk
      rw [hB] at b3 b4 b5
      rw [(pl.2.2.1 _).1]
      exact ⟨fun e => by rw [e] at b5; exact b5.2.2.1 rfl, fun e => by rw [e] at b5; exact b5.2.2.2.2 rfl, fun e => by rw [e] at b5; exact b5.1 rfl⟩
    · rcases hfn m hm with ⟨h1, h2⟩ | ⟨h1, h2⟩
      · have := h1.1; omega
      · exact hwt0 m (fun y => by have := y.1; omega)
  · have hX : ∀ m, m < n → (wv m = 0 → NX (A m) m (d m).2.2 (fun m p S L r z => m < n ∧ ((wv m = 0 ∧ PlN (d m).2.2 p S L r z) ∨ (wv m = 1 ∧ PlW (A m) m B (d m).1 (d m).2.1 (d m).2.2 ar p S L r z))) I0 wv hn ln ar cb hd ho og n) ∧ (wv m = 1 → WX (A m) B (d m).2.1 m (d m).1 (d m).2.2 (fun m p S L r z => m < n ∧ ((wv m = 0 ∧ PlN (d m).2.2 p S L r z) ∨ (wv m = 1 ∧ PlW (A m) m B (d m).1 (d m).2.1 (d m).2.2 ar p S L r z))) I0 wv hn ln ar cb hd ho og kq n) := fun m hm => by
      obtain ⟨hW, hj, hh, -⟩ := hWF m hm
      obtain ⟨l1, l2, l3, l4, l5, l6⟩ := LM0_of (hM m hm).1
      refine ⟨fun w0 => ?_, fun w1 => ?_⟩
      · have pl : mP (A m) m wv hn ln cb hd ho og := by
          rcases hfn m hm with ⟨h1, h2⟩ | ⟨h1, h2⟩
          · exact h1
          · have := h1.1; omega
        exact ⟨⟨hW, hj, hh, (hd0 m hm).1⟩, ⟨hm, w0, har0 m⟩, ⟨pl.2.1, pl.2.2.1⟩, ⟨pl.2.2.2.1, pl.2.2.2.2⟩, fun i hi => by rw [eL _ _ (by omega)]; exact (l5 i hi).2, fun p S L r z hp => ⟨hm, Or.inl ⟨w0, hp⟩⟩⟩
      · rcases hfn m hm with ⟨h1, h2⟩ | ⟨h1, h2⟩
        · have := h1.1; omega
        · obtain ⟨e1, hV⟩ := (hd0 m hm).2 h2.2
          obtain ⟨g1, g2, g3, g4, -⟩ := hV
          refine ⟨⟨hW, ⟨g2, g3⟩, hj, hh, (hd0 m hm).1, g4⟩, ⟨g1, by omega, e1, hm, w1, har0 m⟩, fun q hq' hB => ?_, ⟨h1.2.1, h1.2.2.1⟩, ⟨h1.2.2.2.1, fun j hj' => ?_, fun q3 => ?_⟩, fun i hi => by rw [eL _ _ (by omega)]; exact (l5 i hi).1, fun _ _ _ => trivial, fun p S L r z hp => ⟨hm, Or.inr ⟨w1, hp⟩⟩⟩
          · obtain ⟨-, -, -, -, -, -, -, -, b1, b2, b3, b4, b5, -⟩ := hq q (by omega)
            rw [hB] at b3 b4 b5
            exact ⟨b3, b4, b5⟩
          · rw [h1.2.2.2.2, h1.2.2.2.2, h1.2.2.2.2]
            obtain ⟨y0, y1, y2, -⟩ := hdW_j (A := A m) (m := m) (B := B) (w := (d m).1) (F := (d m).2.1) hj'
            exact ⟨y0, y1, y2⟩
          · rw [h1.2.2.2.2]; exact hdW_l.2.2.1
    refine ⟨fun m p S L r z hp => ?_, fun m hm => ?_⟩
    · obtain ⟨hm, ⟨w0, hp⟩ | ⟨w1, hp⟩⟩ := hp
      · exact ok_N ((hX m hm).1 w0) hp
      · exact ok_W ((hX m hm).2 w1) hp
    · rcases hfn m hm with ⟨h1, h2⟩ | ⟨h1, h2⟩
      · exact st_N ((hX m hm).1 h1.1)
      · exact st_W ((hX m hm).2 h1.1)
