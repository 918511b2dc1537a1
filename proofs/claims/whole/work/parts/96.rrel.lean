/-! PURE 56: RUN: the abstract state; the loom's side of it -/
abbrev Va : Type := Int32 ⊕ Nat
def lv : Va → Int32
  | Sum.inl x => x
  | Sum.inr r => nI r
def mv : Va → Int32
  | Sum.inl x => x
  | Sum.inr r => nI (r + 1)
def tg : Va → Nat
  | Sum.inl _ => 1
  | Sum.inr _ => 2
/-- a FRAME: METHOD, place, stack (top first), locals -/
abbrev Frm : Type := Nat × Nat × List Va × (Nat → Va)
abbrev nuN : Type := Nat → Nat
abbrev nuZ : Type := Nat → Nat → Int32
def up1 (n : nuN) (i v : Nat) : nuN := fun j => if j = i then v else n j
def upl (l : Nat → Va) (i : Nat) (v : Va) : Nat → Va := fun j => if j = i then v else l j
theorem up1_s {n : nuN} {i v : Nat} : up1 n i v i = v := if_pos rfl
theorem up1_n {n : nuN} {i j v : Nat} (h : j ≠ i) : up1 n i v j = n j := if_neg h
theorem upl_s {l : Nat → Va} {i : Nat} {v : Va} : upl l i v i = v := if_pos rfl
theorem upl_n {l : Nat → Va} {i j : Nat} {v : Va} (h : j ≠ i) : upl l i v j = l j := if_neg h
def SkL (c : Nat) : List Va → zI → Prop
  | [], _ => True
  | v :: r, I => I c r.length = lv v ∧ SkL c r I
theorem SkL_c {c : Nat} {I J : zI} : ∀ {s : List Va}, SkL c s I → (∀ i, i < s.length → J c i = I c i) → SkL c s J
  | [], _, _ => trivial
  | v :: r, h, f => ⟨by rw [f _ (by simp)]; exact h.1, SkL_c h.2 (fun i hi => f i (by rw [List.length_cons]; omega))⟩
def qFrL (wv : nuN) (f : Nat) (x : Frm) (I : zI) (P : zP) : Prop := x.1 < 6 ∧ P (119 + 3 * f) 3 = some (20 + 12 * x.1) ∧ I (119 + 3 * f) 4 = nI (wv x.1) ∧ I (119 + 3 * f) 5 = nI x.2.1 ∧ x.2.1 < 1000 ∧ I (119 + 3 * f) 2 = nI x.2.2.1.length ∧ x.2.2.1.length ≤ 10 ∧ SkL (121 + 3 * f) x.2.2.1 I ∧ ∀ n, n < 12 → I (120 + 3 * f) n = lv (x.2.2.2 n)
theorem qFrL_c {wv : nuN} {f : Nat} {x : Frm} {I J : zI} {P Q : zP} (h : qFrL wv f x I P) (g : ∀ c j, 119 + 3 * f ≤ c ∧ c ≤ 121 + 3 * f → J c j = I c j) (q : Q (119 + 3 * f) 3 = P (119 + 3 * f) 3) : qFrL wv f x J Q := by
  obtain ⟨h1, h2, h3, h4, h5, h6, h7, h8, h9⟩ := h
  exact ⟨h1, by rw [q]; exact h2, by rw [g _ _ (by omega)]; exact h3, by rw [g _ _ (by omega)]; exact h4, h5, by rw [g _ _ (by omega)]; exact h6, h7, SkL_c h8 (fun i _ => g _ _ (by omega)), fun n hn => by rw [g _ _ (by omega)]; exact h9 n hn⟩
def FsL (wv : nuN) : List Frm → zI → zP → Prop
  | [], _, _ => True
  | x :: r, I, P => qFrL wv r.length x I P ∧ FsL wv r I P
theorem FsL_c {wv : nuN} {I J : zI} {P Q : zP} : ∀ {fs : List Frm}, FsL wv fs I P → (∀ c j, 119 ≤ c ∧ c < 119 + 3 * fs.length → J c j = I c j) → (∀ f, f < fs.length → Q (119 + 3 * f) 3 = P (119 + 3 * f) 3) → FsL wv fs J Q
  | [], _, _, _ => trivial
  | x :: r, h, g, q => ⟨qFrL_c h.1 (fun c j a => g c j (by rw [List.length_cons]; omega)) (q _ (by rw [List.length_cons]; omega)), FsL_c h.2 (fun c j a => g c j (by rw [List.length_cons]; omega)) (fun f hf => q f (by rw [List.length_cons]; omega))⟩
/-- cells that a run of the loom in manner k may change -/
def rcL (k c j : Nat) : Prop := (c = 114 ∧ 9 ≤ j) ∨ (116 ≤ c ∧ c ≤ 154) ∨ (93 + 5 * k ≤ c ∧ c ≤ 97 + 5 * k)
def ScL (I0 : zI) (k lim : Nat) (I : zI) (P : zP) : Prop := k < 3 ∧ lim ≤ 3000 ∧ PSt P ∧ P 114 6 = some (93 + 5 * k) ∧ (∀ c j, ¬ rcL k c j → I c j = I0 c j) ∧ I 114 7 = nI k ∧ I 114 8 = nI lim
/-- numbers: 0 steps, 1 most frames, 2 ROWS, 3 marks, 4 records; 10 + r sizes; 50 + q passings -/
def MmL (n : nuN) (z : nuZ) (I : zI) : Prop := n 2 ≤ 30 ∧ (∀ f, f < 8 → I 116 f = z 0 f) ∧ (∀ r, r < n 2 → n (10 + r) ≤ 50 ∧ I 117 r = nI (n (10 + r)) ∧ ∀ i, i < n (10 + r) → I 116 (8 + 50 * r + i) = z 1 (50 * r + i)) ∧ ∀ q, q < 24 → I 118 q = nI (n (50 + q))
def TaL (k : Nat) (n : nuN) (z : nuZ) (I : zI) : Prop := n 3 ≤ 60 ∧ n 4 < 2 ^ 30 ∧ n 0 ≤ 3000 ∧ n 1 ≤ 12 ∧ I (93 + 5 * k) 6 = nI (n 0) ∧ I (93 + 5 * k) 7 = nI (n 2) ∧ I (93 + 5 * k) 8 = nI (n 1) ∧ I (93 + 5 * k) 11 = nI (n 3) ∧ I (93 + 5 * k) 12 = nI (n 4) ∧ (∀ i, i < n 3 → I (95 + 5 * k) i = z 2 i) ∧ ∀ i, i < n 4 → i < 400 → I (96 + 5 * k) i = z 3 i ∧ I (97 + 5 * k) i = z 4 i
theorem ScL_c {I0 I J : zI} {k lim : Nat} {P : zP} (h : ScL I0 k lim I P) (g : ∀ c j, ¬ rcL k c j → J c j = I c j) : ScL I0 k lim J P := by
  obtain ⟨h1, h2, h3, h4, h5, h6, h7⟩ := h
  exact ⟨h1, h2, h3, h4, fun c j a => by rw [g c j a]; exact h5 c j a, by rw [g _ _ (by unfold rcL; omega)]; exact h6, by rw [g _ _ (by unfold rcL; omega)]; exact h7⟩
theorem MmL_c {n : nuN} {z : nuZ} {I J : zI} (h : MmL n z I) (g : ∀ c j, 116 ≤ c ∧ c ≤ 118 → J c j = I c j) : MmL n z J := by
  obtain ⟨h0, h1, h2, h3⟩ := h
  exact ⟨h0, fun f hf => by rw [g _ _ (by omega)]; exact h1 f hf, fun r hr => ⟨(h2 r hr).1, by rw [g _ _ (by omega)]; exact (h2 r hr).2.1, fun i hi => by rw [g _ _ (by omega)]; exact (h2 r hr).2.2 i hi⟩, fun q hq => by rw [g _ _ (by omega)]; exact h3 q hq⟩
theorem TaL_c {k : Nat} {n : nuN} {z : nuZ} {I J : zI} (h : TaL k n z I) (g : ∀ c j, 93 + 5 * k ≤ c ∧ c ≤ 97 + 5 * k → J c j = I c j) : TaL k n z J := by
  obtain ⟨h1, h2, h3, h4, h5, h6, h7, h8, h9, h10, h11⟩ := h
  exact ⟨h1, h2, h3, h4, by rw [g _ _ (by omega)]; exact h5, by rw [g _ _ (by omega)]; exact h6, by rw [g _ _ (by omega)]; exact h7, by rw [g _ _ (by omega)]; exact h8, by rw [g _ _ (by omega)]; exact h9, fun i hi => by rw [g _ _ (by omega)]; exact h10 i hi, fun i hi h => by rw [g _ _ (by omega), g _ _ (by omega)]; exact h11 i hi h⟩
/-- the loom is in the abstract state -/
def SL (I0 : zI) (k lim : Nat) (wv : nuN) (fs : List Frm) (n : nuN) (z : nuZ) (I : zI) (P : zP) : Prop := ScL I0 k lim I P ∧ fs.length ≤ 12 ∧ I 114 9 = nI fs.length ∧ FsL wv fs I P ∧ MmL n z I ∧ TaL k n z I
/-- what the top frame's own cells do not touch -/
theorem SL_top {I0 I J : zI} {k lim : Nat} {wv n : nuN} {z : nuZ} {x y : Frm} {fs : List Frm} {P : zP} (h : SL I0 k lim wv (x :: fs) n z I P) (hy : qFrL wv fs.length y J P) (g : ∀ c j, ¬ (119 + 3 * fs.length ≤ c ∧ c ≤ 121 + 3 * fs.length) → J c j = I c j) : SL I0 k lim wv (y :: fs) n z J P := by
  obtain ⟨h1, h2, h3, h4, h5, h6⟩ := h
  have hk := h1.1
  rw [List.length_cons] at h2
  exact ⟨ScL_c h1 (fun c j a => g c j (by unfold rcL at a; omega)), by rw [List.length_cons]; exact h2, by rw [g _ _ (by omega)]; exact h3, ⟨hy, FsL_c h4.2 (fun c j a => g c j (by omega)) (fun _ _ => rfl)⟩, MmL_c h5 (fun c j a => g c j (by omega)), TaL_c h6 (fun c j a => g c j (by omega))⟩
theorem L_push {I0 I : zI} {k lim m p : Nat} {wv n : nuN} {z : nuZ} {s : List Va} {l : Nat → Va} {fs : List Frm} {P : zP} {K : zI → zP → Prop} {v : Va} {x : Int32} (h : SL I0 k lim wv ((m, p, s, l) :: fs) n z I P) (hs : s.length < 10) (hx : x = lv v) (kk : ∀ J, SL I0 k lim wv ((m, p, v :: s, l) :: fs) n z J P → (∀ c j, ¬ (119 + 3 * fs.length ≤ c ∧ c ≤ 121 + 3 * fs.length) → J c j = I c j) → K J P) : w_X0_push (119 + 3 * fs.length) x I P K := by
  obtain ⟨h1, h2, h3, h4, h5, h6, h7, h8, h9⟩ := h.2.2.2.1.1
  have hf : fs.length < 12 := by have := h.2.1; rw [List.length_cons] at this; omega
  have hP := h.1.2.2.1
  dsimp only at h6 h8 h9
  unfold w_X0_push
  rw [h6]
  refine ⟨shF hf, zin (by first | omega | decide | (simp (maxSteps := 400000) (disch := omega) only [q_lit, q_neg, nI_ltI, nI_leI, nI_eq, nI_add, pk_mul, pk_sub, nI_clamp, vp_q, zu_same, zu_nc, zu_nj, ng_lt, ng_le, ng_gt, ng_ge, ng_eq, ng_qe, ng_ee, ng_add, not_false_eq_true, not_true_eq_false, ne_eq]; done) | (simp (maxSteps := 400000) (disch := omega) only [q_lit, q_neg, nI_ltI, nI_leI, nI_eq, nI_add, pk_mul, pk_sub, nI_clamp, vp_q, zu_same, zu_nc, zu_nj, ng_lt, ng_le, ng_gt, ng_ge, ng_eq, ng_qe, ng_ee, ng_add, not_false_eq_true, not_true_eq_false, ne_eq]; omega)) (zin (by first | omega | decide | (simp (maxSteps := 400000) (disch := omega) only [q_lit, q_neg, nI_ltI, nI_leI, nI_eq, nI_add, pk_mul, pk_sub, nI_clamp, vp_q, zu_same, zu_nc, zu_nj, ng_lt, ng_le, ng_gt, ng_ge, ng_eq, ng_qe, ng_ee, ng_add, not_false_eq_true, not_true_eq_false, ne_eq]; done) | (simp (maxSteps := 400000) (disch := omega) only [q_lit, q_neg, nI_ltI, nI_leI, nI_eq, nI_add, pk_mul, pk_sub, nI_clamp, vp_q, zu_same, zu_nc, zu_nj, ng_lt, ng_le, ng_gt, ng_ge, ng_eq, ng_qe, ng_ee, ng_add, not_false_eq_true, not_true_eq_false, ne_eq]; omega)) ⟨_, pF1 hP hf, shF1 hf, by rw [zzF1 hf]; exact vp_in_nI hs (by decide), ?_⟩)⟩
  rw [nI_clamp (by omega), zu_nc (a := 119 + 3 * fs.length) (by omega), h6, nI_1, hx]
  have g : ∀ c j, ¬ (119 + 3 * fs.length ≤ c ∧ c ≤ 121 + 3 * fs.length) → zu (zu I (121 + 3 * fs.length) s.length (lv v)) (119 + 3 * fs.length) 2 (nI (s.length + 1)) c j = I c j := fun c j a => by rw [zu_nc (by omega), zu_nc (by omega)]
  refine kk _ (SL_top h ⟨h1, h2, ?_, ?_, h5, ?_, ?_, ⟨?_, SkL_c h8 (fun i hi => ?_)⟩, fun q hq => ?_⟩ g) g
  · rw [zu_nj (by omega), zu_nc (by omega)]; exact h3
  · rw [zu_nj (by omega), zu_nc (by omega)]; exact h4
  · rw [zu_same]; rfl
  · rw [List.length_cons]; omega
  · rw [zu_nc (by omega), zu_same]
  · rw [zu_nc (by omega), zu_nj (by omega)]
  · rw [zu_nc (by omega), zu_nc (by omega)]; exact h9 q hq
theorem L_pop {I0 I : zI} {k lim m p : Nat} {wv n : nuN} {z : nuZ} {s : List Va} {l : Nat → Va} {fs : List Frm} {P : zP} {K : Int32 → zI → zP → Prop} {v : Va} (h : SL I0 k lim wv ((m, p, v :: s, l) :: fs) n z I P) (kk : ∀ J, SL I0 k lim wv ((m, p, s, l) :: fs) n z J P → (∀ c j, ¬ (119 + 3 * fs.length ≤ c ∧ c ≤ 121 + 3 * fs.length) → J c j = I c j) → K (lv v) J P) : w_X0_pop (119 + 3 * fs.length) I P K := by
  obtain ⟨h1, h2, h3, h4, h5, h6, h7, h8, h9⟩ := h.2.2.2.1.1
  have hf : fs.length < 12 := by have := h.2.1; rw [List.length_cons] at this; omega
  have hP := h.1.2.2.1
  dsimp only at h6 h7 h8 h9
  rw [List.length_cons] at h6 h7
  unfold w_X0_pop
  rw [h6, show nI (s.length + 1) - 1 = nI s.length from by rw [← nq1, pk_sub (by omega)]; rfl, zu_same]
  refine ⟨shF hf, zin (by first | omega | decide | (simp (maxSteps := 400000) (disch := omega) only [q_lit, q_neg, nI_ltI, nI_leI, nI_eq, nI_add, pk_mul, pk_sub, nI_clamp, vp_q, zu_same, zu_nc, zu_nj, ng_lt, ng_le, ng_gt, ng_ge, ng_eq, ng_qe, ng_ee, ng_add, not_false_eq_true, not_true_eq_false, ne_eq]; done) | (simp (maxSteps := 400000) (disch := omega) only [q_lit, q_neg, nI_ltI, nI_leI, nI_eq, nI_add, pk_mul, pk_sub, nI_clamp, vp_q, zu_same, zu_nc, zu_nj, ng_lt, ng_le, ng_gt, ng_ge, ng_eq, ng_qe, ng_ee, ng_add, not_false_eq_true, not_true_eq_false, ne_eq]; omega)) (zip (by first | omega | decide | (simp (maxSteps := 400000) (disch := omega) only [q_lit, q_neg, nI_ltI, nI_leI, nI_eq, nI_add, pk_mul, pk_sub, nI_clamp, vp_q, zu_same, zu_nc, zu_nj, ng_lt, ng_le, ng_gt, ng_ge, ng_eq, ng_qe, ng_ee, ng_add, not_false_eq_true, not_true_eq_false, ne_eq]; done) | (simp (maxSteps := 400000) (disch := omega) only [q_lit, q_neg, nI_ltI, nI_leI, nI_eq, nI_add, pk_mul, pk_sub, nI_clamp, vp_q, zu_same, zu_nc, zu_nj, ng_lt, ng_le, ng_gt, ng_ge, ng_eq, ng_qe, ng_ee, ng_add, not_false_eq_true, not_true_eq_false, ne_eq]; omega)) ⟨_, pF1 hP hf, shF1 hf, by rw [zzF1 hf]; exact vp_in_nI (by omega) (by decide), ?_⟩)⟩
  rw [nI_clamp (by omega), zu_nc (a := 121 + 3 * fs.length) (by omega), h8.1]
  have g : ∀ c j, ¬ (119 + 3 * fs.length ≤ c ∧ c ≤ 121 + 3 * fs.length) → zu I (119 + 3 * fs.length) 2 (nI s.length) c j = I c j := fun c j a => zu_nc (by omega)
  refine kk _ (SL_top h ⟨h1, h2, ?_, ?_, h5, zu_same, (by show s.length ≤ 10; omega), SkL_c h8.2 (fun i hi => zu_nc (by omega)), fun q hq => ?_⟩ g) g
  · rw [zu_nj (by omega)]; exact h3
  · rw [zu_nj (by omega)]; exact h4
  · rw [zu_nc (by omega)]; exact h9 q hq
theorem Sk_at {c : Nat} {I : zI} : ∀ {s : List Va} {i : Nat} {v : Va}, SkL c s I → s[i]? = some v → I c (s.length - 1 - i) = lv v
  | [], i, v, _, e => by simp at e
  | w :: r, 0, v, h, e => by
    rw [List.getElem?_cons_zero] at e
    obtain rfl : w = v := Option.some.inj e
    exact h.1
  | w :: r, i + 1, v, h, e => by
    rw [List.getElem?_cons_succ] at e
    have := Sk_at h.2 e
    rw [List.length_cons, show r.length + 1 - 1 - (i + 1) = r.length - 1 - i by omega]; exact this
theorem L_peek {I0 I : zI} {k lim m p i : Nat} {wv n : nuN} {z : nuZ} {s : List Va} {l : Nat → Va} {fs : List Frm} {P : zP} {K : Int32 → zI → zP → Prop} {v : Va} (h : SL I0 k lim wv ((m, p, s, l) :: fs) n z I P) (hi : s[i]? = some v) (kk : K (lv v) I P) : w_X0_peek (119 + 3 * fs.length) (nI i) I P K := by
  obtain ⟨h1, h2, h3, h4, h5, h6, h7, h8, h9⟩ := h.2.2.2.1.1
  have hf : fs.length < 12 := by have := h.2.1; rw [List.length_cons] at this; omega
  have hP := h.1.2.2.1
  dsimp only at h6 h7 h8 h9
  have hl : i < s.length := by
    rcases Nat.lt_or_ge i s.length with q | q
    · exact q
    · rw [List.getElem?_eq_none q] at hi; exact absurd hi (by simp)
  unfold w_X0_peek
  rw [h6, ← nq1, pk_sub (by omega), pk_sub (by omega), nI_clamp (by omega)]
  refine ⟨shF hf, zin (by first | omega | decide | (simp (maxSteps := 400000) (disch := omega) only [q_lit, q_neg, nI_ltI, nI_leI, nI_eq, nI_add, pk_mul, pk_sub, nI_clamp, vp_q, zu_same, zu_nc, zu_nj, ng_lt, ng_le, ng_gt, ng_ge, ng_eq, ng_qe, ng_ee, ng_add, not_false_eq_true, not_true_eq_false, ne_eq]; done) | (simp (maxSteps := 400000) (disch := omega) only [q_lit, q_neg, nI_ltI, nI_leI, nI_eq, nI_add, pk_mul, pk_sub, nI_clamp, vp_q, zu_same, zu_nc, zu_nj, ng_lt, ng_le, ng_gt, ng_ge, ng_eq, ng_qe, ng_ee, ng_add, not_false_eq_true, not_true_eq_false, ne_eq]; omega)) (zin (by first | omega | decide | (simp (maxSteps := 400000) (disch := omega) only [q_lit, q_neg, nI_ltI, nI_leI, nI_eq, nI_add, pk_mul, pk_sub, nI_clamp, vp_q, zu_same, zu_nc, zu_nj, ng_lt, ng_le, ng_gt, ng_ge, ng_eq, ng_qe, ng_ee, ng_add, not_false_eq_true, not_true_eq_false, ne_eq]; done) | (simp (maxSteps := 400000) (disch := omega) only [q_lit, q_neg, nI_ltI, nI_leI, nI_eq, nI_add, pk_mul, pk_sub, nI_clamp, vp_q, zu_same, zu_nc, zu_nj, ng_lt, ng_le, ng_gt, ng_ge, ng_eq, ng_qe, ng_ee, ng_add, not_false_eq_true, not_true_eq_false, ne_eq]; omega)) ⟨_, pF1 hP hf, shF1 hf, by rw [zzF1 hf]; exact vp_in_nI (by omega) (by decide), ?_⟩)⟩
  rw [Sk_at h8 hi]; exact kk
theorem L_local {I0 I : zI} {k lim m p i : Nat} {wv n : nuN} {z : nuZ} {s : List Va} {l : Nat → Va} {fs : List Frm} {P : zP} {K : Int32 → zI → zP → Prop} (h : SL I0 k lim wv ((m, p, s, l) :: fs) n z I P) (hi : i < 12) (kk : K (lv (l i)) I P) : w_X0_local (119 + 3 * fs.length) (nI i) I P K := by
  obtain ⟨h1, h2, h3, h4, h5, h6, h7, h8, h9⟩ := h.2.2.2.1.1
  have hf : fs.length < 12 := by have := h.2.1; rw [List.length_cons] at this; omega
  have hP := h.1.2.2.1
  unfold w_X0_local
  rw [nI_clamp (by omega)]
  refine zin (by first | omega | decide | (simp (maxSteps := 400000) (disch := omega) only [q_lit, q_neg, nI_ltI, nI_leI, nI_eq, nI_add, pk_mul, pk_sub, nI_clamp, vp_q, zu_same, zu_nc, zu_nj, ng_lt, ng_le, ng_gt, ng_ge, ng_eq, ng_qe, ng_ee, ng_add, not_false_eq_true, not_true_eq_false, ne_eq]; done) | (simp (maxSteps := 400000) (disch := omega) only [q_lit, q_neg, nI_ltI, nI_leI, nI_eq, nI_add, pk_mul, pk_sub, nI_clamp, vp_q, zu_same, zu_nc, zu_nj, ng_lt, ng_le, ng_gt, ng_ge, ng_eq, ng_qe, ng_ee, ng_add, not_false_eq_true, not_true_eq_false, ne_eq]; omega)) (zin (by first | omega | decide | (simp (maxSteps := 400000) (disch := omega) only [q_lit, q_neg, nI_ltI, nI_leI, nI_eq, nI_add, pk_mul, pk_sub, nI_clamp, vp_q, zu_same, zu_nc, zu_nj, ng_lt, ng_le, ng_gt, ng_ge, ng_eq, ng_qe, ng_ee, ng_add, not_false_eq_true, not_true_eq_false, ne_eq]; done) | (simp (maxSteps := 400000) (disch := omega) only [q_lit, q_neg, nI_ltI, nI_leI, nI_eq, nI_add, pk_mul, pk_sub, nI_clamp, vp_q, zu_same, zu_nc, zu_nj, ng_lt, ng_le, ng_gt, ng_ge, ng_eq, ng_qe, ng_ee, ng_add, not_false_eq_true, not_true_eq_false, ne_eq]; omega)) ⟨shF hf, _, pF0 hP hf, shF0 hf, by rw [zzF0 hf]; exact vp_in_nI hi (by decide), ?_⟩)
  rw [h9 i hi]; exact kk
theorem L_setLocal {I0 I : zI} {k lim m p i : Nat} {wv n : nuN} {z : nuZ} {s : List Va} {l : Nat → Va} {fs : List Frm} {P : zP} {K : zI → zP → Prop} {v : Va} {x : Int32} (h : SL I0 k lim wv ((m, p, s, l) :: fs) n z I P) (hi : i < 12) (hx : x = lv v) (kk : ∀ J, SL I0 k lim wv ((m, p, s, upl l i v) :: fs) n z J P → (∀ c j, ¬ (119 + 3 * fs.length ≤ c ∧ c ≤ 121 + 3 * fs.length) → J c j = I c j) → K J P) : w_X0_setLocal (119 + 3 * fs.length) (nI i) x I P K := by
  obtain ⟨h1, h2, h3, h4, h5, h6, h7, h8, h9⟩ := h.2.2.2.1.1
  have hf : fs.length < 12 := by have := h.2.1; rw [List.length_cons] at this; omega
  have hP := h.1.2.2.1
  unfold w_X0_setLocal
  rw [nI_clamp (by omega), hx]
  have g : ∀ c j, ¬ (119 + 3 * fs.length ≤ c ∧ c ≤ 121 + 3 * fs.length) → zu I (120 + 3 * fs.length) i (lv v) c j = I c j := fun c j a => zu_nc (by omega)
  refine zin (by first | omega | decide | (simp (maxSteps := 400000) (disch := omega) only [q_lit, q_neg, nI_ltI, nI_leI, nI_eq, nI_add, pk_mul, pk_sub, nI_clamp, vp_q, zu_same, zu_nc, zu_nj, ng_lt, ng_le, ng_gt, ng_ge, ng_eq, ng_qe, ng_ee, ng_add, not_false_eq_true, not_true_eq_false, ne_eq]; done) | (simp (maxSteps := 400000) (disch := omega) only [q_lit, q_neg, nI_ltI, nI_leI, nI_eq, nI_add, pk_mul, pk_sub, nI_clamp, vp_q, zu_same, zu_nc, zu_nj, ng_lt, ng_le, ng_gt, ng_ge, ng_eq, ng_qe, ng_ee, ng_add, not_false_eq_true, not_true_eq_false, ne_eq]; omega)) (zin (by first | omega | decide | (simp (maxSteps := 400000) (disch := omega) only [q_lit, q_neg, nI_ltI, nI_leI, nI_eq, nI_add, pk_mul, pk_sub, nI_clamp, vp_q, zu_same, zu_nc, zu_nj, ng_lt, ng_le, ng_gt, ng_ge, ng_eq, ng_qe, ng_ee, ng_add, not_false_eq_true, not_true_eq_false, ne_eq]; done) | (simp (maxSteps := 400000) (disch := omega) only [q_lit, q_neg, nI_ltI, nI_leI, nI_eq, nI_add, pk_mul, pk_sub, nI_clamp, vp_q, zu_same, zu_nc, zu_nj, ng_lt, ng_le, ng_gt, ng_ge, ng_eq, ng_qe, ng_ee, ng_add, not_false_eq_true, not_true_eq_false, ne_eq]; omega)) ⟨shF hf, _, pF0 hP hf, shF0 hf, by rw [zzF0 hf]; exact vp_in_nI hi (by decide), kk _ (SL_top h ⟨h1, h2, ?_, ?_, h5, ?_, h7, SkL_c h8 (fun i hi => zu_nc (by omega)), fun q hq => ?_⟩ g) g⟩)
  · rw [zu_nc (by omega)]; exact h3
  · rw [zu_nc (by omega)]; exact h4
  · rw [zu_nc (by omega)]; exact h6
  · by_cases e : q = i
    · subst e
      rw [zu_same]; dsimp only; rw [upl_s]
    · rw [zu_nj e]; dsimp only; rw [upl_n e]; exact h9 q hq
/-- setting the place -/
theorem L_place {I0 I : zI} {k lim m p p' : Nat} {wv n : nuN} {z : nuZ} {s : List Va} {l : Nat → Va} {fs : List Frm} {P : zP} (h : SL I0 k lim wv ((m, p, s, l) :: fs) n z I P) (hp : p' < 1000) : SL I0 k lim wv ((m, p', s, l) :: fs) n z (zu I (119 + 3 * fs.length) 5 (nI p')) P := by
  obtain ⟨h1, h2, h3, h4, h5, h6, h7, h8, h9⟩ := h.2.2.2.1.1
  refine SL_top h ⟨h1, h2, ?_, zu_same, hp, ?_, h7, SkL_c h8 (fun i hi => zu_nc (by omega)), fun q hq => ?_⟩ (fun c j a => zu_nc (by omega))
  · rw [zu_nj (by omega)]; exact h3
  · rw [zu_nj (by omega)]; exact h6
  · rw [zu_nc (by omega)]; exact h9 q hq
theorem TaL_rec {k : Nat} {n : nuN} {z : nuZ} {I : zI} {x y : Int32} (hk : k < 3) (h : TaL k n z I) (hr : n 4 + 1 < 2 ^ 30) {J : zI} (g : ∀ c j, ¬ (96 + 5 * k ≤ c ∧ c ≤ 97 + 5 * k ∧ j = n 4) → ¬ (c = 93 + 5 * k ∧ j = 12) → J c j = I c j) (a : J (93 + 5 * k) 12 = nI (n 4 + 1)) (b : n 4 < 400 → J (96 + 5 * k) (n 4) = x ∧ J (97 + 5 * k) (n 4) = y) : TaL k (up1 n 4 (n 4 + 1)) (zu (zu z 3 (n 4) x) 4 (n 4) y) J := by
  obtain ⟨h1, h2, h3, h4, h5, h6, h7, h8, h9, h10, h11⟩ := h
  refine ⟨by rw [up1_n (by omega)]; exact h1, by rw [up1_s]; exact hr, by rw [up1_n (by omega)]; exact h3, by rw [up1_n (by omega)]; exact h4, by rw [up1_n (by omega), g _ _ (by omega) (by omega)]; exact h5, by rw [up1_n (by omega), g _ _ (by omega) (by omega)]; exact h6, by rw [up1_n (by omega), g _ _ (by omega) (by omega)]; exact h7, by rw [up1_n (by omega), g _ _ (by omega) (by omega)]; exact h8, by rw [up1_s]; exact a, fun i hi => ?_, fun i hi hi2 => ?_⟩
  · rw [up1_n (by omega)] at hi
    rw [g _ _ (by omega) (by omega), zu_nc (by omega), zu_nc (by omega)]; exact h10 i hi
  · rw [up1_s] at hi
    by_cases e : i = n 4
    · subst e
      rw [zu_nc (by omega), zu_same, zu_same]; exact b hi2
    · rw [g _ _ (by omega) (by omega), g _ _ (by omega) (by omega), zu_nc (by omega), zu_nj e, zu_nj e, zu_nc (by omega)]; exact h11 i (by omega) hi2
theorem L_rec {I0 I : zI} {k lim : Nat} {wv n : nuN} {z : nuZ} {fs : List Frm} {P : zP} {K : zI → zP → Prop} {x y : Int32} (h : SL I0 k lim wv fs n z I P) (hr : n 4 + 1 < 2 ^ 30) (kk : ∀ J, SL I0 k lim wv fs (up1 n 4 (n 4 + 1)) (zu (zu z 3 (n 4) x) 4 (n 4) y) J P → (∀ c j, ¬ (93 + 5 * k ≤ c ∧ c ≤ 97 + 5 * k) → J c j = I c j) → (∀ j, j ≠ 12 → J (93 + 5 * k) j = I (93 + 5 * k) j) → K J P) : w_X6_addRecord (93 + 5 * k) x y I P K := by
  obtain ⟨h1, h2, h3, h4, h5, h6⟩ := h
  have hk := h1.1
  have hP := h1.2.2.1
  have r12 := h6.2.2.2.2.2.2.2.2.1
  have fin : ∀ J, (∀ c j, ¬ (96 + 5 * k ≤ c ∧ c ≤ 97 + 5 * k ∧ j = n 4) → ¬ (c = 93 + 5 * k ∧ j = 12) → J c j = I c j) → J (93 + 5 * k) 12 = nI (n 4 + 1) → (n 4 < 400 → J (96 + 5 * k) (n 4) = x ∧ J (97 + 5 * k) (n 4) = y) → K J P := fun J g a b => by
    refine kk J ⟨ScL_c h1 (fun c j q => g c j (by unfold rcL at q; omega) (by unfold rcL at q; omega)), h2, by rw [g _ _ (by omega) (by omega)]; exact h3, FsL_c h4 (fun c j q => g c j (by omega) (by omega)) (fun _ _ => rfl), ?_, TaL_rec hk h6 hr g a b⟩ (fun c j q => g c j (by omega) (by omega)) (fun j q => g _ _ (by omega) (by omega))
    obtain ⟨m0, m1, m2, m3⟩ := h5
    refine ⟨by rw [up1_n (by omega)]; exact m0, fun f hf => by rw [g _ _ (by omega) (by omega), zu_nc (by omega), zu_nc (by omega)]; exact m1 f hf, fun r hr => ?_, fun q hq => by rw [g _ _ (by omega) (by omega), up1_n (by omega)]; exact m3 q hq⟩
    rw [up1_n (by omega)] at hr
    rw [up1_n (by omega), g _ _ (by omega) (by omega)]
    exact ⟨(m2 r hr).1, (m2 r hr).2.1, fun i hi => by rw [g _ _ (by omega) (by omega), zu_nc (by omega), zu_nc (by omega)]; exact (m2 r hr).2.2 i hi⟩
  unfold w_X6_addRecord j_X6_addRecord_37
  rw [r12]
  refine ⟨shT hk, zin (by first | omega | decide | (simp (maxSteps := 400000) (disch := omega) only [q_lit, q_neg, nI_ltI, nI_leI, nI_eq, nI_add, pk_mul, pk_sub, nI_clamp, vp_q, zu_same, zu_nc, zu_nj, ng_lt, ng_le, ng_gt, ng_ge, ng_eq, ng_qe, ng_ee, ng_add, not_false_eq_true, not_true_eq_false, ne_eq]; done) | (simp (maxSteps := 400000) (disch := omega) only [q_lit, q_neg, nI_ltI, nI_leI, nI_eq, nI_add, pk_mul, pk_sub, nI_clamp, vp_q, zu_same, zu_nc, zu_nj, ng_lt, ng_le, ng_gt, ng_ge, ng_eq, ng_qe, ng_ee, ng_add, not_false_eq_true, not_true_eq_false, ne_eq]; omega)) ?_⟩
  by_cases e : n 4 < 400
  · refine zin (by first | omega | decide | (simp (maxSteps := 400000) (disch := omega) only [q_lit, q_neg, nI_ltI, nI_leI, nI_eq, nI_add, pk_mul, pk_sub, nI_clamp, vp_q, zu_same, zu_nc, zu_nj, ng_lt, ng_le, ng_gt, ng_ge, ng_eq, ng_qe, ng_ee, ng_add, not_false_eq_true, not_true_eq_false, ne_eq]; done) | (simp (maxSteps := 400000) (disch := omega) only [q_lit, q_neg, nI_ltI, nI_leI, nI_eq, nI_add, pk_mul, pk_sub, nI_clamp, vp_q, zu_same, zu_nc, zu_nj, ng_lt, ng_le, ng_gt, ng_ge, ng_eq, ng_qe, ng_ee, ng_add, not_false_eq_true, not_true_eq_false, ne_eq]; omega)) ⟨_, pT2 hP hk, shT2 hk, by rw [zzT2 hk]; exact vp_in_nI e (by decide), _, pT3 hP hk, shT3 hk, ?_, shT hk, ?_⟩
    · rw [zzT3 hk, zu_nc (by omega), r12]; exact vp_in_nI e (by decide)
    · rw [nI_clamp (by omega), zu_nc (a := 93 + 5 * k) (by omega), r12, nI_clamp (by omega), zu_nc (a := 93 + 5 * k) (by omega), zu_nc (a := 93 + 5 * k) (by omega), r12, nI_1]
      refine fin _ (fun c j a b => by rw [zu_ne b, zu_ne (by omega), zu_ne (by omega)]) zu_same (fun _ => ⟨?_, ?_⟩)
      · rw [zu_nc (by omega), zu_nc (by omega), zu_same]
      · rw [zu_nc (by omega), zu_same]
  · refine zip (by first | omega | decide | (simp (maxSteps := 400000) (disch := omega) only [q_lit, q_neg, nI_ltI, nI_leI, nI_eq, nI_add, pk_mul, pk_sub, nI_clamp, vp_q, zu_same, zu_nc, zu_nj, ng_lt, ng_le, ng_gt, ng_ge, ng_eq, ng_qe, ng_ee, ng_add, not_false_eq_true, not_true_eq_false, ne_eq]; done) | (simp (maxSteps := 400000) (disch := omega) only [q_lit, q_neg, nI_ltI, nI_leI, nI_eq, nI_add, pk_mul, pk_sub, nI_clamp, vp_q, zu_same, zu_nc, zu_nj, ng_lt, ng_le, ng_gt, ng_ge, ng_eq, ng_qe, ng_ee, ng_add, not_false_eq_true, not_true_eq_false, ne_eq]; omega)) ⟨shT hk, ?_⟩
    rw [nI_1]
    exact fin _ (fun c j a b => by rw [zu_ne b]) zu_same (fun q => absurd q e)
