/-! PURE 86: RUN: what is ahead of an INSTRUCTION; the STEP is counted -/
section
variable {I0 I Gb : zI} {I1 : zI → Prop} {k lim kp nm : Nat} {wv wt hn ln ar X Y : nuN} {cb hd B ho og : Nat → Nat → Nat} {xq : Nat → Int32} {Pl : PlT} {n n2 : nuN} {z z2 : nuZ} {P : zP}
theorem kcL_l {kc : Kc} {n' : nuN} (h2 : n 2 ≤ 30) (e : ∀ i, i < 50 → i ≠ 4 → i ≠ 0 → n' i = n i) (h : kcL kc n I) : kcL kc n' I := by
  cases kc with
  | inl b => exact h
  | inr x =>
    obtain ⟨r, i⟩ := x
    obtain ⟨h3, h4, h5⟩ := h
    exact ⟨by rw [e 2 (by omega) (by omega) (by omega)]; exact h3, by rw [e (10 + r) (by omega) (by omega) (by omega)]; exact h4, h5⟩
theorem kcM_l {kc : Kc} {n' : nuN} {q : Nat} (h2 : n 2 ≤ 30) (e : ∀ i, i < 50 → i ≠ 4 → i ≠ 0 → n' i = n i) (h : kcM kc n q I) : kcM kc n' q I := by
  cases kc with
  | inl b => exact h
  | inr x =>
    obtain ⟨r, i⟩ := x
    obtain ⟨h3, h4, h5⟩ := h
    exact ⟨by rw [e 2 (by omega) (by omega) (by omega)]; exact h3, by rw [e (10 + r) (by omega) (by omega) (by omega)]; exact h4, h5⟩
theorem stc_l {c b : Nat} {s : List Va} {kc : Kc} {n' : nuN} (h2 : n 2 ≤ 30) (e : ∀ i, i < 50 → i ≠ 4 → i ≠ 0 → n' i = n i) (h : stc c b s n kc) : stc c b s n' kc := by
  rcases h with h | ⟨h0, y, i, r, t, h3, h4, h5, h6⟩
  · exact Or.inl h
  · exact Or.inr ⟨h0, y, i, r, t, h3, by rw [e 2 (by omega) (by omega) (by omega)]; exact h4, by rw [e (10 + r) (by omega) (by omega) (by omega)]; exact h5, h6⟩
theorem stf_l {c b : Nat} {s : List Va} {n' : nuN} (e : n' 2 = n 2) (h : stf c b s n) : stf c b s n' := by
  rcases h with h | ⟨h0, y, i, r, t, h3, h4⟩
  · exact Or.inl h
  · exact Or.inr ⟨h0, y, i, r, t, h3, by rw [e]; exact h4⟩
def n1M (B : Nat → Nat → Nat) (m op p : Nat) (n : nuN) (z : nuZ) (w : Nat) : nuN := lvN B m op (apT B m p (n, z) w).1 w
def z1M (B : Nat → Nat → Nat) (m op p : Nat) (x : Int32) (n : nuN) (z : nuZ) (w : Nat) : nuZ := lvZ B m op x (apT B m p (n, z) w).1 (apT B m p (n, z) w).2 w
theorem n1_i {m op p w : Nat} {x : Int32} : (n 4 ≤ n1M B m op p n z w 4 ∧ n1M B m op p n z w 4 ≤ n 4 + 2 * w) ∧ (∀ i, i < 50 → i ≠ 4 → n1M B m op p n z w i = n i) ∧ (∀ i, 50 ≤ i → n i ≤ n1M B m op p n z w i ∧ n1M B m op p n z w i ≤ n i + 1) ∧ ∀ c j, c < 3 → z1M B m op p x n z w c j = z c j := by
  obtain ⟨a1, a2, a3, a4, a5, a6⟩ := ap_i (B := B) (m := m) (p := p) (t := (n, z)) w
  obtain ⟨b1, b2, b3, b4⟩ := lv_4 (B := B) (m := m) (op := op) (x := x) (n := (apT B m p (n, z) w).1) (z := (apT B m p (n, z) w).2) w
  dsimp only at a1 a2 a3 a4 a5 a6
  unfold n1M z1M
  exact ⟨⟨by omega, by omega⟩, fun i h1 h2 => by rw [b3 i h2]; exact a3 i h2 h1, fun i hi => by rw [b3 i (by omega)]; exact a6 i hi, fun c j hc => by rw [b4 c j hc]; exact a5 c j hc⟩
theorem n1_0 {m op p w : Nat} {x : Int32} (ha : ∀ q, q < w → ¬ (atq B m 0 p q ∨ atq B m 6 p q)) (hl : op = 42 → ∀ q, q < w → ¬ atq B m 3 0 q) : n1M B m op p n z w = n ∧ z1M B m op p x n z w = z := by
  unfold n1M z1M lvN lvZ
  rw [ap_n ha]
  by_cases e : op = 42
  · rw [if_pos e, if_pos e]; exact tl_n (hl e)
  · rw [if_neg e, if_neg e]; exact ⟨rfl, rfl⟩
theorem L_may {m p op b : Nat} {s : List Va} {l : Nat → Va} {fs : List Frm} {K : Int32 → zI → zP → Prop} (hC : Cg I0 I1 k wv wt hn ln ar X Y cb hd B ho og xq kp nm) (hm : m < nm) (hp : p < ln m) (h : SL I0 k lim wv ((m, p, s, l) :: fs) n z I P) (h10 : I 114 10 = 0) (hop : op = cb m p) (h22 : k = 2 → ¬ I0 (22 + 12 * m) p = 0) (h16 : k = 2 → I 114 16 = nI p) (h42 : op = 42 → ∃ x r, s = Sum.inl x :: r) (h39 : op = 35 ∨ op = 39 → stf op b s n ∧ (op = 35 → p + 1 < ln m ∧ cb m (p + 1) = b)) (hb : ∀ q, q < 24 → n (50 + q) < 2 ^ 30) (hr : n 4 + 100 < 2 ^ 30)
    (kf : k = 2 → ∀ q, q < wt m → fires B m p X (n, z) q → (∀ i, i < q → ¬ fires B m p X (n, z) i) → ∀ J, SL I0 k lim wv ((m, p, s, l) :: fs) (apT B m p (n, z) (q + 1)).1 (apT B m p (n, z) (q + 1)).2 J P → tL k m (nI (Y q)) I J → j_X2_mayBegin_14 K J P)
    (kn : (∀ i, i < wt m → ¬ fires B m p X (n, z) i) → ∀ J, SL I0 k lim wv ((m, p, s, l) :: fs) (n1M B m op p n z (wt m)) (z1M B m op p (lv (s.headD (Sum.inl 0))) n z (wt m)) J P → sK k I J → (k ≠ 2 → J = I) → (k = 2 → (∃ q, q < wt m ∧ atq B m 4 p q) → ∀ kc, stc op b s n kc → kcL kc n J ∧ J 114 14 = kcv kc z) → j_X2_mayBegin_14 K J P) : w_X2_mayBegin (119 + 3 * fs.length) (nI op) I P K := by
  obtain ⟨g1, g2, g3, g4, g5, g6⟩ := hC.1.2.2 m hm
  obtain ⟨d1, d2, d3, d4, d5, d6⟩ := hC.2.2.2.1 m hm
  have hn2 := h.2.2.2.2.1.1
  unfold w_X2_mayBegin
  by_cases e2 : k = 2
  · have w0 : wv m = 0 := by rw [d4, if_neg (by omega)]
    have l4 : ln m ≤ 400 := by have := g2.2.1; rw [if_pos w0] at this; exact this
    have cd : ∀ i, i < ln m → I0 (21 + 12 * m) i = nI (cb m i) := fun i hi => by
      have := (g2.2.2 i hi).2
      unfold cc at this
      rw [if_pos w0] at this; exact this
    have quiet : (∀ q, q < wt m → ¬ (atq B m 4 p q ∨ atq B m 7 p q ∨ atq B m 1 p q ∨ atq B m 0 p q ∨ atq B m 6 p q)) → (op = 42 → ∀ q, q < wt m → ¬ atq B m 3 0 q) → j_X2_mayBegin_14 K I P := fun y y3 => by
      obtain ⟨e1, e3⟩ := n1_0 (n := n) (z := z) (B := B) (m := m) (op := op) (p := p) (w := wt m) (x := lv (s.headD (Sum.inl 0))) (fun q hq a => y q hq (by rcases a with a | a; exact Or.inr (Or.inr (Or.inr (Or.inl a))); exact Or.inr (Or.inr (Or.inr (Or.inr a))))) y3
      exact kn (fun i hi a => y i hi (Or.inr (Or.inr (Or.inr (Or.inr a.1))))) I (by rw [e1, e3]; exact h) (sK_w sL_r) (fun e => absurd e2 e) (fun _ ⟨q, hq, a⟩ => absurd (Or.inl a) (y q hq))
    refine L_wh h g4 (by omega) (fun _ e5 e3 => zin (by decide) (L_ah (Y := Y) (X := X) h e2 e5 h10 g1 g4 hC.1.2.1 g5 (by omega) (fun q hq e6 => ?_) hb (by omega) (fun q hq fq no J hJ t => kf e2 q hq fq no J hJ t) (fun no J hJ g => ?_))) (fun yy => zip rfl ?_)
    · obtain ⟨x1, x2, x3⟩ := hC.2.2.2.2.1 q (by omega)
      obtain ⟨x4, x5, x6, x7, x8, x9⟩ := x3 e6
      exact ⟨by rw [x1, x4], x5, x6, x8, x9⟩
    · obtain ⟨a1, a2, a3, a4, a5, a6⟩ := ap_i (B := B) (m := m) (p := p) (t := (n, z)) (wt m)
      dsimp only at a1 a2 a3 a4 a5 a6
      have w24 := g4.1
      refine L_93 (b := b) hJ (by rw [g.1 10 (by omega)]; exact h10) g1 g4 hC.1.2.1 g5 (by rw [hop]; exact (g2.2.2 p hp).1) h42 (fun e => ?_) (by omega) (fun J2 hJ2 g2 hk => kn no J2 hJ2 (sK_t (sK_w g) g2) (fun e => absurd e2 e) (fun _ _ kc hkc => ?_))
      · obtain ⟨f1, f2⟩ := h39 e
        refine ⟨stf_l (a3 2 (by omega) (by omega)) f1, by rw [g.1 16 (by omega)]; exact h16 e2, by omega, fun e' => by have := (f2 e').1; omega, by rw [cd p hp, hop], fun e' => by rw [cd _ (f2 e').1, (f2 e').2]⟩
      · obtain ⟨f1, f2⟩ := hk kc (stc_l hn2 (fun i h1 h2 _ => a3 i h2 h1) hkc)
        refine ⟨kcL_l (by rw [a3 2 (by omega) (by omega)]; exact hn2) (fun i h1 h2 _ => (a3 i h2 h1).symm) f1, ?_⟩
        rw [f2]; exact kcv_c (fun c j hc => a5 c j hc)
    · rcases yy with yy | yy
      · exact quiet (fun q hq => by omega) (fun _ q hq => by omega)
      · exact quiet (fun q hq => d5 e2 p (by omega) yy.2 q hq) (fun e42 q hq => d6 e2 p hp (h22 e2) yy.2 (by rw [← hop]; exact e42) q hq)
  · have w0 : wt m = 0 := g4.2.2.2 e2
    unfold w_X2_isWatchedHere
    refine L_iw h g4 (fun e _ => absurd e e2) (fun _ => zip rfl (zip rfl ?_))
    rw [w0] at kn
    exact kn (fun i hi => by omega) I (by obtain ⟨e1, e3⟩ := n1_0 (n := n) (z := z) (B := B) (m := m) (op := op) (p := p) (w := 0) (x := lv (s.headD (Sum.inl 0))) (fun q hq => by omega) (fun _ q hq => by omega); rw [e1, e3]; exact h) (sK_w sL_r) (fun _ => rfl) (fun e => absurd e e2)
theorem M_98z {K : Int32 → zI → zP → Prop} {a b c : Int32} (kk : K 0 I P) : ∃ n9, l_X10_ahead_98 K n9 a b c (nI 0) 0 I P := by
  refine ⟨1, ?_⟩
  rw [l_X10_ahead_98]
  exact zip (by decide) kk
theorem M_may {m p op b : Nat} {s : List Va} {l : Nat → Va} {fs : List Frm} {K : Int32 → zI → zP → Prop} (hC : Cg I0 I1 k wv wt hn ln ar X Y cb hd B ho og xq kp nm) (hGb : I1 Gb) (hm : m < nm) (hp : p < ln m) (h : SM Gb k lim ((m, p, s, l) :: fs) n z I) (hop : op = cb m p) (h42 : op = 42 → ∃ x r, s = Sum.inl x :: r) (h39 : op = 35 ∨ op = 39 → p + 1 < ln m ∧ stf op b s n ∧ (op = 35 → cb m (p + 1) = b)) (hb : ∀ q, q < 24 → n (50 + q) < 2 ^ 30) (hr : n 4 + 100 < 2 ^ 30)
    (kf : k = 2 → ∀ q, q < wt m → fires B m p X (n, z) q → (∀ i, i < q → ¬ fires B m p X (n, z) i) → ∀ J, SM Gb k lim ((m, p, s, l) :: fs) (apT B m p (n, z) (q + 1)).1 (apT B m p (n, z) (q + 1)).2 J → J 155 65 = nI (Y q) → J 155 66 = nI m → J 155 67 = nI p → J 155 52 = I 155 52 → w_X10_isThrown J P (fun I6 P6 => K 1 I6 P6))
    (kn : (∀ i, i < wt m → ¬ fires B m p X (n, z) i) → ∀ J, SM Gb k lim ((m, p, s, l) :: fs) (n1M B m op p n z (wt m)) (z1M B m op p (lv (s.headD (Sum.inl 0))) n z (wt m)) J → sV I J → (k ≠ 2 → ∀ c j, 205 ≤ c ∧ c ≤ 207 → J c j = I c j) → (k = 2 → ∀ q, q < wt m → atq B m 4 p q → ∀ kc, stc op b s n kc → kcM kc n q J ∧ J 205 q = kcv kc z) → K 0 J P) : w_X10_ahead (nI m) (nI p) (nI op) I P K := by
  obtain ⟨g2, g3, g4, g5, g6⟩ := (hC.2.1 Gb hGb).2.2 m hm
  obtain ⟨d1, d2, d3, d4, d5, d6⟩ := hC.2.2.2.1 m hm
  have hn2 := h.2.2.2.2.1.1
  have k2 : ∀ q, q < wt m → k = 2 := fun q hq => by
    by_cases e2 : k = 2
    · exact e2
    · have := g4.2.2.2 e2; omega
  obtain ⟨a1, a2, a3, a4, a5, a6⟩ := ap_i (B := B) (m := m) (p := p) (t := (n, z)) (wt m)
  dsimp only at a1 a2 a3 a4 a5 a6
  have w24 := g4.1
  refine M_ah (X := X) (Y := Y) h g4 (hC.2.1 Gb hGb).2.1 g5 (fun q hq e6 => ?_) hb (by omega) (fun q hq fq no J hJ u1 u2 u3 u4 _ => kf (k2 q hq) q hq fq no J hJ u1 u2 u3 u4) (fun no J hJ g => ?_)
  · obtain ⟨x1, x2, x3⟩ := hC.2.2.2.2.1 q (by omega)
    obtain ⟨x4, x5, x6, x7, x8, x9⟩ := x3 e6
    exact ⟨by rw [x2 Gb hGb, x4], x5, x7 Gb hGb⟩
  · by_cases w0 : wt m = 0
    · rw [w0] at hJ kn ⊢
      refine M_98z (kn (fun i hi => by omega) J ?_ (sV_w g) (fun _ => g.2) (fun _ q hq => by omega))
      obtain ⟨e1, e3⟩ := n1_0 (n := n) (z := z) (B := B) (m := m) (op := op) (p := p) (w := 0) (x := lv (s.headD (Sum.inl 0))) (fun q hq => by omega) (fun _ q hq => by omega)
      rw [e1, e3]; exact hJ
    · have e2 := k2 0 (by omega)
      have v0 : wv m = 0 := by rw [d4, if_neg (by omega)]
      have l4 : ln m ≤ 400 := by have := g2.2.2.1; rw [if_pos v0] at this; exact this
      refine M_98 (b := b) hJ w24 (hC.2.1 Gb hGb).2.1 g5 (by rw [hop]; exact (g2.2.2.2 p hp).1) h42 (fun q hq a => ?_) (by omega) (fun J2 hJ2 gV hk => kn no J2 hJ2 (sV_t (sV_w g) gV) (fun e => absurd e2 e) (fun _ q hq a kc hkc => ?_))
      · have o := (hC.2.2.2.2.2.2.1 m q hm hq a.2.1).1 a.1
        rw [a.2.2, ← hop] at o
        obtain ⟨f1, f2, f3⟩ := h39 o
        refine ⟨o, stf_l (a3 2 (by omega) (by omega)) f2, by omega, fun e' => ?_⟩
        rw [Nat.add_assoc, (g2.2.2.2 (p + 1) f1).2.1 v0, f3 e']
      · obtain ⟨f1, f2⟩ := hk q hq a kc (stc_l hn2 (fun i h1 h2 _ => a3 i h2 h1) hkc)
        refine ⟨kcM_l (by rw [a3 2 (by omega) (by omega)]; exact hn2) (fun i h1 h2 _ => (a3 i h2 h1).symm) f1, ?_⟩
        rw [f2]; exact kcv_c (fun c j hc => a5 c j hc)
theorem SL_stp {fs : List Frm} (h : SL I0 k lim wv fs n z I P) (h0 : n 0 + 1 ≤ 3000) : SL I0 k lim wv fs (up1 n 0 (n 0 + 1)) z (zu I (93 + 5 * k) 6 (nI (n 0 + 1))) P := by
  have hk := h.1.1
  refine SL_nz h (fun c j _ a => zu_nc (by omega)) ?_ ?_
  · obtain ⟨m0, m1, m2, m3⟩ := h.2.2.2.2.1
    refine ⟨by rw [up1_n (by omega)]; exact m0, fun f hf => by rw [zu_nc (by omega)]; exact m1 f hf, fun r hr => ?_, fun q hq => by rw [zu_nc (by omega), up1_n (by omega)]; exact m3 q hq⟩
    rw [up1_n (by omega)] at hr
    obtain ⟨y1, y2, y3⟩ := m2 r hr
    rw [up1_n (by omega)]
    exact ⟨y1, by rw [zu_nc (by omega)]; exact y2, fun i hi => by rw [zu_nc (by omega)]; exact y3 i hi⟩
  · obtain ⟨y1, y2, y3, y4, y5, y6, y7, y8, y9, y10, y11⟩ := h.2.2.2.2.2
    refine ⟨by rw [up1_n (by omega)]; exact y1, by rw [up1_n (by omega)]; exact y2, by rw [up1_s]; exact h0, by rw [up1_n (by omega)]; exact y4, by rw [up1_s, zu_same], ?_, ?_, ?_, ?_, fun i hi => ?_, fun i hi h4 => ?_⟩
    · rw [up1_n (by omega), zu_nj (by omega)]; exact y6
    · rw [up1_n (by omega), zu_nj (by omega)]; exact y7
    · rw [up1_n (by omega), zu_nj (by omega)]; exact y8
    · rw [up1_n (by omega), zu_nj (by omega)]; exact y9
    · rw [up1_n (by omega)] at hi
      rw [zu_nc (by omega)]; exact y10 i hi
    · rw [up1_n (by omega)] at hi
      rw [zu_nc (by omega), zu_nc (by omega)]; exact y11 i hi h4
theorem SM_stp {fs : List Frm} (h : SM Gb k lim fs n z I) (h0 : n 0 + 1 ≤ 3000) : SM Gb k lim fs (up1 n 0 (n 0 + 1)) z (zu I 155 53 (nI (n 0 + 1))) := by
  refine SM_nz h (fun c j a _ _ => zu_ne (by omega)) ?_ ?_
  · obtain ⟨m0, m00, m1, m2, m3⟩ := h.2.2.2.2.1
    refine ⟨by rw [up1_n (by omega)]; exact m0, by rw [zu_nj (by omega), up1_n (by omega)]; exact m00, fun f hf => by rw [zu_nc (by omega)]; exact m1 f hf, fun r hr => ?_, fun q hq => by rw [zu_nc (by omega), up1_n (by omega)]; exact m3 q hq⟩
    rw [up1_n (by omega)] at hr
    obtain ⟨y1, y2, y3⟩ := m2 r hr
    rw [up1_n (by omega)]
    exact ⟨y1, by rw [zu_nc (by omega)]; exact y2, fun i hi => by rw [zu_nc (by omega)]; exact y3 i hi⟩
  · obtain ⟨y1, y2, y3, y4, y5, y6, y7, y8, y9, y10, y11⟩ := h.2.2.2.2.2
    refine ⟨by rw [up1_n (by omega)]; exact y1, by rw [up1_n (by omega)]; exact y2, by rw [up1_s]; exact h0, by rw [up1_n (by omega)]; exact y4, by rw [up1_s, zu_same], ?_, ?_, ?_, fun i hi => ?_, fun i hi h4 => ?_, fun c j a b c1 c2 c3 => ?_⟩
    · rw [up1_n (by omega), zu_nj (by omega)]; exact y6
    · rw [up1_n (by omega), zu_nc (by omega)]; exact y7
    · rw [up1_n (by omega), zu_nc (by omega)]; exact y8
    · rw [up1_n (by omega)] at hi
      rw [zu_nc (by omega)]; exact y9 i hi
    · rw [up1_n (by omega)] at hi
      rw [zu_nc (by omega), zu_nc (by omega)]; exact y10 i hi h4
    · rw [zu_nc (by omega)]; exact y11 c j a b c1 c2 c3
end
