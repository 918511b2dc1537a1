/-! PURE 87: RUN: an INSTRUCTION's turn, up to what it does itself -/
def coT (K : zI → zP → Prop) (f c : Nat) (I : zI) (P : zP) : Prop := if c = 40 then w_X2_doCall f I P (fun I12 P12 => j_X2_takeTurn_134 K I12 P12) else if c = 42 then w_X2_doGive f I P (fun I11 P11 => j_X2_takeTurn_134 K I11 P11) else w_X9_shortOf (nI c) I P (fun v9 I9 P9 => w_X2_doInstruction f v9 I9 P9 (fun I10 P10 => j_X2_takeTurn_134 K I10 P10))
def dnK (K : zI → zP → Prop) (m p c p0 d : Nat) (v5 : Int32) (I5 : zI) (P5 : zP) : Prop := if (I5 155 65) = 0 then (if ((I5 155 54) - 1) = nI d then (if (I5 155 52) = (-1) then (if nI c = 42 then (K I5 P5) else (w_X10_behind (nI m) (nI p) (nI c) v5 I5 P5 (fun I10 P10 => (K I10 P10)))) else (K I5 P5)) else (K I5 P5)) else (w_X10_isThrown (zu (zu I5 155 66 (nI m)) 155 67 (nI p0)) P5 (fun I11 P11 => (K I11 P11)))
def Kp (k : Nat) (wt : nuN) (B : Nat → Nat → Nat) (m p op b : Nat) (s : List Va) (n : nuN) (z : nuZ) (ko : Ko) (Q : Nat → Prop) (ko1 : Ko) (Q1 : Nat → Prop) : Prop := (k ≠ 2 → ko1 = ko ∧ Q1 = Q) ∧ (k = 2 → (∀ kc, stc op b s n kc → ko1 = some (kc, kcv kc z)) ∧ ∀ q, q < wt m → atq B m 4 p q → Q1 q)
def Nst (n n1 : nuN) : Prop := n1 0 = n 0 + 1 ∧ (n 4 ≤ n1 4 ∧ n1 4 ≤ n 4 + 48) ∧ (∀ i, i < 50 → i ≠ 4 → i ≠ 0 → n1 i = n i) ∧ ∀ i, 50 ≤ i → n i ≤ n1 i ∧ n1 i ≤ n i + 1
def Pk (I0 : zI) (I1 : zI → Prop) (k lim : Nat) (wv wt : nuN) (cb B : Nat → Nat → Nat) (m p p0 : Nat) (s : List Va) (l : Nat → Va) (rest : List Frm) (n : nuN) (z : nuZ) (th : Th) (ko : Ko) (Q : Nat → Prop) (n1 : nuN) (z1 : nuZ) (ko1 : Ko) (Q1 : Nat → Prop) : Prop :=
  Nst n n1 ∧ n 0 < lim ∧ (∀ c j, c < 3 → z1 c j = z c j) ∧ Kp k wt B m p (cb m p) (cb m (p + 1)) s n z ko Q ko1 Q1 ∧
  (∀ I P K, LR I0 k lim wv ((m, p, s, l) :: rest) n z th ko Q I P → (∀ J, LR I0 k lim wv ((m, p, s, l) :: rest) n1 z1 th ko1 Q1 J P → J 114 16 = nI p0 → coT K (119 + 3 * rest.length) (cb m p) J P) → w_X2_takeTurn (119 + 3 * rest.length) I P K) ∧
  (∀ Gb, I1 Gb → ∀ I P K, MR Gb k lim ((m, p, s, l) :: rest) n z th ko Q I → (∀ J, MR Gb k lim ((m, p, s, l) :: rest) n1 z1 th ko1 Q1 J → J 155 65 = 0 → w_X10_done (nI m) (nI p) (nI (cb m p)) (nI p0) J P (fun v5 I5 P5 => dnK K m p (cb m p) p0 rest.length v5 I5 P5)) → w_X10_step I P K)
theorem fst_ex {p : Nat → Prop} : ∀ w, (∃ q, q < w ∧ p q) → ∃ q, q < w ∧ p q ∧ ∀ i, i < q → ¬ p i
  | 0, ⟨q, h, _⟩ => absurd h (by omega)
  | w + 1, h => by
    by_cases e : ∃ q, q < w ∧ p q
    · obtain ⟨q, h1, h2, h3⟩ := fst_ex w e
      exact ⟨q, by omega, h2, h3⟩
    · obtain ⟨q, h1, h2⟩ := h
      have : q = w := by
        by_cases e2 : q = w
        · exact e2
        · exact absurd ⟨q, by omega, h2⟩ e
      subst this
      exact ⟨q, h1, h2, fun i hi a => e ⟨i, hi, a⟩⟩
section
variable {I0 I Gb : zI} {I1 : zI → Prop} {k lim kp nm : Nat} {wv wt hn ln ar X Y : nuN} {cb hd B ho og : Nat → Nat → Nat} {xq : Nat → Int32} {Pl : PlT} {n n2 : nuN} {z z2 : nuZ} {P : zP}
theorem SL_tl {fs : List Frm} {J : zI} (h : SL I0 k lim wv fs n z I P) (g : ∀ c j, ¬ (c = 93 + 5 * k ∧ (j = 4 ∨ j = 5 ∨ j = 9 ∨ j = 10)) → J c j = I c j) : SL I0 k lim wv fs n z J P := by
  have hk := h.1.1
  refine SL_nz h (fun c j _ a => g c j (by omega)) (MmL_c h.2.2.2.2.1 (fun c j a => g c j (by omega))) ?_
  obtain ⟨t1, t2, t3, t4, t5, t6, t7, t8, t9, t10, t11⟩ := h.2.2.2.2.2
  exact ⟨t1, t2, t3, t4, by rw [g _ _ (by omega)]; exact t5, by rw [g _ _ (by omega)]; exact t6, by rw [g _ _ (by omega)]; exact t7, by rw [g _ _ (by omega)]; exact t8, by rw [g _ _ (by omega)]; exact t9, fun i hi => by rw [g _ _ (by omega)]; exact t10 i hi, fun i hi h => by rw [g _ _ (by omega), g _ _ (by omega)]; exact t11 i hi h⟩
theorem isT_n {J : zI} {A K : zI → zP → Prop} (h : w_X10_isThrown J P K) : w_X10_isThrown J P (fun I6 P6 => if (1 : Int32) = 0 then A I6 P6 else K I6 P6) := by
  have e : (fun I6 P6 => if (1 : Int32) = 0 then A I6 P6 else K I6 P6) = K := funext fun I6 => funext fun P6 => if_neg (by decide)
  rw [e]; exact h
theorem tI_pk {m p ph r p0 : Nat} {s : List Va} {l : Nat → Va} {rest : List Frm} {S : List Nat} {L : Nat → Nat} {zn : Zn} {th : Th} {ko : Ko} {Q : Nat → Prop} (hC : Cg I0 I1 k wv wt hn ln ar X Y cb hd B ho og xq kp nm) (hT : Top Pl cb hd hn nm X lim ph m p s l rest S L r zn n z th ko Q) (hm : m < nm) (hp : p < ln m) (hp2 : p < 1000) (h22 : wv m = 0 → ¬ I0 (22 + 12 * m) p = 0) (hv : Hcv Pl hd hn m p L) (hho : ho m p = p0 + 1) (hog : og m p = p0 + 1) (hp0 : p0 < 400) (hcb : ¬ (48 ≤ cb m p ∧ cb m p ≤ 58)) (h42 : cb m p = 42 → ∃ x r, s = Sum.inl x :: r) (h39 : cb m p = 35 ∨ cb m p = 39 → p + 1 < ln m ∧ stf (cb m p) (cb m (p + 1)) s n) : Trn Pl cb hd hn nm X lim I0 I1 k wv ph ((m, p, s, l) :: rest) n z th ko Q ∨ ∃ n1 z1 ko1 Q1, Pk I0 I1 k lim wv wt cb B m p p0 s l rest n z th ko Q n1 z1 ko1 Q1 := by
  obtain ⟨t1, t2, t3, t4, t5, t6, t7, t8⟩ := hT
  obtain ⟨c1, c2, c3, c4⟩ := Cg_m hC hm hp
  obtain ⟨N1, N2, N3, N4, N5, N6⟩ := t8
  obtain ⟨d1, d2, d3, d4, d5, d6⟩ := hC.2.2.2.1 m hm
  obtain ⟨g1, g2, g3, g4, g5, g6⟩ := hC.1.2.2 m hm
  have k24 := hC.2.2.1
  have b256 := (c1.2.2 p hp).1
  have w24 := g4.1
  have hb30 : ∀ q, q < 24 → n (50 + q) < 2 ^ 30 := fun q hq => by have := N5 q hq; omega
  have v0 : k = 2 → wv m = 0 := fun e2 => by rw [d4, if_neg (by omega)]
  have p0p : k = 2 → p0 = p := fun e2 => by have := c3.1 (v0 e2); omega
  have hcb' : wv m = 0 ∨ cb m p < 48 ∨ 58 < cb m p := by omega
  have k2 : ∀ q, q < wt m → k = 2 := fun q hq => by
    by_cases e2 : k = 2
    · exact e2
    · have := g4.2.2.2 e2; omega
  have nm1 : ¬ nI p0 = -1 := by first | omega | decide | (simp (maxSteps := 400000) (disch := omega) only [q_lit, q_neg, nI_ltI, nI_leI, nI_eq, nI_add, pk_mul, pk_sub, nI_clamp, vp_q, zu_same, zu_nc, zu_nj, ng_lt, ng_le, ng_gt, ng_ge, ng_eq, ng_qe, ng_ee, ng_add, not_false_eq_true, not_true_eq_false, ne_eq]; done) | (simp (maxSteps := 400000) (disch := omega) only [q_lit, q_neg, nI_ltI, nI_leI, nI_eq, nI_add, pk_mul, pk_sub, nI_clamp, vp_q, zu_same, zu_nc, zu_nj, ng_lt, ng_le, ng_gt, ng_ge, ng_eq, ng_qe, ng_ee, ng_add, not_false_eq_true, not_true_eq_false, ne_eq]; omega)
  have FL : ∀ I P K, LR I0 k lim wv ((m, p, s, l) :: rest) n z th ko Q I P → (LR I0 k lim wv ((m, p, s, l) :: rest) n z th ko Q (zu I 114 16 (nI p0)) P → w_X2_mayBegin (119 + 3 * rest.length) (nI (cb m p)) (zu I 114 16 (nI p0)) P (fun v2 I2 P2 => if v2 = 0 then j_X2_takeTurn_134 K I2 P2 else ∃ v4, P2 114 6 = some v4 ∧ (SHy[v4]? = some (6, 13) ∧ coT K (119 + 3 * rest.length) (cb m p) (zu I2 v4 6 ((I2 v4 6) + 1)) P2))) → w_X2_takeTurn (119 + 3 * rest.length) I P K := fun I P K h kk => by
    refine L_front (cb := cb) (ho := ho) h.1 c1 hp c3 (fun e1 e2 e3 => absurd ⟨e2, e3⟩ hcb) (fun _ => ?_)
    rw [hho, oM_s]
    unfold j_X2_takeTurn_48
    refine zin (by rw [zu_same]; exact nm1) ?_
    have q := kk (LR_16 h)
    have e : (fun v2 I2 P2 => if v2 = 0 then j_X2_takeTurn_134 K I2 P2 else ∃ v4, P2 114 6 = some v4 ∧ (SHy[v4]? = some (6, 13) ∧ coT K (119 + 3 * rest.length) (cb m p) (zu I2 v4 6 ((I2 v4 6) + 1)) P2)) = (fun (v2 : Int32) (I2 : zI) (P2 : zP) => (if v2 = 0 then (j_X2_takeTurn_134 K I2 P2) else (∃ v4, P2 114 6 = some v4 ∧ (SHy[v4]? = some (6, 13) ∧ (if nI (cb m p) = 40 then (w_X2_doCall (119 + 3 * rest.length) (zu I2 v4 6 ((I2 v4 6) + 1)) P2 (fun (I12 : zI) (P12 : zP) => (j_X2_takeTurn_134 K I12 P12))) else (if nI (cb m p) = 42 then (w_X2_doGive (119 + 3 * rest.length) (zu I2 v4 6 ((I2 v4 6) + 1)) P2 (fun (I11 : zI) (P11 : zP) => (j_X2_takeTurn_134 K I11 P11))) else (w_X9_shortOf (nI (cb m p)) (zu I2 v4 6 ((I2 v4 6) + 1)) P2 (fun (v9 : Int32) (I9 : zI) (P9 : zP) => (w_X2_doInstruction (119 + 3 * rest.length) v9 I9 P9 (fun (I10 : zI) (P10 : zP) => (j_X2_takeTurn_134 K I10 P10))))))))))) := by
      unfold coT
      have a40 : (nI (cb m p) = 40) = (cb m p = 40) := propext (by rw [q_lit 40]; exact nI_eq (by omega) (by decide))
      have a42 : (nI (cb m p) = 42) = (cb m p = 42) := propext (by rw [q_lit 42]; exact nI_eq (by omega) (by decide))
      simp only [a40, a42]
    rw [e] at q
    exact q
  have FM : ∀ Gb, I1 Gb → ∀ I P K, MR Gb k lim ((m, p, s, l) :: rest) n z th ko Q I → w_X10_ahead (nI m) (nI p) (nI (cb m p)) I P (fun v2 I2 P2 => if v2 = 0 then (if (I2 155 53) = (I2 155 51) then (K (zu I2 155 52 2) P2) else (w_X10_done (nI m) (nI p) (nI (cb m p)) (nI p0) (zu (zu I2 155 53 ((I2 155 53) + 1)) 155 65 0) P2 (fun v5 I5 P5 => (if (I5 155 65) = 0 then (if ((I5 155 54) - 1) = ((I2 155 54) - 1) then (if (I5 155 52) = (-1) then (if nI (cb m p) = 42 then (K I5 P5) else (w_X10_behind (nI m) (nI p) (nI (cb m p)) v5 I5 P5 (fun I10 P10 => (K I10 P10)))) else (K I5 P5)) else (K I5 P5)) else (w_X10_isThrown (zu (zu I5 155 66 (nI m)) 155 67 (nI p0)) P5 (fun I11 P11 => (K I11 P11))))))) else K I2 P2) → w_X10_step I P K := fun Gb hGb I P K h kk => by
    refine M_front (cb := cb) (og := og) h.1 (c2 Gb hGb) hp (c4 Gb hGb) (fun e2 e3 => absurd ⟨e2, e3⟩ hcb) (fun _ => ?_)
    rw [hog, oM_s]
    unfold j_X10_step_74
    exact zin nm1 kk
  have H39 : cb m p = 35 ∨ cb m p = 39 → stf (cb m p) (cb m (p + 1)) s n ∧ (cb m p = 35 → p + 1 < ln m ∧ cb m (p + 1) = cb m (p + 1)) := fun e => ⟨(h39 e).2, fun _ => ⟨(h39 e).1, rfl⟩⟩
  have M39 : cb m p = 35 ∨ cb m p = 39 → p + 1 < ln m ∧ stf (cb m p) (cb m (p + 1)) s n ∧ (cb m p = 35 → cb m (p + 1) = cb m (p + 1)) := fun e => ⟨(h39 e).1, (h39 e).2, fun _ => rfl⟩
  have H16 : ∀ I : zI, k = 2 → zu I 114 16 (nI p0) 114 16 = nI p := fun I e2 => by rw [zu_same, p0p e2]
  by_cases hf : ∃ q, q < wt m ∧ fires B m p X (n, z) q
  · left
    obtain ⟨q, hq, fq, no⟩ := fst_ex _ hf
    have e2 := k2 q hq
    have u1 : ∀ q', fires B m p X (n, z) q' → (∀ i, i < q' → ¬ fires B m p X (n, z) i) → q' = q := fun q' f' no' => by
      rcases Nat.lt_trichotomy q' q with e | e | e
      · exact absurd f' (no q' e)
      · exact e
      · exact absurd fq (no' q e)
    obtain ⟨x1, x2, x3⟩ := hC.2.2.2.2.1 q (by omega)
    obtain ⟨x4, x5, x6, x7, x8, x9⟩ := x3 fq.1.1
    obtain ⟨a1, a2, a3, a4, a5, a6⟩ := ap_i (B := B) (m := m) (p := p) (t := (n, z)) (q + 1)
    obtain ⟨i1, i2, i3, i4, i5, i6⟩ := ap_i (B := B) (m := m) (p := p) (t := (n, z)) q
    dsimp only at a1 a2 a3 a4 a5 a6 i4
    have ex : (apT B m p (n, z) (q + 1)).1 (50 + q) = n (50 + q) + 1 := by
      rw [apT, if_neg (fun y => by have := y.1; have := fq.1.1; omega), if_pos fq.1]
      show up1 _ _ _ _ = _
      rw [up1_s, i4 _ (Nat.le_refl _)]
    have fX := fq.2
    dsimp only at fX
    refine thr_trn (n := (apT B m p (n, z) (q + 1)).1) (z := (apT B m p (n, z) (q + 1)).2) (kd := Y q) (m := m) (p := p) (l := l) (rest := rest) (L := L) (a := nI p0) (b := nI m) hC ⟨x8, by omega⟩ hm hp2 hv (by rw [a3 2 (by omega) (by omega)]; exact t4) (by rw [a3 2 (by omega) (by omega)]; exact t5) t1 ⟨N1, N2, N3, N4, N5, N6⟩ (by rw [a3 0 (by omega) (by omega)]; exact N1) (by rw [a3 2 (by omega) (by omega)]; exact N3) (by omega) (fun q' _ => (a6 _ (by omega)).2) (fun r hr => ?_) (fun d r' hd hr' => ?_) (fun I P K h kk => ?_) (fun Gb hGb I P K h kk => ?_)
    · rw [a3 2 (by omega) (by omega)] at hr
      rw [a3 _ (by omega) (by omega)]; exact N6 r hr
    · have := ufn_lt (X := X) (n := n) (n' := (apT B m p (n, z) (q + 1)).1) (f := q) 24 (fun q' _ => (a6 _ (by omega)).1) (by omega) (by omega) (by omega)
      rw [t7]; unfold phi
      rw [a3 0 (by omega) (by omega)]; omega
    · show w_X2_takeTurn (119 + 3 * (rest.length + 1 - 1)) I P K
      rw [Nat.add_sub_cancel]
      refine FL I P K h (fun h' => L_may (X := X) (Y := Y) hC hm hp h'.1 h'.2.1 rfl (fun e2 => h22 (v0 e2)) (H16 I) h42 H39 hb30 (by omega) (fun _ q' hq' f' no' J hJ t => ?_) (fun no' => absurd fq (no' q hq)))
      obtain rfl := u1 q' f' no'
      unfold j_X2_mayBegin_14
      refine zin (by rw [t.1]; first | omega | decide | (simp (maxSteps := 400000) (disch := omega) only [q_lit, q_neg, nI_ltI, nI_leI, nI_eq, nI_add, pk_mul, pk_sub, nI_clamp, vp_q, zu_same, zu_nc, zu_nj, ng_lt, ng_le, ng_gt, ng_ge, ng_eq, ng_qe, ng_ee, ng_add, not_false_eq_true, not_true_eq_false, ne_eq]; done) | (simp (maxSteps := 400000) (disch := omega) only [q_lit, q_neg, nI_ltI, nI_leI, nI_eq, nI_add, pk_mul, pk_sub, nI_clamp, vp_q, zu_same, zu_nc, zu_nj, ng_lt, ng_le, ng_gt, ng_ge, ng_eq, ng_qe, ng_ee, ng_add, not_false_eq_true, not_true_eq_false, ne_eq]; omega)) (zip rfl (kk J s hJ t.1 ?_ t.2.2.1 ⟨?_, ?_, ?_, ?_⟩))
      · rw [t.2.1, zu_same]
      · rw [t.2.2.2 4 (by omega)]; exact h'.2.2.1.1
      · rw [t.2.2.2 5 (by omega)]; exact h'.2.2.1.2.1
      · rw [t.2.2.2 9 (by omega)]; exact h'.2.2.1.2.2.1
      · rw [t.2.2.2 10 (by omega)]; exact h'.2.2.1.2.2.2
    · refine FM Gb hGb I P K h (M_may (X := X) (Y := Y) hC hGb hm hp h.1 rfl h42 M39 hb30 (by omega) (fun _ q' hq' f' no' J hJ u1' u2 u3 u4 => isT_n ?_) (fun no' => absurd fq (no' q hq)))
      obtain rfl := u1 q' f' no'
      exact kk J s hJ u1' u2 (by rw [u3, p0p e2]) (by rw [u4]; exact h.2.1)
  · have no : ∀ i, i < wt m → ¬ fires B m p X (n, z) i := fun i hi a => hf ⟨i, hi, a⟩
    obtain ⟨⟨y1, y2⟩, y3, y4, y5⟩ := n1_i (B := B) (n := n) (z := z) (m := m) (op := cb m p) (p := p) (w := wt m) (x := lv (s.headD (Sum.inl 0)))
    have y0 := y3 0 (by omega) (by omega)
    by_cases hl : n 0 < lim
    · right
      have ns : Nst n (up1 (n1M B m (cb m p) p n z (wt m)) 0 (n1M B m (cb m p) p n z (wt m) 0 + 1)) := ⟨by rw [up1_s, y0], ⟨by rw [up1_n (by omega)]; exact y1, by rw [up1_n (by omega)]; omega⟩, fun i h1 h2 h3 => by rw [up1_n h3]; exact y3 i h1 h2, fun i hi => by rw [up1_n (by omega)]; exact y4 i hi⟩
      have kp : ∃ ko1 Q1, Kp k wt B m p (cb m p) (cb m (p + 1)) s n z ko Q ko1 Q1 ∧ (k = 2 → ∀ kc ov q, ko1 = some (kc, ov) → Q1 q → (stc (cb m p) (cb m (p + 1)) s n kc ∧ ov = kcv kc z) ∧ q < wt m ∧ atq B m 4 p q) := by
        by_cases e2 : k = 2
        · obtain ⟨ko', k1, k2'⟩ := ko_ex (z := z) (n := n) (c := cb m p) (b := cb m (p + 1)) (s := s) N3 N6
          exact ⟨ko', fun q => q < wt m ∧ atq B m 4 p q, ⟨fun e => absurd e2 e, fun _ => ⟨k1, fun q h1 h2 => ⟨h1, h2⟩⟩⟩, fun _ kc ov q e hq => ⟨k2' kc ov e, hq⟩⟩
        · exact ⟨ko, Q, ⟨fun _ => ⟨rfl, rfl⟩, fun e => absurd e e2⟩, fun e => absurd e e2⟩
      obtain ⟨ko1, Q1, kp1, kp2⟩ := kp
      refine ⟨_, z1M B m (cb m p) p (lv (s.headD (Sum.inl 0))) n z (wt m), ko1, Q1, ns, hl, y5, kp1, fun I P K h kk => ?_, fun Gb hGb I P K h kk => ?_⟩
      · refine FL I P K h (fun h' => L_may (X := X) (Y := Y) hC hm hp h'.1 h'.2.1 rfl (fun e2 => h22 (v0 e2)) (H16 I) h42 H39 hb30 (by omega) (fun _ q' hq' f' _ => absurd f' (no q' hq')) (fun _ J hJ g gI gk => ?_))
        have hk := hJ.1.1
        have y6 := hJ.1.2.2.2.1
        have s6 : J (93 + 5 * k) 6 = nI (n1M B m (cb m p) p n z (wt m) 0) := hJ.2.2.2.2.2.2.2.2.2.1
        have l8 : J 114 8 = nI lim := hJ.1.2.2.2.2.2.2
        unfold j_X2_mayBegin_14
        refine zip (by rw [g.1 10 (by omega) (by omega) (by omega)]; exact h'.2.1) ⟨_, y6, shT hk, zip ?_ (zin (by decide) ⟨_, y6, shT hk, ?_⟩)⟩
        · rw [s6, l8, y0]; first | omega | decide | (simp (maxSteps := 400000) (disch := omega) only [q_lit, q_neg, nI_ltI, nI_leI, nI_eq, nI_add, pk_mul, pk_sub, nI_clamp, vp_q, zu_same, zu_nc, zu_nj, ng_lt, ng_le, ng_gt, ng_ge, ng_eq, ng_qe, ng_ee, ng_add, not_false_eq_true, not_true_eq_false, ne_eq]; done) | (simp (maxSteps := 400000) (disch := omega) only [q_lit, q_neg, nI_ltI, nI_leI, nI_eq, nI_add, pk_mul, pk_sub, nI_clamp, vp_q, zu_same, zu_nc, zu_nj, ng_lt, ng_le, ng_gt, ng_ge, ng_eq, ng_qe, ng_ee, ng_add, not_false_eq_true, not_true_eq_false, ne_eq]; omega)
        · rw [s6, nI_1]
          have h2 := SL_stp hJ (by rw [y0]; omega)
          refine kk _ (LR_kp h' h2 ⟨fun j j1 j2 j3 => ?_, fun j hj => ?_⟩ (fun kc ov q e hq => ?_)) ?_
          · rw [zu_nc (by omega)]; exact g.1 j j1 j2 j3
          · rw [zu_nj (by omega)]; exact g.2 j hj
          · by_cases e2 : k = 2
            · obtain ⟨⟨f1, f2⟩, f3⟩ := kp2 e2 kc ov q e hq
              obtain ⟨f4, f5⟩ := gk e2 ⟨q, f3⟩ kc f1
              exact ⟨kcL_l N3 ns.2.2.1 (kcL_c f4 (fun _ _ => rfl) (zu_nc (by omega))), by rw [zu_nc (by omega), f5, f2]⟩
            · obtain ⟨rfl, rfl⟩ := kp1.1 e2
              obtain ⟨f4, f5⟩ := h'.2.2.2.2 kc ov q e hq
              rw [gI e2]
              exact ⟨kcL_l N3 ns.2.2.1 (kcL_c f4 (fun _ _ => rfl) (zu_nc (by omega))), by rw [zu_nc (by omega)]; exact f5⟩
          · rw [zu_nc (by omega), g.1 16 (by omega) (by omega) (by omega), zu_same]
      · refine FM Gb hGb I P K h (M_may (X := X) (Y := Y) hC hGb hm hp h.1 rfl h42 M39 hb30 (by omega) (fun _ q' hq' f' _ => absurd f' (no q' hq')) (fun _ J hJ g gI gk => zip rfl ?_))
        obtain ⟨hfl, e1⟩ := M_f1 hJ
        have s53 : J 155 53 = nI (n1M B m (cb m p) p n z (wt m) 0) := hJ.2.2.2.2.2.2.2.2.2.1
        have l51 : J 155 51 = nI lim := hJ.1.2.2.2.2
        rw [e1]
        refine zin (by rw [s53, l51, y0]; first | omega | decide | (simp (maxSteps := 400000) (disch := omega) only [q_lit, q_neg, nI_ltI, nI_leI, nI_eq, nI_add, pk_mul, pk_sub, nI_clamp, vp_q, zu_same, zu_nc, zu_nj, ng_lt, ng_le, ng_gt, ng_ge, ng_eq, ng_qe, ng_ee, ng_add, not_false_eq_true, not_true_eq_false, ne_eq]; done) | (simp (maxSteps := 400000) (disch := omega) only [q_lit, q_neg, nI_ltI, nI_leI, nI_eq, nI_add, pk_mul, pk_sub, nI_clamp, vp_q, zu_same, zu_nc, zu_nj, ng_lt, ng_le, ng_gt, ng_ge, ng_eq, ng_qe, ng_ee, ng_add, not_false_eq_true, not_true_eq_false, ne_eq]; omega)) ?_
        rw [s53, nI_1]
        have h2 := SM_stp hJ (by rw [y0]; omega)
        refine kk _ ⟨SM_aux h2 (fun c j a b => zu_ne (by omega)), ?_, fun a b e => ?_, fun kc ov q e hq => ?_⟩ zu_same
        · rw [zu_nj (by omega), zu_nj (by omega), g 52 (by omega)]; exact h.2.1
        · rw [zu_nj (by omega), zu_nj (by omega), zu_nj (by omega), zu_nj (by omega), g 67 (by omega), g 66 (by omega)]; exact h.2.2.1 a b e
        · rw [zu_nc (by omega), zu_nc (by omega)]
          by_cases e2 : k = 2
          · obtain ⟨⟨f1, f2⟩, f3⟩ := kp2 e2 kc ov q e hq
            obtain ⟨f4, f5⟩ := gk e2 q f3.1 f3.2 kc f1
            exact ⟨kcM_l N3 ns.2.2.1 (kcM_q f4 (by rw [zu_nc (by omega), zu_nc (by omega)]) (by rw [zu_nc (by omega), zu_nc (by omega)])), by rw [f5, f2]⟩
          · obtain ⟨rfl, rfl⟩ := kp1.1 e2
            obtain ⟨f4, f5⟩ := h.2.2.2 kc ov q e hq
            rw [gI e2 205 q (by omega)]
            exact ⟨kcM_l N3 ns.2.2.1 (kcM_q f4 (by rw [zu_nc (by omega), zu_nc (by omega)]; exact gI e2 206 q (by omega)) (by rw [zu_nc (by omega), zu_nc (by omega)]; exact gI e2 207 q (by omega))), f5⟩
    · left
      refine Or.inr ⟨(m, p, s, l) :: rest, n1M B m (cb m p) p n z (wt m), z1M B m (cb m p) p (lv (s.headD (Sum.inl 0))) n z (wt m), 2, 0, -1, -1, by decide, fun I P K h kk => ?_, fun Gb hGb I P K h kk => ?_⟩
      · show w_X2_takeTurn (119 + 3 * (rest.length + 1 - 1)) I P K
        rw [Nat.add_sub_cancel]
        refine FL I P K h (fun h' => L_may (X := X) (Y := Y) hC hm hp h'.1 h'.2.1 rfl (fun e2 => h22 (v0 e2)) (H16 I) h42 H39 hb30 (by omega) (fun _ q' hq' f' _ => absurd f' (no q' hq')) (fun _ J hJ g gI gk => ?_))
        have hk := hJ.1.1
        have y6 := hJ.1.2.2.2.1
        have s6 : J (93 + 5 * k) 6 = nI (n1M B m (cb m p) p n z (wt m) 0) := hJ.2.2.2.2.2.2.2.2.2.1
        have l8 : J 114 8 = nI lim := hJ.1.2.2.2.2.2.2
        have j10 : J 114 10 = 0 := by rw [g.1 10 (by omega) (by omega) (by omega)]; exact h'.2.1
        unfold j_X2_mayBegin_14
        refine zip j10 ⟨_, y6, shT hk, zin ?_ ⟨_, y6, shT hk, zip rfl ?_⟩⟩
        · rw [s6, l8, y0]; first | omega | decide | (simp (maxSteps := 400000) (disch := omega) only [q_lit, q_neg, nI_ltI, nI_leI, nI_eq, nI_add, pk_mul, pk_sub, nI_clamp, vp_q, zu_same, zu_nc, zu_nj, ng_lt, ng_le, ng_gt, ng_ge, ng_eq, ng_qe, ng_ee, ng_add, not_false_eq_true, not_true_eq_false, ne_eq]; done) | (simp (maxSteps := 400000) (disch := omega) only [q_lit, q_neg, nI_ltI, nI_leI, nI_eq, nI_add, pk_mul, pk_sub, nI_clamp, vp_q, zu_same, zu_nc, zu_nj, ng_lt, ng_le, ng_gt, ng_ge, ng_eq, ng_qe, ng_ee, ng_add, not_false_eq_true, not_true_eq_false, ne_eq]; omega)
        · unfold j_X2_takeTurn_134
          refine zip (by rw [zu_nc (by omega)]; exact j10) (kk _ P ⟨SL_tl hJ (fun c j a => zu_ne (by omega)), zu_same, ?_, ?_, ?_⟩)
          · rw [zu_nj (by omega), g.2 5 (by omega)]; exact h'.2.2.1.2.1
          · rw [zu_nj (by omega), g.2 9 (by omega)]; exact h'.2.2.1.2.2.1
          · rw [zu_nj (by omega), g.2 10 (by omega)]; exact h'.2.2.1.2.2.2
      · refine FM Gb hGb I P K h (M_may (X := X) (Y := Y) hC hGb hm hp h.1 rfl h42 M39 hb30 (by omega) (fun _ q' hq' f' _ => absurd f' (no q' hq')) (fun _ J hJ g gI gk => zip rfl ?_))
        have s53 : J 155 53 = nI (n1M B m (cb m p) p n z (wt m) 0) := hJ.2.2.2.2.2.2.2.2.2.1
        have l51 : J 155 51 = nI lim := hJ.1.2.2.2.2
        refine zip (by rw [s53, l51, y0, show n 0 = lim by omega]) (kk _ ⟨SM_aux hJ (fun c j a b => zu_ne (by omega)), zu_same, Or.inl ⟨rfl, rfl, rfl, rfl⟩⟩)
end
