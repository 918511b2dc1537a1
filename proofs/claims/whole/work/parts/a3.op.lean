/-! PURE 89: RUN: turns at plain INSTRUCTIONS, jumps, TABLES -/
theorem eff_T {c b : Nat} {ar : Nat → Nat} {S s2 : List Nat} {L l2 : Nat → Nat} (hc : ¬ (3 ≤ c ∧ c ≤ 8) ∧ c ≠ 40) (h : eff c b ar S L = some (s2, l2)) : effT c S = some s2 ∧ l2 = L := by
  unfold eff at h
  rw [if_neg (by omega), if_neg (by omega), if_neg (by omega), if_neg (by omega), if_neg (by omega), if_neg (by omega), if_neg (by omega)] at h
  cases e : effT c S with
  | none => rw [e] at h; exact absurd h (by simp)
  | some x =>
    rw [e] at h
    simp only [Option.map_some, Option.some.injEq, Prod.mk.injEq] at h
    exact ⟨by rw [h.1], h.2.symm⟩
theorem eff_top {c b : Nat} {ar : Nat → Nat} {S s2 : List Nat} {L l2 : Nat → Nat} (hc : c = 1 ∨ c = 2 ∨ (9 ≤ c ∧ c ≤ 19) ∨ c = 34 ∨ c = 37 ∨ c = 38) (h : eff c b ar S L = some (s2, l2)) : ∃ t, s2 = 1 :: t := by
  obtain ⟨e, -⟩ := eff_T (by omega) h
  unfold effT at e
  obtain ⟨a, -, e⟩ := bind_o e
  obtain ⟨b, -, e⟩ := bind_o e
  have p1 : pts c = 1 := by unfold pts; rw [if_neg (by omega), if_pos hc]
  rw [p1, if_neg (by decide)] at e
  exact ⟨_, (psh_o e).2⟩
theorem eff_39 {b : Nat} {ar : Nat → Nat} {S s2 : List Nat} {L l2 : Nat → Nat} (h : eff 39 b ar S L = some (s2, l2)) : ∃ t, S = 1 :: 1 :: 2 :: t := by
  obtain ⟨e, -⟩ := eff_T (by omega) h
  have e : (popI 2 S).bind (fun s1 => (popR 39 s1).bind some) = some s2 := e
  obtain ⟨a, e1, e⟩ := bind_o e
  obtain ⟨b, e2, e⟩ := bind_o e
  exact ⟨b, by rw [pop2 e1, popr (by decide) e2]⟩
theorem eff_j {c b : Nat} {ar : Nat → Nat} {S s2 : List Nat} {L l2 : Nat → Nat} (hc : 20 ≤ c ∧ c ≤ 32) (h : eff c b ar S L = some (s2, l2)) : l2 = L ∧ ((c = 20 ∧ S = s2) ∨ (21 ≤ c ∧ c ≤ 26 ∧ S = 1 :: s2) ∨ (27 ≤ c ∧ c ≤ 32 ∧ S = 1 :: 1 :: s2)) := by
  obtain ⟨e, el⟩ := eff_T (by omega) h
  refine ⟨el, ?_⟩
  unfold effT at e
  obtain ⟨a, e1, e⟩ := bind_o e
  obtain ⟨b, e2, e⟩ := bind_o e
  have p0 : pts c = 0 := by unfold pts; rw [if_neg (by omega), if_neg (by omega)]
  rw [p0, if_pos rfl] at e
  injection e with e
  unfold popR at e2
  rw [if_neg (by omega)] at e2
  injection e2 with e2
  subst e
  subst e2
  by_cases c20 : c = 20
  · left
    have : tki c = 0 := by rw [c20]; rfl
    rw [this] at e1
    injection e1 with e1
    exact ⟨c20, e1⟩
  · by_cases c26 : c ≤ 26
    · right; left
      have : tki c = 1 := by unfold tki; rw [if_neg (by omega), if_pos (by omega)]
      rw [this] at e1
      exact ⟨by omega, c26, pop1 e1⟩
    · right; right
      have : tki c = 2 := by unfold tki; rw [if_pos (by omega)]
      rw [this] at e1
      exact ⟨by omega, by omega, pop2 e1⟩
theorem no40 {c : Nat} (h : c = 1 ∨ c = 2 ∨ (9 ≤ c ∧ c ≤ 19) ∨ c = 34 ∨ c = 37 ∨ c = 38 ∨ c = 40) (h' : c ≠ 40) : c = 1 ∨ c = 2 ∨ (9 ≤ c ∧ c ≤ 19) ∨ c = 34 ∨ c = 37 ∨ c = 38 := by omega
section
variable {I0 I Gb : zI} {I1 : zI → Prop} {k lim kp nm : Nat} {wv wt hn ln ar X Y : nuN} {cb hd B ho og : Nat → Nat → Nat} {xq : Nat → Int32} {Pl : PlT} {n n2 : nuN} {z z2 : nuZ} {P : zP}
theorem Nx_l {m p ρ : Nat} {S : List Nat} {L : Nat → Nat} {φ : Zn → Prop} (hPl : PlOk Pl I0 wv hn ln ar cb hd B ho og kp nm) (nx : Nxt Pl m p S L ρ φ) : p < ln m := by
  obtain ⟨L', r', z', h, -⟩ := nx
  exact (hPl.1 _ _ _ _ _ _ h).2.1
theorem tI_pl {m p ph r p0 : Nat} {s : List Va} {l : Nat → Va} {rest : List Frm} {S s2 : List Nat} {L l2 : Nat → Nat} {zn : Zn} {th : Th} {ko : Ko} {Q : Nat → Prop} (hC : Cg I0 I1 k wv wt hn ln ar X Y cb hd B ho og xq kp nm) (hPl : PlOk Pl I0 wv hn ln ar cb hd B ho og kp nm) (hT : Top Pl cb hd hn nm X lim ph m p s l rest S L r zn n z th ko Q) (hm : m < nm) (hp : p < ln m) (hp2 : p < 1000) (hg : gs S) (hgl : gl L) (hzn : wv m = 0 → zNo zn) (h22 : wv m = 0 → ¬ I0 (22 + 12 * m) p = 0) (hv : Hcv Pl hd hn m p L) (hho : ho m p = p0 + 1) (hog : og m p = p0 + 1) (hp0 : p0 < 400) (hc : cb m p < 44) (hx : ¬ (20 ≤ cb m p ∧ cb m p ≤ 33) ∧ cb m p ≠ 40 ∧ cb m p ≠ 42) (hfx : p + fxz (cb m p) ≤ ln m) (hfit : (cb m p = 3 ∨ cb m p = 4 ∨ cb m p = 5 → cb m (p + 1) < 12) ∧ (cb m p = 34 ∨ cb m p = 35 → cb m (p + 1) < 8)) (he : eff (cb m p) (cb m (p + 1)) ar S L = some (s2, l2)) (nx : cb m p ≠ 41 → Nxt Pl m (p + fxz (cb m p)) s2 l2 98 (fun z' => z'.1 ≠ 1 ∧ ∀ q, z'.2.2.2 q → z'.1 = 3 ∧ (cb m p = 35 ∨ cb m p = 39) ∧ zn.1 = 2 ∧ zn.2.1 = cb m p ∧ (cb m p = 35 → zn.2.2.1 = cb m (p + 1)) ∧ zn.2.2.2 q)) : Trn Pl cb hd hn nm X lim I0 I1 k wv ph ((m, p, s, l) :: rest) n z th ko Q := by
  have hT' := hT
  obtain ⟨t1, t2, t3, t4, t5, t6, t7, t8⟩ := hT
  obtain ⟨N1, N2, N3, N4, N5, N6⟩ := t8
  obtain ⟨c1, c2, c3, c4⟩ := Cg_m hC hm hp
  obtain ⟨d1, d2, d3, d4, d5, d6⟩ := hC.2.2.2.1 m hm
  have hn0 := (hC.1.2.2 m hm).1
  have g4 := (hC.1.2.2 m hm).2.2.2.1
  have h39 : cb m p = 35 ∨ cb m p = 39 → p + 1 < ln m ∧ stf (cb m p) (cb m (p + 1)) s n := fun e => by
    rcases e with e | e
    · have : fxz (cb m p) = 2 := by rw [e]; rfl
      exact ⟨by omega, Or.inl ⟨e, hfit.2 (Or.inr e)⟩⟩
    · have := Nx_l hPl (nx (by omega))
      have f1 : fxz (cb m p) = 1 := by rw [e]; rfl
      rw [e] at he
      obtain ⟨S', eS⟩ := eff_39 he
      subst eS
      obtain ⟨y, s1, e1, q1⟩ := TyS_i t3
      obtain ⟨x, s2, e2, q2⟩ := TyS_i q1
      obtain ⟨w, s3, e3, q3, -⟩ := TyS_r q2
      exact ⟨by omega, Or.inr ⟨e, Sum.inl y, x, w, s3, by rw [e1, e2, e3], q3⟩⟩
  rcases tI_pk hC hT' hm hp hp2 h22 hv hho hog hp0 (by omega) (fun e => by omega) h39 with h | ⟨n1, z1, ko1, Q1, hPk⟩
  · exact h
  have hPk' := hPk
  obtain ⟨⟨u1, u2, u3, u4⟩, hl, uz, kp, -⟩ := hPk'
  have j2 := u3 2 (by omega) (by omega) (by omega)
  have ss : sho (cb m p) = cb m p := by unfold sho; rw [if_neg (by omega)]
  have pr : ∀ q, q < wt m → ∀ sx, atq B m sx p q → (sx = 4 → cb m p = 35 ∨ cb m p = 39) ∧ (sx = 7 → cb m p = 1 ∨ cb m p = 2 ∨ (9 ≤ cb m p ∧ cb m p ≤ 19) ∨ cb m p = 34 ∨ cb m p = 37 ∨ cb m p = 38 ∨ cb m p = 40) ∧ (sx = 1 → 21 ≤ sho (cb m p) ∧ sho (cb m p) ≤ 32) := fun q hq sx a => by
    obtain ⟨a1, a2, a3⟩ := hC.2.2.2.2.2.2.1 m q hm hq a.2.1
    rw [a.2.2] at a1 a2 a3
    exact ⟨fun e => a1 (by rw [a.1, e]), fun e => a2 (by rw [a.1, e]), fun e => a3 (by rw [a.1, e])⟩
  have cnt : ∀ K I P, w_X2_doInstruction (119 + 3 * rest.length) (nI (cb m p)) I P (fun I10 P10 => j_X2_takeTurn_134 K I10 P10) → coT K (119 + 3 * rest.length) (cb m p) I P := fun K I P q => by
    unfold coT
    rw [if_neg hx.2.1, if_neg hx.2.2]
    exact s_sho (by omega) (by rw [ss]; exact q)
  rcases ex_op (I0 := I0) (I1 := I1) (k := k) (lim := lim) (fs := rest) (n := n1) (z := z1) (s := s) (l := l) c1 c2 hn0 hc hx hfx hfit (by rw [j2]; exact t3) (by rw [j2]; exact t4) hg (fun i => hgl i) (by omega) (fun r hr => by rw [u3 _ (by omega) (by omega) (by omega)]; exact N6 r (by omega)) he with ⟨s', l', n', z', ex, x1, x2, x3, x4, x5, x6, x7, x8, x9, x10, x11, x12⟩ | ⟨kd, ex⟩
  · have nx' := nx x5
    have hps := Nx_p hPl nx'
    have st : cb m p = 35 ∨ cb m p = 39 → ∃ kc, stc (cb m p) (cb m (p + 1)) s n kc ∧ ∀ b, (cb m p = 35 → b = cb m (p + 1)) → stc (cb m p) b s n kc := fun e => by
      rcases e with e | e
      · exact ⟨_, Or.inl ⟨e, rfl⟩, fun b hb => Or.inl ⟨e, by rw [hb e]⟩⟩
      · obtain ⟨y, i, w, t, es, hw, hi⟩ := x12 e
        rw [j2] at hw
        rw [u3 _ (by omega) (by omega) (by omega)] at hi
        exact ⟨_, Or.inr ⟨e, y, i, w, t, es, hw, hi, rfl⟩, fun b _ => Or.inr ⟨e, y, i, w, t, es, hw, hi, rfl⟩⟩
    have fin : ∀ ko2 Q2, (ko2 = none ∨ (ko2 = ko1 ∧ Q2 = Q1 ∧ n' = n1)) → (∀ q, (cb m p = 35 ∨ cb m p = 39) → zn.1 = 2 → zn.2.1 = cb m p → (cb m p = 35 → zn.2.2.1 = cb m (p + 1)) → zn.2.2.2 q → Q2 q ∧ ∃ v, ko2 = some v) → Trn Pl cb hd hn nm X lim I0 I1 k wv ph ((m, p, s, l) :: rest) n z th ko Q := fun ko2 Q2 a b => by
      refine tI_stay (p0 := p0) (jm := 0) (ko2 := ko2) (Q2 := Q2) (n' := n') (z' := z') (s' := s') (l' := l') hC hPl hT' hm hp hp2 hPk (fun I P K h h16 kk => cnt K I P (Ld_pl h.1 c1 hp rfl hc hx ex (fun J hJ g => kk J hJ (sL_w g) (fun ⟨q, hq, aq⟩ => ?_)))) (fun Gb hGb I P K h h65 kk => Md_pl hGb h.1 h65 hc hx hps ex (fun J hJ g => kk J hJ g)) nx' x1 x2 x3 x4 x6 x7 x9 x10 (fun ⟨q, hq, aq⟩ => ?_) (fun ⟨q, hq, aq⟩ => ?_) (Or.inl rfl) hx.2.2 a (fun zn' hz' => ⟨hz'.1, fun q hq => ?_⟩)
      · have := (pr q hq 1 aq).2.2 rfl
        rw [ss] at this
        exact absurd ⟨Nat.le_trans (by decide) this.1, Nat.le_trans this.2 (by decide)⟩ hx.1
      · have := (pr q hq 7 aq).2.1 rfl
        obtain ⟨t, et⟩ := eff_top (no40 this hx.2.1) he
        rw [et] at x1
        obtain ⟨y, r', e', -⟩ := TyS_i x1
        exact ⟨y, r', e'⟩
      · have e := (pr q hq 4 aq).1 rfl
        obtain ⟨kc, hk, -⟩ := st e
        exact ⟨⟨kc, hk⟩, x11 e⟩
      · obtain ⟨y1, y2, y3, y4, y5, y6⟩ := hz'.2 q hq
        exact ⟨y1, b q y2 y3 y4 y5 y6⟩
    by_cases e : cb m p = 35 ∨ cb m p = 39
    · refine fin ko1 Q1 (Or.inr ⟨rfl, rfl, x11 e⟩) (fun q _ y3 y4 y5 y6 => ?_)
      have k2 : k ≠ 2 := fun e2 => by
        have : wv m = 0 := by rw [d4, if_neg (by omega)]
        exact hzn this q y6
      obtain ⟨k3, k4⟩ := kp.1 k2
      rw [k3, k4]
      obtain ⟨kc, -, hk⟩ := st e
      exact ⟨t6.2.1 q y6, _, t6.2.2.1 y3 ⟨q, y6⟩ kc (by rw [y4]; exact hk _ y5)⟩
    · exact fin none (fun _ => False) (Or.inl rfl) (fun q y => absurd y e)
  · have ex' := ex
    obtain ⟨k1, k2, -⟩ := ex'
    exact tI_thr (p0 := p0) (kd := kd) hC hT' hm hp2 hv hPk ⟨k1, k2⟩ (fun I P K h h16 kk => cnt K I P (Ld_th h.1 c1 hp rfl hc hx ex (fun J s' hJ t => kk J s' hJ t))) (fun Gb hGb I P K h h65 kk => Md_th hGb h.1 h65 hc hx ex (fun J s' hJ t => kk J s' hJ t))
/-- no STORE, REPLACE stands here -/
theorem pr_no {m p sx : Nat} (hC : Cg I0 I1 k wv wt hn ln ar X Y cb hd B ho og xq kp nm) (hm : m < nm) (h4 : sx = 4 → cb m p ≠ 35 ∧ cb m p ≠ 39) (h7 : sx = 7 → 20 ≤ cb m p ∧ (cb m p ≤ 33 ∨ 41 ≤ cb m p)) (h1 : sx = 1 → ¬ (21 ≤ sho (cb m p) ∧ sho (cb m p) ≤ 32)) (hs : sx = 4 ∨ sx = 7 ∨ sx = 1) : ¬ ∃ q, q < wt m ∧ atq B m sx p q := fun ⟨q, hq, a⟩ => by
  obtain ⟨a1, a2, a3⟩ := hC.2.2.2.2.2.2.1 m q hm hq a.2.1
  rw [a.2.2] at a1 a2 a3
  rcases hs with e | e | e
  · have := a1 (by rw [a.1, e])
    have := h4 e
    omega
  · have := a2 (by rw [a.1, e])
    have := h7 e
    omega
  · have := a3 (by rw [a.1, e])
    exact h1 e this
theorem tI_jmp {m p ph r p0 t : Nat} {s : List Va} {l : Nat → Va} {rest : List Frm} {S s2 : List Nat} {L l2 : Nat → Nat} {zn : Zn} {th : Th} {ko : Ko} {Q : Nat → Prop} (hC : Cg I0 I1 k wv wt hn ln ar X Y cb hd B ho og xq kp nm) (hPl : PlOk Pl I0 wv hn ln ar cb hd B ho og kp nm) (hT : Top Pl cb hd hn nm X lim ph m p s l rest S L r zn n z th ko Q) (hm : m < nm) (hp : p < ln m) (hp2 : p < 1000) (h22 : wv m = 0 → ¬ I0 (22 + 12 * m) p = 0) (hv : Hcv Pl hd hn m p L) (hho : ho m p = p0 + 1) (hog : og m p = p0 + 1) (hp0 : p0 < 400) (hc : isSt (cb m p) ∨ isLg (cb m p)) (hfx : p + fxz (cb m p) ≤ ln m) (he : eff (sho (cb m p)) (cb m (p + 1)) ar S L = some (s2, l2)) (htg : tgv cb m p 0 = nI t) (ht : t < 1000) (nx1 : Nxt Pl m t s2 l2 98 zOk) (nx0 : sho (cb m p) ≠ 20 → Nxt Pl m (p + fxz (cb m p)) s2 l2 98 zOk) : Trn Pl cb hd hn nm X lim I0 I1 k wv ph ((m, p, s, l) :: rest) n z th ko Q := by
  have hT' := hT
  obtain ⟨t1, t2, t3, t4, t5, t6, t7, t8⟩ := hT
  obtain ⟨N1, N2, N3, N4, N5, N6⟩ := t8
  obtain ⟨c1, c2, c3, c4⟩ := Cg_m hC hm hp
  have hm6 : m < 6 := by have := hC.1.1; omega
  have cs : 20 ≤ sho (cb m p) ∧ sho (cb m p) ≤ 32 := by unfold sho; split <;> omega
  have f2 : isSt (cb m p) → fxz (cb m p) = 2 := fxz_st
  have f3 : isLg (cb m p) → fxz (cb m p) = 3 := fxz_lg
  have h1 : isSt (cb m p) → p + 1 < ln m := fun e => by have := f2 e; omega
  have h2 : isLg (cb m p) → p + 2 < ln m := fun e => by have := f3 e; omega
  have b256 := (c1.2.2 p hp).1
  have c33 : cb m p ≠ 33 := by omega
  rcases tI_pk hC hT' hm hp hp2 h22 hv hho hog hp0 (by omega) (fun e => by omega) (fun e => by omega) with h | ⟨n1, z1, ko1, Q1, hPk⟩
  · exact h
  have hPk' := hPk
  obtain ⟨⟨u1, u2, u3, u4⟩, hl, uz, kp, -⟩ := hPk'
  have j2 := u3 2 (by omega) (by omega) (by omega)
  obtain ⟨el, eS⟩ := eff_j cs he
  have hj : ∃ s' b, jmO (sho (cb m p)) s s' b ∧ TyS (n 2) s' s2 ∧ (sho (cb m p) = 20 → b) := by
    rcases eS with ⟨e, eS⟩ | ⟨e, e', eS⟩ | ⟨e, e', eS⟩
    · exact ⟨s, True, Or.inl ⟨e, rfl, trivial⟩, by rw [← eS]; exact t3, fun _ => trivial⟩
    · rw [eS] at t3
      obtain ⟨x, r', e1, q1⟩ := TyS_i t3
      exact ⟨r', _, Or.inr (Or.inl ⟨e, e', x, e1, Iff.rfl⟩), q1, fun e => by omega⟩
    · rw [eS] at t3
      obtain ⟨x, r', e1, q1⟩ := TyS_i t3
      obtain ⟨y, r2, e2, q2⟩ := TyS_i q1
      exact ⟨r2, _, Or.inr (Or.inr ⟨e, e', x, y, by rw [e1, e2], Iff.rfl⟩), q2, fun e => by omega⟩
  obtain ⟨s', b, hj, hS, hb20⟩ := hj
  have LL : ∀ I P K, LR I0 k lim wv ((m, p, s, l) :: rest) n1 z1 th ko1 Q1 I P → (b → ∀ J, SL I0 k lim wv ((m, p, s', l) :: rest) n1 z1 J P → sL' k I J → J 114 15 = 1 → j_X2_doInstruction_110 (fun I10 P10 => j_X2_takeTurn_134 K I10 P10) (119 + 3 * rest.length) (nI t) J P) → (¬ b → ∀ J, SL I0 k lim wv ((m, p, s', l) :: rest) n1 z1 J P → sL' k I J → J 114 15 = 0 → j_X2_doInstruction_110 (fun I10 P10 => j_X2_takeTurn_134 K I10 P10) (119 + 3 * rest.length) (nI (p + fxz (cb m p))) J P) → coT K (119 + 3 * rest.length) (cb m p) I P := fun I P K h q1 q0 => by
    obtain ⟨e, hf, -, -⟩ := L_pl h.1
    unfold coT
    rw [if_neg (by omega), if_neg (by omega)]
    refine s_sho b256 ?_
    unfold w_X2_doInstruction
    have eo : opz (cb m p) (cb m (p + 1)) = fxz (cb m p) := by unfold opz; rw [if_neg c33]
    refine ⟨shF hf, L_code h.1 c1 ?_⟩
    rw [e]
    refine L_size hm6 h.1 c1 hp (fun q => by omega) ?_
    rw [eo, nI_add]
    exact zip (by first | omega | decide | (simp (maxSteps := 400000) (disch := omega) only [q_lit, q_neg, nI_ltI, nI_leI, nI_eq, nI_add, pk_mul, pk_sub, nI_clamp, vp_q, zu_same, zu_nc, zu_nj, ng_lt, ng_le, ng_gt, ng_ge, ng_eq, ng_qe, ng_ee, ng_add, not_false_eq_true, not_true_eq_false, ne_eq]; done) | (simp (maxSteps := 400000) (disch := omega) only [q_lit, q_neg, nI_ltI, nI_leI, nI_eq, nI_add, pk_mul, pk_sub, nI_clamp, vp_q, zu_same, zu_nc, zu_nj, ng_lt, ng_le, ng_gt, ng_ge, ng_eq, ng_qe, ng_ee, ng_add, not_false_eq_true, not_true_eq_false, ne_eq]; omega)) (zip (by first | omega | decide | (simp (maxSteps := 400000) (disch := omega) only [q_lit, q_neg, nI_ltI, nI_leI, nI_eq, nI_add, pk_mul, pk_sub, nI_clamp, vp_q, zu_same, zu_nc, zu_nj, ng_lt, ng_le, ng_gt, ng_ge, ng_eq, ng_qe, ng_ee, ng_add, not_false_eq_true, not_true_eq_false, ne_eq]; done) | (simp (maxSteps := 400000) (disch := omega) only [q_lit, q_neg, nI_ltI, nI_leI, nI_eq, nI_add, pk_mul, pk_sub, nI_clamp, vp_q, zu_same, zu_nc, zu_nj, ng_lt, ng_le, ng_gt, ng_ge, ng_eq, ng_qe, ng_ee, ng_add, not_false_eq_true, not_true_eq_false, ne_eq]; omega)) (zin (by first | omega | decide | (simp (maxSteps := 400000) (disch := omega) only [q_lit, q_neg, nI_ltI, nI_leI, nI_eq, nI_add, pk_mul, pk_sub, nI_clamp, vp_q, zu_same, zu_nc, zu_nj, ng_lt, ng_le, ng_gt, ng_ge, ng_eq, ng_qe, ng_ee, ng_add, not_false_eq_true, not_true_eq_false, ne_eq]; done) | (simp (maxSteps := 400000) (disch := omega) only [q_lit, q_neg, nI_ltI, nI_leI, nI_eq, nI_add, pk_mul, pk_sub, nI_clamp, vp_q, zu_same, zu_nc, zu_nj, ng_lt, ng_le, ng_gt, ng_ge, ng_eq, ng_qe, ng_ee, ng_add, not_false_eq_true, not_true_eq_false, ne_eq]; omega)) (Lo_jump h.1 c1 hp hc h1 h2 hj (fun _ => htg) q1 q0)))
  have MM : ∀ Gb, I1 Gb → ∀ I P K, MR Gb k lim ((m, p, s, l) :: rest) n1 z1 th ko1 Q1 I → (b → ∀ J, SM Gb k lim ((m, t, s', l) :: rest) n1 z1 J → sM I J → dnK K m p (cb m p) p0 rest.length 1 J P) → (¬ b → ∀ J, SM Gb k lim ((m, p + fxz (cb m p), s', l) :: rest) n1 z1 J → sM I J → dnK K m p (cb m p) p0 rest.length 0 J P) → w_X10_done (nI m) (nI p) (nI (cb m p)) (nI p0) I P (fun v5 I5 P5 => dnK K m p (cb m p) p0 rest.length v5 I5 P5) := fun Gb hGb I P K h q1 q0 => by
    unfold w_X10_done j_X10_done_20
    refine zin (by first | omega | decide | (simp (maxSteps := 400000) (disch := omega) only [q_lit, q_neg, nI_ltI, nI_leI, nI_eq, nI_add, pk_mul, pk_sub, nI_clamp, vp_q, zu_same, zu_nc, zu_nj, ng_lt, ng_le, ng_gt, ng_ge, ng_eq, ng_qe, ng_ee, ng_add, not_false_eq_true, not_true_eq_false, ne_eq]; done) | (simp (maxSteps := 400000) (disch := omega) only [q_lit, q_neg, nI_ltI, nI_leI, nI_eq, nI_add, pk_mul, pk_sub, nI_clamp, vp_q, zu_same, zu_nc, zu_nj, ng_lt, ng_le, ng_gt, ng_ge, ng_eq, ng_qe, ng_ee, ng_add, not_false_eq_true, not_true_eq_false, ne_eq]; omega)) (s_msz0 b256 (by unfold isOpn; omega) c33 (s_mjpT hc (zin (by decide) ?_)))
    rw [nI_add]
    exact Mo_jump h.1 (c2 Gb hGb) hp hc h1 h2 rfl hj (fun _ => ⟨htg, ht⟩) (fun nb => Nx_p hPl (nx0 (fun e => nb (hb20 e)))) (fun y J hJ g => ⟨zbo1, q1 y J hJ g⟩) (fun y J hJ g => ⟨zbo0, q0 y J hJ g⟩)
  have n4 := pr_no (p := p) (sx := 4) hC hm (fun _ => by omega) (fun e => by omega) (fun e => by omega) (by omega)
  have n7 := pr_no (p := p) (sx := 7) hC hm (fun e => by omega) (fun _ => by omega) (fun e => by omega) (by omega)
  by_cases hb : b
  · exact tI_stay (p0 := p0) (jm := 1) (ko2 := none) (Q2 := fun _ => False) (n' := n1) (z' := z1) (s' := s') (l' := l) (p' := t) hC hPl hT' hm hp hp2 hPk (fun I P K h h16 kk => LL I P K h (fun _ J hJ g h15 => kk J hJ g (fun _ => h15)) (fun nb => absurd hb nb)) (fun Gb hGb I P K h h65 kk => MM Gb hGb I P K h (fun _ J hJ g => kk J hJ g) (fun nb => absurd hb nb)) nx1 (by rw [j2]; exact hS) (by rw [j2, el]; exact t4) (Nat.le_refl _) (by omega) (fun _ _ => rfl) rfl rfl (fun r hr => by rw [u3 _ (by omega) (by omega) (by omega)]; exact N6 r (by omega)) (fun y => absurd y n7) (fun y => absurd y n4) (Or.inr rfl) (by omega) (Or.inl rfl) (fun zn' hz' => ⟨hz'.1, fun q hq => absurd hq (hz'.2 q)⟩)
  · exact tI_stay (p0 := p0) (jm := 0) (ko2 := none) (Q2 := fun _ => False) (n' := n1) (z' := z1) (s' := s') (l' := l) (p' := p + fxz (cb m p)) hC hPl hT' hm hp hp2 hPk (fun I P K h h16 kk => LL I P K h (fun y => absurd y hb) (fun _ J hJ g h15 => kk J hJ g (fun _ => h15))) (fun Gb hGb I P K h h65 kk => MM Gb hGb I P K h (fun y => absurd y hb) (fun _ J hJ g => kk J hJ g)) (nx0 (fun e => hb (hb20 e))) (by rw [j2]; exact hS) (by rw [j2, el]; exact t4) (Nat.le_refl _) (by omega) (fun _ _ => rfl) rfl rfl (fun r hr => by rw [u3 _ (by omega) (by omega) (by omega)]; exact N6 r (by omega)) (fun y => absurd y n7) (fun y => absurd y n4) (Or.inl rfl) (by omega) (Or.inl rfl) (fun zn' hz' => ⟨hz'.1, fun q hq => absurd hq (hz'.2 q)⟩)
theorem tI_tab {m p ph r p0 : Nat} {s : List Va} {l : Nat → Va} {rest : List Frm} {S s2 : List Nat} {L : Nat → Nat} {zn : Zn} {th : Th} {ko : Ko} {Q : Nat → Prop} (hC : Cg I0 I1 k wv wt hn ln ar X Y cb hd B ho og xq kp nm) (hPl : PlOk Pl I0 wv hn ln ar cb hd B ho og kp nm) (hT : Top Pl cb hd hn nm X lim ph m p s l rest S L r zn n z th ko Q) (hm : m < nm) (hp : p < ln m) (hp2 : p < 1000) (h22 : wv m = 0 → ¬ I0 (22 + 12 * m) p = 0) (hv : Hcv Pl hd hn m p L) (hho : ho m p = p0 + 1) (hog : og m p = p0 + 1) (hp0 : p0 < 400) (hc : cb m p = 33) (hnb : cb m (p + 1) ≤ 16) (h3 : p + 4 + 2 * cb m (p + 1) ≤ ln m) (eS : S = 1 :: s2) (nx : ∀ i, i ≤ cb m (p + 1) → ∃ t, tgv cb m p i = nI t ∧ t < 1000 ∧ Nxt Pl m t s2 L 98 zOk) : Trn Pl cb hd hn nm X lim I0 I1 k wv ph ((m, p, s, l) :: rest) n z th ko Q := by
  have hT' := hT
  obtain ⟨t1, t2, t3, t4, t5, t6, t7, t8⟩ := hT
  obtain ⟨N1, N2, N3, N4, N5, N6⟩ := t8
  obtain ⟨c1, c2, c3, c4⟩ := Cg_m hC hm hp
  have hm6 : m < 6 := by have := hC.1.1; omega
  rcases tI_pk hC hT' hm hp hp2 h22 hv hho hog hp0 (by omega) (fun e => by omega) (fun e => by omega) with h | ⟨n1, z1, ko1, Q1, hPk⟩
  · exact h
  have hPk' := hPk
  obtain ⟨⟨u1, u2, u3, u4⟩, hl, uz, kp, -⟩ := hPk'
  have j2 := u3 2 (by omega) (by omega) (by omega)
  subst eS
  obtain ⟨x, s', es, hS⟩ := TyS_i t3
  subst es
  obtain ⟨ti, hti, htl⟩ := tb_ex (cb m (p + 1)) x hnb
  obtain ⟨t, htg, ht, nxt⟩ := nx ti htl
  have ss : sho 33 = 33 := rfl
  have n4 := pr_no (p := p) (sx := 4) hC hm (fun _ => by omega) (fun e => by omega) (fun e => by omega) (by omega)
  have n7 := pr_no (p := p) (sx := 7) hC hm (fun e => by omega) (fun _ => by omega) (fun e => by omega) (by omega)
  have n1' := pr_no (p := p) (sx := 1) hC hm (fun e => by omega) (fun e => by omega) (fun _ => by rw [hc, ss]; omega) (by omega)
  refine tI_stay (p0 := p0) (jm := 0) (ko2 := none) (Q2 := fun _ => False) (n' := n1) (z' := z1) (s' := s') (l' := l) (p' := t) hC hPl hT' hm hp hp2 hPk (fun I P K h h16 kk => ?_) (fun Gb hGb I P K h h65 kk => ?_) nxt (by rw [j2]; exact hS) (by rw [j2]; exact t4) (Nat.le_refl _) (by omega) (fun _ _ => rfl) rfl rfl (fun r hr => by rw [u3 _ (by omega) (by omega) (by omega)]; exact N6 r (by omega)) (fun y => absurd y n7) (fun y => absurd y n4) (Or.inl rfl) (by omega) (Or.inl rfl) (fun zn' hz' => ⟨hz'.1, fun q hq => absurd hq (hz'.2 q)⟩)
  · obtain ⟨e, hf, -, -⟩ := L_pl h.1
    unfold coT
    rw [hc, if_neg (by omega), if_neg (by omega)]
    refine s_sho (by omega) ?_
    rw [ss]
    unfold w_X2_doInstruction
    refine ⟨shF hf, L_code h.1 c1 ?_⟩
    rw [e]
    refine L_size hm6 h.1 c1 hp (fun q => by omega) ?_
    rw [nI_add]
    exact zip (by decide) (zip (by decide) (zin (by decide) (Lo_tab h.1 c1 hp hc hnb h3 hti htg (fun J hJ g => kk J hJ (sL_w g) (fun y => absurd y n1')))))
  · rw [hc] at kk ⊢
    exact Mo_tab h.1 (c2 Gb hGb) hp hc hnb h3 hti htg ht (fun J hJ g => kk J hJ g)
end
