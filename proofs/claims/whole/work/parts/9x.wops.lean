/-! PURE 83: RUN: a turn at a woven INSTRUCTION -/
def Top (Pl : PlT) (cb hd : Nat → Nat → Nat) (hn : nuN) (nm : Nat) (X : nuN) (lim ph m p : Nat) (s : List Va) (l : Nat → Va) (rest : List Frm) (S : List Nat) (L : Nat → Nat) (r : Nat) (zn : Zn) (n : nuN) (z : nuZ) (th : Th) (ko : Ko) (Q : Nat → Prop) : Prop :=
  rest.length < 12 ∧ Pl m p S L r zn ∧ TyS (n 2) s S ∧ TyL (n 2) l L ∧ (∀ x, x ∈ rest → FcI Pl cb hd hn nm (n 2) x) ∧ Zin zn s n z th ko Q ∧ ph = phi X lim (rest.length + 1) n r ∧ Num lim ph n
def Trn (Pl : PlT) (cb hd : Nat → Nat → Nat) (hn : nuN) (nm : Nat) (X : nuN) (lim : Nat) (I0 : zI) (I1 : zI → Prop) (k : Nat) (wv : nuN) (ph : Nat) (fs : List Frm) (n : nuN) (z : nuZ) (th : Th) (ko : Ko) (Q : Nat → Prop) : Prop :=
  (∃ ph' fs' n' z' th' ko' Q', ph' < ph ∧ Inv Pl cb hd hn nm X lim ph' fs' n' z' th' ko' Q' ∧ Go I0 I1 k lim wv fs n z th ko Q fs' n' z' th' ko' Q') ∨ (∃ fs' n' z' e a tp tm, Fnd I0 I1 k lim wv fs n z th ko Q fs' n' z' e a tp tm)
section
variable {I0 I Gb : zI} {I1 : zI → Prop} {k lim kp nm : Nat} {wv wt hn ln ar X Y : nuN} {cb hd B ho og : Nat → Nat → Nat} {xq : Nat → Int32} {Pl : PlT} {n n2 : nuN} {z z2 : nuZ} {P : zP}
theorem Cg_m {m p : Nat} (hC : Cg I0 I1 k wv wt hn ln ar X Y cb hd B ho og xq kp nm) (hm : m < nm) (hp : p < ln m) : CdL I0 wv cb ln m ∧ (∀ Gb, I1 Gb → CdM Gb k wv cb ln m) ∧ ((wv m = 0 → ho m p = p + 1) ∧ (wv m ≠ 0 → I0 (28 + 12 * m) p = oM (ho m p))) ∧ (∀ Gb, I1 Gb → (wv m = 0 → og m p = p + 1) ∧ (wv m ≠ 0 → Gb 178 (1000 * m + p) = oM (og m p))) := by
  obtain ⟨c1, c2, c3, c4, c5, c6, c7, c8⟩ := hC
  obtain ⟨d1, d2⟩ := c6 m hm
  exact ⟨(c1.2.2 m hm).2.1, fun Gb hGb => ((c2 Gb hGb).2.2 m hm).1, ⟨fun e => (d1 e p hp).1, fun e => (d2 e p hp).1⟩, fun Gb hGb => ⟨fun e => (d1 e p hp).2, fun e => (d2 e p hp).2 Gb hGb⟩⟩
theorem Nx_p {m p ρ : Nat} {S : List Nat} {L : Nat → Nat} {φ : Zn → Prop} (hPl : PlOk Pl I0 wv hn ln ar cb hd B ho og kp nm) (nx : Nxt Pl m p S L ρ φ) : p < 1000 := by
  obtain ⟨L', r', z', h, -⟩ := nx
  exact (hPl.1 _ _ _ _ _ _ h).2.2.1
theorem tW_go {m p ph r sz : Nat} {s s2 : List Va} {l : Nat → Va} {rest : List Frm} {S : List Nat} {L : Nat → Nat} {zn : Zn} {th : Th} {ko : Ko} {Q : Nat → Prop} {φ : Zn → Prop} (hC : Cg I0 I1 k wv wt hn ln ar X Y cb hd B ho og xq kp nm) (hPl : PlOk Pl I0 wv hn ln ar cb hd B ho og kp nm) (hT : Top Pl cb hd hn nm X lim ph m p s l rest S L r zn n z th ko Q) (hm : m < nm) (hp : p < ln m) (hw : wv m = 1) (hp1 : p + 1 < ln m) (h48 : 48 ≤ cb m p ∧ cb m p ≤ 57) (h49 : cb m p = 49 → p + 2 < ln m) (hsz : (cb m p = 49 ∧ sz = 3) ∨ (cb m p ≠ 49 ∧ sz = 2)) (nx : Nxt Pl m (p + sz) S L r φ)
    (hS : TyS (n 2) s2 S) (h4 : n2 4 ≤ n 4 + 1000) (hi : ∀ i, i ≠ 4 → n2 i = n i) (hz : ∀ zn', φ zn' → Zin zn' s2 n2 z2 th ko Q)
    (goL : ∀ I P K, LR I0 k lim wv ((m, p, s, l) :: rest) n z th ko Q I P → (∀ J, SL I0 k lim wv ((m, p, s2, l) :: rest) n2 z2 J P → sL k I J → j_X2_doWovenOp_190 K (119 + 3 * rest.length) (nI (cb m p)) J P) → ldB K k (119 + 3 * rest.length) (cb m p) (cb m (p + 1)) (cb m (p + 2)) I P)
    (goM : ∀ Gb, I1 Gb → ∀ I P K, MR Gb k lim ((m, p + sz, s, l) :: rest) n z th ko Q I → (∀ J, SM Gb k lim ((m, p + sz, s2, l) :: rest) n2 z2 J → sM I J → K J P) → sdB K (cb m p) m p (cb m (p + 1)) (cb m (p + 2)) I P) : Trn Pl cb hd hn nm X lim I0 I1 k wv ph ((m, p, s, l) :: rest) n z th ko Q := by
  obtain ⟨t1, t2, t3, t4, t5, t6, t7, t8⟩ := hT
  obtain ⟨c1, c2, c3, c4⟩ := Cg_m hC hm hp
  have hps := Nx_p hPl nx
  have b256 := (c1.2.2 p hp).1
  obtain ⟨ph', hlt, hI⟩ := Inv_mk (X := X) (n := n) (n' := n2) (z' := z2) (th := th) (ko := ko) (Q := Q) (s' := s2) (l' := l) (rest := rest) (cb := cb) (hd := hd) (hn := hn) (nm := nm) t8 nx (fun r' hr' => by rw [phi_c hi, t7]; unfold phi; omega) (by rw [hi 2 (by omega)]; exact hS) (by rw [hi 2 (by omega)]; exact t4) (by rw [hi 2 (by omega)]; exact t5) t1 hz (by rw [hi 0 (by omega)]; exact t8.1) (by rw [hi 2 (by omega)]; exact t8.2.2.1) h4 (fun q _ => by rw [hi _ (by omega)]; omega) (fun r hr => by rw [hi _ (by omega)]; exact t8.2.2.2.2.2 r (by rw [hi 2 (by omega)] at hr; exact hr))
  refine Or.inl ⟨ph', _, n2, z2, th, ko, Q, hlt, hI, fun I P K h kk => ?_, fun Gb hGb I P K h kk => ?_⟩
  · show w_X2_takeTurn (119 + 3 * (rest.length + 1 - 1)) I P K
    rw [Nat.add_sub_cancel]
    refine L_front (cb := cb) (ho := ho) h.1 c1 hp c3 (fun _ _ _ => ?_) (fun e => by omega)
    have h' := LR_16 (x := oM (ho m p)) h
    refine L_wop h'.1 c1 hp1 h48 h49 (goL _ P _ h' (fun J hJ g => L_190 (sz := sz) hJ (by rw [g.1 10 (by omega)]; exact h'.2.1) hsz b256 hps (fun J2 hJ2 g2 => kk J2 P (LR_kp h' hJ2 (sK_w (sL_t g g2)) (fun kc ov q e hq => ?_)))))
    obtain ⟨a1, a2⟩ := h'.2.2.2.2 kc ov q e hq
    have g3 := sL_t g g2
    exact ⟨kcL_c a1 hi (g3.1 13 (by omega)), by rw [g3.1 14 (by omega)]; exact a2⟩
  · refine M_front (cb := cb) (og := og) h.1 (c2 Gb hGb) hp (c4 Gb hGb) (fun _ _ => ?_) (fun e => absurd (show 48 ≤ cb m p ∧ cb m p ≤ 58 by omega) e)
    refine M_said (sz := sz) h.1 (c2 Gb hGb) hw hp1 h48 h49 hsz hps (fun J hJ g => goM Gb hGb J P _ (MR_kp h hJ (sV_w g) (fun kc ov q e hq => ?_)) (fun J2 hJ2 g2 => kk J2 (MR_kp h hJ2 (sV_w (sM_t g g2)) (fun kc ov q e hq => ?_))))
    · obtain ⟨a1, a2⟩ := h.2.2.2 kc ov q e hq
      exact ⟨kcM_c a1 (fun _ _ => rfl) g.2, by rw [g.2 _ _ (by omega)]; exact a2⟩
    · obtain ⟨a1, a2⟩ := h.2.2.2 kc ov q e hq
      have g3 := sM_t g g2
      exact ⟨kcM_c a1 hi g3.2, by rw [g3.2 _ _ (by omega)]; exact a2⟩
theorem rcN_4 (n : nuN) : rcN n 4 = n 4 + 1 := up1_s
theorem rcN_i {n : nuN} : ∀ i, i ≠ 4 → rcN n i = n i := fun i h => up1_n h
theorem tW_1 {m p ph r : Nat} {s : List Va} {l : Nat → Va} {rest : List Frm} {S : List Nat} {L : Nat → Nat} {zn : Zn} {th : Th} {ko : Ko} {Q : Nat → Prop} (hC : Cg I0 I1 k wv wt hn ln ar X Y cb hd B ho og xq kp nm) (hPl : PlOk Pl I0 wv hn ln ar cb hd B ho og kp nm) (hT : Top Pl cb hd hn nm X lim ph m p s l rest S L r zn n z th ko Q) (hm : m < nm) (hp : p < ln m) (hw : wv m = 1) (hp1 : p + 1 < ln m) (hq : cb m (p + 1) < kp) (hop :
    (cb m p = 48 ∧ Nxt Pl m (p + 2) S L r zOk) ∨
    (cb m p = 49 ∧ p + 2 < ln m ∧ Nxt Pl m (p + 3) S L r zOk) ∨
    (cb m p = 50 ∧ (∀ i, i < ar m → L i = 1) ∧ Nxt Pl m (p + 2) S L r zOk) ∨
    ((cb m p = 51 ∨ cb m p = 55 ∨ cb m p = 57) ∧ (∃ S', S = 1 :: S') ∧ Nxt Pl m (p + 2) S L r zOk) ∨
    (cb m p = 52 ∧ zn.1 = 1 ∧ Nxt Pl m (p + 2) S L r (fun z' => z'.1 = 1 ∧ zNo z')) ∨
    (cb m p = 54 ∧ zn.1 = 3 ∧ zn.2.2.2 (cb m (p + 1)) ∧ Nxt Pl m (p + 2) S L r (fun z' => z'.1 ≠ 1 ∧ ∀ q, z'.2.2.2 q → z'.1 = 3 ∧ zn.2.2.2 q))) : Trn Pl cb hd hn nm X lim I0 I1 k wv ph ((m, p, s, l) :: rest) n z th ko Q := by
  have hT' := hT
  obtain ⟨t1, t2, t3, t4, t5, t6, t7, t8⟩ := hT
  have t8' := t8
  obtain ⟨N1, N2, N3, N4, N5⟩ := t8
  have k24 := hC.2.2.1
  have r30 : n 4 + 5 < 2 ^ 30 := by omega
  rcases hop with ⟨ec, nx⟩ | ⟨ec, h2, nx⟩ | ⟨ec, ha, nx⟩ | ⟨ec, ⟨S', eS⟩, nx⟩ | ⟨ec, ez, nx⟩ | ⟨ec, ez, hQ, nx⟩
  · refine tW_go (sz := 2) (n2 := rcN n) (z2 := rcZ n z (cb m (p + 1)) 0) (s2 := s) hC hPl hT' hm hp hw hp1 (by omega) (by omega) (by omega) nx t3 (by rw [rcN_4]; omega) rcN_i (fun _ hz => Zin_ok hz) (fun I P K h kk => ?_) (fun Gb hGb I P K h kk => ?_)
    · unfold ldB
      rw [ec, if_pos rfl]
      rw [ec] at kk
      exact L_rcs h.1 (by omega) kk
    · unfold sdB
      rw [ec, if_pos rfl]
      exact M_rcs h.1 (by omega) kk
  · refine tW_go (sz := 3) (n2 := rcN n) (z2 := rcZ n z (cb m (p + 1)) (nI (cb m (p + 2)))) (s2 := s) hC hPl hT' hm hp hw hp1 (by omega) (fun _ => h2) (by omega) nx t3 (by rw [rcN_4]; omega) rcN_i (fun _ hz => Zin_ok hz) (fun I P K h kk => ?_) (fun Gb hGb I P K h kk => ?_)
    · unfold ldB
      rw [ec, if_neg (by decide), if_pos rfl]
      rw [ec] at kk
      exact L_rcs h.1 (by omega) kk
    · unfold sdB
      rw [ec, if_neg (by decide), if_pos rfl]
      exact M_rcs h.1 (by omega) kk
  · obtain ⟨a1, a2, a3, -⟩ := hC.2.2.2.1 m hm
    have hl : ∀ i, i < ar m → tg (l i) = 1 := fun i hi => by
      have := (t4 i (by omega) (Or.inl (ha i hi))).1
      rw [this]; exact ha i hi
    obtain ⟨q1, q2, q3⟩ := taN_4 (n := n) a3
    refine tW_go (sz := 2) (n2 := taN n (ar m)) (z2 := taZ (cb m (p + 1)) l n z (ar m)) (s2 := s) hC hPl hT' hm hp hw hp1 (by omega) (by omega) (by omega) nx t3 (by omega) q3 (fun _ hz => Zin_ok hz) (fun I P K h kk => ?_) (fun Gb hGb I P K h kk => ?_)
    · unfold ldB
      rw [ec, if_neg (by decide), if_neg (by decide), if_pos rfl]
      rw [ec] at kk
      exact L_args h.1 a1 a3 r30 kk
    · unfold sdB
      rw [ec, if_neg (by decide), if_neg (by decide), if_pos rfl]
      exact M_args h.1 (a2 Gb hGb) a3 hl r30 kk
  · subst eS
    obtain ⟨x, r', es, -⟩ := TyS_i t3
    subst es
    by_cases e57 : cb m p = 57
    · obtain ⟨x1, x2, -⟩ := hC.2.2.2.2.1 _ hq
      refine tW_go (sz := 2) (n2 := rcN n) (z2 := rcZ n z (cb m (p + 1)) x) (s2 := Sum.inl (xq (cb m (p + 1))) :: r') hC hPl hT' hm hp hw hp1 (by omega) (by omega) (by omega) nx ⟨t3.1, fun v hv => ?_⟩ (by rw [rcN_4]; omega) rcN_i (fun _ hz => Zin_ok hz) (fun I P K h kk => ?_) (fun Gb hGb I P K h kk => ?_)
      · rcases List.mem_cons.mp hv with e | e
        · rw [e]; exact trivial
        · exact t3.2 v (List.mem_cons_of_mem _ e)
      · unfold ldB
        rw [e57, if_neg (by decide), if_neg (by decide), if_neg (by decide), if_neg (by decide), if_neg (by decide), if_neg (by decide), if_neg (by decide), if_neg (by decide)]
        rw [e57] at kk
        exact L_rp (by omega) h.1 x1 (by omega) kk
      · unfold sdB
        rw [e57, if_neg (by decide), if_neg (by decide), if_neg (by decide), if_neg (by decide), if_neg (by decide), if_neg (by decide), if_neg (by decide), if_neg (by decide)]
        exact M_rp (by omega) h.1 (x2 Gb hGb) (by omega) kk
    · have e51 : cb m p = 51 ∨ cb m p = 55 := by omega
      refine tW_go (sz := 2) (n2 := rcN n) (z2 := rcZ n z (cb m (p + 1)) x) (s2 := Sum.inl x :: r') hC hPl hT' hm hp hw hp1 (by omega) (by omega) (by omega) nx t3 (by rw [rcN_4]; omega) rcN_i (fun _ hz => Zin_ok hz) (fun I P K h kk => ?_) (fun Gb hGb I P K h kk => ?_)
      · unfold ldB
        rw [if_neg (by omega), if_neg (by omega), if_neg (by omega), if_pos e51]
        exact L_peek (i := 0) h.1 (v := Sum.inl x) rfl (L_rcs h.1 (by omega) kk)
      · unfold sdB
        rw [if_neg (by omega), if_neg (by omega), if_neg (by omega), if_pos e51]
        exact M_top (i := 0) h.1 (v := Sum.inl x) rfl (M_rcs h.1 (by omega) kk)
  · obtain ⟨hth, kd, k1, k2, es⟩ := t6.1 ez
    subst es
    refine tW_go (sz := 2) (n2 := rcN n) (z2 := rcZ n z (cb m (p + 1)) (-(nI kd))) (s2 := [Sum.inl (nI kd)]) hC hPl hT' hm hp hw hp1 (by omega) (by omega) (by omega) nx t3 (by rw [rcN_4]; omega) rcN_i (fun zn' hz => ⟨fun _ => ⟨hth, kd, k1, k2, rfl⟩, fun q hq => absurd hq (hz.2 q), fun _ ⟨q, hq⟩ => absurd hq (hz.2 q), fun _ ⟨q, hq⟩ => absurd hq (hz.2 q)⟩) (fun I P K h kk => ?_) (fun Gb hGb I P K h kk => ?_)
    · unfold ldB
      rw [if_neg (by omega), if_neg (by omega), if_neg (by omega), if_neg (by omega), if_pos ec]
      exact L_peek (i := 0) h.1 (v := Sum.inl (nI kd)) rfl (L_rcs h.1 (by omega) kk)
    · unfold sdB
      rw [if_neg (by omega), if_neg (by omega), if_neg (by omega), if_neg (by omega), if_pos ec]
      exact M_top (i := 0) h.1 (v := Sum.inl (nI kd)) rfl (M_rcs h.1 (by omega) kk)
  · obtain ⟨⟨kc, ov⟩, eko⟩ := t6.2.2.2 ez ⟨_, hQ⟩
    have hQ2 := t6.2.1 _ hQ
    refine tW_go (sz := 2) (n2 := rcN (rcN n)) (z2 := rcZ (rcN n) (rcZ n z (cb m (p + 1)) ov) (cb m (p + 1)) (kcv kc z)) (s2 := s) hC hPl hT' hm hp hw hp1 (by omega) (by omega) (by omega) nx t3 (by rw [rcN_4, rcN_4]; omega) (fun i hi => by rw [rcN_i i hi, rcN_i i hi]) (fun zn' hz => ⟨fun e => absurd e hz.1, fun q hq => t6.2.1 q (hz.2 q hq).2, fun e2 ⟨q, hq⟩ => ?_, fun _ _ => ⟨_, eko⟩⟩) (fun I P K h kk => ?_) (fun Gb hGb I P K h kk => ?_)
    · have := (hz.2 q hq).1
      omega
    · unfold ldB
      rw [if_neg (by omega), if_neg (by omega), if_neg (by omega), if_neg (by omega), if_neg (by omega), if_neg (by omega), if_pos ec]
      obtain ⟨a1, a2⟩ := h.2.2.2.2 kc ov _ eko hQ2
      exact L_ns h.1 a1 a2 rfl (by omega) kk
    · unfold sdB
      rw [if_neg (by omega), if_neg (by omega), if_neg (by omega), if_neg (by omega), if_neg (by omega), if_neg (by omega), if_pos ec]
      obtain ⟨a1, a2⟩ := h.2.2.2 kc ov _ eko hQ2
      exact M_ns (by omega) h.1 a1 a2 rfl (by omega) kk
end
