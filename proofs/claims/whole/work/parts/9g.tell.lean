/-! PURE 66: RUN: RECORDS of one SORT, on both sides -/
/-- how many PROBES watch METHOD m (0: it is not watched) -/
def WtL (I0 : zI) (k : Nat) (wt : nuN) (m : Nat) : Prop := wt m ≤ 24 ∧ (k = 2 → ¬ I0 (26 + 12 * m) 5 = 0 → I0 (26 + 12 * m) 10 = nI (wt m)) ∧ (k = 2 → I0 (26 + 12 * m) 5 = 0 → wt m = 0) ∧ (k ≠ 2 → wt m = 0)
def WtM (I0 : zI) (k : Nat) (wt : nuN) (m : Nat) : Prop := wt m ≤ 24 ∧ (k = 2 → ¬ I0 175 m < 0 → I0 175 m = nI (wt m)) ∧ (k = 2 → I0 175 m < 0 → wt m = 0) ∧ (k ≠ 2 → wt m = 0)
def rcN (n : nuN) : nuN := up1 n 4 (n 4 + 1)
def rcZ (n : nuN) (z : nuZ) (q : Nat) (x : Int32) : nuZ := zu (zu z 3 (n 4) (nI q)) 4 (n 4) x
/-- RECORDS of the PROBES below q -/
def tlN (B : Nat → Nat → Nat) (m sx px : Nat) (n : nuN) : Nat → nuN
  | 0 => n
  | q + 1 => if atq B m sx px q then rcN (tlN B m sx px n q) else tlN B m sx px n q
def tlZ (B : Nat → Nat → Nat) (m sx px : Nat) (x : Int32) (n : nuN) (z : nuZ) : Nat → nuZ
  | 0 => z
  | q + 1 => if atq B m sx px q then rcZ (tlN B m sx px n q) (tlZ B m sx px x n z q) q x else tlZ B m sx px x n z q
theorem tlN_4 {B : Nat → Nat → Nat} {m sx px : Nat} {n : nuN} : ∀ q, n 4 ≤ tlN B m sx px n q 4 ∧ tlN B m sx px n q 4 ≤ n 4 + q ∧ ∀ i, i ≠ 4 → tlN B m sx px n q i = n i
  | 0 => ⟨Nat.le_refl _, Nat.le_refl _, fun _ _ => rfl⟩
  | q + 1 => by
    obtain ⟨a, b, c⟩ := tlN_4 (B := B) (m := m) (sx := sx) (px := px) (n := n) q
    rw [tlN]
    split
    · unfold rcN; rw [up1_s]; exact ⟨by omega, by omega, fun i hi => by rw [up1_n hi]; exact c i hi⟩
    · exact ⟨a, by omega, c⟩
/-- the static facts of both sides about the PROBES -/
def PrL (I0 : zI) (B : Nat → Nat → Nat) (kp : Nat) : Prop := LQ B kp I0 ∧ ∀ q, q < kp → B 0 q < 8 ∧ B 1 q < 6 ∧ B 2 q < 400
def PrM (I0 : zI) (B : Nat → Nat → Nat) (kp : Nat) : Prop := MQw B kp I0 ∧ ∀ q, q < kp → B 0 q < 8 ∧ B 1 q < 6 ∧ B 2 q < 400
theorem L_s0 {I0 I : zI} {k lim : Nat} {wv n : nuN} {z : nuZ} {fs : List Frm} {P : zP} (h : SL I0 k lim wv fs n z I P) {c j : Nat} (q : ¬ rcL k c j) : I c j = I0 c j := h.1.2.2.2.2.1 c j q
theorem PrL_q {I0 I : zI} {k lim kp : Nat} {wv n : nuN} {B : Nat → Nat → Nat} {z : nuZ} {fs : List Frm} {P : zP} (h : SL I0 k lim wv fs n z I P) (hp : PrL I0 B kp) : LQ B kp I := LQ_c hp.1 (fun c j a b => L_s0 h (by have := h.1.1; unfold rcL; omega))
theorem PrM_q {I0 I : zI} {k lim kp : Nat} {n : nuN} {B : Nat → Nat → Nat} {z : nuZ} {fs : List Frm} (h : SM I0 k lim fs n z I) (hp : PrM I0 B kp) : MQw B kp I := MQw_c hp.1 (fun c j a => M_s0 h (by unfold rcM; omega))
theorem L_iw {I0 I : zI} {k lim m p : Nat} {wv n wt : nuN} {z : nuZ} {s : List Va} {l : Nat → Va} {fs : List Frm} {P : zP} {K : Int32 → zI → zP → Prop} (h : SL I0 k lim wv ((m, p, s, l) :: fs) n z I P) (hw : WtL I0 k wt m) (k1 : k = 2 → ¬ I0 (26 + 12 * m) 5 = 0 → K 1 I P) (k0 : wt m = 0 → K 0 I P) : w_X2_isWatched (119 + 3 * fs.length) I P K := by
  obtain ⟨e, hf, hm, -⟩ := L_pl h
  have hk := h.1.1
  have hP := h.1.2.2.1
  have h2 := h.2.2.2.1.1.2.1
  dsimp only at h2
  unfold w_X2_isWatched
  rw [h.1.2.2.2.2.2.1]
  by_cases e2 : k = 2
  · refine zip (by rw [e2]; rfl) ⟨shF hf, _, h2, shM hm, _, pM6 hP hm, shW hm, ?_⟩
    rw [L_s0 h (by unfold rcL; omega)]
    by_cases e5 : I0 (26 + 12 * m) 5 = 0
    · exact zip e5 (k0 (hw.2.2.1 e2 e5))
    · exact zin e5 (k1 e2 e5)
  · exact zin (by first | omega | decide | (simp (maxSteps := 400000) (disch := omega) only [q_lit, q_neg, nI_ltI, nI_leI, nI_eq, nI_add, pk_mul, pk_sub, nI_clamp, vp_q, zu_same, zu_nc, zu_nj, ng_lt, ng_le, ng_gt, ng_ge, ng_eq, ng_qe, ng_ee, ng_add, not_false_eq_true, not_true_eq_false, ne_eq]; done) | (simp (maxSteps := 400000) (disch := omega) only [q_lit, q_neg, nI_ltI, nI_leI, nI_eq, nI_add, pk_mul, pk_sub, nI_clamp, vp_q, zu_same, zu_nc, zu_nj, ng_lt, ng_le, ng_gt, ng_ge, ng_eq, ng_qe, ng_ee, ng_add, not_false_eq_true, not_true_eq_false, ne_eq]; omega)) (k0 (hw.2.2.2 e2))
theorem M_wt {I0 I : zI} {k lim m : Nat} {n wt : nuN} {z : nuZ} {fs : List Frm} {P : zP} {K : Int32 → zI → zP → Prop} (hm : m < 6) (h : SM I0 k lim fs n z I) (hw : WtM I0 k wt m) (kk : K (nI (wt m)) I P) : w_X10_watched (nI m) I P K := by
  have hk := h.1.1
  unfold w_X10_watched w_X10_isWoven
  rw [h.1.2.2.2.1, nI_clamp (by omega), M_s0 h (c := 175) (by unfold rcM; omega)]
  by_cases e2 : k = 2
  · refine zip (by rw [e2]; rfl) ⟨vp_in_nI hm (by decide), ?_⟩
    by_cases q : I0 175 m < 0
    · rw [hw.2.2.1 e2 q] at kk
      exact zip q (zip rfl kk)
    · rw [hw.2.1 e2 q]
      exact zin (by rw [← hw.2.1 e2 q]; exact q) (zin (by decide) ⟨vp_in_nI hm (by decide), by rw [M_s0 h (c := 175) (by unfold rcM; omega), hw.2.1 e2 q]; exact kk⟩)
  · rw [hw.2.2.2 e2] at kk
    exact zin (by first | omega | decide | (simp (maxSteps := 400000) (disch := omega) only [q_lit, q_neg, nI_ltI, nI_leI, nI_eq, nI_add, pk_mul, pk_sub, nI_clamp, vp_q, zu_same, zu_nc, zu_nj, ng_lt, ng_le, ng_gt, ng_ge, ng_eq, ng_qe, ng_ee, ng_add, not_false_eq_true, not_true_eq_false, ne_eq]; done) | (simp (maxSteps := 400000) (disch := omega) only [q_lit, q_neg, nI_ltI, nI_leI, nI_eq, nI_add, pk_mul, pk_sub, nI_clamp, vp_q, zu_same, zu_nc, zu_nj, ng_lt, ng_le, ng_gt, ng_ge, ng_eq, ng_qe, ng_ee, ng_add, not_false_eq_true, not_true_eq_false, ne_eq]; omega)) kk
theorem M_sd {B : Nat → Nat → Nat} {kp nb q s m p : Nat} {J : zI} {P : zP} {K : Int32 → zI → zP → Prop} (hQ : MQw B kp J) (hb : ∀ q, q < kp → B 0 q < 8 ∧ B 1 q < 6 ∧ B 2 q < 400) (hq : q < kp) (hn : q < nb) (hnb : nb < 2 ^ 31) (hs : s < 2 ^ 31) (hm : m < 2 ^ 31) (hp : p < 2 ^ 31) (k1 : atq B m s p q → K 1 J P) (k0 : ¬ atq B m s p q → K 0 J P) : w_X10_stands (nI q) (nI s) (nI m) (nI p) (nI nb) J P K := by
  unfold w_X10_stands
  obtain ⟨hw, r5, r⟩ := hQ
  obtain ⟨r9, r10, r11⟩ := r q hq
  obtain ⟨b0, b1, b2⟩ := hb q hq
  have v : vp_in (nI q) 24 := vp_in_nI (by omega) (by decide)
  rw [nI_clamp (by omega), r9, r10, r11]
  refine zin (by first | omega | decide | (simp (maxSteps := 400000) (disch := omega) only [q_lit, q_neg, nI_ltI, nI_leI, nI_eq, nI_add, pk_mul, pk_sub, nI_clamp, vp_q, zu_same, zu_nc, zu_nj, ng_lt, ng_le, ng_gt, ng_ge, ng_eq, ng_qe, ng_ee, ng_add, not_false_eq_true, not_true_eq_false, ne_eq]; done) | (simp (maxSteps := 400000) (disch := omega) only [q_lit, q_neg, nI_ltI, nI_leI, nI_eq, nI_add, pk_mul, pk_sub, nI_clamp, vp_q, zu_same, zu_nc, zu_nj, ng_lt, ng_le, ng_gt, ng_ge, ng_eq, ng_qe, ng_ee, ng_add, not_false_eq_true, not_true_eq_false, ne_eq]; omega)) ⟨v, ?_⟩
  by_cases e0 : B 0 q = s
  · refine zip (by rw [e0]) ⟨v, ?_⟩
    by_cases e : B 1 q = m
    · refine zip (by rw [e]) ⟨v, ?_⟩
      by_cases e2 : B 2 q = p
      · exact zip (by rw [e2]) (k1 ⟨e0, e, e2⟩)
      · exact zin (fun z => e2 (nI_inj (by omega) hp z)) (k0 (fun z => e2 z.2.2))
    · exact zin (fun z => e (nI_inj (by omega) hm z)) (k0 (fun z => e z.2.1))
  · exact zin (fun z => e0 (nI_inj (by omega) hs z)) (k0 (fun z => e0 z.1))
theorem sL_rec {k : Nat} {I J : zI} (hk : k < 3) (g : ∀ c j, ¬ (93 + 5 * k ≤ c ∧ c ≤ 97 + 5 * k) → J c j = I c j) (g2 : ∀ j, j ≠ 12 → J (93 + 5 * k) j = I (93 + 5 * k) j) : sL k I J := ⟨fun j _ => g _ _ (by omega), fun j q => g2 j (by omega)⟩
theorem L_tall {I0 I : zI} {k lim m p kp sx px : Nat} {wv n wt : nuN} {B : Nat → Nat → Nat} {z : nuZ} {s : List Va} {l : Nat → Va} {fs : List Frm} {P : zP} {K : zI → zP → Prop} {x : Int32} (h : SL I0 k lim wv ((m, p, s, l) :: fs) n z I P) (hn0 : I0 (20 + 12 * m) 0 = nI m) (hw : WtL I0 k wt m) (hp : PrL I0 B kp) (hle : wt m ≤ kp) (hsx : sx < 8) (hpx : px < 1000) (hr : n 4 + 24 < 2 ^ 30) (kk : ∀ J, SL I0 k lim wv ((m, p, s, l) :: fs) (tlN B m sx px n (wt m)) (tlZ B m sx px x n z (wt m)) J P → sL k I J → K J P) : w_X2_noteAll (119 + 3 * fs.length) (nI sx) (nI px) x I P K := by
  obtain ⟨e, hf, hm, -⟩ := L_pl h
  have hk := h.1.1
  have hP := h.1.2.2.1
  have wl := hw.1
  unfold w_X2_noteAll
  refine L_iw h hw (fun e2 e5 => zin (by decide) ?_) (fun e0 => zip rfl (kk I (by rw [e0]; exact h) sL_r))
  have lp : ∀ d q J, q + d = wt m → SL I0 k lim wv ((m, p, s, l) :: fs) (tlN B m sx px n q) (tlZ B m sx px x n z q) J P → sL k I J → l_X2_noteAll_12 K (d + 1) (119 + 3 * fs.length) (nI sx) (nI px) x (nI q) J P := by
    intro d
    induction d with
    | zero =>
      intro q J hq hJ g
      obtain rfl : q = wt m := by omega
      have h2 := hJ.2.2.2.1.1.2.1
      dsimp only at h2
      rw [l_X2_noteAll_12]
      refine ⟨shF hf, _, h2, shM hm, _, pM6 hP hm, shW hm, zip ?_ (kk J hJ g)⟩
      rw [L_s0 hJ (by unfold rcL; omega), hw.2.1 e2 e5]; first | omega | decide | (simp (maxSteps := 400000) (disch := omega) only [q_lit, q_neg, nI_ltI, nI_leI, nI_eq, nI_add, pk_mul, pk_sub, nI_clamp, vp_q, zu_same, zu_nc, zu_nj, ng_lt, ng_le, ng_gt, ng_ge, ng_eq, ng_qe, ng_ee, ng_add, not_false_eq_true, not_true_eq_false, ne_eq]; done) | (simp (maxSteps := 400000) (disch := omega) only [q_lit, q_neg, nI_ltI, nI_leI, nI_eq, nI_add, pk_mul, pk_sub, nI_clamp, vp_q, zu_same, zu_nc, zu_nj, ng_lt, ng_le, ng_gt, ng_ge, ng_eq, ng_qe, ng_ee, ng_add, not_false_eq_true, not_true_eq_false, ne_eq]; omega)
    | succ d ih =>
      intro q J hq hJ g
      have h2 := hJ.2.2.2.1.1.2.1
      dsimp only at h2
      have hQ := PrL_q hJ hp
      obtain ⟨b0, b1, b2⟩ := hp.2 q (by omega)
      have t4 := (tlN_4 (B := B) (m := m) (sx := sx) (px := px) (n := n) q).2.1
      have skip : ¬ atq B m sx px q → l_X2_noteAll_12 K (d + 1) (119 + 3 * fs.length) (nI sx) (nI px) x (nI (q + 1)) J P := fun no => ih (q + 1) J (by omega) (by rw [tlN, tlZ, if_neg no, if_neg no]; exact hJ) g
      rw [l_X2_noteAll_12, nI_1]
      refine ⟨shF hf, _, h2, shM hm, _, pM6 hP hm, shW hm, zin ?_ (s_so hQ (by omega) ?_)⟩
      · rw [L_s0 hJ (by unfold rcL; omega), hw.2.1 e2 e5]; first | omega | decide | (simp (maxSteps := 400000) (disch := omega) only [q_lit, q_neg, nI_ltI, nI_leI, nI_eq, nI_add, pk_mul, pk_sub, nI_clamp, vp_q, zu_same, zu_nc, zu_nj, ng_lt, ng_le, ng_gt, ng_ge, ng_eq, ng_qe, ng_ee, ng_add, not_false_eq_true, not_true_eq_false, ne_eq]; done) | (simp (maxSteps := 400000) (disch := omega) only [q_lit, q_neg, nI_ltI, nI_leI, nI_eq, nI_add, pk_mul, pk_sub, nI_clamp, vp_q, zu_same, zu_nc, zu_nj, ng_lt, ng_le, ng_gt, ng_ge, ng_eq, ng_qe, ng_ee, ng_add, not_false_eq_true, not_true_eq_false, ne_eq]; omega)
      · by_cases es : B 0 q = sx
        · refine zip (by rw [es]) ⟨_, h2, shM hm, ?_⟩
          rw [L_s0 hJ (c := 20 + 12 * m) (by unfold rcL; omega), hn0]
          refine s_at hQ (by omega) (by omega) (by omega) (by omega) (by omega) (fun y1 y2 => zin (by decide) ⟨_, hJ.1.2.2.2.1, shT hk, L_rec hJ (by omega) (fun J2 hJ2 g2 g3 => ih (q + 1) J2 (by omega) ?_ (sL_t g (sL_rec hk g2 g3)))⟩) (fun no => zip rfl (skip (fun y => no y.2)))
          rw [tlN, tlZ, if_pos ⟨es, y1, y2⟩, if_pos ⟨es, y1, y2⟩]; exact hJ2
        · exact zin (fun y => es (nI_inj (by omega) (by omega) y)) (skip (fun y => es y.1))
  exact ⟨_, lp (wt m) 0 I (by omega) h sL_r⟩
/-- the reference's loop over the watching PROBES, one of its two users -/
theorem M_rcs {I0 I : zI} {k lim q : Nat} {n : nuN} {z : nuZ} {fs : List Frm} {P : zP} {K : zI → zP → Prop} {x : Int32} (h : SM I0 k lim fs n z I) (hr : n 4 + 1 < 2 ^ 30) (kk : ∀ J, SM I0 k lim fs (rcN n) (rcZ n z q x) J → sM I J → K J P) : w_X10_tell (nI q) x I P K := M_rec h hr (fun J hJ g => kk J hJ ⟨fun j _ => g _ _ (by omega), fun c j _ => g _ _ (by omega)⟩)
