/-! PURE 69: RUN: what ENTER tells, on both sides -/
/-- the arguments told by PROBE q, i of them so far -/
def agN (n : nuN) : Nat → nuN
  | 0 => n
  | i + 1 => rcN (agN n i)
def agZ (q : Nat) (l : Nat → Va) (n : nuN) (z : nuZ) : Nat → nuZ
  | 0 => z
  | i + 1 => rcZ (agN n i) (agZ q l n z i) q (lv (l i))
theorem agN_4 {n : nuN} : ∀ i, agN n i 4 = n 4 + i ∧ ∀ j, j ≠ 4 → agN n i j = n j
  | 0 => ⟨rfl, fun _ _ => rfl⟩
  | i + 1 => by
    obtain ⟨a, b⟩ := agN_4 (n := n) i
    rw [agN]; unfold rcN
    rw [up1_s]; exact ⟨by omega, fun j hj => by rw [up1_n hj]; exact b j hj⟩
/-- what PROBE q tells of a METHOD that takes a arguments -/
def taN (n : nuN) (a : Nat) : nuN := if a = 0 then rcN n else agN n a
def taZ (q : Nat) (l : Nat → Va) (n : nuN) (z : nuZ) (a : Nat) : nuZ := if a = 0 then rcZ n z q 0 else agZ q l n z a
theorem taN_4 {n : nuN} {a : Nat} (h : a ≤ 4) : n 4 ≤ taN n a 4 ∧ taN n a 4 ≤ n 4 + 4 ∧ ∀ j, j ≠ 4 → taN n a j = n j := by
  unfold taN
  split
  · unfold rcN; rw [up1_s]; exact ⟨by omega, by omega, fun j hj => up1_n hj⟩
  · have := agN_4 (n := n) a; exact ⟨by omega, by omega, this.2⟩
theorem L_rcs {I0 I : zI} {k lim q : Nat} {wv n : nuN} {z : nuZ} {fs : List Frm} {P : zP} {K : zI → zP → Prop} {x : Int32} (h : SL I0 k lim wv fs n z I P) (hr : n 4 + 1 < 2 ^ 30) (kk : ∀ J, SL I0 k lim wv fs (rcN n) (rcZ n z q x) J P → sL k I J → K J P) : w_X6_addRecord (93 + 5 * k) (nI q) x I P K := L_rec h hr (fun J hJ g g2 => kk J hJ (sL_rec h.1.1 g g2))
theorem L_args {I0 I : zI} {k lim m p q a : Nat} {wv n : nuN} {z : nuZ} {s : List Va} {l : Nat → Va} {fs : List Frm} {P : zP} {K : zI → zP → Prop} (h : SL I0 k lim wv ((m, p, s, l) :: fs) n z I P) (ha : I0 (20 + 12 * m) 7 = nI a) (ha4 : a ≤ 4) (hr : n 4 + 5 < 2 ^ 30) (kk : ∀ J, SL I0 k lim wv ((m, p, s, l) :: fs) (taN n a) (taZ q l n z a) J P → sL k I J → K J P) : w_X2_noteArguments (119 + 3 * fs.length) (nI q) I P K := by
  obtain ⟨e, hf, hm, -⟩ := L_pl h
  have hk := h.1.1
  have hP := h.1.2.2.1
  have lp : ∀ d i J, i + d = a → SL I0 k lim wv ((m, p, s, l) :: fs) (agN n i) (agZ q l n z i) J P → sL k I J → l_X2_noteArguments_2 K (d + 1) (119 + 3 * fs.length) (nI q) (nI i) J P := by
    intro d
    induction d with
    | zero =>
      intro i J hi hJ g
      obtain rfl : i = a := by omega
      have h2 := hJ.2.2.2.1.1.2.1
      dsimp only at h2
      have y7 : J (20 + 12 * m) 7 = nI i := by rw [L_s0 hJ (by unfold rcL; omega)]; exact ha
      rw [l_X2_noteArguments_2]
      refine ⟨shF hf, _, h2, shM hm, zip (by rw [y7]; first | omega | decide | (simp (maxSteps := 400000) (disch := omega) only [q_lit, q_neg, nI_ltI, nI_leI, nI_eq, nI_add, pk_mul, pk_sub, nI_clamp, vp_q, zu_same, zu_nc, zu_nj, ng_lt, ng_le, ng_gt, ng_ge, ng_eq, ng_qe, ng_ee, ng_add, not_false_eq_true, not_true_eq_false, ne_eq]; done) | (simp (maxSteps := 400000) (disch := omega) only [q_lit, q_neg, nI_ltI, nI_leI, nI_eq, nI_add, pk_mul, pk_sub, nI_clamp, vp_q, zu_same, zu_nc, zu_nj, ng_lt, ng_le, ng_gt, ng_ge, ng_eq, ng_qe, ng_ee, ng_add, not_false_eq_true, not_true_eq_false, ne_eq]; omega)) ?_⟩
      unfold j_X2_noteArguments_39
      refine ⟨shF hf, _, h2, shM hm, ?_⟩
      rw [y7]
      unfold taN taZ at kk
      by_cases e0 : i = 0
      · subst e0
        rw [if_pos rfl, if_pos rfl] at kk
        exact zip rfl ⟨_, hJ.1.2.2.2.1, shT hk, L_rcs (q := q) (x := 0) hJ (by have := (agN_4 (n := n) 0).1; omega) (fun J2 hJ2 g2 => kk J2 hJ2 (sL_t g g2))⟩
      · rw [if_neg e0, if_neg e0] at kk
        exact zin (by first | omega | decide | (simp (maxSteps := 400000) (disch := omega) only [q_lit, q_neg, nI_ltI, nI_leI, nI_eq, nI_add, pk_mul, pk_sub, nI_clamp, vp_q, zu_same, zu_nc, zu_nj, ng_lt, ng_le, ng_gt, ng_ge, ng_eq, ng_qe, ng_ee, ng_add, not_false_eq_true, not_true_eq_false, ne_eq]; done) | (simp (maxSteps := 400000) (disch := omega) only [q_lit, q_neg, nI_ltI, nI_leI, nI_eq, nI_add, pk_mul, pk_sub, nI_clamp, vp_q, zu_same, zu_nc, zu_nj, ng_lt, ng_le, ng_gt, ng_ge, ng_eq, ng_qe, ng_ee, ng_add, not_false_eq_true, not_true_eq_false, ne_eq]; omega)) (kk J hJ g)
    | succ d ih =>
      intro i J hi hJ g
      have h2 := hJ.2.2.2.1.1.2.1
      have h9 := hJ.2.2.2.1.1.2.2.2.2.2.2.2.2
      dsimp only at h2 h9
      have y7 : J (20 + 12 * m) 7 = nI a := by rw [L_s0 hJ (by unfold rcL; omega)]; exact ha
      rw [l_X2_noteArguments_2, nI_1]
      refine ⟨shF hf, _, h2, shM hm, zin (by rw [y7]; first | omega | decide | (simp (maxSteps := 400000) (disch := omega) only [q_lit, q_neg, nI_ltI, nI_leI, nI_eq, nI_add, pk_mul, pk_sub, nI_clamp, vp_q, zu_same, zu_nc, zu_nj, ng_lt, ng_le, ng_gt, ng_ge, ng_eq, ng_qe, ng_ee, ng_add, not_false_eq_true, not_true_eq_false, ne_eq]; done) | (simp (maxSteps := 400000) (disch := omega) only [q_lit, q_neg, nI_ltI, nI_leI, nI_eq, nI_add, pk_mul, pk_sub, nI_clamp, vp_q, zu_same, zu_nc, zu_nj, ng_lt, ng_le, ng_gt, ng_ge, ng_eq, ng_qe, ng_ee, ng_add, not_false_eq_true, not_true_eq_false, ne_eq]; omega)) (zin (by first | omega | decide | (simp (maxSteps := 400000) (disch := omega) only [q_lit, q_neg, nI_ltI, nI_leI, nI_eq, nI_add, pk_mul, pk_sub, nI_clamp, vp_q, zu_same, zu_nc, zu_nj, ng_lt, ng_le, ng_gt, ng_ge, ng_eq, ng_qe, ng_ee, ng_add, not_false_eq_true, not_true_eq_false, ne_eq]; done) | (simp (maxSteps := 400000) (disch := omega) only [q_lit, q_neg, nI_ltI, nI_leI, nI_eq, nI_add, pk_mul, pk_sub, nI_clamp, vp_q, zu_same, zu_nc, zu_nj, ng_lt, ng_le, ng_gt, ng_ge, ng_eq, ng_qe, ng_ee, ng_add, not_false_eq_true, not_true_eq_false, ne_eq]; omega)) ⟨_, hJ.1.2.2.2.1, _, pF0 hP hf, shF0 hf, by rw [zzF0 hf]; exact vp_in_nI (by omega) (by decide), shT hk, ?_⟩)⟩
      rw [nI_clamp (by omega), h9 i (by omega)]
      exact L_rcs hJ (by have := (agN_4 (n := n) i).1; omega) (fun J2 hJ2 g2 => ih (i + 1) J2 (by omega) hJ2 (sL_t g g2))
  exact ⟨_, lp a 0 I (by omega) h sL_r⟩
theorem M_args {I0 I : zI} {k lim m p q a : Nat} {n : nuN} {z : nuZ} {s : List Va} {l : Nat → Va} {fs : List Frm} {P : zP} {K : zI → zP → Prop} (h : SM I0 k lim ((m, p, s, l) :: fs) n z I) (ha : I0 157 m = nI a) (ha4 : a ≤ 4) (hl : ∀ i, i < a → tg (l i) = 1) (hr : n 4 + 5 < 2 ^ 30) (kk : ∀ J, SM I0 k lim ((m, p, s, l) :: fs) (taN n a) (taZ q l n z a) J → sM I J → K J P) : w_X10_tellArguments (nI q) (nI m) I P K := by
  obtain ⟨hf, hm, -, -⟩ := M_pl h
  have vm : vp_in (nI m) 6 := vp_in_nI hm (by decide)
  have lp : ∀ d i J, i + d = a → SM I0 k lim ((m, p, s, l) :: fs) (agN n i) (agZ q l n z i) J → sM I J → l_X10_tellArguments_2 K (d + 1) (nI q) (nI m) (nI i) J P := by
    intro d
    induction d with
    | zero =>
      intro i J hi hJ g
      obtain rfl : i = a := by omega
      have y7 : J 157 m = nI i := by rw [M_s0 hJ (by unfold rcM; omega)]; exact ha
      rw [l_X10_tellArguments_2, nI_clamp (by omega), y7]
      refine ⟨vm, zip (by first | omega | decide | (simp (maxSteps := 400000) (disch := omega) only [q_lit, q_neg, nI_ltI, nI_leI, nI_eq, nI_add, pk_mul, pk_sub, nI_clamp, vp_q, zu_same, zu_nc, zu_nj, ng_lt, ng_le, ng_gt, ng_ge, ng_eq, ng_qe, ng_ee, ng_add, not_false_eq_true, not_true_eq_false, ne_eq]; done) | (simp (maxSteps := 400000) (disch := omega) only [q_lit, q_neg, nI_ltI, nI_leI, nI_eq, nI_add, pk_mul, pk_sub, nI_clamp, vp_q, zu_same, zu_nc, zu_nj, ng_lt, ng_le, ng_gt, ng_ge, ng_eq, ng_qe, ng_ee, ng_add, not_false_eq_true, not_true_eq_false, ne_eq]; omega)) ⟨vm, ?_⟩⟩
      unfold taN taZ at kk
      by_cases e0 : i = 0
      · subst e0
        rw [if_pos rfl, if_pos rfl] at kk
        exact zip rfl (M_rcs (q := q) (x := 0) hJ (by have := (agN_4 (n := n) 0).1; omega) (fun J2 hJ2 g2 => kk J2 hJ2 (sM_t g g2)))
      · rw [if_neg e0, if_neg e0] at kk
        exact zin (by first | omega | decide | (simp (maxSteps := 400000) (disch := omega) only [q_lit, q_neg, nI_ltI, nI_leI, nI_eq, nI_add, pk_mul, pk_sub, nI_clamp, vp_q, zu_same, zu_nc, zu_nj, ng_lt, ng_le, ng_gt, ng_ge, ng_eq, ng_qe, ng_ee, ng_add, not_false_eq_true, not_true_eq_false, ne_eq]; done) | (simp (maxSteps := 400000) (disch := omega) only [q_lit, q_neg, nI_ltI, nI_leI, nI_eq, nI_add, pk_mul, pk_sub, nI_clamp, vp_q, zu_same, zu_nc, zu_nj, ng_lt, ng_le, ng_gt, ng_ge, ng_eq, ng_qe, ng_ee, ng_add, not_false_eq_true, not_true_eq_false, ne_eq]; omega)) (kk J hJ g)
    | succ d ih =>
      intro i J hi hJ g
      obtain ⟨-, e1⟩ := M_f1 hJ
      have h9 := hJ.2.2.2.1.1.2.2.2.2.2.2.2
      dsimp only at h9
      have y7 : J 157 m = nI a := by rw [M_s0 hJ (by unfold rcM; omega)]; exact ha
      have ei : mv (l i) = lv (l i) := by
        obtain ⟨x, ex⟩ := tg1 (hl i (by omega))
        rw [ex]; rfl
      rw [l_X10_tellArguments_2, nI_clamp (by omega), y7, e1, e12, nI_1, nI_clamp (by omega), h9 i (by omega), ei]
      exact ⟨vm, zin (by first | omega | decide | (simp (maxSteps := 400000) (disch := omega) only [q_lit, q_neg, nI_ltI, nI_leI, nI_eq, nI_add, pk_mul, pk_sub, nI_clamp, vp_q, zu_same, zu_nc, zu_nj, ng_lt, ng_le, ng_gt, ng_ge, ng_eq, ng_qe, ng_ee, ng_add, not_false_eq_true, not_true_eq_false, ne_eq]; done) | (simp (maxSteps := 400000) (disch := omega) only [q_lit, q_neg, nI_ltI, nI_leI, nI_eq, nI_add, pk_mul, pk_sub, nI_clamp, vp_q, zu_same, zu_nc, zu_nj, ng_lt, ng_le, ng_gt, ng_ge, ng_eq, ng_qe, ng_ee, ng_add, not_false_eq_true, not_true_eq_false, ne_eq]; omega)) ⟨vp_in_nI (by omega) (by decide), M_rcs hJ (by have := (agN_4 (n := n) i).1; omega) (fun J2 hJ2 g2 => ih (i + 1) J2 (by omega) hJ2 (sM_t g g2))⟩⟩
  exact ⟨_, lp a 0 I (by omega) h sM_r⟩
/-- ENTER: all of the watching PROBES below q -/
def erN (B : Nat → Nat → Nat) (m a : Nat) (n : nuN) : Nat → nuN
  | 0 => n
  | q + 1 => if atq B m 2 0 q then taN (erN B m a n q) a else erN B m a n q
def erZ (B : Nat → Nat → Nat) (m a : Nat) (l : Nat → Va) (n : nuN) (z : nuZ) : Nat → nuZ
  | 0 => z
  | q + 1 => if atq B m 2 0 q then taZ q l (erN B m a n q) (erZ B m a l n z q) a else erZ B m a l n z q
theorem erN_4 {B : Nat → Nat → Nat} {m a : Nat} {n : nuN} (ha : a ≤ 4) : ∀ q, n 4 ≤ erN B m a n q 4 ∧ erN B m a n q 4 ≤ n 4 + 4 * q ∧ ∀ i, i ≠ 4 → erN B m a n q i = n i
  | 0 => ⟨Nat.le_refl _, Nat.le_refl _, fun _ _ => rfl⟩
  | q + 1 => by
    obtain ⟨x, y, w⟩ := erN_4 (B := B) (m := m) (n := n) ha q
    rw [erN]
    split
    · obtain ⟨x2, y2, w2⟩ := taN_4 (n := erN B m a n q) ha
      exact ⟨by omega, by omega, fun i hi => by rw [w2 i hi]; exact w i hi⟩
    · exact ⟨x, by omega, w⟩
theorem L_enter {I0 I : zI} {k lim m p kp a : Nat} {wv n wt : nuN} {B : Nat → Nat → Nat} {z : nuZ} {s : List Va} {l : Nat → Va} {fs : List Frm} {P : zP} {K : zI → zP → Prop} (h : SL I0 k lim wv ((m, p, s, l) :: fs) n z I P) (hn0 : I0 (20 + 12 * m) 0 = nI m) (ha : I0 (20 + 12 * m) 7 = nI a) (ha4 : a ≤ 4) (hw : WtL I0 k wt m) (hp : PrL I0 B kp) (hle : wt m ≤ kp) (hr : n 4 + 120 < 2 ^ 30) (kk : ∀ J, SL I0 k lim wv ((m, p, s, l) :: fs) (erN B m a n (wt m)) (erZ B m a l n z (wt m)) J P → sL k I J → K J P) : w_X2_noteEnter (119 + 3 * fs.length) I P K := by
  obtain ⟨e, hf, hm, -⟩ := L_pl h
  have hk := h.1.1
  have hP := h.1.2.2.1
  have wl := hw.1
  unfold w_X2_noteEnter
  refine L_iw h hw (fun e2 e5 => zin (by decide) ?_) (fun e0 => zip rfl (kk I (by rw [e0]; exact h) sL_r))
  have lp : ∀ d q J, q + d = wt m → SL I0 k lim wv ((m, p, s, l) :: fs) (erN B m a n q) (erZ B m a l n z q) J P → sL k I J → l_X2_noteEnter_11 K (d + 1) (119 + 3 * fs.length) (nI q) J P := by
    intro d
    induction d with
    | zero =>
      intro q J hq hJ g
      obtain rfl : q = wt m := by omega
      have h2 := hJ.2.2.2.1.1.2.1
      dsimp only at h2
      rw [l_X2_noteEnter_11]
      refine ⟨shF hf, _, h2, shM hm, _, pM6 hP hm, shW hm, zip ?_ (kk J hJ g)⟩
      rw [L_s0 hJ (by unfold rcL; omega), hw.2.1 e2 e5]; first | omega | decide | (simp (maxSteps := 400000) (disch := omega) only [q_lit, q_neg, nI_ltI, nI_leI, nI_eq, nI_add, pk_mul, pk_sub, nI_clamp, vp_q, zu_same, zu_nc, zu_nj, ng_lt, ng_le, ng_gt, ng_ge, ng_eq, ng_qe, ng_ee, ng_add, not_false_eq_true, not_true_eq_false, ne_eq]; done) | (simp (maxSteps := 400000) (disch := omega) only [q_lit, q_neg, nI_ltI, nI_leI, nI_eq, nI_add, pk_mul, pk_sub, nI_clamp, vp_q, zu_same, zu_nc, zu_nj, ng_lt, ng_le, ng_gt, ng_ge, ng_eq, ng_qe, ng_ee, ng_add, not_false_eq_true, not_true_eq_false, ne_eq]; omega)
    | succ d ih =>
      intro q J hq hJ g
      have h2 := hJ.2.2.2.1.1.2.1
      dsimp only at h2
      have hQ := PrL_q hJ hp
      obtain ⟨b0, b1, b2⟩ := hp.2 q (by omega)
      have t4 := (erN_4 (B := B) (m := m) (n := n) ha4 q).2.1
      have skip : ¬ atq B m 2 0 q → l_X2_noteEnter_11 K (d + 1) (119 + 3 * fs.length) (nI (q + 1)) J P := fun no => ih (q + 1) J (by omega) (by rw [erN, erZ, if_neg no, if_neg no]; exact hJ) g
      rw [l_X2_noteEnter_11, nI_1]
      refine ⟨shF hf, _, h2, shM hm, _, pM6 hP hm, shW hm, zin ?_ (s_so hQ (by omega) ?_)⟩
      · rw [L_s0 hJ (by unfold rcL; omega), hw.2.1 e2 e5]; first | omega | decide | (simp (maxSteps := 400000) (disch := omega) only [q_lit, q_neg, nI_ltI, nI_leI, nI_eq, nI_add, pk_mul, pk_sub, nI_clamp, vp_q, zu_same, zu_nc, zu_nj, ng_lt, ng_le, ng_gt, ng_ge, ng_eq, ng_qe, ng_ee, ng_add, not_false_eq_true, not_true_eq_false, ne_eq]; done) | (simp (maxSteps := 400000) (disch := omega) only [q_lit, q_neg, nI_ltI, nI_leI, nI_eq, nI_add, pk_mul, pk_sub, nI_clamp, vp_q, zu_same, zu_nc, zu_nj, ng_lt, ng_le, ng_gt, ng_ge, ng_eq, ng_qe, ng_ee, ng_add, not_false_eq_true, not_true_eq_false, ne_eq]; omega)
      · by_cases es : B 0 q = 2
        · refine zip (by rw [es]; rfl) ⟨_, h2, shM hm, ?_⟩
          rw [L_s0 hJ (c := 20 + 12 * m) (by unfold rcL; omega), hn0]
          refine s_at (p := 0) hQ (by omega) (by omega) (by omega) (by omega) (by omega) (fun y1 y2 => zin (by decide) (L_args hJ ha ha4 (by omega) (fun J2 hJ2 g2 => ih (q + 1) J2 (by omega) ?_ (sL_t g g2)))) (fun no => zip rfl (skip (fun y => no y.2)))
          rw [erN, erZ, if_pos ⟨es, y1, y2⟩, if_pos ⟨es, y1, y2⟩]; exact hJ2
        · exact zin (by first | omega | decide | (simp (maxSteps := 400000) (disch := omega) only [q_lit, q_neg, nI_ltI, nI_leI, nI_eq, nI_add, pk_mul, pk_sub, nI_clamp, vp_q, zu_same, zu_nc, zu_nj, ng_lt, ng_le, ng_gt, ng_ge, ng_eq, ng_qe, ng_ee, ng_add, not_false_eq_true, not_true_eq_false, ne_eq]; done) | (simp (maxSteps := 400000) (disch := omega) only [q_lit, q_neg, nI_ltI, nI_leI, nI_eq, nI_add, pk_mul, pk_sub, nI_clamp, vp_q, zu_same, zu_nc, zu_nj, ng_lt, ng_le, ng_gt, ng_ge, ng_eq, ng_qe, ng_ee, ng_add, not_false_eq_true, not_true_eq_false, ne_eq]; omega)) (skip (fun y => es y.1))
  exact ⟨_, lp (wt m) 0 I (by omega) h sL_r⟩
theorem M_enter {I0 I : zI} {k lim m p kp a : Nat} {n wt : nuN} {B : Nat → Nat → Nat} {z : nuZ} {s : List Va} {l : Nat → Va} {fs : List Frm} {P : zP} {K : zI → zP → Prop} (h : SM I0 k lim ((m, p, s, l) :: fs) n z I) (ha : I0 157 m = nI a) (ha4 : a ≤ 4) (hl : ∀ i, i < a → tg (l i) = 1) (hw : WtM I0 k wt m) (hp : PrM I0 B kp) (hle : wt m ≤ kp) (hr : n 4 + 120 < 2 ^ 30) (kk : ∀ J, SM I0 k lim ((m, p, s, l) :: fs) (erN B m a n (wt m)) (erZ B m a l n z (wt m)) J → sM I J → K J P) : w_X10_enters (nI m) I P K := by
  obtain ⟨hf, hm, -, -⟩ := M_pl h
  have wl := hw.1
  have lp : ∀ d q J, q + d = wt m → SM I0 k lim ((m, p, s, l) :: fs) (erN B m a n q) (erZ B m a l n z q) J → sM I J → l_X10_enters_2 K (d + 1) (nI m) (nI q) J P := by
    intro d
    induction d with
    | zero =>
      intro q J hq hJ g
      obtain rfl : q = wt m := by omega
      rw [l_X10_enters_2]
      exact M_wt hm hJ hw (zip (by first | omega | decide | (simp (maxSteps := 400000) (disch := omega) only [q_lit, q_neg, nI_ltI, nI_leI, nI_eq, nI_add, pk_mul, pk_sub, nI_clamp, vp_q, zu_same, zu_nc, zu_nj, ng_lt, ng_le, ng_gt, ng_ge, ng_eq, ng_qe, ng_ee, ng_add, not_false_eq_true, not_true_eq_false, ne_eq]; done) | (simp (maxSteps := 400000) (disch := omega) only [q_lit, q_neg, nI_ltI, nI_leI, nI_eq, nI_add, pk_mul, pk_sub, nI_clamp, vp_q, zu_same, zu_nc, zu_nj, ng_lt, ng_le, ng_gt, ng_ge, ng_eq, ng_qe, ng_ee, ng_add, not_false_eq_true, not_true_eq_false, ne_eq]; omega)) (kk J hJ g))
    | succ d ih =>
      intro q J hq hJ g
      have hQ := PrM_q hJ hp
      have t4 := (erN_4 (B := B) (m := m) (n := n) ha4 q).2.1
      rw [l_X10_enters_2, nI_1]
      refine M_wt hm hJ hw (zin (by first | omega | decide | (simp (maxSteps := 400000) (disch := omega) only [q_lit, q_neg, nI_ltI, nI_leI, nI_eq, nI_add, pk_mul, pk_sub, nI_clamp, vp_q, zu_same, zu_nc, zu_nj, ng_lt, ng_le, ng_gt, ng_ge, ng_eq, ng_qe, ng_ee, ng_add, not_false_eq_true, not_true_eq_false, ne_eq]; done) | (simp (maxSteps := 400000) (disch := omega) only [q_lit, q_neg, nI_ltI, nI_leI, nI_eq, nI_add, pk_mul, pk_sub, nI_clamp, vp_q, zu_same, zu_nc, zu_nj, ng_lt, ng_le, ng_gt, ng_ge, ng_eq, ng_qe, ng_ee, ng_add, not_false_eq_true, not_true_eq_false, ne_eq]; omega)) ?_)
      rw [hQ.2.1]
      refine M_sd (s := 2) (p := 0) hQ hp.2 (by omega) (by omega) (by have := hQ.1; omega) (by decide) (by omega) (by omega) (fun y => zin (by decide) (M_args hJ ha ha4 hl (by omega) (fun J2 hJ2 g2 => ih (q + 1) J2 (by omega) (by rw [erN, erZ, if_pos y, if_pos y]; exact hJ2) (sM_t g g2)))) (fun y => zip rfl (ih (q + 1) J (by omega) (by rw [erN, erZ, if_neg y, if_neg y]; exact hJ) g))
  exact ⟨_, lp (wt m) 0 I (by omega) h sM_r⟩
