/-! PURE 68: RUN: what is thrown ends FRAMES, on both sides -/
def CfL (I0 : zI) (k : Nat) (wv wt hn ln : nuN) (cb hd B : Nat → Nat → Nat) (kp nm : Nat) : Prop := nm ≤ 6 ∧ PrL I0 B kp ∧ ∀ m, m < nm → I0 (20 + 12 * m) 0 = nI m ∧ CdL I0 wv cb ln m ∧ HdL I0 wv hd hn m ∧ WtL I0 k wt m ∧ wt m ≤ kp ∧ ∀ j, j < hn m → hd m (4 * j + 2) < 1000
def CfM (I0 : zI) (k : Nat) (wv wt hn ln : nuN) (cb hd B : Nat → Nat → Nat) (kp nm : Nat) : Prop := nm ≤ 6 ∧ PrM I0 B kp ∧ ∀ m, m < nm → CdM I0 k wv cb ln m ∧ HdM I0 wv hd hn m ∧ WtM I0 k wt m ∧ wt m ≤ kp ∧ ∀ j, j < hn m → hd m (4 * j + 2) < 1000
theorem SL_drop {I0 I : zI} {k lim : Nat} {wv n : nuN} {z : nuZ} {x : Frm} {fs : List Frm} {P : zP} (h : SL I0 k lim wv (x :: fs) n z I P) : SL I0 k lim wv fs n z (zu I 114 9 (nI fs.length)) P := by
  obtain ⟨h1, h2, h3, h4, h5, h6⟩ := h
  have hk := h1.1
  rw [List.length_cons] at h2
  exact ⟨ScL_c h1 (fun c j a => zu_ne (by unfold rcL at a; omega)), by omega, zu_same, FsL_c h4.2 (fun c j a => zu_nc (by omega)) (fun _ _ => rfl), MmL_c h5 (fun c j a => zu_nc (by omega)), TaL_c h6 (fun c j a => zu_nc (by omega))⟩
theorem SM_drop {I0 I : zI} {k lim : Nat} {n : nuN} {z : nuZ} {x : Frm} {fs : List Frm} (h : SM I0 k lim (x :: fs) n z I) : SM I0 k lim fs n z (zu I 155 54 (nI fs.length)) := by
  obtain ⟨h1, h2, h3, h4, h5, h6⟩ := h
  rw [List.length_cons] at h2
  exact ⟨ScM_c h1 (fun c j a => zu_ne (by unfold rcM at a; omega)), by omega, zu_same, FsM_c h4.2 (fun f c j hf a => zu_ne (by unfold blkF at a; omega)), MmM_c h5 (fun c j a => zu_ne (by omega)), TaM_c h6 (fun c j a => zu_ne (by omega))⟩
/-- caught by the frame y -/
def OuC (I0 : zI) (I1 : zI → Prop) (k lim kd : Nat) (wv : nuN) (fs : List Frm) (n : nuN) (z : nuZ) (fs' : List Frm) (n' : nuN) (z' : nuZ) : Prop :=
  (∀ I P K, SL I0 k lim wv fs n z I P → (∀ J, SL I0 k lim wv fs' n' z' J P → sL k I J → K J P) → l_X2_unwind_10 K (fs.length + 1) (nI kd) I P) ∧
  (∀ Gb, I1 Gb → ∀ I P K, SM Gb k lim fs n z I → I 155 65 = nI kd → (∀ J, SM Gb k lim fs' n' z' J → sM I J → K J P) → l_X10_isThrown_2 K (fs.length + 1) 1 I P)
def enL (k kd : Nat) (I J : zI) : Prop := J (93 + 5 * k) 4 = 1 ∧ J (93 + 5 * k) 5 = nI kd ∧ J (93 + 5 * k) 9 = I 114 11 ∧ J (93 + 5 * k) 10 = I 114 12
def enM (I J : zI) : Prop := J 155 52 = 1 ∧ ∀ j, j = 65 ∨ j = 66 ∨ j = 67 ∨ j = 68 → J 155 j = I 155 j
/-- caught by none -/
def OuE (I0 : zI) (I1 : zI → Prop) (k lim kd : Nat) (wv : nuN) (fs : List Frm) (n : nuN) (z : nuZ) (n' : nuN) (z' : nuZ) : Prop :=
  (∀ I P K, SL I0 k lim wv fs n z I P → (∀ J, SL I0 k lim wv [] n' z' J P → enL k kd I J → K J P) → l_X2_unwind_10 K (fs.length + 1) (nI kd) I P) ∧
  (∀ Gb, I1 Gb → ∀ I P K, SM Gb k lim fs n z I → I 155 65 = nI kd → (∀ J, SM Gb k lim [] n' z' J → enM I J → K J P) → l_X10_isThrown_2 K (fs.length + 1) 1 I P)
theorem M_tall55 {I0 I : zI} {k lim m kp : Nat} {n wt : nuN} {B : Nat → Nat → Nat} {z : nuZ} {fs : List Frm} {P : zP} {K : zI → zP → Prop} {X : Int32 → zI → zP → Prop} {kd : Nat} (hm : m < 6) (h : SM I0 k lim fs n z I) (hw : WtM I0 k wt m) (hp : PrM I0 B kp) (hle : wt m ≤ kp) (h65 : I 155 65 = nI kd) (hr : n 4 + 24 < 2 ^ 30) (kk : ∀ J, SM I0 k lim fs (tlN B m 3 0 n (wt m)) (tlZ B m 3 0 (-(nI kd)) n z (wt m)) J → sM I J → (if (J 155 54 - 1) ≤ 0 then X 0 (zu J 155 54 (J 155 54 - 1)) P else X 1 (zu J 155 54 (J 155 54 - 1)) P)) : ∃ f, l_X10_isThrown_55 X K f (nI m) 0 I P := by
  have wl := hw.1
  have lp : ∀ d q J, q + d = wt m → SM I0 k lim fs (tlN B m 3 0 n q) (tlZ B m 3 0 (-(nI kd)) n z q) J → sM I J → l_X10_isThrown_55 X K (d + 1) (nI m) (nI q) J P := by
    intro d
    induction d with
    | zero =>
      intro q J hq hJ g
      obtain rfl : q = wt m := by omega
      rw [l_X10_isThrown_55]
      exact M_wt hm hJ hw (zip (by first | omega | decide | (simp (maxSteps := 400000) (disch := omega) only [q_lit, q_neg, nI_ltI, nI_leI, nI_eq, nI_add, pk_mul, pk_sub, nI_clamp, vp_q, zu_same, zu_nc, zu_nj, ng_lt, ng_le, ng_gt, ng_ge, ng_eq, ng_qe, ng_ee, ng_add, not_false_eq_true, not_true_eq_false, ne_eq]; done) | (simp (maxSteps := 400000) (disch := omega) only [q_lit, q_neg, nI_ltI, nI_leI, nI_eq, nI_add, pk_mul, pk_sub, nI_clamp, vp_q, zu_same, zu_nc, zu_nj, ng_lt, ng_le, ng_gt, ng_ge, ng_eq, ng_qe, ng_ee, ng_add, not_false_eq_true, not_true_eq_false, ne_eq]; omega)) (kk J hJ g))
    | succ d ih =>
      intro q J hq hJ g
      have hQ := PrM_q hJ hp
      have t4 := (tlN_4 (B := B) (m := m) (sx := 3) (px := 0) (n := n) q).2.1
      have y65 : J 155 65 = nI kd := by rw [g.1 65 (by omega)]; exact h65
      rw [l_X10_isThrown_55, nI_1]
      refine M_wt hm hJ hw (zin (by first | omega | decide | (simp (maxSteps := 400000) (disch := omega) only [q_lit, q_neg, nI_ltI, nI_leI, nI_eq, nI_add, pk_mul, pk_sub, nI_clamp, vp_q, zu_same, zu_nc, zu_nj, ng_lt, ng_le, ng_gt, ng_ge, ng_eq, ng_qe, ng_ee, ng_add, not_false_eq_true, not_true_eq_false, ne_eq]; done) | (simp (maxSteps := 400000) (disch := omega) only [q_lit, q_neg, nI_ltI, nI_leI, nI_eq, nI_add, pk_mul, pk_sub, nI_clamp, vp_q, zu_same, zu_nc, zu_nj, ng_lt, ng_le, ng_gt, ng_ge, ng_eq, ng_qe, ng_ee, ng_add, not_false_eq_true, not_true_eq_false, ne_eq]; omega)) ?_)
      rw [hQ.2.1]
      refine M_sd (s := 3) (p := 0) hQ hp.2 (by omega) (by omega) (by have := hQ.1; omega) (by decide) (by omega) (by omega) (fun y => zin (by decide) (by rw [y65]; exact M_rcs hJ (by omega) (fun J2 hJ2 g2 => ih (q + 1) J2 (by omega) (by rw [tlN, tlZ, if_pos y, if_pos y]; exact hJ2) (sM_t g g2)))) (fun y => zip rfl (ih (q + 1) J (by omega) ?_ g))
      · rw [tlN, tlZ, if_neg y, if_neg y]; exact hJ
  exact ⟨_, lp (wt m) 0 I (by omega) h sM_r⟩
theorem M_tall59 {I0 I : zI} {k lim m kp px : Nat} {n wt : nuN} {B : Nat → Nat → Nat} {z : nuZ} {fs : List Frm} {P : zP} {K : zI → zP → Prop} {kd : Nat} (hm : m < 6) (hpx : px < 1000) (h : SM I0 k lim fs n z I) (hw : WtM I0 k wt m) (hp : PrM I0 B kp) (hle : wt m ≤ kp) (h65 : I 155 65 = nI kd) (hr : n 4 + 24 < 2 ^ 30) (kk : ∀ J, SM I0 k lim fs (tlN B m 5 px n (wt m)) (tlZ B m 5 px (nI kd) n z (wt m)) J → sM I J → K J P) : ∃ f, l_X10_caught_59 K f (nI m) (nI px) 0 I P := by
  have wl := hw.1
  have lp : ∀ d q J, q + d = wt m → SM I0 k lim fs (tlN B m 5 px n q) (tlZ B m 5 px (nI kd) n z q) J → sM I J → l_X10_caught_59 K (d + 1) (nI m) (nI px) (nI q) J P := by
    intro d
    induction d with
    | zero =>
      intro q J hq hJ g
      obtain rfl : q = wt m := by omega
      rw [l_X10_caught_59]
      exact M_wt hm hJ hw (zip (by first | omega | decide | (simp (maxSteps := 400000) (disch := omega) only [q_lit, q_neg, nI_ltI, nI_leI, nI_eq, nI_add, pk_mul, pk_sub, nI_clamp, vp_q, zu_same, zu_nc, zu_nj, ng_lt, ng_le, ng_gt, ng_ge, ng_eq, ng_qe, ng_ee, ng_add, not_false_eq_true, not_true_eq_false, ne_eq]; done) | (simp (maxSteps := 400000) (disch := omega) only [q_lit, q_neg, nI_ltI, nI_leI, nI_eq, nI_add, pk_mul, pk_sub, nI_clamp, vp_q, zu_same, zu_nc, zu_nj, ng_lt, ng_le, ng_gt, ng_ge, ng_eq, ng_qe, ng_ee, ng_add, not_false_eq_true, not_true_eq_false, ne_eq]; omega)) (kk J hJ g))
    | succ d ih =>
      intro q J hq hJ g
      have hQ := PrM_q hJ hp
      have t4 := (tlN_4 (B := B) (m := m) (sx := 5) (px := px) (n := n) q).2.1
      have y65 : J 155 65 = nI kd := by rw [g.1 65 (by omega)]; exact h65
      rw [l_X10_caught_59, nI_1]
      refine M_wt hm hJ hw (zin (by first | omega | decide | (simp (maxSteps := 400000) (disch := omega) only [q_lit, q_neg, nI_ltI, nI_leI, nI_eq, nI_add, pk_mul, pk_sub, nI_clamp, vp_q, zu_same, zu_nc, zu_nj, ng_lt, ng_le, ng_gt, ng_ge, ng_eq, ng_qe, ng_ee, ng_add, not_false_eq_true, not_true_eq_false, ne_eq]; done) | (simp (maxSteps := 400000) (disch := omega) only [q_lit, q_neg, nI_ltI, nI_leI, nI_eq, nI_add, pk_mul, pk_sub, nI_clamp, vp_q, zu_same, zu_nc, zu_nj, ng_lt, ng_le, ng_gt, ng_ge, ng_eq, ng_qe, ng_ee, ng_add, not_false_eq_true, not_true_eq_false, ne_eq]; omega)) ?_)
      rw [hQ.2.1]
      refine M_sd (s := 5) hQ hp.2 (by omega) (by omega) (by have := hQ.1; omega) (by decide) (by omega) (by omega) (fun y => zin (by decide) (by rw [y65]; exact M_rcs hJ (by omega) (fun J2 hJ2 g2 => ih (q + 1) J2 (by omega) (by rw [tlN, tlZ, if_pos y, if_pos y]; exact hJ2) (sM_t g g2)))) (fun y => zip rfl (ih (q + 1) J (by omega) ?_ g))
      · rw [tlN, tlZ, if_neg y, if_neg y]; exact hJ
  exact ⟨_, lp (wt m) 0 I (by omega) h sM_r⟩
theorem M_reset {I0 I : zI} {k lim m p : Nat} {n : nuN} {z : nuZ} {s : List Va} {l : Nat → Va} {fs : List Frm} (h : SM I0 k lim ((m, p, s, l) :: fs) n z I) : SM I0 k lim ((m, p, [], l) :: fs) n z (zu I 198 fs.length 0) := by
  obtain ⟨h1, h2, h3, h4, h5, h6, h7, h8⟩ := h.2.2.2.1.1
  refine SM_top h ⟨h1, ?_, ?_, h4, zu_same, Nat.zero_le _, trivial, fun q hq => ?_⟩ (fun c j a => by unfold blkF at a; rw [zu_ne (by omega)])
  · rw [zu_nc (by omega)]; exact h2
  · rw [zu_nc (by omega)]; exact h3
  · rw [zu_nc (by omega)]; exact h8 q hq
theorem M_caught {I0 I : zI} {k lim m p kp kd j : Nat} {wv n wt hn ln : nuN} {cb hd B : Nat → Nat → Nat} {z : nuZ} {s : List Va} {l : Nat → Va} {fs : List Frm} {P : zP} {K : zI → zP → Prop} (h : SM I0 k lim ((m, p, s, l) :: fs) n z I) (hc : CdM I0 k wv cb ln m) (hh : HdM I0 wv hd hn m) (hw : WtM I0 k wt m) (hp : PrM I0 B kp) (hle : wt m ≤ kp) (h65 : I 155 65 = nI kd) (hr : n 4 + 24 < 2 ^ 30) (hj : j < hn m) (ht : hd m (4 * j + 2) < 1000) (kk : ∀ J, SM I0 k lim ((m, hd m (4 * j + 2), [Sum.inl (nI kd)], l) :: fs) (tlN B m 5 (hd m (4 * j + 2)) n (wt m)) (tlZ B m 5 (hd m (4 * j + 2)) (nI kd) n z (wt m)) J → sM I J → K J P) : w_X10_caught (nI m) (nI (if wv m = 0 then 8 * m + j else 9 * m + j)) I P K := by
  obtain ⟨hf, hm, -, -⟩ := M_pl h
  obtain ⟨n9, b16, g0, g1⟩ := hh
  have w1 := hc.1
  unfold w_X10_caught
  refine M_rw hm h hc ?_
  have fin : j_X10_caught_23 K (nI m) (nI (hd m (4 * j + 2))) I P := by
    unfold j_X10_caught_23
    obtain ⟨-, e1⟩ := M_f1 h
    rw [e1, nI_clamp (by omega), zu_nc (a := 155) (by omega), h65]
    refine ⟨vp_in_nI hf (by decide), M_give (v := Sum.inl (nI kd)) (M_reset h) (by decide) rfl (fun J hJ g => ?_)⟩
    obtain ⟨-, e2⟩ := M_f1 hJ
    rw [e2, nI_clamp (by omega)]
    have s1 : sM I J := sM_t ⟨fun j _ => zu_nc (by omega), fun c j _ => zu_nc (by omega)⟩ (sM_f g)
    have s2 : sM I (zu J 197 fs.length (nI (hd m (4 * j + 2)))) := sM_t s1 ⟨fun j _ => zu_nc (by omega), fun c j _ => zu_nc (by omega)⟩
    refine ⟨vp_in_nI hf (by decide), M_tall59 hm ht (M_place hJ ht) hw hp hle (by rw [s2.1 65 (by omega)]; exact h65) hr (fun J2 hJ2 g2 => kk J2 hJ2 (sM_t s2 g2))⟩
  by_cases e0 : wv m = 0
  · rw [if_pos e0] at n9 ⊢
    rw [nI_clamp (by omega), M_s0 h (c := 164) (by unfold rcM; omega), ((g0 e0).2 j hj).2.2.1]
    exact zip (by rw [e0]; rfl) ⟨vp_in_nI (by omega) (by decide), fin⟩
  · rw [if_neg e0] at n9 ⊢
    rw [nI_clamp (by omega), M_s0 h (c := 182) (by unfold rcM; omega), ((g1 e0).2 j hj).2.2.1]
    exact zin (by first | omega | decide | (simp (maxSteps := 400000) (disch := omega) only [q_lit, q_neg, nI_ltI, nI_leI, nI_eq, nI_add, pk_mul, pk_sub, nI_clamp, vp_q, zu_same, zu_nc, zu_nj, ng_lt, ng_le, ng_gt, ng_ge, ng_eq, ng_qe, ng_ee, ng_add, not_false_eq_true, not_true_eq_false, ne_eq]; done) | (simp (maxSteps := 400000) (disch := omega) only [q_lit, q_neg, nI_ltI, nI_leI, nI_eq, nI_add, pk_mul, pk_sub, nI_clamp, vp_q, zu_same, zu_nc, zu_nj, ng_lt, ng_le, ng_gt, ng_ge, ng_eq, ng_qe, ng_ee, ng_add, not_false_eq_true, not_true_eq_false, ne_eq]; omega)) ⟨vp_in_nI (by omega) (by decide), fin⟩
theorem L_unw0 {I0 I : zI} {k lim kd f : Nat} {wv n : nuN} {z : nuZ} {P : zP} {K : zI → zP → Prop} (h : SL I0 k lim wv [] n z I P) (kk : ∀ J, SL I0 k lim wv [] n z J P → enL k kd I J → K J P) : l_X2_unwind_10 K (f + 1) (nI kd) I P := by
  obtain ⟨h1, h2, h3, h4, h5, h6⟩ := h
  have hk := h1.1
  rw [l_X2_unwind_10, h3]
  refine zip (by decide) ?_
  unfold j_X2_unwind_80
  have y6 := h1.2.2.2.1
  refine ⟨_, y6, shT hk, _, y6, shT hk, _, y6, shT hk, _, y6, shT hk, ?_⟩
  rw [zu_nc (a := 114) (by omega), zu_nc (a := 114) (by omega), zu_nc (a := 114) (by omega), zu_nc (a := 114) (by omega), zu_nc (a := 114) (by omega)]
  refine kk _ ⟨ScL_c h1 (fun c j a => ?_), h2, ?_, trivial, MmL_c h5 (fun c j a => ?_), ?_⟩ ⟨?_, ?_, ?_, ?_⟩
  · unfold rcL at a; rw [zu_nc (by omega), zu_nc (by omega), zu_nc (by omega), zu_nc (by omega)]
  · rw [zu_nc (by omega), zu_nc (by omega), zu_nc (by omega), zu_nc (by omega)]; exact h3
  · rw [zu_nc (by omega), zu_nc (by omega), zu_nc (by omega), zu_nc (by omega)]
  · obtain ⟨t1, t2, t3, t4, t5, t6, t7, t8, t9, t10, t11⟩ := h6
    exact ⟨t1, t2, t3, t4, by rw [zu_nj (by omega), zu_nj (by omega), zu_nj (by omega), zu_nj (by omega)]; exact t5, by rw [zu_nj (by omega), zu_nj (by omega), zu_nj (by omega), zu_nj (by omega)]; exact t6, by rw [zu_nj (by omega), zu_nj (by omega), zu_nj (by omega), zu_nj (by omega)]; exact t7, by rw [zu_nj (by omega), zu_nj (by omega), zu_nj (by omega), zu_nj (by omega)]; exact t8, by rw [zu_nj (by omega), zu_nj (by omega), zu_nj (by omega), zu_nj (by omega)]; exact t9, fun i hi => by rw [zu_nc (by omega), zu_nc (by omega), zu_nc (by omega), zu_nc (by omega)]; exact t10 i hi, fun i hi h => by rw [zu_nc (by omega), zu_nc (by omega), zu_nc (by omega), zu_nc (by omega), zu_nc (by omega), zu_nc (by omega), zu_nc (by omega), zu_nc (by omega)]; exact t11 i hi h⟩
  · rw [zu_nj (by omega), zu_nj (by omega), zu_nj (by omega), zu_same]
  · rw [zu_nj (by omega), zu_nj (by omega), zu_same]
  · rw [zu_nj (by omega), zu_same]
  · rw [zu_same]
theorem uw_ok {I0 : zI} {I1 : zI → Prop} {k lim kd kp nm : Nat} {wv wt hn ln : nuN} {cb hd B : Nat → Nat → Nat} (hL : CfL I0 k wv wt hn ln cb hd B kp nm) (hM : ∀ Gb, I1 Gb → CfM Gb k wv wt hn ln cb hd B kp nm) (hkd : 1 ≤ kd ∧ kd ≤ 105) : ∀ (fs : List Frm) (n : nuN) (z : nuZ), fs ≠ [] → (∀ x, x ∈ fs → x.1 < nm ∧ x.2.1 < 1000) → fs.length ≤ 12 → n 4 + 48 * fs.length < 2 ^ 30 →
    (∃ m p s l rest j n' z', (∃ pre, fs = pre ++ (m, p, s, l) :: rest) ∧ hit hd hn m p kd j ∧ OuC I0 I1 k lim kd wv fs n z ((m, hd m (4 * j + 2), [Sum.inl (nI kd)], l) :: rest) n' z' ∧ n' 4 ≤ n 4 + 48 * fs.length ∧ ∀ i, i ≠ 4 → n' i = n i) ∨
    (∃ n' z', OuE I0 I1 k lim kd wv fs n z n' z' ∧ n' 4 ≤ n 4 + 48 * fs.length ∧ ∀ i, i ≠ 4 → n' i = n i)
  | [], n, z, ne, _, _, _ => absurd rfl ne
  | (m, p, s, l) :: fs, n, z, _, hx, h12, hr => by
    have hx0 := hx (m, p, s, l) List.mem_cons_self
    dsimp only at hx0
    have hm : m < nm := hx0.1
    have hp := hx0.2
    rw [List.length_cons] at h12 hr
    have hL' := hL
    have hM' := hM
    obtain ⟨nm6, hpL, cL⟩ := hL
    have hpM := fun Gb hGb => (hM Gb hGb).2.1
    have cM := fun Gb hGb => (hM Gb hGb).2.2 m hm
    obtain ⟨a1, a2, a3, a4, a5, a6⟩ := cL m hm
    have b1 := fun Gb hGb => (cM Gb hGb).1
    have b2 := fun Gb hGb => (cM Gb hGb).2.1
    have b3 := fun Gb hGb => (cM Gb hGb).2.2.1
    have b4 := fun Gb hGb => (cM Gb hGb).2.2.2.1
    have b5 := fun Gb hGb => (cM Gb hGb).2.2.2.2
    have hm6 : m < 6 := by omega
    have wl := a4.1
    have q8 : hn m ≤ 9 := by have := a3.1; split at this <;> omega
    by_cases hh : ∃ j, hit hd hn m p kd j
    · obtain ⟨j, hj⟩ := hh
      have uni : ∀ j', hit hd hn m p kd j' → j' = j := fun j' h' => by
        rcases Nat.lt_trichotomy j' j with q | q | q
        · exact absurd h'.2.1 (hj.2.2 j' q)
        · exact q
        · exact absurd hj.2.1 (h'.2.2 j q)
      have t4 := tlN_4 (B := B) (m := m) (sx := 5) (px := hd m (4 * j + 2)) (n := n) (wt m)
      refine Or.inl ⟨m, p, s, l, fs, j, tlN B m 5 (hd m (4 * j + 2)) n (wt m), tlZ B m 5 (hd m (4 * j + 2)) (nI kd) n z (wt m), ⟨[], rfl⟩, hj, ⟨fun I P K h kk => ?_, fun Gb hGb I P K h h65 kk => ?_⟩, by rw [List.length_cons]; omega, t4.2.2⟩
      · have e9 := h.2.2.1
        rw [List.length_cons] at e9 ⊢
        have e8 : nI (fs.length + 1) - 1 = nI fs.length := by rw [← nq1, pk_sub (by omega)]; rfl
        rw [l_X2_unwind_10, e9, e8, nI_clamp (by omega)]
        refine zin (by first | omega | decide | (simp (maxSteps := 400000) (disch := omega) only [q_lit, q_neg, nI_ltI, nI_leI, nI_eq, nI_add, pk_mul, pk_sub, nI_clamp, vp_q, zu_same, zu_nc, zu_nj, ng_lt, ng_le, ng_gt, ng_ge, ng_eq, ng_qe, ng_ee, ng_add, not_false_eq_true, not_true_eq_false, ne_eq]; done) | (simp (maxSteps := 400000) (disch := omega) only [q_lit, q_neg, nI_ltI, nI_leI, nI_eq, nI_add, pk_mul, pk_sub, nI_clamp, vp_q, zu_same, zu_nc, zu_nj, ng_lt, ng_le, ng_gt, ng_ge, ng_eq, ng_qe, ng_ee, ng_add, not_false_eq_true, not_true_eq_false, ne_eq]; omega)) (zin (by first | omega | decide | (simp (maxSteps := 400000) (disch := omega) only [q_lit, q_neg, nI_ltI, nI_leI, nI_eq, nI_add, pk_mul, pk_sub, nI_clamp, vp_q, zu_same, zu_nc, zu_nj, ng_lt, ng_le, ng_gt, ng_ge, ng_eq, ng_qe, ng_ee, ng_add, not_false_eq_true, not_true_eq_false, ne_eq]; done) | (simp (maxSteps := 400000) (disch := omega) only [q_lit, q_neg, nI_ltI, nI_leI, nI_eq, nI_add, pk_mul, pk_sub, nI_clamp, vp_q, zu_same, zu_nc, zu_nj, ng_lt, ng_le, ng_gt, ng_ge, ng_eq, ng_qe, ng_ee, ng_add, not_false_eq_true, not_true_eq_false, ne_eq]; omega)) ⟨vp_in_nI (by omega) (by decide), _, pF h.1.2.2.1 (by omega), shF (by omega), L_catch h a2.1 a3 (by omega) a6 (fun j' h' J hJ g => zin (by decide) ?_) (fun no => absurd hj.2.1 (no j hj.1))⟩)
        obtain rfl := uni j' h'
        obtain ⟨e5, -, -, -⟩ := L_pl hJ
        rw [e5]
        exact L_tall (sx := 5) hJ a1 a4 hpL a5 (by decide) (a6 _ hj.1) (by omega) (fun J2 hJ2 g2 => kk J2 hJ2 (sL_t g g2))
      · obtain ⟨hf, e1⟩ := M_f1 h
        obtain ⟨q1, q2, q3, -⟩ := h.2.2.2.1.1
        dsimp only at q2 q3
        have v1 : vp_in (nI fs.length) 12 := vp_in_nI hf (by decide)
        rw [List.length_cons, l_X10_isThrown_2, e1, nI_clamp (by omega), q2, q3]
        refine zin (by decide) ⟨v1, v1, M_catch hm6 hp h (b1 Gb hGb) (b2 Gb hGb) h65 (by omega) (fun j' h' => zin ?_ ?_) (fun no => absurd hj.2.1 (no j hj.1))⟩
        · have := h'.1
          split <;> first | omega | decide | (simp (maxSteps := 400000) (disch := omega) only [q_lit, q_neg, nI_ltI, nI_leI, nI_eq, nI_add, pk_mul, pk_sub, nI_clamp, vp_q, zu_same, zu_nc, zu_nj, ng_lt, ng_le, ng_gt, ng_ge, ng_eq, ng_qe, ng_ee, ng_add, not_false_eq_true, not_true_eq_false, ne_eq]; done) | (simp (maxSteps := 400000) (disch := omega) only [q_lit, q_neg, nI_ltI, nI_leI, nI_eq, nI_add, pk_mul, pk_sub, nI_clamp, vp_q, zu_same, zu_nc, zu_nj, ng_lt, ng_le, ng_gt, ng_ge, ng_eq, ng_qe, ng_ee, ng_add, not_false_eq_true, not_true_eq_false, ne_eq]; omega)
        · obtain rfl := uni j' h'
          exact M_caught h (b1 Gb hGb) (b2 Gb hGb) (b3 Gb hGb) (hpM Gb hGb) (b4 Gb hGb) h65 (by omega) hj.1 (b5 Gb hGb _ hj.1) kk
    · have nohit : ∀ j, hit hd hn m p kd j → False := fun j h => hh ⟨j, h⟩
      have no : ∀ j, j < hn m → ¬ hcd hd m p kd j := by
        intro j
        induction j using Nat.strongRecOn with
        | ind j ih => exact fun hj q => hh ⟨j, hj, q, fun i hi => ih i hi (by omega)⟩
      have t4 := tlN_4 (B := B) (m := m) (sx := 3) (px := 0) (n := n) (wt m)
      have goL : ∀ I P K, SL I0 k lim wv ((m, p, s, l) :: fs) n z I P → (∀ J, SL I0 k lim wv fs (tlN B m 3 0 n (wt m)) (tlZ B m 3 0 (-(nI kd)) n z (wt m)) J P → sL k I J → l_X2_unwind_10 K (fs.length + 1) (nI kd) J P) → l_X2_unwind_10 K (((m, p, s, l) :: fs).length + 1) (nI kd) I P := fun I P K h kk => by
        have e9 := h.2.2.1
        rw [List.length_cons] at e9 ⊢
        have e8 : nI (fs.length + 1) - 1 = nI fs.length := by rw [← nq1, pk_sub (by omega)]; rfl
        rw [l_X2_unwind_10, e9, e8, nI_clamp (by omega)]
        refine zin (by first | omega | decide | (simp (maxSteps := 400000) (disch := omega) only [q_lit, q_neg, nI_ltI, nI_leI, nI_eq, nI_add, pk_mul, pk_sub, nI_clamp, vp_q, zu_same, zu_nc, zu_nj, ng_lt, ng_le, ng_gt, ng_ge, ng_eq, ng_qe, ng_ee, ng_add, not_false_eq_true, not_true_eq_false, ne_eq]; done) | (simp (maxSteps := 400000) (disch := omega) only [q_lit, q_neg, nI_ltI, nI_leI, nI_eq, nI_add, pk_mul, pk_sub, nI_clamp, vp_q, zu_same, zu_nc, zu_nj, ng_lt, ng_le, ng_gt, ng_ge, ng_eq, ng_qe, ng_ee, ng_add, not_false_eq_true, not_true_eq_false, ne_eq]; omega)) (zin (by first | omega | decide | (simp (maxSteps := 400000) (disch := omega) only [q_lit, q_neg, nI_ltI, nI_leI, nI_eq, nI_add, pk_mul, pk_sub, nI_clamp, vp_q, zu_same, zu_nc, zu_nj, ng_lt, ng_le, ng_gt, ng_ge, ng_eq, ng_qe, ng_ee, ng_add, not_false_eq_true, not_true_eq_false, ne_eq]; done) | (simp (maxSteps := 400000) (disch := omega) only [q_lit, q_neg, nI_ltI, nI_leI, nI_eq, nI_add, pk_mul, pk_sub, nI_clamp, vp_q, zu_same, zu_nc, zu_nj, ng_lt, ng_le, ng_gt, ng_ge, ng_eq, ng_qe, ng_ee, ng_add, not_false_eq_true, not_true_eq_false, ne_eq]; omega)) ⟨vp_in_nI (by omega) (by decide), _, pF h.1.2.2.1 (by omega), shF (by omega), L_catch h a2.1 a3 (by omega) a6 (fun j' h' => (nohit j' h').elim) (fun _ => zip rfl (L_tall (sx := 3) (px := 0) h a1 a4 hpL a5 (by decide) (by decide) (by omega) (fun J hJ g => ?_)))⟩)
        have e9' := hJ.2.2.1
        rw [List.length_cons] at e9'
        rw [e9', e8]
        exact kk _ (SL_drop hJ) (sL_t g ⟨fun j q => zu_nj (by omega), fun j q => zu_nc (by have := h.1.1; omega)⟩)
      have goM : ∀ Gb, I1 Gb → ∀ I P K, SM Gb k lim ((m, p, s, l) :: fs) n z I → I 155 65 = nI kd → (∀ J, SM Gb k lim fs (tlN B m 3 0 n (wt m)) (tlZ B m 3 0 (-(nI kd)) n z (wt m)) J → sM I J → l_X10_isThrown_2 K (fs.length + 1) (if fs.length = 0 then 0 else 1) J P) → l_X10_isThrown_2 K (((m, p, s, l) :: fs).length + 1) 1 I P := fun Gb hGb I P K h h65 kk => by
        obtain ⟨hf, e1⟩ := M_f1 h
        obtain ⟨q1, q2, q3, -⟩ := h.2.2.2.1.1
        dsimp only at q2 q3
        have v1 : vp_in (nI fs.length) 12 := vp_in_nI hf (by decide)
        rw [List.length_cons, l_X10_isThrown_2, e1, nI_clamp (by omega), q2, q3]
        refine zin (by decide) ⟨v1, v1, M_catch hm6 hp h (b1 Gb hGb) (b2 Gb hGb) h65 (by omega) (fun j' h' => (nohit j' h').elim) (fun _ => zip rfl (M_tall55 hm6 h (b3 Gb hGb) (hpM Gb hGb) (b4 Gb hGb) h65 (by omega) (fun J hJ g => ?_)))⟩
        obtain ⟨-, e2⟩ := M_f1 hJ
        rw [e2]
        have k2 := kk _ (SM_drop hJ) (sM_t g ⟨fun j q => zu_nj (by omega), fun c j q => zu_nc (by omega)⟩)
        by_cases e0 : fs.length = 0
        · rw [if_pos e0] at k2
          exact zip (by rw [e0]; decide) k2
        · rw [if_neg e0] at k2
          exact zin (by first | omega | decide | (simp (maxSteps := 400000) (disch := omega) only [q_lit, q_neg, nI_ltI, nI_leI, nI_eq, nI_add, pk_mul, pk_sub, nI_clamp, vp_q, zu_same, zu_nc, zu_nj, ng_lt, ng_le, ng_gt, ng_ge, ng_eq, ng_qe, ng_ee, ng_add, not_false_eq_true, not_true_eq_false, ne_eq]; done) | (simp (maxSteps := 400000) (disch := omega) only [q_lit, q_neg, nI_ltI, nI_leI, nI_eq, nI_add, pk_mul, pk_sub, nI_clamp, vp_q, zu_same, zu_nc, zu_nj, ng_lt, ng_le, ng_gt, ng_ge, ng_eq, ng_qe, ng_ee, ng_add, not_false_eq_true, not_true_eq_false, ne_eq]; omega)) k2
      by_cases ne : fs = []
      · subst ne
        refine Or.inr ⟨_, _, ⟨fun I P K h kk => goL I P K h (fun J hJ g => L_unw0 hJ (fun J2 hJ2 en => kk J2 hJ2 ⟨en.1, en.2.1, by rw [en.2.2.1]; exact g.1 11 (by omega), by rw [en.2.2.2]; exact g.1 12 (by omega)⟩)), fun Gb hGb I P K h h65 kk => goM Gb hGb I P K h h65 (fun J hJ g => ?_)⟩, by rw [List.length_cons]; omega, t4.2.2⟩
        rw [List.length_nil, if_pos rfl, l_X10_isThrown_2]
        exact zip rfl (kk _ (SM_aux hJ (fun c j a b => zu_ne (by omega))) ⟨zu_same, fun j q => by rw [zu_nj (by omega)]; exact g.1 j (by omega)⟩)
      · have nl : fs.length ≠ 0 := fun q => ne (List.eq_nil_of_length_eq_zero q)
        rcases uw_ok hL' hM' hkd fs (tlN B m 3 0 n (wt m)) (tlZ B m 3 0 (-(nI kd)) n z (wt m)) ne (fun x hx' => hx x (List.mem_cons_of_mem _ hx')) (by omega) (by omega) with ⟨m', p', s', l', rest, j, n', z', ⟨pre, e⟩, hj, ⟨o1, o2⟩, r1, r2⟩ | ⟨n', z', ⟨o1, o2⟩, r1, r2⟩
        · refine Or.inl ⟨m', p', s', l', rest, j, n', z', ⟨(m, p, s, l) :: pre, by rw [e]; rfl⟩, hj, ⟨fun I P K h kk => goL I P K h (fun J hJ g => o1 J P K hJ (fun J2 hJ2 g2 => kk J2 hJ2 (sL_t g g2))), fun Gb hGb I P K h h65 kk => goM Gb hGb I P K h h65 (fun J hJ g => ?_)⟩, by rw [List.length_cons]; omega, fun i hi => by rw [r2 i hi]; exact t4.2.2 i hi⟩
          rw [if_neg nl]
          exact o2 Gb hGb J P K hJ (by rw [g.1 65 (by omega)]; exact h65) (fun J2 hJ2 g2 => kk J2 hJ2 (sM_t g g2))
        · refine Or.inr ⟨n', z', ⟨fun I P K h kk => goL I P K h (fun J hJ g => o1 J P K hJ (fun J2 hJ2 en => kk J2 hJ2 ⟨en.1, en.2.1, by rw [en.2.2.1]; exact g.1 11 (by omega), by rw [en.2.2.2]; exact g.1 12 (by omega)⟩)), fun Gb hGb I P K h h65 kk => goM Gb hGb I P K h h65 (fun J hJ g => ?_)⟩, by rw [List.length_cons]; omega, fun i hi => by rw [r2 i hi]; exact t4.2.2 i hi⟩
          rw [if_neg nl]
          exact o2 Gb hGb J P K hJ (by rw [g.1 65 (by omega)]; exact h65) (fun J2 hJ2 en => kk J2 hJ2 ⟨en.1, fun j q => by rw [en.2 j q]; exact g.1 j (by omega)⟩)
