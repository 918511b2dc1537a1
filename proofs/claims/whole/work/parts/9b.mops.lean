/-! PURE 61: RUN: the reference's instructions -/
theorem mv_i {x : Int32} : mv (Sum.inl x) = x := rfl
theorem mv_r {r : Nat} : mv (Sum.inr r) = nI (r + 1) := rfl
def CdM (I0 : zI) (k : Nat) (wv : nuN) (cb : Nat → Nat → Nat) (ln : nuN) (m : Nat) : Prop := wv m ≤ 1 ∧ (wv m = 1 ↔ (k = 1 ∧ ¬ I0 175 m < 0)) ∧ ln m ≤ (if wv m = 0 then 400 else 1000) ∧ ∀ i, i < ln m → cb m i < 256 ∧ (wv m = 0 → I0 160 (400 * m + i) = nI (cb m i)) ∧ (wv m = 1 → I0 176 (1000 * m + i) = nI (cb m i))
def sM (I J : zI) : Prop := (∀ j, j = 52 ∨ j = 65 ∨ j = 66 ∨ j = 67 ∨ j = 68 → J 155 j = I 155 j) ∧ ∀ c j, 205 ≤ c ∧ c ≤ 207 → J c j = I c j
def tM (x : Int32) (I J : zI) : Prop := J 155 65 = x ∧ (∀ j, j = 52 ∨ j = 66 ∨ j = 67 ∨ j = 68 → J 155 j = I 155 j) ∧ ∀ c j, 205 ≤ c ∧ c ≤ 207 → J c j = I c j
theorem sM_r {I : zI} : sM I I := ⟨fun _ _ => rfl, fun _ _ _ => rfl⟩
theorem sM_t {I J H : zI} (a : sM I J) (b : sM J H) : sM I H := ⟨fun j q => by rw [b.1 j q]; exact a.1 j q, fun c j q => by rw [b.2 c j q]; exact a.2 c j q⟩
theorem sM_f {f : Nat} {I J : zI} (g : ∀ c j, ¬ blkF f c j → J c j = I c j) : sM I J := ⟨fun j _ => g _ _ (by unfold blkF; omega), fun c j _ => g _ _ (by unfold blkF; omega)⟩
theorem M_s0 {I0 I : zI} {k lim : Nat} {n : nuN} {z : nuZ} {fs : List Frm} (h : SM I0 k lim fs n z I) {c j : Nat} (q : ¬ rcM c j) : I c j = I0 c j := h.1.2.2.1 c j q
theorem M_rw {I0 I : zI} {k lim m : Nat} {wv n ln : nuN} {cb : Nat → Nat → Nat} {z : nuZ} {fs : List Frm} {P : zP} {K : Int32 → zI → zP → Prop} (hm : m < 6) (h : SM I0 k lim fs n z I) (hc : CdM I0 k wv cb ln m) (kk : K (nI (wv m)) I P) : w_X10_runsWoven (nI m) I P K := by
  obtain ⟨w1, w2, -⟩ := hc
  have hk := h.1.1
  unfold w_X10_runsWoven w_X10_isWoven
  rw [h.1.2.2.2.1, nI_clamp (by omega), M_s0 h (by unfold rcM; omega)]
  by_cases e : k = 1
  · refine zip (by rw [e]; rfl) ⟨vp_in_nI hm (by decide), ?_⟩
    by_cases q : I0 175 m < 0
    · have : wv m = 0 := by
        have : wv m ≠ 1 := fun z => (w2.mp z).2 q
        omega
      rw [this] at kk
      exact zip q (zip rfl kk)
    · rw [w2.mpr ⟨e, q⟩] at kk
      exact zin q (zin (by decide) kk)
  · have : wv m = 0 := by
      have : wv m ≠ 1 := fun z => e (w2.mp z).1
      omega
    rw [this] at kk
    exact zin (by first | omega | decide | (simp (maxSteps := 400000) (disch := omega) only [q_lit, q_neg, nI_ltI, nI_leI, nI_eq, nI_add, pk_mul, pk_sub, nI_clamp, vp_q, zu_same, zu_nc, zu_nj, ng_lt, ng_le, ng_gt, ng_ge, ng_eq, ng_qe, ng_ee, ng_add, not_false_eq_true, not_true_eq_false, ne_eq]; done) | (simp (maxSteps := 400000) (disch := omega) only [q_lit, q_neg, nI_ltI, nI_leI, nI_eq, nI_add, pk_mul, pk_sub, nI_clamp, vp_q, zu_same, zu_nc, zu_nj, ng_lt, ng_le, ng_gt, ng_ge, ng_eq, ng_qe, ng_ee, ng_add, not_false_eq_true, not_true_eq_false, ne_eq]; omega)) kk
theorem e1000 {m p : Nat} : (1000 : Int32) * nI m + nI p = nI (1000 * m + p) := by rw [show (1000 : Int32) = nI 1000 from rfl, pk_mul, nI_add]
theorem M_oct {I0 I : zI} {k lim m i : Nat} {wv n ln : nuN} {cb : Nat → Nat → Nat} {z : nuZ} {fs : List Frm} {P : zP} {K : Int32 → zI → zP → Prop} (hm : m < 6) (h : SM I0 k lim fs n z I) (hc : CdM I0 k wv cb ln m) (hi : i < ln m) (kk : K (nI (cb m i)) I P) : w_X10_octetAt (nI m) (nI i) I P K := by
  unfold w_X10_octetAt
  refine M_rw hm h hc ?_
  obtain ⟨w1, w2, w3, w4⟩ := hc
  obtain ⟨b1, b2, b3⟩ := w4 i hi
  rw [e400, e1000]
  by_cases e : wv m = 0
  · rw [if_pos e] at w3
    rw [nI_clamp (by omega), M_s0 h (by unfold rcM; omega), b2 e]
    exact zip (by rw [e]; rfl) ⟨vp_in_nI (by omega) (by decide), kk⟩
  · rw [if_neg e] at w3
    rw [nI_clamp (n := 1000 * m + i) (by omega), M_s0 h (c := 176) (by unfold rcM; omega), b3 (by omega)]
    exact zin (by first | omega | decide | (simp (maxSteps := 400000) (disch := omega) only [q_lit, q_neg, nI_ltI, nI_leI, nI_eq, nI_add, pk_mul, pk_sub, nI_clamp, vp_q, zu_same, zu_nc, zu_nj, ng_lt, ng_le, ng_gt, ng_ge, ng_eq, ng_qe, ng_ee, ng_add, not_false_eq_true, not_true_eq_false, ne_eq]; done) | (simp (maxSteps := 400000) (disch := omega) only [q_lit, q_neg, nI_ltI, nI_leI, nI_eq, nI_add, pk_mul, pk_sub, nI_clamp, vp_q, zu_same, zu_nc, zu_nj, ng_lt, ng_le, ng_gt, ng_ge, ng_eq, ng_qe, ng_ee, ng_add, not_false_eq_true, not_true_eq_false, ne_eq]; omega)) ⟨vp_in_nI (by omega) (by decide), kk⟩
theorem M_pl {I0 I : zI} {k lim m p : Nat} {n : nuN} {z : nuZ} {s : List Va} {l : Nat → Va} {fs : List Frm} (h : SM I0 k lim ((m, p, s, l) :: fs) n z I) : fs.length < 12 ∧ m < 6 ∧ p < 1000 ∧ s.length ≤ 10 := by
  obtain ⟨h1, h2, h3, h4, h5, h6, -⟩ := h.2.2.2.1.1
  exact ⟨by have := h.2.1; rw [List.length_cons] at this; omega, h1, h4, h6⟩
/-- plain(): reading the operand -/
theorem M_pre {I0 I : zI} {k lim m p c : Nat} {wv n ln : nuN} {cb : Nat → Nat → Nat} {z : nuZ} {s : List Va} {l : Nat → Va} {fs : List Frm} {P : zP} {K : zI → zP → Prop} (h : SM I0 k lim ((m, p, s, l) :: fs) n z I) (hc : CdM I0 k wv cb ln m) (hp : p + (if fxz c ≤ 1 then 0 else 1) < ln m) (ho : c < 44) (h3 : c ≠ 33) (kk : j_X10_plain_47 K (nI m) (nI p) (nI c) (nI (cb m (p + (if fxz c ≤ 1 then 0 else 1)))) (nI (if 3 ≤ c ∧ c ≤ 5 then cb m (p + (if fxz c ≤ 1 then 0 else 1)) else 0)) (nI (12 * fs.length)) I P) : w_X10_plain (nI m) (nI p) (nI c) I P K := by
  obtain ⟨hf, hm, hp2, -⟩ := M_pl h
  obtain ⟨-, e1⟩ := M_f1 h
  have fl := fxz_le c
  unfold w_X10_plain
  refine s_msz0 (by omega) (Or.inl ho) h3 ?_
  have e12' : (12 : Int32) * (I 155 54 - 1) = nI (12 * fs.length) := by rw [e1, show (12 : Int32) = nI 12 from rfl, pk_mul]
  have go : ∀ (s0 : Int32) (d : Nat), s0 = nI d → d = (if fxz c ≤ 1 then 0 else 1) → j_X10_plain_17 K (nI m) (nI p) (nI c) s0 (nI p) (nI m) I P := fun s0 d hs hd => by
    unfold j_X10_plain_17
    rw [hs, nI_add]
    rw [← hd] at kk hp
    refine M_oct hm h hc hp ?_
    rw [e12']
    by_cases q : 3 ≤ c ∧ c ≤ 5
    · rw [if_pos q] at kk
      exact s_inT ⟨by first | omega | decide | (simp (maxSteps := 400000) (disch := omega) only [q_lit, q_neg, nI_ltI, nI_leI, nI_eq, nI_add, pk_mul, pk_sub, nI_clamp, vp_q, zu_same, zu_nc, zu_nj, ng_lt, ng_le, ng_gt, ng_ge, ng_eq, ng_qe, ng_ee, ng_add, not_false_eq_true, not_true_eq_false, ne_eq]; done) | (simp (maxSteps := 400000) (disch := omega) only [q_lit, q_neg, nI_ltI, nI_leI, nI_eq, nI_add, pk_mul, pk_sub, nI_clamp, vp_q, zu_same, zu_nc, zu_nj, ng_lt, ng_le, ng_gt, ng_ge, ng_eq, ng_qe, ng_ee, ng_add, not_false_eq_true, not_true_eq_false, ne_eq]; omega), by first | omega | decide | (simp (maxSteps := 400000) (disch := omega) only [q_lit, q_neg, nI_ltI, nI_leI, nI_eq, nI_add, pk_mul, pk_sub, nI_clamp, vp_q, zu_same, zu_nc, zu_nj, ng_lt, ng_le, ng_gt, ng_ge, ng_eq, ng_qe, ng_ee, ng_add, not_false_eq_true, not_true_eq_false, ne_eq]; done) | (simp (maxSteps := 400000) (disch := omega) only [q_lit, q_neg, nI_ltI, nI_leI, nI_eq, nI_add, pk_mul, pk_sub, nI_clamp, vp_q, zu_same, zu_nc, zu_nj, ng_lt, ng_le, ng_gt, ng_ge, ng_eq, ng_qe, ng_ee, ng_add, not_false_eq_true, not_true_eq_false, ne_eq]; omega)⟩ (zin (by decide) kk)
    · rw [if_neg q] at kk
      refine s_inF (fun z => q ?_) (zip rfl kk)
      have z1 : nI 3 ≤ nI c := z.1
      have z2 : nI c ≤ nI 5 := z.2
      rw [nI_leI (by omega) (by omega)] at z1 z2
      exact ⟨z1, z2⟩
  by_cases q : fxz c ≤ 1
  · exact zip (by first | omega | decide | (simp (maxSteps := 400000) (disch := omega) only [q_lit, q_neg, nI_ltI, nI_leI, nI_eq, nI_add, pk_mul, pk_sub, nI_clamp, vp_q, zu_same, zu_nc, zu_nj, ng_lt, ng_le, ng_gt, ng_ge, ng_eq, ng_qe, ng_ee, ng_add, not_false_eq_true, not_true_eq_false, ne_eq]; done) | (simp (maxSteps := 400000) (disch := omega) only [q_lit, q_neg, nI_ltI, nI_leI, nI_eq, nI_add, pk_mul, pk_sub, nI_clamp, vp_q, zu_same, zu_nc, zu_nj, ng_lt, ng_le, ng_gt, ng_ge, ng_eq, ng_qe, ng_ee, ng_add, not_false_eq_true, not_true_eq_false, ne_eq]; omega)) (go 0 0 rfl (by rw [if_pos q]))
  · exact zin (by first | omega | decide | (simp (maxSteps := 400000) (disch := omega) only [q_lit, q_neg, nI_ltI, nI_leI, nI_eq, nI_add, pk_mul, pk_sub, nI_clamp, vp_q, zu_same, zu_nc, zu_nj, ng_lt, ng_le, ng_gt, ng_ge, ng_eq, ng_qe, ng_ee, ng_add, not_false_eq_true, not_true_eq_false, ne_eq]; done) | (simp (maxSteps := 400000) (disch := omega) only [q_lit, q_neg, nI_ltI, nI_leI, nI_eq, nI_add, pk_mul, pk_sub, nI_clamp, vp_q, zu_same, zu_nc, zu_nj, ng_lt, ng_le, ng_gt, ng_ge, ng_eq, ng_qe, ng_ee, ng_add, not_false_eq_true, not_true_eq_false, ne_eq]; omega)) (go 1 1 rfl (by rw [if_neg q]))
theorem Mo_move {I0 I : zI} {k lim m p c : Nat} {wv n ln : nuN} {cb : Nat → Nat → Nat} {z : nuZ} {s s' : List Va} {l l' : Nat → Va} {fs : List Frm} {P : zP} {K : zI → zP → Prop} (h : SM I0 k lim ((m, p, s, l) :: fs) n z I) (hc : CdM I0 k wv cb ln m) (hp : p < ln m)
    (ho : (c = 0 ∧ s' = s ∧ l' = l) ∨ (c = 1 ∧ p + 1 < ln m ∧ s.length < 10 ∧ s' = Sum.inl (sb8 (cb m (p + 1))) :: s ∧ l' = l) ∨ (c = 2 ∧ p + 4 < ln m ∧ s.length < 10 ∧ s' = Sum.inl (wrd (cb m (p + 1)) (cb m (p + 2)) (cb m (p + 3)) (cb m (p + 4))) :: s ∧ l' = l) ∨
      (c = 3 ∧ p + 1 < ln m ∧ cb m (p + 1) < 12 ∧ s.length < 10 ∧ s' = l (cb m (p + 1)) :: s ∧ l' = l) ∨ (c = 4 ∧ p + 1 < ln m ∧ cb m (p + 1) < 12 ∧ ∃ v, s = v :: s' ∧ l' = upl l (cb m (p + 1)) v) ∨
      (c = 5 ∧ p + 2 < ln m ∧ cb m (p + 1) < 12 ∧ s' = s ∧ ∃ x, l (cb m (p + 1)) = Sum.inl x ∧ l' = upl l (cb m (p + 1)) (Sum.inl (x + sb8 (cb m (p + 2))))) ∨
      (c = 6 ∧ s.length < 10 ∧ l' = l ∧ ∃ v r, s = v :: r ∧ s' = v :: v :: r) ∨ (c = 7 ∧ l' = l ∧ ∃ v, s = v :: s') ∨ (c = 8 ∧ l' = l ∧ ∃ v w r, s = v :: w :: r ∧ s' = w :: v :: r))
    (kk : ∀ J, SM I0 k lim ((m, p, s', l') :: fs) n z J → sM I J → K J P) : w_X10_plain (nI m) (nI p) (nI c) I P K := by
  obtain ⟨hf, hm, hp2, hlen⟩ := M_pl h
  have h199 := h.2.2.2.1.1.2.2.2.2.2.2.2
  dsimp only at h199
  rcases ho with ⟨rfl, rfl, rfl⟩ | ⟨rfl, q1, q2, rfl, rfl⟩ | ⟨rfl, q1, q2, rfl, rfl⟩ | ⟨rfl, q1, q2, q3, rfl, rfl⟩ | ⟨rfl, q1, q2, v, rfl, rfl⟩ | ⟨rfl, q1, q2, rfl, x, ex, rfl⟩ | ⟨rfl, q1, rfl, v, r, rfl, rfl⟩ | ⟨rfl, rfl, v, rfl⟩ | ⟨rfl, rfl, v, w, r, rfl, rfl⟩
  · refine M_pre h hc (by exact hp) (by decide) (by decide) ?_
    unfold j_X10_plain_47
    repeat (first | (refine zip (by decide) ?_) | (refine zin (by decide) ?_))
    unfold w_X10_other
    refine s_inF (by decide) (zip rfl ?_)
    repeat (first | (refine zip (by decide) ?_) | (refine zin (by decide) ?_))
    exact kk I h sM_r
  · refine M_pre h hc (by exact q1) (by decide) (by decide) ?_
    unfold j_X10_plain_47
    repeat (first | (refine zip (by decide) ?_) | (refine zin (by decide) ?_))
    exact s_ms8 (hc.2.2.2 _ q1).1 (M_give h q2 rfl (fun J hJ g => kk J hJ (sM_f g)))
  · refine M_pre h hc (by show p + 1 < ln m; omega) (by decide) (by decide) ?_
    unfold j_X10_plain_47
    repeat (first | (refine zip (by decide) ?_) | (refine zin (by decide) ?_))
    rw [← nq2, ← nq3, show (4 : Int32) = nI 4 from rfl, nI_add, nI_add, nI_add]
    exact M_oct hm h hc (by omega) (M_oct hm h hc (by omega) (M_oct hm h hc (by omega) (M_give (v := Sum.inl (wrd (cb m (p + 1)) (cb m (p + 2)) (cb m (p + 3)) (cb m (p + 4)))) h q2 rfl (fun J hJ g => kk J hJ (sM_f g)))))
  · refine M_pre h hc (by exact q1) (by decide) (by decide) ?_
    unfold j_X10_plain_47
    repeat (first | (refine zip (by decide) ?_) | (refine zin (by decide) ?_))
    rw [nI_add, nI_clamp (by show 12 * fs.length + cb m (p + 1) < _; omega)]
    exact ⟨vp_in_nI (by show 12 * fs.length + cb m (p + 1) < _; omega) (by decide), M_give h q3 (h199 _ q2) (fun J hJ g => kk J hJ (sM_f g))⟩
  · refine M_pre h hc (by exact q1) (by decide) (by decide) ?_
    unfold j_X10_plain_47
    repeat (first | (refine zip (by decide) ?_) | (refine zin (by decide) ?_))
    rw [nI_add, nI_clamp (by show 12 * fs.length + cb m (p + 1) < _; omega)]
    exact M_take h (fun J hJ g => ⟨vp_in_nI (by show 12 * fs.length + cb m (p + 1) < _; omega) (by decide), kk _ (M_setLocal hJ q2) (sM_t (sM_f g) ⟨fun j _ => zu_nc (by omega), fun c j _ => zu_nc (by omega)⟩)⟩)
  · refine M_pre h hc (by show p + 1 < ln m; omega) (by decide) (by decide) ?_
    unfold j_X10_plain_47
    repeat (first | (refine zip (by decide) ?_) | (refine zin (by decide) ?_))
    rw [nI_add, nI_clamp (by show 12 * fs.length + cb m (p + 1) < _; omega), ← nq2, nI_add]
    refine ⟨vp_in_nI (by show 12 * fs.length + cb m (p + 1) < _; omega) (by decide), M_oct hm h hc q1 (s_ms8 (hc.2.2.2 _ q1).1 ⟨vp_in_nI (by show 12 * fs.length + cb m (p + 1) < _; omega) (by decide), ?_⟩)⟩
    have e := h199 _ q2
    rw [ex] at e
    have e' : I 199 (12 * fs.length + cb m (p + 1)) + sb8 (cb m (p + 2)) = mv (Sum.inl (x + sb8 (cb m (p + 2)))) := by rw [e]; rfl
    show K (zu I 199 (12 * fs.length + cb m (p + 1)) (I 199 (12 * fs.length + cb m (p + 1)) + sb8 (cb m (p + 2)))) P
    rw [e']
    exact kk _ (M_setLocal h q2) ⟨fun j _ => zu_nc (by omega), fun c j _ => zu_nc (by omega)⟩
  · refine M_pre h hc (by exact hp) (by decide) (by decide) ?_
    unfold j_X10_plain_47
    repeat (first | (refine zip (by decide) ?_) | (refine zin (by decide) ?_))
    exact M_top (i := 0) h rfl (M_give h q1 rfl (fun J hJ g => kk J hJ (sM_f g)))
  · refine M_pre h hc (by exact hp) (by decide) (by decide) ?_
    unfold j_X10_plain_47
    repeat (first | (refine zip (by decide) ?_) | (refine zin (by decide) ?_))
    exact M_take h (fun J hJ g => kk J hJ (sM_f g))
  · refine M_pre h hc (by exact hp) (by decide) (by decide) ?_
    unfold j_X10_plain_47
    repeat (first | (refine zip (by decide) ?_) | (refine zin (by decide) ?_))
    unfold w_X10_swap
    rw [List.length_cons, List.length_cons] at hlen
    exact M_take h (fun J hJ g => M_take hJ (fun J2 hJ2 g2 => M_give hJ2 (by omega) rfl (fun J3 hJ3 g3 => M_give hJ3 (by rw [List.length_cons]; omega) rfl (fun J4 hJ4 g4 => kk J4 hJ4 (sM_t (sM_t (sM_f g) (sM_f g2)) (sM_t (sM_f g3) (sM_f g4)))))))
