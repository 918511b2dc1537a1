/-! PURE 58: RUN: the loom's instructions -/
def cc (wv : nuN) (m : Nat) : Nat := if wv m = 0 then 21 + 12 * m else 27 + 12 * m
def CdL (I0 : zI) (wv : nuN) (cb : Nat → Nat → Nat) (ln : nuN) (m : Nat) : Prop := wv m ≤ 1 ∧ ln m ≤ (if wv m = 0 then 400 else 1000) ∧ ∀ i, i < ln m → cb m i < 256 ∧ I0 (cc wv m) i = nI (cb m i)
def sL (k : Nat) (I J : zI) : Prop := (∀ j, 10 ≤ j → J 114 j = I 114 j) ∧ ∀ j, j = 4 ∨ j = 5 ∨ j = 9 ∨ j = 10 → J (93 + 5 * k) j = I (93 + 5 * k) j
theorem sL_r {k : Nat} {I : zI} : sL k I I := ⟨fun _ _ => rfl, fun _ _ => rfl⟩
theorem sL_t {k : Nat} {I J H : zI} (a : sL k I J) (b : sL k J H) : sL k I H := ⟨fun j q => by rw [b.1 j q]; exact a.1 j q, fun j q => by rw [b.2 j q]; exact a.2 j q⟩
theorem sL_f {k f : Nat} {I J : zI} (hk : k < 3) (g : ∀ c j, ¬ (119 + 3 * f ≤ c ∧ c ≤ 121 + 3 * f) → J c j = I c j) : sL k I J := ⟨fun j _ => g _ _ (by omega), fun j _ => g _ _ (by omega)⟩
theorem cc_s {wv : nuN} {m : Nat} (hm : m < 6) : ∃ N, SHy[cc wv m]? = some (11, zlen (cc wv m)) ∧ zlen (cc wv m) = N ∧ N = (if wv m = 0 then 400 else 1000) := by
  unfold cc
  by_cases e : wv m = 0
  · rw [if_pos e, if_pos e]; exact ⟨_, shM1 hm, zzM1 hm, rfl⟩
  · rw [if_neg e, if_neg e]; exact ⟨_, shW0 hm, zzW0 hm, rfl⟩
theorem L_code {I0 I : zI} {k lim m p : Nat} {wv n ln : nuN} {cb : Nat → Nat → Nat} {z : nuZ} {s : List Va} {l : Nat → Va} {fs : List Frm} {P : zP} {K : Nat → zI → zP → Prop} (h : SL I0 k lim wv ((m, p, s, l) :: fs) n z I P) (hc : CdL I0 wv cb ln m) (kk : K (cc wv m) I P) : w_X0_code (119 + 3 * fs.length) I P K := by
  obtain ⟨h1, h2, h3, -⟩ := h.2.2.2.1.1
  have hf : fs.length < 12 := by have := h.2.1; rw [List.length_cons] at this; omega
  have hP := h.1.2.2.1
  dsimp only at h1 h2 h3
  have hw := hc.1
  unfold w_X0_code
  unfold cc at kk
  rw [h3]
  refine ⟨shF hf, ?_⟩
  by_cases e : wv m = 0
  · rw [if_pos e] at kk
    exact zip (by rw [e]; rfl) ⟨_, h2, shM h1, _, pM1 hP h1, kk⟩
  · rw [if_neg e] at kk
    exact zin (by first | omega | decide | (simp (maxSteps := 400000) (disch := omega) only [q_lit, q_neg, nI_ltI, nI_leI, nI_eq, nI_add, pk_mul, pk_sub, nI_clamp, vp_q, zu_same, zu_nc, zu_nj, ng_lt, ng_le, ng_gt, ng_ge, ng_eq, ng_qe, ng_ee, ng_add, not_false_eq_true, not_true_eq_false, ne_eq]; done) | (simp (maxSteps := 400000) (disch := omega) only [q_lit, q_neg, nI_ltI, nI_leI, nI_eq, nI_add, pk_mul, pk_sub, nI_clamp, vp_q, zu_same, zu_nc, zu_nj, ng_lt, ng_le, ng_gt, ng_ge, ng_eq, ng_qe, ng_ee, ng_add, not_false_eq_true, not_true_eq_false, ne_eq]; omega)) ⟨_, h2, shM h1, _, pM6 hP h1, shW h1, _, pW0 hP h1, kk⟩
theorem L_c0 {I0 I : zI} {k lim m : Nat} {wv n ln : nuN} {cb : Nat → Nat → Nat} {z : nuZ} {fs : List Frm} {P : zP} {i : Nat} (hm : m < 6) (h : SL I0 k lim wv fs n z I P) (hc : CdL I0 wv cb ln m) (hi : i < ln m) : I (cc wv m) i = nI (cb m i) := by
  have hk := h.1.1
  rw [h.1.2.2.2.2.1 _ _ (by unfold rcL cc; split <;> omega)]
  exact (hc.2.2 i hi).2
theorem L_byt {I0 I : zI} {k lim m i : Nat} {wv n ln : nuN} {cb : Nat → Nat → Nat} {z : nuZ} {fs : List Frm} {P : zP} {K : Int32 → zI → zP → Prop} (hm : m < 6) (h : SL I0 k lim wv fs n z I P) (hc : CdL I0 wv cb ln m) (hi : i < ln m) (kk : K (nI (cb m i)) I P) : w_X9_byteAt (cc wv m) (nI i) I P K := by
  obtain ⟨N, s1, s2, s3⟩ := cc_s (wv := wv) hm
  have hl := hc.2.1
  rw [← s3] at hl
  refine s_byte s1 s2 (by rw [s3]; split <;> decide) (by omega) ?_
  rw [L_c0 hm h hc hi]; exact kk
theorem L_bytA {m i : Nat} {wv : nuN} {I : zI} {P : zP} {K : Int32 → zI → zP → Prop} (hm : m < 6) (hi : i < 2 ^ 31) (kk : ∀ v, K v I P) : w_X9_byteAt (cc wv m) (nI i) I P K := by
  obtain ⟨N, s1, s2, s3⟩ := cc_s (wv := wv) hm
  have hN : N < 2 ^ 31 := by rw [s3]; split <;> decide
  unfold w_X9_byteAt
  refine zin (nI_pos (by omega)) ⟨s1, ?_⟩
  rw [s2]
  by_cases e : i < N
  · exact zin (nI_ge e hN) ⟨vp_in_nI e hN, kk _⟩
  · exact zip (nI_le (by omega) (by omega)) (kk _)
theorem L_sb {I0 I : zI} {k lim m i : Nat} {wv n ln : nuN} {cb : Nat → Nat → Nat} {z : nuZ} {fs : List Frm} {P : zP} {K : Int32 → zI → zP → Prop} (hm : m < 6) (h : SL I0 k lim wv fs n z I P) (hc : CdL I0 wv cb ln m) (hi : i < ln m) (kk : K (sb8 (cb m i)) I P) : w_X9_signedByteAt (cc wv m) (nI i) I P K := by
  obtain ⟨N, s1, s2, s3⟩ := cc_s (wv := wv) hm
  have hl := hc.2.1
  rw [← s3] at hl
  exact s_sb s1 s2 (by rw [s3]; split <;> decide) (by omega) (L_c0 hm h hc hi) kk
theorem L_sp {I0 I : zI} {k lim m i : Nat} {wv n ln : nuN} {cb : Nat → Nat → Nat} {z : nuZ} {fs : List Frm} {P : zP} {K : Int32 → zI → zP → Prop} (hm : m < 6) (h : SL I0 k lim wv fs n z I P) (hc : CdL I0 wv cb ln m) (hi : i + 1 < ln m) (kk : K (sb16 (cb m i) (cb m (i + 1))) I P) : w_X9_signedPairAt (cc wv m) (nI i) I P K := by
  obtain ⟨N, s1, s2, s3⟩ := cc_s (wv := wv) hm
  have hl := hc.2.1
  rw [← s3] at hl
  exact s_sp s1 s2 (by rw [s3]; split <;> decide) (by omega) (L_c0 hm h hc (by omega)) (L_c0 hm h hc hi) kk
def wrd (a b c d : Nat) : Int32 := (((nI a <<< ((24 : Int32) &&& 31)) ||| (nI b <<< ((16 : Int32) &&& 31))) ||| (nI c <<< ((8 : Int32) &&& 31))) ||| nI d
theorem wrd_n {a b c d : Nat} (ha : a < 256) (hb : b < 256) (hc : c < 256) (hd : d < 256) : wrd a b c d = nI (16777216 * a + 65536 * b + 256 * c + d) := by
  unfold wrd
  rw [pk_shlN _ 24 (by decide) (by omega), pk_shlN _ 16 (by decide) (by omega), pk_shlN _ 8 (by decide) (by omega), nI_or, nI_or, nI_or]
  have e1 : a * 2 ^ 24 ||| b * 2 ^ 16 = 2 ^ 24 * a + b * 2 ^ 16 := by
    rw [Nat.mul_comm a, Nat.two_pow_add_eq_or_of_lt (by omega)]
  have e2 : (2 ^ 24 * a + b * 2 ^ 16) ||| c * 2 ^ 8 = 2 ^ 16 * (2 ^ 8 * a + b) + c * 2 ^ 8 := by
    rw [show 2 ^ 24 * a + b * 2 ^ 16 = 2 ^ 16 * (2 ^ 8 * a + b) by omega, ← Nat.two_pow_add_eq_or_of_lt (by omega)]
  have e3 : (2 ^ 16 * (2 ^ 8 * a + b) + c * 2 ^ 8) ||| d = 2 ^ 8 * (2 ^ 8 * (2 ^ 8 * a + b) + c) + d := by
    rw [show 2 ^ 16 * (2 ^ 8 * a + b) + c * 2 ^ 8 = 2 ^ 8 * (2 ^ 8 * (2 ^ 8 * a + b) + c) by omega, ← Nat.two_pow_add_eq_or_of_lt (by omega)]
  rw [e1, e2, e3]
  congr 1; omega
theorem sb16_N {h l : Nat} (hh : h < 256) (hl : l < 256) : (sb16 h l).toBitVec.toNat % 65536 = 256 * h + l := by
  have e := sb16_T hh hl
  have e2 : (sb16 h l).toInt = (sb16 h l).toBitVec.toInt := rfl
  rw [e2, BitVec.toInt_eq_toNat_cond] at e
  have := (sb16 h l).toBitVec.isLt
  split at e <;> split at e <;> omega
theorem wrd_L {a b c d : Nat} (ha : a < 256) (hb : b < 256) (hc : c < 256) (hd : d < 256) : (sb16 a b <<< ((16 : Int32) &&& 31)) ||| (sb16 c d &&& 65535) = wrd a b c d := by
  have e1 : sb16 a b <<< ((16 : Int32) &&& 31) = nI ((256 * a + b) * 65536) := by
    apply Int32.toBitVec_inj.mp
    apply BitVec.eq_of_toNat_eq
    have e := sb16_N ha hb
    rw [pk_shl _ _ 16 (by decide), pk_tn (by omega)]
    omega
  rw [e1, pk_and _ (m := 65535) 16 (by decide), sb16_N hc hd, nI_or, wrd_n ha hb hc hd]
  congr 1
  rw [Nat.mul_comm, show (65536 : Nat) = 2 ^ 16 from rfl, ← Nat.two_pow_add_eq_or_of_lt (by omega)]
  omega
theorem L_wd {I0 I : zI} {k lim m i : Nat} {wv n ln : nuN} {cb : Nat → Nat → Nat} {z : nuZ} {fs : List Frm} {P : zP} {K : Int32 → zI → zP → Prop} (hm : m < 6) (h : SL I0 k lim wv fs n z I P) (hc : CdL I0 wv cb ln m) (hi : i + 3 < ln m) (kk : K (wrd (cb m i) (cb m (i + 1)) (cb m (i + 2)) (cb m (i + 3))) I P) : w_X9_wordAt (cc wv m) (nI i) I P K := by
  unfold w_X9_wordAt
  refine L_sp hm h hc (by omega) ?_
  rw [← nq2, nI_add]
  refine L_sp hm h hc (by omega) ?_
  rw [wrd_L (hc.2.2 _ (by omega)).1 (hc.2.2 _ (by omega)).1 (hc.2.2 _ (by omega)).1 (hc.2.2 _ (by omega)).1]
  exact kk
theorem L_pl {I0 I : zI} {k lim m p : Nat} {wv n : nuN} {z : nuZ} {s : List Va} {l : Nat → Va} {fs : List Frm} {P : zP} (h : SL I0 k lim wv ((m, p, s, l) :: fs) n z I P) : I (119 + 3 * fs.length) 5 = nI p ∧ fs.length < 12 ∧ m < 6 ∧ p < 1000 := by
  obtain ⟨h1, h2, h3, h4, h5, -⟩ := h.2.2.2.1.1
  exact ⟨h4, by have := h.2.1; rw [List.length_cons] at this; omega, h1, h5⟩
theorem L_oper {I0 I : zI} {k lim m p : Nat} {wv n ln : nuN} {cb : Nat → Nat → Nat} {z : nuZ} {s : List Va} {l : Nat → Va} {fs : List Frm} {P : zP} {K : Int32 → zI → zP → Prop} (h : SL I0 k lim wv ((m, p, s, l) :: fs) n z I P) (hc : CdL I0 wv cb ln m) (hp : p + 1 < ln m) (kk : K (nI (cb m (p + 1))) I P) : w_X0_operand (119 + 3 * fs.length) I P K := by
  obtain ⟨e, hf, hm, -⟩ := L_pl h
  unfold w_X0_operand
  refine ⟨shF hf, L_code h hc ?_⟩
  rw [e, nI_1]
  exact L_byt hm h hc hp kk
theorem L_operA {I0 I : zI} {k lim m p : Nat} {wv n ln : nuN} {cb : Nat → Nat → Nat} {z : nuZ} {s : List Va} {l : Nat → Va} {fs : List Frm} {P : zP} {K : Int32 → zI → zP → Prop} (h : SL I0 k lim wv ((m, p, s, l) :: fs) n z I P) (hc : CdL I0 wv cb ln m) (kk : ∀ v, K v I P) : w_X0_operand (119 + 3 * fs.length) I P K := by
  obtain ⟨e, hf, hm, hp⟩ := L_pl h
  unfold w_X0_operand
  refine ⟨shF hf, L_code h hc ?_⟩
  rw [e, nI_1]
  exact L_bytA hm (by omega) kk
/-- what an INSTRUCTION that stays in its FRAME makes of stack, locals, numbers, ints -/
abbrev Ro : Type := List Va × (Nat → Va) × nuN × nuZ
theorem Lo_move {I0 I : zI} {k lim m p c : Nat} {wv n ln : nuN} {cb : Nat → Nat → Nat} {z : nuZ} {s s' : List Va} {l l' : Nat → Va} {fs : List Frm} {P : zP} {K : zI → zP → Prop} (h : SL I0 k lim wv ((m, p, s, l) :: fs) n z I P) (hc : CdL I0 wv cb ln m)
    (ho : (c = 0 ∧ s' = s ∧ l' = l) ∨ (c = 1 ∧ p + 1 < ln m ∧ s.length < 10 ∧ s' = Sum.inl (sb8 (cb m (p + 1))) :: s ∧ l' = l) ∨ (c = 2 ∧ p + 4 < ln m ∧ s.length < 10 ∧ s' = Sum.inl (wrd (cb m (p + 1)) (cb m (p + 2)) (cb m (p + 3)) (cb m (p + 4))) :: s ∧ l' = l) ∨
      (c = 3 ∧ p + 1 < ln m ∧ cb m (p + 1) < 12 ∧ s.length < 10 ∧ s' = l (cb m (p + 1)) :: s ∧ l' = l) ∨ (c = 4 ∧ p + 1 < ln m ∧ cb m (p + 1) < 12 ∧ ∃ v, s = v :: s' ∧ l' = upl l (cb m (p + 1)) v) ∨
      (c = 5 ∧ p + 2 < ln m ∧ cb m (p + 1) < 12 ∧ s' = s ∧ ∃ x, l (cb m (p + 1)) = Sum.inl x ∧ l' = upl l (cb m (p + 1)) (Sum.inl (x + sb8 (cb m (p + 2))))) ∨
      (c = 6 ∧ s.length < 10 ∧ l' = l ∧ ∃ v r, s = v :: r ∧ s' = v :: v :: r) ∨ (c = 7 ∧ l' = l ∧ ∃ v, s = v :: s') ∨ (c = 8 ∧ l' = l ∧ ∃ v w r, s = v :: w :: r ∧ s' = w :: v :: r))
    (kk : ∀ J, SL I0 k lim wv ((m, p, s', l') :: fs) n z J P → sL k I J → K J P) : w_X2_doMove (119 + 3 * fs.length) (nI c) I P K := by
  obtain ⟨e, hf, hm, hp⟩ := L_pl h
  have hk := h.1.1
  unfold w_X2_doMove
  refine ⟨shF hf, ?_⟩
  rcases ho with ⟨rfl, rfl, rfl⟩ | ⟨rfl, q1, q2, rfl, rfl⟩ | ⟨rfl, q1, q2, rfl, rfl⟩ | ⟨rfl, q1, q2, q3, rfl, rfl⟩ | ⟨rfl, q1, q2, v, rfl, rfl⟩ | ⟨rfl, q1, q2, rfl, x, ex, rfl⟩ | ⟨rfl, q1, rfl, v, r, rfl, rfl⟩ | ⟨rfl, rfl, v, rfl⟩ | ⟨rfl, rfl, v, w, r, rfl, rfl⟩
  · exact L_operA h hc (fun v => zin (by decide) (zin (by decide) (zin (by decide) (zin (by decide) (zin (by decide) (zin (by decide) (zin (by decide) (zin (by decide) (kk I h sL_r)))))))))
  · refine L_operA h hc (fun v => zip (by decide) (L_code h hc ?_))
    rw [e, nI_1]
    exact L_sb hm h hc q1 (L_push h q2 rfl (fun J hJ g => kk J hJ (sL_f hk g)))
  · refine L_operA h hc (fun v => zin (by decide) (zip (by decide) (L_code h hc ?_)))
    rw [e, nI_1]
    exact L_wd hm h hc (by omega) (L_push h q2 rfl (fun J hJ g => kk J hJ (sL_f hk g)))
  · exact L_oper h hc q1 (zin (by decide) (zin (by decide) (zip (by decide) (L_local h q2 (L_push h q3 rfl (fun J hJ g => kk J hJ (sL_f hk g)))))))
  · exact L_oper h hc q1 (zin (by decide) (zin (by decide) (zin (by decide) (zip (by decide) (L_pop h (fun J hJ g => L_setLocal hJ q2 rfl (fun J2 hJ2 g2 => kk J2 hJ2 (sL_t (sL_f hk g) (sL_f hk g2)))))))))
  · refine L_oper h hc (by omega) (zin (by decide) (zin (by decide) (zin (by decide) (zin (by decide) (zip (by decide) (L_local h q2 (L_code h hc ?_)))))))
    rw [e, ← nq2, nI_add, ex]
    exact L_sb hm h hc q1 (L_setLocal h q2 rfl (fun J hJ g => kk J hJ (sL_f hk g)))
  · exact L_operA h hc (fun _ => zin (by decide) (zin (by decide) (zin (by decide) (zin (by decide) (zin (by decide) (zip (by decide) (L_peek (i := 0) h rfl (L_push h q1 rfl (fun J hJ g => kk J hJ (sL_f hk g))))))))))
  · exact L_operA h hc (fun _ => zin (by decide) (zin (by decide) (zin (by decide) (zin (by decide) (zin (by decide) (zin (by decide) (zip (by decide) (L_pop h (fun J hJ g => kk J hJ (sL_f hk g))))))))))
  · have hlen := h.2.2.2.1.1.2.2.2.2.2.2.1
    dsimp only at hlen
    rw [List.length_cons, List.length_cons] at hlen
    exact L_operA h hc (fun _ => zin (by decide) (zin (by decide) (zin (by decide) (zin (by decide) (zin (by decide) (zin (by decide) (zin (by decide) (zip (by decide) (L_pop h (fun J hJ g => L_pop hJ (fun J2 hJ2 g2 => L_push hJ2 (by omega) rfl (fun J3 hJ3 g3 => L_push hJ3 (by rw [List.length_cons]; omega) rfl (fun J4 hJ4 g4 => kk J4 hJ4 (sL_t (sL_t (sL_f hk g) (sL_f hk g2)) (sL_t (sL_f hk g3) (sL_f hk g4))))))))))))))))
