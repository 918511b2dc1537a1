/-! PURE 102: RUN -/
theorem RT_o {j : Nat} {I J : zI} (h : RT j I) (f1 : ∀ c i, 93 + 5 * j ≤ c ∧ c ≤ 97 + 5 * j → J c i = I c i) (f2 : ∀ c, 208 ≤ c ∧ c ≤ 216 → J c j = I c j) (f3 : ∀ i, i < 60 → J 217 (60 * j + i) = I 217 (60 * j + i)) (f4 : ∀ i, i < 8 → J 218 (8 * j + i) = I 218 (8 * j + i)) (f5 : ∀ i, i < 400 → J 219 (400 * j + i) = I 219 (400 * j + i) ∧ J 220 (400 * j + i) = I 220 (400 * j + i)) : RT j J := by
  obtain ⟨t0, t | t⟩ := h
  · obtain ⟨t1, t5, t6, t7, t8, t9, t10, t11, t12, t13⟩ := t
    exact ⟨by rw [f1 _ _ (by omega), f2 _ (by omega)]; exact t0, Or.inl ⟨by rw [f2 _ (by omega)]; exact t1, by rw [f1 _ _ (by omega)]; exact t5, by rw [f1 _ _ (by omega)]; exact t6, by rw [f1 _ _ (by omega)]; exact t7, by rw [f1 _ _ (by omega)]; exact t8, by rw [f1 _ _ (by omega)]; exact t9, by rw [f1 _ _ (by omega)]; exact t10, by rw [f1 _ _ (by omega)]; exact t11, by rw [f1 _ _ (by omega)]; exact t12, fun f hf => by rw [f1 _ _ (by omega)]; exact t13 f hf⟩⟩
  · obtain ⟨t1, t5, t6, t7, t8, t9, t10, mc, rc, hmc, hrc, t11, r11, t12, r12, t2, t3, t4⟩ := t
    exact ⟨by rw [f1 _ _ (by omega), f2 _ (by omega)]; exact t0, Or.inr ⟨by rw [f2 _ (by omega)]; exact t1, by rw [f1 _ _ (by omega), f2 _ (by omega)]; exact t5, by rw [f1 _ _ (by omega), f2 _ (by omega)]; exact t6, by rw [f1 _ _ (by omega), f2 _ (by omega)]; exact t7, by rw [f1 _ _ (by omega), f2 _ (by omega)]; exact t8, by rw [f1 _ _ (by omega), f2 _ (by omega)]; exact t9, by rw [f1 _ _ (by omega), f2 _ (by omega)]; exact t10, mc, rc, hmc, hrc, by rw [f1 _ _ (by omega)]; exact t11, by rw [f2 _ (by omega)]; exact r11, by rw [f1 _ _ (by omega)]; exact t12, by rw [f2 _ (by omega)]; exact r12, fun i hi => by rw [f1 _ _ (by omega), f3 i (by omega)]; exact t2 i hi, fun i hi => by rw [f1 _ _ (by omega), f4 i hi]; exact t3 i hi, fun i hi hi2 => by rw [f1 (96 + 5 * j) _ (by omega), f1 (97 + 5 * j) _ (by omega), (f5 i hi2).1, (f5 i hi2).2]; exact t4 i hi hi2⟩⟩
theorem zcpy_o {I : zI} {d c j : Nat} (h : c ≠ d) : zcpy I 116 ((0 : Int32).toNatClampNeg) d ((0 : Int32).toNatClampNeg) ((8 : Int32).toNatClampNeg) c j = I c j := by unfold zcpy; rw [if_neg h]
theorem zcpy_i {I : zI} {d f : Nat} (h : f < 8) : zcpy I 116 ((0 : Int32).toNatClampNeg) d ((0 : Int32).toNatClampNeg) ((8 : Int32).toNatClampNeg) d f = I 116 f := by
  have e0 : (0 : Int32).toNatClampNeg = 0 := by decide
  have e8 : (8 : Int32).toNatClampNeg = 8 := by decide
  unfold zcpy va_cpy
  rw [if_pos rfl, e0, e8, if_pos (by omega), Nat.zero_add, Nat.sub_zero]
/-- what the two hold after a RUN -/
theorem Rel_run {n kq k lim : Nat} {A : Nat → Nat → Nat → Nat} {B : Nat → Nat → Nat} {I J4 J5 J8 J9 J : zI} {R : zP} {wv n' : nuN} {z' : nuZ} {fs' : List Frm} {e a tp tm : Int32} (hR : Rel n A kq B I) (he : e ≠ -1)
    (fJ : ∀ c j, ¬ (c = 0 ∧ j = 11) → ¬ (c = 114 ∧ 7 ≤ j) → ¬ (93 + 5 * k ≤ c ∧ c ≤ 97 + 5 * k) → ¬ (116 ≤ c ∧ c ≤ 118) → J c j = I c j) (j11 : J 0 11 = I 0 11 + 1)
    (hL : LE J k lim wv fs' n' z' e a tp tm J4 R) (f5 : ∀ c j, ¬ (c = 155 ∧ 50 ≤ j ∧ j ≤ 73) → ¬ ((c = 211 ∨ c = 212) ∧ j = k) → ¬ (203 ≤ c ∧ c ≤ 204) → ¬ c = 94 + 5 * k → J5 c j = J4 c j) (f5i : ∀ f, f < 8 → J5 (94 + 5 * k) f = J4 116 f) (j73 : J5 155 73 = J4 155 73 + 1)
    (hM : ME J5 k lim fs' n' z' e a tp tm J8) (f9 : ∀ c j, ¬ (208 ≤ c ∧ c ≤ 210 ∧ j = k) → ¬ (213 ≤ c ∧ c ≤ 216 ∧ j = k) → ¬ (c = 218 ∧ 8 * k ≤ j ∧ j < 8 * k + 8) → J9 c j = J8 c j) (c1 : J9 208 k = e) (c2 : J9 209 k = a) (c3 : J9 210 k = nI (n' 0)) (c4 : J9 213 k = nI (n' 2)) (c5 : J9 214 k = tp) (c6 : J9 215 k = tm) (c7 : J9 216 k = nI (n' 1)) (c8 : ∀ f, f < 8 → J9 218 (8 * k + f) = z' 0 f) : Rel n A kq B J9 := by
  have hk := hL.1.1.1
  obtain ⟨r1, r2, r3, r4, r5, r6, r7, r8, r9⟩ := hR
  have sM : ∀ c j, ¬ rcM c j → J8 c j = J5 c j := fun c j q => M_s0 hM.1 q
  have sL : ∀ c j, ¬ rcL k c j → J4 c j = J c j := fun c j q => L_s0 hL.1 q
  have lo : ∀ c j, c < 155 → ¬ c = 94 + 5 * k → J9 c j = J4 c j := fun c j q q2 => by
    rw [f9 c j (by omega) (by omega) (by omega), sM c j (by unfold rcM; omega), f5 c j (by omega) (by omega) (by omega) q2]
  have ls : ∀ c j, c < 155 → ¬ rcL k c j → ¬ (c = 0 ∧ j = 11) → ¬ (c = 114 ∧ 7 ≤ j) → J9 c j = I c j := fun c j q q2 q3 q4 => by
    unfold rcL at q2
    rw [lo c j q (by omega), sL c j (by unfold rcL; exact q2)]
    exact fJ c j q3 q4 (by omega) (by omega)
  have ms : ∀ c j, (155 ≤ c ∧ c ≤ 195) → ¬ (c = 155 ∧ 50 ≤ j ∧ j ≤ 73) → J9 c j = I c j := fun c j q q2 => by
    rw [f9 c j (by omega) (by omega) (by omega), sM c j (by unfold rcM; omega), f5 c j q2 (by omega) (by omega) (by omega), sL c j (by unfold rcL; omega)]
    exact fJ c j (by omega) (by omega) (by omega) (by omega)
  refine ⟨RTp_c r1 (fun c j q => ?_), ?_, ?_, RM_c r4 (ls _ _ (by omega) (by unfold rcL; omega) (by omega) (by omega)) (ms _ _ (by omega) (by omega)) (fun m hm c j q => ?_), r5, fun m hm => ?_, PB_c r7 (fun c j q => ?_), fun m hm => VW_c (fun m hm => (r4.2.2.2 m hm).2.2) (r8 m hm) (fun c j q => ?_), fun j hj => ?_⟩
  · by_cases q2 : c < 155
    · exact ls c j q2 (by unfold rcL; omega) (by omega) (by omega)
    · exact ms c j (by omega) (by omega)
  · rw [ls _ _ (by omega) (by unfold rcL; omega) (by omega) (by omega), ms _ _ (by omega) (by omega)]; exact r2
  · rw [lo _ _ (by omega) (by omega), sL _ _ (by unfold rcL; omega), j11, f9 _ _ (by omega) (by omega) (by omega), sM _ _ (by unfold rcM; omega), j73, sL _ _ (by unfold rcL; omega), fJ _ _ (by omega) (by omega) (by omega) (by omega), r3]
  · have n6 := r4.1
    by_cases q2 : c < 155
    · exact ls c j q2 (by unfold rcL; unfold blkM at q; omega) (by unfold blkM at q; omega) (by unfold blkM at q; omega)
    · exact ms c j (by unfold blkM at q; omega) (by unfold blkM at q; omega)
  · rw [ls _ _ (by omega) (by unfold rcL; omega) (by omega) (by omega)]; exact r6 m hm
  · by_cases q2 : c < 155
    · exact ls c j q2 (by unfold rcL; omega) (by omega) (by omega)
    · exact ms c j (by omega) (by omega)
  · by_cases q2 : c < 155
    · exact ls c j q2 (by unfold rcL; unfold blkW at q; omega) (by unfold blkW at q; omega) (by unfold blkW at q; omega)
    · exact ms c j (by unfold blkW at q; omega) (by unfold blkW at q; omega)
  · by_cases ej : j = k
    · subst ej
      obtain ⟨s1, s2, s3, s4, s5⟩ := hL
      obtain ⟨y1, y2, y3, y4, y5, y6, y7, y8, y9, y10, y11⟩ := s1.2.2.2.2.2
      obtain ⟨w1, w2, w3, w4, w5, w6, w7, w8, w9, w10, w11⟩ := hM.1.2.2.2.2.2
      have mf := s1.2.2.2.2.1.2.1
      refine ⟨by rw [lo _ _ (by omega) (by omega), s2, c1], Or.inr ⟨by rw [c1]; exact he, ?_, ?_, ?_, ?_, ?_, ?_, n' 3, n' 4, y1, by omega, ?_, ?_, ?_, ?_, fun i hi => ?_, fun f hf => ?_, fun i hi hi2 => ?_⟩⟩
      · rw [lo _ _ (by omega) (by omega), s3, c2]
      · rw [lo _ _ (by omega) (by omega), y5, c3]
      · rw [lo _ _ (by omega) (by omega), y6, c4]
      · rw [lo _ _ (by omega) (by omega), y7, c7]
      · rw [lo _ _ (by omega) (by omega), s4, c5]
      · rw [lo _ _ (by omega) (by omega), s5, c6]
      · rw [lo _ _ (by omega) (by omega)]; exact y8
      · rw [f9 _ _ (by omega) (by omega) (by omega)]; exact w7
      · rw [lo _ _ (by omega) (by omega)]; exact y9
      · rw [f9 _ _ (by omega) (by omega) (by omega)]; exact w8
      · rw [lo _ _ (by omega) (by omega), f9 _ _ (by omega) (by omega) (by omega), y10 i hi, w9 i hi]
      · rw [f9 _ _ (by omega) (by omega) (by omega), sM _ _ (by unfold rcM; omega), f5i f hf, mf f hf, c8 f hf]
      · rw [lo (96 + 5 * j) _ (by omega) (by omega), lo (97 + 5 * j) _ (by omega) (by omega), f9 219 _ (by omega) (by omega) (by omega), f9 220 _ (by omega) (by omega) (by omega), (y11 i hi hi2).1, (y11 i hi hi2).2, (w10 i hi hi2).1, (w10 i hi hi2).2]
        exact ⟨rfl, rfl⟩
    · have w11 := hM.1.2.2.2.2.2.2.2.2.2.2.2.2.2.2.2
      have rs : ∀ c i, 208 ≤ c → c ≤ 220 → ¬ (c ≤ 216 ∧ i = k) → ¬ (c = 217 ∧ 60 * k ≤ i ∧ i < 60 * k + 60) → ¬ (c = 218 ∧ 8 * k ≤ i ∧ i < 8 * k + 8) → ¬ ((c = 219 ∨ c = 220) ∧ 400 * k ≤ i ∧ i < 400 * k + 400) → J9 c i = I c i := fun c i q1 q2 q3 q4 q5 q6 => by
        rw [f9 c i (by omega) (by omega) (by omega), w11 c i q1 q2 (by omega) (by omega) (by omega), f5 c i (by omega) (by omega) (by omega) (by omega), sL c i (by unfold rcL; omega)]
        exact fJ c i (by omega) (by omega) (by omega) (by omega)
      exact RT_o (r9 j hj) (fun c i q => ls c i (by omega) (by unfold rcL; omega) (by omega) (by omega)) (fun c q => rs c j (by omega) (by omega) (by omega) (by omega) (by omega) (by omega)) (fun i hi => rs _ _ (by omega) (by omega) (by omega) (by omega) (by omega) (by omega)) (fun i hi => rs _ _ (by omega) (by omega) (by omega) (by omega) (by omega) (by omega)) (fun i hi => ⟨rs _ _ (by omega) (by omega) (by omega) (by omega) (by omega) (by omega), rs _ _ (by omega) (by omega) (by omega) (by omega) (by omega) (by omega)⟩)
