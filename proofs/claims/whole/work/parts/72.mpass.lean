/-! PURE 33: the reference: passes() -/
theorem n_lay {m p h : Nat} {I : zI} {P : zP} {K : zI → zP → Prop} (hm : m < 6) (hp : p < 400) (h7 : I 167 (400 * m + p) = nI h) (hh : h ≤ 10) (k : ∀ I', I' 155 37 = nI h → FrL I I' → K I' P) : w_X10_lay (nI m) (nI p) I P K := by
  have e4 : (400 : Int32) * nI m + nI p = nI (400 * m + p) := by rw [show (400 : Int32) = nI 400 from rfl, pk_mul, nI_add]
  unfold w_X10_lay
  rw [e4, nI_clamp (by omega), h7]
  have l56 : ∀ d i J, i + d = h → J 155 37 = nI h → (∀ I', (∀ c j, c ≠ 188 → I' c j = J c j) → K I' P) → l_X10_lay_56 K (d + 1) (nI (400 * m + p)) (nI i) J P := by
    intro d
    induction d with
    | zero =>
      intro i J hi e kk
      obtain rfl : i = h := by omega
      rw [l_X10_lay_56]
      exact zip (by rw [e]; exact nI_le (Nat.le_refl _) (by omega)) (kk J (fun _ _ _ => rfl))
    | succ d ih =>
      intro i J hi e kk
      rw [l_X10_lay_56]
      have e10 : 10 * nI (400 * m + p) + nI i = nI (10 * (400 * m + p) + i) := by rw [show (10 : Int32) = nI 10 from rfl, pk_mul, nI_add]
      rw [e10, nI_clamp (by omega), nI_clamp (by omega), nI_1]
      exact zin (by rw [e]; exact nI_ge (by omega) (by omega)) ⟨vp_in_nI (by omega) (by decide), vp_in_nI (by omega) (by decide), ih (i + 1) _ (by omega) (by rw [zu_nc (by decide)]; exact e) (fun I' f => kk I' (fun c j q => by rw [f c j q, zu_nc q]))⟩
  have l21 : ∀ d i J, i + d = 12 → J 155 37 = nI h → (∀ I', (∀ c j, c ≠ 187 → c ≠ 188 → I' c j = J c j) → K I' P) → l_X10_lay_21 K (d + 1) (nI (400 * m + p)) (nI i) J P := by
    intro d
    induction d with
    | zero =>
      intro i J hi e kk
      obtain rfl : i = 12 := by omega
      rw [l_X10_lay_21]
      exact zip (nI_le (a := 12) (by omega) (by omega)) ⟨h + 1, l56 h 0 J (by omega) e (fun I' f => kk I' (fun c j q1 q2 => f c j q2))⟩
    | succ d ih =>
      intro i J hi e kk
      rw [l_X10_lay_21]
      have e12 : 12 * nI (400 * m + p) + nI i = nI (12 * (400 * m + p) + i) := by rw [show (12 : Int32) = nI 12 from rfl, pk_mul, nI_add]
      rw [e12, nI_clamp (by omega), nI_clamp (by omega), nI_1]
      exact zin (nI_ge (b := 12) (by omega) (by decide)) ⟨vp_in_nI (by omega) (by decide), vp_in_nI (by omega) (by decide), ih (i + 1) _ (by omega) (by rw [zu_nc (by decide)]; exact e) (fun I' f => kk I' (fun c j q1 q2 => by rw [f c j q1 q2, zu_nc q1]))⟩
  exact ⟨vp_in_nI (by omega) (by decide), 13, l21 12 0 _ (by omega) zu_same (fun I' f => k I' (by rw [f _ _ (by omega) (by omega)]; exact zu_same) (fun c j q1 q2 q3 => by rw [f c j q2 q3, zu_ne q1]))⟩
theorem n_rows {c : Nat} {I : zI} {P : zP} {K : zI → zP → Prop} (hc : 36 ≤ c ∧ c ≤ 39) (h : AnyM 10 I) (k : ∀ I', I' 155 38 = 0 → FrE I I' → K I' P) : w_X10_rows (nI c) I P K := by
  unfold w_X10_rows
  have key : ∀ n, n ≤ 2 → j_X10_rows_32 K (nI c) (nI n) I P := fun n hn => by
    unfold j_X10_rows_32 w_X10_ints
    refine ⟨n + 1, n_ints (by omega) (by decide) n 0 I (by omega) h (fun I1 a1 f1 => n_pull (by decide) a1 (fun v I2 a2 f2 => ?_))⟩
    have z : j_X10_rows_56 K (nI c) 0 I2 P := by
      unfold j_X10_rows_56
      refine ⟨zbo0, ?_⟩
      split
      · exact k _ zu_same (FrE_t f1 (FrE_t f2 (FrE_u (by omega))))
      · exact n_push (n := 10) (by decide) (AnyM_f a2) (fun I3 a3 f3 => k I3 a3.2 (FrE_t f1 (FrE_t f2 (FrE_t (FrE_u (by omega)) f3))))
    unfold j_X10_rows_55
    split
    · exact zip a2.2 z
    · exact z
  split
  · exact ⟨2, n_ints (n := 1) (by decide) (by decide) 1 0 I (by omega) h (fun I1 a1 f1 => n_push (by decide) a1 (fun I2 a2 f2 => k I2 a2.2 (FrE_t f1 f2)))⟩
  split
  · exact key 0 (by omega)
  · rename_i g1 g2
    have c36 : c ≠ 36 := fun e => g1 (by rw [e]; rfl)
    have : nI c - 37 = nI (c - 37) := pk_sub (b := 37) (by omega)
    rw [this]; exact key (c - 37) (by omega)
theorem n_eff {A : Nat → Nat → Nat} {m p : Nat} {ar : Nat → Nat} {I : zI} {P : zP} {K : zI → zP → Prop} (hm : m < 6) (hL : RM0 A m I) (hB : W0 A m) (hp : p < A 0 2) (h2 : 0 < A 2 p) (har : ∀ n, n ≤ m → ar n ≤ 4 ∧ I 157 n = nI (ar n)) (h : AnyM 10 I) (k : ∀ I', I' 155 38 = 0 → FrE I I' → K I' P) : w_X10_effect (nI m) (nI p) (nI (A 1 p)) I P K := by
  have hcd := hL.2.2.2.2.1
  have hB0 := hB
  obtain ⟨-, -, b12, -, b1, -, bb, -, -, b4, -⟩ := hB
  obtain ⟨c1, c2, c3, c4, c5, c6, c7, c8⟩ := b4 p hp h2
  have hc256 := bb p
  have e4 : (400 : Int32) * nI m + nI p = nI (400 * m + p) := by rw [show (400 : Int32) = nI 400 from rfl, pk_mul, nI_add]
  unfold w_X10_effect
  refine s_msize (c := A 1 p) (n := A 1 (p + 1)) hm (by omega) hc256 c1 (hcd p hp).1 ?_ ?_
  · intro e33
    have e5 := c5 e33
    have eo : opz (A 1 p) (A 1 (p + 1)) = 4 + 2 * A 1 (p + 1) := by unfold opz; rw [if_pos e33]
    refine ⟨by omega, ?_⟩
    rw [Nat.add_assoc]; exact (hcd (p + 1) (by omega)).1
  rw [← c2, e4]
  have shc : A 1 p < 84 → sho (A 1 p) = A 1 p := fun h => by unfold sho; rw [if_neg (by omega)]
  have wide : A 1 p = 3 ∨ A 1 p = 4 ∨ A 1 p = 5 ∨ A 1 p = 40 → 1 < A 2 p := by
    intro hu
    have e33 : A 1 p ≠ 33 := by omega
    have : opz (A 1 p) (A 1 (p + 1)) = fxz (A 1 p) := by unfold opz; rw [if_neg e33]
    rw [this] at c2
    have : 2 ≤ fxz (A 1 p) := by
      unfold fxz
      (repeat' split) <;> omega
    omega
  have ne : ∀ v, v < 2 ^ 31 → A 1 p ≠ v → ¬ nI (A 1 p) = nI v := fun v hv h q => h ((nI_eq (by omega) hv).mp q)
  have main : ∀ x : Nat, p ≤ x → (1 < A 2 p → x = p + 1) → x < A 0 2 → j_X10_effect_26 K (nI m) (nI (A 1 p)) (nI (x - p)) (nI (400 * m + p)) I P := by
    intro x hxp hx hxl
    have ex : nI (400 * m + p) + nI (x - p) = nI (400 * m + x) := by rw [nI_add]; congr 1; omega
    have hbx := bb x
    unfold j_X10_effect_26
    rw [ex, nI_clamp (by omega), (hcd x hxl).1]
    refine ⟨vp_in_nI (by omega) (by decide), ?_⟩
    by_cases o3 : A 1 p = 3
    · have hx1 := hx (wide (by omega))
      have n12 := opn12 hB0 hp h2 (by rw [shc (by omega)]; omega)
      subst hx1
      exact zip (by rw [o3]; rfl) ⟨vp_in_nI n12 (by decide), n_push (by decide) h (fun I' a f => k I' a.2 f)⟩
    refine zin (ne 3 (by decide) o3) ?_
    by_cases o4 : A 1 p = 4
    · have hx1 := hx (wide (by omega))
      have n12 := opn12 hB0 hp h2 (by rw [shc (by omega)]; omega)
      subst hx1
      exact zip (by rw [o4]; rfl) (n_pull (by decide) h (fun v I' a f => ⟨vp_in_nI n12 (by decide), k _ (by rw [zu_nc (by decide)]; exact a.2) (FrE_t f (FrE_u (by omega)))⟩))
    refine zin (ne 4 (by decide) o4) ?_
    by_cases o5 : A 1 p = 5
    · exact zip (by rw [o5]; rfl) (zip h.2 (k _ zu_same (FrE_u (by omega))))
    refine zin (ne 5 (by decide) o5) ?_
    by_cases o6 : A 1 p = 6
    · exact zip (by rw [o6]; rfl) (n_pull (by decide) h (fun v I1 a1 f1 => n_push (by decide) a1 (fun I2 a2 f2 => n_push (by decide) a2 (fun I3 a3 f3 => k I3 a3.2 (FrE_t f1 (FrE_t f2 f3))))))
    refine zin (ne 6 (by decide) o6) ?_
    by_cases o7 : A 1 p = 7
    · exact zip (by rw [o7]; rfl) (n_pull (by decide) h (fun v I1 a1 f1 => k I1 a1.2 f1))
    refine zin (ne 7 (by decide) o7) ?_
    by_cases o8 : A 1 p = 8
    · exact zip (by rw [o8]; rfl) (n_pull (by decide) h (fun v I1 a1 f1 => n_pull (by decide) a1 (fun u I2 a2 f2 => n_push (by decide) a2 (fun I3 a3 f3 => n_push (by decide) a3 (fun I4 a4 f4 => k I4 a4.2 (FrE_t f1 (FrE_t f2 (FrE_t f3 f4))))))))
    refine zin (ne 8 (by decide) o8) ?_
    by_cases o40 : A 1 p = 40
    · have wd := wide (by omega)
      have hx1 := hx wd
      have fit := (c6 wd (by omega)).2.2 o40
      subst hx1
      obtain ⟨a4, a7⟩ := har _ fit
      have key : j_X10_effect_206 K (nI (ar (A 1 (p + 1)))) I P := by
        unfold j_X10_effect_206 w_X10_ints
        exact ⟨ar (A 1 (p + 1)) + 1, n_ints (by omega) (by decide) (ar (A 1 (p + 1))) 0 I (by omega) h (fun I1 a1 f1 => n_push (by decide) a1 (fun I2 a2 f2 => k I2 a2.2 (FrE_t f1 f2)))⟩
      refine zip (by rw [o40]; rfl) ?_
      by_cases en : A 1 (p + 1) = m
      · refine zip (by rw [en]) ⟨vp_in_nI hm (by decide), ?_⟩
        rw [en] at a7 key
        rw [nI_clamp (by omega), a7]; exact key
      · refine zin (fun q => en ((nI_eq (by omega) (by omega)).mp q)) ⟨vp_in_nI (by omega) (by decide), ?_⟩
        rw [nI_clamp (by omega), a7]; exact key
    refine zin (ne 40 (by decide) o40) ?_
    by_cases o36 : 36 ≤ A 1 p ∧ A 1 p ≤ 39
    · exact s_inNT (lo := 36) (hi := 39) (by omega) o36 (zin (by decide) (n_rows o36 h (fun I' a f => k I' a f)))
    refine s_inNF (lo := 36) (hi := 39) (by omega) o36 (zip rfl (v_taken ?_))
    rw [tkI_r (A 1 p) hc256 c1 o36]
    have tl := tki_le (sho (A 1 p))
    refine ⟨tki (sho (A 1 p)) + 1, n_ints (by omega) (by decide) (tki (sho (A 1 p))) 0 I (by omega) h (fun I1 a1 f1 => ?_)⟩
    have pu : j_X10_effect_271 K I1 P := by
      unfold j_X10_effect_271
      exact n_push (by decide) a1 (fun I2 r1 r2 => k I2 r1.2 (FrE_t f1 r2))
    split
    · exact pu
    split
    · exact pu
    rw [s_in]
    by_cases g9 : (9 : Int32) ≤ nI (A 1 p) ∧ nI (A 1 p) ≤ 19
    · rw [if_pos g9]; exact zin (by decide) pu
    · rw [if_neg g9]
      refine zip rfl ?_
      split
      · exact pu
      · exact k I1 a1.2 f1
  by_cases hw : A 2 p ≤ 1
  · refine zip (nI_le (b := 1) hw (by decide)) ?_
    have := main p (Nat.le_refl _) (fun q => absurd q (by omega)) hp
    rw [Nat.sub_self] at this
    exact this
  · refine zin (nI_ge (a := 1) (by omega) (by omega)) ?_
    have := main (p + 1) (by omega) (fun _ => rfl) (by omega)
    rw [Nat.add_sub_cancel_left] at this
    exact this
def GR (A : Nat → Nat → Nat) (m : Nat) (ar : Nat → Nat) (C : TS) (w : Int32) (p : Nat) (Q : Prop) (I : zI) : Prop :=
  RM0 A m I ∧ ((I 155 38 = 1 ∧ ∃ C', RS A m C' I ∧ blw C' C ∧ (∀ T, Cons A ar T → abv C' T) ∧ ((I 155 39 = w ∧ C' = C ∧ Q) ∨ (I 155 39 = 1 ∧ mu C' (A 0 2) < mu C (A 0 2)))) ∨ (I 155 38 = 0 ∧ NoT A ar ∧ ∃ h, h ≤ 10 ∧ I 167 (400 * m + p) = nI h))
theorem GR_come {A : Nat → Nat → Nat} {m q p : Nat} {ar : Nat → Nat} {s : List Nat} {l : Nat → Nat} {C : TS} {w : Int32} {Q : Prop} {I : zI} {P : zP} {K : zI → zP → Prop} (hm : m < 6) (hB : W0 A m) (hG : GR A m ar C w p Q I) (hCp : C p ≠ none) (hc : CurM s l I) (hs : gs s) (hl : gl l) (hq : q < A 0 2) (h2 : 0 < A 2 q) (hcv : ∀ T, Cons A ar T → Cov T q s l) (k : ∀ I', FrK m I I' → CurM s l I' → GR A m ar C w p (Q ∧ Cov C q s l) I' → K I' P) : w_X10_comes (nI m) (nI q) I P K := by
  obtain ⟨hL, ⟨h5, C', hR, g1, g2, g3⟩ | ⟨h5, hn, h, hh, h7⟩⟩ := hG
  · refine m_comes hm hB hR hc hs hl h5 hq h2 (fun D I' z1 z2 z3 z4 z5 z6 z7 z8 => k I' z2 z4 ⟨z1.1, Or.inl ⟨z3, D, z1, blw_t z6 g1, fun T hT => z7 T (g2 T hT) (hcv T hT), ?_⟩⟩) (fun I' z1 z2 z3 z4 => k I' z2 (Cur_K hc z2) ⟨RM0_K hL z2, Or.inr ⟨z3, fun ⟨T, hT⟩ => z1 T (g2 T hT) (hcv T hT), ?_⟩⟩)
    · rcases z8 with ⟨rfl, e⟩ | ⟨e, hmu⟩
      · rcases g3 with ⟨y1, rfl, y2⟩ | ⟨y1, y2⟩
        · exact Or.inl ⟨by rw [e]; exact y1, rfl, y2, z5⟩
        · exact Or.inr ⟨by rw [e]; exact y1, y2⟩
      · refine Or.inr ⟨e, ?_⟩
        rcases g3 with ⟨y1, rfl, y2⟩ | ⟨y1, y2⟩
        · exact hmu
        · omega
    · cases e : C p with
      | none => exact absurd e hCp
      | some v =>
        obtain ⟨l', e2, -⟩ := g1 p v.1 v.2 e
        obtain ⟨hp, hp2, gs1, -⟩ := hR.2.1 p _ _ e2
        refine ⟨v.1.length, gs1.1, ?_⟩
        rw [z4]; exact ((hR.2.2 p hp hp2).2 _ _ e2).1
  · refine n_comes hm hB hL hc.1 hs.1 h5 (by have := hB.2.2.2.2.1; omega) (fun I' f g g7 => k I' f (Cur_K hc f) ⟨RM0_K hL f, Or.inr ⟨g, hn, h, hh, ?_⟩⟩)
    rw [g7 _ (by rw [h7]; exact fun e => absurd ((ng_eq (a := h) (b := 1) (by omega) (by decide)).mp e) (by omega))]; exact h7
