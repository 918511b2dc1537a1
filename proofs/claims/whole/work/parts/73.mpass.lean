/-! PURE 34: the reference: passes(), whole -/
def FrT (m : Nat) (I I' : zI) : Prop := ∀ c j, ¬ (c = 155 ∧ 37 ≤ j ∧ j ≤ 39) → c ≠ 187 → c ≠ 188 → ¬ (c = 167 ∧ 400 * m ≤ j ∧ j < 400 * m + 400) → ¬ (c = 168 ∧ 4800 * m ≤ j ∧ j < 4800 * m + 4800) → ¬ (c = 169 ∧ 4000 * m ≤ j ∧ j < 4000 * m + 4000) → I' c j = I c j
theorem FrT_r (m : Nat) (I : zI) : FrT m I I := fun _ _ _ _ _ _ _ _ => rfl
theorem FrT_t {m : Nat} {I J L : zI} (h : FrT m I J) (g : FrT m J L) : FrT m I L := fun c j q1 q2 q3 q4 q5 q6 => by rw [g c j q1 q2 q3 q4 q5 q6, h c j q1 q2 q3 q4 q5 q6]
theorem FrT_K {m : Nat} {I J : zI} (h : FrK m I J) : FrT m I J := fun c j q1 q2 q3 q4 q5 q6 => h c j (by omega) q4 q5 q6
theorem FrT_E {m : Nat} {I J : zI} (h : FrE I J) : FrT m I J := fun c j q1 q2 q3 q4 q5 q6 => h c j (by omega) q2 q3
theorem FrT_L {m : Nat} {I J : zI} (h : FrL I J) : FrT m I J := fun c j q1 q2 q3 q4 q5 q6 => h c j (by omega) q2 q3
theorem RM0_T {A : Nat → Nat → Nat} {m : Nat} {I I' : zI} (h : RM0 A m I) (f : FrT m I I') : RM0 A m I' := by
  obtain ⟨h1, h2, h3, h4, h5, h6⟩ := h
  refine ⟨?_, ?_, ?_, ?_, fun p hp => ⟨?_, ?_⟩, fun k hk => ⟨?_, ?_, ?_, ?_⟩⟩
  · rw [f _ _ (by omega) (by omega) (by omega) (by omega) (by omega) (by omega)]; exact h1
  · rw [f _ _ (by omega) (by omega) (by omega) (by omega) (by omega) (by omega)]; exact h2
  · rw [f _ _ (by omega) (by omega) (by omega) (by omega) (by omega) (by omega)]; exact h3
  · rw [f _ _ (by omega) (by omega) (by omega) (by omega) (by omega) (by omega)]; exact h4
  · rw [f _ _ (by omega) (by omega) (by omega) (by omega) (by omega) (by omega)]; exact (h5 p hp).1
  · rw [f _ _ (by omega) (by omega) (by omega) (by omega) (by omega) (by omega)]; exact (h5 p hp).2
  · rw [f _ _ (by omega) (by omega) (by omega) (by omega) (by omega) (by omega)]; exact (h6 k hk).1
  · rw [f _ _ (by omega) (by omega) (by omega) (by omega) (by omega) (by omega)]; exact (h6 k hk).2.1
  · rw [f _ _ (by omega) (by omega) (by omega) (by omega) (by omega) (by omega)]; exact (h6 k hk).2.2.1
  · rw [f _ _ (by omega) (by omega) (by omega) (by omega) (by omega) (by omega)]; exact (h6 k hk).2.2.2
theorem RS_E {A : Nat → Nat → Nat} {m : Nat} {C : TS} {I I' : zI} (h : RS A m C I) (f : FrE I I') : RS A m C I' := by
  refine ⟨RM0_T h.1 (FrT_E f), h.2.1, fun p hp hp2 => ?_⟩
  obtain ⟨z0, z1⟩ := h.2.2 p hp hp2
  refine ⟨fun e => by rw [f _ _ (by omega) (by omega) (by omega)]; exact z0 e, fun s1 l1 e => ?_⟩
  obtain ⟨y1, y2, y3⟩ := z1 s1 l1 e
  exact ⟨by rw [f _ _ (by omega) (by omega) (by omega)]; exact y1, fun j hj => by rw [f _ _ (by omega) (by omega) (by omega)]; exact y2 j hj, fun j hj => by rw [f _ _ (by omega) (by omega) (by omega)]; exact y3 j hj⟩
theorem GR_E {A : Nat → Nat → Nat} {m p : Nat} {ar : Nat → Nat} {C : TS} {w : Int32} {Q : Prop} {I I' : zI} (h : GR A m ar C w p Q I) (f : FrE I I') (h8 : I' 155 38 = I 155 38) : GR A m ar C w p Q I' := by
  refine ⟨RM0_T h.1 (FrT_E f), ?_⟩
  have e9 : I' 155 39 = I 155 39 := f _ _ (by omega) (by omega) (by omega)
  rcases h.2 with ⟨h5, C', hR, g1, g2, g3⟩ | ⟨h5, hn, z, hz, h7⟩
  · exact Or.inl ⟨by rw [h8]; exact h5, C', RS_E hR f, g1, g2, by rw [e9]; exact g3⟩
  · exact Or.inr ⟨by rw [h8]; exact h5, hn, z, hz, by rw [f _ _ (by omega) (by omega) (by omega)]; exact h7⟩
theorem GR_Q {A : Nat → Nat → Nat} {m p : Nat} {ar : Nat → Nat} {C : TS} {w : Int32} {Q R : Prop} {I : zI} (h : GR A m ar C w p Q I) (hq : Q → R) : GR A m ar C w p R I := by
  refine ⟨h.1, ?_⟩
  rcases h.2 with ⟨h5, C', hR, g1, g2, g3⟩ | z
  · refine Or.inl ⟨h5, C', hR, g1, g2, ?_⟩
    rcases g3 with ⟨y1, y2, y3⟩ | y
    · exact Or.inl ⟨y1, y2, hq y3⟩
    · exact Or.inr y
  · exact Or.inr z
/-- the way on, behind the targets -/
theorem m_on {A : Nat → Nat → Nat} {m p : Nat} {ar : Nat → Nat} {s l0' : List Nat} {s2 : List Nat} {l l2 : Nat → Nat} {C : TS} {w : Int32} {Q : Prop} {I : zI} {P : zP} {K : zI → zP → Prop} (hm : m < 6) (hB : W0 A m) (hp : p < A 0 2) (h2 : 0 < A 2 p) (hCp : C p ≠ none) (hG : GR A m ar C w p Q I) (hc : CurM s2 l2 I) (hs : gs s2) (hl : gl l2) (hg : ∀ T, Cons A ar T → gon (A 1 p) → p + A 2 p < A 0 2 ∧ Cov T (p + A 2 p) s2 l2) (k : ∀ I', FrT m I I' → GR A m ar C w p (Q ∧ (gon (A 1 p) → p + A 2 p < A 0 2 ∧ Cov C (p + A 2 p) s2 l2)) I' → K I' P) :
    (if nI (A 1 p) = 20 then (j_X10_passes_179 K (nI m) (nI p) I P) else (if nI (A 1 p) = 84 then (j_X10_passes_179 K (nI m) (nI p) I P) else (if nI (A 1 p) = 33 then (j_X10_passes_179 K (nI m) (nI p) I P) else (if nI (A 1 p) = 41 then (j_X10_passes_179 K (nI m) (nI p) I P) else (if nI (A 1 p) = 42 then (j_X10_passes_179 K (nI m) (nI p) I P) else (j_X10_passes_180 K (nI m) (nI p) 1 I P)))))) := by
  have hB0 := hB
  obtain ⟨-, -, b12, -, b1, -, bb, -, -, b4, -⟩ := hB
  obtain ⟨c1, c2, c3, c4, c5, c6, c7, c8⟩ := b4 p hp h2
  have hc256 := bb p
  have stop : ¬ gon (A 1 p) → j_X10_passes_179 K (nI m) (nI p) I P := fun hn => by
    unfold j_X10_passes_179 j_X10_passes_180
    exact zip rfl (k I (FrT_r m I) (GR_Q hG (fun q => ⟨q, fun z => absurd z hn⟩)))
  have ne : ∀ v, v < 2 ^ 31 → A 1 p ≠ v → ¬ nI (A 1 p) = nI v := fun v hv h q => h ((nI_eq (by omega) hv).mp q)
  by_cases g1 : A 1 p = 20
  · exact zip (by rw [g1]; rfl) (stop (fun z => z.1 g1))
  refine zin (ne 20 (by decide) g1) ?_
  by_cases g2 : A 1 p = 84
  · exact zip (by rw [g2]; rfl) (stop (fun z => z.2.1 g2))
  refine zin (ne 84 (by decide) g2) ?_
  by_cases g3 : A 1 p = 33
  · exact zip (by rw [g3]; rfl) (stop (fun z => z.2.2.1 g3))
  refine zin (ne 33 (by decide) g3) ?_
  by_cases g4 : A 1 p = 41
  · exact zip (by rw [g4]; rfl) (stop (fun z => z.2.2.2.1 g4))
  refine zin (ne 41 (by decide) g4) ?_
  by_cases g5 : A 1 p = 42
  · exact zip (by rw [g5]; rfl) (stop (fun z => z.2.2.2.2 g5))
  refine zin (ne 42 (by decide) g5) ?_
  have hgon : gon (A 1 p) := ⟨g1, g2, g3, g4, g5⟩
  have hcd := hG.1.2.2.2.2.1
  unfold j_X10_passes_180
  refine zin (by decide) (s_msize (c := A 1 p) (n := A 1 (p + 1)) hm (by omega) hc256 c1 (hcd p hp).1 (fun e => absurd e g3) ?_)
  rw [← c2, nI_add]
  by_cases hend : p + A 2 p = A 0 2
  · have hno : NoT A ar := fun ⟨T, hT⟩ => absurd (hg T hT hgon).1 (by omega)
    unfold w_X10_comes
    rw [nI_clamp (by omega), hG.1.2.2.1]
    refine ⟨vp_in_nI hm (by decide), zin (nI_nlt (by omega) (by omega)) (k _ (FrT_K (FrK_u (by omega))) ⟨RM0_K hG.1 (FrK_u (by omega)), Or.inr ⟨zu_same, hno, ?_⟩⟩)⟩
    rcases hG.2 with ⟨h5, C', hR, y1, y2, y3⟩ | ⟨h5, hn, z, hz, h7⟩
    · cases e : C p with
      | none => exact absurd e hCp
      | some v =>
        obtain ⟨l', e2, -⟩ := y1 p v.1 v.2 e
        obtain ⟨-, -, gs1, -⟩ := hR.2.1 p _ _ e2
        refine ⟨v.1.length, gs1.1, ?_⟩
        rw [zu_nc (by decide)]; exact ((hR.2.2 p hp h2).2 _ _ e2).1
    · exact ⟨z, hz, by rw [zu_nc (by decide)]; exact h7⟩
  · refine GR_come hm hB0 hG hCp hc hs hl (by omega) (by omega) (fun T hT => (hg T hT hgon).2) (fun I' f g h => k I' (FrT_K f) (GR_Q h (fun z => ⟨z.1, fun _ => ⟨by omega, z.2⟩⟩)))
theorem l_115 {A : Nat → Nat → Nat} {m p : Nat} {ar : Nat → Nat} {s2 : List Nat} {l2 : Nat → Nat} {C : TS} {w : Int32} {Q : Prop} {I0 : zI} {P : zP} {K : zI → zP → Prop} (hm : m < 6) (hB : W0 A m) (hp : p < A 0 2) (h2 : 0 < A 2 p) (hj : jok A p) (hCp : C p ≠ none) (hs : gs s2) (hl : gl l2) (ht : ∀ T, Cons A ar T → ∀ i, i < njp A p → ∀ q, tgx A p i = nI q → q < A 0 2 → Cov T q s2 l2) (hg : ∀ T, Cons A ar T → gon (A 1 p) → p + A 2 p < A 0 2 ∧ Cov T (p + A 2 p) s2 l2) (k : ∀ I', FrT m I0 I' → GR A m ar C w p ((Q ∧ ∀ j, j < njp A p → ∀ q, tgx A p j = nI q → q < A 0 2 → Cov C q s2 l2) ∧ (gon (A 1 p) → p + A 2 p < A 0 2 ∧ Cov C (p + A 2 p) s2 l2)) I' → K I' P) :
    ∀ d i I, i + d = njp A p → FrT m I0 I → CurM s2 l2 I → GR A m ar C w p (Q ∧ ∀ j, j < i → ∀ q, tgx A p j = nI q → q < A 0 2 → Cov C q s2 l2) I → l_X10_passes_115 K (d + 1) (nI m) (nI p) (nI (A 1 p)) (nI i) I P := by
  have hn := njp_le hB hp h2
  have b1 := hB.2.2.2.2.1
  intro d
  induction d with
  | zero =>
    intro i I hi hf hc hG
    obtain rfl : i = njp A p := by omega
    rw [l_X10_passes_115]
    exact s_mtc hm hG.1 hB hp h2 (zip (nI_le (Nat.le_refl _) (by omega)) (m_on (s := []) (l0' := []) (l := l2) hm hB hp h2 hCp hG hc hs hl hg (fun I' f g => k I' (FrT_t hf f) g)))
  | succ d ih =>
    intro i I hi hf hc hG
    rw [l_X10_passes_115]
    obtain ⟨q, hq, eq, hq2⟩ := hj h2 i (by omega)
    refine s_mtc hm hG.1 hB hp h2 (zin (nI_ge (by omega) (by omega)) (s_mta hm hG.1 hB hp h2 (by omega) ?_))
    rw [eq, nI_1]
    refine GR_come hm hB hG hCp hc hs hl hq hq2 (fun T hT => ht T hT i (by omega) q eq hq) (fun I' f g h => ih (i + 1) I' (by omega) (FrT_t hf (FrT_K f)) g (GR_Q h (fun z => ⟨z.1.1, fun j hj q' hq' hl' => ?_⟩)))
    by_cases e : j = i
    · subst e
      rw [eq] at hq'
      have := (nI_eq (by omega) (by omega)).mp hq'
      subst this
      exact z.2
    · exact z.1.2 j (by omega) q' hq' hl'
theorem l_mhd {A : Nat → Nat → Nat} {m p : Nat} {ar : Nat → Nat} {s : List Nat} {l : Nat → Nat} {C : TS} {w : Int32} {I0 : zI} {P : zP} {K : zI → zP → Prop} (hm : m < 6) (hB : W0 A m) (hp : p < A 0 2) (h2 : 0 < A 2 p) (hj : jok A p) (hh : ∀ k, k < A 0 3 → hok A k) (hC : C p = some (s, l)) (hs : gs s) (hl : gl l) (har : ∀ n, n ≤ m → ar n ≤ 4 ∧ I0 157 n = nI (ar n)) (hT : ∀ T, Cons A ar T → SC A ar T p s l)
    (k : ∀ I', FrT m I0 I' → GR A m ar C w p (SC A ar C p s l) I' → K I' P) :
    ∀ d h I, h + d = A 0 3 → FrT m I0 I → (∀ j, j < 12 → I 187 j = nI (l j)) → GR A m ar C w p (∀ k, k < h → hin A k p → Cov C (A 3 (4 * k + 2)) [1] l) I → l_X10_passes_8 K (d + 1) (nI m) (nI p) (nI h) I P := by
  have b1 := hB.2.2.2.2.1
  have b6 := hB.2.2.2.2.2.1
  have b8 := hB.2.2.2.2.2.2.2.1
  have hCp : C p ≠ none := by rw [hC]; simp
  have e4 : (400 : Int32) * nI m + nI p = nI (400 * m + p) := by rw [show (400 : Int32) = nI 400 from rfl, pk_mul, nI_add]
  intro d
  induction d with
  | zero =>
    intro h I hd hf h7 hG
    obtain rfl : h = A 0 3 := by omega
    rw [l_X10_passes_8]
    refine ⟨vp_in_nI hm (by decide), zip (by rw [nI_clamp (by omega), hG.1.2.2.2.1]; exact nI_le (Nat.le_refl _) (by omega)) ?_⟩
    rcases hG.2 with ⟨h5, C', hR, g1, g2, g3⟩ | ⟨h5, hn, z, hz, hz7⟩
    · obtain ⟨l', eC', hble⟩ := g1 p s l hC
      obtain ⟨-, -, -, gl'⟩ := hR.2.1 p s l' eC'
      refine m_lay hm hB hR eC' (fun I1 c1 f1 => ⟨by rw [e4]; exact vp_in_nI (by omega) (by decide), ?_⟩)
      have f1E : FrE I I1 := fun c j q1 q2 q3 => f1 c j (by omega) q2 q3
      have h15 : I1 155 38 = I 155 38 := f1 _ _ (by omega) (by omega) (by omega)
      have hG1 : GR A m ar C w p ((∀ k, k < A 0 3 → hin A k p → Cov C (A 3 (4 * k + 2)) [1] l) ∧ l' = l) I1 := by
        refine GR_E (I := I) ?_ f1E h15
        refine ⟨hG.1, Or.inl ⟨h5, C', hR, g1, g2, ?_⟩⟩
        rcases g3 with ⟨y1, y2, y3⟩ | y
        · refine Or.inl ⟨y1, y2, y3, ?_⟩
          rw [y2, hC] at eC'
          cases eC'; rfl
        · exact Or.inr y
      have hcode : I1 160 (400 * m + p) = nI (A 1 p) := (hG1.1.2.2.2.2.1 p hp).1
      rw [e4, nI_clamp (by omega), hcode]
      have hSC : ∀ T, Cons A ar T → SC A ar T p s l' := fun T hc => by
        obtain ⟨lT, e1, e2⟩ := g2 T hc p s l' eC'
        exact SC_abv (opn12 hB hp h2) e2 (hc.2.2 p s lT e1)
      have fT1 : FrT m I0 I1 := FrT_t hf (FrT_L f1)
      have har1 : ∀ n, n ≤ m → ar n ≤ 4 ∧ I1 157 n = nI (ar n) := fun n hn => ⟨(har n hn).1, by rw [fT1 _ _ (by omega) (by omega) (by omega) (by omega) (by omega) (by omega)]; exact (har n hn).2⟩
      refine m_eff hm hG1.1 hB hp h2 hs gl' har1 (by rw [h15, h5]; exact zbo1) c1 (fun s2 l2 I2 q1 q2 q3 q4 => ?_) (fun I2 q1 q2 q3 => ?_)
      · have i5 : I2 155 38 = 1 := by rw [q3, h15, h5]
        refine zin (by rw [i5]; decide) ⟨njp A p + 1, ?_⟩
        obtain ⟨gs2, gl2⟩ := eff_good hs gl' q1
        have hTc : ∀ T, Cons A ar T → (∀ i, i < njp A p → ∀ q, tgx A p i = nI q → q < A 0 2 → Cov T q s2 l2) ∧ (gon (A 1 p) → p + A 2 p < A 0 2 ∧ Cov T (p + A 2 p) s2 l2) := fun T hc => by
          obtain ⟨-, s3, l3, e3, z1, z2⟩ := hSC T hc
          rw [q1] at e3; cases e3
          exact ⟨z1, z2⟩
        refine l_115 (I0 := I2) hm hB hp h2 hj hCp gs2 gl2 (fun T hc => (hTc T hc).1) (fun T hc => (hTc T hc).2) (fun I3 f3 g => k I3 (FrT_t fT1 (FrT_t (FrT_E q4) f3)) (GR_Q g (fun z => ?_))) (njp A p) 0 I2 (by omega) (FrT_r m I2) q2 (GR_Q (GR_E hG1 q4 q3) (fun z => ⟨z, fun j hj => absurd hj (by omega)⟩))
        obtain ⟨⟨⟨z1, rfl⟩, z2⟩, z3⟩ := z
        exact ⟨z1, s2, l2, q1, z2, z3⟩
      · refine zip q2 (k I2 (FrT_t fT1 (FrT_E q3)) ⟨RM0_T hG1.1 (FrT_E q3), Or.inr ⟨q2, fun ⟨T, hc⟩ => ?_, ?_⟩⟩)
        · obtain ⟨-, s3, l3, e3, -⟩ := hSC T hc
          rw [q1] at e3; cases e3
        · refine ⟨s.length, hs.1, ?_⟩
          rw [q3 _ _ (by omega) (by omega) (by omega), f1E _ _ (by omega) (by omega) (by omega)]
          exact ((hR.2.2 p hp h2).2 _ _ eC').1
    · refine n_lay hm (by omega) hz7 hz (fun I1 c1 f1 => ⟨by rw [e4]; exact vp_in_nI (by omega) (by decide), ?_⟩)
      have f1E : FrE I I1 := fun c j q1 q2 q3 => f1 c j (by omega) q2 q3
      have h15 : I1 155 38 = 0 := by rw [f1 _ _ (by omega) (by omega) (by omega)]; exact h5
      have hL1 := RM0_T (m := m) hG.1 (FrT_L f1)
      have hcode : I1 160 (400 * m + p) = nI (A 1 p) := (hL1.2.2.2.2.1 p hp).1
      rw [e4, nI_clamp (by omega), hcode]
      have fT1 : FrT m I0 I1 := FrT_t hf (FrT_L f1)
      have har1 : ∀ n, n ≤ m → ar n ≤ 4 ∧ I1 157 n = nI (ar n) := fun n hn => ⟨(har n hn).1, by rw [fT1 _ _ (by omega) (by omega) (by omega) (by omega) (by omega) (by omega)]; exact (har n hn).2⟩
      refine n_eff hm hL1 hB hp h2 har1 ⟨⟨z, hz, c1⟩, h15⟩ (fun I2 a f => zip a (k I2 (FrT_t fT1 (FrT_E f)) ⟨RM0_T hL1 (FrT_E f), Or.inr ⟨a, hn, z, hz, ?_⟩⟩))
      rw [f _ _ (by omega) (by omega) (by omega), f1E _ _ (by omega) (by omega) (by omega)]; exact hz7
  | succ d ih =>
    intro h I hd hf h7 hG
    rw [l_X10_passes_8]
    obtain ⟨q0, q1, q2, -⟩ := hG.1.2.2.2.2.2 h (by omega)
    have v0 := b8 (4 * h)
    have v1 := b8 (4 * h + 1)
    have v2 := b8 (4 * h + 2)
    obtain ⟨-, ⟨t, ht, et, ht2⟩, -, -⟩ := hh h (by omega)
    have et2 : A 3 (4 * h + 2) = t := (nI_eq (by omega) (by omega)).mp et
    have e8 : 8 * nI m + nI h = nI (8 * m + h) := by rw [show (8 : Int32) = nI 8 from rfl, pk_mul, nI_add]
    rw [e8, nI_clamp (by omega), nI_clamp (by omega), q0, q1, hG.1.2.2.2.1, nI_1]
    refine ⟨vp_in_nI hm (by decide), zin (nI_ge (by omega) (by omega)) ⟨vp_in_nI (by omega) (by decide), ?_⟩⟩
    have skip : ¬ hin A h p → l_X10_passes_8 K (d + 1) (nI m) (nI p) (nI (h + 1)) I P := fun hno => by
      refine ih (h + 1) I (by omega) hf h7 (GR_Q hG (fun z k hk hi => ?_))
      by_cases e : k = h
      · subst e; exact absurd hi hno
      · exact z k (by omega) hi
    by_cases g0 : p < A 3 (4 * h)
    · exact zip (nI_lt g0 (by omega)) (skip (fun q => absurd q.1 (by omega)))
    refine zin (nI_nlt (by omega) (by omega)) ⟨vp_in_nI (by omega) (by decide), ?_⟩
    by_cases g1 : A 3 (4 * h + 1) ≤ p
    · exact zip (nI_le g1 (by omega)) (skip (fun q => absurd q.2 (by omega)))
    have hin1 : hin A h p := ⟨by omega, by omega⟩
    refine zin (nI_ge (by omega) (by omega)) ⟨vin_lit (j := 0) (by decide) (by decide) (by decide), vp_in_nI (by omega) (by decide), ?_⟩
    rw [zu_nc (by decide), zu_nc (by decide), q2, et]
    have fz : FrE I (zu (zu I 155 37 1) 188 ((0 : Int32).toNatClampNeg) 1) := FrE_t (FrE_u (by omega)) (FrE_u (by omega))
    have hc1 : CurM [1] l (zu (zu I 155 37 1) 188 ((0 : Int32).toNatClampNeg) 1) := by
      refine ⟨by rw [zu_nc (by decide), zu_same]; rfl, fun j hj => by rw [zu_nc (by decide), zu_nc (by decide)]; exact h7 j hj, fun j hj => ?_⟩
      have : j = 0 := by simp at hj; omega
      subst this
      exact zu_same
    refine GR_come hm hB (GR_E hG fz (by rw [zu_nc (by decide), zu_nj (by decide)])) hCp hc1 ⟨by decide, fun x hx => by simp at hx; exact Or.inl hx⟩ hl ht ht2 (fun T hc => ?_) (fun I' f g z => ?_)
    · have := (hT T hc).1 h (by omega) hin1
      rw [et2] at this
      exact this
    · refine ih (h + 1) I' (by omega) (FrT_t hf (FrT_t (FrT_E fz) (FrT_K f))) g.2.1 (GR_Q z (fun y k hk hi => ?_))
      by_cases e : k = h
      · subst e; rw [et2]; exact y.2
      · exact y.1 k (by omega) hi
