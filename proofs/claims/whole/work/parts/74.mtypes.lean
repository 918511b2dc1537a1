/-! PURE 35: the reference: types(), whole -/
theorem m_passes {A : Nat → Nat → Nat} {m p : Nat} {ar : Nat → Nat} {s : List Nat} {l : Nat → Nat} {C : TS} {w : Int32} {I : zI} {P : zP} {K : zI → zP → Prop} (hm : m < 6) (hB : W0 A m) (hj : ∀ p, p < A 0 2 → jok A p) (hh : ∀ k, k < A 0 3 → hok A k) (har : ∀ n, n ≤ m → ar n ≤ 4 ∧ I 157 n = nI (ar n)) (hR : RS A m C I) (h5 : I 155 38 = 1) (h9 : I 155 39 = w) (ha : ∀ T, Cons A ar T → abv C T) (hC : C p = some (s, l)) (k : ∀ I', FrT m I I' → GR A m ar C w p (SC A ar C p s l) I' → K I' P) : w_X10_passes (nI m) (nI p) I P K := by
  obtain ⟨hp, h2, gs1, gl1⟩ := hR.2.1 p s l hC
  unfold w_X10_passes
  refine m_lay hm hB hR hC (fun I1 c1 f1 => ⟨A 0 3 + 1, ?_⟩)
  have f1E : FrE I I1 := fun c j q1 q2 q3 => f1 c j (by omega) q2 q3
  have hG : GR A m ar C w p (∀ k, k < 0 → hin A k p → Cov C (A 3 (4 * k + 2)) [1] l) I := ⟨hR.1, Or.inl ⟨h5, C, hR, blw_r C, ha, Or.inl ⟨h9, rfl, fun k hk => absurd hk (by omega)⟩⟩⟩
  refine l_mhd (I0 := I) hm hB hp h2 (hj p hp) hh hC gs1 gl1 har (fun T hc => ?_) k (A 0 3) 0 I1 (by omega) (FrT_L f1) c1.2.1 (GR_E hG f1E (f1 _ _ (by omega) (by omega) (by omega)))
  obtain ⟨lT, e1, e2⟩ := ha T hc p s l hC
  exact SC_abv (opn12 hB hp h2) e2 (hc.2.2 p s lT e1)
def RI (A : Nat → Nat → Nat) (m : Nat) (ar : Nat → Nat) (C : TS) (p : Nat) (I : zI) : Prop :=
  RM0 A m I ∧ ((I 155 38 = 1 ∧ ∃ C', RS A m C' I ∧ blw C' C ∧ (∀ T, Cons A ar T → abv C' T) ∧ ((I 155 39 = 0 ∧ C' = C ∧ ∀ q, q < p → ∀ s l, C q = some (s, l) → SC A ar C q s l) ∨ (I 155 39 = 1 ∧ mu C' (A 0 2) < mu C (A 0 2)))) ∨ (I 155 38 = 0 ∧ NoT A ar))
theorem l_round {A : Nat → Nat → Nat} {m : Nat} {ar : Nat → Nat} {C : TS} {I0 : zI} {P : zP} {X : Int32 → zI → zP → Prop} {K : Int32 → zI → zP → Prop} (hm : m < 6) (hB : W0 A m) (hj : ∀ p, p < A 0 2 → jok A p) (hh : ∀ k, k < A 0 3 → hok A k) (har : ∀ n, n ≤ m → ar n ≤ 4 ∧ I0 157 n = nI (ar n)) (k : ∀ I', FrT m I0 I' → RI A m ar C (A 0 2) I' → X (nI m) I' P) :
    ∀ d p I, p + d = A 0 2 → FrT m I0 I → RI A m ar C p I → l_X10_types_105 X K (d + 1) (nI m) (nI p) I P := by
  have b1 := hB.2.2.2.2.1
  intro d
  induction d with
  | zero =>
    intro p I hp hf hI
    obtain rfl : p = A 0 2 := by omega
    rw [l_X10_types_105]
    exact ⟨vp_in_nI hm (by decide), zip (by rw [nI_clamp (by omega), hI.1.2.2.1]; exact nI_le (Nat.le_refl _) (by omega)) (k I hf hI)⟩
  | succ d ih =>
    intro p I hp hf hI
    rw [l_X10_types_105]
    have e4 : (400 : Int32) * nI m + nI p = nI (400 * m + p) := by rw [show (400 : Int32) = nI 400 from rfl, pk_mul, nI_add]
    rw [e4, nI_clamp (by omega), nI_clamp (by omega), hI.1.2.2.1, nI_1]
    refine ⟨vp_in_nI hm (by decide), zin (nI_ge (by omega) (by omega)) ⟨vp_in_nI (by omega) (by decide), ?_⟩⟩
    have hbg := (hI.1.2.2.2.2.1 p (by omega)).2
    have next : (∀ s l, C p = some (s, l) → I 155 38 = 1 → I 155 39 = 0 → SC A ar C p s l) → l_X10_types_105 X K (d + 1) (nI m) (nI (p + 1)) I P := fun hsc => by
      refine ih (p + 1) I (by omega) hf ⟨hI.1, ?_⟩
      rcases hI.2 with ⟨h5, C', hR, g1, g2, g3⟩ | z
      · refine Or.inl ⟨h5, C', hR, g1, g2, ?_⟩
        rcases g3 with ⟨y1, y2, y3⟩ | y
        · refine Or.inl ⟨y1, y2, fun q hq s l e => ?_⟩
          by_cases eq : q = p
          · subst eq; exact hsc s l e h5 y1
          · exact y3 q (by omega) s l e
        · exact Or.inr y
      · exact Or.inr z
    by_cases hz : A 2 p = 0
    · rw [if_pos hz] at hbg
      refine zip hbg (next (fun s l e h5 h9 => ?_))
      rcases hI.2 with ⟨-, C', hR, g1, -, -⟩ | ⟨z, -⟩
      · obtain ⟨l', e', -⟩ := g1 p s l e
        have := (hR.2.1 p s l' e').2.1
        omega
      · rw [z] at h5; exact absurd h5 (by decide)
    · rw [if_neg hz] at hbg
      refine zin (by rw [hbg]; decide) ⟨vp_in_nI (by omega) (by decide), ?_⟩
      rcases hI.2 with ⟨h5, C', hR, g1, g2, g3⟩ | ⟨h5, hn⟩
      · cases e : C' p with
        | none =>
          have h7 := (hR.2.2 p (by omega) (by omega)).1 e
          refine zip (by rw [h7]; decide) (next (fun s l e2 _ _ => ?_))
          obtain ⟨l', e', -⟩ := g1 p s l e2
          rw [e] at e'; cases e'
        | some v =>
          obtain ⟨s, l⟩ := v
          have h7 := ((hR.2.2 p (by omega) (by omega)).2 s l e).1
          have hsl := (hR.2.1 p s l e).2.2.1.1
          refine zin (by rw [h7]; exact nI_pos (by omega)) (zin (by rw [h5]; decide) ?_)
          refine m_passes hm hB hj hh (fun n hn => ⟨(har n hn).1, by rw [hf _ _ (by omega) (by omega) (by omega) (by omega) (by omega) (by omega)]; exact (har n hn).2⟩) hR h5 rfl g2 e (fun I' f g => ?_)
          refine ih (p + 1) I' (by omega) (FrT_t hf f) ⟨g.1, ?_⟩
          rcases g.2 with ⟨z5, D, zR, z1, z2, z3⟩ | ⟨z5, zn, -⟩
          · refine Or.inl ⟨z5, D, zR, blw_t z1 g1, z2, ?_⟩
            rcases z3 with ⟨y1, rfl, y3⟩ | ⟨y1, y2⟩
            · rcases g3 with ⟨x1, rfl, x3⟩ | ⟨x1, x2⟩
              · refine Or.inl ⟨by rw [y1, x1], rfl, fun q hq s' l1 e1 => ?_⟩
                by_cases eq : q = p
                · subst eq
                  rw [e] at e1; cases e1
                  exact y3
                · exact x3 q (by omega) s' l1 e1
              · exact Or.inr ⟨by rw [y1, x1], x2⟩
            · refine Or.inr ⟨y1, ?_⟩
              rcases g3 with ⟨x1, rfl, x3⟩ | ⟨x1, x2⟩
              · exact y2
              · omega
          · exact Or.inr ⟨z5, zn⟩
      · have nx := next (fun s l e z _ => by rw [h5] at z; exact absurd z (by decide))
        by_cases hlt : I 167 (400 * m + p) < 0
        · exact zip hlt nx
        · exact zin hlt (zip h5 nx)
theorem l_while {A : Nat → Nat → Nat} {m : Nat} {ar : Nat → Nat} {I0 : zI} {P : zP} {K : Int32 → zI → zP → Prop} (hm : m < 6) (hB : W0 A m) (hj : ∀ p, p < A 0 2 → jok A p) (hh : ∀ k, k < A 0 3 → hok A k) (har : ∀ n, n ≤ m → ar n ≤ 4 ∧ I0 157 n = nI (ar n))
    (k1 : ∀ C I', FrT m I0 I' → RM0 A m I' → RCx A m C I' → Cons A ar C → (∀ T, Cons A ar T → abv C T) → K 1 I' P) (k2 : ∀ I', FrT m I0 I' → NoT A ar → K 0 I' P) :
    ∀ N C I, mu C (A 0 2) ≤ N → FrT m I0 I → RS A m C I → I 155 38 = 1 → I 155 39 = 1 → (∀ T, Cons A ar T → abv C T) → Cov C 0 [] (l0 A) → l_X10_types_84 K (N + 2) (nI m) I P := by
  have fin0 : ∀ n I, FrT m I0 I → I 155 38 = 0 → NoT A ar → l_X10_types_84 K (n + 1) (nI m) I P := fun n I f h5 hn => by
    rw [l_X10_types_84]
    have z : zbo (I 155 38) ∧ K (I 155 38) I P := ⟨by rw [h5]; exact zbo0, by rw [h5]; exact k2 I f hn⟩
    by_cases e : I 155 39 = 0
    · exact zip e z
    · exact zin e (zip h5 z)
  have fin1 : ∀ n I C, FrT m I0 I → I 155 38 = 1 → I 155 39 = 0 → RS A m C I → Cov C 0 [] (l0 A) → (∀ q, q < A 0 2 → ∀ s l, C q = some (s, l) → SC A ar C q s l) → (∀ T, Cons A ar T → abv C T) → l_X10_types_84 K (n + 1) (nI m) I P := fun n I C f h5 h9 hR hc hs hab => by
    rw [l_X10_types_84]
    refine zip h9 ⟨by rw [h5]; exact zbo1, ?_⟩
    rw [h5]
    exact k1 C I f hR.1 hR.2.2 ⟨hR.2.1, hc, fun p s l e => hs p (hR.2.1 p s l e).1 s l e⟩ hab
  intro N
  induction N with
  | zero =>
    intro C I hmu hf hR h5 h9 ha hc
    rw [l_X10_types_84]
    have fz : FrT m I (zu I 155 39 0) := FrT_K (FrK_u (by omega))
    have hR1 : RS A m C (zu I 155 39 0) := by
      refine ⟨RM0_T hR.1 fz, hR.2.1, fun p hp hp2 => ?_⟩
      have := hR.2.2 p hp hp2
      refine ⟨fun e => by rw [zu_nc (by decide)]; exact this.1 e, fun s l e => ⟨by rw [zu_nc (by decide)]; exact (this.2 s l e).1, fun k hk => by rw [zu_nc (by decide)]; exact (this.2 s l e).2.1 k hk, fun k hk => by rw [zu_nc (by decide)]; exact (this.2 s l e).2.2 k hk⟩⟩
    refine zin (by rw [h9]; decide) (zin (by rw [h5]; decide) ⟨A 0 2 + 1, l_round (I0 := I0) hm hB hj hh har (fun I' f g => ?_) (A 0 2) 0 _ (by omega) (FrT_t hf fz) ⟨RM0_T hR.1 fz, Or.inl ⟨by rw [zu_nj (by decide)]; exact h5, C, hR1, blw_r C, ha, Or.inl ⟨zu_same, rfl, fun q hq => absurd hq (by omega)⟩⟩⟩⟩)
    rcases g.2 with ⟨z5, D, zR, z1, z2, ⟨y1, rfl, y3⟩ | ⟨y1, y2⟩⟩ | ⟨z5, zn⟩
    · exact fin1 0 I' D f z5 y1 zR hc y3 z2
    · omega
    · exact fin0 0 I' f z5 zn
  | succ N ih =>
    intro C I hmu hf hR h5 h9 ha hc
    rw [l_X10_types_84]
    have fz : FrT m I (zu I 155 39 0) := FrT_K (FrK_u (by omega))
    have hR1 : RS A m C (zu I 155 39 0) := by
      refine ⟨RM0_T hR.1 fz, hR.2.1, fun p hp hp2 => ?_⟩
      have := hR.2.2 p hp hp2
      refine ⟨fun e => by rw [zu_nc (by decide)]; exact this.1 e, fun s l e => ⟨by rw [zu_nc (by decide)]; exact (this.2 s l e).1, fun k hk => by rw [zu_nc (by decide)]; exact (this.2 s l e).2.1 k hk, fun k hk => by rw [zu_nc (by decide)]; exact (this.2 s l e).2.2 k hk⟩⟩
    refine zin (by rw [h9]; decide) (zin (by rw [h5]; decide) ⟨A 0 2 + 1, l_round (I0 := I0) hm hB hj hh har (fun I' f g => ?_) (A 0 2) 0 _ (by omega) (FrT_t hf fz) ⟨RM0_T hR.1 fz, Or.inl ⟨by rw [zu_nj (by decide)]; exact h5, C, hR1, blw_r C, ha, Or.inl ⟨zu_same, rfl, fun q hq => absurd hq (by omega)⟩⟩⟩⟩)
    rcases g.2 with ⟨z5, D, zR, z1, z2, ⟨y1, rfl, y3⟩ | ⟨y1, y2⟩⟩ | ⟨z5, zn⟩
    · exact fin1 (N + 1) I' D f z5 y1 zR hc y3 z2
    · exact ih D I' (by omega) f zR z5 y1 z2 (Cov_blw z1 hc)
    · exact fin0 (N + 1) I' f z5 zn
theorem m_types {A : Nat → Nat → Nat} {m : Nat} {ar : Nat → Nat} {I : zI} {P : zP} {K : Int32 → zI → zP → Prop} (hm : m < 6) (hL : RM0 A m I) (hB : W0 A m) (hj : ∀ p, p < A 0 2 → jok A p) (hh : ∀ k, k < A 0 3 → hok A k) (har : ∀ n, n ≤ m → ar n ≤ 4 ∧ I 157 n = nI (ar n))
    (k1 : ∀ C I', FrT m I I' → RM0 A m I' → RCx A m C I' → Cons A ar C → (∀ T, Cons A ar T → abv C T) → K 1 I' P) (k2 : ∀ I', FrT m I I' → NoT A ar → K 0 I' P) : w_X10_types (nI m) I P K := by
  have b0 := hB.1
  have b1 := hB.2.2.2.2.1
  have b14 := hB.2.2.2.1
  -- behind the first comes()
  have lw : ∀ C J, FrT m I J → RS A m C J → J 155 38 = 1 → (∀ T, Cons A ar T → abv C T) → Cov C 0 [] (l0 A) → ∃ n, l_X10_types_84 K n (nI m) (zu J 155 39 1) P := fun C J f hR h5 ha hc => by
    have fz : FrT m J (zu J 155 39 1) := FrT_K (FrK_u (by omega))
    refine ⟨mu C (A 0 2) + 2, l_while hm hB hj hh har k1 k2 (mu C (A 0 2)) C _ (Nat.le_refl _) (FrT_t f fz) ⟨RM0_T hR.1 fz, hR.2.1, fun p hp hp2 => ?_⟩ (by rw [zu_nj (by decide)]; exact h5) zu_same ha hc⟩
    have := hR.2.2 p hp hp2
    exact ⟨fun e => by rw [zu_nc (by decide)]; exact this.1 e, fun s l e => ⟨by rw [zu_nc (by decide)]; exact (this.2 s l e).1, fun k hk => by rw [zu_nc (by decide)]; exact (this.2 s l e).2.1 k hk, fun k hk => by rw [zu_nc (by decide)]; exact (this.2 s l e).2.2 k hk⟩⟩
  -- LOCALS at the first
  have l40 : ∀ d i J, i + d = 12 → FrT m I J → J 155 37 = 0 → J 155 38 = 1 → (∀ p, p < 400 → J 167 (400 * m + p) = -1) → (∀ j, j < i → J 187 j = nI (l0 A j)) → l_X10_types_40 K (d + 1) (nI m) (nI i) J P := by
    intro d
    induction d with
    | zero =>
      intro i J hi f h37 h38 h67 h87
      obtain rfl : i = 12 := by omega
      rw [l_X10_types_40]
      refine zip (nI_le (a := 12) (by omega) (by omega)) ?_
      have hR : RS A m (fun _ => none) J := ⟨RM0_T hL f, fun p s l e => (by cases e), fun p hp hp2 => ⟨fun _ => h67 p (by omega), fun s l e => (by cases e)⟩⟩
      refine m_comes (q := 0) (s := []) hm hB hR ⟨h37, h87, fun j hj => absurd hj (by simp)⟩ ⟨by decide, fun x hx => by cases hx⟩ (gl_l0 A) h38 (by omega) hB.2.2.2.2.2.2.2.2.1 (fun C J' z1 z2 z3 z4 z5 z6 z7 z8 => ?_) (fun J' z1 z2 z3 z4 => ?_)
      · exact lw C J' (FrT_t f (FrT_K z2)) z1 z3 (fun T hT => z7 T (fun p s l e => (by cases e)) hT.2.1) z5
      · have hno : NoT A ar := fun ⟨T, hT⟩ => z1 T (fun p s l e => (by cases e)) hT.2.1
        have fz : FrT m J' (zu J' 155 39 1) := FrT_K (FrK_u (by omega))
        refine ⟨1, ?_⟩
        rw [l_X10_types_84]
        have h5 : zu J' 155 39 1 155 38 = 0 := by rw [zu_nj (by decide)]; exact z3
        refine zin (by rw [zu_same]; decide) (zip h5 ⟨by rw [h5]; exact zbo0, ?_⟩)
        rw [h5]
        exact k2 _ (FrT_t f (FrT_t (FrT_K z2) fz)) hno
    | succ d ih =>
      intro i J hi f h37 h38 h67 h87
      rw [l_X10_types_40]
      have ha0 : J 157 m = nI (A 0 0) := (RM0_T hL f).1
      rw [nI_clamp (by omega), nI_clamp (by omega), ha0, nI_1]
      have go : ∀ v : Int32, v = nI (l0 A i) → l_X10_types_40 K (d + 1) (nI m) (nI (i + 1)) (zu J 187 i v) P := fun v hv => by
        refine ih (i + 1) _ (by omega) (FrT_t f (FrT_E (FrE_u (by omega)))) (by rw [zu_nc (by decide)]; exact h37) (by rw [zu_nc (by decide)]; exact h38) (fun p hp => by rw [zu_nc (by decide)]; exact h67 p hp) (fun j hj => ?_)
        by_cases e : j = i
        · rw [e, zu_same, hv]
        · rw [zu_nj e]; exact h87 j (by omega)
      refine zin (nI_ge (b := 12) (by omega) (by decide)) ⟨vp_in_nI hm (by decide), ?_⟩
      by_cases g : A 0 0 ≤ i
      · exact zip (nI_le g (by omega)) ⟨vp_in_nI (by omega) (by decide), go 0 (by unfold l0; rw [if_neg (by omega)]; rfl)⟩
      · exact zin (nI_ge (by omega) (by omega)) ⟨vp_in_nI (by omega) (by decide), go 1 (by unfold l0; rw [if_pos (by omega)]; rfl)⟩
  have l2 : ∀ d i J, i + d = 400 → FrT m I J → (∀ p, p < i → J 167 (400 * m + p) = -1) → l_X10_types_2 K (d + 1) (nI m) (nI i) J P := by
    intro d
    induction d with
    | zero =>
      intro i J hi f h67
      obtain rfl : i = 400 := by omega
      rw [l_X10_types_2]
      refine zip (nI_le (a := 400) (by omega) (by omega)) ⟨13, l40 12 0 _ (by omega) (FrT_t f (FrT_t (FrT_E (FrE_u (by omega))) (FrT_E (FrE_u (by omega))))) zu_same (by rw [zu_nj (by decide), zu_same]) (fun p hp => by rw [zu_nc (by decide), zu_nc (by decide)]; exact h67 p hp) (fun j hj => absurd hj (by omega))⟩
    | succ d ih =>
      intro i J hi f h67
      rw [l_X10_types_2]
      have e4 : (400 : Int32) * nI m + nI i = nI (400 * m + i) := by rw [show (400 : Int32) = nI 400 from rfl, pk_mul, nI_add]
      rw [e4, nI_clamp (by omega), nI_1]
      refine zin (nI_ge (b := 400) (by omega) (by decide)) ⟨vp_in_nI (by omega) (by decide), ih (i + 1) _ (by omega) (FrT_t f (FrT_K (FrK_u (by omega)))) (fun p hp => ?_)⟩
      by_cases e : p = i
      · rw [e, zu_same]
      · rw [zu_nj (by omega)]; exact h67 p (by omega)
  exact ⟨401, l2 400 0 I (by omega) (FrT_r m I) (fun p hp => absurd hp (by omega))⟩
