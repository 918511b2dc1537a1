/-! PURE 30: the reference's effect() -/
theorem m_psh {t : Nat} {s : List Nat} {l : Nat → Nat} {I : zI} {P : zP} {K : zI → zP → Prop} (ht : t = 1 ∨ t = 2) (hs : gs s) (h5 : zbo (I 155 38)) (h : CurM s l I) (k1 : ∀ z I', pshT t s = some z → CurM z l I' → I' 155 38 = I 155 38 → FrE I I' → K I' P) (k2 : ∀ I', pshT t s = none → AnyM 11 I' → FrE I I' → K I' P) : w_X10_push (nI t) I P K := by
  unfold pshT at k1 k2
  by_cases hl : s.length < 10
  · rw [if_pos hl] at k1
    exact m_push (by omega) (by omega) hl h5 h (fun I' q1 q2 q3 => k1 _ I' rfl q1 q2 q3)
  · rw [if_neg hl] at k2
    exact m_pushF (Or.inl (by have := hs.1; omega)) hs.1 h (fun I' q1 q2 => k2 I' rfl q1 q2)
theorem AnyM_le {a b : Nat} {I : zI} (h : AnyM a I) (hab : a ≤ b) : AnyM b I := by
  obtain ⟨⟨x, hx, e⟩, h2⟩ := h
  exact ⟨⟨x, by omega, e⟩, h2⟩
theorem AnyM_f {a : Nat} {I : zI} (h : AnyM a I) : AnyM a (zu I 155 38 0) := by
  obtain ⟨⟨x, hx, e⟩, h2⟩ := h
  exact ⟨⟨x, hx, by rw [zu_nj (by decide)]; exact e⟩, zu_same⟩
theorem m_rows {c : Nat} {s : List Nat} {l : Nat → Nat} {I : zI} {P : zP} {K : zI → zP → Prop} (hc : 36 ≤ c ∧ c ≤ 39) (hs : gs s) (h5 : zbo (I 155 38)) (h : CurM s l I) (k1 : ∀ z I', effT c s = some z → CurM z l I' → I' 155 38 = I 155 38 → FrE I I' → K I' P) (k2 : ∀ I', effT c s = none → I' 155 38 = 0 → FrE I I' → K I' P) : w_X10_rows (nI c) I P K := by
  unfold w_X10_rows
  by_cases c36 : c = 36
  · subst c36
    refine zip rfl ⟨2, ?_⟩
    refine m_ints (n := 1) (by decide) 1 0 s I (by omega) hs h5 h (fun s1 I' q1 q2 q3 q4 => ?_) (fun I' q1 q2 q3 => ?_)
    · refine m_psh (t := 2) (Or.inr rfl) (gs_popI hs q1) (by rw [q3]; exact h5) q2 (fun z I2 r1 r2 r3 r4 => ?_) (fun I2 r1 r2 r3 => ?_)
      · refine k1 z I2 ?_ r2 (by rw [r3, q3]) (FrE_t q4 r4)
        show (popI 1 s).bind _ = _
        rw [q1]; exact r1
      · refine k2 I2 ?_ r2.2 (FrE_t q4 r3)
        show (popI 1 s).bind _ = _
        rw [q1]; exact r1
    · refine n_push (by decide) q2 (fun I2 r1 r2 => k2 I2 ?_ r1.2 (FrE_t q3 r2))
      show (popI 1 s).bind _ = _
      rw [q1]; rfl
  have ne : ∀ v, v < 2 ^ 31 → c ≠ v → ¬ nI c = nI v := fun v hv h q => h ((nI_eq (by omega) hv).mp q)
  refine zin (ne 36 (by decide) c36) ?_
  have hr : c = 37 ∨ c = 38 ∨ c = 39 := by omega
  have tk : tki c = c - 37 := by rcases hr with rfl | rfl | rfl <;> rfl
  have pt : pts c = if c = 39 then 0 else 1 := by rcases hr with rfl | rfl | rfl <;> rfl
  have key : j_X10_rows_32 K (nI c) (nI (tki c)) I P := by
    unfold j_X10_rows_32 w_X10_ints
    refine ⟨tki c + 1, ?_⟩
    have eE : ∀ s1, popI (tki c) s = some s1 → effT c s = ((popR c s1).bind fun s2 => if pts c = 0 then some s2 else pshT (pts c) s2) := fun s1 e => by unfold effT; rw [e]; rfl
    have anyEnd : ∀ I1, AnyM 11 I1 → FrE I I1 → effT c s = none → j_X10_rows_56 K (nI c) 0 I1 P := fun I1 a1 f1 e => by
      unfold j_X10_rows_56
      refine ⟨zbo0, ?_⟩
      split
      · exact k2 _ e zu_same (FrE_t f1 (FrE_u (by omega)))
      · exact n_push (n := 11) (by decide) (AnyM_f a1) (fun I2 r1 r2 => k2 I2 e r1.2 (FrE_t f1 (FrE_t (FrE_u (by omega)) r2)))
    refine m_ints (n := tki c) (by omega) (tki c) 0 s I (by omega) hs h5 h (fun s1 I' q1 q2 q3 q4 => ?_) (fun I' q1 q2 q3 => ?_)
    · have g1 := gs_popI hs q1
      have e1 := eE s1 q1
      cases s1 with
      | nil =>
        have e : effT c s = none := by rw [e1]; unfold popR; rw [if_pos hr]; rfl
        refine m_pullE q2 (zin (by decide) ?_)
        unfold j_X10_rows_55
        exact anyEnd _ ⟨⟨0, by omega, by rw [zu_nj (by decide)]; exact q2.1⟩, zu_same⟩ (FrE_t q4 (FrE_u (by omega))) e
      | cons t r =>
        have hl : r.length + 1 ≤ 10 := by have := g1.1; simpa using this
        have t4 : t < 4 := gs4 g1 t List.mem_cons_self
        refine m_pull (by omega) q2 (fun I1 h1 x1 f1 => ?_)
        by_cases t2 : t = 2
        · subst t2
          have e2 : popR c (2 :: r) = some r := by unfold popR; rw [if_pos hr]; rfl
          rw [e2] at e1
          refine zip rfl ?_
          have go : ∀ w : Int32, I 155 38 = w → zbo w → j_X10_rows_56 K (nI c) w I1 P := fun w hw hz => by
            unfold j_X10_rows_56
            refine ⟨hz, ?_⟩
            by_cases c39 : c = 39
            · refine zip (by rw [c39]; rfl) (k1 r _ ?_ (Cur_f h1) (by rw [zu_same, hw]) (FrE_t q4 (FrE_t f1 (FrE_u (by omega)))))
              rw [e1, pt, if_pos c39]; rfl
            · refine zin (ne 39 (by decide) c39) (m_psh (t := 1) (Or.inl rfl) (gs_tl g1) (by rw [zu_same]; exact hz) (Cur_f h1) (fun z I2 r1 r2 r3 r4 => ?_) (fun I2 r1 r2 r3 => ?_))
              · rw [zu_same] at r3
                refine k1 z I2 ?_ r2 (by rw [r3, hw]) (FrE_t q4 (FrE_t f1 (FrE_t (FrE_u (by omega)) r4)))
                rw [e1, pt, if_neg c39]; exact r1
              · refine k2 I2 ?_ r2.2 (FrE_t q4 (FrE_t f1 (FrE_t (FrE_u (by omega)) r3)))
                rw [e1, pt, if_neg c39]; exact r1
          by_cases e : I1 155 38 = 0
          · unfold j_X10_rows_55
            exact zip e (go 0 (by rw [← q3, ← x1]; exact e) zbo0)
          · refine zin e (go 1 ?_ zbo1)
            rw [x1, q3] at e
            exact h5.resolve_left e
        · have e : effT c s = none := by rw [e1]; unfold popR; rw [if_pos hr]; simp only [if_neg t2]; rfl
          refine zin (fun q => t2 ((nI_eq (b := 2) (by omega) (by decide)).mp q)) ?_
          unfold j_X10_rows_55 j_X10_rows_56
          refine ⟨zbo0, ?_⟩
          have a1 : AnyM 11 (zu I1 155 38 0) := ⟨⟨r.length, by omega, by rw [zu_nj (by decide)]; exact h1.1⟩, zu_same⟩
          split
          · exact k2 _ e zu_same (FrE_t q4 (FrE_t f1 (FrE_u (by omega))))
          · exact n_push (n := 11) (by decide) a1 (fun I2 r1 r2 => k2 I2 e r1.2 (FrE_t q4 (FrE_t f1 (FrE_t (FrE_u (by omega)) r2))))
    · have e : effT c s = none := by unfold effT; rw [q1]; rfl
      refine n_pull (by decide) q2 (fun v I1 a1 f1 => ?_)
      have z := anyEnd I1 (AnyM_le a1 (by decide)) (FrE_t q3 f1) e
      unfold j_X10_rows_55
      split
      · exact zip a1.2 z
      · exact z
  rw [tk] at key
  by_cases c37 : c = 37
  · subst c37
    exact zip rfl key
  · refine zin (ne 37 (by decide) c37) ?_
    have : nI c - 37 = nI (c - 37) := pk_sub (b := 37) (by omega)
    rw [this]; exact key
theorem m_eff {A : Nat → Nat → Nat} {m p : Nat} {ar : Nat → Nat} {s : List Nat} {l : Nat → Nat} {I : zI} {P : zP} {K : zI → zP → Prop} (hm : m < 6) (hL : RM0 A m I) (hB : W0 A m) (hp : p < A 0 2) (h2 : 0 < A 2 p) (hs : gs s) (hl : gl l) (har : ∀ n, n ≤ m → ar n ≤ 4 ∧ I 157 n = nI (ar n)) (h5 : zbo (I 155 38)) (h : CurM s l I)
    (k1 : ∀ s2 l2 I', eff (sho (A 1 p)) (A 1 (p + 1)) ar s l = some (s2, l2) → CurM s2 l2 I' → I' 155 38 = I 155 38 → FrE I I' → K I' P) (k2 : ∀ I', eff (sho (A 1 p)) (A 1 (p + 1)) ar s l = none → I' 155 38 = 0 → FrE I I' → K I' P) : w_X10_effect (nI m) (nI p) (nI (A 1 p)) I P K := by
  have hcd := hL.2.2.2.2.1
  have hB0 := hB
  obtain ⟨-, -, b12, -, b1, -, bb, -, -, b4, -⟩ := hB
  obtain ⟨c1, c2, c3, c4, c5, c6, c7, c8⟩ := b4 p hp h2
  have hc256 := bb p
  have hso := sho_lt c1
  have e4 : (400 : Int32) * nI m + nI p = nI (400 * m + p) := by rw [show (400 : Int32) = nI 400 from rfl, pk_mul, nI_add]
  unfold w_X10_effect
  refine s_msize (c := A 1 p) (n := A 1 (p + 1)) hm (by omega) hc256 c1 (hcd p hp).1 ?_ ?_
  · intro e33
    have e5 := c5 e33
    have eo : opz (A 1 p) (A 1 (p + 1)) = 4 + 2 * A 1 (p + 1) := by unfold opz; rw [if_pos e33]
    refine ⟨by omega, ?_⟩
    rw [Nat.add_assoc]; exact (hcd (p + 1) (by omega)).1
  rw [← c2, e4]
  have ne : ∀ v, v < 2 ^ 31 → A 1 p ≠ v → ¬ nI (A 1 p) = nI v := fun v hv h q => h ((nI_eq (by omega) hv).mp q)
  have shc : A 1 p < 84 → sho (A 1 p) = A 1 p := fun h => by unfold sho; rw [if_neg (by omega)]
  have wide : A 1 p = 3 ∨ A 1 p = 4 ∨ A 1 p = 5 ∨ A 1 p = 40 → 1 < A 2 p := by
    intro hu
    have e33 : A 1 p ≠ 33 := by omega
    have : opz (A 1 p) (A 1 (p + 1)) = fxz (A 1 p) := by unfold opz; rw [if_neg e33]
    rw [this] at c2
    have : 2 ≤ fxz (A 1 p) := by
      unfold fxz
      (repeat' split) <;> omega
    omega
  -- the byte n
  have main : ∀ x : Nat, p ≤ x → (1 < A 2 p → x = p + 1) → x < A 0 2 → j_X10_effect_26 K (nI m) (nI (A 1 p)) (nI (x - p)) (nI (400 * m + p)) I P := by
    intro x hxp hx hxl
    have ex : nI (400 * m + p) + nI (x - p) = nI (400 * m + x) := by rw [nI_add]; congr 1; omega
    have hbx := bb x
    unfold j_X10_effect_26
    rw [ex, nI_clamp (by omega), (hcd x hxl).1]
    refine ⟨vp_in_nI (by omega) (by decide), ?_⟩
    by_cases o3 : A 1 p = 3
    · have hx1 := hx (wide (by omega))
      have n12 := opn12 hB0 hp h2 (by rw [shc (by omega)]; omega)
      subst hx1
      refine zip (by rw [o3]; rfl) ⟨vp_in_nI n12 (by decide), ?_⟩
      rw [nI_clamp (by omega), h.2.1 _ n12]
      have e : sho (A 1 p) = 3 := by rw [shc (by omega), o3]
      rw [e] at k1 k2
      unfold eff at k1 k2
      simp only [if_true] at k1 k2
      have l3 := hl (A 1 (p + 1))
      by_cases l0 : l (A 1 (p + 1)) = 0
      · rw [if_pos l0] at k2
        exact m_pushF (Or.inr (by rw [l0]; rfl)) hs.1 h (fun I' q1 q2 => k2 I' rfl q1.2 q2)
      · rw [if_neg l0] at k1 k2
        refine m_psh (by omega) hs h5 h (fun z I' q1 q2 q3 q4 => k1 z l I' (by rw [q1]; rfl) q2 q3 q4) (fun I' q1 q2 q3 => k2 I' (by rw [q1]; rfl) q2.2 q3)
    refine zin (ne 3 (by decide) o3) ?_
    by_cases o4 : A 1 p = 4
    · have hx1 := hx (wide (by omega))
      have n12 := opn12 hB0 hp h2 (by rw [shc (by omega)]; omega)
      subst hx1
      have e : sho (A 1 p) = 4 := by rw [shc (by omega), o4]
      rw [e] at k1 k2
      refine zip (by rw [o4]; rfl) ?_
      rw [nI_clamp (by omega)]
      cases s with
      | nil =>
        refine m_pullE h ⟨vp_in_nI n12 (by decide), k2 _ rfl (by rw [zu_nc (by decide), zu_same]) (FrE_t (FrE_u (by omega)) (FrE_u (by omega)))⟩
      | cons t r =>
        have hl10 : r.length + 1 ≤ 10 := by have := hs.1; simpa using this
        refine m_pull (by omega) h (fun I1 h1 x1 f1 => ⟨vp_in_nI n12 (by decide), k1 r _ _ rfl ⟨by rw [zu_nc (by decide)]; exact h1.1, fun j hj => ?_, fun j hj => by rw [zu_nc (by decide)]; exact h1.2.2 j hj⟩ (by rw [zu_nc (by decide), x1]) (FrE_t f1 (FrE_u (by omega)))⟩)
        unfold upN
        by_cases ej : j = A 1 (p + 1)
        · rw [if_pos ej, ej, zu_same]
        · rw [if_neg ej, zu_nj ej]; exact h1.2.1 j hj
    refine zin (ne 4 (by decide) o4) ?_
    by_cases o5 : A 1 p = 5
    · have hx1 := hx (wide (by omega))
      have n12 := opn12 hB0 hp h2 (by rw [shc (by omega)]; omega)
      subst hx1
      have e : sho (A 1 p) = 5 := by rw [shc (by omega), o5]
      rw [e] at k1 k2
      refine zip (by rw [o5]; rfl) ?_
      rw [nI_clamp (by omega), h.2.1 _ n12]
      unfold eff at k1 k2
      rw [if_neg (by decide), if_neg (by decide), if_pos rfl] at k1 k2
      have l3 := hl (A 1 (p + 1))
      by_cases l1 : l (A 1 (p + 1)) = 1
      · rw [if_pos l1] at k1
        by_cases z : I 155 38 = 0
        · exact zip z (k1 s l _ rfl (Cur_f h) (by rw [zu_same, z]) (FrE_u (by omega)))
        · exact zin z ⟨vp_in_nI n12 (by decide), zip (by rw [l1]; rfl) (k1 s l _ rfl (Cur_f h) (by rw [zu_same]; exact (h5.resolve_left z).symm) (FrE_u (by omega)))⟩
      · rw [if_neg l1] at k2
        by_cases z : I 155 38 = 0
        · exact zip z (k2 _ rfl zu_same (FrE_u (by omega)))
        · exact zin z ⟨vp_in_nI n12 (by decide), zin (fun q => l1 ((nI_eq (b := 1) (by omega) (by decide)).mp q)) (k2 _ rfl zu_same (FrE_u (by omega)))⟩
    refine zin (ne 5 (by decide) o5) ?_
    by_cases o6 : A 1 p = 6
    · have e : sho (A 1 p) = 6 := by rw [shc (by omega), o6]
      rw [e] at k1 k2
      refine zip (by rw [o6]; rfl) ?_
      cases s with
      | nil =>
        refine m_pullE h (n_push (n := 0) (by decide) ⟨⟨0, by omega, by rw [zu_nj (by decide)]; exact h.1⟩, zu_same⟩ (fun I1 a1 f1 => n_push (by decide) a1 (fun I2 a2 f2 => k2 I2 rfl a2.2 (FrE_t (FrE_u (by omega)) (FrE_t f1 f2)))))
      | cons t r =>
        have hl10 : r.length + 1 ≤ 10 := by have := hs.1; simpa using this
        have t2 := hs.2 t List.mem_cons_self
        refine m_pull (by omega) h (fun I1 h1 x1 f1 => m_push (by omega) (by omega) (by omega) (by rw [x1]; exact h5) h1 (fun I2 h2' x2 f2 => ?_))
        refine m_psh t2 hs (by rw [x2, x1]; exact h5) h2' (fun z I3 q1 q2 q3 q4 => k1 z l I3 ?_ q2 (by rw [q3, x2, x1]) (FrE_t f1 (FrE_t f2 q4))) (fun I3 q1 q2 q3 => k2 I3 ?_ q2.2 (FrE_t f1 (FrE_t f2 q3)))
        · show (pshT t (t :: r)).map _ = _
          rw [q1]; rfl
        · show (pshT t (t :: r)).map _ = _
          rw [q1]; rfl
    refine zin (ne 6 (by decide) o6) ?_
    by_cases o7 : A 1 p = 7
    · have e : sho (A 1 p) = 7 := by rw [shc (by omega), o7]
      rw [e] at k1 k2
      refine zip (by rw [o7]; rfl) ?_
      cases s with
      | nil => exact m_pullE h (k2 _ rfl zu_same (FrE_u (by omega)))
      | cons t r =>
        have hl10 : r.length + 1 ≤ 10 := by have := hs.1; simpa using this
        exact m_pull (by omega) h (fun I1 h1 x1 f1 => k1 r l I1 rfl h1 x1 f1)
    refine zin (ne 7 (by decide) o7) ?_
    by_cases o8 : A 1 p = 8
    · have e : sho (A 1 p) = 8 := by rw [shc (by omega), o8]
      rw [e] at k1 k2
      refine zip (by rw [o8]; rfl) ?_
      cases s with
      | nil =>
        refine m_pullE h (n_pull (n := 0) (by decide) ⟨⟨0, by omega, by rw [zu_nj (by decide)]; exact h.1⟩, zu_same⟩ (fun v I0 a0 f0 => n_push (by decide) a0 (fun I1 a1 f1 => n_push (by decide) a1 (fun I2 a2 f2 => k2 I2 rfl a2.2 (FrE_t (FrE_u (by omega)) (FrE_t f0 (FrE_t f1 f2)))))))
      | cons w r =>
        have hl10 : r.length + 1 ≤ 10 := by have := hs.1; simpa using this
        have w2 := hs.2 w List.mem_cons_self
        refine m_pull (by omega) h (fun I1 h1 x1 f1 => ?_)
        cases r with
        | nil =>
          refine m_pullE h1 (n_push (n := 0) (by decide) ⟨⟨0, by omega, by rw [zu_nj (by decide)]; exact h1.1⟩, zu_same⟩ (fun I2 a2 f2 => n_push (by decide) a2 (fun I3 a3 f3 => k2 I3 rfl a3.2 (FrE_t f1 (FrE_t (FrE_u (by omega)) (FrE_t f2 f3))))))
        | cons v r =>
          have v2 := (gs_tl hs).2 v List.mem_cons_self
          simp only [List.length_cons] at hl10
          refine m_pull (by omega) h1 (fun I2 h2' x2 f2 => m_push (by omega) (by omega) (by omega) (by rw [x2, x1]; exact h5) h2' (fun I3 h3 x3 f3 => m_push (by omega) (by omega) (by simp; omega) (by rw [x3, x2, x1]; exact h5) h3 (fun I4 h4 x4 f4 => ?_)))
          exact k1 _ l I4 rfl h4 (by rw [x4, x3, x2, x1]) (FrE_t f1 (FrE_t f2 (FrE_t f3 f4)))
    refine zin (ne 8 (by decide) o8) ?_
    by_cases o40 : A 1 p = 40
    · have wd := wide (by omega)
      have hx1 := hx wd
      have fit := (c6 wd (by omega)).2.2 o40
      subst hx1
      have e : sho (A 1 p) = 40 := by rw [shc (by omega), o40]
      rw [e] at k1 k2
      refine zip (by rw [o40]; rfl) ?_
      obtain ⟨a4, a7⟩ := har _ fit
      have key : j_X10_effect_206 K (nI (ar (A 1 (p + 1)))) I P := by
        unfold j_X10_effect_206 w_X10_ints
        refine ⟨ar (A 1 (p + 1)) + 1, m_ints (by omega) (ar (A 1 (p + 1))) 0 s I (by omega) hs h5 h (fun s1 I' q1 q2 q3 q4 => ?_) (fun I' q1 q2 q3 => ?_)⟩
        · refine m_psh (t := 1) (Or.inl rfl) (gs_popI hs q1) (by rw [q3]; exact h5) q2 (fun z I2 r1 r2 r3 r4 => k1 z l I2 ?_ r2 (by rw [r3, q3]) (FrE_t q4 r4)) (fun I2 r1 r2 r3 => k2 I2 ?_ r2.2 (FrE_t q4 r3))
          · show ((popI (ar (A 1 (p + 1))) s).bind (pshT 1)).map _ = _
            rw [q1]; show (pshT 1 s1).map _ = _; rw [r1]; rfl
          · show ((popI (ar (A 1 (p + 1))) s).bind (pshT 1)).map _ = _
            rw [q1]; show (pshT 1 s1).map _ = _; rw [r1]; rfl
        · refine n_push (by decide) q2 (fun I2 r1 r2 => k2 I2 ?_ r1.2 (FrE_t q3 r2))
          show ((popI (ar (A 1 (p + 1))) s).bind (pshT 1)).map _ = _
          rw [q1]; rfl
      by_cases en : A 1 (p + 1) = m
      · refine zip (by rw [en]) ⟨vp_in_nI hm (by decide), ?_⟩
        rw [en] at a7 key
        rw [nI_clamp (by omega), a7]; exact key
      · refine zin (fun q => en ((nI_eq (by omega) (by omega)).mp q)) ⟨vp_in_nI (by omega) (by decide), ?_⟩
        rw [nI_clamp (by omega), a7]; exact key
    refine zin (ne 40 (by decide) o40) ?_
    have e0 : eff (sho (A 1 p)) (A 1 (p + 1)) ar s l = (effT (sho (A 1 p)) s).map (fun z => (z, l)) := by
      have q : ∀ v, v < 20 ∨ v = 40 → A 1 p ≠ v → sho (A 1 p) ≠ v := fun v hv hn => by
        unfold sho; split
        · omega
        · exact hn
      unfold eff
      rw [if_neg (q 3 (by omega) o3), if_neg (q 4 (by omega) o4), if_neg (q 5 (by omega) o5), if_neg (q 6 (by omega) o6), if_neg (q 7 (by omega) o7), if_neg (q 8 (by omega) o8), if_neg (q 40 (by omega) o40)]
    rw [e0] at k1 k2
    by_cases o36 : 36 ≤ A 1 p ∧ A 1 p ≤ 39
    · refine s_inNT (lo := 36) (hi := 39) (by omega) o36 (zin (by decide) ?_)
      rw [shc (by omega)] at k1 k2
      exact m_rows o36 hs h5 h (fun z I' q1 q2 q3 q4 => k1 z l I' (by rw [q1]; rfl) q2 q3 q4) (fun I' q1 q2 q3 => k2 I' (by rw [q1]; rfl) q2 q3)
    refine s_inNF (lo := 36) (hi := 39) (by omega) o36 (zip rfl (v_taken ?_))
    rw [tkI_r (A 1 p) hc256 c1 o36]
    have tl := tki_le (sho (A 1 p))
    have pR : ∀ z, popR (sho (A 1 p)) z = some z := fun z => by
      unfold popR
      rw [if_neg]
      unfold sho; split <;> omega
    have pT : pts (sho (A 1 p)) = if A 1 p = 1 ∨ A 1 p = 2 ∨ (9 ≤ A 1 p ∧ A 1 p ≤ 19) ∨ A 1 p = 34 then 1 else 0 := by
      unfold pts sho
      (repeat' split) <;> omega
    refine ⟨tki (sho (A 1 p)) + 1, m_ints (by omega) (tki (sho (A 1 p))) 0 s I (by omega) hs h5 h (fun s1 I' q1 q2 q3 q4 => ?_) (fun I' q1 q2 q3 => ?_)⟩
    · have eE : effT (sho (A 1 p)) s = if pts (sho (A 1 p)) = 0 then some s1 else pshT (pts (sho (A 1 p))) s1 := by
        unfold effT; rw [q1]
        show (popR (sho (A 1 p)) s1).bind _ = _
        rw [pR]; rfl
      rw [eE, pT] at k1 k2
      have pu : (A 1 p = 1 ∨ A 1 p = 2 ∨ (9 ≤ A 1 p ∧ A 1 p ≤ 19) ∨ A 1 p = 34) → j_X10_effect_271 K I' P := fun hq => by
        rw [if_pos hq] at k1 k2
        unfold j_X10_effect_271
        refine m_psh (t := 1) (Or.inl rfl) (gs_popI hs q1) (by rw [q3]; exact h5) q2 (fun z I2 r1 r2 r3 r4 => k1 z l I2 ?_ r2 (by rw [r3, q3]) (FrE_t q4 r4)) (fun I2 r1 r2 r3 => k2 I2 ?_ r2.2 (FrE_t q4 r3))
        · rw [if_neg (by decide), r1]; rfl
        · rw [if_neg (by decide), r1]; rfl
      by_cases p1 : A 1 p = 1
      · exact zip (by rw [p1]; rfl) (pu (Or.inl p1))
      refine zin (ne 1 (by decide) p1) ?_
      by_cases p2 : A 1 p = 2
      · exact zip (by rw [p2]; rfl) (pu (Or.inr (Or.inl p2)))
      refine zin (ne 2 (by decide) p2) ?_
      by_cases p9 : 9 ≤ A 1 p ∧ A 1 p ≤ 19
      · exact s_inNT (lo := 9) (hi := 19) (by omega) p9 (zin (by decide) (pu (Or.inr (Or.inr (Or.inl p9)))))
      refine s_inNF (lo := 9) (hi := 19) (by omega) p9 (zip rfl ?_)
      by_cases p34 : A 1 p = 34
      · exact zip (by rw [p34]; rfl) (pu (Or.inr (Or.inr (Or.inr p34))))
      refine zin (ne 34 (by decide) p34) ?_
      have hnq : ¬ (A 1 p = 1 ∨ A 1 p = 2 ∨ (9 ≤ A 1 p ∧ A 1 p ≤ 19) ∨ A 1 p = 34) := by omega
      rw [if_neg hnq, if_pos rfl] at k1
      exact k1 s1 l I' rfl q2 q3 q4
    · have eE : effT (sho (A 1 p)) s = none := by unfold effT; rw [q1]; rfl
      rw [eE] at k2
      have pu : j_X10_effect_271 K I' P := by
        unfold j_X10_effect_271
        exact n_push (by decide) q2 (fun I2 r1 r2 => k2 I2 rfl r1.2 (FrE_t q3 r2))
      split
      · exact pu
      split
      · exact pu
      rw [s_in]
      by_cases g9 : (9 : Int32) ≤ nI (A 1 p) ∧ nI (A 1 p) ≤ 19
      · rw [if_pos g9]; exact zin (by decide) pu
      · rw [if_neg g9]
        refine zip rfl ?_
        split
        · exact pu
        · exact k2 I' rfl q2.2 q3
  by_cases hw : A 2 p ≤ 1
  · refine zip (nI_le (b := 1) hw (by decide)) ?_
    have := main p (Nat.le_refl _) (fun q => absurd q (by omega)) hp
    rw [Nat.sub_self] at this
    exact this
  · refine zin (nI_ge (a := 1) (by omega) (by omega)) ?_
    have := main (p + 1) (by omega) (fun _ => rfl) (by omega)
    rw [Nat.add_sub_cancel_left] at this
    exact this
