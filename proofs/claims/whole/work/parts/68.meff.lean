/-! PURE 29: the reference's TYPES: the OPs -/
def CurM (s : List Nat) (l : Nat → Nat) (I : zI) : Prop := I 155 37 = nI s.length ∧ (∀ k, k < 12 → I 187 k = nI (l k)) ∧ (∀ k, k < s.length → I 188 k = nI (bot s k))
def FrE (I I' : zI) : Prop := ∀ c j, ¬ (c = 155 ∧ (j = 37 ∨ j = 38)) → c ≠ 187 → c ≠ 188 → I' c j = I c j
theorem FrE_r (I : zI) : FrE I I := fun _ _ _ _ _ => rfl
theorem FrE_t {I J L : zI} (h : FrE I J) (g : FrE J L) : FrE I L := fun c j q1 q2 q3 => by rw [g c j q1 q2 q3, h c j q1 q2 q3]
theorem FrE_u {I : zI} {c j : Nat} {x : Int32} (h : (c = 155 ∧ (j = 37 ∨ j = 38)) ∨ c = 187 ∨ c = 188) : FrE I (zu I c j x) := fun a i q1 q2 q3 => zu_ne (by omega)
theorem Cur_f {s : List Nat} {l : Nat → Nat} {I : zI} {x : Int32} (h : CurM s l I) : CurM s l (zu I 155 38 x) := ⟨by rw [zu_nj (by decide)]; exact h.1, fun k hk => by rw [zu_nc (by decide)]; exact h.2.1 k hk, fun k hk => by rw [zu_nc (by decide)]; exact h.2.2 k hk⟩
theorem m_pull {t : Nat} {r : List Nat} {l : Nat → Nat} {I : zI} {P : zP} {K : Int32 → zI → zP → Prop} (hl : r.length < 16) (h : CurM (t :: r) l I) (k : ∀ I', CurM r l I' → I' 155 38 = I 155 38 → FrE I I' → K (nI t) I' P) : w_X10_pull I P K := by
  obtain ⟨h1, h2, h3⟩ := h
  unfold w_X10_pull
  have e0 : bot (t :: r) r.length = t := by rw [bot, if_pos rfl]
  have h4 := h3 r.length (by simp)
  rw [e0] at h4
  rw [h1, List.length_cons, nI_pred, nI_clamp (by omega), zu_nc (by decide), h4]
  refine zin (nI_ne0 (by omega) (by omega)) ⟨vp_in_nI hl (by decide), k _ ⟨zu_same, fun j hj => by rw [zu_nc (by decide)]; exact h2 j hj, fun j hj => ?_⟩ (zu_nj (by decide)) (FrE_u (by omega))⟩
  rw [zu_nc (by decide), h3 j (by simp; omega), bot, if_neg (by omega)]
theorem m_pullE {l : Nat → Nat} {I : zI} {P : zP} {K : Int32 → zI → zP → Prop} (h : CurM [] l I) (k : K 0 (zu I 155 38 0) P) : w_X10_pull I P K := by
  unfold w_X10_pull
  exact zip (by rw [h.1]; rfl) k
/-- anything, but not typed -/
def AnyM (n : Nat) (I : zI) : Prop := (∃ h, h ≤ n ∧ I 155 37 = nI h) ∧ I 155 38 = 0
theorem n_pull {n : Nat} {I : zI} {P : zP} {K : Int32 → zI → zP → Prop} (hn : n ≤ 15) (h : AnyM n I) (k : ∀ v I', AnyM n I' → FrE I I' → K v I' P) : w_X10_pull I P K := by
  obtain ⟨⟨a, ha, h1⟩, h2⟩ := h
  unfold w_X10_pull
  rw [h1]
  by_cases e : a = 0
  · subst e
    exact zip rfl (k _ _ ⟨⟨0, by omega, by rw [zu_nj (by decide)]; exact h1⟩, zu_same⟩ (FrE_u (by omega)))
  · obtain ⟨b, rfl⟩ : ∃ b, a = b + 1 := ⟨a - 1, by omega⟩
    rw [nI_pred]
    exact zin (nI_ne0 (by omega) (by omega)) ⟨vp_in_nI (by omega) (by decide), k _ _ ⟨⟨b, by omega, zu_same⟩, by rw [zu_nj (by decide)]; exact h2⟩ (FrE_u (by omega))⟩
theorem n_push {n : Nat} {x : Int32} {I : zI} {P : zP} {K : zI → zP → Prop} (hn : n ≤ 14) (h : AnyM n I) (k : ∀ I', AnyM (n + 1) I' → FrE I I' → K I' P) : w_X10_push x I P K := by
  obtain ⟨⟨a, ha, h1⟩, h2⟩ := h
  unfold w_X10_push j_X10_push_25 j_X10_push_26
  rw [h1, nI_clamp (by omega)]
  refine zip h2 ⟨zbo0, vp_in_nI (by omega) (by decide), k _ ⟨⟨a + 1, by omega, ?_⟩, ?_⟩ (FrE_t (FrE_u (by omega)) (FrE_t (FrE_u (by omega)) (FrE_u (by omega))))⟩
  · rw [zu_same, zu_nc (by decide), zu_nj (by decide), h1, nI_1]
  · rw [zu_nj (by decide), zu_nc (by decide), zu_same]
theorem m_push {t : Nat} {s : List Nat} {l : Nat → Nat} {I : zI} {P : zP} {K : zI → zP → Prop} (ht : t ≠ 0) (ht4 : t < 4) (hl : s.length < 10) (h5 : zbo (I 155 38)) (h : CurM s l I) (k : ∀ I', CurM (t :: s) l I' → I' 155 38 = I 155 38 → FrE I I' → K I' P) : w_X10_push (nI t) I P K := by
  obtain ⟨h1, h2, h3⟩ := h
  have key : ∀ w : Int32, I 155 38 = w → zbo w → j_X10_push_26 K (nI t) w I P := fun w hw hz => by
    unfold j_X10_push_26
    rw [h1, nI_clamp (by omega)]
    refine ⟨hz, vp_in_nI (by omega) (by decide), k _ ⟨?_, fun j hj => ?_, fun j hj => ?_⟩ ?_ (FrE_t (FrE_u (by omega)) (FrE_t (FrE_u (by omega)) (FrE_u (by omega))))⟩
    · rw [zu_same, zu_nc (by decide), zu_nj (by decide), h1, nI_1, List.length_cons]
    · rw [zu_nc (by decide), zu_nc (by decide), zu_nc (by decide)]; exact h2 j hj
    · rw [zu_nc (by decide), bot]
      rw [List.length_cons] at hj
      by_cases e : j = s.length
      · rw [if_pos e, e, zu_same]
      · rw [if_neg e, zu_nj e, zu_nc (by decide)]; exact h3 j (by omega)
    · rw [zu_nj (by decide), zu_nc (by decide), zu_same, hw]
  unfold w_X10_push j_X10_push_25
  by_cases e : I 155 38 = 0
  · exact zip e (key 0 e zbo0)
  · refine zin e (zin (by rw [h1]; exact nI_ge (b := 10) hl (by decide)) (zin (fun q => ht ((nI_eq (b := 0) (by omega) (by decide)).mp q)) (key 1 (h5.resolve_left e) zbo1)))
theorem m_pushF {x : Int32} {s : List Nat} {l : Nat → Nat} {I : zI} {P : zP} {K : zI → zP → Prop} (hl : s.length = 10 ∨ x = 0) (h10 : s.length ≤ 10) (h : CurM s l I) (k : ∀ I', AnyM 11 I' → FrE I I' → K I' P) : w_X10_push x I P K := by
  obtain ⟨h1, h2, h3⟩ := h
  have key : j_X10_push_26 K x 0 I P := by
    unfold j_X10_push_26
    rw [h1, nI_clamp (by omega)]
    refine ⟨zbo0, vp_in_nI (by omega) (by decide), k _ ⟨⟨s.length + 1, by omega, ?_⟩, ?_⟩ (FrE_t (FrE_u (by omega)) (FrE_t (FrE_u (by omega)) (FrE_u (by omega))))⟩
    · rw [zu_same, zu_nc (by decide), zu_nj (by decide), h1, nI_1]
    · rw [zu_nj (by decide), zu_nc (by decide), zu_same]
  unfold w_X10_push j_X10_push_25
  by_cases e : I 155 38 = 0
  · exact zip e key
  refine zin e ?_
  by_cases e2 : s.length = 10
  · exact zip (by rw [h1]; exact nI_le (a := 10) (by omega) (by omega)) key
  · refine zin (by rw [h1]; exact nI_ge (b := 10) (by omega) (by decide)) (zip (hl.resolve_left e2) key)
theorem n_ints {n b : Nat} {P : zP} {K : zI → zP → Prop} (hn : n < 2 ^ 31) (hb : b ≤ 15) : ∀ d i I, i + d = n → AnyM b I → (∀ I', AnyM b I' → FrE I I' → K I' P) → l_X10_ints_2 K (d + 1) (nI n) (nI i) I P := by
  intro d
  induction d with
  | zero =>
    intro i I hi h k
    obtain rfl : i = n := by omega
    rw [l_X10_ints_2]
    exact zip (nI_le (Nat.le_refl _) hn) (k I h (FrE_r I))
  | succ d ih =>
    intro i I hi h k
    rw [l_X10_ints_2]
    refine zin (nI_ge (by omega) hn) (n_pull hb h (fun v I1 h1 f1 => ?_))
    have nx : l_X10_ints_2 K (d + 1) (nI n) (nI i + 1) (zu I1 155 38 0) P := by
      rw [nI_1]
      refine ih (i + 1) _ (by omega) ⟨?_, zu_same⟩ (fun I2 h2 f2 => k I2 h2 (FrE_t f1 (FrE_t (FrE_u (by omega)) f2)))
      obtain ⟨a, ha, e⟩ := h1.1
      exact ⟨a, ha, by rw [zu_nj (by decide)]; exact e⟩
    unfold j_X10_ints_27
    split
    · exact zip h1.2 nx
    · exact nx
theorem m_ints {n : Nat} {l : Nat → Nat} {P : zP} {K : zI → zP → Prop} (hn : n < 2 ^ 31) : ∀ d i s I, i + d = n → gs s → zbo (I 155 38) → CurM s l I → (∀ s1 I', popI d s = some s1 → CurM s1 l I' → I' 155 38 = I 155 38 → FrE I I' → K I' P) → (∀ I', popI d s = none → AnyM 10 I' → FrE I I' → K I' P) → l_X10_ints_2 K (d + 1) (nI n) (nI i) I P := by
  intro d
  induction d with
  | zero =>
    intro i s I hi hs h5 h k1 k2
    obtain rfl : i = n := by omega
    rw [l_X10_ints_2]
    exact zip (nI_le (Nat.le_refl _) hn) (k1 s I rfl h rfl (FrE_r I))
  | succ d ih =>
    intro i s I hi hs h5 h k1 k2
    rw [l_X10_ints_2]
    refine zin (nI_ge (by omega) hn) ?_
    unfold j_X10_ints_27
    cases s with
    | nil =>
      refine m_pullE h (zin (by decide) ?_)
      rw [nI_1]
      refine n_ints hn (b := 10) (by decide) d (i + 1) _ (by omega) ⟨⟨0, by omega, ?_⟩, zu_same⟩ (fun I2 h2 f2 => k2 I2 rfl h2 (FrE_t (FrE_u (by omega)) (FrE_t (FrE_u (by omega)) f2)))
      rw [zu_nj (by decide), zu_nj (by decide)]; exact h.1
    | cons t r =>
      have hl : r.length + 1 ≤ 10 := by have := hs.1; simpa using this
      have t4 : t < 4 := gs4 hs t List.mem_cons_self
      refine m_pull (by omega) h (fun I1 h1 e1 f1 => ?_)
      rw [nI_1]
      by_cases t1 : t = 1
      · subst t1
        refine zip rfl ?_
        rw [e1]
        have go : ∀ w : Int32, I 155 38 = w → zbo w → l_X10_ints_2 K (d + 1) (nI n) (nI (i + 1)) (zu I1 155 38 w) P := fun w hw hz => by
          refine ih (i + 1) r _ (by omega) (gs_tl hs) (by rw [zu_same]; exact hz) (Cur_f h1) (fun s1 I' q1 q2 q3 q4 => ?_) (fun I' q1 q2 q3 => ?_)
          · rw [zu_same] at q3
            exact k1 s1 I' (by rw [popI, if_pos rfl]; exact q1) q2 (by rw [q3, hw]) (FrE_t f1 (FrE_t (FrE_u (by omega)) q4))
          · exact k2 I' (by rw [popI, if_pos rfl]; exact q1) q2 (FrE_t f1 (FrE_t (FrE_u (by omega)) q3))
        by_cases e : I 155 38 = 0
        · exact zip e (go 0 e zbo0)
        · exact zin e (go 1 (h5.resolve_left e) zbo1)
      · refine zin (fun e => t1 ((nI_eq (b := 1) (by omega) (by decide)).mp e)) ?_
        refine n_ints hn (b := 10) (by decide) d (i + 1) _ (by omega) ⟨⟨r.length, by omega, ?_⟩, zu_same⟩ (fun I2 h2 f2 => k2 I2 (by rw [popI, if_neg t1]) h2 (FrE_t f1 (FrE_t (FrE_u (by omega)) f2)))
        rw [zu_nj (by decide)]; exact h1.1
def tkI (x : Int32) : Int32 := if 9 ≤ x ∧ x ≤ 18 then 2 else if 27 ≤ x ∧ x ≤ 32 then 2 else if 91 ≤ x ∧ x ≤ 96 then 2 else if x = 19 then 1 else if 21 ≤ x ∧ x ≤ 26 then 1 else if 85 ≤ x ∧ x ≤ 90 then 1 else if x = 33 then 1 else if x = 35 then 1 else if 41 ≤ x ∧ x ≤ 43 then 1 else 0
theorem tkI_r : ∀ c, c < 256 → isOpn c → ¬ (36 ≤ c ∧ c ≤ 39) → tkI (nI c) = nI (tki (sho c)) := by unfold isOpn; decide +kernel
theorem v_taken {x : Int32} {I : zI} {P : zP} {K : Int32 → zI → zP → Prop} (k : K (tkI x) I P) : w_X10_taken x I P K := by
  unfold tkI at k
  unfold w_X10_taken j_X10_taken_91
  rw [s_in]
  by_cases g1 : (9 : Int32) ≤ x ∧ x ≤ 18
  · rw [if_pos g1] at k ⊢; exact zin (by decide) k
  rw [if_neg g1] at k ⊢
  refine zip rfl ?_
  rw [s_in]
  by_cases g2 : (27 : Int32) ≤ x ∧ x ≤ 32
  · rw [if_pos g2] at k ⊢; exact zin (by decide) k
  rw [if_neg g2] at k ⊢
  refine zip rfl ?_
  rw [s_in]
  by_cases g3 : (91 : Int32) ≤ x ∧ x ≤ 96
  · rw [if_pos g3] at k ⊢; exact zin (by decide) k
  rw [if_neg g3] at k ⊢
  refine zip rfl ?_
  by_cases g4 : x = 19
  · rw [if_pos g4] at k; exact zip g4 (zin (by decide) k)
  rw [if_neg g4] at k
  refine zin g4 ?_
  rw [s_in]
  by_cases g5 : (21 : Int32) ≤ x ∧ x ≤ 26
  · rw [if_pos g5] at k ⊢; exact zin (by decide) (zin (by decide) k)
  rw [if_neg g5] at k ⊢
  refine zip rfl ?_
  rw [s_in]
  by_cases g6 : (85 : Int32) ≤ x ∧ x ≤ 90
  · rw [if_pos g6] at k ⊢; exact zin (by decide) (zin (by decide) k)
  rw [if_neg g6] at k ⊢
  refine zip rfl ?_
  by_cases g7 : x = 33
  · rw [if_pos g7] at k; exact zip g7 (zin (by decide) k)
  rw [if_neg g7] at k
  refine zin g7 ?_
  by_cases g8 : x = 35
  · rw [if_pos g8] at k; exact zip g8 (zin (by decide) k)
  rw [if_neg g8] at k
  refine zin g8 ?_
  rw [s_in]
  by_cases g9 : (41 : Int32) ≤ x ∧ x ≤ 43
  · rw [if_pos g9] at k ⊢; exact zin (by decide) (zin (by decide) k)
  rw [if_neg g9] at k ⊢
  exact zip rfl (zip rfl k)
