/-! PURE 63: RUN: an INSTRUCTION on both sides, by its TYPES -/
def vok (n2 : Nat) : Va → Prop
  | Sum.inl _ => True
  | Sum.inr r => r < n2
def TyS (n2 : Nat) (s : List Va) (t : List Nat) : Prop := s.map tg = t ∧ ∀ v, v ∈ s → vok n2 v
def TyL (n2 : Nat) (l : Nat → Va) (t : Nat → Nat) : Prop := ∀ i, i < 12 → (t i = 1 ∨ t i = 2 → tg (l i) = t i ∧ vok n2 (l i))
theorem vok_m {a b : Nat} (h : a ≤ b) {v : Va} (q : vok a v) : vok b v := by
  cases v with
  | inl x => trivial
  | inr r => exact Nat.lt_of_lt_of_le q h
theorem TyS_m {a b : Nat} (h : a ≤ b) {s : List Va} {t : List Nat} (q : TyS a s t) : TyS b s t := ⟨q.1, fun v hv => vok_m h (q.2 v hv)⟩
theorem TyL_m {a b : Nat} (h : a ≤ b) {l : Nat → Va} {t : Nat → Nat} (q : TyL a l t) : TyL b l t := fun i hi g => ⟨(q i hi g).1, vok_m h (q i hi g).2⟩
theorem TyL_b {a : Nat} {l : Nat → Va} {t t' : Nat → Nat} (q : TyL a l t) (h : ble t' t) : TyL a l t' := fun i hi g => by
  rcases h i hi with e | e
  · rw [e] at g ⊢; exact q i hi g
  · omega
theorem TyS_len {a : Nat} {s : List Va} {t : List Nat} (q : TyS a s t) : s.length = t.length := by rw [← q.1, List.length_map]
theorem TyS_nil {a : Nat} {s : List Va} (q : TyS a s []) : s = [] := by
  have := TyS_len q
  exact List.eq_nil_of_length_eq_zero this
theorem TyS_cons {a u : Nat} {s : List Va} {t : List Nat} (q : TyS a s (u :: t)) : ∃ v r, s = v :: r ∧ tg v = u ∧ vok a v ∧ TyS a r t := by
  cases s with
  | nil => have := q.1; simp at this
  | cons v r =>
    have e := q.1
    rw [List.map_cons] at e
    injection e with e1 e2
    exact ⟨v, r, rfl, e1, q.2 v List.mem_cons_self, e2, fun w hw => q.2 w (List.mem_cons_of_mem _ hw)⟩
theorem TyS_psh {a u : Nat} {s : List Va} {t : List Nat} {v : Va} (q : TyS a s t) (h : tg v = u) (o : vok a v) : TyS a (v :: s) (u :: t) := ⟨by rw [List.map_cons, h, q.1], fun w hw => by
  rcases List.mem_cons.mp hw with e | e
  · rw [e]; exact o
  · exact q.2 w e⟩
theorem tg1 {v : Va} (h : tg v = 1) : ∃ x, v = Sum.inl x := by
  cases v with
  | inl x => exact ⟨x, rfl⟩
  | inr r => exact absurd (show (2 : Nat) = 1 from h) (by decide)
theorem tg2 {a : Nat} {v : Va} (h : tg v = 2) (o : vok a v) : ∃ r, v = Sum.inr r ∧ r < a := by
  cases v with
  | inl x => exact absurd (show (1 : Nat) = 2 from h) (by decide)
  | inr r => exact ⟨r, rfl, o⟩
theorem TyS_i {a : Nat} {s : List Va} {t : List Nat} (q : TyS a s (1 :: t)) : ∃ x r, s = Sum.inl x :: r ∧ TyS a r t := by
  obtain ⟨v, r, e, h1, h2, h3⟩ := TyS_cons q
  obtain ⟨x, rfl⟩ := tg1 h1
  exact ⟨x, r, e, h3⟩
theorem TyS_r {a : Nat} {s : List Va} {t : List Nat} (q : TyS a s (2 :: t)) : ∃ w r, s = Sum.inr w :: r ∧ w < a ∧ TyS a r t := by
  obtain ⟨v, r, e, h1, h2, h3⟩ := TyS_cons q
  obtain ⟨w, rfl, hw⟩ := tg2 h1 h2
  exact ⟨w, r, e, hw, h3⟩
/-- the loom's core of an INSTRUCTION -/
def coL (f c : Nat) (I : zI) (P : zP) (K : zI → zP → Prop) : Prop := if c ≤ 8 then w_X2_doMove (119 + 3 * f) (nI c) I P K else if c ≤ 19 then w_X2_doSum (119 + 3 * f) (nI c) I P K else if c = 41 then w_X0_pop (119 + 3 * f) I P (fun v9 I9 P9 => if v9 < 1 then w_X2_throwAt (119 + 3 * f) 100 I9 P9 K else if 99 < v9 then w_X2_throwAt (119 + 3 * f) 100 I9 P9 K else w_X2_throwAt (119 + 3 * f) v9 I9 P9 K) else w_X2_doMemory (119 + 3 * f) (nI c) I P K
/-- its outcome on both sides: a new state of the frame, or a throw -/
def ExO (I0 : zI) (I1 : zI → Prop) (k lim : Nat) (wv ln : nuN) (cb : Nat → Nat → Nat) (m p c : Nat) (s : List Va) (l : Nat → Va) (fs : List Frm) (n : nuN) (z : nuZ) (s' : List Va) (l' : Nat → Va) (n' : nuN) (z' : nuZ) : Prop :=
  (∀ I P K, SL I0 k lim wv ((m, p, s, l) :: fs) n z I P → (∀ J, SL I0 k lim wv ((m, p, s', l') :: fs) n' z' J P → sL k I J → K J P) → coL fs.length c I P K) ∧
  (∀ Gb, I1 Gb → ∀ I P K, SM Gb k lim ((m, p, s, l) :: fs) n z I → I 155 65 = 0 → (∀ J, SM Gb k lim ((m, p, s', l') :: fs) n' z' J → sM I J → K J P) → w_X10_plain (nI m) (nI p) (nI c) I P K)
def ExT (I0 : zI) (I1 : zI → Prop) (k lim : Nat) (wv ln : nuN) (cb : Nat → Nat → Nat) (m p c : Nat) (s : List Va) (l : Nat → Va) (fs : List Frm) (n : nuN) (z : nuZ) (kd : Nat) : Prop :=
  1 ≤ kd ∧ kd ≤ 105 ∧
  (∀ I P K, SL I0 k lim wv ((m, p, s, l) :: fs) n z I P → (∀ J s', SL I0 k lim wv ((m, p, s', l) :: fs) n z J P → tL k m (nI kd) I J → K J P) → coL fs.length c I P K) ∧
  (∀ Gb, I1 Gb → ∀ I P K, SM Gb k lim ((m, p, s, l) :: fs) n z I → I 155 65 = 0 → (∀ J s', SM Gb k lim ((m, p, s', l) :: fs) n z J → tM (nI kd) I J → K J P) → w_X10_plain (nI m) (nI p) (nI c) I P K)
def ExR (I0 : zI) (I1 : zI → Prop) (k lim : Nat) (wv ln : nuN) (cb : Nat → Nat → Nat) (m p c : Nat) (s : List Va) (l : Nat → Va) (fs : List Frm) (n : nuN) (z : nuZ) (s2 : List Nat) (l2 : Nat → Nat) : Prop :=
  (∃ s' l' n' z', ExO I0 I1 k lim wv ln cb m p c s l fs n z s' l' n' z' ∧ TyS (n' 2) s' s2 ∧ TyL (n' 2) l' l2 ∧ n 2 ≤ n' 2 ∧ n' 2 ≤ 30 ∧ c ≠ 41 ∧ (∀ i, 50 ≤ i → n' i = n i) ∧ n' 0 = n 0 ∧ n' 1 = n 1 ∧ n' 4 = n 4 ∧ (∀ r, r < n' 2 → n' (10 + r) ≤ 50) ∧ (c = 35 ∨ c = 39 → n' = n) ∧ (c = 39 → ∃ y i r t, s = y :: Sum.inl (nI i) :: Sum.inr r :: t ∧ r < n 2 ∧ i < n (10 + r))) ∨ (∃ kd, ExT I0 I1 k lim wv ln cb m p c s l fs n z kd)
theorem pop1 {s r : List Nat} (h : popI 1 s = some r) : s = 1 :: r := by
  cases s with
  | nil => exact absurd h (by simp [popI])
  | cons t q =>
    rw [popI] at h
    by_cases e : t = 1
    · rw [if_pos e, popI] at h
      injection h with h; rw [e, h]
    · rw [if_neg e] at h; exact absurd h (by simp)
theorem pop2 {s r : List Nat} (h : popI 2 s = some r) : s = 1 :: 1 :: r := by
  cases s with
  | nil => exact absurd h (by simp [popI])
  | cons t q =>
    rw [popI] at h
    by_cases e : t = 1
    · rw [if_pos e] at h
      rw [e, pop1 h]
    · rw [if_neg e] at h; exact absurd h (by simp)
theorem popr {c : Nat} {s r : List Nat} (hc : c = 37 ∨ c = 38 ∨ c = 39) (h : popR c s = some r) : s = 2 :: r := by
  unfold popR at h
  rw [if_pos hc] at h
  cases s with
  | nil => exact absurd h (by simp)
  | cons t q =>
    simp only at h
    by_cases e : t = 2
    · rw [if_pos e] at h
      injection h with h; rw [e, h]
    · rw [if_neg e] at h; exact absurd h (by simp)
theorem psh_o {t : Nat} {s r : List Nat} (h : pshT t s = some r) : s.length < 10 ∧ r = t :: s := by
  unfold pshT at h
  by_cases e : s.length < 10
  · rw [if_pos e] at h
    injection h with h; exact ⟨e, h.symm⟩
  · rw [if_neg e] at h; exact absurd h (by simp)
theorem bind_o {α β : Type} {o : Option α} {f : α → Option β} {b : β} (h : o.bind f = some b) : ∃ a, o = some a ∧ f a = some b := by
  cases o with
  | none => exact absurd h (by simp)
  | some a => exact ⟨a, rfl, h⟩
theorem ex_op {I0 : zI} {I1 : zI → Prop} {k lim m p c : Nat} {wv n ln : nuN} {cb : Nat → Nat → Nat} {z : nuZ} {s : List Va} {l : Nat → Va} {fs : List Frm} {ar : Nat → Nat} {sT s2 : List Nat} {lT l2 : Nat → Nat} (hL : CdL I0 wv cb ln m) (hM : ∀ Gb, I1 Gb → CdM Gb k wv cb ln m) (hn : I0 (20 + 12 * m) 0 = nI m) (hc : c < 44) (hx : ¬ (20 ≤ c ∧ c ≤ 33) ∧ c ≠ 40 ∧ c ≠ 42) (hp : p + fxz c ≤ ln m) (hfit : (c = 3 ∨ c = 4 ∨ c = 5 → cb m (p + 1) < 12) ∧ (c = 34 ∨ c = 35 → cb m (p + 1) < 8)) (hS : TyS (n 2) s sT) (hLc : TyL (n 2) l lT) (hg : gs sT) (hlT : ∀ i, lT i < 3) (n30 : n 2 ≤ 30) (h50 : ∀ r, r < n 2 → n (10 + r) ≤ 50) (he : eff c (cb m (p + 1)) ar sT lT = some (s2, l2)) : ExR I0 I1 k lim wv ln cb m p c s l fs n z s2 l2 := by
  have hlen := TyS_len hS
  have keep : ∀ s' l', ExO I0 I1 k lim wv ln cb m p c s l fs n z s' l' n z → TyS (n 2) s' s2 → TyL (n 2) l' l2 → c ≠ 41 ∧ c ≠ 39 → ExR I0 I1 k lim wv ln cb m p c s l fs n z s2 l2 := fun s' l' a b d e => Or.inl ⟨s', l', n, z, a, b, d, Nat.le_refl _, n30, e.1, fun _ _ => rfl, rfl, rfl, rfl, h50, fun _ => rfl, fun q => absurd q e.2⟩
  have mv8 : ∀ s' l', c ≤ 8 → p < ln m → ((c = 0 ∧ s' = s ∧ l' = l) ∨ (c = 1 ∧ p + 1 < ln m ∧ s.length < 10 ∧ s' = Sum.inl (sb8 (cb m (p + 1))) :: s ∧ l' = l) ∨ (c = 2 ∧ p + 4 < ln m ∧ s.length < 10 ∧ s' = Sum.inl (wrd (cb m (p + 1)) (cb m (p + 2)) (cb m (p + 3)) (cb m (p + 4))) :: s ∧ l' = l) ∨ (c = 3 ∧ p + 1 < ln m ∧ cb m (p + 1) < 12 ∧ s.length < 10 ∧ s' = l (cb m (p + 1)) :: s ∧ l' = l) ∨ (c = 4 ∧ p + 1 < ln m ∧ cb m (p + 1) < 12 ∧ ∃ v, s = v :: s' ∧ l' = upl l (cb m (p + 1)) v) ∨ (c = 5 ∧ p + 2 < ln m ∧ cb m (p + 1) < 12 ∧ s' = s ∧ ∃ x, l (cb m (p + 1)) = Sum.inl x ∧ l' = upl l (cb m (p + 1)) (Sum.inl (x + sb8 (cb m (p + 2))))) ∨ (c = 6 ∧ s.length < 10 ∧ l' = l ∧ ∃ v r, s = v :: r ∧ s' = v :: v :: r) ∨ (c = 7 ∧ l' = l ∧ ∃ v, s = v :: s') ∨ (c = 8 ∧ l' = l ∧ ∃ v w r, s = v :: w :: r ∧ s' = w :: v :: r)) → ExO I0 I1 k lim wv ln cb m p c s l fs n z s' l' n z := fun s' l' h8 hpl ho =>
    ⟨fun I P K h kk => by unfold coL; rw [if_pos h8]; exact Lo_move h hL ho kk, fun Gb hGb I P K h _ kk => Mo_move h (hM Gb hGb) hpl ho kk⟩
  unfold eff at he
  by_cases c3 : c = 3
  · subst c3
    rw [if_pos rfl] at he
    by_cases e0 : lT (cb m (p + 1)) = 0
    · rw [if_pos e0] at he; exact absurd he (by simp)
    rw [if_neg e0] at he
    unfold pshT at he
    by_cases e1 : sT.length < 10
    · rw [if_pos e1] at he
      simp only [Option.map_some, Option.some.injEq, Prod.mk.injEq] at he
      obtain ⟨rfl, rfl⟩ := he
      have hf := hfit.1 (Or.inl rfl)
      have f2 : fxz 3 = 2 := rfl
      have ty := hLc _ hf (by have := hlT (cb m (p + 1)); omega)
      exact keep _ l (mv8 _ _ (by decide) (by omega) (Or.inr (Or.inr (Or.inr (Or.inl ⟨rfl, by omega, hf, by omega, rfl, rfl⟩))))) (TyS_psh hS ty.1 ty.2) hLc (by decide)
    · rw [if_neg e1] at he; exact absurd he (by simp)
  rw [if_neg c3] at he
  by_cases c4 : c = 4
  · subst c4
    rw [if_pos rfl] at he
    have f2 : fxz 4 = 2 := rfl
    have hf := hfit.1 (Or.inr (Or.inl rfl))
    cases sT with
    | nil => exact absurd he (by simp)
    | cons t r =>
      simp only [Option.some.injEq, Prod.mk.injEq] at he
      obtain ⟨rfl, rfl⟩ := he
      obtain ⟨v, rs, rfl, tv, ov, hr⟩ := TyS_cons hS
      refine keep rs _ (mv8 _ _ (by decide) (by omega) (Or.inr (Or.inr (Or.inr (Or.inr (Or.inl ⟨rfl, by omega, hf, v, rfl, rfl⟩)))))) hr (fun i hi g => ?_) (by decide)
      unfold upN at g ⊢
      by_cases e : i = cb m (p + 1)
      · rw [if_pos e] at g ⊢; rw [e, upl_s]; exact ⟨tv, ov⟩
      · rw [if_neg e] at g ⊢; rw [upl_n e]; exact hLc i hi g
  rw [if_neg c4] at he
  by_cases c5 : c = 5
  · subst c5
    rw [if_pos rfl] at he
    have f2 : fxz 5 = 3 := rfl
    have hf := hfit.1 (Or.inr (Or.inr rfl))
    by_cases e1 : lT (cb m (p + 1)) = 1
    · rw [if_pos e1] at he
      simp only [Option.some.injEq, Prod.mk.injEq] at he
      obtain ⟨rfl, rfl⟩ := he
      obtain ⟨x, ex⟩ := tg1 ((hLc _ hf (Or.inl e1)).1.trans e1)
      refine keep s _ (mv8 _ _ (by decide) (by omega) (Or.inr (Or.inr (Or.inr (Or.inr (Or.inr (Or.inl ⟨rfl, by omega, hf, rfl, x, ex, rfl⟩))))))) hS (fun i hi g => ?_) (by decide)
      by_cases e : i = cb m (p + 1)
      · rw [e, upl_s, e1]; exact ⟨rfl, trivial⟩
      · rw [upl_n e]; exact hLc i hi g
    · rw [if_neg e1] at he; exact absurd he (by simp)
  rw [if_neg c5] at he
  by_cases c6 : c = 6
  · subst c6
    rw [if_pos rfl] at he
    have f2 : fxz 6 = 1 := rfl
    cases sT with
    | nil => exact absurd he (by simp)
    | cons t r =>
      simp only [pshT] at he
      by_cases e1 : (t :: r).length < 10
      · rw [if_pos e1] at he
        simp only [Option.map_some, Option.some.injEq, Prod.mk.injEq] at he
        obtain ⟨rfl, rfl⟩ := he
        obtain ⟨v, rs, rfl, tv, ov, hr⟩ := TyS_cons hS
        exact keep _ l (mv8 _ _ (by decide) (by omega) (Or.inr (Or.inr (Or.inr (Or.inr (Or.inr (Or.inr (Or.inl ⟨rfl, by omega, rfl, v, rs, rfl, rfl⟩)))))))) (TyS_psh hS tv ov) hLc (by decide)
      · rw [if_neg e1] at he; exact absurd he (by simp)
  rw [if_neg c6] at he
  by_cases c7 : c = 7
  · subst c7
    rw [if_pos rfl] at he
    have f2 : fxz 7 = 1 := rfl
    cases sT with
    | nil => exact absurd he (by simp)
    | cons t r =>
      simp only [Option.some.injEq, Prod.mk.injEq] at he
      obtain ⟨rfl, rfl⟩ := he
      obtain ⟨v, rs, rfl, tv, ov, hr⟩ := TyS_cons hS
      exact keep rs l (mv8 _ _ (by decide) (by omega) (Or.inr (Or.inr (Or.inr (Or.inr (Or.inr (Or.inr (Or.inr (Or.inl ⟨rfl, rfl, v, rfl⟩))))))))) hr hLc (by decide)
  rw [if_neg c7] at he
  by_cases c8 : c = 8
  · subst c8
    rw [if_pos rfl] at he
    have f2 : fxz 8 = 1 := rfl
    match sT, he, hS, hlen with
    | [], he, _, _ => exact absurd he (by simp)
    | [_], he, _, _ => exact absurd he (by simp)
    | t :: u :: r, he, hS, hlen =>
      simp only [Option.some.injEq, Prod.mk.injEq] at he
      obtain ⟨rfl, rfl⟩ := he
      obtain ⟨v, rs, rfl, tv, ov, hr⟩ := TyS_cons hS
      obtain ⟨w, rs', rfl, tw, ow, hr'⟩ := TyS_cons hr
      exact keep _ l (mv8 _ _ (by decide) (by omega) (Or.inr (Or.inr (Or.inr (Or.inr (Or.inr (Or.inr (Or.inr (Or.inr ⟨rfl, rfl, v, w, rs', rfl, rfl⟩))))))))) (TyS_psh (TyS_psh hr' tv ov) tw ow) hLc (by decide)
  rw [if_neg c8, if_neg hx.2.1] at he
  -- by table
  cases hT : effT c sT with
  | none => rw [hT] at he; exact absurd he (by simp)
  | some s3 =>
  rw [hT] at he
  simp only [Option.map_some, Option.some.injEq, Prod.mk.injEq] at he
  obtain ⟨rfl, rfl⟩ := he
  have f9 : c ≠ 2 → c ≠ 0 → c ≠ 1 → fxz c = if c = 34 ∨ c = 35 then 2 else 1 := fun q1 q2 q3 => by
    rcases (by omega : c = 9 ∨ c = 10 ∨ c = 11 ∨ c = 12 ∨ c = 13 ∨ c = 14 ∨ c = 15 ∨ c = 16 ∨ c = 17 ∨ c = 18 ∨ c = 19 ∨ c = 34 ∨ c = 35 ∨ c = 36 ∨ c = 37 ∨ c = 38 ∨ c = 39 ∨ c = 41 ∨ c = 43) with rfl | rfl | rfl | rfl | rfl | rfl | rfl | rfl | rfl | rfl | rfl | rfl | rfl | rfl | rfl | rfl | rfl | rfl | rfl <;> rfl
  by_cases c0 : c = 0
  · subst c0
    have e : some sT = some s3 := hT
    injection e with e
    subst e
    exact keep s l (mv8 _ _ (by decide) (by have : fxz 0 = 1 := rfl; omega) (Or.inl ⟨rfl, rfl, rfl⟩)) hS hLc (by decide)
  by_cases c1 : c = 1
  · subst c1
    have e : pshT 1 sT = some s3 := hT
    obtain ⟨e1, rfl⟩ := psh_o e
    exact keep _ l (mv8 _ _ (by decide) (by have : fxz 1 = 2 := rfl; omega) (Or.inr (Or.inl ⟨rfl, by have : fxz 1 = 2 := rfl; omega, by omega, rfl, rfl⟩))) (TyS_psh hS rfl trivial) hLc (by decide)
  by_cases c2 : c = 2
  · subst c2
    have e : pshT 1 sT = some s3 := hT
    obtain ⟨e1, rfl⟩ := psh_o e
    exact keep _ l (mv8 _ _ (by decide) (by have : fxz 2 = 5 := rfl; omega) (Or.inr (Or.inr (Or.inl ⟨rfl, by have : fxz 2 = 5 := rfl; omega, by omega, rfl, rfl⟩)))) (TyS_psh hS rfl trivial) hLc (by decide)
  have fz := f9 c2 c0 c1
  rw [fz] at hp
  have hp0 : p < ln m := by split at hp <;> omega
  have n8 : ¬ c ≤ 8 := by omega
  by_cases c9 : 9 ≤ c ∧ c ≤ 18
  · have e : (popI 2 sT).bind (pshT 1) = some s3 := by
      rcases (by omega : c = 9 ∨ c = 10 ∨ c = 11 ∨ c = 12 ∨ c = 13 ∨ c = 14 ∨ c = 15 ∨ c = 16 ∨ c = 17 ∨ c = 18) with rfl | rfl | rfl | rfl | rfl | rfl | rfl | rfl | rfl | rfl <;> exact hT
    obtain ⟨r, e1, e2⟩ := bind_o e
    rw [pop2 e1] at hS
    obtain ⟨e3, rfl⟩ := psh_o e2
    obtain ⟨j, q1, rfl, h1⟩ := TyS_i hS
    obtain ⟨i, q2, rfl, h2⟩ := TyS_i h1
    by_cases z0 : (c = 12 ∨ c = 13) ∧ j = 0
    · refine Or.inr ⟨101, by decide, by decide, fun I P K h kk => ?_, fun Gb hGb I P K h _ kk => Mo_sum h (hM Gb hGb) hp0 c9 (fun no => absurd z0 no) (fun _ J hJ t => kk J _ hJ t)⟩
      unfold coL
      rw [if_neg n8, if_pos (by omega)]
      exact Lo_sum h hn c9 (fun no => absurd z0 no) (fun _ J hJ t => kk J _ hJ t)
    · refine keep _ l ⟨fun I P K h kk => ?_, fun Gb hGb I P K h _ kk => Mo_sum h (hM Gb hGb) hp0 c9 (fun _ J hJ t => kk J hJ t) (fun y => absurd y z0)⟩ (TyS_psh (u := 1) (v := Sum.inl (ari c i j)) h2 rfl trivial) hLc (by omega)
      unfold coL
      rw [if_neg n8, if_pos (by omega)]
      exact Lo_sum h hn c9 (fun _ J hJ t => kk J hJ t) (fun y => absurd y z0)
  by_cases c19 : c = 19
  · subst c19
    have e : (popI 1 sT).bind (pshT 1) = some s3 := hT
    obtain ⟨r, e1, e2⟩ := bind_o e
    rw [pop1 e1] at hS
    obtain ⟨e3, rfl⟩ := psh_o e2
    obtain ⟨j, q1, rfl, h1⟩ := TyS_i hS
    refine keep _ l ⟨fun I P K h kk => ?_, fun Gb hGb I P K h _ kk => Mo_neg h (hM Gb hGb) hp0 kk⟩ (TyS_psh (u := 1) (v := Sum.inl (-j)) h1 rfl trivial) hLc (by decide)
    unfold coL
    rw [if_neg (by decide), if_pos (by decide)]
    exact Lo_neg h kk
  have n19 : ¬ c ≤ 19 := by omega
  by_cases c41 : c = 41
  · subst c41
    have e : (popI 1 sT).bind some = some s3 := hT
    obtain ⟨r, e1, e2⟩ := bind_o e
    rw [pop1 e1] at hS
    obtain ⟨x, q1, rfl, h1⟩ := TyS_i hS
    obtain ⟨kd, k1, k2, k3⟩ : ∃ kd, 1 ≤ kd ∧ kd ≤ 105 ∧ (if 1 ≤ x ∧ x ≤ 99 then x else 100) = nI kd := by
      by_cases q : 1 ≤ x ∧ x ≤ 99
      · rw [if_pos q]
        rcases ix_cases x (n := 100) (by omega) with ⟨j, hj, ej⟩ | hno
        · refine ⟨j, ?_, by omega, ej⟩
          have := q.1
          rw [ej, show (1 : Int32) = nI 1 from rfl, nI_leI (by omega) (by omega)] at this; exact this
        · have q1 := q.1
          have q2 := q.2
          rw [Int32.le_iff_toInt_le] at q1 q2
          have e0 : (0 : Int32).toInt = 0 := by decide
          have e5 : (1 : Int32).toInt = 1 := by decide
          have e9 : (99 : Int32).toInt = 99 := by decide
          rcases hno with y | y
          · rw [Int32.lt_iff_toInt_lt] at y; omega
          · rw [Int32.le_iff_toInt_le, nI_toInt (by omega)] at y; omega
      · rw [if_neg q]; exact ⟨100, by decide, by decide, rfl⟩
    refine Or.inr ⟨kd, k1, k2, fun I P K h kk => ?_, fun Gb hGb I P K h _ kk => Mo_throw h (hM Gb hGb) hp0 (fun J hJ t => kk J _ hJ (by rw [← k3]; exact t))⟩
    unfold coL
    rw [if_neg (by decide), if_neg (by decide), if_pos rfl]
    have hk := h.1.1
    refine L_pop h (fun J hJ g => ?_)
    simp only [lv_i]
    by_cases q1 : x < 1
    · have : ¬ (1 ≤ x ∧ x ≤ 99) := fun y => by
        have a := y.1
        rw [Int32.le_iff_toInt_le] at a
        rw [Int32.lt_iff_toInt_lt] at q1
        omega
      rw [if_neg this] at k3
      exact zip q1 (L_throw hJ hn (fun J2 hJ2 t => kk J2 _ hJ2 (tL_s (sL_f hk g) (by rw [← k3]; exact t))))
    · refine zin q1 ?_
      by_cases q2 : 99 < x
      · have : ¬ (1 ≤ x ∧ x ≤ 99) := fun y => by
          have a := y.2
          rw [Int32.le_iff_toInt_le] at a
          rw [Int32.lt_iff_toInt_lt] at q2
          omega
        rw [if_neg this] at k3
        exact zip q2 (L_throw hJ hn (fun J2 hJ2 t => kk J2 _ hJ2 (tL_s (sL_f hk g) (by rw [← k3]; exact t))))
      · have : 1 ≤ x ∧ x ≤ 99 := by
          rw [Int32.lt_iff_toInt_lt] at q1 q2
          rw [Int32.le_iff_toInt_le, Int32.le_iff_toInt_le]
          omega
        rw [if_pos this] at k3
        exact zin q2 (L_throw hJ hn (fun J2 hJ2 t => kk J2 _ hJ2 (tL_s (sL_f hk g) (by rw [← k3]; exact t))))
  have mem : ∀ (I : zI) (P : zP) (K : zI → zP → Prop), w_X2_doMemory (119 + 3 * fs.length) (nI c) I P K → coL fs.length c I P K := fun I P K h => by
    unfold coL
    rw [if_neg n8, if_neg n19, if_neg c41]; exact h
  by_cases c34 : c = 34
  · subst c34
    have e : pshT 1 sT = some s3 := hT
    obtain ⟨e1, rfl⟩ := psh_o e
    rw [if_pos (Or.inl rfl)] at hp
    exact keep _ l ⟨fun I P K h kk => mem I P K (Lo_get h hL (by omega) (hfit.2 (Or.inl rfl)) (by omega) kk), fun Gb hGb I P K h _ kk => Mo_get h (hM Gb hGb) (by omega) (hfit.2 (Or.inl rfl)) (by omega) kk⟩ (TyS_psh (u := 1) (v := Sum.inl (z 0 (cb m (p + 1)))) hS rfl trivial) hLc (by decide)
  by_cases c35 : c = 35
  · subst c35
    have e : (popI 1 sT).bind some = some s3 := hT
    obtain ⟨r, e1, e2⟩ := bind_o e
    injection e2 with e2
    subst e2
    rw [pop1 e1] at hS
    obtain ⟨x, q1, rfl, h1⟩ := TyS_i hS
    rw [if_pos (Or.inr rfl)] at hp
    exact Or.inl ⟨q1, l, n, zu z 0 (cb m (p + 1)) x, ⟨fun I P K h kk => mem I P K (Lo_put h hL (by omega) (hfit.2 (Or.inr rfl)) kk), fun Gb hGb I P K h _ kk => Mo_put h (hM Gb hGb) (by omega) (hfit.2 (Or.inr rfl)) kk⟩, h1, hLc, Nat.le_refl _, n30, by decide, fun _ _ => rfl, rfl, rfl, rfl, h50, fun _ => rfl, fun q => absurd q (by decide)⟩
  by_cases c36 : c = 36
  · subst c36
    have e : (popI 1 sT).bind (pshT 2) = some s3 := hT
    obtain ⟨r, e1, e2⟩ := bind_o e
    rw [pop1 e1] at hS
    obtain ⟨e3, rfl⟩ := psh_o e2
    obtain ⟨x, q1, rfl, h1⟩ := TyS_i hS
    by_cases z0 : ∃ v, v ≤ 50 ∧ x = nI v
    · obtain ⟨v, hv, ev⟩ := z0
      have inj : ∀ v', x = nI v' → v' ≤ 50 → v' = v := fun v' e' h' => nI_inj (by omega) (by omega) (e'.symm.trans ev)
      have no3 : ¬ ∀ v, v ≤ 50 → x ≠ nI v := fun y => y v hv ev
      by_cases e30 : n 2 < 30
      · have e2n : rwN n v 2 = n 2 + 1 := up1_s
        have lel : n 2 ≤ rwN n v 2 := by omega
        refine Or.inl ⟨Sum.inr (n 2) :: q1, l, rwN n v, rwZ n z, ⟨fun I P K h kk => mem I P K (Lo_row h hn (fun v' e' h' _ J hJ t => kk J (by rw [← inj v' e' h']; exact hJ) t) (fun y => absurd y no3) (fun v' e' h' y => absurd y (by omega))), fun Gb hGb I P K h h65 kk => Mo_row h (hM Gb hGb) hp0 h65 (fun v' e' h' _ J hJ t => kk J (by rw [← inj v' e' h']; exact hJ) t) (fun y => absurd y no3) (fun v' e' h' y => absurd y (by omega))⟩, TyS_psh (TyS_m lel h1) rfl (by rw [e2n]; exact Nat.lt_succ_self _), TyL_m lel hLc, lel, by omega, by decide, fun i hi => ?_, ?_, ?_, ?_, fun r hr => ?_, fun q => absurd q (by decide), fun q => absurd q (by decide)⟩
        · unfold rwN; rw [up1_n (by omega), up1_n (by omega)]
        · unfold rwN; rw [up1_n (by omega), up1_n (by omega)]
        · unfold rwN; rw [up1_n (by omega), up1_n (by omega)]
        · unfold rwN; rw [up1_n (by omega), up1_n (by omega)]
        · rw [e2n] at hr
          unfold rwN
          rw [up1_n (by omega)]
          by_cases er : r = n 2
          · rw [er, up1_s]; exact hv
          · rw [up1_n (by omega)]; exact h50 r (by omega)
      · exact Or.inr ⟨104, by decide, by decide, fun I P K h kk => mem I P K (Lo_row h hn (fun v' e' h' y => absurd y e30) (fun y => absurd y no3) (fun v' e' h' _ J hJ t => kk J _ hJ t)), fun Gb hGb I P K h h65 kk => Mo_row h (hM Gb hGb) hp0 h65 (fun v' e' h' y => absurd y e30) (fun y => absurd y no3) (fun v' e' h' _ J hJ t => kk J _ hJ t)⟩
    · have no : ∀ v', x = nI v' → v' ≤ 50 → False := fun v' e' h' => z0 ⟨v', h', e'⟩
      exact Or.inr ⟨103, by decide, by decide, fun I P K h kk => mem I P K (Lo_row h hn (fun v' e' h' => (no v' e' h').elim) (fun _ J hJ t => kk J _ hJ t) (fun v' e' h' => (no v' e' h').elim)), fun Gb hGb I P K h h65 kk => Mo_row h (hM Gb hGb) hp0 h65 (fun v' e' h' => (no v' e' h').elim) (fun _ J hJ t => kk J _ hJ t) (fun v' e' h' => (no v' e' h').elim)⟩
  by_cases c37 : c = 37
  · subst c37
    have e : (popR 37 sT).bind (pshT 1) = some s3 := hT
    obtain ⟨r, e1, e2⟩ := bind_o e
    rw [popr (by decide) e1] at hS
    obtain ⟨e3, rfl⟩ := psh_o e2
    obtain ⟨w, q1, rfl, hw, h1⟩ := TyS_r hS
    exact keep _ l ⟨fun I P K h kk => mem I P K (Lo_size h hw kk), fun Gb hGb I P K h _ kk => Mo_size h (hM Gb hGb) hp0 hw kk⟩ (TyS_psh (u := 1) (v := Sum.inl (nI (n (10 + w)))) h1 rfl trivial) hLc (by decide)
  by_cases c38 : c = 38
  · subst c38
    have e : (popI 1 sT).bind (fun s1 => (popR 38 s1).bind (pshT 1)) = some s3 := hT
    obtain ⟨r, e1, e2⟩ := bind_o e
    obtain ⟨r2, e3, e4⟩ := bind_o e2
    rw [pop1 e1, popr (by decide) e3] at hS
    obtain ⟨e5, rfl⟩ := psh_o e4
    obtain ⟨x, q1, rfl, h1⟩ := TyS_i hS
    obtain ⟨w, q2, rfl, hw, h2⟩ := TyS_r h1
    by_cases z0 : ∃ i, i < n (10 + w) ∧ x = nI i
    · obtain ⟨i, hi, ei⟩ := z0
      have no : ¬ ∀ i, i < n (10 + w) → x ≠ nI i := fun y => y i hi ei
      refine keep (Sum.inl (z 1 (50 * w + i)) :: q2) l ⟨fun I P K h kk => ?_, fun Gb hGb I P K h _ kk => ?_⟩ (TyS_psh (u := 1) (v := Sum.inl (z 1 (50 * w + i))) h2 rfl trivial) hLc (by decide)
      · have b50 := (h.2.2.2.2.1.2.2.1 w hw).1
        exact mem I P K (Lo_take h hn hw (fun i' e' h' J hJ t => kk J (by rw [← nI_inj (by omega) (by omega) (e'.symm.trans ei)]; exact hJ) t) (fun y => absurd y no))
      · have b50 := (h.2.2.2.2.1.2.2.2.1 w hw).1
        exact Mo_take h (hM Gb hGb) hp0 hw (fun i' e' h' J hJ t => kk J (by rw [← nI_inj (by omega) (by omega) (e'.symm.trans ei)]; exact hJ) t) (fun y => absurd y no)
    · have no : ∀ i', x = nI i' → i' < n (10 + w) → False := fun i' e' h' => z0 ⟨i', h', e'⟩
      exact Or.inr ⟨102, by decide, by decide, fun I P K h kk => mem I P K (Lo_take h hn hw (fun v' e' h' => (no v' e' h').elim) (fun _ J hJ t => kk J _ hJ t)), fun Gb hGb I P K h h65 kk => Mo_take h (hM Gb hGb) hp0 hw (fun v' e' h' => (no v' e' h').elim) (fun _ J hJ t => kk J _ hJ t)⟩
  by_cases c39 : c = 39
  · subst c39
    have e : (popI 2 sT).bind (fun s1 => (popR 39 s1).bind some) = some s3 := hT
    obtain ⟨r, e1, e2⟩ := bind_o e
    obtain ⟨r2, e3, e4⟩ := bind_o e2
    injection e4 with e4
    subst e4
    rw [pop2 e1, popr (by decide) e3] at hS
    obtain ⟨y, q1, rfl, h1⟩ := TyS_i hS
    obtain ⟨x, q2, rfl, h2⟩ := TyS_i h1
    obtain ⟨w, q3, rfl, hw, h3⟩ := TyS_r h2
    by_cases z0 : ∃ i, i < n (10 + w) ∧ x = nI i
    · obtain ⟨i, hi, ei⟩ := z0
      have no : ¬ ∀ i, i < n (10 + w) → x ≠ nI i := fun y => y i hi ei
      refine Or.inl ⟨q3, l, n, zu z 1 (50 * w + i) y, ⟨fun I P K h kk => ?_, fun Gb hGb I P K h _ kk => ?_⟩, h3, hLc, Nat.le_refl _, n30, by decide, fun _ _ => rfl, rfl, rfl, rfl, h50, fun _ => rfl, fun _ => ⟨Sum.inl y, i, w, q3, by rw [ei], hw, hi⟩⟩
      · have b50 := (h.2.2.2.2.1.2.2.1 w hw).1
        exact mem I P K (Lo_lay h hn hw (fun i' e' h' J hJ t => kk J (by rw [← nI_inj (by omega) (by omega) (e'.symm.trans ei)]; exact hJ) t) (fun y => absurd y no))
      · have b50 := (h.2.2.2.2.1.2.2.2.1 w hw).1
        exact Mo_lay h (hM Gb hGb) hp0 hw (fun i' e' h' J hJ t => kk J (by rw [← nI_inj (by omega) (by omega) (e'.symm.trans ei)]; exact hJ) t) (fun y => absurd y no)
    · have no : ∀ i', x = nI i' → i' < n (10 + w) → False := fun i' e' h' => z0 ⟨i', h', e'⟩
      exact Or.inr ⟨102, by decide, by decide, fun I P K h kk => mem I P K (Lo_lay h hn hw (fun v' e' h' => (no v' e' h').elim) (fun _ J hJ t => kk J _ hJ t)), fun Gb hGb I P K h h65 kk => Mo_lay h (hM Gb hGb) hp0 hw (fun v' e' h' => (no v' e' h').elim) (fun _ J hJ t => kk J _ hJ t)⟩
  obtain rfl : c = 43 := by omega
  have e : (popI 1 sT).bind some = some s3 := hT
  obtain ⟨r, e1, e2⟩ := bind_o e
  injection e2 with e2
  subst e2
  rw [pop1 e1] at hS
  obtain ⟨x, q1, rfl, h1⟩ := TyS_i hS
  have mk : ∀ i, i ≠ 3 → mkN n i = n i := fun i hi => by
    unfold mkN; split
    · exact up1_n hi
    · rfl
  refine Or.inl ⟨q1, l, mkN n, mkZ n z x, ⟨fun I P K h kk => mem I P K (Lo_mark h kk), fun Gb hGb I P K h _ kk => Mo_mark h (hM Gb hGb) hp0 kk⟩, by rw [mk 2 (by decide)]; exact h1, by rw [mk 2 (by decide)]; exact hLc, by rw [mk 2 (by decide)]; exact Nat.le_refl _, by rw [mk 2 (by decide)]; exact n30, by decide, fun i hi => mk i (by omega), mk 0 (by decide), mk 1 (by decide), mk 4 (by decide), fun r hr => by rw [mk _ (by omega)]; exact h50 r (by rw [mk 2 (by decide)] at hr; exact hr), fun q => absurd q (by decide), fun q => absurd q (by decide)⟩
