/-! PURE 57: RUN: the reference's side of the abstract state -/
def SkM (b : Nat) : List Va → zI → Prop
  | [], _ => True
  | v :: r, I => I 200 (b + r.length) = mv v ∧ SkM b r I
theorem SkM_c {b : Nat} {I J : zI} : ∀ {s : List Va}, SkM b s I → (∀ i, i < s.length → J 200 (b + i) = I 200 (b + i)) → SkM b s J
  | [], _, _ => trivial
  | v :: r, h, f => ⟨by rw [f _ (by simp)]; exact h.1, SkM_c h.2 (fun i hi => f i (by rw [List.length_cons]; omega))⟩
def qFrM (f : Nat) (x : Frm) (I : zI) : Prop := x.1 < 6 ∧ I 196 f = nI x.1 ∧ I 197 f = nI x.2.1 ∧ x.2.1 < 1000 ∧ I 198 f = nI x.2.2.1.length ∧ x.2.2.1.length ≤ 10 ∧ SkM (12 * f) x.2.2.1 I ∧ ∀ n, n < 12 → I 199 (12 * f + n) = mv (x.2.2.2 n)
def blkF (f c j : Nat) : Prop := ((196 ≤ c ∧ c ≤ 198) ∧ j = f) ∨ ((199 ≤ c ∧ c ≤ 200) ∧ 12 * f ≤ j ∧ j < 12 * f + 12)
theorem qFrM_c {f : Nat} {x : Frm} {I J : zI} (h : qFrM f x I) (g : ∀ c j, blkF f c j → J c j = I c j) : qFrM f x J := by
  obtain ⟨h1, h2, h3, h4, h5, h6, h7, h8⟩ := h
  unfold blkF at g
  exact ⟨h1, by rw [g _ _ (by omega)]; exact h2, by rw [g _ _ (by omega)]; exact h3, h4, by rw [g _ _ (by omega)]; exact h5, h6, SkM_c h7 (fun i _ => g _ _ (by omega)), fun n hn => by rw [g _ _ (by omega)]; exact h8 n hn⟩
def FsM : List Frm → zI → Prop
  | [], _ => True
  | x :: r, I => qFrM r.length x I ∧ FsM r I
theorem FsM_c {I J : zI} : ∀ {fs : List Frm}, FsM fs I → (∀ f c j, f < fs.length → blkF f c j → J c j = I c j) → FsM fs J
  | [], _, _ => trivial
  | x :: r, h, g => ⟨qFrM_c h.1 (fun c j a => g _ c j (by rw [List.length_cons]; omega) a), FsM_c h.2 (fun f c j hf a => g f c j (by rw [List.length_cons]; omega) a)⟩
/-- cells that a run of the reference may change -/
def rcM (c j : Nat) : Prop := (c = 155 ∧ 52 ≤ j ∧ j ≤ 68) ∨ (196 ≤ c ∧ c ≤ 220)
def ScM (I0 : zI) (k lim : Nat) (I : zI) : Prop := k < 3 ∧ lim ≤ 3000 ∧ (∀ c j, ¬ rcM c j → I c j = I0 c j) ∧ I 155 50 = nI k ∧ I 155 51 = nI lim
def MmM (n : nuN) (z : nuZ) (I : zI) : Prop := n 2 ≤ 30 ∧ I 155 63 = nI (n 2) ∧ (∀ f, f < 8 → I 203 f = z 0 f) ∧ (∀ r, r < n 2 → n (10 + r) ≤ 50 ∧ I 201 (r + 1) = nI (n (10 + r)) ∧ ∀ i, i < n (10 + r) → I 202 (50 * (r + 1) + i) = z 1 (50 * r + i)) ∧ ∀ q, q < 24 → I 204 q = nI (n (50 + q))
/-- of the other manners nothing changes: marks and records -/
def TaM (I0 : zI) (k : Nat) (n : nuN) (z : nuZ) (I : zI) : Prop := n 3 ≤ 60 ∧ n 4 < 2 ^ 30 ∧ n 0 ≤ 3000 ∧ n 1 ≤ 12 ∧ I 155 53 = nI (n 0) ∧ I 155 55 = nI (n 1) ∧ I 211 k = nI (n 3) ∧ I 212 k = nI (n 4) ∧ (∀ i, i < n 3 → I 217 (60 * k + i) = z 2 i) ∧ (∀ i, i < n 4 → i < 400 → I 219 (400 * k + i) = z 3 i ∧ I 220 (400 * k + i) = z 4 i) ∧
  (∀ c j, 208 ≤ c → c ≤ 220 → ¬ ((c = 211 ∨ c = 212) ∧ j = k) → ¬ (c = 217 ∧ 60 * k ≤ j ∧ j < 60 * k + 60) → ¬ ((c = 219 ∨ c = 220) ∧ 400 * k ≤ j ∧ j < 400 * k + 400) → I c j = I0 c j)
theorem ScM_c {I0 I J : zI} {k lim : Nat} (h : ScM I0 k lim I) (g : ∀ c j, ¬ rcM c j → J c j = I c j) : ScM I0 k lim J := by
  obtain ⟨h1, h2, h5, h6, h7⟩ := h
  exact ⟨h1, h2, fun c j a => by rw [g c j a]; exact h5 c j a, by rw [g _ _ (by unfold rcM; omega)]; exact h6, by rw [g _ _ (by unfold rcM; omega)]; exact h7⟩
theorem MmM_c {n : nuN} {z : nuZ} {I J : zI} (h : MmM n z I) (g : ∀ c j, (201 ≤ c ∧ c ≤ 204) ∨ (c = 155 ∧ j = 63) → J c j = I c j) : MmM n z J := by
  obtain ⟨h0, h0', h1, h2, h3⟩ := h
  exact ⟨h0, by rw [g _ _ (by omega)]; exact h0', fun f hf => by rw [g _ _ (by omega)]; exact h1 f hf, fun r hr => ⟨(h2 r hr).1, by rw [g _ _ (by omega)]; exact (h2 r hr).2.1, fun i hi => by rw [g _ _ (by omega)]; exact (h2 r hr).2.2 i hi⟩, fun q hq => by rw [g _ _ (by omega)]; exact h3 q hq⟩
theorem TaM_c {I0 : zI} {k : Nat} {n : nuN} {z : nuZ} {I J : zI} (h : TaM I0 k n z I) (g : ∀ c j, (208 ≤ c ∧ c ≤ 220) ∨ (c = 155 ∧ (j = 53 ∨ j = 55)) → J c j = I c j) : TaM I0 k n z J := by
  obtain ⟨h1, h2, h3, h4, h5, h6, h7, h8, h9, h10, h11⟩ := h
  exact ⟨h1, h2, h3, h4, by rw [g _ _ (by omega)]; exact h5, by rw [g _ _ (by omega)]; exact h6, by rw [g _ _ (by omega)]; exact h7, by rw [g _ _ (by omega)]; exact h8, fun i hi => by rw [g _ _ (by omega)]; exact h9 i hi, fun i hi h => by rw [g _ _ (by omega), g _ _ (by omega)]; exact h10 i hi h, fun c j a b c' d e => by rw [g _ _ (by omega)]; exact h11 c j a b c' d e⟩
/-- the reference is in the abstract state -/
def SM (I0 : zI) (k lim : Nat) (fs : List Frm) (n : nuN) (z : nuZ) (I : zI) : Prop := ScM I0 k lim I ∧ fs.length ≤ 12 ∧ I 155 54 = nI fs.length ∧ FsM fs I ∧ MmM n z I ∧ TaM I0 k n z I
theorem SM_top {I0 I J : zI} {k lim : Nat} {n : nuN} {z : nuZ} {x y : Frm} {fs : List Frm} (h : SM I0 k lim (x :: fs) n z I) (hy : qFrM fs.length y J) (g : ∀ c j, ¬ blkF fs.length c j → J c j = I c j) : SM I0 k lim (y :: fs) n z J := by
  obtain ⟨h1, h2, h3, h4, h5, h6⟩ := h
  have hk := h1.1
  rw [List.length_cons] at h2
  unfold blkF at g
  exact ⟨ScM_c h1 (fun c j a => g c j (by unfold rcM at a; omega)), by rw [List.length_cons]; exact h2, by rw [g _ _ (by omega)]; exact h3, ⟨hy, FsM_c h4.2 (fun f c j hf a => g c j (by unfold blkF at a; omega))⟩, MmM_c h5 (fun c j a => g c j (by omega)), TaM_c h6 (fun c j a => g c j (by omega))⟩
theorem M_f1 {I0 I : zI} {k lim : Nat} {n : nuN} {z : nuZ} {x : Frm} {fs : List Frm} (h : SM I0 k lim (x :: fs) n z I) : fs.length < 12 ∧ I 155 54 - 1 = nI fs.length := by
  have h2 := h.2.1
  rw [List.length_cons] at h2
  refine ⟨by omega, ?_⟩
  rw [h.2.2.1, List.length_cons, ← nq1, pk_sub (by omega)]; rfl
theorem e12 {f i : Nat} : (12 : Int32) * nI f + nI i = nI (12 * f + i) := by rw [show (12 : Int32) = nI 12 from rfl, pk_mul, nI_add]
theorem M_give {I0 I : zI} {k lim m p : Nat} {n : nuN} {z : nuZ} {s : List Va} {l : Nat → Va} {fs : List Frm} {P : zP} {K : zI → zP → Prop} {v : Va} {x : Int32} (h : SM I0 k lim ((m, p, s, l) :: fs) n z I) (hs : s.length < 10) (hx : x = mv v) (kk : ∀ J, SM I0 k lim ((m, p, v :: s, l) :: fs) n z J → (∀ c j, ¬ blkF fs.length c j → J c j = I c j) → K J P) : w_X10_give x I P K := by
  obtain ⟨hf, e1⟩ := M_f1 h
  obtain ⟨h1, h2, h3, h4, h5, h6, h7, h8⟩ := h.2.2.2.1.1
  dsimp only at h5 h7 h8
  have v1 : vp_in (nI fs.length) 12 := vp_in_nI hf (by decide)
  unfold w_X10_give
  rw [e1, nI_clamp (by omega), h5, e12, nI_clamp (by omega), zu_nc (a := 155) (by omega), e1, nI_clamp (by omega), zu_nc (a := 198) (by omega), h5, nI_1, hx]
  have g : ∀ c j, ¬ blkF fs.length c j → zu (zu I 200 (12 * fs.length + s.length) (mv v)) 198 fs.length (nI (s.length + 1)) c j = I c j := fun c j a => by unfold blkF at a; rw [zu_ne (by omega), zu_ne (by omega)]
  refine ⟨v1, vp_in_nI (by omega) (by decide), v1, v1, kk _ (SM_top h ⟨h1, ?_, ?_, h4, ?_, ?_, ⟨?_, SkM_c h7 (fun i hi => ?_)⟩, fun q hq => ?_⟩ g) g⟩
  · rw [zu_nc (by omega), zu_nc (by omega)]; exact h2
  · rw [zu_nc (by omega), zu_nc (by omega)]; exact h3
  · rw [zu_same]; rfl
  · rw [List.length_cons]; omega
  · rw [zu_nc (by omega), zu_same]
  · rw [zu_nc (by omega), zu_nj (by omega)]
  · rw [zu_nc (by omega), zu_nc (by omega)]; exact h8 q hq
theorem M_take {I0 I : zI} {k lim m p : Nat} {n : nuN} {z : nuZ} {s : List Va} {l : Nat → Va} {fs : List Frm} {P : zP} {K : Int32 → zI → zP → Prop} {v : Va} (h : SM I0 k lim ((m, p, v :: s, l) :: fs) n z I) (kk : ∀ J, SM I0 k lim ((m, p, s, l) :: fs) n z J → (∀ c j, ¬ blkF fs.length c j → J c j = I c j) → K (mv v) J P) : w_X10_take I P K := by
  obtain ⟨hf, e1⟩ := M_f1 h
  obtain ⟨h1, h2, h3, h4, h5, h6, h7, h8⟩ := h.2.2.2.1.1
  dsimp only at h5 h6 h7 h8
  rw [List.length_cons] at h5 h6
  have v1 : vp_in (nI fs.length) 12 := vp_in_nI hf (by decide)
  have e2 : nI (s.length + 1) - 1 = nI s.length := by rw [← nq1, pk_sub (by omega)]; rfl
  unfold w_X10_take
  rw [e1, nI_clamp (by omega), h5, e2, zu_nc (a := 155) (by omega), e1, nI_clamp (by omega), zu_same, e12, nI_clamp (by omega), zu_nc (a := 200) (by omega), h7.1]
  have g : ∀ c j, ¬ blkF fs.length c j → zu I 198 fs.length (nI s.length) c j = I c j := fun c j a => by unfold blkF at a; rw [zu_ne (by omega)]
  refine ⟨v1, v1, v1, vp_in_nI (by omega) (by decide), kk _ (SM_top h ⟨h1, ?_, ?_, h4, zu_same, (by show s.length ≤ 10; omega), SkM_c h7.2 (fun i hi => zu_nc (by omega)), fun q hq => ?_⟩ g) g⟩
  · rw [zu_nc (by omega)]; exact h2
  · rw [zu_nc (by omega)]; exact h3
  · rw [zu_nc (by omega)]; exact h8 q hq
theorem SkM_at {b : Nat} {I : zI} : ∀ {s : List Va} {i : Nat} {v : Va}, SkM b s I → s[i]? = some v → I 200 (b + (s.length - 1 - i)) = mv v
  | [], i, v, _, e => by simp at e
  | w :: r, 0, v, h, e => by
    rw [List.getElem?_cons_zero] at e
    obtain rfl : w = v := Option.some.inj e
    exact h.1
  | w :: r, i + 1, v, h, e => by
    rw [List.getElem?_cons_succ] at e
    have := SkM_at h.2 e
    rw [List.length_cons, show r.length + 1 - 1 - (i + 1) = r.length - 1 - i by omega]; exact this
theorem M_top {I0 I : zI} {k lim m p i : Nat} {n : nuN} {z : nuZ} {s : List Va} {l : Nat → Va} {fs : List Frm} {P : zP} {K : Int32 → zI → zP → Prop} {v : Va} (h : SM I0 k lim ((m, p, s, l) :: fs) n z I) (hi : s[i]? = some v) (kk : K (mv v) I P) : w_X10_top (nI i) I P K := by
  obtain ⟨hf, e1⟩ := M_f1 h
  obtain ⟨h1, h2, h3, h4, h5, h6, h7, h8⟩ := h.2.2.2.1.1
  dsimp only at h5 h6 h7 h8
  have hl : i < s.length := by
    rcases Nat.lt_or_ge i s.length with q | q
    · exact q
    · rw [List.getElem?_eq_none q] at hi; exact absurd hi (by simp)
  unfold w_X10_top
  rw [e1, nI_clamp (by omega), h5, e12, ← nq1, pk_sub (by omega), pk_sub (by omega), nI_clamp (by omega), show 12 * fs.length + s.length - 1 - i = 12 * fs.length + (s.length - 1 - i) by omega, SkM_at h7 hi]
  exact ⟨vp_in_nI hf (by decide), vp_in_nI (by omega) (by decide), kk⟩
theorem M_setTop {I0 I : zI} {k lim m p : Nat} {n : nuN} {z : nuZ} {s : List Va} {l : Nat → Va} {fs : List Frm} {P : zP} {K : zI → zP → Prop} {v w : Va} {x : Int32} (h : SM I0 k lim ((m, p, v :: s, l) :: fs) n z I) (hx : x = mv w) (kk : ∀ J, SM I0 k lim ((m, p, w :: s, l) :: fs) n z J → (∀ c j, ¬ blkF fs.length c j → J c j = I c j) → K J P) : w_X10_setTop x I P K := by
  obtain ⟨hf, e1⟩ := M_f1 h
  obtain ⟨h1, h2, h3, h4, h5, h6, h7, h8⟩ := h.2.2.2.1.1
  dsimp only at h5 h6 h7 h8
  rw [List.length_cons] at h5 h6
  unfold w_X10_setTop
  rw [e1, nI_clamp (by omega), h5, e12, ← nq1, pk_sub (by omega), nI_clamp (by omega), show 12 * fs.length + (s.length + 1) - 1 = 12 * fs.length + s.length by omega, hx]
  have g : ∀ c j, ¬ blkF fs.length c j → zu I 200 (12 * fs.length + s.length) (mv w) c j = I c j := fun c j a => by unfold blkF at a; rw [zu_ne (by omega)]
  refine ⟨vp_in_nI hf (by decide), vp_in_nI (by omega) (by decide), kk _ (SM_top h ⟨h1, ?_, ?_, h4, ?_, (by show s.length + 1 ≤ 10; omega), ⟨zu_same, SkM_c h7.2 (fun i hi => zu_nj (by omega))⟩, fun q hq => ?_⟩ g) g⟩
  · rw [zu_nc (by omega)]; exact h2
  · rw [zu_nc (by omega)]; exact h3
  · rw [zu_nc (by omega)]; exact h5
  · rw [zu_nc (by omega)]; exact h8 q hq
theorem M_place {I0 I : zI} {k lim m p p' : Nat} {n : nuN} {z : nuZ} {s : List Va} {l : Nat → Va} {fs : List Frm} (h : SM I0 k lim ((m, p, s, l) :: fs) n z I) (hp : p' < 1000) : SM I0 k lim ((m, p', s, l) :: fs) n z (zu I 197 fs.length (nI p')) := by
  obtain ⟨h1, h2, h3, h4, h5, h6, h7, h8⟩ := h.2.2.2.1.1
  refine SM_top h ⟨h1, ?_, zu_same, hp, ?_, h6, SkM_c h7 (fun i hi => zu_nc (by omega)), fun q hq => ?_⟩ (fun c j a => by unfold blkF at a; rw [zu_ne (by omega)])
  · rw [zu_nc (by omega)]; exact h2
  · rw [zu_nc (by omega)]; exact h5
  · rw [zu_nc (by omega)]; exact h8 q hq
theorem M_setLocal {I0 I : zI} {k lim m p i : Nat} {n : nuN} {z : nuZ} {s : List Va} {l : Nat → Va} {fs : List Frm} {v : Va} (h : SM I0 k lim ((m, p, s, l) :: fs) n z I) (hi : i < 12) : SM I0 k lim ((m, p, s, upl l i v) :: fs) n z (zu I 199 (12 * fs.length + i) (mv v)) := by
  obtain ⟨h1, h2, h3, h4, h5, h6, h7, h8⟩ := h.2.2.2.1.1
  refine SM_top h ⟨h1, ?_, ?_, h4, ?_, h6, SkM_c h7 (fun i hi => zu_nc (by omega)), fun q hq => ?_⟩ (fun c j a => by unfold blkF at a; rw [zu_ne (by omega)])
  · rw [zu_nc (by omega)]; exact h2
  · rw [zu_nc (by omega)]; exact h3
  · rw [zu_nc (by omega)]; exact h5
  · by_cases e : q = i
    · subst e
      rw [zu_same]; dsimp only; rw [upl_s]
    · rw [zu_nj (by omega)]; dsimp only; rw [upl_n e]; exact h8 q hq
theorem M_rec {I0 I : zI} {k lim : Nat} {n : nuN} {z : nuZ} {fs : List Frm} {P : zP} {K : zI → zP → Prop} {x y : Int32} (h : SM I0 k lim fs n z I) (hr : n 4 + 1 < 2 ^ 30) (kk : ∀ J, SM I0 k lim fs (up1 n 4 (n 4 + 1)) (zu (zu z 3 (n 4) x) 4 (n 4) y) J → (∀ c j, ¬ (c = 212 ∨ c = 219 ∨ c = 220) → J c j = I c j) → K J P) : w_X10_tell x y I P K := by
  obtain ⟨h1, h2, h3, h4, h5, h6⟩ := h
  obtain ⟨t1, t2, t3, t4, t5, t6, t7, t8, t9, t10, t11⟩ := h6
  have hk := h1.1
  have v : vp_in (nI k) 3 := vp_in_nI hk (by decide)
  have y50 := h1.2.2.2.1
  have fin : ∀ J, (∀ c j, ¬ ((c = 219 ∨ c = 220) ∧ j = 400 * k + n 4 ∧ n 4 < 400) → ¬ (c = 212 ∧ j = k) → J c j = I c j) → J 212 k = nI (n 4 + 1) → (n 4 < 400 → J 219 (400 * k + n 4) = x ∧ J 220 (400 * k + n 4) = y) → K J P := fun J g a b => by
    refine kk J ⟨ScM_c h1 (fun c j q => g c j (by unfold rcM at q; omega) (by unfold rcM at q; omega)), h2, by rw [g _ _ (by omega) (by omega)]; exact h3, FsM_c h4 (fun f c j hf q => g c j (by unfold blkF at q; omega) (by unfold blkF at q; omega)), ?_, ?_⟩ (fun c j q => g c j (by omega) (by omega))
    · obtain ⟨m0, m0', m1, m2, m3⟩ := h5
      refine ⟨by rw [up1_n (by omega)]; exact m0, by rw [up1_n (by omega), g _ _ (by omega) (by omega)]; exact m0', fun f hf => by rw [g _ _ (by omega) (by omega), zu_nc (by omega), zu_nc (by omega)]; exact m1 f hf, fun r hr => ?_, fun q hq => by rw [g _ _ (by omega) (by omega), up1_n (by omega)]; exact m3 q hq⟩
      rw [up1_n (by omega)] at hr
      rw [up1_n (by omega), g _ _ (by omega) (by omega)]
      exact ⟨(m2 r hr).1, (m2 r hr).2.1, fun i hi => by rw [g _ _ (by omega) (by omega), zu_nc (by omega), zu_nc (by omega)]; exact (m2 r hr).2.2 i hi⟩
    · refine ⟨by rw [up1_n (by omega)]; exact t1, by rw [up1_s]; exact hr, by rw [up1_n (by omega)]; exact t3, by rw [up1_n (by omega)]; exact t4, by rw [up1_n (by omega), g _ _ (by omega) (by omega)]; exact t5, by rw [up1_n (by omega), g _ _ (by omega) (by omega)]; exact t6, by rw [up1_n (by omega), g _ _ (by omega) (by omega)]; exact t7, by rw [up1_s]; exact a, fun i hi => ?_, fun i hi hi2 => ?_, fun c j q1 q2 q3 q4 q5 => by rw [g _ _ (by omega) (by omega)]; exact t11 c j q1 q2 q3 q4 q5⟩
      · rw [up1_n (by omega)] at hi
        rw [g _ _ (by omega) (by omega), zu_nc (by omega), zu_nc (by omega)]; exact t9 i hi
      · rw [up1_s] at hi
        by_cases e : i = n 4
        · subst e
          rw [zu_nc (by omega), zu_same, zu_same]; exact b hi2
        · rw [g _ _ (by omega) (by omega), g _ _ (by omega) (by omega), zu_nc (by omega), zu_nj e, zu_nj e, zu_nc (by omega)]; exact t10 i (by omega) hi2
  unfold w_X10_tell j_X10_tell_63
  simp (disch := omega) only [y50, nI_clamp, zu_nc, t8, e400, nI_1]
  refine ⟨v, ?_⟩
  by_cases e : n 4 < 400
  · refine zin (by first | omega | decide | (simp (maxSteps := 400000) (disch := omega) only [q_lit, q_neg, nI_ltI, nI_leI, nI_eq, nI_add, pk_mul, pk_sub, nI_clamp, vp_q, zu_same, zu_nc, zu_nj, ng_lt, ng_le, ng_gt, ng_ge, ng_eq, ng_qe, ng_ee, ng_add, not_false_eq_true, not_true_eq_false, ne_eq]; done) | (simp (maxSteps := 400000) (disch := omega) only [q_lit, q_neg, nI_ltI, nI_leI, nI_eq, nI_add, pk_mul, pk_sub, nI_clamp, vp_q, zu_same, zu_nc, zu_nj, ng_lt, ng_le, ng_gt, ng_ge, ng_eq, ng_qe, ng_ee, ng_add, not_false_eq_true, not_true_eq_false, ne_eq]; omega)) ⟨v, vp_in_nI (by omega) (by decide), v, vp_in_nI (by omega) (by decide), v, v, fin _ (fun c j a b => ?_) zu_same (fun _ => ⟨?_, ?_⟩)⟩
    · rw [zu_ne b, zu_ne (by omega), zu_ne (by omega)]
    · rw [zu_nc (by omega), zu_nc (by omega), zu_same]
    · rw [zu_nc (by omega), zu_same]
  · refine zip (by first | omega | decide | (simp (maxSteps := 400000) (disch := omega) only [q_lit, q_neg, nI_ltI, nI_leI, nI_eq, nI_add, pk_mul, pk_sub, nI_clamp, vp_q, zu_same, zu_nc, zu_nj, ng_lt, ng_le, ng_gt, ng_ge, ng_eq, ng_qe, ng_ee, ng_add, not_false_eq_true, not_true_eq_false, ne_eq]; done) | (simp (maxSteps := 400000) (disch := omega) only [q_lit, q_neg, nI_ltI, nI_leI, nI_eq, nI_add, pk_mul, pk_sub, nI_clamp, vp_q, zu_same, zu_nc, zu_nj, ng_lt, ng_le, ng_gt, ng_ge, ng_eq, ng_qe, ng_ee, ng_add, not_false_eq_true, not_true_eq_false, ne_eq]; omega)) ⟨v, v, fin _ (fun c j a b => by rw [zu_ne b]) zu_same (fun q => absurd q e)⟩
