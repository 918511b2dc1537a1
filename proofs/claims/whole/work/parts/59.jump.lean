/-! PURE 20: FAULTS of JUMP and of HANDLER -/
def jok (A : Nat → Nat → Nat) (p : Nat) : Prop := 0 < A 2 p → ∀ i, i < njp A p → isbg A (tgx A p i)
def jmpR (A : Nat → Nat → Nat) (r : Option Nat) : Prop := (r = none ∧ ∀ p, p < A 0 2 → jok A p) ∨ (∃ p, p < A 0 2 ∧ r = some (4 + p) ∧ ¬ jok A p ∧ ∀ q, q < p → jok A q)
def hok (A : Nat → Nat → Nat) (k : Nat) : Prop := isbg A (nI (A 3 (4 * k))) ∧ isbg A (nI (A 3 (4 * k + 2))) ∧ (A 3 (4 * k + 1) = A 0 2 ∨ isbg A (nI (A 3 (4 * k + 1)))) ∧ A 3 (4 * k) < A 3 (4 * k + 1)
def hdlR (A : Nat → Nat → Nat) (r : Option Nat) : Prop := (r = none ∧ ∀ k, k < A 0 3 → hok A k) ∨ (∃ k, k < A 0 3 ∧ r = some (4 + A 0 2 + 1 + 7 * k) ∧ ¬ hok A k ∧ ∀ q, q < k → hok A q)
theorem jmpR_u {A : Nat → Nat → Nat} {r s : Option Nat} (h : jmpR A r) (g : jmpR A s) : r = s := by
  rcases h with ⟨h1, h2⟩ | ⟨p, hp, h1, h2, h3⟩ <;> rcases g with ⟨g1, g2⟩ | ⟨q, hq, g1, g2, g3⟩
  · rw [h1, g1]
  · exact absurd (h2 q hq) g2
  · exact absurd (g2 p hp) h2
  · rcases Nat.lt_trichotomy p q with h | h | h
    · exact absurd (g3 p h) h2
    · subst h; rw [h1, g1]
    · exact absurd (h3 q h) g2
theorem hdlR_u {A : Nat → Nat → Nat} {r s : Option Nat} (h : hdlR A r) (g : hdlR A s) : r = s := by
  rcases h with ⟨h1, h2⟩ | ⟨p, hp, h1, h2, h3⟩ <;> rcases g with ⟨g1, g2⟩ | ⟨q, hq, g1, g2, g3⟩
  · rw [h1, g1]
  · exact absurd (h2 q hq) g2
  · exact absurd (g2 p hp) h2
  · rcases Nat.lt_trichotomy p q with h | h | h
    · exact absurd (g3 p h) h2
    · subst h; rw [h1, g1]
    · exact absurd (h3 q h) g2
theorem njp_le {A : Nat → Nat → Nat} {m p : Nat} (hB : W0 A m) (hp : p < A 0 2) (h2 : 0 < A 2 p) : njp A p ≤ 17 := by
  obtain ⟨-, -, -, -, b1, -, b3, -, -, b4, b2⟩ := hB
  obtain ⟨c1, c2, c3, c4, c5, -, -⟩ := b4 p hp h2
  unfold njp
  (repeat' split) <;> omega
theorem l_ja {A : Nat → Nat → Nat} {m p : Nat} {I : zI} {P : zP} {K : Int32 → zI → zP → Prop} (hP : PSt P) (hm : m < 6) (hL : LM0 A m I) (hB : W0 A m) (hp : p < A 0 2) (h2 : 0 < A 2 p) (k1 : ¬ jok A p → K 1 I P) (k0 : jok A p → K 0 I P) : ∀ d i, i + d = njp A p → (∀ q, q < i → isbg A (tgx A p q)) → l_X3_jumpsAstray_11 K (d + 1) (20 + 12 * m) (nI p) (nI (njp A p)) (nI i) I P := by
  have hn := njp_le hB hp h2
  intro d
  induction d with
  | zero =>
    intro i hi hq
    obtain rfl : i = njp A p := by omega
    rw [l_X3_jumpsAstray_11]
    exact zip (nI_le (Nat.le_refl _) (by omega)) (k0 (fun _ => hq))
  | succ d ih =>
    intro i hi hq
    rw [l_X3_jumpsAstray_11]
    refine zin (nI_ge (by omega) (by omega)) ⟨shM hm, _, pM1 hP hm, s_ta hm hL hB hp h2 (by omega) ?_⟩
    by_cases h : isbg A (tgx A p i)
    · refine s_bg1 hP hm hL hB h (zin (by decide) ?_)
      rw [nI_1]
      refine ih (i + 1) (by omega) (fun q hq1 => ?_)
      by_cases e : q = i
      · subst e; exact h
      · exact hq q (by omega)
    · exact s_bg0 hP hm hL hB h (zip rfl (k1 (fun q => h (q h2 i (by omega)))))
theorem l_jf {A : Nat → Nat → Nat} {m : Nat} {I : zI} {P : zP} {K : Int32 → zI → zP → Prop} (hP : PSt P) (hm : m < 6) (hL : LM0 A m I) (hB : W0 A m) (k : ∀ r, jmpR A r → K (oI r) I P) : ∀ d p, p + d = A 0 2 → (∀ q, q < p → jok A q) → l_X3_jumpFault_2 K (d + 1) (20 + 12 * m) (nI p) I P := by
  have h9 := hL.2.2.1
  have b1 := hB.2.2.2.2.1
  intro d
  induction d with
  | zero =>
    intro p hp hq
    obtain rfl : p = A 0 2 := by omega
    rw [l_X3_jumpFault_2]
    exact ⟨shM hm, zip (by rw [h9]; exact nI_le (Nat.le_refl _) (by omega)) (k none (Or.inl ⟨rfl, hq⟩))⟩
  | succ d ih =>
    intro p hp hq
    rw [l_X3_jumpFault_2]
    refine ⟨shM hm, zin (by rw [h9]; exact nI_ge (by omega) (by omega)) ?_⟩
    have nx : jok A p → l_X3_jumpFault_2 K (d + 1) (20 + 12 * m) (nI p + 1) I P := fun hj => by
      rw [nI_1]
      refine ih (p + 1) (by omega) (fun q hq1 => ?_)
      by_cases e : q = p
      · subst e; exact hj
      · exact hq q (by omega)
    by_cases h2 : A 2 p = 0
    · refine s_bg0 hP hm hL hB ?_ (zip rfl (nx (fun h => absurd h2 (by omega))))
      rintro ⟨j, hj, e, h⟩
      have := (nI_eq (by omega) (by omega)).mp e
      subst this; omega
    · refine s_bg1 hP hm hL hB ⟨p, by omega, rfl, by omega⟩ (zin (by decide) ?_)
      unfold w_X3_jumpsAstray
      refine ⟨shM hm, _, pM1 hP hm, s_tc hm hL hB (by omega) (by omega) ⟨_, l_ja hP hm hL hB (by omega) (by omega) (fun h => zin (by decide) ?_) (fun h => zip rfl (nx h)) (njp A p) 0 (by omega) (fun q hq => absurd hq (by omega))⟩⟩
      have := k (some (4 + p)) (Or.inr ⟨p, by omega, rfl, h, hq⟩)
      rw [show (4 : Int32) = nI 4 from rfl, nI_add]; exact this
theorem s_jf {A : Nat → Nat → Nat} {m : Nat} {I : zI} {P : zP} {K : Int32 → zI → zP → Prop} (hP : PSt P) (hm : m < 6) (hL : LM0 A m I) (hB : W0 A m) (k : ∀ r, jmpR A r → K (oI r) I P) : w_X3_jumpFault (20 + 12 * m) I P K := ⟨_, l_jf hP hm hL hB k (A 0 2) 0 (by omega) (fun q hq => absurd hq (by omega))⟩
theorem l_mja {A : Nat → Nat → Nat} {m p : Nat} {I : zI} {P : zP} {X : Int32 → Int32 → zI → zP → Prop} {K : Int32 → zI → zP → Prop} (hm : m < 6) (hL : RM0 A m I) (hB : W0 A m) (hp : p < A 0 2) (h2 : 0 < A 2 p) (k1 : ¬ jok A p → K (4 + nI p) I P) (k0 : jok A p → X (nI m) (nI (p + 1)) I P) : ∀ d i, i + d = njp A p → (∀ q, q < i → isbg A (tgx A p q)) → l_X10_wrongJump_14 X K (d + 1) (nI m) (nI p) (nI i) I P := by
  have hn := njp_le hB hp h2
  have hc := (hL.2.2.2.2.1 p hp).2
  have b1 := hB.2.2.2.2.1
  rw [if_neg (by omega)] at hc
  have e4 : (400 : Int32) * nI m + nI p = nI (400 * m + p) := by rw [show (400 : Int32) = nI 400 from rfl, pk_mul, nI_add]
  intro d
  induction d with
  | zero =>
    intro i hi hq
    obtain rfl : i = njp A p := by omega
    rw [l_X10_wrongJump_14, e4, nI_clamp (by omega), hc, nI_1]
    exact ⟨vp_in_nI (by omega) (by decide), zin (by decide) (s_mtc hm hL hB hp h2 (zip (nI_le (Nat.le_refl _) (by omega)) (k0 (fun _ => hq))))⟩
  | succ d ih =>
    intro i hi hq
    rw [l_X10_wrongJump_14, e4, nI_clamp (by omega), hc]
    refine ⟨vp_in_nI (by omega) (by decide), zin (by decide) (s_mtc hm hL hB hp h2 (zin (nI_ge (by omega) (by omega)) (s_mta hm hL hB hp h2 (by omega) ?_)))⟩
    by_cases h : isbg A (tgx A p i)
    · refine s_mbg1 hm hL hB h (zin (by decide) ?_)
      rw [nI_1]
      refine ih (i + 1) (by omega) (fun q hq1 => ?_)
      by_cases e : q = i
      · subst e; exact h
      · exact hq q (by omega)
    · exact s_mbg0 hm hL hB h (zip rfl (k1 (fun q => h (q h2 i (by omega)))))
theorem l_mjf {A : Nat → Nat → Nat} {m : Nat} {I : zI} {P : zP} {K : Int32 → zI → zP → Prop} (hm : m < 6) (hL : RM0 A m I) (hB : W0 A m) (k : ∀ r, jmpR A r → K (oI r) I P) : ∀ d p, p + d = A 0 2 → (∀ q, q < p → jok A q) → l_X10_wrongJump_2 K (d + 1) (nI m) (nI p) I P := by
  have h9 := hL.2.2.1
  have b1 := hB.2.2.2.2.1
  intro d
  induction d with
  | zero =>
    intro p hp hq
    obtain rfl : p = A 0 2 := by omega
    rw [l_X10_wrongJump_2]
    exact ⟨vp_in_nI hm (by decide), zip (by rw [nI_clamp (by omega), h9]; exact nI_le (Nat.le_refl _) (by omega)) (k none (Or.inl ⟨rfl, hq⟩))⟩
  | succ d ih =>
    intro p hp hq
    rw [l_X10_wrongJump_2]
    refine ⟨vp_in_nI hm (by decide), zin (by rw [nI_clamp (by omega), h9]; exact nI_ge (by omega) (by omega)) ?_⟩
    have nx : jok A p → l_X10_wrongJump_2 K (d + 1) (nI m) (nI (p + 1)) I P := fun hj => by
      refine ih (p + 1) (by omega) (fun q hq1 => ?_)
      by_cases e : q = p
      · subst e; exact hj
      · exact hq q (by omega)
    by_cases h2 : A 2 p = 0
    · have hc := (hL.2.2.2.2.1 p (by omega)).2
      rw [if_pos h2] at hc
      have e4 : (400 : Int32) * nI m + nI p = nI (400 * m + p) := by rw [show (400 : Int32) = nI 400 from rfl, pk_mul, nI_add]
      refine ⟨1, ?_⟩
      rw [l_X10_wrongJump_14, e4, nI_clamp (by omega), hc, nI_1]
      exact ⟨vp_in_nI (by omega) (by decide), zip rfl (nx (fun h => absurd h2 (by omega)))⟩
    · refine ⟨_, l_mja hm hL hB (by omega) (by omega) (fun h => ?_) nx (njp A p) 0 (by omega) (fun q hq => absurd hq (by omega))⟩
      have := k (some (4 + p)) (Or.inr ⟨p, by omega, rfl, h, hq⟩)
      rw [show (4 : Int32) = nI 4 from rfl, nI_add]; exact this
theorem s_mjf {A : Nat → Nat → Nat} {m : Nat} {I : zI} {P : zP} {K : Int32 → zI → zP → Prop} (hm : m < 6) (hL : RM0 A m I) (hB : W0 A m) (k : ∀ r, jmpR A r → K (oI r) I P) : w_X10_wrongJump (nI m) I P K := ⟨_, l_mjf hm hL hB k (A 0 2) 0 (by omega) (fun q hq => absurd hq (by omega))⟩
theorem l_hf {A : Nat → Nat → Nat} {m : Nat} {I : zI} {P : zP} {K : Int32 → zI → zP → Prop} (hP : PSt P) (hm : m < 6) (hL : LM0 A m I) (hB : W0 A m) (k : ∀ r, hdlR A r → K (oI r) I P) : ∀ d h, h + d = A 0 3 → (∀ q, q < h → hok A q) → l_X3_handlerFault_2 K (d + 1) (20 + 12 * m) (nI h) I P := by
  have h9 := hL.2.2.1
  have h10 := hL.2.2.2.1
  have hh := hL.2.2.2.2.2
  have b1 := hB.2.2.2.2.1
  have b6 := hB.2.2.2.2.2.1
  have b8 := hB.2.2.2.2.2.2.2.1
  intro d
  induction d with
  | zero =>
    intro h hp hq
    obtain rfl : h = A 0 3 := by omega
    rw [l_X3_handlerFault_2]
    exact ⟨shM hm, zip (by rw [h10]; exact nI_le (Nat.le_refl _) (by omega)) (k none (Or.inl ⟨rfl, hq⟩))⟩
  | succ d ih =>
    intro h hp hq
    rw [l_X3_handlerFault_2]
    have nx : hok A h → l_X3_handlerFault_2 K (d + 1) (20 + 12 * m) (nI h + 1) I P := fun hj => by
      rw [nI_1]
      refine ih (h + 1) (by omega) (fun q hq1 => ?_)
      by_cases e : q = h
      · subst e; exact hj
      · exact hq q (by omega)
    have bad : ¬ hok A h → j_X3_handlerFault_87 K (20 + 12 * m) (nI h) I P := fun hb => by
      unfold j_X3_handlerFault_87
      have := k (some (4 + A 0 2 + 1 + 7 * h)) (Or.inr ⟨h, by omega, rfl, hb, hq⟩)
      refine ⟨shM hm, ?_⟩
      rw [h9, show (4 : Int32) = nI 4 from rfl, show (7 : Int32) = nI 7 from rfl, pk_mul, nI_add, nI_1, nI_add]; exact this
    have q0 := hh (4 * h + 0) (by omega)
    have q1 := hh (4 * h + 1) (by omega)
    have q2 := hh (4 * h + 2) (by omega)
    have v0 := b8 (4 * h)
    have v1 := b8 (4 * h + 1)
    have tl : ∀ s0 : Int32, (s0 = 0 → ¬ (A 3 (4 * h + 1) = A 0 2 ∨ isbg A (nI (A 3 (4 * h + 1))))) → (¬ s0 = 0 → (A 3 (4 * h + 1) = A 0 2 ∨ isbg A (nI (A 3 (4 * h + 1))))) → j_X3_handlerFault_51 (l_X3_handlerFault_2 K (d + 1)) K (20 + 12 * m) (nI h) (nI (A 3 (4 * h))) (nI (A 3 (4 * h + 1))) s0 I P := by
      intro s0 z0 z1
      unfold j_X3_handlerFault_51
      refine ⟨shM hm, ?_⟩
      by_cases g0 : isbg A (nI (A 3 (4 * h)))
      case neg => exact s_bg0 hP hm hL hB g0 (zip rfl (bad (fun q => g0 q.1)))
      refine s_bg1 hP hm hL hB g0 (zin (by decide) ?_)
      by_cases g1 : s0 = 0
      · exact zip g1 (bad (fun q => z0 g1 q.2.2.1))
      refine zin g1 ?_
      by_cases g2 : A 3 (4 * h + 1) ≤ A 3 (4 * h)
      · exact zip (nI_le g2 (by omega)) (bad (fun q => absurd q.2.2.2 (by omega)))
      refine zin (nI_ge (by omega) (by omega)) ⟨_, pM5 hP hm, s_hpart (w := 2) (shM5 hm) (zzM5 hm) (by decide) (by omega) ?_⟩
      rw [q2]
      by_cases g3 : isbg A (nI (A 3 (4 * h + 2)))
      · exact s_bg1 hP hm hL hB g3 (zin (by decide) (nx ⟨g0, g3, z1 g1, by omega⟩))
      · exact s_bg0 hP hm hL hB g3 (zip rfl (bad (fun q => g3 q.2.1)))
    refine ⟨shM hm, zin (by rw [h10]; exact nI_ge (by omega) (by omega)) ⟨_, pM5 hP hm, s_hpart (w := 0) (shM5 hm) (zzM5 hm) (by decide) (by omega) ⟨_, pM5 hP hm, s_hpart (w := 1) (shM5 hm) (zzM5 hm) (by decide) (by omega) ?_⟩⟩⟩
    rw [q0, q1, h9]
    by_cases g : A 3 (4 * h + 1) = A 0 2
    · exact zip (by rw [g]) (tl 1 (fun q => absurd q (by decide)) (fun _ => Or.inl g))
    · refine zin (fun e => g ((nI_eq (by omega) (by omega)).mp e)) ?_
      by_cases g2 : isbg A (nI (A 3 (4 * h + 1)))
      · exact s_bg1 hP hm hL hB g2 (zin (by decide) (tl 1 (fun q => absurd q (by decide)) (fun _ => Or.inr g2)))
      · exact s_bg0 hP hm hL hB g2 (zip rfl (tl 0 (fun _ q => q.elim g g2) (fun q => absurd rfl q)))
theorem s_hf {A : Nat → Nat → Nat} {m : Nat} {I : zI} {P : zP} {K : Int32 → zI → zP → Prop} (hP : PSt P) (hm : m < 6) (hL : LM0 A m I) (hB : W0 A m) (k : ∀ r, hdlR A r → K (oI r) I P) : w_X3_handlerFault (20 + 12 * m) I P K := ⟨_, l_hf hP hm hL hB k (A 0 3) 0 (by omega) (fun q hq => absurd hq (by omega))⟩
theorem l_mhf {A : Nat → Nat → Nat} {m : Nat} {I : zI} {P : zP} {K : Int32 → zI → zP → Prop} (hm : m < 6) (hL : RM0 A m I) (hB : W0 A m) (k : ∀ r, hdlR A r → K (oI r) I P) : ∀ d h, h + d = A 0 3 → (∀ q, q < h → hok A q) → l_X10_wrongHandler_2 K (d + 1) (nI m) (nI h) I P := by
  have h9 := hL.2.2.1
  have h10 := hL.2.2.2.1
  have hh := hL.2.2.2.2.2
  have b1 := hB.2.2.2.2.1
  have b6 := hB.2.2.2.2.2.1
  have b8 := hB.2.2.2.2.2.2.2.1
  intro d
  induction d with
  | zero =>
    intro h hp hq
    obtain rfl : h = A 0 3 := by omega
    rw [l_X10_wrongHandler_2]
    exact ⟨vp_in_nI hm (by decide), zip (by rw [nI_clamp (by omega), h10]; exact nI_le (Nat.le_refl _) (by omega)) (k none (Or.inl ⟨rfl, hq⟩))⟩
  | succ d ih =>
    intro h hp hq
    rw [l_X10_wrongHandler_2]
    have nx : hok A h → j_X10_wrongHandler_96 (l_X10_wrongHandler_2 K (d + 1)) K (nI m) (nI h) 1 I P := fun hj => by
      unfold j_X10_wrongHandler_96
      refine zin (by decide) ?_
      rw [nI_1]
      refine ih (h + 1) (by omega) (fun q hq1 => ?_)
      by_cases e : q = h
      · subst e; exact hj
      · exact hq q (by omega)
    have bad : ¬ hok A h → j_X10_wrongHandler_95 (l_X10_wrongHandler_2 K (d + 1)) K (nI m) (nI h) I P := fun hb => by
      unfold j_X10_wrongHandler_95 j_X10_wrongHandler_96
      have := k (some (4 + A 0 2 + 1 + 7 * h)) (Or.inr ⟨h, by omega, rfl, hb, hq⟩)
      refine zip rfl ⟨vp_in_nI hm (by decide), ?_⟩
      rw [nI_clamp (by omega), h9, show (4 : Int32) = nI 4 from rfl, show (7 : Int32) = nI 7 from rfl, pk_mul, nI_add, nI_1, nI_add]; exact this
    obtain ⟨q0, q1, q2, q3⟩ := hh h (by omega)
    have v0 := b8 (4 * h)
    have v1 := b8 (4 * h + 1)
    have e8 : 8 * nI m + nI h = nI (8 * m + h) := by rw [show (8 : Int32) = nI 8 from rfl, pk_mul, nI_add]
    rw [e8, nI_clamp (by omega), nI_clamp (by omega), q0, h10]
    refine ⟨vp_in_nI hm (by decide), zin (nI_ge (by omega) (by omega)) ⟨vp_in_nI (by omega) (by decide), ?_⟩⟩
    by_cases g0 : isbg A (nI (A 3 (4 * h)))
    case neg => exact s_mbg0 hm hL hB g0 (zip rfl (bad (fun q => g0 q.1)))
    refine s_mbg1 hm hL hB g0 (zin (by decide) ⟨vp_in_nI (by omega) (by decide), ?_⟩)
    rw [q2]
    by_cases g3 : isbg A (nI (A 3 (4 * h + 2)))
    case neg => exact s_mbg0 hm hL hB g3 (zip rfl (bad (fun q => g3 q.2.1)))
    refine s_mbg1 hm hL hB g3 (zin (by decide) ⟨vp_in_nI (by omega) (by decide), vp_in_nI hm (by decide), ?_⟩)
    rw [q1, h9]
    have tl : (A 3 (4 * h + 1) = A 0 2 ∨ isbg A (nI (A 3 (4 * h + 1)))) → j_X10_wrongHandler_76 (l_X10_wrongHandler_2 K (d + 1)) K (nI m) (nI h) (nI (8 * m + h)) I P := fun z => by
      unfold j_X10_wrongHandler_76
      rw [nI_clamp (by omega), q0, q1]
      refine ⟨vp_in_nI (by omega) (by decide), vp_in_nI (by omega) (by decide), ?_⟩
      by_cases g2 : A 3 (4 * h + 1) ≤ A 3 (4 * h)
      · exact zip (nI_le g2 (by omega)) (bad (fun q => absurd q.2.2.2 (by omega)))
      · exact zin (nI_ge (by omega) (by omega)) (nx ⟨g0, g3, z, by omega⟩)
    by_cases g : A 3 (4 * h + 1) = A 0 2
    · exact zip (by rw [g]) (tl (Or.inl g))
    · refine zin (fun e => g ((nI_eq (by omega) (by omega)).mp e)) ⟨vp_in_nI (by omega) (by decide), ?_⟩
      by_cases g2 : isbg A (nI (A 3 (4 * h + 1)))
      · exact s_mbg1 hm hL hB g2 (zin (by decide) (tl (Or.inr g2)))
      · exact s_mbg0 hm hL hB g2 (zip rfl (bad (fun q => q.2.2.1.elim g g2)))
theorem s_mhf {A : Nat → Nat → Nat} {m : Nat} {I : zI} {P : zP} {K : Int32 → zI → zP → Prop} (hm : m < 6) (hL : RM0 A m I) (hB : W0 A m) (k : ∀ r, hdlR A r → K (oI r) I P) : w_X10_wrongHandler (nI m) I P K := ⟨_, l_mhf hm hL hB k (A 0 3) 0 (by omega) (fun q hq => absurd hq (by omega))⟩
