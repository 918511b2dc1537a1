/-! PURE 43: weaving: growth, sums, lengths, bytes -/
theorem by_lo {x : Int32} {z : Int} (h : x.toInt = z) : x &&& 255 = nI (lo8 z) := by
  rw [pk_and x (m := 255) 8 (by decide)]
  congr 1
  unfold lo8
  rw [← h]
  have e : x.toInt = x.toBitVec.toInt := rfl
  rw [e, BitVec.toInt_eq_toNat_cond]
  have := x.toBitVec.isLt
  split <;> omega
theorem by_hi {x : Int32} {z : Int} (h : x.toInt = z) : (x >>> ((8 : Int32) &&& 31)) &&& 255 = nI (hi8 z) := by
  have e := pk_shr x ((8 : Int32) &&& 31) 8 (by decide)
  rw [by_lo e, Int.shiftRight_eq_div_pow, h]
  rfl
theorem lo8_lt (z : Int) : lo8 z < 256 := by unfold lo8; omega
theorem hi8_lt (z : Int) : hi8 z < 256 := by unfold hi8; omega
theorem by_n {b : Nat} (h : b < 256) : nI b &&& 255 = nI b := by
  rw [pk_andN (m := 255) (by omega) 8 (by decide), Nat.mod_eq_of_lt h]
def farB (a b : Nat) : Bool := decide (¬ (-128 ≤ (b : Int) - a ∧ (b : Int) - a ≤ 127))
theorem farB_t {a b : Nat} : farB a b = true ↔ far a b := by unfold farB far; rw [decide_eq_true_iff]
/-- one round of growth -/
def grw (A : Nat → Nat → Nat) (m : Nat) (B : Nat → Nat → Nat) (w : Nat) (F : Nat → Nat → Nat) (i p : Nat) : Nat :=
  if i = 0 then (if p < A 0 2 ∧ 0 < A 2 p ∧ isSt (A 1 p) ∧ farB (Sp A m B w F p) (dst A m B w F p 0) = true then 1 else F 0 p)
  else if i = 1 then (if p < A 0 2 ∧ 0 < cnq B m 1 p w ∧ farB (SPp A m B w F p + 3 * cnq B m 1 p w) (Gp A m B w F (tgn A p 0)) = true then 1 else F 1 p)
  else if i = 2 then (if p < A 0 3 ∧ 0 < cnq B m 5 (A 3 (4 * p + 2)) w ∧ farB (CPp A m B w F p + 2 * cnq B m 5 (A 3 (4 * p + 2)) w) (Gp A m B w F (A 3 (4 * p + 2))) = true then 1 else F 2 p)
  else F i p
def grI (A : Nat → Nat → Nat) (m : Nat) (B : Nat → Nat → Nat) (w : Nat) : Nat → Nat → Nat → Nat
  | 0 => fun _ _ => 0
  | n + 1 => grw A m B w (grI A m B w n)
/-- the flags that can be -/
def FOK (A : Nat → Nat → Nat) (m : Nat) (B : Nat → Nat → Nat) (w : Nat) (F : Nat → Nat → Nat) : Prop :=
  (∀ i p, F i p ≤ 1) ∧ (∀ p, F 0 p = 1 → p < A 0 2 ∧ 0 < A 2 p ∧ isSt (A 1 p)) ∧ (∀ p, F 1 p = 1 → p < A 0 2 ∧ 0 < cnq B m 1 p w) ∧ (∀ p, F 2 p = 1 → p < A 0 3 ∧ 0 < cnq B m 5 (A 3 (4 * p + 2)) w)
theorem grw0 {A B F : Nat → Nat → Nat} {m w p : Nat} : grw A m B w F 0 p = if p < A 0 2 ∧ 0 < A 2 p ∧ isSt (A 1 p) ∧ farB (Sp A m B w F p) (dst A m B w F p 0) = true then 1 else F 0 p := by unfold grw; rw [if_pos rfl]
theorem grw1 {A B F : Nat → Nat → Nat} {m w p : Nat} : grw A m B w F 1 p = if p < A 0 2 ∧ 0 < cnq B m 1 p w ∧ farB (SPp A m B w F p + 3 * cnq B m 1 p w) (Gp A m B w F (tgn A p 0)) = true then 1 else F 1 p := by unfold grw; rw [if_neg (by decide), if_pos rfl]
theorem grw2 {A B F : Nat → Nat → Nat} {m w p : Nat} : grw A m B w F 2 p = if p < A 0 3 ∧ 0 < cnq B m 5 (A 3 (4 * p + 2)) w ∧ farB (CPp A m B w F p + 2 * cnq B m 5 (A 3 (4 * p + 2)) w) (Gp A m B w F (A 3 (4 * p + 2))) = true then 1 else F 2 p := by unfold grw; rw [if_neg (by decide), if_neg (by decide), if_pos rfl]
theorem grw3 {A B F : Nat → Nat → Nat} {m w i p : Nat} (h : 3 ≤ i) : grw A m B w F i p = F i p := by unfold grw; rw [if_neg (by omega), if_neg (by omega), if_neg (by omega)]
theorem i_cases (i : Nat) : i = 0 ∨ i = 1 ∨ i = 2 ∨ 3 ≤ i := by omega
theorem grw_le {A B F : Nat → Nat → Nat} {m w : Nat} (h : ∀ i p, F i p ≤ 1) (i p : Nat) : F i p ≤ grw A m B w F i p ∧ grw A m B w F i p ≤ 1 := by
  have := h i p
  rcases i_cases i with rfl | rfl | rfl | g
  · rw [grw0]; split <;> omega
  · rw [grw1]; split <;> omega
  · rw [grw2]; split <;> omega
  · rw [grw3 g]; omega
theorem FOK_g {A B F : Nat → Nat → Nat} {m w : Nat} (h : FOK A m B w F) : FOK A m B w (grw A m B w F) := by
  obtain ⟨h1, h2, h3, h4⟩ := h
  refine ⟨fun i p => (grw_le h1 i p).2, fun p e => ?_, fun p e => ?_, fun p e => ?_⟩
  · rw [grw0] at e; split at e
    · rename_i c; exact ⟨c.1, c.2.1, c.2.2.1⟩
    · exact h2 p e
  · rw [grw1] at e; split at e
    · rename_i c; exact ⟨c.1, c.2.1⟩
    · exact h3 p e
  · rw [grw2] at e; split at e
    · rename_i c; exact ⟨c.1, c.2.1⟩
    · exact h4 p e
theorem FOK_I {A B : Nat → Nat → Nat} {m w : Nat} : ∀ n, FOK A m B w (grI A m B w n)
  | 0 => ⟨fun _ _ => Nat.zero_le _, fun p e => absurd e Nat.zero_ne_one, fun p e => absurd e Nat.zero_ne_one, fun p e => absurd e Nat.zero_ne_one⟩
  | n + 1 => FOK_g (FOK_I n)
theorem grI_st {A B : Nat → Nat → Nat} {m w n : Nat} (h : grw A m B w (grI A m B w n) = grI A m B w n) : ∀ d, grI A m B w (n + d) = grI A m B w n
  | 0 => rfl
  | d + 1 => by rw [show n + (d + 1) = (n + d) + 1 by omega, grI, grI_st h d, h]
theorem grI_u {A B : Nat → Nat → Nat} {m w n k : Nat} (h : grw A m B w (grI A m B w n) = grI A m B w n) (g : grw A m B w (grI A m B w k) = grI A m B w k) : grI A m B w n = grI A m B w k := by
  by_cases e : n ≤ k
  · have := grI_st h (k - n); rw [show n + (k - n) = k by omega] at this; exact this.symm
  · have := grI_st g (n - k); rw [show k + (n - k) = n by omega] at this; exact this
theorem stl_g {A B F : Nat → Nat → Nat} {m w : Nat} (h : grw A m B w F = F) : stl A m B w F := by
  refine ⟨fun p hp h2 hs h0 hf => ?_, fun p hp h2 h0 hf => ?_, fun k hk h2 h0 hf => ?_⟩
  · have e : grw A m B w F 0 p = F 0 p := by rw [h]
    rw [grw0, if_pos ⟨hp, h2, hs, farB_t.mpr hf⟩] at e; omega
  · have e : grw A m B w F 1 p = F 1 p := by rw [h]
    rw [grw1, if_pos ⟨hp, h2, farB_t.mpr hf⟩] at e; omega
  · have e : grw A m B w F 2 k = F 2 k := by rw [h]
    rw [grw2, if_pos ⟨hk, h2, farB_t.mpr hf⟩] at e; omega
/-! sums -/
def sm (f : Nat → Nat) : Nat → Nat
  | 0 => 0
  | n + 1 => sm f n + f n
theorem sm_le {f g : Nat → Nat} : ∀ {n : Nat}, (∀ p, p < n → f p ≤ g p) → sm f n ≤ sm g n
  | 0, _ => Nat.le_refl _
  | n + 1, h => by
    have h1 := sm_le (fun p hp => h p (Nat.lt_succ_of_lt hp))
    have h2 := h n (Nat.lt_succ_self n)
    rw [sm, sm]; omega
theorem sm_lt {f g : Nat → Nat} : ∀ {n : Nat}, (∀ p, p < n → f p ≤ g p) → (∃ p, p < n ∧ f p < g p) → sm f n + 1 ≤ sm g n
  | 0, _, ⟨p, hp, _⟩ => absurd hp (Nat.not_lt_zero p)
  | n + 1, h, ⟨p, hp, e⟩ => by
    have h1 := sm_le (fun p hp => h p (Nat.lt_succ_of_lt hp))
    have h2 := h n (Nat.lt_succ_self n)
    rw [sm, sm]
    by_cases z : p = n
    · subst z; omega
    · have h3 := sm_lt (fun p hp => h p (Nat.lt_succ_of_lt hp)) ⟨p, by omega, e⟩
      omega
theorem sm_1 {f : Nat → Nat} : ∀ {n : Nat}, (∀ p, p < n → f p ≤ 1) → sm f n ≤ n
  | 0, _ => Nat.le_refl _
  | n + 1, h => by
    have h1 := sm_1 (fun p hp => h p (Nat.lt_succ_of_lt hp))
    have h2 := h n (Nat.lt_succ_self n)
    rw [sm]; omega
theorem sm_pt {f : Nat → Nat} {c : Nat} (h : ∀ p, p ≠ c → f p = 0) (h1 : f c ≤ 1) : ∀ n, (n ≤ c → sm f n = 0) ∧ sm f n ≤ 1
  | 0 => ⟨fun _ => rfl, Nat.zero_le _⟩
  | n + 1 => by
    obtain ⟨a, b⟩ := sm_pt h h1 n
    rw [sm]
    by_cases e : n = c
    · subst e; have := a (Nat.le_refl _); omega
    · rw [h n e]; exact ⟨fun q => a (by omega), by omega⟩
theorem sm_add {f g : Nat → Nat} : ∀ n, sm (fun p => f p + g p) n = sm f n + sm g n
  | 0 => rfl
  | n + 1 => by rw [sm, sm, sm, sm_add n]; omega
theorem sm_cnq {B : Nat → Nat → Nat} {m s n : Nat} : ∀ w, sm (fun p => cnq B m s p w) n ≤ w
  | 0 => by
    have : ∀ k, sm (fun p => cnq B m s p 0) k = 0 := fun k => by
      induction k with
      | zero => rfl
      | succ k ih => rw [sm, ih]; rfl
    rw [this]; exact Nat.le_refl _
  | w + 1 => by
    have e : (fun p => cnq B m s p (w + 1)) = fun p => cnq B m s p w + (if atq B m s p w then 1 else 0) := by
      funext p; rw [cnq]; split <;> rfl
    rw [e, sm_add]
    have h1 := sm_cnq (B := B) (m := m) (s := s) (n := n) w
    have h2 := (sm_pt (f := fun p => if atq B m s p w then 1 else 0) (c := B 2 w) (fun p hp => if_neg (fun q => hp q.2.2.symm)) (by split <;> omega) n).2
    omega
def smF (F : Nat → Nat → Nat) : Nat := sm (F 0) 400 + sm (F 1) 400 + sm (F 2) 8
theorem smF_le {A B F : Nat → Nat → Nat} {m w : Nat} (h : FOK A m B w F) (hw : w ≤ 24) : smF F ≤ 432 := by
  obtain ⟨h1, -, h3, -⟩ := h
  have a := sm_1 (f := F 0) (n := 400) (fun p _ => h1 0 p)
  have c := sm_1 (f := F 2) (n := 8) (fun p _ => h1 2 p)
  have b : sm (F 1) 400 ≤ sm (fun p => cnq B m 1 p w) 400 := sm_le (fun p _ => by
    have := h1 1 p
    by_cases e : F 1 p = 1
    · have := (h3 p e).2; omega
    · omega)
  have d := sm_cnq (B := B) (m := m) (s := 1) (n := 400) w
  unfold smF; omega
theorem smF_up {A B F : Nat → Nat → Nat} {m w : Nat} (hl : A 0 2 ≤ 400) (hh : A 0 3 ≤ 8) (h : FOK A m B w F) (g : grw A m B w F ≠ F) : smF F + 1 ≤ smF (grw A m B w F) := by
  have h1 := h.1
  have ge : ∀ i n, sm (F i) n ≤ sm (grw A m B w F i) n := fun i n => sm_le (fun p _ => (grw_le h1 i p).1)
  by_cases z : ∃ i p, grw A m B w F i p ≠ F i p
  · obtain ⟨i, p, e⟩ := z
    have q := (grw_le (A := A) (B := B) (m := m) (w := w) h1 i p).1
    have a0 := ge 0 400
    have a1 := ge 1 400
    have a2 := ge 2 8
    unfold smF
    rcases i_cases i with rfl | rfl | rfl | g
    · have hp : p < 400 := by
        rw [grw0] at e; split at e
        · rename_i c; omega
        · exact absurd rfl e
      have := sm_lt (n := 400) (fun p _ => (grw_le (A := A) (B := B) (m := m) (w := w) h1 0 p).1) ⟨p, hp, by omega⟩
      omega
    · have hp : p < 400 := by
        rw [grw1] at e; split at e
        · rename_i c; omega
        · exact absurd rfl e
      have := sm_lt (n := 400) (fun p _ => (grw_le (A := A) (B := B) (m := m) (w := w) h1 1 p).1) ⟨p, hp, by omega⟩
      omega
    · have hp : p < 8 := by
        rw [grw2] at e; split at e
        · rename_i c; omega
        · exact absurd rfl e
      have := sm_lt (n := 8) (fun p _ => (grw_le (A := A) (B := B) (m := m) (w := w) h1 2 p).1) ⟨p, hp, by omega⟩
      omega
    · exact absurd (grw3 g) e
  · exact absurd (funext fun i => funext fun p => Classical.byContradiction fun q => z ⟨i, p, q⟩) g
theorem grw_eq {A B F : Nat → Nat → Nat} {m w : Nat} (h0 : ∀ p, p < A 0 2 → grw A m B w F 0 p = F 0 p ∧ grw A m B w F 1 p = F 1 p) (h2 : ∀ k, k < A 0 3 → grw A m B w F 2 k = F 2 k) : grw A m B w F = F := by
  funext i p
  rcases i_cases i with rfl | rfl | rfl | g
  · by_cases hp : p < A 0 2
    · exact (h0 p hp).1
    · rw [grw0, if_neg (fun q => hp q.1)]
  · by_cases hp : p < A 0 2
    · exact (h0 p hp).2
    · rw [grw1, if_neg (fun q => hp q.1)]
  · by_cases hp : p < A 0 3
    · exact h2 p hp
    · rw [grw2, if_neg (fun q => hp q.1)]
  · exact grw3 g
/-! lengths -/
theorem cnq_s {B : Nat → Nat → Nat} {m s p q : Nat} : cnq B m s p (q + 1) = cnq B m s p q + if atq B m s p q then 1 else 0 := by
  rw [cnq]; split <;> rfl
theorem len_E {B : Nat → Nat → Nat} {m : Nat} : ∀ w, (cat (fE m B) w).length = 2 * cnq B m 2 0 w
  | 0 => rfl
  | w + 1 => by
    rw [cat, List.length_append, len_E w, cnq_s, fE]; split
    · rfl
    · rfl
theorem len_P {B : Nat → Nat → Nat} {m p : Nat} : ∀ w, (cat (fP m B p) w).length = 2 * (cnq B m 0 p w + cnq B m 6 p w)
  | 0 => rfl
  | w + 1 => by
    rw [cat, List.length_append, len_P w, cnq_s, cnq_s, fP]
    by_cases h : atq B m 0 p w
    · have h' : ¬ atq B m 6 p w := fun q => by have := h.1.symm.trans q.1; omega
      rw [if_pos h, if_pos h, if_neg h']; show _ + 2 = _; omega
    · by_cases h' : atq B m 6 p w
      · rw [if_neg h, if_neg h, if_pos h', if_pos h']; show _ + 2 = _; omega
      · rw [if_neg h, if_neg h, if_neg h', if_neg h']; rfl
theorem len_L {A B : Nat → Nat → Nat} {m p : Nat} : ∀ w, (cat (fL A m B p) w).length = if A 1 p = 42 then 2 * cnq B m 3 0 w else 0
  | 0 => by split <;> rfl
  | w + 1 => by
    rw [cat, List.length_append, len_L w, cnq_s, fL]
    by_cases e : A 1 p = 42
    · by_cases h : atq B m 3 0 w
      · rw [if_pos e, if_pos e, if_pos ⟨e, h⟩, if_pos h]; show _ + 2 = _; omega
      · rw [if_pos e, if_pos e, if_neg (fun q => h q.2), if_neg h]; rfl
    · rw [if_neg e, if_neg e, if_neg (fun q => e q.1)]; rfl
theorem len_O {B : Nat → Nat → Nat} {m p : Nat} : ∀ w, (cat (fO m B p) w).length = 2 * cnq B m 4 p w
  | 0 => rfl
  | w + 1 => by
    rw [cat, List.length_append, len_O w, cnq_s, fO]; split
    · rfl
    · rfl
theorem len_B {B : Nat → Nat → Nat} {m p : Nat} : ∀ w, (cat (fB m B p) w).length = bhn m B w p
  | 0 => rfl
  | w + 1 => by
    rw [cat, List.length_append, len_B w]
    unfold bhn
    rw [cnq_s, cnq_s, cnq_s, fB]
    by_cases h4 : atq B m 4 p w
    · have h7 : ¬ atq B m 7 p w := fun q => by have := h4.1.symm.trans q.1; omega
      have h1 : ¬ atq B m 1 p w := fun q => by have := h4.1.symm.trans q.1; omega
      rw [if_pos h4, if_pos h4, if_neg h7, if_neg h1]; show _ + 2 = _; omega
    · by_cases h7 : atq B m 7 p w
      · have h1 : ¬ atq B m 1 p w := fun q => by have := h7.1.symm.trans q.1; omega
        rw [if_neg h4, if_neg h4, if_pos h7, if_pos h7, if_neg h1]; show _ + 2 = _; omega
      · by_cases h1 : atq B m 1 p w
        · rw [if_neg h4, if_neg h4, if_neg h7, if_neg h7, if_pos h1, if_pos h1]; show _ + 3 = _; omega
        · rw [if_neg h4, if_neg h4, if_neg h7, if_neg h7, if_neg h1, if_neg h1]; show _ + 0 = _; omega
theorem len_k {α : Type} {f : Nat → List α} {k : Nat} (h : ∀ i, (f i).length = k) : ∀ n, (cat f n).length = k * n
  | 0 => rfl
  | n + 1 => by rw [cat, List.length_append, len_k h n, h n, Nat.mul_succ]
theorem len_jl {op h o : Nat} {z : Int} {lg : Bool} : (jl op lg z h o).length = if lg then 3 else 2 := by unfold jl; split <;> rfl
theorem len_s {A B F : Nat → Nat → Nat} {m w p : Nat} (hW : W0 A m) (hF : FOK A m B w F) (hp : p < A 0 2) (h2 : 0 < A 2 p) : (selfL A m B w F p).length = A 2 p + F 0 p := by
  obtain ⟨c1, c2, -⟩ := hW.2.2.2.2.2.2.2.2.2.1 p hp h2
  have f1 := hF.1 0 p
  have f2 := hF.2.1 p
  unfold selfL
  unfold opz at c2
  by_cases g : isSt (A 1 p) ∨ isLg (A 1 p)
  · rw [if_pos g, len_jl]
    rcases g with g | g
    · rw [if_neg (by unfold isSt at g; omega), fxz_st g] at c2
      by_cases e : F 0 p = 1
      · rw [if_pos (decide_eq_true (Or.inr e))]; omega
      · rw [if_neg (by rw [decide_eq_true_iff]; rintro (q | q); · unfold isSt isLg at *; omega
                       · exact e q)]; omega
    · rw [if_neg (by unfold isLg at g; omega), fxz_lg g] at c2
      rw [if_pos (decide_eq_true (Or.inl g))]
      have : F 0 p ≠ 1 := fun q => by have := (f2 q).2.2; unfold isSt isLg at *; omega
      omega
  · rw [if_neg g]
    have e0 : F 0 p = 0 := by
      have : F 0 p ≠ 1 := fun q => g (Or.inl (f2 q).2.2)
      omega
    by_cases e : A 1 p = 33
    · rw [if_pos e] at c2 ⊢
      rw [List.length_cons, List.length_cons, len_k (k := 2) (fun i => rfl)]
      unfold njp; rw [if_pos e]; omega
    · rw [if_neg e, len_k (k := 1) (fun i => rfl)]; omega
theorem len_g {A B F : Nat → Nat → Nat} {m w p : Nat} (hW : W0 A m) (hF : FOK A m B w F) (hp : p < A 0 2) (h2 : 0 < A 2 p) : (grpL A m B w F p).length = ahn A m B w p + A 2 p + F 0 p + bhn m B w p := by
  unfold grpL
  rw [if_neg (by omega), List.length_append, List.length_append, List.length_append, List.length_append, len_P, len_L, len_O, len_B, len_s hW hF hp h2]
  unfold ahn; omega
theorem len_c {B : Nat → Nat → Nat} {m s p : Nat} {f : Nat → List WB3} {k : Nat} (h : ∀ q, (f q).length = k) : ∀ w, (cat (fun q => if atq B m s p q then f q else []) w).length = k * cnq B m s p w
  | 0 => rfl
  | w + 1 => by
    rw [cat, List.length_append, len_c h w, cnq_s]
    by_cases e : atq B m s p w
    · rw [if_pos e, if_pos e, h w, Nat.mul_succ]
    · rw [if_neg e, if_neg e]; rfl
/-! the written so far -/
def pfG (A : Nat → Nat → Nat) (m : Nat) (B : Nat → Nat → Nat) (w : Nat) (F : Nat → Nat → Nat) (p : Nat) : List WB3 := cat (fE m B) w ++ cat (grpL A m B w F) p
def pfS (A : Nat → Nat → Nat) (m : Nat) (B : Nat → Nat → Nat) (w : Nat) (F : Nat → Nat → Nat) (p : Nat) : List WB3 := pfG A m B w F (A 0 2) ++ cat (spL A m B w F) p
def pfC (A : Nat → Nat → Nat) (m : Nat) (B : Nat → Nat → Nat) (w : Nat) (F : Nat → Nat → Nat) (k : Nat) : List WB3 := pfS A m B w F (A 0 2) ++ cat (cpL A m B w F) k
theorem codL_e {A B F : Nat → Nat → Nat} {m w : Nat} : codL A m B w F = pfC A m B w F (A 0 3) ++ lfL m B w := rfl
theorem len_pG {A B F : Nat → Nat → Nat} {m w : Nat} (hW : W0 A m) (hF : FOK A m B w F) : ∀ p, p ≤ A 0 2 → (pfG A m B w F p).length = Gp A m B w F p
  | 0, _ => by unfold pfG; rw [cat, List.append_nil, len_E]; rfl
  | p + 1, hp => by
    have ih := len_pG hW hF p (by omega)
    unfold pfG at ih ⊢
    rw [List.length_append] at ih ⊢
    rw [cat, List.length_append, Gp]
    by_cases e : A 2 p = 0
    · rw [if_pos e]; unfold grpL at ih ⊢; rw [if_pos e]; exact ih
    · rw [if_neg e, len_g hW hF hp (by omega)]; omega
theorem len_pS {A B F : Nat → Nat → Nat} {m w : Nat} (hW : W0 A m) (hF : FOK A m B w F) : ∀ p, p ≤ A 0 2 → (pfS A m B w F p).length = SPp A m B w F p
  | 0, _ => by unfold pfS; rw [cat, List.append_nil, len_pG hW hF _ (Nat.le_refl _)]; rfl
  | p + 1, hp => by
    have ih := len_pS hW hF p (by omega)
    unfold pfS at ih ⊢
    rw [List.length_append] at ih ⊢
    rw [cat, List.length_append, SPp]
    by_cases e : cnq B m 1 p w = 0
    · rw [if_pos e]; unfold spL at ih ⊢; rw [if_pos e]; exact ih
    · rw [if_neg e]
      have : (spL A m B w F p).length = 3 * cnq B m 1 p w + 2 + F 1 p := by
        unfold spL
        rw [if_neg e, List.length_append, len_c (k := 3) (fun q => rfl), len_jl]
        have f1 := hF.1 1 p
        by_cases z : F 1 p = 1
        · rw [if_pos (decide_eq_true z)]; omega
        · rw [if_neg (by rw [decide_eq_true_iff]; exact z)]; omega
      omega
theorem len_pC {A B F : Nat → Nat → Nat} {m w : Nat} (hW : W0 A m) (hF : FOK A m B w F) : ∀ k, k ≤ A 0 3 → (pfC A m B w F k).length = CPp A m B w F k
  | 0, _ => by unfold pfC; rw [cat, List.append_nil, len_pS hW hF _ (Nat.le_refl _)]; rfl
  | p + 1, hp => by
    have ih := len_pC hW hF p (by omega)
    unfold pfC at ih ⊢
    rw [List.length_append] at ih ⊢
    rw [cat, List.length_append, CPp]
    by_cases e : cnq B m 5 (A 3 (4 * p + 2)) w = 0
    · rw [if_pos e]; unfold cpL at ih ⊢; rw [if_pos e]; exact ih
    · rw [if_neg e]
      have : (cpL A m B w F p).length = 2 * cnq B m 5 (A 3 (4 * p + 2)) w + 2 + F 2 p := by
        unfold cpL
        rw [if_neg e, List.length_append, len_c (k := 2) (fun q => rfl), len_jl]
        have f1 := hF.1 2 p
        by_cases z : F 2 p = 1
        · rw [if_pos (decide_eq_true z)]; omega
        · rw [if_neg (by rw [decide_eq_true_iff]; exact z)]; omega
      omega
theorem len_lf {B : Nat → Nat → Nat} {m w : Nat} : (lfL m B w).length = if cnq B m 3 0 w = 0 then 0 else 2 * cnq B m 3 0 w + 1 := by
  unfold lfL; split
  · rfl
  · rw [List.length_append, len_c (k := 2) (fun q => rfl)]; rfl
theorem len_cod {A B F : Nat → Nat → Nat} {m w : Nat} (hW : W0 A m) (hF : FOK A m B w F) : (codL A m B w F).length = TOT A m B w F := by
  rw [codL_e, List.length_append, len_pC hW hF _ (Nat.le_refl _), len_lf]; rfl
theorem Gp_mono {A B F : Nat → Nat → Nat} {m w p : Nat} : ∀ d, Gp A m B w F p ≤ Gp A m B w F (p + d)
  | 0 => Nat.le_refl _
  | d + 1 => by
    have := Gp_mono (A := A) (B := B) (F := F) (m := m) (w := w) (p := p) d
    rw [show p + (d + 1) = (p + d) + 1 by omega, Gp]; split <;> omega
theorem SP_mono {A B F : Nat → Nat → Nat} {m w p : Nat} : ∀ d, SPp A m B w F p ≤ SPp A m B w F (p + d)
  | 0 => Nat.le_refl _
  | d + 1 => by
    have := SP_mono (A := A) (B := B) (F := F) (m := m) (w := w) (p := p) d
    rw [show p + (d + 1) = (p + d) + 1 by omega, SPp]; split <;> omega
theorem CP_mono {A B F : Nat → Nat → Nat} {m w p : Nat} : ∀ d, CPp A m B w F p ≤ CPp A m B w F (p + d)
  | 0 => Nat.le_refl _
  | d + 1 => by
    have := CP_mono (A := A) (B := B) (F := F) (m := m) (w := w) (p := p) d
    rw [show p + (d + 1) = (p + d) + 1 by omega, CPp]; split <;> omega
theorem Gp_le {A B F : Nat → Nat → Nat} {m w p : Nat} (h : p ≤ A 0 2) : Gp A m B w F p ≤ SPp A m B w F 0 := by
  have := Gp_mono (A := A) (B := B) (F := F) (m := m) (w := w) (p := p) (A 0 2 - p)
  rw [show p + (A 0 2 - p) = A 0 2 by omega] at this; exact this
theorem SP_le {A B F : Nat → Nat → Nat} {m w p : Nat} (h : p ≤ A 0 2) : SPp A m B w F p ≤ CPp A m B w F 0 := by
  have := SP_mono (A := A) (B := B) (F := F) (m := m) (w := w) (p := p) (A 0 2 - p)
  rw [show p + (A 0 2 - p) = A 0 2 by omega] at this; exact this
theorem CP_le {A B F : Nat → Nat → Nat} {m w p : Nat} (h : p ≤ A 0 3) : CPp A m B w F p ≤ LPp A m B w F := by
  have := CP_mono (A := A) (B := B) (F := F) (m := m) (w := w) (p := p) (A 0 3 - p)
  rw [show p + (A 0 3 - p) = A 0 3 by omega] at this; exact this
theorem SP_0 {A B F : Nat → Nat → Nat} {m w : Nat} (p : Nat) : SPp A m B w F 0 ≤ SPp A m B w F p := by
  have := SP_mono (A := A) (B := B) (F := F) (m := m) (w := w) (p := 0) p
  rw [show 0 + p = p by omega] at this; exact this
theorem CP_0 {A B F : Nat → Nat → Nat} {m w : Nat} (p : Nat) : CPp A m B w F 0 ≤ CPp A m B w F p := by
  have := CP_mono (A := A) (B := B) (F := F) (m := m) (w := w) (p := 0) p
  rw [show 0 + p = p by omega] at this; exact this
theorem LP_le {A B F : Nat → Nat → Nat} {m w : Nat} : LPp A m B w F ≤ TOT A m B w F := by unfold TOT; omega
/-! how large it can get -/
theorem cnq_le {B : Nat → Nat → Nat} {m s p : Nat} : ∀ w, cnq B m s p w ≤ w
  | 0 => Nat.le_refl _
  | w + 1 => by have := cnq_le (B := B) (m := m) (s := s) (p := p) w; rw [cnq_s]; split <;> omega
theorem ahn_le {A B : Nat → Nat → Nat} {m w p : Nat} (h : w ≤ 24) : ahn A m B w p ≤ 192 := by
  have a := cnq_le (B := B) (m := m) (s := 0) (p := p) w
  have b := cnq_le (B := B) (m := m) (s := 6) (p := p) w
  have c := cnq_le (B := B) (m := m) (s := 3) (p := 0) w
  have d := cnq_le (B := B) (m := m) (s := 4) (p := p) w
  unfold ahn; split <;> omega
theorem bhn_le {B : Nat → Nat → Nat} {m w p : Nat} (h : w ≤ 24) : bhn m B w p ≤ 168 := by
  have a := cnq_le (B := B) (m := m) (s := 1) (p := p) w
  have b := cnq_le (B := B) (m := m) (s := 4) (p := p) w
  have c := cnq_le (B := B) (m := m) (s := 7) (p := p) w
  unfold bhn; omega
theorem Gp_lt {A B F : Nat → Nat → Nat} {m w : Nat} (hw : w ≤ 24) (hF : ∀ i p, F i p ≤ 1) (hA : ∀ p, p < A 0 2 → A 2 p ≤ 36) : ∀ p, p ≤ A 0 2 → Gp A m B w F p ≤ 48 + 397 * p
  | 0, _ => by have := cnq_le (B := B) (m := m) (s := 2) (p := 0) w; rw [Gp]; omega
  | p + 1, hp => by
    have := Gp_lt (B := B) (m := m) hw hF hA p (by omega)
    have := ahn_le (A := A) (B := B) (m := m) (p := p) hw
    have := bhn_le (B := B) (m := m) (p := p) hw
    have := hF 0 p
    have := hA p (by omega)
    rw [Gp]; split <;> omega
theorem SP_lt {A B F : Nat → Nat → Nat} {m w : Nat} (hw : w ≤ 24) (hF : ∀ i p, F i p ≤ 1) (hA : ∀ p, p < A 0 2 → A 2 p ≤ 36) : ∀ p, SPp A m B w F p ≤ 48 + 397 * A 0 2 + 75 * p
  | 0 => Gp_lt hw hF hA _ (Nat.le_refl _)
  | p + 1 => by
    have := SP_lt (B := B) (m := m) hw hF hA p
    have := cnq_le (B := B) (m := m) (s := 1) (p := p) w
    have := hF 1 p
    rw [SPp]; split <;> omega
theorem CP_lt {A B F : Nat → Nat → Nat} {m w : Nat} (hw : w ≤ 24) (hF : ∀ i p, F i p ≤ 1) (hA : ∀ p, p < A 0 2 → A 2 p ≤ 36) : ∀ p, CPp A m B w F p ≤ 48 + 472 * A 0 2 + 75 * p
  | 0 => by have := SP_lt (A := A) (B := B) (m := m) hw hF hA (A 0 2); rw [CPp]; omega
  | p + 1 => by
    have := CP_lt (B := B) (m := m) hw hF hA p
    have := cnq_le (B := B) (m := m) (s := 5) (p := A 3 (4 * p + 2)) w
    have := hF 2 p
    rw [CPp]; split <;> omega
theorem TOT_lt {A B F : Nat → Nat → Nat} {m w : Nat} (hw : w ≤ 24) (hF : ∀ i p, F i p ≤ 1) (hA : ∀ p, p < A 0 2 → A 2 p ≤ 36) (hl : A 0 2 ≤ 400) (hh : A 0 3 ≤ 8) : TOT A m B w F ≤ 200000 := by
  have := CP_lt (A := A) (B := B) (m := m) hw hF hA (A 0 3)
  have := cnq_le (B := B) (m := m) (s := 3) (p := 0) w
  unfold TOT LPp; split <;> omega
