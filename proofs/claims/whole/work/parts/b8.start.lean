/-! PURE 104: the beginning; every call -/
theorem rel_y : RelE IIy PPy := by
  have hI : ∀ m : Fin 6, IIy (20 + 12 * m.val) 0 = nI m.val ∧ IIy (26 + 12 * m.val) 5 = 0 ∧ IIy 175 m.val = -1 := by decide +kernel
  have hT : ∀ j : Fin 3, (IIy (93 + 5 * j.val) 4 = IIy 208 j.val ∧ IIy 208 j.val = -1 ∧ IIy (93 + 5 * j.val) 5 = 0 ∧ IIy (93 + 5 * j.val) 6 = 0 ∧ IIy (93 + 5 * j.val) 7 = 0 ∧ IIy (93 + 5 * j.val) 8 = 0 ∧ IIy (93 + 5 * j.val) 9 = -1 ∧ IIy (93 + 5 * j.val) 10 = -1 ∧ IIy (93 + 5 * j.val) 11 = 0 ∧ IIy (93 + 5 * j.val) 12 = 0) ∧ ∀ f : Fin 8, IIy (94 + 5 * j.val) f.val = 0 := by decide +kernel
  have h1 : ∀ j : Fin 600, IIy 1 j.val = nI 0 := by decide +kernel
  refine ⟨0, fun _ _ _ => 0, 0, fun _ _ => 0, ⟨0, fun _ => 0, by decide, by decide +kernel, by decide +kernel, fun j hj => ⟨by show (0 : Nat) < 256; decide, h1 ⟨j, hj⟩⟩, fun j hj => absurd hj (by omega)⟩, by decide +kernel, by decide +kernel, ⟨by decide, by decide +kernel, by decide +kernel, fun m hm => absurd hm (by omega)⟩, fun m hm => absurd hm (by omega), fun m hm => (hI ⟨m, hm⟩).1, ⟨by decide, by decide +kernel, by decide +kernel, fun q hq => absurd hq (by omega)⟩, fun m hm => Or.inl (hI ⟨m, hm⟩).2, fun j hj => ?_⟩
  obtain ⟨⟨t0, t1, t5, t6, t7, t8, t9, t10, t11, t12⟩, t13⟩ := hT ⟨j, hj⟩
  exact ⟨t0, Or.inl ⟨t1, t5, t6, t7, t8, t9, t10, t11, t12, fun f hf => t13 ⟨f, hf⟩⟩⟩
theorem step_all {a : Nat → Int32} {I : zI} {P : zP} (hP : PSt P) (h : RelE I P) : lawStep a RelE I P := by
  unfold lawStep
  exact ⟨fun _ => k_feed h, fun _ => k_cut h, fun _ => k_make hP h, fun _ => k_place h, fun _ => k_method hP h, fun _ => k_octet hP h, fun _ => k_handler hP h, fun _ => k_type hP h, fun _ => k_moved hP h, fun _ => k_probe hP h, fun _ => k_clear hP h, fun _ => k_weave hP h, fun _ => k_unweave hP h, fun _ => k_run hP h, fun _ => k_told hP h, fun _ => k_mark hP h, fun _ => k_field hP h, fun _ => k_record hP h, fun _ => k_records hP h, fun _ => k_differ hP h, fun _ => k_count h, fun _ _ _ _ _ _ _ _ _ _ _ _ _ _ _ _ _ _ _ _ _ => h⟩
theorem whole_start {p : Program} {e : Env} {s : State} {m : MethodId} {below : List Frame} {meth : Method} {c : Code} (l : Launch) {b L : Nat} {xs : Nat → Int32} (hL : L ≤ 3072) (C0 : lw_At p s m meth c b L xs) : W p l e room_1 s m #[Value.ref b] below meth c s.heap [] 0 0 (lw_Z below #[Value.ref b] s) (entryFrame m ([Value.ref b] : List Value).toArray 4) :=
  law_start l hL C0 (fun _ => RelE) rel_y (fun n I P hn hP h => step_all hP h)
