theorem pn_J7 : plainName RJ7 = true := by decide +kernel
theorem znm : ∀ q ∈ zNest, q.2.2.1.cls ≠ "java/lang/Math" := by decide +kernel
theorem g_mmin {κ : zX} {y : MethodName} {cc : ByteArray} {nL : Nat} {ret : Option FieldType} {fr lo : Nat} (cx : Cx y cc nL ret fr lo κ) {pc : Nat} {L st : List Value} {sh : zSh} {I : zI} {P : zP} {ce sl idx : Nat} {x z : Int32} (hl2 : zMl y.cls idx yJ9_min_7cf53) (hd : decode cc pc = .ok (.invokestatic idx, 3)) (hlv : st.all zlive = true) (hst : st.length ≤ 8) (hf1 : 1 ≤ fr) (hf2 : 21 ≤ lo) (hc0 : ce = 0) (hs0 : sl = 0) (kk : Gx κ (pc + 3) L (.int (if z < x then z else x) :: st) sh I P ce sl) : Gx κ pc L (.int z :: .int x :: st) sh I P ce sl := by
  obtain ⟨p, l, e, R, s, m, args, below, meth, c, Q, D, dA, b, tA, nq⟩ := κ
  obtain ⟨hx, hb, hr, hml, rfl, hown, hts, hK, hnm, hlk0, hfr, hlo, hbs⟩ := cx
  intro H locs ls hP hz hS hl
  rcases hl2 with hl2 | ⟨host, hl2⟩
  · refine va_mmin hx hb (by rw [hml]; exact hl.1.symm) hown (hts _ hl2) (hts _ mt_J9_min_7cf53.2) (hts _ mt_J9_min_7cf53.1.2.1) (hts _ mt_J9_min_7cf53.1.1) (by omega) ?_ (by omega) (by omega) hd (kk H locs ls hP hz hS hl)
    rw [zcatsum (zallL hlv)]
    omega
  · exact absurd rfl (znm _ hl2)
theorem g_mmax {κ : zX} {y : MethodName} {cc : ByteArray} {nL : Nat} {ret : Option FieldType} {fr lo : Nat} (cx : Cx y cc nL ret fr lo κ) {pc : Nat} {L st : List Value} {sh : zSh} {I : zI} {P : zP} {ce sl idx : Nat} {x z : Int32} (hl2 : zMl y.cls idx yJ9_max_7cf53) (hd : decode cc pc = .ok (.invokestatic idx, 3)) (hlv : st.all zlive = true) (hst : st.length ≤ 8) (hf1 : 1 ≤ fr) (hf2 : 21 ≤ lo) (hc0 : ce = 0) (hs0 : sl = 0) (kk : Gx κ (pc + 3) L (.int (if x < z then z else x) :: st) sh I P ce sl) : Gx κ pc L (.int z :: .int x :: st) sh I P ce sl := by
  obtain ⟨p, l, e, R, s, m, args, below, meth, c, Q, D, dA, b, tA, nq⟩ := κ
  obtain ⟨hx, hb, hr, hml, rfl, hown, hts, hK, hnm, hlk0, hfr, hlo, hbs⟩ := cx
  intro H locs ls hP hz hS hl
  rcases hl2 with hl2 | ⟨host, hl2⟩
  · refine va_mmax hx hb (by rw [hml]; exact hl.1.symm) hown (hts _ hl2) (hts _ mt_J9_max_7cf53.2) (hts _ mt_J9_max_7cf53.1.2.1) (hts _ mt_J9_max_7cf53.1.1) (by omega) ?_ (by omega) (by omega) hd (kk H locs ls hP hz hS hl)
    rw [zcatsum (zallL hlv)]
    omega
  · exact absurd rfl (znm _ hl2)
def zT0 (i : Int32) : Int32 := ((zStat.getD 0 ("", "", [])).2.2).getD i.toNatClampNeg 0
def zT1 (i : Int32) : Int32 := ((zStat.getD 1 ("", "", [])).2.2).getD i.toNatClampNeg 0
def zT2 (i : Int32) : Int32 := ((zStat.getD 2 ("", "", [])).2.2).getD i.toNatClampNeg 0
