/-! States: the venue now, two slots, the history; how both sides copy them. -/
abbrev FS : Type := Ab × Option Ab × Option Ab
def SlX (sl : Int32 × Vn) (o : Option Ab) : Prop := match o with
  | none => sl.1 = iI 0
  | some a => sl.1 = iI 1 ∧ RepX sl.2 a
def StX (S : Sn) (a : FS) : Prop := RepX S.1 a.1 ∧ SlX S.2.1 a.2.1 ∧ SlX S.2.2 a.2.2
def WO (K : Int) (o : Option Ab) : Prop := match o with
  | none => True
  | some a => WF K a
def WFS (K : Int) (a : FS) : Prop := WF K a.1 ∧ WO K a.2.1 ∧ WO K a.2.2
theorem WO.mono {K K' : Int} {o : Option Ab} (h : WO K o) (h1 : K ≤ K') (h2 : K' ≤ 80000) : WO K' o := by
  cases o with
  | none => trivial
  | some a => exact WF.mono h h1 h2
theorem WFS.mono {K K' : Int} {a : FS} (h : WFS K a) (h1 : K ≤ K') (h2 : K' ≤ 80000) : WFS K' a := ⟨h.1.mono h1 h2, h.2.1.mono h1 h2, h.2.2.mono h1 h2⟩
theorem cpI {f g : Nat → Int32} {z : Int} (h1 : 0 ≤ z) (h2 : z < 2147483648) (j : Nat) : va_cpy f g (0 : Int32).toNatClampNeg (0 : Int32).toNatClampNeg (iI z).toNatClampNeg j = if j < z.toNat then f j else g j := by
  rw [iNat h1 h2, sb_cl0]
  unfold va_cpy
  by_cases c : j < z.toNat
  · rw [if_pos c, if_pos (by omega)]
    congr 1
    omega
  · rw [if_neg c, if_neg (by omega)]
theorem CpI {ρ : Type} {f g : Nat → Int32} {n0 n1 : Nat} {z : Int} {k : (Nat → Int32) → Option ρ} (h1 : 0 ≤ z) (h2 : z ≤ n0) (h3 : z ≤ n1) (h4 : z < 2147483648) : Cp f g n0 n1 (iI z) k = k (va_cpy f g (0 : Int32).toNatClampNeg (0 : Int32).toNatClampNeg (iI z).toNatClampNeg) := by
  unfold Cp
  rw [if_pos]
  have e : (0 : Int32) = iI 0 := rfl
  rw [iNat h1 h4, e, iLt (by omega) (by omega) (by omega) (by omega)]
  omega
theorem copyI11 {T1 T2 : Tb} {u : Int} (hT : T2.1 = iI u) (h0 : 0 ≤ u) (hu : u ≤ 4) : ∃ f : Nat → Int32, fX6_copyFrom 44 (iI 4) (iI 11) (T1, T2) = some ((iI u, f), T2) ∧ ∀ j : Nat, (j : Int) < u * 11 → f j = T2.2 j := by
  by_cases c : u * 11 ≤ 0
  · refine ⟨T1.2, ?_, fun j hj => by omega⟩
    simp (disch := omega) only [nmD, bdS, b2S, lit32, iA, iS, iM, iN, iLt, iLe, iE, zlT, zlF, zleT, zleF, zeT, zeF, RdI, WrI, DvI, jmaxI, jminI, jabsI, bI0, Zb0, Zb1, ZbI, ↓reduceIte, not_true_eq_false, not_false_eq_true, ite_not, and_true, true_and, and_false, false_and, and_self, fX6_copyFrom, fX6_copyFrom_j44, hT, nI_iI]
  · refine ⟨va_cpy T2.2 T1.2 (0 : Int32).toNatClampNeg (0 : Int32).toNatClampNeg (iI (u * 11)).toNatClampNeg, ?_, fun j hj => ?_⟩
    · have hm : min (u * 11) (min 44 44) = u * 11 := by omega
      simp only [fX6_copyFrom, fX6_copyFrom_j44, hT, nI_iI, nmD]
      rw [jminI (by omega) (by omega) (by omega) (by omega), iM, jminI (by omega) (by omega) (by omega) (by omega)]
      rw [if_neg (fun q => by rw [show (0 : Int32) = iI 0 from rfl, iLe (by omega) (by omega) (by omega) (by omega)] at q; omega)]
      rw [show min (u * 11) (min ((44 : Nat) : Int) ((44 : Nat) : Int)) = u * 11 by omega, CpI (by omega) (by omega) (by omega) (by omega)]
    · rw [cpI (by omega) (by omega), if_pos (by omega)]
theorem copyI10 {T1 T2 : Tb} {u : Int} (hT : T2.1 = iI u) (h0 : 0 ≤ u) (hu : u ≤ 16) : ∃ f : Nat → Int32, fX6_copyFrom 160 (iI 16) (iI 10) (T1, T2) = some ((iI u, f), T2) ∧ ∀ j : Nat, (j : Int) < u * 10 → f j = T2.2 j := by
  by_cases c : u * 10 ≤ 0
  · refine ⟨T1.2, ?_, fun j hj => by omega⟩
    simp (disch := omega) only [nmD, bdS, b2S, lit32, iA, iS, iM, iN, iLt, iLe, iE, zlT, zlF, zleT, zleF, zeT, zeF, RdI, WrI, DvI, jmaxI, jminI, jabsI, bI0, Zb0, Zb1, ZbI, ↓reduceIte, not_true_eq_false, not_false_eq_true, ite_not, and_true, true_and, and_false, false_and, and_self, fX6_copyFrom, fX6_copyFrom_j44, hT, nI_iI]
  · refine ⟨va_cpy T2.2 T1.2 (0 : Int32).toNatClampNeg (0 : Int32).toNatClampNeg (iI (u * 10)).toNatClampNeg, ?_, fun j hj => ?_⟩
    · have hm : min (u * 10) (min 160 160) = u * 10 := by omega
      simp only [fX6_copyFrom, fX6_copyFrom_j44, hT, nI_iI, nmD]
      rw [jminI (by omega) (by omega) (by omega) (by omega), iM, jminI (by omega) (by omega) (by omega) (by omega)]
      rw [if_neg (fun q => by rw [show (0 : Int32) = iI 0 from rfl, iLe (by omega) (by omega) (by omega) (by omega)] at q; omega)]
      rw [show min (u * 10) (min ((160 : Nat) : Int) ((160 : Nat) : Int)) = u * 10 by omega, CpI (by omega) (by omega) (by omega) (by omega)]
    · rw [cpI (by omega) (by omega), if_pos (by omega)]
theorem copyI2 {T1 T2 : Tb} {u : Int} (hT : T2.1 = iI u) (h0 : 0 ≤ u) (hu : u ≤ 8) : ∃ f : Nat → Int32, fX6_copyFrom 16 (iI 8) (iI 2) (T1, T2) = some ((iI u, f), T2) ∧ ∀ j : Nat, (j : Int) < u * 2 → f j = T2.2 j := by
  by_cases c : u * 2 ≤ 0
  · refine ⟨T1.2, ?_, fun j hj => by omega⟩
    simp (disch := omega) only [nmD, bdS, b2S, lit32, iA, iS, iM, iN, iLt, iLe, iE, zlT, zlF, zleT, zleF, zeT, zeF, RdI, WrI, DvI, jmaxI, jminI, jabsI, bI0, Zb0, Zb1, ZbI, ↓reduceIte, not_true_eq_false, not_false_eq_true, ite_not, and_true, true_and, and_false, false_and, and_self, fX6_copyFrom, fX6_copyFrom_j44, hT, nI_iI]
  · refine ⟨va_cpy T2.2 T1.2 (0 : Int32).toNatClampNeg (0 : Int32).toNatClampNeg (iI (u * 2)).toNatClampNeg, ?_, fun j hj => ?_⟩
    · have hm : min (u * 2) (min 16 16) = u * 2 := by omega
      simp only [fX6_copyFrom, fX6_copyFrom_j44, hT, nI_iI, nmD]
      rw [jminI (by omega) (by omega) (by omega) (by omega), iM, jminI (by omega) (by omega) (by omega) (by omega)]
      rw [if_neg (fun q => by rw [show (0 : Int32) = iI 0 from rfl, iLe (by omega) (by omega) (by omega) (by omega)] at q; omega)]
      rw [show min (u * 2) (min ((16 : Nat) : Int) ((16 : Nat) : Int)) = u * 2 by omega, CpI (by omega) (by omega) (by omega) (by omega)]
    · rw [cpI (by omega) (by omega), if_pos (by omega)]
theorem copyI4 {T1 T2 : Tb} {u : Int} (hT : T2.1 = iI u) (h0 : 0 ≤ u) (hu : u ≤ 16) : ∃ f : Nat → Int32, fX6_copyFrom 64 (iI 16) (iI 4) (T1, T2) = some ((iI u, f), T2) ∧ ∀ j : Nat, (j : Int) < u * 4 → f j = T2.2 j := by
  by_cases c : u * 4 ≤ 0
  · refine ⟨T1.2, ?_, fun j hj => by omega⟩
    simp (disch := omega) only [nmD, bdS, b2S, lit32, iA, iS, iM, iN, iLt, iLe, iE, zlT, zlF, zleT, zleF, zeT, zeF, RdI, WrI, DvI, jmaxI, jminI, jabsI, bI0, Zb0, Zb1, ZbI, ↓reduceIte, not_true_eq_false, not_false_eq_true, ite_not, and_true, true_and, and_false, false_and, and_self, fX6_copyFrom, fX6_copyFrom_j44, hT, nI_iI]
  · refine ⟨va_cpy T2.2 T1.2 (0 : Int32).toNatClampNeg (0 : Int32).toNatClampNeg (iI (u * 4)).toNatClampNeg, ?_, fun j hj => ?_⟩
    · have hm : min (u * 4) (min 64 64) = u * 4 := by omega
      simp only [fX6_copyFrom, fX6_copyFrom_j44, hT, nI_iI, nmD]
      rw [jminI (by omega) (by omega) (by omega) (by omega), iM, jminI (by omega) (by omega) (by omega) (by omega)]
      rw [if_neg (fun q => by rw [show (0 : Int32) = iI 0 from rfl, iLe (by omega) (by omega) (by omega) (by omega)] at q; omega)]
      rw [show min (u * 4) (min ((64 : Nat) : Int) ((64 : Nat) : Int)) = u * 4 by omega, CpI (by omega) (by omega) (by omega) (by omega)]
    · rw [cpI (by omega) (by omega), if_pos (by omega)]
theorem copyI1 {T1 T2 : Tb} {u : Int} (hT : T2.1 = iI u) (h0 : 0 ≤ u) (hu : u ≤ 5) : ∃ f : Nat → Int32, fX6_copyFrom 5 (iI 5) (iI 1) (T1, T2) = some ((iI u, f), T2) ∧ ∀ j : Nat, (j : Int) < u * 1 → f j = T2.2 j := by
  by_cases c : u * 1 ≤ 0
  · refine ⟨T1.2, ?_, fun j hj => by omega⟩
    simp (disch := omega) only [nmD, bdS, b2S, lit32, iA, iS, iM, iN, iLt, iLe, iE, zlT, zlF, zleT, zleF, zeT, zeF, RdI, WrI, DvI, jmaxI, jminI, jabsI, bI0, Zb0, Zb1, ZbI, ↓reduceIte, not_true_eq_false, not_false_eq_true, ite_not, and_true, true_and, and_false, false_and, and_self, fX6_copyFrom, fX6_copyFrom_j44, hT, nI_iI]
  · refine ⟨va_cpy T2.2 T1.2 (0 : Int32).toNatClampNeg (0 : Int32).toNatClampNeg (iI (u * 1)).toNatClampNeg, ?_, fun j hj => ?_⟩
    · have hm : min (u * 1) (min 5 5) = u * 1 := by omega
      simp only [fX6_copyFrom, fX6_copyFrom_j44, hT, nI_iI, nmD]
      rw [jminI (by omega) (by omega) (by omega) (by omega), iM, jminI (by omega) (by omega) (by omega) (by omega)]
      rw [if_neg (fun q => by rw [show (0 : Int32) = iI 0 from rfl, iLe (by omega) (by omega) (by omega) (by omega)] at q; omega)]
      rw [show min (u * 1) (min ((5 : Nat) : Int) ((5 : Nat) : Int)) = u * 1 by omega, CpI (by omega) (by omega) (by omega) (by omega)]
    · rw [cpI (by omega) (by omega), if_pos (by omega)]
theorem RepP.cong {T T' : Tb} {A : Ab} {nP : Int} {pb pq pl : Int → Int} (h : PP T A nP pb pq pl) (h1 : T'.1 = iI nP) (e : ∀ j : Nat, (j : Int) < nP * 4 → T'.2 j = T.2 j) : RepP T' A := by
  obtain ⟨p1, p2, p3, p4, p5, p6⟩ := h
  refine ⟨nP, pb, pq, pl, h1, p2, p3, fun j j0 j1 => ?_, p5, p6⟩
  obtain ⟨q0, q1, q2, q3, q4⟩ := p4 j j0 j1
  exact ⟨by rw [e _ (by omega)]; exact q0, by rw [e _ (by omega)]; exact q1, by rw [e _ (by omega)]; exact q2, by rw [e _ (by omega)]; exact q3, q4⟩
set_option maxHeartbeats 4000000 in
theorem copyV {V1 V2 : Vn} {A : Ab} {K : Int} (h : RepX V2 A) (hW : WF K A) : ∃ V : Vn, fX7_copyFrom (V1, V2) = some (V, V2) ∧ RepX V A := by
  have hn := hW.n
  obtain ⟨nP, pb, pq, pl, hP⟩ := h.P
  have hp := hP.n hW
  obtain ⟨f1, c1, e1⟩ := copyI11 (T1 := V1.1) h.uR hn.1 hn.2.1
  obtain ⟨f2, c2, e2⟩ := copyI10 (T1 := V1.2.1) h.uB hn.2.2.1 hn.2.2.2.1
  obtain ⟨f3, c3, e3⟩ := copyI2 (T1 := V1.2.2.1) h.uV hn.2.2.2.2.1 hn.2.2.2.2.2.1
  obtain ⟨f4, c4, e4⟩ := copyI4 (T1 := V1.2.2.2.1) hP.1 hp.1 hp.2
  obtain ⟨f5, c5, e5⟩ := copyI1 (T1 := V1.2.2.2.2.1) h.uS (by omega) (by omega)
  refine ⟨((iI A.nR, f1), (iI A.nB, f2), (iI A.nV, f3), (iI nP, f4), (iI 5, f5), V2.2.2.2.2.2), ?_, ?_⟩
  · simp only [fX7_copyFrom, nmD, lit32]
    simp only [c1, c2, c3, c4, c5, bdS]
  · refine ⟨rfl, rfl, rfl, rfl, h.T, fun r c q1 q2 q3 q4 => ?_, fun i c q1 q2 q3 q4 q5 => ?_, fun v c q1 q2 q3 q4 => ?_, fun k k1 k2 => ?_, RepP.cong hP rfl e4⟩
    · exact (e1 _ (by omega)).trans (h.2.2.2.2.2.1 r c q1 q2 q3 q4)
    · exact (e2 _ (by omega)).trans (h.2.2.2.2.2.2.1 i c q1 q2 q3 q4 q5)
    · exact (e3 _ (by omega)).trans (h.2.2.2.2.2.2.2.1 v c q1 q2 q3 q4)
    · exact (e5 _ (by omega)).trans (h.2.2.2.2.2.2.2.2.1 k k1 k2)
theorem copySl {s1 s2 : Int32 × Vn} {o : Option Ab} {K : Int} (h : SlX s2 o) (hW : WO K o) : ∃ s : Int32 × Vn, fX4_copyFrom (s1, s2) = some (s, s2) ∧ SlX s o := by
  cases o with
  | none =>
    have h : s2.1 = iI 0 := h
    refine ⟨(iI 0, s1.2), ?_, rfl⟩
    simp (disch := omega) only [nmD, bdS, b2S, lit32, iA, iS, iM, iN, iLt, iLe, iE, zlT, zlF, zleT, zleF, zeT, zeF, RdI, WrI, DvI, jmaxI, jminI, jabsI, bI0, Zb0, Zb1, ZbI, ↓reduceIte, not_true_eq_false, not_false_eq_true, ite_not, and_true, true_and, and_false, false_and, and_self, fX4_copyFrom, fX4_copyFrom_j18, h]
  | some a =>
    obtain ⟨V, e, hV⟩ := copyV (V1 := s1.2) h.2 (show WF K a from hW)
    have h1 : s2.1 = iI 1 := h.1
    refine ⟨(iI 1, V), ?_, rfl, hV⟩
    simp (disch := omega) only [nmD, bdS, b2S, lit32, iA, iS, iM, iN, iLt, iLe, iE, zlT, zlF, zleT, zleF, zeT, zeF, RdI, WrI, DvI, jmaxI, jminI, jabsI, bI0, Zb0, Zb1, ZbI, ↓reduceIte, not_true_eq_false, not_false_eq_true, ite_not, and_true, true_and, and_false, false_and, and_self, fX4_copyFrom, fX4_copyFrom_j18, h1, e]
    rw [← h1]
theorem copySt {S1 S2 : Sn} {a : FS} {K : Int} (h : StX S2 a) (hW : WFS K a) : ∃ S : Sn, fX5_copyFrom (S1, S2) = some (S, S2) ∧ StX S a := by
  obtain ⟨V, e1, h1⟩ := copyV (V1 := S1.1) h.1 hW.1
  obtain ⟨s1, e2, h2⟩ := copySl (s1 := S1.2.1) h.2.1 hW.2.1
  obtain ⟨s2, e3, h3⟩ := copySl (s1 := S1.2.2) h.2.2 hW.2.2
  refine ⟨(V, s1, s2), ?_, h1, h2, h3⟩
  simp only [fX5_copyFrom, nmD]
  simp only [e1, e2, e3, bdS]
