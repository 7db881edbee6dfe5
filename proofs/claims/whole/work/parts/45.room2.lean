/-! A new room: the action. -/
section RN
variable {V : Vn} {A : Ab} {K : Int} {s : Nat → Int32} {R : Rs}
set_option maxHeartbeats 4000000 in
theorem agNewRoom (hX : RepX V A) (hM : RepM s A) (hW : WF K A) (hK : K + 1 ≤ 80000) (x1 x2 x3 x4 : Int32) : Ag (fX0_newRoom V x1 x2 x3 x4) (fX9_doRoom (s, R) x1 x2 x3 x4) s R K := by
  have hn := hW.n
  obtain ⟨a, rfl, ha1, ha2⟩ := iX x1
  obtain ⟨b, rfl, hb1, hb2⟩ := iX x2
  obtain ⟨c, rfl, hc1, hc2⟩ := iX x3
  obtain ⟨d, rfl, hd1, hd2⟩ := iX x4
  have h0 : s 0 = iI A.nR := hM.1
  have e0 : (0 : Int).toNat = 0 := rfl
  have hf := xFull (n := 44) (w := iI 11) (cap := 4) hX.uR (by omega) hn.1 (by omega) (by omega)
  by_cases ha : 20 ≤ a ∧ a ≤ 120
  · by_cases hb : 0 ≤ b ∧ b ≤ 60
    · by_cases hc : 1 ≤ c ∧ c ≤ 200
      · by_cases hd : 2 ≤ d ∧ d ≤ 8
        · have hWr := fun q : A.nR < 4 => (hW.mono (K' := K + 1) (by omega) hK).rm q ha hb hc hd
          obtain ⟨ha3, ha4⟩ := ha
          obtain ⟨hb3, hb4⟩ := hb
          obtain ⟨hc3, hc4⟩ := hc
          obtain ⟨hd3, hd4⟩ := hd
          by_cases q : 4 ≤ A.nR
          · have q' : A.nR = 4 := by omega
            clear hWr
            refine agFail hX hM hW hK (r := iI (-3)) ?_ ?_
            · simp (disch := omega) only [nmD, bdS, b2S, lit32, iA, iS, iM, iN, iLt, iLe, iE, zlT, zlF, zleT, zleF, zeT, zeF, RdI, WrI, DvI, jmaxI, jminI, jabsI, bI0, Zb0, Zb1, ZbI, ↓reduceIte, not_true_eq_false, not_false_eq_true, ite_not, and_true, true_and, and_false, false_and, and_self, fX0_newRoom, xIn, hf]
            · simp (disch := omega) only [nmD, bdS, b2S, lit32, iA, iS, iM, iN, iLt, iLe, iE, zlT, zlF, zleT, zleF, zeT, zeF, RdI, WrI, DvI, jmaxI, jminI, jabsI, bI0, Zb0, Zb1, ZbI, ↓reduceIte, not_true_eq_false, not_false_eq_true, ite_not, and_true, true_and, and_false, false_and, and_self, fX9_doRoom, mIn, e0, h0]
          · have hWr := hWr (by omega)
            obtain ⟨g, g1, g2, g3⟩ := addI (tn := 44) (cap := 4) (w := 11) (b := A.nR * 11) hX.uR (by omega) (by omega) (by omega) (by omega) (by omega) (by omega) (fun T c hT c0 c1 => putI11 hT (by omega) (by omega) (by omega) c0 c1)
            have p0 := putI11 (T := (iI (A.nR + 1), g)) (u := A.nR + 1) (r := A.nR) (c := 0) (x := iI a) rfl (by omega) (by omega) (by omega) (by omega) (by omega)
            have p1 := putI11 (T := (iI (A.nR + 1), upd g (A.nR * 11 + 0).toNat (iI a))) (u := A.nR + 1) (r := A.nR) (c := 1) (x := iI b) rfl (by omega) (by omega) (by omega) (by omega) (by omega)
            have p2 := putI11 (T := (iI (A.nR + 1), upd (upd g (A.nR * 11 + 0).toNat (iI a)) (A.nR * 11 + 1).toNat (iI b))) (u := A.nR + 1) (r := A.nR) (c := 2) (x := iI c) rfl (by omega) (by omega) (by omega) (by omega) (by omega)
            have p3 := putI11 (T := (iI (A.nR + 1), upd (upd (upd g (A.nR * 11 + 0).toNat (iI a)) (A.nR * 11 + 1).toNat (iI b)) (A.nR * 11 + 2).toNat (iI c))) (u := A.nR + 1) (r := A.nR) (c := 3) (x := iI d) rfl (by omega) (by omega) (by omega) (by omega) (by omega)
            have hXf := RepX.rm hX (a := a) (b := b) (c := c) (d := d) hn.1 g2 g3
            obtain ⟨f, f2, f3, f1⟩ : ∃ f : Nat → Int32, (∀ j : Nat, ((j : Int) < 9 + 11 * A.nR ∨ 9 + 11 * A.nR + 11 ≤ j) → f j = s j) ∧ (∀ j : Nat, 9 + 11 * A.nR ≤ (j : Int) → (j : Int) < 9 + 11 * A.nR + 11 → f j = iI 0) ∧ ∀ kk : Md → Option (Int32 × Md), fX9_doRoom_l75 (iI a) (iI b) (iI c) (iI d) (iI (9 + 11 * A.nR)) kk FU (s, R) (iI 0) = kk (f, R) := by
              have key : ∀ kk : Md → Option (Int32 × Md), ∃ g : Nat → Int32, fX9_doRoom_l75 (iI a) (iI b) (iI c) (iI d) (iI (9 + 11 * A.nR)) kk FU (s, R) (iI 0) = kk (g, R) ∧ (∀ j : Nat, ((j : Int) < 9 + 11 * A.nR + 0 ∨ 9 + 11 * A.nR + 11 ≤ j) → g j = s j) ∧ ∀ j : Nat, 9 + 11 * A.nR + 0 ≤ (j : Int) → (j : Int) < 9 + 11 * A.nR + 11 → g j = iI 0 := fun kk => roomL (b := 9 + 11 * A.nR) (by omega) (by omega) 11 FU 0 s (by omega) (by omega) (by unfold FU; omega)
              refine ⟨fun j => if 9 + 11 * A.nR ≤ (j : Int) ∧ (j : Int) < 9 + 11 * A.nR + 11 then iI 0 else s j, fun j hj => if_neg (by omega), fun j h3 h4 => if_pos ⟨h3, h4⟩, fun kk => ?_⟩
              obtain ⟨g, k1, k2, k3⟩ := key kk
              rw [k1]
              have : g = fun j : Nat => if 9 + 11 * A.nR ≤ (j : Int) ∧ (j : Int) < 9 + 11 * A.nR + 11 then iI 0 else s j := by
                funext j
                by_cases z : 9 + 11 * A.nR ≤ (j : Int) ∧ (j : Int) < 9 + 11 * A.nR + 11
                · rw [if_pos z]; exact k3 j (by omega) (by omega)
                · rw [if_neg z]; exact k2 j (by omega)
              rw [this]
            have m := RepM.zr hM hn.1 (by omega) f2 f3
            have m0 := RepM.setR m hW.l16.1 hW.l16.2 (r := A.nR) (c := 0) (v := a) (by omega) (by omega) (by omega) (by omega)
            have m1 := RepM.setR m0 hW.l16.1 hW.l16.2 (r := A.nR) (c := 1) (v := b) (by omega) (by omega) (by omega) (by omega)
            have m2 := RepM.setR m1 hW.l16.1 hW.l16.2 (r := A.nR) (c := 2) (v := c) (by omega) (by omega) (by omega) (by omega)
            have m3 := RepM.setR m2 hW.l16.1 hW.l16.2 (r := A.nR) (c := 3) (v := d) (by omega) (by omega) (by omega) (by omega)
            have m4 := RepM.setNR m3 hW.l16.1 hW.l16.2 (v := A.nR + 1)
            refine ⟨iI A.nR, _, _, rm A a b c d, ?_, ?_, hXf, m4, hWr, fun j hj => by rw [ud_n (by omega), ud_n (by omega), ud_n (by omega), ud_n (by omega), ud_n (by omega)]; exact f2 j (by omega)⟩
            · clear g2 g3 m m0 m1 m2 m3 m4 f1 f2 f3 hXf hWr
              simp (disch := omega) only [nmD, bdS, b2S, lit32, iA, iS, iM, iN, iLt, iLe, iE, zlT, zlF, zleT, zleF, zeT, zeF, RdI, WrI, DvI, jmaxI, jminI, jabsI, bI0, Zb0, Zb1, ZbI, ↓reduceIte, not_true_eq_false, not_false_eq_true, ite_not, and_true, true_and, and_false, false_and, and_self, fX0_newRoom, xIn, hf, g1, p0, p1, p2, p3]
            · have ff : f 0 = iI A.nR := by rw [f2 0 (by omega)]; exact h0
              have u1 : upd (upd (upd (upd f (9 + 11 * A.nR + 0).toNat (iI a)) (9 + 11 * A.nR + 1).toNat (iI b)) (9 + 11 * A.nR + 2).toNat (iI c)) (9 + 11 * A.nR + 3).toNat (iI d) 0 = iI A.nR := by rw [ud_n (by omega), ud_n (by omega), ud_n (by omega), ud_n (by omega)]; exact ff
              have u2 : upd (upd (upd (upd (upd f (9 + 11 * A.nR + 0).toNat (iI a)) (9 + 11 * A.nR + 1).toNat (iI b)) (9 + 11 * A.nR + 2).toNat (iI c)) (9 + 11 * A.nR + 3).toNat (iI d)) 0 (iI (A.nR + 1)) 0 = iI (A.nR + 1) := ud_s
              have ex : A.nR + 1 - 1 = A.nR := by omega
              clear g2 g3 m m0 m1 m2 m3 m4 f2 f3 hXf hWr g1 p0 p1 p2 p3 ff
              simp (disch := omega) only [nmD, bdS, b2S, lit32, iA, iS, iM, iN, iLt, iLe, iE, zlT, zlF, zleT, zleF, zeT, zeF, RdI, WrI, DvI, jmaxI, jminI, jabsI, bI0, Zb0, Zb1, ZbI, ↓reduceIte, not_true_eq_false, not_false_eq_true, ite_not, and_true, true_and, and_false, false_and, and_self, fX9_doRoom, mIn, e0, h0, f1, u1, u2, ex]
        · refine agFail hX hM hW hK (r := iI (-1)) ?_ ?_
          · simp (disch := omega) only [nmD, bdS, b2S, lit32, iA, iS, iM, iN, iLt, iLe, iE, zlT, zlF, zleT, zleF, zeT, zeF, RdI, WrI, DvI, jmaxI, jminI, jabsI, bI0, Zb0, Zb1, ZbI, ↓reduceIte, not_true_eq_false, not_false_eq_true, ite_not, and_true, true_and, and_false, false_and, and_self, fX0_newRoom, xIn, ha, hb, hc, hd]
          · simp (disch := omega) only [nmD, bdS, b2S, lit32, iA, iS, iM, iN, iLt, iLe, iE, zlT, zlF, zleT, zleF, zeT, zeF, RdI, WrI, DvI, jmaxI, jminI, jabsI, bI0, Zb0, Zb1, ZbI, ↓reduceIte, not_true_eq_false, not_false_eq_true, ite_not, and_true, true_and, and_false, false_and, and_self, fX9_doRoom, mIn, ha, hb, hc, hd]
      · refine agFail hX hM hW hK (r := iI (-1)) ?_ ?_
        · simp (disch := omega) only [nmD, bdS, b2S, lit32, iA, iS, iM, iN, iLt, iLe, iE, zlT, zlF, zleT, zleF, zeT, zeF, RdI, WrI, DvI, jmaxI, jminI, jabsI, bI0, Zb0, Zb1, ZbI, ↓reduceIte, not_true_eq_false, not_false_eq_true, ite_not, and_true, true_and, and_false, false_and, and_self, fX0_newRoom, xIn, ha, hb, hc]
        · simp (disch := omega) only [nmD, bdS, b2S, lit32, iA, iS, iM, iN, iLt, iLe, iE, zlT, zlF, zleT, zleF, zeT, zeF, RdI, WrI, DvI, jmaxI, jminI, jabsI, bI0, Zb0, Zb1, ZbI, ↓reduceIte, not_true_eq_false, not_false_eq_true, ite_not, and_true, true_and, and_false, false_and, and_self, fX9_doRoom, mIn, ha, hb, hc]
    · refine agFail hX hM hW hK (r := iI (-1)) ?_ ?_
      · simp (disch := omega) only [nmD, bdS, b2S, lit32, iA, iS, iM, iN, iLt, iLe, iE, zlT, zlF, zleT, zleF, zeT, zeF, RdI, WrI, DvI, jmaxI, jminI, jabsI, bI0, Zb0, Zb1, ZbI, ↓reduceIte, not_true_eq_false, not_false_eq_true, ite_not, and_true, true_and, and_false, false_and, and_self, fX0_newRoom, xIn, ha, hb]
      · simp (disch := omega) only [nmD, bdS, b2S, lit32, iA, iS, iM, iN, iLt, iLe, iE, zlT, zlF, zleT, zleF, zeT, zeF, RdI, WrI, DvI, jmaxI, jminI, jabsI, bI0, Zb0, Zb1, ZbI, ↓reduceIte, not_true_eq_false, not_false_eq_true, ite_not, and_true, true_and, and_false, false_and, and_self, fX9_doRoom, mIn, ha, hb]
  · refine agFail hX hM hW hK (r := iI (-1)) ?_ ?_
    · simp (disch := omega) only [nmD, bdS, b2S, lit32, iA, iS, iM, iN, iLt, iLe, iE, zlT, zlF, zleT, zleF, zeT, zeF, RdI, WrI, DvI, jmaxI, jminI, jabsI, bI0, Zb0, Zb1, ZbI, ↓reduceIte, not_true_eq_false, not_false_eq_true, ite_not, and_true, true_and, and_false, false_and, and_self, fX0_newRoom, xIn, ha]
    · simp (disch := omega) only [nmD, bdS, b2S, lit32, iA, iS, iM, iN, iLt, iLe, iE, zlT, zlF, zleT, zleF, zeT, zeF, RdI, WrI, DvI, jmaxI, jminI, jabsI, bI0, Zb0, Zb1, ZbI, ↓reduceIte, not_true_eq_false, not_false_eq_true, ite_not, and_true, true_and, and_false, false_and, and_self, fX9_doRoom, mIn, ha]
end RN
