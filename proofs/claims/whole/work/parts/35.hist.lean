/-! The history, on both sides. -/
def HX (G : Hg) (n : Int) (H : Int → FS) : Prop := G.1 = iI n ∧ (0 ≤ n ∧ n ≤ 5) ∧ (∀ i : Nat, i < 6 → G.2.1 i < 6) ∧ (∀ i j : Nat, i < 6 → j < 6 → G.2.1 i = G.2.1 j → i = j) ∧ ∀ k : Nat, (k : Int) < n → StX (G.2.2 (G.2.1 k)) (H k)
def HM (p : Nat → Int32) (n : Int) (H : Int → FS) : Prop := ∀ k : Nat, (k : Int) < n → StM (fun j => p (1553 * k + j)) (H k)
def hNext (n : Int) (H : Int → FS) (a : FS) : Int → FS := fun k => if n < 5 then (if k = n then a else H k) else (if k = 4 then a else H (k + 1))
def nNext (n : Int) : Int := if n < 5 then n + 1 else 5
section HXS
variable {G : Hg} {now : Sn} {n K : Int} {H : Int → FS} {a : FS}
theorem stAt (h : HX G n H) {k : Int} (h1 : 0 ≤ k) (h2 : k < 6) : fX1_stateAt G (iI k) = some (G.2.1 k.toNat) ∧ G.2.1 k.toNat < 6 := by
  refine ⟨?_, h.2.2.1 _ (by omega)⟩
  have e0 : (0 : Int32) = iI 0 := rfl
  have e6 : (6 : Int32) = iI 6 := rfl
  unfold fX1_stateAt
  rw [if_neg (fun q => by rw [e0, iLt (by omega) (by omega) (by omega) (by omega)] at q; omega), if_neg (fun q => by rw [e6, iLe (by omega) (by omega) (by omega) (by omega)] at q; omega), iNat h1 (by omega)]
theorem prepX (h : HX G n H) (hs : StX now a) (hW : WFS K a) : ∃ G' : Hg, fX1_prepare (G, now) = some (G', now) ∧ HX G' n H ∧ StX (G'.2.2 (G'.2.1 n.toNat)) a := by
  have hn := h.2.1
  obtain ⟨e1, e2⟩ := stAt h (k := n) hn.1 (by omega)
  obtain ⟨S', e3, h3⟩ := copySt (S1 := G.2.2 (G.2.1 n.toNat)) hs hW
  refine ⟨(G.1, G.2.1, updN G.2.2 (G.2.1 n.toNat) S'), ?_, ⟨h.1, hn, h.2.2.1, h.2.2.2.1, fun k hk => ?_⟩, ?_⟩
  · unfold fX1_prepare
    rw [show (G, now).1.1 = iI n from h.1]
    rw [show (G, now).1 = G from rfl, e1]
    show (if G.2.1 n.toNat < 6 then _ else none) = _
    rw [if_pos e2]
    show (fX5_copyFrom (G.2.2 (G.2.1 n.toNat), now)).bind _ = _
    rw [e3]
    rfl
  · have hne : G.2.1 k ≠ G.2.1 n.toNat := fun e => by
      have := h.2.2.2.1 k n.toNat (by omega) (by omega) e
      omega
    show StX (updN G.2.2 (G.2.1 n.toNat) S' (G.2.1 k)) (H k)
    unfold updN
    rw [if_neg hne]
    exact h.2.2.2.2 k hk
  · show StX (updN G.2.2 (G.2.1 n.toNat) S' (G.2.1 n.toNat)) a
    unfold updN
    rw [if_pos rfl]
    exact h3
theorem giveX (h : HX G n H) (hs : StX (G.2.2 (G.2.1 n.toNat)) a) (hW : WFS K a) : ∃ (now' : Sn) (G' : Hg), fX1_giveBack (G, now) = some (G', now') ∧ HX G' n H ∧ StX now' a := by
  have hn := h.2.1
  obtain ⟨e1, e2⟩ := stAt h (k := n) hn.1 (by omega)
  obtain ⟨S', e3, h3⟩ := copySt (S1 := now) hs hW
  refine ⟨S', (G.1, G.2.1, updN G.2.2 (G.2.1 n.toNat) (G.2.2 (G.2.1 n.toNat))), ?_, ⟨h.1, hn, h.2.2.1, h.2.2.2.1, fun k hk => ?_⟩, h3⟩
  · unfold fX1_giveBack
    rw [show (G, now).1.1 = iI n from h.1]
    rw [show (G, now).1 = G from rfl, e1]
    show (if G.2.1 n.toNat < 6 then _ else none) = _
    rw [if_pos e2]
    show (fX5_copyFrom (now, G.2.2 (G.2.1 n.toNat))).bind _ = _
    rw [e3]
    rfl
  · show StX (updN G.2.2 (G.2.1 n.toNat) (G.2.2 (G.2.1 n.toNat)) (G.2.1 k)) (H k)
    unfold updN
    by_cases c : G.2.1 k = G.2.1 n.toNat
    · rw [if_pos c, ← c]; exact h.2.2.2.2 k hk
    · rw [if_neg c]; exact h.2.2.2.2 k hk
theorem settleX (h : HX G n H) (hs : StX (G.2.2 (G.2.1 n.toNat)) a) {r : Int32} (hr : ¬ r < 0) : ∃ G' : Hg, fX1_settle G r = some (r, G') ∧ HX G' (nNext n) (hNext n H a) := by
  have hn := h.2.1
  have e5 : (5 : Int32) = iI 5 := rfl
  by_cases c : n < 5
  · refine ⟨(iI (n + 1), G.2), ?_, ⟨?_, ?_, h.2.2.1, h.2.2.2.1, fun k hk => ?_⟩⟩
    · unfold fX1_settle
      rw [if_neg hr]
      unfold fX1_record
      rw [h.1, if_neg (fun q => by rw [e5, iLe (by omega) (by omega) (by omega) (by omega)] at q; omega), bdS, show (1 : Int32) = iI 1 from rfl, iA]
    · unfold nNext; rw [if_pos c]
    · unfold nNext; rw [if_pos c]; omega
    · unfold nNext at hk
      rw [if_pos c] at hk
      unfold hNext
      rw [if_pos c]
      by_cases e : (k : Int) = n
      · rw [if_pos e, show k = n.toNat by omega]; exact hs
      · rw [if_neg e]; exact h.2.2.2.2 k (by omega)
  · have h5 : n = 5 := by omega
    subst h5
    have hf := h.2.2.1
    refine ⟨(iI 5, rotN G.2.1, G.2.2), ?_, ⟨?_, ?_, fun i hi => ?_, fun i j hi hj e => ?_, fun k hk => ?_⟩⟩
    · unfold fX1_settle
      rw [if_neg hr]
      unfold fX1_record
      rw [h.1, if_pos (by decide), if_pos ⟨hf 0 (by omega), hf 1 (by omega), hf 2 (by omega), hf 3 (by omega), hf 4 (by omega), hf 5 (by omega)⟩]
      rfl
    · rfl
    · unfold nNext; rw [if_neg (by omega)]; omega
    · show rotN G.2.1 i < 6
      rcases (show i = 0 ∨ i = 1 ∨ i = 2 ∨ i = 3 ∨ i = 4 ∨ i = 5 by omega) with rfl | rfl | rfl | rfl | rfl | rfl
      · exact hf 1 (by omega)
      · exact hf 2 (by omega)
      · exact hf 3 (by omega)
      · exact hf 4 (by omega)
      · exact hf 5 (by omega)
      · exact hf 0 (by omega)
    · have hr : ∀ i : Nat, i < 6 → rotN G.2.1 i = G.2.1 (if i < 5 then i + 1 else 0) := by
        intro i hi
        rcases (show i = 0 ∨ i = 1 ∨ i = 2 ∨ i = 3 ∨ i = 4 ∨ i = 5 by omega) with rfl | rfl | rfl | rfl | rfl | rfl <;> rfl
      have e : rotN G.2.1 i = rotN G.2.1 j := e
      rw [hr i hi, hr j hj] at e
      have := h.2.2.2.1 _ _ (by split <;> omega) (by split <;> omega) e
      split at this <;> split at this <;> omega
    · unfold nNext at hk
      rw [if_neg (by omega)] at hk
      unfold hNext
      rw [if_neg (by omega)]
      show StX (G.2.2 (rotN G.2.1 k)) _
      have hk : k < 5 := by omega
      rcases (show k = 0 ∨ k = 1 ∨ k = 2 ∨ k = 3 ∨ k = 4 by omega) with rfl | rfl | rfl | rfl | rfl
      · exact h.2.2.2.2 1 (by omega)
      · exact h.2.2.2.2 2 (by omega)
      · exact h.2.2.2.2 3 (by omega)
      · exact h.2.2.2.2 4 (by omega)
      · exact hs
theorem settleN {r : Int32} (hr : r < 0) : fX1_settle G r = some (r, G) := by
  unfold fX1_settle
  rw [if_pos hr]
theorem backX (h : HX G n H) (hn0 : 0 < n) (hW : WFS K (H (n - 1))) : ∃ (now' : Sn) (G' : Hg), fX1_stepBack (G, now) = some (iI (n - 1), (G', now')) ∧ HX G' (n - 1) H ∧ StX now' (H (n - 1)) := by
  have hn := h.2.1
  have e0 : (0 : Int32) = iI 0 := rfl
  have hg : HX (iI (n - 1), G.2) (n - 1) H := ⟨rfl, by omega, h.2.2.1, h.2.2.2.1, fun k hk => h.2.2.2.2 k (by omega)⟩
  have hs : StX (G.2.2 (G.2.1 (n - 1).toNat)) (H (n - 1)) := by
    have := h.2.2.2.2 (n - 1).toNat (by omega)
    rw [show (((n - 1).toNat : Nat) : Int) = n - 1 by omega] at this
    exact this
  obtain ⟨now', G', e1, h1, h2⟩ := giveX (now := now) hg hs hW
  refine ⟨now', G', ?_, h1, h2⟩
  unfold fX1_stepBack
  rw [show (G, now).1.1 = iI n from h.1, if_pos (by rw [e0, iLt (by omega) (by omega) (by omega) (by omega)]; exact hn0), show (1 : Int32) = iI 1 from rfl, iS]
  rw [show (((iI (n - 1), (G, now).1.2), (G, now).2) : Hg × Sn) = ((iI (n - 1), G.2), now) from rfl, e1, bdS, h1.1]
theorem backN (h : HX G 0 H) : fX1_stepBack (G, now) = some (iI (-2), (G, now)) := by
  unfold fX1_stepBack
  rw [show (G, now).1.1 = iI 0 from h.1, if_neg (by decide)]
  rfl
end HXS
section HMS
variable {s p a : Nat → Int32} {R : Int32 × (Nat → Int32) × Int32 × Int32 × Int32 × Int64 × (Nat → Int32)}
theorem holdM : ∃ f : Nat → Int32, fX9_hold (s, p, a, R) = some (s, p, f, R) ∧ ∀ j : Nat, j < 1553 → f j = s j := by
  have key : ∀ (k fu : Nat) (i : Int) (g : Nat → Int32), 0 ≤ i → i + k = 1553 → k < fu → (∀ j : Nat, (j : Int) < i → g j = s j) → ∃ f : Nat → Int32, fX9_hold_l2 fu (s, p, g, R) (iI i) = some (s, p, f, R) ∧ ∀ j : Nat, j < 1553 → f j = s j := by
    intro k
    induction k with
    | zero =>
      intro fu i g h0 h1 h2 h3
      obtain ⟨fu, rfl⟩ : ∃ q, fu = q + 1 := ⟨fu - 1, by omega⟩
      refine ⟨g, ?_, fun j hj => h3 j (by omega)⟩
      rw [fX9_hold_l2_s]
      clear h3
      simp (disch := omega) only [nmD, bdS, b2S, lit32, iA, iS, iM, iN, iLt, iLe, iE, zlT, zlF, zleT, zleF, zeT, zeF, RdI, WrI, DvI, jmaxI, jminI, jabsI, bI0, Zb0, Zb1, ZbI, ↓reduceIte, not_true_eq_false, not_false_eq_true, ite_not, and_true, true_and, and_false, false_and, and_self]
    | succ k ih =>
      intro fu i g h0 h1 h2 h3
      obtain ⟨fu, rfl⟩ : ∃ q, fu = q + 1 := ⟨fu - 1, by omega⟩
      obtain ⟨f, f1, f2⟩ := ih fu (i + 1) (upd g i.toNat (s i.toNat)) (by omega) (by omega) (by omega) (fun j hj => by
        by_cases e : j = i.toNat
        · subst e; exact ud_s
        · rw [ud_n (by omega)]; exact h3 j (by omega))
      refine ⟨f, ?_, f2⟩
      rw [fX9_hold_l2_s, ← f1]
      clear h3 ih f1 f2
      simp (disch := omega) only [nmD, bdS, b2S, lit32, iA, iS, iM, iN, iLt, iLe, iE, zlT, zlF, zleT, zleF, zeT, zeF, RdI, WrI, DvI, jmaxI, jminI, jabsI, bI0, Zb0, Zb1, ZbI, ↓reduceIte, not_true_eq_false, not_false_eq_true, ite_not, and_true, true_and, and_false, false_and, and_self]
  have e0 : (0 : Int32) = iI 0 := rfl
  unfold fX9_hold
  rw [e0]
  exact key 1553 FU 0 a (by omega) (by omega) (by unfold FU; omega) (fun j hj => by omega)
theorem letsM : ∃ f : Nat → Int32, fX9_lets (s, p, a, R) = some (f, p, a, R) ∧ ∀ j : Nat, j < 1553 → f j = a j := by
  have key : ∀ (k fu : Nat) (i : Int) (g : Nat → Int32), 0 ≤ i → i + k = 1553 → k < fu → (∀ j : Nat, (j : Int) < i → g j = a j) → ∃ f : Nat → Int32, fX9_lets_l2 fu (g, p, a, R) (iI i) = some (f, p, a, R) ∧ ∀ j : Nat, j < 1553 → f j = a j := by
    intro k
    induction k with
    | zero =>
      intro fu i g h0 h1 h2 h3
      obtain ⟨fu, rfl⟩ : ∃ q, fu = q + 1 := ⟨fu - 1, by omega⟩
      refine ⟨g, ?_, fun j hj => h3 j (by omega)⟩
      rw [fX9_lets_l2_s]
      clear h3
      simp (disch := omega) only [nmD, bdS, b2S, lit32, iA, iS, iM, iN, iLt, iLe, iE, zlT, zlF, zleT, zleF, zeT, zeF, RdI, WrI, DvI, jmaxI, jminI, jabsI, bI0, Zb0, Zb1, ZbI, ↓reduceIte, not_true_eq_false, not_false_eq_true, ite_not, and_true, true_and, and_false, false_and, and_self]
    | succ k ih =>
      intro fu i g h0 h1 h2 h3
      obtain ⟨fu, rfl⟩ : ∃ q, fu = q + 1 := ⟨fu - 1, by omega⟩
      obtain ⟨f, f1, f2⟩ := ih fu (i + 1) (upd g i.toNat (a i.toNat)) (by omega) (by omega) (by omega) (fun j hj => by
        by_cases e : j = i.toNat
        · subst e; exact ud_s
        · rw [ud_n (by omega)]; exact h3 j (by omega))
      refine ⟨f, ?_, f2⟩
      rw [fX9_lets_l2_s, ← f1]
      clear h3 ih f1 f2
      simp (disch := omega) only [nmD, bdS, b2S, lit32, iA, iS, iM, iN, iLt, iLe, iE, zlT, zlF, zleT, zleF, zeT, zeF, RdI, WrI, DvI, jmaxI, jminI, jabsI, bI0, Zb0, Zb1, ZbI, ↓reduceIte, not_true_eq_false, not_false_eq_true, ite_not, and_true, true_and, and_false, false_and, and_self]
  have e0 : (0 : Int32) = iI 0 := rfl
  unfold fX9_lets
  rw [e0]
  exact key 1553 FU 0 s (by omega) (by omega) (by unfold FU; omega) (fun j hj => by omega)
end HMS
section EM
variable {s p a : Nat → Int32} {R : (Nat → Int32) × Int32 × Int32 × Int32 × Int64 × (Nat → Int32)} {n K : Int} {H : Int → FS} {A : FS}
theorem ends57 {r : Int32} (hn : 0 ≤ n ∧ n ≤ 4) : ∃ q : Nat → Int32, fX9_ends_l57 r FU (s, p, a, iI n, R) (iI 0) = some (r, (s, q, a, iI (n + 1), R)) ∧ (∀ j : Nat, j < 1553 → q (1553 * n.toNat + j) = a j) ∧ ∀ j : Nat, j < 1553 * n.toNat → q j = p j := by
  have key : ∀ (k fu : Nat) (i : Int) (g : Nat → Int32), 0 ≤ i → i + k = 1553 → k < fu → (∀ j : Nat, (j : Int) < i → g (1553 * n.toNat + j) = a j) → (∀ j : Nat, j < 1553 * n.toNat → g j = p j) → ∃ q : Nat → Int32, fX9_ends_l57 r fu (s, g, a, iI n, R) (iI i) = some (r, (s, q, a, iI (n + 1), R)) ∧ (∀ j : Nat, j < 1553 → q (1553 * n.toNat + j) = a j) ∧ ∀ j : Nat, j < 1553 * n.toNat → q j = p j := by
    intro k
    induction k with
    | zero =>
      intro fu i g h0 h1 h2 h3 h4
      obtain ⟨fu, rfl⟩ : ∃ q, fu = q + 1 := ⟨fu - 1, by omega⟩
      refine ⟨g, ?_, fun j hj => h3 j (by omega), h4⟩
      rw [fX9_ends_l57_s]
      clear h3 h4
      simp (disch := omega) only [nmD, bdS, b2S, lit32, iA, iS, iM, iN, iLt, iLe, iE, zlT, zlF, zleT, zleF, zeT, zeF, RdI, WrI, DvI, jmaxI, jminI, jabsI, bI0, Zb0, Zb1, ZbI, ↓reduceIte, not_true_eq_false, not_false_eq_true, ite_not, and_true, true_and, and_false, false_and, and_self]
    | succ k ih =>
      intro fu i g h0 h1 h2 h3 h4
      obtain ⟨fu, rfl⟩ : ∃ q, fu = q + 1 := ⟨fu - 1, by omega⟩
      obtain ⟨f, f1, f2, f3⟩ := ih fu (i + 1) (upd g (1553 * n + i).toNat (a i.toNat)) (by omega) (by omega) (by omega) (fun j hj => by
        by_cases e : j = i.toNat
        · subst e; exact ud_e (by omega)
        · rw [ud_n (by omega)]; exact h3 j (by omega)) (fun j hj => by rw [ud_n (by omega)]; exact h4 j hj)
      refine ⟨f, ?_, f2, f3⟩
      rw [fX9_ends_l57_s, ← f1]
      clear h3 h4 ih f1 f2 f3
      simp (disch := omega) only [nmD, bdS, b2S, lit32, iA, iS, iM, iN, iLt, iLe, iE, zlT, zlF, zleT, zleF, zeT, zeF, RdI, WrI, DvI, jmaxI, jminI, jabsI, bI0, Zb0, Zb1, ZbI, ↓reduceIte, not_true_eq_false, not_false_eq_true, ite_not, and_true, true_and, and_false, false_and, and_self]
  exact key 1553 FU 0 p (by omega) (by omega) (by unfold FU; omega) (fun j hj => by omega) (fun _ _ => rfl)
theorem ends16 {r : Int32} {z : Int32} (kk : Md → Option (Int32 × Md)) : ∃ q : Nat → Int32, fX9_ends_l16 r kk FU (s, p, a, z, R) (iI 0) = kk (s, q, a, z, R) ∧ ∀ j : Nat, j < 6212 → q j = p (j + 1553) := by
  have key : ∀ (k fu : Nat) (i : Int) (g : Nat → Int32), 0 ≤ i → i + k = 6212 → k < fu → (∀ j : Nat, (j : Int) < i → g j = p (j + 1553)) → (∀ j : Nat, i ≤ (j : Int) → g j = p j) → ∃ q : Nat → Int32, fX9_ends_l16 r kk fu (s, g, a, z, R) (iI i) = kk (s, q, a, z, R) ∧ ∀ j : Nat, j < 6212 → q j = p (j + 1553) := by
    intro k
    induction k with
    | zero =>
      intro fu i g h0 h1 h2 h3 h4
      obtain ⟨fu, rfl⟩ : ∃ q, fu = q + 1 := ⟨fu - 1, by omega⟩
      refine ⟨g, ?_, fun j hj => h3 j (by omega)⟩
      rw [fX9_ends_l16_s]
      clear h3 h4
      simp (disch := omega) only [nmD, bdS, b2S, lit32, iA, iS, iM, iN, iLt, iLe, iE, zlT, zlF, zleT, zleF, zeT, zeF, RdI, WrI, DvI, jmaxI, jminI, jabsI, bI0, Zb0, Zb1, ZbI, ↓reduceIte, not_true_eq_false, not_false_eq_true, ite_not, and_true, true_and, and_false, false_and, and_self]
    | succ k ih =>
      intro fu i g h0 h1 h2 h3 h4
      obtain ⟨fu, rfl⟩ : ∃ q, fu = q + 1 := ⟨fu - 1, by omega⟩
      obtain ⟨f, f1, f2⟩ := ih fu (i + 1) (upd g i.toNat (g (i + 1553).toNat)) (by omega) (by omega) (by omega) (fun j hj => by
        by_cases e : j = i.toNat
        · subst e
          rw [ud_s, h4 _ (by omega)]
          congr 1
          omega
        · rw [ud_n (by omega)]; exact h3 j (by omega)) (fun j hj => by rw [ud_n (by omega)]; exact h4 j (by omega))
      refine ⟨f, ?_, f2⟩
      rw [fX9_ends_l16_s, ← f1]
      clear h3 h4 ih f1 f2
      simp (disch := omega) only [nmD, bdS, b2S, lit32, iA, iS, iM, iN, iLt, iLe, iE, zlT, zlF, zleT, zleF, zeT, zeF, RdI, WrI, DvI, jmaxI, jminI, jabsI, bI0, Zb0, Zb1, ZbI, ↓reduceIte, not_true_eq_false, not_false_eq_true, ite_not, and_true, true_and, and_false, false_and, and_self]
  exact key 6212 FU 0 p (by omega) (by omega) (by unfold FU; omega) (fun j hj => by omega) (fun _ _ => rfl)
theorem endsM (hn : 0 ≤ n ∧ n ≤ 5) (hH : HM p n H) (hHW : ∀ k : Nat, (k : Int) < n → WFS K (H k)) (hA : StM a A) (hAW : WFS K A) {r : Int32} (hr : ¬ r < 0) : ∃ q : Nat → Int32, fX9_ends (s, p, a, iI n, R) r = some (r, (s, q, a, iI (nNext n), R)) ∧ HM q (nNext n) (hNext n H A) := by
  have e0 : (0 : Int32) = iI 0 := rfl
  have e5 : (5 : Int32) = iI 5 := rfl
  have hr2 : (0 : Int32) ≤ r := Int32.not_lt.mp hr
  unfold fX9_ends nNext
  rw [if_pos hr2]
  by_cases c : n < 5
  · obtain ⟨q, q1, q2, q3⟩ := ends57 (s := s) (p := p) (a := a) (R := R) (n := n) (r := r) (by omega)
    refine ⟨q, ?_, fun k hk => ?_⟩
    · rw [if_neg (fun z => by
        have z : iI n = 5 := z
        rw [e5, iE (by omega) (by omega) (by omega) (by omega)] at z
        omega), if_pos c]
      unfold fX9_ends_j55
      rw [e0]
      exact q1
    · rw [if_pos c] at hk
      unfold hNext
      rw [if_pos c]
      by_cases e : (k : Int) = n
      · rw [if_pos e]
        exact hA.cong hAW (fun j hj => by
          have := q2 j hj
          rw [show n.toNat = k by omega] at this
          exact this)
      · rw [if_neg e]
        exact (hH k (by omega)).cong (hHW k (by omega)) (fun j hj => q3 _ (by omega))
  · obtain rfl : n = 5 := by omega
    obtain ⟨q, q1, q2⟩ := ends16 (s := s) (p := p) (a := a) (R := R) (z := iI 5) (r := r) (fun M15 => nm ((M15.2.2.2.1) - 1) fun v16 => nm ((M15.1, M15.2.1, M15.2.2.1, v16, M15.2.2.2.2)) fun M17 => fX9_ends_j55 M17 r)
    obtain ⟨q', q3, q4, q5⟩ := ends57 (s := s) (p := q) (a := a) (R := R) (n := 4) (r := r) (by omega)
    refine ⟨q', ?_, fun k hk => ?_⟩
    · rw [if_pos (show iI 5 = 5 from rfl), if_neg (by omega)]
      rw [e0, q1]
      simp only [nmD]
      unfold fX9_ends_j55
      rw [e0]
      exact q3
    · rw [if_neg (by omega)] at hk
      unfold hNext
      rw [if_neg (by omega)]
      by_cases e : (k : Int) = 4
      · rw [if_pos e]
        exact hA.cong hAW (fun j hj => by
          have := q4 j hj
          rw [show (4 : Int).toNat = k by omega] at this
          exact this)
      · rw [if_neg e]
        have h1 := hH (k + 1) (by omega)
        have h2 := hHW (k + 1) (by omega)
        rw [show ((k + 1 : Nat) : Int) = (k : Int) + 1 by omega] at h1 h2
        exact h1.cong h2 (fun j hj => by
          rw [q5 _ (by omega), q2 _ (by omega), show 1553 * k + j + 1553 = 1553 * (k + 1) + j by omega])
theorem endsN {M : Md} {r : Int32} (hr : r < 0) : fX9_ends M r = some (r, M) := by
  unfold fX9_ends
  rw [if_neg (fun q => by exact absurd hr (Int32.not_lt.mpr q))]
theorem undoM (hn : 0 < n ∧ n ≤ 5) : ∃ f : Nat → Int32, fX9_undo (s, p, a, iI n, R) = some (iI (n - 1), (f, p, a, iI (n - 1), R)) ∧ ∀ j : Nat, j < 1553 → f j = p (1553 * (n - 1).toNat + j) := by
  have key : ∀ (k fu : Nat) (i : Int) (g : Nat → Int32), 0 ≤ i → i + k = 1553 → k < fu → (∀ j : Nat, (j : Int) < i → g j = p (1553 * (n - 1).toNat + j)) → ∃ f : Nat → Int32, fX9_undo_l22 fu (g, p, a, iI (n - 1), R) (iI i) = some (iI (n - 1), (f, p, a, iI (n - 1), R)) ∧ ∀ j : Nat, j < 1553 → f j = p (1553 * (n - 1).toNat + j) := by
    intro k
    induction k with
    | zero =>
      intro fu i g h0 h1 h2 h3
      obtain ⟨fu, rfl⟩ : ∃ q, fu = q + 1 := ⟨fu - 1, by omega⟩
      refine ⟨g, ?_, fun j hj => h3 j (by omega)⟩
      rw [fX9_undo_l22_s]
      clear h3
      simp (disch := omega) only [nmD, bdS, b2S, lit32, iA, iS, iM, iN, iLt, iLe, iE, zlT, zlF, zleT, zleF, zeT, zeF, RdI, WrI, DvI, jmaxI, jminI, jabsI, bI0, Zb0, Zb1, ZbI, ↓reduceIte, not_true_eq_false, not_false_eq_true, ite_not, and_true, true_and, and_false, false_and, and_self]
    | succ k ih =>
      intro fu i g h0 h1 h2 h3
      obtain ⟨fu, rfl⟩ : ∃ q, fu = q + 1 := ⟨fu - 1, by omega⟩
      obtain ⟨f, f1, f2⟩ := ih fu (i + 1) (upd g i.toNat (p (1553 * (n - 1) + i).toNat)) (by omega) (by omega) (by omega) (fun j hj => by
        by_cases e : j = i.toNat
        · subst e
          rw [ud_s]
          congr 1
          omega
        · rw [ud_n (by omega)]; exact h3 j (by omega))
      refine ⟨f, ?_, f2⟩
      rw [fX9_undo_l22_s, ← f1]
      clear h3 ih f1 f2
      simp (disch := omega) only [nmD, bdS, b2S, lit32, iA, iS, iM, iN, iLt, iLe, iE, zlT, zlF, zleT, zleF, zeT, zeF, RdI, WrI, DvI, jmaxI, jminI, jabsI, bI0, Zb0, Zb1, ZbI, ↓reduceIte, not_true_eq_false, not_false_eq_true, ite_not, and_true, true_and, and_false, false_and, and_self]
  obtain ⟨f, f1, f2⟩ := key 1553 FU 0 s (by omega) (by omega) (by unfold FU; omega) (fun j hj => by omega)
  refine ⟨f, ?_, f2⟩
  rw [← f1]
  clear f1 f2 key
  simp (disch := omega) only [nmD, bdS, b2S, lit32, iA, iS, iM, iN, iLt, iLe, iE, zlT, zlF, zleT, zleF, zeT, zeF, RdI, WrI, DvI, jmaxI, jminI, jabsI, bI0, Zb0, Zb1, ZbI, ↓reduceIte, not_true_eq_false, not_false_eq_true, ite_not, and_true, true_and, and_false, false_and, and_self, fX9_undo]
end EM
