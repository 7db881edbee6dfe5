/-! One step of the law: a booking. -/
section AC3
variable {N : XLm} {A : Ab} {K G : Int}
theorem poss_but {r t : Int} (hn : 0 ≤ A.nB) : Poss A r t (-1) ↔ Poss A r t (-9) := ⟨fun h j j0 j1 _ => h j j0 j1 (by omega), fun h j j0 j1 _ => h j j0 j1 (by omega)⟩
set_option maxHeartbeats 8000000 in
theorem aBook544 (h : InvX K N.1 A) (hL : RepL N.2 A G) (hG : 0 ≤ G ∧ G ≤ 8 * K) (hm : Sma A) (hM : MI A) (hK : K + 2 ≤ 400) {r t p v d : Int} (hr : 0 ≤ r ∧ r < A.nR) (ht : 0 ≤ t ∧ t ≤ 720) (hp : 2 ≤ p ∧ p ≤ A.R r 3) (hv : (v = -1 ∧ d = 0) ∨ (0 ≤ v ∧ v < A.nV ∧ d = min (A.R r 2 * p) (A.V v 1))) (hq : Poss A r t (-9)) (hn7 : A.nB < 7) : Go K (fL_acts_j544 N (iI r) (iI t) (iI p) (iI v) (iI A.nB) (iI (A.R r 2 * p)) (iI d)) := by
  have hn := h.W.n
  have hR := h.W.r hr.1 hr.2
  have hmu := mulb (a := A.R r 2) (b := p) (X := 200) (Y := 8) (by omega) (by omega) (by omega) (by omega)
  have hvb : 0 ≤ d ∧ d ≤ A.R r 2 * p ∧ (0 < d → 0 ≤ v ∧ v < A.nV) ∧ -1 ≤ v ∧ v < 8 := by
    rcases hv with ⟨rfl, rfl⟩ | ⟨v0, v1, hd⟩
    · exact ⟨by omega, by omega, fun z => absurd z (by omega), by omega, by omega⟩
    · have := h.W.2.2.2.2.1 v v0 v1
      exact ⟨by omega, by omega, fun _ => ⟨v0, v1⟩, by omega, by omega⟩
  obtain ⟨V', v1, v2, v3⟩ := cBook59 h.X h.W hr ht hp hv hq (by omega)
  have v1' : fX0_newBooking N.1.1.1 (iI r) (iI t) (iI p) (iI v) = some (iI A.nB, V') := by
    rw [cBookTo h.X h.W hr ht hp (by rcases hv with ⟨q, -⟩ | ⟨q1, q2, -⟩; exact Or.inl q; exact Or.inr ⟨q1, q2⟩)]
    exact v1
  obtain ⟨M', e1, e2⟩ := actOk h (cx := fun V => fX0_newBooking V (iI r) (iI t) (iI p) (iI v)) v1' (by omega) (by omega) v2 (v3.mono (K' := K + 2) (by omega) (by omega))
  have e1 : fX8_book N.1 (iI r) (iI t) (iI p) (iI v) = some (iI A.nB, M') := e1
  generalize A.R r 2 * p = c at *
  have hMn := mi_nb hM h.W (r := r) (t := t) (p := p) (c := c) (d := d) (v := v) hvb.1 hvb.2.2.1
  have hsm : Sma (nb A r t p c d v) := by
    unfold nb
    split
    · exact ⟨hm.1, by show A.nB + 1 ≤ 7; omega, hm.2.2⟩
    · exact ⟨hm.1, by show A.nB + 1 ≤ 7; omega, hm.2.2⟩
  have g1 : upd (upd N.2.1 (4 : Int).toNat (iI (G + 1))) (3 : Int).toNat (iI (A.t + (c - d))) (1 : Int).toNat = iI A.nB := (ud_n (by decide)).trans ((ud_n (by decide)).trans hL.g1)
  have g3 : upd N.2.1 (4 : Int).toNat (iI (G + 1)) (3 : Int).toNat = iI A.t := (ud_n (by decide)).trans hL.g3
  have g4 := hL.g4
  -- the rows
  have fin : ∀ (v' : Nat → Int32), (v' = if 0 < d then upd N.2.2.2.2.2.2 (2 * v + 1).toNat (iI (A.V v 1 - d)) else N.2.2.2.2.2.2) → RepL (upd (upd (upd N.2.1 (4 : Int).toNat (iI (G + 1))) (3 : Int).toNat (iI (A.t + (c - d)))) (1 : Int).toNat (iI (A.nB + 1)), N.2.2.1, N.2.2.2.1, upd (upd (upd (upd (upd (upd (upd (upd (upd N.2.2.2.2.1 (9 * A.nB).toNat (iI r)) (9 * A.nB + 1).toNat (iI t)) (9 * A.nB + 2).toNat (iI p)) (9 * A.nB + 3).toNat (iI 0)) (9 * A.nB + 4).toNat (iI c)) (9 * A.nB + 5).toNat (iI (c - d))) (9 * A.nB + 6).toNat (iI 0)) (9 * A.nB + 7).toNat (iI (-9))) (9 * A.nB + 8).toNat (iI (-9)), upd (upd (upd (upd N.2.2.2.2.2.1 (4 * A.nB).toNat (iI v)) (4 * A.nB + 1).toNat (iI d)) (4 * A.nB + 2).toNat (iI (if 0 < d then A.nB else -1))) (4 * A.nB + 3).toNat (iI G), v') (nb A r t p c d v) (G + 1) := fun v' hv' => by
    refine repL_nb hL h.W hG.1 hvb.1 hvb.2.2.1 (fun j j0 j1 => ?_) ?_ ?_ ?_ ?_ ?_ ?_ ?_ ?_ ?_ (fun j j0 j1 => ?_) ?_ ?_ ?_ ?_ hv'
    · rw [ud_n (by omega), ud_n (by omega), ud_n (by omega), ud_n (by omega), ud_n (by omega), ud_n (by omega), ud_n (by omega), ud_n (by omega), ud_n (by omega)]
    · rw [ud_n (by omega), ud_n (by omega), ud_n (by omega), ud_n (by omega), ud_n (by omega), ud_n (by omega), ud_n (by omega), ud_n (by omega), ud_s]
    · rw [ud_n (by omega), ud_n (by omega), ud_n (by omega), ud_n (by omega), ud_n (by omega), ud_n (by omega), ud_n (by omega), ud_s]
    · rw [ud_n (by omega), ud_n (by omega), ud_n (by omega), ud_n (by omega), ud_n (by omega), ud_n (by omega), ud_s]
    · rw [ud_n (by omega), ud_n (by omega), ud_n (by omega), ud_n (by omega), ud_n (by omega), ud_s]
    · rw [ud_n (by omega), ud_n (by omega), ud_n (by omega), ud_n (by omega), ud_s]
    · rw [ud_n (by omega), ud_n (by omega), ud_n (by omega), ud_s]
    · rw [ud_n (by omega), ud_n (by omega), ud_s]
    · rw [ud_n (by omega), ud_s]
    · rw [ud_s]
    · rw [ud_n (by omega), ud_n (by omega), ud_n (by omega), ud_n (by omega)]
    · rw [ud_n (by omega), ud_n (by omega), ud_n (by omega), ud_s]
    · rw [ud_n (by omega), ud_n (by omega), ud_s]
    · rw [ud_n (by omega), ud_s]
    · rw [ud_s]
  have hvv : 0 < d → N.2.2.2.2.2.2 (2 * v + 1).toNat = iI (A.V v 1) := fun z => hL.V (v := v) (c := 1) (hvb.2.2.1 z).1 (hvb.2.2.1 z).2 (by omega) (by omega)
  have hvb2 := hvb.2.2.1
  obtain ⟨m1, m2, m3⟩ := hm
  by_cases z : 0 < d
  · have f := fin (upd N.2.2.2.2.2.2 (2 * v + 1).toNat (iI (A.V v 1 - d))) (by rw [if_pos z])
    rw [if_pos z] at f
    have hv1 := hvv z
    obtain ⟨hv2, hv3⟩ := hvb2 z
    refine ⟨(M', _), ?_, _, G + 1, e2, f, by omega, hsm, hMn⟩
    obtain ⟨hr1, hr2⟩ := hr
    obtain ⟨ht1, ht2⟩ := ht
    clear fin f hvv e2 v1 v1' v2 v3 hL h hM hMn hsm hv hq hvb2
    simp (disch := omega) only [MoI, nmD, bdS, b2S, lit32, iA, iS, iM, iN, iLt, iLe, iE, zlT, zlF, zleT, zleF, zeT, zeF, RdI, WrI, DvI, jmaxI, jminI, jabsI, bI0, Zb0, Zb1, ZbI, ↓reduceIte, not_true_eq_false, not_false_eq_true, ite_not, and_true, true_and, and_false, false_and, and_self, fL_acts_j544, fL_acts_j695, fL_acts_j745, g1, g3, g4, hv1, e1]
  · have f := fin N.2.2.2.2.2.2 (by rw [if_neg z])
    rw [if_neg z] at f
    refine ⟨(M', _), ?_, _, G + 1, e2, f, by omega, hsm, hMn⟩
    obtain ⟨hr1, hr2⟩ := hr
    obtain ⟨ht1, ht2⟩ := ht
    clear fin f hvv e2 v1 v1' v2 v3 hL h hM hMn hsm hv hq hvb2
    simp (disch := omega) only [MoI, nmD, bdS, b2S, lit32, iA, iS, iM, iN, iLt, iLe, iE, zlT, zlF, zleT, zleF, zeT, zeF, RdI, WrI, DvI, jmaxI, jminI, jabsI, bI0, Zb0, Zb1, ZbI, ↓reduceIte, not_true_eq_false, not_false_eq_true, ite_not, and_true, true_and, and_false, false_and, and_self, fL_acts_j544, fL_acts_j695, fL_acts_j745, g1, g3, g4, e1]
theorem aBook488 (h : InvX K N.1 A) (hL : RepL N.2 A G) (hG : 0 ≤ G ∧ G ≤ 8 * K) (hm : Sma A) (hM : MI A) (hK : K + 2 ≤ 400) {r t p v : Int} (hr : 0 ≤ r ∧ r < A.nR) (ht : 0 ≤ t ∧ t ≤ 720) (hp : 2 ≤ p ∧ p ≤ A.R r 3) (hv : v = -1 ∨ (0 ≤ v ∧ v < A.nV)) (hq : Poss A r t (-9)) (hn7 : A.nB < 7) : Go K (fL_acts_j488 N (iI r) (iI t) (iI p) (iI v)) := by
  have hn := h.W.n
  have hR := h.W.r hr.1 hr.2
  have hmu := mulb (a := A.R r 2) (b := p) (X := 200) (Y := 8) (by omega) (by omega) (by omega) (by omega)
  have g1 := hL.g1
  have r2 := hL.R (r := r) (c := 2) hr.1 hr.2 (by omega) (by omega)
  have key := fun d hd => aBook544 h hL hG hm hM hK (r := r) (t := t) (p := p) (v := v) (d := d) hr ht hp hd hq hn7
  rcases hv with rfl | ⟨v0, v1⟩
  · have q := key 0 (Or.inl ⟨rfl, rfl⟩)
    have e : fL_acts_j488 N (iI r) (iI t) (iI p) (iI (-1)) = fL_acts_j544 N (iI r) (iI t) (iI p) (iI (-1)) (iI A.nB) (iI (A.R r 2 * p)) (iI 0) := by
      obtain ⟨m1, m2, m3⟩ := hm
      obtain ⟨hr1, hr2⟩ := hr
      clear q key h hL hM hq
      simp (disch := omega) only [MoI, nmD, bdS, b2S, lit32, iA, iS, iM, iN, iLt, iLe, iE, zlT, zlF, zleT, zleF, zeT, zeF, RdI, WrI, DvI, jmaxI, jminI, jabsI, bI0, Zb0, Zb1, ZbI, ↓reduceIte, not_true_eq_false, not_false_eq_true, ite_not, and_true, true_and, and_false, false_and, and_self, fL_acts_j488, g1, r2]
    rw [e]
    exact q
  · have hV := hL.V (v := v) (c := 1) v0 v1 (by omega) (by omega)
    have hVb := h.W.2.2.2.2.1 v v0 v1
    by_cases c : A.R r 2 * p ≤ A.V v 1
    · have q := key (A.R r 2 * p) (Or.inr ⟨v0, v1, by omega⟩)
      have e : fL_acts_j488 N (iI r) (iI t) (iI p) (iI v) = fL_acts_j544 N (iI r) (iI t) (iI p) (iI v) (iI A.nB) (iI (A.R r 2 * p)) (iI (A.R r 2 * p)) := by
        obtain ⟨m1, m2, m3⟩ := hm
        obtain ⟨hr1, hr2⟩ := hr
        clear q key h hL hM hq
        simp (disch := omega) only [MoI, nmD, bdS, b2S, lit32, iA, iS, iM, iN, iLt, iLe, iE, zlT, zlF, zleT, zleF, zeT, zeF, RdI, WrI, DvI, jmaxI, jminI, jabsI, bI0, Zb0, Zb1, ZbI, ↓reduceIte, not_true_eq_false, not_false_eq_true, ite_not, and_true, true_and, and_false, false_and, and_self, fL_acts_j488, g1, r2, hV]
      rw [e]
      exact q
    · have q := key (A.V v 1) (Or.inr ⟨v0, v1, by omega⟩)
      have e : fL_acts_j488 N (iI r) (iI t) (iI p) (iI v) = fL_acts_j544 N (iI r) (iI t) (iI p) (iI v) (iI A.nB) (iI (A.R r 2 * p)) (iI (A.V v 1)) := by
        obtain ⟨m1, m2, m3⟩ := hm
        obtain ⟨hr1, hr2⟩ := hr
        clear q key h hL hM hq
        simp (disch := omega) only [MoI, nmD, bdS, b2S, lit32, iA, iS, iM, iN, iLt, iLe, iE, zlT, zlF, zleT, zleF, zeT, zeF, RdI, WrI, DvI, jmaxI, jminI, jabsI, bI0, Zb0, Zb1, ZbI, ↓reduceIte, not_true_eq_false, not_false_eq_true, ite_not, and_true, true_and, and_false, false_and, and_self, fL_acts_j488, g1, r2, hV]
      rw [e]
      exact q
theorem aBook434 (h : InvX K N.1 A) (hL : RepL N.2 A G) (hG : 0 ≤ G ∧ G ≤ 8 * K) (hm : Sma A) (hM : MI A) (hK : K + 2 ≤ 400) {r t p v : Int} (hr : 0 ≤ r ∧ r < A.nR) (ht : 0 ≤ t ∧ t ≤ 720) (hp : 2 ≤ p ∧ p ≤ A.R r 3) (hv : v = -1 ∨ (0 ≤ v ∧ v < A.nV)) (hq : Poss A r t (-9)) : Go K (fL_acts_j434 N (iI r) (iI t) (iI p) (iI v)) := by
  have hn := h.W.n
  have hR := h.W.r hr.1 hr.2
  have g1 := hL.g1
  by_cases c : A.nB = 7
  · have r3 := hL.R (r := r) (c := 3) hr.1 hr.2 (by omega) (by omega)
    obtain ⟨M1, e1, h1⟩ := actNo (K' := K) h (cx := fun V => fX0_newBooking V (iI r) (iI t) (iI (A.R r 3 + 1)) (iI v)) (cBookP h.X h.W hr ht (by omega) (by omega) (by omega)) (by omega) (by omega) (by omega) (by omega)
    obtain ⟨M2, e2, h2⟩ := actNo (K' := K + 2) h1 (cx := fun V => fX0_newBooking V (iI r) (iI 721) (iI 2) (iI (-1))) (cBookT h1.X h1.W hr (by omega) (by omega) (by omega)) (by omega) (by omega) (by omega) (by omega)
    have e1 : fX8_book N.1 (iI r) (iI t) (iI (A.R r 3 + 1)) (iI v) = some (iI (-1), M1) := e1
    have e2 : fX8_book M1 (iI r) (iI 721) (iI 2) (iI (-1)) = some (iI (-1), M2) := e2
    refine ⟨(M2, N.2), ?_, A, G, h2, hL, by omega, hm, hM⟩
    obtain ⟨m1, m2, m3⟩ := hm
    obtain ⟨hr1, hr2⟩ := hr
    clear h1 h2 h hL hM hq hv
    simp (disch := omega) only [MoI, nmD, bdS, b2S, lit32, iA, iS, iM, iN, iLt, iLe, iE, zlT, zlF, zleT, zleF, zeT, zeF, RdI, WrI, DvI, jmaxI, jminI, jabsI, bI0, Zb0, Zb1, ZbI, ↓reduceIte, not_true_eq_false, not_false_eq_true, ite_not, and_true, true_and, and_false, false_and, and_self, fL_acts_j434, g1, c, r3, e1, e2]
  · have m2 := hm.2.1
    have q := aBook488 h hL hG hm hM hK hr ht hp hv hq (by omega)
    have e : fL_acts_j434 N (iI r) (iI t) (iI p) (iI v) = fL_acts_j488 N (iI r) (iI t) (iI p) (iI v) := by
      clear q h hL hM hq hv hm
      simp (disch := omega) only [MoI, nmD, bdS, b2S, lit32, iA, iS, iM, iN, iLt, iLe, iE, zlT, zlF, zleT, zleF, zeT, zeF, RdI, WrI, DvI, jmaxI, jminI, jabsI, bI0, Zb0, Zb1, ZbI, ↓reduceIte, not_true_eq_false, not_false_eq_true, ite_not, and_true, true_and, and_false, false_and, and_self, fL_acts_j434, g1]
    rw [e]
    exact q
theorem aBook (h : InvX K N.1 A) (hL : RepL N.2 A G) (hG : 0 ≤ G ∧ G ≤ 8 * K) (hm : Sma A) (hM : MI A) (hK : K + 2 ≤ 400) {x r : Int} (hx : 0 ≤ x ∧ x < 10000000) (hr : 0 ≤ r ∧ r < A.nR) : Go K (fL_acts_j337 N (iI x) (iI r)) := by
  have hn := h.W.n
  have hR := h.W.r hr.1 hr.2
  have g2 := hL.g2
  have r3 := hL.R (r := r) (c := 3) hr.1 hr.2 (by omega) (by omega)
  obtain ⟨hx1, hx2⟩ := hx
  have key : ∀ w : Int, 1 ≤ w → w ≤ 721 → Go K (fL_acts_j357 N (iI x) (iI r) (iI (x / 3)) (iI w)) := by
    intro w w1 w2
    have d1 := md_b (x / 3) (b := w) (by omega)
    have d2 := md_b (x / 1440) (b := A.R r 3 - 1) (by omega)
    have d3 := md_b (x / 5) (b := A.nV + 1) (by omega)
    have hmay := lMay hL h.W hm (room := r) (time := x / 3 % w) (but := -1) hr (by omega) (by omega)
    by_cases c : Poss A r (x / 3 % w) (-1)
    · have e := hmay.1 c
      have q := aBook434 h hL hG hm hM hK (r := r) (t := x / 3 % w) (p := 2 + x / 1440 % (A.R r 3 - 1)) (v := x / 5 % (A.nV + 1) - 1) hr (by omega) (by omega) (by omega) ((poss_but hn.2.2.1).mp c)
      have e2 : fL_acts_j357 N (iI x) (iI r) (iI (x / 3)) (iI w) = fL_acts_j434 N (iI r) (iI (x / 3 % w)) (iI (2 + x / 1440 % (A.R r 3 - 1))) (iI (x / 5 % (A.nV + 1) - 1)) := by
        obtain ⟨m1, m2, m3⟩ := hm
        obtain ⟨hr1, hr2⟩ := hr
        clear q hmay c h hL hM
        simp (disch := omega) only [MoI, nmD, bdS, b2S, lit32, iA, iS, iM, iN, iLt, iLe, iE, zlT, zlF, zleT, zleF, zeT, zeF, RdI, WrI, DvI, jmaxI, jminI, jabsI, bI0, Zb0, Zb1, ZbI, ↓reduceIte, not_true_eq_false, not_false_eq_true, ite_not, and_true, true_and, and_false, false_and, and_self, fL_acts_j357, r3, g2, e]
      rw [e2]
      exact q
    · have e := hmay.2 c
      have c' : ¬ Poss A r (x / 3 % w) (-9) := fun z => c ((poss_but hn.2.2.1).mpr z)
      have v1 : fX0_newBooking N.1.1.1 (iI r) (iI (x / 3 % w)) (iI (2 + x / 1440 % (A.R r 3 - 1))) (iI (x / 5 % (A.nV + 1) - 1)) = some (iI (-2), N.1.1.1) := by
        rw [cBookTo h.X h.W hr (by omega) (by omega) (by omega)]
        exact cBookN59 h.X h.W hr (by omega) c'
      obtain ⟨M1, e1, h1⟩ := actNo (K' := K + 2) h (cx := fun V => fX0_newBooking V (iI r) (iI (x / 3 % w)) (iI (2 + x / 1440 % (A.R r 3 - 1))) (iI (x / 5 % (A.nV + 1) - 1))) v1 (by omega) (by omega) (by omega) (by omega)
      have e1 : fX8_book N.1 (iI r) (iI (x / 3 % w)) (iI (2 + x / 1440 % (A.R r 3 - 1))) (iI (x / 5 % (A.nV + 1) - 1)) = some (iI (-2), M1) := e1
      refine ⟨(M1, N.2), ?_, A, G, h1, hL, by omega, hm, hM⟩
      obtain ⟨m1, m2, m3⟩ := hm
      obtain ⟨hr1, hr2⟩ := hr
      clear hmay c c' v1 h1 h hL hM
      simp (disch := omega) only [MoI, nmD, bdS, b2S, lit32, iA, iS, iM, iN, iLt, iLe, iE, zlT, zlF, zleT, zleF, zeT, zeF, RdI, WrI, DvI, jmaxI, jminI, jabsI, bI0, Zb0, Zb1, ZbI, ↓reduceIte, not_true_eq_false, not_false_eq_true, ite_not, and_true, true_and, and_false, false_and, and_self, fL_acts_j357, r3, g2, e, e1]
  have dd := md_b x (b := 2) (by omega)
  by_cases c : x % 2 = 0
  · have q := key 721 (by omega) (by omega)
    have e : fL_acts_j337 N (iI x) (iI r) = fL_acts_j357 N (iI x) (iI r) (iI (x / 3)) (iI 721) := by
      clear q key h hL hM hm
      simp (disch := omega) only [MoI, nmD, bdS, b2S, lit32, iA, iS, iM, iN, iLt, iLe, iE, zlT, zlF, zleT, zleF, zeT, zeF, RdI, WrI, DvI, jmaxI, jminI, jabsI, bI0, Zb0, Zb1, ZbI, ↓reduceIte, not_true_eq_false, not_false_eq_true, ite_not, and_true, true_and, and_false, false_and, and_self, fL_acts_j337]
    rw [e]
    exact q
  · have q := key 240 (by omega) (by omega)
    have e : fL_acts_j337 N (iI x) (iI r) = fL_acts_j357 N (iI x) (iI r) (iI (x / 3)) (iI 240) := by
      clear q key h hL hM hm
      simp (disch := omega) only [MoI, nmD, bdS, b2S, lit32, iA, iS, iM, iN, iLt, iLe, iE, zlT, zlF, zleT, zleF, zeT, zeF, RdI, WrI, DvI, jmaxI, jminI, jabsI, bI0, Zb0, Zb1, ZbI, ↓reduceIte, not_true_eq_false, not_false_eq_true, ite_not, and_true, true_and, and_false, false_and, and_self, fL_acts_j337]
    rw [e]
    exact q
end AC3
