/-! The forecast. -/
def nx (A : Ab) (room after : Int) : Int := lp (fun i f => if A.B i 0 = room ∧ A.B i 3 = 0 ∧ after < A.B i 1 ∧ (f = -9 ∨ A.B i 1 < A.B f 1) then i else f) A.nB.toNat 0 (-9)
theorem nx_l {A : Ab} {room after : Int} : ∀ (k : Nat) (i f : Int), 0 ≤ i → NxU A room after i f → NxU A room after (i + k) (lp (fun i f => if A.B i 0 = room ∧ A.B i 3 = 0 ∧ after < A.B i 1 ∧ (f = -9 ∨ A.B i 1 < A.B f 1) then i else f) k i f) := by
  intro k
  induction k with
  | zero => intro i f h0 h; rw [lp_z]; simpa using h
  | succ k ih =>
    intro i f h0 h
    rw [lp_s, show i + ((k + 1 : Nat) : Int) = (i + 1) + k by omega]
    refine ih (i + 1) _ (by omega) ?_
    by_cases c : A.B i 0 = room ∧ A.B i 3 = 0 ∧ after < A.B i 1 ∧ (f = -9 ∨ A.B i 1 < A.B f 1)
    · rw [if_pos c]
      exact h.take h0 ⟨c.1, c.2.1, c.2.2.1⟩ c.2.2.2
    · rw [if_neg c]
      by_cases c2 : Cand A room after i
      · have c3 : ¬ (f = -9 ∨ A.B i 1 < A.B f 1) := fun q => c ⟨c2.1, c2.2.1, c2.2.2, q⟩
        exact h.keep (fun e => c3 (Or.inl e)) (by omega)
      · exact h.skip c2
theorem nxU {A : Ab} {K : Int} (hW : WF K A) (room after : Int) : NxU A room after A.nB (nx A room after) := by
  have hn := hW.n
  have h := nx_l (A := A) (room := room) (after := after) A.nB.toNat 0 (-9) (by omega) (Or.inl ⟨rfl, fun j h1 h2 => by omega⟩)
  rw [show (0 : Int) + (A.nB.toNat : Int) = A.nB by omega] at h
  exact h
theorem xNx {V : Vn} {A : Ab} {K : Int} (h : RepX V A) (hW : WF K A) {room after : Int} (h1 : -2147483648 ≤ room) (h2 : room < 2147483648) (h3 : -2147483648 ≤ after) (h4 : after < 2147483648) : fX7_nextBooked V (iI room) (iI after) = some (iI (nx A room after)) := by
  obtain ⟨c, e, hc⟩ := xNext h hW ⟨h1, h2⟩ ⟨h3, h4⟩
  rw [e, hc.one (nxU hW room after)]
def ct (p : Int → Bool) : Nat → Int
  | 0 => 0
  | n + 1 => ct p n + (if p n then 1 else 0)
theorem ct_le (p : Int → Bool) : ∀ n : Nat, ct p n ≤ n
  | 0 => by simp [ct]
  | n + 1 => by
    have h := ct_le p n
    rw [ct]
    split <;> omega
theorem ct_mono {p q : Int → Bool} (h : ∀ i, p i = true → q i = true) : ∀ n : Nat, ct p n ≤ ct q n
  | 0 => by simp [ct]
  | n + 1 => by
    have h1 := ct_mono h n
    have h2 := h n
    rw [ct, ct]
    by_cases c : p n = true
    · rw [if_pos c, if_pos (h2 c)]; omega
    · rw [if_neg c]; split <;> omega
theorem ct_lt {p q : Int → Bool} (h : ∀ i, p i = true → q i = true) {j : Int} (h0 : 0 ≤ j) (hp : p j = false) (hq : q j = true) : ∀ n : Nat, j < n → ct p n + 1 ≤ ct q n
  | 0, h1 => by omega
  | n + 1, h1 => by
    rw [ct, ct]
    by_cases e : j = n
    · have hm := ct_mono h n
      rw [← e, hp, hq, if_neg (by simp), if_pos rfl]
      omega
    · have hm := ct_lt h h0 hp hq n (by omega)
      have h2 := h n
      by_cases c : p n = true
      · rw [if_pos c, if_pos (h2 c)]; omega
      · rw [if_neg c]; split <;> omega
/-- the bookings of a room that are booked for earlier than t -/
def cb (A : Ab) (room t : Int) : Int := ct (fun i => decide (A.B i 0 = room ∧ A.B i 3 = 0 ∧ A.B i 1 < t)) A.nB.toNat
def Good (A : Ab) (w b : Int) : Prop := 0 ≤ b ∧ b < A.nB ∧ A.B b 0 = A.B w 0 ∧ A.B b 3 = 0 ∧ A.B b 1 ≤ A.B w 1
section FC
variable {A : Ab} {K : Int}
theorem cb_le (hW : WF K A) {w b : Int} (h : Good A w b) : cb A (A.B w 0) (A.B b 1) ≤ 15 := by
  have hn := hW.n
  have h1 := ct_lt (p := fun i => decide (A.B i 0 = A.B w 0 ∧ A.B i 3 = 0 ∧ A.B i 1 < A.B b 1)) (q := fun _ => true) (fun _ _ => rfl) (j := b) h.1 (by simp) rfl A.nB.toNat (by have := h.2.1; omega)
  have h2 := ct_le (fun _ => true) A.nB.toNat
  unfold cb
  omega
theorem cb_lt {w b c : Int} (h : Good A w b) (hc : A.B b 1 < A.B c 1) : cb A (A.B w 0) (A.B b 1) + 1 ≤ cb A (A.B w 0) (A.B c 1) := by
  unfold cb
  refine ct_lt (fun i hi => ?_) (j := b) h.1 (by simp) (by simp [h.2.2.1, h.2.2.2.1, hc]) A.nB.toNat (by have := h.1; have := h.2.1; omega)
  have h1 := of_decide_eq_true hi
  exact decide_eq_true ⟨h1.1, h1.2.1, by omega⟩
theorem apart (hW : WF K A) {i j : Int} (h1 : 0 ≤ i) (h2 : i < A.nB) (h3 : 0 ≤ j) (h4 : j < A.nB) (h5 : A.B i 0 = A.B j 0) (h6 : A.B i 3 < 2) (h7 : A.B j 3 < 2) (h8 : i ≠ j) : A.R (A.B i 0) 0 + A.R (A.B i 0) 1 ≤ iabs (A.B i 1 - A.B j 1) := hW.2.2.2.2.2.2.2 i j h1 h2 h3 h4 h8 h5 h6 h7
theorem good_step (hW : WF K A) {w b : Int} (hw : Good A w w) (h : Good A w b) (hne : b ≠ w) : Good A w (nx A (A.B w 0) (A.B b 1)) ∧ A.B b 1 + A.R (A.B w 0) 0 + A.R (A.B w 0) 1 ≤ A.B (nx A (A.B w 0) (A.B b 1)) 1 := by
  obtain ⟨b1, b2, b3, b4, b5⟩ := h
  obtain ⟨w1, w2, w3, w4, w5⟩ := hw
  have hwr := hW.b w1 w2
  have hr := hW.r hwr.1.1 hwr.1.2
  have h9 := apart hW b1 b2 w1 w2 b3 (by omega) (by omega) hne
  rw [b3] at h9
  have h10 := iabs_le (x := A.B b 1 - A.B w 1)
  have hcw : Cand A (A.B w 0) (A.B b 1) w := ⟨rfl, w4, by omega⟩
  rcases nxU hW (A.B w 0) (A.B b 1) with ⟨-, q⟩ | ⟨q1, q2, q3, q4⟩
  · exact absurd hcw (q w w1 w2)
  · have h11 := q4 w w1 w2 hcw
    have h12 := q3.2.2
    have h13 := apart hW b1 b2 q1 q2 (by rw [b3, q3.1]) (by omega) (by rw [q3.2.1]; omega) (fun e => by rw [← e] at h12; omega)
    rw [b3] at h13
    have h14 := iabs_le (x := A.B b 1 - A.B (nx A (A.B w 0) (A.B b 1)) 1)
    exact ⟨⟨q1, q2, q3.1, q3.2.1, by omega⟩, by omega⟩
theorem good_first (hW : WF K A) {w : Int} (hw : Good A w w) : Good A w (nx A (A.B w 0) (-1)) := by
  obtain ⟨w1, w2, w3, w4, w5⟩ := hw
  have hwr := hW.b w1 w2
  have hcw : Cand A (A.B w 0) (-1) w := ⟨rfl, w4, by omega⟩
  rcases nxU hW (A.B w 0) (-1) with ⟨-, q⟩ | ⟨q1, q2, q3, q4⟩
  · exact absurd hcw (q w w1 w2)
  · have h11 := q4 w w1 w2 hcw
    exact ⟨q1, q2, q3.1, q3.2.1, by omega⟩
/-- when the room is free for w, from a booking b on, the room being free at f -/
def fcs (A : Ab) (w : Int) : Nat → Int → Int → Int
  | 0, f, _ => f
  | n + 1, f, b => if b = w then f else fcs A w n (max f (A.B b 1) + A.R (A.B w 0) 0 + A.R (A.B w 0) 1) (nx A (A.B w 0) (A.B b 1))
def stt (A : Ab) (w later : Int) : Int := max (fcs A w 721 (A.R (A.B w 0) 4 + later) (nx A (A.B w 0) (-1))) (A.B w 1)
theorem fcs_s (w : Int) (n : Nat) (f b : Int) : fcs A w (n + 1) f b = if b = w then f else fcs A w n (max f (A.B b 1) + A.R (A.B w 0) 0 + A.R (A.B w 0) 1) (nx A (A.B w 0) (A.B b 1)) := rfl
set_option maxHeartbeats 4000000 in
theorem xSt_l {V : Vn} (h : RepX V A) (hW : WF K A) {w : Int} (hw : Good A w w) (kk : Int32 → Option Int32) : ∀ (n fu : Nat) (f b t : Int), Good A w b → A.B w 1 - A.B b 1 < n → n ≤ fu → 0 ≤ f → f ≤ 160010000 + 200 * A.B b 1 → 0 ≤ t → t ≤ cb A (A.B w 0) (A.B b 1) → fX7_forecastStart_l31 V (iI w) (iI (A.B w 0)) kk fu (iI f) (iI b) (iI t) = kk (iI (fcs A w n f b)) := by
  have hn := hW.n
  have hwr := hW.b hw.1 hw.2.1
  have hr := hW.r hwr.1.1 hwr.1.2
  intro n
  induction n with
  | zero =>
    intro fu f b t hb h1
    have := hb.2.2.2.2
    omega
  | succ n ih =>
    intro fu f b t hb h1 h2 h3 h4 h5 h6
    obtain ⟨fu, rfl⟩ : ∃ q, fu = q + 1 := ⟨fu - 1, by omega⟩
    have hbb := hW.b hb.1 hb.2.1
    have hb1 := hb.1
    have hb2 := hb.2.1
    have hw1 := hw.1
    have hw2 := hw.2.1
    have hc := cb_le hW hb
    rw [fX7_forecastStart_l31_s, fcs_s]
    by_cases c : b = w
    · subst c
      clear ih
      simp (disch := omega) only [nmD, bdS, b2S, lit32, iA, iS, iM, iN, iLt, iLe, iE, zlT, zlF, zleT, zleF, zeT, zeF, RdI, WrI, DvI, jmaxI, jminI, jabsI, bI0, Zb0, Zb1, ZbI, ↓reduceIte, not_true_eq_false, not_false_eq_true, ite_not, and_true, true_and, and_false, false_and, and_self]
    · obtain ⟨g1, g2⟩ := good_step hW hw hb c
      have hlt := cb_lt hb (c := nx A (A.B w 0) (A.B b 1)) (by omega)
      have hi := ih fu (max f (A.B b 1) + A.R (A.B w 0) 0 + A.R (A.B w 0) 1) (nx A (A.B w 0) (A.B b 1)) (t + 1) g1 (by omega) (by omega) (by omega) (by omega) (by omega) (by omega)
      clear ih
      simp (disch := omega) only [nmD, bdS, b2S, lit32, iA, iS, iM, iN, iLt, iLe, iE, zlT, zlF, zleT, zleF, zeT, zeF, RdI, WrI, DvI, jmaxI, jminI, jabsI, bI0, Zb0, Zb1, ZbI, ↓reduceIte, not_true_eq_false, not_false_eq_true, ite_not, and_true, true_and, and_false, false_and, and_self, xB h hW, xPeriod h hW, xNx h hW, c]
      rw [← hi, show max (A.B b 1) f + (A.R (A.B w 0) 0 + A.R (A.B w 0) 1) = max f (A.B b 1) + A.R (A.B w 0) 0 + A.R (A.B w 0) 1 by omega]
theorem xSt {V : Vn} (h : RepX V A) (hW : WF K A) {w : Int} (hw : Good A w w) : fX7_forecastStart V (iI w) = some (iI (stt A w 0)) := by
  have hn := hW.n
  have hw1 := hw.1
  have hw2 := hw.2.1
  have hwr := hW.b hw.1 hw.2.1
  have hr := hW.r hwr.1.1 hwr.1.2
  have hg := good_first hW hw
  have hgb := hW.b hg.1 hg.2.1
  have hcb : 0 ≤ cb A (A.B w 0) (A.B (nx A (A.B w 0) (-1)) 1) := by
    unfold cb
    have := ct_mono (p := fun _ => false) (q := fun i => decide (A.B i 0 = A.B w 0 ∧ A.B i 3 = 0 ∧ A.B i 1 < A.B (nx A (A.B w 0) (-1)) 1)) (fun _ q => by cases q) A.nB.toNat
    have h0 : ∀ n : Nat, ct (fun _ => false) n = 0 := by
      intro n
      induction n with
      | zero => rfl
      | succ n ih => rw [ct, ih]; rfl
    rw [h0] at this
    exact this
  have hfb : 0 ≤ fcs A w 721 (A.R (A.B w 0) 4) (nx A (A.B w 0) (-1)) ∧ fcs A w 721 (A.R (A.B w 0) 4) (nx A (A.B w 0) (-1)) ≤ 161000000 := by
    have key : ∀ (n : Nat) (f b : Int), Good A w b → A.B w 1 - A.B b 1 < n → 0 ≤ f → f ≤ 160010000 + 200 * A.B b 1 → 0 ≤ fcs A w n f b ∧ fcs A w n f b ≤ 161000000 := by
      intro n
      induction n with
      | zero =>
        intro f b hb h1
        have := hb.2.2.2.2
        omega
      | succ n ih =>
        intro f b hb h1 h2 h3
        have hbb := hW.b hb.1 hb.2.1
        rw [fcs_s]
        by_cases c : b = w
        · rw [if_pos c]; omega
        · rw [if_neg c]
          obtain ⟨g1, g2⟩ := good_step hW hw hb c
          exact ih _ _ g1 (by omega) (by omega) (by omega)
    exact key 721 _ _ hg (by omega) (by omega) (by omega)
  unfold fX7_forecastStart
  have e0 : (-1 : Int32) = iI (-1) := rfl
  have e1 : (0 : Int32) = iI 0 := rfl
  have e4 : (4 : Int32) = iI 4 := rfl
  have e5 : (1 : Int32) = iI 1 := rfl
  have e6 : (16 : Int32) = iI 16 := rfl
  have e7 : (10 : Int32) = iI 10 := rfl
  have e8 : (11 : Int32) = iI 11 := rfl
  rw [e0, e1, e4, e5, e6, e7, e8, xB h hW (by omega) (by omega) (by omega) (by omega), bdS, xR h hW (by omega) (by omega) (by omega) (by omega), bdS, xNx h hW (by omega) (by omega) (by omega) (by omega), bdS,
    xSt_l h hW hw _ 721 FU (A.R (A.B w 0) 4) (nx A (A.B w 0) (-1)) 0 hg (by omega) (by unfold FU; omega) (by omega) (by omega) (by omega) hcb]
  rw [xB h hW (by omega) (by omega) (by omega) (by omega), bdS, nmD, jmaxI (by omega) (by omega) (by omega) (by omega)]
  unfold stt
  rw [show A.R (A.B w 0) 4 + 0 = A.R (A.B w 0) 4 by omega, show ∀ x y : Int, max x y = max y x from fun x y => by omega]
end FC
