/-! The law's rows behind a new room, voucher, booking, and a merge. -/
section LNW
variable {L : La} {A : Ab} {G K : Int}
theorem repL_rm (h : RepL L A G) (hn : 0 ≤ A.nR) {r' : Nat → Int32} {a b c d : Int} (ho : ∀ j : Int, 0 ≤ j → j < 11 * A.nR → r' j.toNat = L.2.2.1 j.toNat) (h0 : r' (11 * A.nR).toNat = iI a) (h1 : r' (11 * A.nR + 1).toNat = iI b) (h2 : r' (11 * A.nR + 2).toNat = iI c) (h3 : r' (11 * A.nR + 3).toNat = iI d) (hz : ∀ k : Int, 4 ≤ k → k < 11 → r' (11 * A.nR + k).toNat = iI 0) : RepL (upd L.1 (0 : Int).toNat (iI (A.nR + 1)), L.2.1, r', L.2.2.2) (rm A a b c d) G := by
  obtain ⟨⟨a0, a1, a2, a3, a4⟩, hS, hR, hB, hV, hQ⟩ := h
  have k : ∀ (j : Nat) (y : Int32), (j < (0 : Int).toNat ∨ (0 : Int).toNat < j) → L.1 j = y → upd L.1 (0 : Int).toNat (iI (A.nR + 1)) j = y := fun j y hj e => (ud_n hj).trans e
  have k0 : upd L.1 (0 : Int).toNat (iI (A.nR + 1)) (0 : Int).toNat = iI (A.nR + 1) := ud_s
  refine ⟨⟨k0, k (1 : Int).toNat _ (by decide) a1, k (2 : Int).toNat _ (by decide) a2, k (3 : Int).toNat _ (by decide) a3, k (4 : Int).toNat _ (by decide) a4⟩, hS, fun r x q1 q2 q3 q4 => ?_, hB, hV, hQ⟩
  have q2 : r < A.nR + 1 := q2
  show r' (11 * r + x).toNat = iI (rmR A a b c d r x)
  by_cases e : r = A.nR
  · subst e
    rcases (show x = 0 ∨ x = 1 ∨ x = 2 ∨ x = 3 ∨ 4 ≤ x by omega) with rfl | rfl | rfl | rfl | e1
    · rw [rmR_0, Int.add_zero]; exact h0
    · rw [rmR_1]; exact h1
    · rw [rmR_2]; exact h2
    · rw [rmR_3]; exact h3
    · rw [rmR_4 A a b c d e1]; exact hz x e1 q4
  · have e' : r < A.nR := by omega
    rw [rmR_n A a b c d e', ho _ (by omega) (by omega)]
    exact hR r x q1 e' q3 q4
theorem repL_gv (h : RepL L A G) (hn : 0 ≤ A.nV) {v' : Nat → Int32} {x : Int} (ho : ∀ j : Int, 0 ≤ j → j < 2 * A.nV → v' j.toNat = L.2.2.2.2.2 j.toNat) (h0 : v' (2 * A.nV).toNat = iI x) (h1 : v' (2 * A.nV + 1).toNat = iI x) : RepL (upd (upd L.1 (3 : Int).toNat (iI (A.t + x))) (2 : Int).toNat (iI (A.nV + 1)), L.2.1, L.2.2.1, L.2.2.2.1, L.2.2.2.2.1, v') (gv A x) G := by
  obtain ⟨⟨a0, a1, a2, a3, a4⟩, hS, hR, hB, hV, ow, st, q1, q2, q3⟩ := h
  have k : ∀ (j : Nat) (y : Int32), (j < (2 : Int).toNat ∨ (2 : Int).toNat < j) → (j < (3 : Int).toNat ∨ (3 : Int).toNat < j) → L.1 j = y → upd (upd L.1 (3 : Int).toNat (iI (A.t + x))) (2 : Int).toNat (iI (A.nV + 1)) j = y := fun j y hj hk e => (ud_n hj).trans ((ud_n hk).trans e)
  have k2 : upd (upd L.1 (3 : Int).toNat (iI (A.t + x))) (2 : Int).toNat (iI (A.nV + 1)) (2 : Int).toNat = iI (A.nV + 1) := ud_s
  have k3 : upd (upd L.1 (3 : Int).toNat (iI (A.t + x))) (2 : Int).toNat (iI (A.nV + 1)) (3 : Int).toNat = iI (A.t + x) := (ud_n (by decide)).trans ud_s
  refine ⟨⟨k (0 : Int).toNat _ (by decide) (by decide) a0, k (1 : Int).toNat _ (by decide) (by decide) a1, k2, k3, k (4 : Int).toNat _ (by decide) (by decide) a4⟩, hS, hR, hB, fun v c z1 z2 z3 z4 => ?_, ow, st, q1, q2, q3⟩
  have z2 : v < A.nV + 1 := z2
  show v' (2 * v + c).toNat = iI (up2 (up2 A.V A.nV 0 x) A.nV 1 x v c)
  by_cases e : v = A.nV
  · subst e
    by_cases e1 : c = 1
    · subst e1
      rw [up2_s]; exact h1
    · obtain rfl : c = 0 := by omega
      rw [up2_n _ _ (by omega), up2_s, Int.add_zero]; exact h0
  · rw [up2_n _ _ (by omega), up2_n _ _ (by omega), ho _ (by omega) (by omega)]
    exact hV v c z1 (by omega) z3 z4
theorem repL_nb (h : RepL L A G) (hW : WF K A) (hG : 0 ≤ G) {b' q' v' : Nat → Int32} {r t p c d v : Int} (hd : 0 ≤ d) (hv : 0 < d → 0 ≤ v ∧ v < A.nV)
    (hb : ∀ j : Int, 0 ≤ j → j < 9 * A.nB → b' j.toNat = L.2.2.2.1 j.toNat) (b0 : b' (9 * A.nB).toNat = iI r) (b1 : b' (9 * A.nB + 1).toNat = iI t) (b2 : b' (9 * A.nB + 2).toNat = iI p) (b3 : b' (9 * A.nB + 3).toNat = iI 0) (b4 : b' (9 * A.nB + 4).toNat = iI c) (b5 : b' (9 * A.nB + 5).toNat = iI (c - d)) (b6 : b' (9 * A.nB + 6).toNat = iI 0) (b7 : b' (9 * A.nB + 7).toNat = iI (-9)) (b8 : b' (9 * A.nB + 8).toNat = iI (-9))
    (hq : ∀ j : Int, 0 ≤ j → j < 4 * A.nB → q' j.toNat = L.2.2.2.2.1 j.toNat) (q0 : q' (4 * A.nB).toNat = iI v) (q1 : q' (4 * A.nB + 1).toNat = iI d) (q2 : q' (4 * A.nB + 2).toNat = iI (if 0 < d then A.nB else -1)) (q3 : q' (4 * A.nB + 3).toNat = iI G)
    (hvv : v' = if 0 < d then upd L.2.2.2.2.2 (2 * v + 1).toNat (iI (A.V v 1 - d)) else L.2.2.2.2.2) : RepL (upd (upd (upd L.1 (4 : Int).toNat (iI (G + 1))) (3 : Int).toNat (iI (A.t + (c - d)))) (1 : Int).toNat (iI (A.nB + 1)), L.2.1, L.2.2.1, b', q', v') (nb A r t p c d v) (G + 1) := by
  have hn := hW.n
  obtain ⟨⟨a0, a1, a2, a3, a4⟩, hS, hR, hB, hV, ow, st, r1, r2, r3⟩ := h
  have k : ∀ (j : Nat) (y : Int32), (j < (1 : Int).toNat ∨ (1 : Int).toNat < j) → (j < (3 : Int).toNat ∨ (3 : Int).toNat < j) → (j < (4 : Int).toNat ∨ (4 : Int).toNat < j) → L.1 j = y → upd (upd (upd L.1 (4 : Int).toNat (iI (G + 1))) (3 : Int).toNat (iI (A.t + (c - d)))) (1 : Int).toNat (iI (A.nB + 1)) j = y := fun j y hj hk hl e => (ud_n hj).trans ((ud_n hk).trans ((ud_n hl).trans e))
  have k1 : upd (upd (upd L.1 (4 : Int).toNat (iI (G + 1))) (3 : Int).toNat (iI (A.t + (c - d)))) (1 : Int).toNat (iI (A.nB + 1)) (1 : Int).toNat = iI (A.nB + 1) := ud_s
  have k3 : upd (upd (upd L.1 (4 : Int).toNat (iI (G + 1))) (3 : Int).toNat (iI (A.t + (c - d)))) (1 : Int).toNat (iI (A.nB + 1)) (3 : Int).toNat = iI (A.t + (c - d)) := (ud_n (by decide)).trans ud_s
  have k4 : upd (upd (upd L.1 (4 : Int).toNat (iI (G + 1))) (3 : Int).toNat (iI (A.t + (c - d)))) (1 : Int).toNat (iI (A.nB + 1)) (4 : Int).toNat = iI (G + 1) := (ud_n (by decide)).trans ((ud_n (by decide)).trans ud_s)
  have cB : ∀ i x : Int, 0 ≤ i → i < A.nB + 1 → 0 ≤ x → x < 9 → b' (9 * i + x).toNat = iI (nbB A r t p c (c - d) i x) := fun i x i0 i1 x0 x1 => by
    by_cases e : i = A.nB
    · rw [e]
      rcases (show x = 0 ∨ x = 1 ∨ x = 2 ∨ x = 3 ∨ x = 4 ∨ x = 5 ∨ x = 6 ∨ x = 7 ∨ x = 8 by omega) with rfl | rfl | rfl | rfl | rfl | rfl | rfl | rfl | rfl
      · rw [nbB_0, Int.add_zero]; exact b0
      · rw [nbB_1]; exact b1
      · rw [nbB_2]; exact b2
      · rw [nbB_3]; exact b3
      · rw [nbB_4]; exact b4
      · rw [nbB_5]; exact b5
      · rw [nbB_6]; exact b6
      · rw [nbB_7]; exact b7
      · rw [nbB_8]; exact b8
    · rw [nbB_o _ _ _ _ _ _ (by omega), hb _ (by omega) (by omega)]
      exact hB i x i0 (by omega) x0 x1
  have G0 : ∀ A' : Ab, A'.nR = A.nR → A'.nB = A.nB + 1 → A'.nV = A.nV → A'.t = A.t + (c - d) → upd (upd (upd L.1 (4 : Int).toNat (iI (G + 1))) (3 : Int).toNat (iI (A.t + (c - d)))) (1 : Int).toNat (iI (A.nB + 1)) (0 : Int).toNat = iI A'.nR ∧ upd (upd (upd L.1 (4 : Int).toNat (iI (G + 1))) (3 : Int).toNat (iI (A.t + (c - d)))) (1 : Int).toNat (iI (A.nB + 1)) (1 : Int).toNat = iI A'.nB ∧ upd (upd (upd L.1 (4 : Int).toNat (iI (G + 1))) (3 : Int).toNat (iI (A.t + (c - d)))) (1 : Int).toNat (iI (A.nB + 1)) (2 : Int).toNat = iI A'.nV ∧ upd (upd (upd L.1 (4 : Int).toNat (iI (G + 1))) (3 : Int).toNat (iI (A.t + (c - d)))) (1 : Int).toNat (iI (A.nB + 1)) (3 : Int).toNat = iI A'.t ∧ upd (upd (upd L.1 (4 : Int).toNat (iI (G + 1))) (3 : Int).toNat (iI (A.t + (c - d)))) (1 : Int).toNat (iI (A.nB + 1)) (4 : Int).toNat = iI (G + 1) := fun A' e1 e2 e3 e4 => by
    rw [e1, e2, e3, e4]
    exact ⟨k (0 : Int).toNat _ (by decide) (by decide) (by decide) a0, k1, k (2 : Int).toNat _ (by decide) (by decide) (by decide) a2, k3, k4⟩
  have oldq : ∀ x : Int, 0 ≤ x → x < A.nB → q' (4 * x).toNat = L.2.2.2.2.1 (4 * x).toNat ∧ q' (4 * x + 1).toNat = L.2.2.2.2.1 (4 * x + 1).toNat ∧ q' (4 * x + 2).toNat = L.2.2.2.2.1 (4 * x + 2).toNat ∧ q' (4 * x + 3).toNat = L.2.2.2.2.1 (4 * x + 3).toNat := fun x x0 x1 => ⟨hq _ (by omega) (by omega), hq _ (by omega) (by omega), hq _ (by omega) (by omega), hq _ (by omega) (by omega)⟩
  unfold nb
  by_cases z : 0 < d
  · rw [if_pos z] at q2 hvv ⊢
    subst hvv
    obtain ⟨v0, v1⟩ := hv z
    refine ⟨G0 _ rfl rfl rfl rfl, hS, hR, cB, fun y x y0 y1 x0 x1 => ?_, up1 ow A.nB A.nB, up1 st A.nB G, fun x x0 x1 => ?_, fun i x i0 i1 hx => ?_, fun i y w i0 i1 y0 y1 y2 => ?_⟩
    · show upd L.2.2.2.2.2 (2 * v + 1).toNat (iI (A.V v 1 - d)) (2 * y + x).toNat = iI (up2 A.V v 1 (A.V v 1 - d) y x)
      by_cases e : y = v ∧ x = 1
      · obtain ⟨rfl, rfl⟩ := e
        rw [ud_s, up2_s]
      · rw [ud_n (by omega), hV y x y0 y1 x0 x1]
        exact congrArg iI (if_neg e).symm
    · have x1 : x < A.nB + 1 := x1
      show q' (4 * x + 2).toNat = iI (up1 ow A.nB A.nB x) ∧ q' (4 * x + 3).toNat = iI (up1 st A.nB G x) ∧ (-1 ≤ up1 ow A.nB A.nB x ∧ up1 ow A.nB A.nB x < A.nB + 1) ∧ (0 ≤ up1 st A.nB G x ∧ up1 st A.nB G x < G + 1) ∧ (0 ≤ up1 ow A.nB A.nB x → q' (4 * x).toNat = iI (up1 A.F A.nB v x) ∧ q' (4 * x + 1).toNat = iI (up1 A.U A.nB d x) ∧ x ∈ up1 A.rows A.nB [A.nB] (up1 ow A.nB A.nB x))
      by_cases e : x = A.nB
      · subst e
        rw [up1_s, up1_s, up1_s, up1_s, up1_s]
        exact ⟨q2, q3, by omega, by omega, fun _ => ⟨q0, q1, List.mem_singleton.mpr rfl⟩⟩
      · obtain ⟨o2, o3, o4, o5, o6⟩ := r1 x x0 (by omega)
        obtain ⟨e0, e1, e2, e3⟩ := oldq x x0 (by omega)
        rw [up1_n ow _ (by omega), up1_n st _ (by omega), up1_n A.F _ (by omega), up1_n A.U _ (by omega), up1_n A.rows _ (by omega), e0, e1, e2, e3]
        exact ⟨o2, o3, by omega, by omega, o6⟩
    · have i1 : i < A.nB + 1 := i1
      have hx : x ∈ up1 A.rows A.nB [A.nB] i := hx
      by_cases e : i = A.nB
      · rw [e, up1_s] at hx
        rw [List.mem_singleton.mp hx, up1_s, e]
      · rw [up1_n A.rows _ (by omega)] at hx
        have := (hW.p i0 (by omega) hx).1
        rw [up1_n ow _ (by omega)]
        exact r2 i x i0 (by omega) hx
    · have i1 : i < A.nB + 1 := i1
      have y2 : w < len (up1 A.rows A.nB [A.nB] i) := y2
      show up1 st A.nB G (at' (up1 A.rows A.nB [A.nB] i) y) < up1 st A.nB G (at' (up1 A.rows A.nB [A.nB] i) w)
      by_cases e : i = A.nB
      · rw [e, up1_s, len_one] at y2
        omega
      · rw [up1_n A.rows _ (by omega)] at y2 ⊢
        have h1 := (hW.p i0 (by omega) (at_mem (l := A.rows i) (k := y) y0 (by omega))).1
        have h2 := (hW.p i0 (by omega) (at_mem (l := A.rows i) (k := w) (by omega) y2)).1
        rw [up1_n st _ (by omega), up1_n st _ (by omega)]
        exact r3 i y w i0 (by omega) y0 y1 y2
  · rw [if_neg z] at q2 hvv ⊢
    subst hvv
    refine ⟨G0 _ rfl rfl rfl rfl, hS, hR, cB, hV, up1 ow A.nB (-1), up1 st A.nB G, fun x x0 x1 => ?_, fun i x i0 i1 hx => ?_, fun i y w i0 i1 y0 y1 y2 => ?_⟩
    · have x1 : x < A.nB + 1 := x1
      show q' (4 * x + 2).toNat = iI (up1 ow A.nB (-1) x) ∧ q' (4 * x + 3).toNat = iI (up1 st A.nB G x) ∧ (-1 ≤ up1 ow A.nB (-1) x ∧ up1 ow A.nB (-1) x < A.nB + 1) ∧ (0 ≤ up1 st A.nB G x ∧ up1 st A.nB G x < G + 1) ∧ (0 ≤ up1 ow A.nB (-1) x → q' (4 * x).toNat = iI (A.F x) ∧ q' (4 * x + 1).toNat = iI (A.U x) ∧ x ∈ up1 A.rows A.nB [] (up1 ow A.nB (-1) x))
      by_cases e : x = A.nB
      · subst e
        rw [up1_s, up1_s]
        exact ⟨q2, q3, by omega, by omega, fun w => by omega⟩
      · obtain ⟨o2, o3, o4, o5, o6⟩ := r1 x x0 (by omega)
        obtain ⟨e0, e1, e2, e3⟩ := oldq x x0 (by omega)
        rw [up1_n ow _ (by omega), up1_n st _ (by omega), up1_n A.rows _ (by omega), e0, e1, e2, e3]
        exact ⟨o2, o3, by omega, by omega, o6⟩
    · have i1 : i < A.nB + 1 := i1
      have hx : x ∈ up1 A.rows A.nB [] i := hx
      by_cases e : i = A.nB
      · rw [e, up1_s] at hx
        exact absurd hx List.not_mem_nil
      · rw [up1_n A.rows _ (by omega)] at hx
        have := (hW.p i0 (by omega) hx).1
        rw [up1_n ow _ (by omega)]
        exact r2 i x i0 (by omega) hx
    · have i1 : i < A.nB + 1 := i1
      have y2 : w < len (up1 A.rows A.nB [] i) := y2
      show up1 st A.nB G (at' (up1 A.rows A.nB [] i) y) < up1 st A.nB G (at' (up1 A.rows A.nB [] i) w)
      by_cases e : i = A.nB
      · rw [e, up1_s, len_nil] at y2
        omega
      · rw [up1_n A.rows _ (by omega)] at y2 ⊢
        have h1 := (hW.p i0 (by omega) (at_mem (l := A.rows i) (k := y) y0 (by omega))).1
        have h2 := (hW.p i0 (by omega) (at_mem (l := A.rows i) (k := w) (by omega) y2)).1
        rw [up1_n st _ (by omega), up1_n st _ (by omega)]
        exact r3 i y w i0 (by omega) y0 y1 y2
end LNW
/-! a merge's stamps -/
section LJN
variable {A : Ab} {G K : Int} {ow st pos : Int → Int} {f0 : Nat → Int32} {i j : Int}
/-- the payments' row when the first m payments of i are j's -/
def QJ (f f0 : Nat → Int32) (A : Ab) (ow st pos : Int → Int) (i j G m : Int) : Prop := ∀ p : Int, 0 ≤ p → p < A.nB → f (4 * p).toNat = f0 (4 * p).toNat ∧ f (4 * p + 1).toNat = f0 (4 * p + 1).toNat ∧ f (4 * p + 2).toNat = iI (if ow p = i ∧ pos p < m then j else ow p) ∧ f (4 * p + 3).toNat = iI (if ow p = i ∧ pos p < m then G + pos p else st p)
theorem lJn0 {x11 x13 x14 n m : Int} (hN : 0 ≤ A.nB ∧ A.nB ≤ 7) (hij : i < j ∨ j < i) (hi : 0 ≤ i ∧ i < A.nB) (hj : 0 ≤ j ∧ j < A.nB) (hn : 0 ≤ n ∧ n ≤ 60000) (hG : 0 ≤ G ∧ G ≤ 50000) (hr : ∀ p : Int, 0 ≤ p → p < A.nB → (-1 ≤ ow p ∧ ow p < A.nB) ∧ (0 ≤ st p ∧ st p < G) ∧ (ow p = i → 0 ≤ pos p ∧ pos p ≤ 16)) (kk : XLm → Option (Int32 × XLm)) {N : XLm} (g1 : N.2.1 (1 : Int).toNat = iI A.nB) (hQ : QJ N.2.2.2.2.2.1 f0 A ow st pos i j G m) : ∀ (k fu : Nat) (p : Int), 0 ≤ p → p + k = A.nB → k < fu → (∀ x : Int, p ≤ x → x < A.nB → ow x = i → ¬ pos x < m → st x ≠ n) → fL_acts_l1512 (iI i) (iI j) (iI x14) (iI n) kk fu N (iI p) = kk N := by
  obtain ⟨hN1, hN2⟩ := hN
  obtain ⟨hi1, hi2⟩ := hi
  obtain ⟨hj1, hj2⟩ := hj
  obtain ⟨hn1, hn2⟩ := hn
  obtain ⟨hG1, hG2⟩ := hG
  intro k
  induction k with
  | zero =>
    intro fu p p0 p1 p2 _
    obtain ⟨fu, rfl⟩ : ∃ q, fu = q + 1 := ⟨fu - 1, by omega⟩
    rw [fL_acts_l1512_s]
    simp (disch := omega) only [MoI, nmD, bdS, b2S, lit32, iA, iS, iM, iN, iLt, iLe, iE, zlT, zlF, zleT, zleF, zeT, zeF, RdI, WrI, DvI, jmaxI, jminI, jabsI, bI0, Zb0, Zb1, ZbI, ↓reduceIte, not_true_eq_false, not_false_eq_true, ite_not, and_true, true_and, and_false, false_and, and_self, g1]
  | succ k ih =>
    intro fu p p0 p1 p2 hno
    obtain ⟨fu, rfl⟩ : ∃ q, fu = q + 1 := ⟨fu - 1, by omega⟩
    obtain ⟨o0, o1, o2, o3⟩ := hQ p p0 (by omega)
    obtain ⟨h1, h2, h3⟩ := hr p p0 (by omega)
    have := ih fu (p + 1) (by omega) (by omega) (by omega) (fun x x0 x1 => hno x (by omega) x1)
    have hp := hno p (by omega) (by omega)
    rw [← this, fL_acts_l1512_s]
    clear ih this hQ hno hr
    by_cases c : ow p = i
    · by_cases c2 : pos p < m
      · rw [if_pos ⟨c, c2⟩] at o2 o3
        clear hp
        simp (disch := omega) only [MoI, nmD, bdS, b2S, lit32, iA, iS, iM, iN, iLt, iLe, iE, zlT, zlF, zleT, zleF, zeT, zeF, RdI, WrI, DvI, jmaxI, jminI, jabsI, bI0, Zb0, Zb1, ZbI, ↓reduceIte, not_true_eq_false, not_false_eq_true, ite_not, and_true, true_and, and_false, false_and, and_self, g1, o2, fL_acts_j1578]
      · rw [if_neg (fun q => c2 q.2)] at o2 o3
        have hs : st p < n ∨ n < st p := by have := hp c c2; omega
        clear hp
        simp (disch := omega) only [MoI, nmD, bdS, b2S, lit32, iA, iS, iM, iN, iLt, iLe, iE, zlT, zlF, zleT, zleF, zeT, zeF, RdI, WrI, DvI, jmaxI, jminI, jabsI, bI0, Zb0, Zb1, ZbI, ↓reduceIte, not_true_eq_false, not_false_eq_true, ite_not, and_true, true_and, and_false, false_and, and_self, g1, o2, o3, c, fL_acts_j1578]
    · rw [if_neg (fun q => c q.1)] at o2 o3
      clear hp
      simp (disch := omega) only [MoI, nmD, bdS, b2S, lit32, iA, iS, iM, iN, iLt, iLe, iE, zlT, zlF, zleT, zleF, zeT, zeF, RdI, WrI, DvI, jmaxI, jminI, jabsI, bI0, Zb0, Zb1, ZbI, ↓reduceIte, not_true_eq_false, not_false_eq_true, ite_not, and_true, true_and, and_false, false_and, and_self, g1, o2, fL_acts_j1578]
end LJN
