/-! What is refunded: both sides do the same to A. -/
theorem at_inj {l : List Int} (hn : l.Nodup) {i j : Int} (h1 : 0 ≤ i) (h2 : i < len l) (h3 : 0 ≤ j) (h4 : j < len l) (e : at' l i = at' l j) : i = j := by
  unfold at' at e
  unfold len at h2 h4
  rw [List.getD_eq_getElem?_getD, List.getD_eq_getElem?_getD, List.getElem?_eq_getElem (show i.toNat < l.length by omega), List.getElem?_eq_getElem (show j.toNat < l.length by omega)] at e
  have e : l[i.toNat]'(by omega) = l[j.toNat]'(by omega) := e
  have hp := List.pairwise_iff_getElem.mp hn
  rcases Nat.lt_trichotomy i.toNat j.toNat with q | q | q
  · exact absurd e (hp i.toNat j.toNat (by omega) (by omega) q)
  · omega
  · exact absurd e.symm (hp j.toNat i.toNat (by omega) (by omega) q)
section RU
variable {V : Vn} {A : Ab} {K : Int}
theorem PP.inj {T : Tb} {nP : Int} {pb pq pl : Int → Int} (h : PP T A nP pb pq pl) (hW : WF K A) {i j : Int} (h1 : 0 ≤ i) (h2 : i < nP) (h3 : 0 ≤ j) (h4 : j < nP) (e : pq i = pq j) : i = j := by
  obtain ⟨a1, a2, a3, -⟩ := h.b hW h1 h2
  obtain ⟨b1, b2, b3, -⟩ := h.b hW h3 h4
  have e1 : pb i = pb j := hW.2.2.2.2.2.2.1 (pb i) (pb j) (pq i) a1.1 a1.2 b1.1 b1.2 a3 (by rw [e]; exact b3)
  refine h.2.2.2.2.1 i j h1 h2 h3 h4 e1 ?_
  have x1 := (h.2.2.2.1 i h1 h2).2.2.2.2.2.2.2.2
  have x2 := (h.2.2.2.1 j h3 h4).2.2.2.2.2.2.2.2
  rw [e1] at x1 a2
  exact at_inj (hW.2.2.2.2.2.1 (pb j) b1.1 b1.2).1 a2.1 a2.2 b2.1 b2.2 (by rw [x1, x2, e])
/-- the amount of a payment changes -/
theorem RepX.setU (h : RepX V A) (hW : WF K A) {nP : Int} {pb pq pl : Int → Int} (hP : PP V.2.2.2.1 A nP pb pq pl) {j v : Int} (h1 : 0 ≤ j) (h2 : j < nP) : RepX (V.1, V.2.1, V.2.2.1, (V.2.2.2.1.1, upd V.2.2.2.1.2 (j * 4 + 2).toNat (iI v)), V.2.2.2.2) (A.setU (pq j) v) ∧ PP (V.2.2.2.1.1, upd V.2.2.2.1.2 (j * 4 + 2).toNat (iI v)) (A.setU (pq j) v) nP pb pq pl := by
  have hq : PP (V.2.2.2.1.1, upd V.2.2.2.1.2 (j * 4 + 2).toNat (iI v)) (A.setU (pq j) v) nP pb pq pl := by
    obtain ⟨p1, p2, p3, p4, p5, p6⟩ := hP
    refine ⟨p1, p2, p3, fun i i1 i2 => ?_, p5, p6⟩
    obtain ⟨q0, q1, q2, q3, q4⟩ := p4 i i1 i2
    refine ⟨(ud_n (by omega)).trans q0, (ud_n (by omega)).trans q1, ?_, (ud_n (by omega)).trans q3, q4⟩
    show upd V.2.2.2.1.2 (j * 4 + 2).toNat (iI v) (i * 4 + 2).toNat = iI (up1 A.U (pq j) v (pq i))
    by_cases e : i = j
    · subst e
      rw [ud_s, up1_s]
    · have hne : pq i ≠ pq j := fun z => e (PP.inj (T := V.2.2.2.1) ⟨p1, p2, p3, p4, p5, p6⟩ hW i1 i2 h1 h2 z)
      rw [ud_n (by omega), q2]
      exact congrArg iI (if_neg hne).symm
  exact ⟨⟨h.1, h.2.1, h.2.2.1, h.2.2.2.1, h.2.2.2.2.1, h.2.2.2.2.2.1, h.2.2.2.2.2.2.1, h.2.2.2.2.2.2.2.1, h.2.2.2.2.2.2.2.2.1, nP, pb, pq, pl, hq⟩, hq⟩
theorem PP.setV {T : Tb} {nP : Int} {pb pq pl : Int → Int} (h : PP T A nP pb pq pl) (i c v : Int) : PP T (A.setV i c v) nP pb pq pl := h
/-- k places of the row of i, from the last one on: what is left and what becomes of A -/
def rf (i : Int) : Nat → Int → Ab → Ab × Int
  | 0, l, A => (A, l)
  | k + 1, l, A =>
    let p := at' (A.rows i) k
    let q := min l (A.U p)
    rf i k (l - q) ((A.setU p (A.U p - q)).setV (A.F p) 1 (A.V (A.F p) 1 + q))
def stp (A : Ab) (i : Int) (k : Nat) (l : Int) : Ab := (A.setU (at' (A.rows i) k) (A.U (at' (A.rows i) k) - min l (A.U (at' (A.rows i) k)))).setV (A.F (at' (A.rows i) k)) 1 (A.V (A.F (at' (A.rows i) k)) 1 + min l (A.U (at' (A.rows i) k)))
theorem rf_s (i : Int) (k : Nat) (l : Int) (A : Ab) : rf i (k + 1) l A = rf i k (l - min l (A.U (at' (A.rows i) k))) (stp A i k l) := rfl
/-- what holds while it is refunded: i isn't booked -/
def RI (C : Int) (A : Ab) (i l : Int) : Prop := 0 ≤ l ∧ l ≤ 1600 ∧ (0 ≤ i ∧ i < A.nB ∧ A.B i 3 ≠ 0) ∧ ∀ v : Int, 0 ≤ v → v < A.nV → A.V v 1 + l ≤ C
theorem up1_id {α : Type} (f : Int → α) (k : Int) : up1 f k (f k) = f := by
  funext i
  unfold up1
  split
  · rename_i e; rw [e]
  · rfl
theorem up2_id (f : Int → Int → Int) (r c : Int) : up2 f r c (f r c) = f := by
  funext i k
  unfold up2
  split
  · rename_i e; rw [e.1, e.2]
  · rfl
theorem stp_0 {i : Int} {k : Nat} (h : 0 ≤ A.U (at' (A.rows i) k)) : stp A i k 0 = A := by
  unfold stp
  rw [show min 0 (A.U (at' (A.rows i) k)) = 0 by omega, Int.sub_zero, Int.add_zero]
  unfold Ab.setU
  rw [up1_id]
  show mkA A.R A.B (up2 A.V _ 1 (A.V _ 1)) A.S A.rows A.F A.U A.nR A.nB A.nV A.t = A
  rw [up2_id]
  rfl
theorem nodup_at (hW : WF K A) {i : Int} (h1 : 0 ≤ i) (h2 : i < A.nB) {k : Int} (h3 : 0 ≤ k) (h4 : k < len (A.rows i)) : (0 ≤ at' (A.rows i) k ∧ at' (A.rows i) k < A.nB) ∧ (0 ≤ A.F (at' (A.rows i) k) ∧ A.F (at' (A.rows i) k) < A.nV) ∧ (0 ≤ A.U (at' (A.rows i) k) ∧ A.U (at' (A.rows i) k) ≤ 1600) := by
  have := hW.p h1 h2 (at_mem h3 h4)
  exact ⟨this.1, this.2.1, this.2.2.1⟩
theorem rsum_setU {j p v : Int} (h : p ∉ A.rows j) : rsum (A.setU p v) j = rsum A j := by
  unfold rsum
  show ((A.rows j).map (up1 A.U p v)).sum = ((A.rows j).map A.U).sum
  congr 1
  refine List.map_congr_left (fun x hx => ?_)
  exact if_neg (fun e => h (by rw [← e]; exact hx))
theorem in_row (hW : WF K A) {i j p : Int} (h1 : 0 ≤ i) (h2 : i < A.nB) (h3 : 0 ≤ j) (h4 : j < A.nB) (hp : p ∈ A.rows i) (hne : j ≠ i) : p ∉ A.rows j := fun q => hne (hW.2.2.2.2.2.2.1 j i p h3 h4 h1 h2 q hp)
/-- a step keeps all -/
theorem WF.st (hW : WF K A) {i l C : Int} {k : Nat} (hI : RI C A i l) (hk : (k : Int) < len (A.rows i)) (hC : C ≤ 500 + 2000 * K) : WF K (stp A i k l) ∧ RI C (stp A i k l) i (l - min l (A.U (at' (A.rows i) k))) := by
  obtain ⟨l0, l1, ⟨i0, i1, i2⟩, hv⟩ := hI
  have hm := at_mem (l := A.rows i) (k := k) (by omega) hk
  obtain ⟨p1, p2, p3⟩ := nodup_at hW i0 i1 (k := k) (by omega) hk
  generalize hp : at' (A.rows i) k = p at hm p1 p2 p3
  have hst : stp A i k l = (A.setU p (A.U p - min l (A.U p))).setV (A.F p) 1 (A.V (A.F p) 1 + min l (A.U p)) := by unfold stp; rw [hp]
  rw [hst]
  have hvv := hv (A.F p) p2.1 p2.2
  obtain ⟨w1, w2, w3, w4, w5, w6, w7, w8⟩ := hW
  have hW : WF K A := ⟨w1, w2, w3, w4, w5, w6, w7, w8⟩
  refine ⟨⟨w1, w2, w3, fun j j0 j1 => ?_, fun v v0 v1 => ?_, fun j j0 j1 => ⟨(w6 j j0 j1).1, fun x hx => ?_⟩, w7, w8⟩, ?_, ?_, ⟨i0, i1, i2⟩, fun v v0 v1 => ?_⟩
  · obtain ⟨b0, b1, b2, b3, b4, b5, b6⟩ := w4 j j0 j1
    refine ⟨b0, b1, b2, b3, b4, b5, fun hz => ?_⟩
    have hji : j ≠ i := fun e => by subst e; exact i2 hz
    have := rsum_setU (A := A) (v := A.U p - min l (A.U p)) (in_row hW i0 i1 j0 j1 hm hji)
    have h9 : rsum ((A.setU p (A.U p - min l (A.U p))).setV (A.F p) 1 (A.V (A.F p) 1 + min l (A.U p))) j = rsum A j := this
    rw [h9]
    exact b6 hz
  · show 0 ≤ up2 A.V (A.F p) 1 (A.V (A.F p) 1 + min l (A.U p)) v 1 ∧ up2 A.V (A.F p) 1 (A.V (A.F p) 1 + min l (A.U p)) v 1 ≤ 500 + 2000 * K
    have := w5 v v0 v1
    have h10 := w5 _ p2.1 p2.2
    by_cases e : v = A.F p
    · rw [e, up2_s]; omega
    · rw [up2_n _ _ (by omega)]; omega
  · obtain ⟨q1, q2, q3, q4⟩ := (w6 j j0 j1).2 x hx
    refine ⟨q1, q2, ?_, fun hz => ?_⟩
    · show 0 ≤ up1 A.U p (A.U p - min l (A.U p)) x ∧ up1 A.U p (A.U p - min l (A.U p)) x ≤ 1600
      by_cases e : x = p
      · rw [e, up1_s]; omega
      · rw [up1_n _ _ (by omega)]; exact q3
    · have hji : j ≠ i := fun e => by subst e; exact i2 hz
      have hxp : x ≠ p := fun e => by subst e; exact in_row hW i0 i1 j0 j1 hm hji hx
      show 0 < up1 A.U p (A.U p - min l (A.U p)) x
      rw [up1_n _ _ (by omega)]
      exact q4 hz
  · omega
  · omega
  · show up2 A.V (A.F p) 1 (A.V (A.F p) 1 + min l (A.U p)) v 1 + (l - min l (A.U p)) ≤ C
    have := hv v v0 v1
    by_cases e : v = A.F p
    · rw [e, up2_s]; omega
    · rw [up2_n _ _ (by omega)]; omega
end RU
