/-! The till is what was sold and is paid in cash; vouchers are worth their balances and what is paid with them. -/
def MI (A : Ab) : Prop := A.t = sm (fun v => A.V v 0) A.nV.toNat + sm (fun b => A.B b 5) A.nB.toNat ∧ sm (fun v => A.V v 0) A.nV.toNat = sm (fun v => A.V v 1) A.nV.toNat + sm (rsum A) A.nB.toNat
theorem sm_upd {g h : Int → Int} {i : Int} (hi : 0 ≤ i) {n : Nat} (hn : i < n) (e : ∀ j : Int, 0 ≤ j → j < n → j ≠ i → h j = g j) : sm h n = sm g n + (h i - g i) := by
  have e1 : sm h n = sm (fun j => g j + (h j - g j)) n := sm_cong n (fun j _ _ => by omega)
  have e2 : sm (fun j => h j - g j) n = h i - g i := sm_one (g := fun j => h j - g j) hi n hn (fun j j0 j1 j2 => by
    have := e j j0 j1 j2
    show h j - g j = 0
    omega)
  rw [e1, sm_add, e2]
theorem toNat_s {n : Int} (h : 0 ≤ n) : (n + 1).toNat = n.toNat + 1 := by omega
section MM
variable {A : Ab} {K : Int}
theorem mi_setB (h : MI A) {i c v : Int} (hc : c < 5 ∨ 5 < c) : MI (A.setB i c v) := by
  obtain ⟨h1, h2⟩ := h
  refine ⟨?_, h2⟩
  have e : sm (fun b => (A.setB i c v).B b 5) A.nB.toNat = sm (fun b => A.B b 5) A.nB.toNat := sm_cong _ (fun j _ _ => up2_n _ _ (by omega))
  show A.t = sm (fun v => A.V v 0) A.nV.toNat + sm (fun b => (A.setB i c v).B b 5) A.nB.toNat
  rw [e]
  exact h1
theorem mi_gv (h : MI A) (hn : 0 ≤ A.nV) (x : Int) : MI (gv A x) := by
  obtain ⟨h1, h2⟩ := h
  have e0 : sm (fun v => up2 (up2 A.V A.nV 0 x) A.nV 1 x v 0) (A.nV.toNat + 1) = sm (fun v => A.V v 0) A.nV.toNat + x := by
    rw [sm_s, show ((A.nV.toNat : Nat) : Int) = A.nV by omega, up2_n _ _ (by omega), up2_s]
    congr 1
    exact sm_cong _ (fun j j0 j1 => by rw [up2_n _ _ (by omega), up2_n _ _ (by omega)])
  have e1 : sm (fun v => up2 (up2 A.V A.nV 0 x) A.nV 1 x v 1) (A.nV.toNat + 1) = sm (fun v => A.V v 1) A.nV.toNat + x := by
    rw [sm_s, show ((A.nV.toNat : Nat) : Int) = A.nV by omega, up2_s]
    congr 1
    exact sm_cong _ (fun j j0 j1 => by rw [up2_n _ _ (by omega), up2_n _ _ (by omega)])
  show A.t + x = sm (fun v => up2 (up2 A.V A.nV 0 x) A.nV 1 x v 0) (A.nV + 1).toNat + sm (fun b => A.B b 5) A.nB.toNat ∧ sm (fun v => up2 (up2 A.V A.nV 0 x) A.nV 1 x v 0) (A.nV + 1).toNat = sm (fun v => up2 (up2 A.V A.nV 0 x) A.nV 1 x v 1) (A.nV + 1).toNat + sm (rsum A) A.nB.toNat
  rw [toNat_s hn, e0, e1]
  omega
theorem mi_nb (h : MI A) (hW : WF K A) {r t p c d v : Int} (hd : 0 ≤ d) (hv : 0 < d → 0 ≤ v ∧ v < A.nV) : MI (nb A r t p c d v) := by
  obtain ⟨h1, h2⟩ := h
  have hn := hW.n
  have hN : ((A.nB.toNat : Nat) : Int) = A.nB := by omega
  have e5 : sm (fun b => nbB A r t p c (c - d) b 5) (A.nB.toNat + 1) = sm (fun b => A.B b 5) A.nB.toNat + (c - d) := by
    rw [sm_s, hN, nbB_5]
    congr 1
    exact sm_cong _ (fun j j0 j1 => nbB_o A r t p c (c - d) (by omega))
  unfold nb
  by_cases q : 0 < d
  · rw [if_pos q]
    obtain ⟨v0, v1⟩ := hv q
    have ev0 : sm (fun x => up2 A.V v 1 (A.V v 1 - d) x 0) A.nV.toNat = sm (fun x => A.V x 0) A.nV.toNat := sm_cong _ (fun j _ _ => up2_n _ _ (by omega))
    have ev1 : sm (fun x => up2 A.V v 1 (A.V v 1 - d) x 1) A.nV.toNat = sm (fun x => A.V x 1) A.nV.toNat - d := by
      rw [sm_upd (g := fun x => A.V x 1) v0 (by omega) (fun j j0 j1 j2 => up2_n _ _ (by omega))]
      show _ + (up2 A.V v 1 (A.V v 1 - d) v 1 - A.V v 1) = _
      rw [up2_s]
      omega
    have er : sm (fun i => ((up1 A.rows A.nB [A.nB] i).map (up1 A.U A.nB d)).sum) (A.nB.toNat + 1) = sm (rsum A) A.nB.toNat + d := by
      rw [sm_s, hN, up1_s]
      have e1 : (([A.nB] : List Int).map (up1 A.U A.nB d)).sum = d := by
        show up1 A.U A.nB d A.nB + 0 = d
        rw [up1_s]
        omega
      rw [e1]
      congr 1
      refine sm_cong _ (fun j j0 j1 => ?_)
      rw [up1_n A.rows _ (by omega)]
      unfold rsum
      congr 1
      refine List.map_congr_left (fun y hy => ?_)
      have := (hW.p j0 (by omega) hy).1
      exact up1_n _ _ (by omega)
    show A.t + (c - d) = sm (fun x => up2 A.V v 1 (A.V v 1 - d) x 0) A.nV.toNat + sm (fun b => nbB A r t p c (c - d) b 5) (A.nB + 1).toNat ∧ sm (fun x => up2 A.V v 1 (A.V v 1 - d) x 0) A.nV.toNat = sm (fun x => up2 A.V v 1 (A.V v 1 - d) x 1) A.nV.toNat + sm (fun i => ((up1 A.rows A.nB [A.nB] i).map (up1 A.U A.nB d)).sum) (A.nB + 1).toNat
    rw [toNat_s hn.2.2.1, ev0, ev1, er, e5]
    omega
  · rw [if_neg q]
    have er : sm (fun i => ((up1 A.rows A.nB [] i).map A.U).sum) (A.nB.toNat + 1) = sm (rsum A) A.nB.toNat := by
      rw [sm_s, hN, up1_s]
      have e1 : (([] : List Int).map A.U).sum = 0 := rfl
      rw [e1, Int.add_zero]
      refine sm_cong _ (fun j j0 j1 => ?_)
      rw [up1_n A.rows _ (by omega)]
      rfl
    show A.t + (c - d) = sm (fun x => A.V x 0) A.nV.toNat + sm (fun b => nbB A r t p c (c - d) b 5) (A.nB + 1).toNat ∧ sm (fun x => A.V x 0) A.nV.toNat = sm (fun x => A.V x 1) A.nV.toNat + sm (fun i => ((up1 A.rows A.nB [] i).map A.U).sum) (A.nB + 1).toNat
    rw [toNat_s hn.2.2.1, er, e5]
    omega
theorem sum_up1 (U : Int → Int) (p v : Int) : ∀ l : List Int, l.Nodup → p ∈ l → (l.map (up1 U p v)).sum = (l.map U).sum + (v - U p)
  | [], _, h => absurd h List.not_mem_nil
  | a :: l, hn, h => by
    obtain ⟨h1, h2⟩ := List.nodup_cons.mp hn
    rw [List.map_cons, List.sum_cons, List.map_cons, List.sum_cons]
    by_cases e : a = p
    · subst e
      have : l.map (up1 U a v) = l.map U := List.map_congr_left (fun x hx => if_neg (fun q => h1 (by rw [← q]; exact hx)))
      rw [this, up1_s]
      omega
    · have hp : p ∈ l := by
        rcases List.mem_cons.mp h with q | q
        · exact absurd q.symm e
        · exact q
      rw [sum_up1 U p v l h2 hp, show up1 U p v a = U a from if_neg e]
      omega
/-- vouchers' balances and what is paid with them, as a refund goes -/
theorem mi_rf {C i : Int} (hC : C ≤ 500 + 2000 * K) : ∀ (k : Nat) (l : Int) (A : Ab), WF K A → RI C A i l → (k : Int) ≤ len (A.rows i) → sm (fun v => (rf i k l A).1.V v 0) A.nV.toNat = sm (fun v => A.V v 0) A.nV.toNat ∧ sm (fun v => (rf i k l A).1.V v 1) A.nV.toNat + sm (rsum (rf i k l A).1) A.nB.toNat = sm (fun v => A.V v 1) A.nV.toNat + sm (rsum A) A.nB.toNat ∧ (rf i k l A).1.t = A.t
  | 0, _, _, _, _, _ => ⟨rfl, rfl, rfl⟩
  | k + 1, l, A, hW, hI, hk => by
    rw [rf_s]
    obtain ⟨w1, w2⟩ := WF.st hW hI (k := k) (by omega) hC
    obtain ⟨g1, g2, g3⟩ := mi_rf hC k (l - min l (A.U (at' (A.rows i) k))) (stp A i k l) w1 w2 (by show (k : Int) ≤ len (A.rows i); omega)
    have hi0 := hI.2.2.1.1
    have hi1 : i < A.nB := hI.2.2.1.2.1
    obtain ⟨p1, p2, p3⟩ := nodup_at hW hi0 hi1 (k := (k : Int)) (by omega) (by omega)
    have hmem := at_mem (l := A.rows i) (k := (k : Int)) (by omega) (by omega)
    have hn := hW.n
    rw [stp_stq] at g1 g2 g3
    rw [stp_stq]
    generalize at' (A.rows i) k = p at g1 g2 g3 p1 p2 p3 hmem ⊢
    have ev0 : sm (fun v => (stq A p l).V v 0) A.nV.toNat = sm (fun v => A.V v 0) A.nV.toNat := sm_cong _ (fun j _ _ => by
      show up2 A.V (A.F p) 1 _ j 0 = _
      exact up2_n _ _ (by omega))
    have ev1 : sm (fun v => (stq A p l).V v 1) A.nV.toNat = sm (fun v => A.V v 1) A.nV.toNat + min l (A.U p) := by
      rw [sm_upd (g := fun v => A.V v 1) p2.1 (by omega) (fun j j0 j1 j2 => by
        show up2 A.V (A.F p) 1 _ j 1 = _
        exact up2_n _ _ (by omega))]
      show _ + (up2 A.V (A.F p) 1 (A.V (A.F p) 1 + min l (A.U p)) (A.F p) 1 - A.V (A.F p) 1) = _
      rw [up2_s]
      omega
    have er : sm (rsum (stq A p l)) A.nB.toNat = sm (rsum A) A.nB.toNat - min l (A.U p) := by
      rw [sm_upd (g := rsum A) hi0 (by omega) (fun j j0 j1 j2 => by
        have := rsum_setU (A := A) (v := A.U p - min l (A.U p)) (in_row hW hi0 hi1 j0 (by omega) hmem j2)
        exact this)]
      have : rsum (stq A p l) i = rsum A i + (A.U p - min l (A.U p) - A.U p) := sum_up1 A.U p (A.U p - min l (A.U p)) (A.rows i) (hW.2.2.2.2.2.1 i hi0 hi1).1 hmem
      omega
    have g1 : sm (fun v => (rf i k (l - min l (A.U p)) (stq A p l)).1.V v 0) A.nV.toNat = sm (fun v => (stq A p l).V v 0) A.nV.toNat := g1
    have g2 : sm (fun v => (rf i k (l - min l (A.U p)) (stq A p l)).1.V v 1) A.nV.toNat + sm (rsum (rf i k (l - min l (A.U p)) (stq A p l)).1) A.nB.toNat = sm (fun v => (stq A p l).V v 1) A.nV.toNat + sm (rsum (stq A p l)) A.nB.toNat := g2
    refine ⟨by rw [g1, ev0], by rw [g2, ev1, er]; omega, g3⟩
theorem mi_rfA (h : MI A) (hW : WF K A) (hK : K + 1 ≤ 80000) {i a : Int} (h1 : 0 ≤ i) (h2 : i < A.nB) (h3 : A.B i 3 ≠ 0) (h4 : 0 ≤ a) (h5 : a ≤ 1600) (h6 : a ≤ A.B i 5 + rsum A i) : MI (rfA A i a) := by
  obtain ⟨m1, m2⟩ := h
  have hn := hW.n
  obtain ⟨w1, w2, -, -⟩ := rfA_pre hW hK h1 h2 h3 h4 h5 h6
  have hln := hW.ln h1 h2
  obtain ⟨g1, g2, g3⟩ := mi_rf (C := 500 + 2000 * K + 1600) (K := K + 1) (i := i) (by omega) (len (A.rows i)).toNat _ _ w1 w2 (by show (((len (A.rows i)).toNat : Nat) : Int) ≤ len (A.rows i); omega)
  obtain ⟨k1, k2, k3, k4⟩ := rf_keep i (len (A.rows i)).toNat (a - min a (A.B i 5)) ((A.setB i 5 (A.B i 5 - min a (A.B i 5))).setT (A.t - min a (A.B i 5)))
  have e : MI (rf i (len (A.rows i)).toNat (a - min a (A.B i 5)) ((A.setB i 5 (A.B i 5 - min a (A.B i 5))).setT (A.t - min a (A.B i 5)))).1 := by
    unfold MI
    rw [k1, k2, k4]
    have eb : sm (fun b => ((A.setB i 5 (A.B i 5 - min a (A.B i 5))).setT (A.t - min a (A.B i 5))).B b 5) A.nB.toNat = sm (fun b => A.B b 5) A.nB.toNat - min a (A.B i 5) := by
      rw [sm_upd (g := fun b => A.B b 5) h1 (by omega) (fun j j0 j1 j2 => by
        show up2 A.B i 5 _ j 5 = _
        exact up2_n _ _ (by omega))]
      show _ + (up2 A.B i 5 (A.B i 5 - min a (A.B i 5)) i 5 - A.B i 5) = _
      rw [up2_s]
      omega
    have g1 : sm (fun v => (rf i (len (A.rows i)).toNat (a - min a (A.B i 5)) ((A.setB i 5 (A.B i 5 - min a (A.B i 5))).setT (A.t - min a (A.B i 5)))).1.V v 0) A.nV.toNat = sm (fun v => A.V v 0) A.nV.toNat := g1
    have g2 : sm (fun v => (rf i (len (A.rows i)).toNat (a - min a (A.B i 5)) ((A.setB i 5 (A.B i 5 - min a (A.B i 5))).setT (A.t - min a (A.B i 5)))).1.V v 1) A.nV.toNat + sm (rsum (rf i (len (A.rows i)).toNat (a - min a (A.B i 5)) ((A.setB i 5 (A.B i 5 - min a (A.B i 5))).setT (A.t - min a (A.B i 5)))).1) A.nB.toNat = sm (fun v => A.V v 1) A.nV.toNat + sm (rsum A) A.nB.toNat := g2
    have g3 : (rf i (len (A.rows i)).toNat (a - min a (A.B i 5)) ((A.setB i 5 (A.B i 5 - min a (A.B i 5))).setT (A.t - min a (A.B i 5)))).1.t = A.t - min a (A.B i 5) := g3
    show _ = sm _ A.nV.toNat + sm (fun b => ((A.setB i 5 (A.B i 5 - min a (A.B i 5))).setT (A.t - min a (A.B i 5))).B b 5) A.nB.toNat ∧ sm _ A.nV.toNat = sm _ A.nV.toNat + sm _ A.nB.toNat
    rw [g1, g3, eb]
    refine ⟨by omega, ?_⟩
    rw [g2]
    exact m2
  exact mi_setB e (by omega)
theorem mi_jn (h : MI A) (hW : WF K A) {i j : Int} (hi : 0 ≤ i ∧ i < A.nB) (hj : 0 ≤ j ∧ j < A.nB) (hij : i < j ∨ j < i) : MI (jn A i j) := by
  obtain ⟨m1, m2⟩ := h
  have hn := hW.n
  have two : ∀ g h : Int → Int, h j = g j + g i → h i = 0 → (∀ x : Int, 0 ≤ x → x < A.nB → x ≠ i → x ≠ j → h x = g x) → sm h A.nB.toNat = sm g A.nB.toNat := fun g h e1 e2 e3 => by
    rw [sm_upd (g := up1 g j (g j + g i)) (h := h) hi.1 (by omega) (fun x x0 x1 x2 => by
      by_cases q : x = j
      · rw [q, up1_s]; exact e1
      · rw [show up1 g j (g j + g i) x = g x from if_neg q]
        exact e3 x x0 (by omega) x2 q), sm_upd (g := g) (h := up1 g j (g j + g i)) hj.1 (by omega) (fun x x0 x1 x2 => if_neg x2), up1_s, up1_n _ _ (by omega), e2]
    omega
  have e5 : sm (fun b => (jn A i j).B b 5) A.nB.toNat = sm (fun b => A.B b 5) A.nB.toNat := two (fun b => A.B b 5) _ (jn_j5 hij) jn_i5 (fun x x0 x1 x2 x3 => jn_o (by omega) (by omega))
  have er : sm (rsum (jn A i j)) A.nB.toNat = sm (rsum A) A.nB.toNat := two (rsum A) _ (by
    show ((jL A i j j).map A.U).sum = _
    rw [jL_j hij, List.map_append, List.sum_append_int]
    rfl) (by
    show ((jL A i j i).map A.U).sum = 0
    rw [jL_i]
    rfl) (fun x x0 x1 x2 x3 => by
    show ((jL A i j x).map A.U).sum = _
    rw [jL_o (by omega) (by omega)]
    rfl)
  show A.t = sm (fun v => A.V v 0) A.nV.toNat + sm (fun b => (jn A i j).B b 5) A.nB.toNat ∧ sm (fun v => A.V v 0) A.nV.toNat = sm (fun v => A.V v 1) A.nV.toNat + sm (rsum (jn A i j)) A.nB.toNat
  rw [e5, er]
  exact ⟨m1, m2⟩
end MM
