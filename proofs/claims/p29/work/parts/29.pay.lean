/-! Sums, and the payments as they are read. -/
def sm (g : Int → Int) : Nat → Int
  | 0 => 0
  | n + 1 => sm g n + g n
theorem sm_s (g : Int → Int) (n : Nat) : sm g (n + 1) = sm g n + g n := (rfl)
theorem sm_cong {g h : Int → Int} : ∀ n : Nat, (∀ j : Int, 0 ≤ j → j < n → g j = h j) → sm g n = sm h n
  | 0, _ => rfl
  | n + 1, e => by
    rw [sm_s, sm_s, sm_cong n (fun j h1 h2 => e j h1 (by omega)), e n (by omega) (by omega)]
theorem sm_add (g h : Int → Int) : ∀ n : Nat, sm (fun j => g j + h j) n = sm g n + sm h n
  | 0 => rfl
  | n + 1 => by
    rw [sm_s, sm_s, sm_s, sm_add g h n]
    omega
theorem sm_zero {g : Int → Int} : ∀ n : Nat, (∀ j : Int, 0 ≤ j → j < n → g j = 0) → sm g n = 0
  | 0, _ => rfl
  | n + 1, e => by
    rw [sm_s, sm_zero n (fun j h1 h2 => e j h1 (by omega)), e n (by omega) (by omega)]
    rfl
theorem sm_one {g : Int → Int} {i : Int} (hi : 0 ≤ i) : ∀ n : Nat, i < n → (∀ j : Int, 0 ≤ j → j < n → j ≠ i → g j = 0) → sm g n = g i
  | 0, h, _ => by omega
  | n + 1, h, e => by
    rw [sm_s]
    by_cases c : i = n
    · rw [sm_zero n (fun j h1 h2 => e j h1 (by omega) (by omega)), ← c]
      omega
    · rw [sm_one hi n (by omega) (fun j h1 h2 => e j h1 (by omega)), e n (by omega) (by omega) (by omega)]
      omega
theorem sm_front (g : Int → Int) : ∀ n : Nat, sm g (n + 1) = g 0 + sm (fun j => g (j + 1)) n
  | 0 => by rw [sm_s]; show 0 + g 0 = g 0 + 0; omega
  | n + 1 => by
    rw [sm_s, sm_front g n, sm_s]
    have e : g ((n + 1 : Nat) : Int) = g ((n : Int) + 1) := rfl
    omega
theorem lp_sum (g : Int → Int) : ∀ (k : Nat) (i a : Int), lp (fun j b => b + g j) k i a = a + sm (fun j => g (i + j)) k
  | 0, i, a => by rw [lp_z]; show a = a + 0; omega
  | k + 1, i, a => by
    rw [lp_s, lp_sum g k (i + 1) (a + g i), sm_front]
    have e : sm (fun j => g (i + 1 + j)) k = sm (fun j => g (i + (j + 1))) k := sm_cong k (fun j _ _ => by rw [show i + 1 + j = i + (j + 1) by omega])
    rw [e, show i + (0 : Int) = i by omega]
    omega
theorem lp_sum0 (g : Int → Int) (k : Nat) : lp (fun j b => b + g j) k 0 0 = sm g k := by
  rw [lp_sum g k 0 0]
  have e : sm (fun j => g (0 + j)) k = sm g k := sm_cong k (fun j _ _ => by rw [show (0 : Int) + j = j by omega])
  rw [e]
  omega
theorem sm_swap (h : Int → Int → Int) (n : Nat) : ∀ m : Nat, sm (fun b => sm (fun j => h b j) n) m = sm (fun j => sm (fun b => h b j) m) n
  | 0 => (sm_zero n (fun _ _ _ => rfl)).symm
  | m + 1 => by
    rw [sm_s, sm_swap h n m, ← sm_add]
    rfl
theorem sm_list (f : Int → Int) : ∀ l : List Int, sm (fun k => f (at' l k)) l.length = (l.map f).sum
  | [] => rfl
  | x :: l => by
    rw [List.length_cons, sm_front, List.map_cons, List.sum_cons, ← sm_list f l]
    congr 1
    refine sm_cong _ (fun j h1 h2 => ?_)
    unfold at'
    rw [show (j + 1).toNat = j.toNat + 1 by omega]
    rfl
theorem at_mem {l : List Int} {k : Int} (h1 : 0 ≤ k) (h2 : k < len l) : at' l k ∈ l := by
  unfold at'
  unfold len at h2
  have h : k.toNat < l.length := by omega
  rw [List.getD_eq_getElem?_getD, List.getElem?_eq_getElem h]
  exact List.getElem_mem h
theorem at_of {l : List Int} {p : Int} (h : p ∈ l) : ∃ k : Int, 0 ≤ k ∧ k < len l ∧ at' l k = p := by
  obtain ⟨k, hk, e⟩ := List.getElem_of_mem h
  refine ⟨k, by omega, by unfold len; omega, ?_⟩
  unfold at'
  rw [List.getD_eq_getElem?_getD, show (k : Int).toNat = k by omega, List.getElem?_eq_getElem hk]
  exact e
/-- the class's payments, unpacked -/
def PP (T : Tb) (A : Ab) (nP : Int) (pb pq pl : Int → Int) : Prop := T.1 = iI nP ∧ 0 ≤ nP ∧ nP ≤ A.nB ∧
  (∀ j : Int, 0 ≤ j → j < nP → T.2 (j * 4 + 0).toNat = iI (pb j) ∧ T.2 (j * 4 + 1).toNat = iI (A.F (pq j)) ∧ T.2 (j * 4 + 2).toNat = iI (A.U (pq j)) ∧ T.2 (j * 4 + 3).toNat = iI (pl j) ∧
    0 ≤ pb j ∧ pb j < A.nB ∧ 0 ≤ pl j ∧ pl j < len (A.rows (pb j)) ∧ at' (A.rows (pb j)) (pl j) = pq j) ∧
  (∀ i j : Int, 0 ≤ i → i < nP → 0 ≤ j → j < nP → pb i = pb j → pl i = pl j → i = j) ∧
  (∀ i k : Int, 0 ≤ i → i < A.nB → 0 ≤ k → k < len (A.rows i) → ∃ j : Int, 0 ≤ j ∧ j < nP ∧ pb j = i ∧ pl j = k)
theorem RepX.P {V : Vn} {A : Ab} (h : RepX V A) : ∃ (nP : Int) (pb pq pl : Int → Int), PP V.2.2.2.1 A nP pb pq pl := h.2.2.2.2.2.2.2.2.2
section PQ
variable {T : Tb} {A : Ab} {K : Int} {nP : Int} {pb pq pl : Int → Int}
theorem PP.n (h : PP T A nP pb pq pl) (hW : WF K A) : 0 ≤ nP ∧ nP ≤ 16 := by
  have hn := hW.n
  have h1 := h.2.1
  have h2 := h.2.2.1
  omega
theorem PP.c0 (h : PP T A nP pb pq pl) (hW : WF K A) {j : Int} (h1 : 0 ≤ j) (h2 : j < nP) : fX6_cell 64 (iI 16) (iI 4) T (iI j) (iI 0) = some (iI (pb j)) := by
  have hn := h.n hW
  rw [cellI4 h.1 (by omega) h1 h2 (by omega) (by omega), (h.2.2.2.1 j h1 h2).1]
theorem PP.c1 (h : PP T A nP pb pq pl) (hW : WF K A) {j : Int} (h1 : 0 ≤ j) (h2 : j < nP) : fX6_cell 64 (iI 16) (iI 4) T (iI j) (iI 1) = some (iI (A.F (pq j))) := by
  have hn := h.n hW
  rw [cellI4 h.1 (by omega) h1 h2 (by omega) (by omega), (h.2.2.2.1 j h1 h2).2.1]
theorem PP.c2 (h : PP T A nP pb pq pl) (hW : WF K A) {j : Int} (h1 : 0 ≤ j) (h2 : j < nP) : fX6_cell 64 (iI 16) (iI 4) T (iI j) (iI 2) = some (iI (A.U (pq j))) := by
  have hn := h.n hW
  rw [cellI4 h.1 (by omega) h1 h2 (by omega) (by omega), (h.2.2.2.1 j h1 h2).2.2.1]
theorem PP.c3 (h : PP T A nP pb pq pl) (hW : WF K A) {j : Int} (h1 : 0 ≤ j) (h2 : j < nP) : fX6_cell 64 (iI 16) (iI 4) T (iI j) (iI 3) = some (iI (pl j)) := by
  have hn := h.n hW
  rw [cellI4 h.1 (by omega) h1 h2 (by omega) (by omega), (h.2.2.2.1 j h1 h2).2.2.2.1]
theorem PP.sz (h : PP T A nP pb pq pl) : fX6_size 64 (iI 16) (iI 4) T = some (iI nP) := by rw [← h.1]; rfl
theorem WF.p (hW : WF K A) {i p : Int} (h1 : 0 ≤ i) (h2 : i < A.nB) (h3 : p ∈ A.rows i) : (0 ≤ p ∧ p < A.nB) ∧ (0 ≤ A.F p ∧ A.F p < A.nV) ∧ (0 ≤ A.U p ∧ A.U p ≤ 1600) ∧ (A.B i 3 = 0 → 0 < A.U p) := (hW.2.2.2.2.2.1 i h1 h2).2 p h3
theorem PP.b (h : PP T A nP pb pq pl) (hW : WF K A) {j : Int} (h1 : 0 ≤ j) (h2 : j < nP) : (0 ≤ pb j ∧ pb j < A.nB) ∧ (0 ≤ pl j ∧ pl j < len (A.rows (pb j))) ∧ pq j ∈ A.rows (pb j) ∧ (0 ≤ pq j ∧ pq j < A.nB) ∧ (0 ≤ A.F (pq j) ∧ A.F (pq j) < A.nV) ∧ (0 ≤ A.U (pq j) ∧ A.U (pq j) ≤ 1600) := by
  obtain ⟨-, -, -, -, b1, b2, b3, b4, b5⟩ := h.2.2.2.1 j h1 h2
  have hm : pq j ∈ A.rows (pb j) := by rw [← b5]; exact at_mem b3 b4
  have hp := hW.p b1 b2 hm
  exact ⟨⟨b1, b2⟩, ⟨b3, b4⟩, hm, hp.1, hp.2.1, hp.2.2.1⟩
/-- what the class sums over its payments of a booking is what the reference sums over its row -/
theorem PP.sum (h : PP T A nP pb pq pl) (f : Int → Int) {i : Int} (h1 : 0 ≤ i) (h2 : i < A.nB) : sm (fun j => if pb j = i then f (pq j) else 0) nP.toNat = ((A.rows i).map f).sum := by
  have h0 := h.2.1
  have key : ∀ c : Nat, c ≤ (A.rows i).length → sm (fun j => if pb j = i ∧ pl j < c then f (pq j) else 0) nP.toNat = sm (fun k => f (at' (A.rows i) k)) c := by
    intro c
    induction c with
    | zero =>
      intro _
      refine sm_zero _ (fun j j1 j2 => if_neg (fun q => ?_))
      have := (h.2.2.2.1 j j1 (by omega)).2.2.2.2.2.2.1
      have := q.2
      omega
    | succ c ih =>
      intro hc
      rw [sm_s, ← ih (by omega)]
      obtain ⟨j0, a1, a2, a3, a4⟩ := h.2.2.2.2.2 i c h1 h2 (by omega) (by unfold len; omega)
      have e1 : sm (fun j => if pb j = i ∧ pl j = c then f (pq j) else 0) nP.toNat = f (at' (A.rows i) c) := by
        rw [sm_one a1 nP.toNat (by omega) (fun j j1 j2 j3 => if_neg (fun q => j3 (h.2.2.2.2.1 j j0 j1 (by omega) a1 a2 (by rw [q.1, a3]) (by rw [q.2, a4])))), if_pos ⟨a3, a4⟩]
        have := (h.2.2.2.1 j0 a1 a2).2.2.2.2.2.2.2.2
        rw [← this, a3, a4]
      rw [← e1, ← sm_add]
      refine sm_cong _ (fun j j1 j2 => ?_)
      by_cases q1 : pb j = i
      · by_cases q2 : pl j < c
        · rw [if_pos ⟨q1, by omega⟩, if_pos ⟨q1, q2⟩, if_neg (fun q => by omega)]; omega
        · by_cases q3 : pl j = c
          · rw [if_pos ⟨q1, by omega⟩, if_neg (fun q => q2 q.2), if_pos ⟨q1, q3⟩]; omega
          · rw [if_neg (fun q => by omega), if_neg (fun q => q2 q.2), if_neg (fun q => q3 q.2)]; rfl
      · rw [if_neg (fun q => q1 q.1), if_neg (fun q => q1 q.1), if_neg (fun q => q1 q.1)]; rfl
  rw [← sm_list, ← key _ (Nat.le_refl _)]
  refine sm_cong _ (fun j j1 j2 => ?_)
  by_cases q : pb j = i
  · have := (h.2.2.2.1 j j1 (by omega)).2.2.2.2.2.2.2.1
    rw [q] at this
    unfold len at this
    rw [if_pos q, if_pos ⟨q, this⟩]
  · rw [if_neg q, if_neg (fun z => q z.1)]
theorem PP.ex (h : PP T A nP pb pq pl) {f : Int → Prop} {i : Int} (h1 : 0 ≤ i) (h2 : i < A.nB) : (∃ j : Int, 0 ≤ j ∧ j < nP ∧ pb j = i ∧ f (pq j)) ↔ ∃ p ∈ A.rows i, f p := by
  refine ⟨fun ⟨j, j1, j2, j3, j4⟩ => ?_, fun ⟨p, p1, p2⟩ => ?_⟩
  · obtain ⟨-, -, -, -, b1, b2, b3, b4, b5⟩ := h.2.2.2.1 j j1 j2
    rw [j3] at b4 b5
    exact ⟨pq j, by rw [← b5]; exact at_mem b3 b4, j4⟩
  · obtain ⟨k, k1, k2, k3⟩ := at_of p1
    obtain ⟨j, a1, a2, a3, a4⟩ := h.2.2.2.2.2 i k h1 h2 k1 k2
    have := (h.2.2.2.1 j a1 a2).2.2.2.2.2.2.2.2
    rw [a3, a4, k3] at this
    exact ⟨j, a1, a2, a3, by rw [← this]; exact p2⟩
end PQ
def ps1 (A : Ab) (p : Int) : Int := if 0 < A.U p then 1 else 0
def cn (A : Ab) (i : Int) : Int := ((A.rows i).map (ps1 A)).sum
def hs (A : Ab) (v i : Int) : Prop := ∃ p ∈ A.rows i, A.F p = v ∧ 0 < A.U p
section XP
variable {V : Vn} {A : Ab} {K : Int}
theorem xPaid (h : RepX V A) (hW : WF K A) {i : Int} (h1 : 0 ≤ i) (h2 : i < A.nB) : fX7_paidByVouchers V (iI i) = some (iI (rsum A i)) := by
  obtain ⟨nP, pb, pq, pl, hP⟩ := h.P
  have hn := hW.n
  have hp := hP.n hW
  have key : ∀ (k fu : Nat) (j a : Int), 0 ≤ j → j + k = nP → k < fu → fX7_paidByVouchers_l4 V (iI i) fu (iI a) (iI j) = some (iI (lp (fun j b => b + (if pb j = i then A.U (pq j) else 0)) k j a)) := by
    intro k
    induction k with
    | zero =>
      intro fu j a j0 j1 j2
      obtain ⟨fu, rfl⟩ : ∃ q, fu = q + 1 := ⟨fu - 1, by omega⟩
      rw [fX7_paidByVouchers_l4_s, lp_z]
      simp (disch := omega) only [nmD, bdS, b2S, lit32, iA, iS, iM, iN, iLt, iLe, iE, zlT, zlF, zleT, zleF, zeT, zeF, RdI, WrI, DvI, jmaxI, jminI, jabsI, bI0, Zb0, Zb1, ZbI, ↓reduceIte, not_true_eq_false, not_false_eq_true, ite_not, and_true, true_and, and_false, false_and, and_self, hP.sz]
    | succ k ih =>
      intro fu j a j0 j1 j2
      obtain ⟨fu, rfl⟩ : ∃ q, fu = q + 1 := ⟨fu - 1, by omega⟩
      have hb := hP.b hW j0 (by omega)
      have hb1 := hb.1
      have hu := hb.2.2.2.2.2
      clear hb
      rw [fX7_paidByVouchers_l4_s, lp_s]
      by_cases c : pb j = i
      · have := ih fu (j + 1) (a + A.U (pq j)) (by omega) (by omega) (by omega)
        rw [if_pos c, ← this]
        clear ih this
        simp (disch := omega) only [nmD, bdS, b2S, lit32, iA, iS, iM, iN, iLt, iLe, iE, zlT, zlF, zleT, zleF, zeT, zeF, RdI, WrI, DvI, jmaxI, jminI, jabsI, bI0, Zb0, Zb1, ZbI, ↓reduceIte, not_true_eq_false, not_false_eq_true, ite_not, and_true, true_and, and_false, false_and, and_self, hP.sz, hP.c0 hW, hP.c2 hW, fX7_paidByVouchers_j40]
      · have := ih fu (j + 1) a (by omega) (by omega) (by omega)
        rw [if_neg c, Int.add_zero, ← this]
        clear ih this
        simp (disch := omega) only [nmD, bdS, b2S, lit32, iA, iS, iM, iN, iLt, iLe, iE, zlT, zlF, zleT, zleF, zeT, zeF, RdI, WrI, DvI, jmaxI, jminI, jabsI, bI0, Zb0, Zb1, ZbI, ↓reduceIte, not_true_eq_false, not_false_eq_true, ite_not, and_true, true_and, and_false, false_and, and_self, hP.sz, hP.c0 hW, hP.c2 hW, fX7_paidByVouchers_j40]
  have e := key nP.toNat FU 0 0 (by omega) (by omega) (by unfold FU; omega)
  rw [lp_sum0, hP.sum A.U h1 h2] at e
  have e0 : (0 : Int32) = iI 0 := rfl
  unfold fX7_paidByVouchers
  rw [e0, e]
  rfl
theorem xLeft (h : RepX V A) (hW : WF K A) {i : Int} (h1 : 0 ≤ i) (h2 : i < A.nB) : fX7_paymentsLeft V (iI i) = some (iI (cn A i)) := by
  obtain ⟨nP, pb, pq, pl, hP⟩ := h.P
  have hn := hW.n
  have hp := hP.n hW
  have key : ∀ (k fu : Nat) (j a : Int), 0 ≤ j → j + k = nP → k < fu → fX7_paymentsLeft_l4 V (iI i) fu (iI a) (iI j) = some (iI (lp (fun j b => b + (if pb j = i then ps1 A (pq j) else 0)) k j a)) := by
    intro k
    induction k with
    | zero =>
      intro fu j a j0 j1 j2
      obtain ⟨fu, rfl⟩ : ∃ q, fu = q + 1 := ⟨fu - 1, by omega⟩
      rw [fX7_paymentsLeft_l4_s, lp_z]
      simp (disch := omega) only [nmD, bdS, b2S, lit32, iA, iS, iM, iN, iLt, iLe, iE, zlT, zlF, zleT, zleF, zeT, zeF, RdI, WrI, DvI, jmaxI, jminI, jabsI, bI0, Zb0, Zb1, ZbI, ↓reduceIte, not_true_eq_false, not_false_eq_true, ite_not, and_true, true_and, and_false, false_and, and_self, hP.sz]
    | succ k ih =>
      intro fu j a j0 j1 j2
      obtain ⟨fu, rfl⟩ : ∃ q, fu = q + 1 := ⟨fu - 1, by omega⟩
      have hb := hP.b hW j0 (by omega)
      have hb1 := hb.1
      have hu := hb.2.2.2.2.2
      clear hb
      rw [fX7_paymentsLeft_l4_s, lp_s]
      by_cases c : pb j = i
      · by_cases c2 : 0 < A.U (pq j)
        · have := ih fu (j + 1) (a + 1) (by omega) (by omega) (by omega)
          rw [if_pos c, show ps1 A (pq j) = 1 from if_pos c2, ← this]
          clear ih this
          simp (disch := omega) only [nmD, bdS, b2S, lit32, iA, iS, iM, iN, iLt, iLe, iE, zlT, zlF, zleT, zleF, zeT, zeF, RdI, WrI, DvI, jmaxI, jminI, jabsI, bI0, Zb0, Zb1, ZbI, ↓reduceIte, not_true_eq_false, not_false_eq_true, ite_not, and_true, true_and, and_false, false_and, and_self, hP.sz, hP.c0 hW, hP.c2 hW, fX7_paymentsLeft_j43]
        · have := ih fu (j + 1) a (by omega) (by omega) (by omega)
          rw [if_pos c, show ps1 A (pq j) = 0 from if_neg c2, Int.add_zero, ← this]
          clear ih this
          simp (disch := omega) only [nmD, bdS, b2S, lit32, iA, iS, iM, iN, iLt, iLe, iE, zlT, zlF, zleT, zleF, zeT, zeF, RdI, WrI, DvI, jmaxI, jminI, jabsI, bI0, Zb0, Zb1, ZbI, ↓reduceIte, not_true_eq_false, not_false_eq_true, ite_not, and_true, true_and, and_false, false_and, and_self, hP.sz, hP.c0 hW, hP.c2 hW, fX7_paymentsLeft_j43]
      · have := ih fu (j + 1) a (by omega) (by omega) (by omega)
        rw [if_neg c, Int.add_zero, ← this]
        clear ih this
        simp (disch := omega) only [nmD, bdS, b2S, lit32, iA, iS, iM, iN, iLt, iLe, iE, zlT, zlF, zleT, zleF, zeT, zeF, RdI, WrI, DvI, jmaxI, jminI, jabsI, bI0, Zb0, Zb1, ZbI, ↓reduceIte, not_true_eq_false, not_false_eq_true, ite_not, and_true, true_and, and_false, false_and, and_self, hP.sz, hP.c0 hW, hP.c2 hW, fX7_paymentsLeft_j43]
  have e := key nP.toNat FU 0 0 (by omega) (by omega) (by unfold FU; omega)
  rw [lp_sum0, hP.sum (ps1 A) h1 h2] at e
  have e0 : (0 : Int32) = iI 0 := rfl
  unfold fX7_paymentsLeft
  rw [e0, e]
  rfl
theorem xPw (h : RepX V A) (hW : WF K A) {i v : Int} (h1 : 0 ≤ i) (h2 : i < A.nB) (h3 : 0 ≤ v) (h4 : v < A.nV) : (hs A v i → fX7_isPaidWith V (iI i) (iI v) = some (iI 1)) ∧ (¬ hs A v i → fX7_isPaidWith V (iI i) (iI v) = some (iI 0)) := by
  obtain ⟨nP, pb, pq, pl, hP⟩ := h.P
  have hn := hW.n
  have hp := hP.n hW
  have key : ∀ (k fu : Nat) (j : Int), 0 ≤ j → j + k = nP → k < fu → ((∃ z : Int, j ≤ z ∧ z < nP ∧ pb z = i ∧ A.F (pq z) = v ∧ 0 < A.U (pq z)) ∧ fX7_isPaidWith_l2 V (iI i) (iI v) fu (iI j) = some (iI 1)) ∨ ((¬ ∃ z : Int, j ≤ z ∧ z < nP ∧ pb z = i ∧ A.F (pq z) = v ∧ 0 < A.U (pq z)) ∧ fX7_isPaidWith_l2 V (iI i) (iI v) fu (iI j) = some (iI 0)) := by
    intro k
    induction k with
    | zero =>
      intro fu j j0 j1 j2
      obtain ⟨fu, rfl⟩ : ∃ q, fu = q + 1 := ⟨fu - 1, by omega⟩
      refine Or.inr ⟨fun ⟨z, z1, z2, _⟩ => by omega, ?_⟩
      rw [fX7_isPaidWith_l2_s]
      simp (disch := omega) only [nmD, bdS, b2S, lit32, iA, iS, iM, iN, iLt, iLe, iE, zlT, zlF, zleT, zleF, zeT, zeF, RdI, WrI, DvI, jmaxI, jminI, jabsI, bI0, Zb0, Zb1, ZbI, ↓reduceIte, not_true_eq_false, not_false_eq_true, ite_not, and_true, true_and, and_false, false_and, and_self, hP.sz]
    | succ k ih =>
      intro fu j j0 j1 j2
      obtain ⟨fu, rfl⟩ : ∃ q, fu = q + 1 := ⟨fu - 1, by omega⟩
      have hb := hP.b hW j0 (by omega)
      have hb1 := hb.1
      have hf := hb.2.2.2.2.1
      have hu := hb.2.2.2.2.2
      clear hb
      by_cases c : pb j = i ∧ A.F (pq j) = v ∧ 0 < A.U (pq j)
      · refine Or.inl ⟨⟨j, by omega, by omega, c⟩, ?_⟩
        obtain ⟨c1, c2, c3⟩ := c
        clear ih
        rw [fX7_isPaidWith_l2_s]
        simp (disch := omega) only [nmD, bdS, b2S, lit32, iA, iS, iM, iN, iLt, iLe, iE, zlT, zlF, zleT, zleF, zeT, zeF, RdI, WrI, DvI, jmaxI, jminI, jabsI, bI0, Zb0, Zb1, ZbI, ↓reduceIte, not_true_eq_false, not_false_eq_true, ite_not, and_true, true_and, and_false, false_and, and_self, hP.sz, hP.c0 hW, hP.c1 hW, hP.c2 hW]
      · have e : fX7_isPaidWith_l2 V (iI i) (iI v) (fu + 1) (iI j) = fX7_isPaidWith_l2 V (iI i) (iI v) fu (iI (j + 1)) := by
          clear ih
          rw [fX7_isPaidWith_l2_s]
          by_cases c1 : pb j = i
          · by_cases c2 : A.F (pq j) = v
            · have c3 : ¬ 0 < A.U (pq j) := fun q => c ⟨c1, c2, q⟩
              clear c
              simp (disch := omega) only [nmD, bdS, b2S, lit32, iA, iS, iM, iN, iLt, iLe, iE, zlT, zlF, zleT, zleF, zeT, zeF, RdI, WrI, DvI, jmaxI, jminI, jabsI, bI0, Zb0, Zb1, ZbI, ↓reduceIte, not_true_eq_false, not_false_eq_true, ite_not, and_true, true_and, and_false, false_and, and_self, hP.sz, hP.c0 hW, hP.c1 hW, hP.c2 hW, fX7_isPaidWith_j53]
            · clear c
              simp (disch := omega) only [nmD, bdS, b2S, lit32, iA, iS, iM, iN, iLt, iLe, iE, zlT, zlF, zleT, zleF, zeT, zeF, RdI, WrI, DvI, jmaxI, jminI, jabsI, bI0, Zb0, Zb1, ZbI, ↓reduceIte, not_true_eq_false, not_false_eq_true, ite_not, and_true, true_and, and_false, false_and, and_self, hP.sz, hP.c0 hW, hP.c1 hW, hP.c2 hW, fX7_isPaidWith_j53]
          · clear c
            simp (disch := omega) only [nmD, bdS, b2S, lit32, iA, iS, iM, iN, iLt, iLe, iE, zlT, zlF, zleT, zleF, zeT, zeF, RdI, WrI, DvI, jmaxI, jminI, jabsI, bI0, Zb0, Zb1, ZbI, ↓reduceIte, not_true_eq_false, not_false_eq_true, ite_not, and_true, true_and, and_false, false_and, and_self, hP.sz, hP.c0 hW, hP.c1 hW, hP.c2 hW, fX7_isPaidWith_j53]
        rw [e]
        rcases ih fu (j + 1) (by omega) (by omega) (by omega) with ⟨⟨z, z1, z2, z3⟩, q⟩ | ⟨q1, q⟩
        · exact Or.inl ⟨⟨z, by omega, z2, z3⟩, q⟩
        · refine Or.inr ⟨fun ⟨z, z1, z2, z3⟩ => ?_, q⟩
          by_cases ez : z = j
          · subst ez; exact c z3
          · exact q1 ⟨z, by omega, z2, z3⟩
  have e := key nP.toNat FU 0 (by omega) (by omega) (by unfold FU; omega)
  have e0 : (0 : Int32) = iI 0 := rfl
  have hex := hP.ex (f := fun p => A.F p = v ∧ 0 < A.U p) h1 h2
  unfold fX7_isPaidWith
  rw [e0]
  rcases e with ⟨q1, q2⟩ | ⟨q1, q2⟩
  · exact ⟨fun _ => q2, fun q => absurd (hex.mp q1) q⟩
  · exact ⟨fun q => absurd (hex.mpr q) q1, fun _ => q2⟩
end XP
