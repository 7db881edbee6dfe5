/-! A refund as a whole, on both sides. -/
theorem up2_comm (f : Int → Int → Int) {r c v c' v' : Int} (h : c < c' ∨ c' < c) : up2 (up2 f r c v) r c' v' = up2 (up2 f r c' v') r c v := by
  funext i k
  unfold up2
  by_cases e1 : i = r ∧ k = c'
  · rw [if_pos e1, if_neg (fun q => by omega), if_pos e1]
  · by_cases e2 : i = r ∧ k = c
    · rw [if_neg e1, if_pos e2, if_pos e2]
    · rw [if_neg e1, if_neg e2, if_neg e2, if_neg e1]
theorem setB_comm (A : Ab) {r c v c' v' : Int} (h : c < c' ∨ c' < c) : (A.setB r c v).setB r c' v' = (A.setB r c' v').setB r c v := by
  show mkA A.R (up2 (up2 A.B r c v) r c' v') A.V A.S A.rows A.F A.U A.nR A.nB A.nV A.t = mkA A.R (up2 (up2 A.B r c' v') r c v) A.V A.S A.rows A.F A.U A.nR A.nB A.nV A.t
  rw [up2_comm A.B h]
theorem rf_keep (i : Int) : ∀ (k : Nat) (l : Int) (A : Ab), (rf i k l A).1.B = A.B ∧ (rf i k l A).1.nB = A.nB ∧ (rf i k l A).1.rows = A.rows ∧ (rf i k l A).1.nV = A.nV
  | 0, _, _ => ⟨rfl, rfl, rfl, rfl⟩
  | k + 1, l, A => by
    rw [rf_s]
    exact rf_keep i k _ (stp A i k l)
theorem rf_WF {K C i : Int} (hC : C ≤ 500 + 2000 * K) : ∀ (k : Nat) (l : Int) (A : Ab), WF K A → RI C A i l → (k : Int) ≤ len (A.rows i) → WF K (rf i k l A).1
  | 0, _, _, h, _, _ => h
  | k + 1, l, A, h, hI, hk => by
    rw [rf_s]
    obtain ⟨w1, w2⟩ := WF.st h hI (k := k) (by omega) hC
    exact rf_WF hC k _ _ w1 w2 (by show (k : Int) ≤ len (A.rows i); omega)
section RW
variable {A : Ab} {K : Int}
theorem rsum_pos (hW : WF K A) {i : Int} (h1 : 0 ≤ i) (h2 : i < A.nB) : 0 ≤ rsum A i ∧ rsum A i = sm (fun j => A.U (at' (A.rows i) j)) (len (A.rows i)).toNat := by
  have e : rsum A i = sm (fun j => A.U (at' (A.rows i) j)) (len (A.rows i)).toNat := by
    unfold rsum
    rw [← sm_list A.U (A.rows i), show (len (A.rows i)).toNat = (A.rows i).length by unfold len; omega]
  refine ⟨?_, e⟩
  rw [e]
  exact sm_pos _ (fun j j0 j1 => (nodup_at hW h1 h2 (k := j) j0 (by have := (hW.ln h1 h2).1; omega)).2.2.1)
/-- what a refund's start gives -/
theorem rfA_pre (hW : WF K A) (hK : K + 1 ≤ 80000) {i a : Int} (h1 : 0 ≤ i) (h2 : i < A.nB) (h3 : A.B i 3 ≠ 0) (h4 : 0 ≤ a) (h5 : a ≤ 1600) (h6 : a ≤ A.B i 5 + rsum A i) :
    WF (K + 1) ((A.setB i 5 (A.B i 5 - min a (A.B i 5))).setT (A.t - min a (A.B i 5))) ∧ RI (500 + 2000 * K + 1600) ((A.setB i 5 (A.B i 5 - min a (A.B i 5))).setT (A.t - min a (A.B i 5))) i (a - min a (A.B i 5)) ∧ (rf i (len (A.rows i)).toNat (a - min a (A.B i 5)) ((A.setB i 5 (A.B i 5 - min a (A.B i 5))).setT (A.t - min a (A.B i 5)))).2 = 0 ∧ WF (K + 1) (rfA A i a) := by
  have hn := hW.n
  have hb := hW.b h1 h2
  have hr := rsum_pos hW h1 h2
  have w1 : WF (K + 1) ((A.setB i 5 (A.B i 5 - min a (A.B i 5))).setT (A.t - min a (A.B i 5))) := ((hW.mono (K' := K + 1) (by omega) hK).setB5 h3 (by omega) (by omega)).setT _
  have w2 : RI (500 + 2000 * K + 1600) ((A.setB i 5 (A.B i 5 - min a (A.B i 5))).setT (A.t - min a (A.B i 5))) i (a - min a (A.B i 5)) := by
    refine ⟨by omega, by omega, ⟨h1, h2, ?_⟩, fun v v0 v1 => ?_⟩
    · show up2 A.B i 5 _ i 3 ≠ 0
      rw [up2_n _ _ (by omega)]
      exact h3
    · have := (hW.2.2.2.2.1 v v0 v1).2
      show A.V v 1 + _ ≤ _
      omega
  refine ⟨w1, w2, ?_, ?_⟩
  · exact rf_left hW h1 h2 (len (A.rows i)).toNat _ _ (by have := (hW.ln h1 h2).1; omega) rfl (fun _ _ _ => rfl) (by omega) (by rw [← hr.2]; omega)
  · exact (rf_WF (by omega) _ _ _ w1 w2 (by show (((len (A.rows i)).toNat : Nat) : Int) ≤ len (A.rows i); have := (hW.ln h1 h2).1; omega)).setB6 (by omega)
set_option maxHeartbeats 4000000 in
theorem xRefund {V : Vn} (hX : RepX V A) (hW : WF K A) (hK : K + 1 ≤ 80000) {i a : Int} (h1 : 0 ≤ i) (h2 : i < A.nB) (h3 : A.B i 3 ≠ 0) (h4 : 0 ≤ a) (h5 : a ≤ 1600) (h6 : a ≤ A.B i 5 + rsum A i) : ∃ V' : Vn, fX0_refund V (iI i) (iI a) = some V' ∧ RepX V' (rfA A i a) := by
  have hn := hW.n
  have hb := hW.b h1 h2
  obtain ⟨w1, w2, w3, w4⟩ := rfA_pre hW hK h1 h2 h3 h4 h5 h6
  have hln := hW.ln h1 h2
  have hX1 := (RepX.setB hX (i := i) (c := 5) (v := A.B i 5 - min a (A.B i 5)) h1 h2 (by omega) (by omega) (by omega)).setT (v := A.t - min a (A.B i 5))
  have hX1 : RepX (V.1, (V.2.1.1, upd V.2.1.2 (i * 10 + 5).toNat (iI (A.B i 5 - min a (A.B i 5)))), V.2.2.1, V.2.2.2.1, V.2.2.2.2.1, iI (A.t - min a (A.B i 5))) ((A.setB i 5 (A.B i 5 - min a (A.B i 5))).setT (A.t - min a (A.B i 5))) := hX1
  obtain ⟨nP, pb, pq, pl, hP⟩ := hX1.P
  obtain ⟨V', f1, f2⟩ := xRf (K := K + 1) (C := 500 + 2000 * K + 1600) (by omega) (iI a) (fun M16 y15 => (fX6_raise 160 (iI 16) (iI 10) M16.2.1 (iI i) (iI 7) (iI a - y15)).bind fun M17 => nm ((M16.1, M17, M16.2.2)) fun M18 => some M18) 16 FU (a - min a (A.B i 5)) _ _ hX1 hP w1 w2 (by omega) (by unfold FU; omega)
  have ek : min 16 (len (((A.setB i 5 (A.B i 5 - min a (A.B i 5))).setT (A.t - min a (A.B i 5))).rows i)).toNat = (len (A.rows i)).toNat := by
    show min 16 (len (A.rows i)).toNat = (len (A.rows i)).toNat
    omega
  rw [ek] at f1 f2
  rw [w3] at f1
  obtain ⟨k1, k2, k3, k4⟩ := rf_keep i (len (A.rows i)).toNat (a - min a (A.B i 5)) ((A.setB i 5 (A.B i 5 - min a (A.B i 5))).setT (A.t - min a (A.B i 5)))
  have hWr := rf_WF (K := K + 1) (C := 500 + 2000 * K + 1600) (i := i) (by omega) (len (A.rows i)).toNat _ _ w1 w2 (by show (((len (A.rows i)).toNat : Nat) : Int) ≤ len (A.rows i); omega)
  have h2' : i < (rf i (len (A.rows i)).toNat (a - min a (A.B i 5)) ((A.setB i 5 (A.B i 5 - min a (A.B i 5))).setT (A.t - min a (A.B i 5)))).1.nB := by rw [k2]; exact h2
  have hc7 := xB7 f2 hWr h1 h2'
  have hb6 : (rf i (len (A.rows i)).toNat (a - min a (A.B i 5)) ((A.setB i 5 (A.B i 5 - min a (A.B i 5))).setT (A.t - min a (A.B i 5)))).1.B i 6 = A.B i 6 := by
    rw [k1]
    exact up2_n _ _ (by omega)
  rw [hb6] at hc7
  have hfin := RepX.setB f2 (i := i) (c := 7) (v := A.B i 6 + a) h1 h2' (by omega) (by omega) (by omega)
  refine ⟨_, ?_, hfin⟩
  have hr5 := raiseB hX hW (i := i) (c := 5) (x := -min a (A.B i 5)) h1 h2 (by omega) (by omega)
  rw [show A.B i 5 + -min a (A.B i 5) = A.B i 5 - min a (A.B i 5) by omega] at hr5
  have hp7 := putI10 (T := V'.2.1) (c := 7) (x := iI (A.B i 6 + a)) f2.uB (by rw [k2]; exact hn.2.2.2.1) h1 h2' (by omega) (by omega)
  have e15 : (((16 : Nat) : Int) - 1) = 15 := by omega
  rw [e15] at f1
  have hT := hX.T
  clear w1 w2 w3 w4 hX1 hP f2 hWr hfin k1 k2 k3 k4 ek hb6
  unfold fX0_refund
  simp only [lit32, nmD]
  rw [xB hX hW h1 h2 (by omega) (by omega), bdS, jminI (by omega) (by omega) (by omega) (by omega), iN, hr5, bdS, hT, iS, iS]
  refine Eq.trans ?_ (Eq.trans f1 ?_)
  · rfl
  · simp only [nmD]
    unfold fX6_raise
    rw [hc7, bdS, iS, iA, show A.B i 6 + (a - 0) = A.B i 6 + a by omega, hp7]
    rfl
end RW
