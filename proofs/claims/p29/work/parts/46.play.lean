/-! What a refund leaves alone; counts of a room in the reference. -/
theorem rf_setR (i r c v : Int) : ∀ (k : Nat) (l : Int) (A : Ab), rf i k l (A.setR r c v) = ((rf i k l A).1.setR r c v, (rf i k l A).2)
  | 0, _, _ => rfl
  | k + 1, l, A => by
    rw [rf_s, rf_s]
    exact rf_setR i r c v k _ (stp A i k l)
theorem rfA_setR (A : Ab) (i a r c v : Int) : rfA (A.setR r c v) i a = (rfA A i a).setR r c v := by
  unfold rfA
  show (rf i (len (A.rows i)).toNat (a - min a (A.B i 5)) (((A.setB i 5 (A.B i 5 - min a (A.B i 5))).setT (A.t - min a (A.B i 5))).setR r c v)).1.setB i 6 (A.B i 6 + a) = _
  rw [rf_setR]
  rfl
theorem rfA_setB (A : Ab) (i a : Int) {c z : Int} (hc : c < 5 ∨ 6 < c) : rfA (A.setB i c z) i a = (rfA A i a).setB i c z := by
  have e5 : (A.setB i c z).B i 5 = A.B i 5 := up2_n _ _ (by omega)
  have e6 : (A.setB i c z).B i 6 = A.B i 6 := up2_n _ _ (by omega)
  unfold rfA
  rw [e5, e6]
  have q1 : ((A.setB i c z).setB i 5 (A.B i 5 - min a (A.B i 5))).setT ((A.setB i c z).t - min a (A.B i 5)) = ((A.setB i 5 (A.B i 5 - min a (A.B i 5))).setT (A.t - min a (A.B i 5))).setB i c z := by
    show ((A.setB i c z).setB i 5 (A.B i 5 - min a (A.B i 5))).setT (A.t - min a (A.B i 5)) = ((A.setB i 5 (A.B i 5 - min a (A.B i 5))).setB i c z).setT (A.t - min a (A.B i 5))
    rw [setB_comm A (r := i) (c := c) (v := z) (c' := 5) (v' := A.B i 5 - min a (A.B i 5)) (by omega)]
  show (rf i (len (A.rows i)).toNat (a - min a (A.B i 5)) (((A.setB i c z).setB i 5 (A.B i 5 - min a (A.B i 5))).setT ((A.setB i c z).t - min a (A.B i 5)))).1.setB i 6 (A.B i 6 + a) = _
  rw [q1, rf_setB]
  exact setB_comm _ (by omega)
theorem setR_setB (A : Ab) (r c v i k z : Int) : (A.setR r c v).setB i k z = (A.setB i k z).setR r c v := rfl
