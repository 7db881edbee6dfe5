/-! Actions: cancel. -/
theorem setB_T (A : Ab) (i c v t : Int) : (A.setB i c v).setT t = (A.setT t).setB i c v := rfl
theorem rfA_setB3 (A : Ab) (i z a : Int) : rfA (A.setB i 3 z) i a = (rfA A i a).setB i 3 z := by
  have e5 : (A.setB i 3 z).B i 5 = A.B i 5 := up2_n _ _ (by omega)
  have e6 : (A.setB i 3 z).B i 6 = A.B i 6 := up2_n _ _ (by omega)
  unfold rfA
  rw [e5, e6]
  have q1 : ((A.setB i 3 z).setB i 5 (A.B i 5 - min a (A.B i 5))).setT ((A.setB i 3 z).t - min a (A.B i 5)) = ((A.setB i 5 (A.B i 5 - min a (A.B i 5))).setT (A.t - min a (A.B i 5))).setB i 3 z := by
    show ((A.setB i 3 z).setB i 5 (A.B i 5 - min a (A.B i 5))).setT (A.t - min a (A.B i 5)) = ((A.setB i 5 (A.B i 5 - min a (A.B i 5))).setB i 3 z).setT (A.t - min a (A.B i 5))
    rw [setB_comm A (r := i) (c := 3) (v := z) (c' := 5) (v' := A.B i 5 - min a (A.B i 5)) (by omega)]
  show (rf i (len (A.rows i)).toNat (a - min a (A.B i 5)) (((A.setB i 3 z).setB i 5 (A.B i 5 - min a (A.B i 5))).setT ((A.setB i 3 z).t - min a (A.B i 5)))).1.setB i 6 (A.B i 6 + a) = _
  rw [q1, rf_setB]
  exact setB_comm _ (by omega)
section AC
variable {V : Vn} {A : Ab} {K : Int}
end AC
