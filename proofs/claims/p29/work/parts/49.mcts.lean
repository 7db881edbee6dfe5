/-! The reference's room after a play. -/
theorem bump_setR (A : Ab) {r c x v : Int} (h : 4 < c) : bump (A.setR r 4 v) r c x = (bump A r c x).setR r 4 v := by
  unfold bump
  rw [show (A.setR r 4 v).R r c = A.R r c from up2_n _ _ (by omega)]
  exact setR_comm A (by omega)
theorem cts_setR (A : Ab) (r f h n g v : Int) : cts (A.setR r 4 v) r f h n g = (cts A r f h n g).setR r 4 v := by
  unfold cts
  rw [bump_setR A (by omega), bump_setR _ (by omega), bump_setR _ (by omega), bump_setR _ (by omega), bump_setR _ (by omega)]
theorem cts_R (A : Ab) (r f h n g : Int) {k : Int} (hk : k < 5 ∨ k = 9) : (cts A r f h n g).R r k = A.R r k := by
  unfold cts
  rw [bump_R _ (by omega), bump_R _ (by omega), bump_R _ (by omega), bump_R _ (by omega), bump_R _ (by omega)]
theorem occ_cts (A : Ab) (i f h n g w : Int) : occ (cts A (A.B i 0) f h n g) i n w = ((((cts (A.setR (A.B i 0) 4 (oE A i n w)) (A.B i 0) f h n g).setR (A.B i 0) 9 (max (oS A i - A.B i 1) (A.R (A.B i 0) 9))).setB i 3 1).setB i 7 (oS A i)).setB i 8 n := by
  have k4 := cts_R A (A.B i 0) f h n g (k := 4) (by omega)
  have k9 := cts_R A (A.B i 0) f h n g (k := 9) (by omega)
  have k1 := cts_R A (A.B i 0) f h n g (k := 1) (by omega)
  have eS : oS (cts A (A.B i 0) f h n g) i = oS A i := by
    show max (A.B i 1) ((cts A (A.B i 0) f h n g).R (A.B i 0) 4) = _
    rw [k4]; rfl
  have eE : oE (cts A (A.B i 0) f h n g) i n w = oE A i n w := by
    unfold oE
    rw [eS]
    show oS A i + n + ((cts A (A.B i 0) f h n g).R (A.B i 0) 1 + w * A.S 2) = _
    rw [k1]
  rw [cts_setR]
  unfold occ
  rw [eS, eE]
  show (((((cts A (A.B i 0) f h n g).setR (A.B i 0) 4 (oE A i n w)).setR (A.B i 0) 9 (max (oS A i - A.B i 1) ((cts A (A.B i 0) f h n g).R (A.B i 0) 9))).setB i 3 1).setB i 7 (oS A i)).setB i 8 n = _
  rw [k9]
section MC
variable {A : Ab} {K : Int}
end MC
