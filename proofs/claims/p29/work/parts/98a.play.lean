/-! One step of the law: a play. -/
section AC4
variable {N : XLm} {A : Ab} {K G : Int}
theorem bumpc {A B : Ab} {r c x : Int} (h : B.R r c = A.R r c) : bump B r c x = B.setR r c (A.R r c + x) := by
  unfold bump
  rw [h]
theorem occ_law (A : Ab) {i f h n g w s dl : Int} (hs : oS A i = s) (hd : dl = s - A.B i 1) {r : Int} (hr : A.B i 0 = r) : ((((((((((A.setB i 3 1).setB i 7 s).setB i 8 n).setR r 4 (s + n + A.R r 1 + w * A.S 2)).setR r 5 (A.R r 5 + 1)).setR r 6 (A.R r 6 + f)).setR r 7 (A.R r 7 + h)).setR r 8 (A.R r 8 + n)).setR r 9 (max dl (A.R r 9))).setR r 10 (A.R r 10 + g)) = occ (cts A r f h n g) i n w := by
  subst hr
  have eE : oE A i n w = s + n + A.R (A.B i 0) 1 + w * A.S 2 := by
    unfold oE
    rw [hs]
    omega
  rw [occ_cts, eE, hs, ← hd]
  generalize s + n + A.R (A.B i 0) 1 + w * A.S 2 = E
  have b5 : bump (A.setR (A.B i 0) 4 E) (A.B i 0) 5 1 = (A.setR (A.B i 0) 4 E).setR (A.B i 0) 5 (A.R (A.B i 0) 5 + 1) := bumpc (up2_n _ _ (by omega))
  have b6 : bump ((A.setR (A.B i 0) 4 E).setR (A.B i 0) 5 (A.R (A.B i 0) 5 + 1)) (A.B i 0) 6 f = ((A.setR (A.B i 0) 4 E).setR (A.B i 0) 5 (A.R (A.B i 0) 5 + 1)).setR (A.B i 0) 6 (A.R (A.B i 0) 6 + f) := bumpc (by
    show up2 (up2 A.R (A.B i 0) 4 E) (A.B i 0) 5 _ (A.B i 0) 6 = _
    rw [up2_n _ _ (by omega), up2_n _ _ (by omega)])
  have b7 : bump (((A.setR (A.B i 0) 4 E).setR (A.B i 0) 5 (A.R (A.B i 0) 5 + 1)).setR (A.B i 0) 6 (A.R (A.B i 0) 6 + f)) (A.B i 0) 7 h = (((A.setR (A.B i 0) 4 E).setR (A.B i 0) 5 (A.R (A.B i 0) 5 + 1)).setR (A.B i 0) 6 (A.R (A.B i 0) 6 + f)).setR (A.B i 0) 7 (A.R (A.B i 0) 7 + h) := bumpc (by
    show up2 (up2 (up2 A.R (A.B i 0) 4 E) (A.B i 0) 5 _) (A.B i 0) 6 _ (A.B i 0) 7 = _
    rw [up2_n _ _ (by omega), up2_n _ _ (by omega), up2_n _ _ (by omega)])
  have b8 : bump ((((A.setR (A.B i 0) 4 E).setR (A.B i 0) 5 (A.R (A.B i 0) 5 + 1)).setR (A.B i 0) 6 (A.R (A.B i 0) 6 + f)).setR (A.B i 0) 7 (A.R (A.B i 0) 7 + h)) (A.B i 0) 8 n = ((((A.setR (A.B i 0) 4 E).setR (A.B i 0) 5 (A.R (A.B i 0) 5 + 1)).setR (A.B i 0) 6 (A.R (A.B i 0) 6 + f)).setR (A.B i 0) 7 (A.R (A.B i 0) 7 + h)).setR (A.B i 0) 8 (A.R (A.B i 0) 8 + n) := bumpc (by
    show up2 (up2 (up2 (up2 A.R (A.B i 0) 4 E) (A.B i 0) 5 _) (A.B i 0) 6 _) (A.B i 0) 7 _ (A.B i 0) 8 = _
    rw [up2_n _ _ (by omega), up2_n _ _ (by omega), up2_n _ _ (by omega), up2_n _ _ (by omega)])
  have b10 : bump (((((A.setR (A.B i 0) 4 E).setR (A.B i 0) 5 (A.R (A.B i 0) 5 + 1)).setR (A.B i 0) 6 (A.R (A.B i 0) 6 + f)).setR (A.B i 0) 7 (A.R (A.B i 0) 7 + h)).setR (A.B i 0) 8 (A.R (A.B i 0) 8 + n)) (A.B i 0) 10 g = (((((A.setR (A.B i 0) 4 E).setR (A.B i 0) 5 (A.R (A.B i 0) 5 + 1)).setR (A.B i 0) 6 (A.R (A.B i 0) 6 + f)).setR (A.B i 0) 7 (A.R (A.B i 0) 7 + h)).setR (A.B i 0) 8 (A.R (A.B i 0) 8 + n)).setR (A.B i 0) 10 (A.R (A.B i 0) 10 + g) := bumpc (by
    show up2 (up2 (up2 (up2 (up2 A.R (A.B i 0) 4 E) (A.B i 0) 5 _) (A.B i 0) 6 _) (A.B i 0) 7 _) (A.B i 0) 8 _ (A.B i 0) 10 = _
    rw [up2_n _ _ (by omega), up2_n _ _ (by omega), up2_n _ _ (by omega), up2_n _ _ (by omega), up2_n _ _ (by omega)])
  unfold cts
  rw [b5, b6, b7, b8, b10]
  rw [setR_comm (((((A.setR (A.B i 0) 4 E).setR (A.B i 0) 5 (A.R (A.B i 0) 5 + 1)).setR (A.B i 0) 6 (A.R (A.B i 0) 6 + f)).setR (A.B i 0) 7 (A.R (A.B i 0) 7 + h)).setR (A.B i 0) 8 (A.R (A.B i 0) 8 + n)) (r := A.B i 0) (c := 10) (c' := 9) (by omega)]
  rfl
set_option maxHeartbeats 8000000 in
theorem aPlay1739 (h : InvX K N.1 A) (hL : RepL N.2 A G) (hG : 0 ≤ G ∧ G ≤ 8 * K) (hm : Sma A) (hM : MI A) (hK : K + 2 ≤ 400) {k e ht w : Int} (hk : 0 ≤ k ∧ k < A.nB) (q2 : 0 ≤ e ∧ e ≤ A.R (A.B k 0) 0) (q3 : 0 ≤ ht ∧ ht ≤ 20) (q4 : 0 ≤ w ∧ w ≤ 9) (q5 : A.B k 3 = 0) (q6 : nx A (A.B k 0) (-1) = k) : Go K (fL_acts_j1739 N (iI (A.B k 0)) (iI k) (iI e) (iI ht) (iI w)) := by
  have hn := h.W.n
  have hS := h.W.s
  have hb := h.W.b hk.1 hk.2
  have hr := hb.1
  have hR := h.W.r hr.1 hr.2
  have hR4 := (h.W.2.2.1 _ hr.1 hr.2).2.2.2.2
  have hm1 := mulb (a := ht) (b := A.S 0) (X := 20) (Y := 10) (by omega) (by omega) (by omega) (by omega)
  have hm2 := mulb (a := w) (b := A.S 2) (X := 9) (Y := 20) (by omega) (by omega) (by omega) (by omega)
  have hg := good_self (A := A) hk.1 hk.2 q5
  have hlt := lLate hL h.W hm hg
  have hso := stt_one h.W hg (later := 0) q6
  have hd0 : 0 ≤ oS A k - A.B k 1 ∧ oS A k - A.B k 1 ≤ 800000 := by
    have := hR4 4 (by omega) (by omega)
    unfold oS
    omega
  have hlt : fL_late N.2 (iI k) (iI 0) = some (iI (oS A k - A.B k 1)) := by
    rw [hlt, hso]
    unfold oS
    rw [show max (A.R (A.B k 0) 4 + 0) (A.B k 1) = max (A.B k 1) (A.R (A.B k 0) 4) by omega]
  obtain ⟨V', v1, v2, v3⟩ := cPlay h.X h.W (by omega) hk q2 q3 q4 q5 q6
  obtain ⟨f, hf⟩ : ∃ f : Int, f = plF A k e (e + ht * A.S 0) := ⟨_, rfl⟩
  obtain ⟨g, hgg⟩ : ∃ g : Int, g = plG A k e (e + ht * A.S 0) := ⟨_, rfl⟩
  obtain ⟨n, hnn⟩ : ∃ n : Int, n = plN A k e (e + ht * A.S 0) := ⟨_, rfl⟩
  have n0 : 0 ≤ n ∧ n ≤ 200 := by
    rw [hnn]; unfold plN
    split <;> omega
  have f0 : f = 0 ∨ f = 1 := by
    rw [hf]; unfold plF
    split <;> omega
  have g0 : g = 0 ∨ g = 1 := by
    rw [hgg]; unfold plG
    split <;> omega
  have ePl : plA A k e ht w = rfA (occ (cts A (A.B k 0) f ht n g) k n w) k (shr A (A.B k 4) (oS A k - A.B k 1)) := by
    rw [hf, hgg, hnn]
    rfl
  rw [← hnn] at v1
  obtain ⟨M', e1, e2⟩ := actOk h (cx := fun V => fX0_letPlay V (iI k) (iI e) (iI ht) (iI w)) v1 n0.1 (by omega) v2 (v3.mono (K' := K + 2) (by omega) (by omega))
  have e1 : fX8_play N.1 (iI k) (iI e) (iI ht) (iI w) = some (iI n, M') := e1
  rw [ePl] at e2
  -- the venue ahead of the refund
  have hO := wfOcc h.W (by omega) (f := f) (h := ht) (n := n) (g := g) (w := w) hk.1 hk.2 q5 (by omega) q3 n0 (by omega) q4
  have ha := shr_b h.W (c := A.B k 4) (d := oS A k - A.B k 1) hb.2.2.2.2.1.1 hd0.1
  have hsum := (h.W.2.2.2.1 k hk.1 hk.2).2.2.2.2.2.2 q5
  have z5 : (occ (cts A (A.B k 0) f ht n g) k n w).B k 5 = A.B k 5 := by
    show up2 (up2 (up2 A.B k 3 1) k 7 _) k 8 n k 5 = _
    rw [up2_n _ _ (by omega), up2_n _ _ (by omega), up2_n _ _ (by omega)]
  have z4 : (occ (cts A (A.B k 0) f ht n g) k n w).B k 4 = A.B k 4 := by
    show up2 (up2 (up2 A.B k 3 1) k 7 _) k 8 n k 4 = _
    rw [up2_n _ _ (by omega), up2_n _ _ (by omega), up2_n _ _ (by omega)]
  have z3 : (occ (cts A (A.B k 0) f ht n g) k n w).B k 3 = 1 := by
    show up2 (up2 (up2 A.B k 3 1) k 7 _) k 8 n k 3 = _
    rw [up2_n _ _ (by omega), up2_n _ _ (by omega), up2_s]
  have hz : WF (K + 1) ((occ (cts A (A.B k 0) f ht n g) k n w).setB k 3 1) := by
    have : (occ (cts A (A.B k 0) f ht n g) k n w).setB k 3 1 = occ (cts A (A.B k 0) f ht n g) k n w := by
      have u : up2 (occ (cts A (A.B k 0) f ht n g) k n w).B k 3 1 = (occ (cts A (A.B k 0) f ht n g) k n w).B := by
        funext j c
        by_cases q : j = k ∧ c = 3
        · rw [q.1, q.2, up2_s, z3]
        · exact if_neg q
      unfold Ab.setB
      rw [u]
      rfl
    rw [this]
    exact hO
  have hMo : MI (occ (cts A (A.B k 0) f ht n g) k n w) := by
    have : MI (((A.setB k 3 1).setB k 7 (oS (cts A (A.B k 0) f ht n g) k)).setB k 8 n) := mi_setB (mi_setB (mi_setB hM (by omega)) (by omega)) (by omega)
    exact this
  have hM2 := mi_rfA hMo hO (by omega) (i := k) (a := shr A (A.B k 4) (oS A k - A.B k 1)) hk.1 hk.2 (by rw [z3]; omega) ha.1 (by omega) (by rw [z5]; show _ ≤ A.B k 5 + rsum A k; omega)
  obtain ⟨s, hs⟩ : ∃ s : Int, oS A k = s := ⟨_, rfl⟩
  rw [hs] at hlt hd0 e2 ha hM2
  obtain ⟨dl, hdl⟩ : ∃ dl : Int, dl = s - A.B k 1 := ⟨_, rfl⟩
  rw [← hdl] at hlt hd0 e2 ha hM2
  have es : s = A.B k 1 + dl := by omega
  obtain ⟨r, hrr⟩ : ∃ r : Int, A.B k 0 = r := ⟨_, rfl⟩
  have eO := occ_law A (i := k) (f := f) (h := ht) (n := n) (g := g) (w := w) hs hdl hrr
  rw [hrr] at hr hR hR4 e2 hO z5 z4 z3 hz hMo hM2 q2 ⊢
  have t1 := RepL.setB hL (i := k) (c := 3) (v := 1) hk.1 (by omega) (by omega)
  have t2 := RepL.setB t1 (i := k) (c := 7) (v := s) hk.1 (by omega) (by omega)
  have t3 := RepL.setB t2 (i := k) (c := 8) (v := n) hk.1 (by omega) (by omega)
  have t4 := RepL.setR t3 (r := r) (c := 4) (v := s + n + A.R r 1 + w * A.S 2) hr.1 (by omega) (by omega)
  have t5 := RepL.setR t4 (r := r) (c := 5) (v := A.R r 5 + 1) hr.1 (by omega) (by omega)
  have t6 := RepL.setR t5 (r := r) (c := 6) (v := A.R r 6 + f) hr.1 (by omega) (by omega)
  have t7 := RepL.setR t6 (r := r) (c := 7) (v := A.R r 7 + ht) hr.1 (by omega) (by omega)
  have t8 := RepL.setR t7 (r := r) (c := 8) (v := A.R r 8 + n) hr.1 (by omega) (by omega)
  have t9 := RepL.setR t8 (r := r) (c := 9) (v := max dl (A.R r 9)) hr.1 (by omega) (by omega)
  have t10 := RepL.setR t9 (r := r) (c := 10) (v := A.R r 10 + g) hr.1 (by omega) (by omega)
  rw [eO] at t10
  clear t1 t2 t3 t4 t5 t6 t7 t8 t9
  have hsm0 : Sma (occ (cts A r f ht n g) k n w) := hm
  have hsh := lShare t10 hO (c := A.B k 4) (d := dl) hb.2.2.2.2.1 (by omega)
  have hsh : fL_share _ (iI (A.B k 4)) (iI dl) = some (iI (shr A (A.B k 4) dl)) := hsh
  obtain ⟨L', f1, f2⟩ := lRefund t10 hsm0 hG.1 (by omega) (z := 1) (by omega) hz (by omega) hk.1 hk.2 ha.1 (by omega) (by rw [z5]; show _ ≤ A.B k 5 + rsum A k; omega)
  have hsm : Sma (rfA (occ (cts A r f ht n g) k n w) k (shr A (A.B k 4) dl)) := by
    have key : ∀ (m : Nat) (l : Int) (B : Ab), (rf k m l B).1.nR = B.nR ∧ (rf k m l B).1.nB = B.nB ∧ (rf k m l B).1.nV = B.nV := by
      intro m
      induction m with
      | zero => intro l B; exact ⟨rfl, rfl, rfl⟩
      | succ m ih => intro l B; rw [rf_s]; exact ih _ (stp B k m l)
    obtain ⟨k1, k2, k3⟩ := key (len ((occ (cts A r f ht n g) k n w).rows k)).toNat (shr A (A.B k 4) dl - min (shr A (A.B k 4) dl) ((occ (cts A r f ht n g) k n w).B k 5)) (((occ (cts A r f ht n g) k n w).setB k 5 ((occ (cts A r f ht n g) k n w).B k 5 - min (shr A (A.B k 4) dl) ((occ (cts A r f ht n g) k n w).B k 5))).setT ((occ (cts A r f ht n g) k n w).t - min (shr A (A.B k 4) dl) ((occ (cts A r f ht n g) k n w).B k 5)))
    have k1 : (rfA (occ (cts A r f ht n g) k n w) k (shr A (A.B k 4) dl)).nR = A.nR := k1
    have k2 : (rfA (occ (cts A r f ht n g) k n w) k (shr A (A.B k 4) dl)).nB = A.nB := k2
    have k3 : (rfA (occ (cts A r f ht n g) k n w) k (shr A (A.B k 4) dl)).nV = A.nV := k3
    unfold Sma
    rw [k1, k2, k3]
    exact hm
  refine ⟨(M', L'), ?_, _, G, e2, f2, by omega, hsm, hM2⟩
  -- the words that are read
  have c0 := hL.e (k := 0) (by omega) (by omega)
  have c1 := hL.e (k := 1) (by omega) (by omega)
  have c2 := hL.e (k := 2) (by omega) (by omega)
  have r0 := hL.R0 (r := r) hr.1 hr.2
  have r1 := hL.R (r := r) (c := 1) hr.1 hr.2 (by omega) (by omega)
  have b1 : upd N.2.2.2.2.1 (9 * k + 3).toNat (iI 1) (9 * k + 1).toNat = iI (A.B k 1) := (ud_n (by omega)).trans (hL.B (i := k) (c := 1) hk.1 hk.2 (by omega) (by omega))
  have b7 : upd (upd (upd N.2.2.2.2.1 (9 * k + 3).toNat (iI 1)) (9 * k + 7).toNat (iI s)) (9 * k + 8).toNat (iI n) (9 * k + 7).toNat = iI s := (ud_n (by omega)).trans ud_s
  have b4 : upd (upd (upd N.2.2.2.2.1 (9 * k + 3).toNat (iI 1)) (9 * k + 7).toNat (iI s)) (9 * k + 8).toNat (iI n) (9 * k + 4).toNat = iI (A.B k 4) := (ud_n (by omega)).trans ((ud_n (by omega)).trans ((ud_n (by omega)).trans (hL.B (i := k) (c := 4) hk.1 hk.2 (by omega) (by omega))))
  obtain ⟨E, hE⟩ : ∃ E : Int, E = s + n + A.R r 1 + w * A.S 2 := ⟨_, rfl⟩
  rw [← hE] at t10 hsh f1
  have r5 : upd N.2.2.2.1 (11 * r + 4).toNat (iI E) (11 * r + 5).toNat = iI (A.R r 5) := (ud_n (by omega)).trans (hL.R (r := r) (c := 5) hr.1 hr.2 (by omega) (by omega))
  have r6 : upd (upd N.2.2.2.1 (11 * r + 4).toNat (iI E)) (11 * r + 5).toNat (iI (A.R r 5 + 1)) (11 * r + 6).toNat = iI (A.R r 6) := (ud_n (by omega)).trans ((ud_n (by omega)).trans (hL.R (r := r) (c := 6) hr.1 hr.2 (by omega) (by omega)))
  have r7 : upd (upd (upd N.2.2.2.1 (11 * r + 4).toNat (iI E)) (11 * r + 5).toNat (iI (A.R r 5 + 1))) (11 * r + 6).toNat (iI (A.R r 6 + f)) (11 * r + 7).toNat = iI (A.R r 7) := (ud_n (by omega)).trans ((ud_n (by omega)).trans ((ud_n (by omega)).trans (hL.R (r := r) (c := 7) hr.1 hr.2 (by omega) (by omega))))
  have r8 : upd (upd (upd (upd N.2.2.2.1 (11 * r + 4).toNat (iI E)) (11 * r + 5).toNat (iI (A.R r 5 + 1))) (11 * r + 6).toNat (iI (A.R r 6 + f))) (11 * r + 7).toNat (iI (A.R r 7 + ht)) (11 * r + 8).toNat = iI (A.R r 8) := (ud_n (by omega)).trans ((ud_n (by omega)).trans ((ud_n (by omega)).trans ((ud_n (by omega)).trans (hL.R (r := r) (c := 8) hr.1 hr.2 (by omega) (by omega)))))
  have r9 : upd (upd (upd (upd (upd N.2.2.2.1 (11 * r + 4).toNat (iI E)) (11 * r + 5).toNat (iI (A.R r 5 + 1))) (11 * r + 6).toNat (iI (A.R r 6 + f))) (11 * r + 7).toNat (iI (A.R r 7 + ht))) (11 * r + 8).toNat (iI (A.R r 8 + n)) (11 * r + 9).toNat = iI (A.R r 9) := (ud_n (by omega)).trans ((ud_n (by omega)).trans ((ud_n (by omega)).trans ((ud_n (by omega)).trans ((ud_n (by omega)).trans (hL.R (r := r) (c := 9) hr.1 hr.2 (by omega) (by omega))))))
  have r10 : upd (upd (upd (upd (upd (upd N.2.2.2.1 (11 * r + 4).toNat (iI E)) (11 * r + 5).toNat (iI (A.R r 5 + 1))) (11 * r + 6).toNat (iI (A.R r 6 + f))) (11 * r + 7).toNat (iI (A.R r 7 + ht))) (11 * r + 8).toNat (iI (A.R r 8 + n))) (11 * r + 9).toNat (iI (max dl (A.R r 9))) (11 * r + 10).toNat = iI (A.R r 10) := (ud_n (by omega)).trans ((ud_n (by omega)).trans ((ud_n (by omega)).trans ((ud_n (by omega)).trans ((ud_n (by omega)).trans ((ud_n (by omega)).trans (hL.R (r := r) (c := 10) hr.1 hr.2 (by omega) (by omega)))))))
  have r0' : upd (upd (upd (upd (upd (upd N.2.2.2.1 (11 * r + 4).toNat (iI E)) (11 * r + 5).toNat (iI (A.R r 5 + 1))) (11 * r + 6).toNat (iI (A.R r 6 + f))) (11 * r + 7).toNat (iI (A.R r 7 + ht))) (11 * r + 8).toNat (iI (A.R r 8 + n))) (11 * r + 9).toNat (iI (max dl (A.R r 9))) (11 * r).toNat = iI (A.R r 0) := (ud_n (by omega)).trans ((ud_n (by omega)).trans ((ud_n (by omega)).trans ((ud_n (by omega)).trans ((ud_n (by omega)).trans ((ud_n (by omega)).trans r0)))))
  have k5 := hR4 5 (by omega) (by omega)
  have k6 := hR4 6 (by omega) (by omega)
  have k7 := hR4 7 (by omega) (by omega)
  have k8 := hR4 8 (by omega) (by omega)
  have k9 := hR4 9 (by omega) (by omega)
  have k10 := hR4 10 (by omega) (by omega)
  obtain ⟨m1, m2, m3⟩ := hm
  obtain ⟨hk1, hk2⟩ := hk
  obtain ⟨hr1, hr2⟩ := hr
  obtain ⟨q2a, q2b⟩ := q2
  obtain ⟨q3a, q3b⟩ := q3
  obtain ⟨q4a, q4b⟩ := q4
  have fE : f = 0 ∧ (e ≤ 0 ∨ A.R r 0 + A.S 1 < e + ht * A.S 0) ∨ f = 1 ∧ 0 < e ∧ e + ht * A.S 0 ≤ A.R r 0 + A.S 1 := by
    rw [hf]
    unfold plF
    rw [hrr]
    by_cases z : 0 < e ∧ e + ht * A.S 0 ≤ A.R r 0 + A.S 1
    · exact Or.inr ⟨if_pos z, z.1, z.2⟩
    · exact Or.inl ⟨if_neg z, by omega⟩
  have gE : g = 0 ∧ (e ≤ 0 ∨ e + ht * A.S 0 ≤ A.R r 0) ∨ g = 1 ∧ 0 < e ∧ A.R r 0 < e + ht * A.S 0 := by
    rw [hgg]
    unfold plG
    rw [hrr]
    by_cases z : 0 < e ∧ A.R r 0 < e + ht * A.S 0
    · exact Or.inr ⟨if_pos z, z.1, z.2⟩
    · exact Or.inl ⟨if_neg z, by omega⟩
  have nE : e = 0 ∧ n = A.R r 0 ∨ ¬ e = 0 ∧ n = min (e + ht * A.S 0) (A.R r 0 + A.S 1) := by
    rw [hnn]
    unfold plN
    rw [hrr]
    by_cases z : e = 0
    · exact Or.inl ⟨z, if_pos z⟩
    · exact Or.inr ⟨z, if_neg z⟩
  clear hf hgg hnn v1 v2 v3 e2 hO ha hsum z5 z4 z3 hz hMo hM2 eO hsm0 hsm t10 f2 ePl hso hg h hL hM hR4
  obtain ⟨y, hy⟩ : ∃ y : Int, y = e + ht * A.S 0 := ⟨_, rfl⟩
  rw [← hy] at fE gE nE
  -- step by step, from the last
  have s2020 : fL_acts_j2020 (N.1, (N.2.1, N.2.2.1, upd (upd (upd (upd (upd (upd N.2.2.2.1 (11 * r + 4).toNat (iI E)) (11 * r + 5).toNat (iI (A.R r 5 + 1))) (11 * r + 6).toNat (iI (A.R r 6 + f))) (11 * r + 7).toNat (iI (A.R r 7 + ht))) (11 * r + 8).toNat (iI (A.R r 8 + n))) (11 * r + 9).toNat (iI (max dl (A.R r 9))), upd (upd (upd N.2.2.2.2.1 (9 * k + 3).toNat (iI 1)) (9 * k + 7).toNat (iI s)) (9 * k + 8).toNat (iI n), N.2.2.2.2.2)) (iI k) (iI e) (iI ht) (iI w) (iI dl) (iI n) (iI (11 * r + 10)) (iI (A.R r 10)) (iI g) = some (iI 1, (M', L')) := by
    clear r5 r6 r7 r8 r9 r10 r0' b1 b7 fE gE nE
    simp (disch := omega) only [MoI, nmD, bdS, b2S, lit32, iA, iS, iM, iN, iLt, iLe, iE, zlT, zlF, zleT, zleF, zeT, zeF, RdI, WrI, DvI, jmaxI, jminI, jabsI, bI0, Zb0, Zb1, ZbI, ↓reduceIte, not_true_eq_false, not_false_eq_true, ite_not, and_true, true_and, and_false, false_and, and_self, fL_acts_j2020, b4, hsh, f1, e1]
  have s1992 : fL_acts_j1992 (N.1, (N.2.1, N.2.2.1, upd (upd (upd (upd (upd N.2.2.2.1 (11 * r + 4).toNat (iI E)) (11 * r + 5).toNat (iI (A.R r 5 + 1))) (11 * r + 6).toNat (iI (A.R r 6 + f))) (11 * r + 7).toNat (iI (A.R r 7 + ht))) (11 * r + 8).toNat (iI (A.R r 8 + n)), upd (upd (upd N.2.2.2.2.1 (9 * k + 3).toNat (iI 1)) (9 * k + 7).toNat (iI s)) (9 * k + 8).toNat (iI n), N.2.2.2.2.2)) (iI k) (iI e) (iI ht) (iI w) (iI (11 * r)) (iI dl) (iI y) (iI n) (iI (11 * r + 9)) (iI (max dl (A.R r 9))) = some (iI 1, (M', L')) := by
    rw [← s2020]
    clear s2020 r5 r6 r7 r8 r9 b1 b7 b4 hsh f1 e1 fE nE
    rcases gE with ⟨rfl, c⟩ | ⟨rfl, c, c'⟩
    · by_cases ce : e ≤ 0
      · simp (disch := omega) only [MoI, nmD, bdS, b2S, lit32, iA, iS, iM, iN, iLt, iLe, iE, zlT, zlF, zleT, zleF, zeT, zeF, RdI, WrI, DvI, jmaxI, jminI, jabsI, bI0, Zb0, Zb1, ZbI, ↓reduceIte, not_true_eq_false, not_false_eq_true, ite_not, and_true, true_and, and_false, false_and, and_self, fL_acts_j1992, fL_acts_j2019, r10, r0']
      · have c : y ≤ A.R r 0 := by omega
        simp (disch := omega) only [MoI, nmD, bdS, b2S, lit32, iA, iS, iM, iN, iLt, iLe, iE, zlT, zlF, zleT, zleF, zeT, zeF, RdI, WrI, DvI, jmaxI, jminI, jabsI, bI0, Zb0, Zb1, ZbI, ↓reduceIte, not_true_eq_false, not_false_eq_true, ite_not, and_true, true_and, and_false, false_and, and_self, fL_acts_j1992, fL_acts_j2019, r10, r0']
    · simp (disch := omega) only [MoI, nmD, bdS, b2S, lit32, iA, iS, iM, iN, iLt, iLe, iE, zlT, zlF, zleT, zleF, zeT, zeF, RdI, WrI, DvI, jmaxI, jminI, jabsI, bI0, Zb0, Zb1, ZbI, ↓reduceIte, not_true_eq_false, not_false_eq_true, ite_not, and_true, true_and, and_false, false_and, and_self, fL_acts_j1992, fL_acts_j2019, r10, r0']
  have s1936 : fL_acts_j1936 (N.1, (N.2.1, N.2.2.1, upd (upd N.2.2.2.1 (11 * r + 4).toNat (iI E)) (11 * r + 5).toNat (iI (A.R r 5 + 1)), upd (upd (upd N.2.2.2.2.1 (9 * k + 3).toNat (iI 1)) (9 * k + 7).toNat (iI s)) (9 * k + 8).toNat (iI n), N.2.2.2.2.2)) (iI k) (iI e) (iI ht) (iI w) (iI (11 * r)) (iI dl) (iI y) (iI n) (iI (11 * r + 6)) (iI (A.R r 6)) (iI f) = some (iI 1, (M', L')) := by
    rw [← s1992]
    clear s1992 s2020 r5 r6 r10 r0' b1 b7 b4 hsh f1 e1 fE gE nE
    by_cases c : dl ≤ A.R r 9
    · have em : max dl (A.R r 9) = A.R r 9 := by omega
      rw [em]
      simp (disch := omega) only [MoI, nmD, bdS, b2S, lit32, iA, iS, iM, iN, iLt, iLe, iE, zlT, zlF, zleT, zleF, zeT, zeF, RdI, WrI, DvI, jmaxI, jminI, jabsI, bI0, Zb0, Zb1, ZbI, ↓reduceIte, not_true_eq_false, not_false_eq_true, ite_not, and_true, true_and, and_false, false_and, and_self, fL_acts_j1936, r7, r8, r9]
    · have em : max dl (A.R r 9) = dl := by omega
      rw [em]
      simp (disch := omega) only [MoI, nmD, bdS, b2S, lit32, iA, iS, iM, iN, iLt, iLe, iE, zlT, zlF, zleT, zleF, zeT, zeF, RdI, WrI, DvI, jmaxI, jminI, jabsI, bI0, Zb0, Zb1, ZbI, ↓reduceIte, not_true_eq_false, not_false_eq_true, ite_not, and_true, true_and, and_false, false_and, and_self, fL_acts_j1936, r7, r8, r9]
  have s1824 : fL_acts_j1824 N (iI k) (iI e) (iI ht) (iI w) (iI (11 * r)) (iI dl) (iI y) (iI f) (iI n) = some (iI 1, (M', L')) := by
    rw [← s1936]
    clear s1936 s1992 s2020 r7 r8 r9 r10 r0' b4 hsh f1 e1 gE nE
    rw [hE] at r5 r6 ⊢
    rw [es] at b7 r5 r6 ⊢
    rcases fE with ⟨rfl, c⟩ | ⟨rfl, c⟩
    · simp (disch := omega) only [MoI, nmD, bdS, b2S, lit32, iA, iS, iM, iN, iLt, iLe, iE, zlT, zlF, zleT, zleF, zeT, zeF, RdI, WrI, DvI, jmaxI, jminI, jabsI, bI0, Zb0, Zb1, ZbI, ↓reduceIte, not_true_eq_false, not_false_eq_true, ite_not, and_true, true_and, and_false, false_and, and_self, fL_acts_j1824, b1, b7, r1, c2, r5, r6]
    · simp (disch := omega) only [MoI, nmD, bdS, b2S, lit32, iA, iS, iM, iN, iLt, iLe, iE, zlT, zlF, zleT, zleF, zeT, zeF, RdI, WrI, DvI, jmaxI, jminI, jabsI, bI0, Zb0, Zb1, ZbI, ↓reduceIte, not_true_eq_false, not_false_eq_true, ite_not, and_true, true_and, and_false, false_and, and_self, fL_acts_j1824, b1, b7, r1, c2, r5, r6]
  have s1792 : fL_acts_j1792 N (iI k) (iI e) (iI ht) (iI w) (iI (11 * r)) (iI dl) (iI y) (iI f) = some (iI 1, (M', L')) := by
    rw [← s1824]
    clear s1824 s1936 s1992 s2020 r5 r6 r7 r8 r9 r10 r0' b1 b7 b4 hsh f1 e1 gE
    rcases nE with ⟨ce, rfl⟩ | ⟨ce, rfl⟩
    · simp (disch := omega) only [MoI, nmD, bdS, b2S, lit32, iA, iS, iM, iN, iLt, iLe, iE, zlT, zlF, zleT, zleF, zeT, zeF, RdI, WrI, DvI, jmaxI, jminI, jabsI, bI0, Zb0, Zb1, ZbI, ↓reduceIte, not_true_eq_false, not_false_eq_true, ite_not, and_true, true_and, and_false, false_and, and_self, fL_acts_j1792, r0]
    · rcases fE with ⟨rfl, c⟩ | ⟨rfl, c, c'⟩
      · have em : min y (A.R r 0 + A.S 1) = A.R r 0 + A.S 1 := by omega
        rw [em]
        simp (disch := omega) only [MoI, nmD, bdS, b2S, lit32, iA, iS, iM, iN, iLt, iLe, iE, zlT, zlF, zleT, zleF, zeT, zeF, RdI, WrI, DvI, jmaxI, jminI, jabsI, bI0, Zb0, Zb1, ZbI, ↓reduceIte, not_true_eq_false, not_false_eq_true, ite_not, and_true, true_and, and_false, false_and, and_self, fL_acts_j1792, r0, c1]
      · have em : min y (A.R r 0 + A.S 1) = y := by omega
        rw [em]
        simp (disch := omega) only [MoI, nmD, bdS, b2S, lit32, iA, iS, iM, iN, iLt, iLe, iE, zlT, zlF, zleT, zleF, zeT, zeF, RdI, WrI, DvI, jmaxI, jminI, jabsI, bI0, Zb0, Zb1, ZbI, ↓reduceIte, not_true_eq_false, not_false_eq_true, ite_not, and_true, true_and, and_false, false_and, and_self, fL_acts_j1792, r0, c1]
  rw [← s1792]
  clear s1792 s1824 s1936 s1992 s2020 r5 r6 r7 r8 r9 r10 r0' b1 b7 b4 hsh f1 e1 gE nE
  rw [hy] at fE ⊢
  rcases fE with ⟨rfl, c⟩ | ⟨rfl, c, c'⟩
  · by_cases ce : e ≤ 0
    · simp (disch := omega) only [MoI, nmD, bdS, b2S, lit32, iA, iS, iM, iN, iLt, iLe, iE, zlT, zlF, zleT, zleF, zeT, zeF, RdI, WrI, DvI, jmaxI, jminI, jabsI, bI0, Zb0, Zb1, ZbI, ↓reduceIte, not_true_eq_false, not_false_eq_true, ite_not, and_true, true_and, and_false, false_and, and_self, fL_acts_j1739, fL_acts_j1791, hlt, c0, c1, r0]
    · have c : A.R r 0 + A.S 1 < e + ht * A.S 0 := by omega
      simp (disch := omega) only [MoI, nmD, bdS, b2S, lit32, iA, iS, iM, iN, iLt, iLe, iE, zlT, zlF, zleT, zleF, zeT, zeF, RdI, WrI, DvI, jmaxI, jminI, jabsI, bI0, Zb0, Zb1, ZbI, ↓reduceIte, not_true_eq_false, not_false_eq_true, ite_not, and_true, true_and, and_false, false_and, and_self, fL_acts_j1739, fL_acts_j1791, hlt, c0, c1, r0]
  · simp (disch := omega) only [MoI, nmD, bdS, b2S, lit32, iA, iS, iM, iN, iLt, iLe, iE, zlT, zlF, zleT, zleF, zeT, zeF, RdI, WrI, DvI, jmaxI, jminI, jabsI, bI0, Zb0, Zb1, ZbI, ↓reduceIte, not_true_eq_false, not_false_eq_true, ite_not, and_true, true_and, and_false, false_and, and_self, fL_acts_j1739, fL_acts_j1791, hlt, c0, c1, r0]
end AC4
