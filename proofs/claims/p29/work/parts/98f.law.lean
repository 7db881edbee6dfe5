/-! The law: its two loops, its start. -/
theorem lCell {g : Nat → Nat} {L : Nat} (h3 : g 3 = L) (hL : L ≤ 260) {k : Int} (k0 : 0 ≤ k) (k1 : k < 1000000) : ∃ r : Int32, fL_cell g (iI k) = some r := by
  unfold fL_cell
  rw [h3]
  by_cases c : Int32.ofNat L ≤ iI k
  · exact ⟨_, if_pos c⟩
  · have e : Int32.ofNat L = iI (L : Int) := nI_iI L
    rw [e, iLe (by omega) (by omega) (by omega) (by omega)] at c
    rw [e, if_neg (by rw [iLe (by omega) (by omega) (by omega) (by omega)]; exact c)]
    have hin : vp_in (iI k) L := vp_in_iff.mpr (by rw [iT (by omega) (by omega)]; omega)
    unfold Rd
    exact ⟨_, if_neg hin⟩
theorem Inv00 {M : Xm} (h : X00 M) {f : Nat → Int32} (hf : ∀ k : Int, 0 ≤ k → k < 5 → f k.toNat = iI (A00.S k)) : InvP 0 (M, (fun _ => 0), f, (fun _ => 0), (fun _ => 0), (fun _ => 0), (fun _ => 0)) := by
  obtain ⟨h1, h2, h3⟩ := h
  have n0 : A00.nB = 0 := rfl
  have n1 : A00.nR = 0 := rfl
  have n2 : A00.nV = 0 := rfl
  refine ⟨A00, 0, ⟨h1, ⟨0, H00, h2⟩, by show M.2.2.2.2.1 = iI 0; rw [h3]; rfl, W00⟩, ⟨⟨rfl, rfl, rfl, rfl, rfl⟩, hf, fun r c r0 r1 => by omega, fun r c r0 r1 => by omega, fun r c r0 r1 => by omega, fun _ => 0, fun _ => 0, fun p p0 p1 => by omega, fun i p i0 i1 => by omega, fun i j k i0 i1 => by omega⟩, ⟨by omega, by omega⟩, ⟨by omega, by omega, by omega⟩, rfl, rfl⟩
section LOOP
variable {p : Program} {l : Launch} {e : Env} {s : State} {m : MethodId} {below : List Frame} {meth : Method} {c : Code} {D : va_G} {cI cS : ClassId} {g : Nat → Nat} {b L : Nat} {xs : Nat → Int32} {xx xd xo hh ha : Nat} {z : Nat → Nat → Nat} {zn q la : Nat → Nat}
set_option maxHeartbeats 4000000 in
set_option maxRecDepth 100000 in
theorem lw_end (hL : L ≤ 260) (C0 : lw_At p s m meth c b L xs) (hK : va_K D vwCl (tI cI cS) s) (hgb : g 2 = b) (hgL : g 3 = L) (hG : GG g (fun q : Nat => s.heap.size ≤ q) s s.heap) (hDa : ∀ M, va_D (fun q : Nat => s.heap.size ≤ q) (wXL cI cS xx xd xo hh ha z zn q la M)) : ∀ (N : XLm) (t k : Int) (H : Heap) (locs : List Loc) (ls : Array Slot) (cells slots : Nat), cells ≤ room_1.cells ∧ slots ≤ room_1.slots → va_P D vwCl (wXL cI cS xx xd xo hh ha z zn q la N) H → va_S (fun q : Nat => s.heap.size ≤ q) s.heap H locs → lv_has ls 11 [(0, .ref b), (1, .ref xx), (2, .ref (la 0)), (3, .ref (la 1)), (4, .ref (la 2)), (5, .ref (la 3)), (6, .ref (la 4)), (7, .ref (la 5)), (8, .int 1), (9, .int (iI t)), (10, .int (iI k))] → 
    W p l e room_1 s m #[Value.ref b] below meth c H locs cells slots (lw_Z below #[Value.ref b] s) (F0 m 251 ls []) := by
  obtain ⟨hx, hb, hr, hml, hown, hts, hX, hbl, hlocks, hgv⟩ := id C0
  have hown : s.vm.findClass RL = some m.cls := hown
  have htb : ∀ w ∈ BIG, w.before #[Value.ref b] s = true := fun w h => hts w (big_in w h)
  have hA : ∀ q : Nat, s.heap.size ≤ q → (fun q : Nat => s.heap.size ≤ q) q := fun _ h => h
  intro N t k H locs ls cells slots hf hP hS hl
  have h15 : fX8_count N.1 15 = some (-1, N.1) := rCntO (M := N.1) (x := 15) (by omega) (by omega) (by omega)
  have h7 : fX8_money N.1 7 = some (-1, N.1) := rMonO (M := N.1) (x := 7) (by omega) (by omega) (by omega)
  have h1 : fX8_money N.1 (-1) = some (-1, N.1) := by
    have q := rMonO (M := N.1) (x := -1) (by omega) (by omega) (by omega)
    rw [show iI (-1) = (-1 : Int32) by decide] at q
    exact q
  refine lv_iload hx hb dL_law_251 (lv_at hl 8 rfl) ?_
  refine lv_if_eq (tgt := 289) hx hb dL_law_253 (by decide) (fun c1 => absurd c1 (by decide)) (fun _ => ?_)
  refine lv_aload_n hx hb dL_law_256 rfl (lv_at hl 1 rfl) ?_
  refine lv_bipush (v := 15) hx hb dL_law_257 (by decide) ?_
  refine clx_VI ⟨hx, hb, hml, hown, htb⟩ (kX8_count l D cS g cI xx xd xo hh ha z zn q N.1 15 _ _ h15) (cwV 1 htb (gX8_count bw1_224) rfl rfl rfl hdX8_count ⟨Nat.le_of_ble_eq_true rfl, Nat.le_of_ble_eq_true rfl⟩) hK (hDa _) hG hA hP hS (sg_XL_XX cI cS xx xd xo hh ha z zn q la N N.1) hl.1 rfl 0 (pXX_0 _ _ _ _ _ _ _ _ _ _ _) rfl rfl (Nat.le_of_ble_eq_true rfl) hf dL_law_259 (fun H locs hP hS => ?_)
  refine lv_iconst (v := -1) hx hb dL_law_262 (by decide) ?_
  refine lv_icmp_ne (tgt := 289) hx hb dL_law_263 (by decide) (fun c1 => absurd rfl c1) (fun _ => ?_)
  refine lv_aload_n hx hb dL_law_266 rfl (lv_at hl 1 rfl) ?_
  refine lv_bipush (v := 7) hx hb dL_law_267 (by decide) ?_
  refine clx_VI ⟨hx, hb, hml, hown, htb⟩ (kX8_money l D cS g cI xx xd xo hh ha z zn q N.1 7 _ _ h7) (cwV 1 htb (gX8_money bw2_20) rfl rfl rfl hdX8_money ⟨Nat.le_of_ble_eq_true rfl, Nat.le_of_ble_eq_true rfl⟩) hK (hDa _) hG hA hP hS (sg_XL_XX cI cS xx xd xo hh ha z zn q la N N.1) hl.1 rfl 0 (pXX_0 _ _ _ _ _ _ _ _ _ _ _) rfl rfl (Nat.le_of_ble_eq_true rfl) hf dL_law_269 (fun H locs hP hS => ?_)
  refine lv_iconst (v := -1) hx hb dL_law_272 (by decide) ?_
  refine lv_icmp_ne (tgt := 289) hx hb dL_law_273 (by decide) (fun c1 => absurd rfl c1) (fun _ => ?_)
  refine lv_aload_n hx hb dL_law_276 rfl (lv_at hl 1 rfl) ?_
  refine lv_iconst (v := -1) hx hb dL_law_277 (by decide) ?_
  refine clx_VI ⟨hx, hb, hml, hown, htb⟩ (kX8_money l D cS g cI xx xd xo hh ha z zn q N.1 (-1) _ _ h1) (cwV 1 htb (gX8_money bw2_20) rfl rfl rfl hdX8_money ⟨Nat.le_of_ble_eq_true rfl, Nat.le_of_ble_eq_true rfl⟩) hK (hDa _) hG hA hP hS (sg_XL_XX cI cS xx xd xo hh ha z zn q la N N.1) hl.1 rfl 0 (pXX_0 _ _ _ _ _ _ _ _ _ _ _) rfl rfl (Nat.le_of_ble_eq_true rfl) hf dL_law_278 (fun H locs hP hS => ?_)
  refine lv_iconst (v := -1) hx hb dL_law_281 (by decide) ?_
  refine lv_icmp_ne (tgt := 289) hx hb dL_law_282 (by decide) (fun c1 => absurd rfl c1) (fun _ => ?_)
  refine lv_iconst (v := 1) hx hb dL_law_285 (by decide) ?_
  refine lv_goto (tgt := 290) hx hb dL_law_286 (by decide) ?_
  refine va_forget (fun q hq => hS.2.2 q hq) ?_
  refine W.widen (k := 601995) (n := 7296263) hf.1 hf.2 ?_
  exact lw_ret hx hb hr hlocks dL_law_290
set_option maxHeartbeats 4000000 in
set_option maxRecDepth 100000 in
theorem lw_two (hL : L ≤ 260) (C0 : lw_At p s m meth c b L xs) (hK : va_K D vwCl (tI cI cS) s) (hgb : g 2 = b) (hgL : g 3 = L) (hG : GG g (fun q : Nat => s.heap.size ≤ q) s s.heap) (hDa : ∀ M, va_D (fun q : Nat => s.heap.size ≤ q) (wXL cI cS xx xd xo hh ha z zn q la M)) {t : Int} (ht : t ≤ 60) : ∀ (n : Nat) (k : Int), 0 ≤ k → k + n = t → ∀ (N : XLm) (H : Heap) (locs : List Loc) (ls : Array Slot) (cells slots : Nat), InvP (24 + 2 * k) N → cells + 2 * n ≤ room_1.cells ∧ slots + 11 * n ≤ room_1.slots → va_P D vwCl (wXL cI cS xx xd xo hh ha z zn q la N) H → va_S (fun q : Nat => s.heap.size ≤ q) s.heap H locs → lv_has ls 11 [(0, .ref b), (1, .ref xx), (2, .ref (la 0)), (3, .ref (la 1)), (4, .ref (la 2)), (5, .ref (la 3)), (6, .ref (la 4)), (7, .ref (la 5)), (8, .int 1), (9, .int (iI t)), (10, .int (iI k))] → 
    W p l e room_1 s m #[Value.ref b] below meth c H locs cells slots (lw_Z below #[Value.ref b] s) (F0 m 176 ls []) := by
  obtain ⟨hx, hb, hr, hml, hown, hts, hX, hbl, hlocks, hgv⟩ := id C0
  have hown : s.vm.findClass RL = some m.cls := hown
  have htb : ∀ w ∈ BIG, w.before #[Value.ref b] s = true := fun w h => hts w (big_in w h)
  have hA : ∀ q : Nat, s.heap.size ≤ q → (fun q : Nat => s.heap.size ≤ q) q := fun _ h => h
  intro n
  induction n with
  | zero =>
    intro k k0 k1 N H locs ls cells slots hI hf hP hS hl
    refine lv_iload hx hb dL_law_176 (lv_at hl 10 rfl) ?_
    refine lv_iload hx hb dL_law_178 (lv_at hl 9 rfl) ?_
    refine lv_icmp_ge (tgt := 251) hx hb dL_law_180 (by decide) (fun c1 => ?_) (fun c1 => ?_)
    · exact lw_end hL C0 hK hgb hgL hG hDa N t k H locs ls cells slots ⟨by omega, by omega⟩ hP hS hl
    · exact absurd (by rw [iLe (by omega) (by omega) (by omega) (by omega)]; omega) c1
  | succ n ih =>
    intro k k0 k1 N H locs ls cells slots hI hf2 hP hS hl
    have hf : cells ≤ room_1.cells ∧ slots ≤ room_1.slots := ⟨by omega, by omega⟩
    refine lv_iload hx hb dL_law_176 (lv_at hl 10 rfl) ?_
    refine lv_iload hx hb dL_law_178 (lv_at hl 9 rfl) ?_
    refine lv_icmp_ge (tgt := 251) hx hb dL_law_180 (by decide) (fun c1 => ?_) (fun _ => ?_)
    · exact absurd c1 (by rw [iLe (by omega) (by omega) (by omega) (by omega)]; omega)
    refine lv_iload hx hb dL_law_183 (lv_at hl 8 rfl) ?_
    refine lv_if_eq (tgt := 251) hx hb dL_law_185 (by decide) (fun c1 => absurd c1 (by decide)) (fun _ => ?_)
    refine lv_aload_n hx hb dL_law_188 rfl (lv_at hl 1 rfl) ?_
    refine lv_aload_n hx hb dL_law_189 rfl (lv_at hl 2 rfl) ?_
    refine lv_aload_n hx hb dL_law_190 rfl (lv_at hl 3 rfl) ?_
    refine lv_aload hx hb dL_law_191 (lv_at hl 4 rfl) ?_
    refine lv_aload hx hb dL_law_193 (lv_at hl 5 rfl) ?_
    refine lv_aload hx hb dL_law_195 (lv_at hl 6 rfl) ?_
    refine lv_aload hx hb dL_law_197 (lv_at hl 7 rfl) ?_
    refine lv_aload_n hx hb dL_law_199 rfl (lv_at hl 0 rfl) ?_
    refine lv_bipush (v := 13) hx hb dL_law_200 (by decide) ?_
    refine lv_iload hx hb dL_law_202 (lv_at hl 10 rfl) ?_
    refine lv_iadd hx hb dL_law_204 ?_
    rw [show (13 : Int32) + iI k = iI (13 + k) from iA 13 k]
    obtain ⟨r, hr1⟩ := lCell hgL hL (k := 13 + k) (by omega) (by omega)
    refine clx_SI ⟨hx, hb, hml, hown, htb⟩ (kL_cell l D cS g cI (iI (13 + k)) _ hr1) (va_cwS 2 htb (gL_cell bw2_29) rfl rfl rfl hdL_cell ⟨Nat.le_of_ble_eq_true rfl, Nat.le_of_ble_eq_true rfl⟩) hK (hDa _) hG hA hP hS sg_nil hl.1 rfl (by rw [hgb]; rfl) (Nat.le_of_ble_eq_true rfl) hf dL_law_205 (fun H locs hP hS => ?_)
    refine lv_sipush (v := 7919) hx hb dL_law_208 (by decide) ?_
    refine lv_iload hx hb dL_law_211 (lv_at hl 10 rfl) ?_
    refine lv_imul hx hb dL_law_213 ?_
    refine lv_ixor hx hb dL_law_214 ?_
    generalize r ^^^ (7919 * iI k) = y
    obtain ⟨N1, hr2, hI1⟩ := acts_ok hI (by omega) y
    refine clx_SI ⟨hx, hb, hml, hown, htb⟩ (kL_acts l D cS g cI xx xd xo hh ha z zn q la N y _ _ hr2) (va_cwS 8 htb (gL_acts bw2_37) rfl rfl rfl hdL_acts ⟨Nat.le_of_ble_eq_true rfl, Nat.le_of_ble_eq_true rfl⟩) hK (hDa _) hG hA hP hS sg_all hl.1 rfl (rfl) (Nat.le_of_ble_eq_true rfl) hf dL_law_215 (fun H locs hP hS => ?_)
    refine lv_if_eq (tgt := 242) hx hb dL_law_218 (by decide) (fun c1 => absurd c1 (by decide)) (fun _ => ?_)
    refine lv_aload_n hx hb dL_law_221 rfl (lv_at hl 1 rfl) ?_
    refine lv_aload_n hx hb dL_law_222 rfl (lv_at hl 2 rfl) ?_
    refine lv_aload_n hx hb dL_law_223 rfl (lv_at hl 3 rfl) ?_
    refine lv_aload hx hb dL_law_224 (lv_at hl 4 rfl) ?_
    refine lv_aload hx hb dL_law_226 (lv_at hl 5 rfl) ?_
    refine lv_aload hx hb dL_law_228 (lv_at hl 6 rfl) ?_
    refine lv_aload hx hb dL_law_230 (lv_at hl 7 rfl) ?_
    refine clx_SIc ⟨hx, hb, hml, hown, htb⟩ (kL_isSo l D cS g cI xx xd xo hh ha z zn q la N1 _ _ (isSo_ok hI1)) (va_cwS 7 htb (gL_isSo bw3_25) rfl rfl rfl hdL_isSo ⟨Nat.le_of_ble_eq_true rfl, Nat.le_of_ble_eq_true rfl⟩) hK (hDa _) hG hA hP hS sg_all hl.1 rfl (rfl) (Nat.le_of_ble_eq_true rfl) ⟨by omega, by omega⟩ dL_law_232 (fun H locs hP hS => ?_)
    refine lv_if_eq (tgt := 242) hx hb dL_law_235 (by decide) (fun c1 => absurd c1 (by decide)) (fun _ => ?_)
    refine lv_iconst (v := 1) hx hb dL_law_238 (by decide) ?_
    refine lv_goto (tgt := 243) hx hb dL_law_239 (by decide) ?_
    refine lv_istore (lv' := [(8, .int 1), (0, .ref b), (1, .ref xx), (2, .ref (la 0)), (3, .ref (la 1)), (4, .ref (la 2)), (5, .ref (la 3)), (6, .ref (la 4)), (7, .ref (la 5)), (9, .int (iI t)), (10, .int (iI k))]) hx hb dL_law_243 hl (by decide) rfl (fun ls hl => ?_)
    refine lv_iinc (v := iI (k + 1)) (lv' := [(10, .int (iI (k + 1))), (8, .int 1), (0, .ref b), (1, .ref xx), (2, .ref (la 0)), (3, .ref (la 1)), (4, .ref (la 2)), (5, .ref (la 3)), (6, .ref (la 4)), (7, .ref (la 5)), (9, .int (iI t))]) hx hb dL_law_245 hl (k := 10) rfl (iA k 1) (by decide) rfl (fun ls hl => ?_)
    refine lv_goto (tgt := 176) hx hb dL_law_248 (by decide) ?_
    exact ih (k + 1) (by omega) (by omega) N1 H locs ls (cells + 2) (slots + 11) (by rw [show 24 + 2 * (k + 1) = 24 + 2 * k + 2 by omega]; exact hI1) ⟨by omega, by omega⟩ hP hS (lv_sub hl [2, 3, 4, 5, 6, 7, 8, 9, 1, 10, 0] rfl)
set_option maxHeartbeats 4000000 in
set_option maxRecDepth 100000 in
theorem lw_one (hL : L ≤ 260) (C0 : lw_At p s m meth c b L xs) (hK : va_K D vwCl (tI cI cS) s) (hgb : g 2 = b) (hgL : g 3 = L) (hG : GG g (fun q : Nat => s.heap.size ≤ q) s s.heap) (hDa : ∀ M, va_D (fun q : Nat => s.heap.size ≤ q) (wXL cI cS xx xd xo hh ha z zn q la M)) : ∀ (n : Nat) (k : Int), 0 ≤ k → k + n = 12 → ∀ (N : XLm) (H : Heap) (locs : List Loc) (ls : Array Slot) (cells slots : Nat), InvP (2 * k) N → cells + 200 ≤ room_1.cells ∧ slots + 1000 ≤ room_1.slots → va_P D vwCl (wXL cI cS xx xd xo hh ha z zn q la N) H → va_S (fun q : Nat => s.heap.size ≤ q) s.heap H locs → lv_has ls 11 [(0, .ref b), (1, .ref xx), (2, .ref (la 0)), (3, .ref (la 1)), (4, .ref (la 2)), (5, .ref (la 3)), (6, .ref (la 4)), (7, .ref (la 5)), (8, .int 1), (9, .int (iI k))] → 
    W p l e room_1 s m #[Value.ref b] below meth c H locs cells slots (lw_Z below #[Value.ref b] s) (F0 m 82 ls []) := by
  obtain ⟨hx, hb, hr, hml, hown, hts, hX, hbl, hlocks, hgv⟩ := id C0
  have hown : s.vm.findClass RL = some m.cls := hown
  have htb : ∀ w ∈ BIG, w.before #[Value.ref b] s = true := fun w h => hts w (big_in w h)
  have hA : ∀ q : Nat, s.heap.size ≤ q → (fun q : Nat => s.heap.size ≤ q) q := fun _ h => h
  intro n
  induction n with
  | zero =>
    intro k k0 k1 N H locs ls cells slots hI hf2 hP hS hl
    have hf : cells ≤ room_1.cells ∧ slots ≤ room_1.slots := ⟨by omega, by omega⟩
    obtain rfl : k = 12 := by omega
    refine lv_iload hx hb dL_law_82 (lv_at hl 9 rfl) ?_
    refine lv_bipush (v := 12) hx hb dL_law_84 (by decide) ?_
    refine lv_icmp_ge (tgt := 158) hx hb dL_law_86 (by decide) (fun c1 => ?_) (fun c1 => absurd (by decide) c1)
    refine lv_bipush (v := 8) hx hb dL_law_158 (by decide) ?_
    refine lv_aload_n hx hb dL_law_160 rfl (lv_at hl 0 rfl) ?_
    refine lv_iconst (v := 0) hx hb dL_law_161 (by decide) ?_
    obtain ⟨r, hr1⟩ := lCell hgL hL (k := 0) (by omega) (by omega)
    refine clx_SI ⟨hx, hb, hml, hown, htb⟩ (kL_cell l D cS g cI 0 _ hr1) (va_cwS 2 htb (gL_cell bw2_29) rfl rfl rfl hdL_cell ⟨Nat.le_of_ble_eq_true rfl, Nat.le_of_ble_eq_true rfl⟩) hK (hDa _) hG hA hP hS sg_nil hl.1 rfl (by rw [hgb]; rfl) (Nat.le_of_ble_eq_true rfl) hf dL_law_162 (fun H locs hP hS => ?_)
    refine lv_bipush (v := 45) hx hb dL_law_165 (by decide) ?_
    obtain ⟨t, hr2, t0, t1⟩ := lLow r (n := 45) (by omega) (by omega)
    refine clx_SI ⟨hx, hb, hml, hown, htb⟩ (kL_low l D cS g cI r 45 _ hr2) (va_cwS 2 htb (gL_low bw2_33) rfl rfl rfl hdL_low ⟨Nat.le_of_ble_eq_true rfl, Nat.le_of_ble_eq_true rfl⟩) hK (hDa _) hG hA hP hS sg_nil hl.1 rfl (rfl) (Nat.le_of_ble_eq_true rfl) hf dL_law_167 (fun H locs hP hS => ?_)
    refine lv_iadd hx hb dL_law_170 ?_
    rw [show (8 : Int32) + iI t = iI (8 + t) from iA 8 t]
    refine lv_istore (lv' := [(9, .int (iI (8 + t))), (0, .ref b), (1, .ref xx), (2, .ref (la 0)), (3, .ref (la 1)), (4, .ref (la 2)), (5, .ref (la 3)), (6, .ref (la 4)), (7, .ref (la 5)), (8, .int 1)]) hx hb dL_law_171 hl (by decide) rfl (fun ls hl => ?_)
    refine lv_iconst (v := 0) hx hb dL_law_173 (by decide) ?_
    refine lv_istore (lv' := [(10, .int 0), (9, .int (iI (8 + t))), (0, .ref b), (1, .ref xx), (2, .ref (la 0)), (3, .ref (la 1)), (4, .ref (la 2)), (5, .ref (la 3)), (6, .ref (la 4)), (7, .ref (la 5)), (8, .int 1)]) hx hb dL_law_174 hl (by decide) rfl (fun ls hl => ?_)
    exact lw_two hL C0 hK hgb hgL hG hDa (t := 8 + t) (by omega) (8 + t).toNat 0 (by omega) (by omega) N H locs ls cells slots hI ⟨by omega, by omega⟩ hP hS (lv_sub hl [2, 3, 4, 5, 6, 7, 8, 9, 10, 1, 0] rfl)
  | succ n ih =>
    intro k k0 k1 N H locs ls cells slots hI hf2 hP hS hl
    have hf : cells ≤ room_1.cells ∧ slots ≤ room_1.slots := ⟨by omega, by omega⟩
    refine lv_iload hx hb dL_law_82 (lv_at hl 9 rfl) ?_
    refine lv_bipush (v := 12) hx hb dL_law_84 (by decide) ?_
    refine lv_icmp_ge (tgt := 158) hx hb dL_law_86 (by decide) (fun c1 => ?_) (fun _ => ?_)
    · exact absurd c1 (by rw [show (12 : Int32) = iI 12 from rfl, iLe (by omega) (by omega) (by omega) (by omega)]; omega)
    refine lv_iload hx hb dL_law_89 (lv_at hl 8 rfl) ?_
    refine lv_if_eq (tgt := 158) hx hb dL_law_91 (by decide) (fun c1 => absurd c1 (by decide)) (fun _ => ?_)
    refine lv_aload_n hx hb dL_law_94 rfl (lv_at hl 1 rfl) ?_
    refine lv_aload_n hx hb dL_law_95 rfl (lv_at hl 2 rfl) ?_
    refine lv_aload_n hx hb dL_law_96 rfl (lv_at hl 3 rfl) ?_
    refine lv_aload hx hb dL_law_97 (lv_at hl 4 rfl) ?_
    refine lv_aload hx hb dL_law_99 (lv_at hl 5 rfl) ?_
    refine lv_aload hx hb dL_law_101 (lv_at hl 6 rfl) ?_
    refine lv_aload hx hb dL_law_103 (lv_at hl 7 rfl) ?_
    refine lv_aload_n hx hb dL_law_105 rfl (lv_at hl 0 rfl) ?_
    refine lv_iconst (v := 1) hx hb dL_law_106 (by decide) ?_
    refine lv_iload hx hb dL_law_107 (lv_at hl 9 rfl) ?_
    refine lv_iadd hx hb dL_law_109 ?_
    rw [show (1 : Int32) + iI k = iI (1 + k) from iA 1 k]
    obtain ⟨r, hr1⟩ := lCell hgL hL (k := 1 + k) (by omega) (by omega)
    refine clx_SI ⟨hx, hb, hml, hown, htb⟩ (kL_cell l D cS g cI (iI (1 + k)) _ hr1) (va_cwS 2 htb (gL_cell bw2_29) rfl rfl rfl hdL_cell ⟨Nat.le_of_ble_eq_true rfl, Nat.le_of_ble_eq_true rfl⟩) hK (hDa _) hG hA hP hS sg_nil hl.1 rfl (by rw [hgb]; rfl) (Nat.le_of_ble_eq_true rfl) hf dL_law_110 (fun H locs hP hS => ?_)
    refine lv_ldc hx hb hown (htb _ bw2_36) dL_law_113 ?_
    refine lv_iand hx hb dL_law_115 ?_
    refine lv_sipush (v := 832) hx hb dL_law_116 (by decide) ?_
    refine lv_idiv hx hb dL_law_119 (by decide) ?_
    refine lv_sipush (v := 832) hx hb dL_law_120 (by decide) ?_
    refine lv_imul hx hb dL_law_123 ?_
    generalize (r &&& 2147483647) / 832 * 832 = y
    have kk : ∀ x : Int32, W p l e room_1 s m #[Value.ref b] below meth c H locs cells slots (lw_Z below #[Value.ref b] s) (F0 m 146 ls [.int x, .int y, .ref (la 5), .ref (la 4), .ref (la 3), .ref (la 2), .ref (la 1), .ref (la 0), .ref xx]) := by
      intro x
      refine lv_iadd hx hb dL_law_146 ?_
      obtain ⟨N1, hr2, hI1⟩ := acts_ok hI (by omega) (y + x)
      refine clx_SI ⟨hx, hb, hml, hown, htb⟩ (kL_acts l D cS g cI xx xd xo hh ha z zn q la N (y + x) _ _ hr2) (va_cwS 8 htb (gL_acts bw2_37) rfl rfl rfl hdL_acts ⟨Nat.le_of_ble_eq_true rfl, Nat.le_of_ble_eq_true rfl⟩) hK (hDa _) hG hA hP hS sg_all hl.1 rfl (rfl) (Nat.le_of_ble_eq_true rfl) hf dL_law_147 (fun H locs hP hS => ?_)
      refine lv_istore (lv' := [(8, .int (iI 1)), (0, .ref b), (1, .ref xx), (2, .ref (la 0)), (3, .ref (la 1)), (4, .ref (la 2)), (5, .ref (la 3)), (6, .ref (la 4)), (7, .ref (la 5)), (9, .int (iI k))]) hx hb dL_law_150 hl (by decide) rfl (fun ls hl => ?_)
      refine lv_iinc (v := iI (k + 1)) (lv' := [(9, .int (iI (k + 1))), (8, .int (iI 1)), (0, .ref b), (1, .ref xx), (2, .ref (la 0)), (3, .ref (la 1)), (4, .ref (la 2)), (5, .ref (la 3)), (6, .ref (la 4)), (7, .ref (la 5))]) hx hb dL_law_152 hl (k := 9) rfl (iA k 1) (by decide) rfl (fun ls hl => ?_)
      refine lv_goto (tgt := 82) hx hb dL_law_155 (by decide) ?_
      exact ih (k + 1) (by omega) (by omega) N1 H locs ls cells slots (by rw [show 2 * (k + 1) = 2 * k + 2 by omega]; exact hI1) hf2 hP hS (lv_sub hl [2, 3, 4, 5, 6, 7, 8, 9, 1, 0] rfl)
    clear ih
    refine lv_iload hx hb dL_law_124 (lv_at hl 9 rfl) ?_
    refine lv_iconst (v := 2) hx hb dL_law_126 (by decide) ?_
    refine lv_icmp_ge (tgt := 134) hx hb dL_law_127 (by decide) (fun _ => ?_) (fun _ => ?_)
    · refine lv_iload hx hb dL_law_134 (lv_at hl 9 rfl) ?_
      refine lv_iconst (v := 5) hx hb dL_law_136 (by decide) ?_
      refine lv_icmp_ge (tgt := 144) hx hb dL_law_137 (by decide) (fun _ => ?_) (fun _ => ?_)
      · refine lv_bipush (v := 6) hx hb dL_law_144 (by decide) ?_
        exact kk 6
      · refine lv_iconst (v := 2) hx hb dL_law_140 (by decide) ?_
        refine lv_goto (tgt := 146) hx hb dL_law_141 (by decide) ?_
        exact kk 2
    · refine lv_iconst (v := 0) hx hb dL_law_130 (by decide) ?_
      refine lv_goto (tgt := 146) hx hb dL_law_131 (by decide) ?_
      exact kk 0
end LOOP
section KN
variable {s : State} {b : Nat}
theorem lw_kn (htb : ∀ w ∈ BIG, w.before #[Value.ref b] s = true) (hO : (Cond.arrayOver (.object RX5)).before #[Value.ref b] s = true) : ∃ (D : va_G) (cI cS : ClassId), va_K D vwCl (tI cI cS) s := by
  obtain ⟨c0, i0, k0⟩ := u_known (C := RX0) (T := TX0) (N := 5) (n := 5) htb kin0 (htb _ bw1_130)
  obtain ⟨c1, i1, k1⟩ := u_known (C := RX1) (T := TX1) (N := 2) (n := 2) htb kin1 (htb _ bw1_168)
  obtain ⟨c2, i2, k2⟩ := u_known (C := RX2) (T := TX2) (N := 3) (n := 3) htb kin2 (htb _ bw1_152)
  obtain ⟨c3, i3, k3⟩ := u_known (C := RX3) (T := TX3) (N := 6) (n := 6) htb kin3 (htb _ bw1_184)
  obtain ⟨c4, i4, k4⟩ := u_known (C := RX4) (T := TX4) (N := 2) (n := 2) htb kin4 (htb _ bw1_103)
  obtain ⟨c5, i5, k5⟩ := u_known (C := RX5) (T := TX5) (N := 3) (n := 3) htb kin5 (htb _ bw1_21)
  obtain ⟨c6, i6, k6⟩ := u_known (C := RX6) (T := TX6) (N := 4) (n := 4) htb kin6 (htb _ bw1_33)
  obtain ⟨c7, i7, k7⟩ := u_known (C := RX7) (T := TX7) (N := 6) (n := 6) htb kin7 (htb _ bw1_27)
  obtain ⟨c8, i8, k8⟩ := u_known (C := RX8) (T := TX8) (N := 6) (n := 6) htb kin8 (htb _ bw1_13)
  obtain ⟨cI, kI, comp, f1, f2, f3⟩ := Cond.arrayClass_spec (htb _ bw1_54)
  obtain ⟨comp2, cS, kS, g1, g2, g3, g4, g5⟩ := Cond.arrayOver_spec hO
  refine ⟨(fun k => if k = 0 then c0 else if k = 1 then c1 else if k = 2 then c2 else if k = 3 then c3 else if k = 4 then c4 else if k = 5 then c5 else if k = 6 then c6 else if k = 7 then c7 else c8, fun k => if k = 0 then i0 else if k = 1 then i1 else if k = 2 then i2 else if k = 3 then i3 else if k = 4 then i4 else if k = 5 then i5 else if k = 6 then i6 else if k = 7 then i7 else i8), cI, cS, fun k q hq => ?_, fun k q hq => ?_⟩
  · match k, hq with
    | 0, hq => cases hq; exact k0
    | 1, hq => cases hq; exact k1
    | 2, hq => cases hq; exact k2
    | 3, hq => cases hq; exact k3
    | 4, hq => cases hq; exact k4
    | 5, hq => cases hq; exact k5
    | 6, hq => cases hq; exact k6
    | 7, hq => cases hq; exact k7
    | 8, hq => cases hq; exact k8
    | k + 9, hq => cases hq
  · match k, hq with
    | 0, hq => cases hq; exact ⟨fun n z => ⟨fun k h => (by cases h), kI, f2, comp, f3⟩, f1⟩
    | 1, hq => cases hq; exact ⟨fun n z => ⟨fun k h => (by cases h), kS, g3, comp2, g4⟩, kS, comp2, g3, g4, g1, g5⟩
    | k + 2, hq => cases hq
end KN
theorem lw_f5 : ∀ k : Int, 0 ≤ k → k < 5 → (upd (upd (upd (upd (upd (fun _ => (0 : Int32)) (0 : Int32).toNatClampNeg 2) (1 : Int32).toNatClampNeg 10) (2 : Int32).toNatClampNeg 5) (3 : Int32).toNatClampNeg 15) (4 : Int32).toNatClampNeg 20) k.toNat = iI (A00.S k) := by
  intro k k0 k1
  rcases (show k = 0 ∨ k = 1 ∨ k = 2 ∨ k = 3 ∨ k = 4 by omega) with rfl | rfl | rfl | rfl | rfl <;> rfl
set_option maxHeartbeats 8000000 in
set_option maxRecDepth 100000 in
theorem whole_start {p : Program} {e : Env} {s : State} {m : MethodId} {below : List Frame} {meth : Method} {c : Code} (l : Launch) (hflags : l.flags = flags0) {b L : Nat} {xs : Nat → Int32} (hL : L ≤ 260) (C0 : lw_At p s m meth c b L xs) : W p l e room_1 s m #[Value.ref b] below meth c s.heap [] 0 0 (lw_Z below #[Value.ref b] s) (entryFrame m ([Value.ref b] : List Value).toArray 11) := by
  obtain ⟨hx, hb, hr, hml, hown, hts, hX, hbl, hlocks, hgv⟩ := id C0
  have hown : s.vm.findClass RL = some m.cls := hown
  have htb : ∀ w ∈ BIG, w.before #[Value.ref b] s = true := fun w h => hts w (big_in w h)
  have hA : ∀ q : Nat, s.heap.size ≤ q → (fun q : Nat => s.heap.size ≤ q) q := fun _ h => h
  have hb : c.code = cL_law := hb
  have hO0 : (Cond.arrayOver (.object RX5)).before #[Value.ref b] s = true := hts _ (by decide +kernel)
  have hO : va_AO RX5 s := va_AO.of hO0
  obtain ⟨g, hgb, hgL, hG⟩ := gg_start hX hbl hts hgv
  obtain ⟨D, cI, cS, hK⟩ := lw_kn htb hO0
  have hS : va_S (fun q : Nat => s.heap.size ≤ q) s.heap s.heap [] := va_S.rf
  have hP : va_P D vwCl [] s.heap := fun k q h => by simp at h
  have hD : va_D (fun q : Nat => s.heap.size ≤ q) [] := ⟨fun i j p q h => by simp at h, fun k q h => by simp at h⟩
  have hl := lv_entry ([.ref b]) (n := 11) (Nat.le_of_ble_eq_true rfl)
  rw [lg_entry_eq]
  generalize (lg_sl ([.ref b]) ++ List.replicate (11 - (lg_sl ([.ref b])).length) Slot.unset).toArray = ls at hl ⊢
  have hl : lv_has ls 11 [(0, .ref b)] := hl
  refine va_new (ci := 8) (fs := [.null, .null, .null, .null, .null, .null]) (C := RX8) (T := TX8) (N := 6) hx hb htb kin8 tyX8 tyX8_ok hown (htb _ bw1_12) (htb _ bw1_13) (htb _ bw1_1) hK hP hD hS hA rfl (fun j hj => by rcases (show j = 0 ∨ j = 1 ∨ j = 2 ∨ j = 3 ∨ j = 4 ∨ j = 5 by omega) with rfl | rfl | rfl | rfl | rfl | rfl <;> rfl) (Nat.le_of_ble_eq_true rfl) (Nat.le_of_ble_eq_true rfl) dL_law_0 (fun v H hP hD hS => ?_)
  refine lv_dup hx hb dL_law_3 rfl ?_
  have hP : va_P D vwCl ([(v, .inr (8, [.null, .null, .null, .null, .null, .null]))] ++ []) H := hP
  have hD : va_D (fun q : Nat => s.heap.size ≤ q) ([(v, .inr (8, [.null, .null, .null, .null, .null, .null]))] ++ []) := hD
  refine cl_C ⟨hx, hb, hml, hown, htb⟩ (kX8_init l D cS g cI v) (cwI 0 htb gX8_init rfl rfl rfl (htb _ bw1_1) (htb _ bw1_14) (htb _ bw1_15) rfl hdX8_init ⟨Nat.le_of_ble_eq_true rfl, Nat.le_of_ble_eq_true rfl⟩) hK hD hG hO hA hP hS hl.1 rfl rfl (Nat.le_of_ble_eq_true rfl) ⟨Nat.le_of_ble_eq_true rfl, Nat.le_of_ble_eq_true rfl⟩ dL_law_4 (fun u H locs hu hP hD hS => ?_)
  obtain ⟨xd, xo, hh, ha, z, zn, q, M⟩ := u
  have hu : X00 M := hu
  have hP : va_P D vwCl (wXX cI cS v xd xo hh ha z zn q M ++ []) H := hP
  have hD : va_D (fun q : Nat => s.heap.size ≤ q) (wXX cI cS v xd xo hh ha z zn q M ++ []) := hD
  rw [List.append_nil] at hP hD
  refine lv_astore_n (lv' := [(1, .ref v), (0, .ref b)]) hx hb dL_law_7 rfl hl (by decide) rfl (fun ls hl => ?_)
  refine lv_iconst (v := 5) hx hb dL_law_8 (by decide) ?_
  refine nw_I (k := 5) (N' := 5) hx hb (htb _ bw1_54) hK hP hD hS hA (by decide) rfl (by decide) (Nat.le_of_ble_eq_true rfl) (Nat.le_of_ble_eq_true rfl) dL_law_9 (fun a0 H hP hD hS => ?_)
  refine lv_astore_n (lv' := [(2, .ref a0), (1, .ref v), (0, .ref b)]) hx hb dL_law_11 rfl hl (by decide) rfl (fun ls hl => ?_)
  refine lv_iconst (v := 5) hx hb dL_law_12 (by decide) ?_
  refine nw_I (k := 5) (N' := 5) hx hb (htb _ bw1_54) hK hP hD hS hA (by decide) rfl (by decide) (Nat.le_of_ble_eq_true rfl) (Nat.le_of_ble_eq_true rfl) dL_law_13 (fun a1 H hP hD hS => ?_)
  refine lv_astore_n (lv' := [(3, .ref a1), (2, .ref a0), (1, .ref v), (0, .ref b)]) hx hb dL_law_15 rfl hl (by decide) rfl (fun ls hl => ?_)
  refine lv_bipush (v := 33) hx hb dL_law_16 (by decide) ?_
  refine nw_I (k := 33) (N' := 33) hx hb (htb _ bw1_54) hK hP hD hS hA (by decide) rfl (by decide) (Nat.le_of_ble_eq_true rfl) (Nat.le_of_ble_eq_true rfl) dL_law_18 (fun a2 H hP hD hS => ?_)
  refine lv_astore (lv' := [(4, .ref a2), (3, .ref a1), (2, .ref a0), (1, .ref v), (0, .ref b)]) hx hb dL_law_20 hl (by decide) rfl (fun ls hl => ?_)
  refine lv_bipush (v := 63) hx hb dL_law_22 (by decide) ?_
  refine nw_I (k := 63) (N' := 63) hx hb (htb _ bw1_54) hK hP hD hS hA (by decide) rfl (by decide) (Nat.le_of_ble_eq_true rfl) (Nat.le_of_ble_eq_true rfl) dL_law_24 (fun a3 H hP hD hS => ?_)
  refine lv_astore (lv' := [(5, .ref a3), (4, .ref a2), (3, .ref a1), (2, .ref a0), (1, .ref v), (0, .ref b)]) hx hb dL_law_26 hl (by decide) rfl (fun ls hl => ?_)
  refine lv_bipush (v := 28) hx hb dL_law_28 (by decide) ?_
  refine nw_I (k := 28) (N' := 28) hx hb (htb _ bw1_54) hK hP hD hS hA (by decide) rfl (by decide) (Nat.le_of_ble_eq_true rfl) (Nat.le_of_ble_eq_true rfl) dL_law_30 (fun a4 H hP hD hS => ?_)
  refine lv_astore (lv' := [(6, .ref a4), (5, .ref a3), (4, .ref a2), (3, .ref a1), (2, .ref a0), (1, .ref v), (0, .ref b)]) hx hb dL_law_32 hl (by decide) rfl (fun ls hl => ?_)
  refine lv_bipush (v := 8) hx hb dL_law_34 (by decide) ?_
  refine nw_I (k := 8) (N' := 8) hx hb (htb _ bw1_54) hK hP hD hS hA (by decide) rfl (by decide) (Nat.le_of_ble_eq_true rfl) (Nat.le_of_ble_eq_true rfl) dL_law_36 (fun a5 H hP hD hS => ?_)
  refine lv_astore (lv' := [(7, .ref a5), (6, .ref a4), (5, .ref a3), (4, .ref a2), (3, .ref a1), (2, .ref a0), (1, .ref v), (0, .ref b)]) hx hb dL_law_38 hl (by decide) rfl (fun ls hl => ?_)
  obtain ⟨la, hla⟩ : ∃ la : Nat → Nat, la = fun k => [a0, a1, a2, a3, a4, a5].getD k 0 := ⟨_, rfl⟩
  have e0 : a0 = la 0 := by rw [hla]; rfl
  have e1 : a1 = la 1 := by rw [hla]; rfl
  have e2 : a2 = la 2 := by rw [hla]; rfl
  have e3 : a3 = la 3 := by rw [hla]; rfl
  have e4 : a4 = la 4 := by rw [hla]; rfl
  have e5 : a5 = la 5 := by rw [hla]; rfl
  clear hla
  subst e0 e1 e2 e3 e4 e5
  simp only [List.append_assoc, List.cons_append, List.nil_append] at hP hD
  have hP : va_P D vwCl (wXL cI cS v xd xo hh ha z zn q la (M, (fun _ => (0 : Int32)), (fun _ => (0 : Int32)), (fun _ => (0 : Int32)), (fun _ => (0 : Int32)), (fun _ => (0 : Int32)), (fun _ => (0 : Int32)))) H := va_P.perm List.perm_append_comm hP
  have hD : va_D (fun q : Nat => s.heap.size ≤ q) (wXL cI cS v xd xo hh ha z zn q la (M, (fun _ => (0 : Int32)), (fun _ => (0 : Int32)), (fun _ => (0 : Int32)), (fun _ => (0 : Int32)), (fun _ => (0 : Int32)), (fun _ => (0 : Int32)))) := va_D.perm List.perm_append_comm hD
  have hDa : ∀ N, va_D (fun q : Nat => s.heap.size ≤ q) (wXL cI cS v xd xo hh ha z zn q la N) := fun N => hD.adr (adr_XL cI cS v xd xo hh ha z zn q la N _)
  refine lv_aload_n hx hb dL_law_40 rfl (lv_at hl 4 rfl) ?_
  refine lv_iconst (v := 0) hx hb dL_law_41 (by decide) ?_
  refine lv_iconst (v := 2) hx hb dL_law_42 (by decide) ?_
  refine va_iast (D := D) hx hb hK hP (hDa _) hS 1 0 (pXL_1 cI cS v xd xo hh ha z zn q la _) rfl (vp_in_iff.mpr (by decide)) dL_law_43 (fun H locs hP _ hS => ?_)
  have hP : va_P D vwCl (wXL cI cS v xd xo hh ha z zn q la (M, (fun _ => (0 : Int32)), (upd (fun _ => (0 : Int32)) (0 : Int32).toNatClampNeg 2), (fun _ => (0 : Int32)), (fun _ => (0 : Int32)), (fun _ => (0 : Int32)), (fun _ => (0 : Int32)))) H := hP
  refine lv_aload_n hx hb dL_law_44 rfl (lv_at hl 4 rfl) ?_
  refine lv_iconst (v := 1) hx hb dL_law_45 (by decide) ?_
  refine lv_bipush (v := 10) hx hb dL_law_46 (by decide) ?_
  refine va_iast (D := D) hx hb hK hP (hDa _) hS 1 0 (pXL_1 cI cS v xd xo hh ha z zn q la _) rfl (vp_in_iff.mpr (by decide)) dL_law_48 (fun H locs hP _ hS => ?_)
  have hP : va_P D vwCl (wXL cI cS v xd xo hh ha z zn q la (M, (fun _ => (0 : Int32)), (upd (upd (fun _ => (0 : Int32)) (0 : Int32).toNatClampNeg 2) (1 : Int32).toNatClampNeg 10), (fun _ => (0 : Int32)), (fun _ => (0 : Int32)), (fun _ => (0 : Int32)), (fun _ => (0 : Int32)))) H := hP
  refine lv_aload_n hx hb dL_law_49 rfl (lv_at hl 4 rfl) ?_
  refine lv_iconst (v := 2) hx hb dL_law_50 (by decide) ?_
  refine lv_iconst (v := 5) hx hb dL_law_51 (by decide) ?_
  refine va_iast (D := D) hx hb hK hP (hDa _) hS 1 0 (pXL_1 cI cS v xd xo hh ha z zn q la _) rfl (vp_in_iff.mpr (by decide)) dL_law_52 (fun H locs hP _ hS => ?_)
  have hP : va_P D vwCl (wXL cI cS v xd xo hh ha z zn q la (M, (fun _ => (0 : Int32)), (upd (upd (upd (fun _ => (0 : Int32)) (0 : Int32).toNatClampNeg 2) (1 : Int32).toNatClampNeg 10) (2 : Int32).toNatClampNeg 5), (fun _ => (0 : Int32)), (fun _ => (0 : Int32)), (fun _ => (0 : Int32)), (fun _ => (0 : Int32)))) H := hP
  refine lv_aload_n hx hb dL_law_53 rfl (lv_at hl 4 rfl) ?_
  refine lv_iconst (v := 3) hx hb dL_law_54 (by decide) ?_
  refine lv_bipush (v := 15) hx hb dL_law_55 (by decide) ?_
  refine va_iast (D := D) hx hb hK hP (hDa _) hS 1 0 (pXL_1 cI cS v xd xo hh ha z zn q la _) rfl (vp_in_iff.mpr (by decide)) dL_law_57 (fun H locs hP _ hS => ?_)
  have hP : va_P D vwCl (wXL cI cS v xd xo hh ha z zn q la (M, (fun _ => (0 : Int32)), (upd (upd (upd (upd (fun _ => (0 : Int32)) (0 : Int32).toNatClampNeg 2) (1 : Int32).toNatClampNeg 10) (2 : Int32).toNatClampNeg 5) (3 : Int32).toNatClampNeg 15), (fun _ => (0 : Int32)), (fun _ => (0 : Int32)), (fun _ => (0 : Int32)), (fun _ => (0 : Int32)))) H := hP
  refine lv_aload_n hx hb dL_law_58 rfl (lv_at hl 4 rfl) ?_
  refine lv_iconst (v := 4) hx hb dL_law_59 (by decide) ?_
  refine lv_bipush (v := 20) hx hb dL_law_60 (by decide) ?_
  refine va_iast (D := D) hx hb hK hP (hDa _) hS 1 0 (pXL_1 cI cS v xd xo hh ha z zn q la _) rfl (vp_in_iff.mpr (by decide)) dL_law_62 (fun H locs hP _ hS => ?_)
  have hP : va_P D vwCl (wXL cI cS v xd xo hh ha z zn q la (M, (fun _ => (0 : Int32)), (upd (upd (upd (upd (upd (fun _ => (0 : Int32)) (0 : Int32).toNatClampNeg 2) (1 : Int32).toNatClampNeg 10) (2 : Int32).toNatClampNeg 5) (3 : Int32).toNatClampNeg 15) (4 : Int32).toNatClampNeg 20), (fun _ => (0 : Int32)), (fun _ => (0 : Int32)), (fun _ => (0 : Int32)), (fun _ => (0 : Int32)))) H := hP
  have hI := Inv00 hu lw_f5
  refine lv_aload_n hx hb dL_law_63 rfl (lv_at hl 6 rfl) ?_
  refine lv_aload_n hx hb dL_law_64 rfl (lv_at hl 5 rfl) ?_
  refine lv_aload_n hx hb dL_law_65 rfl (lv_at hl 4 rfl) ?_
  refine lv_aload hx hb dL_law_66 (lv_at hl 3 rfl) ?_
  refine lv_aload hx hb dL_law_68 (lv_at hl 2 rfl) ?_
  refine lv_aload hx hb dL_law_70 (lv_at hl 1 rfl) ?_
  refine lv_aload hx hb dL_law_72 (lv_at hl 0 rfl) ?_
  refine clx_SIc ⟨hx, hb, hml, hown, htb⟩ (kL_isSo l D cS g cI v xd xo hh ha z zn q la _ _ _ (isSo_ok hI)) (va_cwS 7 htb (gL_isSo bw3_25) rfl rfl rfl hdL_isSo ⟨Nat.le_of_ble_eq_true rfl, Nat.le_of_ble_eq_true rfl⟩) hK (hDa _) hG hA hP hS sg_all hl.1 rfl (rfl) (Nat.le_of_ble_eq_true rfl) ⟨Nat.le_of_ble_eq_true rfl, Nat.le_of_ble_eq_true rfl⟩ dL_law_74 (fun H locs hP hS => ?_)
  refine lv_istore (lv' := [(8, .int (iI 1)), (7, .ref (la 5)), (6, .ref (la 4)), (5, .ref (la 3)), (4, .ref (la 2)), (3, .ref (la 1)), (2, .ref (la 0)), (1, .ref v), (0, .ref b)]) hx hb dL_law_77 hl (by decide) rfl (fun ls hl => ?_)
  refine lv_iconst (v := 0) hx hb dL_law_79 (by decide) ?_
  refine lv_istore (lv' := [(9, .int 0), (8, .int (iI 1)), (7, .ref (la 5)), (6, .ref (la 4)), (5, .ref (la 3)), (4, .ref (la 2)), (3, .ref (la 1)), (2, .ref (la 0)), (1, .ref v), (0, .ref b)]) hx hb dL_law_80 hl (by decide) rfl (fun ls hl => ?_)
  exact lw_one hL C0 hK hgb hgL hG hDa 12 0 (by omega) (by omega) _ H locs ls _ _ hI ⟨Nat.le_of_ble_eq_true rfl, Nat.le_of_ble_eq_true rfl⟩ hP hS (lv_sub hl [9, 8, 7, 6, 5, 4, 3, 2, 1, 0] rfl)
