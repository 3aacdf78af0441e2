/-! block by block -/
def SOk (A0 T0 : Nat → Int32) (s : jBd) : Prop := Sv s.2.2 s.2.1 s.1.1 s.1.2 ∧ (∀ p, s.1.1 ≤ p → s.2.1 p = A0 p) ∧ ∀ i, 4 * s.1.2 ≤ i → s.2.2 i = T0 i
def Good (A0 T0 : Nat → Int32) (C C1 : Nat → Nat → Int32) (s : jBd) (li pa : Int32) : Prop := ∃ pl A N M R D, Pa C C1 0 pl s.1.1 s.1.2 A N M R D li pa ∧ (∀ p, p < s.1.1 → A p = s.2.1 p) ∧ (∀ c, c < s.1.2 → N c = s.2.2 (4 * c) ∧ M c = s.2.2 (4 * c + 1) ∧ R c = s.2.2 (4 * c + 2) ∧ D c = s.2.2 (4 * c + 3)) ∧ SOk A0 T0 s
theorem ff_stop {f : Nat → Int32} {n : Nat} {w : Int32} (h : ¬ w = -9) : ∀ k P K a, ffF f n k w P K a = w
  | 0, _, _, _ => rfl
  | k + 1, P, K, a => by
    unfold ffF
    rw [pick_t (Or.inl h)]
theorem bd_end {f : Nat → Int32} {n a : Nat} {s : jBd} (h : n ≤ a) : ∀ k, bdF f n k a s = s
  | 0 => rfl
  | k + 1 => by
    unfold bdF
    rw [if_pos h]
theorem Sv.post {T Am : Nat → Int32} {P K a : Nat} (s : Sv T Am P K) (hP : P < 4) (ha : 1 ≤ a ∧ a ≤ 9) : Sv T (upd Am P (nI a)) (P + 1) K := by
  refine ⟨⟨by omega, s.1.2⟩, fun p hp => ?_, s.2.2⟩
  by_cases g : p = P
  · subst g
    exact ⟨a, ha, upd_eq⟩
  · rw [upd_ne g]
    exact s.2.1 p (by omega)
theorem carT_at {f T : Nat → Int32} {n a K i : Nat} : carT f n a K T i = if i = 4 * K + 3 then dF f n (nI (a + 5)) else if i = 4 * K + 2 then dF f n (nI (a + 4)) else if i = 4 * K + 1 then dF f n (nI (a + 3)) else if i = 4 * K then 10 * dF f n (nI (a + 1)) + dF f n (nI (a + 2)) else T i := rfl
theorem lp_read {Q : jQ} {C : Nat → Nat → Int32} {z : Nat → Int64} {nb n : Nat} {li pa : Int32} {A0 T0 : Nat → Int32} (t : TX C n) :
    ∀ kf a (s : jBd) C1, Good A0 T0 C C1 s li pa → n ≤ a + 2 * kf → a ≤ n → (∀ C' (w : Int32), w = ffF (C 2) n kf (-9) s.1.1 s.1.2 a → Ev C C' → (w = -9 → Good A0 T0 C C' (bdF (C 2) n (10 - s.1.1 - s.1.2) a s) li pa) → Q (some (.int w)) (memS 94 C' z)) → Rn Y_X7_readText none Q 48 [some (.ref 71), some (.int (nI a))] [] (memS 94 C1 z) (nb, 0, 0) := by
  have h70 := t.1.2
  have fin : ∀ kf a (s : jBd) C1, Good A0 T0 C C1 s li pa → a = n → (∀ C' (w : Int32), w = ffF (C 2) n kf (-9) s.1.1 s.1.2 a → Ev C C' → (w = -9 → Good A0 T0 C C' (bdF (C 2) n (10 - s.1.1 - s.1.2) a s) li pa) → Q (some (.int w)) (memS 94 C' z)) → Rn Y_X7_readText none Q 48 [some (.ref 71), some (.int (nI a))] [] (memS 94 C1 z) (nb, 0, 0) := fun kf a s C1 h ha hQ => by
    have h' := h
    obtain ⟨pl, A, N, M, R, D, p, -, -, -⟩ := h
    refine sp_end t ha p (fun _ => hQ C1 (-9) ?_ p.1 fun _ => ?_) fun g => absurd rfl g
    · cases kf with
      | zero => rfl
      | succ k =>
        unfold ffF
        rw [pick_t (Or.inr (by omega))]
    · rw [bd_end (by omega)]
      exact h'
  intro kf
  induction kf with
  | zero =>
    intro a s C1 h h1 h2 hQ
    exact fin 0 a s C1 h (by omega) hQ
  | succ k ih =>
    intro a s C1 h h1 h2 hQ
    by_cases han : a = n
    · exact fin (k + 1) a s C1 h han hQ
    · obtain ⟨⟨P, K⟩, Am, T⟩ := s
      obtain ⟨pl, A, N, M, R, D, p, hA, hC, ok⟩ := h
      have ok1 : Sv T Am P K := ok.1
      have ok2 : ∀ p, P ≤ p → Am p = A0 p := ok.2.1
      have ok3 : ∀ i, 4 * K ≤ i → T i = T0 i := ok.2.2
      have hA : ∀ p, p < P → A p = Am p := hA
      have hC : ∀ c, c < K → N c = T (4 * c) ∧ M c = T (4 * c + 1) ∧ R c = T (4 * c + 2) ∧ D c = T (4 * c + 3) := hC
      have hP4 := ok1.h4
      have hK6 := ok1.h6
      have eb : byteF (C 2) (nI n) (nI a) = C 2 a := byte_at (by omega) h70
      have na9 : ∀ j, j < 100 → ¬ nI j = -9 := fun j hj => nI_n9 (by omega)
      have hna : ¬ (¬ (-9 : Int32) = -9 ∨ n ≤ a) := by rintro (q | q); exact q rfl; omega
      have hQ : ∀ C' (w : Int32), w = ffF (C 2) n (k + 1) (-9) P K a → Ev C C' → (w = -9 → Good A0 T0 C C' (bdF (C 2) n (10 - P - K) a ((P, K), Am, T)) li pa) → Q (some (.int w)) (memS 94 C' z) := hQ
      refine sp_0 t (by omega) p hP4 hK6 (fun g C2 p2 => ?_) fun g C2 v2 => hQ C2 _ ?_ v2 fun q => absurd q (na9 a (by omega))
      · by_cases g1 : C 2 a = 112
        · have gP : P < 4 := by
            rcases g with g | g
            · exact g.2
            · rw [g1] at g; exact absurd g.1 (by decide)
          rw [g1] at p2
          have ef : ffF (C 2) n (k + 1) (-9) P K a = ffF (C 2) n k (pick (dgF (C 2) (nI n) (nI (a + 1)) 1 9) (-9) (nI (a + 1))) (P + 1) K (a + 2) := by
            rw [← nI_1]
            show pick _ _ _ = _
            rw [pick_f hna, eb, pick_t ⟨g1, gP⟩]
          by_cases e1 : a + 1 = n
          · refine sp_end t e1 p2 (fun q => absurd q (by decide)) fun _ C3 v3 => hQ C3 _ ?_ v3 fun q => absurd q (na9 _ (by omega))
            rw [ef, pick_f (dg_no (by omega) (by omega) (by decide)), ff_stop (na9 _ (by omega))]
          refine sp_112 t (by omega) p2 gP (fun g3 C3 p3 => ?_) fun g3 C3 v3 => hQ C3 _ ?_ v3 fun q => absurd q (na9 _ (by omega))
          · obtain ⟨d, hd, ed⟩ := i32_rng (n := C 2 (a + 1) - 48) (m := 10) (by decide) (fun q => absurd (Int32.lt_of_le_of_lt g3.1 q) (by decide)) fun q => absurd (Int32.le_trans q g3.2) (by decide)
            have hd1 : 1 ≤ d := by
              have := g3.1
              rw [ed, show (1 : Int32) = nI 1 from rfl, nI_leq (by omega) (by omega)] at this
              exact this
            have edF : dF (C 2) n (nI (a + 1)) = nI d := by
              unfold dF
              rw [byte_at (by omega) h70, ed]
            have bstep : bdF (C 2) n (10 - P - K) a ((P, K), Am, T) = bdF (C 2) n (10 - (P + 1) - K) (a + 2) ((P + 1, K), upd Am P (nI d), T) := by
              rw [show 10 - P - K = (10 - (P + 1) - K) + 1 by omega]
              show (if n ≤ a then _ else _) = _
              rw [if_neg (by omega), eb, if_pos g1]
              show bdF _ _ _ _ (if P < 4 then _ else _) = _
              rw [if_pos gP, edF]
            rw [ed] at p3
            refine ih (a + 2) ((P + 1, K), upd Am P (nI d), T) C3 ⟨_, _, _, _, _, _, p3, fun q hq => ?_, hC, ok1.post gP ⟨hd1, by omega⟩, fun q hq => ?_, ok3⟩ (by omega) (by omega) fun C' w hw v' hg => hQ C' w ?_ v' fun q => ?_
            · show upd A P (nI d) q = upd Am P (nI d) q
              have hq : q < P + 1 := hq
              by_cases e : q = P
              · subst e; rw [upd_eq, upd_eq]
              · rw [upd_ne e, upd_ne e]; exact hA q (by omega)
            · have hq : P + 1 ≤ q := hq
              show upd Am P (nI d) q = _
              rw [upd_ne (by omega)]
              exact ok2 q (by omega)
            · rw [ef, pick_t (by rw [dg_at (by omega) h70]; exact g3)]
              exact hw
            · rw [bstep]
              exact hg q
          · rw [ef, pick_f (by rw [dg_at (by omega) h70]; exact g3), ff_stop (na9 _ (by omega))]
        · have g2 : C 2 a = 99 ∧ K < 6 := by
            rcases g with g | g
            · exact absurd g.1 g1
            · exact g
          have gK := g2.2
          rw [g2.1] at p2
          have ef : ffF (C 2) n (k + 1) (-9) P K a = ffF (C 2) n k (carFaultF (C 2) (nI n) (nI a)) P (K + 1) (a + 6) := by
            show pick _ _ _ = _
            rw [pick_f hna, eb, pick_f (fun q => g1 q.1), pick_t g2]
          refine sp_car t (by omega) gK p2 (fun cf h6 g3 C3 p3 => ?_) fun w hw hw9 C3 v3 => hQ C3 w ?_ v3 fun q => absurd q hw9
          · obtain ⟨⟨q1, q2, q0⟩, q3, q4, q5⟩ := g3
            have rng : ∀ (x : Int32) m, m < 10 → (0 ≤ x ∧ x ≤ nI m) → ∃ y, y ≤ m ∧ x = nI y := fun x m hm q => by
              obtain ⟨y, hy, e⟩ := i32_rng (n := x) (m := m + 1) (by omega) (Int32.not_lt.mpr q.1) fun w => by
                have := Int32.le_trans w q.2
                rw [nI_leq (by omega) (by omega)] at this
                omega
              exact ⟨y, by omega, e⟩
            obtain ⟨y1, hy1, e1⟩ := rng _ 9 (by decide) q1
            obtain ⟨y2, hy2, e2⟩ := rng _ 9 (by decide) q2
            obtain ⟨y3, hy3, e3⟩ := rng _ 9 (by decide) ⟨Int32.le_trans (by decide) q3.1, q3.2⟩
            obtain ⟨y4, hy4, e4⟩ := rng _ 9 (by decide) q4
            obtain ⟨y5, hy5, e5⟩ := rng _ 2 (by decide) q5
            have edF : ∀ j, j < 6 → dF (C 2) n (nI (a + j)) = C 2 (a + j) - 48 := fun j hj => by
              unfold dF
              rw [byte_at (by omega) h70]
            have en : 10 * nI y1 + nI y2 = nI (10 * y1 + y2) := by rw [show (10 : Int32) = nI 10 from rfl, nI_mul (by omega) (by omega) (by omega), nI_add]
            rw [e1, e2, en] at q0
            have hn0 : 1 ≤ 10 * y1 + y2 := by
              rw [show (0 : Int32) = nI 0 from rfl, nI_ltq (by omega) (by omega)] at q0
              exact q0
            have hm1 : 1 ≤ y3 := by
              have := q3.1
              rw [e3, show (1 : Int32) = nI 1 from rfl, nI_leq (by omega) (by omega)] at this
              exact this
            have eT : ∀ i, carT (C 2) n a K T i = if i = 4 * K + 3 then nI y5 else if i = 4 * K + 2 then nI y4 else if i = 4 * K + 1 then nI y3 else if i = 4 * K then nI (10 * y1 + y2) else T i := fun i => by
              rw [carT_at, edF 1 (by omega), edF 2 (by omega), edF 3 (by omega), edF 4 (by omega), edF 5 (by omega), e1, e2, e3, e4, e5, en]
            have bstep : bdF (C 2) n (10 - P - K) a ((P, K), Am, T) = bdF (C 2) n (10 - P - (K + 1)) (a + 6) ((P, K + 1), Am, carT (C 2) n a K T) := by
              rw [show 10 - P - K = (10 - P - (K + 1)) + 1 by omega]
              show (if n ≤ a then _ else _) = _
              rw [if_neg (by omega), eb, if_neg g1]
              show bdF _ _ _ _ (if K < 6 then _ else _) = _
              rw [if_pos gK]
            rw [e1, e2, e3, e4, e5, en] at p3
            refine ih (a + 6) ((P, K + 1), Am, carT (C 2) n a K T) C3 ⟨_, _, _, _, _, _, p3, hA, fun c hc => ?_, ⟨⟨hP4, show K + 1 ≤ 6 by omega⟩, ok1.2.1, fun c hc => ?_⟩, ok2, fun i hi => ?_⟩ (by omega) (by omega) fun C' w hw v' hg => hQ C' w ?_ v' fun q => ?_
            · have hc : c < K + 1 := hc
              show upd N K _ c = carT (C 2) n a K T (4 * c) ∧ upd M K _ c = carT (C 2) n a K T (4 * c + 1) ∧ upd R K _ c = carT (C 2) n a K T (4 * c + 2) ∧ upd D K _ c = carT (C 2) n a K T (4 * c + 3)
              rw [eT, eT, eT, eT]
              by_cases e : c = K
              · subst e
                rw [upd_eq, upd_eq, upd_eq, upd_eq, if_neg (by omega), if_neg (by omega), if_neg (by omega), if_pos rfl, if_neg (by omega), if_neg (by omega), if_pos rfl, if_neg (by omega), if_pos rfl, if_pos rfl]
                exact ⟨rfl, rfl, rfl, rfl⟩
              · rw [upd_ne e, upd_ne e, upd_ne e, upd_ne e, if_neg (by omega), if_neg (by omega), if_neg (by omega), if_neg (by omega), if_neg (by omega), if_neg (by omega), if_neg (by omega), if_neg (by omega), if_neg (by omega), if_neg (by omega), if_neg (by omega), if_neg (by omega), if_neg (by omega), if_neg (by omega), if_neg (by omega), if_neg (by omega)]
                exact hC c (by omega)
            · have hc : c < K + 1 := hc
              show ∃ n' m r k', ((1 ≤ n' ∧ n' ≤ 99) ∧ (1 ≤ m ∧ m ≤ 9) ∧ r ≤ 9 ∧ k' ≤ 2) ∧ carT (C 2) n a K T (4 * c) = nI n' ∧ carT (C 2) n a K T (4 * c + 1) = nI m ∧ carT (C 2) n a K T (4 * c + 2) = nI r ∧ carT (C 2) n a K T (4 * c + 3) = nI k'
              rw [eT, eT, eT, eT]
              by_cases e : c = K
              · subst e
                rw [if_neg (by omega), if_neg (by omega), if_neg (by omega), if_pos rfl, if_neg (by omega), if_neg (by omega), if_pos rfl, if_neg (by omega), if_pos rfl, if_pos rfl]
                exact ⟨10 * y1 + y2, y3, y4, y5, ⟨⟨hn0, by omega⟩, ⟨hm1, hy3⟩, hy4, hy5⟩, rfl, rfl, rfl, rfl⟩
              · rw [if_neg (by omega), if_neg (by omega), if_neg (by omega), if_neg (by omega), if_neg (by omega), if_neg (by omega), if_neg (by omega), if_neg (by omega), if_neg (by omega), if_neg (by omega), if_neg (by omega), if_neg (by omega), if_neg (by omega), if_neg (by omega), if_neg (by omega), if_neg (by omega)]
                exact ok1.2.2 c (by omega)
            · have hi : 4 * (K + 1) ≤ i := hi
              show carT (C 2) n a K T i = _
              rw [eT, if_neg (by omega), if_neg (by omega), if_neg (by omega), if_neg (by omega)]
              exact ok3 i (by omega)
            · rw [ef, cf]
              exact hw
            · rw [bstep]
              exact hg q
          · rw [ef, ← hw, ff_stop hw9]
      · show nI a = pick _ _ _
        rw [pick_f hna, eb, pick_f (fun q => g (Or.inl q)), pick_f (fun q => g (Or.inr q)), ff_stop (na9 _ (by omega))]
/-! the whole text -/
def S_X7_readText : jSp := fun _ vs mem Q => ∃ C C1 z n, ∃ A0 T0 : Nat → Int32, vs = [.ref 71] ∧ mem = memS 94 C1 z ∧ Ev C C1 ∧ TX C n ∧ ∀ C' w, w = faultA (C 2) n → Ev C C' → (w = -9 → Good A0 T0 C C' (bdF (C 2) n 10 4 ((0, 0), A0, T0)) (10 * dF (C 2) n 1 + dF (C 2) n 2) (dF (C 2) n 3) ∧ (∃ v, v ≤ 99 ∧ 10 * dF (C 2) n 1 + dF (C 2) n 2 = nI v)) → Q (some (.int w)) (memS 94 C' z)
theorem ok_X7_readText : jMeets Y_X7_readText S_X7_readText := by
  intro nb vs mem Q h
  obtain ⟨C, C1, z, n, A0, T0, rfl, rfl, v, t, hQ⟩ := h
  have h70 := t.1.2
  have na9 : ∀ j, j < 100 → ¬ nI j = -9 := fun j hj => nI_n9 (by omega)
  have e1 : C1 71 1 = nI n := by rw [v.fld 1 rfl]; exact t.1.1
  refine Ok.run OK_X7_readText [48] 60 [none] pn7 (Nat.le_of_ble_eq_true rfl) rfl ?_
  have w0 : ∀ (g : Nat → Int32), g = upd (upd (upd (upd (upd (C1 71) 28 0) 30 0) 32 0) 37 70) 38 0 → Ev C (hrow C1 71 g) ∧ g 1 = nI n := fun g hg => by
    subst hg
    refine ⟨v.g71 fun i hi => ?_, ?_⟩
    · have := vF_n hi
      rw [upd_ne (by omega), upd_ne (by omega), upd_ne (by omega), upd_ne (by omega), upd_ne (by omega)]
    · rw [upd_ne (by decide), upd_ne (by decide), upd_ne (by decide), upd_ne (by decide), upd_ne (by decide)]
      exact e1
  obtain ⟨v2, e1'⟩ := w0 _ rfl
  have fA : faultA (C 2) n = ffF (C 2) n 70 (headF (C 2) (nI n)) 0 0 4 := rfl
  by_cases h0 : n = 0
  · have b0 : (nI n = 0) = True := eq_true (by rw [h0]; rfl)
    simp -implicitDefEqProofs only [jr_0, jr_1, jr_2, j_iconst, j_lconst, j_iload0, j_aload0, j_istore0, j_astore0, j_iinc0, j_iload1, j_aload1, j_istore1, j_astore1, j_iinc1, j_iload2, j_aload2, j_istore2, j_astore2, j_iinc2, j_iload3, j_aload3, j_istore3, j_astore3, j_iinc3, j_iload4, j_aload4, j_istore4, j_astore4, j_iinc4, j_iload5, j_aload5, j_istore5, j_astore5, j_iinc5, j_iload6, j_aload6, j_istore6, j_astore6, j_iinc6, j_iload7, j_aload7, j_istore7, j_astore7, j_iinc7, j_iload8, j_aload8, j_istore8, j_astore8, j_iinc8, j_iadd, j_isub, j_imul, j_iand, j_ior, j_ixor, j_ishl, j_ishr, j_iushr, j_idiv, j_irem, j_ineg, j_ladd, j_lmul, j_land, j_lor, j_lcmp, j_lushr, j_lshl, j_i2l, j_l2i, j_dupI, j_dupR, j_popI, j_dup2, j_ifeq, j_iceq, j_ifne, j_icne, j_iflt, j_iclt, j_ifge, j_icge, j_ifgt, j_icgt, j_ifle, j_icle, j_goto, j_tsw, j_sw0, j_sw1, j_ireturn, j_zreturn, j_lreturn, j_return, j_getfield, j_putI, j_putJ, j_putR, j_iaload, j_baload, j_iastore, j_bastore, j_aaload, j_q, j_aastore, j_acopy, j_mmin, j_mmax, j_mabs, j_objinit, j_new, j_newI, j_newQ, j_sld, j_slen, j_callV0, j_callI0, j_callS0, j_callV1, j_callI1, j_callS1, j_callV2, j_callI2, j_callS2, j_callV3, j_callS3, j_callV4, j_callS4, j_callV5, j_callS5, j_pushS, j_pushN, j_sh0, j_sh1, j_sh2, j_sh3, j_sh4, Int32.reduceAdd, Int32.reduceMul, Int32.reduceSub, Int32.reduceLT, Int32.reduceLE, eq_self, i32_10, i32_01, ne_eq, hrow_s, hrow_n, ne10, ne100, ne1000, ne7, ne4, ne14, ne9973, or_true, true_or, or_false, false_or, not_true_eq_false, not_false_eq_true, false_implies, implies_true, and_true, forall_const, true_implies, jargs_n, jargs_r, jargs_i, List.cons_append, List.nil_append, true_and, Nat.reduceEqDiff, reduceIte, ft_X7_readText_0, ft_X7_readText_1, ft_X7_readText_2, ft_X7_readText_5, ft_X7_readText_6, ft_X7_readText_7, ft_X7_readText_10, ft_X7_readText_11, ft_X7_readText_12, ft_X7_readText_15, ft_X7_readText_16, ft_X7_readText_18, ft_X7_readText_21, ft_X7_readText_22, ft_X7_readText_23, ft_X7_readText_26, ft_X7_readText_27, ft_X7_readText_30, ft_X7_readText_33, ft_X7_readText_34, ft_X7_readText_37, ft_X7_readText_38, ft_X7_readText_39, ft_X7_readText_41, ft_X7_readText_44, ft_X7_readText_45, ft_X7_readText_46, ft_X7_readText_47, ft_X7_readText_48, ft_X7_readText_49, ft_X7_readText_50, ft_X7_readText_53, ft_X7_readText_56, ft_X7_readText_57, ft_X7_readText_58, ft_X7_readText_61, ft_X7_readText_62, ft_X7_readText_63, ft_X7_readText_66, ft_X7_readText_69, ft_X7_readText_70, ft_X7_readText_71, ft_X7_readText_74, ft_X7_readText_77, ft_X7_readText_78, ft_X7_readText_81, ft_X7_readText_84, ft_X7_readText_86, ft_X7_readText_89, ft_X7_readText_90, ft_X7_readText_93, fp_71_28, fp_71_30, fp_71_32, fp_71_37, fp_71_38, fl_71_1, hrow_hrow, e1', b0]
    refine hQ _ 0 ?_ v2 fun q => absurd q (by decide)
    have : headF (C 2) (nI n) = 0 := by
      unfold headF
      rw [pick_f]
      rw [show (0 : Int32) = nI 0 from rfl, byte_no (by omega) (by decide)]
      decide
    rw [fA, this, ff_stop (by decide)]
  · have b0 : (nI n = 0) = False := eq_false (by rw [show (0 : Int32) = nI 0 from rfl, nI_eqq (by omega) (by omega)]; exact h0)
    have hb0 : byteF (C 2) (nI n) 0 = C 2 0 := byte_at (i := 0) (by omega) h70
    have e72 : ∀ g, hrow C1 71 g 72 0 = C 2 0 := fun g => by rw [hrow_n (by decide), v.row 72 rfl]; exact (t.2 0 (by omega)).1
    have v0 : vp_in (0 : Int32) 70 := vp_in_nI (n := 0) (by decide) (by decide)
    by_cases h1 : C 2 0 = 70
    · simp -implicitDefEqProofs only [jr_0, jr_1, jr_2, j_iconst, j_lconst, j_iload0, j_aload0, j_istore0, j_astore0, j_iinc0, j_iload1, j_aload1, j_istore1, j_astore1, j_iinc1, j_iload2, j_aload2, j_istore2, j_astore2, j_iinc2, j_iload3, j_aload3, j_istore3, j_astore3, j_iinc3, j_iload4, j_aload4, j_istore4, j_astore4, j_iinc4, j_iload5, j_aload5, j_istore5, j_astore5, j_iinc5, j_iload6, j_aload6, j_istore6, j_astore6, j_iinc6, j_iload7, j_aload7, j_istore7, j_astore7, j_iinc7, j_iload8, j_aload8, j_istore8, j_astore8, j_iinc8, j_iadd, j_isub, j_imul, j_iand, j_ior, j_ixor, j_ishl, j_ishr, j_iushr, j_idiv, j_irem, j_ineg, j_ladd, j_lmul, j_land, j_lor, j_lcmp, j_lushr, j_lshl, j_i2l, j_l2i, j_dupI, j_dupR, j_popI, j_dup2, j_ifeq, j_iceq, j_ifne, j_icne, j_iflt, j_iclt, j_ifge, j_icge, j_ifgt, j_icgt, j_ifle, j_icle, j_goto, j_tsw, j_sw0, j_sw1, j_ireturn, j_zreturn, j_lreturn, j_return, j_getfield, j_putI, j_putJ, j_putR, j_iaload, j_baload, j_iastore, j_bastore, j_aaload, j_q, j_aastore, j_acopy, j_mmin, j_mmax, j_mabs, j_objinit, j_new, j_newI, j_newQ, j_sld, j_slen, j_callV0, j_callI0, j_callS0, j_callV1, j_callI1, j_callS1, j_callV2, j_callI2, j_callS2, j_callV3, j_callS3, j_callV4, j_callS4, j_callV5, j_callS5, j_pushS, j_pushN, j_sh0, j_sh1, j_sh2, j_sh3, j_sh4, Int32.reduceAdd, Int32.reduceMul, Int32.reduceSub, Int32.reduceLT, Int32.reduceLE, eq_self, i32_10, i32_01, ne_eq, hrow_s, hrow_n, ne10, ne100, ne1000, ne7, ne4, ne14, ne9973, or_true, true_or, or_false, false_or, not_true_eq_false, not_false_eq_true, false_implies, implies_true, and_true, forall_const, true_implies, jargs_n, jargs_r, jargs_i, List.cons_append, List.nil_append, true_and, Nat.reduceEqDiff, reduceIte, ft_X7_readText_0, ft_X7_readText_1, ft_X7_readText_2, ft_X7_readText_5, ft_X7_readText_6, ft_X7_readText_7, ft_X7_readText_10, ft_X7_readText_11, ft_X7_readText_12, ft_X7_readText_15, ft_X7_readText_16, ft_X7_readText_18, ft_X7_readText_21, ft_X7_readText_22, ft_X7_readText_23, ft_X7_readText_26, ft_X7_readText_27, ft_X7_readText_30, ft_X7_readText_33, ft_X7_readText_34, ft_X7_readText_37, ft_X7_readText_38, ft_X7_readText_39, ft_X7_readText_41, ft_X7_readText_44, ft_X7_readText_45, ft_X7_readText_46, ft_X7_readText_47, ft_X7_readText_48, ft_X7_readText_49, ft_X7_readText_50, ft_X7_readText_53, ft_X7_readText_56, ft_X7_readText_57, ft_X7_readText_58, ft_X7_readText_61, ft_X7_readText_62, ft_X7_readText_63, ft_X7_readText_66, ft_X7_readText_69, ft_X7_readText_70, ft_X7_readText_71, ft_X7_readText_74, ft_X7_readText_77, ft_X7_readText_78, ft_X7_readText_81, ft_X7_readText_84, ft_X7_readText_86, ft_X7_readText_89, ft_X7_readText_90, ft_X7_readText_93, fp_71_28, fp_71_30, fp_71_32, fp_71_37, fp_71_38, fl_71_0, fl_71_1, al_72, hrow_hrow, e1', b0, v0, show (0 : Int32).toNatClampNeg = 0 from rfl, e72, h1]
      have p : Pa C (hrow C1 71 (upd (upd (upd (upd (upd (C1 71) 28 0) 30 0) 32 0) 37 70) 38 0)) 70 0 0 0 (C1 89) (C1 90) (C1 91) (C1 92) (C1 93) 0 (C1 71 29) := by
        refine ⟨v2, ⟨?_, ?_⟩, ⟨?_, ?_⟩, ⟨?_, ?_, ?_, ?_, ?_⟩, ?_, ?_⟩
        all_goals first | (simp [hrow, upd]; done) | (simp [hrow, upd]; rfl)
      have hd : ∀ w, w = headF (C 2) (nI n) → ¬ w = -9 → faultA (C 2) n = w := fun w hw h9 => by
        rw [fA, ← hw, ff_stop h9]
      have hH : headF (C 2) (nI n) = pick (dgF (C 2) (nI n) (nI 1) 0 9) (pick (dgF (C 2) (nI n) (nI 2) 0 9) (pick (dgF (C 2) (nI n) (nI 3) 1 9) (-9) 3) 2) 1 := by
        unfold headF
        rw [hb0, pick_t h1]
        rfl
      show Rn Y_X7_readText none Q 48 [some (.ref 71), some (.int (nI 1))] [] _ (nb, 0, 0)
      by_cases n1 : 1 = n
      · refine sp_end t n1 p (fun q => absurd q (by decide)) fun _ C3 v3 => hQ C3 _ (hd _ ?_ (na9 1 (by decide))).symm v3 fun q => absurd q (na9 1 (by decide))
        rw [hH, pick_f (dg_no (by omega) (by decide) (by decide))]
        rfl
      refine sp_70_0 t (by omega) p (fun g1 C2 p2 => ?_) fun g1 C3 v3 => hQ C3 _ (hd _ ?_ (na9 1 (by decide))).symm v3 fun q => absurd q (na9 1 (by decide))
      rotate_left
      · rw [hH, pick_f (by rw [dg_at (by omega) h70]; exact g1)]
        rfl
      have d1 : dgF (C 2) (nI n) (nI 1) 0 9 := by rw [dg_at (by omega) h70]; exact g1
      by_cases n2 : 2 = n
      · refine sp_end t n2 p2 (fun q => absurd q (by decide)) fun _ C3 v3 => hQ C3 _ (hd _ ?_ (na9 2 (by decide))).symm v3 fun q => absurd q (na9 2 (by decide))
        rw [hH, pick_t d1, pick_f (dg_no (by omega) (by decide) (by decide))]
        rfl
      refine sp_70_1 t (by omega) p2 (fun g2 C3 p3 => ?_) fun g2 C3 v3 => hQ C3 _ (hd _ ?_ (na9 2 (by decide))).symm v3 fun q => absurd q (na9 2 (by decide))
      rotate_left
      · rw [hH, pick_t d1, pick_f (by rw [dg_at (by omega) h70]; exact g2)]
        rfl
      have d2 : dgF (C 2) (nI n) (nI 2) 0 9 := by rw [dg_at (by omega) h70]; exact g2
      by_cases n3 : 3 = n
      · refine sp_end t n3 p3 (fun q => absurd q (by decide)) fun _ C3 v3 => hQ C3 _ (hd _ ?_ (na9 3 (by decide))).symm v3 fun q => absurd q (na9 3 (by decide))
        rw [hH, pick_t d1, pick_t d2, pick_f (dg_no (by omega) (by decide) (by decide))]
        rfl
      refine sp_70_2 t (by omega) p3 (fun g3 C4 p4 => ?_) fun g3 C3 v3 => hQ C3 _ (hd _ ?_ (na9 3 (by decide))).symm v3 fun q => absurd q (na9 3 (by decide))
      rotate_left
      · rw [hH, pick_t d1, pick_t d2, pick_f (by rw [dg_at (by omega) h70]; exact g3)]
        rfl
      have d3 : dgF (C 2) (nI n) (nI 3) 1 9 := by rw [dg_at (by omega) h70]; exact g3
      have x1 : dF (C 2) n 1 = C 2 1 - 48 := by unfold dF; rw [show (1 : Int32) = nI 1 from rfl, byte_at (by omega) h70]
      have x2 : dF (C 2) n 2 = C 2 2 - 48 := by unfold dF; rw [show (2 : Int32) = nI 2 from rfl, byte_at (by omega) h70]
      have x3 : dF (C 2) n 3 = C 2 3 - 48 := by unfold dF; rw [show (3 : Int32) = nI 3 from rfl, byte_at (by omega) h70]
      have el : (10 * (10 * 0 + (C 2 1 - 48)) + (C 2 (1 + 1) - 48) : Int32) = 10 * dF (C 2) n 1 + dF (C 2) n 2 := by
        rw [x1, x2, show (10 : Int32) * 0 = 0 from rfl, Int32.zero_add]
      have p4 : Pa C C4 0 3 0 0 (C1 89) (C1 90) (C1 91) (C1 92) (C1 93) (10 * dF (C 2) n 1 + dF (C 2) n 2) (dF (C 2) n 3) := by
        rw [← el, x3]
        exact p4
      have hhead : headF (C 2) (nI n) = -9 := by rw [hH, pick_t d1, pick_t d2, pick_t d3]
      have lim : ∃ v, v ≤ 99 ∧ 10 * dF (C 2) n 1 + dF (C 2) n 2 = nI v := by
        have g2 : 0 ≤ C 2 2 - 48 ∧ C 2 2 - 48 ≤ 9 := g2
        obtain ⟨y1, hy1, f1⟩ := i32_rng (n := C 2 1 - 48) (m := 10) (by decide) (Int32.not_lt.mpr g1.1) fun q => absurd (Int32.le_trans q g1.2) (by decide)
        obtain ⟨y2, hy2, f2⟩ := i32_rng (n := C 2 2 - 48) (m := 10) (by decide) (Int32.not_lt.mpr g2.1) fun q => absurd (Int32.le_trans q g2.2) (by decide)
        refine ⟨10 * y1 + y2, by omega, ?_⟩
        rw [x1, x2, f1, f2, show (10 : Int32) = nI 10 from rfl, nI_mul (by omega) (by omega) (by omega), nI_add]
      refine lp_read t 70 4 ((0, 0), A0, T0) C4 ⟨_, _, _, _, _, _, p4, fun q hq => absurd hq (Nat.not_lt_zero q), fun q hq => absurd hq (Nat.not_lt_zero q), ⟨⟨show 0 ≤ 4 by decide, show 0 ≤ 6 by decide⟩, fun q hq => absurd hq (Nat.not_lt_zero q), fun q hq => absurd hq (Nat.not_lt_zero q)⟩, fun _ _ => rfl, fun _ _ => rfl⟩ (by omega) (by omega) fun C' w hw v' hg => hQ C' w ?_ v' fun q => ⟨hg q, lim⟩
      rw [fA, hhead]
      exact hw
    · simp -implicitDefEqProofs only [jr_0, jr_1, jr_2, j_iconst, j_lconst, j_iload0, j_aload0, j_istore0, j_astore0, j_iinc0, j_iload1, j_aload1, j_istore1, j_astore1, j_iinc1, j_iload2, j_aload2, j_istore2, j_astore2, j_iinc2, j_iload3, j_aload3, j_istore3, j_astore3, j_iinc3, j_iload4, j_aload4, j_istore4, j_astore4, j_iinc4, j_iload5, j_aload5, j_istore5, j_astore5, j_iinc5, j_iload6, j_aload6, j_istore6, j_astore6, j_iinc6, j_iload7, j_aload7, j_istore7, j_astore7, j_iinc7, j_iload8, j_aload8, j_istore8, j_astore8, j_iinc8, j_iadd, j_isub, j_imul, j_iand, j_ior, j_ixor, j_ishl, j_ishr, j_iushr, j_idiv, j_irem, j_ineg, j_ladd, j_lmul, j_land, j_lor, j_lcmp, j_lushr, j_lshl, j_i2l, j_l2i, j_dupI, j_dupR, j_popI, j_dup2, j_ifeq, j_iceq, j_ifne, j_icne, j_iflt, j_iclt, j_ifge, j_icge, j_ifgt, j_icgt, j_ifle, j_icle, j_goto, j_tsw, j_sw0, j_sw1, j_ireturn, j_zreturn, j_lreturn, j_return, j_getfield, j_putI, j_putJ, j_putR, j_iaload, j_baload, j_iastore, j_bastore, j_aaload, j_q, j_aastore, j_acopy, j_mmin, j_mmax, j_mabs, j_objinit, j_new, j_newI, j_newQ, j_sld, j_slen, j_callV0, j_callI0, j_callS0, j_callV1, j_callI1, j_callS1, j_callV2, j_callI2, j_callS2, j_callV3, j_callS3, j_callV4, j_callS4, j_callV5, j_callS5, j_pushS, j_pushN, j_sh0, j_sh1, j_sh2, j_sh3, j_sh4, Int32.reduceAdd, Int32.reduceMul, Int32.reduceSub, Int32.reduceLT, Int32.reduceLE, eq_self, i32_10, i32_01, ne_eq, hrow_s, hrow_n, ne10, ne100, ne1000, ne7, ne4, ne14, ne9973, or_true, true_or, or_false, false_or, not_true_eq_false, not_false_eq_true, false_implies, implies_true, and_true, forall_const, true_implies, jargs_n, jargs_r, jargs_i, List.cons_append, List.nil_append, true_and, Nat.reduceEqDiff, reduceIte, ft_X7_readText_0, ft_X7_readText_1, ft_X7_readText_2, ft_X7_readText_5, ft_X7_readText_6, ft_X7_readText_7, ft_X7_readText_10, ft_X7_readText_11, ft_X7_readText_12, ft_X7_readText_15, ft_X7_readText_16, ft_X7_readText_18, ft_X7_readText_21, ft_X7_readText_22, ft_X7_readText_23, ft_X7_readText_26, ft_X7_readText_27, ft_X7_readText_30, ft_X7_readText_33, ft_X7_readText_34, ft_X7_readText_37, ft_X7_readText_38, ft_X7_readText_39, ft_X7_readText_41, ft_X7_readText_44, ft_X7_readText_45, ft_X7_readText_46, ft_X7_readText_47, ft_X7_readText_48, ft_X7_readText_49, ft_X7_readText_50, ft_X7_readText_53, ft_X7_readText_56, ft_X7_readText_57, ft_X7_readText_58, ft_X7_readText_61, ft_X7_readText_62, ft_X7_readText_63, ft_X7_readText_66, ft_X7_readText_69, ft_X7_readText_70, ft_X7_readText_71, ft_X7_readText_74, ft_X7_readText_77, ft_X7_readText_78, ft_X7_readText_81, ft_X7_readText_84, ft_X7_readText_86, ft_X7_readText_89, ft_X7_readText_90, ft_X7_readText_93, fp_71_28, fp_71_30, fp_71_32, fp_71_37, fp_71_38, fl_71_0, fl_71_1, al_72, hrow_hrow, e1', b0, v0, show (0 : Int32).toNatClampNeg = 0 from rfl, e72, h1]
      refine hQ _ 0 ?_ v2 fun q => absurd q (by decide)
      have : headF (C 2) (nI n) = 0 := by
        unfold headF
        rw [pick_f]
        rw [hb0]
        exact h1
      rw [fA, this, ff_stop (by decide)]
theorem s_X7_readText {nb n : Nat} (A0 T0 : Nat → Int32) {C C1 : Nat → Nat → Int32} {z : Nat → Int64} {Q : jQ} (v : Ev C C1) (t : TX C n) (hQ : ∀ C' w, w = faultA (C 2) n → Ev C C' → (w = -9 → Good A0 T0 C C' (bdF (C 2) n 10 4 ((0, 0), A0, T0)) (10 * dF (C 2) n 1 + dF (C 2) n 2) (dF (C 2) n 3) ∧ (∃ v, v ≤ 99 ∧ 10 * dF (C 2) n 1 + dF (C 2) n 2 = nI v)) → Q (some (.int w)) (memS 94 C' z)) : S_X7_readText nb [.ref 71] (memS 94 C1 z) Q := ⟨C, C1, z, n, A0, T0, rfl, rfl, v, t, hQ⟩
def F_X7_fault_0 : Nat → jT := fun pc => (bif Nat.blt pc 1 then (bif Nat.beq pc 0 then J_aload 0 1 else jbad) else (bif Nat.blt pc 4 then (bif Nat.beq pc 1 then J_callV 7 S_X7_readText 0 4 else jbad) else (bif Nat.beq pc 4 then J_ireturn 0 0 else jbad)))
theorem ftl_X7_fault_0 : F_X7_fault_0 0 = J_aload 0 1 := rfl
theorem ftl_X7_fault_1 : F_X7_fault_0 1 = J_callV 7 S_X7_readText 0 4 := rfl
theorem ftl_X7_fault_4 : F_X7_fault_0 4 = J_ireturn 0 0 := rfl
theorem F_X7_fault_0_ok : jOK Y_X7_fault none (F_X7_fault_0) := (jOK_node (jOK_leaf (sn_aload_n dX7_fault_0 rfl rfl)) (jOK_node (jOK_leaf (sn_callV (Y' := Y_X7_readText) ok_X7_readText dX7_fault_1 rfl rfl rfl tw_748 tw_750 tp_26 tw_8 jc_X7_readText rfl ⟨by decide, by decide, rfl⟩ ⟨by decide, by decide⟩)) (jOK_leaf (sn_ireturn dX7_fault_4 rfl rfl))))
def F_X7_fault : Nat → jT := F_X7_fault_0
theorem OK_X7_fault : jOK Y_X7_fault none (F_X7_fault) := F_X7_fault_0_ok
theorem ft_X7_fault_0 : F_X7_fault 0 = J_aload 0 1 := ftl_X7_fault_0
theorem ft_X7_fault_1 : F_X7_fault 1 = J_callV 7 S_X7_readText 0 4 := ftl_X7_fault_1
theorem ft_X7_fault_4 : F_X7_fault 4 = J_ireturn 0 0 := ftl_X7_fault_4
def S_X7_fault : jSp := fun nb vs mem Q => jcs vs ≤ 1 ∧ jrun F_X7_fault [] 20 Q (fun _ _ _ _ _ => False) 0 (jargs vs ++ []) [] mem (nb, 0, 0)
theorem ok_X7_fault : jMeets Y_X7_fault S_X7_fault := fun _ _ _ _ h => Ok.inl OK_X7_fault 20 [] pn7 rfl h
theorem co_fault : Co S_X6_fault S_X7_fault [.ref 0] [.ref 71] := by
  intro n C z h hn
  obtain ⟨P, K, L, nx, ct, sn, h⟩ := h
  obtain ⟨⟨h70, eL, eM⟩, hb⟩ := h.tr
  refine co_ask h (fun nb Q q => s_X6_fault eL h70 (q C (Hv.rf h.ak.2.2.1))) fun nb Q C1 v hq => ⟨Nat.le_of_ble_eq_true rfl, ?_⟩
  simp -implicitDefEqProofs only [jr_0, jr_1, jr_2, j_iconst, j_lconst, j_iload0, j_aload0, j_istore0, j_astore0, j_iinc0, j_iload1, j_aload1, j_istore1, j_astore1, j_iinc1, j_iload2, j_aload2, j_istore2, j_astore2, j_iinc2, j_iload3, j_aload3, j_istore3, j_astore3, j_iinc3, j_iload4, j_aload4, j_istore4, j_astore4, j_iinc4, j_iload5, j_aload5, j_istore5, j_astore5, j_iinc5, j_iload6, j_aload6, j_istore6, j_astore6, j_iinc6, j_iload7, j_aload7, j_istore7, j_astore7, j_iinc7, j_iload8, j_aload8, j_istore8, j_astore8, j_iinc8, j_iadd, j_isub, j_imul, j_iand, j_ior, j_ixor, j_ishl, j_ishr, j_iushr, j_idiv, j_irem, j_ineg, j_ladd, j_lmul, j_land, j_lor, j_lcmp, j_lushr, j_lshl, j_i2l, j_l2i, j_dupI, j_dupR, j_popI, j_dup2, j_ifeq, j_iceq, j_ifne, j_icne, j_iflt, j_iclt, j_ifge, j_icge, j_ifgt, j_icgt, j_ifle, j_icle, j_goto, j_tsw, j_sw0, j_sw1, j_ireturn, j_zreturn, j_lreturn, j_return, j_getfield, j_putI, j_putJ, j_putR, j_iaload, j_baload, j_iastore, j_bastore, j_aaload, j_q, j_aastore, j_acopy, j_mmin, j_mmax, j_mabs, j_objinit, j_new, j_newI, j_newQ, j_sld, j_slen, j_callV0, j_callI0, j_callS0, j_callV1, j_callI1, j_callS1, j_callV2, j_callI2, j_callS2, j_callV3, j_callS3, j_callV4, j_callS4, j_callV5, j_callS5, j_pushS, j_pushN, j_sh0, j_sh1, j_sh2, j_sh3, j_sh4, Int32.reduceAdd, Int32.reduceMul, Int32.reduceSub, Int32.reduceLT, Int32.reduceLE, eq_self, i32_10, i32_01, ne_eq, hrow_s, hrow_n, ne10, ne100, ne1000, ne7, ne4, ne14, ne9973, or_true, true_or, or_false, false_or, not_true_eq_false, not_false_eq_true, false_implies, implies_true, and_true, forall_const, true_implies, jargs_n, jargs_r, jargs_i, List.cons_append, List.nil_append, true_and, Nat.reduceEqDiff, reduceIte, ft_X7_fault_0, ft_X7_fault_1, ft_X7_fault_4, rc_71]
  refine s_X7_readText zrow zrow v ⟨⟨eM, h70⟩, hb⟩ fun C' w hw v' _ => ?_
  simp -implicitDefEqProofs only [jr_0, jr_1, jr_2, j_iconst, j_lconst, j_iload0, j_aload0, j_istore0, j_astore0, j_iinc0, j_iload1, j_aload1, j_istore1, j_astore1, j_iinc1, j_iload2, j_aload2, j_istore2, j_astore2, j_iinc2, j_iload3, j_aload3, j_istore3, j_astore3, j_iinc3, j_iload4, j_aload4, j_istore4, j_astore4, j_iinc4, j_iload5, j_aload5, j_istore5, j_astore5, j_iinc5, j_iload6, j_aload6, j_istore6, j_astore6, j_iinc6, j_iload7, j_aload7, j_istore7, j_astore7, j_iinc7, j_iload8, j_aload8, j_istore8, j_astore8, j_iinc8, j_iadd, j_isub, j_imul, j_iand, j_ior, j_ixor, j_ishl, j_ishr, j_iushr, j_idiv, j_irem, j_ineg, j_ladd, j_lmul, j_land, j_lor, j_lcmp, j_lushr, j_lshl, j_i2l, j_l2i, j_dupI, j_dupR, j_popI, j_dup2, j_ifeq, j_iceq, j_ifne, j_icne, j_iflt, j_iclt, j_ifge, j_icge, j_ifgt, j_icgt, j_ifle, j_icle, j_goto, j_tsw, j_sw0, j_sw1, j_ireturn, j_zreturn, j_lreturn, j_return, j_getfield, j_putI, j_putJ, j_putR, j_iaload, j_baload, j_iastore, j_bastore, j_aaload, j_q, j_aastore, j_acopy, j_mmin, j_mmax, j_mabs, j_objinit, j_new, j_newI, j_newQ, j_sld, j_slen, j_callV0, j_callI0, j_callS0, j_callV1, j_callI1, j_callS1, j_callV2, j_callI2, j_callS2, j_callV3, j_callS3, j_callV4, j_callS4, j_callV5, j_callS5, j_pushS, j_pushN, j_sh0, j_sh1, j_sh2, j_sh3, j_sh4, Int32.reduceAdd, Int32.reduceMul, Int32.reduceSub, Int32.reduceLT, Int32.reduceLE, eq_self, i32_10, i32_01, ne_eq, hrow_s, hrow_n, ne10, ne100, ne1000, ne7, ne4, ne14, ne9973, or_true, true_or, or_false, false_or, not_true_eq_false, not_false_eq_true, false_implies, implies_true, and_true, forall_const, true_implies, jargs_n, jargs_r, jargs_i, List.cons_append, List.nil_append, true_and, Nat.reduceEqDiff, reduceIte, ft_X7_fault_0, ft_X7_fault_1, ft_X7_fault_4]
  rw [hw]
  exact hq C' v'
