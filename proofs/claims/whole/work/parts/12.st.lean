/-! the class's State: reads -/
theorem pn0 : plainName RX0 = true := by decide
theorem pn1 : plainName RX1 = true := by decide
theorem pn2 : plainName RX2 = true := by decide
theorem pn3 : plainName RX3 = true := by decide
theorem pn4 : plainName RX4 = true := by decide
theorem pn5 : plainName RX5 = true := by decide
theorem pn6 : plainName RX6 = true := by decide
theorem pn7 : plainName RX7 = true := by decide
theorem pnJ6 : plainName RJ6 = true := by decide
/-- what a cell holds -/
def rd (mem : jM) (k : Nat) : Nat → Int32 := match mem k with
  | some (.inl (_, _, f)) => f
  | some (.inr (.inr (_, f))) => fun j => match f j with
    | .int x => x
    | _ => 0
  | _ => fun _ => 0
def isS (d : Nat) (mem : jM) : Prop := ∃ C z, mem = memS d C z
theorem isS_i {d : Nat} {C : Nat → Nat → Int32} {z : Nat → Int64} : isS d (memS d C z) := ⟨C, z, rfl⟩
theorem rd_c {d s : Nat} {C : Nat → Nat → Int32} {z : Nat → Int64} (h : jSt s d) : rd (memS d C z) (s + 1) = cellsOf (C s) := by unfold rd; rw [jst_c h]
theorem rd_r {d s : Nat} {C : Nat → Nat → Int32} {z : Nat → Int64} (h : jSt s d) : rd (memS d C z) (s + 2) = restOf (C s) := by unfold rd; rw [jst_r h]
theorem rd_o {d k n : Nat} {b : Bool} {C : Nat → Nat → Int32} {z : Nat → Int64} (h : jOwn k n b d) : rd (memS d C z) k = C k := by unfold rd; rw [jown_m h]
theorem eq_and {a b : Prop} (h : a) : (a ∧ b) = b := propext ⟨fun q => q.2, fun q => ⟨h, q⟩⟩
def rgetf (f : Nat → Int32) (p w : Int32) : Int32 := if p < 0 ∨ 4 ≤ p ∨ w < 1 ∨ 8 < w then -9 else f (p * 8 + w - 1).toNatClampNeg
def S_X4_get : jSp := fun _ vs mem Q => match vs with
  | [.ref s, .int p, .int w] => (∃ d, isS d mem ∧ jSt s d) ∧ Q (some (.int (rgetf (rd mem (s + 1)) p w))) mem
  | _ => False
def rget (ρ : Nat → Int32) (p w : Int32) : Int32 := rgetf (cellsOf ρ) p w
theorem s_X4_get {nb d s : Nat} {C : Nat → Nat → Int32} {z : Nat → Int64} {p w : Int32} {Q : jQ} (h : jSt s d) : S_X4_get nb [.ref s, .int p, .int w] (memS d C z) Q = Q (some (.int (rget (C s) p w))) (memS d C z) := by
  show (_ ∧ Q (some (.int (rgetf (rd (memS d C z) (s + 1)) p w))) (memS d C z)) = _
  rw [rd_c h, eq_and ⟨d, isS_i, h⟩]
  rfl
theorem i32_4 {p : Int32} (h0 : ¬ p < 0) (h1 : ¬ 4 ≤ p) : ∃ j : Nat, j < 4 ∧ p = nI j := by
  rcases pk_ix p (n := 4) (by decide) with h | h | h
  · exact absurd h h0
  · exact absurd h h1
  · exact h
theorem i32_w {w : Int32} (h0 : ¬ w < 1) (h1 : ¬ 8 < w) : ∃ j : Nat, j < 8 ∧ w = nI (j + 1) := by
  have h0 := Int32.not_lt.mp h0
  have h1 := Int32.not_lt.mp h1
  rw [Int32.le_iff_toInt_le] at h0 h1
  have h0 : (1 : Int) ≤ w.toInt := h0
  have h1 : w.toInt ≤ 8 := h1
  refine ⟨w.toInt.toNat - 1, by omega, ?_⟩
  apply Int32.toInt_inj.mp
  rw [nI_toInt (by omega)]
  omega
theorem get_ix {j k : Nat} (hj : j < 4) (hk : k < 8) : nI j * 8 + nI (k + 1) - 1 = nI (8 * j + k) := by
  have : ∀ j, j < 4 → ∀ k, k < 8 → nI j * 8 + nI (k + 1) - 1 = nI (8 * j + k) := by decide +kernel
  exact this j hj k hk
theorem cix_jk {j k : Nat} (hj : j < 4) (hk : k < 8) : cix (8 * j + k) = 4 * k + j := by unfold cix; omega
/-- the reading at post j of what k -/
theorem rget_at {ρ : Nat → Int32} {j k : Nat} (hj : j < 4) (hk : k < 8) : rget ρ (nI j) (nI (k + 1)) = ρ (4 * k + j) := by
  have hc : ¬ (nI j < 0 ∨ 4 ≤ nI j ∨ nI (k + 1) < 1 ∨ 8 < nI (k + 1)) := by
    have : ∀ j, j < 4 → ∀ k, k < 8 → ¬ (nI j < 0 ∨ 4 ≤ nI j ∨ nI (k + 1) < 1 ∨ 8 < nI (k + 1)) := by decide +kernel
    exact this j hj k hk
  unfold rget rgetf
  rw [if_neg hc, get_ix hj hk, nI_clamp (by omega), cellsOf_at (by omega), cix_jk hj hk]
def F_X4_get_0 : Nat → jT := fun pc => (bif Nat.blt pc 10 then (bif Nat.blt pc 5 then (bif Nat.blt pc 1 then (bif Nat.beq pc 0 then J_iload 1 1 else jbad) else (bif Nat.blt pc 4 then (bif Nat.beq pc 1 then J_iflt 20 4 else jbad) else (bif Nat.beq pc 4 then J_iload 1 5 else jbad))) else (bif Nat.blt pc 6 then (bif Nat.beq pc 5 then J_iconst 4 6 else jbad) else (bif Nat.blt pc 9 then (bif Nat.beq pc 6 then J_icge 20 9 else jbad) else (bif Nat.beq pc 9 then J_iload 2 10 else jbad)))) else (bif Nat.blt pc 15 then (bif Nat.blt pc 11 then (bif Nat.beq pc 10 then J_iconst 1 11 else jbad) else (bif Nat.blt pc 14 then (bif Nat.beq pc 11 then J_iclt 20 14 else jbad) else (bif Nat.beq pc 14 then J_iload 2 15 else jbad))) else (bif Nat.blt pc 17 then (bif Nat.beq pc 15 then J_iconst 8 17 else jbad) else (bif Nat.blt pc 20 then (bif Nat.beq pc 17 then J_icle 23 20 else jbad) else (bif Nat.beq pc 20 then J_iconst (-9) 22 else jbad)))))
theorem ftl_X4_get_0 : F_X4_get_0 0 = J_iload 1 1 := rfl
theorem ftl_X4_get_1 : F_X4_get_0 1 = J_iflt 20 4 := rfl
theorem ftl_X4_get_4 : F_X4_get_0 4 = J_iload 1 5 := rfl
theorem ftl_X4_get_5 : F_X4_get_0 5 = J_iconst 4 6 := rfl
theorem ftl_X4_get_6 : F_X4_get_0 6 = J_icge 20 9 := rfl
theorem ftl_X4_get_9 : F_X4_get_0 9 = J_iload 2 10 := rfl
theorem ftl_X4_get_10 : F_X4_get_0 10 = J_iconst 1 11 := rfl
theorem ftl_X4_get_11 : F_X4_get_0 11 = J_iclt 20 14 := rfl
theorem ftl_X4_get_14 : F_X4_get_0 14 = J_iload 2 15 := rfl
theorem ftl_X4_get_15 : F_X4_get_0 15 = J_iconst 8 17 := rfl
theorem ftl_X4_get_17 : F_X4_get_0 17 = J_icle 23 20 := rfl
theorem ftl_X4_get_20 : F_X4_get_0 20 = J_iconst (-9) 22 := rfl
theorem F_X4_get_0_ok : jOK Y_X4_get none (F_X4_get_0) := (jOK_node (jOK_node (jOK_node (jOK_leaf (sn_iload_n dX4_get_0 rfl rfl)) (jOK_node (jOK_leaf (sn_iflt dX4_get_1 rfl rfl)) (jOK_leaf (sn_iload_n dX4_get_4 rfl rfl)))) (jOK_node (jOK_leaf (sn_iconst dX4_get_5 rfl rfl)) (jOK_node (jOK_leaf (sn_icge dX4_get_6 rfl rfl)) (jOK_leaf (sn_iload_n dX4_get_9 rfl rfl))))) (jOK_node (jOK_node (jOK_leaf (sn_iconst dX4_get_10 rfl rfl)) (jOK_node (jOK_leaf (sn_iclt dX4_get_11 rfl rfl)) (jOK_leaf (sn_iload_n dX4_get_14 rfl rfl)))) (jOK_node (jOK_leaf (sn_bipush dX4_get_15 rfl rfl)) (jOK_node (jOK_leaf (sn_icle dX4_get_17 rfl rfl)) (jOK_leaf (sn_bipush dX4_get_20 rfl rfl))))))
def F_X4_get_22 : Nat → jT := fun pc => (bif Nat.blt pc 31 then (bif Nat.blt pc 27 then (bif Nat.blt pc 23 then (bif Nat.beq pc 22 then J_ireturn 0 0 else jbad) else (bif Nat.blt pc 24 then (bif Nat.beq pc 23 then J_aload 0 24 else jbad) else (bif Nat.beq pc 24 then J_getfield 4 0 27 else jbad))) else (bif Nat.blt pc 28 then (bif Nat.beq pc 27 then J_iload 1 28 else jbad) else (bif Nat.blt pc 30 then (bif Nat.beq pc 28 then J_iconst 8 30 else jbad) else (bif Nat.beq pc 30 then J_imul 31 else jbad)))) else (bif Nat.blt pc 34 then (bif Nat.blt pc 32 then (bif Nat.beq pc 31 then J_iload 2 32 else jbad) else (bif Nat.blt pc 33 then (bif Nat.beq pc 32 then J_iadd 33 else jbad) else (bif Nat.beq pc 33 then J_iconst 1 34 else jbad))) else (bif Nat.blt pc 35 then (bif Nat.beq pc 34 then J_isub 35 else jbad) else (bif Nat.blt pc 36 then (bif Nat.beq pc 35 then J_iaload 36 else jbad) else (bif Nat.beq pc 36 then J_ireturn 0 0 else jbad)))))
theorem ftl_X4_get_22 : F_X4_get_22 22 = J_ireturn 0 0 := rfl
theorem ftl_X4_get_23 : F_X4_get_22 23 = J_aload 0 24 := rfl
theorem ftl_X4_get_24 : F_X4_get_22 24 = J_getfield 4 0 27 := rfl
theorem ftl_X4_get_27 : F_X4_get_22 27 = J_iload 1 28 := rfl
theorem ftl_X4_get_28 : F_X4_get_22 28 = J_iconst 8 30 := rfl
theorem ftl_X4_get_30 : F_X4_get_22 30 = J_imul 31 := rfl
theorem ftl_X4_get_31 : F_X4_get_22 31 = J_iload 2 32 := rfl
theorem ftl_X4_get_32 : F_X4_get_22 32 = J_iadd 33 := rfl
theorem ftl_X4_get_33 : F_X4_get_22 33 = J_iconst 1 34 := rfl
theorem ftl_X4_get_34 : F_X4_get_22 34 = J_isub 35 := rfl
theorem ftl_X4_get_35 : F_X4_get_22 35 = J_iaload 36 := rfl
theorem ftl_X4_get_36 : F_X4_get_22 36 = J_ireturn 0 0 := rfl
theorem F_X4_get_22_ok : jOK Y_X4_get none (F_X4_get_22) := (jOK_node (jOK_node (jOK_node (jOK_leaf (sn_ireturn dX4_get_22 rfl rfl)) (jOK_node (jOK_leaf (sn_aload_n dX4_get_23 rfl rfl)) (jOK_leaf (sn_getfield dX4_get_24 rfl rfl (by decide) tw_89 jin4)))) (jOK_node (jOK_leaf (sn_iload_n dX4_get_27 rfl rfl)) (jOK_node (jOK_leaf (sn_bipush dX4_get_28 rfl rfl)) (jOK_leaf (sn_imul dX4_get_30 rfl))))) (jOK_node (jOK_node (jOK_leaf (sn_iload_n dX4_get_31 rfl rfl)) (jOK_node (jOK_leaf (sn_iadd dX4_get_32 rfl)) (jOK_leaf (sn_iconst dX4_get_33 rfl rfl)))) (jOK_node (jOK_leaf (sn_isub dX4_get_34 rfl)) (jOK_node (jOK_leaf (sn_iaload dX4_get_35 rfl)) (jOK_leaf (sn_ireturn dX4_get_36 rfl rfl))))))
def F_X4_get_0_36 : Nat → jT := fun pc => bif Nat.blt pc 22 then F_X4_get_0 pc else F_X4_get_22 pc
theorem F_X4_get_0_36_ok : jOK Y_X4_get none (F_X4_get_0_36) := jOK_node (F_X4_get_0_ok) (F_X4_get_22_ok)
def F_X4_get : Nat → jT := F_X4_get_0_36
theorem OK_X4_get : jOK Y_X4_get none (F_X4_get) := F_X4_get_0_36_ok
theorem ft_X4_get_0 : F_X4_get 0 = J_iload 1 1 := ftl_X4_get_0
theorem ft_X4_get_1 : F_X4_get 1 = J_iflt 20 4 := ftl_X4_get_1
theorem ft_X4_get_4 : F_X4_get 4 = J_iload 1 5 := ftl_X4_get_4
theorem ft_X4_get_5 : F_X4_get 5 = J_iconst 4 6 := ftl_X4_get_5
theorem ft_X4_get_6 : F_X4_get 6 = J_icge 20 9 := ftl_X4_get_6
theorem ft_X4_get_9 : F_X4_get 9 = J_iload 2 10 := ftl_X4_get_9
theorem ft_X4_get_10 : F_X4_get 10 = J_iconst 1 11 := ftl_X4_get_10
theorem ft_X4_get_11 : F_X4_get 11 = J_iclt 20 14 := ftl_X4_get_11
theorem ft_X4_get_14 : F_X4_get 14 = J_iload 2 15 := ftl_X4_get_14
theorem ft_X4_get_15 : F_X4_get 15 = J_iconst 8 17 := ftl_X4_get_15
theorem ft_X4_get_17 : F_X4_get 17 = J_icle 23 20 := ftl_X4_get_17
theorem ft_X4_get_20 : F_X4_get 20 = J_iconst (-9) 22 := ftl_X4_get_20
theorem ft_X4_get_22 : F_X4_get 22 = J_ireturn 0 0 := ftl_X4_get_22
theorem ft_X4_get_23 : F_X4_get 23 = J_aload 0 24 := ftl_X4_get_23
theorem ft_X4_get_24 : F_X4_get 24 = J_getfield 4 0 27 := ftl_X4_get_24
theorem ft_X4_get_27 : F_X4_get 27 = J_iload 1 28 := ftl_X4_get_27
theorem ft_X4_get_28 : F_X4_get 28 = J_iconst 8 30 := ftl_X4_get_28
theorem ft_X4_get_30 : F_X4_get 30 = J_imul 31 := ftl_X4_get_30
theorem ft_X4_get_31 : F_X4_get 31 = J_iload 2 32 := ftl_X4_get_31
theorem ft_X4_get_32 : F_X4_get 32 = J_iadd 33 := ftl_X4_get_32
theorem ft_X4_get_33 : F_X4_get 33 = J_iconst 1 34 := ftl_X4_get_33
theorem ft_X4_get_34 : F_X4_get 34 = J_isub 35 := ftl_X4_get_34
theorem ft_X4_get_35 : F_X4_get 35 = J_iaload 36 := ftl_X4_get_35
theorem ft_X4_get_36 : F_X4_get 36 = J_ireturn 0 0 := ftl_X4_get_36
theorem ok_X4_get : jMeets Y_X4_get S_X4_get := by
  intro nb vs mem Q h
  match vs, h with
  | [.ref s, .int p, .int w], h =>
    obtain ⟨⟨d, ⟨C, z, rfl⟩, hs⟩, hQ⟩ := h
    rw [rd_c hs] at hQ
    refine Ok.run OK_X4_get [] 40 [] pn4 (Nat.le_of_ble_eq_true rfl) rfl ?_
    simp -implicitDefEqProofs only [jr_0, jr_1, jr_2, j_iconst, j_lconst, j_iload0, j_aload0, j_istore0, j_astore0, j_iinc0, j_iload1, j_aload1, j_istore1, j_astore1, j_iinc1, j_iload2, j_aload2, j_istore2, j_astore2, j_iinc2, j_iload3, j_aload3, j_istore3, j_astore3, j_iinc3, j_iload4, j_aload4, j_istore4, j_astore4, j_iinc4, j_iload5, j_aload5, j_istore5, j_astore5, j_iinc5, j_iload6, j_aload6, j_istore6, j_astore6, j_iinc6, j_iload7, j_aload7, j_istore7, j_astore7, j_iinc7, j_iload8, j_aload8, j_istore8, j_astore8, j_iinc8, j_iadd, j_isub, j_imul, j_iand, j_ior, j_ixor, j_ishl, j_ishr, j_iushr, j_idiv, j_irem, j_ineg, j_ladd, j_lmul, j_land, j_lor, j_lcmp, j_lushr, j_lshl, j_i2l, j_l2i, j_dupI, j_dupR, j_popI, j_dup2, j_ifeq, j_iceq, j_ifne, j_icne, j_iflt, j_iclt, j_ifge, j_icge, j_ifgt, j_icgt, j_ifle, j_icle, j_goto, j_tsw, j_sw0, j_sw1, j_ireturn, j_zreturn, j_lreturn, j_return, j_getfield, j_putI, j_putJ, j_putR, j_iaload, j_baload, j_iastore, j_bastore, j_aaload, j_q, j_aastore, j_acopy, j_mmin, j_mmax, j_mabs, j_objinit, j_new, j_newI, j_newQ, j_sld, j_slen, j_callV0, j_callI0, j_callS0, j_callV1, j_callI1, j_callS1, j_callV2, j_callI2, j_callS2, j_callV3, j_callS3, j_callV4, j_callS4, j_callV5, j_callS5, j_pushS, j_pushN, j_sh0, j_sh1, j_sh2, j_sh3, j_sh4, Int32.reduceAdd, Int32.reduceMul, Int32.reduceSub, Int32.reduceLT, Int32.reduceLE, eq_self, i32_10, i32_01, ne_eq, hrow_s, hrow_n, ne10, ne100, ne1000, ne7, ne4, ne14, ne9973, or_true, true_or, or_false, false_or, not_true_eq_false, not_false_eq_true, false_implies, implies_true, and_true, forall_const, true_implies, jargs_n, jargs_r, jargs_i, List.cons_append, List.nil_append, true_and, Nat.reduceEqDiff, reduceIte, ft_X4_get_0, ft_X4_get_1, ft_X4_get_4, ft_X4_get_5, ft_X4_get_6, ft_X4_get_9, ft_X4_get_10, ft_X4_get_11, ft_X4_get_14, ft_X4_get_15, ft_X4_get_17, ft_X4_get_20, ft_X4_get_22, ft_X4_get_23, ft_X4_get_24, ft_X4_get_27, ft_X4_get_28, ft_X4_get_30, ft_X4_get_31, ft_X4_get_32, ft_X4_get_33, ft_X4_get_34, ft_X4_get_35, ft_X4_get_36, jfld_s0 hs, jald_c hs]
    unfold rgetf at hQ
    refine ⟨fun h => ?_, fun h1 => ⟨fun h => ?_, fun h2 => ⟨fun h => ?_, fun h3 => ⟨fun h => ?_, fun h => ?_⟩⟩⟩⟩
    · rwa [if_pos (Or.inl h)] at hQ
    · rwa [if_pos (Or.inr (Or.inl h))] at hQ
    · rwa [if_pos (Or.inr (Or.inr (Or.inl h)))] at hQ
    · have h4 : ¬ 8 < w := Int32.not_lt.mpr h
      rw [if_neg (by rintro (q | q | q | q); exact h1 q; exact h2 q; exact h3 q; exact h4 q)] at hQ
      refine ⟨?_, hQ⟩
      obtain ⟨j, hj, rfl⟩ := i32_4 h1 h2
      obtain ⟨k, hk, rfl⟩ := i32_w h3 h4
      rw [get_ix hj hk]
      exact vp_in_nI (by omega) (by decide)
    · rwa [if_pos (Or.inr (Or.inr (Or.inr (Int32.not_le.mp h))))] at hQ
/-! restOf -/
def rrestf (f : Nat → Int32) (c : Int32) : Int32 := if c < 0 ∨ 6 ≤ c then 0 else f c.toNatClampNeg
def rrest (ρ : Nat → Int32) (c : Int32) : Int32 := rrestf (restOf ρ) c
def S_X4_restOf : jSp := fun _ vs mem Q => match vs with
  | [.ref s, .int c] => (∃ d, isS d mem ∧ jSt s d) ∧ Q (some (.int (rrestf (rd mem (s + 2)) c))) mem
  | _ => False
theorem s_X4_restOf {nb d s : Nat} {C : Nat → Nat → Int32} {z : Nat → Int64} {c : Int32} {Q : jQ} (h : jSt s d) : S_X4_restOf nb [.ref s, .int c] (memS d C z) Q = Q (some (.int (rrest (C s) c))) (memS d C z) := by
  show (_ ∧ Q (some (.int (rrestf (rd (memS d C z) (s + 2)) c))) (memS d C z)) = _
  rw [rd_r h, eq_and ⟨d, isS_i, h⟩]
  rfl
theorem i32_6 {p : Int32} (h0 : ¬ p < 0) (h1 : ¬ 6 ≤ p) : ∃ j : Nat, j < 6 ∧ p = nI j := by
  rcases pk_ix p (n := 6) (by decide) with h | h | h
  · exact absurd h h0
  · exact absurd h h1
  · exact h
theorem rrest_at {ρ : Nat → Int32} {c : Nat} (hc : c < 6) : rrest ρ (nI c) = ρ (32 + c) := by
  unfold rrest rrestf
  rw [if_neg (by rintro (q | q); exact nI_pos (by omega) q; exact nI_ge hc (by decide) q), nI_clamp (by omega), restOf_at hc]
theorem rrest_no {ρ : Nat → Int32} : rrest ρ (-9) = 0 := rfl
def F_X4_restOf_0 : Nat → jT := fun pc => (bif Nat.blt pc 11 then (bif Nat.blt pc 5 then (bif Nat.blt pc 1 then (bif Nat.beq pc 0 then J_iload 1 1 else jbad) else (bif Nat.blt pc 4 then (bif Nat.beq pc 1 then J_iflt 10 4 else jbad) else (bif Nat.beq pc 4 then J_iload 1 5 else jbad))) else (bif Nat.blt pc 7 then (bif Nat.beq pc 5 then J_iconst 6 7 else jbad) else (bif Nat.blt pc 10 then (bif Nat.beq pc 7 then J_iclt 14 10 else jbad) else (bif Nat.beq pc 10 then J_iconst 0 11 else jbad)))) else (bif Nat.blt pc 18 then (bif Nat.blt pc 14 then (bif Nat.beq pc 11 then J_goto 20 else jbad) else (bif Nat.blt pc 15 then (bif Nat.beq pc 14 then J_aload 0 15 else jbad) else (bif Nat.beq pc 15 then J_getfield 4 1 18 else jbad))) else (bif Nat.blt pc 19 then (bif Nat.beq pc 18 then J_iload 1 19 else jbad) else (bif Nat.blt pc 20 then (bif Nat.beq pc 19 then J_iaload 20 else jbad) else (bif Nat.beq pc 20 then J_ireturn 0 0 else jbad)))))
theorem ftl_X4_restOf_0 : F_X4_restOf_0 0 = J_iload 1 1 := rfl
theorem ftl_X4_restOf_1 : F_X4_restOf_0 1 = J_iflt 10 4 := rfl
theorem ftl_X4_restOf_4 : F_X4_restOf_0 4 = J_iload 1 5 := rfl
theorem ftl_X4_restOf_5 : F_X4_restOf_0 5 = J_iconst 6 7 := rfl
theorem ftl_X4_restOf_7 : F_X4_restOf_0 7 = J_iclt 14 10 := rfl
theorem ftl_X4_restOf_10 : F_X4_restOf_0 10 = J_iconst 0 11 := rfl
theorem ftl_X4_restOf_11 : F_X4_restOf_0 11 = J_goto 20 := rfl
theorem ftl_X4_restOf_14 : F_X4_restOf_0 14 = J_aload 0 15 := rfl
theorem ftl_X4_restOf_15 : F_X4_restOf_0 15 = J_getfield 4 1 18 := rfl
theorem ftl_X4_restOf_18 : F_X4_restOf_0 18 = J_iload 1 19 := rfl
theorem ftl_X4_restOf_19 : F_X4_restOf_0 19 = J_iaload 20 := rfl
theorem ftl_X4_restOf_20 : F_X4_restOf_0 20 = J_ireturn 0 0 := rfl
theorem F_X4_restOf_0_ok : jOK Y_X4_restOf none (F_X4_restOf_0) := (jOK_node (jOK_node (jOK_node (jOK_leaf (sn_iload_n dX4_restOf_0 rfl rfl)) (jOK_node (jOK_leaf (sn_iflt dX4_restOf_1 rfl rfl)) (jOK_leaf (sn_iload_n dX4_restOf_4 rfl rfl)))) (jOK_node (jOK_leaf (sn_bipush dX4_restOf_5 rfl rfl)) (jOK_node (jOK_leaf (sn_iclt dX4_restOf_7 rfl rfl)) (jOK_leaf (sn_iconst dX4_restOf_10 rfl rfl))))) (jOK_node (jOK_node (jOK_leaf (sn_goto dX4_restOf_11 rfl)) (jOK_node (jOK_leaf (sn_aload_n dX4_restOf_14 rfl rfl)) (jOK_leaf (sn_getfield dX4_restOf_15 rfl rfl (by decide) tw_90 jin4)))) (jOK_node (jOK_leaf (sn_iload_n dX4_restOf_18 rfl rfl)) (jOK_node (jOK_leaf (sn_iaload dX4_restOf_19 rfl)) (jOK_leaf (sn_ireturn dX4_restOf_20 rfl rfl))))))
def F_X4_restOf : Nat → jT := F_X4_restOf_0
theorem OK_X4_restOf : jOK Y_X4_restOf none (F_X4_restOf) := F_X4_restOf_0_ok
theorem ft_X4_restOf_0 : F_X4_restOf 0 = J_iload 1 1 := ftl_X4_restOf_0
theorem ft_X4_restOf_1 : F_X4_restOf 1 = J_iflt 10 4 := ftl_X4_restOf_1
theorem ft_X4_restOf_4 : F_X4_restOf 4 = J_iload 1 5 := ftl_X4_restOf_4
theorem ft_X4_restOf_5 : F_X4_restOf 5 = J_iconst 6 7 := ftl_X4_restOf_5
theorem ft_X4_restOf_7 : F_X4_restOf 7 = J_iclt 14 10 := ftl_X4_restOf_7
theorem ft_X4_restOf_10 : F_X4_restOf 10 = J_iconst 0 11 := ftl_X4_restOf_10
theorem ft_X4_restOf_11 : F_X4_restOf 11 = J_goto 20 := ftl_X4_restOf_11
theorem ft_X4_restOf_14 : F_X4_restOf 14 = J_aload 0 15 := ftl_X4_restOf_14
theorem ft_X4_restOf_15 : F_X4_restOf 15 = J_getfield 4 1 18 := ftl_X4_restOf_15
theorem ft_X4_restOf_18 : F_X4_restOf 18 = J_iload 1 19 := ftl_X4_restOf_18
theorem ft_X4_restOf_19 : F_X4_restOf 19 = J_iaload 20 := ftl_X4_restOf_19
theorem ft_X4_restOf_20 : F_X4_restOf 20 = J_ireturn 0 0 := ftl_X4_restOf_20
theorem ok_X4_restOf : jMeets Y_X4_restOf S_X4_restOf := by
  intro nb vs mem Q h
  match vs, h with
  | [.ref s, .int c], h =>
    obtain ⟨⟨d, ⟨C, z, rfl⟩, hs⟩, hQ⟩ := h
    rw [rd_r hs] at hQ
    refine Ok.run OK_X4_restOf [] 40 [] pn4 (Nat.le_of_ble_eq_true rfl) rfl ?_
    simp -implicitDefEqProofs only [jr_0, jr_1, jr_2, j_iconst, j_lconst, j_iload0, j_aload0, j_istore0, j_astore0, j_iinc0, j_iload1, j_aload1, j_istore1, j_astore1, j_iinc1, j_iload2, j_aload2, j_istore2, j_astore2, j_iinc2, j_iload3, j_aload3, j_istore3, j_astore3, j_iinc3, j_iload4, j_aload4, j_istore4, j_astore4, j_iinc4, j_iload5, j_aload5, j_istore5, j_astore5, j_iinc5, j_iload6, j_aload6, j_istore6, j_astore6, j_iinc6, j_iload7, j_aload7, j_istore7, j_astore7, j_iinc7, j_iload8, j_aload8, j_istore8, j_astore8, j_iinc8, j_iadd, j_isub, j_imul, j_iand, j_ior, j_ixor, j_ishl, j_ishr, j_iushr, j_idiv, j_irem, j_ineg, j_ladd, j_lmul, j_land, j_lor, j_lcmp, j_lushr, j_lshl, j_i2l, j_l2i, j_dupI, j_dupR, j_popI, j_dup2, j_ifeq, j_iceq, j_ifne, j_icne, j_iflt, j_iclt, j_ifge, j_icge, j_ifgt, j_icgt, j_ifle, j_icle, j_goto, j_tsw, j_sw0, j_sw1, j_ireturn, j_zreturn, j_lreturn, j_return, j_getfield, j_putI, j_putJ, j_putR, j_iaload, j_baload, j_iastore, j_bastore, j_aaload, j_q, j_aastore, j_acopy, j_mmin, j_mmax, j_mabs, j_objinit, j_new, j_newI, j_newQ, j_sld, j_slen, j_callV0, j_callI0, j_callS0, j_callV1, j_callI1, j_callS1, j_callV2, j_callI2, j_callS2, j_callV3, j_callS3, j_callV4, j_callS4, j_callV5, j_callS5, j_pushS, j_pushN, j_sh0, j_sh1, j_sh2, j_sh3, j_sh4, Int32.reduceAdd, Int32.reduceMul, Int32.reduceSub, Int32.reduceLT, Int32.reduceLE, eq_self, i32_10, i32_01, ne_eq, hrow_s, hrow_n, ne10, ne100, ne1000, ne7, ne4, ne14, ne9973, or_true, true_or, or_false, false_or, not_true_eq_false, not_false_eq_true, false_implies, implies_true, and_true, forall_const, true_implies, jargs_n, jargs_r, jargs_i, List.cons_append, List.nil_append, true_and, Nat.reduceEqDiff, reduceIte, ft_X4_restOf_0, ft_X4_restOf_1, ft_X4_restOf_4, ft_X4_restOf_5, ft_X4_restOf_7, ft_X4_restOf_10, ft_X4_restOf_11, ft_X4_restOf_14, ft_X4_restOf_15, ft_X4_restOf_18, ft_X4_restOf_19, ft_X4_restOf_20, jfld_s1 hs, jald_r hs]
    unfold rrestf at hQ
    refine ⟨fun h => ?_, fun h1 => ⟨fun h => ?_, fun h => ?_⟩⟩
    · rwa [if_pos (Or.inl h)] at hQ
    · rw [if_neg (by rintro (q | q); exact h1 q; exact absurd h (Int32.not_lt.mpr q))] at hQ
      exact ⟨fun q => q.elim h1 (fun q => by obtain ⟨j, hj, rfl⟩ := i32_6 h1 (Int32.not_le.mpr h); rw [nI_clamp (by omega)] at q; omega), hQ⟩
    · rwa [if_pos (Or.inr (Int32.not_lt.mp h))] at hQ
/-! set and setRest -/
def rsetf (f : Nat → Int32) (p w x : Int32) : Nat → Int32 := if p < 0 ∨ 4 ≤ p ∨ w < 1 ∨ 8 < w then f else upd f (p * 8 + w - 1).toNatClampNeg x
def rset (ρ : Nat → Int32) (p w x : Int32) : Nat → Int32 := if p < 0 ∨ 4 ≤ p ∨ w < 1 ∨ 8 < w then ρ else upd ρ (cix (p * 8 + w - 1).toNatClampNeg) x
theorem rset_at {ρ : Nat → Int32} {j k : Nat} {x : Int32} (hj : j < 4) (hk : k < 8) : rset ρ (nI j) (nI (k + 1)) x = upd ρ (4 * k + j) x := by
  have hc : ¬ (nI j < 0 ∨ 4 ≤ nI j ∨ nI (k + 1) < 1 ∨ 8 < nI (k + 1)) := by
    have : ∀ j, j < 4 → ∀ k, k < 8 → ¬ (nI j < 0 ∨ 4 ≤ nI j ∨ nI (k + 1) < 1 ∨ 8 < nI (k + 1)) := by decide +kernel
    exact this j hj k hk
  unfold rset
  rw [if_neg hc, get_ix hj hk, nI_clamp (by omega), cix_jk hj hk]
theorem rset_in {p w : Int32} (h : ¬ (p < 0 ∨ 4 ≤ p ∨ w < 1 ∨ 8 < w)) : ∃ i, i < 32 ∧ p * 8 + w - 1 = nI i := by
  have h0 : ¬ p < 0 := fun q => h (Or.inl q)
  have h1 : ¬ 4 ≤ p := fun q => h (Or.inr (Or.inl q))
  have h2 : ¬ w < 1 := fun q => h (Or.inr (Or.inr (Or.inl q)))
  have h3 : ¬ 8 < w := fun q => h (Or.inr (Or.inr (Or.inr q)))
  obtain ⟨j, hj, rfl⟩ := i32_4 h0 h1
  obtain ⟨k, hk, rfl⟩ := i32_w h2 h3
  exact ⟨8 * j + k, by omega, get_ix hj hk⟩
theorem rset_mem {d s : Nat} {C : Nat → Nat → Int32} {z : Nat → Int64} (h : jSt s d) {p w x : Int32} : jup (memS d C z) (s + 1) (.inl (false, 32, rsetf (cellsOf (C s)) p w x)) = memS d (hrow C s (rset (C s) p w x)) z := by
  unfold rsetf rset
  by_cases hc : p < 0 ∨ 4 ≤ p ∨ w < 1 ∨ 8 < w
  · rw [if_pos hc, if_pos hc]
    exact memS_stc h rfl fun _ _ => rfl
  · rw [if_neg hc, if_neg hc]
    obtain ⟨i, hi, e⟩ := rset_in hc
    rw [e, nI_clamp (by omega)]
    exact memS_stc h (cellsOf_upd hi) fun j hj => upd_ne (by have := cix_lt hi; omega)
def S_X4_set : jSp := fun _ vs mem Q => match vs with
  | [.ref s, .int p, .int w, .int x] => (∃ d, isS d mem ∧ jSt s d) ∧ Q none (jup mem (s + 1) (.inl (false, 32, rsetf (rd mem (s + 1)) p w x)))
  | _ => False
theorem s_X4_set {nb d s : Nat} {C : Nat → Nat → Int32} {z : Nat → Int64} {p w x : Int32} {Q : jQ} (h : jSt s d) : S_X4_set nb [.ref s, .int p, .int w, .int x] (memS d C z) Q = Q none (memS d (hrow C s (rset (C s) p w x)) z) := by
  show (_ ∧ Q none (jup (memS d C z) (s + 1) (.inl (false, 32, rsetf (rd (memS d C z) (s + 1)) p w x)))) = _
  rw [rd_c h, eq_and ⟨d, isS_i, h⟩, rset_mem h]
def F_X4_set_0 : Nat → jT := fun pc => (bif Nat.blt pc 9 then (bif Nat.blt pc 4 then (bif Nat.blt pc 1 then (bif Nat.beq pc 0 then J_iload 1 1 else jbad) else (bif Nat.beq pc 1 then J_iflt 34 4 else jbad)) else (bif Nat.blt pc 5 then (bif Nat.beq pc 4 then J_iload 1 5 else jbad) else (bif Nat.blt pc 6 then (bif Nat.beq pc 5 then J_iconst 4 6 else jbad) else (bif Nat.beq pc 6 then J_icge 34 9 else jbad)))) else (bif Nat.blt pc 14 then (bif Nat.blt pc 10 then (bif Nat.beq pc 9 then J_iload 2 10 else jbad) else (bif Nat.blt pc 11 then (bif Nat.beq pc 10 then J_iconst 1 11 else jbad) else (bif Nat.beq pc 11 then J_iclt 34 14 else jbad))) else (bif Nat.blt pc 15 then (bif Nat.beq pc 14 then J_iload 2 15 else jbad) else (bif Nat.blt pc 17 then (bif Nat.beq pc 15 then J_iconst 8 17 else jbad) else (bif Nat.beq pc 17 then J_icgt 34 20 else jbad)))))
theorem ftl_X4_set_0 : F_X4_set_0 0 = J_iload 1 1 := rfl
theorem ftl_X4_set_1 : F_X4_set_0 1 = J_iflt 34 4 := rfl
theorem ftl_X4_set_4 : F_X4_set_0 4 = J_iload 1 5 := rfl
theorem ftl_X4_set_5 : F_X4_set_0 5 = J_iconst 4 6 := rfl
theorem ftl_X4_set_6 : F_X4_set_0 6 = J_icge 34 9 := rfl
theorem ftl_X4_set_9 : F_X4_set_0 9 = J_iload 2 10 := rfl
theorem ftl_X4_set_10 : F_X4_set_0 10 = J_iconst 1 11 := rfl
theorem ftl_X4_set_11 : F_X4_set_0 11 = J_iclt 34 14 := rfl
theorem ftl_X4_set_14 : F_X4_set_0 14 = J_iload 2 15 := rfl
theorem ftl_X4_set_15 : F_X4_set_0 15 = J_iconst 8 17 := rfl
theorem ftl_X4_set_17 : F_X4_set_0 17 = J_icgt 34 20 := rfl
theorem F_X4_set_0_ok : jOK Y_X4_set none (F_X4_set_0) := (jOK_node (jOK_node (jOK_node (jOK_leaf (sn_iload_n dX4_set_0 rfl rfl)) (jOK_leaf (sn_iflt dX4_set_1 rfl rfl))) (jOK_node (jOK_leaf (sn_iload_n dX4_set_4 rfl rfl)) (jOK_node (jOK_leaf (sn_iconst dX4_set_5 rfl rfl)) (jOK_leaf (sn_icge dX4_set_6 rfl rfl))))) (jOK_node (jOK_node (jOK_leaf (sn_iload_n dX4_set_9 rfl rfl)) (jOK_node (jOK_leaf (sn_iconst dX4_set_10 rfl rfl)) (jOK_leaf (sn_iclt dX4_set_11 rfl rfl)))) (jOK_node (jOK_leaf (sn_iload_n dX4_set_14 rfl rfl)) (jOK_node (jOK_leaf (sn_bipush dX4_set_15 rfl rfl)) (jOK_leaf (sn_icgt dX4_set_17 rfl rfl))))))
def F_X4_set_20 : Nat → jT := fun pc => (bif Nat.blt pc 29 then (bif Nat.blt pc 25 then (bif Nat.blt pc 21 then (bif Nat.beq pc 20 then J_aload 0 21 else jbad) else (bif Nat.blt pc 24 then (bif Nat.beq pc 21 then J_getfield 4 0 24 else jbad) else (bif Nat.beq pc 24 then J_iload 1 25 else jbad))) else (bif Nat.blt pc 27 then (bif Nat.beq pc 25 then J_iconst 8 27 else jbad) else (bif Nat.blt pc 28 then (bif Nat.beq pc 27 then J_imul 28 else jbad) else (bif Nat.beq pc 28 then J_iload 2 29 else jbad)))) else (bif Nat.blt pc 32 then (bif Nat.blt pc 30 then (bif Nat.beq pc 29 then J_iadd 30 else jbad) else (bif Nat.blt pc 31 then (bif Nat.beq pc 30 then J_iconst 1 31 else jbad) else (bif Nat.beq pc 31 then J_isub 32 else jbad))) else (bif Nat.blt pc 33 then (bif Nat.beq pc 32 then J_iload 3 33 else jbad) else (bif Nat.blt pc 34 then (bif Nat.beq pc 33 then J_iastore 34 else jbad) else (bif Nat.beq pc 34 then J_return 0 0 else jbad)))))
theorem ftl_X4_set_20 : F_X4_set_20 20 = J_aload 0 21 := rfl
theorem ftl_X4_set_21 : F_X4_set_20 21 = J_getfield 4 0 24 := rfl
theorem ftl_X4_set_24 : F_X4_set_20 24 = J_iload 1 25 := rfl
theorem ftl_X4_set_25 : F_X4_set_20 25 = J_iconst 8 27 := rfl
theorem ftl_X4_set_27 : F_X4_set_20 27 = J_imul 28 := rfl
theorem ftl_X4_set_28 : F_X4_set_20 28 = J_iload 2 29 := rfl
theorem ftl_X4_set_29 : F_X4_set_20 29 = J_iadd 30 := rfl
theorem ftl_X4_set_30 : F_X4_set_20 30 = J_iconst 1 31 := rfl
theorem ftl_X4_set_31 : F_X4_set_20 31 = J_isub 32 := rfl
theorem ftl_X4_set_32 : F_X4_set_20 32 = J_iload 3 33 := rfl
theorem ftl_X4_set_33 : F_X4_set_20 33 = J_iastore 34 := rfl
theorem ftl_X4_set_34 : F_X4_set_20 34 = J_return 0 0 := rfl
theorem F_X4_set_20_ok : jOK Y_X4_set none (F_X4_set_20) := (jOK_node (jOK_node (jOK_node (jOK_leaf (sn_aload_n dX4_set_20 rfl rfl)) (jOK_node (jOK_leaf (sn_getfield dX4_set_21 rfl rfl (by decide) tw_89 jin4)) (jOK_leaf (sn_iload_n dX4_set_24 rfl rfl)))) (jOK_node (jOK_leaf (sn_bipush dX4_set_25 rfl rfl)) (jOK_node (jOK_leaf (sn_imul dX4_set_27 rfl)) (jOK_leaf (sn_iload_n dX4_set_28 rfl rfl))))) (jOK_node (jOK_node (jOK_leaf (sn_iadd dX4_set_29 rfl)) (jOK_node (jOK_leaf (sn_iconst dX4_set_30 rfl rfl)) (jOK_leaf (sn_isub dX4_set_31 rfl)))) (jOK_node (jOK_leaf (sn_iload_n dX4_set_32 rfl rfl)) (jOK_node (jOK_leaf (sn_iastore dX4_set_33 rfl)) (jOK_leaf (sn_return dX4_set_34 rfl rfl))))))
def F_X4_set_0_34 : Nat → jT := fun pc => bif Nat.blt pc 20 then F_X4_set_0 pc else F_X4_set_20 pc
theorem F_X4_set_0_34_ok : jOK Y_X4_set none (F_X4_set_0_34) := jOK_node (F_X4_set_0_ok) (F_X4_set_20_ok)
def F_X4_set : Nat → jT := F_X4_set_0_34
theorem OK_X4_set : jOK Y_X4_set none (F_X4_set) := F_X4_set_0_34_ok
theorem ft_X4_set_0 : F_X4_set 0 = J_iload 1 1 := ftl_X4_set_0
theorem ft_X4_set_1 : F_X4_set 1 = J_iflt 34 4 := ftl_X4_set_1
theorem ft_X4_set_4 : F_X4_set 4 = J_iload 1 5 := ftl_X4_set_4
theorem ft_X4_set_5 : F_X4_set 5 = J_iconst 4 6 := ftl_X4_set_5
theorem ft_X4_set_6 : F_X4_set 6 = J_icge 34 9 := ftl_X4_set_6
theorem ft_X4_set_9 : F_X4_set 9 = J_iload 2 10 := ftl_X4_set_9
theorem ft_X4_set_10 : F_X4_set 10 = J_iconst 1 11 := ftl_X4_set_10
theorem ft_X4_set_11 : F_X4_set 11 = J_iclt 34 14 := ftl_X4_set_11
theorem ft_X4_set_14 : F_X4_set 14 = J_iload 2 15 := ftl_X4_set_14
theorem ft_X4_set_15 : F_X4_set 15 = J_iconst 8 17 := ftl_X4_set_15
theorem ft_X4_set_17 : F_X4_set 17 = J_icgt 34 20 := ftl_X4_set_17
theorem ft_X4_set_20 : F_X4_set 20 = J_aload 0 21 := ftl_X4_set_20
theorem ft_X4_set_21 : F_X4_set 21 = J_getfield 4 0 24 := ftl_X4_set_21
theorem ft_X4_set_24 : F_X4_set 24 = J_iload 1 25 := ftl_X4_set_24
theorem ft_X4_set_25 : F_X4_set 25 = J_iconst 8 27 := ftl_X4_set_25
theorem ft_X4_set_27 : F_X4_set 27 = J_imul 28 := ftl_X4_set_27
theorem ft_X4_set_28 : F_X4_set 28 = J_iload 2 29 := ftl_X4_set_28
theorem ft_X4_set_29 : F_X4_set 29 = J_iadd 30 := ftl_X4_set_29
theorem ft_X4_set_30 : F_X4_set 30 = J_iconst 1 31 := ftl_X4_set_30
theorem ft_X4_set_31 : F_X4_set 31 = J_isub 32 := ftl_X4_set_31
theorem ft_X4_set_32 : F_X4_set 32 = J_iload 3 33 := ftl_X4_set_32
theorem ft_X4_set_33 : F_X4_set 33 = J_iastore 34 := ftl_X4_set_33
theorem ft_X4_set_34 : F_X4_set 34 = J_return 0 0 := ftl_X4_set_34
theorem ok_X4_set : jMeets Y_X4_set S_X4_set := by
  intro nb vs mem Q h
  match vs, h with
  | [.ref s, .int p, .int w, .int x], h =>
    obtain ⟨⟨d, ⟨C, z, rfl⟩, hs⟩, hQ⟩ := h
    rw [rd_c hs, rset_mem hs] at hQ
    refine Ok.run OK_X4_set [] 40 [] pn4 (Nat.le_of_ble_eq_true rfl) rfl ?_
    simp -implicitDefEqProofs only [jr_0, jr_1, jr_2, j_iconst, j_lconst, j_iload0, j_aload0, j_istore0, j_astore0, j_iinc0, j_iload1, j_aload1, j_istore1, j_astore1, j_iinc1, j_iload2, j_aload2, j_istore2, j_astore2, j_iinc2, j_iload3, j_aload3, j_istore3, j_astore3, j_iinc3, j_iload4, j_aload4, j_istore4, j_astore4, j_iinc4, j_iload5, j_aload5, j_istore5, j_astore5, j_iinc5, j_iload6, j_aload6, j_istore6, j_astore6, j_iinc6, j_iload7, j_aload7, j_istore7, j_astore7, j_iinc7, j_iload8, j_aload8, j_istore8, j_astore8, j_iinc8, j_iadd, j_isub, j_imul, j_iand, j_ior, j_ixor, j_ishl, j_ishr, j_iushr, j_idiv, j_irem, j_ineg, j_ladd, j_lmul, j_land, j_lor, j_lcmp, j_lushr, j_lshl, j_i2l, j_l2i, j_dupI, j_dupR, j_popI, j_dup2, j_ifeq, j_iceq, j_ifne, j_icne, j_iflt, j_iclt, j_ifge, j_icge, j_ifgt, j_icgt, j_ifle, j_icle, j_goto, j_tsw, j_sw0, j_sw1, j_ireturn, j_zreturn, j_lreturn, j_return, j_getfield, j_putI, j_putJ, j_putR, j_iaload, j_baload, j_iastore, j_bastore, j_aaload, j_q, j_aastore, j_acopy, j_mmin, j_mmax, j_mabs, j_objinit, j_new, j_newI, j_newQ, j_sld, j_slen, j_callV0, j_callI0, j_callS0, j_callV1, j_callI1, j_callS1, j_callV2, j_callI2, j_callS2, j_callV3, j_callS3, j_callV4, j_callS4, j_callV5, j_callS5, j_pushS, j_pushN, j_sh0, j_sh1, j_sh2, j_sh3, j_sh4, Int32.reduceAdd, Int32.reduceMul, Int32.reduceSub, Int32.reduceLT, Int32.reduceLE, eq_self, i32_10, i32_01, ne_eq, hrow_s, hrow_n, ne10, ne100, ne1000, ne7, ne4, ne14, ne9973, or_true, true_or, or_false, false_or, not_true_eq_false, not_false_eq_true, false_implies, implies_true, and_true, forall_const, true_implies, jargs_n, jargs_r, jargs_i, List.cons_append, List.nil_append, true_and, Nat.reduceEqDiff, reduceIte, ft_X4_set_0, ft_X4_set_1, ft_X4_set_4, ft_X4_set_5, ft_X4_set_6, ft_X4_set_9, ft_X4_set_10, ft_X4_set_11, ft_X4_set_14, ft_X4_set_15, ft_X4_set_17, ft_X4_set_20, ft_X4_set_21, ft_X4_set_24, ft_X4_set_25, ft_X4_set_27, ft_X4_set_28, ft_X4_set_29, ft_X4_set_30, ft_X4_set_31, ft_X4_set_32, ft_X4_set_33, ft_X4_set_34, jfld_s0 hs, jast_c hs]
    unfold rset at hQ
    by_cases hc : p < 0 ∨ 4 ≤ p ∨ w < 1 ∨ 8 < w
    · rw [if_pos hc, hrow_self] at hQ
      refine ⟨fun _ => hQ, fun h1 => ⟨fun _ => hQ, fun h2 => ⟨fun _ => hQ, fun h3 => ⟨fun _ => hQ, fun h4 => ?_⟩⟩⟩⟩
      rcases hc with q | q | q | q
      exact absurd q h1
      exact absurd q h2
      exact absurd q h3
      exact absurd q h4
    · rw [if_neg hc] at hQ
      obtain ⟨i, hi, e⟩ := rset_in hc
      rw [e] at hQ ⊢
      exact ⟨fun q => absurd (Or.inl q) hc, fun h1 => ⟨fun q => absurd (Or.inr (Or.inl q)) hc, fun h2 => ⟨fun q => absurd (Or.inr (Or.inr (Or.inl q))) hc, fun h3 => ⟨fun q => absurd (Or.inr (Or.inr (Or.inr q))) hc, fun h4 => ⟨vp_in_nI hi (by decide), hQ⟩⟩⟩⟩⟩
def rsetRf (f : Nat → Int32) (c x : Int32) : Nat → Int32 := if c < 0 ∨ 6 ≤ c then f else upd f c.toNatClampNeg x
def rsetR (ρ : Nat → Int32) (c x : Int32) : Nat → Int32 := if c < 0 ∨ 6 ≤ c then ρ else upd ρ (32 + c.toNatClampNeg) x
theorem rsetR_at {ρ : Nat → Int32} {c : Nat} {x : Int32} (hc : c < 6) : rsetR ρ (nI c) x = upd ρ (32 + c) x := by
  unfold rsetR
  rw [if_neg (by rintro (q | q); exact nI_pos (by omega) q; exact nI_ge hc (by decide) q), nI_clamp (by omega)]
theorem rsetR_in {c : Int32} (h : ¬ (c < 0 ∨ 6 ≤ c)) : ∃ i, i < 6 ∧ c = nI i := i32_6 (fun q => h (Or.inl q)) (fun q => h (Or.inr q))
theorem rsetR_mem {d s : Nat} {C : Nat → Nat → Int32} {z : Nat → Int64} (h : jSt s d) {c x : Int32} : jup (memS d C z) (s + 2) (.inl (false, 6, rsetRf (restOf (C s)) c x)) = memS d (hrow C s (rsetR (C s) c x)) z := by
  unfold rsetRf rsetR
  by_cases hc : c < 0 ∨ 6 ≤ c
  · rw [if_pos hc, if_pos hc]
    exact memS_str h rfl fun _ _ => rfl
  · rw [if_neg hc, if_neg hc]
    obtain ⟨i, hi, rfl⟩ := rsetR_in hc
    rw [nI_clamp (by omega)]
    exact memS_str h (restOf_upd hi) fun j hj => upd_ne (by omega)
def S_X4_setRest : jSp := fun _ vs mem Q => match vs with
  | [.ref s, .int c, .int x] => (∃ d, isS d mem ∧ jSt s d) ∧ Q none (jup mem (s + 2) (.inl (false, 6, rsetRf (rd mem (s + 2)) c x)))
  | _ => False
theorem s_X4_setRest {nb d s : Nat} {C : Nat → Nat → Int32} {z : Nat → Int64} {c x : Int32} {Q : jQ} (h : jSt s d) : S_X4_setRest nb [.ref s, .int c, .int x] (memS d C z) Q = Q none (memS d (hrow C s (rsetR (C s) c x)) z) := by
  show (_ ∧ Q none (jup (memS d C z) (s + 2) (.inl (false, 6, rsetRf (rd (memS d C z) (s + 2)) c x)))) = _
  rw [rd_r h, eq_and ⟨d, isS_i, h⟩, rsetR_mem h]
def F_X4_setRest_0 : Nat → jT := fun pc => (bif Nat.blt pc 10 then (bif Nat.blt pc 4 then (bif Nat.blt pc 1 then (bif Nat.beq pc 0 then J_iload 1 1 else jbad) else (bif Nat.beq pc 1 then J_iflt 17 4 else jbad)) else (bif Nat.blt pc 5 then (bif Nat.beq pc 4 then J_iload 1 5 else jbad) else (bif Nat.blt pc 7 then (bif Nat.beq pc 5 then J_iconst 6 7 else jbad) else (bif Nat.beq pc 7 then J_icge 17 10 else jbad)))) else (bif Nat.blt pc 15 then (bif Nat.blt pc 11 then (bif Nat.beq pc 10 then J_aload 0 11 else jbad) else (bif Nat.blt pc 14 then (bif Nat.beq pc 11 then J_getfield 4 1 14 else jbad) else (bif Nat.beq pc 14 then J_iload 1 15 else jbad))) else (bif Nat.blt pc 16 then (bif Nat.beq pc 15 then J_iload 2 16 else jbad) else (bif Nat.blt pc 17 then (bif Nat.beq pc 16 then J_iastore 17 else jbad) else (bif Nat.beq pc 17 then J_return 0 0 else jbad)))))
theorem ftl_X4_setRest_0 : F_X4_setRest_0 0 = J_iload 1 1 := rfl
theorem ftl_X4_setRest_1 : F_X4_setRest_0 1 = J_iflt 17 4 := rfl
theorem ftl_X4_setRest_4 : F_X4_setRest_0 4 = J_iload 1 5 := rfl
theorem ftl_X4_setRest_5 : F_X4_setRest_0 5 = J_iconst 6 7 := rfl
theorem ftl_X4_setRest_7 : F_X4_setRest_0 7 = J_icge 17 10 := rfl
theorem ftl_X4_setRest_10 : F_X4_setRest_0 10 = J_aload 0 11 := rfl
theorem ftl_X4_setRest_11 : F_X4_setRest_0 11 = J_getfield 4 1 14 := rfl
theorem ftl_X4_setRest_14 : F_X4_setRest_0 14 = J_iload 1 15 := rfl
theorem ftl_X4_setRest_15 : F_X4_setRest_0 15 = J_iload 2 16 := rfl
theorem ftl_X4_setRest_16 : F_X4_setRest_0 16 = J_iastore 17 := rfl
theorem ftl_X4_setRest_17 : F_X4_setRest_0 17 = J_return 0 0 := rfl
theorem F_X4_setRest_0_ok : jOK Y_X4_setRest none (F_X4_setRest_0) := (jOK_node (jOK_node (jOK_node (jOK_leaf (sn_iload_n dX4_setRest_0 rfl rfl)) (jOK_leaf (sn_iflt dX4_setRest_1 rfl rfl))) (jOK_node (jOK_leaf (sn_iload_n dX4_setRest_4 rfl rfl)) (jOK_node (jOK_leaf (sn_bipush dX4_setRest_5 rfl rfl)) (jOK_leaf (sn_icge dX4_setRest_7 rfl rfl))))) (jOK_node (jOK_node (jOK_leaf (sn_aload_n dX4_setRest_10 rfl rfl)) (jOK_node (jOK_leaf (sn_getfield dX4_setRest_11 rfl rfl (by decide) tw_90 jin4)) (jOK_leaf (sn_iload_n dX4_setRest_14 rfl rfl)))) (jOK_node (jOK_leaf (sn_iload_n dX4_setRest_15 rfl rfl)) (jOK_node (jOK_leaf (sn_iastore dX4_setRest_16 rfl)) (jOK_leaf (sn_return dX4_setRest_17 rfl rfl))))))
def F_X4_setRest : Nat → jT := F_X4_setRest_0
theorem OK_X4_setRest : jOK Y_X4_setRest none (F_X4_setRest) := F_X4_setRest_0_ok
theorem ft_X4_setRest_0 : F_X4_setRest 0 = J_iload 1 1 := ftl_X4_setRest_0
theorem ft_X4_setRest_1 : F_X4_setRest 1 = J_iflt 17 4 := ftl_X4_setRest_1
theorem ft_X4_setRest_4 : F_X4_setRest 4 = J_iload 1 5 := ftl_X4_setRest_4
theorem ft_X4_setRest_5 : F_X4_setRest 5 = J_iconst 6 7 := ftl_X4_setRest_5
theorem ft_X4_setRest_7 : F_X4_setRest 7 = J_icge 17 10 := ftl_X4_setRest_7
theorem ft_X4_setRest_10 : F_X4_setRest 10 = J_aload 0 11 := ftl_X4_setRest_10
theorem ft_X4_setRest_11 : F_X4_setRest 11 = J_getfield 4 1 14 := ftl_X4_setRest_11
theorem ft_X4_setRest_14 : F_X4_setRest 14 = J_iload 1 15 := ftl_X4_setRest_14
theorem ft_X4_setRest_15 : F_X4_setRest 15 = J_iload 2 16 := ftl_X4_setRest_15
theorem ft_X4_setRest_16 : F_X4_setRest 16 = J_iastore 17 := ftl_X4_setRest_16
theorem ft_X4_setRest_17 : F_X4_setRest 17 = J_return 0 0 := ftl_X4_setRest_17
theorem ok_X4_setRest : jMeets Y_X4_setRest S_X4_setRest := by
  intro nb vs mem Q h
  match vs, h with
  | [.ref s, .int c, .int x], h =>
    obtain ⟨⟨d, ⟨C, z, rfl⟩, hs⟩, hQ⟩ := h
    rw [rd_r hs, rsetR_mem hs] at hQ
    refine Ok.run OK_X4_setRest [] 40 [] pn4 (Nat.le_of_ble_eq_true rfl) rfl ?_
    simp -implicitDefEqProofs only [jr_0, jr_1, jr_2, j_iconst, j_lconst, j_iload0, j_aload0, j_istore0, j_astore0, j_iinc0, j_iload1, j_aload1, j_istore1, j_astore1, j_iinc1, j_iload2, j_aload2, j_istore2, j_astore2, j_iinc2, j_iload3, j_aload3, j_istore3, j_astore3, j_iinc3, j_iload4, j_aload4, j_istore4, j_astore4, j_iinc4, j_iload5, j_aload5, j_istore5, j_astore5, j_iinc5, j_iload6, j_aload6, j_istore6, j_astore6, j_iinc6, j_iload7, j_aload7, j_istore7, j_astore7, j_iinc7, j_iload8, j_aload8, j_istore8, j_astore8, j_iinc8, j_iadd, j_isub, j_imul, j_iand, j_ior, j_ixor, j_ishl, j_ishr, j_iushr, j_idiv, j_irem, j_ineg, j_ladd, j_lmul, j_land, j_lor, j_lcmp, j_lushr, j_lshl, j_i2l, j_l2i, j_dupI, j_dupR, j_popI, j_dup2, j_ifeq, j_iceq, j_ifne, j_icne, j_iflt, j_iclt, j_ifge, j_icge, j_ifgt, j_icgt, j_ifle, j_icle, j_goto, j_tsw, j_sw0, j_sw1, j_ireturn, j_zreturn, j_lreturn, j_return, j_getfield, j_putI, j_putJ, j_putR, j_iaload, j_baload, j_iastore, j_bastore, j_aaload, j_q, j_aastore, j_acopy, j_mmin, j_mmax, j_mabs, j_objinit, j_new, j_newI, j_newQ, j_sld, j_slen, j_callV0, j_callI0, j_callS0, j_callV1, j_callI1, j_callS1, j_callV2, j_callI2, j_callS2, j_callV3, j_callS3, j_callV4, j_callS4, j_callV5, j_callS5, j_pushS, j_pushN, j_sh0, j_sh1, j_sh2, j_sh3, j_sh4, Int32.reduceAdd, Int32.reduceMul, Int32.reduceSub, Int32.reduceLT, Int32.reduceLE, eq_self, i32_10, i32_01, ne_eq, hrow_s, hrow_n, ne10, ne100, ne1000, ne7, ne4, ne14, ne9973, or_true, true_or, or_false, false_or, not_true_eq_false, not_false_eq_true, false_implies, implies_true, and_true, forall_const, true_implies, jargs_n, jargs_r, jargs_i, List.cons_append, List.nil_append, true_and, Nat.reduceEqDiff, reduceIte, ft_X4_setRest_0, ft_X4_setRest_1, ft_X4_setRest_4, ft_X4_setRest_5, ft_X4_setRest_7, ft_X4_setRest_10, ft_X4_setRest_11, ft_X4_setRest_14, ft_X4_setRest_15, ft_X4_setRest_16, ft_X4_setRest_17, jfld_s1 hs, jast_r hs]
    unfold rsetR at hQ
    by_cases hc : c < 0 ∨ 6 ≤ c
    · rw [if_pos hc, hrow_self] at hQ
      refine ⟨fun _ => hQ, fun h1 => ⟨fun _ => hQ, fun h2 => ?_⟩⟩
      rcases hc with q | q
      exact absurd q h1
      exact absurd q h2
    · rw [if_neg hc] at hQ
      obtain ⟨i, hi, rfl⟩ := rsetR_in hc
      exact ⟨fun q => absurd (Or.inl q) hc, fun h1 => ⟨fun q => absurd (Or.inr q) hc, fun h2 => ⟨vp_in_nI hi (by decide), hQ⟩⟩⟩
