/-! numbers: Int32 that stand for small Nats -/
theorem i32_rng {n : Int32} {m : Nat} (hm : m < 2 ^ 31) (h0 : ¬ n < 0) (h1 : ¬ nI m ≤ n) : ∃ k, k < m ∧ n = nI k := by
  rcases pk_ix n (n := m) (by omega) with h | h | h
  · exact absurd h h0
  · exact absurd h h1
  · exact h
theorem i32_99 {n : Int32} (h0 : 0 ≤ n) (h1 : n ≤ 99) : ∃ k, k < 100 ∧ n = nI k := by
  refine i32_rng (m := 100) (by decide) (Int32.not_lt.mpr h0) fun q => ?_
  have := Int32.le_trans q h1
  exact absurd this (by decide)
theorem i32_btw {n : Int32} {a b : Nat} (ha : a < 2 ^ 31) (hb : b < 2 ^ 31) (h0 : nI a ≤ n) (h1 : n ≤ nI b) : ∃ k, a ≤ k ∧ k ≤ b ∧ n = nI k := by
  have e0 := nI_toInt ha
  have e1 := nI_toInt hb
  rw [Int32.le_iff_toInt_le] at h0 h1
  refine ⟨n.toInt.toNat, by omega, by omega, ?_⟩
  apply Int32.toInt_inj.mp
  rw [nI_toInt (by omega)]
  omega
theorem nI_inj {a b : Nat} (ha : a < 2 ^ 31) (hb : b < 2 ^ 31) (h : nI a = nI b) : a = b := by
  have := congrArg Int32.toInt h
  rw [nI_toInt ha, nI_toInt hb] at this
  omega
theorem nI_leq {a b : Nat} (ha : a < 2 ^ 31) (hb : b < 2 ^ 31) : (nI a ≤ nI b) = (a ≤ b) := by
  rw [Int32.le_iff_toInt_le, nI_toInt ha, nI_toInt hb]
  exact propext Int.ofNat_le
theorem nI_ltq {a b : Nat} (ha : a < 2 ^ 31) (hb : b < 2 ^ 31) : (nI a < nI b) = (a < b) := by
  rw [Int32.lt_iff_toInt_lt, nI_toInt ha, nI_toInt hb]
  exact propext Int.ofNat_lt
theorem nI_eqq {a b : Nat} (ha : a < 2 ^ 31) (hb : b < 2 ^ 31) : (nI a = nI b) = (a = b) := propext ⟨nI_inj ha hb, fun h => by rw [h]⟩
theorem nI_div {a b : Nat} (ha : a < 2 ^ 31) (hb : b < 2 ^ 31) (h0 : 0 < b) : nI a / nI b = nI (a / b) := by
  have h1 : a / b ≤ a := Nat.div_le_self _ _
  apply Int32.toInt_inj.mp
  rw [Int32.toInt_div, nI_toInt ha, nI_toInt hb, nI_toInt (by omega)]
  have e : ((a : Int).tdiv (b : Int)) = ((a / b : Nat) : Int) := by rw [Int.ofNat_tdiv]
  rw [e]
  clear e
  generalize a / b = q at h1 ⊢
  apply Int.bmod_eq_of_le
  · omega
  · omega
theorem nI_sub {a b : Nat} (h : b ≤ a) (ha : a < 2 ^ 31) : nI a - nI b = nI (a - b) := by
  apply Int32.toInt_inj.mp
  rw [Int32.toInt_sub, nI_toInt ha, nI_toInt (by omega), nI_toInt (by omega), Int.ofNat_sub h]
  apply Int.bmod_eq_of_le <;> omega
theorem nI_mul {a b : Nat} (h : a * b < 2 ^ 31) (ha : a < 2 ^ 31) (hb : b < 2 ^ 31) : nI a * nI b = nI (a * b) := by
  apply Int32.toInt_inj.mp
  rw [Int32.toInt_mul, nI_toInt ha, nI_toInt hb, nI_toInt h, ← Int.natCast_mul]
  apply Int.bmod_eq_of_le <;> omega
theorem nI_mod {a b : Nat} (ha : a < 2 ^ 31) (hb : b < 2 ^ 31) (h0 : 0 < b) : nI a - nI a / nI b * nI b = nI (a % b) := by
  have h1 : a / b * b ≤ a := Nat.div_mul_le_self _ _
  have h2 : a / b ≤ a := Nat.div_le_self _ _
  rw [nI_div ha hb h0, nI_mul (by omega) (by omega) hb, nI_sub h1 ha]
  congr 1
  have := Nat.div_add_mod a b
  rw [Nat.mul_comm] at this
  omega
/-! what the class's own facts are: RC C P -/
def RC (C : Nat → Nat → Int32) (P : Nat) : Prop := C 3 2 = nI P ∧ P ≤ 4 ∧ Cut (C 9) ∧ Cut (C 12)
theorem RC.hP {C : Nat → Nat → Int32} {P : Nat} (h : RC C P) : C 3 2 = nI P := h.1
theorem RC.h4 {C : Nat → Nat → Int32} {P : Nat} (h : RC C P) : P ≤ 4 := h.2.1
theorem RC.c9 {C : Nat → Nat → Int32} {P : Nat} (h : RC C P) : Cut (C 9) := h.2.2.1
theorem RC.c12 {C : Nat → Nat → Int32} {P : Nat} (h : RC C P) : Cut (C 12) := h.2.2.2
theorem RC.hv {C C' : Nat → Nat → Int32} {P : Nat} (h : RC C P) (v : Hv C C') : RC C' P := ⟨by rw [v.r 3 rfl]; exact h.hP, h.h4, by rw [v.r 9 rfl]; exact h.c9, v.2⟩
theorem RC.rf {C : Nat → Nat → Int32} {P : Nat} (h : RC C P) : Hv C C := Hv.rf h.c12
theorem RC.go {C C' : Nat → Nat → Int32} {P : Nat} (h : RC C P) (v : Hv C C') : Hv C (hrow C' 12 (C 9)) := v.h12 h.c9
/-- take, in a havocked memory -/
theorem s_takeH {nb P : Nat} {C C' : Nat → Nat → Int32} {z : Nat → Int64} {Q : jQ} (r : RC C P) (v : Hv C C') : S_X4_take nb [.ref 12, .ref 9] (memS 94 C' z) Q = Q none (memS 94 (hrow C' 12 (C 9)) z) := by
  rw [s_takeT v.2 (by rw [v.r 9 rfl]; exact r.c9), v.r 9 rfl]
/-! History -/
def nxt (n : Nat) : Nat := if n + 1 < 14 then n + 1 else 0
def prv (n : Nat) : Nat := if 0 < n then n - 1 else 13
def rememC (C : Nat → Nat → Int32) (nx ct : Nat) : Nat → Nat → Int32 := hrow (hrow C (17 + 3 * nx) (C 9)) 15 (upd (upd (C 15) 1 (nI (nxt nx))) 2 (nI (min (ct + 1) 14)))
theorem minI_nI {a b : Nat} (ha : a < 2 ^ 31) (hb : b < 2 ^ 31) : minI (nI a) (nI b) = nI (min a b) := by
  unfold minI
  have e := nI_ltq hb ha
  by_cases h : b < a
  · have h2 : nI b < nI a := by rw [e]; exact h
    rw [Nat.min_eq_right (by omega), if_pos h2]
  · have h2 : ¬ nI b < nI a := by rw [e]; exact h
    rw [Nat.min_eq_left (by omega), if_neg h2]
def F_X1_remember_0 : Nat → jT := fun pc => (bif Nat.blt pc 13 then (bif Nat.blt pc 5 then (bif Nat.blt pc 1 then (bif Nat.beq pc 0 then J_aload 0 1 else jbad) else (bif Nat.blt pc 4 then (bif Nat.beq pc 1 then J_getfield 1 0 4 else jbad) else (bif Nat.beq pc 4 then J_aload 0 5 else jbad))) else (bif Nat.blt pc 9 then (bif Nat.blt pc 8 then (bif Nat.beq pc 5 then J_getfield 1 1 8 else jbad) else (bif Nat.beq pc 8 then J_aaload 9 else jbad)) else (bif Nat.blt pc 10 then (bif Nat.beq pc 9 then J_aload 1 10 else jbad) else (bif Nat.beq pc 10 then J_callV 4 S_X4_take 1 13 else jbad)))) else (bif Nat.blt pc 19 then (bif Nat.blt pc 15 then (bif Nat.blt pc 14 then (bif Nat.beq pc 13 then J_aload 0 14 else jbad) else (bif Nat.beq pc 14 then J_aload 0 15 else jbad)) else (bif Nat.blt pc 18 then (bif Nat.beq pc 15 then J_getfield 1 1 18 else jbad) else (bif Nat.beq pc 18 then J_iconst 1 19 else jbad))) else (bif Nat.blt pc 22 then (bif Nat.blt pc 20 then (bif Nat.beq pc 19 then J_iadd 20 else jbad) else (bif Nat.beq pc 20 then J_iconst 14 22 else jbad)) else (bif Nat.blt pc 25 then (bif Nat.beq pc 22 then J_icge 34 25 else jbad) else (bif Nat.beq pc 25 then J_aload 0 26 else jbad)))))
theorem ftl_X1_remember_0 : F_X1_remember_0 0 = J_aload 0 1 := rfl
theorem ftl_X1_remember_1 : F_X1_remember_0 1 = J_getfield 1 0 4 := rfl
theorem ftl_X1_remember_4 : F_X1_remember_0 4 = J_aload 0 5 := rfl
theorem ftl_X1_remember_5 : F_X1_remember_0 5 = J_getfield 1 1 8 := rfl
theorem ftl_X1_remember_8 : F_X1_remember_0 8 = J_aaload 9 := rfl
theorem ftl_X1_remember_9 : F_X1_remember_0 9 = J_aload 1 10 := rfl
theorem ftl_X1_remember_10 : F_X1_remember_0 10 = J_callV 4 S_X4_take 1 13 := rfl
theorem ftl_X1_remember_13 : F_X1_remember_0 13 = J_aload 0 14 := rfl
theorem ftl_X1_remember_14 : F_X1_remember_0 14 = J_aload 0 15 := rfl
theorem ftl_X1_remember_15 : F_X1_remember_0 15 = J_getfield 1 1 18 := rfl
theorem ftl_X1_remember_18 : F_X1_remember_0 18 = J_iconst 1 19 := rfl
theorem ftl_X1_remember_19 : F_X1_remember_0 19 = J_iadd 20 := rfl
theorem ftl_X1_remember_20 : F_X1_remember_0 20 = J_iconst 14 22 := rfl
theorem ftl_X1_remember_22 : F_X1_remember_0 22 = J_icge 34 25 := rfl
theorem ftl_X1_remember_25 : F_X1_remember_0 25 = J_aload 0 26 := rfl
theorem F_X1_remember_0_ok : jOK Y_X1_remember none (F_X1_remember_0) := (jOK_node (jOK_node (jOK_node (jOK_leaf (sn_aload_n dX1_remember_0 rfl rfl)) (jOK_node (jOK_leaf (sn_getfield dX1_remember_1 rfl rfl (by decide) tw_115 jin1)) (jOK_leaf (sn_aload_n dX1_remember_4 rfl rfl)))) (jOK_node (jOK_node (jOK_leaf (sn_getfield dX1_remember_5 rfl rfl (by decide) tw_116 jin1)) (jOK_leaf (sn_aaload dX1_remember_8 rfl))) (jOK_node (jOK_leaf (sn_aload_n dX1_remember_9 rfl rfl)) (jOK_leaf (sn_callV (Y' := Y_X4_take) ok_X4_take dX1_remember_10 rfl rfl rfl tw_410 tw_332 tw_333 tw_5 jc_X4_take rfl ⟨by decide, by decide, rfl⟩ ⟨by decide, by decide⟩))))) (jOK_node (jOK_node (jOK_node (jOK_leaf (sn_aload_n dX1_remember_13 rfl rfl)) (jOK_leaf (sn_aload_n dX1_remember_14 rfl rfl))) (jOK_node (jOK_leaf (sn_getfield dX1_remember_15 rfl rfl (by decide) tw_116 jin1)) (jOK_leaf (sn_iconst dX1_remember_18 rfl rfl)))) (jOK_node (jOK_node (jOK_leaf (sn_iadd dX1_remember_19 rfl)) (jOK_leaf (sn_bipush dX1_remember_20 rfl rfl))) (jOK_node (jOK_leaf (sn_icge dX1_remember_22 rfl rfl)) (jOK_leaf (sn_aload_n dX1_remember_25 rfl rfl))))))
def F_X1_remember_26 : Nat → jT := fun pc => (bif Nat.blt pc 39 then (bif Nat.blt pc 31 then (bif Nat.blt pc 29 then (bif Nat.beq pc 26 then J_getfield 1 1 29 else jbad) else (bif Nat.blt pc 30 then (bif Nat.beq pc 29 then J_iconst 1 30 else jbad) else (bif Nat.beq pc 30 then J_iadd 31 else jbad))) else (bif Nat.blt pc 35 then (bif Nat.blt pc 34 then (bif Nat.beq pc 31 then J_goto 35 else jbad) else (bif Nat.beq pc 34 then J_iconst 0 35 else jbad)) else (bif Nat.blt pc 38 then (bif Nat.beq pc 35 then J_putI 1 1 38 else jbad) else (bif Nat.beq pc 38 then J_aload 0 39 else jbad)))) else (bif Nat.blt pc 45 then (bif Nat.blt pc 43 then (bif Nat.blt pc 40 then (bif Nat.beq pc 39 then J_aload 0 40 else jbad) else (bif Nat.beq pc 40 then J_getfield 1 2 43 else jbad)) else (bif Nat.blt pc 44 then (bif Nat.beq pc 43 then J_iconst 1 44 else jbad) else (bif Nat.beq pc 44 then J_iadd 45 else jbad))) else (bif Nat.blt pc 50 then (bif Nat.blt pc 47 then (bif Nat.beq pc 45 then J_iconst 14 47 else jbad) else (bif Nat.beq pc 47 then J_mmin 50 else jbad)) else (bif Nat.blt pc 53 then (bif Nat.beq pc 50 then J_putI 1 2 53 else jbad) else (bif Nat.beq pc 53 then J_return 0 0 else jbad)))))
theorem ftl_X1_remember_26 : F_X1_remember_26 26 = J_getfield 1 1 29 := rfl
theorem ftl_X1_remember_29 : F_X1_remember_26 29 = J_iconst 1 30 := rfl
theorem ftl_X1_remember_30 : F_X1_remember_26 30 = J_iadd 31 := rfl
theorem ftl_X1_remember_31 : F_X1_remember_26 31 = J_goto 35 := rfl
theorem ftl_X1_remember_34 : F_X1_remember_26 34 = J_iconst 0 35 := rfl
theorem ftl_X1_remember_35 : F_X1_remember_26 35 = J_putI 1 1 38 := rfl
theorem ftl_X1_remember_38 : F_X1_remember_26 38 = J_aload 0 39 := rfl
theorem ftl_X1_remember_39 : F_X1_remember_26 39 = J_aload 0 40 := rfl
theorem ftl_X1_remember_40 : F_X1_remember_26 40 = J_getfield 1 2 43 := rfl
theorem ftl_X1_remember_43 : F_X1_remember_26 43 = J_iconst 1 44 := rfl
theorem ftl_X1_remember_44 : F_X1_remember_26 44 = J_iadd 45 := rfl
theorem ftl_X1_remember_45 : F_X1_remember_26 45 = J_iconst 14 47 := rfl
theorem ftl_X1_remember_47 : F_X1_remember_26 47 = J_mmin 50 := rfl
theorem ftl_X1_remember_50 : F_X1_remember_26 50 = J_putI 1 2 53 := rfl
theorem ftl_X1_remember_53 : F_X1_remember_26 53 = J_return 0 0 := rfl
theorem F_X1_remember_26_ok : jOK Y_X1_remember none (F_X1_remember_26) := (jOK_node (jOK_node (jOK_node (jOK_leaf (sn_getfield dX1_remember_26 rfl rfl (by decide) tw_116 jin1)) (jOK_node (jOK_leaf (sn_iconst dX1_remember_29 rfl rfl)) (jOK_leaf (sn_iadd dX1_remember_30 rfl)))) (jOK_node (jOK_node (jOK_leaf (sn_goto dX1_remember_31 rfl)) (jOK_leaf (sn_iconst dX1_remember_34 rfl rfl))) (jOK_node (jOK_leaf (sn_putI tyX1 dX1_remember_35 rfl rfl (by decide) tw_116 jin1 tyX1_ok nmX1 rfl rfl)) (jOK_leaf (sn_aload_n dX1_remember_38 rfl rfl))))) (jOK_node (jOK_node (jOK_node (jOK_leaf (sn_aload_n dX1_remember_39 rfl rfl)) (jOK_leaf (sn_getfield dX1_remember_40 rfl rfl (by decide) tw_117 jin1))) (jOK_node (jOK_leaf (sn_iconst dX1_remember_43 rfl rfl)) (jOK_leaf (sn_iadd dX1_remember_44 rfl)))) (jOK_node (jOK_node (jOK_leaf (sn_bipush dX1_remember_45 rfl rfl)) (jOK_leaf (sn_mmin dX1_remember_47 rfl tw_411 tw_377 tw_10 tw_378 ⟨by decide, by decide⟩))) (jOK_node (jOK_leaf (sn_putI tyX1 dX1_remember_50 rfl rfl (by decide) tw_117 jin1 tyX1_ok nmX1 rfl rfl)) (jOK_leaf (sn_return dX1_remember_53 rfl rfl))))))
def F_X1_remember_0_53 : Nat → jT := fun pc => bif Nat.blt pc 26 then F_X1_remember_0 pc else F_X1_remember_26 pc
theorem F_X1_remember_0_53_ok : jOK Y_X1_remember none (F_X1_remember_0_53) := jOK_node (F_X1_remember_0_ok) (F_X1_remember_26_ok)
def F_X1_remember : Nat → jT := F_X1_remember_0_53
theorem OK_X1_remember : jOK Y_X1_remember none (F_X1_remember) := F_X1_remember_0_53_ok
theorem ft_X1_remember_0 : F_X1_remember 0 = J_aload 0 1 := ftl_X1_remember_0
theorem ft_X1_remember_1 : F_X1_remember 1 = J_getfield 1 0 4 := ftl_X1_remember_1
theorem ft_X1_remember_4 : F_X1_remember 4 = J_aload 0 5 := ftl_X1_remember_4
theorem ft_X1_remember_5 : F_X1_remember 5 = J_getfield 1 1 8 := ftl_X1_remember_5
theorem ft_X1_remember_8 : F_X1_remember 8 = J_aaload 9 := ftl_X1_remember_8
theorem ft_X1_remember_9 : F_X1_remember 9 = J_aload 1 10 := ftl_X1_remember_9
theorem ft_X1_remember_10 : F_X1_remember 10 = J_callV 4 S_X4_take 1 13 := ftl_X1_remember_10
theorem ft_X1_remember_13 : F_X1_remember 13 = J_aload 0 14 := ftl_X1_remember_13
theorem ft_X1_remember_14 : F_X1_remember 14 = J_aload 0 15 := ftl_X1_remember_14
theorem ft_X1_remember_15 : F_X1_remember 15 = J_getfield 1 1 18 := ftl_X1_remember_15
theorem ft_X1_remember_18 : F_X1_remember 18 = J_iconst 1 19 := ftl_X1_remember_18
theorem ft_X1_remember_19 : F_X1_remember 19 = J_iadd 20 := ftl_X1_remember_19
theorem ft_X1_remember_20 : F_X1_remember 20 = J_iconst 14 22 := ftl_X1_remember_20
theorem ft_X1_remember_22 : F_X1_remember 22 = J_icge 34 25 := ftl_X1_remember_22
theorem ft_X1_remember_25 : F_X1_remember 25 = J_aload 0 26 := ftl_X1_remember_25
theorem ft_X1_remember_26 : F_X1_remember 26 = J_getfield 1 1 29 := ftl_X1_remember_26
theorem ft_X1_remember_29 : F_X1_remember 29 = J_iconst 1 30 := ftl_X1_remember_29
theorem ft_X1_remember_30 : F_X1_remember 30 = J_iadd 31 := ftl_X1_remember_30
theorem ft_X1_remember_31 : F_X1_remember 31 = J_goto 35 := ftl_X1_remember_31
theorem ft_X1_remember_34 : F_X1_remember 34 = J_iconst 0 35 := ftl_X1_remember_34
theorem ft_X1_remember_35 : F_X1_remember 35 = J_putI 1 1 38 := ftl_X1_remember_35
theorem ft_X1_remember_38 : F_X1_remember 38 = J_aload 0 39 := ftl_X1_remember_38
theorem ft_X1_remember_39 : F_X1_remember 39 = J_aload 0 40 := ftl_X1_remember_39
theorem ft_X1_remember_40 : F_X1_remember 40 = J_getfield 1 2 43 := ftl_X1_remember_40
theorem ft_X1_remember_43 : F_X1_remember 43 = J_iconst 1 44 := ftl_X1_remember_43
theorem ft_X1_remember_44 : F_X1_remember 44 = J_iadd 45 := ftl_X1_remember_44
theorem ft_X1_remember_45 : F_X1_remember 45 = J_iconst 14 47 := ftl_X1_remember_45
theorem ft_X1_remember_47 : F_X1_remember 47 = J_mmin 50 := ftl_X1_remember_47
theorem ft_X1_remember_50 : F_X1_remember 50 = J_putI 1 2 53 := ftl_X1_remember_50
theorem ft_X1_remember_53 : F_X1_remember 53 = J_return 0 0 := ftl_X1_remember_53
def S_X1_remember : jSp := fun nb vs mem Q => jcs vs ≤ 2 ∧ jrun F_X1_remember [] 60 Q (fun _ _ _ _ _ => False) 0 (jargs vs ++ []) [] mem (nb, 0, 0)
theorem ok_X1_remember : jMeets Y_X1_remember S_X1_remember := fun _ _ _ _ h => Ok.inl OK_X1_remember 60 [] pn1 rfl h
theorem s_X1_remember {nb nx ct : Nat} {C : Nat → Nat → Int32} {z : Nat → Int64} {Q : jQ} (hn : C 15 1 = nI nx) (hn14 : nx < 14) (hc : C 15 2 = nI ct) (hc14 : ct ≤ 14) (c9 : Cut (C 9)) (cr : Cut (C (17 + 3 * nx))) : S_X1_remember nb [.ref 15, .ref 9] (memS 94 C z) Q = Q none (memS 94 (rememC C nx ct) z) := by
  refine (eq_le rfl).trans ?_
  have n1 : (15 = 17 + 3 * nx) = False := eq_false (by omega)
  have e1 : C 15 1 + 1 = nI (nx + 1) := by rw [hn]; exact nI_1 nx
  have e2 : C 15 2 + 1 = nI (ct + 1) := by rw [hc]; exact nI_1 ct
  have e3 : minI (nI (ct + 1)) 14 = nI (min (ct + 1) 14) := minI_nI (b := 14) (by omega) (by decide)
  by_cases h : nx + 1 < 14
  · have c1 : (14 ≤ nI (nx + 1)) = False := eq_false (nI_ge (b := 14) h (by decide))
    have : rememC C nx ct = hrow (hrow C (17 + 3 * nx) (C 9)) 15 (upd (upd (C 15) 1 (nI (nx + 1))) 2 (nI (min (ct + 1) 14))) := by unfold rememC nxt; rw [if_pos h]
    rw [this]
    simp -implicitDefEqProofs only [jr_0, jr_1, jr_2, j_iconst, j_lconst, j_iload0, j_aload0, j_istore0, j_astore0, j_iinc0, j_iload1, j_aload1, j_istore1, j_astore1, j_iinc1, j_iload2, j_aload2, j_istore2, j_astore2, j_iinc2, j_iload3, j_aload3, j_istore3, j_astore3, j_iinc3, j_iload4, j_aload4, j_istore4, j_astore4, j_iinc4, j_iload5, j_aload5, j_istore5, j_astore5, j_iinc5, j_iload6, j_aload6, j_istore6, j_astore6, j_iinc6, j_iload7, j_aload7, j_istore7, j_astore7, j_iinc7, j_iload8, j_aload8, j_istore8, j_astore8, j_iinc8, j_iadd, j_isub, j_imul, j_iand, j_ior, j_ixor, j_ishl, j_ishr, j_iushr, j_idiv, j_irem, j_ineg, j_ladd, j_lmul, j_land, j_lor, j_lcmp, j_lushr, j_lshl, j_i2l, j_l2i, j_dupI, j_dupR, j_popI, j_dup2, j_ifeq, j_iceq, j_ifne, j_icne, j_iflt, j_iclt, j_ifge, j_icge, j_ifgt, j_icgt, j_ifle, j_icle, j_goto, j_tsw, j_sw0, j_sw1, j_ireturn, j_zreturn, j_lreturn, j_return, j_getfield, j_putI, j_putJ, j_putR, j_iaload, j_baload, j_iastore, j_bastore, j_aaload, j_q, j_aastore, j_acopy, j_mmin, j_mmax, j_mabs, j_objinit, j_new, j_newI, j_newQ, j_sld, j_slen, j_callV0, j_callI0, j_callS0, j_callV1, j_callI1, j_callS1, j_callV2, j_callI2, j_callS2, j_callV3, j_callS3, j_callV4, j_callS4, j_callV5, j_callS5, j_pushS, j_pushN, j_sh0, j_sh1, j_sh2, j_sh3, j_sh4, Int32.reduceAdd, Int32.reduceMul, Int32.reduceSub, Int32.reduceLT, Int32.reduceLE, eq_self, i32_10, i32_01, ne_eq, hrow_s, hrow_n, ne10, ne100, ne1000, ne7, ne4, ne14, ne9973, or_true, true_or, or_false, false_or, not_true_eq_false, not_false_eq_true, false_implies, implies_true, and_true, forall_const, true_implies, jargs_n, jargs_r, jargs_i, List.cons_append, List.nil_append, true_and, Nat.reduceEqDiff, reduceIte, ft_X1_remember_0, ft_X1_remember_1, ft_X1_remember_4, ft_X1_remember_5, ft_X1_remember_8, ft_X1_remember_9, ft_X1_remember_10, ft_X1_remember_13, ft_X1_remember_14, ft_X1_remember_15, ft_X1_remember_18, ft_X1_remember_19, ft_X1_remember_20, ft_X1_remember_22, ft_X1_remember_25, ft_X1_remember_26, ft_X1_remember_29, ft_X1_remember_30, ft_X1_remember_31, ft_X1_remember_34, ft_X1_remember_35, ft_X1_remember_38, ft_X1_remember_39, ft_X1_remember_40, ft_X1_remember_43, ft_X1_remember_44, ft_X1_remember_45, ft_X1_remember_47, ft_X1_remember_50, ft_X1_remember_53, rc_15, fl_15_0, fl_15_1, fl_15_2, fp_15_1, fp_15_2, hn, jaldq_ring hn14, jrcv_st (js_ring hn14), s_takeC (js_ring hn14) js_9 (by omega) cr c9, nI_1, hrow_hrow, n1, c1, upd_ne (show 2 ≠ 1 by decide), hc, e3]
  · have c1 : (14 ≤ nI (nx + 1)) = True := eq_true (by rw [show nx + 1 = 14 by omega]; decide)
    have : rememC C nx ct = hrow (hrow C (17 + 3 * nx) (C 9)) 15 (upd (upd (C 15) 1 0) 2 (nI (min (ct + 1) 14))) := by unfold rememC nxt; rw [if_neg h]; rfl
    rw [this]
    simp -implicitDefEqProofs only [jr_0, jr_1, jr_2, j_iconst, j_lconst, j_iload0, j_aload0, j_istore0, j_astore0, j_iinc0, j_iload1, j_aload1, j_istore1, j_astore1, j_iinc1, j_iload2, j_aload2, j_istore2, j_astore2, j_iinc2, j_iload3, j_aload3, j_istore3, j_astore3, j_iinc3, j_iload4, j_aload4, j_istore4, j_astore4, j_iinc4, j_iload5, j_aload5, j_istore5, j_astore5, j_iinc5, j_iload6, j_aload6, j_istore6, j_astore6, j_iinc6, j_iload7, j_aload7, j_istore7, j_astore7, j_iinc7, j_iload8, j_aload8, j_istore8, j_astore8, j_iinc8, j_iadd, j_isub, j_imul, j_iand, j_ior, j_ixor, j_ishl, j_ishr, j_iushr, j_idiv, j_irem, j_ineg, j_ladd, j_lmul, j_land, j_lor, j_lcmp, j_lushr, j_lshl, j_i2l, j_l2i, j_dupI, j_dupR, j_popI, j_dup2, j_ifeq, j_iceq, j_ifne, j_icne, j_iflt, j_iclt, j_ifge, j_icge, j_ifgt, j_icgt, j_ifle, j_icle, j_goto, j_tsw, j_sw0, j_sw1, j_ireturn, j_zreturn, j_lreturn, j_return, j_getfield, j_putI, j_putJ, j_putR, j_iaload, j_baload, j_iastore, j_bastore, j_aaload, j_q, j_aastore, j_acopy, j_mmin, j_mmax, j_mabs, j_objinit, j_new, j_newI, j_newQ, j_sld, j_slen, j_callV0, j_callI0, j_callS0, j_callV1, j_callI1, j_callS1, j_callV2, j_callI2, j_callS2, j_callV3, j_callS3, j_callV4, j_callS4, j_callV5, j_callS5, j_pushS, j_pushN, j_sh0, j_sh1, j_sh2, j_sh3, j_sh4, Int32.reduceAdd, Int32.reduceMul, Int32.reduceSub, Int32.reduceLT, Int32.reduceLE, eq_self, i32_10, i32_01, ne_eq, hrow_s, hrow_n, ne10, ne100, ne1000, ne7, ne4, ne14, ne9973, or_true, true_or, or_false, false_or, not_true_eq_false, not_false_eq_true, false_implies, implies_true, and_true, forall_const, true_implies, jargs_n, jargs_r, jargs_i, List.cons_append, List.nil_append, true_and, Nat.reduceEqDiff, reduceIte, ft_X1_remember_0, ft_X1_remember_1, ft_X1_remember_4, ft_X1_remember_5, ft_X1_remember_8, ft_X1_remember_9, ft_X1_remember_10, ft_X1_remember_13, ft_X1_remember_14, ft_X1_remember_15, ft_X1_remember_18, ft_X1_remember_19, ft_X1_remember_20, ft_X1_remember_22, ft_X1_remember_25, ft_X1_remember_26, ft_X1_remember_29, ft_X1_remember_30, ft_X1_remember_31, ft_X1_remember_34, ft_X1_remember_35, ft_X1_remember_38, ft_X1_remember_39, ft_X1_remember_40, ft_X1_remember_43, ft_X1_remember_44, ft_X1_remember_45, ft_X1_remember_47, ft_X1_remember_50, ft_X1_remember_53, rc_15, fl_15_0, fl_15_1, fl_15_2, fp_15_1, fp_15_2, hn, jaldq_ring hn14, jrcv_st (js_ring hn14), s_takeC (js_ring hn14) js_9 (by omega) cr c9, nI_1, hrow_hrow, n1, c1, upd_ne (show 2 ≠ 1 by decide), hc, e3]
def undoC (C : Nat → Nat → Int32) (nx ct : Nat) : Nat → Nat → Int32 := hrow (hrow C 15 (upd (upd (C 15) 1 (nI (prv nx))) 2 (nI (ct - 1)))) 9 (C (17 + 3 * prv nx))
theorem prv_lt {n : Nat} (h : n < 14) : prv n < 14 := by unfold prv; split <;> omega
theorem nxt_lt {n : Nat} (h : n < 14) : nxt n < 14 := by unfold nxt; split <;> omega
def F_X1_restore_0 : Nat → jT := fun pc => (bif Nat.blt pc 15 then (bif Nat.blt pc 9 then (bif Nat.blt pc 4 then (bif Nat.blt pc 1 then (bif Nat.beq pc 0 then J_aload 0 1 else jbad) else (bif Nat.beq pc 1 then J_getfield 1 2 4 else jbad)) else (bif Nat.blt pc 7 then (bif Nat.beq pc 4 then J_ifne 10 7 else jbad) else (bif Nat.beq pc 7 then J_iconst (-3) 9 else jbad))) else (bif Nat.blt pc 11 then (bif Nat.blt pc 10 then (bif Nat.beq pc 9 then J_ireturn 0 0 else jbad) else (bif Nat.beq pc 10 then J_aload 0 11 else jbad)) else (bif Nat.blt pc 12 then (bif Nat.beq pc 11 then J_aload 0 12 else jbad) else (bif Nat.beq pc 12 then J_getfield 1 1 15 else jbad)))) else (bif Nat.blt pc 23 then (bif Nat.blt pc 19 then (bif Nat.blt pc 18 then (bif Nat.beq pc 15 then J_ifle 27 18 else jbad) else (bif Nat.beq pc 18 then J_aload 0 19 else jbad)) else (bif Nat.blt pc 22 then (bif Nat.beq pc 19 then J_getfield 1 1 22 else jbad) else (bif Nat.beq pc 22 then J_iconst 1 23 else jbad))) else (bif Nat.blt pc 27 then (bif Nat.blt pc 24 then (bif Nat.beq pc 23 then J_isub 24 else jbad) else (bif Nat.beq pc 24 then J_goto 29 else jbad)) else (bif Nat.blt pc 29 then (bif Nat.beq pc 27 then J_iconst 13 29 else jbad) else (bif Nat.beq pc 29 then J_putI 1 1 32 else jbad)))))
theorem ftl_X1_restore_0 : F_X1_restore_0 0 = J_aload 0 1 := rfl
theorem ftl_X1_restore_1 : F_X1_restore_0 1 = J_getfield 1 2 4 := rfl
theorem ftl_X1_restore_4 : F_X1_restore_0 4 = J_ifne 10 7 := rfl
theorem ftl_X1_restore_7 : F_X1_restore_0 7 = J_iconst (-3) 9 := rfl
theorem ftl_X1_restore_9 : F_X1_restore_0 9 = J_ireturn 0 0 := rfl
theorem ftl_X1_restore_10 : F_X1_restore_0 10 = J_aload 0 11 := rfl
theorem ftl_X1_restore_11 : F_X1_restore_0 11 = J_aload 0 12 := rfl
theorem ftl_X1_restore_12 : F_X1_restore_0 12 = J_getfield 1 1 15 := rfl
theorem ftl_X1_restore_15 : F_X1_restore_0 15 = J_ifle 27 18 := rfl
theorem ftl_X1_restore_18 : F_X1_restore_0 18 = J_aload 0 19 := rfl
theorem ftl_X1_restore_19 : F_X1_restore_0 19 = J_getfield 1 1 22 := rfl
theorem ftl_X1_restore_22 : F_X1_restore_0 22 = J_iconst 1 23 := rfl
theorem ftl_X1_restore_23 : F_X1_restore_0 23 = J_isub 24 := rfl
theorem ftl_X1_restore_24 : F_X1_restore_0 24 = J_goto 29 := rfl
theorem ftl_X1_restore_27 : F_X1_restore_0 27 = J_iconst 13 29 := rfl
theorem ftl_X1_restore_29 : F_X1_restore_0 29 = J_putI 1 1 32 := rfl
theorem F_X1_restore_0_ok : jOK Y_X1_restore none (F_X1_restore_0) := (jOK_node (jOK_node (jOK_node (jOK_node (jOK_leaf (sn_aload_n dX1_restore_0 rfl rfl)) (jOK_leaf (sn_getfield dX1_restore_1 rfl rfl (by decide) tw_117 jin1))) (jOK_node (jOK_leaf (sn_ifne dX1_restore_4 rfl rfl)) (jOK_leaf (sn_bipush dX1_restore_7 rfl rfl)))) (jOK_node (jOK_node (jOK_leaf (sn_ireturn dX1_restore_9 rfl rfl)) (jOK_leaf (sn_aload_n dX1_restore_10 rfl rfl))) (jOK_node (jOK_leaf (sn_aload_n dX1_restore_11 rfl rfl)) (jOK_leaf (sn_getfield dX1_restore_12 rfl rfl (by decide) tw_116 jin1))))) (jOK_node (jOK_node (jOK_node (jOK_leaf (sn_ifle dX1_restore_15 rfl rfl)) (jOK_leaf (sn_aload_n dX1_restore_18 rfl rfl))) (jOK_node (jOK_leaf (sn_getfield dX1_restore_19 rfl rfl (by decide) tw_116 jin1)) (jOK_leaf (sn_iconst dX1_restore_22 rfl rfl)))) (jOK_node (jOK_node (jOK_leaf (sn_isub dX1_restore_23 rfl)) (jOK_leaf (sn_goto dX1_restore_24 rfl))) (jOK_node (jOK_leaf (sn_bipush dX1_restore_27 rfl rfl)) (jOK_leaf (sn_putI tyX1 dX1_restore_29 rfl rfl (by decide) tw_116 jin1 tyX1_ok nmX1 rfl rfl))))))
def F_X1_restore_32 : Nat → jT := fun pc => (bif Nat.blt pc 44 then (bif Nat.blt pc 38 then (bif Nat.blt pc 34 then (bif Nat.blt pc 33 then (bif Nat.beq pc 32 then J_aload 0 33 else jbad) else (bif Nat.beq pc 33 then J_dup 34 else jbad)) else (bif Nat.blt pc 37 then (bif Nat.beq pc 34 then J_getfield 1 2 37 else jbad) else (bif Nat.beq pc 37 then J_iconst 1 38 else jbad))) else (bif Nat.blt pc 42 then (bif Nat.blt pc 39 then (bif Nat.beq pc 38 then J_isub 39 else jbad) else (bif Nat.beq pc 39 then J_putI 1 2 42 else jbad)) else (bif Nat.blt pc 43 then (bif Nat.beq pc 42 then J_aload 1 43 else jbad) else (bif Nat.beq pc 43 then J_aload 0 44 else jbad)))) else (bif Nat.blt pc 52 then (bif Nat.blt pc 48 then (bif Nat.blt pc 47 then (bif Nat.beq pc 44 then J_getfield 1 0 47 else jbad) else (bif Nat.beq pc 47 then J_aload 0 48 else jbad)) else (bif Nat.blt pc 51 then (bif Nat.beq pc 48 then J_getfield 1 1 51 else jbad) else (bif Nat.beq pc 51 then J_aaload 52 else jbad))) else (bif Nat.blt pc 56 then (bif Nat.blt pc 55 then (bif Nat.beq pc 52 then J_callV 4 S_X4_take 1 55 else jbad) else (bif Nat.beq pc 55 then J_aload 0 56 else jbad)) else (bif Nat.blt pc 59 then (bif Nat.beq pc 56 then J_getfield 1 2 59 else jbad) else (bif Nat.beq pc 59 then J_ireturn 0 0 else jbad)))))
theorem ftl_X1_restore_32 : F_X1_restore_32 32 = J_aload 0 33 := rfl
theorem ftl_X1_restore_33 : F_X1_restore_32 33 = J_dup 34 := rfl
theorem ftl_X1_restore_34 : F_X1_restore_32 34 = J_getfield 1 2 37 := rfl
theorem ftl_X1_restore_37 : F_X1_restore_32 37 = J_iconst 1 38 := rfl
theorem ftl_X1_restore_38 : F_X1_restore_32 38 = J_isub 39 := rfl
theorem ftl_X1_restore_39 : F_X1_restore_32 39 = J_putI 1 2 42 := rfl
theorem ftl_X1_restore_42 : F_X1_restore_32 42 = J_aload 1 43 := rfl
theorem ftl_X1_restore_43 : F_X1_restore_32 43 = J_aload 0 44 := rfl
theorem ftl_X1_restore_44 : F_X1_restore_32 44 = J_getfield 1 0 47 := rfl
theorem ftl_X1_restore_47 : F_X1_restore_32 47 = J_aload 0 48 := rfl
theorem ftl_X1_restore_48 : F_X1_restore_32 48 = J_getfield 1 1 51 := rfl
theorem ftl_X1_restore_51 : F_X1_restore_32 51 = J_aaload 52 := rfl
theorem ftl_X1_restore_52 : F_X1_restore_32 52 = J_callV 4 S_X4_take 1 55 := rfl
theorem ftl_X1_restore_55 : F_X1_restore_32 55 = J_aload 0 56 := rfl
theorem ftl_X1_restore_56 : F_X1_restore_32 56 = J_getfield 1 2 59 := rfl
theorem ftl_X1_restore_59 : F_X1_restore_32 59 = J_ireturn 0 0 := rfl
theorem F_X1_restore_32_ok : jOK Y_X1_restore none (F_X1_restore_32) := (jOK_node (jOK_node (jOK_node (jOK_node (jOK_leaf (sn_aload_n dX1_restore_32 rfl rfl)) (jOK_leaf (sn_dup dX1_restore_33 rfl))) (jOK_node (jOK_leaf (sn_getfield dX1_restore_34 rfl rfl (by decide) tw_117 jin1)) (jOK_leaf (sn_iconst dX1_restore_37 rfl rfl)))) (jOK_node (jOK_node (jOK_leaf (sn_isub dX1_restore_38 rfl)) (jOK_leaf (sn_putI tyX1 dX1_restore_39 rfl rfl (by decide) tw_117 jin1 tyX1_ok nmX1 rfl rfl))) (jOK_node (jOK_leaf (sn_aload_n dX1_restore_42 rfl rfl)) (jOK_leaf (sn_aload_n dX1_restore_43 rfl rfl))))) (jOK_node (jOK_node (jOK_node (jOK_leaf (sn_getfield dX1_restore_44 rfl rfl (by decide) tw_115 jin1)) (jOK_leaf (sn_aload_n dX1_restore_47 rfl rfl))) (jOK_node (jOK_leaf (sn_getfield dX1_restore_48 rfl rfl (by decide) tw_116 jin1)) (jOK_leaf (sn_aaload dX1_restore_51 rfl)))) (jOK_node (jOK_node (jOK_leaf (sn_callV (Y' := Y_X4_take) ok_X4_take dX1_restore_52 rfl rfl rfl tw_410 tw_332 tw_333 tw_5 jc_X4_take rfl ⟨by decide, by decide, rfl⟩ ⟨by decide, by decide⟩)) (jOK_leaf (sn_aload_n dX1_restore_55 rfl rfl))) (jOK_node (jOK_leaf (sn_getfield dX1_restore_56 rfl rfl (by decide) tw_117 jin1)) (jOK_leaf (sn_ireturn dX1_restore_59 rfl rfl))))))
def F_X1_restore_0_59 : Nat → jT := fun pc => bif Nat.blt pc 32 then F_X1_restore_0 pc else F_X1_restore_32 pc
theorem F_X1_restore_0_59_ok : jOK Y_X1_restore none (F_X1_restore_0_59) := jOK_node (F_X1_restore_0_ok) (F_X1_restore_32_ok)
def F_X1_restore : Nat → jT := F_X1_restore_0_59
theorem OK_X1_restore : jOK Y_X1_restore none (F_X1_restore) := F_X1_restore_0_59_ok
theorem ft_X1_restore_0 : F_X1_restore 0 = J_aload 0 1 := ftl_X1_restore_0
theorem ft_X1_restore_1 : F_X1_restore 1 = J_getfield 1 2 4 := ftl_X1_restore_1
theorem ft_X1_restore_4 : F_X1_restore 4 = J_ifne 10 7 := ftl_X1_restore_4
theorem ft_X1_restore_7 : F_X1_restore 7 = J_iconst (-3) 9 := ftl_X1_restore_7
theorem ft_X1_restore_9 : F_X1_restore 9 = J_ireturn 0 0 := ftl_X1_restore_9
theorem ft_X1_restore_10 : F_X1_restore 10 = J_aload 0 11 := ftl_X1_restore_10
theorem ft_X1_restore_11 : F_X1_restore 11 = J_aload 0 12 := ftl_X1_restore_11
theorem ft_X1_restore_12 : F_X1_restore 12 = J_getfield 1 1 15 := ftl_X1_restore_12
theorem ft_X1_restore_15 : F_X1_restore 15 = J_ifle 27 18 := ftl_X1_restore_15
theorem ft_X1_restore_18 : F_X1_restore 18 = J_aload 0 19 := ftl_X1_restore_18
theorem ft_X1_restore_19 : F_X1_restore 19 = J_getfield 1 1 22 := ftl_X1_restore_19
theorem ft_X1_restore_22 : F_X1_restore 22 = J_iconst 1 23 := ftl_X1_restore_22
theorem ft_X1_restore_23 : F_X1_restore 23 = J_isub 24 := ftl_X1_restore_23
theorem ft_X1_restore_24 : F_X1_restore 24 = J_goto 29 := ftl_X1_restore_24
theorem ft_X1_restore_27 : F_X1_restore 27 = J_iconst 13 29 := ftl_X1_restore_27
theorem ft_X1_restore_29 : F_X1_restore 29 = J_putI 1 1 32 := ftl_X1_restore_29
theorem ft_X1_restore_32 : F_X1_restore 32 = J_aload 0 33 := ftl_X1_restore_32
theorem ft_X1_restore_33 : F_X1_restore 33 = J_dup 34 := ftl_X1_restore_33
theorem ft_X1_restore_34 : F_X1_restore 34 = J_getfield 1 2 37 := ftl_X1_restore_34
theorem ft_X1_restore_37 : F_X1_restore 37 = J_iconst 1 38 := ftl_X1_restore_37
theorem ft_X1_restore_38 : F_X1_restore 38 = J_isub 39 := ftl_X1_restore_38
theorem ft_X1_restore_39 : F_X1_restore 39 = J_putI 1 2 42 := ftl_X1_restore_39
theorem ft_X1_restore_42 : F_X1_restore 42 = J_aload 1 43 := ftl_X1_restore_42
theorem ft_X1_restore_43 : F_X1_restore 43 = J_aload 0 44 := ftl_X1_restore_43
theorem ft_X1_restore_44 : F_X1_restore 44 = J_getfield 1 0 47 := ftl_X1_restore_44
theorem ft_X1_restore_47 : F_X1_restore 47 = J_aload 0 48 := ftl_X1_restore_47
theorem ft_X1_restore_48 : F_X1_restore 48 = J_getfield 1 1 51 := ftl_X1_restore_48
theorem ft_X1_restore_51 : F_X1_restore 51 = J_aaload 52 := ftl_X1_restore_51
theorem ft_X1_restore_52 : F_X1_restore 52 = J_callV 4 S_X4_take 1 55 := ftl_X1_restore_52
theorem ft_X1_restore_55 : F_X1_restore 55 = J_aload 0 56 := ftl_X1_restore_55
theorem ft_X1_restore_56 : F_X1_restore 56 = J_getfield 1 2 59 := ftl_X1_restore_56
theorem ft_X1_restore_59 : F_X1_restore 59 = J_ireturn 0 0 := ftl_X1_restore_59
def S_X1_restore : jSp := fun nb vs mem Q => jcs vs ≤ 2 ∧ jrun F_X1_restore [] 60 Q (fun _ _ _ _ _ => False) 0 (jargs vs ++ []) [] mem (nb, 0, 0)
theorem ok_X1_restore : jMeets Y_X1_restore S_X1_restore := fun _ _ _ _ h => Ok.inl OK_X1_restore 60 [] pn1 rfl h
theorem s_X1_restore {nb nx ct : Nat} {C : Nat → Nat → Int32} {z : Nat → Int64} {Q : jQ} (hn : C 15 1 = nI nx) (hn14 : nx < 14) (hc : C 15 2 = nI ct) (hc14 : ct ≤ 14) (c9 : Cut (C 9)) (cr : Cut (C (17 + 3 * prv nx))) : S_X1_restore nb [.ref 15, .ref 9] (memS 94 C z) Q = if ct = 0 then Q (some (.int (-3))) (memS 94 C z) else Q (some (.int (nI (ct - 1)))) (memS 94 (undoC C nx ct) z) := by
  refine (eq_le rfl).trans ?_
  by_cases h0 : ct = 0
  · subst h0
    rw [if_pos rfl]
    have e0 : nI 0 = 0 := rfl
    simp -implicitDefEqProofs only [jr_0, jr_1, jr_2, j_iconst, j_lconst, j_iload0, j_aload0, j_istore0, j_astore0, j_iinc0, j_iload1, j_aload1, j_istore1, j_astore1, j_iinc1, j_iload2, j_aload2, j_istore2, j_astore2, j_iinc2, j_iload3, j_aload3, j_istore3, j_astore3, j_iinc3, j_iload4, j_aload4, j_istore4, j_astore4, j_iinc4, j_iload5, j_aload5, j_istore5, j_astore5, j_iinc5, j_iload6, j_aload6, j_istore6, j_astore6, j_iinc6, j_iload7, j_aload7, j_istore7, j_astore7, j_iinc7, j_iload8, j_aload8, j_istore8, j_astore8, j_iinc8, j_iadd, j_isub, j_imul, j_iand, j_ior, j_ixor, j_ishl, j_ishr, j_iushr, j_idiv, j_irem, j_ineg, j_ladd, j_lmul, j_land, j_lor, j_lcmp, j_lushr, j_lshl, j_i2l, j_l2i, j_dupI, j_dupR, j_popI, j_dup2, j_ifeq, j_iceq, j_ifne, j_icne, j_iflt, j_iclt, j_ifge, j_icge, j_ifgt, j_icgt, j_ifle, j_icle, j_goto, j_tsw, j_sw0, j_sw1, j_ireturn, j_zreturn, j_lreturn, j_return, j_getfield, j_putI, j_putJ, j_putR, j_iaload, j_baload, j_iastore, j_bastore, j_aaload, j_q, j_aastore, j_acopy, j_mmin, j_mmax, j_mabs, j_objinit, j_new, j_newI, j_newQ, j_sld, j_slen, j_callV0, j_callI0, j_callS0, j_callV1, j_callI1, j_callS1, j_callV2, j_callI2, j_callS2, j_callV3, j_callS3, j_callV4, j_callS4, j_callV5, j_callS5, j_pushS, j_pushN, j_sh0, j_sh1, j_sh2, j_sh3, j_sh4, Int32.reduceAdd, Int32.reduceMul, Int32.reduceSub, Int32.reduceLT, Int32.reduceLE, eq_self, i32_10, i32_01, ne_eq, hrow_s, hrow_n, ne10, ne100, ne1000, ne7, ne4, ne14, ne9973, or_true, true_or, or_false, false_or, not_true_eq_false, not_false_eq_true, false_implies, implies_true, and_true, forall_const, true_implies, jargs_n, jargs_r, jargs_i, List.cons_append, List.nil_append, true_and, Nat.reduceEqDiff, reduceIte, ft_X1_restore_0, ft_X1_restore_1, ft_X1_restore_4, ft_X1_restore_7, ft_X1_restore_9, ft_X1_restore_10, ft_X1_restore_11, ft_X1_restore_12, ft_X1_restore_15, ft_X1_restore_18, ft_X1_restore_19, ft_X1_restore_22, ft_X1_restore_23, ft_X1_restore_24, ft_X1_restore_27, ft_X1_restore_29, ft_X1_restore_32, ft_X1_restore_33, ft_X1_restore_34, ft_X1_restore_37, ft_X1_restore_38, ft_X1_restore_39, ft_X1_restore_42, ft_X1_restore_43, ft_X1_restore_44, ft_X1_restore_47, ft_X1_restore_48, ft_X1_restore_51, ft_X1_restore_52, ft_X1_restore_55, ft_X1_restore_56, ft_X1_restore_59, rc_15, fl_15_2, hc, e0]
  · rw [if_neg h0]
    have z0 : (nI ct = 0) = False := eq_false fun q => h0 (nI_inj (b := 0) (by omega) (by decide) q)
    have n1 : (17 + 3 * prv nx = 15) = False := eq_false (by omega)
    have e4 : nI ct - 1 = nI (ct - 1) := nI_sub (b := 1) (by omega) (by omega)
    by_cases h : 0 < nx
    · have c1 : (nI nx ≤ 0) = False := eq_false fun q => by have := (nI_leq (b := 0) (show nx < 2 ^ 31 by omega) (by decide)).mp q; omega
      have e5 : nI nx - 1 = nI (nx - 1) := nI_sub (b := 1) (by omega) (by omega)
      have e6 : prv nx = nx - 1 := by unfold prv; rw [if_pos h]
      unfold undoC
      rw [e6] at cr n1 ⊢
      simp -implicitDefEqProofs only [jr_0, jr_1, jr_2, j_iconst, j_lconst, j_iload0, j_aload0, j_istore0, j_astore0, j_iinc0, j_iload1, j_aload1, j_istore1, j_astore1, j_iinc1, j_iload2, j_aload2, j_istore2, j_astore2, j_iinc2, j_iload3, j_aload3, j_istore3, j_astore3, j_iinc3, j_iload4, j_aload4, j_istore4, j_astore4, j_iinc4, j_iload5, j_aload5, j_istore5, j_astore5, j_iinc5, j_iload6, j_aload6, j_istore6, j_astore6, j_iinc6, j_iload7, j_aload7, j_istore7, j_astore7, j_iinc7, j_iload8, j_aload8, j_istore8, j_astore8, j_iinc8, j_iadd, j_isub, j_imul, j_iand, j_ior, j_ixor, j_ishl, j_ishr, j_iushr, j_idiv, j_irem, j_ineg, j_ladd, j_lmul, j_land, j_lor, j_lcmp, j_lushr, j_lshl, j_i2l, j_l2i, j_dupI, j_dupR, j_popI, j_dup2, j_ifeq, j_iceq, j_ifne, j_icne, j_iflt, j_iclt, j_ifge, j_icge, j_ifgt, j_icgt, j_ifle, j_icle, j_goto, j_tsw, j_sw0, j_sw1, j_ireturn, j_zreturn, j_lreturn, j_return, j_getfield, j_putI, j_putJ, j_putR, j_iaload, j_baload, j_iastore, j_bastore, j_aaload, j_q, j_aastore, j_acopy, j_mmin, j_mmax, j_mabs, j_objinit, j_new, j_newI, j_newQ, j_sld, j_slen, j_callV0, j_callI0, j_callS0, j_callV1, j_callI1, j_callS1, j_callV2, j_callI2, j_callS2, j_callV3, j_callS3, j_callV4, j_callS4, j_callV5, j_callS5, j_pushS, j_pushN, j_sh0, j_sh1, j_sh2, j_sh3, j_sh4, Int32.reduceAdd, Int32.reduceMul, Int32.reduceSub, Int32.reduceLT, Int32.reduceLE, eq_self, i32_10, i32_01, ne_eq, hrow_s, hrow_n, ne10, ne100, ne1000, ne7, ne4, ne14, ne9973, or_true, true_or, or_false, false_or, not_true_eq_false, not_false_eq_true, false_implies, implies_true, and_true, forall_const, true_implies, jargs_n, jargs_r, jargs_i, List.cons_append, List.nil_append, true_and, Nat.reduceEqDiff, reduceIte, ft_X1_restore_0, ft_X1_restore_1, ft_X1_restore_4, ft_X1_restore_7, ft_X1_restore_9, ft_X1_restore_10, ft_X1_restore_11, ft_X1_restore_12, ft_X1_restore_15, ft_X1_restore_18, ft_X1_restore_19, ft_X1_restore_22, ft_X1_restore_23, ft_X1_restore_24, ft_X1_restore_27, ft_X1_restore_29, ft_X1_restore_32, ft_X1_restore_33, ft_X1_restore_34, ft_X1_restore_37, ft_X1_restore_38, ft_X1_restore_39, ft_X1_restore_42, ft_X1_restore_43, ft_X1_restore_44, ft_X1_restore_47, ft_X1_restore_48, ft_X1_restore_51, ft_X1_restore_52, ft_X1_restore_55, ft_X1_restore_56, ft_X1_restore_59, rc_15, fl_15_0, fl_15_1, fl_15_2, fp_15_1, fp_15_2, hc, hn, z0, c1, e4, e5, upd_ne (show 2 ≠ 1 by decide), upd_ne (show 1 ≠ 2 by decide), upd_eq, hrow_hrow, jaldq_ring (show nx - 1 < 14 by omega), jrcv_st js_9, s_X4_take js_9 (js_ring (show nx - 1 < 14 by omega)) (by omega), n1]
      rw [rtake_cut cr c9]
    · have c1 : (nI nx ≤ 0) = True := eq_true (by rw [show nx = 0 by omega]; decide)
      have e6 : prv nx = 13 := by unfold prv; rw [if_neg h]
      have e7 : (13 : Int32) = nI 13 := rfl
      unfold undoC
      rw [e6] at cr n1 ⊢
      rw [← e7]
      have q13 : ∀ {P : Option Nat → Prop} {C : Nat → Nat → Int32}, jaldq (memS 94 C z) 16 13 P = P (some (17 + 3 * 13)) := fun {P C} => jaldq_ring (j := 13) (by decide)
      simp -implicitDefEqProofs only [jr_0, jr_1, jr_2, j_iconst, j_lconst, j_iload0, j_aload0, j_istore0, j_astore0, j_iinc0, j_iload1, j_aload1, j_istore1, j_astore1, j_iinc1, j_iload2, j_aload2, j_istore2, j_astore2, j_iinc2, j_iload3, j_aload3, j_istore3, j_astore3, j_iinc3, j_iload4, j_aload4, j_istore4, j_astore4, j_iinc4, j_iload5, j_aload5, j_istore5, j_astore5, j_iinc5, j_iload6, j_aload6, j_istore6, j_astore6, j_iinc6, j_iload7, j_aload7, j_istore7, j_astore7, j_iinc7, j_iload8, j_aload8, j_istore8, j_astore8, j_iinc8, j_iadd, j_isub, j_imul, j_iand, j_ior, j_ixor, j_ishl, j_ishr, j_iushr, j_idiv, j_irem, j_ineg, j_ladd, j_lmul, j_land, j_lor, j_lcmp, j_lushr, j_lshl, j_i2l, j_l2i, j_dupI, j_dupR, j_popI, j_dup2, j_ifeq, j_iceq, j_ifne, j_icne, j_iflt, j_iclt, j_ifge, j_icge, j_ifgt, j_icgt, j_ifle, j_icle, j_goto, j_tsw, j_sw0, j_sw1, j_ireturn, j_zreturn, j_lreturn, j_return, j_getfield, j_putI, j_putJ, j_putR, j_iaload, j_baload, j_iastore, j_bastore, j_aaload, j_q, j_aastore, j_acopy, j_mmin, j_mmax, j_mabs, j_objinit, j_new, j_newI, j_newQ, j_sld, j_slen, j_callV0, j_callI0, j_callS0, j_callV1, j_callI1, j_callS1, j_callV2, j_callI2, j_callS2, j_callV3, j_callS3, j_callV4, j_callS4, j_callV5, j_callS5, j_pushS, j_pushN, j_sh0, j_sh1, j_sh2, j_sh3, j_sh4, Int32.reduceAdd, Int32.reduceMul, Int32.reduceSub, Int32.reduceLT, Int32.reduceLE, eq_self, i32_10, i32_01, ne_eq, hrow_s, hrow_n, ne10, ne100, ne1000, ne7, ne4, ne14, ne9973, or_true, true_or, or_false, false_or, not_true_eq_false, not_false_eq_true, false_implies, implies_true, and_true, forall_const, true_implies, jargs_n, jargs_r, jargs_i, List.cons_append, List.nil_append, true_and, Nat.reduceEqDiff, reduceIte, ft_X1_restore_0, ft_X1_restore_1, ft_X1_restore_4, ft_X1_restore_7, ft_X1_restore_9, ft_X1_restore_10, ft_X1_restore_11, ft_X1_restore_12, ft_X1_restore_15, ft_X1_restore_18, ft_X1_restore_19, ft_X1_restore_22, ft_X1_restore_23, ft_X1_restore_24, ft_X1_restore_27, ft_X1_restore_29, ft_X1_restore_32, ft_X1_restore_33, ft_X1_restore_34, ft_X1_restore_37, ft_X1_restore_38, ft_X1_restore_39, ft_X1_restore_42, ft_X1_restore_43, ft_X1_restore_44, ft_X1_restore_47, ft_X1_restore_48, ft_X1_restore_51, ft_X1_restore_52, ft_X1_restore_55, ft_X1_restore_56, ft_X1_restore_59, rc_15, fl_15_0, fl_15_1, fl_15_2, fp_15_1, fp_15_2, hc, hn, z0, c1, e4, upd_ne (show 2 ≠ 1 by decide), upd_ne (show 1 ≠ 2 by decide), upd_eq, hrow_hrow, q13, jrcv_st js_9, s_X4_take js_9 (js_ring (show 13 < 14 by omega)) (by omega), n1, rtake_cut cr c9]
/-! settle -/
def setlC (C : Nat → Nat → Int32) (nx ct : Nat) : Nat → Nat → Int32 := hrow (rememC C nx ct) 9 (C 12)
/-- what the history's rows keep -/
def RH (C : Nat → Nat → Int32) (nx ct : Nat) : Prop := C 15 1 = nI nx ∧ nx < 14 ∧ C 15 2 = nI ct ∧ ct ≤ 14 ∧ ∀ j, j < 14 → Cut (C (17 + 3 * j))
theorem RH.hn {C : Nat → Nat → Int32} {nx ct : Nat} (h : RH C nx ct) : C 15 1 = nI nx := h.1
theorem RH.n14 {C : Nat → Nat → Int32} {nx ct : Nat} (h : RH C nx ct) : nx < 14 := h.2.1
theorem RH.hc {C : Nat → Nat → Int32} {nx ct : Nat} (h : RH C nx ct) : C 15 2 = nI ct := h.2.2.1
theorem RH.c14 {C : Nat → Nat → Int32} {nx ct : Nat} (h : RH C nx ct) : ct ≤ 14 := h.2.2.2.1
theorem RH.cr {C : Nat → Nat → Int32} {nx ct : Nat} (h : RH C nx ct) : ∀ j, j < 14 → Cut (C (17 + 3 * j)) := h.2.2.2.2
theorem RH.hv {C C' : Nat → Nat → Int32} {nx ct : Nat} (h : RH C nx ct) (v : Hv C C') : RH C' nx ct := ⟨by rw [v.r 15 rfl]; exact h.hn, h.n14, by rw [v.r 15 rfl]; exact h.hc, h.c14, fun j hj => by rw [v.1 _ (by omega) (by omega) (by omega) (by omega)]; exact h.cr j hj⟩
def F_X6_settle_0 : Nat → jT := fun pc => (bif Nat.blt pc 15 then (bif Nat.blt pc 5 then (bif Nat.blt pc 1 then (bif Nat.beq pc 0 then J_iload 1 1 else jbad) else (bif Nat.blt pc 4 then (bif Nat.beq pc 1 then J_iflt 26 4 else jbad) else (bif Nat.beq pc 4 then J_aload 0 5 else jbad))) else (bif Nat.blt pc 9 then (bif Nat.blt pc 8 then (bif Nat.beq pc 5 then J_getfield 6 5 8 else jbad) else (bif Nat.beq pc 8 then J_aload 0 9 else jbad)) else (bif Nat.blt pc 12 then (bif Nat.beq pc 9 then J_getfield 6 3 12 else jbad) else (bif Nat.beq pc 12 then J_callV 1 S_X1_remember 1 15 else jbad)))) else (bif Nat.blt pc 20 then (bif Nat.blt pc 16 then (bif Nat.beq pc 15 then J_aload 0 16 else jbad) else (bif Nat.blt pc 19 then (bif Nat.beq pc 16 then J_getfield 6 3 19 else jbad) else (bif Nat.beq pc 19 then J_aload 0 20 else jbad))) else (bif Nat.blt pc 26 then (bif Nat.blt pc 23 then (bif Nat.beq pc 20 then J_getfield 6 4 23 else jbad) else (bif Nat.beq pc 23 then J_callV 4 S_X4_take 1 26 else jbad)) else (bif Nat.blt pc 27 then (bif Nat.beq pc 26 then J_iload 1 27 else jbad) else (bif Nat.beq pc 27 then J_ireturn 0 0 else jbad)))))
theorem ftl_X6_settle_0 : F_X6_settle_0 0 = J_iload 1 1 := rfl
theorem ftl_X6_settle_1 : F_X6_settle_0 1 = J_iflt 26 4 := rfl
theorem ftl_X6_settle_4 : F_X6_settle_0 4 = J_aload 0 5 := rfl
theorem ftl_X6_settle_5 : F_X6_settle_0 5 = J_getfield 6 5 8 := rfl
theorem ftl_X6_settle_8 : F_X6_settle_0 8 = J_aload 0 9 := rfl
theorem ftl_X6_settle_9 : F_X6_settle_0 9 = J_getfield 6 3 12 := rfl
theorem ftl_X6_settle_12 : F_X6_settle_0 12 = J_callV 1 S_X1_remember 1 15 := rfl
theorem ftl_X6_settle_15 : F_X6_settle_0 15 = J_aload 0 16 := rfl
theorem ftl_X6_settle_16 : F_X6_settle_0 16 = J_getfield 6 3 19 := rfl
theorem ftl_X6_settle_19 : F_X6_settle_0 19 = J_aload 0 20 := rfl
theorem ftl_X6_settle_20 : F_X6_settle_0 20 = J_getfield 6 4 23 := rfl
theorem ftl_X6_settle_23 : F_X6_settle_0 23 = J_callV 4 S_X4_take 1 26 := rfl
theorem ftl_X6_settle_26 : F_X6_settle_0 26 = J_iload 1 27 := rfl
theorem ftl_X6_settle_27 : F_X6_settle_0 27 = J_ireturn 0 0 := rfl
theorem F_X6_settle_0_ok : jOK Y_X6_settle none (F_X6_settle_0) := (jOK_node (jOK_node (jOK_node (jOK_leaf (sn_iload_n dX6_settle_0 rfl rfl)) (jOK_node (jOK_leaf (sn_iflt dX6_settle_1 rfl rfl)) (jOK_leaf (sn_aload_n dX6_settle_4 rfl rfl)))) (jOK_node (jOK_node (jOK_leaf (sn_getfield dX6_settle_5 rfl rfl (by decide) tw_171 jin6)) (jOK_leaf (sn_aload_n dX6_settle_8 rfl rfl))) (jOK_node (jOK_leaf (sn_getfield dX6_settle_9 rfl rfl (by decide) tw_169 jin6)) (jOK_leaf (sn_callV (Y' := Y_X1_remember) ok_X1_remember dX6_settle_12 rfl rfl rfl tw_406 tw_407 tw_408 tw_6 jc_X1_remember rfl ⟨by decide, by decide, rfl⟩ ⟨by decide, by decide⟩))))) (jOK_node (jOK_node (jOK_leaf (sn_aload_n dX6_settle_15 rfl rfl)) (jOK_node (jOK_leaf (sn_getfield dX6_settle_16 rfl rfl (by decide) tw_169 jin6)) (jOK_leaf (sn_aload_n dX6_settle_19 rfl rfl)))) (jOK_node (jOK_node (jOK_leaf (sn_getfield dX6_settle_20 rfl rfl (by decide) tw_170 jin6)) (jOK_leaf (sn_callV (Y' := Y_X4_take) ok_X4_take dX6_settle_23 rfl rfl rfl tw_331 tw_332 tw_333 tw_5 jc_X4_take rfl ⟨by decide, by decide, rfl⟩ ⟨by decide, by decide⟩))) (jOK_node (jOK_leaf (sn_iload_n dX6_settle_26 rfl rfl)) (jOK_leaf (sn_ireturn dX6_settle_27 rfl rfl))))))
def F_X6_settle : Nat → jT := F_X6_settle_0
theorem OK_X6_settle : jOK Y_X6_settle none (F_X6_settle) := F_X6_settle_0_ok
theorem ft_X6_settle_0 : F_X6_settle 0 = J_iload 1 1 := ftl_X6_settle_0
theorem ft_X6_settle_1 : F_X6_settle 1 = J_iflt 26 4 := ftl_X6_settle_1
theorem ft_X6_settle_4 : F_X6_settle 4 = J_aload 0 5 := ftl_X6_settle_4
theorem ft_X6_settle_5 : F_X6_settle 5 = J_getfield 6 5 8 := ftl_X6_settle_5
theorem ft_X6_settle_8 : F_X6_settle 8 = J_aload 0 9 := ftl_X6_settle_8
theorem ft_X6_settle_9 : F_X6_settle 9 = J_getfield 6 3 12 := ftl_X6_settle_9
theorem ft_X6_settle_12 : F_X6_settle 12 = J_callV 1 S_X1_remember 1 15 := ftl_X6_settle_12
theorem ft_X6_settle_15 : F_X6_settle 15 = J_aload 0 16 := ftl_X6_settle_15
theorem ft_X6_settle_16 : F_X6_settle 16 = J_getfield 6 3 19 := ftl_X6_settle_16
theorem ft_X6_settle_19 : F_X6_settle 19 = J_aload 0 20 := ftl_X6_settle_19
theorem ft_X6_settle_20 : F_X6_settle 20 = J_getfield 6 4 23 := ftl_X6_settle_20
theorem ft_X6_settle_23 : F_X6_settle 23 = J_callV 4 S_X4_take 1 26 := ftl_X6_settle_23
theorem ft_X6_settle_26 : F_X6_settle 26 = J_iload 1 27 := ftl_X6_settle_26
theorem ft_X6_settle_27 : F_X6_settle 27 = J_ireturn 0 0 := ftl_X6_settle_27
def S_X6_settle : jSp := fun nb vs mem Q => jcs vs ≤ 2 ∧ jrun F_X6_settle [] 60 Q (fun _ _ _ _ _ => False) 0 (jargs vs ++ []) [] mem (nb, 0, 0)
theorem ok_X6_settle : jMeets Y_X6_settle S_X6_settle := fun _ _ _ _ h => Ok.inl OK_X6_settle 60 [] pn6 rfl h
theorem s_X6_settle {nb nx ct P : Nat} {C : Nat → Nat → Int32} {z : Nat → Int64} {a : Int32} {Q : jQ} (r : RC C P) (h : RH C nx ct) : S_X6_settle nb [.ref 0, .int a] (memS 94 C z) Q = pick (a < 0) (Q (some (.int a)) (memS 94 C z)) (Q (some (.int a)) (memS 94 (setlC C nx ct) z)) := by
  refine (eq_le rfl).trans ?_
  have c9 : Cut (rememC C nx ct 9) := by
    unfold rememC
    rw [hrow_n (by decide), hrow_n (by have := h.n14; omega)]
    exact r.c9
  have e12 : rememC C nx ct 12 = C 12 := by
    unfold rememC
    rw [hrow_n (by decide), hrow_n (by have := h.n14; omega)]
  simp -implicitDefEqProofs only [jr_0, jr_1, jr_2, j_iconst, j_lconst, j_iload0, j_aload0, j_istore0, j_astore0, j_iinc0, j_iload1, j_aload1, j_istore1, j_astore1, j_iinc1, j_iload2, j_aload2, j_istore2, j_astore2, j_iinc2, j_iload3, j_aload3, j_istore3, j_astore3, j_iinc3, j_iload4, j_aload4, j_istore4, j_astore4, j_iinc4, j_iload5, j_aload5, j_istore5, j_astore5, j_iinc5, j_iload6, j_aload6, j_istore6, j_astore6, j_iinc6, j_iload7, j_aload7, j_istore7, j_astore7, j_iinc7, j_iload8, j_aload8, j_istore8, j_astore8, j_iinc8, j_iadd, j_isub, j_imul, j_iand, j_ior, j_ixor, j_ishl, j_ishr, j_iushr, j_idiv, j_irem, j_ineg, j_ladd, j_lmul, j_land, j_lor, j_lcmp, j_lushr, j_lshl, j_i2l, j_l2i, j_dupI, j_dupR, j_popI, j_dup2, j_ifeq, j_iceq, j_ifne, j_icne, j_iflt, j_iclt, j_ifge, j_icge, j_ifgt, j_icgt, j_ifle, j_icle, j_goto, j_tsw, j_sw0, j_sw1, j_ireturn, j_zreturn, j_lreturn, j_return, j_getfield, j_putI, j_putJ, j_putR, j_iaload, j_baload, j_iastore, j_bastore, j_aaload, j_q, j_aastore, j_acopy, j_mmin, j_mmax, j_mabs, j_objinit, j_new, j_newI, j_newQ, j_sld, j_slen, j_callV0, j_callI0, j_callS0, j_callV1, j_callI1, j_callS1, j_callV2, j_callI2, j_callS2, j_callV3, j_callS3, j_callV4, j_callS4, j_callV5, j_callS5, j_pushS, j_pushN, j_sh0, j_sh1, j_sh2, j_sh3, j_sh4, Int32.reduceAdd, Int32.reduceMul, Int32.reduceSub, Int32.reduceLT, Int32.reduceLE, eq_self, i32_10, i32_01, ne_eq, hrow_s, hrow_n, ne10, ne100, ne1000, ne7, ne4, ne14, ne9973, or_true, true_or, or_false, false_or, not_true_eq_false, not_false_eq_true, false_implies, implies_true, and_true, forall_const, true_implies, jargs_n, jargs_r, jargs_i, List.cons_append, List.nil_append, true_and, Nat.reduceEqDiff, reduceIte, ft_X6_settle_0, ft_X6_settle_1, ft_X6_settle_4, ft_X6_settle_5, ft_X6_settle_8, ft_X6_settle_9, ft_X6_settle_12, ft_X6_settle_15, ft_X6_settle_16, ft_X6_settle_19, ft_X6_settle_20, ft_X6_settle_23, ft_X6_settle_26, ft_X6_settle_27, rc_0, rc_15, fl_0_3, fl_0_4, fl_0_5, jrcv_st js_9, s_X1_remember h.hn h.n14 h.hc h.c14 r.c9 (h.cr nx h.n14), s_takeC js_9 js_12 (by decide) c9 (e12.symm ▸ r.c12), e12]
  unfold setlC
  by_cases h1 : a < 0
  · rw [pick_t h1]; simp [h1]
  · rw [pick_f h1]; simp [h1]
