/-! least -/
noncomputable def haF (ρ : Nat → Int32) : Nat → Prop
  | 0 => True
  | j + 1 => haF ρ j ∧ rrest ρ (ρ j) ≤ 0
theorem haF_P {P K B : Nat} {ρ : Nat → Int32} (h : Inv P K B ρ) : ∀ k, P + k ≤ 4 → haF ρ (P + k) = haF ρ P
  | 0, _ => rfl
  | k + 1, hk => by
    have ih := haF_P h k (by omega)
    show (haF ρ (P + k) ∧ rrest ρ (ρ (P + k)) ≤ 0) = _
    have e : ρ (P + k) = -9 := by
      rcases h.pi (p := P + k) (by omega) with q | q
      · exact q.1
      · have := q.1; omega
    rw [e, rrest_no, ih]
    exact propext ⟨fun q => q.1, fun q => ⟨q, by decide⟩⟩
theorem haF_eq {P K B : Nat} {ρ : Nat → Int32} (h : Inv P K B ρ) (h4 : P ≤ 4) : haF ρ P = chgP ρ := by
  have e := haF_P h (4 - P) (by omega)
  rw [← e, show P + (4 - P) = 4 by omega]
  show ((((True ∧ rrest ρ (ρ 0) ≤ 0) ∧ rrest ρ (ρ 1) ≤ 0) ∧ rrest ρ (ρ 2) ≤ 0) ∧ rrest ρ (ρ 3) ≤ 0) = _
  unfold chgP
  exact propext ⟨fun q => ⟨q.1.1.1.2, q.1.1.2, q.1.2, q.2⟩, fun q => ⟨⟨⟨⟨trivial, q.1⟩, q.2.1⟩, q.2.2.1⟩, q.2.2.2⟩⟩
def S_X7_haveAll : jSp := fun _ vs mem Q => ∃ C z P K B, vs = [.ref 71] ∧ mem = memS 94 C z ∧ SR C P K ∧ Inv P K B (C 79) ∧ (∀ i, i < 4 → C 78 i = C 79 i) ∧ Q (some (.int (zb (chgP (C 79))))) (memS 94 C z)
def F_X7_haveAll_0 : Nat → jT := fun pc => (bif Nat.blt pc 4 then (bif Nat.blt pc 2 then (bif Nat.blt pc 1 then (bif Nat.beq pc 0 then J_iconst 1 1 else jbad) else (bif Nat.beq pc 1 then J_istore 1 2 else jbad)) else (bif Nat.blt pc 3 then (bif Nat.beq pc 2 then J_iconst 0 3 else jbad) else (bif Nat.beq pc 3 then J_istore 2 4 else jbad))) else (bif Nat.blt pc 6 then (bif Nat.blt pc 5 then (bif Nat.beq pc 4 then J_iload 2 5 else jbad) else (bif Nat.beq pc 5 then J_aload 0 6 else jbad)) else (bif Nat.blt pc 9 then (bif Nat.beq pc 6 then J_getfield 7 2 9 else jbad) else (bif Nat.blt pc 12 then (bif Nat.beq pc 9 then J_icge 60 12 else jbad) else (bif Nat.beq pc 12 then J_iload 1 13 else jbad)))))
theorem ftl_X7_haveAll_0 : F_X7_haveAll_0 0 = J_iconst 1 1 := rfl
theorem ftl_X7_haveAll_1 : F_X7_haveAll_0 1 = J_istore 1 2 := rfl
theorem ftl_X7_haveAll_2 : F_X7_haveAll_0 2 = J_iconst 0 3 := rfl
theorem ftl_X7_haveAll_3 : F_X7_haveAll_0 3 = J_istore 2 4 := rfl
theorem ftl_X7_haveAll_4 : F_X7_haveAll_0 4 = J_iload 2 5 := rfl
theorem ftl_X7_haveAll_5 : F_X7_haveAll_0 5 = J_aload 0 6 := rfl
theorem ftl_X7_haveAll_6 : F_X7_haveAll_0 6 = J_getfield 7 2 9 := rfl
theorem ftl_X7_haveAll_9 : F_X7_haveAll_0 9 = J_icge 60 12 := rfl
theorem ftl_X7_haveAll_12 : F_X7_haveAll_0 12 = J_iload 1 13 := rfl
theorem F_X7_haveAll_0_ok : jOK Y_X7_haveAll none (F_X7_haveAll_0) := (jOK_node (jOK_node (jOK_node (jOK_leaf (sn_iconst dX7_haveAll_0 rfl rfl)) (jOK_leaf (sn_istore_n dX7_haveAll_1 rfl rfl (by decide)))) (jOK_node (jOK_leaf (sn_iconst dX7_haveAll_2 rfl rfl)) (jOK_leaf (sn_istore_n dX7_haveAll_3 rfl rfl (by decide))))) (jOK_node (jOK_node (jOK_leaf (sn_iload_n dX7_haveAll_4 rfl rfl)) (jOK_leaf (sn_aload_n dX7_haveAll_5 rfl rfl))) (jOK_node (jOK_leaf (sn_getfield dX7_haveAll_6 rfl rfl (by decide) tw_616 jin7)) (jOK_node (jOK_leaf (sn_icge dX7_haveAll_9 rfl rfl)) (jOK_leaf (sn_iload_n dX7_haveAll_12 rfl rfl))))))
def F_X7_haveAll_13 : Nat → jT := fun pc => (bif Nat.blt pc 22 then (bif Nat.blt pc 17 then (bif Nat.blt pc 16 then (bif Nat.beq pc 13 then J_ifeq 52 16 else jbad) else (bif Nat.beq pc 16 then J_aload 0 17 else jbad)) else (bif Nat.blt pc 20 then (bif Nat.beq pc 17 then J_getfield 7 10 20 else jbad) else (bif Nat.blt pc 21 then (bif Nat.beq pc 20 then J_iconst 0 21 else jbad) else (bif Nat.beq pc 21 then J_iload 2 22 else jbad)))) else (bif Nat.blt pc 24 then (bif Nat.blt pc 23 then (bif Nat.beq pc 22 then J_iadd 23 else jbad) else (bif Nat.beq pc 23 then J_iaload 24 else jbad)) else (bif Nat.blt pc 26 then (bif Nat.beq pc 24 then J_iconst (-9) 26 else jbad) else (bif Nat.blt pc 29 then (bif Nat.beq pc 26 then J_iceq 48 29 else jbad) else (bif Nat.beq pc 29 then J_aload 0 30 else jbad)))))
theorem ftl_X7_haveAll_13 : F_X7_haveAll_13 13 = J_ifeq 52 16 := rfl
theorem ftl_X7_haveAll_16 : F_X7_haveAll_13 16 = J_aload 0 17 := rfl
theorem ftl_X7_haveAll_17 : F_X7_haveAll_13 17 = J_getfield 7 10 20 := rfl
theorem ftl_X7_haveAll_20 : F_X7_haveAll_13 20 = J_iconst 0 21 := rfl
theorem ftl_X7_haveAll_21 : F_X7_haveAll_13 21 = J_iload 2 22 := rfl
theorem ftl_X7_haveAll_22 : F_X7_haveAll_13 22 = J_iadd 23 := rfl
theorem ftl_X7_haveAll_23 : F_X7_haveAll_13 23 = J_iaload 24 := rfl
theorem ftl_X7_haveAll_24 : F_X7_haveAll_13 24 = J_iconst (-9) 26 := rfl
theorem ftl_X7_haveAll_26 : F_X7_haveAll_13 26 = J_iceq 48 29 := rfl
theorem ftl_X7_haveAll_29 : F_X7_haveAll_13 29 = J_aload 0 30 := rfl
theorem F_X7_haveAll_13_ok : jOK Y_X7_haveAll none (F_X7_haveAll_13) := (jOK_node (jOK_node (jOK_node (jOK_leaf (sn_ifeq dX7_haveAll_13 rfl rfl)) (jOK_leaf (sn_aload_n dX7_haveAll_16 rfl rfl))) (jOK_node (jOK_leaf (sn_getfield dX7_haveAll_17 rfl rfl (by decide) tw_624 jin7)) (jOK_node (jOK_leaf (sn_iconst dX7_haveAll_20 rfl rfl)) (jOK_leaf (sn_iload_n dX7_haveAll_21 rfl rfl))))) (jOK_node (jOK_node (jOK_leaf (sn_iadd dX7_haveAll_22 rfl)) (jOK_leaf (sn_iaload dX7_haveAll_23 rfl))) (jOK_node (jOK_leaf (sn_bipush dX7_haveAll_24 rfl rfl)) (jOK_node (jOK_leaf (sn_iceq dX7_haveAll_26 rfl rfl)) (jOK_leaf (sn_aload_n dX7_haveAll_29 rfl rfl))))))
def F_X7_haveAll_0_29 : Nat → jT := fun pc => bif Nat.blt pc 13 then F_X7_haveAll_0 pc else F_X7_haveAll_13 pc
theorem F_X7_haveAll_0_29_l {pc : Nat} (h : Nat.blt pc 13 = true) : F_X7_haveAll_0_29 pc = F_X7_haveAll_0 pc := by unfold F_X7_haveAll_0_29; rw [h]; rfl
theorem F_X7_haveAll_0_29_r {pc : Nat} (h : Nat.blt pc 13 = false) : F_X7_haveAll_0_29 pc = F_X7_haveAll_13 pc := by unfold F_X7_haveAll_0_29; rw [h]; rfl
theorem F_X7_haveAll_0_29_ok : jOK Y_X7_haveAll none (F_X7_haveAll_0_29) := jOK_node (F_X7_haveAll_0_ok) (F_X7_haveAll_13_ok)
def F_X7_haveAll_30 : Nat → jT := fun pc => (bif Nat.blt pc 39 then (bif Nat.blt pc 35 then (bif Nat.blt pc 33 then (bif Nat.beq pc 30 then J_getfield 7 11 33 else jbad) else (bif Nat.beq pc 33 then J_iconst 32 35 else jbad)) else (bif Nat.blt pc 36 then (bif Nat.beq pc 35 then J_aload 0 36 else jbad) else (bif Nat.beq pc 36 then J_getfield 7 10 39 else jbad))) else (bif Nat.blt pc 41 then (bif Nat.blt pc 40 then (bif Nat.beq pc 39 then J_iconst 0 40 else jbad) else (bif Nat.beq pc 40 then J_iload 2 41 else jbad)) else (bif Nat.blt pc 42 then (bif Nat.beq pc 41 then J_iadd 42 else jbad) else (bif Nat.blt pc 43 then (bif Nat.beq pc 42 then J_iaload 43 else jbad) else (bif Nat.beq pc 43 then J_iadd 44 else jbad)))))
theorem ftl_X7_haveAll_30 : F_X7_haveAll_30 30 = J_getfield 7 11 33 := rfl
theorem ftl_X7_haveAll_33 : F_X7_haveAll_30 33 = J_iconst 32 35 := rfl
theorem ftl_X7_haveAll_35 : F_X7_haveAll_30 35 = J_aload 0 36 := rfl
theorem ftl_X7_haveAll_36 : F_X7_haveAll_30 36 = J_getfield 7 10 39 := rfl
theorem ftl_X7_haveAll_39 : F_X7_haveAll_30 39 = J_iconst 0 40 := rfl
theorem ftl_X7_haveAll_40 : F_X7_haveAll_30 40 = J_iload 2 41 := rfl
theorem ftl_X7_haveAll_41 : F_X7_haveAll_30 41 = J_iadd 42 := rfl
theorem ftl_X7_haveAll_42 : F_X7_haveAll_30 42 = J_iaload 43 := rfl
theorem ftl_X7_haveAll_43 : F_X7_haveAll_30 43 = J_iadd 44 := rfl
theorem F_X7_haveAll_30_ok : jOK Y_X7_haveAll none (F_X7_haveAll_30) := (jOK_node (jOK_node (jOK_node (jOK_leaf (sn_getfield dX7_haveAll_30 rfl rfl (by decide) tw_625 jin7)) (jOK_leaf (sn_bipush dX7_haveAll_33 rfl rfl))) (jOK_node (jOK_leaf (sn_aload_n dX7_haveAll_35 rfl rfl)) (jOK_leaf (sn_getfield dX7_haveAll_36 rfl rfl (by decide) tw_624 jin7)))) (jOK_node (jOK_node (jOK_leaf (sn_iconst dX7_haveAll_39 rfl rfl)) (jOK_leaf (sn_iload_n dX7_haveAll_40 rfl rfl))) (jOK_node (jOK_leaf (sn_iadd dX7_haveAll_41 rfl)) (jOK_node (jOK_leaf (sn_iaload dX7_haveAll_42 rfl)) (jOK_leaf (sn_iadd dX7_haveAll_43 rfl))))))
def F_X7_haveAll_44 : Nat → jT := fun pc => (bif Nat.blt pc 53 then (bif Nat.blt pc 48 then (bif Nat.blt pc 45 then (bif Nat.beq pc 44 then J_iaload 45 else jbad) else (bif Nat.beq pc 45 then J_ifne 52 48 else jbad)) else (bif Nat.blt pc 49 then (bif Nat.beq pc 48 then J_iconst 1 49 else jbad) else (bif Nat.blt pc 52 then (bif Nat.beq pc 49 then J_goto 53 else jbad) else (bif Nat.beq pc 52 then J_iconst 0 53 else jbad)))) else (bif Nat.blt pc 57 then (bif Nat.blt pc 54 then (bif Nat.beq pc 53 then J_istore 1 54 else jbad) else (bif Nat.beq pc 54 then J_iinc 2 1 57 else jbad)) else (bif Nat.blt pc 60 then (bif Nat.beq pc 57 then J_goto 4 else jbad) else (bif Nat.blt pc 61 then (bif Nat.beq pc 60 then J_iload 1 61 else jbad) else (bif Nat.beq pc 61 then J_zreturn 0 0 else jbad)))))
theorem ftl_X7_haveAll_44 : F_X7_haveAll_44 44 = J_iaload 45 := rfl
theorem ftl_X7_haveAll_45 : F_X7_haveAll_44 45 = J_ifne 52 48 := rfl
theorem ftl_X7_haveAll_48 : F_X7_haveAll_44 48 = J_iconst 1 49 := rfl
theorem ftl_X7_haveAll_49 : F_X7_haveAll_44 49 = J_goto 53 := rfl
theorem ftl_X7_haveAll_52 : F_X7_haveAll_44 52 = J_iconst 0 53 := rfl
theorem ftl_X7_haveAll_53 : F_X7_haveAll_44 53 = J_istore 1 54 := rfl
theorem ftl_X7_haveAll_54 : F_X7_haveAll_44 54 = J_iinc 2 1 57 := rfl
theorem ftl_X7_haveAll_57 : F_X7_haveAll_44 57 = J_goto 4 := rfl
theorem ftl_X7_haveAll_60 : F_X7_haveAll_44 60 = J_iload 1 61 := rfl
theorem ftl_X7_haveAll_61 : F_X7_haveAll_44 61 = J_zreturn 0 0 := rfl
theorem F_X7_haveAll_44_ok : jOK Y_X7_haveAll none (F_X7_haveAll_44) := (jOK_node (jOK_node (jOK_node (jOK_leaf (sn_iaload dX7_haveAll_44 rfl)) (jOK_leaf (sn_ifne dX7_haveAll_45 rfl rfl))) (jOK_node (jOK_leaf (sn_iconst dX7_haveAll_48 rfl rfl)) (jOK_node (jOK_leaf (sn_goto dX7_haveAll_49 rfl)) (jOK_leaf (sn_iconst dX7_haveAll_52 rfl rfl))))) (jOK_node (jOK_node (jOK_leaf (sn_istore_n dX7_haveAll_53 rfl rfl (by decide))) (jOK_leaf (sn_iinc dX7_haveAll_54 rfl rfl (by decide)))) (jOK_node (jOK_leaf (sn_goto dX7_haveAll_57 rfl)) (jOK_node (jOK_leaf (sn_iload_n dX7_haveAll_60 rfl rfl)) (jOK_leaf (sn_zreturn dX7_haveAll_61 rfl rfl))))))
def F_X7_haveAll_30_61 : Nat → jT := fun pc => bif Nat.blt pc 44 then F_X7_haveAll_30 pc else F_X7_haveAll_44 pc
theorem F_X7_haveAll_30_61_l {pc : Nat} (h : Nat.blt pc 44 = true) : F_X7_haveAll_30_61 pc = F_X7_haveAll_30 pc := by unfold F_X7_haveAll_30_61; rw [h]; rfl
theorem F_X7_haveAll_30_61_r {pc : Nat} (h : Nat.blt pc 44 = false) : F_X7_haveAll_30_61 pc = F_X7_haveAll_44 pc := by unfold F_X7_haveAll_30_61; rw [h]; rfl
theorem F_X7_haveAll_30_61_ok : jOK Y_X7_haveAll none (F_X7_haveAll_30_61) := jOK_node (F_X7_haveAll_30_ok) (F_X7_haveAll_44_ok)
def F_X7_haveAll_0_61 : Nat → jT := fun pc => bif Nat.blt pc 30 then F_X7_haveAll_0_29 pc else F_X7_haveAll_30_61 pc
theorem F_X7_haveAll_0_61_l {pc : Nat} (h : Nat.blt pc 30 = true) : F_X7_haveAll_0_61 pc = F_X7_haveAll_0_29 pc := by unfold F_X7_haveAll_0_61; rw [h]; rfl
theorem F_X7_haveAll_0_61_r {pc : Nat} (h : Nat.blt pc 30 = false) : F_X7_haveAll_0_61 pc = F_X7_haveAll_30_61 pc := by unfold F_X7_haveAll_0_61; rw [h]; rfl
theorem F_X7_haveAll_0_61_ok : jOK Y_X7_haveAll none (F_X7_haveAll_0_61) := jOK_node (F_X7_haveAll_0_29_ok) (F_X7_haveAll_30_61_ok)
def F_X7_haveAll : Nat → jT := F_X7_haveAll_0_61
theorem OK_X7_haveAll : jOK Y_X7_haveAll none (F_X7_haveAll) := F_X7_haveAll_0_61_ok
theorem ft_X7_haveAll_0 : F_X7_haveAll 0 = J_iconst 1 1 := (F_X7_haveAll_0_61_l rfl).trans ((F_X7_haveAll_0_29_l rfl).trans (ftl_X7_haveAll_0))
theorem ft_X7_haveAll_1 : F_X7_haveAll 1 = J_istore 1 2 := (F_X7_haveAll_0_61_l rfl).trans ((F_X7_haveAll_0_29_l rfl).trans (ftl_X7_haveAll_1))
theorem ft_X7_haveAll_2 : F_X7_haveAll 2 = J_iconst 0 3 := (F_X7_haveAll_0_61_l rfl).trans ((F_X7_haveAll_0_29_l rfl).trans (ftl_X7_haveAll_2))
theorem ft_X7_haveAll_3 : F_X7_haveAll 3 = J_istore 2 4 := (F_X7_haveAll_0_61_l rfl).trans ((F_X7_haveAll_0_29_l rfl).trans (ftl_X7_haveAll_3))
theorem ft_X7_haveAll_4 : F_X7_haveAll 4 = J_iload 2 5 := (F_X7_haveAll_0_61_l rfl).trans ((F_X7_haveAll_0_29_l rfl).trans (ftl_X7_haveAll_4))
theorem ft_X7_haveAll_5 : F_X7_haveAll 5 = J_aload 0 6 := (F_X7_haveAll_0_61_l rfl).trans ((F_X7_haveAll_0_29_l rfl).trans (ftl_X7_haveAll_5))
theorem ft_X7_haveAll_6 : F_X7_haveAll 6 = J_getfield 7 2 9 := (F_X7_haveAll_0_61_l rfl).trans ((F_X7_haveAll_0_29_l rfl).trans (ftl_X7_haveAll_6))
theorem ft_X7_haveAll_9 : F_X7_haveAll 9 = J_icge 60 12 := (F_X7_haveAll_0_61_l rfl).trans ((F_X7_haveAll_0_29_l rfl).trans (ftl_X7_haveAll_9))
theorem ft_X7_haveAll_12 : F_X7_haveAll 12 = J_iload 1 13 := (F_X7_haveAll_0_61_l rfl).trans ((F_X7_haveAll_0_29_l rfl).trans (ftl_X7_haveAll_12))
theorem ft_X7_haveAll_13 : F_X7_haveAll 13 = J_ifeq 52 16 := (F_X7_haveAll_0_61_l rfl).trans ((F_X7_haveAll_0_29_r rfl).trans (ftl_X7_haveAll_13))
theorem ft_X7_haveAll_16 : F_X7_haveAll 16 = J_aload 0 17 := (F_X7_haveAll_0_61_l rfl).trans ((F_X7_haveAll_0_29_r rfl).trans (ftl_X7_haveAll_16))
theorem ft_X7_haveAll_17 : F_X7_haveAll 17 = J_getfield 7 10 20 := (F_X7_haveAll_0_61_l rfl).trans ((F_X7_haveAll_0_29_r rfl).trans (ftl_X7_haveAll_17))
theorem ft_X7_haveAll_20 : F_X7_haveAll 20 = J_iconst 0 21 := (F_X7_haveAll_0_61_l rfl).trans ((F_X7_haveAll_0_29_r rfl).trans (ftl_X7_haveAll_20))
theorem ft_X7_haveAll_21 : F_X7_haveAll 21 = J_iload 2 22 := (F_X7_haveAll_0_61_l rfl).trans ((F_X7_haveAll_0_29_r rfl).trans (ftl_X7_haveAll_21))
theorem ft_X7_haveAll_22 : F_X7_haveAll 22 = J_iadd 23 := (F_X7_haveAll_0_61_l rfl).trans ((F_X7_haveAll_0_29_r rfl).trans (ftl_X7_haveAll_22))
theorem ft_X7_haveAll_23 : F_X7_haveAll 23 = J_iaload 24 := (F_X7_haveAll_0_61_l rfl).trans ((F_X7_haveAll_0_29_r rfl).trans (ftl_X7_haveAll_23))
theorem ft_X7_haveAll_24 : F_X7_haveAll 24 = J_iconst (-9) 26 := (F_X7_haveAll_0_61_l rfl).trans ((F_X7_haveAll_0_29_r rfl).trans (ftl_X7_haveAll_24))
theorem ft_X7_haveAll_26 : F_X7_haveAll 26 = J_iceq 48 29 := (F_X7_haveAll_0_61_l rfl).trans ((F_X7_haveAll_0_29_r rfl).trans (ftl_X7_haveAll_26))
theorem ft_X7_haveAll_29 : F_X7_haveAll 29 = J_aload 0 30 := (F_X7_haveAll_0_61_l rfl).trans ((F_X7_haveAll_0_29_r rfl).trans (ftl_X7_haveAll_29))
theorem ft_X7_haveAll_30 : F_X7_haveAll 30 = J_getfield 7 11 33 := (F_X7_haveAll_0_61_r rfl).trans ((F_X7_haveAll_30_61_l rfl).trans (ftl_X7_haveAll_30))
theorem ft_X7_haveAll_33 : F_X7_haveAll 33 = J_iconst 32 35 := (F_X7_haveAll_0_61_r rfl).trans ((F_X7_haveAll_30_61_l rfl).trans (ftl_X7_haveAll_33))
theorem ft_X7_haveAll_35 : F_X7_haveAll 35 = J_aload 0 36 := (F_X7_haveAll_0_61_r rfl).trans ((F_X7_haveAll_30_61_l rfl).trans (ftl_X7_haveAll_35))
theorem ft_X7_haveAll_36 : F_X7_haveAll 36 = J_getfield 7 10 39 := (F_X7_haveAll_0_61_r rfl).trans ((F_X7_haveAll_30_61_l rfl).trans (ftl_X7_haveAll_36))
theorem ft_X7_haveAll_39 : F_X7_haveAll 39 = J_iconst 0 40 := (F_X7_haveAll_0_61_r rfl).trans ((F_X7_haveAll_30_61_l rfl).trans (ftl_X7_haveAll_39))
theorem ft_X7_haveAll_40 : F_X7_haveAll 40 = J_iload 2 41 := (F_X7_haveAll_0_61_r rfl).trans ((F_X7_haveAll_30_61_l rfl).trans (ftl_X7_haveAll_40))
theorem ft_X7_haveAll_41 : F_X7_haveAll 41 = J_iadd 42 := (F_X7_haveAll_0_61_r rfl).trans ((F_X7_haveAll_30_61_l rfl).trans (ftl_X7_haveAll_41))
theorem ft_X7_haveAll_42 : F_X7_haveAll 42 = J_iaload 43 := (F_X7_haveAll_0_61_r rfl).trans ((F_X7_haveAll_30_61_l rfl).trans (ftl_X7_haveAll_42))
theorem ft_X7_haveAll_43 : F_X7_haveAll 43 = J_iadd 44 := (F_X7_haveAll_0_61_r rfl).trans ((F_X7_haveAll_30_61_l rfl).trans (ftl_X7_haveAll_43))
theorem ft_X7_haveAll_44 : F_X7_haveAll 44 = J_iaload 45 := (F_X7_haveAll_0_61_r rfl).trans ((F_X7_haveAll_30_61_r rfl).trans (ftl_X7_haveAll_44))
theorem ft_X7_haveAll_45 : F_X7_haveAll 45 = J_ifne 52 48 := (F_X7_haveAll_0_61_r rfl).trans ((F_X7_haveAll_30_61_r rfl).trans (ftl_X7_haveAll_45))
theorem ft_X7_haveAll_48 : F_X7_haveAll 48 = J_iconst 1 49 := (F_X7_haveAll_0_61_r rfl).trans ((F_X7_haveAll_30_61_r rfl).trans (ftl_X7_haveAll_48))
theorem ft_X7_haveAll_49 : F_X7_haveAll 49 = J_goto 53 := (F_X7_haveAll_0_61_r rfl).trans ((F_X7_haveAll_30_61_r rfl).trans (ftl_X7_haveAll_49))
theorem ft_X7_haveAll_52 : F_X7_haveAll 52 = J_iconst 0 53 := (F_X7_haveAll_0_61_r rfl).trans ((F_X7_haveAll_30_61_r rfl).trans (ftl_X7_haveAll_52))
theorem ft_X7_haveAll_53 : F_X7_haveAll 53 = J_istore 1 54 := (F_X7_haveAll_0_61_r rfl).trans ((F_X7_haveAll_30_61_r rfl).trans (ftl_X7_haveAll_53))
theorem ft_X7_haveAll_54 : F_X7_haveAll 54 = J_iinc 2 1 57 := (F_X7_haveAll_0_61_r rfl).trans ((F_X7_haveAll_30_61_r rfl).trans (ftl_X7_haveAll_54))
theorem ft_X7_haveAll_57 : F_X7_haveAll 57 = J_goto 4 := (F_X7_haveAll_0_61_r rfl).trans ((F_X7_haveAll_30_61_r rfl).trans (ftl_X7_haveAll_57))
theorem ft_X7_haveAll_60 : F_X7_haveAll 60 = J_iload 1 61 := (F_X7_haveAll_0_61_r rfl).trans ((F_X7_haveAll_30_61_r rfl).trans (ftl_X7_haveAll_60))
theorem ft_X7_haveAll_61 : F_X7_haveAll 61 = J_zreturn 0 0 := (F_X7_haveAll_0_61_r rfl).trans ((F_X7_haveAll_30_61_r rfl).trans (ftl_X7_haveAll_61))
theorem lp_X7_haveAll {Q : jQ} {C : Nat → Nat → Int32} {z : Nat → Int64} {nb P K B : Nat} (s : SR C P K) (iv : Inv P K B (C 79)) (hc : ∀ i, i < 4 → C 78 i = C 79 i) (h : Q (some (.int (zb (haF (C 79) P)))) (memS 94 C z)) :
    ∀ k j, j + k = P → Rn Y_X7_haveAll none Q 4 [some (.ref 71), some (.int (zb (haF (C 79) j))), some (.int (nI j))] [] (memS 94 C z) (nb, 0, 0) := by
  have h4 := s.h4
  have h6 := s.h6
  intro k
  induction k with
  | zero =>
    intro j hj
    have hq : (nI P ≤ nI j) = True := eq_true (nI_le (by omega) (by omega))
    refine jrun_first OK_X7_haveAll (C := [4]) 60 ?_
    simp -implicitDefEqProofs only [jr_0, jr_1, jr_2, j_iconst, j_lconst, j_iload0, j_aload0, j_istore0, j_astore0, j_iinc0, j_iload1, j_aload1, j_istore1, j_astore1, j_iinc1, j_iload2, j_aload2, j_istore2, j_astore2, j_iinc2, j_iload3, j_aload3, j_istore3, j_astore3, j_iinc3, j_iload4, j_aload4, j_istore4, j_astore4, j_iinc4, j_iload5, j_aload5, j_istore5, j_astore5, j_iinc5, j_iload6, j_aload6, j_istore6, j_astore6, j_iinc6, j_iload7, j_aload7, j_istore7, j_astore7, j_iinc7, j_iload8, j_aload8, j_istore8, j_astore8, j_iinc8, j_iadd, j_isub, j_imul, j_iand, j_ior, j_ixor, j_ishl, j_ishr, j_iushr, j_idiv, j_irem, j_ineg, j_ladd, j_lmul, j_land, j_lor, j_lcmp, j_lushr, j_lshl, j_i2l, j_l2i, j_dupI, j_dupR, j_popI, j_dup2, j_ifeq, j_iceq, j_ifne, j_icne, j_iflt, j_iclt, j_ifge, j_icge, j_ifgt, j_icgt, j_ifle, j_icle, j_goto, j_tsw, j_sw0, j_sw1, j_ireturn, j_zreturn, j_lreturn, j_return, j_getfield, j_putI, j_putJ, j_putR, j_iaload, j_baload, j_iastore, j_bastore, j_aaload, j_q, j_aastore, j_acopy, j_mmin, j_mmax, j_mabs, j_objinit, j_new, j_newI, j_newQ, j_sld, j_slen, j_callV0, j_callI0, j_callS0, j_callV1, j_callI1, j_callS1, j_callV2, j_callI2, j_callS2, j_callV3, j_callS3, j_callV4, j_callS4, j_callV5, j_callS5, j_pushS, j_pushN, j_sh0, j_sh1, j_sh2, j_sh3, j_sh4, Int32.reduceAdd, Int32.reduceMul, Int32.reduceSub, Int32.reduceLT, Int32.reduceLE, eq_self, i32_10, i32_01, ne_eq, hrow_s, hrow_n, ne10, ne100, ne1000, ne7, ne4, ne14, ne9973, or_true, true_or, or_false, false_or, not_true_eq_false, not_false_eq_true, false_implies, implies_true, and_true, forall_const, true_implies, jargs_n, jargs_r, jargs_i, List.cons_append, List.nil_append, true_and, Nat.reduceEqDiff, reduceIte, ft_X7_haveAll_0, ft_X7_haveAll_1, ft_X7_haveAll_2, ft_X7_haveAll_3, ft_X7_haveAll_4, ft_X7_haveAll_5, ft_X7_haveAll_6, ft_X7_haveAll_9, ft_X7_haveAll_12, ft_X7_haveAll_13, ft_X7_haveAll_16, ft_X7_haveAll_17, ft_X7_haveAll_20, ft_X7_haveAll_21, ft_X7_haveAll_22, ft_X7_haveAll_23, ft_X7_haveAll_24, ft_X7_haveAll_26, ft_X7_haveAll_29, ft_X7_haveAll_30, ft_X7_haveAll_33, ft_X7_haveAll_35, ft_X7_haveAll_36, ft_X7_haveAll_39, ft_X7_haveAll_40, ft_X7_haveAll_41, ft_X7_haveAll_42, ft_X7_haveAll_43, ft_X7_haveAll_44, ft_X7_haveAll_45, ft_X7_haveAll_48, ft_X7_haveAll_49, ft_X7_haveAll_52, ft_X7_haveAll_53, ft_X7_haveAll_54, ft_X7_haveAll_57, ft_X7_haveAll_60, ft_X7_haveAll_61, fl_71_2, s.mP, hq, zb_01]
    rw [show j = P by omega]
    exact h
  | succ k ih =>
    intro j hj
    have hq : (nI P ≤ nI j) = False := eq_false (nI_ge (by omega) (by omega))
    have hk := ih (j + 1) (by omega)
    have hj4 : j < 4 := by omega
    refine jrun_first OK_X7_haveAll (C := [4]) 60 ?_
    have en : haF (C 79) (j + 1) = (haF (C 79) j ∧ rrest (C 79) (C 79 j) ≤ 0) := rfl
    rw [en] at hk
    by_cases g : haF (C 79) j
    · by_cases g9 : C 79 j = -9
      · rw [zb_t ⟨g, by rw [g9, rrest_no]; decide⟩] at hk
        rw [zb_t g]
        simp -implicitDefEqProofs only [jr_0, jr_1, jr_2, j_iconst, j_lconst, j_iload0, j_aload0, j_istore0, j_astore0, j_iinc0, j_iload1, j_aload1, j_istore1, j_astore1, j_iinc1, j_iload2, j_aload2, j_istore2, j_astore2, j_iinc2, j_iload3, j_aload3, j_istore3, j_astore3, j_iinc3, j_iload4, j_aload4, j_istore4, j_astore4, j_iinc4, j_iload5, j_aload5, j_istore5, j_astore5, j_iinc5, j_iload6, j_aload6, j_istore6, j_astore6, j_iinc6, j_iload7, j_aload7, j_istore7, j_astore7, j_iinc7, j_iload8, j_aload8, j_istore8, j_astore8, j_iinc8, j_iadd, j_isub, j_imul, j_iand, j_ior, j_ixor, j_ishl, j_ishr, j_iushr, j_idiv, j_irem, j_ineg, j_ladd, j_lmul, j_land, j_lor, j_lcmp, j_lushr, j_lshl, j_i2l, j_l2i, j_dupI, j_dupR, j_popI, j_dup2, j_ifeq, j_iceq, j_ifne, j_icne, j_iflt, j_iclt, j_ifge, j_icge, j_ifgt, j_icgt, j_ifle, j_icle, j_goto, j_tsw, j_sw0, j_sw1, j_ireturn, j_zreturn, j_lreturn, j_return, j_getfield, j_putI, j_putJ, j_putR, j_iaload, j_baload, j_iastore, j_bastore, j_aaload, j_q, j_aastore, j_acopy, j_mmin, j_mmax, j_mabs, j_objinit, j_new, j_newI, j_newQ, j_sld, j_slen, j_callV0, j_callI0, j_callS0, j_callV1, j_callI1, j_callS1, j_callV2, j_callI2, j_callS2, j_callV3, j_callS3, j_callV4, j_callS4, j_callV5, j_callS5, j_pushS, j_pushN, j_sh0, j_sh1, j_sh2, j_sh3, j_sh4, Int32.reduceAdd, Int32.reduceMul, Int32.reduceSub, Int32.reduceLT, Int32.reduceLE, eq_self, i32_10, i32_01, ne_eq, hrow_s, hrow_n, ne10, ne100, ne1000, ne7, ne4, ne14, ne9973, or_true, true_or, or_false, false_or, not_true_eq_false, not_false_eq_true, false_implies, implies_true, and_true, forall_const, true_implies, jargs_n, jargs_r, jargs_i, List.cons_append, List.nil_append, true_and, Nat.reduceEqDiff, reduceIte, ft_X7_haveAll_0, ft_X7_haveAll_1, ft_X7_haveAll_2, ft_X7_haveAll_3, ft_X7_haveAll_4, ft_X7_haveAll_5, ft_X7_haveAll_6, ft_X7_haveAll_9, ft_X7_haveAll_12, ft_X7_haveAll_13, ft_X7_haveAll_16, ft_X7_haveAll_17, ft_X7_haveAll_20, ft_X7_haveAll_21, ft_X7_haveAll_22, ft_X7_haveAll_23, ft_X7_haveAll_24, ft_X7_haveAll_26, ft_X7_haveAll_29, ft_X7_haveAll_30, ft_X7_haveAll_33, ft_X7_haveAll_35, ft_X7_haveAll_36, ft_X7_haveAll_39, ft_X7_haveAll_40, ft_X7_haveAll_41, ft_X7_haveAll_42, ft_X7_haveAll_43, ft_X7_haveAll_44, ft_X7_haveAll_45, ft_X7_haveAll_48, ft_X7_haveAll_49, ft_X7_haveAll_52, ft_X7_haveAll_53, ft_X7_haveAll_54, ft_X7_haveAll_57, ft_X7_haveAll_60, ft_X7_haveAll_61, fl_71_2, fl_71_10, s.mP, hq, ne1_0, ar_0 jmr78 hj4, hc j hj4, g9, nI_1]
        exact hk
      · obtain ⟨-, ⟨c, hcK, ec⟩, -⟩ := iv.occ9 hj4 g9
        have hc6 : c < 6 := by omega
        obtain ⟨x, hx, ex, -⟩ := iv.rest hc6
        have n9 : (nI c = -9) = False := eq_false (nI_n9 (by omega))
        rw [ec, rrest_at hc6, ex, i32_pos (by omega)] at hk
        have x0 : (nI x = 0) = (x = 0) := nI_eqq (b := 0) (by omega) (by omega)
        rw [zb_t g]
        by_cases gx : x = 0
        · rw [zb_t ⟨g, gx⟩] at hk
          have x2 : (nI x = 0) = True := eq_true (by rw [gx]; rfl)
          simp -implicitDefEqProofs only [jr_0, jr_1, jr_2, j_iconst, j_lconst, j_iload0, j_aload0, j_istore0, j_astore0, j_iinc0, j_iload1, j_aload1, j_istore1, j_astore1, j_iinc1, j_iload2, j_aload2, j_istore2, j_astore2, j_iinc2, j_iload3, j_aload3, j_istore3, j_astore3, j_iinc3, j_iload4, j_aload4, j_istore4, j_astore4, j_iinc4, j_iload5, j_aload5, j_istore5, j_astore5, j_iinc5, j_iload6, j_aload6, j_istore6, j_astore6, j_iinc6, j_iload7, j_aload7, j_istore7, j_astore7, j_iinc7, j_iload8, j_aload8, j_istore8, j_astore8, j_iinc8, j_iadd, j_isub, j_imul, j_iand, j_ior, j_ixor, j_ishl, j_ishr, j_iushr, j_idiv, j_irem, j_ineg, j_ladd, j_lmul, j_land, j_lor, j_lcmp, j_lushr, j_lshl, j_i2l, j_l2i, j_dupI, j_dupR, j_popI, j_dup2, j_ifeq, j_iceq, j_ifne, j_icne, j_iflt, j_iclt, j_ifge, j_icge, j_ifgt, j_icgt, j_ifle, j_icle, j_goto, j_tsw, j_sw0, j_sw1, j_ireturn, j_zreturn, j_lreturn, j_return, j_getfield, j_putI, j_putJ, j_putR, j_iaload, j_baload, j_iastore, j_bastore, j_aaload, j_q, j_aastore, j_acopy, j_mmin, j_mmax, j_mabs, j_objinit, j_new, j_newI, j_newQ, j_sld, j_slen, j_callV0, j_callI0, j_callS0, j_callV1, j_callI1, j_callS1, j_callV2, j_callI2, j_callS2, j_callV3, j_callS3, j_callV4, j_callS4, j_callV5, j_callS5, j_pushS, j_pushN, j_sh0, j_sh1, j_sh2, j_sh3, j_sh4, Int32.reduceAdd, Int32.reduceMul, Int32.reduceSub, Int32.reduceLT, Int32.reduceLE, eq_self, i32_10, i32_01, ne_eq, hrow_s, hrow_n, ne10, ne100, ne1000, ne7, ne4, ne14, ne9973, or_true, true_or, or_false, false_or, not_true_eq_false, not_false_eq_true, false_implies, implies_true, and_true, forall_const, true_implies, jargs_n, jargs_r, jargs_i, List.cons_append, List.nil_append, true_and, Nat.reduceEqDiff, reduceIte, ft_X7_haveAll_0, ft_X7_haveAll_1, ft_X7_haveAll_2, ft_X7_haveAll_3, ft_X7_haveAll_4, ft_X7_haveAll_5, ft_X7_haveAll_6, ft_X7_haveAll_9, ft_X7_haveAll_12, ft_X7_haveAll_13, ft_X7_haveAll_16, ft_X7_haveAll_17, ft_X7_haveAll_20, ft_X7_haveAll_21, ft_X7_haveAll_22, ft_X7_haveAll_23, ft_X7_haveAll_24, ft_X7_haveAll_26, ft_X7_haveAll_29, ft_X7_haveAll_30, ft_X7_haveAll_33, ft_X7_haveAll_35, ft_X7_haveAll_36, ft_X7_haveAll_39, ft_X7_haveAll_40, ft_X7_haveAll_41, ft_X7_haveAll_42, ft_X7_haveAll_43, ft_X7_haveAll_44, ft_X7_haveAll_45, ft_X7_haveAll_48, ft_X7_haveAll_49, ft_X7_haveAll_52, ft_X7_haveAll_53, ft_X7_haveAll_54, ft_X7_haveAll_57, ft_X7_haveAll_60, ft_X7_haveAll_61, fl_71_2, fl_71_10, fl_71_11, s.mP, hq, ne1_0, ar_0 jmr78 hj4, hc j hj4, ec, n9, ar_32 jmr79 hc6, ex, x2, nI_1]
          exact hk
        · rw [zb_f fun q => gx q.2] at hk
          simp -implicitDefEqProofs only [jr_0, jr_1, jr_2, j_iconst, j_lconst, j_iload0, j_aload0, j_istore0, j_astore0, j_iinc0, j_iload1, j_aload1, j_istore1, j_astore1, j_iinc1, j_iload2, j_aload2, j_istore2, j_astore2, j_iinc2, j_iload3, j_aload3, j_istore3, j_astore3, j_iinc3, j_iload4, j_aload4, j_istore4, j_astore4, j_iinc4, j_iload5, j_aload5, j_istore5, j_astore5, j_iinc5, j_iload6, j_aload6, j_istore6, j_astore6, j_iinc6, j_iload7, j_aload7, j_istore7, j_astore7, j_iinc7, j_iload8, j_aload8, j_istore8, j_astore8, j_iinc8, j_iadd, j_isub, j_imul, j_iand, j_ior, j_ixor, j_ishl, j_ishr, j_iushr, j_idiv, j_irem, j_ineg, j_ladd, j_lmul, j_land, j_lor, j_lcmp, j_lushr, j_lshl, j_i2l, j_l2i, j_dupI, j_dupR, j_popI, j_dup2, j_ifeq, j_iceq, j_ifne, j_icne, j_iflt, j_iclt, j_ifge, j_icge, j_ifgt, j_icgt, j_ifle, j_icle, j_goto, j_tsw, j_sw0, j_sw1, j_ireturn, j_zreturn, j_lreturn, j_return, j_getfield, j_putI, j_putJ, j_putR, j_iaload, j_baload, j_iastore, j_bastore, j_aaload, j_q, j_aastore, j_acopy, j_mmin, j_mmax, j_mabs, j_objinit, j_new, j_newI, j_newQ, j_sld, j_slen, j_callV0, j_callI0, j_callS0, j_callV1, j_callI1, j_callS1, j_callV2, j_callI2, j_callS2, j_callV3, j_callS3, j_callV4, j_callS4, j_callV5, j_callS5, j_pushS, j_pushN, j_sh0, j_sh1, j_sh2, j_sh3, j_sh4, Int32.reduceAdd, Int32.reduceMul, Int32.reduceSub, Int32.reduceLT, Int32.reduceLE, eq_self, i32_10, i32_01, ne_eq, hrow_s, hrow_n, ne10, ne100, ne1000, ne7, ne4, ne14, ne9973, or_true, true_or, or_false, false_or, not_true_eq_false, not_false_eq_true, false_implies, implies_true, and_true, forall_const, true_implies, jargs_n, jargs_r, jargs_i, List.cons_append, List.nil_append, true_and, Nat.reduceEqDiff, reduceIte, ft_X7_haveAll_0, ft_X7_haveAll_1, ft_X7_haveAll_2, ft_X7_haveAll_3, ft_X7_haveAll_4, ft_X7_haveAll_5, ft_X7_haveAll_6, ft_X7_haveAll_9, ft_X7_haveAll_12, ft_X7_haveAll_13, ft_X7_haveAll_16, ft_X7_haveAll_17, ft_X7_haveAll_20, ft_X7_haveAll_21, ft_X7_haveAll_22, ft_X7_haveAll_23, ft_X7_haveAll_24, ft_X7_haveAll_26, ft_X7_haveAll_29, ft_X7_haveAll_30, ft_X7_haveAll_33, ft_X7_haveAll_35, ft_X7_haveAll_36, ft_X7_haveAll_39, ft_X7_haveAll_40, ft_X7_haveAll_41, ft_X7_haveAll_42, ft_X7_haveAll_43, ft_X7_haveAll_44, ft_X7_haveAll_45, ft_X7_haveAll_48, ft_X7_haveAll_49, ft_X7_haveAll_52, ft_X7_haveAll_53, ft_X7_haveAll_54, ft_X7_haveAll_57, ft_X7_haveAll_60, ft_X7_haveAll_61, fl_71_2, fl_71_10, fl_71_11, s.mP, hq, ne1_0, ar_0 jmr78 hj4, hc j hj4, ec, n9, ar_32 jmr79 hc6, ex, x0, gx, nI_1]
          exact hk
    · rw [zb_f fun q => g q.1] at hk
      rw [zb_f g]
      simp -implicitDefEqProofs only [jr_0, jr_1, jr_2, j_iconst, j_lconst, j_iload0, j_aload0, j_istore0, j_astore0, j_iinc0, j_iload1, j_aload1, j_istore1, j_astore1, j_iinc1, j_iload2, j_aload2, j_istore2, j_astore2, j_iinc2, j_iload3, j_aload3, j_istore3, j_astore3, j_iinc3, j_iload4, j_aload4, j_istore4, j_astore4, j_iinc4, j_iload5, j_aload5, j_istore5, j_astore5, j_iinc5, j_iload6, j_aload6, j_istore6, j_astore6, j_iinc6, j_iload7, j_aload7, j_istore7, j_astore7, j_iinc7, j_iload8, j_aload8, j_istore8, j_astore8, j_iinc8, j_iadd, j_isub, j_imul, j_iand, j_ior, j_ixor, j_ishl, j_ishr, j_iushr, j_idiv, j_irem, j_ineg, j_ladd, j_lmul, j_land, j_lor, j_lcmp, j_lushr, j_lshl, j_i2l, j_l2i, j_dupI, j_dupR, j_popI, j_dup2, j_ifeq, j_iceq, j_ifne, j_icne, j_iflt, j_iclt, j_ifge, j_icge, j_ifgt, j_icgt, j_ifle, j_icle, j_goto, j_tsw, j_sw0, j_sw1, j_ireturn, j_zreturn, j_lreturn, j_return, j_getfield, j_putI, j_putJ, j_putR, j_iaload, j_baload, j_iastore, j_bastore, j_aaload, j_q, j_aastore, j_acopy, j_mmin, j_mmax, j_mabs, j_objinit, j_new, j_newI, j_newQ, j_sld, j_slen, j_callV0, j_callI0, j_callS0, j_callV1, j_callI1, j_callS1, j_callV2, j_callI2, j_callS2, j_callV3, j_callS3, j_callV4, j_callS4, j_callV5, j_callS5, j_pushS, j_pushN, j_sh0, j_sh1, j_sh2, j_sh3, j_sh4, Int32.reduceAdd, Int32.reduceMul, Int32.reduceSub, Int32.reduceLT, Int32.reduceLE, eq_self, i32_10, i32_01, ne_eq, hrow_s, hrow_n, ne10, ne100, ne1000, ne7, ne4, ne14, ne9973, or_true, true_or, or_false, false_or, not_true_eq_false, not_false_eq_true, false_implies, implies_true, and_true, forall_const, true_implies, jargs_n, jargs_r, jargs_i, List.cons_append, List.nil_append, true_and, Nat.reduceEqDiff, reduceIte, ft_X7_haveAll_0, ft_X7_haveAll_1, ft_X7_haveAll_2, ft_X7_haveAll_3, ft_X7_haveAll_4, ft_X7_haveAll_5, ft_X7_haveAll_6, ft_X7_haveAll_9, ft_X7_haveAll_12, ft_X7_haveAll_13, ft_X7_haveAll_16, ft_X7_haveAll_17, ft_X7_haveAll_20, ft_X7_haveAll_21, ft_X7_haveAll_22, ft_X7_haveAll_23, ft_X7_haveAll_24, ft_X7_haveAll_26, ft_X7_haveAll_29, ft_X7_haveAll_30, ft_X7_haveAll_33, ft_X7_haveAll_35, ft_X7_haveAll_36, ft_X7_haveAll_39, ft_X7_haveAll_40, ft_X7_haveAll_41, ft_X7_haveAll_42, ft_X7_haveAll_43, ft_X7_haveAll_44, ft_X7_haveAll_45, ft_X7_haveAll_48, ft_X7_haveAll_49, ft_X7_haveAll_52, ft_X7_haveAll_53, ft_X7_haveAll_54, ft_X7_haveAll_57, ft_X7_haveAll_60, ft_X7_haveAll_61, fl_71_2, s.mP, hq, nI_1]
      exact hk
theorem ok_X7_haveAll : jMeets Y_X7_haveAll S_X7_haveAll := by
  intro nb vs mem Q h
  obtain ⟨C, z, P, K, B, rfl, rfl, s, iv, hc, hQ⟩ := h
  refine Ok.run OK_X7_haveAll [4] 60 [none, none] pn7 (Nat.le_of_ble_eq_true rfl) rfl ?_
  simp -implicitDefEqProofs only [jr_0, jr_1, jr_2, j_iconst, j_lconst, j_iload0, j_aload0, j_istore0, j_astore0, j_iinc0, j_iload1, j_aload1, j_istore1, j_astore1, j_iinc1, j_iload2, j_aload2, j_istore2, j_astore2, j_iinc2, j_iload3, j_aload3, j_istore3, j_astore3, j_iinc3, j_iload4, j_aload4, j_istore4, j_astore4, j_iinc4, j_iload5, j_aload5, j_istore5, j_astore5, j_iinc5, j_iload6, j_aload6, j_istore6, j_astore6, j_iinc6, j_iload7, j_aload7, j_istore7, j_astore7, j_iinc7, j_iload8, j_aload8, j_istore8, j_astore8, j_iinc8, j_iadd, j_isub, j_imul, j_iand, j_ior, j_ixor, j_ishl, j_ishr, j_iushr, j_idiv, j_irem, j_ineg, j_ladd, j_lmul, j_land, j_lor, j_lcmp, j_lushr, j_lshl, j_i2l, j_l2i, j_dupI, j_dupR, j_popI, j_dup2, j_ifeq, j_iceq, j_ifne, j_icne, j_iflt, j_iclt, j_ifge, j_icge, j_ifgt, j_icgt, j_ifle, j_icle, j_goto, j_tsw, j_sw0, j_sw1, j_ireturn, j_zreturn, j_lreturn, j_return, j_getfield, j_putI, j_putJ, j_putR, j_iaload, j_baload, j_iastore, j_bastore, j_aaload, j_q, j_aastore, j_acopy, j_mmin, j_mmax, j_mabs, j_objinit, j_new, j_newI, j_newQ, j_sld, j_slen, j_callV0, j_callI0, j_callS0, j_callV1, j_callI1, j_callS1, j_callV2, j_callI2, j_callS2, j_callV3, j_callS3, j_callV4, j_callS4, j_callV5, j_callS5, j_pushS, j_pushN, j_sh0, j_sh1, j_sh2, j_sh3, j_sh4, Int32.reduceAdd, Int32.reduceMul, Int32.reduceSub, Int32.reduceLT, Int32.reduceLE, eq_self, i32_10, i32_01, ne_eq, hrow_s, hrow_n, ne10, ne100, ne1000, ne7, ne4, ne14, ne9973, or_true, true_or, or_false, false_or, not_true_eq_false, not_false_eq_true, false_implies, implies_true, and_true, forall_const, true_implies, jargs_n, jargs_r, jargs_i, List.cons_append, List.nil_append, true_and, Nat.reduceEqDiff, reduceIte, ft_X7_haveAll_0, ft_X7_haveAll_1, ft_X7_haveAll_2, ft_X7_haveAll_3, ft_X7_haveAll_4, ft_X7_haveAll_5, ft_X7_haveAll_6, ft_X7_haveAll_9, ft_X7_haveAll_12, ft_X7_haveAll_13, ft_X7_haveAll_16, ft_X7_haveAll_17, ft_X7_haveAll_20, ft_X7_haveAll_21, ft_X7_haveAll_22, ft_X7_haveAll_23, ft_X7_haveAll_24, ft_X7_haveAll_26, ft_X7_haveAll_29, ft_X7_haveAll_30, ft_X7_haveAll_33, ft_X7_haveAll_35, ft_X7_haveAll_36, ft_X7_haveAll_39, ft_X7_haveAll_40, ft_X7_haveAll_41, ft_X7_haveAll_42, ft_X7_haveAll_43, ft_X7_haveAll_44, ft_X7_haveAll_45, ft_X7_haveAll_48, ft_X7_haveAll_49, ft_X7_haveAll_52, ft_X7_haveAll_53, ft_X7_haveAll_54, ft_X7_haveAll_57, ft_X7_haveAll_60, ft_X7_haveAll_61]
  have := lp_X7_haveAll (nb := nb) s iv hc (by rw [haF_eq iv s.h4]; exact hQ) P 0 (by omega)
  rw [show zb (haF (C 79) 0) = 1 from zb_t trivial] at this
  exact this
theorem s_X7_haveAll {nb P K B : Nat} {C : Nat → Nat → Int32} {z : Nat → Int64} {Q : jQ} (s : SR C P K) (iv : Inv P K B (C 79)) (hc : ∀ i, i < 4 → C 78 i = C 79 i) (hQ : Q (some (.int (zb (chgP (C 79))))) (memS 94 C z)) : S_X7_haveAll nb [.ref 71] (memS 94 C z) Q := ⟨C, z, P, K, B, rfl, rfl, s, iv, hc, hQ⟩
def S_X7_least : jSp := fun _ vs mem Q => ∃ C C1 z P K B, ∃ x : Int32, vs = [.ref 71, .int x] ∧ mem = memS 94 C1 z ∧ AQ C P K B ∧ Ev C C1 ∧ ∀ C', Ev C C' → Q (some (.int (pick (0 ≤ x ∧ x ≤ 40) (lstF C x.toNatClampNeg 100 0) (-2)))) (memS 94 C' z)
def F_X7_least_0 : Nat → jT := fun pc => (bif Nat.blt pc 7 then (bif Nat.blt pc 2 then (bif Nat.blt pc 1 then (bif Nat.beq pc 0 then J_iload 1 1 else jbad) else (bif Nat.beq pc 1 then J_iconst 0 2 else jbad)) else (bif Nat.blt pc 4 then (bif Nat.beq pc 2 then J_iconst 40 4 else jbad) else (bif Nat.beq pc 4 then J_callS S_X7_in 3 7 else jbad))) else (bif Nat.blt pc 12 then (bif Nat.blt pc 10 then (bif Nat.beq pc 7 then J_ifne 13 10 else jbad) else (bif Nat.beq pc 10 then J_iconst (-2) 12 else jbad)) else (bif Nat.blt pc 13 then (bif Nat.beq pc 12 then J_ireturn 0 0 else jbad) else (bif Nat.beq pc 13 then J_iconst 0 14 else jbad))))
theorem ftl_X7_least_0 : F_X7_least_0 0 = J_iload 1 1 := rfl
theorem ftl_X7_least_1 : F_X7_least_0 1 = J_iconst 0 2 := rfl
theorem ftl_X7_least_2 : F_X7_least_0 2 = J_iconst 40 4 := rfl
theorem ftl_X7_least_4 : F_X7_least_0 4 = J_callS S_X7_in 3 7 := rfl
theorem ftl_X7_least_7 : F_X7_least_0 7 = J_ifne 13 10 := rfl
theorem ftl_X7_least_10 : F_X7_least_0 10 = J_iconst (-2) 12 := rfl
theorem ftl_X7_least_12 : F_X7_least_0 12 = J_ireturn 0 0 := rfl
theorem ftl_X7_least_13 : F_X7_least_0 13 = J_iconst 0 14 := rfl
theorem F_X7_least_0_ok : jOK Y_X7_least none (F_X7_least_0) := (jOK_node (jOK_node (jOK_node (jOK_leaf (sn_iload_n dX7_least_0 rfl rfl)) (jOK_leaf (sn_iconst dX7_least_1 rfl rfl))) (jOK_node (jOK_leaf (sn_bipush dX7_least_2 rfl rfl)) (jOK_leaf (sn_callS (Y' := Y_X7_in) ok_X7_in dX7_least_4 rfl rfl tw_737 tw_738 tw_8 jc_X7_in ⟨by decide, by decide, rfl⟩ ⟨by decide, by decide⟩)))) (jOK_node (jOK_node (jOK_leaf (sn_ifne dX7_least_7 rfl rfl)) (jOK_leaf (sn_bipush dX7_least_10 rfl rfl))) (jOK_node (jOK_leaf (sn_ireturn dX7_least_12 rfl rfl)) (jOK_leaf (sn_iconst dX7_least_13 rfl rfl)))))
def F_X7_least_14 : Nat → jT := fun pc => (bif Nat.blt pc 21 then (bif Nat.blt pc 16 then (bif Nat.blt pc 15 then (bif Nat.beq pc 14 then J_istore 2 15 else jbad) else (bif Nat.beq pc 15 then J_iload 2 16 else jbad)) else (bif Nat.blt pc 18 then (bif Nat.beq pc 16 then J_iconst 100 18 else jbad) else (bif Nat.beq pc 18 then J_icge 62 21 else jbad))) else (bif Nat.blt pc 25 then (bif Nat.blt pc 22 then (bif Nat.beq pc 21 then J_aload 0 22 else jbad) else (bif Nat.beq pc 22 then J_getfield 7 10 25 else jbad)) else (bif Nat.blt pc 26 then (bif Nat.beq pc 25 then J_aload 0 26 else jbad) else (bif Nat.blt pc 29 then (bif Nat.beq pc 26 then J_getfield 7 11 29 else jbad) else (bif Nat.beq pc 29 then J_callS S_X7_copy 2 32 else jbad)))))
theorem ftl_X7_least_14 : F_X7_least_14 14 = J_istore 2 15 := rfl
theorem ftl_X7_least_15 : F_X7_least_14 15 = J_iload 2 16 := rfl
theorem ftl_X7_least_16 : F_X7_least_14 16 = J_iconst 100 18 := rfl
theorem ftl_X7_least_18 : F_X7_least_14 18 = J_icge 62 21 := rfl
theorem ftl_X7_least_21 : F_X7_least_14 21 = J_aload 0 22 := rfl
theorem ftl_X7_least_22 : F_X7_least_14 22 = J_getfield 7 10 25 := rfl
theorem ftl_X7_least_25 : F_X7_least_14 25 = J_aload 0 26 := rfl
theorem ftl_X7_least_26 : F_X7_least_14 26 = J_getfield 7 11 29 := rfl
theorem ftl_X7_least_29 : F_X7_least_14 29 = J_callS S_X7_copy 2 32 := rfl
theorem F_X7_least_14_ok : jOK Y_X7_least none (F_X7_least_14) := (jOK_node (jOK_node (jOK_node (jOK_leaf (sn_istore_n dX7_least_14 rfl rfl (by decide))) (jOK_leaf (sn_iload_n dX7_least_15 rfl rfl))) (jOK_node (jOK_leaf (sn_bipush dX7_least_16 rfl rfl)) (jOK_leaf (sn_icge dX7_least_18 rfl rfl)))) (jOK_node (jOK_node (jOK_leaf (sn_aload_n dX7_least_21 rfl rfl)) (jOK_leaf (sn_getfield dX7_least_22 rfl rfl (by decide) tw_624 jin7))) (jOK_node (jOK_leaf (sn_aload_n dX7_least_25 rfl rfl)) (jOK_node (jOK_leaf (sn_getfield dX7_least_26 rfl rfl (by decide) tw_625 jin7)) (jOK_leaf (sn_callS (Y' := Y_X7_copy) ok_X7_copy dX7_least_29 rfl rfl tw_923 tw_924 tw_8 jc_X7_copy ⟨by decide, by decide, rfl⟩ ⟨by decide, by decide⟩))))))
def F_X7_least_0_29 : Nat → jT := fun pc => bif Nat.blt pc 14 then F_X7_least_0 pc else F_X7_least_14 pc
theorem F_X7_least_0_29_l {pc : Nat} (h : Nat.blt pc 14 = true) : F_X7_least_0_29 pc = F_X7_least_0 pc := by unfold F_X7_least_0_29; rw [h]; rfl
theorem F_X7_least_0_29_r {pc : Nat} (h : Nat.blt pc 14 = false) : F_X7_least_0_29 pc = F_X7_least_14 pc := by unfold F_X7_least_0_29; rw [h]; rfl
theorem F_X7_least_0_29_ok : jOK Y_X7_least none (F_X7_least_0_29) := jOK_node (F_X7_least_0_ok) (F_X7_least_14_ok)
def F_X7_least_32 : Nat → jT := fun pc => (bif Nat.blt pc 39 then (bif Nat.blt pc 36 then (bif Nat.blt pc 33 then (bif Nat.beq pc 32 then J_aload 0 33 else jbad) else (bif Nat.beq pc 33 then J_getfield 7 11 36 else jbad)) else (bif Nat.blt pc 38 then (bif Nat.beq pc 36 then J_iconst 38 38 else jbad) else (bif Nat.beq pc 38 then J_iload 2 39 else jbad))) else (bif Nat.blt pc 41 then (bif Nat.blt pc 40 then (bif Nat.beq pc 39 then J_iastore 40 else jbad) else (bif Nat.beq pc 40 then J_aload 0 41 else jbad)) else (bif Nat.blt pc 42 then (bif Nat.beq pc 41 then J_iload 1 42 else jbad) else (bif Nat.blt pc 44 then (bif Nat.beq pc 42 then J_iconst 15 44 else jbad) else (bif Nat.beq pc 44 then J_callV 7 S_X7_tryMinutes 2 47 else jbad)))))
theorem ftl_X7_least_32 : F_X7_least_32 32 = J_aload 0 33 := rfl
theorem ftl_X7_least_33 : F_X7_least_32 33 = J_getfield 7 11 36 := rfl
theorem ftl_X7_least_36 : F_X7_least_32 36 = J_iconst 38 38 := rfl
theorem ftl_X7_least_38 : F_X7_least_32 38 = J_iload 2 39 := rfl
theorem ftl_X7_least_39 : F_X7_least_32 39 = J_iastore 40 := rfl
theorem ftl_X7_least_40 : F_X7_least_32 40 = J_aload 0 41 := rfl
theorem ftl_X7_least_41 : F_X7_least_32 41 = J_iload 1 42 := rfl
theorem ftl_X7_least_42 : F_X7_least_32 42 = J_iconst 15 44 := rfl
theorem ftl_X7_least_44 : F_X7_least_32 44 = J_callV 7 S_X7_tryMinutes 2 47 := rfl
theorem F_X7_least_32_ok : jOK Y_X7_least none (F_X7_least_32) := (jOK_node (jOK_node (jOK_node (jOK_leaf (sn_aload_n dX7_least_32 rfl rfl)) (jOK_leaf (sn_getfield dX7_least_33 rfl rfl (by decide) tw_625 jin7))) (jOK_node (jOK_leaf (sn_bipush dX7_least_36 rfl rfl)) (jOK_leaf (sn_iload_n dX7_least_38 rfl rfl)))) (jOK_node (jOK_node (jOK_leaf (sn_iastore dX7_least_39 rfl)) (jOK_leaf (sn_aload_n dX7_least_40 rfl rfl))) (jOK_node (jOK_leaf (sn_iload_n dX7_least_41 rfl rfl)) (jOK_node (jOK_leaf (sn_bipush dX7_least_42 rfl rfl)) (jOK_leaf (sn_callV (Y' := Y_X7_tryMinutes) ok_X7_tryMinutes dX7_least_44 rfl rfl rfl tw_926 tw_928 tp_54 tw_8 jc_X7_tryMinutes rfl ⟨by decide, by decide, rfl⟩ ⟨by decide, by decide⟩))))))
def F_X7_least_47 : Nat → jT := fun pc => (bif Nat.blt pc 55 then (bif Nat.blt pc 51 then (bif Nat.blt pc 48 then (bif Nat.beq pc 47 then J_aload 0 48 else jbad) else (bif Nat.beq pc 48 then J_callV 7 S_X7_haveAll 0 51 else jbad)) else (bif Nat.blt pc 54 then (bif Nat.beq pc 51 then J_ifeq 56 54 else jbad) else (bif Nat.beq pc 54 then J_iload 2 55 else jbad))) else (bif Nat.blt pc 59 then (bif Nat.blt pc 56 then (bif Nat.beq pc 55 then J_ireturn 0 0 else jbad) else (bif Nat.beq pc 56 then J_iinc 2 1 59 else jbad)) else (bif Nat.blt pc 62 then (bif Nat.beq pc 59 then J_goto 15 else jbad) else (bif Nat.blt pc 64 then (bif Nat.beq pc 62 then J_iconst (-9) 64 else jbad) else (bif Nat.beq pc 64 then J_ireturn 0 0 else jbad)))))
theorem ftl_X7_least_47 : F_X7_least_47 47 = J_aload 0 48 := rfl
theorem ftl_X7_least_48 : F_X7_least_47 48 = J_callV 7 S_X7_haveAll 0 51 := rfl
theorem ftl_X7_least_51 : F_X7_least_47 51 = J_ifeq 56 54 := rfl
theorem ftl_X7_least_54 : F_X7_least_47 54 = J_iload 2 55 := rfl
theorem ftl_X7_least_55 : F_X7_least_47 55 = J_ireturn 0 0 := rfl
theorem ftl_X7_least_56 : F_X7_least_47 56 = J_iinc 2 1 59 := rfl
theorem ftl_X7_least_59 : F_X7_least_47 59 = J_goto 15 := rfl
theorem ftl_X7_least_62 : F_X7_least_47 62 = J_iconst (-9) 64 := rfl
theorem ftl_X7_least_64 : F_X7_least_47 64 = J_ireturn 0 0 := rfl
theorem F_X7_least_47_ok : jOK Y_X7_least none (F_X7_least_47) := (jOK_node (jOK_node (jOK_node (jOK_leaf (sn_aload_n dX7_least_47 rfl rfl)) (jOK_leaf (sn_callV (Y' := Y_X7_haveAll) ok_X7_haveAll dX7_least_48 rfl rfl rfl tw_938 tw_940 tp_55 tw_8 jc_X7_haveAll rfl ⟨by decide, by decide, rfl⟩ ⟨by decide, by decide⟩))) (jOK_node (jOK_leaf (sn_ifeq dX7_least_51 rfl rfl)) (jOK_leaf (sn_iload_n dX7_least_54 rfl rfl)))) (jOK_node (jOK_node (jOK_leaf (sn_ireturn dX7_least_55 rfl rfl)) (jOK_leaf (sn_iinc dX7_least_56 rfl rfl (by decide)))) (jOK_node (jOK_leaf (sn_goto dX7_least_59 rfl)) (jOK_node (jOK_leaf (sn_bipush dX7_least_62 rfl rfl)) (jOK_leaf (sn_ireturn dX7_least_64 rfl rfl))))))
def F_X7_least_32_64 : Nat → jT := fun pc => bif Nat.blt pc 47 then F_X7_least_32 pc else F_X7_least_47 pc
theorem F_X7_least_32_64_l {pc : Nat} (h : Nat.blt pc 47 = true) : F_X7_least_32_64 pc = F_X7_least_32 pc := by unfold F_X7_least_32_64; rw [h]; rfl
theorem F_X7_least_32_64_r {pc : Nat} (h : Nat.blt pc 47 = false) : F_X7_least_32_64 pc = F_X7_least_47 pc := by unfold F_X7_least_32_64; rw [h]; rfl
theorem F_X7_least_32_64_ok : jOK Y_X7_least none (F_X7_least_32_64) := jOK_node (F_X7_least_32_ok) (F_X7_least_47_ok)
def F_X7_least_0_64 : Nat → jT := fun pc => bif Nat.blt pc 32 then F_X7_least_0_29 pc else F_X7_least_32_64 pc
theorem F_X7_least_0_64_l {pc : Nat} (h : Nat.blt pc 32 = true) : F_X7_least_0_64 pc = F_X7_least_0_29 pc := by unfold F_X7_least_0_64; rw [h]; rfl
theorem F_X7_least_0_64_r {pc : Nat} (h : Nat.blt pc 32 = false) : F_X7_least_0_64 pc = F_X7_least_32_64 pc := by unfold F_X7_least_0_64; rw [h]; rfl
theorem F_X7_least_0_64_ok : jOK Y_X7_least none (F_X7_least_0_64) := jOK_node (F_X7_least_0_29_ok) (F_X7_least_32_64_ok)
def F_X7_least : Nat → jT := F_X7_least_0_64
theorem OK_X7_least : jOK Y_X7_least none (F_X7_least) := F_X7_least_0_64_ok
theorem ft_X7_least_0 : F_X7_least 0 = J_iload 1 1 := (F_X7_least_0_64_l rfl).trans ((F_X7_least_0_29_l rfl).trans (ftl_X7_least_0))
theorem ft_X7_least_1 : F_X7_least 1 = J_iconst 0 2 := (F_X7_least_0_64_l rfl).trans ((F_X7_least_0_29_l rfl).trans (ftl_X7_least_1))
theorem ft_X7_least_2 : F_X7_least 2 = J_iconst 40 4 := (F_X7_least_0_64_l rfl).trans ((F_X7_least_0_29_l rfl).trans (ftl_X7_least_2))
theorem ft_X7_least_4 : F_X7_least 4 = J_callS S_X7_in 3 7 := (F_X7_least_0_64_l rfl).trans ((F_X7_least_0_29_l rfl).trans (ftl_X7_least_4))
theorem ft_X7_least_7 : F_X7_least 7 = J_ifne 13 10 := (F_X7_least_0_64_l rfl).trans ((F_X7_least_0_29_l rfl).trans (ftl_X7_least_7))
theorem ft_X7_least_10 : F_X7_least 10 = J_iconst (-2) 12 := (F_X7_least_0_64_l rfl).trans ((F_X7_least_0_29_l rfl).trans (ftl_X7_least_10))
theorem ft_X7_least_12 : F_X7_least 12 = J_ireturn 0 0 := (F_X7_least_0_64_l rfl).trans ((F_X7_least_0_29_l rfl).trans (ftl_X7_least_12))
theorem ft_X7_least_13 : F_X7_least 13 = J_iconst 0 14 := (F_X7_least_0_64_l rfl).trans ((F_X7_least_0_29_l rfl).trans (ftl_X7_least_13))
theorem ft_X7_least_14 : F_X7_least 14 = J_istore 2 15 := (F_X7_least_0_64_l rfl).trans ((F_X7_least_0_29_r rfl).trans (ftl_X7_least_14))
theorem ft_X7_least_15 : F_X7_least 15 = J_iload 2 16 := (F_X7_least_0_64_l rfl).trans ((F_X7_least_0_29_r rfl).trans (ftl_X7_least_15))
theorem ft_X7_least_16 : F_X7_least 16 = J_iconst 100 18 := (F_X7_least_0_64_l rfl).trans ((F_X7_least_0_29_r rfl).trans (ftl_X7_least_16))
theorem ft_X7_least_18 : F_X7_least 18 = J_icge 62 21 := (F_X7_least_0_64_l rfl).trans ((F_X7_least_0_29_r rfl).trans (ftl_X7_least_18))
theorem ft_X7_least_21 : F_X7_least 21 = J_aload 0 22 := (F_X7_least_0_64_l rfl).trans ((F_X7_least_0_29_r rfl).trans (ftl_X7_least_21))
theorem ft_X7_least_22 : F_X7_least 22 = J_getfield 7 10 25 := (F_X7_least_0_64_l rfl).trans ((F_X7_least_0_29_r rfl).trans (ftl_X7_least_22))
theorem ft_X7_least_25 : F_X7_least 25 = J_aload 0 26 := (F_X7_least_0_64_l rfl).trans ((F_X7_least_0_29_r rfl).trans (ftl_X7_least_25))
theorem ft_X7_least_26 : F_X7_least 26 = J_getfield 7 11 29 := (F_X7_least_0_64_l rfl).trans ((F_X7_least_0_29_r rfl).trans (ftl_X7_least_26))
theorem ft_X7_least_29 : F_X7_least 29 = J_callS S_X7_copy 2 32 := (F_X7_least_0_64_l rfl).trans ((F_X7_least_0_29_r rfl).trans (ftl_X7_least_29))
theorem ft_X7_least_32 : F_X7_least 32 = J_aload 0 33 := (F_X7_least_0_64_r rfl).trans ((F_X7_least_32_64_l rfl).trans (ftl_X7_least_32))
theorem ft_X7_least_33 : F_X7_least 33 = J_getfield 7 11 36 := (F_X7_least_0_64_r rfl).trans ((F_X7_least_32_64_l rfl).trans (ftl_X7_least_33))
theorem ft_X7_least_36 : F_X7_least 36 = J_iconst 38 38 := (F_X7_least_0_64_r rfl).trans ((F_X7_least_32_64_l rfl).trans (ftl_X7_least_36))
theorem ft_X7_least_38 : F_X7_least 38 = J_iload 2 39 := (F_X7_least_0_64_r rfl).trans ((F_X7_least_32_64_l rfl).trans (ftl_X7_least_38))
theorem ft_X7_least_39 : F_X7_least 39 = J_iastore 40 := (F_X7_least_0_64_r rfl).trans ((F_X7_least_32_64_l rfl).trans (ftl_X7_least_39))
theorem ft_X7_least_40 : F_X7_least 40 = J_aload 0 41 := (F_X7_least_0_64_r rfl).trans ((F_X7_least_32_64_l rfl).trans (ftl_X7_least_40))
theorem ft_X7_least_41 : F_X7_least 41 = J_iload 1 42 := (F_X7_least_0_64_r rfl).trans ((F_X7_least_32_64_l rfl).trans (ftl_X7_least_41))
theorem ft_X7_least_42 : F_X7_least 42 = J_iconst 15 44 := (F_X7_least_0_64_r rfl).trans ((F_X7_least_32_64_l rfl).trans (ftl_X7_least_42))
theorem ft_X7_least_44 : F_X7_least 44 = J_callV 7 S_X7_tryMinutes 2 47 := (F_X7_least_0_64_r rfl).trans ((F_X7_least_32_64_l rfl).trans (ftl_X7_least_44))
theorem ft_X7_least_47 : F_X7_least 47 = J_aload 0 48 := (F_X7_least_0_64_r rfl).trans ((F_X7_least_32_64_r rfl).trans (ftl_X7_least_47))
theorem ft_X7_least_48 : F_X7_least 48 = J_callV 7 S_X7_haveAll 0 51 := (F_X7_least_0_64_r rfl).trans ((F_X7_least_32_64_r rfl).trans (ftl_X7_least_48))
theorem ft_X7_least_51 : F_X7_least 51 = J_ifeq 56 54 := (F_X7_least_0_64_r rfl).trans ((F_X7_least_32_64_r rfl).trans (ftl_X7_least_51))
theorem ft_X7_least_54 : F_X7_least 54 = J_iload 2 55 := (F_X7_least_0_64_r rfl).trans ((F_X7_least_32_64_r rfl).trans (ftl_X7_least_54))
theorem ft_X7_least_55 : F_X7_least 55 = J_ireturn 0 0 := (F_X7_least_0_64_r rfl).trans ((F_X7_least_32_64_r rfl).trans (ftl_X7_least_55))
theorem ft_X7_least_56 : F_X7_least 56 = J_iinc 2 1 59 := (F_X7_least_0_64_r rfl).trans ((F_X7_least_32_64_r rfl).trans (ftl_X7_least_56))
theorem ft_X7_least_59 : F_X7_least 59 = J_goto 15 := (F_X7_least_0_64_r rfl).trans ((F_X7_least_32_64_r rfl).trans (ftl_X7_least_59))
theorem ft_X7_least_62 : F_X7_least 62 = J_iconst (-9) 64 := (F_X7_least_0_64_r rfl).trans ((F_X7_least_32_64_r rfl).trans (ftl_X7_least_62))
theorem ft_X7_least_64 : F_X7_least 64 = J_ireturn 0 0 := (F_X7_least_0_64_r rfl).trans ((F_X7_least_32_64_r rfl).trans (ftl_X7_least_64))
theorem lp_X7_least {Q : jQ} {C : Nat → Nat → Int32} {z : Nat → Int64} {nb P K B n : Nat} (q : AQ C P K B) (hn : n ≤ 40) :
    ∀ k j, j + k = 100 → ∀ C1, Ev C C1 → (∀ C', Ev C C' → Q (some (.int (lstF C n k j))) (memS 94 C' z)) → Rn Y_X7_least none Q 15 [some (.ref 71), some (.int (nI n)), some (.int (nI j))] [] (memS 94 C1 z) (nb, 0, 0) := by
  intro k
  induction k with
  | zero =>
    intro j hj C1 v hQ
    have hj : j = 100 := by omega
    subst hj
    have hq : (100 ≤ nI 100) = True := eq_true (by decide)
    refine jrun_first OK_X7_least (C := [15]) 60 ?_
    simp -implicitDefEqProofs only [jr_0, jr_1, jr_2, j_iconst, j_lconst, j_iload0, j_aload0, j_istore0, j_astore0, j_iinc0, j_iload1, j_aload1, j_istore1, j_astore1, j_iinc1, j_iload2, j_aload2, j_istore2, j_astore2, j_iinc2, j_iload3, j_aload3, j_istore3, j_astore3, j_iinc3, j_iload4, j_aload4, j_istore4, j_astore4, j_iinc4, j_iload5, j_aload5, j_istore5, j_astore5, j_iinc5, j_iload6, j_aload6, j_istore6, j_astore6, j_iinc6, j_iload7, j_aload7, j_istore7, j_astore7, j_iinc7, j_iload8, j_aload8, j_istore8, j_astore8, j_iinc8, j_iadd, j_isub, j_imul, j_iand, j_ior, j_ixor, j_ishl, j_ishr, j_iushr, j_idiv, j_irem, j_ineg, j_ladd, j_lmul, j_land, j_lor, j_lcmp, j_lushr, j_lshl, j_i2l, j_l2i, j_dupI, j_dupR, j_popI, j_dup2, j_ifeq, j_iceq, j_ifne, j_icne, j_iflt, j_iclt, j_ifge, j_icge, j_ifgt, j_icgt, j_ifle, j_icle, j_goto, j_tsw, j_sw0, j_sw1, j_ireturn, j_zreturn, j_lreturn, j_return, j_getfield, j_putI, j_putJ, j_putR, j_iaload, j_baload, j_iastore, j_bastore, j_aaload, j_q, j_aastore, j_acopy, j_mmin, j_mmax, j_mabs, j_objinit, j_new, j_newI, j_newQ, j_sld, j_slen, j_callV0, j_callI0, j_callS0, j_callV1, j_callI1, j_callS1, j_callV2, j_callI2, j_callS2, j_callV3, j_callS3, j_callV4, j_callS4, j_callV5, j_callS5, j_pushS, j_pushN, j_sh0, j_sh1, j_sh2, j_sh3, j_sh4, Int32.reduceAdd, Int32.reduceMul, Int32.reduceSub, Int32.reduceLT, Int32.reduceLE, eq_self, i32_10, i32_01, ne_eq, hrow_s, hrow_n, ne10, ne100, ne1000, ne7, ne4, ne14, ne9973, or_true, true_or, or_false, false_or, not_true_eq_false, not_false_eq_true, false_implies, implies_true, and_true, forall_const, true_implies, jargs_n, jargs_r, jargs_i, List.cons_append, List.nil_append, true_and, Nat.reduceEqDiff, reduceIte, ft_X7_least_0, ft_X7_least_1, ft_X7_least_2, ft_X7_least_4, ft_X7_least_7, ft_X7_least_10, ft_X7_least_12, ft_X7_least_13, ft_X7_least_14, ft_X7_least_15, ft_X7_least_16, ft_X7_least_18, ft_X7_least_21, ft_X7_least_22, ft_X7_least_25, ft_X7_least_26, ft_X7_least_29, ft_X7_least_32, ft_X7_least_33, ft_X7_least_36, ft_X7_least_38, ft_X7_least_39, ft_X7_least_40, ft_X7_least_41, ft_X7_least_42, ft_X7_least_44, ft_X7_least_47, ft_X7_least_48, ft_X7_least_51, ft_X7_least_54, ft_X7_least_55, ft_X7_least_56, ft_X7_least_59, ft_X7_least_62, ft_X7_least_64, hq]
    exact hQ C1 v
  | succ k ih =>
    intro j hj C1 v hQ
    have hq : (100 ≤ nI j) = False := eq_false (nI_ge (b := 100) (by omega) (by decide))
    unfold lstF at hQ
    refine jrun_first OK_X7_least (C := [15]) 60 ?_
    simp -implicitDefEqProofs only [jr_0, jr_1, jr_2, j_iconst, j_lconst, j_iload0, j_aload0, j_istore0, j_astore0, j_iinc0, j_iload1, j_aload1, j_istore1, j_astore1, j_iinc1, j_iload2, j_aload2, j_istore2, j_astore2, j_iinc2, j_iload3, j_aload3, j_istore3, j_astore3, j_iinc3, j_iload4, j_aload4, j_istore4, j_astore4, j_iinc4, j_iload5, j_aload5, j_istore5, j_astore5, j_iinc5, j_iload6, j_aload6, j_istore6, j_astore6, j_iinc6, j_iload7, j_aload7, j_istore7, j_astore7, j_iinc7, j_iload8, j_aload8, j_istore8, j_astore8, j_iinc8, j_iadd, j_isub, j_imul, j_iand, j_ior, j_ixor, j_ishl, j_ishr, j_iushr, j_idiv, j_irem, j_ineg, j_ladd, j_lmul, j_land, j_lor, j_lcmp, j_lushr, j_lshl, j_i2l, j_l2i, j_dupI, j_dupR, j_popI, j_dup2, j_ifeq, j_iceq, j_ifne, j_icne, j_iflt, j_iclt, j_ifge, j_icge, j_ifgt, j_icgt, j_ifle, j_icle, j_goto, j_tsw, j_sw0, j_sw1, j_ireturn, j_zreturn, j_lreturn, j_return, j_getfield, j_putI, j_putJ, j_putR, j_iaload, j_baload, j_iastore, j_bastore, j_aaload, j_q, j_aastore, j_acopy, j_mmin, j_mmax, j_mabs, j_objinit, j_new, j_newI, j_newQ, j_sld, j_slen, j_callV0, j_callI0, j_callS0, j_callV1, j_callI1, j_callS1, j_callV2, j_callI2, j_callS2, j_callV3, j_callS3, j_callV4, j_callS4, j_callV5, j_callS5, j_pushS, j_pushN, j_sh0, j_sh1, j_sh2, j_sh3, j_sh4, Int32.reduceAdd, Int32.reduceMul, Int32.reduceSub, Int32.reduceLT, Int32.reduceLE, eq_self, i32_10, i32_01, ne_eq, hrow_s, hrow_n, ne10, ne100, ne1000, ne7, ne4, ne14, ne9973, or_true, true_or, or_false, false_or, not_true_eq_false, not_false_eq_true, false_implies, implies_true, and_true, forall_const, true_implies, jargs_n, jargs_r, jargs_i, List.cons_append, List.nil_append, true_and, Nat.reduceEqDiff, reduceIte, ft_X7_least_0, ft_X7_least_1, ft_X7_least_2, ft_X7_least_4, ft_X7_least_7, ft_X7_least_10, ft_X7_least_12, ft_X7_least_13, ft_X7_least_14, ft_X7_least_15, ft_X7_least_16, ft_X7_least_18, ft_X7_least_21, ft_X7_least_22, ft_X7_least_25, ft_X7_least_26, ft_X7_least_29, ft_X7_least_32, ft_X7_least_33, ft_X7_least_36, ft_X7_least_38, ft_X7_least_39, ft_X7_least_40, ft_X7_least_41, ft_X7_least_42, ft_X7_least_44, ft_X7_least_47, ft_X7_least_48, ft_X7_least_51, ft_X7_least_54, ft_X7_least_55, ft_X7_least_56, ft_X7_least_59, ft_X7_least_62, ft_X7_least_64, hq, rc_71, fl_71_10, fl_71_11]
    refine s_copyE q.1 v fun C2 v2 e2 _ _ => ?_
    have i3 : Inv P K B (upd (C 9) 38 (nI j)) := q.1.iv.upL (by omega)
    simp -implicitDefEqProofs only [jr_0, jr_1, jr_2, j_iconst, j_lconst, j_iload0, j_aload0, j_istore0, j_astore0, j_iinc0, j_iload1, j_aload1, j_istore1, j_astore1, j_iinc1, j_iload2, j_aload2, j_istore2, j_astore2, j_iinc2, j_iload3, j_aload3, j_istore3, j_astore3, j_iinc3, j_iload4, j_aload4, j_istore4, j_astore4, j_iinc4, j_iload5, j_aload5, j_istore5, j_astore5, j_iinc5, j_iload6, j_aload6, j_istore6, j_astore6, j_iinc6, j_iload7, j_aload7, j_istore7, j_astore7, j_iinc7, j_iload8, j_aload8, j_istore8, j_astore8, j_iinc8, j_iadd, j_isub, j_imul, j_iand, j_ior, j_ixor, j_ishl, j_ishr, j_iushr, j_idiv, j_irem, j_ineg, j_ladd, j_lmul, j_land, j_lor, j_lcmp, j_lushr, j_lshl, j_i2l, j_l2i, j_dupI, j_dupR, j_popI, j_dup2, j_ifeq, j_iceq, j_ifne, j_icne, j_iflt, j_iclt, j_ifge, j_icge, j_ifgt, j_icgt, j_ifle, j_icle, j_goto, j_tsw, j_sw0, j_sw1, j_ireturn, j_zreturn, j_lreturn, j_return, j_getfield, j_putI, j_putJ, j_putR, j_iaload, j_baload, j_iastore, j_bastore, j_aaload, j_q, j_aastore, j_acopy, j_mmin, j_mmax, j_mabs, j_objinit, j_new, j_newI, j_newQ, j_sld, j_slen, j_callV0, j_callI0, j_callS0, j_callV1, j_callI1, j_callS1, j_callV2, j_callI2, j_callS2, j_callV3, j_callS3, j_callV4, j_callS4, j_callV5, j_callS5, j_pushS, j_pushN, j_sh0, j_sh1, j_sh2, j_sh3, j_sh4, Int32.reduceAdd, Int32.reduceMul, Int32.reduceSub, Int32.reduceLT, Int32.reduceLE, eq_self, i32_10, i32_01, ne_eq, hrow_s, hrow_n, ne10, ne100, ne1000, ne7, ne4, ne14, ne9973, or_true, true_or, or_false, false_or, not_true_eq_false, not_false_eq_true, false_implies, implies_true, and_true, forall_const, true_implies, jargs_n, jargs_r, jargs_i, List.cons_append, List.nil_append, true_and, Nat.reduceEqDiff, reduceIte, ft_X7_least_0, ft_X7_least_1, ft_X7_least_2, ft_X7_least_4, ft_X7_least_7, ft_X7_least_10, ft_X7_least_12, ft_X7_least_13, ft_X7_least_14, ft_X7_least_15, ft_X7_least_16, ft_X7_least_18, ft_X7_least_21, ft_X7_least_22, ft_X7_least_25, ft_X7_least_26, ft_X7_least_29, ft_X7_least_32, ft_X7_least_33, ft_X7_least_36, ft_X7_least_38, ft_X7_least_39, ft_X7_least_40, ft_X7_least_41, ft_X7_least_42, ft_X7_least_44, ft_X7_least_47, ft_X7_least_48, ft_X7_least_51, ft_X7_least_54, ft_X7_least_55, ft_X7_least_56, ft_X7_least_59, ft_X7_least_62, ft_X7_least_64, rc_71, fl_71_11, aw_38 jmr79, e2]
    have v3 : Ev C (hrow C2 79 (upd (C 9) 38 (nI j))) := v2.h79 i3.cut
    refine s_tryE (l := -1) (sil := 0) q.1 v3 (by rw [q.2.1.2]; exact Li_19) (by rw [hrow_s]; exact i3) (by omega) (by have := q.2.2; omega) Ta_0 fun C4 v4 e4 i4 _ => ?_
    rw [hrow_s, q.2.1.1] at e4
    have hcar := (goF_I (sil := 0) (fed := 15) (l := -1) q.1.s.1 i3 n (by have := q.2.2; omega)).2
    rw [← e4] at hcar hQ
    simp -implicitDefEqProofs only [jr_0, jr_1, jr_2, j_iconst, j_lconst, j_iload0, j_aload0, j_istore0, j_astore0, j_iinc0, j_iload1, j_aload1, j_istore1, j_astore1, j_iinc1, j_iload2, j_aload2, j_istore2, j_astore2, j_iinc2, j_iload3, j_aload3, j_istore3, j_astore3, j_iinc3, j_iload4, j_aload4, j_istore4, j_astore4, j_iinc4, j_iload5, j_aload5, j_istore5, j_astore5, j_iinc5, j_iload6, j_aload6, j_istore6, j_astore6, j_iinc6, j_iload7, j_aload7, j_istore7, j_astore7, j_iinc7, j_iload8, j_aload8, j_istore8, j_astore8, j_iinc8, j_iadd, j_isub, j_imul, j_iand, j_ior, j_ixor, j_ishl, j_ishr, j_iushr, j_idiv, j_irem, j_ineg, j_ladd, j_lmul, j_land, j_lor, j_lcmp, j_lushr, j_lshl, j_i2l, j_l2i, j_dupI, j_dupR, j_popI, j_dup2, j_ifeq, j_iceq, j_ifne, j_icne, j_iflt, j_iclt, j_ifge, j_icge, j_ifgt, j_icgt, j_ifle, j_icle, j_goto, j_tsw, j_sw0, j_sw1, j_ireturn, j_zreturn, j_lreturn, j_return, j_getfield, j_putI, j_putJ, j_putR, j_iaload, j_baload, j_iastore, j_bastore, j_aaload, j_q, j_aastore, j_acopy, j_mmin, j_mmax, j_mabs, j_objinit, j_new, j_newI, j_newQ, j_sld, j_slen, j_callV0, j_callI0, j_callS0, j_callV1, j_callI1, j_callS1, j_callV2, j_callI2, j_callS2, j_callV3, j_callS3, j_callV4, j_callS4, j_callV5, j_callS5, j_pushS, j_pushN, j_sh0, j_sh1, j_sh2, j_sh3, j_sh4, Int32.reduceAdd, Int32.reduceMul, Int32.reduceSub, Int32.reduceLT, Int32.reduceLE, eq_self, i32_10, i32_01, ne_eq, hrow_s, hrow_n, ne10, ne100, ne1000, ne7, ne4, ne14, ne9973, or_true, true_or, or_false, false_or, not_true_eq_false, not_false_eq_true, false_implies, implies_true, and_true, forall_const, true_implies, jargs_n, jargs_r, jargs_i, List.cons_append, List.nil_append, true_and, Nat.reduceEqDiff, reduceIte, ft_X7_least_0, ft_X7_least_1, ft_X7_least_2, ft_X7_least_4, ft_X7_least_7, ft_X7_least_10, ft_X7_least_12, ft_X7_least_13, ft_X7_least_14, ft_X7_least_15, ft_X7_least_16, ft_X7_least_18, ft_X7_least_21, ft_X7_least_22, ft_X7_least_25, ft_X7_least_26, ft_X7_least_29, ft_X7_least_32, ft_X7_least_33, ft_X7_least_36, ft_X7_least_38, ft_X7_least_39, ft_X7_least_40, ft_X7_least_41, ft_X7_least_42, ft_X7_least_44, ft_X7_least_47, ft_X7_least_48, ft_X7_least_51, ft_X7_least_54, ft_X7_least_55, ft_X7_least_56, ft_X7_least_59, ft_X7_least_62, ft_X7_least_64, rc_71]
    refine s_X7_haveAll (v4.sr q.1.s) i4 (fun i hi => ?_) ?_
    · rw [v4.row 78 rfl, q.1.e, hcar i hi, upd_ne (by omega)]
    · by_cases g : chgP (C4 79)
      · simp only [pick_t g] at hQ
        simp -implicitDefEqProofs only [jr_0, jr_1, jr_2, j_iconst, j_lconst, j_iload0, j_aload0, j_istore0, j_astore0, j_iinc0, j_iload1, j_aload1, j_istore1, j_astore1, j_iinc1, j_iload2, j_aload2, j_istore2, j_astore2, j_iinc2, j_iload3, j_aload3, j_istore3, j_astore3, j_iinc3, j_iload4, j_aload4, j_istore4, j_astore4, j_iinc4, j_iload5, j_aload5, j_istore5, j_astore5, j_iinc5, j_iload6, j_aload6, j_istore6, j_astore6, j_iinc6, j_iload7, j_aload7, j_istore7, j_astore7, j_iinc7, j_iload8, j_aload8, j_istore8, j_astore8, j_iinc8, j_iadd, j_isub, j_imul, j_iand, j_ior, j_ixor, j_ishl, j_ishr, j_iushr, j_idiv, j_irem, j_ineg, j_ladd, j_lmul, j_land, j_lor, j_lcmp, j_lushr, j_lshl, j_i2l, j_l2i, j_dupI, j_dupR, j_popI, j_dup2, j_ifeq, j_iceq, j_ifne, j_icne, j_iflt, j_iclt, j_ifge, j_icge, j_ifgt, j_icgt, j_ifle, j_icle, j_goto, j_tsw, j_sw0, j_sw1, j_ireturn, j_zreturn, j_lreturn, j_return, j_getfield, j_putI, j_putJ, j_putR, j_iaload, j_baload, j_iastore, j_bastore, j_aaload, j_q, j_aastore, j_acopy, j_mmin, j_mmax, j_mabs, j_objinit, j_new, j_newI, j_newQ, j_sld, j_slen, j_callV0, j_callI0, j_callS0, j_callV1, j_callI1, j_callS1, j_callV2, j_callI2, j_callS2, j_callV3, j_callS3, j_callV4, j_callS4, j_callV5, j_callS5, j_pushS, j_pushN, j_sh0, j_sh1, j_sh2, j_sh3, j_sh4, Int32.reduceAdd, Int32.reduceMul, Int32.reduceSub, Int32.reduceLT, Int32.reduceLE, eq_self, i32_10, i32_01, ne_eq, hrow_s, hrow_n, ne10, ne100, ne1000, ne7, ne4, ne14, ne9973, or_true, true_or, or_false, false_or, not_true_eq_false, not_false_eq_true, false_implies, implies_true, and_true, forall_const, true_implies, jargs_n, jargs_r, jargs_i, List.cons_append, List.nil_append, true_and, Nat.reduceEqDiff, reduceIte, ft_X7_least_0, ft_X7_least_1, ft_X7_least_2, ft_X7_least_4, ft_X7_least_7, ft_X7_least_10, ft_X7_least_12, ft_X7_least_13, ft_X7_least_14, ft_X7_least_15, ft_X7_least_16, ft_X7_least_18, ft_X7_least_21, ft_X7_least_22, ft_X7_least_25, ft_X7_least_26, ft_X7_least_29, ft_X7_least_32, ft_X7_least_33, ft_X7_least_36, ft_X7_least_38, ft_X7_least_39, ft_X7_least_40, ft_X7_least_41, ft_X7_least_42, ft_X7_least_44, ft_X7_least_47, ft_X7_least_48, ft_X7_least_51, ft_X7_least_54, ft_X7_least_55, ft_X7_least_56, ft_X7_least_59, ft_X7_least_62, ft_X7_least_64, zb_t g, ne1_0]
        exact hQ C4 v4
      · simp only [pick_f g] at hQ
        simp -implicitDefEqProofs only [jr_0, jr_1, jr_2, j_iconst, j_lconst, j_iload0, j_aload0, j_istore0, j_astore0, j_iinc0, j_iload1, j_aload1, j_istore1, j_astore1, j_iinc1, j_iload2, j_aload2, j_istore2, j_astore2, j_iinc2, j_iload3, j_aload3, j_istore3, j_astore3, j_iinc3, j_iload4, j_aload4, j_istore4, j_astore4, j_iinc4, j_iload5, j_aload5, j_istore5, j_astore5, j_iinc5, j_iload6, j_aload6, j_istore6, j_astore6, j_iinc6, j_iload7, j_aload7, j_istore7, j_astore7, j_iinc7, j_iload8, j_aload8, j_istore8, j_astore8, j_iinc8, j_iadd, j_isub, j_imul, j_iand, j_ior, j_ixor, j_ishl, j_ishr, j_iushr, j_idiv, j_irem, j_ineg, j_ladd, j_lmul, j_land, j_lor, j_lcmp, j_lushr, j_lshl, j_i2l, j_l2i, j_dupI, j_dupR, j_popI, j_dup2, j_ifeq, j_iceq, j_ifne, j_icne, j_iflt, j_iclt, j_ifge, j_icge, j_ifgt, j_icgt, j_ifle, j_icle, j_goto, j_tsw, j_sw0, j_sw1, j_ireturn, j_zreturn, j_lreturn, j_return, j_getfield, j_putI, j_putJ, j_putR, j_iaload, j_baload, j_iastore, j_bastore, j_aaload, j_q, j_aastore, j_acopy, j_mmin, j_mmax, j_mabs, j_objinit, j_new, j_newI, j_newQ, j_sld, j_slen, j_callV0, j_callI0, j_callS0, j_callV1, j_callI1, j_callS1, j_callV2, j_callI2, j_callS2, j_callV3, j_callS3, j_callV4, j_callS4, j_callV5, j_callS5, j_pushS, j_pushN, j_sh0, j_sh1, j_sh2, j_sh3, j_sh4, Int32.reduceAdd, Int32.reduceMul, Int32.reduceSub, Int32.reduceLT, Int32.reduceLE, eq_self, i32_10, i32_01, ne_eq, hrow_s, hrow_n, ne10, ne100, ne1000, ne7, ne4, ne14, ne9973, or_true, true_or, or_false, false_or, not_true_eq_false, not_false_eq_true, false_implies, implies_true, and_true, forall_const, true_implies, jargs_n, jargs_r, jargs_i, List.cons_append, List.nil_append, true_and, Nat.reduceEqDiff, reduceIte, ft_X7_least_0, ft_X7_least_1, ft_X7_least_2, ft_X7_least_4, ft_X7_least_7, ft_X7_least_10, ft_X7_least_12, ft_X7_least_13, ft_X7_least_14, ft_X7_least_15, ft_X7_least_16, ft_X7_least_18, ft_X7_least_21, ft_X7_least_22, ft_X7_least_25, ft_X7_least_26, ft_X7_least_29, ft_X7_least_32, ft_X7_least_33, ft_X7_least_36, ft_X7_least_38, ft_X7_least_39, ft_X7_least_40, ft_X7_least_41, ft_X7_least_42, ft_X7_least_44, ft_X7_least_47, ft_X7_least_48, ft_X7_least_51, ft_X7_least_54, ft_X7_least_55, ft_X7_least_56, ft_X7_least_59, ft_X7_least_62, ft_X7_least_64, zb_f g, nI_1]
        exact ih (j + 1) (by omega) C4 v4 hQ
theorem ok_X7_least : jMeets Y_X7_least S_X7_least := by
  intro nb vs mem Q h
  obtain ⟨C, C1, z, P, K, B, x, rfl, rfl, q, v, hQ⟩ := h
  refine Ok.run OK_X7_least [15] 60 [none] pn7 (Nat.le_of_ble_eq_true rfl) rfl ?_
  by_cases g : 0 ≤ x ∧ x ≤ 40
  · simp only [pick_t g] at hQ
    obtain ⟨m, hm, rfl⟩ := i32_rng (n := x) (m := 41) (by decide) (Int32.not_lt.mpr g.1) fun q => absurd (Int32.le_trans q g.2) (by decide)
    rw [nI_clamp (by omega)] at hQ
    simp -implicitDefEqProofs only [jr_0, jr_1, jr_2, j_iconst, j_lconst, j_iload0, j_aload0, j_istore0, j_astore0, j_iinc0, j_iload1, j_aload1, j_istore1, j_astore1, j_iinc1, j_iload2, j_aload2, j_istore2, j_astore2, j_iinc2, j_iload3, j_aload3, j_istore3, j_astore3, j_iinc3, j_iload4, j_aload4, j_istore4, j_astore4, j_iinc4, j_iload5, j_aload5, j_istore5, j_astore5, j_iinc5, j_iload6, j_aload6, j_istore6, j_astore6, j_iinc6, j_iload7, j_aload7, j_istore7, j_astore7, j_iinc7, j_iload8, j_aload8, j_istore8, j_astore8, j_iinc8, j_iadd, j_isub, j_imul, j_iand, j_ior, j_ixor, j_ishl, j_ishr, j_iushr, j_idiv, j_irem, j_ineg, j_ladd, j_lmul, j_land, j_lor, j_lcmp, j_lushr, j_lshl, j_i2l, j_l2i, j_dupI, j_dupR, j_popI, j_dup2, j_ifeq, j_iceq, j_ifne, j_icne, j_iflt, j_iclt, j_ifge, j_icge, j_ifgt, j_icgt, j_ifle, j_icle, j_goto, j_tsw, j_sw0, j_sw1, j_ireturn, j_zreturn, j_lreturn, j_return, j_getfield, j_putI, j_putJ, j_putR, j_iaload, j_baload, j_iastore, j_bastore, j_aaload, j_q, j_aastore, j_acopy, j_mmin, j_mmax, j_mabs, j_objinit, j_new, j_newI, j_newQ, j_sld, j_slen, j_callV0, j_callI0, j_callS0, j_callV1, j_callI1, j_callS1, j_callV2, j_callI2, j_callS2, j_callV3, j_callS3, j_callV4, j_callS4, j_callV5, j_callS5, j_pushS, j_pushN, j_sh0, j_sh1, j_sh2, j_sh3, j_sh4, Int32.reduceAdd, Int32.reduceMul, Int32.reduceSub, Int32.reduceLT, Int32.reduceLE, eq_self, i32_10, i32_01, ne_eq, hrow_s, hrow_n, ne10, ne100, ne1000, ne7, ne4, ne14, ne9973, or_true, true_or, or_false, false_or, not_true_eq_false, not_false_eq_true, false_implies, implies_true, and_true, forall_const, true_implies, jargs_n, jargs_r, jargs_i, List.cons_append, List.nil_append, true_and, Nat.reduceEqDiff, reduceIte, ft_X7_least_0, ft_X7_least_1, ft_X7_least_2, ft_X7_least_4, ft_X7_least_7, ft_X7_least_10, ft_X7_least_12, ft_X7_least_13, ft_X7_least_14, ft_X7_least_15, ft_X7_least_16, ft_X7_least_18, ft_X7_least_21, ft_X7_least_22, ft_X7_least_25, ft_X7_least_26, ft_X7_least_29, ft_X7_least_32, ft_X7_least_33, ft_X7_least_36, ft_X7_least_38, ft_X7_least_39, ft_X7_least_40, ft_X7_least_41, ft_X7_least_42, ft_X7_least_44, ft_X7_least_47, ft_X7_least_48, ft_X7_least_51, ft_X7_least_54, ft_X7_least_55, ft_X7_least_56, ft_X7_least_59, ft_X7_least_62, ft_X7_least_64, s_X7_in, zb_t g, ne1_0]
    exact lp_X7_least q (by omega) 100 0 (by omega) C1 v hQ
  · simp only [pick_f g] at hQ
    simp -implicitDefEqProofs only [jr_0, jr_1, jr_2, j_iconst, j_lconst, j_iload0, j_aload0, j_istore0, j_astore0, j_iinc0, j_iload1, j_aload1, j_istore1, j_astore1, j_iinc1, j_iload2, j_aload2, j_istore2, j_astore2, j_iinc2, j_iload3, j_aload3, j_istore3, j_astore3, j_iinc3, j_iload4, j_aload4, j_istore4, j_astore4, j_iinc4, j_iload5, j_aload5, j_istore5, j_astore5, j_iinc5, j_iload6, j_aload6, j_istore6, j_astore6, j_iinc6, j_iload7, j_aload7, j_istore7, j_astore7, j_iinc7, j_iload8, j_aload8, j_istore8, j_astore8, j_iinc8, j_iadd, j_isub, j_imul, j_iand, j_ior, j_ixor, j_ishl, j_ishr, j_iushr, j_idiv, j_irem, j_ineg, j_ladd, j_lmul, j_land, j_lor, j_lcmp, j_lushr, j_lshl, j_i2l, j_l2i, j_dupI, j_dupR, j_popI, j_dup2, j_ifeq, j_iceq, j_ifne, j_icne, j_iflt, j_iclt, j_ifge, j_icge, j_ifgt, j_icgt, j_ifle, j_icle, j_goto, j_tsw, j_sw0, j_sw1, j_ireturn, j_zreturn, j_lreturn, j_return, j_getfield, j_putI, j_putJ, j_putR, j_iaload, j_baload, j_iastore, j_bastore, j_aaload, j_q, j_aastore, j_acopy, j_mmin, j_mmax, j_mabs, j_objinit, j_new, j_newI, j_newQ, j_sld, j_slen, j_callV0, j_callI0, j_callS0, j_callV1, j_callI1, j_callS1, j_callV2, j_callI2, j_callS2, j_callV3, j_callS3, j_callV4, j_callS4, j_callV5, j_callS5, j_pushS, j_pushN, j_sh0, j_sh1, j_sh2, j_sh3, j_sh4, Int32.reduceAdd, Int32.reduceMul, Int32.reduceSub, Int32.reduceLT, Int32.reduceLE, eq_self, i32_10, i32_01, ne_eq, hrow_s, hrow_n, ne10, ne100, ne1000, ne7, ne4, ne14, ne9973, or_true, true_or, or_false, false_or, not_true_eq_false, not_false_eq_true, false_implies, implies_true, and_true, forall_const, true_implies, jargs_n, jargs_r, jargs_i, List.cons_append, List.nil_append, true_and, Nat.reduceEqDiff, reduceIte, ft_X7_least_0, ft_X7_least_1, ft_X7_least_2, ft_X7_least_4, ft_X7_least_7, ft_X7_least_10, ft_X7_least_12, ft_X7_least_13, ft_X7_least_14, ft_X7_least_15, ft_X7_least_16, ft_X7_least_18, ft_X7_least_21, ft_X7_least_22, ft_X7_least_25, ft_X7_least_26, ft_X7_least_29, ft_X7_least_32, ft_X7_least_33, ft_X7_least_36, ft_X7_least_38, ft_X7_least_39, ft_X7_least_40, ft_X7_least_41, ft_X7_least_42, ft_X7_least_44, ft_X7_least_47, ft_X7_least_48, ft_X7_least_51, ft_X7_least_54, ft_X7_least_55, ft_X7_least_56, ft_X7_least_59, ft_X7_least_62, ft_X7_least_64, s_X7_in, zb_f g]
    exact hQ C1 v
theorem lst_none {C : Nat → Nat → Int32} {n : Nat} : ∀ k v, (∀ w, v ≤ w → w < v + k → ¬ chgP (goF C 0 15 (-1) n (upd (C 9) 38 (nI w)))) → lstF C n k v = -9
  | 0, _, _ => rfl
  | k + 1, v, h => by
    unfold lstF
    rw [pick_f (h v (by omega) (by omega))]
    exact lst_none k (v + 1) fun w h1 h2 => h w (by omega) (by omega)
theorem lst_more {C : Nat → Nat → Int32} {n m : Nat} : ∀ k v, ((∃ u, v ≤ u ∧ u < v + k ∧ chgP (goF C 0 15 (-1) n (upd (C 9) 38 (nI u)))) ∨ ∀ w, v + k ≤ w → w < v + k + m → ¬ chgP (goF C 0 15 (-1) n (upd (C 9) 38 (nI w)))) → lstF C n (k + m) v = lstF C n k v
  | 0, v, h => by
    rcases h with ⟨u, h1, h2, _⟩ | h
    · omega
    · rw [Nat.zero_add, lst_none m v fun w h1 h2 => h w (by omega) (by omega)]
      rfl
  | k + 1, v, h => by
    rw [show k + 1 + m = (k + m) + 1 by omega]
    unfold lstF
    by_cases g : chgP (goF C 0 15 (-1) n (upd (C 9) 38 (nI v)))
    · rw [pick_t g, pick_t g]
    · rw [pick_f g, pick_f g]
      refine lst_more k (v + 1) ?_
      rcases h with ⟨u, h1, h2, h3⟩ | h
      · refine Or.inl ⟨u, ?_, by omega, h3⟩
        by_cases e : u = v
        · subst e; exact absurd h3 g
        · omega
      · exact Or.inr fun w h1 h2 => h w (by omega) (by omega)
theorem chgP_38 {ρ : Nat → Int32} {x : Int32} : chgP (upd ρ 38 x) = chgP ρ := by
  unfold chgP
  simp only [rrest_38, upd_ne (show 0 ≠ 38 by decide), upd_ne (show 1 ≠ 38 by decide), upd_ne (show 2 ≠ 38 by decide), upd_ne (show 3 ≠ 38 by decide)]
theorem lst_100 {C : Nat → Nat → Int32} {P K B n E : Nat} (q : AQ C P K B) (hn : n ≤ 40) (hE : E = sumN (fun q => aN (C 4) (nI q)) P) (h36 : E ≤ 36) : lstF C n 100 0 = lstF C n (E + 1) 0 := by
  have e : ∀ w, E ≤ w → w < 100 → chgP (goF C 0 15 (-1) n (upd (C 9) 38 (nI w))) = chgP (goF C 0 15 (-1) n (upd (C 9) 38 (nI E))) := fun w h1 h2 => by
    rw [goF_38 q.1.s.1 q.1.iv (v := w) (w := E) (by omega) (by omega) (by omega) (by omega) n (by have := q.2.2; omega), chgP_38]
  have := lst_more (C := C) (n := n) (m := 99 - E) (E + 1) 0 (by
    by_cases g : chgP (goF C 0 15 (-1) n (upd (C 9) 38 (nI E)))
    · exact Or.inl ⟨E, by omega, by omega, g⟩
    · refine Or.inr fun w h1 h2 => ?_
      rw [e w (by omega) (by omega)]
      exact g)
  rw [show E + 1 + (99 - E) = 100 by omega] at this
  exact this
theorem co_least (x : Int32) : Co S_X6_least S_X7_least [.ref 0, .int x] [.ref 71, .int x] := by
  intro n C z h hn
  obtain ⟨P, K, L, nx, ct, sn, h⟩ := h
  have q := h.aq hn
  have h4 := q.1.s.h4
  obtain ⟨e, hb⟩ := ampS_sum q.1.s.sv P (Nat.le_refl _)
  refine co_ask h (fun nb Q qq => s_X6_least h.ak.rc e (by omega) qq) fun nb Q C1 v hq => ⟨C, C1, z, P, K, _, x, rfl, rfl, q, v, ?_⟩
  have ea : pick (0 ≤ x ∧ x ≤ 40) (lstF C x.toNatClampNeg 100 0) (-2) = leastA C x (sumN (fun q => aN (C 4) (nI q)) P) := by
    unfold leastA
    by_cases g : 0 ≤ x ∧ x ≤ 40
    · rw [pick_t g, pick_t g]
      obtain ⟨m, hm, rfl⟩ := i32_rng (n := x) (m := 41) (by decide) (Int32.not_lt.mpr g.1) fun q => absurd (Int32.le_trans q g.2) (by decide)
      rw [nI_clamp (by omega)]
      exact lst_100 q (by omega) rfl (by omega)
    · rw [pick_f g, pick_f g]
  rw [ea]
  exact hq
