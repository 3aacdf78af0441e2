/-! the text's first fault -/
noncomputable def ffF (f : Nat → Int32) (n : Nat) : Nat → Int32 → Nat → Nat → Nat → Int32
  | 0, w, _, _, _ => w
  | k + 1, w, P, K, a => pick (¬ w = -9 ∨ n ≤ a) w (pick (byteF f (nI n) (nI a) = 112 ∧ P < 4) (ffF f n k (pick (dgF f (nI n) (nI a + 1) 1 9) (-9) (nI a + 1)) (P + 1) K (a + 2)) (pick (byteF f (nI n) (nI a) = 99 ∧ K < 6) (ffF f n k (carFaultF f (nI n) (nI a)) P (K + 1) (a + 6)) (ffF f n k (nI a) P K a)))
noncomputable def faultA (f : Nat → Int32) (n : Nat) : Int32 := ffF f n 70 (headF f (nI n)) 0 0 4
def S_X5_firstFault : jSp := fun _ vs mem Q => ∃ C z n, vs = [.ref 1] ∧ mem = memS 94 C z ∧ C 1 1 = nI n ∧ n ≤ 70 ∧ Q (some (.int (faultA (C 2) n))) (memS 94 C z)
def F_X5_firstFault_0 : Nat → jT := fun pc => (bif Nat.blt pc 10 then (bif Nat.blt pc 6 then (bif Nat.blt pc 4 then (bif Nat.blt pc 1 then (bif Nat.beq pc 0 then J_aload 0 1 else jbad) else (bif Nat.beq pc 1 then J_callV 5 S_X5_faultOfHead 0 4 else jbad)) else (bif Nat.blt pc 5 then (bif Nat.beq pc 4 then J_istore 1 5 else jbad) else (bif Nat.beq pc 5 then J_iconst 0 6 else jbad))) else (bif Nat.blt pc 8 then (bif Nat.blt pc 7 then (bif Nat.beq pc 6 then J_istore 2 7 else jbad) else (bif Nat.beq pc 7 then J_iconst 0 8 else jbad)) else (bif Nat.blt pc 9 then (bif Nat.beq pc 8 then J_istore 3 9 else jbad) else (bif Nat.beq pc 9 then J_iconst 4 10 else jbad)))) else (bif Nat.blt pc 17 then (bif Nat.blt pc 13 then (bif Nat.blt pc 12 then (bif Nat.beq pc 10 then J_istore 4 12 else jbad) else (bif Nat.beq pc 12 then J_iconst 0 13 else jbad)) else (bif Nat.blt pc 15 then (bif Nat.beq pc 13 then J_istore 5 15 else jbad) else (bif Nat.beq pc 15 then J_iload 5 17 else jbad))) else (bif Nat.blt pc 22 then (bif Nat.blt pc 19 then (bif Nat.beq pc 17 then J_iconst 70 19 else jbad) else (bif Nat.beq pc 19 then J_icge 128 22 else jbad)) else (bif Nat.blt pc 23 then (bif Nat.beq pc 22 then J_iload 1 23 else jbad) else (bif Nat.beq pc 23 then J_iconst (-9) 25 else jbad)))))
theorem ftl_X5_firstFault_0 : F_X5_firstFault_0 0 = J_aload 0 1 := rfl
theorem ftl_X5_firstFault_1 : F_X5_firstFault_0 1 = J_callV 5 S_X5_faultOfHead 0 4 := rfl
theorem ftl_X5_firstFault_4 : F_X5_firstFault_0 4 = J_istore 1 5 := rfl
theorem ftl_X5_firstFault_5 : F_X5_firstFault_0 5 = J_iconst 0 6 := rfl
theorem ftl_X5_firstFault_6 : F_X5_firstFault_0 6 = J_istore 2 7 := rfl
theorem ftl_X5_firstFault_7 : F_X5_firstFault_0 7 = J_iconst 0 8 := rfl
theorem ftl_X5_firstFault_8 : F_X5_firstFault_0 8 = J_istore 3 9 := rfl
theorem ftl_X5_firstFault_9 : F_X5_firstFault_0 9 = J_iconst 4 10 := rfl
theorem ftl_X5_firstFault_10 : F_X5_firstFault_0 10 = J_istore 4 12 := rfl
theorem ftl_X5_firstFault_12 : F_X5_firstFault_0 12 = J_iconst 0 13 := rfl
theorem ftl_X5_firstFault_13 : F_X5_firstFault_0 13 = J_istore 5 15 := rfl
theorem ftl_X5_firstFault_15 : F_X5_firstFault_0 15 = J_iload 5 17 := rfl
theorem ftl_X5_firstFault_17 : F_X5_firstFault_0 17 = J_iconst 70 19 := rfl
theorem ftl_X5_firstFault_19 : F_X5_firstFault_0 19 = J_icge 128 22 := rfl
theorem ftl_X5_firstFault_22 : F_X5_firstFault_0 22 = J_iload 1 23 := rfl
theorem ftl_X5_firstFault_23 : F_X5_firstFault_0 23 = J_iconst (-9) 25 := rfl
theorem F_X5_firstFault_0_ok : jOK Y_X5_firstFault none (F_X5_firstFault_0) := (jOK_node (jOK_node (jOK_node (jOK_node (jOK_leaf (sn_aload_n dX5_firstFault_0 rfl rfl)) (jOK_leaf (sn_callV (Y' := Y_X5_faultOfHead) ok_X5_faultOfHead dX5_firstFault_1 rfl rfl rfl tw_220 tw_222 tp_0 tw_2 jc_X5_faultOfHead rfl ⟨by decide, by decide, rfl⟩ ⟨by decide, by decide⟩))) (jOK_node (jOK_leaf (sn_istore_n dX5_firstFault_4 rfl rfl (by decide))) (jOK_leaf (sn_iconst dX5_firstFault_5 rfl rfl)))) (jOK_node (jOK_node (jOK_leaf (sn_istore_n dX5_firstFault_6 rfl rfl (by decide))) (jOK_leaf (sn_iconst dX5_firstFault_7 rfl rfl))) (jOK_node (jOK_leaf (sn_istore_n dX5_firstFault_8 rfl rfl (by decide))) (jOK_leaf (sn_iconst dX5_firstFault_9 rfl rfl))))) (jOK_node (jOK_node (jOK_node (jOK_leaf (sn_istore dX5_firstFault_10 rfl (by decide))) (jOK_leaf (sn_iconst dX5_firstFault_12 rfl rfl))) (jOK_node (jOK_leaf (sn_istore dX5_firstFault_13 rfl (by decide))) (jOK_leaf (sn_iload dX5_firstFault_15 rfl)))) (jOK_node (jOK_node (jOK_leaf (sn_bipush dX5_firstFault_17 rfl rfl)) (jOK_leaf (sn_icge dX5_firstFault_19 rfl rfl))) (jOK_node (jOK_leaf (sn_iload_n dX5_firstFault_22 rfl rfl)) (jOK_leaf (sn_bipush dX5_firstFault_23 rfl rfl))))))
def F_X5_firstFault_25 : Nat → jT := fun pc => (bif Nat.blt pc 34 then (bif Nat.blt pc 30 then (bif Nat.blt pc 28 then (bif Nat.beq pc 25 then J_icne 128 28 else jbad) else (bif Nat.beq pc 28 then J_iload 4 30 else jbad)) else (bif Nat.blt pc 31 then (bif Nat.beq pc 30 then J_aload 0 31 else jbad) else (bif Nat.beq pc 31 then J_getfield 5 1 34 else jbad))) else (bif Nat.blt pc 38 then (bif Nat.blt pc 37 then (bif Nat.beq pc 34 then J_icge 128 37 else jbad) else (bif Nat.beq pc 37 then J_aload 0 38 else jbad)) else (bif Nat.blt pc 40 then (bif Nat.beq pc 38 then J_iload 4 40 else jbad) else (bif Nat.beq pc 40 then J_callV 5 S_X5_byteAt 1 43 else jbad))))
theorem ftl_X5_firstFault_25 : F_X5_firstFault_25 25 = J_icne 128 28 := rfl
theorem ftl_X5_firstFault_28 : F_X5_firstFault_25 28 = J_iload 4 30 := rfl
theorem ftl_X5_firstFault_30 : F_X5_firstFault_25 30 = J_aload 0 31 := rfl
theorem ftl_X5_firstFault_31 : F_X5_firstFault_25 31 = J_getfield 5 1 34 := rfl
theorem ftl_X5_firstFault_34 : F_X5_firstFault_25 34 = J_icge 128 37 := rfl
theorem ftl_X5_firstFault_37 : F_X5_firstFault_25 37 = J_aload 0 38 := rfl
theorem ftl_X5_firstFault_38 : F_X5_firstFault_25 38 = J_iload 4 40 := rfl
theorem ftl_X5_firstFault_40 : F_X5_firstFault_25 40 = J_callV 5 S_X5_byteAt 1 43 := rfl
theorem F_X5_firstFault_25_ok : jOK Y_X5_firstFault none (F_X5_firstFault_25) := (jOK_node (jOK_node (jOK_node (jOK_leaf (sn_icne dX5_firstFault_25 rfl rfl)) (jOK_leaf (sn_iload dX5_firstFault_28 rfl))) (jOK_node (jOK_leaf (sn_aload_n dX5_firstFault_30 rfl rfl)) (jOK_leaf (sn_getfield dX5_firstFault_31 rfl rfl (by decide) tw_27 jin5)))) (jOK_node (jOK_node (jOK_leaf (sn_icge dX5_firstFault_34 rfl rfl)) (jOK_leaf (sn_aload_n dX5_firstFault_37 rfl rfl))) (jOK_node (jOK_leaf (sn_iload dX5_firstFault_38 rfl)) (jOK_leaf (sn_callV (Y' := Y_X5_byteAt) ok_X5_byteAt dX5_firstFault_40 rfl rfl rfl tw_224 tw_225 tw_226 tw_2 jc_X5_byteAt rfl ⟨by decide, by decide, rfl⟩ ⟨by decide, by decide⟩)))))
def F_X5_firstFault_43 : Nat → jT := fun pc => (bif Nat.blt pc 50 then (bif Nat.blt pc 48 then (bif Nat.blt pc 45 then (bif Nat.beq pc 43 then J_iconst 112 45 else jbad) else (bif Nat.beq pc 45 then J_icne 86 48 else jbad)) else (bif Nat.blt pc 49 then (bif Nat.beq pc 48 then J_iload 2 49 else jbad) else (bif Nat.beq pc 49 then J_iconst 4 50 else jbad))) else (bif Nat.blt pc 54 then (bif Nat.blt pc 53 then (bif Nat.beq pc 50 then J_icge 86 53 else jbad) else (bif Nat.beq pc 53 then J_aload 0 54 else jbad)) else (bif Nat.blt pc 56 then (bif Nat.beq pc 54 then J_iload 4 56 else jbad) else (bif Nat.blt pc 57 then (bif Nat.beq pc 56 then J_iconst 1 57 else jbad) else (bif Nat.beq pc 57 then J_iadd 58 else jbad)))))
theorem ftl_X5_firstFault_43 : F_X5_firstFault_43 43 = J_iconst 112 45 := rfl
theorem ftl_X5_firstFault_45 : F_X5_firstFault_43 45 = J_icne 86 48 := rfl
theorem ftl_X5_firstFault_48 : F_X5_firstFault_43 48 = J_iload 2 49 := rfl
theorem ftl_X5_firstFault_49 : F_X5_firstFault_43 49 = J_iconst 4 50 := rfl
theorem ftl_X5_firstFault_50 : F_X5_firstFault_43 50 = J_icge 86 53 := rfl
theorem ftl_X5_firstFault_53 : F_X5_firstFault_43 53 = J_aload 0 54 := rfl
theorem ftl_X5_firstFault_54 : F_X5_firstFault_43 54 = J_iload 4 56 := rfl
theorem ftl_X5_firstFault_56 : F_X5_firstFault_43 56 = J_iconst 1 57 := rfl
theorem ftl_X5_firstFault_57 : F_X5_firstFault_43 57 = J_iadd 58 := rfl
theorem F_X5_firstFault_43_ok : jOK Y_X5_firstFault none (F_X5_firstFault_43) := (jOK_node (jOK_node (jOK_node (jOK_leaf (sn_bipush dX5_firstFault_43 rfl rfl)) (jOK_leaf (sn_icne dX5_firstFault_45 rfl rfl))) (jOK_node (jOK_leaf (sn_iload_n dX5_firstFault_48 rfl rfl)) (jOK_leaf (sn_iconst dX5_firstFault_49 rfl rfl)))) (jOK_node (jOK_node (jOK_leaf (sn_icge dX5_firstFault_50 rfl rfl)) (jOK_leaf (sn_aload_n dX5_firstFault_53 rfl rfl))) (jOK_node (jOK_leaf (sn_iload dX5_firstFault_54 rfl)) (jOK_node (jOK_leaf (sn_iconst dX5_firstFault_56 rfl rfl)) (jOK_leaf (sn_iadd dX5_firstFault_57 rfl))))))
def F_X5_firstFault_25_57 : Nat → jT := fun pc => bif Nat.blt pc 43 then F_X5_firstFault_25 pc else F_X5_firstFault_43 pc
theorem F_X5_firstFault_25_57_l {pc : Nat} (h : Nat.blt pc 43 = true) : F_X5_firstFault_25_57 pc = F_X5_firstFault_25 pc := by unfold F_X5_firstFault_25_57; rw [h]; rfl
theorem F_X5_firstFault_25_57_r {pc : Nat} (h : Nat.blt pc 43 = false) : F_X5_firstFault_25_57 pc = F_X5_firstFault_43 pc := by unfold F_X5_firstFault_25_57; rw [h]; rfl
theorem F_X5_firstFault_25_57_ok : jOK Y_X5_firstFault none (F_X5_firstFault_25_57) := jOK_node (F_X5_firstFault_25_ok) (F_X5_firstFault_43_ok)
def F_X5_firstFault_0_57 : Nat → jT := fun pc => bif Nat.blt pc 25 then F_X5_firstFault_0 pc else F_X5_firstFault_25_57 pc
theorem F_X5_firstFault_0_57_l {pc : Nat} (h : Nat.blt pc 25 = true) : F_X5_firstFault_0_57 pc = F_X5_firstFault_0 pc := by unfold F_X5_firstFault_0_57; rw [h]; rfl
theorem F_X5_firstFault_0_57_r {pc : Nat} (h : Nat.blt pc 25 = false) : F_X5_firstFault_0_57 pc = F_X5_firstFault_25_57 pc := by unfold F_X5_firstFault_0_57; rw [h]; rfl
theorem F_X5_firstFault_0_57_ok : jOK Y_X5_firstFault none (F_X5_firstFault_0_57) := jOK_node (F_X5_firstFault_0_ok) (F_X5_firstFault_25_57_ok)
def F_X5_firstFault_58 : Nat → jT := fun pc => (bif Nat.blt pc 67 then (bif Nat.blt pc 61 then (bif Nat.blt pc 59 then (bif Nat.beq pc 58 then J_iconst 1 59 else jbad) else (bif Nat.beq pc 59 then J_iconst 9 61 else jbad)) else (bif Nat.blt pc 64 then (bif Nat.beq pc 61 then J_callV 5 S_X5_isDigit 3 64 else jbad) else (bif Nat.beq pc 64 then J_ifeq 72 67 else jbad))) else (bif Nat.blt pc 72 then (bif Nat.blt pc 69 then (bif Nat.beq pc 67 then J_iconst (-9) 69 else jbad) else (bif Nat.beq pc 69 then J_goto 76 else jbad)) else (bif Nat.blt pc 74 then (bif Nat.beq pc 72 then J_iload 4 74 else jbad) else (bif Nat.beq pc 74 then J_iconst 1 75 else jbad))))
theorem ftl_X5_firstFault_58 : F_X5_firstFault_58 58 = J_iconst 1 59 := rfl
theorem ftl_X5_firstFault_59 : F_X5_firstFault_58 59 = J_iconst 9 61 := rfl
theorem ftl_X5_firstFault_61 : F_X5_firstFault_58 61 = J_callV 5 S_X5_isDigit 3 64 := rfl
theorem ftl_X5_firstFault_64 : F_X5_firstFault_58 64 = J_ifeq 72 67 := rfl
theorem ftl_X5_firstFault_67 : F_X5_firstFault_58 67 = J_iconst (-9) 69 := rfl
theorem ftl_X5_firstFault_69 : F_X5_firstFault_58 69 = J_goto 76 := rfl
theorem ftl_X5_firstFault_72 : F_X5_firstFault_58 72 = J_iload 4 74 := rfl
theorem ftl_X5_firstFault_74 : F_X5_firstFault_58 74 = J_iconst 1 75 := rfl
theorem F_X5_firstFault_58_ok : jOK Y_X5_firstFault none (F_X5_firstFault_58) := (jOK_node (jOK_node (jOK_node (jOK_leaf (sn_iconst dX5_firstFault_58 rfl rfl)) (jOK_leaf (sn_bipush dX5_firstFault_59 rfl rfl))) (jOK_node (jOK_leaf (sn_callV (Y' := Y_X5_isDigit) ok_X5_isDigit dX5_firstFault_61 rfl rfl rfl tw_228 tw_230 tp_1 tw_2 jc_X5_isDigit rfl ⟨by decide, by decide, rfl⟩ ⟨by decide, by decide⟩)) (jOK_leaf (sn_ifeq dX5_firstFault_64 rfl rfl)))) (jOK_node (jOK_node (jOK_leaf (sn_bipush dX5_firstFault_67 rfl rfl)) (jOK_leaf (sn_goto dX5_firstFault_69 rfl))) (jOK_node (jOK_leaf (sn_iload dX5_firstFault_72 rfl)) (jOK_leaf (sn_iconst dX5_firstFault_74 rfl rfl)))))
def F_X5_firstFault_75 : Nat → jT := fun pc => (bif Nat.blt pc 83 then (bif Nat.blt pc 77 then (bif Nat.blt pc 76 then (bif Nat.beq pc 75 then J_iadd 76 else jbad) else (bif Nat.beq pc 76 then J_istore 1 77 else jbad)) else (bif Nat.blt pc 80 then (bif Nat.beq pc 77 then J_iinc 2 1 80 else jbad) else (bif Nat.beq pc 80 then J_iinc 4 2 83 else jbad))) else (bif Nat.blt pc 87 then (bif Nat.blt pc 86 then (bif Nat.beq pc 83 then J_goto 122 else jbad) else (bif Nat.beq pc 86 then J_aload 0 87 else jbad)) else (bif Nat.blt pc 89 then (bif Nat.beq pc 87 then J_iload 4 89 else jbad) else (bif Nat.blt pc 92 then (bif Nat.beq pc 89 then J_callV 5 S_X5_byteAt 1 92 else jbad) else (bif Nat.beq pc 92 then J_iconst 99 94 else jbad)))))
theorem ftl_X5_firstFault_75 : F_X5_firstFault_75 75 = J_iadd 76 := rfl
theorem ftl_X5_firstFault_76 : F_X5_firstFault_75 76 = J_istore 1 77 := rfl
theorem ftl_X5_firstFault_77 : F_X5_firstFault_75 77 = J_iinc 2 1 80 := rfl
theorem ftl_X5_firstFault_80 : F_X5_firstFault_75 80 = J_iinc 4 2 83 := rfl
theorem ftl_X5_firstFault_83 : F_X5_firstFault_75 83 = J_goto 122 := rfl
theorem ftl_X5_firstFault_86 : F_X5_firstFault_75 86 = J_aload 0 87 := rfl
theorem ftl_X5_firstFault_87 : F_X5_firstFault_75 87 = J_iload 4 89 := rfl
theorem ftl_X5_firstFault_89 : F_X5_firstFault_75 89 = J_callV 5 S_X5_byteAt 1 92 := rfl
theorem ftl_X5_firstFault_92 : F_X5_firstFault_75 92 = J_iconst 99 94 := rfl
theorem F_X5_firstFault_75_ok : jOK Y_X5_firstFault none (F_X5_firstFault_75) := (jOK_node (jOK_node (jOK_node (jOK_leaf (sn_iadd dX5_firstFault_75 rfl)) (jOK_leaf (sn_istore_n dX5_firstFault_76 rfl rfl (by decide)))) (jOK_node (jOK_leaf (sn_iinc dX5_firstFault_77 rfl rfl (by decide))) (jOK_leaf (sn_iinc dX5_firstFault_80 rfl rfl (by decide))))) (jOK_node (jOK_node (jOK_leaf (sn_goto dX5_firstFault_83 rfl)) (jOK_leaf (sn_aload_n dX5_firstFault_86 rfl rfl))) (jOK_node (jOK_leaf (sn_iload dX5_firstFault_87 rfl)) (jOK_node (jOK_leaf (sn_callV (Y' := Y_X5_byteAt) ok_X5_byteAt dX5_firstFault_89 rfl rfl rfl tw_224 tw_225 tw_226 tw_2 jc_X5_byteAt rfl ⟨by decide, by decide, rfl⟩ ⟨by decide, by decide⟩)) (jOK_leaf (sn_bipush dX5_firstFault_92 rfl rfl))))))
def F_X5_firstFault_58_92 : Nat → jT := fun pc => bif Nat.blt pc 75 then F_X5_firstFault_58 pc else F_X5_firstFault_75 pc
theorem F_X5_firstFault_58_92_l {pc : Nat} (h : Nat.blt pc 75 = true) : F_X5_firstFault_58_92 pc = F_X5_firstFault_58 pc := by unfold F_X5_firstFault_58_92; rw [h]; rfl
theorem F_X5_firstFault_58_92_r {pc : Nat} (h : Nat.blt pc 75 = false) : F_X5_firstFault_58_92 pc = F_X5_firstFault_75 pc := by unfold F_X5_firstFault_58_92; rw [h]; rfl
theorem F_X5_firstFault_58_92_ok : jOK Y_X5_firstFault none (F_X5_firstFault_58_92) := jOK_node (F_X5_firstFault_58_ok) (F_X5_firstFault_75_ok)
def F_X5_firstFault_94 : Nat → jT := fun pc => (bif Nat.blt pc 103 then (bif Nat.blt pc 98 then (bif Nat.blt pc 97 then (bif Nat.beq pc 94 then J_icne 119 97 else jbad) else (bif Nat.beq pc 97 then J_iload 3 98 else jbad)) else (bif Nat.blt pc 100 then (bif Nat.beq pc 98 then J_iconst 6 100 else jbad) else (bif Nat.beq pc 100 then J_icge 119 103 else jbad))) else (bif Nat.blt pc 106 then (bif Nat.blt pc 104 then (bif Nat.beq pc 103 then J_aload 0 104 else jbad) else (bif Nat.beq pc 104 then J_iload 4 106 else jbad)) else (bif Nat.blt pc 109 then (bif Nat.beq pc 106 then J_callV 5 S_X5_faultOfCar 1 109 else jbad) else (bif Nat.beq pc 109 then J_istore 1 110 else jbad))))
theorem ftl_X5_firstFault_94 : F_X5_firstFault_94 94 = J_icne 119 97 := rfl
theorem ftl_X5_firstFault_97 : F_X5_firstFault_94 97 = J_iload 3 98 := rfl
theorem ftl_X5_firstFault_98 : F_X5_firstFault_94 98 = J_iconst 6 100 := rfl
theorem ftl_X5_firstFault_100 : F_X5_firstFault_94 100 = J_icge 119 103 := rfl
theorem ftl_X5_firstFault_103 : F_X5_firstFault_94 103 = J_aload 0 104 := rfl
theorem ftl_X5_firstFault_104 : F_X5_firstFault_94 104 = J_iload 4 106 := rfl
theorem ftl_X5_firstFault_106 : F_X5_firstFault_94 106 = J_callV 5 S_X5_faultOfCar 1 109 := rfl
theorem ftl_X5_firstFault_109 : F_X5_firstFault_94 109 = J_istore 1 110 := rfl
theorem F_X5_firstFault_94_ok : jOK Y_X5_firstFault none (F_X5_firstFault_94) := (jOK_node (jOK_node (jOK_node (jOK_leaf (sn_icne dX5_firstFault_94 rfl rfl)) (jOK_leaf (sn_iload_n dX5_firstFault_97 rfl rfl))) (jOK_node (jOK_leaf (sn_bipush dX5_firstFault_98 rfl rfl)) (jOK_leaf (sn_icge dX5_firstFault_100 rfl rfl)))) (jOK_node (jOK_node (jOK_leaf (sn_aload_n dX5_firstFault_103 rfl rfl)) (jOK_leaf (sn_iload dX5_firstFault_104 rfl))) (jOK_node (jOK_leaf (sn_callV (Y' := Y_X5_faultOfCar) ok_X5_faultOfCar dX5_firstFault_106 rfl rfl rfl tw_236 tw_238 tp_2 tw_2 jc_X5_faultOfCar rfl ⟨by decide, by decide, rfl⟩ ⟨by decide, by decide⟩)) (jOK_leaf (sn_istore_n dX5_firstFault_109 rfl rfl (by decide))))))
def F_X5_firstFault_110 : Nat → jT := fun pc => (bif Nat.blt pc 121 then (bif Nat.blt pc 116 then (bif Nat.blt pc 113 then (bif Nat.beq pc 110 then J_iinc 3 1 113 else jbad) else (bif Nat.beq pc 113 then J_iinc 4 6 116 else jbad)) else (bif Nat.blt pc 119 then (bif Nat.beq pc 116 then J_goto 122 else jbad) else (bif Nat.beq pc 119 then J_iload 4 121 else jbad))) else (bif Nat.blt pc 125 then (bif Nat.blt pc 122 then (bif Nat.beq pc 121 then J_istore 1 122 else jbad) else (bif Nat.beq pc 122 then J_iinc 5 1 125 else jbad)) else (bif Nat.blt pc 128 then (bif Nat.beq pc 125 then J_goto 15 else jbad) else (bif Nat.blt pc 129 then (bif Nat.beq pc 128 then J_iload 1 129 else jbad) else (bif Nat.beq pc 129 then J_ireturn 0 0 else jbad)))))
theorem ftl_X5_firstFault_110 : F_X5_firstFault_110 110 = J_iinc 3 1 113 := rfl
theorem ftl_X5_firstFault_113 : F_X5_firstFault_110 113 = J_iinc 4 6 116 := rfl
theorem ftl_X5_firstFault_116 : F_X5_firstFault_110 116 = J_goto 122 := rfl
theorem ftl_X5_firstFault_119 : F_X5_firstFault_110 119 = J_iload 4 121 := rfl
theorem ftl_X5_firstFault_121 : F_X5_firstFault_110 121 = J_istore 1 122 := rfl
theorem ftl_X5_firstFault_122 : F_X5_firstFault_110 122 = J_iinc 5 1 125 := rfl
theorem ftl_X5_firstFault_125 : F_X5_firstFault_110 125 = J_goto 15 := rfl
theorem ftl_X5_firstFault_128 : F_X5_firstFault_110 128 = J_iload 1 129 := rfl
theorem ftl_X5_firstFault_129 : F_X5_firstFault_110 129 = J_ireturn 0 0 := rfl
theorem F_X5_firstFault_110_ok : jOK Y_X5_firstFault none (F_X5_firstFault_110) := (jOK_node (jOK_node (jOK_node (jOK_leaf (sn_iinc dX5_firstFault_110 rfl rfl (by decide))) (jOK_leaf (sn_iinc dX5_firstFault_113 rfl rfl (by decide)))) (jOK_node (jOK_leaf (sn_goto dX5_firstFault_116 rfl)) (jOK_leaf (sn_iload dX5_firstFault_119 rfl)))) (jOK_node (jOK_node (jOK_leaf (sn_istore_n dX5_firstFault_121 rfl rfl (by decide))) (jOK_leaf (sn_iinc dX5_firstFault_122 rfl rfl (by decide)))) (jOK_node (jOK_leaf (sn_goto dX5_firstFault_125 rfl)) (jOK_node (jOK_leaf (sn_iload_n dX5_firstFault_128 rfl rfl)) (jOK_leaf (sn_ireturn dX5_firstFault_129 rfl rfl))))))
def F_X5_firstFault_94_129 : Nat → jT := fun pc => bif Nat.blt pc 110 then F_X5_firstFault_94 pc else F_X5_firstFault_110 pc
theorem F_X5_firstFault_94_129_l {pc : Nat} (h : Nat.blt pc 110 = true) : F_X5_firstFault_94_129 pc = F_X5_firstFault_94 pc := by unfold F_X5_firstFault_94_129; rw [h]; rfl
theorem F_X5_firstFault_94_129_r {pc : Nat} (h : Nat.blt pc 110 = false) : F_X5_firstFault_94_129 pc = F_X5_firstFault_110 pc := by unfold F_X5_firstFault_94_129; rw [h]; rfl
theorem F_X5_firstFault_94_129_ok : jOK Y_X5_firstFault none (F_X5_firstFault_94_129) := jOK_node (F_X5_firstFault_94_ok) (F_X5_firstFault_110_ok)
def F_X5_firstFault_58_129 : Nat → jT := fun pc => bif Nat.blt pc 94 then F_X5_firstFault_58_92 pc else F_X5_firstFault_94_129 pc
theorem F_X5_firstFault_58_129_l {pc : Nat} (h : Nat.blt pc 94 = true) : F_X5_firstFault_58_129 pc = F_X5_firstFault_58_92 pc := by unfold F_X5_firstFault_58_129; rw [h]; rfl
theorem F_X5_firstFault_58_129_r {pc : Nat} (h : Nat.blt pc 94 = false) : F_X5_firstFault_58_129 pc = F_X5_firstFault_94_129 pc := by unfold F_X5_firstFault_58_129; rw [h]; rfl
theorem F_X5_firstFault_58_129_ok : jOK Y_X5_firstFault none (F_X5_firstFault_58_129) := jOK_node (F_X5_firstFault_58_92_ok) (F_X5_firstFault_94_129_ok)
def F_X5_firstFault_0_129 : Nat → jT := fun pc => bif Nat.blt pc 58 then F_X5_firstFault_0_57 pc else F_X5_firstFault_58_129 pc
theorem F_X5_firstFault_0_129_l {pc : Nat} (h : Nat.blt pc 58 = true) : F_X5_firstFault_0_129 pc = F_X5_firstFault_0_57 pc := by unfold F_X5_firstFault_0_129; rw [h]; rfl
theorem F_X5_firstFault_0_129_r {pc : Nat} (h : Nat.blt pc 58 = false) : F_X5_firstFault_0_129 pc = F_X5_firstFault_58_129 pc := by unfold F_X5_firstFault_0_129; rw [h]; rfl
theorem F_X5_firstFault_0_129_ok : jOK Y_X5_firstFault none (F_X5_firstFault_0_129) := jOK_node (F_X5_firstFault_0_57_ok) (F_X5_firstFault_58_129_ok)
def F_X5_firstFault : Nat → jT := F_X5_firstFault_0_129
theorem OK_X5_firstFault : jOK Y_X5_firstFault none (F_X5_firstFault) := F_X5_firstFault_0_129_ok
theorem ft_X5_firstFault_0 : F_X5_firstFault 0 = J_aload 0 1 := (F_X5_firstFault_0_129_l rfl).trans ((F_X5_firstFault_0_57_l rfl).trans (ftl_X5_firstFault_0))
theorem ft_X5_firstFault_1 : F_X5_firstFault 1 = J_callV 5 S_X5_faultOfHead 0 4 := (F_X5_firstFault_0_129_l rfl).trans ((F_X5_firstFault_0_57_l rfl).trans (ftl_X5_firstFault_1))
theorem ft_X5_firstFault_4 : F_X5_firstFault 4 = J_istore 1 5 := (F_X5_firstFault_0_129_l rfl).trans ((F_X5_firstFault_0_57_l rfl).trans (ftl_X5_firstFault_4))
theorem ft_X5_firstFault_5 : F_X5_firstFault 5 = J_iconst 0 6 := (F_X5_firstFault_0_129_l rfl).trans ((F_X5_firstFault_0_57_l rfl).trans (ftl_X5_firstFault_5))
theorem ft_X5_firstFault_6 : F_X5_firstFault 6 = J_istore 2 7 := (F_X5_firstFault_0_129_l rfl).trans ((F_X5_firstFault_0_57_l rfl).trans (ftl_X5_firstFault_6))
theorem ft_X5_firstFault_7 : F_X5_firstFault 7 = J_iconst 0 8 := (F_X5_firstFault_0_129_l rfl).trans ((F_X5_firstFault_0_57_l rfl).trans (ftl_X5_firstFault_7))
theorem ft_X5_firstFault_8 : F_X5_firstFault 8 = J_istore 3 9 := (F_X5_firstFault_0_129_l rfl).trans ((F_X5_firstFault_0_57_l rfl).trans (ftl_X5_firstFault_8))
theorem ft_X5_firstFault_9 : F_X5_firstFault 9 = J_iconst 4 10 := (F_X5_firstFault_0_129_l rfl).trans ((F_X5_firstFault_0_57_l rfl).trans (ftl_X5_firstFault_9))
theorem ft_X5_firstFault_10 : F_X5_firstFault 10 = J_istore 4 12 := (F_X5_firstFault_0_129_l rfl).trans ((F_X5_firstFault_0_57_l rfl).trans (ftl_X5_firstFault_10))
theorem ft_X5_firstFault_12 : F_X5_firstFault 12 = J_iconst 0 13 := (F_X5_firstFault_0_129_l rfl).trans ((F_X5_firstFault_0_57_l rfl).trans (ftl_X5_firstFault_12))
theorem ft_X5_firstFault_13 : F_X5_firstFault 13 = J_istore 5 15 := (F_X5_firstFault_0_129_l rfl).trans ((F_X5_firstFault_0_57_l rfl).trans (ftl_X5_firstFault_13))
theorem ft_X5_firstFault_15 : F_X5_firstFault 15 = J_iload 5 17 := (F_X5_firstFault_0_129_l rfl).trans ((F_X5_firstFault_0_57_l rfl).trans (ftl_X5_firstFault_15))
theorem ft_X5_firstFault_17 : F_X5_firstFault 17 = J_iconst 70 19 := (F_X5_firstFault_0_129_l rfl).trans ((F_X5_firstFault_0_57_l rfl).trans (ftl_X5_firstFault_17))
theorem ft_X5_firstFault_19 : F_X5_firstFault 19 = J_icge 128 22 := (F_X5_firstFault_0_129_l rfl).trans ((F_X5_firstFault_0_57_l rfl).trans (ftl_X5_firstFault_19))
theorem ft_X5_firstFault_22 : F_X5_firstFault 22 = J_iload 1 23 := (F_X5_firstFault_0_129_l rfl).trans ((F_X5_firstFault_0_57_l rfl).trans (ftl_X5_firstFault_22))
theorem ft_X5_firstFault_23 : F_X5_firstFault 23 = J_iconst (-9) 25 := (F_X5_firstFault_0_129_l rfl).trans ((F_X5_firstFault_0_57_l rfl).trans (ftl_X5_firstFault_23))
theorem ft_X5_firstFault_25 : F_X5_firstFault 25 = J_icne 128 28 := (F_X5_firstFault_0_129_l rfl).trans ((F_X5_firstFault_0_57_r rfl).trans ((F_X5_firstFault_25_57_l rfl).trans (ftl_X5_firstFault_25)))
theorem ft_X5_firstFault_28 : F_X5_firstFault 28 = J_iload 4 30 := (F_X5_firstFault_0_129_l rfl).trans ((F_X5_firstFault_0_57_r rfl).trans ((F_X5_firstFault_25_57_l rfl).trans (ftl_X5_firstFault_28)))
theorem ft_X5_firstFault_30 : F_X5_firstFault 30 = J_aload 0 31 := (F_X5_firstFault_0_129_l rfl).trans ((F_X5_firstFault_0_57_r rfl).trans ((F_X5_firstFault_25_57_l rfl).trans (ftl_X5_firstFault_30)))
theorem ft_X5_firstFault_31 : F_X5_firstFault 31 = J_getfield 5 1 34 := (F_X5_firstFault_0_129_l rfl).trans ((F_X5_firstFault_0_57_r rfl).trans ((F_X5_firstFault_25_57_l rfl).trans (ftl_X5_firstFault_31)))
theorem ft_X5_firstFault_34 : F_X5_firstFault 34 = J_icge 128 37 := (F_X5_firstFault_0_129_l rfl).trans ((F_X5_firstFault_0_57_r rfl).trans ((F_X5_firstFault_25_57_l rfl).trans (ftl_X5_firstFault_34)))
theorem ft_X5_firstFault_37 : F_X5_firstFault 37 = J_aload 0 38 := (F_X5_firstFault_0_129_l rfl).trans ((F_X5_firstFault_0_57_r rfl).trans ((F_X5_firstFault_25_57_l rfl).trans (ftl_X5_firstFault_37)))
theorem ft_X5_firstFault_38 : F_X5_firstFault 38 = J_iload 4 40 := (F_X5_firstFault_0_129_l rfl).trans ((F_X5_firstFault_0_57_r rfl).trans ((F_X5_firstFault_25_57_l rfl).trans (ftl_X5_firstFault_38)))
theorem ft_X5_firstFault_40 : F_X5_firstFault 40 = J_callV 5 S_X5_byteAt 1 43 := (F_X5_firstFault_0_129_l rfl).trans ((F_X5_firstFault_0_57_r rfl).trans ((F_X5_firstFault_25_57_l rfl).trans (ftl_X5_firstFault_40)))
theorem ft_X5_firstFault_43 : F_X5_firstFault 43 = J_iconst 112 45 := (F_X5_firstFault_0_129_l rfl).trans ((F_X5_firstFault_0_57_r rfl).trans ((F_X5_firstFault_25_57_r rfl).trans (ftl_X5_firstFault_43)))
theorem ft_X5_firstFault_45 : F_X5_firstFault 45 = J_icne 86 48 := (F_X5_firstFault_0_129_l rfl).trans ((F_X5_firstFault_0_57_r rfl).trans ((F_X5_firstFault_25_57_r rfl).trans (ftl_X5_firstFault_45)))
theorem ft_X5_firstFault_48 : F_X5_firstFault 48 = J_iload 2 49 := (F_X5_firstFault_0_129_l rfl).trans ((F_X5_firstFault_0_57_r rfl).trans ((F_X5_firstFault_25_57_r rfl).trans (ftl_X5_firstFault_48)))
theorem ft_X5_firstFault_49 : F_X5_firstFault 49 = J_iconst 4 50 := (F_X5_firstFault_0_129_l rfl).trans ((F_X5_firstFault_0_57_r rfl).trans ((F_X5_firstFault_25_57_r rfl).trans (ftl_X5_firstFault_49)))
theorem ft_X5_firstFault_50 : F_X5_firstFault 50 = J_icge 86 53 := (F_X5_firstFault_0_129_l rfl).trans ((F_X5_firstFault_0_57_r rfl).trans ((F_X5_firstFault_25_57_r rfl).trans (ftl_X5_firstFault_50)))
theorem ft_X5_firstFault_53 : F_X5_firstFault 53 = J_aload 0 54 := (F_X5_firstFault_0_129_l rfl).trans ((F_X5_firstFault_0_57_r rfl).trans ((F_X5_firstFault_25_57_r rfl).trans (ftl_X5_firstFault_53)))
theorem ft_X5_firstFault_54 : F_X5_firstFault 54 = J_iload 4 56 := (F_X5_firstFault_0_129_l rfl).trans ((F_X5_firstFault_0_57_r rfl).trans ((F_X5_firstFault_25_57_r rfl).trans (ftl_X5_firstFault_54)))
theorem ft_X5_firstFault_56 : F_X5_firstFault 56 = J_iconst 1 57 := (F_X5_firstFault_0_129_l rfl).trans ((F_X5_firstFault_0_57_r rfl).trans ((F_X5_firstFault_25_57_r rfl).trans (ftl_X5_firstFault_56)))
theorem ft_X5_firstFault_57 : F_X5_firstFault 57 = J_iadd 58 := (F_X5_firstFault_0_129_l rfl).trans ((F_X5_firstFault_0_57_r rfl).trans ((F_X5_firstFault_25_57_r rfl).trans (ftl_X5_firstFault_57)))
theorem ft_X5_firstFault_58 : F_X5_firstFault 58 = J_iconst 1 59 := (F_X5_firstFault_0_129_r rfl).trans ((F_X5_firstFault_58_129_l rfl).trans ((F_X5_firstFault_58_92_l rfl).trans (ftl_X5_firstFault_58)))
theorem ft_X5_firstFault_59 : F_X5_firstFault 59 = J_iconst 9 61 := (F_X5_firstFault_0_129_r rfl).trans ((F_X5_firstFault_58_129_l rfl).trans ((F_X5_firstFault_58_92_l rfl).trans (ftl_X5_firstFault_59)))
theorem ft_X5_firstFault_61 : F_X5_firstFault 61 = J_callV 5 S_X5_isDigit 3 64 := (F_X5_firstFault_0_129_r rfl).trans ((F_X5_firstFault_58_129_l rfl).trans ((F_X5_firstFault_58_92_l rfl).trans (ftl_X5_firstFault_61)))
theorem ft_X5_firstFault_64 : F_X5_firstFault 64 = J_ifeq 72 67 := (F_X5_firstFault_0_129_r rfl).trans ((F_X5_firstFault_58_129_l rfl).trans ((F_X5_firstFault_58_92_l rfl).trans (ftl_X5_firstFault_64)))
theorem ft_X5_firstFault_67 : F_X5_firstFault 67 = J_iconst (-9) 69 := (F_X5_firstFault_0_129_r rfl).trans ((F_X5_firstFault_58_129_l rfl).trans ((F_X5_firstFault_58_92_l rfl).trans (ftl_X5_firstFault_67)))
theorem ft_X5_firstFault_69 : F_X5_firstFault 69 = J_goto 76 := (F_X5_firstFault_0_129_r rfl).trans ((F_X5_firstFault_58_129_l rfl).trans ((F_X5_firstFault_58_92_l rfl).trans (ftl_X5_firstFault_69)))
theorem ft_X5_firstFault_72 : F_X5_firstFault 72 = J_iload 4 74 := (F_X5_firstFault_0_129_r rfl).trans ((F_X5_firstFault_58_129_l rfl).trans ((F_X5_firstFault_58_92_l rfl).trans (ftl_X5_firstFault_72)))
theorem ft_X5_firstFault_74 : F_X5_firstFault 74 = J_iconst 1 75 := (F_X5_firstFault_0_129_r rfl).trans ((F_X5_firstFault_58_129_l rfl).trans ((F_X5_firstFault_58_92_l rfl).trans (ftl_X5_firstFault_74)))
theorem ft_X5_firstFault_75 : F_X5_firstFault 75 = J_iadd 76 := (F_X5_firstFault_0_129_r rfl).trans ((F_X5_firstFault_58_129_l rfl).trans ((F_X5_firstFault_58_92_r rfl).trans (ftl_X5_firstFault_75)))
theorem ft_X5_firstFault_76 : F_X5_firstFault 76 = J_istore 1 77 := (F_X5_firstFault_0_129_r rfl).trans ((F_X5_firstFault_58_129_l rfl).trans ((F_X5_firstFault_58_92_r rfl).trans (ftl_X5_firstFault_76)))
theorem ft_X5_firstFault_77 : F_X5_firstFault 77 = J_iinc 2 1 80 := (F_X5_firstFault_0_129_r rfl).trans ((F_X5_firstFault_58_129_l rfl).trans ((F_X5_firstFault_58_92_r rfl).trans (ftl_X5_firstFault_77)))
theorem ft_X5_firstFault_80 : F_X5_firstFault 80 = J_iinc 4 2 83 := (F_X5_firstFault_0_129_r rfl).trans ((F_X5_firstFault_58_129_l rfl).trans ((F_X5_firstFault_58_92_r rfl).trans (ftl_X5_firstFault_80)))
theorem ft_X5_firstFault_83 : F_X5_firstFault 83 = J_goto 122 := (F_X5_firstFault_0_129_r rfl).trans ((F_X5_firstFault_58_129_l rfl).trans ((F_X5_firstFault_58_92_r rfl).trans (ftl_X5_firstFault_83)))
theorem ft_X5_firstFault_86 : F_X5_firstFault 86 = J_aload 0 87 := (F_X5_firstFault_0_129_r rfl).trans ((F_X5_firstFault_58_129_l rfl).trans ((F_X5_firstFault_58_92_r rfl).trans (ftl_X5_firstFault_86)))
theorem ft_X5_firstFault_87 : F_X5_firstFault 87 = J_iload 4 89 := (F_X5_firstFault_0_129_r rfl).trans ((F_X5_firstFault_58_129_l rfl).trans ((F_X5_firstFault_58_92_r rfl).trans (ftl_X5_firstFault_87)))
theorem ft_X5_firstFault_89 : F_X5_firstFault 89 = J_callV 5 S_X5_byteAt 1 92 := (F_X5_firstFault_0_129_r rfl).trans ((F_X5_firstFault_58_129_l rfl).trans ((F_X5_firstFault_58_92_r rfl).trans (ftl_X5_firstFault_89)))
theorem ft_X5_firstFault_92 : F_X5_firstFault 92 = J_iconst 99 94 := (F_X5_firstFault_0_129_r rfl).trans ((F_X5_firstFault_58_129_l rfl).trans ((F_X5_firstFault_58_92_r rfl).trans (ftl_X5_firstFault_92)))
theorem ft_X5_firstFault_94 : F_X5_firstFault 94 = J_icne 119 97 := (F_X5_firstFault_0_129_r rfl).trans ((F_X5_firstFault_58_129_r rfl).trans ((F_X5_firstFault_94_129_l rfl).trans (ftl_X5_firstFault_94)))
theorem ft_X5_firstFault_97 : F_X5_firstFault 97 = J_iload 3 98 := (F_X5_firstFault_0_129_r rfl).trans ((F_X5_firstFault_58_129_r rfl).trans ((F_X5_firstFault_94_129_l rfl).trans (ftl_X5_firstFault_97)))
theorem ft_X5_firstFault_98 : F_X5_firstFault 98 = J_iconst 6 100 := (F_X5_firstFault_0_129_r rfl).trans ((F_X5_firstFault_58_129_r rfl).trans ((F_X5_firstFault_94_129_l rfl).trans (ftl_X5_firstFault_98)))
theorem ft_X5_firstFault_100 : F_X5_firstFault 100 = J_icge 119 103 := (F_X5_firstFault_0_129_r rfl).trans ((F_X5_firstFault_58_129_r rfl).trans ((F_X5_firstFault_94_129_l rfl).trans (ftl_X5_firstFault_100)))
theorem ft_X5_firstFault_103 : F_X5_firstFault 103 = J_aload 0 104 := (F_X5_firstFault_0_129_r rfl).trans ((F_X5_firstFault_58_129_r rfl).trans ((F_X5_firstFault_94_129_l rfl).trans (ftl_X5_firstFault_103)))
theorem ft_X5_firstFault_104 : F_X5_firstFault 104 = J_iload 4 106 := (F_X5_firstFault_0_129_r rfl).trans ((F_X5_firstFault_58_129_r rfl).trans ((F_X5_firstFault_94_129_l rfl).trans (ftl_X5_firstFault_104)))
theorem ft_X5_firstFault_106 : F_X5_firstFault 106 = J_callV 5 S_X5_faultOfCar 1 109 := (F_X5_firstFault_0_129_r rfl).trans ((F_X5_firstFault_58_129_r rfl).trans ((F_X5_firstFault_94_129_l rfl).trans (ftl_X5_firstFault_106)))
theorem ft_X5_firstFault_109 : F_X5_firstFault 109 = J_istore 1 110 := (F_X5_firstFault_0_129_r rfl).trans ((F_X5_firstFault_58_129_r rfl).trans ((F_X5_firstFault_94_129_l rfl).trans (ftl_X5_firstFault_109)))
theorem ft_X5_firstFault_110 : F_X5_firstFault 110 = J_iinc 3 1 113 := (F_X5_firstFault_0_129_r rfl).trans ((F_X5_firstFault_58_129_r rfl).trans ((F_X5_firstFault_94_129_r rfl).trans (ftl_X5_firstFault_110)))
theorem ft_X5_firstFault_113 : F_X5_firstFault 113 = J_iinc 4 6 116 := (F_X5_firstFault_0_129_r rfl).trans ((F_X5_firstFault_58_129_r rfl).trans ((F_X5_firstFault_94_129_r rfl).trans (ftl_X5_firstFault_113)))
theorem ft_X5_firstFault_116 : F_X5_firstFault 116 = J_goto 122 := (F_X5_firstFault_0_129_r rfl).trans ((F_X5_firstFault_58_129_r rfl).trans ((F_X5_firstFault_94_129_r rfl).trans (ftl_X5_firstFault_116)))
theorem ft_X5_firstFault_119 : F_X5_firstFault 119 = J_iload 4 121 := (F_X5_firstFault_0_129_r rfl).trans ((F_X5_firstFault_58_129_r rfl).trans ((F_X5_firstFault_94_129_r rfl).trans (ftl_X5_firstFault_119)))
theorem ft_X5_firstFault_121 : F_X5_firstFault 121 = J_istore 1 122 := (F_X5_firstFault_0_129_r rfl).trans ((F_X5_firstFault_58_129_r rfl).trans ((F_X5_firstFault_94_129_r rfl).trans (ftl_X5_firstFault_121)))
theorem ft_X5_firstFault_122 : F_X5_firstFault 122 = J_iinc 5 1 125 := (F_X5_firstFault_0_129_r rfl).trans ((F_X5_firstFault_58_129_r rfl).trans ((F_X5_firstFault_94_129_r rfl).trans (ftl_X5_firstFault_122)))
theorem ft_X5_firstFault_125 : F_X5_firstFault 125 = J_goto 15 := (F_X5_firstFault_0_129_r rfl).trans ((F_X5_firstFault_58_129_r rfl).trans ((F_X5_firstFault_94_129_r rfl).trans (ftl_X5_firstFault_125)))
theorem ft_X5_firstFault_128 : F_X5_firstFault 128 = J_iload 1 129 := (F_X5_firstFault_0_129_r rfl).trans ((F_X5_firstFault_58_129_r rfl).trans ((F_X5_firstFault_94_129_r rfl).trans (ftl_X5_firstFault_128)))
theorem ft_X5_firstFault_129 : F_X5_firstFault 129 = J_ireturn 0 0 := (F_X5_firstFault_0_129_r rfl).trans ((F_X5_firstFault_58_129_r rfl).trans ((F_X5_firstFault_94_129_r rfl).trans (ftl_X5_firstFault_129)))
theorem lp_X5_firstFault {Q : jQ} {C : Nat → Nat → Int32} {z : Nat → Int64} {nb n : Nat} (hn : C 1 1 = nI n) (h70 : n ≤ 70) :
    ∀ k j, j + k = 70 → ∀ (w : Int32) (P K a : Nat), P ≤ 4 → K ≤ 6 → a ≤ 4 + 6 * j → Q (some (.int (ffF (C 2) n k w P K a))) (memS 94 C z) → Rn Y_X5_firstFault none Q 15 [some (.ref 1), some (.int w), some (.int (nI P)), some (.int (nI K)), some (.int (nI a)), some (.int (nI j))] [] (memS 94 C z) (nb, 0, 0) := by
  intro k
  induction k with
  | zero =>
    intro j hj w P K a hP hK ha h
    have hc : (70 ≤ nI j) = True := by rw [show j = 70 by omega]; exact eq_true (by decide)
    refine jrun_first OK_X5_firstFault (C := [15]) 60 ?_
    simp -implicitDefEqProofs only [jr_0, jr_1, jr_2, j_iconst, j_lconst, j_iload0, j_aload0, j_istore0, j_astore0, j_iinc0, j_iload1, j_aload1, j_istore1, j_astore1, j_iinc1, j_iload2, j_aload2, j_istore2, j_astore2, j_iinc2, j_iload3, j_aload3, j_istore3, j_astore3, j_iinc3, j_iload4, j_aload4, j_istore4, j_astore4, j_iinc4, j_iload5, j_aload5, j_istore5, j_astore5, j_iinc5, j_iload6, j_aload6, j_istore6, j_astore6, j_iinc6, j_iload7, j_aload7, j_istore7, j_astore7, j_iinc7, j_iload8, j_aload8, j_istore8, j_astore8, j_iinc8, j_iadd, j_isub, j_imul, j_iand, j_ior, j_ixor, j_ishl, j_ishr, j_iushr, j_idiv, j_irem, j_ineg, j_ladd, j_lmul, j_land, j_lor, j_lcmp, j_lushr, j_lshl, j_i2l, j_l2i, j_dupI, j_dupR, j_popI, j_dup2, j_ifeq, j_iceq, j_ifne, j_icne, j_iflt, j_iclt, j_ifge, j_icge, j_ifgt, j_icgt, j_ifle, j_icle, j_goto, j_tsw, j_sw0, j_sw1, j_ireturn, j_zreturn, j_lreturn, j_return, j_getfield, j_putI, j_putJ, j_putR, j_iaload, j_baload, j_iastore, j_bastore, j_aaload, j_q, j_aastore, j_acopy, j_mmin, j_mmax, j_mabs, j_objinit, j_new, j_newI, j_newQ, j_sld, j_slen, j_callV0, j_callI0, j_callS0, j_callV1, j_callI1, j_callS1, j_callV2, j_callI2, j_callS2, j_callV3, j_callS3, j_callV4, j_callS4, j_callV5, j_callS5, j_pushS, j_pushN, j_sh0, j_sh1, j_sh2, j_sh3, j_sh4, Int32.reduceAdd, Int32.reduceMul, Int32.reduceSub, Int32.reduceLT, Int32.reduceLE, eq_self, i32_10, i32_01, ne_eq, hrow_s, hrow_n, ne10, ne100, ne1000, ne7, ne4, ne14, ne9973, or_true, true_or, or_false, false_or, not_true_eq_false, not_false_eq_true, false_implies, implies_true, and_true, forall_const, true_implies, jargs_n, jargs_r, jargs_i, List.cons_append, List.nil_append, true_and, Nat.reduceEqDiff, reduceIte, ft_X5_firstFault_0, ft_X5_firstFault_1, ft_X5_firstFault_4, ft_X5_firstFault_5, ft_X5_firstFault_6, ft_X5_firstFault_7, ft_X5_firstFault_8, ft_X5_firstFault_9, ft_X5_firstFault_10, ft_X5_firstFault_12, ft_X5_firstFault_13, ft_X5_firstFault_15, ft_X5_firstFault_17, ft_X5_firstFault_19, ft_X5_firstFault_22, ft_X5_firstFault_23, ft_X5_firstFault_25, ft_X5_firstFault_28, ft_X5_firstFault_30, ft_X5_firstFault_31, ft_X5_firstFault_34, ft_X5_firstFault_37, ft_X5_firstFault_38, ft_X5_firstFault_40, ft_X5_firstFault_43, ft_X5_firstFault_45, ft_X5_firstFault_48, ft_X5_firstFault_49, ft_X5_firstFault_50, ft_X5_firstFault_53, ft_X5_firstFault_54, ft_X5_firstFault_56, ft_X5_firstFault_57, ft_X5_firstFault_58, ft_X5_firstFault_59, ft_X5_firstFault_61, ft_X5_firstFault_64, ft_X5_firstFault_67, ft_X5_firstFault_69, ft_X5_firstFault_72, ft_X5_firstFault_74, ft_X5_firstFault_75, ft_X5_firstFault_76, ft_X5_firstFault_77, ft_X5_firstFault_80, ft_X5_firstFault_83, ft_X5_firstFault_86, ft_X5_firstFault_87, ft_X5_firstFault_89, ft_X5_firstFault_92, ft_X5_firstFault_94, ft_X5_firstFault_97, ft_X5_firstFault_98, ft_X5_firstFault_100, ft_X5_firstFault_103, ft_X5_firstFault_104, ft_X5_firstFault_106, ft_X5_firstFault_109, ft_X5_firstFault_110, ft_X5_firstFault_113, ft_X5_firstFault_116, ft_X5_firstFault_119, ft_X5_firstFault_121, ft_X5_firstFault_122, ft_X5_firstFault_125, ft_X5_firstFault_128, ft_X5_firstFault_129, hc]
    exact h
  | succ k ih =>
    intro j hj w P K a hP hK ha h
    have hc : (70 ≤ nI j) = False := eq_false (nI_ge (b := 70) (by omega) (by decide))
    have e4 : (4 ≤ nI P) = (4 ≤ P) := nI_leq (a := 4) (by decide) (by omega)
    have e6 : (6 ≤ nI K) = (6 ≤ K) := nI_leq (a := 6) (by decide) (by omega)
    have e7 : (nI n ≤ nI a) = (n ≤ a) := nI_leq (by omega) (by omega)
    refine jrun_first OK_X5_firstFault (C := [15]) 80 ?_
    simp -implicitDefEqProofs only [jr_0, jr_1, jr_2, j_iconst, j_lconst, j_iload0, j_aload0, j_istore0, j_astore0, j_iinc0, j_iload1, j_aload1, j_istore1, j_astore1, j_iinc1, j_iload2, j_aload2, j_istore2, j_astore2, j_iinc2, j_iload3, j_aload3, j_istore3, j_astore3, j_iinc3, j_iload4, j_aload4, j_istore4, j_astore4, j_iinc4, j_iload5, j_aload5, j_istore5, j_astore5, j_iinc5, j_iload6, j_aload6, j_istore6, j_astore6, j_iinc6, j_iload7, j_aload7, j_istore7, j_astore7, j_iinc7, j_iload8, j_aload8, j_istore8, j_astore8, j_iinc8, j_iadd, j_isub, j_imul, j_iand, j_ior, j_ixor, j_ishl, j_ishr, j_iushr, j_idiv, j_irem, j_ineg, j_ladd, j_lmul, j_land, j_lor, j_lcmp, j_lushr, j_lshl, j_i2l, j_l2i, j_dupI, j_dupR, j_popI, j_dup2, j_ifeq, j_iceq, j_ifne, j_icne, j_iflt, j_iclt, j_ifge, j_icge, j_ifgt, j_icgt, j_ifle, j_icle, j_goto, j_tsw, j_sw0, j_sw1, j_ireturn, j_zreturn, j_lreturn, j_return, j_getfield, j_putI, j_putJ, j_putR, j_iaload, j_baload, j_iastore, j_bastore, j_aaload, j_q, j_aastore, j_acopy, j_mmin, j_mmax, j_mabs, j_objinit, j_new, j_newI, j_newQ, j_sld, j_slen, j_callV0, j_callI0, j_callS0, j_callV1, j_callI1, j_callS1, j_callV2, j_callI2, j_callS2, j_callV3, j_callS3, j_callV4, j_callS4, j_callV5, j_callS5, j_pushS, j_pushN, j_sh0, j_sh1, j_sh2, j_sh3, j_sh4, Int32.reduceAdd, Int32.reduceMul, Int32.reduceSub, Int32.reduceLT, Int32.reduceLE, eq_self, i32_10, i32_01, ne_eq, hrow_s, hrow_n, ne10, ne100, ne1000, ne7, ne4, ne14, ne9973, or_true, true_or, or_false, false_or, not_true_eq_false, not_false_eq_true, false_implies, implies_true, and_true, forall_const, true_implies, jargs_n, jargs_r, jargs_i, List.cons_append, List.nil_append, true_and, Nat.reduceEqDiff, reduceIte, ft_X5_firstFault_0, ft_X5_firstFault_1, ft_X5_firstFault_4, ft_X5_firstFault_5, ft_X5_firstFault_6, ft_X5_firstFault_7, ft_X5_firstFault_8, ft_X5_firstFault_9, ft_X5_firstFault_10, ft_X5_firstFault_12, ft_X5_firstFault_13, ft_X5_firstFault_15, ft_X5_firstFault_17, ft_X5_firstFault_19, ft_X5_firstFault_22, ft_X5_firstFault_23, ft_X5_firstFault_25, ft_X5_firstFault_28, ft_X5_firstFault_30, ft_X5_firstFault_31, ft_X5_firstFault_34, ft_X5_firstFault_37, ft_X5_firstFault_38, ft_X5_firstFault_40, ft_X5_firstFault_43, ft_X5_firstFault_45, ft_X5_firstFault_48, ft_X5_firstFault_49, ft_X5_firstFault_50, ft_X5_firstFault_53, ft_X5_firstFault_54, ft_X5_firstFault_56, ft_X5_firstFault_57, ft_X5_firstFault_58, ft_X5_firstFault_59, ft_X5_firstFault_61, ft_X5_firstFault_64, ft_X5_firstFault_67, ft_X5_firstFault_69, ft_X5_firstFault_72, ft_X5_firstFault_74, ft_X5_firstFault_75, ft_X5_firstFault_76, ft_X5_firstFault_77, ft_X5_firstFault_80, ft_X5_firstFault_83, ft_X5_firstFault_86, ft_X5_firstFault_87, ft_X5_firstFault_89, ft_X5_firstFault_92, ft_X5_firstFault_94, ft_X5_firstFault_97, ft_X5_firstFault_98, ft_X5_firstFault_100, ft_X5_firstFault_103, ft_X5_firstFault_104, ft_X5_firstFault_106, ft_X5_firstFault_109, ft_X5_firstFault_110, ft_X5_firstFault_113, ft_X5_firstFault_116, ft_X5_firstFault_119, ft_X5_firstFault_121, ft_X5_firstFault_122, ft_X5_firstFault_125, ft_X5_firstFault_128, ft_X5_firstFault_129, hc, rc_1, fl_1_1, hn, s_X5_byteAt, s_X5_isDigit, s_X5_faultOfCar, zb_0, nI_1, nI_2, nI_add, e4, e6, e7]
    have e26 : ∀ a : Nat, nI a + 6 = nI (a + 6) := fun a => nI_add a 6
    unfold ffF at h
    by_cases h9 : w = -9
    · by_cases h1 : n ≤ a
      · rw [pick_t (Or.inr h1)] at h
        simp only [h9, h1, not_true_eq_false, not_false_eq_true, true_implies, false_implies, implies_true, and_true, true_and, forall_const] at h ⊢
        exact h
      · rw [pick_f (by rintro (q | q); exact q h9; exact h1 q)] at h
        simp only [h9, h1, not_true_eq_false, not_false_eq_true, true_implies, false_implies, implies_true, and_true, true_and, forall_const]
        by_cases h2 : byteF (C 2) (nI n) (nI a) = 112
        · by_cases h3 : P < 4
          · rw [pick_t ⟨h2, h3⟩] at h
            simp only [h2, show ¬ 4 ≤ P by omega, not_true_eq_false, not_false_eq_true, true_implies, false_implies, implies_true, and_true, true_and, forall_const]
            by_cases h4 : dgF (C 2) (nI n) (nI a + 1) 1 9
            · rw [pick_t h4] at h
              rw [nI_1] at h4
              simp only [h4, not_true_eq_false, not_false_eq_true, true_implies, false_implies, implies_true, and_true, true_and, forall_const]
              exact ih (j + 1) (by omega) _ _ _ _ (by omega) hK (by omega) h
            · rw [pick_f h4, nI_1] at h
              rw [nI_1] at h4
              simp only [h4, not_true_eq_false, not_false_eq_true, true_implies, false_implies, implies_true, and_true, true_and, forall_const]
              exact ih (j + 1) (by omega) _ _ _ _ (by omega) hK (by omega) h
          · have h8 : ¬ byteF (C 2) (nI n) (nI a) = 99 := by rw [h2]; decide
            rw [pick_f (fun q => h3 q.2), pick_f (fun q => h8 q.1)] at h
            have e3 : ((112 : Int32) = 99) = False := by decide
            simp only [h2, e3, show 4 ≤ P by omega, not_true_eq_false, not_false_eq_true, true_implies, false_implies, implies_true, and_true, true_and, forall_const]
            exact ih (j + 1) (by omega) _ _ _ _ hP hK (by omega) h
        · rw [pick_f (fun q => h2 q.1)] at h
          simp only [h2, not_true_eq_false, not_false_eq_true, true_implies, false_implies, implies_true, and_true, true_and, forall_const]
          by_cases h5 : byteF (C 2) (nI n) (nI a) = 99
          · by_cases h3 : K < 6
            · rw [pick_t ⟨h5, h3⟩] at h
              simp only [h5, show ¬ 6 ≤ K by omega, not_true_eq_false, not_false_eq_true, true_implies, false_implies, implies_true, and_true, true_and, forall_const]
              try rw [e26]
              exact ih (j + 1) (by omega) _ _ _ _ hP (by omega) (by omega) h
            · rw [pick_f (fun q => h3 q.2)] at h
              simp only [h5, show 6 ≤ K by omega, not_true_eq_false, not_false_eq_true, true_implies, false_implies, implies_true, and_true, true_and, forall_const]
              exact ih (j + 1) (by omega) _ _ _ _ hP hK (by omega) h
          · rw [pick_f (fun q => h5 q.1)] at h
            simp only [h5, not_true_eq_false, not_false_eq_true, true_implies, false_implies, implies_true, and_true, true_and, forall_const]
            exact ih (j + 1) (by omega) _ _ _ _ hP hK (by omega) h
    · rw [pick_t (Or.inl h9)] at h
      simp only [h9, not_true_eq_false, not_false_eq_true, true_implies, false_implies, implies_true, and_true, true_and, forall_const]
      exact h
theorem ok_X5_firstFault : jMeets Y_X5_firstFault S_X5_firstFault := by
  intro nb vs mem Q h
  obtain ⟨C, z, n, rfl, rfl, hn, h70, hQ⟩ := h
  refine Ok.run OK_X5_firstFault [15] 60 [none, none, none, none, none] pn5 (Nat.le_of_ble_eq_true rfl) rfl ?_
  simp -implicitDefEqProofs only [jr_0, jr_1, jr_2, j_iconst, j_lconst, j_iload0, j_aload0, j_istore0, j_astore0, j_iinc0, j_iload1, j_aload1, j_istore1, j_astore1, j_iinc1, j_iload2, j_aload2, j_istore2, j_astore2, j_iinc2, j_iload3, j_aload3, j_istore3, j_astore3, j_iinc3, j_iload4, j_aload4, j_istore4, j_astore4, j_iinc4, j_iload5, j_aload5, j_istore5, j_astore5, j_iinc5, j_iload6, j_aload6, j_istore6, j_astore6, j_iinc6, j_iload7, j_aload7, j_istore7, j_astore7, j_iinc7, j_iload8, j_aload8, j_istore8, j_astore8, j_iinc8, j_iadd, j_isub, j_imul, j_iand, j_ior, j_ixor, j_ishl, j_ishr, j_iushr, j_idiv, j_irem, j_ineg, j_ladd, j_lmul, j_land, j_lor, j_lcmp, j_lushr, j_lshl, j_i2l, j_l2i, j_dupI, j_dupR, j_popI, j_dup2, j_ifeq, j_iceq, j_ifne, j_icne, j_iflt, j_iclt, j_ifge, j_icge, j_ifgt, j_icgt, j_ifle, j_icle, j_goto, j_tsw, j_sw0, j_sw1, j_ireturn, j_zreturn, j_lreturn, j_return, j_getfield, j_putI, j_putJ, j_putR, j_iaload, j_baload, j_iastore, j_bastore, j_aaload, j_q, j_aastore, j_acopy, j_mmin, j_mmax, j_mabs, j_objinit, j_new, j_newI, j_newQ, j_sld, j_slen, j_callV0, j_callI0, j_callS0, j_callV1, j_callI1, j_callS1, j_callV2, j_callI2, j_callS2, j_callV3, j_callS3, j_callV4, j_callS4, j_callV5, j_callS5, j_pushS, j_pushN, j_sh0, j_sh1, j_sh2, j_sh3, j_sh4, Int32.reduceAdd, Int32.reduceMul, Int32.reduceSub, Int32.reduceLT, Int32.reduceLE, eq_self, i32_10, i32_01, ne_eq, hrow_s, hrow_n, ne10, ne100, ne1000, ne7, ne4, ne14, ne9973, or_true, true_or, or_false, false_or, not_true_eq_false, not_false_eq_true, false_implies, implies_true, and_true, forall_const, true_implies, jargs_n, jargs_r, jargs_i, List.cons_append, List.nil_append, true_and, Nat.reduceEqDiff, reduceIte, ft_X5_firstFault_0, ft_X5_firstFault_1, ft_X5_firstFault_4, ft_X5_firstFault_5, ft_X5_firstFault_6, ft_X5_firstFault_7, ft_X5_firstFault_8, ft_X5_firstFault_9, ft_X5_firstFault_10, ft_X5_firstFault_12, ft_X5_firstFault_13, ft_X5_firstFault_15, ft_X5_firstFault_17, ft_X5_firstFault_19, ft_X5_firstFault_22, ft_X5_firstFault_23, ft_X5_firstFault_25, ft_X5_firstFault_28, ft_X5_firstFault_30, ft_X5_firstFault_31, ft_X5_firstFault_34, ft_X5_firstFault_37, ft_X5_firstFault_38, ft_X5_firstFault_40, ft_X5_firstFault_43, ft_X5_firstFault_45, ft_X5_firstFault_48, ft_X5_firstFault_49, ft_X5_firstFault_50, ft_X5_firstFault_53, ft_X5_firstFault_54, ft_X5_firstFault_56, ft_X5_firstFault_57, ft_X5_firstFault_58, ft_X5_firstFault_59, ft_X5_firstFault_61, ft_X5_firstFault_64, ft_X5_firstFault_67, ft_X5_firstFault_69, ft_X5_firstFault_72, ft_X5_firstFault_74, ft_X5_firstFault_75, ft_X5_firstFault_76, ft_X5_firstFault_77, ft_X5_firstFault_80, ft_X5_firstFault_83, ft_X5_firstFault_86, ft_X5_firstFault_87, ft_X5_firstFault_89, ft_X5_firstFault_92, ft_X5_firstFault_94, ft_X5_firstFault_97, ft_X5_firstFault_98, ft_X5_firstFault_100, ft_X5_firstFault_103, ft_X5_firstFault_104, ft_X5_firstFault_106, ft_X5_firstFault_109, ft_X5_firstFault_110, ft_X5_firstFault_113, ft_X5_firstFault_116, ft_X5_firstFault_119, ft_X5_firstFault_121, ft_X5_firstFault_122, ft_X5_firstFault_125, ft_X5_firstFault_128, ft_X5_firstFault_129, rc_1, s_X5_faultOfHead, hn]
  exact lp_X5_firstFault hn h70 70 0 rfl _ 0 0 4 (by decide) (by decide) (by decide) hQ
theorem s_X5_firstFault {nb n : Nat} {C : Nat → Nat → Int32} {z : Nat → Int64} {Q : jQ} (hn : C 1 1 = nI n) (h70 : n ≤ 70) (hQ : Q (some (.int (faultA (C 2) n))) (memS 94 C z)) : S_X5_firstFault nb [.ref 1] (memS 94 C z) Q := ⟨C, z, n, rfl, rfl, hn, h70, hQ⟩
def S_X6_fault : jSp := fun _ vs mem Q => ∃ C z n, vs = [.ref 0] ∧ mem = memS 94 C z ∧ C 1 1 = nI n ∧ n ≤ 70 ∧ Q (some (.int (faultA (C 2) n))) (memS 94 C z)
def F_X6_fault_0 : Nat → jT := fun pc => (bif Nat.blt pc 4 then (bif Nat.blt pc 1 then (bif Nat.beq pc 0 then J_aload 0 1 else jbad) else (bif Nat.beq pc 1 then J_getfield 6 0 4 else jbad)) else (bif Nat.blt pc 7 then (bif Nat.beq pc 4 then J_callV 5 S_X5_firstFault 0 7 else jbad) else (bif Nat.beq pc 7 then J_ireturn 0 0 else jbad)))
theorem ftl_X6_fault_0 : F_X6_fault_0 0 = J_aload 0 1 := rfl
theorem ftl_X6_fault_1 : F_X6_fault_0 1 = J_getfield 6 0 4 := rfl
theorem ftl_X6_fault_4 : F_X6_fault_0 4 = J_callV 5 S_X5_firstFault 0 7 := rfl
theorem ftl_X6_fault_7 : F_X6_fault_0 7 = J_ireturn 0 0 := rfl
theorem F_X6_fault_0_ok : jOK Y_X6_fault none (F_X6_fault_0) := (jOK_node (jOK_node (jOK_leaf (sn_aload_n dX6_fault_0 rfl rfl)) (jOK_leaf (sn_getfield dX6_fault_1 rfl rfl (by decide) tw_166 jin6))) (jOK_node (jOK_leaf (sn_callV (Y' := Y_X5_firstFault) ok_X5_firstFault dX6_fault_4 rfl rfl rfl tw_216 tw_217 tw_218 tw_2 jc_X5_firstFault rfl ⟨by decide, by decide, rfl⟩ ⟨by decide, by decide⟩)) (jOK_leaf (sn_ireturn dX6_fault_7 rfl rfl))))
def F_X6_fault : Nat → jT := F_X6_fault_0
theorem OK_X6_fault : jOK Y_X6_fault none (F_X6_fault) := F_X6_fault_0_ok
theorem ft_X6_fault_0 : F_X6_fault 0 = J_aload 0 1 := ftl_X6_fault_0
theorem ft_X6_fault_1 : F_X6_fault 1 = J_getfield 6 0 4 := ftl_X6_fault_1
theorem ft_X6_fault_4 : F_X6_fault 4 = J_callV 5 S_X5_firstFault 0 7 := ftl_X6_fault_4
theorem ft_X6_fault_7 : F_X6_fault 7 = J_ireturn 0 0 := ftl_X6_fault_7
theorem ok_X6_fault : jMeets Y_X6_fault S_X6_fault := by
  intro nb vs mem Q h
  obtain ⟨C, z, n, rfl, rfl, hn, h70, hQ⟩ := h
  refine Ok.run OK_X6_fault [] 60 [] pn6 (Nat.le_of_ble_eq_true rfl) rfl ?_
  simp -implicitDefEqProofs only [jr_0, jr_1, jr_2, j_iconst, j_lconst, j_iload0, j_aload0, j_istore0, j_astore0, j_iinc0, j_iload1, j_aload1, j_istore1, j_astore1, j_iinc1, j_iload2, j_aload2, j_istore2, j_astore2, j_iinc2, j_iload3, j_aload3, j_istore3, j_astore3, j_iinc3, j_iload4, j_aload4, j_istore4, j_astore4, j_iinc4, j_iload5, j_aload5, j_istore5, j_astore5, j_iinc5, j_iload6, j_aload6, j_istore6, j_astore6, j_iinc6, j_iload7, j_aload7, j_istore7, j_astore7, j_iinc7, j_iload8, j_aload8, j_istore8, j_astore8, j_iinc8, j_iadd, j_isub, j_imul, j_iand, j_ior, j_ixor, j_ishl, j_ishr, j_iushr, j_idiv, j_irem, j_ineg, j_ladd, j_lmul, j_land, j_lor, j_lcmp, j_lushr, j_lshl, j_i2l, j_l2i, j_dupI, j_dupR, j_popI, j_dup2, j_ifeq, j_iceq, j_ifne, j_icne, j_iflt, j_iclt, j_ifge, j_icge, j_ifgt, j_icgt, j_ifle, j_icle, j_goto, j_tsw, j_sw0, j_sw1, j_ireturn, j_zreturn, j_lreturn, j_return, j_getfield, j_putI, j_putJ, j_putR, j_iaload, j_baload, j_iastore, j_bastore, j_aaload, j_q, j_aastore, j_acopy, j_mmin, j_mmax, j_mabs, j_objinit, j_new, j_newI, j_newQ, j_sld, j_slen, j_callV0, j_callI0, j_callS0, j_callV1, j_callI1, j_callS1, j_callV2, j_callI2, j_callS2, j_callV3, j_callS3, j_callV4, j_callS4, j_callV5, j_callS5, j_pushS, j_pushN, j_sh0, j_sh1, j_sh2, j_sh3, j_sh4, Int32.reduceAdd, Int32.reduceMul, Int32.reduceSub, Int32.reduceLT, Int32.reduceLE, eq_self, i32_10, i32_01, ne_eq, hrow_s, hrow_n, ne10, ne100, ne1000, ne7, ne4, ne14, ne9973, or_true, true_or, or_false, false_or, not_true_eq_false, not_false_eq_true, false_implies, implies_true, and_true, forall_const, true_implies, jargs_n, jargs_r, jargs_i, List.cons_append, List.nil_append, true_and, Nat.reduceEqDiff, reduceIte, ft_X6_fault_0, ft_X6_fault_1, ft_X6_fault_4, ft_X6_fault_7, rc_1, fl_0_0]
  refine s_X5_firstFault hn h70 ?_
  simp -implicitDefEqProofs only [jr_0, jr_1, jr_2, j_iconst, j_lconst, j_iload0, j_aload0, j_istore0, j_astore0, j_iinc0, j_iload1, j_aload1, j_istore1, j_astore1, j_iinc1, j_iload2, j_aload2, j_istore2, j_astore2, j_iinc2, j_iload3, j_aload3, j_istore3, j_astore3, j_iinc3, j_iload4, j_aload4, j_istore4, j_astore4, j_iinc4, j_iload5, j_aload5, j_istore5, j_astore5, j_iinc5, j_iload6, j_aload6, j_istore6, j_astore6, j_iinc6, j_iload7, j_aload7, j_istore7, j_astore7, j_iinc7, j_iload8, j_aload8, j_istore8, j_astore8, j_iinc8, j_iadd, j_isub, j_imul, j_iand, j_ior, j_ixor, j_ishl, j_ishr, j_iushr, j_idiv, j_irem, j_ineg, j_ladd, j_lmul, j_land, j_lor, j_lcmp, j_lushr, j_lshl, j_i2l, j_l2i, j_dupI, j_dupR, j_popI, j_dup2, j_ifeq, j_iceq, j_ifne, j_icne, j_iflt, j_iclt, j_ifge, j_icge, j_ifgt, j_icgt, j_ifle, j_icle, j_goto, j_tsw, j_sw0, j_sw1, j_ireturn, j_zreturn, j_lreturn, j_return, j_getfield, j_putI, j_putJ, j_putR, j_iaload, j_baload, j_iastore, j_bastore, j_aaload, j_q, j_aastore, j_acopy, j_mmin, j_mmax, j_mabs, j_objinit, j_new, j_newI, j_newQ, j_sld, j_slen, j_callV0, j_callI0, j_callS0, j_callV1, j_callI1, j_callS1, j_callV2, j_callI2, j_callS2, j_callV3, j_callS3, j_callV4, j_callS4, j_callV5, j_callS5, j_pushS, j_pushN, j_sh0, j_sh1, j_sh2, j_sh3, j_sh4, Int32.reduceAdd, Int32.reduceMul, Int32.reduceSub, Int32.reduceLT, Int32.reduceLE, eq_self, i32_10, i32_01, ne_eq, hrow_s, hrow_n, ne10, ne100, ne1000, ne7, ne4, ne14, ne9973, or_true, true_or, or_false, false_or, not_true_eq_false, not_false_eq_true, false_implies, implies_true, and_true, forall_const, true_implies, jargs_n, jargs_r, jargs_i, List.cons_append, List.nil_append, true_and, Nat.reduceEqDiff, reduceIte, ft_X6_fault_0, ft_X6_fault_1, ft_X6_fault_4, ft_X6_fault_7]
  exact hQ
theorem s_X6_fault {nb n : Nat} {C : Nat → Nat → Int32} {z : Nat → Int64} {Q : jQ} (hn : C 1 1 = nI n) (h70 : n ≤ 70) (hQ : Q (some (.int (faultA (C 2) n))) (memS 94 C z)) : S_X6_fault nb [.ref 0] (memS 94 C z) Q := ⟨C, z, n, rfl, rfl, hn, h70, hQ⟩
/-! building the site -/
theorem upd_swap {f : Nat → Int32} {a b : Nat} {x y : Int32} (h : a ≠ b) : upd (upd f a x) b y = upd (upd f b y) a x := by
  funext i
  by_cases h1 : i = a
  · subst h1
    rw [upd_ne h, upd_eq, upd_eq]
  · rw [upd_ne h1]
    by_cases h2 : i = b
    · subst h2
      rw [upd_eq, upd_eq]
    · rw [upd_ne h2, upd_ne h2, upd_ne h1]
theorem upd_upd {f : Nat → Int32} {a : Nat} {x y : Int32} : upd (upd f a x) a y = upd f a y := by
  funext i
  by_cases h1 : i = a
  · subst h1; rw [upd_eq, upd_eq]
  · rw [upd_ne h1, upd_ne h1, upd_ne h1]
theorem upd_same {f : Nat → Int32} {a : Nat} {x : Int32} (h : f a = x) : upd f a x = f := by
  funext i
  by_cases h1 : i = a
  · subst h1; rw [upd_eq, h]
  · rw [upd_ne h1]
abbrev jBd : Type := (Nat × Nat) × (Nat → Int32) × (Nat → Int32)
def dF (f : Nat → Int32) (n : Nat) (p : Int32) : Int32 := byteF f (nI n) p - 48
def carT (f : Nat → Int32) (n a K : Nat) (T : Nat → Int32) : Nat → Int32 := upd (upd (upd (upd T (4 * K) (10 * dF f n (nI (a + 1)) + dF f n (nI (a + 2)))) (4 * K + 1) (dF f n (nI (a + 3)))) (4 * K + 2) (dF f n (nI (a + 4)))) (4 * K + 3) (dF f n (nI (a + 5)))
def bdF (f : Nat → Int32) (n : Nat) : Nat → Nat → jBd → jBd
  | 0, _, s => s
  | k + 1, a, s => if n ≤ a then s else if byteF f (nI n) (nI a) = 112 then bdF f n k (a + 2) (if s.1.1 < 4 then ((s.1.1 + 1, s.1.2), upd s.2.1 s.1.1 (dF f n (nI (a + 1))), s.2.2) else s) else bdF f n k (a + 6) (if s.1.2 < 6 then ((s.1.1, s.1.2 + 1), s.2.1, carT f n a s.1.2 s.2.2) else s)
def bdM (C : Nat → Nat → Int32) (s : jBd) : Nat → Nat → Int32 := hrow (hrow (hrow C 4 s.2.1) 5 s.2.2) 3 (upd (upd (C 3) 2 (nI s.1.1)) 3 (nI s.1.2))
def F_X3_addPost_0 : Nat → jT := fun pc => (bif Nat.blt pc 8 then (bif Nat.blt pc 4 then (bif Nat.blt pc 1 then (bif Nat.beq pc 0 then J_aload 0 1 else jbad) else (bif Nat.beq pc 1 then J_getfield 3 2 4 else jbad)) else (bif Nat.blt pc 5 then (bif Nat.beq pc 4 then J_iconst 4 5 else jbad) else (bif Nat.beq pc 5 then J_icge 28 8 else jbad))) else (bif Nat.blt pc 12 then (bif Nat.blt pc 9 then (bif Nat.beq pc 8 then J_aload 0 9 else jbad) else (bif Nat.beq pc 9 then J_getfield 3 0 12 else jbad)) else (bif Nat.blt pc 13 then (bif Nat.beq pc 12 then J_aload 0 13 else jbad) else (bif Nat.beq pc 13 then J_getfield 3 2 16 else jbad))))
theorem ftl_X3_addPost_0 : F_X3_addPost_0 0 = J_aload 0 1 := rfl
theorem ftl_X3_addPost_1 : F_X3_addPost_0 1 = J_getfield 3 2 4 := rfl
theorem ftl_X3_addPost_4 : F_X3_addPost_0 4 = J_iconst 4 5 := rfl
theorem ftl_X3_addPost_5 : F_X3_addPost_0 5 = J_icge 28 8 := rfl
theorem ftl_X3_addPost_8 : F_X3_addPost_0 8 = J_aload 0 9 := rfl
theorem ftl_X3_addPost_9 : F_X3_addPost_0 9 = J_getfield 3 0 12 := rfl
theorem ftl_X3_addPost_12 : F_X3_addPost_0 12 = J_aload 0 13 := rfl
theorem ftl_X3_addPost_13 : F_X3_addPost_0 13 = J_getfield 3 2 16 := rfl
theorem F_X3_addPost_0_ok : jOK Y_X3_addPost none (F_X3_addPost_0) := (jOK_node (jOK_node (jOK_node (jOK_leaf (sn_aload_n dX3_addPost_0 rfl rfl)) (jOK_leaf (sn_getfield dX3_addPost_1 rfl rfl (by decide) tw_44 jin3))) (jOK_node (jOK_leaf (sn_iconst dX3_addPost_4 rfl rfl)) (jOK_leaf (sn_icge dX3_addPost_5 rfl rfl)))) (jOK_node (jOK_node (jOK_leaf (sn_aload_n dX3_addPost_8 rfl rfl)) (jOK_leaf (sn_getfield dX3_addPost_9 rfl rfl (by decide) tw_42 jin3))) (jOK_node (jOK_leaf (sn_aload_n dX3_addPost_12 rfl rfl)) (jOK_leaf (sn_getfield dX3_addPost_13 rfl rfl (by decide) tw_44 jin3)))))
def F_X3_addPost_16 : Nat → jT := fun pc => (bif Nat.blt pc 20 then (bif Nat.blt pc 18 then (bif Nat.blt pc 17 then (bif Nat.beq pc 16 then J_iload 1 17 else jbad) else (bif Nat.beq pc 17 then J_iastore 18 else jbad)) else (bif Nat.blt pc 19 then (bif Nat.beq pc 18 then J_aload 0 19 else jbad) else (bif Nat.beq pc 19 then J_dup 20 else jbad))) else (bif Nat.blt pc 24 then (bif Nat.blt pc 23 then (bif Nat.beq pc 20 then J_getfield 3 2 23 else jbad) else (bif Nat.beq pc 23 then J_iconst 1 24 else jbad)) else (bif Nat.blt pc 25 then (bif Nat.beq pc 24 then J_iadd 25 else jbad) else (bif Nat.blt pc 28 then (bif Nat.beq pc 25 then J_putI 3 2 28 else jbad) else (bif Nat.beq pc 28 then J_return 0 0 else jbad)))))
theorem ftl_X3_addPost_16 : F_X3_addPost_16 16 = J_iload 1 17 := rfl
theorem ftl_X3_addPost_17 : F_X3_addPost_16 17 = J_iastore 18 := rfl
theorem ftl_X3_addPost_18 : F_X3_addPost_16 18 = J_aload 0 19 := rfl
theorem ftl_X3_addPost_19 : F_X3_addPost_16 19 = J_dup 20 := rfl
theorem ftl_X3_addPost_20 : F_X3_addPost_16 20 = J_getfield 3 2 23 := rfl
theorem ftl_X3_addPost_23 : F_X3_addPost_16 23 = J_iconst 1 24 := rfl
theorem ftl_X3_addPost_24 : F_X3_addPost_16 24 = J_iadd 25 := rfl
theorem ftl_X3_addPost_25 : F_X3_addPost_16 25 = J_putI 3 2 28 := rfl
theorem ftl_X3_addPost_28 : F_X3_addPost_16 28 = J_return 0 0 := rfl
theorem F_X3_addPost_16_ok : jOK Y_X3_addPost none (F_X3_addPost_16) := (jOK_node (jOK_node (jOK_node (jOK_leaf (sn_iload_n dX3_addPost_16 rfl rfl)) (jOK_leaf (sn_iastore dX3_addPost_17 rfl))) (jOK_node (jOK_leaf (sn_aload_n dX3_addPost_18 rfl rfl)) (jOK_leaf (sn_dup dX3_addPost_19 rfl)))) (jOK_node (jOK_node (jOK_leaf (sn_getfield dX3_addPost_20 rfl rfl (by decide) tw_44 jin3)) (jOK_leaf (sn_iconst dX3_addPost_23 rfl rfl))) (jOK_node (jOK_leaf (sn_iadd dX3_addPost_24 rfl)) (jOK_node (jOK_leaf (sn_putI tyX3 dX3_addPost_25 rfl rfl (by decide) tw_44 jin3 tyX3_ok nmX3 rfl rfl)) (jOK_leaf (sn_return dX3_addPost_28 rfl rfl))))))
def F_X3_addPost_0_28 : Nat → jT := fun pc => bif Nat.blt pc 16 then F_X3_addPost_0 pc else F_X3_addPost_16 pc
theorem F_X3_addPost_0_28_l {pc : Nat} (h : Nat.blt pc 16 = true) : F_X3_addPost_0_28 pc = F_X3_addPost_0 pc := by unfold F_X3_addPost_0_28; rw [h]; rfl
theorem F_X3_addPost_0_28_r {pc : Nat} (h : Nat.blt pc 16 = false) : F_X3_addPost_0_28 pc = F_X3_addPost_16 pc := by unfold F_X3_addPost_0_28; rw [h]; rfl
theorem F_X3_addPost_0_28_ok : jOK Y_X3_addPost none (F_X3_addPost_0_28) := jOK_node (F_X3_addPost_0_ok) (F_X3_addPost_16_ok)
def F_X3_addPost : Nat → jT := F_X3_addPost_0_28
theorem OK_X3_addPost : jOK Y_X3_addPost none (F_X3_addPost) := F_X3_addPost_0_28_ok
theorem ft_X3_addPost_0 : F_X3_addPost 0 = J_aload 0 1 := (F_X3_addPost_0_28_l rfl).trans (ftl_X3_addPost_0)
theorem ft_X3_addPost_1 : F_X3_addPost 1 = J_getfield 3 2 4 := (F_X3_addPost_0_28_l rfl).trans (ftl_X3_addPost_1)
theorem ft_X3_addPost_4 : F_X3_addPost 4 = J_iconst 4 5 := (F_X3_addPost_0_28_l rfl).trans (ftl_X3_addPost_4)
theorem ft_X3_addPost_5 : F_X3_addPost 5 = J_icge 28 8 := (F_X3_addPost_0_28_l rfl).trans (ftl_X3_addPost_5)
theorem ft_X3_addPost_8 : F_X3_addPost 8 = J_aload 0 9 := (F_X3_addPost_0_28_l rfl).trans (ftl_X3_addPost_8)
theorem ft_X3_addPost_9 : F_X3_addPost 9 = J_getfield 3 0 12 := (F_X3_addPost_0_28_l rfl).trans (ftl_X3_addPost_9)
theorem ft_X3_addPost_12 : F_X3_addPost 12 = J_aload 0 13 := (F_X3_addPost_0_28_l rfl).trans (ftl_X3_addPost_12)
theorem ft_X3_addPost_13 : F_X3_addPost 13 = J_getfield 3 2 16 := (F_X3_addPost_0_28_l rfl).trans (ftl_X3_addPost_13)
theorem ft_X3_addPost_16 : F_X3_addPost 16 = J_iload 1 17 := (F_X3_addPost_0_28_r rfl).trans (ftl_X3_addPost_16)
theorem ft_X3_addPost_17 : F_X3_addPost 17 = J_iastore 18 := (F_X3_addPost_0_28_r rfl).trans (ftl_X3_addPost_17)
theorem ft_X3_addPost_18 : F_X3_addPost 18 = J_aload 0 19 := (F_X3_addPost_0_28_r rfl).trans (ftl_X3_addPost_18)
theorem ft_X3_addPost_19 : F_X3_addPost 19 = J_dup 20 := (F_X3_addPost_0_28_r rfl).trans (ftl_X3_addPost_19)
theorem ft_X3_addPost_20 : F_X3_addPost 20 = J_getfield 3 2 23 := (F_X3_addPost_0_28_r rfl).trans (ftl_X3_addPost_20)
theorem ft_X3_addPost_23 : F_X3_addPost 23 = J_iconst 1 24 := (F_X3_addPost_0_28_r rfl).trans (ftl_X3_addPost_23)
theorem ft_X3_addPost_24 : F_X3_addPost 24 = J_iadd 25 := (F_X3_addPost_0_28_r rfl).trans (ftl_X3_addPost_24)
theorem ft_X3_addPost_25 : F_X3_addPost 25 = J_putI 3 2 28 := (F_X3_addPost_0_28_r rfl).trans (ftl_X3_addPost_25)
theorem ft_X3_addPost_28 : F_X3_addPost 28 = J_return 0 0 := (F_X3_addPost_0_28_r rfl).trans (ftl_X3_addPost_28)
def S_X3_addPost : jSp := fun nb vs mem Q => jcs vs ≤ 2 ∧ jrun F_X3_addPost [] 60 Q (fun _ _ _ _ _ => False) 0 (jargs vs ++ []) [] mem (nb, 0, 0)
theorem ok_X3_addPost : jMeets Y_X3_addPost S_X3_addPost := fun _ _ _ _ h => Ok.inl OK_X3_addPost 60 [] pn3 rfl h
theorem s_X3_addPost {nb : Nat} {C : Nat → Nat → Int32} {z : Nat → Int64} {s : jBd} {x : Int32} {Q : jQ} (h4 : s.1.1 ≤ 4) (hK : s.1.2 ≤ 6) : S_X3_addPost nb [.ref 3, .int x] (memS 94 (bdM C s) z) Q = Q none (memS 94 (bdM C (if s.1.1 < 4 then ((s.1.1 + 1, s.1.2), upd s.2.1 s.1.1 x, s.2.2) else s)) z) := by
  refine (eq_le rfl).trans ?_
  obtain ⟨⟨P, K⟩, A, T⟩ := s
  have e2 : bdM C ((P, K), A, T) 3 2 = nI P := by unfold bdM; rw [hrow_s, upd_ne (by decide), upd_eq]
  have e0 : bdM C ((P, K), A, T) 4 = A := by unfold bdM; rw [hrow_n (by decide), hrow_n (by decide), hrow_s]
  have e3 : bdM C ((P, K), A, T) 3 = upd (upd (C 3) 2 (nI P)) 3 (nI K) := by unfold bdM; rw [hrow_s]
  have h4 : P ≤ 4 := h4
  by_cases h : P < 4
  · have hc : (4 ≤ nI P) = False := eq_false (nI_ge (b := 4) h (by decide))
    have v1 : vp_in (nI P) 4 := vp_in_nI h (by decide)
    rw [if_pos (show ((P, K), A, T).1.1 < 4 from h)]
    simp -implicitDefEqProofs only [jr_0, jr_1, jr_2, j_iconst, j_lconst, j_iload0, j_aload0, j_istore0, j_astore0, j_iinc0, j_iload1, j_aload1, j_istore1, j_astore1, j_iinc1, j_iload2, j_aload2, j_istore2, j_astore2, j_iinc2, j_iload3, j_aload3, j_istore3, j_astore3, j_iinc3, j_iload4, j_aload4, j_istore4, j_astore4, j_iinc4, j_iload5, j_aload5, j_istore5, j_astore5, j_iinc5, j_iload6, j_aload6, j_istore6, j_astore6, j_iinc6, j_iload7, j_aload7, j_istore7, j_astore7, j_iinc7, j_iload8, j_aload8, j_istore8, j_astore8, j_iinc8, j_iadd, j_isub, j_imul, j_iand, j_ior, j_ixor, j_ishl, j_ishr, j_iushr, j_idiv, j_irem, j_ineg, j_ladd, j_lmul, j_land, j_lor, j_lcmp, j_lushr, j_lshl, j_i2l, j_l2i, j_dupI, j_dupR, j_popI, j_dup2, j_ifeq, j_iceq, j_ifne, j_icne, j_iflt, j_iclt, j_ifge, j_icge, j_ifgt, j_icgt, j_ifle, j_icle, j_goto, j_tsw, j_sw0, j_sw1, j_ireturn, j_zreturn, j_lreturn, j_return, j_getfield, j_putI, j_putJ, j_putR, j_iaload, j_baload, j_iastore, j_bastore, j_aaload, j_q, j_aastore, j_acopy, j_mmin, j_mmax, j_mabs, j_objinit, j_new, j_newI, j_newQ, j_sld, j_slen, j_callV0, j_callI0, j_callS0, j_callV1, j_callI1, j_callS1, j_callV2, j_callI2, j_callS2, j_callV3, j_callS3, j_callV4, j_callS4, j_callV5, j_callS5, j_pushS, j_pushN, j_sh0, j_sh1, j_sh2, j_sh3, j_sh4, Int32.reduceAdd, Int32.reduceMul, Int32.reduceSub, Int32.reduceLT, Int32.reduceLE, eq_self, i32_10, i32_01, ne_eq, hrow_s, hrow_n, ne10, ne100, ne1000, ne7, ne4, ne14, ne9973, or_true, true_or, or_false, false_or, not_true_eq_false, not_false_eq_true, false_implies, implies_true, and_true, forall_const, true_implies, jargs_n, jargs_r, jargs_i, List.cons_append, List.nil_append, true_and, Nat.reduceEqDiff, reduceIte, ft_X3_addPost_0, ft_X3_addPost_1, ft_X3_addPost_4, ft_X3_addPost_5, ft_X3_addPost_8, ft_X3_addPost_9, ft_X3_addPost_12, ft_X3_addPost_13, ft_X3_addPost_16, ft_X3_addPost_17, ft_X3_addPost_18, ft_X3_addPost_19, ft_X3_addPost_20, ft_X3_addPost_23, ft_X3_addPost_24, ft_X3_addPost_25, ft_X3_addPost_28, fl_3_0, fl_3_2, al_4, as_4, fp_3_2, e2, hc, v1, nI_1, nI_clamp (show P < 2 ^ 31 by omega), e0]
    have : hrow (hrow (bdM C ((P, K), A, T)) 4 (upd A P x)) 3 (upd (bdM C ((P, K), A, T) 3) 2 (nI (P + 1))) = bdM C ((P + 1, K), upd A P x, T) := by
      rw [e3]
      unfold bdM
      rw [hrow_swap (a := 3) (b := 4) (by decide), hrow_swap (a := 5) (b := 4) (by decide), hrow_hrow, hrow_hrow, upd_swap (a := 3) (b := 2) (by decide), upd_upd]
    rw [this]
  · have hc : (4 ≤ nI P) = True := eq_true (by rw [show P = 4 by omega]; decide)
    rw [if_neg (show ¬ ((P, K), A, T).1.1 < 4 from h)]
    simp -implicitDefEqProofs only [jr_0, jr_1, jr_2, j_iconst, j_lconst, j_iload0, j_aload0, j_istore0, j_astore0, j_iinc0, j_iload1, j_aload1, j_istore1, j_astore1, j_iinc1, j_iload2, j_aload2, j_istore2, j_astore2, j_iinc2, j_iload3, j_aload3, j_istore3, j_astore3, j_iinc3, j_iload4, j_aload4, j_istore4, j_astore4, j_iinc4, j_iload5, j_aload5, j_istore5, j_astore5, j_iinc5, j_iload6, j_aload6, j_istore6, j_astore6, j_iinc6, j_iload7, j_aload7, j_istore7, j_astore7, j_iinc7, j_iload8, j_aload8, j_istore8, j_astore8, j_iinc8, j_iadd, j_isub, j_imul, j_iand, j_ior, j_ixor, j_ishl, j_ishr, j_iushr, j_idiv, j_irem, j_ineg, j_ladd, j_lmul, j_land, j_lor, j_lcmp, j_lushr, j_lshl, j_i2l, j_l2i, j_dupI, j_dupR, j_popI, j_dup2, j_ifeq, j_iceq, j_ifne, j_icne, j_iflt, j_iclt, j_ifge, j_icge, j_ifgt, j_icgt, j_ifle, j_icle, j_goto, j_tsw, j_sw0, j_sw1, j_ireturn, j_zreturn, j_lreturn, j_return, j_getfield, j_putI, j_putJ, j_putR, j_iaload, j_baload, j_iastore, j_bastore, j_aaload, j_q, j_aastore, j_acopy, j_mmin, j_mmax, j_mabs, j_objinit, j_new, j_newI, j_newQ, j_sld, j_slen, j_callV0, j_callI0, j_callS0, j_callV1, j_callI1, j_callS1, j_callV2, j_callI2, j_callS2, j_callV3, j_callS3, j_callV4, j_callS4, j_callV5, j_callS5, j_pushS, j_pushN, j_sh0, j_sh1, j_sh2, j_sh3, j_sh4, Int32.reduceAdd, Int32.reduceMul, Int32.reduceSub, Int32.reduceLT, Int32.reduceLE, eq_self, i32_10, i32_01, ne_eq, hrow_s, hrow_n, ne10, ne100, ne1000, ne7, ne4, ne14, ne9973, or_true, true_or, or_false, false_or, not_true_eq_false, not_false_eq_true, false_implies, implies_true, and_true, forall_const, true_implies, jargs_n, jargs_r, jargs_i, List.cons_append, List.nil_append, true_and, Nat.reduceEqDiff, reduceIte, ft_X3_addPost_0, ft_X3_addPost_1, ft_X3_addPost_4, ft_X3_addPost_5, ft_X3_addPost_8, ft_X3_addPost_9, ft_X3_addPost_12, ft_X3_addPost_13, ft_X3_addPost_16, ft_X3_addPost_17, ft_X3_addPost_18, ft_X3_addPost_19, ft_X3_addPost_20, ft_X3_addPost_23, ft_X3_addPost_24, ft_X3_addPost_25, ft_X3_addPost_28, fl_3_0, fl_3_2, al_4, as_4, fp_3_2, e2, hc]
theorem row4 : ∀ K, K < 6 → ((nI K * 4 = nI (4 * K)) ∧ (nI K * 4 + 1 = nI (4 * K + 1))) ∧ (nI K * 4 + 2 = nI (4 * K + 2)) ∧ nI K * 4 + 3 = nI (4 * K + 3) := by decide +kernel
theorem nI_3 (a : Nat) : nI a + 3 = nI (a + 3) := nI_add a 3
theorem nI_4 (a : Nat) : nI a + 4 = nI (a + 4) := nI_add a 4
theorem nI_5 (a : Nat) : nI a + 5 = nI (a + 5) := nI_add a 5
theorem i32_add0 {a : Int32} : a + 0 = a := Int32.add_zero a
def F_X3_addCar_0 : Nat → jT := fun pc => (bif Nat.blt pc 9 then (bif Nat.blt pc 4 then (bif Nat.blt pc 1 then (bif Nat.beq pc 0 then J_aload 0 1 else jbad) else (bif Nat.beq pc 1 then J_getfield 3 3 4 else jbad)) else (bif Nat.blt pc 6 then (bif Nat.beq pc 4 then J_iconst 6 6 else jbad) else (bif Nat.beq pc 6 then J_icge 97 9 else jbad))) else (bif Nat.blt pc 13 then (bif Nat.blt pc 10 then (bif Nat.beq pc 9 then J_aload 0 10 else jbad) else (bif Nat.beq pc 10 then J_getfield 3 3 13 else jbad)) else (bif Nat.blt pc 14 then (bif Nat.beq pc 13 then J_iconst 4 14 else jbad) else (bif Nat.beq pc 14 then J_imul 15 else jbad))))
theorem ftl_X3_addCar_0 : F_X3_addCar_0 0 = J_aload 0 1 := rfl
theorem ftl_X3_addCar_1 : F_X3_addCar_0 1 = J_getfield 3 3 4 := rfl
theorem ftl_X3_addCar_4 : F_X3_addCar_0 4 = J_iconst 6 6 := rfl
theorem ftl_X3_addCar_6 : F_X3_addCar_0 6 = J_icge 97 9 := rfl
theorem ftl_X3_addCar_9 : F_X3_addCar_0 9 = J_aload 0 10 := rfl
theorem ftl_X3_addCar_10 : F_X3_addCar_0 10 = J_getfield 3 3 13 := rfl
theorem ftl_X3_addCar_13 : F_X3_addCar_0 13 = J_iconst 4 14 := rfl
theorem ftl_X3_addCar_14 : F_X3_addCar_0 14 = J_imul 15 := rfl
theorem F_X3_addCar_0_ok : jOK Y_X3_addCar none (F_X3_addCar_0) := (jOK_node (jOK_node (jOK_node (jOK_leaf (sn_aload_n dX3_addCar_0 rfl rfl)) (jOK_leaf (sn_getfield dX3_addCar_1 rfl rfl (by decide) tw_47 jin3))) (jOK_node (jOK_leaf (sn_bipush dX3_addCar_4 rfl rfl)) (jOK_leaf (sn_icge dX3_addCar_6 rfl rfl)))) (jOK_node (jOK_node (jOK_leaf (sn_aload_n dX3_addCar_9 rfl rfl)) (jOK_leaf (sn_getfield dX3_addCar_10 rfl rfl (by decide) tw_47 jin3))) (jOK_node (jOK_leaf (sn_iconst dX3_addCar_13 rfl rfl)) (jOK_leaf (sn_imul dX3_addCar_14 rfl)))))
def F_X3_addCar_15 : Nat → jT := fun pc => (bif Nat.blt pc 21 then (bif Nat.blt pc 17 then (bif Nat.blt pc 16 then (bif Nat.beq pc 15 then J_istore 3 16 else jbad) else (bif Nat.beq pc 16 then J_aload 0 17 else jbad)) else (bif Nat.blt pc 20 then (bif Nat.beq pc 17 then J_getfield 3 1 20 else jbad) else (bif Nat.beq pc 20 then J_iload 3 21 else jbad))) else (bif Nat.blt pc 23 then (bif Nat.blt pc 22 then (bif Nat.beq pc 21 then J_iconst 0 22 else jbad) else (bif Nat.beq pc 22 then J_iadd 23 else jbad)) else (bif Nat.blt pc 25 then (bif Nat.beq pc 23 then J_iconst 10 25 else jbad) else (bif Nat.blt pc 26 then (bif Nat.beq pc 25 then J_aload 1 26 else jbad) else (bif Nat.beq pc 26 then J_iload 2 27 else jbad)))))
theorem ftl_X3_addCar_15 : F_X3_addCar_15 15 = J_istore 3 16 := rfl
theorem ftl_X3_addCar_16 : F_X3_addCar_15 16 = J_aload 0 17 := rfl
theorem ftl_X3_addCar_17 : F_X3_addCar_15 17 = J_getfield 3 1 20 := rfl
theorem ftl_X3_addCar_20 : F_X3_addCar_15 20 = J_iload 3 21 := rfl
theorem ftl_X3_addCar_21 : F_X3_addCar_15 21 = J_iconst 0 22 := rfl
theorem ftl_X3_addCar_22 : F_X3_addCar_15 22 = J_iadd 23 := rfl
theorem ftl_X3_addCar_23 : F_X3_addCar_15 23 = J_iconst 10 25 := rfl
theorem ftl_X3_addCar_25 : F_X3_addCar_15 25 = J_aload 1 26 := rfl
theorem ftl_X3_addCar_26 : F_X3_addCar_15 26 = J_iload 2 27 := rfl
theorem F_X3_addCar_15_ok : jOK Y_X3_addCar none (F_X3_addCar_15) := (jOK_node (jOK_node (jOK_node (jOK_leaf (sn_istore_n dX3_addCar_15 rfl rfl (by decide))) (jOK_leaf (sn_aload_n dX3_addCar_16 rfl rfl))) (jOK_node (jOK_leaf (sn_getfield dX3_addCar_17 rfl rfl (by decide) tw_43 jin3)) (jOK_leaf (sn_iload_n dX3_addCar_20 rfl rfl)))) (jOK_node (jOK_node (jOK_leaf (sn_iconst dX3_addCar_21 rfl rfl)) (jOK_leaf (sn_iadd dX3_addCar_22 rfl))) (jOK_node (jOK_leaf (sn_bipush dX3_addCar_23 rfl rfl)) (jOK_node (jOK_leaf (sn_aload_n dX3_addCar_25 rfl rfl)) (jOK_leaf (sn_iload_n dX3_addCar_26 rfl rfl))))))
def F_X3_addCar_0_26 : Nat → jT := fun pc => bif Nat.blt pc 15 then F_X3_addCar_0 pc else F_X3_addCar_15 pc
theorem F_X3_addCar_0_26_l {pc : Nat} (h : Nat.blt pc 15 = true) : F_X3_addCar_0_26 pc = F_X3_addCar_0 pc := by unfold F_X3_addCar_0_26; rw [h]; rfl
theorem F_X3_addCar_0_26_r {pc : Nat} (h : Nat.blt pc 15 = false) : F_X3_addCar_0_26 pc = F_X3_addCar_15 pc := by unfold F_X3_addCar_0_26; rw [h]; rfl
theorem F_X3_addCar_0_26_ok : jOK Y_X3_addCar none (F_X3_addCar_0_26) := jOK_node (F_X3_addCar_0_ok) (F_X3_addCar_15_ok)
def F_X3_addCar_27 : Nat → jT := fun pc => (bif Nat.blt pc 33 then (bif Nat.blt pc 29 then (bif Nat.blt pc 28 then (bif Nat.beq pc 27 then J_iconst 1 28 else jbad) else (bif Nat.beq pc 28 then J_iadd 29 else jbad)) else (bif Nat.blt pc 32 then (bif Nat.beq pc 29 then J_callV 5 S_X5_digitAt 1 32 else jbad) else (bif Nat.beq pc 32 then J_imul 33 else jbad))) else (bif Nat.blt pc 35 then (bif Nat.blt pc 34 then (bif Nat.beq pc 33 then J_aload 1 34 else jbad) else (bif Nat.beq pc 34 then J_iload 2 35 else jbad)) else (bif Nat.blt pc 36 then (bif Nat.beq pc 35 then J_iconst 2 36 else jbad) else (bif Nat.beq pc 36 then J_iadd 37 else jbad))))
theorem ftl_X3_addCar_27 : F_X3_addCar_27 27 = J_iconst 1 28 := rfl
theorem ftl_X3_addCar_28 : F_X3_addCar_27 28 = J_iadd 29 := rfl
theorem ftl_X3_addCar_29 : F_X3_addCar_27 29 = J_callV 5 S_X5_digitAt 1 32 := rfl
theorem ftl_X3_addCar_32 : F_X3_addCar_27 32 = J_imul 33 := rfl
theorem ftl_X3_addCar_33 : F_X3_addCar_27 33 = J_aload 1 34 := rfl
theorem ftl_X3_addCar_34 : F_X3_addCar_27 34 = J_iload 2 35 := rfl
theorem ftl_X3_addCar_35 : F_X3_addCar_27 35 = J_iconst 2 36 := rfl
theorem ftl_X3_addCar_36 : F_X3_addCar_27 36 = J_iadd 37 := rfl
theorem F_X3_addCar_27_ok : jOK Y_X3_addCar none (F_X3_addCar_27) := (jOK_node (jOK_node (jOK_node (jOK_leaf (sn_iconst dX3_addCar_27 rfl rfl)) (jOK_leaf (sn_iadd dX3_addCar_28 rfl))) (jOK_node (jOK_leaf (sn_callV (Y' := Y_X5_digitAt) ok_X5_digitAt dX3_addCar_29 rfl rfl rfl tw_248 tw_233 tw_234 tw_2 jc_X5_digitAt rfl ⟨by decide, by decide, rfl⟩ ⟨by decide, by decide⟩)) (jOK_leaf (sn_imul dX3_addCar_32 rfl)))) (jOK_node (jOK_node (jOK_leaf (sn_aload_n dX3_addCar_33 rfl rfl)) (jOK_leaf (sn_iload_n dX3_addCar_34 rfl rfl))) (jOK_node (jOK_leaf (sn_iconst dX3_addCar_35 rfl rfl)) (jOK_leaf (sn_iadd dX3_addCar_36 rfl)))))
def F_X3_addCar_37 : Nat → jT := fun pc => (bif Nat.blt pc 43 then (bif Nat.blt pc 41 then (bif Nat.blt pc 40 then (bif Nat.beq pc 37 then J_callV 5 S_X5_digitAt 1 40 else jbad) else (bif Nat.beq pc 40 then J_iadd 41 else jbad)) else (bif Nat.blt pc 42 then (bif Nat.beq pc 41 then J_iastore 42 else jbad) else (bif Nat.beq pc 42 then J_aload 0 43 else jbad))) else (bif Nat.blt pc 47 then (bif Nat.blt pc 46 then (bif Nat.beq pc 43 then J_getfield 3 1 46 else jbad) else (bif Nat.beq pc 46 then J_iload 3 47 else jbad)) else (bif Nat.blt pc 48 then (bif Nat.beq pc 47 then J_iconst 1 48 else jbad) else (bif Nat.blt pc 49 then (bif Nat.beq pc 48 then J_iadd 49 else jbad) else (bif Nat.beq pc 49 then J_aload 1 50 else jbad)))))
theorem ftl_X3_addCar_37 : F_X3_addCar_37 37 = J_callV 5 S_X5_digitAt 1 40 := rfl
theorem ftl_X3_addCar_40 : F_X3_addCar_37 40 = J_iadd 41 := rfl
theorem ftl_X3_addCar_41 : F_X3_addCar_37 41 = J_iastore 42 := rfl
theorem ftl_X3_addCar_42 : F_X3_addCar_37 42 = J_aload 0 43 := rfl
theorem ftl_X3_addCar_43 : F_X3_addCar_37 43 = J_getfield 3 1 46 := rfl
theorem ftl_X3_addCar_46 : F_X3_addCar_37 46 = J_iload 3 47 := rfl
theorem ftl_X3_addCar_47 : F_X3_addCar_37 47 = J_iconst 1 48 := rfl
theorem ftl_X3_addCar_48 : F_X3_addCar_37 48 = J_iadd 49 := rfl
theorem ftl_X3_addCar_49 : F_X3_addCar_37 49 = J_aload 1 50 := rfl
theorem F_X3_addCar_37_ok : jOK Y_X3_addCar none (F_X3_addCar_37) := (jOK_node (jOK_node (jOK_node (jOK_leaf (sn_callV (Y' := Y_X5_digitAt) ok_X5_digitAt dX3_addCar_37 rfl rfl rfl tw_248 tw_233 tw_234 tw_2 jc_X5_digitAt rfl ⟨by decide, by decide, rfl⟩ ⟨by decide, by decide⟩)) (jOK_leaf (sn_iadd dX3_addCar_40 rfl))) (jOK_node (jOK_leaf (sn_iastore dX3_addCar_41 rfl)) (jOK_leaf (sn_aload_n dX3_addCar_42 rfl rfl)))) (jOK_node (jOK_node (jOK_leaf (sn_getfield dX3_addCar_43 rfl rfl (by decide) tw_43 jin3)) (jOK_leaf (sn_iload_n dX3_addCar_46 rfl rfl))) (jOK_node (jOK_leaf (sn_iconst dX3_addCar_47 rfl rfl)) (jOK_node (jOK_leaf (sn_iadd dX3_addCar_48 rfl)) (jOK_leaf (sn_aload_n dX3_addCar_49 rfl rfl))))))
def F_X3_addCar_27_49 : Nat → jT := fun pc => bif Nat.blt pc 37 then F_X3_addCar_27 pc else F_X3_addCar_37 pc
theorem F_X3_addCar_27_49_l {pc : Nat} (h : Nat.blt pc 37 = true) : F_X3_addCar_27_49 pc = F_X3_addCar_27 pc := by unfold F_X3_addCar_27_49; rw [h]; rfl
theorem F_X3_addCar_27_49_r {pc : Nat} (h : Nat.blt pc 37 = false) : F_X3_addCar_27_49 pc = F_X3_addCar_37 pc := by unfold F_X3_addCar_27_49; rw [h]; rfl
theorem F_X3_addCar_27_49_ok : jOK Y_X3_addCar none (F_X3_addCar_27_49) := jOK_node (F_X3_addCar_27_ok) (F_X3_addCar_37_ok)
def F_X3_addCar_0_49 : Nat → jT := fun pc => bif Nat.blt pc 27 then F_X3_addCar_0_26 pc else F_X3_addCar_27_49 pc
theorem F_X3_addCar_0_49_l {pc : Nat} (h : Nat.blt pc 27 = true) : F_X3_addCar_0_49 pc = F_X3_addCar_0_26 pc := by unfold F_X3_addCar_0_49; rw [h]; rfl
theorem F_X3_addCar_0_49_r {pc : Nat} (h : Nat.blt pc 27 = false) : F_X3_addCar_0_49 pc = F_X3_addCar_27_49 pc := by unfold F_X3_addCar_0_49; rw [h]; rfl
theorem F_X3_addCar_0_49_ok : jOK Y_X3_addCar none (F_X3_addCar_0_49) := jOK_node (F_X3_addCar_0_26_ok) (F_X3_addCar_27_49_ok)
def F_X3_addCar_50 : Nat → jT := fun pc => (bif Nat.blt pc 56 then (bif Nat.blt pc 52 then (bif Nat.blt pc 51 then (bif Nat.beq pc 50 then J_iload 2 51 else jbad) else (bif Nat.beq pc 51 then J_iconst 3 52 else jbad)) else (bif Nat.blt pc 53 then (bif Nat.beq pc 52 then J_iadd 53 else jbad) else (bif Nat.beq pc 53 then J_callV 5 S_X5_digitAt 1 56 else jbad))) else (bif Nat.blt pc 58 then (bif Nat.blt pc 57 then (bif Nat.beq pc 56 then J_iastore 57 else jbad) else (bif Nat.beq pc 57 then J_aload 0 58 else jbad)) else (bif Nat.blt pc 61 then (bif Nat.beq pc 58 then J_getfield 3 1 61 else jbad) else (bif Nat.beq pc 61 then J_iload 3 62 else jbad))))
theorem ftl_X3_addCar_50 : F_X3_addCar_50 50 = J_iload 2 51 := rfl
theorem ftl_X3_addCar_51 : F_X3_addCar_50 51 = J_iconst 3 52 := rfl
theorem ftl_X3_addCar_52 : F_X3_addCar_50 52 = J_iadd 53 := rfl
theorem ftl_X3_addCar_53 : F_X3_addCar_50 53 = J_callV 5 S_X5_digitAt 1 56 := rfl
theorem ftl_X3_addCar_56 : F_X3_addCar_50 56 = J_iastore 57 := rfl
theorem ftl_X3_addCar_57 : F_X3_addCar_50 57 = J_aload 0 58 := rfl
theorem ftl_X3_addCar_58 : F_X3_addCar_50 58 = J_getfield 3 1 61 := rfl
theorem ftl_X3_addCar_61 : F_X3_addCar_50 61 = J_iload 3 62 := rfl
theorem F_X3_addCar_50_ok : jOK Y_X3_addCar none (F_X3_addCar_50) := (jOK_node (jOK_node (jOK_node (jOK_leaf (sn_iload_n dX3_addCar_50 rfl rfl)) (jOK_leaf (sn_iconst dX3_addCar_51 rfl rfl))) (jOK_node (jOK_leaf (sn_iadd dX3_addCar_52 rfl)) (jOK_leaf (sn_callV (Y' := Y_X5_digitAt) ok_X5_digitAt dX3_addCar_53 rfl rfl rfl tw_248 tw_233 tw_234 tw_2 jc_X5_digitAt rfl ⟨by decide, by decide, rfl⟩ ⟨by decide, by decide⟩)))) (jOK_node (jOK_node (jOK_leaf (sn_iastore dX3_addCar_56 rfl)) (jOK_leaf (sn_aload_n dX3_addCar_57 rfl rfl))) (jOK_node (jOK_leaf (sn_getfield dX3_addCar_58 rfl rfl (by decide) tw_43 jin3)) (jOK_leaf (sn_iload_n dX3_addCar_61 rfl rfl)))))
def F_X3_addCar_62 : Nat → jT := fun pc => (bif Nat.blt pc 66 then (bif Nat.blt pc 64 then (bif Nat.blt pc 63 then (bif Nat.beq pc 62 then J_iconst 2 63 else jbad) else (bif Nat.beq pc 63 then J_iadd 64 else jbad)) else (bif Nat.blt pc 65 then (bif Nat.beq pc 64 then J_aload 1 65 else jbad) else (bif Nat.beq pc 65 then J_iload 2 66 else jbad))) else (bif Nat.blt pc 68 then (bif Nat.blt pc 67 then (bif Nat.beq pc 66 then J_iconst 4 67 else jbad) else (bif Nat.beq pc 67 then J_iadd 68 else jbad)) else (bif Nat.blt pc 71 then (bif Nat.beq pc 68 then J_callV 5 S_X5_digitAt 1 71 else jbad) else (bif Nat.blt pc 72 then (bif Nat.beq pc 71 then J_iastore 72 else jbad) else (bif Nat.beq pc 72 then J_aload 0 73 else jbad)))))
theorem ftl_X3_addCar_62 : F_X3_addCar_62 62 = J_iconst 2 63 := rfl
theorem ftl_X3_addCar_63 : F_X3_addCar_62 63 = J_iadd 64 := rfl
theorem ftl_X3_addCar_64 : F_X3_addCar_62 64 = J_aload 1 65 := rfl
theorem ftl_X3_addCar_65 : F_X3_addCar_62 65 = J_iload 2 66 := rfl
theorem ftl_X3_addCar_66 : F_X3_addCar_62 66 = J_iconst 4 67 := rfl
theorem ftl_X3_addCar_67 : F_X3_addCar_62 67 = J_iadd 68 := rfl
theorem ftl_X3_addCar_68 : F_X3_addCar_62 68 = J_callV 5 S_X5_digitAt 1 71 := rfl
theorem ftl_X3_addCar_71 : F_X3_addCar_62 71 = J_iastore 72 := rfl
theorem ftl_X3_addCar_72 : F_X3_addCar_62 72 = J_aload 0 73 := rfl
theorem F_X3_addCar_62_ok : jOK Y_X3_addCar none (F_X3_addCar_62) := (jOK_node (jOK_node (jOK_node (jOK_leaf (sn_iconst dX3_addCar_62 rfl rfl)) (jOK_leaf (sn_iadd dX3_addCar_63 rfl))) (jOK_node (jOK_leaf (sn_aload_n dX3_addCar_64 rfl rfl)) (jOK_leaf (sn_iload_n dX3_addCar_65 rfl rfl)))) (jOK_node (jOK_node (jOK_leaf (sn_iconst dX3_addCar_66 rfl rfl)) (jOK_leaf (sn_iadd dX3_addCar_67 rfl))) (jOK_node (jOK_leaf (sn_callV (Y' := Y_X5_digitAt) ok_X5_digitAt dX3_addCar_68 rfl rfl rfl tw_248 tw_233 tw_234 tw_2 jc_X5_digitAt rfl ⟨by decide, by decide, rfl⟩ ⟨by decide, by decide⟩)) (jOK_node (jOK_leaf (sn_iastore dX3_addCar_71 rfl)) (jOK_leaf (sn_aload_n dX3_addCar_72 rfl rfl))))))
def F_X3_addCar_50_72 : Nat → jT := fun pc => bif Nat.blt pc 62 then F_X3_addCar_50 pc else F_X3_addCar_62 pc
theorem F_X3_addCar_50_72_l {pc : Nat} (h : Nat.blt pc 62 = true) : F_X3_addCar_50_72 pc = F_X3_addCar_50 pc := by unfold F_X3_addCar_50_72; rw [h]; rfl
theorem F_X3_addCar_50_72_r {pc : Nat} (h : Nat.blt pc 62 = false) : F_X3_addCar_50_72 pc = F_X3_addCar_62 pc := by unfold F_X3_addCar_50_72; rw [h]; rfl
theorem F_X3_addCar_50_72_ok : jOK Y_X3_addCar none (F_X3_addCar_50_72) := jOK_node (F_X3_addCar_50_ok) (F_X3_addCar_62_ok)
def F_X3_addCar_73 : Nat → jT := fun pc => (bif Nat.blt pc 79 then (bif Nat.blt pc 77 then (bif Nat.blt pc 76 then (bif Nat.beq pc 73 then J_getfield 3 1 76 else jbad) else (bif Nat.beq pc 76 then J_iload 3 77 else jbad)) else (bif Nat.blt pc 78 then (bif Nat.beq pc 77 then J_iconst 3 78 else jbad) else (bif Nat.beq pc 78 then J_iadd 79 else jbad))) else (bif Nat.blt pc 81 then (bif Nat.blt pc 80 then (bif Nat.beq pc 79 then J_aload 1 80 else jbad) else (bif Nat.beq pc 80 then J_iload 2 81 else jbad)) else (bif Nat.blt pc 82 then (bif Nat.beq pc 81 then J_iconst 5 82 else jbad) else (bif Nat.beq pc 82 then J_iadd 83 else jbad))))
theorem ftl_X3_addCar_73 : F_X3_addCar_73 73 = J_getfield 3 1 76 := rfl
theorem ftl_X3_addCar_76 : F_X3_addCar_73 76 = J_iload 3 77 := rfl
theorem ftl_X3_addCar_77 : F_X3_addCar_73 77 = J_iconst 3 78 := rfl
theorem ftl_X3_addCar_78 : F_X3_addCar_73 78 = J_iadd 79 := rfl
theorem ftl_X3_addCar_79 : F_X3_addCar_73 79 = J_aload 1 80 := rfl
theorem ftl_X3_addCar_80 : F_X3_addCar_73 80 = J_iload 2 81 := rfl
theorem ftl_X3_addCar_81 : F_X3_addCar_73 81 = J_iconst 5 82 := rfl
theorem ftl_X3_addCar_82 : F_X3_addCar_73 82 = J_iadd 83 := rfl
theorem F_X3_addCar_73_ok : jOK Y_X3_addCar none (F_X3_addCar_73) := (jOK_node (jOK_node (jOK_node (jOK_leaf (sn_getfield dX3_addCar_73 rfl rfl (by decide) tw_43 jin3)) (jOK_leaf (sn_iload_n dX3_addCar_76 rfl rfl))) (jOK_node (jOK_leaf (sn_iconst dX3_addCar_77 rfl rfl)) (jOK_leaf (sn_iadd dX3_addCar_78 rfl)))) (jOK_node (jOK_node (jOK_leaf (sn_aload_n dX3_addCar_79 rfl rfl)) (jOK_leaf (sn_iload_n dX3_addCar_80 rfl rfl))) (jOK_node (jOK_leaf (sn_iconst dX3_addCar_81 rfl rfl)) (jOK_leaf (sn_iadd dX3_addCar_82 rfl)))))
def F_X3_addCar_83 : Nat → jT := fun pc => (bif Nat.blt pc 89 then (bif Nat.blt pc 87 then (bif Nat.blt pc 86 then (bif Nat.beq pc 83 then J_callV 5 S_X5_digitAt 1 86 else jbad) else (bif Nat.beq pc 86 then J_iastore 87 else jbad)) else (bif Nat.blt pc 88 then (bif Nat.beq pc 87 then J_aload 0 88 else jbad) else (bif Nat.beq pc 88 then J_dup 89 else jbad))) else (bif Nat.blt pc 93 then (bif Nat.blt pc 92 then (bif Nat.beq pc 89 then J_getfield 3 3 92 else jbad) else (bif Nat.beq pc 92 then J_iconst 1 93 else jbad)) else (bif Nat.blt pc 94 then (bif Nat.beq pc 93 then J_iadd 94 else jbad) else (bif Nat.blt pc 97 then (bif Nat.beq pc 94 then J_putI 3 3 97 else jbad) else (bif Nat.beq pc 97 then J_return 0 0 else jbad)))))
theorem ftl_X3_addCar_83 : F_X3_addCar_83 83 = J_callV 5 S_X5_digitAt 1 86 := rfl
theorem ftl_X3_addCar_86 : F_X3_addCar_83 86 = J_iastore 87 := rfl
theorem ftl_X3_addCar_87 : F_X3_addCar_83 87 = J_aload 0 88 := rfl
theorem ftl_X3_addCar_88 : F_X3_addCar_83 88 = J_dup 89 := rfl
theorem ftl_X3_addCar_89 : F_X3_addCar_83 89 = J_getfield 3 3 92 := rfl
theorem ftl_X3_addCar_92 : F_X3_addCar_83 92 = J_iconst 1 93 := rfl
theorem ftl_X3_addCar_93 : F_X3_addCar_83 93 = J_iadd 94 := rfl
theorem ftl_X3_addCar_94 : F_X3_addCar_83 94 = J_putI 3 3 97 := rfl
theorem ftl_X3_addCar_97 : F_X3_addCar_83 97 = J_return 0 0 := rfl
theorem F_X3_addCar_83_ok : jOK Y_X3_addCar none (F_X3_addCar_83) := (jOK_node (jOK_node (jOK_node (jOK_leaf (sn_callV (Y' := Y_X5_digitAt) ok_X5_digitAt dX3_addCar_83 rfl rfl rfl tw_248 tw_233 tw_234 tw_2 jc_X5_digitAt rfl ⟨by decide, by decide, rfl⟩ ⟨by decide, by decide⟩)) (jOK_leaf (sn_iastore dX3_addCar_86 rfl))) (jOK_node (jOK_leaf (sn_aload_n dX3_addCar_87 rfl rfl)) (jOK_leaf (sn_dup dX3_addCar_88 rfl)))) (jOK_node (jOK_node (jOK_leaf (sn_getfield dX3_addCar_89 rfl rfl (by decide) tw_47 jin3)) (jOK_leaf (sn_iconst dX3_addCar_92 rfl rfl))) (jOK_node (jOK_leaf (sn_iadd dX3_addCar_93 rfl)) (jOK_node (jOK_leaf (sn_putI tyX3 dX3_addCar_94 rfl rfl (by decide) tw_47 jin3 tyX3_ok nmX3 rfl rfl)) (jOK_leaf (sn_return dX3_addCar_97 rfl rfl))))))
def F_X3_addCar_73_97 : Nat → jT := fun pc => bif Nat.blt pc 83 then F_X3_addCar_73 pc else F_X3_addCar_83 pc
theorem F_X3_addCar_73_97_l {pc : Nat} (h : Nat.blt pc 83 = true) : F_X3_addCar_73_97 pc = F_X3_addCar_73 pc := by unfold F_X3_addCar_73_97; rw [h]; rfl
theorem F_X3_addCar_73_97_r {pc : Nat} (h : Nat.blt pc 83 = false) : F_X3_addCar_73_97 pc = F_X3_addCar_83 pc := by unfold F_X3_addCar_73_97; rw [h]; rfl
theorem F_X3_addCar_73_97_ok : jOK Y_X3_addCar none (F_X3_addCar_73_97) := jOK_node (F_X3_addCar_73_ok) (F_X3_addCar_83_ok)
def F_X3_addCar_50_97 : Nat → jT := fun pc => bif Nat.blt pc 73 then F_X3_addCar_50_72 pc else F_X3_addCar_73_97 pc
theorem F_X3_addCar_50_97_l {pc : Nat} (h : Nat.blt pc 73 = true) : F_X3_addCar_50_97 pc = F_X3_addCar_50_72 pc := by unfold F_X3_addCar_50_97; rw [h]; rfl
theorem F_X3_addCar_50_97_r {pc : Nat} (h : Nat.blt pc 73 = false) : F_X3_addCar_50_97 pc = F_X3_addCar_73_97 pc := by unfold F_X3_addCar_50_97; rw [h]; rfl
theorem F_X3_addCar_50_97_ok : jOK Y_X3_addCar none (F_X3_addCar_50_97) := jOK_node (F_X3_addCar_50_72_ok) (F_X3_addCar_73_97_ok)
def F_X3_addCar_0_97 : Nat → jT := fun pc => bif Nat.blt pc 50 then F_X3_addCar_0_49 pc else F_X3_addCar_50_97 pc
theorem F_X3_addCar_0_97_l {pc : Nat} (h : Nat.blt pc 50 = true) : F_X3_addCar_0_97 pc = F_X3_addCar_0_49 pc := by unfold F_X3_addCar_0_97; rw [h]; rfl
theorem F_X3_addCar_0_97_r {pc : Nat} (h : Nat.blt pc 50 = false) : F_X3_addCar_0_97 pc = F_X3_addCar_50_97 pc := by unfold F_X3_addCar_0_97; rw [h]; rfl
theorem F_X3_addCar_0_97_ok : jOK Y_X3_addCar none (F_X3_addCar_0_97) := jOK_node (F_X3_addCar_0_49_ok) (F_X3_addCar_50_97_ok)
def F_X3_addCar : Nat → jT := F_X3_addCar_0_97
theorem OK_X3_addCar : jOK Y_X3_addCar none (F_X3_addCar) := F_X3_addCar_0_97_ok
theorem ft_X3_addCar_0 : F_X3_addCar 0 = J_aload 0 1 := (F_X3_addCar_0_97_l rfl).trans ((F_X3_addCar_0_49_l rfl).trans ((F_X3_addCar_0_26_l rfl).trans (ftl_X3_addCar_0)))
theorem ft_X3_addCar_1 : F_X3_addCar 1 = J_getfield 3 3 4 := (F_X3_addCar_0_97_l rfl).trans ((F_X3_addCar_0_49_l rfl).trans ((F_X3_addCar_0_26_l rfl).trans (ftl_X3_addCar_1)))
theorem ft_X3_addCar_4 : F_X3_addCar 4 = J_iconst 6 6 := (F_X3_addCar_0_97_l rfl).trans ((F_X3_addCar_0_49_l rfl).trans ((F_X3_addCar_0_26_l rfl).trans (ftl_X3_addCar_4)))
theorem ft_X3_addCar_6 : F_X3_addCar 6 = J_icge 97 9 := (F_X3_addCar_0_97_l rfl).trans ((F_X3_addCar_0_49_l rfl).trans ((F_X3_addCar_0_26_l rfl).trans (ftl_X3_addCar_6)))
theorem ft_X3_addCar_9 : F_X3_addCar 9 = J_aload 0 10 := (F_X3_addCar_0_97_l rfl).trans ((F_X3_addCar_0_49_l rfl).trans ((F_X3_addCar_0_26_l rfl).trans (ftl_X3_addCar_9)))
theorem ft_X3_addCar_10 : F_X3_addCar 10 = J_getfield 3 3 13 := (F_X3_addCar_0_97_l rfl).trans ((F_X3_addCar_0_49_l rfl).trans ((F_X3_addCar_0_26_l rfl).trans (ftl_X3_addCar_10)))
theorem ft_X3_addCar_13 : F_X3_addCar 13 = J_iconst 4 14 := (F_X3_addCar_0_97_l rfl).trans ((F_X3_addCar_0_49_l rfl).trans ((F_X3_addCar_0_26_l rfl).trans (ftl_X3_addCar_13)))
theorem ft_X3_addCar_14 : F_X3_addCar 14 = J_imul 15 := (F_X3_addCar_0_97_l rfl).trans ((F_X3_addCar_0_49_l rfl).trans ((F_X3_addCar_0_26_l rfl).trans (ftl_X3_addCar_14)))
theorem ft_X3_addCar_15 : F_X3_addCar 15 = J_istore 3 16 := (F_X3_addCar_0_97_l rfl).trans ((F_X3_addCar_0_49_l rfl).trans ((F_X3_addCar_0_26_r rfl).trans (ftl_X3_addCar_15)))
theorem ft_X3_addCar_16 : F_X3_addCar 16 = J_aload 0 17 := (F_X3_addCar_0_97_l rfl).trans ((F_X3_addCar_0_49_l rfl).trans ((F_X3_addCar_0_26_r rfl).trans (ftl_X3_addCar_16)))
theorem ft_X3_addCar_17 : F_X3_addCar 17 = J_getfield 3 1 20 := (F_X3_addCar_0_97_l rfl).trans ((F_X3_addCar_0_49_l rfl).trans ((F_X3_addCar_0_26_r rfl).trans (ftl_X3_addCar_17)))
theorem ft_X3_addCar_20 : F_X3_addCar 20 = J_iload 3 21 := (F_X3_addCar_0_97_l rfl).trans ((F_X3_addCar_0_49_l rfl).trans ((F_X3_addCar_0_26_r rfl).trans (ftl_X3_addCar_20)))
theorem ft_X3_addCar_21 : F_X3_addCar 21 = J_iconst 0 22 := (F_X3_addCar_0_97_l rfl).trans ((F_X3_addCar_0_49_l rfl).trans ((F_X3_addCar_0_26_r rfl).trans (ftl_X3_addCar_21)))
theorem ft_X3_addCar_22 : F_X3_addCar 22 = J_iadd 23 := (F_X3_addCar_0_97_l rfl).trans ((F_X3_addCar_0_49_l rfl).trans ((F_X3_addCar_0_26_r rfl).trans (ftl_X3_addCar_22)))
theorem ft_X3_addCar_23 : F_X3_addCar 23 = J_iconst 10 25 := (F_X3_addCar_0_97_l rfl).trans ((F_X3_addCar_0_49_l rfl).trans ((F_X3_addCar_0_26_r rfl).trans (ftl_X3_addCar_23)))
theorem ft_X3_addCar_25 : F_X3_addCar 25 = J_aload 1 26 := (F_X3_addCar_0_97_l rfl).trans ((F_X3_addCar_0_49_l rfl).trans ((F_X3_addCar_0_26_r rfl).trans (ftl_X3_addCar_25)))
theorem ft_X3_addCar_26 : F_X3_addCar 26 = J_iload 2 27 := (F_X3_addCar_0_97_l rfl).trans ((F_X3_addCar_0_49_l rfl).trans ((F_X3_addCar_0_26_r rfl).trans (ftl_X3_addCar_26)))
theorem ft_X3_addCar_27 : F_X3_addCar 27 = J_iconst 1 28 := (F_X3_addCar_0_97_l rfl).trans ((F_X3_addCar_0_49_r rfl).trans ((F_X3_addCar_27_49_l rfl).trans (ftl_X3_addCar_27)))
theorem ft_X3_addCar_28 : F_X3_addCar 28 = J_iadd 29 := (F_X3_addCar_0_97_l rfl).trans ((F_X3_addCar_0_49_r rfl).trans ((F_X3_addCar_27_49_l rfl).trans (ftl_X3_addCar_28)))
theorem ft_X3_addCar_29 : F_X3_addCar 29 = J_callV 5 S_X5_digitAt 1 32 := (F_X3_addCar_0_97_l rfl).trans ((F_X3_addCar_0_49_r rfl).trans ((F_X3_addCar_27_49_l rfl).trans (ftl_X3_addCar_29)))
theorem ft_X3_addCar_32 : F_X3_addCar 32 = J_imul 33 := (F_X3_addCar_0_97_l rfl).trans ((F_X3_addCar_0_49_r rfl).trans ((F_X3_addCar_27_49_l rfl).trans (ftl_X3_addCar_32)))
theorem ft_X3_addCar_33 : F_X3_addCar 33 = J_aload 1 34 := (F_X3_addCar_0_97_l rfl).trans ((F_X3_addCar_0_49_r rfl).trans ((F_X3_addCar_27_49_l rfl).trans (ftl_X3_addCar_33)))
theorem ft_X3_addCar_34 : F_X3_addCar 34 = J_iload 2 35 := (F_X3_addCar_0_97_l rfl).trans ((F_X3_addCar_0_49_r rfl).trans ((F_X3_addCar_27_49_l rfl).trans (ftl_X3_addCar_34)))
theorem ft_X3_addCar_35 : F_X3_addCar 35 = J_iconst 2 36 := (F_X3_addCar_0_97_l rfl).trans ((F_X3_addCar_0_49_r rfl).trans ((F_X3_addCar_27_49_l rfl).trans (ftl_X3_addCar_35)))
theorem ft_X3_addCar_36 : F_X3_addCar 36 = J_iadd 37 := (F_X3_addCar_0_97_l rfl).trans ((F_X3_addCar_0_49_r rfl).trans ((F_X3_addCar_27_49_l rfl).trans (ftl_X3_addCar_36)))
theorem ft_X3_addCar_37 : F_X3_addCar 37 = J_callV 5 S_X5_digitAt 1 40 := (F_X3_addCar_0_97_l rfl).trans ((F_X3_addCar_0_49_r rfl).trans ((F_X3_addCar_27_49_r rfl).trans (ftl_X3_addCar_37)))
theorem ft_X3_addCar_40 : F_X3_addCar 40 = J_iadd 41 := (F_X3_addCar_0_97_l rfl).trans ((F_X3_addCar_0_49_r rfl).trans ((F_X3_addCar_27_49_r rfl).trans (ftl_X3_addCar_40)))
theorem ft_X3_addCar_41 : F_X3_addCar 41 = J_iastore 42 := (F_X3_addCar_0_97_l rfl).trans ((F_X3_addCar_0_49_r rfl).trans ((F_X3_addCar_27_49_r rfl).trans (ftl_X3_addCar_41)))
theorem ft_X3_addCar_42 : F_X3_addCar 42 = J_aload 0 43 := (F_X3_addCar_0_97_l rfl).trans ((F_X3_addCar_0_49_r rfl).trans ((F_X3_addCar_27_49_r rfl).trans (ftl_X3_addCar_42)))
theorem ft_X3_addCar_43 : F_X3_addCar 43 = J_getfield 3 1 46 := (F_X3_addCar_0_97_l rfl).trans ((F_X3_addCar_0_49_r rfl).trans ((F_X3_addCar_27_49_r rfl).trans (ftl_X3_addCar_43)))
theorem ft_X3_addCar_46 : F_X3_addCar 46 = J_iload 3 47 := (F_X3_addCar_0_97_l rfl).trans ((F_X3_addCar_0_49_r rfl).trans ((F_X3_addCar_27_49_r rfl).trans (ftl_X3_addCar_46)))
theorem ft_X3_addCar_47 : F_X3_addCar 47 = J_iconst 1 48 := (F_X3_addCar_0_97_l rfl).trans ((F_X3_addCar_0_49_r rfl).trans ((F_X3_addCar_27_49_r rfl).trans (ftl_X3_addCar_47)))
theorem ft_X3_addCar_48 : F_X3_addCar 48 = J_iadd 49 := (F_X3_addCar_0_97_l rfl).trans ((F_X3_addCar_0_49_r rfl).trans ((F_X3_addCar_27_49_r rfl).trans (ftl_X3_addCar_48)))
theorem ft_X3_addCar_49 : F_X3_addCar 49 = J_aload 1 50 := (F_X3_addCar_0_97_l rfl).trans ((F_X3_addCar_0_49_r rfl).trans ((F_X3_addCar_27_49_r rfl).trans (ftl_X3_addCar_49)))
theorem ft_X3_addCar_50 : F_X3_addCar 50 = J_iload 2 51 := (F_X3_addCar_0_97_r rfl).trans ((F_X3_addCar_50_97_l rfl).trans ((F_X3_addCar_50_72_l rfl).trans (ftl_X3_addCar_50)))
theorem ft_X3_addCar_51 : F_X3_addCar 51 = J_iconst 3 52 := (F_X3_addCar_0_97_r rfl).trans ((F_X3_addCar_50_97_l rfl).trans ((F_X3_addCar_50_72_l rfl).trans (ftl_X3_addCar_51)))
theorem ft_X3_addCar_52 : F_X3_addCar 52 = J_iadd 53 := (F_X3_addCar_0_97_r rfl).trans ((F_X3_addCar_50_97_l rfl).trans ((F_X3_addCar_50_72_l rfl).trans (ftl_X3_addCar_52)))
theorem ft_X3_addCar_53 : F_X3_addCar 53 = J_callV 5 S_X5_digitAt 1 56 := (F_X3_addCar_0_97_r rfl).trans ((F_X3_addCar_50_97_l rfl).trans ((F_X3_addCar_50_72_l rfl).trans (ftl_X3_addCar_53)))
theorem ft_X3_addCar_56 : F_X3_addCar 56 = J_iastore 57 := (F_X3_addCar_0_97_r rfl).trans ((F_X3_addCar_50_97_l rfl).trans ((F_X3_addCar_50_72_l rfl).trans (ftl_X3_addCar_56)))
theorem ft_X3_addCar_57 : F_X3_addCar 57 = J_aload 0 58 := (F_X3_addCar_0_97_r rfl).trans ((F_X3_addCar_50_97_l rfl).trans ((F_X3_addCar_50_72_l rfl).trans (ftl_X3_addCar_57)))
theorem ft_X3_addCar_58 : F_X3_addCar 58 = J_getfield 3 1 61 := (F_X3_addCar_0_97_r rfl).trans ((F_X3_addCar_50_97_l rfl).trans ((F_X3_addCar_50_72_l rfl).trans (ftl_X3_addCar_58)))
theorem ft_X3_addCar_61 : F_X3_addCar 61 = J_iload 3 62 := (F_X3_addCar_0_97_r rfl).trans ((F_X3_addCar_50_97_l rfl).trans ((F_X3_addCar_50_72_l rfl).trans (ftl_X3_addCar_61)))
theorem ft_X3_addCar_62 : F_X3_addCar 62 = J_iconst 2 63 := (F_X3_addCar_0_97_r rfl).trans ((F_X3_addCar_50_97_l rfl).trans ((F_X3_addCar_50_72_r rfl).trans (ftl_X3_addCar_62)))
theorem ft_X3_addCar_63 : F_X3_addCar 63 = J_iadd 64 := (F_X3_addCar_0_97_r rfl).trans ((F_X3_addCar_50_97_l rfl).trans ((F_X3_addCar_50_72_r rfl).trans (ftl_X3_addCar_63)))
theorem ft_X3_addCar_64 : F_X3_addCar 64 = J_aload 1 65 := (F_X3_addCar_0_97_r rfl).trans ((F_X3_addCar_50_97_l rfl).trans ((F_X3_addCar_50_72_r rfl).trans (ftl_X3_addCar_64)))
theorem ft_X3_addCar_65 : F_X3_addCar 65 = J_iload 2 66 := (F_X3_addCar_0_97_r rfl).trans ((F_X3_addCar_50_97_l rfl).trans ((F_X3_addCar_50_72_r rfl).trans (ftl_X3_addCar_65)))
theorem ft_X3_addCar_66 : F_X3_addCar 66 = J_iconst 4 67 := (F_X3_addCar_0_97_r rfl).trans ((F_X3_addCar_50_97_l rfl).trans ((F_X3_addCar_50_72_r rfl).trans (ftl_X3_addCar_66)))
theorem ft_X3_addCar_67 : F_X3_addCar 67 = J_iadd 68 := (F_X3_addCar_0_97_r rfl).trans ((F_X3_addCar_50_97_l rfl).trans ((F_X3_addCar_50_72_r rfl).trans (ftl_X3_addCar_67)))
theorem ft_X3_addCar_68 : F_X3_addCar 68 = J_callV 5 S_X5_digitAt 1 71 := (F_X3_addCar_0_97_r rfl).trans ((F_X3_addCar_50_97_l rfl).trans ((F_X3_addCar_50_72_r rfl).trans (ftl_X3_addCar_68)))
theorem ft_X3_addCar_71 : F_X3_addCar 71 = J_iastore 72 := (F_X3_addCar_0_97_r rfl).trans ((F_X3_addCar_50_97_l rfl).trans ((F_X3_addCar_50_72_r rfl).trans (ftl_X3_addCar_71)))
theorem ft_X3_addCar_72 : F_X3_addCar 72 = J_aload 0 73 := (F_X3_addCar_0_97_r rfl).trans ((F_X3_addCar_50_97_l rfl).trans ((F_X3_addCar_50_72_r rfl).trans (ftl_X3_addCar_72)))
theorem ft_X3_addCar_73 : F_X3_addCar 73 = J_getfield 3 1 76 := (F_X3_addCar_0_97_r rfl).trans ((F_X3_addCar_50_97_r rfl).trans ((F_X3_addCar_73_97_l rfl).trans (ftl_X3_addCar_73)))
theorem ft_X3_addCar_76 : F_X3_addCar 76 = J_iload 3 77 := (F_X3_addCar_0_97_r rfl).trans ((F_X3_addCar_50_97_r rfl).trans ((F_X3_addCar_73_97_l rfl).trans (ftl_X3_addCar_76)))
theorem ft_X3_addCar_77 : F_X3_addCar 77 = J_iconst 3 78 := (F_X3_addCar_0_97_r rfl).trans ((F_X3_addCar_50_97_r rfl).trans ((F_X3_addCar_73_97_l rfl).trans (ftl_X3_addCar_77)))
theorem ft_X3_addCar_78 : F_X3_addCar 78 = J_iadd 79 := (F_X3_addCar_0_97_r rfl).trans ((F_X3_addCar_50_97_r rfl).trans ((F_X3_addCar_73_97_l rfl).trans (ftl_X3_addCar_78)))
theorem ft_X3_addCar_79 : F_X3_addCar 79 = J_aload 1 80 := (F_X3_addCar_0_97_r rfl).trans ((F_X3_addCar_50_97_r rfl).trans ((F_X3_addCar_73_97_l rfl).trans (ftl_X3_addCar_79)))
theorem ft_X3_addCar_80 : F_X3_addCar 80 = J_iload 2 81 := (F_X3_addCar_0_97_r rfl).trans ((F_X3_addCar_50_97_r rfl).trans ((F_X3_addCar_73_97_l rfl).trans (ftl_X3_addCar_80)))
theorem ft_X3_addCar_81 : F_X3_addCar 81 = J_iconst 5 82 := (F_X3_addCar_0_97_r rfl).trans ((F_X3_addCar_50_97_r rfl).trans ((F_X3_addCar_73_97_l rfl).trans (ftl_X3_addCar_81)))
theorem ft_X3_addCar_82 : F_X3_addCar 82 = J_iadd 83 := (F_X3_addCar_0_97_r rfl).trans ((F_X3_addCar_50_97_r rfl).trans ((F_X3_addCar_73_97_l rfl).trans (ftl_X3_addCar_82)))
theorem ft_X3_addCar_83 : F_X3_addCar 83 = J_callV 5 S_X5_digitAt 1 86 := (F_X3_addCar_0_97_r rfl).trans ((F_X3_addCar_50_97_r rfl).trans ((F_X3_addCar_73_97_r rfl).trans (ftl_X3_addCar_83)))
theorem ft_X3_addCar_86 : F_X3_addCar 86 = J_iastore 87 := (F_X3_addCar_0_97_r rfl).trans ((F_X3_addCar_50_97_r rfl).trans ((F_X3_addCar_73_97_r rfl).trans (ftl_X3_addCar_86)))
theorem ft_X3_addCar_87 : F_X3_addCar 87 = J_aload 0 88 := (F_X3_addCar_0_97_r rfl).trans ((F_X3_addCar_50_97_r rfl).trans ((F_X3_addCar_73_97_r rfl).trans (ftl_X3_addCar_87)))
theorem ft_X3_addCar_88 : F_X3_addCar 88 = J_dup 89 := (F_X3_addCar_0_97_r rfl).trans ((F_X3_addCar_50_97_r rfl).trans ((F_X3_addCar_73_97_r rfl).trans (ftl_X3_addCar_88)))
theorem ft_X3_addCar_89 : F_X3_addCar 89 = J_getfield 3 3 92 := (F_X3_addCar_0_97_r rfl).trans ((F_X3_addCar_50_97_r rfl).trans ((F_X3_addCar_73_97_r rfl).trans (ftl_X3_addCar_89)))
theorem ft_X3_addCar_92 : F_X3_addCar 92 = J_iconst 1 93 := (F_X3_addCar_0_97_r rfl).trans ((F_X3_addCar_50_97_r rfl).trans ((F_X3_addCar_73_97_r rfl).trans (ftl_X3_addCar_92)))
theorem ft_X3_addCar_93 : F_X3_addCar 93 = J_iadd 94 := (F_X3_addCar_0_97_r rfl).trans ((F_X3_addCar_50_97_r rfl).trans ((F_X3_addCar_73_97_r rfl).trans (ftl_X3_addCar_93)))
theorem ft_X3_addCar_94 : F_X3_addCar 94 = J_putI 3 3 97 := (F_X3_addCar_0_97_r rfl).trans ((F_X3_addCar_50_97_r rfl).trans ((F_X3_addCar_73_97_r rfl).trans (ftl_X3_addCar_94)))
theorem ft_X3_addCar_97 : F_X3_addCar 97 = J_return 0 0 := (F_X3_addCar_0_97_r rfl).trans ((F_X3_addCar_50_97_r rfl).trans ((F_X3_addCar_73_97_r rfl).trans (ftl_X3_addCar_97)))
def S_X3_addCar : jSp := fun nb vs mem Q => jcs vs ≤ 4 ∧ jrun F_X3_addCar [] 100 Q (fun _ _ _ _ _ => False) 0 (jargs vs ++ [none]) [] mem (nb, 0, 0)
theorem ok_X3_addCar : jMeets Y_X3_addCar S_X3_addCar := fun _ _ _ _ h => Ok.inl OK_X3_addCar 100 [none] pn3 rfl h
set_option maxHeartbeats 1000000 in
theorem s_X3_addCar {nb n a : Nat} {C : Nat → Nat → Int32} {z : Nat → Int64} {s : jBd} {Q : jQ} (hn : C 1 1 = nI n) (h4 : s.1.1 ≤ 4) (hK : s.1.2 ≤ 6) : S_X3_addCar nb [.ref 3, .ref 1, .int (nI a)] (memS 94 (bdM C s) z) Q = Q none (memS 94 (bdM C (if s.1.2 < 6 then ((s.1.1, s.1.2 + 1), s.2.1, carT (C 2) n a s.1.2 s.2.2) else s)) z) := by
  refine (eq_le rfl).trans ?_
  obtain ⟨⟨P, K⟩, A, T⟩ := s
  have e2 : bdM C ((P, K), A, T) 3 3 = nI K := by unfold bdM; rw [hrow_s, upd_eq]
  have e0 : bdM C ((P, K), A, T) 5 = T := by unfold bdM; rw [hrow_n (by decide), hrow_s]
  have e3 : bdM C ((P, K), A, T) 3 = upd (upd (C 3) 2 (nI P)) 3 (nI K) := by unfold bdM; rw [hrow_s]
  have e11 : bdM C ((P, K), A, T) 1 = C 1 := by unfold bdM; rw [hrow_n (by decide), hrow_n (by decide), hrow_n (by decide)]
  have e12 : bdM C ((P, K), A, T) 2 = C 2 := by unfold bdM; rw [hrow_n (by decide), hrow_n (by decide), hrow_n (by decide)]
  have hK : K ≤ 6 := hK
  by_cases h : K < 6
  · have hc : (6 ≤ nI K) = False := eq_false (nI_ge (b := 6) h (by decide))
    have hr := row4 K h
    have v0 : vp_in (nI (4 * K)) 24 := vp_in_nI (by omega) (by decide)
    have v1 : vp_in (nI (4 * K + 1)) 24 := vp_in_nI (by omega) (by decide)
    have v2 : vp_in (nI (4 * K + 2)) 24 := vp_in_nI (by omega) (by decide)
    have v3 : vp_in (nI (4 * K + 3)) 24 := vp_in_nI (by omega) (by decide)
    rw [if_pos (show ((P, K), A, T).1.2 < 6 from h)]
    simp -implicitDefEqProofs only [jr_0, jr_1, jr_2, j_iconst, j_lconst, j_iload0, j_aload0, j_istore0, j_astore0, j_iinc0, j_iload1, j_aload1, j_istore1, j_astore1, j_iinc1, j_iload2, j_aload2, j_istore2, j_astore2, j_iinc2, j_iload3, j_aload3, j_istore3, j_astore3, j_iinc3, j_iload4, j_aload4, j_istore4, j_astore4, j_iinc4, j_iload5, j_aload5, j_istore5, j_astore5, j_iinc5, j_iload6, j_aload6, j_istore6, j_astore6, j_iinc6, j_iload7, j_aload7, j_istore7, j_astore7, j_iinc7, j_iload8, j_aload8, j_istore8, j_astore8, j_iinc8, j_iadd, j_isub, j_imul, j_iand, j_ior, j_ixor, j_ishl, j_ishr, j_iushr, j_idiv, j_irem, j_ineg, j_ladd, j_lmul, j_land, j_lor, j_lcmp, j_lushr, j_lshl, j_i2l, j_l2i, j_dupI, j_dupR, j_popI, j_dup2, j_ifeq, j_iceq, j_ifne, j_icne, j_iflt, j_iclt, j_ifge, j_icge, j_ifgt, j_icgt, j_ifle, j_icle, j_goto, j_tsw, j_sw0, j_sw1, j_ireturn, j_zreturn, j_lreturn, j_return, j_getfield, j_putI, j_putJ, j_putR, j_iaload, j_baload, j_iastore, j_bastore, j_aaload, j_q, j_aastore, j_acopy, j_mmin, j_mmax, j_mabs, j_objinit, j_new, j_newI, j_newQ, j_sld, j_slen, j_callV0, j_callI0, j_callS0, j_callV1, j_callI1, j_callS1, j_callV2, j_callI2, j_callS2, j_callV3, j_callS3, j_callV4, j_callS4, j_callV5, j_callS5, j_pushS, j_pushN, j_sh0, j_sh1, j_sh2, j_sh3, j_sh4, Int32.reduceAdd, Int32.reduceMul, Int32.reduceSub, Int32.reduceLT, Int32.reduceLE, eq_self, i32_10, i32_01, ne_eq, hrow_s, hrow_n, ne10, ne100, ne1000, ne7, ne4, ne14, ne9973, or_true, true_or, or_false, false_or, not_true_eq_false, not_false_eq_true, false_implies, implies_true, and_true, forall_const, true_implies, jargs_n, jargs_r, jargs_i, List.cons_append, List.nil_append, true_and, Nat.reduceEqDiff, reduceIte, ft_X3_addCar_0, ft_X3_addCar_1, ft_X3_addCar_4, ft_X3_addCar_6, ft_X3_addCar_9, ft_X3_addCar_10, ft_X3_addCar_13, ft_X3_addCar_14, ft_X3_addCar_15, ft_X3_addCar_16, ft_X3_addCar_17, ft_X3_addCar_20, ft_X3_addCar_21, ft_X3_addCar_22, ft_X3_addCar_23, ft_X3_addCar_25, ft_X3_addCar_26, ft_X3_addCar_27, ft_X3_addCar_28, ft_X3_addCar_29, ft_X3_addCar_32, ft_X3_addCar_33, ft_X3_addCar_34, ft_X3_addCar_35, ft_X3_addCar_36, ft_X3_addCar_37, ft_X3_addCar_40, ft_X3_addCar_41, ft_X3_addCar_42, ft_X3_addCar_43, ft_X3_addCar_46, ft_X3_addCar_47, ft_X3_addCar_48, ft_X3_addCar_49, ft_X3_addCar_50, ft_X3_addCar_51, ft_X3_addCar_52, ft_X3_addCar_53, ft_X3_addCar_56, ft_X3_addCar_57, ft_X3_addCar_58, ft_X3_addCar_61, ft_X3_addCar_62, ft_X3_addCar_63, ft_X3_addCar_64, ft_X3_addCar_65, ft_X3_addCar_66, ft_X3_addCar_67, ft_X3_addCar_68, ft_X3_addCar_71, ft_X3_addCar_72, ft_X3_addCar_73, ft_X3_addCar_76, ft_X3_addCar_77, ft_X3_addCar_78, ft_X3_addCar_79, ft_X3_addCar_80, ft_X3_addCar_81, ft_X3_addCar_82, ft_X3_addCar_83, ft_X3_addCar_86, ft_X3_addCar_87, ft_X3_addCar_88, ft_X3_addCar_89, ft_X3_addCar_92, ft_X3_addCar_93, ft_X3_addCar_94, ft_X3_addCar_97, fl_3_1, fl_3_3, as_5, fp_3_3, rc_1, s_X5_digitAt, e2, hc, nI_1, nI_2, nI_3, nI_4, nI_5, i32_add0, hr.1.1, v0, v1, v2, v3, hrow_hrow, e0, e11, e12, hn, nI_clamp (show 4 * K < 2 ^ 31 by omega), nI_clamp (show 4 * K + 1 < 2 ^ 31 by omega), nI_clamp (show 4 * K + 2 < 2 ^ 31 by omega), nI_clamp (show 4 * K + 3 < 2 ^ 31 by omega)]
    have : hrow (hrow (bdM C ((P, K), A, T)) 5 (carT (C 2) n a K T)) 3 (upd (bdM C ((P, K), A, T) 3) 3 (nI (K + 1))) = bdM C ((P, K + 1), A, carT (C 2) n a K T) := by
      rw [e3]
      unfold bdM
      rw [hrow_swap (a := 3) (b := 5) (by decide), hrow_hrow, hrow_hrow, upd_upd]
    exact congrArg (fun m => Q none (memS 94 m z)) this
  · have hc : (6 ≤ nI K) = True := eq_true (by rw [show K = 6 by omega]; decide)
    rw [if_neg (show ¬ ((P, K), A, T).1.2 < 6 from h)]
    simp -implicitDefEqProofs only [jr_0, jr_1, jr_2, j_iconst, j_lconst, j_iload0, j_aload0, j_istore0, j_astore0, j_iinc0, j_iload1, j_aload1, j_istore1, j_astore1, j_iinc1, j_iload2, j_aload2, j_istore2, j_astore2, j_iinc2, j_iload3, j_aload3, j_istore3, j_astore3, j_iinc3, j_iload4, j_aload4, j_istore4, j_astore4, j_iinc4, j_iload5, j_aload5, j_istore5, j_astore5, j_iinc5, j_iload6, j_aload6, j_istore6, j_astore6, j_iinc6, j_iload7, j_aload7, j_istore7, j_astore7, j_iinc7, j_iload8, j_aload8, j_istore8, j_astore8, j_iinc8, j_iadd, j_isub, j_imul, j_iand, j_ior, j_ixor, j_ishl, j_ishr, j_iushr, j_idiv, j_irem, j_ineg, j_ladd, j_lmul, j_land, j_lor, j_lcmp, j_lushr, j_lshl, j_i2l, j_l2i, j_dupI, j_dupR, j_popI, j_dup2, j_ifeq, j_iceq, j_ifne, j_icne, j_iflt, j_iclt, j_ifge, j_icge, j_ifgt, j_icgt, j_ifle, j_icle, j_goto, j_tsw, j_sw0, j_sw1, j_ireturn, j_zreturn, j_lreturn, j_return, j_getfield, j_putI, j_putJ, j_putR, j_iaload, j_baload, j_iastore, j_bastore, j_aaload, j_q, j_aastore, j_acopy, j_mmin, j_mmax, j_mabs, j_objinit, j_new, j_newI, j_newQ, j_sld, j_slen, j_callV0, j_callI0, j_callS0, j_callV1, j_callI1, j_callS1, j_callV2, j_callI2, j_callS2, j_callV3, j_callS3, j_callV4, j_callS4, j_callV5, j_callS5, j_pushS, j_pushN, j_sh0, j_sh1, j_sh2, j_sh3, j_sh4, Int32.reduceAdd, Int32.reduceMul, Int32.reduceSub, Int32.reduceLT, Int32.reduceLE, eq_self, i32_10, i32_01, ne_eq, hrow_s, hrow_n, ne10, ne100, ne1000, ne7, ne4, ne14, ne9973, or_true, true_or, or_false, false_or, not_true_eq_false, not_false_eq_true, false_implies, implies_true, and_true, forall_const, true_implies, jargs_n, jargs_r, jargs_i, List.cons_append, List.nil_append, true_and, Nat.reduceEqDiff, reduceIte, ft_X3_addCar_0, ft_X3_addCar_1, ft_X3_addCar_4, ft_X3_addCar_6, ft_X3_addCar_9, ft_X3_addCar_10, ft_X3_addCar_13, ft_X3_addCar_14, ft_X3_addCar_15, ft_X3_addCar_16, ft_X3_addCar_17, ft_X3_addCar_20, ft_X3_addCar_21, ft_X3_addCar_22, ft_X3_addCar_23, ft_X3_addCar_25, ft_X3_addCar_26, ft_X3_addCar_27, ft_X3_addCar_28, ft_X3_addCar_29, ft_X3_addCar_32, ft_X3_addCar_33, ft_X3_addCar_34, ft_X3_addCar_35, ft_X3_addCar_36, ft_X3_addCar_37, ft_X3_addCar_40, ft_X3_addCar_41, ft_X3_addCar_42, ft_X3_addCar_43, ft_X3_addCar_46, ft_X3_addCar_47, ft_X3_addCar_48, ft_X3_addCar_49, ft_X3_addCar_50, ft_X3_addCar_51, ft_X3_addCar_52, ft_X3_addCar_53, ft_X3_addCar_56, ft_X3_addCar_57, ft_X3_addCar_58, ft_X3_addCar_61, ft_X3_addCar_62, ft_X3_addCar_63, ft_X3_addCar_64, ft_X3_addCar_65, ft_X3_addCar_66, ft_X3_addCar_67, ft_X3_addCar_68, ft_X3_addCar_71, ft_X3_addCar_72, ft_X3_addCar_73, ft_X3_addCar_76, ft_X3_addCar_77, ft_X3_addCar_78, ft_X3_addCar_79, ft_X3_addCar_80, ft_X3_addCar_81, ft_X3_addCar_82, ft_X3_addCar_83, ft_X3_addCar_86, ft_X3_addCar_87, ft_X3_addCar_88, ft_X3_addCar_89, ft_X3_addCar_92, ft_X3_addCar_93, ft_X3_addCar_94, ft_X3_addCar_97, fl_3_1, fl_3_3, e2, hc]
def bd0 (C : Nat → Nat → Int32) (n : Nat) : Nat → Nat → Int32 := hrow C 3 (upd (upd (C 3) 4 (10 * dF (C 2) n 1 + dF (C 2) n 2)) 5 (dF (C 2) n 3))
def bdS (C : Nat → Nat → Int32) (n : Nat) : jBd := bdF (C 2) n 10 4 ((0, 0), C 4, C 5)
def bldC (C : Nat → Nat → Int32) (n : Nat) : Nat → Nat → Int32 := bdM (bd0 C n) (bdS C n)
def S_X3_build : jSp := fun _ vs mem Q => ∃ C z n, vs = [.ref 3, .ref 1] ∧ mem = memS 94 C z ∧ C 1 1 = nI n ∧ n ≤ 70 ∧ Q none (memS 94 (bldC C n) z)
def F_X3_build_0 : Nat → jT := fun pc => (bif Nat.blt pc 10 then (bif Nat.blt pc 5 then (bif Nat.blt pc 1 then (bif Nat.beq pc 0 then J_aload 0 1 else jbad) else (bif Nat.blt pc 2 then (bif Nat.beq pc 1 then J_iconst 0 2 else jbad) else (bif Nat.beq pc 2 then J_putI 3 2 5 else jbad))) else (bif Nat.blt pc 6 then (bif Nat.beq pc 5 then J_aload 0 6 else jbad) else (bif Nat.blt pc 7 then (bif Nat.beq pc 6 then J_iconst 0 7 else jbad) else (bif Nat.beq pc 7 then J_putI 3 3 10 else jbad)))) else (bif Nat.blt pc 14 then (bif Nat.blt pc 11 then (bif Nat.beq pc 10 then J_aload 0 11 else jbad) else (bif Nat.blt pc 13 then (bif Nat.beq pc 11 then J_iconst 10 13 else jbad) else (bif Nat.beq pc 13 then J_aload 1 14 else jbad))) else (bif Nat.blt pc 18 then (bif Nat.blt pc 15 then (bif Nat.beq pc 14 then J_iconst 1 15 else jbad) else (bif Nat.beq pc 15 then J_callV 5 S_X5_digitAt 1 18 else jbad)) else (bif Nat.blt pc 19 then (bif Nat.beq pc 18 then J_imul 19 else jbad) else (bif Nat.beq pc 19 then J_aload 1 20 else jbad)))))
theorem ftl_X3_build_0 : F_X3_build_0 0 = J_aload 0 1 := rfl
theorem ftl_X3_build_1 : F_X3_build_0 1 = J_iconst 0 2 := rfl
theorem ftl_X3_build_2 : F_X3_build_0 2 = J_putI 3 2 5 := rfl
theorem ftl_X3_build_5 : F_X3_build_0 5 = J_aload 0 6 := rfl
theorem ftl_X3_build_6 : F_X3_build_0 6 = J_iconst 0 7 := rfl
theorem ftl_X3_build_7 : F_X3_build_0 7 = J_putI 3 3 10 := rfl
theorem ftl_X3_build_10 : F_X3_build_0 10 = J_aload 0 11 := rfl
theorem ftl_X3_build_11 : F_X3_build_0 11 = J_iconst 10 13 := rfl
theorem ftl_X3_build_13 : F_X3_build_0 13 = J_aload 1 14 := rfl
theorem ftl_X3_build_14 : F_X3_build_0 14 = J_iconst 1 15 := rfl
theorem ftl_X3_build_15 : F_X3_build_0 15 = J_callV 5 S_X5_digitAt 1 18 := rfl
theorem ftl_X3_build_18 : F_X3_build_0 18 = J_imul 19 := rfl
theorem ftl_X3_build_19 : F_X3_build_0 19 = J_aload 1 20 := rfl
theorem F_X3_build_0_ok : jOK Y_X3_build none (F_X3_build_0) := (jOK_node (jOK_node (jOK_node (jOK_leaf (sn_aload_n dX3_build_0 rfl rfl)) (jOK_node (jOK_leaf (sn_iconst dX3_build_1 rfl rfl)) (jOK_leaf (sn_putI tyX3 dX3_build_2 rfl rfl (by decide) tw_44 jin3 tyX3_ok nmX3 rfl rfl)))) (jOK_node (jOK_leaf (sn_aload_n dX3_build_5 rfl rfl)) (jOK_node (jOK_leaf (sn_iconst dX3_build_6 rfl rfl)) (jOK_leaf (sn_putI tyX3 dX3_build_7 rfl rfl (by decide) tw_47 jin3 tyX3_ok nmX3 rfl rfl))))) (jOK_node (jOK_node (jOK_leaf (sn_aload_n dX3_build_10 rfl rfl)) (jOK_node (jOK_leaf (sn_bipush dX3_build_11 rfl rfl)) (jOK_leaf (sn_aload_n dX3_build_13 rfl rfl)))) (jOK_node (jOK_node (jOK_leaf (sn_iconst dX3_build_14 rfl rfl)) (jOK_leaf (sn_callV (Y' := Y_X5_digitAt) ok_X5_digitAt dX3_build_15 rfl rfl rfl tw_248 tw_233 tw_234 tw_2 jc_X5_digitAt rfl ⟨by decide, by decide, rfl⟩ ⟨by decide, by decide⟩))) (jOK_node (jOK_leaf (sn_imul dX3_build_18 rfl)) (jOK_leaf (sn_aload_n dX3_build_19 rfl rfl))))))
def F_X3_build_20 : Nat → jT := fun pc => (bif Nat.blt pc 31 then (bif Nat.blt pc 25 then (bif Nat.blt pc 21 then (bif Nat.beq pc 20 then J_iconst 2 21 else jbad) else (bif Nat.blt pc 24 then (bif Nat.beq pc 21 then J_callV 5 S_X5_digitAt 1 24 else jbad) else (bif Nat.beq pc 24 then J_iadd 25 else jbad))) else (bif Nat.blt pc 29 then (bif Nat.blt pc 28 then (bif Nat.beq pc 25 then J_putI 3 4 28 else jbad) else (bif Nat.beq pc 28 then J_aload 0 29 else jbad)) else (bif Nat.blt pc 30 then (bif Nat.beq pc 29 then J_aload 1 30 else jbad) else (bif Nat.beq pc 30 then J_iconst 3 31 else jbad)))) else (bif Nat.blt pc 38 then (bif Nat.blt pc 34 then (bif Nat.beq pc 31 then J_callV 5 S_X5_digitAt 1 34 else jbad) else (bif Nat.blt pc 37 then (bif Nat.beq pc 34 then J_putI 3 5 37 else jbad) else (bif Nat.beq pc 37 then J_iconst 4 38 else jbad))) else (bif Nat.blt pc 40 then (bif Nat.blt pc 39 then (bif Nat.beq pc 38 then J_istore 2 39 else jbad) else (bif Nat.beq pc 39 then J_iconst 0 40 else jbad)) else (bif Nat.blt pc 41 then (bif Nat.beq pc 40 then J_istore 3 41 else jbad) else (bif Nat.beq pc 41 then J_iload 3 42 else jbad)))))
theorem ftl_X3_build_20 : F_X3_build_20 20 = J_iconst 2 21 := rfl
theorem ftl_X3_build_21 : F_X3_build_20 21 = J_callV 5 S_X5_digitAt 1 24 := rfl
theorem ftl_X3_build_24 : F_X3_build_20 24 = J_iadd 25 := rfl
theorem ftl_X3_build_25 : F_X3_build_20 25 = J_putI 3 4 28 := rfl
theorem ftl_X3_build_28 : F_X3_build_20 28 = J_aload 0 29 := rfl
theorem ftl_X3_build_29 : F_X3_build_20 29 = J_aload 1 30 := rfl
theorem ftl_X3_build_30 : F_X3_build_20 30 = J_iconst 3 31 := rfl
theorem ftl_X3_build_31 : F_X3_build_20 31 = J_callV 5 S_X5_digitAt 1 34 := rfl
theorem ftl_X3_build_34 : F_X3_build_20 34 = J_putI 3 5 37 := rfl
theorem ftl_X3_build_37 : F_X3_build_20 37 = J_iconst 4 38 := rfl
theorem ftl_X3_build_38 : F_X3_build_20 38 = J_istore 2 39 := rfl
theorem ftl_X3_build_39 : F_X3_build_20 39 = J_iconst 0 40 := rfl
theorem ftl_X3_build_40 : F_X3_build_20 40 = J_istore 3 41 := rfl
theorem ftl_X3_build_41 : F_X3_build_20 41 = J_iload 3 42 := rfl
theorem F_X3_build_20_ok : jOK Y_X3_build none (F_X3_build_20) := (jOK_node (jOK_node (jOK_node (jOK_leaf (sn_iconst dX3_build_20 rfl rfl)) (jOK_node (jOK_leaf (sn_callV (Y' := Y_X5_digitAt) ok_X5_digitAt dX3_build_21 rfl rfl rfl tw_248 tw_233 tw_234 tw_2 jc_X5_digitAt rfl ⟨by decide, by decide, rfl⟩ ⟨by decide, by decide⟩)) (jOK_leaf (sn_iadd dX3_build_24 rfl)))) (jOK_node (jOK_node (jOK_leaf (sn_putI tyX3 dX3_build_25 rfl rfl (by decide) tw_49 jin3 tyX3_ok nmX3 rfl rfl)) (jOK_leaf (sn_aload_n dX3_build_28 rfl rfl))) (jOK_node (jOK_leaf (sn_aload_n dX3_build_29 rfl rfl)) (jOK_leaf (sn_iconst dX3_build_30 rfl rfl))))) (jOK_node (jOK_node (jOK_leaf (sn_callV (Y' := Y_X5_digitAt) ok_X5_digitAt dX3_build_31 rfl rfl rfl tw_248 tw_233 tw_234 tw_2 jc_X5_digitAt rfl ⟨by decide, by decide, rfl⟩ ⟨by decide, by decide⟩)) (jOK_node (jOK_leaf (sn_putI tyX3 dX3_build_34 rfl rfl (by decide) tw_51 jin3 tyX3_ok nmX3 rfl rfl)) (jOK_leaf (sn_iconst dX3_build_37 rfl rfl)))) (jOK_node (jOK_node (jOK_leaf (sn_istore_n dX3_build_38 rfl rfl (by decide))) (jOK_leaf (sn_iconst dX3_build_39 rfl rfl))) (jOK_node (jOK_leaf (sn_istore_n dX3_build_40 rfl rfl (by decide))) (jOK_leaf (sn_iload_n dX3_build_41 rfl rfl))))))
def F_X3_build_0_41 : Nat → jT := fun pc => bif Nat.blt pc 20 then F_X3_build_0 pc else F_X3_build_20 pc
theorem F_X3_build_0_41_l {pc : Nat} (h : Nat.blt pc 20 = true) : F_X3_build_0_41 pc = F_X3_build_0 pc := by unfold F_X3_build_0_41; rw [h]; rfl
theorem F_X3_build_0_41_r {pc : Nat} (h : Nat.blt pc 20 = false) : F_X3_build_0_41 pc = F_X3_build_20 pc := by unfold F_X3_build_0_41; rw [h]; rfl
theorem F_X3_build_0_41_ok : jOK Y_X3_build none (F_X3_build_0_41) := jOK_node (F_X3_build_0_ok) (F_X3_build_20_ok)
def F_X3_build_42 : Nat → jT := fun pc => (bif Nat.blt pc 56 then (bif Nat.blt pc 48 then (bif Nat.blt pc 44 then (bif Nat.beq pc 42 then J_iconst 10 44 else jbad) else (bif Nat.blt pc 47 then (bif Nat.beq pc 44 then J_icge 97 47 else jbad) else (bif Nat.beq pc 47 then J_iload 2 48 else jbad))) else (bif Nat.blt pc 52 then (bif Nat.blt pc 49 then (bif Nat.beq pc 48 then J_aload 1 49 else jbad) else (bif Nat.beq pc 49 then J_getfield 5 1 52 else jbad)) else (bif Nat.blt pc 55 then (bif Nat.beq pc 52 then J_icge 97 55 else jbad) else (bif Nat.beq pc 55 then J_aload 1 56 else jbad)))) else (bif Nat.blt pc 62 then (bif Nat.blt pc 57 then (bif Nat.beq pc 56 then J_iload 2 57 else jbad) else (bif Nat.blt pc 60 then (bif Nat.beq pc 57 then J_callV 5 S_X5_byteAt 1 60 else jbad) else (bif Nat.beq pc 60 then J_iconst 112 62 else jbad))) else (bif Nat.blt pc 66 then (bif Nat.blt pc 65 then (bif Nat.beq pc 62 then J_icne 82 65 else jbad) else (bif Nat.beq pc 65 then J_aload 0 66 else jbad)) else (bif Nat.blt pc 67 then (bif Nat.beq pc 66 then J_aload 1 67 else jbad) else (bif Nat.beq pc 67 then J_iload 2 68 else jbad)))))
theorem ftl_X3_build_42 : F_X3_build_42 42 = J_iconst 10 44 := rfl
theorem ftl_X3_build_44 : F_X3_build_42 44 = J_icge 97 47 := rfl
theorem ftl_X3_build_47 : F_X3_build_42 47 = J_iload 2 48 := rfl
theorem ftl_X3_build_48 : F_X3_build_42 48 = J_aload 1 49 := rfl
theorem ftl_X3_build_49 : F_X3_build_42 49 = J_getfield 5 1 52 := rfl
theorem ftl_X3_build_52 : F_X3_build_42 52 = J_icge 97 55 := rfl
theorem ftl_X3_build_55 : F_X3_build_42 55 = J_aload 1 56 := rfl
theorem ftl_X3_build_56 : F_X3_build_42 56 = J_iload 2 57 := rfl
theorem ftl_X3_build_57 : F_X3_build_42 57 = J_callV 5 S_X5_byteAt 1 60 := rfl
theorem ftl_X3_build_60 : F_X3_build_42 60 = J_iconst 112 62 := rfl
theorem ftl_X3_build_62 : F_X3_build_42 62 = J_icne 82 65 := rfl
theorem ftl_X3_build_65 : F_X3_build_42 65 = J_aload 0 66 := rfl
theorem ftl_X3_build_66 : F_X3_build_42 66 = J_aload 1 67 := rfl
theorem ftl_X3_build_67 : F_X3_build_42 67 = J_iload 2 68 := rfl
theorem F_X3_build_42_ok : jOK Y_X3_build none (F_X3_build_42) := (jOK_node (jOK_node (jOK_node (jOK_leaf (sn_bipush dX3_build_42 rfl rfl)) (jOK_node (jOK_leaf (sn_icge dX3_build_44 rfl rfl)) (jOK_leaf (sn_iload_n dX3_build_47 rfl rfl)))) (jOK_node (jOK_node (jOK_leaf (sn_aload_n dX3_build_48 rfl rfl)) (jOK_leaf (sn_getfield dX3_build_49 rfl rfl (by decide) tw_29 jin5))) (jOK_node (jOK_leaf (sn_icge dX3_build_52 rfl rfl)) (jOK_leaf (sn_aload_n dX3_build_55 rfl rfl))))) (jOK_node (jOK_node (jOK_leaf (sn_iload_n dX3_build_56 rfl rfl)) (jOK_node (jOK_leaf (sn_callV (Y' := Y_X5_byteAt) ok_X5_byteAt dX3_build_57 rfl rfl rfl tw_249 tw_225 tw_226 tw_2 jc_X5_byteAt rfl ⟨by decide, by decide, rfl⟩ ⟨by decide, by decide⟩)) (jOK_leaf (sn_bipush dX3_build_60 rfl rfl)))) (jOK_node (jOK_node (jOK_leaf (sn_icne dX3_build_62 rfl rfl)) (jOK_leaf (sn_aload_n dX3_build_65 rfl rfl))) (jOK_node (jOK_leaf (sn_aload_n dX3_build_66 rfl rfl)) (jOK_leaf (sn_iload_n dX3_build_67 rfl rfl))))))
def F_X3_build_68 : Nat → jT := fun pc => (bif Nat.blt pc 83 then (bif Nat.blt pc 73 then (bif Nat.blt pc 69 then (bif Nat.beq pc 68 then J_iconst 1 69 else jbad) else (bif Nat.blt pc 70 then (bif Nat.beq pc 69 then J_iadd 70 else jbad) else (bif Nat.beq pc 70 then J_callV 5 S_X5_digitAt 1 73 else jbad))) else (bif Nat.blt pc 79 then (bif Nat.blt pc 76 then (bif Nat.beq pc 73 then J_callV 3 S_X3_addPost 1 76 else jbad) else (bif Nat.beq pc 76 then J_iinc 2 2 79 else jbad)) else (bif Nat.blt pc 82 then (bif Nat.beq pc 79 then J_goto 91 else jbad) else (bif Nat.beq pc 82 then J_aload 0 83 else jbad)))) else (bif Nat.blt pc 88 then (bif Nat.blt pc 84 then (bif Nat.beq pc 83 then J_aload 1 84 else jbad) else (bif Nat.blt pc 85 then (bif Nat.beq pc 84 then J_iload 2 85 else jbad) else (bif Nat.beq pc 85 then J_callV 3 S_X3_addCar 2 88 else jbad))) else (bif Nat.blt pc 94 then (bif Nat.blt pc 91 then (bif Nat.beq pc 88 then J_iinc 2 6 91 else jbad) else (bif Nat.beq pc 91 then J_iinc 3 1 94 else jbad)) else (bif Nat.blt pc 97 then (bif Nat.beq pc 94 then J_goto 41 else jbad) else (bif Nat.beq pc 97 then J_return 0 0 else jbad)))))
theorem ftl_X3_build_68 : F_X3_build_68 68 = J_iconst 1 69 := rfl
theorem ftl_X3_build_69 : F_X3_build_68 69 = J_iadd 70 := rfl
theorem ftl_X3_build_70 : F_X3_build_68 70 = J_callV 5 S_X5_digitAt 1 73 := rfl
theorem ftl_X3_build_73 : F_X3_build_68 73 = J_callV 3 S_X3_addPost 1 76 := rfl
theorem ftl_X3_build_76 : F_X3_build_68 76 = J_iinc 2 2 79 := rfl
theorem ftl_X3_build_79 : F_X3_build_68 79 = J_goto 91 := rfl
theorem ftl_X3_build_82 : F_X3_build_68 82 = J_aload 0 83 := rfl
theorem ftl_X3_build_83 : F_X3_build_68 83 = J_aload 1 84 := rfl
theorem ftl_X3_build_84 : F_X3_build_68 84 = J_iload 2 85 := rfl
theorem ftl_X3_build_85 : F_X3_build_68 85 = J_callV 3 S_X3_addCar 2 88 := rfl
theorem ftl_X3_build_88 : F_X3_build_68 88 = J_iinc 2 6 91 := rfl
theorem ftl_X3_build_91 : F_X3_build_68 91 = J_iinc 3 1 94 := rfl
theorem ftl_X3_build_94 : F_X3_build_68 94 = J_goto 41 := rfl
theorem ftl_X3_build_97 : F_X3_build_68 97 = J_return 0 0 := rfl
theorem F_X3_build_68_ok : jOK Y_X3_build none (F_X3_build_68) := (jOK_node (jOK_node (jOK_node (jOK_leaf (sn_iconst dX3_build_68 rfl rfl)) (jOK_node (jOK_leaf (sn_iadd dX3_build_69 rfl)) (jOK_leaf (sn_callV (Y' := Y_X5_digitAt) ok_X5_digitAt dX3_build_70 rfl rfl rfl tw_248 tw_233 tw_234 tw_2 jc_X5_digitAt rfl ⟨by decide, by decide, rfl⟩ ⟨by decide, by decide⟩)))) (jOK_node (jOK_node (jOK_leaf (sn_callV (Y' := Y_X3_addPost) ok_X3_addPost dX3_build_73 rfl rfl rfl tw_250 tw_252 tp_3 tw_3 jc_X3_addPost rfl ⟨by decide, by decide, rfl⟩ ⟨by decide, by decide⟩)) (jOK_leaf (sn_iinc dX3_build_76 rfl rfl (by decide)))) (jOK_node (jOK_leaf (sn_goto dX3_build_79 rfl)) (jOK_leaf (sn_aload_n dX3_build_82 rfl rfl))))) (jOK_node (jOK_node (jOK_leaf (sn_aload_n dX3_build_83 rfl rfl)) (jOK_node (jOK_leaf (sn_iload_n dX3_build_84 rfl rfl)) (jOK_leaf (sn_callV (Y' := Y_X3_addCar) ok_X3_addCar dX3_build_85 rfl rfl rfl tw_254 tw_256 tp_4 tw_3 jc_X3_addCar rfl ⟨by decide, by decide, rfl⟩ ⟨by decide, by decide⟩)))) (jOK_node (jOK_node (jOK_leaf (sn_iinc dX3_build_88 rfl rfl (by decide))) (jOK_leaf (sn_iinc dX3_build_91 rfl rfl (by decide)))) (jOK_node (jOK_leaf (sn_goto dX3_build_94 rfl)) (jOK_leaf (sn_return dX3_build_97 rfl rfl))))))
def F_X3_build_42_97 : Nat → jT := fun pc => bif Nat.blt pc 68 then F_X3_build_42 pc else F_X3_build_68 pc
theorem F_X3_build_42_97_l {pc : Nat} (h : Nat.blt pc 68 = true) : F_X3_build_42_97 pc = F_X3_build_42 pc := by unfold F_X3_build_42_97; rw [h]; rfl
theorem F_X3_build_42_97_r {pc : Nat} (h : Nat.blt pc 68 = false) : F_X3_build_42_97 pc = F_X3_build_68 pc := by unfold F_X3_build_42_97; rw [h]; rfl
theorem F_X3_build_42_97_ok : jOK Y_X3_build none (F_X3_build_42_97) := jOK_node (F_X3_build_42_ok) (F_X3_build_68_ok)
def F_X3_build_0_97 : Nat → jT := fun pc => bif Nat.blt pc 42 then F_X3_build_0_41 pc else F_X3_build_42_97 pc
theorem F_X3_build_0_97_l {pc : Nat} (h : Nat.blt pc 42 = true) : F_X3_build_0_97 pc = F_X3_build_0_41 pc := by unfold F_X3_build_0_97; rw [h]; rfl
theorem F_X3_build_0_97_r {pc : Nat} (h : Nat.blt pc 42 = false) : F_X3_build_0_97 pc = F_X3_build_42_97 pc := by unfold F_X3_build_0_97; rw [h]; rfl
theorem F_X3_build_0_97_ok : jOK Y_X3_build none (F_X3_build_0_97) := jOK_node (F_X3_build_0_41_ok) (F_X3_build_42_97_ok)
def F_X3_build : Nat → jT := F_X3_build_0_97
theorem OK_X3_build : jOK Y_X3_build none (F_X3_build) := F_X3_build_0_97_ok
theorem ft_X3_build_0 : F_X3_build 0 = J_aload 0 1 := (F_X3_build_0_97_l rfl).trans ((F_X3_build_0_41_l rfl).trans (ftl_X3_build_0))
theorem ft_X3_build_1 : F_X3_build 1 = J_iconst 0 2 := (F_X3_build_0_97_l rfl).trans ((F_X3_build_0_41_l rfl).trans (ftl_X3_build_1))
theorem ft_X3_build_2 : F_X3_build 2 = J_putI 3 2 5 := (F_X3_build_0_97_l rfl).trans ((F_X3_build_0_41_l rfl).trans (ftl_X3_build_2))
theorem ft_X3_build_5 : F_X3_build 5 = J_aload 0 6 := (F_X3_build_0_97_l rfl).trans ((F_X3_build_0_41_l rfl).trans (ftl_X3_build_5))
theorem ft_X3_build_6 : F_X3_build 6 = J_iconst 0 7 := (F_X3_build_0_97_l rfl).trans ((F_X3_build_0_41_l rfl).trans (ftl_X3_build_6))
theorem ft_X3_build_7 : F_X3_build 7 = J_putI 3 3 10 := (F_X3_build_0_97_l rfl).trans ((F_X3_build_0_41_l rfl).trans (ftl_X3_build_7))
theorem ft_X3_build_10 : F_X3_build 10 = J_aload 0 11 := (F_X3_build_0_97_l rfl).trans ((F_X3_build_0_41_l rfl).trans (ftl_X3_build_10))
theorem ft_X3_build_11 : F_X3_build 11 = J_iconst 10 13 := (F_X3_build_0_97_l rfl).trans ((F_X3_build_0_41_l rfl).trans (ftl_X3_build_11))
theorem ft_X3_build_13 : F_X3_build 13 = J_aload 1 14 := (F_X3_build_0_97_l rfl).trans ((F_X3_build_0_41_l rfl).trans (ftl_X3_build_13))
theorem ft_X3_build_14 : F_X3_build 14 = J_iconst 1 15 := (F_X3_build_0_97_l rfl).trans ((F_X3_build_0_41_l rfl).trans (ftl_X3_build_14))
theorem ft_X3_build_15 : F_X3_build 15 = J_callV 5 S_X5_digitAt 1 18 := (F_X3_build_0_97_l rfl).trans ((F_X3_build_0_41_l rfl).trans (ftl_X3_build_15))
theorem ft_X3_build_18 : F_X3_build 18 = J_imul 19 := (F_X3_build_0_97_l rfl).trans ((F_X3_build_0_41_l rfl).trans (ftl_X3_build_18))
theorem ft_X3_build_19 : F_X3_build 19 = J_aload 1 20 := (F_X3_build_0_97_l rfl).trans ((F_X3_build_0_41_l rfl).trans (ftl_X3_build_19))
theorem ft_X3_build_20 : F_X3_build 20 = J_iconst 2 21 := (F_X3_build_0_97_l rfl).trans ((F_X3_build_0_41_r rfl).trans (ftl_X3_build_20))
theorem ft_X3_build_21 : F_X3_build 21 = J_callV 5 S_X5_digitAt 1 24 := (F_X3_build_0_97_l rfl).trans ((F_X3_build_0_41_r rfl).trans (ftl_X3_build_21))
theorem ft_X3_build_24 : F_X3_build 24 = J_iadd 25 := (F_X3_build_0_97_l rfl).trans ((F_X3_build_0_41_r rfl).trans (ftl_X3_build_24))
theorem ft_X3_build_25 : F_X3_build 25 = J_putI 3 4 28 := (F_X3_build_0_97_l rfl).trans ((F_X3_build_0_41_r rfl).trans (ftl_X3_build_25))
theorem ft_X3_build_28 : F_X3_build 28 = J_aload 0 29 := (F_X3_build_0_97_l rfl).trans ((F_X3_build_0_41_r rfl).trans (ftl_X3_build_28))
theorem ft_X3_build_29 : F_X3_build 29 = J_aload 1 30 := (F_X3_build_0_97_l rfl).trans ((F_X3_build_0_41_r rfl).trans (ftl_X3_build_29))
theorem ft_X3_build_30 : F_X3_build 30 = J_iconst 3 31 := (F_X3_build_0_97_l rfl).trans ((F_X3_build_0_41_r rfl).trans (ftl_X3_build_30))
theorem ft_X3_build_31 : F_X3_build 31 = J_callV 5 S_X5_digitAt 1 34 := (F_X3_build_0_97_l rfl).trans ((F_X3_build_0_41_r rfl).trans (ftl_X3_build_31))
theorem ft_X3_build_34 : F_X3_build 34 = J_putI 3 5 37 := (F_X3_build_0_97_l rfl).trans ((F_X3_build_0_41_r rfl).trans (ftl_X3_build_34))
theorem ft_X3_build_37 : F_X3_build 37 = J_iconst 4 38 := (F_X3_build_0_97_l rfl).trans ((F_X3_build_0_41_r rfl).trans (ftl_X3_build_37))
theorem ft_X3_build_38 : F_X3_build 38 = J_istore 2 39 := (F_X3_build_0_97_l rfl).trans ((F_X3_build_0_41_r rfl).trans (ftl_X3_build_38))
theorem ft_X3_build_39 : F_X3_build 39 = J_iconst 0 40 := (F_X3_build_0_97_l rfl).trans ((F_X3_build_0_41_r rfl).trans (ftl_X3_build_39))
theorem ft_X3_build_40 : F_X3_build 40 = J_istore 3 41 := (F_X3_build_0_97_l rfl).trans ((F_X3_build_0_41_r rfl).trans (ftl_X3_build_40))
theorem ft_X3_build_41 : F_X3_build 41 = J_iload 3 42 := (F_X3_build_0_97_l rfl).trans ((F_X3_build_0_41_r rfl).trans (ftl_X3_build_41))
theorem ft_X3_build_42 : F_X3_build 42 = J_iconst 10 44 := (F_X3_build_0_97_r rfl).trans ((F_X3_build_42_97_l rfl).trans (ftl_X3_build_42))
theorem ft_X3_build_44 : F_X3_build 44 = J_icge 97 47 := (F_X3_build_0_97_r rfl).trans ((F_X3_build_42_97_l rfl).trans (ftl_X3_build_44))
theorem ft_X3_build_47 : F_X3_build 47 = J_iload 2 48 := (F_X3_build_0_97_r rfl).trans ((F_X3_build_42_97_l rfl).trans (ftl_X3_build_47))
theorem ft_X3_build_48 : F_X3_build 48 = J_aload 1 49 := (F_X3_build_0_97_r rfl).trans ((F_X3_build_42_97_l rfl).trans (ftl_X3_build_48))
theorem ft_X3_build_49 : F_X3_build 49 = J_getfield 5 1 52 := (F_X3_build_0_97_r rfl).trans ((F_X3_build_42_97_l rfl).trans (ftl_X3_build_49))
theorem ft_X3_build_52 : F_X3_build 52 = J_icge 97 55 := (F_X3_build_0_97_r rfl).trans ((F_X3_build_42_97_l rfl).trans (ftl_X3_build_52))
theorem ft_X3_build_55 : F_X3_build 55 = J_aload 1 56 := (F_X3_build_0_97_r rfl).trans ((F_X3_build_42_97_l rfl).trans (ftl_X3_build_55))
theorem ft_X3_build_56 : F_X3_build 56 = J_iload 2 57 := (F_X3_build_0_97_r rfl).trans ((F_X3_build_42_97_l rfl).trans (ftl_X3_build_56))
theorem ft_X3_build_57 : F_X3_build 57 = J_callV 5 S_X5_byteAt 1 60 := (F_X3_build_0_97_r rfl).trans ((F_X3_build_42_97_l rfl).trans (ftl_X3_build_57))
theorem ft_X3_build_60 : F_X3_build 60 = J_iconst 112 62 := (F_X3_build_0_97_r rfl).trans ((F_X3_build_42_97_l rfl).trans (ftl_X3_build_60))
theorem ft_X3_build_62 : F_X3_build 62 = J_icne 82 65 := (F_X3_build_0_97_r rfl).trans ((F_X3_build_42_97_l rfl).trans (ftl_X3_build_62))
theorem ft_X3_build_65 : F_X3_build 65 = J_aload 0 66 := (F_X3_build_0_97_r rfl).trans ((F_X3_build_42_97_l rfl).trans (ftl_X3_build_65))
theorem ft_X3_build_66 : F_X3_build 66 = J_aload 1 67 := (F_X3_build_0_97_r rfl).trans ((F_X3_build_42_97_l rfl).trans (ftl_X3_build_66))
theorem ft_X3_build_67 : F_X3_build 67 = J_iload 2 68 := (F_X3_build_0_97_r rfl).trans ((F_X3_build_42_97_l rfl).trans (ftl_X3_build_67))
theorem ft_X3_build_68 : F_X3_build 68 = J_iconst 1 69 := (F_X3_build_0_97_r rfl).trans ((F_X3_build_42_97_r rfl).trans (ftl_X3_build_68))
theorem ft_X3_build_69 : F_X3_build 69 = J_iadd 70 := (F_X3_build_0_97_r rfl).trans ((F_X3_build_42_97_r rfl).trans (ftl_X3_build_69))
theorem ft_X3_build_70 : F_X3_build 70 = J_callV 5 S_X5_digitAt 1 73 := (F_X3_build_0_97_r rfl).trans ((F_X3_build_42_97_r rfl).trans (ftl_X3_build_70))
theorem ft_X3_build_73 : F_X3_build 73 = J_callV 3 S_X3_addPost 1 76 := (F_X3_build_0_97_r rfl).trans ((F_X3_build_42_97_r rfl).trans (ftl_X3_build_73))
theorem ft_X3_build_76 : F_X3_build 76 = J_iinc 2 2 79 := (F_X3_build_0_97_r rfl).trans ((F_X3_build_42_97_r rfl).trans (ftl_X3_build_76))
theorem ft_X3_build_79 : F_X3_build 79 = J_goto 91 := (F_X3_build_0_97_r rfl).trans ((F_X3_build_42_97_r rfl).trans (ftl_X3_build_79))
theorem ft_X3_build_82 : F_X3_build 82 = J_aload 0 83 := (F_X3_build_0_97_r rfl).trans ((F_X3_build_42_97_r rfl).trans (ftl_X3_build_82))
theorem ft_X3_build_83 : F_X3_build 83 = J_aload 1 84 := (F_X3_build_0_97_r rfl).trans ((F_X3_build_42_97_r rfl).trans (ftl_X3_build_83))
theorem ft_X3_build_84 : F_X3_build 84 = J_iload 2 85 := (F_X3_build_0_97_r rfl).trans ((F_X3_build_42_97_r rfl).trans (ftl_X3_build_84))
theorem ft_X3_build_85 : F_X3_build 85 = J_callV 3 S_X3_addCar 2 88 := (F_X3_build_0_97_r rfl).trans ((F_X3_build_42_97_r rfl).trans (ftl_X3_build_85))
theorem ft_X3_build_88 : F_X3_build 88 = J_iinc 2 6 91 := (F_X3_build_0_97_r rfl).trans ((F_X3_build_42_97_r rfl).trans (ftl_X3_build_88))
theorem ft_X3_build_91 : F_X3_build 91 = J_iinc 3 1 94 := (F_X3_build_0_97_r rfl).trans ((F_X3_build_42_97_r rfl).trans (ftl_X3_build_91))
theorem ft_X3_build_94 : F_X3_build 94 = J_goto 41 := (F_X3_build_0_97_r rfl).trans ((F_X3_build_42_97_r rfl).trans (ftl_X3_build_94))
theorem ft_X3_build_97 : F_X3_build 97 = J_return 0 0 := (F_X3_build_0_97_r rfl).trans ((F_X3_build_42_97_r rfl).trans (ftl_X3_build_97))
theorem lp_X3_build {Q : jQ} {C : Nat → Nat → Int32} {z : Nat → Int64} {nb n : Nat} (hn : C 1 1 = nI n) (h70 : n ≤ 70) :
    ∀ k j, j + k = 10 → ∀ (a : Nat) (s : jBd), s.1.1 ≤ 4 → s.1.2 ≤ 6 → a ≤ 4 + 6 * j → Q none (memS 94 (bdM C (bdF (C 2) n k a s)) z) → Rn Y_X3_build none Q 41 [some (.ref 3), some (.ref 1), some (.int (nI a)), some (.int (nI j))] [] (memS 94 (bdM C s) z) (nb, 0, 0) := by
  intro k
  induction k with
  | zero =>
    intro j hj a s hP hK ha h
    have hc : (10 ≤ nI j) = True := by rw [show j = 10 by omega]; exact eq_true (by decide)
    refine jrun_first OK_X3_build (C := [41]) 60 ?_
    simp -implicitDefEqProofs only [jr_0, jr_1, jr_2, j_iconst, j_lconst, j_iload0, j_aload0, j_istore0, j_astore0, j_iinc0, j_iload1, j_aload1, j_istore1, j_astore1, j_iinc1, j_iload2, j_aload2, j_istore2, j_astore2, j_iinc2, j_iload3, j_aload3, j_istore3, j_astore3, j_iinc3, j_iload4, j_aload4, j_istore4, j_astore4, j_iinc4, j_iload5, j_aload5, j_istore5, j_astore5, j_iinc5, j_iload6, j_aload6, j_istore6, j_astore6, j_iinc6, j_iload7, j_aload7, j_istore7, j_astore7, j_iinc7, j_iload8, j_aload8, j_istore8, j_astore8, j_iinc8, j_iadd, j_isub, j_imul, j_iand, j_ior, j_ixor, j_ishl, j_ishr, j_iushr, j_idiv, j_irem, j_ineg, j_ladd, j_lmul, j_land, j_lor, j_lcmp, j_lushr, j_lshl, j_i2l, j_l2i, j_dupI, j_dupR, j_popI, j_dup2, j_ifeq, j_iceq, j_ifne, j_icne, j_iflt, j_iclt, j_ifge, j_icge, j_ifgt, j_icgt, j_ifle, j_icle, j_goto, j_tsw, j_sw0, j_sw1, j_ireturn, j_zreturn, j_lreturn, j_return, j_getfield, j_putI, j_putJ, j_putR, j_iaload, j_baload, j_iastore, j_bastore, j_aaload, j_q, j_aastore, j_acopy, j_mmin, j_mmax, j_mabs, j_objinit, j_new, j_newI, j_newQ, j_sld, j_slen, j_callV0, j_callI0, j_callS0, j_callV1, j_callI1, j_callS1, j_callV2, j_callI2, j_callS2, j_callV3, j_callS3, j_callV4, j_callS4, j_callV5, j_callS5, j_pushS, j_pushN, j_sh0, j_sh1, j_sh2, j_sh3, j_sh4, Int32.reduceAdd, Int32.reduceMul, Int32.reduceSub, Int32.reduceLT, Int32.reduceLE, eq_self, i32_10, i32_01, ne_eq, hrow_s, hrow_n, ne10, ne100, ne1000, ne7, ne4, ne14, ne9973, or_true, true_or, or_false, false_or, not_true_eq_false, not_false_eq_true, false_implies, implies_true, and_true, forall_const, true_implies, jargs_n, jargs_r, jargs_i, List.cons_append, List.nil_append, true_and, Nat.reduceEqDiff, reduceIte, ft_X3_build_0, ft_X3_build_1, ft_X3_build_2, ft_X3_build_5, ft_X3_build_6, ft_X3_build_7, ft_X3_build_10, ft_X3_build_11, ft_X3_build_13, ft_X3_build_14, ft_X3_build_15, ft_X3_build_18, ft_X3_build_19, ft_X3_build_20, ft_X3_build_21, ft_X3_build_24, ft_X3_build_25, ft_X3_build_28, ft_X3_build_29, ft_X3_build_30, ft_X3_build_31, ft_X3_build_34, ft_X3_build_37, ft_X3_build_38, ft_X3_build_39, ft_X3_build_40, ft_X3_build_41, ft_X3_build_42, ft_X3_build_44, ft_X3_build_47, ft_X3_build_48, ft_X3_build_49, ft_X3_build_52, ft_X3_build_55, ft_X3_build_56, ft_X3_build_57, ft_X3_build_60, ft_X3_build_62, ft_X3_build_65, ft_X3_build_66, ft_X3_build_67, ft_X3_build_68, ft_X3_build_69, ft_X3_build_70, ft_X3_build_73, ft_X3_build_76, ft_X3_build_79, ft_X3_build_82, ft_X3_build_83, ft_X3_build_84, ft_X3_build_85, ft_X3_build_88, ft_X3_build_91, ft_X3_build_94, ft_X3_build_97, hc]
    exact h
  | succ k ih =>
    intro j hj a s hP hK ha h
    have hc : (10 ≤ nI j) = False := eq_false (nI_ge (b := 10) (by omega) (by decide))
    have e7 : (nI n ≤ nI a) = (n ≤ a) := nI_leq (by omega) (by omega)
    have e11 : bdM C s 1 = C 1 := by unfold bdM; rw [hrow_n (by decide), hrow_n (by decide), hrow_n (by decide)]
    have e12 : bdM C s 2 = C 2 := by unfold bdM; rw [hrow_n (by decide), hrow_n (by decide), hrow_n (by decide)]
    have e26 : nI a + 6 = nI (a + 6) := nI_add a 6
    unfold bdF at h
    refine jrun_first OK_X3_build (C := [41]) 80 ?_
    by_cases h1 : n ≤ a
    · rw [if_pos h1] at h
      simp -implicitDefEqProofs only [jr_0, jr_1, jr_2, j_iconst, j_lconst, j_iload0, j_aload0, j_istore0, j_astore0, j_iinc0, j_iload1, j_aload1, j_istore1, j_astore1, j_iinc1, j_iload2, j_aload2, j_istore2, j_astore2, j_iinc2, j_iload3, j_aload3, j_istore3, j_astore3, j_iinc3, j_iload4, j_aload4, j_istore4, j_astore4, j_iinc4, j_iload5, j_aload5, j_istore5, j_astore5, j_iinc5, j_iload6, j_aload6, j_istore6, j_astore6, j_iinc6, j_iload7, j_aload7, j_istore7, j_astore7, j_iinc7, j_iload8, j_aload8, j_istore8, j_astore8, j_iinc8, j_iadd, j_isub, j_imul, j_iand, j_ior, j_ixor, j_ishl, j_ishr, j_iushr, j_idiv, j_irem, j_ineg, j_ladd, j_lmul, j_land, j_lor, j_lcmp, j_lushr, j_lshl, j_i2l, j_l2i, j_dupI, j_dupR, j_popI, j_dup2, j_ifeq, j_iceq, j_ifne, j_icne, j_iflt, j_iclt, j_ifge, j_icge, j_ifgt, j_icgt, j_ifle, j_icle, j_goto, j_tsw, j_sw0, j_sw1, j_ireturn, j_zreturn, j_lreturn, j_return, j_getfield, j_putI, j_putJ, j_putR, j_iaload, j_baload, j_iastore, j_bastore, j_aaload, j_q, j_aastore, j_acopy, j_mmin, j_mmax, j_mabs, j_objinit, j_new, j_newI, j_newQ, j_sld, j_slen, j_callV0, j_callI0, j_callS0, j_callV1, j_callI1, j_callS1, j_callV2, j_callI2, j_callS2, j_callV3, j_callS3, j_callV4, j_callS4, j_callV5, j_callS5, j_pushS, j_pushN, j_sh0, j_sh1, j_sh2, j_sh3, j_sh4, Int32.reduceAdd, Int32.reduceMul, Int32.reduceSub, Int32.reduceLT, Int32.reduceLE, eq_self, i32_10, i32_01, ne_eq, hrow_s, hrow_n, ne10, ne100, ne1000, ne7, ne4, ne14, ne9973, or_true, true_or, or_false, false_or, not_true_eq_false, not_false_eq_true, false_implies, implies_true, and_true, forall_const, true_implies, jargs_n, jargs_r, jargs_i, List.cons_append, List.nil_append, true_and, Nat.reduceEqDiff, reduceIte, ft_X3_build_0, ft_X3_build_1, ft_X3_build_2, ft_X3_build_5, ft_X3_build_6, ft_X3_build_7, ft_X3_build_10, ft_X3_build_11, ft_X3_build_13, ft_X3_build_14, ft_X3_build_15, ft_X3_build_18, ft_X3_build_19, ft_X3_build_20, ft_X3_build_21, ft_X3_build_24, ft_X3_build_25, ft_X3_build_28, ft_X3_build_29, ft_X3_build_30, ft_X3_build_31, ft_X3_build_34, ft_X3_build_37, ft_X3_build_38, ft_X3_build_39, ft_X3_build_40, ft_X3_build_41, ft_X3_build_42, ft_X3_build_44, ft_X3_build_47, ft_X3_build_48, ft_X3_build_49, ft_X3_build_52, ft_X3_build_55, ft_X3_build_56, ft_X3_build_57, ft_X3_build_60, ft_X3_build_62, ft_X3_build_65, ft_X3_build_66, ft_X3_build_67, ft_X3_build_68, ft_X3_build_69, ft_X3_build_70, ft_X3_build_73, ft_X3_build_76, ft_X3_build_79, ft_X3_build_82, ft_X3_build_83, ft_X3_build_84, ft_X3_build_85, ft_X3_build_88, ft_X3_build_91, ft_X3_build_94, ft_X3_build_97, hc, fl_1_1, e11, hn, e7, h1]
      exact h
    · rw [if_neg h1] at h
      by_cases h2 : byteF (C 2) (nI n) (nI a) = 112
      · rw [if_pos h2] at h
        simp -implicitDefEqProofs only [jr_0, jr_1, jr_2, j_iconst, j_lconst, j_iload0, j_aload0, j_istore0, j_astore0, j_iinc0, j_iload1, j_aload1, j_istore1, j_astore1, j_iinc1, j_iload2, j_aload2, j_istore2, j_astore2, j_iinc2, j_iload3, j_aload3, j_istore3, j_astore3, j_iinc3, j_iload4, j_aload4, j_istore4, j_astore4, j_iinc4, j_iload5, j_aload5, j_istore5, j_astore5, j_iinc5, j_iload6, j_aload6, j_istore6, j_astore6, j_iinc6, j_iload7, j_aload7, j_istore7, j_astore7, j_iinc7, j_iload8, j_aload8, j_istore8, j_astore8, j_iinc8, j_iadd, j_isub, j_imul, j_iand, j_ior, j_ixor, j_ishl, j_ishr, j_iushr, j_idiv, j_irem, j_ineg, j_ladd, j_lmul, j_land, j_lor, j_lcmp, j_lushr, j_lshl, j_i2l, j_l2i, j_dupI, j_dupR, j_popI, j_dup2, j_ifeq, j_iceq, j_ifne, j_icne, j_iflt, j_iclt, j_ifge, j_icge, j_ifgt, j_icgt, j_ifle, j_icle, j_goto, j_tsw, j_sw0, j_sw1, j_ireturn, j_zreturn, j_lreturn, j_return, j_getfield, j_putI, j_putJ, j_putR, j_iaload, j_baload, j_iastore, j_bastore, j_aaload, j_q, j_aastore, j_acopy, j_mmin, j_mmax, j_mabs, j_objinit, j_new, j_newI, j_newQ, j_sld, j_slen, j_callV0, j_callI0, j_callS0, j_callV1, j_callI1, j_callS1, j_callV2, j_callI2, j_callS2, j_callV3, j_callS3, j_callV4, j_callS4, j_callV5, j_callS5, j_pushS, j_pushN, j_sh0, j_sh1, j_sh2, j_sh3, j_sh4, Int32.reduceAdd, Int32.reduceMul, Int32.reduceSub, Int32.reduceLT, Int32.reduceLE, eq_self, i32_10, i32_01, ne_eq, hrow_s, hrow_n, ne10, ne100, ne1000, ne7, ne4, ne14, ne9973, or_true, true_or, or_false, false_or, not_true_eq_false, not_false_eq_true, false_implies, implies_true, and_true, forall_const, true_implies, jargs_n, jargs_r, jargs_i, List.cons_append, List.nil_append, true_and, Nat.reduceEqDiff, reduceIte, ft_X3_build_0, ft_X3_build_1, ft_X3_build_2, ft_X3_build_5, ft_X3_build_6, ft_X3_build_7, ft_X3_build_10, ft_X3_build_11, ft_X3_build_13, ft_X3_build_14, ft_X3_build_15, ft_X3_build_18, ft_X3_build_19, ft_X3_build_20, ft_X3_build_21, ft_X3_build_24, ft_X3_build_25, ft_X3_build_28, ft_X3_build_29, ft_X3_build_30, ft_X3_build_31, ft_X3_build_34, ft_X3_build_37, ft_X3_build_38, ft_X3_build_39, ft_X3_build_40, ft_X3_build_41, ft_X3_build_42, ft_X3_build_44, ft_X3_build_47, ft_X3_build_48, ft_X3_build_49, ft_X3_build_52, ft_X3_build_55, ft_X3_build_56, ft_X3_build_57, ft_X3_build_60, ft_X3_build_62, ft_X3_build_65, ft_X3_build_66, ft_X3_build_67, ft_X3_build_68, ft_X3_build_69, ft_X3_build_70, ft_X3_build_73, ft_X3_build_76, ft_X3_build_79, ft_X3_build_82, ft_X3_build_83, ft_X3_build_84, ft_X3_build_85, ft_X3_build_88, ft_X3_build_91, ft_X3_build_94, ft_X3_build_97, hc, fl_1_1, rc_1, rc_3, e11, e12, hn, e7, h1, s_X5_byteAt, h2, s_X5_digitAt, s_X3_addPost hP hK, nI_2, nI_1]
        refine ih (j + 1) (by omega) _ _ ?_ ?_ (by omega) h
        · by_cases h3 : s.1.1 < 4
          · rw [if_pos h3]; exact h3
          · rw [if_neg h3]; exact hP
        · by_cases h3 : s.1.1 < 4
          · rw [if_pos h3]; exact hK
          · rw [if_neg h3]; exact hK
      · rw [if_neg h2] at h
        simp -implicitDefEqProofs only [jr_0, jr_1, jr_2, j_iconst, j_lconst, j_iload0, j_aload0, j_istore0, j_astore0, j_iinc0, j_iload1, j_aload1, j_istore1, j_astore1, j_iinc1, j_iload2, j_aload2, j_istore2, j_astore2, j_iinc2, j_iload3, j_aload3, j_istore3, j_astore3, j_iinc3, j_iload4, j_aload4, j_istore4, j_astore4, j_iinc4, j_iload5, j_aload5, j_istore5, j_astore5, j_iinc5, j_iload6, j_aload6, j_istore6, j_astore6, j_iinc6, j_iload7, j_aload7, j_istore7, j_astore7, j_iinc7, j_iload8, j_aload8, j_istore8, j_astore8, j_iinc8, j_iadd, j_isub, j_imul, j_iand, j_ior, j_ixor, j_ishl, j_ishr, j_iushr, j_idiv, j_irem, j_ineg, j_ladd, j_lmul, j_land, j_lor, j_lcmp, j_lushr, j_lshl, j_i2l, j_l2i, j_dupI, j_dupR, j_popI, j_dup2, j_ifeq, j_iceq, j_ifne, j_icne, j_iflt, j_iclt, j_ifge, j_icge, j_ifgt, j_icgt, j_ifle, j_icle, j_goto, j_tsw, j_sw0, j_sw1, j_ireturn, j_zreturn, j_lreturn, j_return, j_getfield, j_putI, j_putJ, j_putR, j_iaload, j_baload, j_iastore, j_bastore, j_aaload, j_q, j_aastore, j_acopy, j_mmin, j_mmax, j_mabs, j_objinit, j_new, j_newI, j_newQ, j_sld, j_slen, j_callV0, j_callI0, j_callS0, j_callV1, j_callI1, j_callS1, j_callV2, j_callI2, j_callS2, j_callV3, j_callS3, j_callV4, j_callS4, j_callV5, j_callS5, j_pushS, j_pushN, j_sh0, j_sh1, j_sh2, j_sh3, j_sh4, Int32.reduceAdd, Int32.reduceMul, Int32.reduceSub, Int32.reduceLT, Int32.reduceLE, eq_self, i32_10, i32_01, ne_eq, hrow_s, hrow_n, ne10, ne100, ne1000, ne7, ne4, ne14, ne9973, or_true, true_or, or_false, false_or, not_true_eq_false, not_false_eq_true, false_implies, implies_true, and_true, forall_const, true_implies, jargs_n, jargs_r, jargs_i, List.cons_append, List.nil_append, true_and, Nat.reduceEqDiff, reduceIte, ft_X3_build_0, ft_X3_build_1, ft_X3_build_2, ft_X3_build_5, ft_X3_build_6, ft_X3_build_7, ft_X3_build_10, ft_X3_build_11, ft_X3_build_13, ft_X3_build_14, ft_X3_build_15, ft_X3_build_18, ft_X3_build_19, ft_X3_build_20, ft_X3_build_21, ft_X3_build_24, ft_X3_build_25, ft_X3_build_28, ft_X3_build_29, ft_X3_build_30, ft_X3_build_31, ft_X3_build_34, ft_X3_build_37, ft_X3_build_38, ft_X3_build_39, ft_X3_build_40, ft_X3_build_41, ft_X3_build_42, ft_X3_build_44, ft_X3_build_47, ft_X3_build_48, ft_X3_build_49, ft_X3_build_52, ft_X3_build_55, ft_X3_build_56, ft_X3_build_57, ft_X3_build_60, ft_X3_build_62, ft_X3_build_65, ft_X3_build_66, ft_X3_build_67, ft_X3_build_68, ft_X3_build_69, ft_X3_build_70, ft_X3_build_73, ft_X3_build_76, ft_X3_build_79, ft_X3_build_82, ft_X3_build_83, ft_X3_build_84, ft_X3_build_85, ft_X3_build_88, ft_X3_build_91, ft_X3_build_94, ft_X3_build_97, hc, fl_1_1, rc_1, rc_3, e11, e12, hn, e7, h1, s_X5_byteAt, h2, s_X3_addCar hn hP hK, e26, nI_1]
        refine ih (j + 1) (by omega) _ _ ?_ ?_ (by omega) h
        · by_cases h3 : s.1.2 < 6
          · rw [if_pos h3]; exact hP
          · rw [if_neg h3]; exact hP
        · by_cases h3 : s.1.2 < 6
          · rw [if_pos h3]; exact h3
          · rw [if_neg h3]; exact hK
theorem ok_X3_build : jMeets Y_X3_build S_X3_build := by
  intro nb vs mem Q h
  obtain ⟨C, z, n, rfl, rfl, hn, h70, hQ⟩ := h
  refine Ok.run OK_X3_build [41] 60 [none, none] pn3 (Nat.le_of_ble_eq_true rfl) rfl ?_
  simp -implicitDefEqProofs only [jr_0, jr_1, jr_2, j_iconst, j_lconst, j_iload0, j_aload0, j_istore0, j_astore0, j_iinc0, j_iload1, j_aload1, j_istore1, j_astore1, j_iinc1, j_iload2, j_aload2, j_istore2, j_astore2, j_iinc2, j_iload3, j_aload3, j_istore3, j_astore3, j_iinc3, j_iload4, j_aload4, j_istore4, j_astore4, j_iinc4, j_iload5, j_aload5, j_istore5, j_astore5, j_iinc5, j_iload6, j_aload6, j_istore6, j_astore6, j_iinc6, j_iload7, j_aload7, j_istore7, j_astore7, j_iinc7, j_iload8, j_aload8, j_istore8, j_astore8, j_iinc8, j_iadd, j_isub, j_imul, j_iand, j_ior, j_ixor, j_ishl, j_ishr, j_iushr, j_idiv, j_irem, j_ineg, j_ladd, j_lmul, j_land, j_lor, j_lcmp, j_lushr, j_lshl, j_i2l, j_l2i, j_dupI, j_dupR, j_popI, j_dup2, j_ifeq, j_iceq, j_ifne, j_icne, j_iflt, j_iclt, j_ifge, j_icge, j_ifgt, j_icgt, j_ifle, j_icle, j_goto, j_tsw, j_sw0, j_sw1, j_ireturn, j_zreturn, j_lreturn, j_return, j_getfield, j_putI, j_putJ, j_putR, j_iaload, j_baload, j_iastore, j_bastore, j_aaload, j_q, j_aastore, j_acopy, j_mmin, j_mmax, j_mabs, j_objinit, j_new, j_newI, j_newQ, j_sld, j_slen, j_callV0, j_callI0, j_callS0, j_callV1, j_callI1, j_callS1, j_callV2, j_callI2, j_callS2, j_callV3, j_callS3, j_callV4, j_callS4, j_callV5, j_callS5, j_pushS, j_pushN, j_sh0, j_sh1, j_sh2, j_sh3, j_sh4, Int32.reduceAdd, Int32.reduceMul, Int32.reduceSub, Int32.reduceLT, Int32.reduceLE, eq_self, i32_10, i32_01, ne_eq, hrow_s, hrow_n, ne10, ne100, ne1000, ne7, ne4, ne14, ne9973, or_true, true_or, or_false, false_or, not_true_eq_false, not_false_eq_true, false_implies, implies_true, and_true, forall_const, true_implies, jargs_n, jargs_r, jargs_i, List.cons_append, List.nil_append, true_and, Nat.reduceEqDiff, reduceIte, ft_X3_build_0, ft_X3_build_1, ft_X3_build_2, ft_X3_build_5, ft_X3_build_6, ft_X3_build_7, ft_X3_build_10, ft_X3_build_11, ft_X3_build_13, ft_X3_build_14, ft_X3_build_15, ft_X3_build_18, ft_X3_build_19, ft_X3_build_20, ft_X3_build_21, ft_X3_build_24, ft_X3_build_25, ft_X3_build_28, ft_X3_build_29, ft_X3_build_30, ft_X3_build_31, ft_X3_build_34, ft_X3_build_37, ft_X3_build_38, ft_X3_build_39, ft_X3_build_40, ft_X3_build_41, ft_X3_build_42, ft_X3_build_44, ft_X3_build_47, ft_X3_build_48, ft_X3_build_49, ft_X3_build_52, ft_X3_build_55, ft_X3_build_56, ft_X3_build_57, ft_X3_build_60, ft_X3_build_62, ft_X3_build_65, ft_X3_build_66, ft_X3_build_67, ft_X3_build_68, ft_X3_build_69, ft_X3_build_70, ft_X3_build_73, ft_X3_build_76, ft_X3_build_79, ft_X3_build_82, ft_X3_build_83, ft_X3_build_84, ft_X3_build_85, ft_X3_build_88, ft_X3_build_91, ft_X3_build_94, ft_X3_build_97, rc_1, fp_3_2, fp_3_3, fp_3_4, fp_3_5, s_X5_digitAt, hrow_hrow, hn]
  have e : hrow C 3 (upd (upd (upd (upd (C 3) 2 0) 3 0) 4 (10 * (byteF (C 2) (nI n) 1 - 48) + (byteF (C 2) (nI n) 2 - 48))) 5 (byteF (C 2) (nI n) 3 - 48)) = bdM (bd0 C n) ((0, 0), C 4, C 5) := by
    have e4 : bd0 C n 4 = C 4 := hrow_n (by decide)
    have e5 : bd0 C n 5 = C 5 := hrow_n (by decide)
    have e3 : bd0 C n 3 = upd (upd (C 3) 4 (10 * dF (C 2) n 1 + dF (C 2) n 2)) 5 (dF (C 2) n 3) := hrow_s
    unfold bdM
    rw [e3]
    show _ = hrow (hrow (hrow (bd0 C n) 4 (C 4)) 5 (C 5)) 3 _
    rw [← e4, hrow_self, ← e5, hrow_self]
    unfold bd0
    rw [hrow_hrow]
    congr 1
    rw [upd_swap (a := 5) (b := 2) (by decide), upd_swap (a := 4) (b := 2) (by decide), upd_swap (a := 5) (b := 3) (by decide), upd_swap (a := 4) (b := 3) (by decide)]
    rfl
  rw [e]
  have e1 : bd0 C n 1 = C 1 := hrow_n (by decide)
  have e2 : bd0 C n 2 = C 2 := hrow_n (by decide)
  refine lp_X3_build (C := bd0 C n) (by rw [e1]; exact hn) h70 10 0 rfl 4 ((0, 0), C 4, C 5) (Nat.zero_le _) (Nat.zero_le _) (by decide) ?_
  rw [e2]
  exact hQ
theorem s_X3_build {nb n : Nat} {C : Nat → Nat → Int32} {z : Nat → Int64} {Q : jQ} (hn : C 1 1 = nI n) (h70 : n ≤ 70) (hQ : Q none (memS 94 (bldC C n) z)) : S_X3_build nb [.ref 3, .ref 1] (memS 94 C z) Q := ⟨C, z, n, rfl, rfl, hn, h70, hQ⟩
/-! site -/
noncomputable def siteC (C : Nat → Nat → Int32) (n : Nat) : Nat → Nat → Int32 := hrow (hrow (hrow (bldC C n) 9 (bgF (bldC C n))) 15 (upd (C 15) 2 0)) 0 (upd (C 0) 9 0)
theorem bldC_o {C : Nat → Nat → Int32} {n a : Nat} (h3 : a ≠ 3) (h4 : a ≠ 4) (h5 : a ≠ 5) : bldC C n a = C a := by
  unfold bldC bdM bd0
  rw [hrow_n h3, hrow_n h5, hrow_n h4, hrow_n h3]
def S_X6_site : jSp := fun _ vs mem Q => ∃ C z n, vs = [.ref 0] ∧ mem = memS 94 C z ∧ C 1 1 = nI n ∧ n ≤ 70 ∧ Cut (C 9) ∧ pick (faultA (C 2) n = -9) (Q (some (.int (nI (bdS C n).1.1))) (memS 94 (siteC C n) z)) (Q (some (.int (-3))) (memS 94 C z))
def F_X6_site_0 : Nat → jT := fun pc => (bif Nat.blt pc 15 then (bif Nat.blt pc 7 then (bif Nat.blt pc 1 then (bif Nat.beq pc 0 then J_aload 0 1 else jbad) else (bif Nat.blt pc 4 then (bif Nat.beq pc 1 then J_getfield 6 0 4 else jbad) else (bif Nat.beq pc 4 then J_callV 5 S_X5_firstFault 0 7 else jbad))) else (bif Nat.blt pc 12 then (bif Nat.blt pc 9 then (bif Nat.beq pc 7 then J_iconst (-9) 9 else jbad) else (bif Nat.beq pc 9 then J_iceq 15 12 else jbad)) else (bif Nat.blt pc 14 then (bif Nat.beq pc 12 then J_iconst (-3) 14 else jbad) else (bif Nat.beq pc 14 then J_ireturn 0 0 else jbad)))) else (bif Nat.blt pc 20 then (bif Nat.blt pc 16 then (bif Nat.beq pc 15 then J_aload 0 16 else jbad) else (bif Nat.blt pc 19 then (bif Nat.beq pc 16 then J_getfield 6 1 19 else jbad) else (bif Nat.beq pc 19 then J_aload 0 20 else jbad))) else (bif Nat.blt pc 26 then (bif Nat.blt pc 23 then (bif Nat.beq pc 20 then J_getfield 6 0 23 else jbad) else (bif Nat.beq pc 23 then J_callV 3 S_X3_build 1 26 else jbad)) else (bif Nat.blt pc 27 then (bif Nat.beq pc 26 then J_aload 0 27 else jbad) else (bif Nat.beq pc 27 then J_getfield 6 3 30 else jbad)))))
theorem ftl_X6_site_0 : F_X6_site_0 0 = J_aload 0 1 := rfl
theorem ftl_X6_site_1 : F_X6_site_0 1 = J_getfield 6 0 4 := rfl
theorem ftl_X6_site_4 : F_X6_site_0 4 = J_callV 5 S_X5_firstFault 0 7 := rfl
theorem ftl_X6_site_7 : F_X6_site_0 7 = J_iconst (-9) 9 := rfl
theorem ftl_X6_site_9 : F_X6_site_0 9 = J_iceq 15 12 := rfl
theorem ftl_X6_site_12 : F_X6_site_0 12 = J_iconst (-3) 14 := rfl
theorem ftl_X6_site_14 : F_X6_site_0 14 = J_ireturn 0 0 := rfl
theorem ftl_X6_site_15 : F_X6_site_0 15 = J_aload 0 16 := rfl
theorem ftl_X6_site_16 : F_X6_site_0 16 = J_getfield 6 1 19 := rfl
theorem ftl_X6_site_19 : F_X6_site_0 19 = J_aload 0 20 := rfl
theorem ftl_X6_site_20 : F_X6_site_0 20 = J_getfield 6 0 23 := rfl
theorem ftl_X6_site_23 : F_X6_site_0 23 = J_callV 3 S_X3_build 1 26 := rfl
theorem ftl_X6_site_26 : F_X6_site_0 26 = J_aload 0 27 := rfl
theorem ftl_X6_site_27 : F_X6_site_0 27 = J_getfield 6 3 30 := rfl
theorem F_X6_site_0_ok : jOK Y_X6_site none (F_X6_site_0) := (jOK_node (jOK_node (jOK_node (jOK_leaf (sn_aload_n dX6_site_0 rfl rfl)) (jOK_node (jOK_leaf (sn_getfield dX6_site_1 rfl rfl (by decide) tw_166 jin6)) (jOK_leaf (sn_callV (Y' := Y_X5_firstFault) ok_X5_firstFault dX6_site_4 rfl rfl rfl tw_216 tw_217 tw_218 tw_2 jc_X5_firstFault rfl ⟨by decide, by decide, rfl⟩ ⟨by decide, by decide⟩)))) (jOK_node (jOK_node (jOK_leaf (sn_bipush dX6_site_7 rfl rfl)) (jOK_leaf (sn_iceq dX6_site_9 rfl rfl))) (jOK_node (jOK_leaf (sn_bipush dX6_site_12 rfl rfl)) (jOK_leaf (sn_ireturn dX6_site_14 rfl rfl))))) (jOK_node (jOK_node (jOK_leaf (sn_aload_n dX6_site_15 rfl rfl)) (jOK_node (jOK_leaf (sn_getfield dX6_site_16 rfl rfl (by decide) tw_167 jin6)) (jOK_leaf (sn_aload_n dX6_site_19 rfl rfl)))) (jOK_node (jOK_node (jOK_leaf (sn_getfield dX6_site_20 rfl rfl (by decide) tw_166 jin6)) (jOK_leaf (sn_callV (Y' := Y_X3_build) ok_X3_build dX6_site_23 rfl rfl rfl tw_244 tw_245 tw_246 tw_3 jc_X3_build rfl ⟨by decide, by decide, rfl⟩ ⟨by decide, by decide⟩))) (jOK_node (jOK_leaf (sn_aload_n dX6_site_26 rfl rfl)) (jOK_leaf (sn_getfield dX6_site_27 rfl rfl (by decide) tw_169 jin6))))))
def F_X6_site_30 : Nat → jT := fun pc => (bif Nat.blt pc 45 then (bif Nat.blt pc 37 then (bif Nat.blt pc 31 then (bif Nat.beq pc 30 then J_aload 0 31 else jbad) else (bif Nat.blt pc 34 then (bif Nat.beq pc 31 then J_getfield 6 1 34 else jbad) else (bif Nat.beq pc 34 then J_callV 4 S_X4_begin 1 37 else jbad))) else (bif Nat.blt pc 41 then (bif Nat.blt pc 38 then (bif Nat.beq pc 37 then J_aload 0 38 else jbad) else (bif Nat.beq pc 38 then J_getfield 6 5 41 else jbad)) else (bif Nat.blt pc 42 then (bif Nat.beq pc 41 then J_iconst 0 42 else jbad) else (bif Nat.beq pc 42 then J_putI 1 2 45 else jbad)))) else (bif Nat.blt pc 50 then (bif Nat.blt pc 46 then (bif Nat.beq pc 45 then J_aload 0 46 else jbad) else (bif Nat.blt pc 47 then (bif Nat.beq pc 46 then J_iconst 0 47 else jbad) else (bif Nat.beq pc 47 then J_putI 6 9 50 else jbad))) else (bif Nat.blt pc 54 then (bif Nat.blt pc 51 then (bif Nat.beq pc 50 then J_aload 0 51 else jbad) else (bif Nat.beq pc 51 then J_getfield 6 1 54 else jbad)) else (bif Nat.blt pc 57 then (bif Nat.beq pc 54 then J_getfield 3 2 57 else jbad) else (bif Nat.beq pc 57 then J_ireturn 0 0 else jbad)))))
theorem ftl_X6_site_30 : F_X6_site_30 30 = J_aload 0 31 := rfl
theorem ftl_X6_site_31 : F_X6_site_30 31 = J_getfield 6 1 34 := rfl
theorem ftl_X6_site_34 : F_X6_site_30 34 = J_callV 4 S_X4_begin 1 37 := rfl
theorem ftl_X6_site_37 : F_X6_site_30 37 = J_aload 0 38 := rfl
theorem ftl_X6_site_38 : F_X6_site_30 38 = J_getfield 6 5 41 := rfl
theorem ftl_X6_site_41 : F_X6_site_30 41 = J_iconst 0 42 := rfl
theorem ftl_X6_site_42 : F_X6_site_30 42 = J_putI 1 2 45 := rfl
theorem ftl_X6_site_45 : F_X6_site_30 45 = J_aload 0 46 := rfl
theorem ftl_X6_site_46 : F_X6_site_30 46 = J_iconst 0 47 := rfl
theorem ftl_X6_site_47 : F_X6_site_30 47 = J_putI 6 9 50 := rfl
theorem ftl_X6_site_50 : F_X6_site_30 50 = J_aload 0 51 := rfl
theorem ftl_X6_site_51 : F_X6_site_30 51 = J_getfield 6 1 54 := rfl
theorem ftl_X6_site_54 : F_X6_site_30 54 = J_getfield 3 2 57 := rfl
theorem ftl_X6_site_57 : F_X6_site_30 57 = J_ireturn 0 0 := rfl
theorem F_X6_site_30_ok : jOK Y_X6_site none (F_X6_site_30) := (jOK_node (jOK_node (jOK_node (jOK_leaf (sn_aload_n dX6_site_30 rfl rfl)) (jOK_node (jOK_leaf (sn_getfield dX6_site_31 rfl rfl (by decide) tw_167 jin6)) (jOK_leaf (sn_callV (Y' := Y_X4_begin) ok_X4_begin dX6_site_34 rfl rfl rfl tw_146 tw_147 tw_148 tw_5 jc_X4_begin rfl ⟨by decide, by decide, rfl⟩ ⟨by decide, by decide⟩)))) (jOK_node (jOK_node (jOK_leaf (sn_aload_n dX6_site_37 rfl rfl)) (jOK_leaf (sn_getfield dX6_site_38 rfl rfl (by decide) tw_171 jin6))) (jOK_node (jOK_leaf (sn_iconst dX6_site_41 rfl rfl)) (jOK_leaf (sn_putI tyX1 dX6_site_42 rfl rfl (by decide) tw_118 jin1 tyX1_ok nmX1 rfl rfl))))) (jOK_node (jOK_node (jOK_leaf (sn_aload_n dX6_site_45 rfl rfl)) (jOK_node (jOK_leaf (sn_iconst dX6_site_46 rfl rfl)) (jOK_leaf (sn_putI tyX6 dX6_site_47 rfl rfl (by decide) tw_175 jin6 tyX6_ok nmX6 rfl rfl)))) (jOK_node (jOK_node (jOK_leaf (sn_aload_n dX6_site_50 rfl rfl)) (jOK_leaf (sn_getfield dX6_site_51 rfl rfl (by decide) tw_167 jin6))) (jOK_node (jOK_leaf (sn_getfield dX6_site_54 rfl rfl (by decide) tw_45 jin3)) (jOK_leaf (sn_ireturn dX6_site_57 rfl rfl))))))
def F_X6_site_0_57 : Nat → jT := fun pc => bif Nat.blt pc 30 then F_X6_site_0 pc else F_X6_site_30 pc
theorem F_X6_site_0_57_l {pc : Nat} (h : Nat.blt pc 30 = true) : F_X6_site_0_57 pc = F_X6_site_0 pc := by unfold F_X6_site_0_57; rw [h]; rfl
theorem F_X6_site_0_57_r {pc : Nat} (h : Nat.blt pc 30 = false) : F_X6_site_0_57 pc = F_X6_site_30 pc := by unfold F_X6_site_0_57; rw [h]; rfl
theorem F_X6_site_0_57_ok : jOK Y_X6_site none (F_X6_site_0_57) := jOK_node (F_X6_site_0_ok) (F_X6_site_30_ok)
def F_X6_site : Nat → jT := F_X6_site_0_57
theorem OK_X6_site : jOK Y_X6_site none (F_X6_site) := F_X6_site_0_57_ok
theorem ft_X6_site_0 : F_X6_site 0 = J_aload 0 1 := (F_X6_site_0_57_l rfl).trans (ftl_X6_site_0)
theorem ft_X6_site_1 : F_X6_site 1 = J_getfield 6 0 4 := (F_X6_site_0_57_l rfl).trans (ftl_X6_site_1)
theorem ft_X6_site_4 : F_X6_site 4 = J_callV 5 S_X5_firstFault 0 7 := (F_X6_site_0_57_l rfl).trans (ftl_X6_site_4)
theorem ft_X6_site_7 : F_X6_site 7 = J_iconst (-9) 9 := (F_X6_site_0_57_l rfl).trans (ftl_X6_site_7)
theorem ft_X6_site_9 : F_X6_site 9 = J_iceq 15 12 := (F_X6_site_0_57_l rfl).trans (ftl_X6_site_9)
theorem ft_X6_site_12 : F_X6_site 12 = J_iconst (-3) 14 := (F_X6_site_0_57_l rfl).trans (ftl_X6_site_12)
theorem ft_X6_site_14 : F_X6_site 14 = J_ireturn 0 0 := (F_X6_site_0_57_l rfl).trans (ftl_X6_site_14)
theorem ft_X6_site_15 : F_X6_site 15 = J_aload 0 16 := (F_X6_site_0_57_l rfl).trans (ftl_X6_site_15)
theorem ft_X6_site_16 : F_X6_site 16 = J_getfield 6 1 19 := (F_X6_site_0_57_l rfl).trans (ftl_X6_site_16)
theorem ft_X6_site_19 : F_X6_site 19 = J_aload 0 20 := (F_X6_site_0_57_l rfl).trans (ftl_X6_site_19)
theorem ft_X6_site_20 : F_X6_site 20 = J_getfield 6 0 23 := (F_X6_site_0_57_l rfl).trans (ftl_X6_site_20)
theorem ft_X6_site_23 : F_X6_site 23 = J_callV 3 S_X3_build 1 26 := (F_X6_site_0_57_l rfl).trans (ftl_X6_site_23)
theorem ft_X6_site_26 : F_X6_site 26 = J_aload 0 27 := (F_X6_site_0_57_l rfl).trans (ftl_X6_site_26)
theorem ft_X6_site_27 : F_X6_site 27 = J_getfield 6 3 30 := (F_X6_site_0_57_l rfl).trans (ftl_X6_site_27)
theorem ft_X6_site_30 : F_X6_site 30 = J_aload 0 31 := (F_X6_site_0_57_r rfl).trans (ftl_X6_site_30)
theorem ft_X6_site_31 : F_X6_site 31 = J_getfield 6 1 34 := (F_X6_site_0_57_r rfl).trans (ftl_X6_site_31)
theorem ft_X6_site_34 : F_X6_site 34 = J_callV 4 S_X4_begin 1 37 := (F_X6_site_0_57_r rfl).trans (ftl_X6_site_34)
theorem ft_X6_site_37 : F_X6_site 37 = J_aload 0 38 := (F_X6_site_0_57_r rfl).trans (ftl_X6_site_37)
theorem ft_X6_site_38 : F_X6_site 38 = J_getfield 6 5 41 := (F_X6_site_0_57_r rfl).trans (ftl_X6_site_38)
theorem ft_X6_site_41 : F_X6_site 41 = J_iconst 0 42 := (F_X6_site_0_57_r rfl).trans (ftl_X6_site_41)
theorem ft_X6_site_42 : F_X6_site 42 = J_putI 1 2 45 := (F_X6_site_0_57_r rfl).trans (ftl_X6_site_42)
theorem ft_X6_site_45 : F_X6_site 45 = J_aload 0 46 := (F_X6_site_0_57_r rfl).trans (ftl_X6_site_45)
theorem ft_X6_site_46 : F_X6_site 46 = J_iconst 0 47 := (F_X6_site_0_57_r rfl).trans (ftl_X6_site_46)
theorem ft_X6_site_47 : F_X6_site 47 = J_putI 6 9 50 := (F_X6_site_0_57_r rfl).trans (ftl_X6_site_47)
theorem ft_X6_site_50 : F_X6_site 50 = J_aload 0 51 := (F_X6_site_0_57_r rfl).trans (ftl_X6_site_50)
theorem ft_X6_site_51 : F_X6_site 51 = J_getfield 6 1 54 := (F_X6_site_0_57_r rfl).trans (ftl_X6_site_51)
theorem ft_X6_site_54 : F_X6_site 54 = J_getfield 3 2 57 := (F_X6_site_0_57_r rfl).trans (ftl_X6_site_54)
theorem ft_X6_site_57 : F_X6_site 57 = J_ireturn 0 0 := (F_X6_site_0_57_r rfl).trans (ftl_X6_site_57)
theorem ok_X6_site : jMeets Y_X6_site S_X6_site := by
  intro nb vs mem Q h
  obtain ⟨C, z, n, rfl, rfl, hn, h70, c9, hQ⟩ := h
  refine Ok.run OK_X6_site [] 60 [] pn6 (Nat.le_of_ble_eq_true rfl) rfl ?_
  simp -implicitDefEqProofs only [jr_0, jr_1, jr_2, j_iconst, j_lconst, j_iload0, j_aload0, j_istore0, j_astore0, j_iinc0, j_iload1, j_aload1, j_istore1, j_astore1, j_iinc1, j_iload2, j_aload2, j_istore2, j_astore2, j_iinc2, j_iload3, j_aload3, j_istore3, j_astore3, j_iinc3, j_iload4, j_aload4, j_istore4, j_astore4, j_iinc4, j_iload5, j_aload5, j_istore5, j_astore5, j_iinc5, j_iload6, j_aload6, j_istore6, j_astore6, j_iinc6, j_iload7, j_aload7, j_istore7, j_astore7, j_iinc7, j_iload8, j_aload8, j_istore8, j_astore8, j_iinc8, j_iadd, j_isub, j_imul, j_iand, j_ior, j_ixor, j_ishl, j_ishr, j_iushr, j_idiv, j_irem, j_ineg, j_ladd, j_lmul, j_land, j_lor, j_lcmp, j_lushr, j_lshl, j_i2l, j_l2i, j_dupI, j_dupR, j_popI, j_dup2, j_ifeq, j_iceq, j_ifne, j_icne, j_iflt, j_iclt, j_ifge, j_icge, j_ifgt, j_icgt, j_ifle, j_icle, j_goto, j_tsw, j_sw0, j_sw1, j_ireturn, j_zreturn, j_lreturn, j_return, j_getfield, j_putI, j_putJ, j_putR, j_iaload, j_baload, j_iastore, j_bastore, j_aaload, j_q, j_aastore, j_acopy, j_mmin, j_mmax, j_mabs, j_objinit, j_new, j_newI, j_newQ, j_sld, j_slen, j_callV0, j_callI0, j_callS0, j_callV1, j_callI1, j_callS1, j_callV2, j_callI2, j_callS2, j_callV3, j_callS3, j_callV4, j_callS4, j_callV5, j_callS5, j_pushS, j_pushN, j_sh0, j_sh1, j_sh2, j_sh3, j_sh4, Int32.reduceAdd, Int32.reduceMul, Int32.reduceSub, Int32.reduceLT, Int32.reduceLE, eq_self, i32_10, i32_01, ne_eq, hrow_s, hrow_n, ne10, ne100, ne1000, ne7, ne4, ne14, ne9973, or_true, true_or, or_false, false_or, not_true_eq_false, not_false_eq_true, false_implies, implies_true, and_true, forall_const, true_implies, jargs_n, jargs_r, jargs_i, List.cons_append, List.nil_append, true_and, Nat.reduceEqDiff, reduceIte, ft_X6_site_0, ft_X6_site_1, ft_X6_site_4, ft_X6_site_7, ft_X6_site_9, ft_X6_site_12, ft_X6_site_14, ft_X6_site_15, ft_X6_site_16, ft_X6_site_19, ft_X6_site_20, ft_X6_site_23, ft_X6_site_26, ft_X6_site_27, ft_X6_site_30, ft_X6_site_31, ft_X6_site_34, ft_X6_site_37, ft_X6_site_38, ft_X6_site_41, ft_X6_site_42, ft_X6_site_45, ft_X6_site_46, ft_X6_site_47, ft_X6_site_50, ft_X6_site_51, ft_X6_site_54, ft_X6_site_57, rc_1, fl_0_0]
  refine s_X5_firstFault hn h70 ?_
  simp -implicitDefEqProofs only [jr_0, jr_1, jr_2, j_iconst, j_lconst, j_iload0, j_aload0, j_istore0, j_astore0, j_iinc0, j_iload1, j_aload1, j_istore1, j_astore1, j_iinc1, j_iload2, j_aload2, j_istore2, j_astore2, j_iinc2, j_iload3, j_aload3, j_istore3, j_astore3, j_iinc3, j_iload4, j_aload4, j_istore4, j_astore4, j_iinc4, j_iload5, j_aload5, j_istore5, j_astore5, j_iinc5, j_iload6, j_aload6, j_istore6, j_astore6, j_iinc6, j_iload7, j_aload7, j_istore7, j_astore7, j_iinc7, j_iload8, j_aload8, j_istore8, j_astore8, j_iinc8, j_iadd, j_isub, j_imul, j_iand, j_ior, j_ixor, j_ishl, j_ishr, j_iushr, j_idiv, j_irem, j_ineg, j_ladd, j_lmul, j_land, j_lor, j_lcmp, j_lushr, j_lshl, j_i2l, j_l2i, j_dupI, j_dupR, j_popI, j_dup2, j_ifeq, j_iceq, j_ifne, j_icne, j_iflt, j_iclt, j_ifge, j_icge, j_ifgt, j_icgt, j_ifle, j_icle, j_goto, j_tsw, j_sw0, j_sw1, j_ireturn, j_zreturn, j_lreturn, j_return, j_getfield, j_putI, j_putJ, j_putR, j_iaload, j_baload, j_iastore, j_bastore, j_aaload, j_q, j_aastore, j_acopy, j_mmin, j_mmax, j_mabs, j_objinit, j_new, j_newI, j_newQ, j_sld, j_slen, j_callV0, j_callI0, j_callS0, j_callV1, j_callI1, j_callS1, j_callV2, j_callI2, j_callS2, j_callV3, j_callS3, j_callV4, j_callS4, j_callV5, j_callS5, j_pushS, j_pushN, j_sh0, j_sh1, j_sh2, j_sh3, j_sh4, Int32.reduceAdd, Int32.reduceMul, Int32.reduceSub, Int32.reduceLT, Int32.reduceLE, eq_self, i32_10, i32_01, ne_eq, hrow_s, hrow_n, ne10, ne100, ne1000, ne7, ne4, ne14, ne9973, or_true, true_or, or_false, false_or, not_true_eq_false, not_false_eq_true, false_implies, implies_true, and_true, forall_const, true_implies, jargs_n, jargs_r, jargs_i, List.cons_append, List.nil_append, true_and, Nat.reduceEqDiff, reduceIte, ft_X6_site_0, ft_X6_site_1, ft_X6_site_4, ft_X6_site_7, ft_X6_site_9, ft_X6_site_12, ft_X6_site_14, ft_X6_site_15, ft_X6_site_16, ft_X6_site_19, ft_X6_site_20, ft_X6_site_23, ft_X6_site_26, ft_X6_site_27, ft_X6_site_30, ft_X6_site_31, ft_X6_site_34, ft_X6_site_37, ft_X6_site_38, ft_X6_site_41, ft_X6_site_42, ft_X6_site_45, ft_X6_site_46, ft_X6_site_47, ft_X6_site_50, ft_X6_site_51, ft_X6_site_54, ft_X6_site_57, rc_3, fl_0_0, fl_0_1]
  by_cases h1 : faultA (C 2) n = -9
  · rw [pick_t h1] at hQ
    simp only [h1, not_true_eq_false, not_false_eq_true, true_implies, false_implies, implies_true, and_true, true_and, forall_const]
    refine s_X3_build hn h70 ?_
    simp -implicitDefEqProofs only [jr_0, jr_1, jr_2, j_iconst, j_lconst, j_iload0, j_aload0, j_istore0, j_astore0, j_iinc0, j_iload1, j_aload1, j_istore1, j_astore1, j_iinc1, j_iload2, j_aload2, j_istore2, j_astore2, j_iinc2, j_iload3, j_aload3, j_istore3, j_astore3, j_iinc3, j_iload4, j_aload4, j_istore4, j_astore4, j_iinc4, j_iload5, j_aload5, j_istore5, j_astore5, j_iinc5, j_iload6, j_aload6, j_istore6, j_astore6, j_iinc6, j_iload7, j_aload7, j_istore7, j_astore7, j_iinc7, j_iload8, j_aload8, j_istore8, j_astore8, j_iinc8, j_iadd, j_isub, j_imul, j_iand, j_ior, j_ixor, j_ishl, j_ishr, j_iushr, j_idiv, j_irem, j_ineg, j_ladd, j_lmul, j_land, j_lor, j_lcmp, j_lushr, j_lshl, j_i2l, j_l2i, j_dupI, j_dupR, j_popI, j_dup2, j_ifeq, j_iceq, j_ifne, j_icne, j_iflt, j_iclt, j_ifge, j_icge, j_ifgt, j_icgt, j_ifle, j_icle, j_goto, j_tsw, j_sw0, j_sw1, j_ireturn, j_zreturn, j_lreturn, j_return, j_getfield, j_putI, j_putJ, j_putR, j_iaload, j_baload, j_iastore, j_bastore, j_aaload, j_q, j_aastore, j_acopy, j_mmin, j_mmax, j_mabs, j_objinit, j_new, j_newI, j_newQ, j_sld, j_slen, j_callV0, j_callI0, j_callS0, j_callV1, j_callI1, j_callS1, j_callV2, j_callI2, j_callS2, j_callV3, j_callS3, j_callV4, j_callS4, j_callV5, j_callS5, j_pushS, j_pushN, j_sh0, j_sh1, j_sh2, j_sh3, j_sh4, Int32.reduceAdd, Int32.reduceMul, Int32.reduceSub, Int32.reduceLT, Int32.reduceLE, eq_self, i32_10, i32_01, ne_eq, hrow_s, hrow_n, ne10, ne100, ne1000, ne7, ne4, ne14, ne9973, or_true, true_or, or_false, false_or, not_true_eq_false, not_false_eq_true, false_implies, implies_true, and_true, forall_const, true_implies, jargs_n, jargs_r, jargs_i, List.cons_append, List.nil_append, true_and, Nat.reduceEqDiff, reduceIte, ft_X6_site_0, ft_X6_site_1, ft_X6_site_4, ft_X6_site_7, ft_X6_site_9, ft_X6_site_12, ft_X6_site_14, ft_X6_site_15, ft_X6_site_16, ft_X6_site_19, ft_X6_site_20, ft_X6_site_23, ft_X6_site_26, ft_X6_site_27, ft_X6_site_30, ft_X6_site_31, ft_X6_site_34, ft_X6_site_37, ft_X6_site_38, ft_X6_site_41, ft_X6_site_42, ft_X6_site_45, ft_X6_site_46, ft_X6_site_47, ft_X6_site_50, ft_X6_site_51, ft_X6_site_54, ft_X6_site_57, rc_3, fl_0_1, fl_0_3, jrcv_st js_9]
    have c9' : Cut (bldC C n 9) := by rw [bldC_o (by decide) (by decide) (by decide)]; exact c9
    refine s_X4_begin js_9 jD94 c9' ?_
    have e15 : bldC C n 15 = C 15 := bldC_o (by decide) (by decide) (by decide)
    have e0 : bldC C n 0 = C 0 := bldC_o (by decide) (by decide) (by decide)
    have e3 : bldC C n 3 2 = nI (bdS C n).1.1 := by
      unfold bldC bdM
      rw [hrow_s, upd_ne (by decide), upd_eq]
    simp -implicitDefEqProofs only [jr_0, jr_1, jr_2, j_iconst, j_lconst, j_iload0, j_aload0, j_istore0, j_astore0, j_iinc0, j_iload1, j_aload1, j_istore1, j_astore1, j_iinc1, j_iload2, j_aload2, j_istore2, j_astore2, j_iinc2, j_iload3, j_aload3, j_istore3, j_astore3, j_iinc3, j_iload4, j_aload4, j_istore4, j_astore4, j_iinc4, j_iload5, j_aload5, j_istore5, j_astore5, j_iinc5, j_iload6, j_aload6, j_istore6, j_astore6, j_iinc6, j_iload7, j_aload7, j_istore7, j_astore7, j_iinc7, j_iload8, j_aload8, j_istore8, j_astore8, j_iinc8, j_iadd, j_isub, j_imul, j_iand, j_ior, j_ixor, j_ishl, j_ishr, j_iushr, j_idiv, j_irem, j_ineg, j_ladd, j_lmul, j_land, j_lor, j_lcmp, j_lushr, j_lshl, j_i2l, j_l2i, j_dupI, j_dupR, j_popI, j_dup2, j_ifeq, j_iceq, j_ifne, j_icne, j_iflt, j_iclt, j_ifge, j_icge, j_ifgt, j_icgt, j_ifle, j_icle, j_goto, j_tsw, j_sw0, j_sw1, j_ireturn, j_zreturn, j_lreturn, j_return, j_getfield, j_putI, j_putJ, j_putR, j_iaload, j_baload, j_iastore, j_bastore, j_aaload, j_q, j_aastore, j_acopy, j_mmin, j_mmax, j_mabs, j_objinit, j_new, j_newI, j_newQ, j_sld, j_slen, j_callV0, j_callI0, j_callS0, j_callV1, j_callI1, j_callS1, j_callV2, j_callI2, j_callS2, j_callV3, j_callS3, j_callV4, j_callS4, j_callV5, j_callS5, j_pushS, j_pushN, j_sh0, j_sh1, j_sh2, j_sh3, j_sh4, Int32.reduceAdd, Int32.reduceMul, Int32.reduceSub, Int32.reduceLT, Int32.reduceLE, eq_self, i32_10, i32_01, ne_eq, hrow_s, hrow_n, ne10, ne100, ne1000, ne7, ne4, ne14, ne9973, or_true, true_or, or_false, false_or, not_true_eq_false, not_false_eq_true, false_implies, implies_true, and_true, forall_const, true_implies, jargs_n, jargs_r, jargs_i, List.cons_append, List.nil_append, true_and, Nat.reduceEqDiff, reduceIte, ft_X6_site_0, ft_X6_site_1, ft_X6_site_4, ft_X6_site_7, ft_X6_site_9, ft_X6_site_12, ft_X6_site_14, ft_X6_site_15, ft_X6_site_16, ft_X6_site_19, ft_X6_site_20, ft_X6_site_23, ft_X6_site_26, ft_X6_site_27, ft_X6_site_30, ft_X6_site_31, ft_X6_site_34, ft_X6_site_37, ft_X6_site_38, ft_X6_site_41, ft_X6_site_42, ft_X6_site_45, ft_X6_site_46, ft_X6_site_47, ft_X6_site_50, ft_X6_site_51, ft_X6_site_54, ft_X6_site_57, rc_3, fl_0_1, fl_0_3, fl_0_5, fl_3_2, fp_0_9, fp_15_2, e15, e0, e3]
    exact hQ
  · rw [pick_f h1] at hQ
    simp only [h1, not_true_eq_false, not_false_eq_true, true_implies, false_implies, implies_true, and_true, true_and, forall_const]
    exact hQ
theorem s_X6_site {nb n : Nat} {C : Nat → Nat → Int32} {z : Nat → Int64} {Q : jQ} (hn : C 1 1 = nI n) (h70 : n ≤ 70) (c9 : Cut (C 9)) (hQ : pick (faultA (C 2) n = -9) (Q (some (.int (nI (bdS C n).1.1))) (memS 94 (siteC C n) z)) (Q (some (.int (-3))) (memS 94 C z))) : S_X6_site nb [.ref 0] (memS 94 C z) Q := ⟨C, z, n, rfl, rfl, hn, h70, c9, hQ⟩
