/-! give: g is the row of what is given, i counts; left is what is left of the limit -/
noncomputable def gv1 (left : Int32) : Int32 := pick (left ≤ 0) 0 1
noncomputable def give1 (g : Nat → Int32) (left : Int32) : Nat → (Nat → Int32) × Int32
  | 0 => (g, left)
  | i + 1 => (upd (give1 g left i).1 i (gv1 (give1 g left i).2), (give1 g left i).2 - gv1 (give1 g left i).2)
noncomputable def gmore (T Am ρ o : Nat → Int32) (l : Int32) (i : Nat) (q : (Nat → Int32) × Int32) : Int32 := minI q.2 (mostF T Am ρ (o i) l - q.1 i)
noncomputable def give2 (T Am ρ o : Nat → Int32) (l : Int32) (q : (Nat → Int32) × Int32) : Nat → (Nat → Int32) × Int32
  | 0 => q
  | i + 1 => (upd (give2 T Am ρ o l q i).1 i ((give2 T Am ρ o l q i).1 i + gmore T Am ρ o l i (give2 T Am ρ o l q i)), (give2 T Am ρ o l q i).2 - gmore T Am ρ o l i (give2 T Am ρ o l q i))
noncomputable def giveF (T Am ρ o : Nat → Int32) (l : Int32) (n : Nat) (g : Nat → Int32) : Nat → Int32 := (give2 T Am ρ o l (give1 g (ρ 38) n) n).1
def S_X0_give : jSp := fun _ vs mem Q => ∃ C z s n, ∃ l : Int32, vs = [.ref 6, .ref s, .int (nI n), .int l] ∧ mem = memS 94 C z ∧ jSt s 94 ∧ n ≤ 4 ∧ Q none (memS 94 (hrow C 8 (giveF (C 5) (C 4) (C s) (C 7) l n (C 8))) z)
def F_X0_give_0 : Nat → jT := fun pc => (bif Nat.blt pc 7 then (bif Nat.blt pc 4 then (bif Nat.blt pc 1 then (bif Nat.beq pc 0 then J_aload 1 1 else jbad) else (bif Nat.beq pc 1 then J_getfield 4 2 4 else jbad)) else (bif Nat.blt pc 6 then (bif Nat.beq pc 4 then J_istore 4 6 else jbad) else (bif Nat.beq pc 6 then J_iconst 0 7 else jbad))) else (bif Nat.blt pc 11 then (bif Nat.blt pc 9 then (bif Nat.beq pc 7 then J_istore 5 9 else jbad) else (bif Nat.beq pc 9 then J_iload 5 11 else jbad)) else (bif Nat.blt pc 12 then (bif Nat.beq pc 11 then J_iload 2 12 else jbad) else (bif Nat.beq pc 12 then J_icge 56 15 else jbad))))
theorem ftl_X0_give_0 : F_X0_give_0 0 = J_aload 1 1 := rfl
theorem ftl_X0_give_1 : F_X0_give_0 1 = J_getfield 4 2 4 := rfl
theorem ftl_X0_give_4 : F_X0_give_0 4 = J_istore 4 6 := rfl
theorem ftl_X0_give_6 : F_X0_give_0 6 = J_iconst 0 7 := rfl
theorem ftl_X0_give_7 : F_X0_give_0 7 = J_istore 5 9 := rfl
theorem ftl_X0_give_9 : F_X0_give_0 9 = J_iload 5 11 := rfl
theorem ftl_X0_give_11 : F_X0_give_0 11 = J_iload 2 12 := rfl
theorem ftl_X0_give_12 : F_X0_give_0 12 = J_icge 56 15 := rfl
theorem F_X0_give_0_ok : jOK Y_X0_give none (F_X0_give_0) := (jOK_node (jOK_node (jOK_node (jOK_leaf (sn_aload_n dX0_give_0 rfl rfl)) (jOK_leaf (sn_getfield dX0_give_1 rfl rfl (by decide) tw_93 jin4))) (jOK_node (jOK_leaf (sn_istore dX0_give_4 rfl (by decide))) (jOK_leaf (sn_iconst dX0_give_6 rfl rfl)))) (jOK_node (jOK_node (jOK_leaf (sn_istore dX0_give_7 rfl (by decide))) (jOK_leaf (sn_iload dX0_give_9 rfl))) (jOK_node (jOK_leaf (sn_iload_n dX0_give_11 rfl rfl)) (jOK_leaf (sn_icge dX0_give_12 rfl rfl)))))
def F_X0_give_15 : Nat → jT := fun pc => (bif Nat.blt pc 22 then (bif Nat.blt pc 18 then (bif Nat.blt pc 17 then (bif Nat.beq pc 15 then J_iload 5 17 else jbad) else (bif Nat.beq pc 17 then J_iconst 4 18 else jbad)) else (bif Nat.blt pc 21 then (bif Nat.beq pc 18 then J_icge 56 21 else jbad) else (bif Nat.beq pc 21 then J_aload 0 22 else jbad))) else (bif Nat.blt pc 27 then (bif Nat.blt pc 25 then (bif Nat.beq pc 22 then J_getfield 0 2 25 else jbad) else (bif Nat.beq pc 25 then J_iload 5 27 else jbad)) else (bif Nat.blt pc 29 then (bif Nat.beq pc 27 then J_iload 4 29 else jbad) else (bif Nat.blt pc 32 then (bif Nat.beq pc 29 then J_ifle 36 32 else jbad) else (bif Nat.beq pc 32 then J_iconst 1 33 else jbad)))))
theorem ftl_X0_give_15 : F_X0_give_15 15 = J_iload 5 17 := rfl
theorem ftl_X0_give_17 : F_X0_give_15 17 = J_iconst 4 18 := rfl
theorem ftl_X0_give_18 : F_X0_give_15 18 = J_icge 56 21 := rfl
theorem ftl_X0_give_21 : F_X0_give_15 21 = J_aload 0 22 := rfl
theorem ftl_X0_give_22 : F_X0_give_15 22 = J_getfield 0 2 25 := rfl
theorem ftl_X0_give_25 : F_X0_give_15 25 = J_iload 5 27 := rfl
theorem ftl_X0_give_27 : F_X0_give_15 27 = J_iload 4 29 := rfl
theorem ftl_X0_give_29 : F_X0_give_15 29 = J_ifle 36 32 := rfl
theorem ftl_X0_give_32 : F_X0_give_15 32 = J_iconst 1 33 := rfl
theorem F_X0_give_15_ok : jOK Y_X0_give none (F_X0_give_15) := (jOK_node (jOK_node (jOK_node (jOK_leaf (sn_iload dX0_give_15 rfl)) (jOK_leaf (sn_iconst dX0_give_17 rfl rfl))) (jOK_node (jOK_leaf (sn_icge dX0_give_18 rfl rfl)) (jOK_leaf (sn_aload_n dX0_give_21 rfl rfl)))) (jOK_node (jOK_node (jOK_leaf (sn_getfield dX0_give_22 rfl rfl (by decide) tw_75 jin0)) (jOK_leaf (sn_iload dX0_give_25 rfl))) (jOK_node (jOK_leaf (sn_iload dX0_give_27 rfl)) (jOK_node (jOK_leaf (sn_ifle dX0_give_29 rfl rfl)) (jOK_leaf (sn_iconst dX0_give_32 rfl rfl))))))
def F_X0_give_0_32 : Nat → jT := fun pc => bif Nat.blt pc 15 then F_X0_give_0 pc else F_X0_give_15 pc
theorem F_X0_give_0_32_ok : jOK Y_X0_give none (F_X0_give_0_32) := jOK_node (F_X0_give_0_ok) (F_X0_give_15_ok)
def F_X0_give_33 : Nat → jT := fun pc => (bif Nat.blt pc 40 then (bif Nat.blt pc 37 then (bif Nat.blt pc 36 then (bif Nat.beq pc 33 then J_goto 37 else jbad) else (bif Nat.beq pc 36 then J_iconst 0 37 else jbad)) else (bif Nat.blt pc 38 then (bif Nat.beq pc 37 then J_iastore 38 else jbad) else (bif Nat.beq pc 38 then J_iload 4 40 else jbad))) else (bif Nat.blt pc 44 then (bif Nat.blt pc 41 then (bif Nat.beq pc 40 then J_aload 0 41 else jbad) else (bif Nat.beq pc 41 then J_getfield 0 2 44 else jbad)) else (bif Nat.blt pc 46 then (bif Nat.beq pc 44 then J_iload 5 46 else jbad) else (bif Nat.beq pc 46 then J_iaload 47 else jbad))))
theorem ftl_X0_give_33 : F_X0_give_33 33 = J_goto 37 := rfl
theorem ftl_X0_give_36 : F_X0_give_33 36 = J_iconst 0 37 := rfl
theorem ftl_X0_give_37 : F_X0_give_33 37 = J_iastore 38 := rfl
theorem ftl_X0_give_38 : F_X0_give_33 38 = J_iload 4 40 := rfl
theorem ftl_X0_give_40 : F_X0_give_33 40 = J_aload 0 41 := rfl
theorem ftl_X0_give_41 : F_X0_give_33 41 = J_getfield 0 2 44 := rfl
theorem ftl_X0_give_44 : F_X0_give_33 44 = J_iload 5 46 := rfl
theorem ftl_X0_give_46 : F_X0_give_33 46 = J_iaload 47 := rfl
theorem F_X0_give_33_ok : jOK Y_X0_give none (F_X0_give_33) := (jOK_node (jOK_node (jOK_node (jOK_leaf (sn_goto dX0_give_33 rfl)) (jOK_leaf (sn_iconst dX0_give_36 rfl rfl))) (jOK_node (jOK_leaf (sn_iastore dX0_give_37 rfl)) (jOK_leaf (sn_iload dX0_give_38 rfl)))) (jOK_node (jOK_node (jOK_leaf (sn_aload_n dX0_give_40 rfl rfl)) (jOK_leaf (sn_getfield dX0_give_41 rfl rfl (by decide) tw_75 jin0))) (jOK_node (jOK_leaf (sn_iload dX0_give_44 rfl)) (jOK_leaf (sn_iaload dX0_give_46 rfl)))))
def F_X0_give_47 : Nat → jT := fun pc => (bif Nat.blt pc 56 then (bif Nat.blt pc 50 then (bif Nat.blt pc 48 then (bif Nat.beq pc 47 then J_isub 48 else jbad) else (bif Nat.beq pc 48 then J_istore 4 50 else jbad)) else (bif Nat.blt pc 53 then (bif Nat.beq pc 50 then J_iinc 5 1 53 else jbad) else (bif Nat.beq pc 53 then J_goto 9 else jbad))) else (bif Nat.blt pc 59 then (bif Nat.blt pc 57 then (bif Nat.beq pc 56 then J_iconst 0 57 else jbad) else (bif Nat.beq pc 57 then J_istore 5 59 else jbad)) else (bif Nat.blt pc 61 then (bif Nat.beq pc 59 then J_iload 5 61 else jbad) else (bif Nat.blt pc 62 then (bif Nat.beq pc 61 then J_iload 2 62 else jbad) else (bif Nat.beq pc 62 then J_icge 124 65 else jbad)))))
theorem ftl_X0_give_47 : F_X0_give_47 47 = J_isub 48 := rfl
theorem ftl_X0_give_48 : F_X0_give_47 48 = J_istore 4 50 := rfl
theorem ftl_X0_give_50 : F_X0_give_47 50 = J_iinc 5 1 53 := rfl
theorem ftl_X0_give_53 : F_X0_give_47 53 = J_goto 9 := rfl
theorem ftl_X0_give_56 : F_X0_give_47 56 = J_iconst 0 57 := rfl
theorem ftl_X0_give_57 : F_X0_give_47 57 = J_istore 5 59 := rfl
theorem ftl_X0_give_59 : F_X0_give_47 59 = J_iload 5 61 := rfl
theorem ftl_X0_give_61 : F_X0_give_47 61 = J_iload 2 62 := rfl
theorem ftl_X0_give_62 : F_X0_give_47 62 = J_icge 124 65 := rfl
theorem F_X0_give_47_ok : jOK Y_X0_give none (F_X0_give_47) := (jOK_node (jOK_node (jOK_node (jOK_leaf (sn_isub dX0_give_47 rfl)) (jOK_leaf (sn_istore dX0_give_48 rfl (by decide)))) (jOK_node (jOK_leaf (sn_iinc dX0_give_50 rfl rfl (by decide))) (jOK_leaf (sn_goto dX0_give_53 rfl)))) (jOK_node (jOK_node (jOK_leaf (sn_iconst dX0_give_56 rfl rfl)) (jOK_leaf (sn_istore dX0_give_57 rfl (by decide)))) (jOK_node (jOK_leaf (sn_iload dX0_give_59 rfl)) (jOK_node (jOK_leaf (sn_iload_n dX0_give_61 rfl rfl)) (jOK_leaf (sn_icge dX0_give_62 rfl rfl))))))
def F_X0_give_33_62 : Nat → jT := fun pc => bif Nat.blt pc 47 then F_X0_give_33 pc else F_X0_give_47 pc
theorem F_X0_give_33_62_ok : jOK Y_X0_give none (F_X0_give_33_62) := jOK_node (F_X0_give_33_ok) (F_X0_give_47_ok)
def F_X0_give_0_62 : Nat → jT := fun pc => bif Nat.blt pc 33 then F_X0_give_0_32 pc else F_X0_give_33_62 pc
theorem F_X0_give_0_62_ok : jOK Y_X0_give none (F_X0_give_0_62) := jOK_node (F_X0_give_0_32_ok) (F_X0_give_33_62_ok)
def F_X0_give_65 : Nat → jT := fun pc => (bif Nat.blt pc 73 then (bif Nat.blt pc 68 then (bif Nat.blt pc 67 then (bif Nat.beq pc 65 then J_iload 5 67 else jbad) else (bif Nat.beq pc 67 then J_iconst 4 68 else jbad)) else (bif Nat.blt pc 71 then (bif Nat.beq pc 68 then J_icge 124 71 else jbad) else (bif Nat.beq pc 71 then J_iload 4 73 else jbad))) else (bif Nat.blt pc 75 then (bif Nat.blt pc 74 then (bif Nat.beq pc 73 then J_aload 0 74 else jbad) else (bif Nat.beq pc 74 then J_aload 1 75 else jbad)) else (bif Nat.blt pc 76 then (bif Nat.beq pc 75 then J_aload 0 76 else jbad) else (bif Nat.beq pc 76 then J_getfield 0 1 79 else jbad))))
theorem ftl_X0_give_65 : F_X0_give_65 65 = J_iload 5 67 := rfl
theorem ftl_X0_give_67 : F_X0_give_65 67 = J_iconst 4 68 := rfl
theorem ftl_X0_give_68 : F_X0_give_65 68 = J_icge 124 71 := rfl
theorem ftl_X0_give_71 : F_X0_give_65 71 = J_iload 4 73 := rfl
theorem ftl_X0_give_73 : F_X0_give_65 73 = J_aload 0 74 := rfl
theorem ftl_X0_give_74 : F_X0_give_65 74 = J_aload 1 75 := rfl
theorem ftl_X0_give_75 : F_X0_give_65 75 = J_aload 0 76 := rfl
theorem ftl_X0_give_76 : F_X0_give_65 76 = J_getfield 0 1 79 := rfl
theorem F_X0_give_65_ok : jOK Y_X0_give none (F_X0_give_65) := (jOK_node (jOK_node (jOK_node (jOK_leaf (sn_iload dX0_give_65 rfl)) (jOK_leaf (sn_iconst dX0_give_67 rfl rfl))) (jOK_node (jOK_leaf (sn_icge dX0_give_68 rfl rfl)) (jOK_leaf (sn_iload dX0_give_71 rfl)))) (jOK_node (jOK_node (jOK_leaf (sn_aload_n dX0_give_73 rfl rfl)) (jOK_leaf (sn_aload_n dX0_give_74 rfl rfl))) (jOK_node (jOK_leaf (sn_aload_n dX0_give_75 rfl rfl)) (jOK_leaf (sn_getfield dX0_give_76 rfl rfl (by decide) tw_74 jin0)))))
def F_X0_give_79 : Nat → jT := fun pc => (bif Nat.blt pc 86 then (bif Nat.blt pc 82 then (bif Nat.blt pc 81 then (bif Nat.beq pc 79 then J_iload 5 81 else jbad) else (bif Nat.beq pc 81 then J_iaload 82 else jbad)) else (bif Nat.blt pc 83 then (bif Nat.beq pc 82 then J_iload 3 83 else jbad) else (bif Nat.beq pc 83 then J_callV 0 S_X0_mostFor 3 86 else jbad))) else (bif Nat.blt pc 90 then (bif Nat.blt pc 87 then (bif Nat.beq pc 86 then J_aload 0 87 else jbad) else (bif Nat.beq pc 87 then J_getfield 0 2 90 else jbad)) else (bif Nat.blt pc 92 then (bif Nat.beq pc 90 then J_iload 5 92 else jbad) else (bif Nat.blt pc 93 then (bif Nat.beq pc 92 then J_iaload 93 else jbad) else (bif Nat.beq pc 93 then J_isub 94 else jbad)))))
theorem ftl_X0_give_79 : F_X0_give_79 79 = J_iload 5 81 := rfl
theorem ftl_X0_give_81 : F_X0_give_79 81 = J_iaload 82 := rfl
theorem ftl_X0_give_82 : F_X0_give_79 82 = J_iload 3 83 := rfl
theorem ftl_X0_give_83 : F_X0_give_79 83 = J_callV 0 S_X0_mostFor 3 86 := rfl
theorem ftl_X0_give_86 : F_X0_give_79 86 = J_aload 0 87 := rfl
theorem ftl_X0_give_87 : F_X0_give_79 87 = J_getfield 0 2 90 := rfl
theorem ftl_X0_give_90 : F_X0_give_79 90 = J_iload 5 92 := rfl
theorem ftl_X0_give_92 : F_X0_give_79 92 = J_iaload 93 := rfl
theorem ftl_X0_give_93 : F_X0_give_79 93 = J_isub 94 := rfl
theorem F_X0_give_79_ok : jOK Y_X0_give none (F_X0_give_79) := (jOK_node (jOK_node (jOK_node (jOK_leaf (sn_iload dX0_give_79 rfl)) (jOK_leaf (sn_iaload dX0_give_81 rfl))) (jOK_node (jOK_leaf (sn_iload_n dX0_give_82 rfl rfl)) (jOK_leaf (sn_callV (Y' := Y_X0_mostFor) ok_X0_mostFor dX0_give_83 rfl rfl rfl tw_371 tw_373 tp_13 tw_4 jc_X0_mostFor rfl ⟨by decide, by decide, rfl⟩ ⟨by decide, by decide⟩)))) (jOK_node (jOK_node (jOK_leaf (sn_aload_n dX0_give_86 rfl rfl)) (jOK_leaf (sn_getfield dX0_give_87 rfl rfl (by decide) tw_75 jin0))) (jOK_node (jOK_leaf (sn_iload dX0_give_90 rfl)) (jOK_node (jOK_leaf (sn_iaload dX0_give_92 rfl)) (jOK_leaf (sn_isub dX0_give_93 rfl))))))
def F_X0_give_65_93 : Nat → jT := fun pc => bif Nat.blt pc 79 then F_X0_give_65 pc else F_X0_give_79 pc
theorem F_X0_give_65_93_ok : jOK Y_X0_give none (F_X0_give_65_93) := jOK_node (F_X0_give_65_ok) (F_X0_give_79_ok)
def F_X0_give_94 : Nat → jT := fun pc => (bif Nat.blt pc 103 then (bif Nat.blt pc 99 then (bif Nat.blt pc 97 then (bif Nat.beq pc 94 then J_mmin 97 else jbad) else (bif Nat.beq pc 97 then J_istore 6 99 else jbad)) else (bif Nat.blt pc 100 then (bif Nat.beq pc 99 then J_aload 0 100 else jbad) else (bif Nat.beq pc 100 then J_getfield 0 2 103 else jbad))) else (bif Nat.blt pc 106 then (bif Nat.blt pc 105 then (bif Nat.beq pc 103 then J_iload 5 105 else jbad) else (bif Nat.beq pc 105 then J_dup2 106 else jbad)) else (bif Nat.blt pc 107 then (bif Nat.beq pc 106 then J_iaload 107 else jbad) else (bif Nat.beq pc 107 then J_iload 6 109 else jbad))))
theorem ftl_X0_give_94 : F_X0_give_94 94 = J_mmin 97 := rfl
theorem ftl_X0_give_97 : F_X0_give_94 97 = J_istore 6 99 := rfl
theorem ftl_X0_give_99 : F_X0_give_94 99 = J_aload 0 100 := rfl
theorem ftl_X0_give_100 : F_X0_give_94 100 = J_getfield 0 2 103 := rfl
theorem ftl_X0_give_103 : F_X0_give_94 103 = J_iload 5 105 := rfl
theorem ftl_X0_give_105 : F_X0_give_94 105 = J_dup2 106 := rfl
theorem ftl_X0_give_106 : F_X0_give_94 106 = J_iaload 107 := rfl
theorem ftl_X0_give_107 : F_X0_give_94 107 = J_iload 6 109 := rfl
theorem F_X0_give_94_ok : jOK Y_X0_give none (F_X0_give_94) := (jOK_node (jOK_node (jOK_node (jOK_leaf (sn_mmin dX0_give_94 rfl tw_376 tw_377 tw_10 tw_378 ⟨by decide, by decide⟩)) (jOK_leaf (sn_istore dX0_give_97 rfl (by decide)))) (jOK_node (jOK_leaf (sn_aload_n dX0_give_99 rfl rfl)) (jOK_leaf (sn_getfield dX0_give_100 rfl rfl (by decide) tw_75 jin0)))) (jOK_node (jOK_node (jOK_leaf (sn_iload dX0_give_103 rfl)) (jOK_leaf (sn_dup2 dX0_give_105 rfl))) (jOK_node (jOK_leaf (sn_iaload dX0_give_106 rfl)) (jOK_leaf (sn_iload dX0_give_107 rfl)))))
def F_X0_give_109 : Nat → jT := fun pc => (bif Nat.blt pc 115 then (bif Nat.blt pc 111 then (bif Nat.blt pc 110 then (bif Nat.beq pc 109 then J_iadd 110 else jbad) else (bif Nat.beq pc 110 then J_iastore 111 else jbad)) else (bif Nat.blt pc 113 then (bif Nat.beq pc 111 then J_iload 4 113 else jbad) else (bif Nat.beq pc 113 then J_iload 6 115 else jbad))) else (bif Nat.blt pc 118 then (bif Nat.blt pc 116 then (bif Nat.beq pc 115 then J_isub 116 else jbad) else (bif Nat.beq pc 116 then J_istore 4 118 else jbad)) else (bif Nat.blt pc 121 then (bif Nat.beq pc 118 then J_iinc 5 1 121 else jbad) else (bif Nat.blt pc 124 then (bif Nat.beq pc 121 then J_goto 59 else jbad) else (bif Nat.beq pc 124 then J_return 0 0 else jbad)))))
theorem ftl_X0_give_109 : F_X0_give_109 109 = J_iadd 110 := rfl
theorem ftl_X0_give_110 : F_X0_give_109 110 = J_iastore 111 := rfl
theorem ftl_X0_give_111 : F_X0_give_109 111 = J_iload 4 113 := rfl
theorem ftl_X0_give_113 : F_X0_give_109 113 = J_iload 6 115 := rfl
theorem ftl_X0_give_115 : F_X0_give_109 115 = J_isub 116 := rfl
theorem ftl_X0_give_116 : F_X0_give_109 116 = J_istore 4 118 := rfl
theorem ftl_X0_give_118 : F_X0_give_109 118 = J_iinc 5 1 121 := rfl
theorem ftl_X0_give_121 : F_X0_give_109 121 = J_goto 59 := rfl
theorem ftl_X0_give_124 : F_X0_give_109 124 = J_return 0 0 := rfl
theorem F_X0_give_109_ok : jOK Y_X0_give none (F_X0_give_109) := (jOK_node (jOK_node (jOK_node (jOK_leaf (sn_iadd dX0_give_109 rfl)) (jOK_leaf (sn_iastore dX0_give_110 rfl))) (jOK_node (jOK_leaf (sn_iload dX0_give_111 rfl)) (jOK_leaf (sn_iload dX0_give_113 rfl)))) (jOK_node (jOK_node (jOK_leaf (sn_isub dX0_give_115 rfl)) (jOK_leaf (sn_istore dX0_give_116 rfl (by decide)))) (jOK_node (jOK_leaf (sn_iinc dX0_give_118 rfl rfl (by decide))) (jOK_node (jOK_leaf (sn_goto dX0_give_121 rfl)) (jOK_leaf (sn_return dX0_give_124 rfl rfl))))))
def F_X0_give_94_124 : Nat → jT := fun pc => bif Nat.blt pc 109 then F_X0_give_94 pc else F_X0_give_109 pc
theorem F_X0_give_94_124_ok : jOK Y_X0_give none (F_X0_give_94_124) := jOK_node (F_X0_give_94_ok) (F_X0_give_109_ok)
def F_X0_give_65_124 : Nat → jT := fun pc => bif Nat.blt pc 94 then F_X0_give_65_93 pc else F_X0_give_94_124 pc
theorem F_X0_give_65_124_ok : jOK Y_X0_give none (F_X0_give_65_124) := jOK_node (F_X0_give_65_93_ok) (F_X0_give_94_124_ok)
def F_X0_give_0_124 : Nat → jT := fun pc => bif Nat.blt pc 65 then F_X0_give_0_62 pc else F_X0_give_65_124 pc
theorem F_X0_give_0_124_ok : jOK Y_X0_give none (F_X0_give_0_124) := jOK_node (F_X0_give_0_62_ok) (F_X0_give_65_124_ok)
def F_X0_give : Nat → jT := F_X0_give_0_124
theorem OK_X0_give : jOK Y_X0_give none (F_X0_give) := F_X0_give_0_124_ok
theorem ft_X0_give_0 : F_X0_give 0 = J_aload 1 1 := ftl_X0_give_0
theorem ft_X0_give_1 : F_X0_give 1 = J_getfield 4 2 4 := ftl_X0_give_1
theorem ft_X0_give_4 : F_X0_give 4 = J_istore 4 6 := ftl_X0_give_4
theorem ft_X0_give_6 : F_X0_give 6 = J_iconst 0 7 := ftl_X0_give_6
theorem ft_X0_give_7 : F_X0_give 7 = J_istore 5 9 := ftl_X0_give_7
theorem ft_X0_give_9 : F_X0_give 9 = J_iload 5 11 := ftl_X0_give_9
theorem ft_X0_give_11 : F_X0_give 11 = J_iload 2 12 := ftl_X0_give_11
theorem ft_X0_give_12 : F_X0_give 12 = J_icge 56 15 := ftl_X0_give_12
theorem ft_X0_give_15 : F_X0_give 15 = J_iload 5 17 := ftl_X0_give_15
theorem ft_X0_give_17 : F_X0_give 17 = J_iconst 4 18 := ftl_X0_give_17
theorem ft_X0_give_18 : F_X0_give 18 = J_icge 56 21 := ftl_X0_give_18
theorem ft_X0_give_21 : F_X0_give 21 = J_aload 0 22 := ftl_X0_give_21
theorem ft_X0_give_22 : F_X0_give 22 = J_getfield 0 2 25 := ftl_X0_give_22
theorem ft_X0_give_25 : F_X0_give 25 = J_iload 5 27 := ftl_X0_give_25
theorem ft_X0_give_27 : F_X0_give 27 = J_iload 4 29 := ftl_X0_give_27
theorem ft_X0_give_29 : F_X0_give 29 = J_ifle 36 32 := ftl_X0_give_29
theorem ft_X0_give_32 : F_X0_give 32 = J_iconst 1 33 := ftl_X0_give_32
theorem ft_X0_give_33 : F_X0_give 33 = J_goto 37 := ftl_X0_give_33
theorem ft_X0_give_36 : F_X0_give 36 = J_iconst 0 37 := ftl_X0_give_36
theorem ft_X0_give_37 : F_X0_give 37 = J_iastore 38 := ftl_X0_give_37
theorem ft_X0_give_38 : F_X0_give 38 = J_iload 4 40 := ftl_X0_give_38
theorem ft_X0_give_40 : F_X0_give 40 = J_aload 0 41 := ftl_X0_give_40
theorem ft_X0_give_41 : F_X0_give 41 = J_getfield 0 2 44 := ftl_X0_give_41
theorem ft_X0_give_44 : F_X0_give 44 = J_iload 5 46 := ftl_X0_give_44
theorem ft_X0_give_46 : F_X0_give 46 = J_iaload 47 := ftl_X0_give_46
theorem ft_X0_give_47 : F_X0_give 47 = J_isub 48 := ftl_X0_give_47
theorem ft_X0_give_48 : F_X0_give 48 = J_istore 4 50 := ftl_X0_give_48
theorem ft_X0_give_50 : F_X0_give 50 = J_iinc 5 1 53 := ftl_X0_give_50
theorem ft_X0_give_53 : F_X0_give 53 = J_goto 9 := ftl_X0_give_53
theorem ft_X0_give_56 : F_X0_give 56 = J_iconst 0 57 := ftl_X0_give_56
theorem ft_X0_give_57 : F_X0_give 57 = J_istore 5 59 := ftl_X0_give_57
theorem ft_X0_give_59 : F_X0_give 59 = J_iload 5 61 := ftl_X0_give_59
theorem ft_X0_give_61 : F_X0_give 61 = J_iload 2 62 := ftl_X0_give_61
theorem ft_X0_give_62 : F_X0_give 62 = J_icge 124 65 := ftl_X0_give_62
theorem ft_X0_give_65 : F_X0_give 65 = J_iload 5 67 := ftl_X0_give_65
theorem ft_X0_give_67 : F_X0_give 67 = J_iconst 4 68 := ftl_X0_give_67
theorem ft_X0_give_68 : F_X0_give 68 = J_icge 124 71 := ftl_X0_give_68
theorem ft_X0_give_71 : F_X0_give 71 = J_iload 4 73 := ftl_X0_give_71
theorem ft_X0_give_73 : F_X0_give 73 = J_aload 0 74 := ftl_X0_give_73
theorem ft_X0_give_74 : F_X0_give 74 = J_aload 1 75 := ftl_X0_give_74
theorem ft_X0_give_75 : F_X0_give 75 = J_aload 0 76 := ftl_X0_give_75
theorem ft_X0_give_76 : F_X0_give 76 = J_getfield 0 1 79 := ftl_X0_give_76
theorem ft_X0_give_79 : F_X0_give 79 = J_iload 5 81 := ftl_X0_give_79
theorem ft_X0_give_81 : F_X0_give 81 = J_iaload 82 := ftl_X0_give_81
theorem ft_X0_give_82 : F_X0_give 82 = J_iload 3 83 := ftl_X0_give_82
theorem ft_X0_give_83 : F_X0_give 83 = J_callV 0 S_X0_mostFor 3 86 := ftl_X0_give_83
theorem ft_X0_give_86 : F_X0_give 86 = J_aload 0 87 := ftl_X0_give_86
theorem ft_X0_give_87 : F_X0_give 87 = J_getfield 0 2 90 := ftl_X0_give_87
theorem ft_X0_give_90 : F_X0_give 90 = J_iload 5 92 := ftl_X0_give_90
theorem ft_X0_give_92 : F_X0_give 92 = J_iaload 93 := ftl_X0_give_92
theorem ft_X0_give_93 : F_X0_give 93 = J_isub 94 := ftl_X0_give_93
theorem ft_X0_give_94 : F_X0_give 94 = J_mmin 97 := ftl_X0_give_94
theorem ft_X0_give_97 : F_X0_give 97 = J_istore 6 99 := ftl_X0_give_97
theorem ft_X0_give_99 : F_X0_give 99 = J_aload 0 100 := ftl_X0_give_99
theorem ft_X0_give_100 : F_X0_give 100 = J_getfield 0 2 103 := ftl_X0_give_100
theorem ft_X0_give_103 : F_X0_give 103 = J_iload 5 105 := ftl_X0_give_103
theorem ft_X0_give_105 : F_X0_give 105 = J_dup2 106 := ftl_X0_give_105
theorem ft_X0_give_106 : F_X0_give 106 = J_iaload 107 := ftl_X0_give_106
theorem ft_X0_give_107 : F_X0_give 107 = J_iload 6 109 := ftl_X0_give_107
theorem ft_X0_give_109 : F_X0_give 109 = J_iadd 110 := ftl_X0_give_109
theorem ft_X0_give_110 : F_X0_give 110 = J_iastore 111 := ftl_X0_give_110
theorem ft_X0_give_111 : F_X0_give 111 = J_iload 4 113 := ftl_X0_give_111
theorem ft_X0_give_113 : F_X0_give 113 = J_iload 6 115 := ftl_X0_give_113
theorem ft_X0_give_115 : F_X0_give 115 = J_isub 116 := ftl_X0_give_115
theorem ft_X0_give_116 : F_X0_give 116 = J_istore 4 118 := ftl_X0_give_116
theorem ft_X0_give_118 : F_X0_give 118 = J_iinc 5 1 121 := ftl_X0_give_118
theorem ft_X0_give_121 : F_X0_give 121 = J_goto 59 := ftl_X0_give_121
theorem ft_X0_give_124 : F_X0_give 124 = J_return 0 0 := ftl_X0_give_124
theorem lp_X0_give2 {Q : jQ} {C : Nat → Nat → Int32} {z : Nat → Int64} {nb s n : Nat} {l : Int32} (hs : jSt s 94) (hn : n ≤ 4) (q : (Nat → Int32) × Int32) (h : Q none (memS 94 (hrow C 8 (give2 (C 5) (C 4) (C s) (C 7) l q n).1) z)) :
    ∀ k j, j + k = n → ∀ x : Option Value, Rn Y_X0_give none Q 59 [some (.ref 6), some (.ref s), some (.int (nI n)), some (.int l), some (.int (give2 (C 5) (C 4) (C s) (C 7) l q j).2), some (.int (nI j)), x] [] (memS 94 (hrow C 8 (give2 (C 5) (C 4) (C s) (C 7) l q j).1) z) (nb, 0, 0) := by
  have n8 : (s = 8) = False := by have := (jst_ne hs).2.2.2.2; simp only [eq_iff_iff, iff_false] at this ⊢; exact fun q => this q.symm
  intro k
  induction k with
  | zero =>
    intro j hj x
    have hc : (nI n ≤ nI j) = True := eq_true (nI_le (by omega) (by omega))
    refine jrun_first OK_X0_give (C := [59]) 60 ?_
    simp -implicitDefEqProofs only [jr_0, jr_1, jr_2, j_iconst, j_lconst, j_iload0, j_aload0, j_istore0, j_astore0, j_iinc0, j_iload1, j_aload1, j_istore1, j_astore1, j_iinc1, j_iload2, j_aload2, j_istore2, j_astore2, j_iinc2, j_iload3, j_aload3, j_istore3, j_astore3, j_iinc3, j_iload4, j_aload4, j_istore4, j_astore4, j_iinc4, j_iload5, j_aload5, j_istore5, j_astore5, j_iinc5, j_iload6, j_aload6, j_istore6, j_astore6, j_iinc6, j_iload7, j_aload7, j_istore7, j_astore7, j_iinc7, j_iload8, j_aload8, j_istore8, j_astore8, j_iinc8, j_iadd, j_isub, j_imul, j_iand, j_ior, j_ixor, j_ishl, j_ishr, j_iushr, j_idiv, j_irem, j_ineg, j_ladd, j_lmul, j_land, j_lor, j_lcmp, j_lushr, j_lshl, j_i2l, j_l2i, j_dupI, j_dupR, j_popI, j_dup2, j_ifeq, j_iceq, j_ifne, j_icne, j_iflt, j_iclt, j_ifge, j_icge, j_ifgt, j_icgt, j_ifle, j_icle, j_goto, j_tsw, j_sw0, j_sw1, j_ireturn, j_zreturn, j_lreturn, j_return, j_getfield, j_putI, j_putJ, j_putR, j_iaload, j_baload, j_iastore, j_bastore, j_aaload, j_q, j_aastore, j_acopy, j_mmin, j_mmax, j_mabs, j_objinit, j_new, j_newI, j_newQ, j_sld, j_slen, j_callV0, j_callI0, j_callS0, j_callV1, j_callI1, j_callS1, j_callV2, j_callI2, j_callS2, j_callV3, j_callS3, j_callV4, j_callS4, j_callV5, j_callS5, j_pushS, j_pushN, j_sh0, j_sh1, j_sh2, j_sh3, j_sh4, Int32.reduceAdd, Int32.reduceMul, Int32.reduceSub, Int32.reduceLT, Int32.reduceLE, eq_self, i32_10, i32_01, ne_eq, hrow_s, hrow_n, ne10, ne100, ne1000, ne7, ne4, ne14, ne9973, or_true, true_or, or_false, false_or, not_true_eq_false, not_false_eq_true, false_implies, implies_true, and_true, forall_const, true_implies, jargs_n, jargs_r, jargs_i, List.cons_append, List.nil_append, true_and, Nat.reduceEqDiff, reduceIte, ft_X0_give_0, ft_X0_give_1, ft_X0_give_4, ft_X0_give_6, ft_X0_give_7, ft_X0_give_9, ft_X0_give_11, ft_X0_give_12, ft_X0_give_15, ft_X0_give_17, ft_X0_give_18, ft_X0_give_21, ft_X0_give_22, ft_X0_give_25, ft_X0_give_27, ft_X0_give_29, ft_X0_give_32, ft_X0_give_33, ft_X0_give_36, ft_X0_give_37, ft_X0_give_38, ft_X0_give_40, ft_X0_give_41, ft_X0_give_44, ft_X0_give_46, ft_X0_give_47, ft_X0_give_48, ft_X0_give_50, ft_X0_give_53, ft_X0_give_56, ft_X0_give_57, ft_X0_give_59, ft_X0_give_61, ft_X0_give_62, ft_X0_give_65, ft_X0_give_67, ft_X0_give_68, ft_X0_give_71, ft_X0_give_73, ft_X0_give_74, ft_X0_give_75, ft_X0_give_76, ft_X0_give_79, ft_X0_give_81, ft_X0_give_82, ft_X0_give_83, ft_X0_give_86, ft_X0_give_87, ft_X0_give_90, ft_X0_give_92, ft_X0_give_93, ft_X0_give_94, ft_X0_give_97, ft_X0_give_99, ft_X0_give_100, ft_X0_give_103, ft_X0_give_105, ft_X0_give_106, ft_X0_give_107, ft_X0_give_109, ft_X0_give_110, ft_X0_give_111, ft_X0_give_113, ft_X0_give_115, ft_X0_give_116, ft_X0_give_118, ft_X0_give_121, ft_X0_give_124, hc]
    rw [show j = n by omega]
    exact h
  | succ k ih =>
    intro j hj x
    have hc : (nI n ≤ nI j) = False := eq_false (nI_ge (by omega) (by omega))
    have hc4 : (4 ≤ nI j) = False := eq_false (nI_ge (b := 4) (by omega) (by decide))
    have hk := ih (j + 1) (by omega)
    unfold give2 at hk
    refine jrun_first OK_X0_give (C := [59]) 60 ?_
    generalize give2 (C 5) (C 4) (C s) (C 7) l q j = w at hk ⊢
    obtain ⟨g, left⟩ := w
    have v1 : vp_in (nI j) 4 := vp_in_nI (by omega) (by decide)
    simp -implicitDefEqProofs only [jr_0, jr_1, jr_2, j_iconst, j_lconst, j_iload0, j_aload0, j_istore0, j_astore0, j_iinc0, j_iload1, j_aload1, j_istore1, j_astore1, j_iinc1, j_iload2, j_aload2, j_istore2, j_astore2, j_iinc2, j_iload3, j_aload3, j_istore3, j_astore3, j_iinc3, j_iload4, j_aload4, j_istore4, j_astore4, j_iinc4, j_iload5, j_aload5, j_istore5, j_astore5, j_iinc5, j_iload6, j_aload6, j_istore6, j_astore6, j_iinc6, j_iload7, j_aload7, j_istore7, j_astore7, j_iinc7, j_iload8, j_aload8, j_istore8, j_astore8, j_iinc8, j_iadd, j_isub, j_imul, j_iand, j_ior, j_ixor, j_ishl, j_ishr, j_iushr, j_idiv, j_irem, j_ineg, j_ladd, j_lmul, j_land, j_lor, j_lcmp, j_lushr, j_lshl, j_i2l, j_l2i, j_dupI, j_dupR, j_popI, j_dup2, j_ifeq, j_iceq, j_ifne, j_icne, j_iflt, j_iclt, j_ifge, j_icge, j_ifgt, j_icgt, j_ifle, j_icle, j_goto, j_tsw, j_sw0, j_sw1, j_ireturn, j_zreturn, j_lreturn, j_return, j_getfield, j_putI, j_putJ, j_putR, j_iaload, j_baload, j_iastore, j_bastore, j_aaload, j_q, j_aastore, j_acopy, j_mmin, j_mmax, j_mabs, j_objinit, j_new, j_newI, j_newQ, j_sld, j_slen, j_callV0, j_callI0, j_callS0, j_callV1, j_callI1, j_callS1, j_callV2, j_callI2, j_callS2, j_callV3, j_callS3, j_callV4, j_callS4, j_callV5, j_callS5, j_pushS, j_pushN, j_sh0, j_sh1, j_sh2, j_sh3, j_sh4, Int32.reduceAdd, Int32.reduceMul, Int32.reduceSub, Int32.reduceLT, Int32.reduceLE, eq_self, i32_10, i32_01, ne_eq, hrow_s, hrow_n, ne10, ne100, ne1000, ne7, ne4, ne14, ne9973, or_true, true_or, or_false, false_or, not_true_eq_false, not_false_eq_true, false_implies, implies_true, and_true, forall_const, true_implies, jargs_n, jargs_r, jargs_i, List.cons_append, List.nil_append, true_and, Nat.reduceEqDiff, reduceIte, ft_X0_give_0, ft_X0_give_1, ft_X0_give_4, ft_X0_give_6, ft_X0_give_7, ft_X0_give_9, ft_X0_give_11, ft_X0_give_12, ft_X0_give_15, ft_X0_give_17, ft_X0_give_18, ft_X0_give_21, ft_X0_give_22, ft_X0_give_25, ft_X0_give_27, ft_X0_give_29, ft_X0_give_32, ft_X0_give_33, ft_X0_give_36, ft_X0_give_37, ft_X0_give_38, ft_X0_give_40, ft_X0_give_41, ft_X0_give_44, ft_X0_give_46, ft_X0_give_47, ft_X0_give_48, ft_X0_give_50, ft_X0_give_53, ft_X0_give_56, ft_X0_give_57, ft_X0_give_59, ft_X0_give_61, ft_X0_give_62, ft_X0_give_65, ft_X0_give_67, ft_X0_give_68, ft_X0_give_71, ft_X0_give_73, ft_X0_give_74, ft_X0_give_75, ft_X0_give_76, ft_X0_give_79, ft_X0_give_81, ft_X0_give_82, ft_X0_give_83, ft_X0_give_86, ft_X0_give_87, ft_X0_give_90, ft_X0_give_92, ft_X0_give_93, ft_X0_give_94, ft_X0_give_97, ft_X0_give_99, ft_X0_give_100, ft_X0_give_103, ft_X0_give_105, ft_X0_give_106, ft_X0_give_107, ft_X0_give_109, ft_X0_give_110, ft_X0_give_111, ft_X0_give_113, ft_X0_give_115, ft_X0_give_116, ft_X0_give_118, ft_X0_give_121, ft_X0_give_124, hc, hc4, n8, fl_6_1, fl_6_2, al_7, al_8, as_8, rc_6, s_X0_mostFor hs, nI_1, hrow_hrow, v1, nI_clamp (show j < 2 ^ 31 by omega)]
    exact hk _
theorem lp_X0_give1 {Q : jQ} {C : Nat → Nat → Int32} {z : Nat → Int64} {nb s n : Nat} {l : Int32} (hs : jSt s 94) (hn : n ≤ 4) (h : Q none (memS 94 (hrow C 8 (giveF (C 5) (C 4) (C s) (C 7) l n (C 8))) z)) :
    ∀ k j, j + k = n → ∀ x : Option Value, Rn Y_X0_give none Q 9 [some (.ref 6), some (.ref s), some (.int (nI n)), some (.int l), some (.int (give1 (C 8) (C s 38) j).2), some (.int (nI j)), x] [] (memS 94 (hrow C 8 (give1 (C 8) (C s 38) j).1) z) (nb, 0, 0) := by
  intro k
  induction k with
  | zero =>
    intro j hj x
    have hc : (nI n ≤ nI j) = True := eq_true (nI_le (by omega) (by omega))
    refine jrun_first OK_X0_give (C := [9, 59]) 60 ?_
    simp -implicitDefEqProofs only [jr_0, jr_1, jr_2, j_iconst, j_lconst, j_iload0, j_aload0, j_istore0, j_astore0, j_iinc0, j_iload1, j_aload1, j_istore1, j_astore1, j_iinc1, j_iload2, j_aload2, j_istore2, j_astore2, j_iinc2, j_iload3, j_aload3, j_istore3, j_astore3, j_iinc3, j_iload4, j_aload4, j_istore4, j_astore4, j_iinc4, j_iload5, j_aload5, j_istore5, j_astore5, j_iinc5, j_iload6, j_aload6, j_istore6, j_astore6, j_iinc6, j_iload7, j_aload7, j_istore7, j_astore7, j_iinc7, j_iload8, j_aload8, j_istore8, j_astore8, j_iinc8, j_iadd, j_isub, j_imul, j_iand, j_ior, j_ixor, j_ishl, j_ishr, j_iushr, j_idiv, j_irem, j_ineg, j_ladd, j_lmul, j_land, j_lor, j_lcmp, j_lushr, j_lshl, j_i2l, j_l2i, j_dupI, j_dupR, j_popI, j_dup2, j_ifeq, j_iceq, j_ifne, j_icne, j_iflt, j_iclt, j_ifge, j_icge, j_ifgt, j_icgt, j_ifle, j_icle, j_goto, j_tsw, j_sw0, j_sw1, j_ireturn, j_zreturn, j_lreturn, j_return, j_getfield, j_putI, j_putJ, j_putR, j_iaload, j_baload, j_iastore, j_bastore, j_aaload, j_q, j_aastore, j_acopy, j_mmin, j_mmax, j_mabs, j_objinit, j_new, j_newI, j_newQ, j_sld, j_slen, j_callV0, j_callI0, j_callS0, j_callV1, j_callI1, j_callS1, j_callV2, j_callI2, j_callS2, j_callV3, j_callS3, j_callV4, j_callS4, j_callV5, j_callS5, j_pushS, j_pushN, j_sh0, j_sh1, j_sh2, j_sh3, j_sh4, Int32.reduceAdd, Int32.reduceMul, Int32.reduceSub, Int32.reduceLT, Int32.reduceLE, eq_self, i32_10, i32_01, ne_eq, hrow_s, hrow_n, ne10, ne100, ne1000, ne7, ne4, ne14, ne9973, or_true, true_or, or_false, false_or, not_true_eq_false, not_false_eq_true, false_implies, implies_true, and_true, forall_const, true_implies, jargs_n, jargs_r, jargs_i, List.cons_append, List.nil_append, true_and, Nat.reduceEqDiff, reduceIte, ft_X0_give_0, ft_X0_give_1, ft_X0_give_4, ft_X0_give_6, ft_X0_give_7, ft_X0_give_9, ft_X0_give_11, ft_X0_give_12, ft_X0_give_15, ft_X0_give_17, ft_X0_give_18, ft_X0_give_21, ft_X0_give_22, ft_X0_give_25, ft_X0_give_27, ft_X0_give_29, ft_X0_give_32, ft_X0_give_33, ft_X0_give_36, ft_X0_give_37, ft_X0_give_38, ft_X0_give_40, ft_X0_give_41, ft_X0_give_44, ft_X0_give_46, ft_X0_give_47, ft_X0_give_48, ft_X0_give_50, ft_X0_give_53, ft_X0_give_56, ft_X0_give_57, ft_X0_give_59, ft_X0_give_61, ft_X0_give_62, ft_X0_give_65, ft_X0_give_67, ft_X0_give_68, ft_X0_give_71, ft_X0_give_73, ft_X0_give_74, ft_X0_give_75, ft_X0_give_76, ft_X0_give_79, ft_X0_give_81, ft_X0_give_82, ft_X0_give_83, ft_X0_give_86, ft_X0_give_87, ft_X0_give_90, ft_X0_give_92, ft_X0_give_93, ft_X0_give_94, ft_X0_give_97, ft_X0_give_99, ft_X0_give_100, ft_X0_give_103, ft_X0_give_105, ft_X0_give_106, ft_X0_give_107, ft_X0_give_109, ft_X0_give_110, ft_X0_give_111, ft_X0_give_113, ft_X0_give_115, ft_X0_give_116, ft_X0_give_118, ft_X0_give_121, ft_X0_give_124, hc]
    have := lp_X0_give2 (nb := nb) (Q := Q) (z := z) (l := l) hs hn (give1 (C 8) (C s 38) n) h n 0 (by omega) x
    rw [show j = n by omega]
    exact this
  | succ k ih =>
    intro j hj x
    have hc : (nI n ≤ nI j) = False := eq_false (nI_ge (by omega) (by omega))
    have hc4 : (4 ≤ nI j) = False := eq_false (nI_ge (b := 4) (by omega) (by decide))
    have hk := ih (j + 1) (by omega)
    unfold give1 at hk
    refine jrun_first OK_X0_give (C := [9, 59]) 60 ?_
    generalize give1 (C 8) (C s 38) j = w at hk ⊢
    obtain ⟨g, left⟩ := w
    have v1 : vp_in (nI j) 4 := vp_in_nI (by omega) (by decide)
    unfold gv1 at hk
    by_cases h1 : left ≤ 0
    · simp only [pick_t h1] at hk
      simp -implicitDefEqProofs only [jr_0, jr_1, jr_2, j_iconst, j_lconst, j_iload0, j_aload0, j_istore0, j_astore0, j_iinc0, j_iload1, j_aload1, j_istore1, j_astore1, j_iinc1, j_iload2, j_aload2, j_istore2, j_astore2, j_iinc2, j_iload3, j_aload3, j_istore3, j_astore3, j_iinc3, j_iload4, j_aload4, j_istore4, j_astore4, j_iinc4, j_iload5, j_aload5, j_istore5, j_astore5, j_iinc5, j_iload6, j_aload6, j_istore6, j_astore6, j_iinc6, j_iload7, j_aload7, j_istore7, j_astore7, j_iinc7, j_iload8, j_aload8, j_istore8, j_astore8, j_iinc8, j_iadd, j_isub, j_imul, j_iand, j_ior, j_ixor, j_ishl, j_ishr, j_iushr, j_idiv, j_irem, j_ineg, j_ladd, j_lmul, j_land, j_lor, j_lcmp, j_lushr, j_lshl, j_i2l, j_l2i, j_dupI, j_dupR, j_popI, j_dup2, j_ifeq, j_iceq, j_ifne, j_icne, j_iflt, j_iclt, j_ifge, j_icge, j_ifgt, j_icgt, j_ifle, j_icle, j_goto, j_tsw, j_sw0, j_sw1, j_ireturn, j_zreturn, j_lreturn, j_return, j_getfield, j_putI, j_putJ, j_putR, j_iaload, j_baload, j_iastore, j_bastore, j_aaload, j_q, j_aastore, j_acopy, j_mmin, j_mmax, j_mabs, j_objinit, j_new, j_newI, j_newQ, j_sld, j_slen, j_callV0, j_callI0, j_callS0, j_callV1, j_callI1, j_callS1, j_callV2, j_callI2, j_callS2, j_callV3, j_callS3, j_callV4, j_callS4, j_callV5, j_callS5, j_pushS, j_pushN, j_sh0, j_sh1, j_sh2, j_sh3, j_sh4, Int32.reduceAdd, Int32.reduceMul, Int32.reduceSub, Int32.reduceLT, Int32.reduceLE, eq_self, i32_10, i32_01, ne_eq, hrow_s, hrow_n, ne10, ne100, ne1000, ne7, ne4, ne14, ne9973, or_true, true_or, or_false, false_or, not_true_eq_false, not_false_eq_true, false_implies, implies_true, and_true, forall_const, true_implies, jargs_n, jargs_r, jargs_i, List.cons_append, List.nil_append, true_and, Nat.reduceEqDiff, reduceIte, ft_X0_give_0, ft_X0_give_1, ft_X0_give_4, ft_X0_give_6, ft_X0_give_7, ft_X0_give_9, ft_X0_give_11, ft_X0_give_12, ft_X0_give_15, ft_X0_give_17, ft_X0_give_18, ft_X0_give_21, ft_X0_give_22, ft_X0_give_25, ft_X0_give_27, ft_X0_give_29, ft_X0_give_32, ft_X0_give_33, ft_X0_give_36, ft_X0_give_37, ft_X0_give_38, ft_X0_give_40, ft_X0_give_41, ft_X0_give_44, ft_X0_give_46, ft_X0_give_47, ft_X0_give_48, ft_X0_give_50, ft_X0_give_53, ft_X0_give_56, ft_X0_give_57, ft_X0_give_59, ft_X0_give_61, ft_X0_give_62, ft_X0_give_65, ft_X0_give_67, ft_X0_give_68, ft_X0_give_71, ft_X0_give_73, ft_X0_give_74, ft_X0_give_75, ft_X0_give_76, ft_X0_give_79, ft_X0_give_81, ft_X0_give_82, ft_X0_give_83, ft_X0_give_86, ft_X0_give_87, ft_X0_give_90, ft_X0_give_92, ft_X0_give_93, ft_X0_give_94, ft_X0_give_97, ft_X0_give_99, ft_X0_give_100, ft_X0_give_103, ft_X0_give_105, ft_X0_give_106, ft_X0_give_107, ft_X0_give_109, ft_X0_give_110, ft_X0_give_111, ft_X0_give_113, ft_X0_give_115, ft_X0_give_116, ft_X0_give_118, ft_X0_give_121, ft_X0_give_124, hc, hc4, fl_6_1, fl_6_2, al_7, al_8, as_8, nI_1, hrow_hrow, v1, h1, nI_clamp (show j < 2 ^ 31 by omega), upd_eq]
      exact hk _
    · simp only [pick_f h1] at hk
      simp -implicitDefEqProofs only [jr_0, jr_1, jr_2, j_iconst, j_lconst, j_iload0, j_aload0, j_istore0, j_astore0, j_iinc0, j_iload1, j_aload1, j_istore1, j_astore1, j_iinc1, j_iload2, j_aload2, j_istore2, j_astore2, j_iinc2, j_iload3, j_aload3, j_istore3, j_astore3, j_iinc3, j_iload4, j_aload4, j_istore4, j_astore4, j_iinc4, j_iload5, j_aload5, j_istore5, j_astore5, j_iinc5, j_iload6, j_aload6, j_istore6, j_astore6, j_iinc6, j_iload7, j_aload7, j_istore7, j_astore7, j_iinc7, j_iload8, j_aload8, j_istore8, j_astore8, j_iinc8, j_iadd, j_isub, j_imul, j_iand, j_ior, j_ixor, j_ishl, j_ishr, j_iushr, j_idiv, j_irem, j_ineg, j_ladd, j_lmul, j_land, j_lor, j_lcmp, j_lushr, j_lshl, j_i2l, j_l2i, j_dupI, j_dupR, j_popI, j_dup2, j_ifeq, j_iceq, j_ifne, j_icne, j_iflt, j_iclt, j_ifge, j_icge, j_ifgt, j_icgt, j_ifle, j_icle, j_goto, j_tsw, j_sw0, j_sw1, j_ireturn, j_zreturn, j_lreturn, j_return, j_getfield, j_putI, j_putJ, j_putR, j_iaload, j_baload, j_iastore, j_bastore, j_aaload, j_q, j_aastore, j_acopy, j_mmin, j_mmax, j_mabs, j_objinit, j_new, j_newI, j_newQ, j_sld, j_slen, j_callV0, j_callI0, j_callS0, j_callV1, j_callI1, j_callS1, j_callV2, j_callI2, j_callS2, j_callV3, j_callS3, j_callV4, j_callS4, j_callV5, j_callS5, j_pushS, j_pushN, j_sh0, j_sh1, j_sh2, j_sh3, j_sh4, Int32.reduceAdd, Int32.reduceMul, Int32.reduceSub, Int32.reduceLT, Int32.reduceLE, eq_self, i32_10, i32_01, ne_eq, hrow_s, hrow_n, ne10, ne100, ne1000, ne7, ne4, ne14, ne9973, or_true, true_or, or_false, false_or, not_true_eq_false, not_false_eq_true, false_implies, implies_true, and_true, forall_const, true_implies, jargs_n, jargs_r, jargs_i, List.cons_append, List.nil_append, true_and, Nat.reduceEqDiff, reduceIte, ft_X0_give_0, ft_X0_give_1, ft_X0_give_4, ft_X0_give_6, ft_X0_give_7, ft_X0_give_9, ft_X0_give_11, ft_X0_give_12, ft_X0_give_15, ft_X0_give_17, ft_X0_give_18, ft_X0_give_21, ft_X0_give_22, ft_X0_give_25, ft_X0_give_27, ft_X0_give_29, ft_X0_give_32, ft_X0_give_33, ft_X0_give_36, ft_X0_give_37, ft_X0_give_38, ft_X0_give_40, ft_X0_give_41, ft_X0_give_44, ft_X0_give_46, ft_X0_give_47, ft_X0_give_48, ft_X0_give_50, ft_X0_give_53, ft_X0_give_56, ft_X0_give_57, ft_X0_give_59, ft_X0_give_61, ft_X0_give_62, ft_X0_give_65, ft_X0_give_67, ft_X0_give_68, ft_X0_give_71, ft_X0_give_73, ft_X0_give_74, ft_X0_give_75, ft_X0_give_76, ft_X0_give_79, ft_X0_give_81, ft_X0_give_82, ft_X0_give_83, ft_X0_give_86, ft_X0_give_87, ft_X0_give_90, ft_X0_give_92, ft_X0_give_93, ft_X0_give_94, ft_X0_give_97, ft_X0_give_99, ft_X0_give_100, ft_X0_give_103, ft_X0_give_105, ft_X0_give_106, ft_X0_give_107, ft_X0_give_109, ft_X0_give_110, ft_X0_give_111, ft_X0_give_113, ft_X0_give_115, ft_X0_give_116, ft_X0_give_118, ft_X0_give_121, ft_X0_give_124, hc, hc4, fl_6_1, fl_6_2, al_7, al_8, as_8, nI_1, hrow_hrow, v1, h1, nI_clamp (show j < 2 ^ 31 by omega), upd_eq]
      exact hk _
theorem ok_X0_give : jMeets Y_X0_give S_X0_give := by
  intro nb vs mem Q h
  obtain ⟨C, z, s, n, l, rfl, rfl, hs, hn, hQ⟩ := h
  refine Ok.run OK_X0_give [9, 59] 60 [none, none, none] pn0 (Nat.le_of_ble_eq_true rfl) rfl ?_
  simp -implicitDefEqProofs only [jr_0, jr_1, jr_2, j_iconst, j_lconst, j_iload0, j_aload0, j_istore0, j_astore0, j_iinc0, j_iload1, j_aload1, j_istore1, j_astore1, j_iinc1, j_iload2, j_aload2, j_istore2, j_astore2, j_iinc2, j_iload3, j_aload3, j_istore3, j_astore3, j_iinc3, j_iload4, j_aload4, j_istore4, j_astore4, j_iinc4, j_iload5, j_aload5, j_istore5, j_astore5, j_iinc5, j_iload6, j_aload6, j_istore6, j_astore6, j_iinc6, j_iload7, j_aload7, j_istore7, j_astore7, j_iinc7, j_iload8, j_aload8, j_istore8, j_astore8, j_iinc8, j_iadd, j_isub, j_imul, j_iand, j_ior, j_ixor, j_ishl, j_ishr, j_iushr, j_idiv, j_irem, j_ineg, j_ladd, j_lmul, j_land, j_lor, j_lcmp, j_lushr, j_lshl, j_i2l, j_l2i, j_dupI, j_dupR, j_popI, j_dup2, j_ifeq, j_iceq, j_ifne, j_icne, j_iflt, j_iclt, j_ifge, j_icge, j_ifgt, j_icgt, j_ifle, j_icle, j_goto, j_tsw, j_sw0, j_sw1, j_ireturn, j_zreturn, j_lreturn, j_return, j_getfield, j_putI, j_putJ, j_putR, j_iaload, j_baload, j_iastore, j_bastore, j_aaload, j_q, j_aastore, j_acopy, j_mmin, j_mmax, j_mabs, j_objinit, j_new, j_newI, j_newQ, j_sld, j_slen, j_callV0, j_callI0, j_callS0, j_callV1, j_callI1, j_callS1, j_callV2, j_callI2, j_callS2, j_callV3, j_callS3, j_callV4, j_callS4, j_callV5, j_callS5, j_pushS, j_pushN, j_sh0, j_sh1, j_sh2, j_sh3, j_sh4, Int32.reduceAdd, Int32.reduceMul, Int32.reduceSub, Int32.reduceLT, Int32.reduceLE, eq_self, i32_10, i32_01, ne_eq, hrow_s, hrow_n, ne10, ne100, ne1000, ne7, ne4, ne14, ne9973, or_true, true_or, or_false, false_or, not_true_eq_false, not_false_eq_true, false_implies, implies_true, and_true, forall_const, true_implies, jargs_n, jargs_r, jargs_i, List.cons_append, List.nil_append, true_and, Nat.reduceEqDiff, reduceIte, ft_X0_give_0, ft_X0_give_1, ft_X0_give_4, ft_X0_give_6, ft_X0_give_7, ft_X0_give_9, ft_X0_give_11, ft_X0_give_12, ft_X0_give_15, ft_X0_give_17, ft_X0_give_18, ft_X0_give_21, ft_X0_give_22, ft_X0_give_25, ft_X0_give_27, ft_X0_give_29, ft_X0_give_32, ft_X0_give_33, ft_X0_give_36, ft_X0_give_37, ft_X0_give_38, ft_X0_give_40, ft_X0_give_41, ft_X0_give_44, ft_X0_give_46, ft_X0_give_47, ft_X0_give_48, ft_X0_give_50, ft_X0_give_53, ft_X0_give_56, ft_X0_give_57, ft_X0_give_59, ft_X0_give_61, ft_X0_give_62, ft_X0_give_65, ft_X0_give_67, ft_X0_give_68, ft_X0_give_71, ft_X0_give_73, ft_X0_give_74, ft_X0_give_75, ft_X0_give_76, ft_X0_give_79, ft_X0_give_81, ft_X0_give_82, ft_X0_give_83, ft_X0_give_86, ft_X0_give_87, ft_X0_give_90, ft_X0_give_92, ft_X0_give_93, ft_X0_give_94, ft_X0_give_97, ft_X0_give_99, ft_X0_give_100, ft_X0_give_103, ft_X0_give_105, ft_X0_give_106, ft_X0_give_107, ft_X0_give_109, ft_X0_give_110, ft_X0_give_111, ft_X0_give_113, ft_X0_give_115, ft_X0_give_116, ft_X0_give_118, ft_X0_give_121, ft_X0_give_124, jfld_s2 hs]
  have := lp_X0_give1 hs hn hQ n 0 (by omega) none (nb := nb)
  rw [show give1 (C 8) (C s 38) 0 = (C 8, C s 38) from rfl, hrow_self] at this
  exact this
theorem s_X0_give {nb s n : Nat} {C : Nat → Nat → Int32} {z : Nat → Int64} {l : Int32} {Q : jQ} (hs : jSt s 94) (hn : n ≤ 4) (hQ : Q none (memS 94 (hrow C 8 (giveF (C 5) (C 4) (C s) (C 7) l n (C 8))) z)) : S_X0_give nb [.ref 6, .ref s, .int (nI n), .int l] (memS 94 C z) Q := ⟨C, z, s, n, l, rfl, rfl, hs, hn, hQ⟩
/-! draw -/
noncomputable def drawF (T ρ o g : Nat → Int32) (l : Int32) : Nat → (Nat → Int32)
  | 0 => ρ
  | i + 1 => drawStep T l (o i) (g i) (drawF T ρ o g l i)
def S_X0_draw : jSp := fun _ vs mem Q => ∃ C z s n, ∃ l : Int32, vs = [.ref 6, .ref s, .int (nI n), .int l] ∧ mem = memS 94 C z ∧ jSt s 94 ∧ n ≤ 4 ∧ Q none (memS 94 (hrow C s (drawF (C 5) (C s) (C 7) (C 8) l n)) z)
def F_X0_draw_0 : Nat → jT := fun pc => (bif Nat.blt pc 15 then (bif Nat.blt pc 6 then (bif Nat.blt pc 3 then (bif Nat.blt pc 1 then (bif Nat.beq pc 0 then J_iconst 0 1 else jbad) else (bif Nat.beq pc 1 then J_istore 4 3 else jbad)) else (bif Nat.blt pc 5 then (bif Nat.beq pc 3 then J_iload 4 5 else jbad) else (bif Nat.beq pc 5 then J_iload 2 6 else jbad))) else (bif Nat.blt pc 11 then (bif Nat.blt pc 9 then (bif Nat.beq pc 6 then J_icge 118 9 else jbad) else (bif Nat.beq pc 9 then J_iload 4 11 else jbad)) else (bif Nat.blt pc 12 then (bif Nat.beq pc 11 then J_iconst 4 12 else jbad) else (bif Nat.beq pc 12 then J_icge 118 15 else jbad)))) else (bif Nat.blt pc 21 then (bif Nat.blt pc 17 then (bif Nat.blt pc 16 then (bif Nat.beq pc 15 then J_aload 0 16 else jbad) else (bif Nat.beq pc 16 then J_aload 1 17 else jbad)) else (bif Nat.blt pc 18 then (bif Nat.beq pc 17 then J_aload 0 18 else jbad) else (bif Nat.beq pc 18 then J_getfield 0 1 21 else jbad))) else (bif Nat.blt pc 24 then (bif Nat.blt pc 23 then (bif Nat.beq pc 21 then J_iload 4 23 else jbad) else (bif Nat.beq pc 23 then J_iaload 24 else jbad)) else (bif Nat.blt pc 25 then (bif Nat.beq pc 24 then J_iload 3 25 else jbad) else (bif Nat.beq pc 25 then J_callV 0 S_X0_kindAt 3 28 else jbad)))))
theorem ftl_X0_draw_0 : F_X0_draw_0 0 = J_iconst 0 1 := rfl
theorem ftl_X0_draw_1 : F_X0_draw_0 1 = J_istore 4 3 := rfl
theorem ftl_X0_draw_3 : F_X0_draw_0 3 = J_iload 4 5 := rfl
theorem ftl_X0_draw_5 : F_X0_draw_0 5 = J_iload 2 6 := rfl
theorem ftl_X0_draw_6 : F_X0_draw_0 6 = J_icge 118 9 := rfl
theorem ftl_X0_draw_9 : F_X0_draw_0 9 = J_iload 4 11 := rfl
theorem ftl_X0_draw_11 : F_X0_draw_0 11 = J_iconst 4 12 := rfl
theorem ftl_X0_draw_12 : F_X0_draw_0 12 = J_icge 118 15 := rfl
theorem ftl_X0_draw_15 : F_X0_draw_0 15 = J_aload 0 16 := rfl
theorem ftl_X0_draw_16 : F_X0_draw_0 16 = J_aload 1 17 := rfl
theorem ftl_X0_draw_17 : F_X0_draw_0 17 = J_aload 0 18 := rfl
theorem ftl_X0_draw_18 : F_X0_draw_0 18 = J_getfield 0 1 21 := rfl
theorem ftl_X0_draw_21 : F_X0_draw_0 21 = J_iload 4 23 := rfl
theorem ftl_X0_draw_23 : F_X0_draw_0 23 = J_iaload 24 := rfl
theorem ftl_X0_draw_24 : F_X0_draw_0 24 = J_iload 3 25 := rfl
theorem ftl_X0_draw_25 : F_X0_draw_0 25 = J_callV 0 S_X0_kindAt 3 28 := rfl
theorem F_X0_draw_0_ok : jOK Y_X0_draw none (F_X0_draw_0) := (jOK_node (jOK_node (jOK_node (jOK_node (jOK_leaf (sn_iconst dX0_draw_0 rfl rfl)) (jOK_leaf (sn_istore dX0_draw_1 rfl (by decide)))) (jOK_node (jOK_leaf (sn_iload dX0_draw_3 rfl)) (jOK_leaf (sn_iload_n dX0_draw_5 rfl rfl)))) (jOK_node (jOK_node (jOK_leaf (sn_icge dX0_draw_6 rfl rfl)) (jOK_leaf (sn_iload dX0_draw_9 rfl))) (jOK_node (jOK_leaf (sn_iconst dX0_draw_11 rfl rfl)) (jOK_leaf (sn_icge dX0_draw_12 rfl rfl))))) (jOK_node (jOK_node (jOK_node (jOK_leaf (sn_aload_n dX0_draw_15 rfl rfl)) (jOK_leaf (sn_aload_n dX0_draw_16 rfl rfl))) (jOK_node (jOK_leaf (sn_aload_n dX0_draw_17 rfl rfl)) (jOK_leaf (sn_getfield dX0_draw_18 rfl rfl (by decide) tw_74 jin0)))) (jOK_node (jOK_node (jOK_leaf (sn_iload dX0_draw_21 rfl)) (jOK_leaf (sn_iaload dX0_draw_23 rfl))) (jOK_node (jOK_leaf (sn_iload_n dX0_draw_24 rfl rfl)) (jOK_leaf (sn_callV (Y' := Y_X0_kindAt) ok_X0_kindAt dX0_draw_25 rfl rfl rfl tw_354 tw_356 tp_9 tw_4 jc_X0_kindAt rfl ⟨by decide, by decide, rfl⟩ ⟨by decide, by decide⟩))))))
def F_X0_draw_28 : Nat → jT := fun pc => (bif Nat.blt pc 43 then (bif Nat.blt pc 36 then (bif Nat.blt pc 32 then (bif Nat.blt pc 29 then (bif Nat.beq pc 28 then J_iconst 1 29 else jbad) else (bif Nat.beq pc 29 then J_icne 36 32 else jbad)) else (bif Nat.blt pc 33 then (bif Nat.beq pc 32 then J_iconst 1 33 else jbad) else (bif Nat.beq pc 33 then J_goto 37 else jbad))) else (bif Nat.blt pc 39 then (bif Nat.blt pc 37 then (bif Nat.beq pc 36 then J_iconst 0 37 else jbad) else (bif Nat.beq pc 37 then J_istore 5 39 else jbad)) else (bif Nat.blt pc 40 then (bif Nat.beq pc 39 then J_aload 0 40 else jbad) else (bif Nat.beq pc 40 then J_getfield 0 2 43 else jbad)))) else (bif Nat.blt pc 50 then (bif Nat.blt pc 46 then (bif Nat.blt pc 45 then (bif Nat.beq pc 43 then J_iload 4 45 else jbad) else (bif Nat.beq pc 45 then J_iaload 46 else jbad)) else (bif Nat.blt pc 49 then (bif Nat.beq pc 46 then J_ifle 85 49 else jbad) else (bif Nat.beq pc 49 then J_aload 0 50 else jbad))) else (bif Nat.blt pc 52 then (bif Nat.blt pc 51 then (bif Nat.beq pc 50 then J_aload 1 51 else jbad) else (bif Nat.beq pc 51 then J_aload 0 52 else jbad)) else (bif Nat.blt pc 55 then (bif Nat.beq pc 52 then J_getfield 0 1 55 else jbad) else (bif Nat.beq pc 55 then J_iload 4 57 else jbad)))))
theorem ftl_X0_draw_28 : F_X0_draw_28 28 = J_iconst 1 29 := rfl
theorem ftl_X0_draw_29 : F_X0_draw_28 29 = J_icne 36 32 := rfl
theorem ftl_X0_draw_32 : F_X0_draw_28 32 = J_iconst 1 33 := rfl
theorem ftl_X0_draw_33 : F_X0_draw_28 33 = J_goto 37 := rfl
theorem ftl_X0_draw_36 : F_X0_draw_28 36 = J_iconst 0 37 := rfl
theorem ftl_X0_draw_37 : F_X0_draw_28 37 = J_istore 5 39 := rfl
theorem ftl_X0_draw_39 : F_X0_draw_28 39 = J_aload 0 40 := rfl
theorem ftl_X0_draw_40 : F_X0_draw_28 40 = J_getfield 0 2 43 := rfl
theorem ftl_X0_draw_43 : F_X0_draw_28 43 = J_iload 4 45 := rfl
theorem ftl_X0_draw_45 : F_X0_draw_28 45 = J_iaload 46 := rfl
theorem ftl_X0_draw_46 : F_X0_draw_28 46 = J_ifle 85 49 := rfl
theorem ftl_X0_draw_49 : F_X0_draw_28 49 = J_aload 0 50 := rfl
theorem ftl_X0_draw_50 : F_X0_draw_28 50 = J_aload 1 51 := rfl
theorem ftl_X0_draw_51 : F_X0_draw_28 51 = J_aload 0 52 := rfl
theorem ftl_X0_draw_52 : F_X0_draw_28 52 = J_getfield 0 1 55 := rfl
theorem ftl_X0_draw_55 : F_X0_draw_28 55 = J_iload 4 57 := rfl
theorem F_X0_draw_28_ok : jOK Y_X0_draw none (F_X0_draw_28) := (jOK_node (jOK_node (jOK_node (jOK_node (jOK_leaf (sn_iconst dX0_draw_28 rfl rfl)) (jOK_leaf (sn_icne dX0_draw_29 rfl rfl))) (jOK_node (jOK_leaf (sn_iconst dX0_draw_32 rfl rfl)) (jOK_leaf (sn_goto dX0_draw_33 rfl)))) (jOK_node (jOK_node (jOK_leaf (sn_iconst dX0_draw_36 rfl rfl)) (jOK_leaf (sn_istore dX0_draw_37 rfl (by decide)))) (jOK_node (jOK_leaf (sn_aload_n dX0_draw_39 rfl rfl)) (jOK_leaf (sn_getfield dX0_draw_40 rfl rfl (by decide) tw_75 jin0))))) (jOK_node (jOK_node (jOK_node (jOK_leaf (sn_iload dX0_draw_43 rfl)) (jOK_leaf (sn_iaload dX0_draw_45 rfl))) (jOK_node (jOK_leaf (sn_ifle dX0_draw_46 rfl rfl)) (jOK_leaf (sn_aload_n dX0_draw_49 rfl rfl)))) (jOK_node (jOK_node (jOK_leaf (sn_aload_n dX0_draw_50 rfl rfl)) (jOK_leaf (sn_aload_n dX0_draw_51 rfl rfl))) (jOK_node (jOK_leaf (sn_getfield dX0_draw_52 rfl rfl (by decide) tw_74 jin0)) (jOK_leaf (sn_iload dX0_draw_55 rfl))))))
def F_X0_draw_0_55 : Nat → jT := fun pc => bif Nat.blt pc 28 then F_X0_draw_0 pc else F_X0_draw_28 pc
theorem F_X0_draw_0_55_ok : jOK Y_X0_draw none (F_X0_draw_0_55) := jOK_node (F_X0_draw_0_ok) (F_X0_draw_28_ok)
def F_X0_draw_57 : Nat → jT := fun pc => (bif Nat.blt pc 71 then (bif Nat.blt pc 64 then (bif Nat.blt pc 60 then (bif Nat.blt pc 58 then (bif Nat.beq pc 57 then J_iaload 58 else jbad) else (bif Nat.beq pc 58 then J_iload 5 60 else jbad)) else (bif Nat.blt pc 63 then (bif Nat.beq pc 60 then J_ifeq 75 63 else jbad) else (bif Nat.beq pc 63 then J_aload 0 64 else jbad))) else (bif Nat.blt pc 69 then (bif Nat.blt pc 67 then (bif Nat.beq pc 64 then J_getfield 0 2 67 else jbad) else (bif Nat.beq pc 67 then J_iload 4 69 else jbad)) else (bif Nat.blt pc 70 then (bif Nat.beq pc 69 then J_iaload 70 else jbad) else (bif Nat.beq pc 70 then J_iconst 1 71 else jbad)))) else (bif Nat.blt pc 79 then (bif Nat.blt pc 75 then (bif Nat.blt pc 72 then (bif Nat.beq pc 71 then J_iadd 72 else jbad) else (bif Nat.beq pc 72 then J_goto 82 else jbad)) else (bif Nat.blt pc 76 then (bif Nat.beq pc 75 then J_aload 0 76 else jbad) else (bif Nat.beq pc 76 then J_getfield 0 2 79 else jbad))) else (bif Nat.blt pc 82 then (bif Nat.blt pc 81 then (bif Nat.beq pc 79 then J_iload 4 81 else jbad) else (bif Nat.beq pc 81 then J_iaload 82 else jbad)) else (bif Nat.blt pc 85 then (bif Nat.beq pc 82 then J_callV 0 S_X0_meter 3 85 else jbad) else (bif Nat.beq pc 85 then J_aload 0 86 else jbad)))))
theorem ftl_X0_draw_57 : F_X0_draw_57 57 = J_iaload 58 := rfl
theorem ftl_X0_draw_58 : F_X0_draw_57 58 = J_iload 5 60 := rfl
theorem ftl_X0_draw_60 : F_X0_draw_57 60 = J_ifeq 75 63 := rfl
theorem ftl_X0_draw_63 : F_X0_draw_57 63 = J_aload 0 64 := rfl
theorem ftl_X0_draw_64 : F_X0_draw_57 64 = J_getfield 0 2 67 := rfl
theorem ftl_X0_draw_67 : F_X0_draw_57 67 = J_iload 4 69 := rfl
theorem ftl_X0_draw_69 : F_X0_draw_57 69 = J_iaload 70 := rfl
theorem ftl_X0_draw_70 : F_X0_draw_57 70 = J_iconst 1 71 := rfl
theorem ftl_X0_draw_71 : F_X0_draw_57 71 = J_iadd 72 := rfl
theorem ftl_X0_draw_72 : F_X0_draw_57 72 = J_goto 82 := rfl
theorem ftl_X0_draw_75 : F_X0_draw_57 75 = J_aload 0 76 := rfl
theorem ftl_X0_draw_76 : F_X0_draw_57 76 = J_getfield 0 2 79 := rfl
theorem ftl_X0_draw_79 : F_X0_draw_57 79 = J_iload 4 81 := rfl
theorem ftl_X0_draw_81 : F_X0_draw_57 81 = J_iaload 82 := rfl
theorem ftl_X0_draw_82 : F_X0_draw_57 82 = J_callV 0 S_X0_meter 3 85 := rfl
theorem ftl_X0_draw_85 : F_X0_draw_57 85 = J_aload 0 86 := rfl
theorem F_X0_draw_57_ok : jOK Y_X0_draw none (F_X0_draw_57) := (jOK_node (jOK_node (jOK_node (jOK_node (jOK_leaf (sn_iaload dX0_draw_57 rfl)) (jOK_leaf (sn_iload dX0_draw_58 rfl))) (jOK_node (jOK_leaf (sn_ifeq dX0_draw_60 rfl rfl)) (jOK_leaf (sn_aload_n dX0_draw_63 rfl rfl)))) (jOK_node (jOK_node (jOK_leaf (sn_getfield dX0_draw_64 rfl rfl (by decide) tw_75 jin0)) (jOK_leaf (sn_iload dX0_draw_67 rfl))) (jOK_node (jOK_leaf (sn_iaload dX0_draw_69 rfl)) (jOK_leaf (sn_iconst dX0_draw_70 rfl rfl))))) (jOK_node (jOK_node (jOK_node (jOK_leaf (sn_iadd dX0_draw_71 rfl)) (jOK_leaf (sn_goto dX0_draw_72 rfl))) (jOK_node (jOK_leaf (sn_aload_n dX0_draw_75 rfl rfl)) (jOK_leaf (sn_getfield dX0_draw_76 rfl rfl (by decide) tw_75 jin0)))) (jOK_node (jOK_node (jOK_leaf (sn_iload dX0_draw_79 rfl)) (jOK_leaf (sn_iaload dX0_draw_81 rfl))) (jOK_node (jOK_leaf (sn_callV (Y' := Y_X0_meter) ok_X0_meter dX0_draw_82 rfl rfl rfl tw_383 tw_385 tp_15 tw_4 jc_X0_meter rfl ⟨by decide, by decide, rfl⟩ ⟨by decide, by decide⟩)) (jOK_leaf (sn_aload_n dX0_draw_85 rfl rfl))))))
def F_X0_draw_86 : Nat → jT := fun pc => (bif Nat.blt pc 102 then (bif Nat.blt pc 95 then (bif Nat.blt pc 91 then (bif Nat.blt pc 89 then (bif Nat.beq pc 86 then J_getfield 0 2 89 else jbad) else (bif Nat.beq pc 89 then J_iload 4 91 else jbad)) else (bif Nat.blt pc 92 then (bif Nat.beq pc 91 then J_iaload 92 else jbad) else (bif Nat.beq pc 92 then J_ifle 112 95 else jbad))) else (bif Nat.blt pc 100 then (bif Nat.blt pc 97 then (bif Nat.beq pc 95 then J_iload 5 97 else jbad) else (bif Nat.beq pc 97 then J_ifeq 112 100 else jbad)) else (bif Nat.blt pc 101 then (bif Nat.beq pc 100 then J_aload 0 101 else jbad) else (bif Nat.beq pc 101 then J_aload 1 102 else jbad)))) else (bif Nat.blt pc 109 then (bif Nat.blt pc 106 then (bif Nat.blt pc 103 then (bif Nat.beq pc 102 then J_aload 0 103 else jbad) else (bif Nat.beq pc 103 then J_getfield 0 1 106 else jbad)) else (bif Nat.blt pc 108 then (bif Nat.beq pc 106 then J_iload 4 108 else jbad) else (bif Nat.beq pc 108 then J_iaload 109 else jbad))) else (bif Nat.blt pc 115 then (bif Nat.blt pc 112 then (bif Nat.beq pc 109 then J_callV 0 S_X0_exceed 2 112 else jbad) else (bif Nat.beq pc 112 then J_iinc 4 1 115 else jbad)) else (bif Nat.blt pc 118 then (bif Nat.beq pc 115 then J_goto 3 else jbad) else (bif Nat.beq pc 118 then J_return 0 0 else jbad)))))
theorem ftl_X0_draw_86 : F_X0_draw_86 86 = J_getfield 0 2 89 := rfl
theorem ftl_X0_draw_89 : F_X0_draw_86 89 = J_iload 4 91 := rfl
theorem ftl_X0_draw_91 : F_X0_draw_86 91 = J_iaload 92 := rfl
theorem ftl_X0_draw_92 : F_X0_draw_86 92 = J_ifle 112 95 := rfl
theorem ftl_X0_draw_95 : F_X0_draw_86 95 = J_iload 5 97 := rfl
theorem ftl_X0_draw_97 : F_X0_draw_86 97 = J_ifeq 112 100 := rfl
theorem ftl_X0_draw_100 : F_X0_draw_86 100 = J_aload 0 101 := rfl
theorem ftl_X0_draw_101 : F_X0_draw_86 101 = J_aload 1 102 := rfl
theorem ftl_X0_draw_102 : F_X0_draw_86 102 = J_aload 0 103 := rfl
theorem ftl_X0_draw_103 : F_X0_draw_86 103 = J_getfield 0 1 106 := rfl
theorem ftl_X0_draw_106 : F_X0_draw_86 106 = J_iload 4 108 := rfl
theorem ftl_X0_draw_108 : F_X0_draw_86 108 = J_iaload 109 := rfl
theorem ftl_X0_draw_109 : F_X0_draw_86 109 = J_callV 0 S_X0_exceed 2 112 := rfl
theorem ftl_X0_draw_112 : F_X0_draw_86 112 = J_iinc 4 1 115 := rfl
theorem ftl_X0_draw_115 : F_X0_draw_86 115 = J_goto 3 := rfl
theorem ftl_X0_draw_118 : F_X0_draw_86 118 = J_return 0 0 := rfl
theorem F_X0_draw_86_ok : jOK Y_X0_draw none (F_X0_draw_86) := (jOK_node (jOK_node (jOK_node (jOK_node (jOK_leaf (sn_getfield dX0_draw_86 rfl rfl (by decide) tw_75 jin0)) (jOK_leaf (sn_iload dX0_draw_89 rfl))) (jOK_node (jOK_leaf (sn_iaload dX0_draw_91 rfl)) (jOK_leaf (sn_ifle dX0_draw_92 rfl rfl)))) (jOK_node (jOK_node (jOK_leaf (sn_iload dX0_draw_95 rfl)) (jOK_leaf (sn_ifeq dX0_draw_97 rfl rfl))) (jOK_node (jOK_leaf (sn_aload_n dX0_draw_100 rfl rfl)) (jOK_leaf (sn_aload_n dX0_draw_101 rfl rfl))))) (jOK_node (jOK_node (jOK_node (jOK_leaf (sn_aload_n dX0_draw_102 rfl rfl)) (jOK_leaf (sn_getfield dX0_draw_103 rfl rfl (by decide) tw_74 jin0))) (jOK_node (jOK_leaf (sn_iload dX0_draw_106 rfl)) (jOK_leaf (sn_iaload dX0_draw_108 rfl)))) (jOK_node (jOK_node (jOK_leaf (sn_callV (Y' := Y_X0_exceed) ok_X0_exceed dX0_draw_109 rfl rfl rfl tw_397 tw_399 tp_16 tw_4 jc_X0_exceed rfl ⟨by decide, by decide, rfl⟩ ⟨by decide, by decide⟩)) (jOK_leaf (sn_iinc dX0_draw_112 rfl rfl (by decide)))) (jOK_node (jOK_leaf (sn_goto dX0_draw_115 rfl)) (jOK_leaf (sn_return dX0_draw_118 rfl rfl))))))
def F_X0_draw_57_118 : Nat → jT := fun pc => bif Nat.blt pc 86 then F_X0_draw_57 pc else F_X0_draw_86 pc
theorem F_X0_draw_57_118_ok : jOK Y_X0_draw none (F_X0_draw_57_118) := jOK_node (F_X0_draw_57_ok) (F_X0_draw_86_ok)
def F_X0_draw_0_118 : Nat → jT := fun pc => bif Nat.blt pc 57 then F_X0_draw_0_55 pc else F_X0_draw_57_118 pc
theorem F_X0_draw_0_118_ok : jOK Y_X0_draw none (F_X0_draw_0_118) := jOK_node (F_X0_draw_0_55_ok) (F_X0_draw_57_118_ok)
def F_X0_draw : Nat → jT := F_X0_draw_0_118
theorem OK_X0_draw : jOK Y_X0_draw none (F_X0_draw) := F_X0_draw_0_118_ok
theorem ft_X0_draw_0 : F_X0_draw 0 = J_iconst 0 1 := ftl_X0_draw_0
theorem ft_X0_draw_1 : F_X0_draw 1 = J_istore 4 3 := ftl_X0_draw_1
theorem ft_X0_draw_3 : F_X0_draw 3 = J_iload 4 5 := ftl_X0_draw_3
theorem ft_X0_draw_5 : F_X0_draw 5 = J_iload 2 6 := ftl_X0_draw_5
theorem ft_X0_draw_6 : F_X0_draw 6 = J_icge 118 9 := ftl_X0_draw_6
theorem ft_X0_draw_9 : F_X0_draw 9 = J_iload 4 11 := ftl_X0_draw_9
theorem ft_X0_draw_11 : F_X0_draw 11 = J_iconst 4 12 := ftl_X0_draw_11
theorem ft_X0_draw_12 : F_X0_draw 12 = J_icge 118 15 := ftl_X0_draw_12
theorem ft_X0_draw_15 : F_X0_draw 15 = J_aload 0 16 := ftl_X0_draw_15
theorem ft_X0_draw_16 : F_X0_draw 16 = J_aload 1 17 := ftl_X0_draw_16
theorem ft_X0_draw_17 : F_X0_draw 17 = J_aload 0 18 := ftl_X0_draw_17
theorem ft_X0_draw_18 : F_X0_draw 18 = J_getfield 0 1 21 := ftl_X0_draw_18
theorem ft_X0_draw_21 : F_X0_draw 21 = J_iload 4 23 := ftl_X0_draw_21
theorem ft_X0_draw_23 : F_X0_draw 23 = J_iaload 24 := ftl_X0_draw_23
theorem ft_X0_draw_24 : F_X0_draw 24 = J_iload 3 25 := ftl_X0_draw_24
theorem ft_X0_draw_25 : F_X0_draw 25 = J_callV 0 S_X0_kindAt 3 28 := ftl_X0_draw_25
theorem ft_X0_draw_28 : F_X0_draw 28 = J_iconst 1 29 := ftl_X0_draw_28
theorem ft_X0_draw_29 : F_X0_draw 29 = J_icne 36 32 := ftl_X0_draw_29
theorem ft_X0_draw_32 : F_X0_draw 32 = J_iconst 1 33 := ftl_X0_draw_32
theorem ft_X0_draw_33 : F_X0_draw 33 = J_goto 37 := ftl_X0_draw_33
theorem ft_X0_draw_36 : F_X0_draw 36 = J_iconst 0 37 := ftl_X0_draw_36
theorem ft_X0_draw_37 : F_X0_draw 37 = J_istore 5 39 := ftl_X0_draw_37
theorem ft_X0_draw_39 : F_X0_draw 39 = J_aload 0 40 := ftl_X0_draw_39
theorem ft_X0_draw_40 : F_X0_draw 40 = J_getfield 0 2 43 := ftl_X0_draw_40
theorem ft_X0_draw_43 : F_X0_draw 43 = J_iload 4 45 := ftl_X0_draw_43
theorem ft_X0_draw_45 : F_X0_draw 45 = J_iaload 46 := ftl_X0_draw_45
theorem ft_X0_draw_46 : F_X0_draw 46 = J_ifle 85 49 := ftl_X0_draw_46
theorem ft_X0_draw_49 : F_X0_draw 49 = J_aload 0 50 := ftl_X0_draw_49
theorem ft_X0_draw_50 : F_X0_draw 50 = J_aload 1 51 := ftl_X0_draw_50
theorem ft_X0_draw_51 : F_X0_draw 51 = J_aload 0 52 := ftl_X0_draw_51
theorem ft_X0_draw_52 : F_X0_draw 52 = J_getfield 0 1 55 := ftl_X0_draw_52
theorem ft_X0_draw_55 : F_X0_draw 55 = J_iload 4 57 := ftl_X0_draw_55
theorem ft_X0_draw_57 : F_X0_draw 57 = J_iaload 58 := ftl_X0_draw_57
theorem ft_X0_draw_58 : F_X0_draw 58 = J_iload 5 60 := ftl_X0_draw_58
theorem ft_X0_draw_60 : F_X0_draw 60 = J_ifeq 75 63 := ftl_X0_draw_60
theorem ft_X0_draw_63 : F_X0_draw 63 = J_aload 0 64 := ftl_X0_draw_63
theorem ft_X0_draw_64 : F_X0_draw 64 = J_getfield 0 2 67 := ftl_X0_draw_64
theorem ft_X0_draw_67 : F_X0_draw 67 = J_iload 4 69 := ftl_X0_draw_67
theorem ft_X0_draw_69 : F_X0_draw 69 = J_iaload 70 := ftl_X0_draw_69
theorem ft_X0_draw_70 : F_X0_draw 70 = J_iconst 1 71 := ftl_X0_draw_70
theorem ft_X0_draw_71 : F_X0_draw 71 = J_iadd 72 := ftl_X0_draw_71
theorem ft_X0_draw_72 : F_X0_draw 72 = J_goto 82 := ftl_X0_draw_72
theorem ft_X0_draw_75 : F_X0_draw 75 = J_aload 0 76 := ftl_X0_draw_75
theorem ft_X0_draw_76 : F_X0_draw 76 = J_getfield 0 2 79 := ftl_X0_draw_76
theorem ft_X0_draw_79 : F_X0_draw 79 = J_iload 4 81 := ftl_X0_draw_79
theorem ft_X0_draw_81 : F_X0_draw 81 = J_iaload 82 := ftl_X0_draw_81
theorem ft_X0_draw_82 : F_X0_draw 82 = J_callV 0 S_X0_meter 3 85 := ftl_X0_draw_82
theorem ft_X0_draw_85 : F_X0_draw 85 = J_aload 0 86 := ftl_X0_draw_85
theorem ft_X0_draw_86 : F_X0_draw 86 = J_getfield 0 2 89 := ftl_X0_draw_86
theorem ft_X0_draw_89 : F_X0_draw 89 = J_iload 4 91 := ftl_X0_draw_89
theorem ft_X0_draw_91 : F_X0_draw 91 = J_iaload 92 := ftl_X0_draw_91
theorem ft_X0_draw_92 : F_X0_draw 92 = J_ifle 112 95 := ftl_X0_draw_92
theorem ft_X0_draw_95 : F_X0_draw 95 = J_iload 5 97 := ftl_X0_draw_95
theorem ft_X0_draw_97 : F_X0_draw 97 = J_ifeq 112 100 := ftl_X0_draw_97
theorem ft_X0_draw_100 : F_X0_draw 100 = J_aload 0 101 := ftl_X0_draw_100
theorem ft_X0_draw_101 : F_X0_draw 101 = J_aload 1 102 := ftl_X0_draw_101
theorem ft_X0_draw_102 : F_X0_draw 102 = J_aload 0 103 := ftl_X0_draw_102
theorem ft_X0_draw_103 : F_X0_draw 103 = J_getfield 0 1 106 := ftl_X0_draw_103
theorem ft_X0_draw_106 : F_X0_draw 106 = J_iload 4 108 := ftl_X0_draw_106
theorem ft_X0_draw_108 : F_X0_draw 108 = J_iaload 109 := ftl_X0_draw_108
theorem ft_X0_draw_109 : F_X0_draw 109 = J_callV 0 S_X0_exceed 2 112 := ftl_X0_draw_109
theorem ft_X0_draw_112 : F_X0_draw 112 = J_iinc 4 1 115 := ftl_X0_draw_112
theorem ft_X0_draw_115 : F_X0_draw 115 = J_goto 3 := ftl_X0_draw_115
theorem ft_X0_draw_118 : F_X0_draw 118 = J_return 0 0 := ftl_X0_draw_118
theorem i32_ite0 {a : Int32} : (a ≤ 0) = ¬ 0 < a := by simp
theorem lp_X0_draw {Q : jQ} {C : Nat → Nat → Int32} {z : Nat → Int64} {nb s n : Nat} {l : Int32} (hs : jSt s 94) (hn : n ≤ 4) (h : Q none (memS 94 (hrow C s (drawF (C 5) (C s) (C 7) (C 8) l n)) z)) :
    ∀ k j, j + k = n → ∀ x : Option Value, Rn Y_X0_draw none Q 3 [some (.ref 6), some (.ref s), some (.int (nI n)), some (.int l), some (.int (nI j)), x] [] (memS 94 (hrow C s (drawF (C 5) (C s) (C 7) (C 8) l j)) z) (nb, 0, 0) := by
  intro k
  induction k with
  | zero =>
    intro j hj x
    have hc : (nI n ≤ nI j) = True := eq_true (nI_le (by omega) (by omega))
    refine jrun_first OK_X0_draw (C := [3]) 60 ?_
    simp -implicitDefEqProofs only [jr_0, jr_1, jr_2, j_iconst, j_lconst, j_iload0, j_aload0, j_istore0, j_astore0, j_iinc0, j_iload1, j_aload1, j_istore1, j_astore1, j_iinc1, j_iload2, j_aload2, j_istore2, j_astore2, j_iinc2, j_iload3, j_aload3, j_istore3, j_astore3, j_iinc3, j_iload4, j_aload4, j_istore4, j_astore4, j_iinc4, j_iload5, j_aload5, j_istore5, j_astore5, j_iinc5, j_iload6, j_aload6, j_istore6, j_astore6, j_iinc6, j_iload7, j_aload7, j_istore7, j_astore7, j_iinc7, j_iload8, j_aload8, j_istore8, j_astore8, j_iinc8, j_iadd, j_isub, j_imul, j_iand, j_ior, j_ixor, j_ishl, j_ishr, j_iushr, j_idiv, j_irem, j_ineg, j_ladd, j_lmul, j_land, j_lor, j_lcmp, j_lushr, j_lshl, j_i2l, j_l2i, j_dupI, j_dupR, j_popI, j_dup2, j_ifeq, j_iceq, j_ifne, j_icne, j_iflt, j_iclt, j_ifge, j_icge, j_ifgt, j_icgt, j_ifle, j_icle, j_goto, j_tsw, j_sw0, j_sw1, j_ireturn, j_zreturn, j_lreturn, j_return, j_getfield, j_putI, j_putJ, j_putR, j_iaload, j_baload, j_iastore, j_bastore, j_aaload, j_q, j_aastore, j_acopy, j_mmin, j_mmax, j_mabs, j_objinit, j_new, j_newI, j_newQ, j_sld, j_slen, j_callV0, j_callI0, j_callS0, j_callV1, j_callI1, j_callS1, j_callV2, j_callI2, j_callS2, j_callV3, j_callS3, j_callV4, j_callS4, j_callV5, j_callS5, j_pushS, j_pushN, j_sh0, j_sh1, j_sh2, j_sh3, j_sh4, Int32.reduceAdd, Int32.reduceMul, Int32.reduceSub, Int32.reduceLT, Int32.reduceLE, eq_self, i32_10, i32_01, ne_eq, hrow_s, hrow_n, ne10, ne100, ne1000, ne7, ne4, ne14, ne9973, or_true, true_or, or_false, false_or, not_true_eq_false, not_false_eq_true, false_implies, implies_true, and_true, forall_const, true_implies, jargs_n, jargs_r, jargs_i, List.cons_append, List.nil_append, true_and, Nat.reduceEqDiff, reduceIte, ft_X0_draw_0, ft_X0_draw_1, ft_X0_draw_3, ft_X0_draw_5, ft_X0_draw_6, ft_X0_draw_9, ft_X0_draw_11, ft_X0_draw_12, ft_X0_draw_15, ft_X0_draw_16, ft_X0_draw_17, ft_X0_draw_18, ft_X0_draw_21, ft_X0_draw_23, ft_X0_draw_24, ft_X0_draw_25, ft_X0_draw_28, ft_X0_draw_29, ft_X0_draw_32, ft_X0_draw_33, ft_X0_draw_36, ft_X0_draw_37, ft_X0_draw_39, ft_X0_draw_40, ft_X0_draw_43, ft_X0_draw_45, ft_X0_draw_46, ft_X0_draw_49, ft_X0_draw_50, ft_X0_draw_51, ft_X0_draw_52, ft_X0_draw_55, ft_X0_draw_57, ft_X0_draw_58, ft_X0_draw_60, ft_X0_draw_63, ft_X0_draw_64, ft_X0_draw_67, ft_X0_draw_69, ft_X0_draw_70, ft_X0_draw_71, ft_X0_draw_72, ft_X0_draw_75, ft_X0_draw_76, ft_X0_draw_79, ft_X0_draw_81, ft_X0_draw_82, ft_X0_draw_85, ft_X0_draw_86, ft_X0_draw_89, ft_X0_draw_91, ft_X0_draw_92, ft_X0_draw_95, ft_X0_draw_97, ft_X0_draw_100, ft_X0_draw_101, ft_X0_draw_102, ft_X0_draw_103, ft_X0_draw_106, ft_X0_draw_108, ft_X0_draw_109, ft_X0_draw_112, ft_X0_draw_115, ft_X0_draw_118, hc]
    rw [show j = n by omega]
    exact h
  | succ k ih =>
    intro j hj x
    have hc : (nI n ≤ nI j) = False := eq_false (nI_ge (by omega) (by omega))
    have hc4 : (4 ≤ nI j) = False := eq_false (nI_ge (b := 4) (by omega) (by decide))
    have hk := ih (j + 1) (by omega)
    unfold drawF at hk
    refine jrun_first OK_X0_draw (C := [3]) 80 ?_
    generalize drawF (C 5) (C s) (C 7) (C 8) l j = ρ at hk ⊢
    have v1 : vp_in (nI j) 4 := vp_in_nI (by omega) (by decide)
    unfold drawStep at hk
    by_cases h1 : 0 < C 8 j <;> by_cases h2 : kdF (C 5) ρ (C 7 j) l = 1
    · simp only [pick_t h1, pick_t h2] at hk
      simp -implicitDefEqProofs only [jr_0, jr_1, jr_2, j_iconst, j_lconst, j_iload0, j_aload0, j_istore0, j_astore0, j_iinc0, j_iload1, j_aload1, j_istore1, j_astore1, j_iinc1, j_iload2, j_aload2, j_istore2, j_astore2, j_iinc2, j_iload3, j_aload3, j_istore3, j_astore3, j_iinc3, j_iload4, j_aload4, j_istore4, j_astore4, j_iinc4, j_iload5, j_aload5, j_istore5, j_astore5, j_iinc5, j_iload6, j_aload6, j_istore6, j_astore6, j_iinc6, j_iload7, j_aload7, j_istore7, j_astore7, j_iinc7, j_iload8, j_aload8, j_istore8, j_astore8, j_iinc8, j_iadd, j_isub, j_imul, j_iand, j_ior, j_ixor, j_ishl, j_ishr, j_iushr, j_idiv, j_irem, j_ineg, j_ladd, j_lmul, j_land, j_lor, j_lcmp, j_lushr, j_lshl, j_i2l, j_l2i, j_dupI, j_dupR, j_popI, j_dup2, j_ifeq, j_iceq, j_ifne, j_icne, j_iflt, j_iclt, j_ifge, j_icge, j_ifgt, j_icgt, j_ifle, j_icle, j_goto, j_tsw, j_sw0, j_sw1, j_ireturn, j_zreturn, j_lreturn, j_return, j_getfield, j_putI, j_putJ, j_putR, j_iaload, j_baload, j_iastore, j_bastore, j_aaload, j_q, j_aastore, j_acopy, j_mmin, j_mmax, j_mabs, j_objinit, j_new, j_newI, j_newQ, j_sld, j_slen, j_callV0, j_callI0, j_callS0, j_callV1, j_callI1, j_callS1, j_callV2, j_callI2, j_callS2, j_callV3, j_callS3, j_callV4, j_callS4, j_callV5, j_callS5, j_pushS, j_pushN, j_sh0, j_sh1, j_sh2, j_sh3, j_sh4, Int32.reduceAdd, Int32.reduceMul, Int32.reduceSub, Int32.reduceLT, Int32.reduceLE, eq_self, i32_10, i32_01, ne_eq, hrow_s, hrow_n, ne10, ne100, ne1000, ne7, ne4, ne14, ne9973, or_true, true_or, or_false, false_or, not_true_eq_false, not_false_eq_true, false_implies, implies_true, and_true, forall_const, true_implies, jargs_n, jargs_r, jargs_i, List.cons_append, List.nil_append, true_and, Nat.reduceEqDiff, reduceIte, ft_X0_draw_0, ft_X0_draw_1, ft_X0_draw_3, ft_X0_draw_5, ft_X0_draw_6, ft_X0_draw_9, ft_X0_draw_11, ft_X0_draw_12, ft_X0_draw_15, ft_X0_draw_16, ft_X0_draw_17, ft_X0_draw_18, ft_X0_draw_21, ft_X0_draw_23, ft_X0_draw_24, ft_X0_draw_25, ft_X0_draw_28, ft_X0_draw_29, ft_X0_draw_32, ft_X0_draw_33, ft_X0_draw_36, ft_X0_draw_37, ft_X0_draw_39, ft_X0_draw_40, ft_X0_draw_43, ft_X0_draw_45, ft_X0_draw_46, ft_X0_draw_49, ft_X0_draw_50, ft_X0_draw_51, ft_X0_draw_52, ft_X0_draw_55, ft_X0_draw_57, ft_X0_draw_58, ft_X0_draw_60, ft_X0_draw_63, ft_X0_draw_64, ft_X0_draw_67, ft_X0_draw_69, ft_X0_draw_70, ft_X0_draw_71, ft_X0_draw_72, ft_X0_draw_75, ft_X0_draw_76, ft_X0_draw_79, ft_X0_draw_81, ft_X0_draw_82, ft_X0_draw_85, ft_X0_draw_86, ft_X0_draw_89, ft_X0_draw_91, ft_X0_draw_92, ft_X0_draw_95, ft_X0_draw_97, ft_X0_draw_100, ft_X0_draw_101, ft_X0_draw_102, ft_X0_draw_103, ft_X0_draw_106, ft_X0_draw_108, ft_X0_draw_109, ft_X0_draw_112, ft_X0_draw_115, ft_X0_draw_118, hc, hc4, fl_6_1, fl_6_2, al_7, al_8, rc_6, jst_ne hs, v1, h1, h2, i32_ite0, s_X0_kindAt hs, s_X0_meter hs, s_X0_exceed hs, nI_1, hrow_hrow, nI_clamp (show j < 2 ^ 31 by omega)]
      exact hk _
    · simp only [pick_t h1, pick_f h2] at hk
      simp -implicitDefEqProofs only [jr_0, jr_1, jr_2, j_iconst, j_lconst, j_iload0, j_aload0, j_istore0, j_astore0, j_iinc0, j_iload1, j_aload1, j_istore1, j_astore1, j_iinc1, j_iload2, j_aload2, j_istore2, j_astore2, j_iinc2, j_iload3, j_aload3, j_istore3, j_astore3, j_iinc3, j_iload4, j_aload4, j_istore4, j_astore4, j_iinc4, j_iload5, j_aload5, j_istore5, j_astore5, j_iinc5, j_iload6, j_aload6, j_istore6, j_astore6, j_iinc6, j_iload7, j_aload7, j_istore7, j_astore7, j_iinc7, j_iload8, j_aload8, j_istore8, j_astore8, j_iinc8, j_iadd, j_isub, j_imul, j_iand, j_ior, j_ixor, j_ishl, j_ishr, j_iushr, j_idiv, j_irem, j_ineg, j_ladd, j_lmul, j_land, j_lor, j_lcmp, j_lushr, j_lshl, j_i2l, j_l2i, j_dupI, j_dupR, j_popI, j_dup2, j_ifeq, j_iceq, j_ifne, j_icne, j_iflt, j_iclt, j_ifge, j_icge, j_ifgt, j_icgt, j_ifle, j_icle, j_goto, j_tsw, j_sw0, j_sw1, j_ireturn, j_zreturn, j_lreturn, j_return, j_getfield, j_putI, j_putJ, j_putR, j_iaload, j_baload, j_iastore, j_bastore, j_aaload, j_q, j_aastore, j_acopy, j_mmin, j_mmax, j_mabs, j_objinit, j_new, j_newI, j_newQ, j_sld, j_slen, j_callV0, j_callI0, j_callS0, j_callV1, j_callI1, j_callS1, j_callV2, j_callI2, j_callS2, j_callV3, j_callS3, j_callV4, j_callS4, j_callV5, j_callS5, j_pushS, j_pushN, j_sh0, j_sh1, j_sh2, j_sh3, j_sh4, Int32.reduceAdd, Int32.reduceMul, Int32.reduceSub, Int32.reduceLT, Int32.reduceLE, eq_self, i32_10, i32_01, ne_eq, hrow_s, hrow_n, ne10, ne100, ne1000, ne7, ne4, ne14, ne9973, or_true, true_or, or_false, false_or, not_true_eq_false, not_false_eq_true, false_implies, implies_true, and_true, forall_const, true_implies, jargs_n, jargs_r, jargs_i, List.cons_append, List.nil_append, true_and, Nat.reduceEqDiff, reduceIte, ft_X0_draw_0, ft_X0_draw_1, ft_X0_draw_3, ft_X0_draw_5, ft_X0_draw_6, ft_X0_draw_9, ft_X0_draw_11, ft_X0_draw_12, ft_X0_draw_15, ft_X0_draw_16, ft_X0_draw_17, ft_X0_draw_18, ft_X0_draw_21, ft_X0_draw_23, ft_X0_draw_24, ft_X0_draw_25, ft_X0_draw_28, ft_X0_draw_29, ft_X0_draw_32, ft_X0_draw_33, ft_X0_draw_36, ft_X0_draw_37, ft_X0_draw_39, ft_X0_draw_40, ft_X0_draw_43, ft_X0_draw_45, ft_X0_draw_46, ft_X0_draw_49, ft_X0_draw_50, ft_X0_draw_51, ft_X0_draw_52, ft_X0_draw_55, ft_X0_draw_57, ft_X0_draw_58, ft_X0_draw_60, ft_X0_draw_63, ft_X0_draw_64, ft_X0_draw_67, ft_X0_draw_69, ft_X0_draw_70, ft_X0_draw_71, ft_X0_draw_72, ft_X0_draw_75, ft_X0_draw_76, ft_X0_draw_79, ft_X0_draw_81, ft_X0_draw_82, ft_X0_draw_85, ft_X0_draw_86, ft_X0_draw_89, ft_X0_draw_91, ft_X0_draw_92, ft_X0_draw_95, ft_X0_draw_97, ft_X0_draw_100, ft_X0_draw_101, ft_X0_draw_102, ft_X0_draw_103, ft_X0_draw_106, ft_X0_draw_108, ft_X0_draw_109, ft_X0_draw_112, ft_X0_draw_115, ft_X0_draw_118, hc, hc4, fl_6_1, fl_6_2, al_7, al_8, rc_6, jst_ne hs, v1, h1, h2, i32_ite0, s_X0_kindAt hs, s_X0_meter hs, s_X0_exceed hs, nI_1, hrow_hrow, nI_clamp (show j < 2 ^ 31 by omega)]
      exact hk _
    · simp only [pick_f h1] at hk
      simp -implicitDefEqProofs only [jr_0, jr_1, jr_2, j_iconst, j_lconst, j_iload0, j_aload0, j_istore0, j_astore0, j_iinc0, j_iload1, j_aload1, j_istore1, j_astore1, j_iinc1, j_iload2, j_aload2, j_istore2, j_astore2, j_iinc2, j_iload3, j_aload3, j_istore3, j_astore3, j_iinc3, j_iload4, j_aload4, j_istore4, j_astore4, j_iinc4, j_iload5, j_aload5, j_istore5, j_astore5, j_iinc5, j_iload6, j_aload6, j_istore6, j_astore6, j_iinc6, j_iload7, j_aload7, j_istore7, j_astore7, j_iinc7, j_iload8, j_aload8, j_istore8, j_astore8, j_iinc8, j_iadd, j_isub, j_imul, j_iand, j_ior, j_ixor, j_ishl, j_ishr, j_iushr, j_idiv, j_irem, j_ineg, j_ladd, j_lmul, j_land, j_lor, j_lcmp, j_lushr, j_lshl, j_i2l, j_l2i, j_dupI, j_dupR, j_popI, j_dup2, j_ifeq, j_iceq, j_ifne, j_icne, j_iflt, j_iclt, j_ifge, j_icge, j_ifgt, j_icgt, j_ifle, j_icle, j_goto, j_tsw, j_sw0, j_sw1, j_ireturn, j_zreturn, j_lreturn, j_return, j_getfield, j_putI, j_putJ, j_putR, j_iaload, j_baload, j_iastore, j_bastore, j_aaload, j_q, j_aastore, j_acopy, j_mmin, j_mmax, j_mabs, j_objinit, j_new, j_newI, j_newQ, j_sld, j_slen, j_callV0, j_callI0, j_callS0, j_callV1, j_callI1, j_callS1, j_callV2, j_callI2, j_callS2, j_callV3, j_callS3, j_callV4, j_callS4, j_callV5, j_callS5, j_pushS, j_pushN, j_sh0, j_sh1, j_sh2, j_sh3, j_sh4, Int32.reduceAdd, Int32.reduceMul, Int32.reduceSub, Int32.reduceLT, Int32.reduceLE, eq_self, i32_10, i32_01, ne_eq, hrow_s, hrow_n, ne10, ne100, ne1000, ne7, ne4, ne14, ne9973, or_true, true_or, or_false, false_or, not_true_eq_false, not_false_eq_true, false_implies, implies_true, and_true, forall_const, true_implies, jargs_n, jargs_r, jargs_i, List.cons_append, List.nil_append, true_and, Nat.reduceEqDiff, reduceIte, ft_X0_draw_0, ft_X0_draw_1, ft_X0_draw_3, ft_X0_draw_5, ft_X0_draw_6, ft_X0_draw_9, ft_X0_draw_11, ft_X0_draw_12, ft_X0_draw_15, ft_X0_draw_16, ft_X0_draw_17, ft_X0_draw_18, ft_X0_draw_21, ft_X0_draw_23, ft_X0_draw_24, ft_X0_draw_25, ft_X0_draw_28, ft_X0_draw_29, ft_X0_draw_32, ft_X0_draw_33, ft_X0_draw_36, ft_X0_draw_37, ft_X0_draw_39, ft_X0_draw_40, ft_X0_draw_43, ft_X0_draw_45, ft_X0_draw_46, ft_X0_draw_49, ft_X0_draw_50, ft_X0_draw_51, ft_X0_draw_52, ft_X0_draw_55, ft_X0_draw_57, ft_X0_draw_58, ft_X0_draw_60, ft_X0_draw_63, ft_X0_draw_64, ft_X0_draw_67, ft_X0_draw_69, ft_X0_draw_70, ft_X0_draw_71, ft_X0_draw_72, ft_X0_draw_75, ft_X0_draw_76, ft_X0_draw_79, ft_X0_draw_81, ft_X0_draw_82, ft_X0_draw_85, ft_X0_draw_86, ft_X0_draw_89, ft_X0_draw_91, ft_X0_draw_92, ft_X0_draw_95, ft_X0_draw_97, ft_X0_draw_100, ft_X0_draw_101, ft_X0_draw_102, ft_X0_draw_103, ft_X0_draw_106, ft_X0_draw_108, ft_X0_draw_109, ft_X0_draw_112, ft_X0_draw_115, ft_X0_draw_118, hc, hc4, fl_6_1, fl_6_2, al_7, al_8, rc_6, jst_ne hs, v1, h1, h2, i32_ite0, s_X0_kindAt hs, s_X0_meter hs, s_X0_exceed hs, nI_1, hrow_hrow, nI_clamp (show j < 2 ^ 31 by omega)]
      exact hk _
    · simp only [pick_f h1] at hk
      simp -implicitDefEqProofs only [jr_0, jr_1, jr_2, j_iconst, j_lconst, j_iload0, j_aload0, j_istore0, j_astore0, j_iinc0, j_iload1, j_aload1, j_istore1, j_astore1, j_iinc1, j_iload2, j_aload2, j_istore2, j_astore2, j_iinc2, j_iload3, j_aload3, j_istore3, j_astore3, j_iinc3, j_iload4, j_aload4, j_istore4, j_astore4, j_iinc4, j_iload5, j_aload5, j_istore5, j_astore5, j_iinc5, j_iload6, j_aload6, j_istore6, j_astore6, j_iinc6, j_iload7, j_aload7, j_istore7, j_astore7, j_iinc7, j_iload8, j_aload8, j_istore8, j_astore8, j_iinc8, j_iadd, j_isub, j_imul, j_iand, j_ior, j_ixor, j_ishl, j_ishr, j_iushr, j_idiv, j_irem, j_ineg, j_ladd, j_lmul, j_land, j_lor, j_lcmp, j_lushr, j_lshl, j_i2l, j_l2i, j_dupI, j_dupR, j_popI, j_dup2, j_ifeq, j_iceq, j_ifne, j_icne, j_iflt, j_iclt, j_ifge, j_icge, j_ifgt, j_icgt, j_ifle, j_icle, j_goto, j_tsw, j_sw0, j_sw1, j_ireturn, j_zreturn, j_lreturn, j_return, j_getfield, j_putI, j_putJ, j_putR, j_iaload, j_baload, j_iastore, j_bastore, j_aaload, j_q, j_aastore, j_acopy, j_mmin, j_mmax, j_mabs, j_objinit, j_new, j_newI, j_newQ, j_sld, j_slen, j_callV0, j_callI0, j_callS0, j_callV1, j_callI1, j_callS1, j_callV2, j_callI2, j_callS2, j_callV3, j_callS3, j_callV4, j_callS4, j_callV5, j_callS5, j_pushS, j_pushN, j_sh0, j_sh1, j_sh2, j_sh3, j_sh4, Int32.reduceAdd, Int32.reduceMul, Int32.reduceSub, Int32.reduceLT, Int32.reduceLE, eq_self, i32_10, i32_01, ne_eq, hrow_s, hrow_n, ne10, ne100, ne1000, ne7, ne4, ne14, ne9973, or_true, true_or, or_false, false_or, not_true_eq_false, not_false_eq_true, false_implies, implies_true, and_true, forall_const, true_implies, jargs_n, jargs_r, jargs_i, List.cons_append, List.nil_append, true_and, Nat.reduceEqDiff, reduceIte, ft_X0_draw_0, ft_X0_draw_1, ft_X0_draw_3, ft_X0_draw_5, ft_X0_draw_6, ft_X0_draw_9, ft_X0_draw_11, ft_X0_draw_12, ft_X0_draw_15, ft_X0_draw_16, ft_X0_draw_17, ft_X0_draw_18, ft_X0_draw_21, ft_X0_draw_23, ft_X0_draw_24, ft_X0_draw_25, ft_X0_draw_28, ft_X0_draw_29, ft_X0_draw_32, ft_X0_draw_33, ft_X0_draw_36, ft_X0_draw_37, ft_X0_draw_39, ft_X0_draw_40, ft_X0_draw_43, ft_X0_draw_45, ft_X0_draw_46, ft_X0_draw_49, ft_X0_draw_50, ft_X0_draw_51, ft_X0_draw_52, ft_X0_draw_55, ft_X0_draw_57, ft_X0_draw_58, ft_X0_draw_60, ft_X0_draw_63, ft_X0_draw_64, ft_X0_draw_67, ft_X0_draw_69, ft_X0_draw_70, ft_X0_draw_71, ft_X0_draw_72, ft_X0_draw_75, ft_X0_draw_76, ft_X0_draw_79, ft_X0_draw_81, ft_X0_draw_82, ft_X0_draw_85, ft_X0_draw_86, ft_X0_draw_89, ft_X0_draw_91, ft_X0_draw_92, ft_X0_draw_95, ft_X0_draw_97, ft_X0_draw_100, ft_X0_draw_101, ft_X0_draw_102, ft_X0_draw_103, ft_X0_draw_106, ft_X0_draw_108, ft_X0_draw_109, ft_X0_draw_112, ft_X0_draw_115, ft_X0_draw_118, hc, hc4, fl_6_1, fl_6_2, al_7, al_8, rc_6, jst_ne hs, v1, h1, h2, i32_ite0, s_X0_kindAt hs, s_X0_meter hs, s_X0_exceed hs, nI_1, hrow_hrow, nI_clamp (show j < 2 ^ 31 by omega)]
      exact hk _
theorem ok_X0_draw : jMeets Y_X0_draw S_X0_draw := by
  intro nb vs mem Q h
  obtain ⟨C, z, s, n, l, rfl, rfl, hs, hn, hQ⟩ := h
  refine Ok.run OK_X0_draw [3] 60 [none, none] pn0 (Nat.le_of_ble_eq_true rfl) rfl ?_
  simp -implicitDefEqProofs only [jr_0, jr_1, jr_2, j_iconst, j_lconst, j_iload0, j_aload0, j_istore0, j_astore0, j_iinc0, j_iload1, j_aload1, j_istore1, j_astore1, j_iinc1, j_iload2, j_aload2, j_istore2, j_astore2, j_iinc2, j_iload3, j_aload3, j_istore3, j_astore3, j_iinc3, j_iload4, j_aload4, j_istore4, j_astore4, j_iinc4, j_iload5, j_aload5, j_istore5, j_astore5, j_iinc5, j_iload6, j_aload6, j_istore6, j_astore6, j_iinc6, j_iload7, j_aload7, j_istore7, j_astore7, j_iinc7, j_iload8, j_aload8, j_istore8, j_astore8, j_iinc8, j_iadd, j_isub, j_imul, j_iand, j_ior, j_ixor, j_ishl, j_ishr, j_iushr, j_idiv, j_irem, j_ineg, j_ladd, j_lmul, j_land, j_lor, j_lcmp, j_lushr, j_lshl, j_i2l, j_l2i, j_dupI, j_dupR, j_popI, j_dup2, j_ifeq, j_iceq, j_ifne, j_icne, j_iflt, j_iclt, j_ifge, j_icge, j_ifgt, j_icgt, j_ifle, j_icle, j_goto, j_tsw, j_sw0, j_sw1, j_ireturn, j_zreturn, j_lreturn, j_return, j_getfield, j_putI, j_putJ, j_putR, j_iaload, j_baload, j_iastore, j_bastore, j_aaload, j_q, j_aastore, j_acopy, j_mmin, j_mmax, j_mabs, j_objinit, j_new, j_newI, j_newQ, j_sld, j_slen, j_callV0, j_callI0, j_callS0, j_callV1, j_callI1, j_callS1, j_callV2, j_callI2, j_callS2, j_callV3, j_callS3, j_callV4, j_callS4, j_callV5, j_callS5, j_pushS, j_pushN, j_sh0, j_sh1, j_sh2, j_sh3, j_sh4, Int32.reduceAdd, Int32.reduceMul, Int32.reduceSub, Int32.reduceLT, Int32.reduceLE, eq_self, i32_10, i32_01, ne_eq, hrow_s, hrow_n, ne10, ne100, ne1000, ne7, ne4, ne14, ne9973, or_true, true_or, or_false, false_or, not_true_eq_false, not_false_eq_true, false_implies, implies_true, and_true, forall_const, true_implies, jargs_n, jargs_r, jargs_i, List.cons_append, List.nil_append, true_and, Nat.reduceEqDiff, reduceIte, ft_X0_draw_0, ft_X0_draw_1, ft_X0_draw_3, ft_X0_draw_5, ft_X0_draw_6, ft_X0_draw_9, ft_X0_draw_11, ft_X0_draw_12, ft_X0_draw_15, ft_X0_draw_16, ft_X0_draw_17, ft_X0_draw_18, ft_X0_draw_21, ft_X0_draw_23, ft_X0_draw_24, ft_X0_draw_25, ft_X0_draw_28, ft_X0_draw_29, ft_X0_draw_32, ft_X0_draw_33, ft_X0_draw_36, ft_X0_draw_37, ft_X0_draw_39, ft_X0_draw_40, ft_X0_draw_43, ft_X0_draw_45, ft_X0_draw_46, ft_X0_draw_49, ft_X0_draw_50, ft_X0_draw_51, ft_X0_draw_52, ft_X0_draw_55, ft_X0_draw_57, ft_X0_draw_58, ft_X0_draw_60, ft_X0_draw_63, ft_X0_draw_64, ft_X0_draw_67, ft_X0_draw_69, ft_X0_draw_70, ft_X0_draw_71, ft_X0_draw_72, ft_X0_draw_75, ft_X0_draw_76, ft_X0_draw_79, ft_X0_draw_81, ft_X0_draw_82, ft_X0_draw_85, ft_X0_draw_86, ft_X0_draw_89, ft_X0_draw_91, ft_X0_draw_92, ft_X0_draw_95, ft_X0_draw_97, ft_X0_draw_100, ft_X0_draw_101, ft_X0_draw_102, ft_X0_draw_103, ft_X0_draw_106, ft_X0_draw_108, ft_X0_draw_109, ft_X0_draw_112, ft_X0_draw_115, ft_X0_draw_118]
  have := lp_X0_draw hs hn hQ n 0 (by omega) none (nb := nb)
  rw [show drawF (C 5) (C s) (C 7) (C 8) l 0 = C s from rfl, hrow_self] at this
  exact this
theorem s_X0_draw {nb s n : Nat} {C : Nat → Nat → Int32} {z : Nat → Int64} {l : Int32} {Q : jQ} (hs : jSt s 94) (hn : n ≤ 4) (hQ : Q none (memS 94 (hrow C s (drawF (C 5) (C s) (C 7) (C 8) l n)) z)) : S_X0_draw nb [.ref 6, .ref s, .int (nI n), .int l] (memS 94 C z) Q := ⟨C, z, s, n, l, rfl, rfl, hs, hn, hQ⟩
