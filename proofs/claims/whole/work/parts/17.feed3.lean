/-! give: g is the row of what is given, i counts; left is what is left of the limit -/
noncomputable def gv1 (left : Int32) : Int32 := pick (left ≤ 0) 0 1
noncomputable def give1 (g : Nat → Int32) (left : Int32) : Nat → (Nat → Int32) × Int32
  | 0 => (g, left)
  | i + 1 => (upd (give1 g left i).1 i (gv1 (give1 g left i).2), (give1 g left i).2 - gv1 (give1 g left i).2)
noncomputable def gmore (T Am ρ o : Nat → Int32) (l : Int32) (i : Nat) (q : (Nat → Int32) × Int32) : Int32 := minI q.2 (mostF T Am ρ (o i) l - q.1 i)
noncomputable def give2 (T Am ρ o : Nat → Int32) (l : Int32) (q : (Nat → Int32) × Int32) : Nat → (Nat → Int32) × Int32
  | 0 => q
  | i + 1 => (upd (give2 T Am ρ o l q i).1 i ((give2 T Am ρ o l q i).1 i + gmore T Am ρ o l i (give2 T Am ρ o l q i)), (give2 T Am ρ o l q i).2 - gmore T Am ρ o l i (give2 T Am ρ o l q i))
noncomputable def giveF (T Am ρ o : Nat → Int32) (l : Int32) (n : Nat) (g : Nat → Int32) : Nat → Int32 := (give2 T Am ρ o l (give1 g (ρ 38) n) n).1
def S_X0_give : jSp := fun _ vs mem Q => ∃ C z s n, ∃ l : Int32, vs = [.ref 6, .ref s, .int (nI n), .int l] ∧ mem = memS 94 C z ∧ jSt s 94 ∧ n ≤ 4 ∧ Q none (memS 94 (hrow C 8 (giveF (C 5) (C 4) (C s) (C 7) l n (C 8))) z)
def F_X0_give_0 : Nat → jT := fun pc => (bif Nat.blt pc 12 then (bif Nat.blt pc 6 then (bif Nat.blt pc 1 then (bif Nat.beq pc 0 then J_aload 1 1 else jbad) else (bif Nat.blt pc 4 then (bif Nat.beq pc 1 then J_getfield 4 2 4 else jbad) else (bif Nat.beq pc 4 then J_istore 4 6 else jbad))) else (bif Nat.blt pc 9 then (bif Nat.blt pc 7 then (bif Nat.beq pc 6 then J_iconst 0 7 else jbad) else (bif Nat.beq pc 7 then J_istore 5 9 else jbad)) else (bif Nat.blt pc 11 then (bif Nat.beq pc 9 then J_iload 5 11 else jbad) else (bif Nat.beq pc 11 then J_iload 2 12 else jbad)))) else (bif Nat.blt pc 21 then (bif Nat.blt pc 16 then (bif Nat.blt pc 15 then (bif Nat.beq pc 12 then J_icge 50 15 else jbad) else (bif Nat.beq pc 15 then J_aload 0 16 else jbad)) else (bif Nat.blt pc 19 then (bif Nat.beq pc 16 then J_getfield 0 2 19 else jbad) else (bif Nat.beq pc 19 then J_iload 5 21 else jbad))) else (bif Nat.blt pc 26 then (bif Nat.blt pc 23 then (bif Nat.beq pc 21 then J_iload 4 23 else jbad) else (bif Nat.beq pc 23 then J_ifle 30 26 else jbad)) else (bif Nat.blt pc 27 then (bif Nat.beq pc 26 then J_iconst 1 27 else jbad) else (bif Nat.beq pc 27 then J_goto 31 else jbad)))))
theorem ftl_X0_give_0 : F_X0_give_0 0 = J_aload 1 1 := rfl
theorem ftl_X0_give_1 : F_X0_give_0 1 = J_getfield 4 2 4 := rfl
theorem ftl_X0_give_4 : F_X0_give_0 4 = J_istore 4 6 := rfl
theorem ftl_X0_give_6 : F_X0_give_0 6 = J_iconst 0 7 := rfl
theorem ftl_X0_give_7 : F_X0_give_0 7 = J_istore 5 9 := rfl
theorem ftl_X0_give_9 : F_X0_give_0 9 = J_iload 5 11 := rfl
theorem ftl_X0_give_11 : F_X0_give_0 11 = J_iload 2 12 := rfl
theorem ftl_X0_give_12 : F_X0_give_0 12 = J_icge 50 15 := rfl
theorem ftl_X0_give_15 : F_X0_give_0 15 = J_aload 0 16 := rfl
theorem ftl_X0_give_16 : F_X0_give_0 16 = J_getfield 0 2 19 := rfl
theorem ftl_X0_give_19 : F_X0_give_0 19 = J_iload 5 21 := rfl
theorem ftl_X0_give_21 : F_X0_give_0 21 = J_iload 4 23 := rfl
theorem ftl_X0_give_23 : F_X0_give_0 23 = J_ifle 30 26 := rfl
theorem ftl_X0_give_26 : F_X0_give_0 26 = J_iconst 1 27 := rfl
theorem ftl_X0_give_27 : F_X0_give_0 27 = J_goto 31 := rfl
theorem F_X0_give_0_ok : jOK Y_X0_give none (F_X0_give_0) := (jOK_node (jOK_node (jOK_node (jOK_leaf (sn_aload_n dX0_give_0 rfl rfl)) (jOK_node (jOK_leaf (sn_getfield dX0_give_1 rfl rfl (by decide) tw_93 jin4)) (jOK_leaf (sn_istore dX0_give_4 rfl (by decide))))) (jOK_node (jOK_node (jOK_leaf (sn_iconst dX0_give_6 rfl rfl)) (jOK_leaf (sn_istore dX0_give_7 rfl (by decide)))) (jOK_node (jOK_leaf (sn_iload dX0_give_9 rfl)) (jOK_leaf (sn_iload_n dX0_give_11 rfl rfl))))) (jOK_node (jOK_node (jOK_node (jOK_leaf (sn_icge dX0_give_12 rfl rfl)) (jOK_leaf (sn_aload_n dX0_give_15 rfl rfl))) (jOK_node (jOK_leaf (sn_getfield dX0_give_16 rfl rfl (by decide) tw_75 jin0)) (jOK_leaf (sn_iload dX0_give_19 rfl)))) (jOK_node (jOK_node (jOK_leaf (sn_iload dX0_give_21 rfl)) (jOK_leaf (sn_ifle dX0_give_23 rfl rfl))) (jOK_node (jOK_leaf (sn_iconst dX0_give_26 rfl rfl)) (jOK_leaf (sn_goto dX0_give_27 rfl))))))
def F_X0_give_30 : Nat → jT := fun pc => (bif Nat.blt pc 42 then (bif Nat.blt pc 35 then (bif Nat.blt pc 32 then (bif Nat.blt pc 31 then (bif Nat.beq pc 30 then J_iconst 0 31 else jbad) else (bif Nat.beq pc 31 then J_iastore 32 else jbad)) else (bif Nat.blt pc 34 then (bif Nat.beq pc 32 then J_iload 4 34 else jbad) else (bif Nat.beq pc 34 then J_aload 0 35 else jbad))) else (bif Nat.blt pc 40 then (bif Nat.blt pc 38 then (bif Nat.beq pc 35 then J_getfield 0 2 38 else jbad) else (bif Nat.beq pc 38 then J_iload 5 40 else jbad)) else (bif Nat.blt pc 41 then (bif Nat.beq pc 40 then J_iaload 41 else jbad) else (bif Nat.beq pc 41 then J_isub 42 else jbad)))) else (bif Nat.blt pc 51 then (bif Nat.blt pc 47 then (bif Nat.blt pc 44 then (bif Nat.beq pc 42 then J_istore 4 44 else jbad) else (bif Nat.beq pc 44 then J_iinc 5 1 47 else jbad)) else (bif Nat.blt pc 50 then (bif Nat.beq pc 47 then J_goto 9 else jbad) else (bif Nat.beq pc 50 then J_iconst 0 51 else jbad))) else (bif Nat.blt pc 55 then (bif Nat.blt pc 53 then (bif Nat.beq pc 51 then J_istore 5 53 else jbad) else (bif Nat.beq pc 53 then J_iload 5 55 else jbad)) else (bif Nat.blt pc 56 then (bif Nat.beq pc 55 then J_iload 2 56 else jbad) else (bif Nat.beq pc 56 then J_icge 112 59 else jbad)))))
theorem ftl_X0_give_30 : F_X0_give_30 30 = J_iconst 0 31 := rfl
theorem ftl_X0_give_31 : F_X0_give_30 31 = J_iastore 32 := rfl
theorem ftl_X0_give_32 : F_X0_give_30 32 = J_iload 4 34 := rfl
theorem ftl_X0_give_34 : F_X0_give_30 34 = J_aload 0 35 := rfl
theorem ftl_X0_give_35 : F_X0_give_30 35 = J_getfield 0 2 38 := rfl
theorem ftl_X0_give_38 : F_X0_give_30 38 = J_iload 5 40 := rfl
theorem ftl_X0_give_40 : F_X0_give_30 40 = J_iaload 41 := rfl
theorem ftl_X0_give_41 : F_X0_give_30 41 = J_isub 42 := rfl
theorem ftl_X0_give_42 : F_X0_give_30 42 = J_istore 4 44 := rfl
theorem ftl_X0_give_44 : F_X0_give_30 44 = J_iinc 5 1 47 := rfl
theorem ftl_X0_give_47 : F_X0_give_30 47 = J_goto 9 := rfl
theorem ftl_X0_give_50 : F_X0_give_30 50 = J_iconst 0 51 := rfl
theorem ftl_X0_give_51 : F_X0_give_30 51 = J_istore 5 53 := rfl
theorem ftl_X0_give_53 : F_X0_give_30 53 = J_iload 5 55 := rfl
theorem ftl_X0_give_55 : F_X0_give_30 55 = J_iload 2 56 := rfl
theorem ftl_X0_give_56 : F_X0_give_30 56 = J_icge 112 59 := rfl
theorem F_X0_give_30_ok : jOK Y_X0_give none (F_X0_give_30) := (jOK_node (jOK_node (jOK_node (jOK_node (jOK_leaf (sn_iconst dX0_give_30 rfl rfl)) (jOK_leaf (sn_iastore dX0_give_31 rfl))) (jOK_node (jOK_leaf (sn_iload dX0_give_32 rfl)) (jOK_leaf (sn_aload_n dX0_give_34 rfl rfl)))) (jOK_node (jOK_node (jOK_leaf (sn_getfield dX0_give_35 rfl rfl (by decide) tw_75 jin0)) (jOK_leaf (sn_iload dX0_give_38 rfl))) (jOK_node (jOK_leaf (sn_iaload dX0_give_40 rfl)) (jOK_leaf (sn_isub dX0_give_41 rfl))))) (jOK_node (jOK_node (jOK_node (jOK_leaf (sn_istore dX0_give_42 rfl (by decide))) (jOK_leaf (sn_iinc dX0_give_44 rfl rfl (by decide)))) (jOK_node (jOK_leaf (sn_goto dX0_give_47 rfl)) (jOK_leaf (sn_iconst dX0_give_50 rfl rfl)))) (jOK_node (jOK_node (jOK_leaf (sn_istore dX0_give_51 rfl (by decide))) (jOK_leaf (sn_iload dX0_give_53 rfl))) (jOK_node (jOK_leaf (sn_iload_n dX0_give_55 rfl rfl)) (jOK_leaf (sn_icge dX0_give_56 rfl rfl))))))
def F_X0_give_0_56 : Nat → jT := fun pc => bif Nat.blt pc 30 then F_X0_give_0 pc else F_X0_give_30 pc
theorem F_X0_give_0_56_ok : jOK Y_X0_give none (F_X0_give_0_56) := jOK_node (F_X0_give_0_ok) (F_X0_give_30_ok)
def F_X0_give_59 : Nat → jT := fun pc => (bif Nat.blt pc 70 then (bif Nat.blt pc 63 then (bif Nat.blt pc 61 then (bif Nat.beq pc 59 then J_iload 4 61 else jbad) else (bif Nat.blt pc 62 then (bif Nat.beq pc 61 then J_aload 0 62 else jbad) else (bif Nat.beq pc 62 then J_aload 1 63 else jbad))) else (bif Nat.blt pc 67 then (bif Nat.blt pc 64 then (bif Nat.beq pc 63 then J_aload 0 64 else jbad) else (bif Nat.beq pc 64 then J_getfield 0 1 67 else jbad)) else (bif Nat.blt pc 69 then (bif Nat.beq pc 67 then J_iload 5 69 else jbad) else (bif Nat.beq pc 69 then J_iaload 70 else jbad)))) else (bif Nat.blt pc 78 then (bif Nat.blt pc 74 then (bif Nat.blt pc 71 then (bif Nat.beq pc 70 then J_iload 3 71 else jbad) else (bif Nat.beq pc 71 then J_callV 0 S_X0_mostFor 3 74 else jbad)) else (bif Nat.blt pc 75 then (bif Nat.beq pc 74 then J_aload 0 75 else jbad) else (bif Nat.beq pc 75 then J_getfield 0 2 78 else jbad))) else (bif Nat.blt pc 81 then (bif Nat.blt pc 80 then (bif Nat.beq pc 78 then J_iload 5 80 else jbad) else (bif Nat.beq pc 80 then J_iaload 81 else jbad)) else (bif Nat.blt pc 82 then (bif Nat.beq pc 81 then J_isub 82 else jbad) else (bif Nat.beq pc 82 then J_mmin 85 else jbad)))))
theorem ftl_X0_give_59 : F_X0_give_59 59 = J_iload 4 61 := rfl
theorem ftl_X0_give_61 : F_X0_give_59 61 = J_aload 0 62 := rfl
theorem ftl_X0_give_62 : F_X0_give_59 62 = J_aload 1 63 := rfl
theorem ftl_X0_give_63 : F_X0_give_59 63 = J_aload 0 64 := rfl
theorem ftl_X0_give_64 : F_X0_give_59 64 = J_getfield 0 1 67 := rfl
theorem ftl_X0_give_67 : F_X0_give_59 67 = J_iload 5 69 := rfl
theorem ftl_X0_give_69 : F_X0_give_59 69 = J_iaload 70 := rfl
theorem ftl_X0_give_70 : F_X0_give_59 70 = J_iload 3 71 := rfl
theorem ftl_X0_give_71 : F_X0_give_59 71 = J_callV 0 S_X0_mostFor 3 74 := rfl
theorem ftl_X0_give_74 : F_X0_give_59 74 = J_aload 0 75 := rfl
theorem ftl_X0_give_75 : F_X0_give_59 75 = J_getfield 0 2 78 := rfl
theorem ftl_X0_give_78 : F_X0_give_59 78 = J_iload 5 80 := rfl
theorem ftl_X0_give_80 : F_X0_give_59 80 = J_iaload 81 := rfl
theorem ftl_X0_give_81 : F_X0_give_59 81 = J_isub 82 := rfl
theorem ftl_X0_give_82 : F_X0_give_59 82 = J_mmin 85 := rfl
theorem F_X0_give_59_ok : jOK Y_X0_give none (F_X0_give_59) := (jOK_node (jOK_node (jOK_node (jOK_leaf (sn_iload dX0_give_59 rfl)) (jOK_node (jOK_leaf (sn_aload_n dX0_give_61 rfl rfl)) (jOK_leaf (sn_aload_n dX0_give_62 rfl rfl)))) (jOK_node (jOK_node (jOK_leaf (sn_aload_n dX0_give_63 rfl rfl)) (jOK_leaf (sn_getfield dX0_give_64 rfl rfl (by decide) tw_74 jin0))) (jOK_node (jOK_leaf (sn_iload dX0_give_67 rfl)) (jOK_leaf (sn_iaload dX0_give_69 rfl))))) (jOK_node (jOK_node (jOK_node (jOK_leaf (sn_iload_n dX0_give_70 rfl rfl)) (jOK_leaf (sn_callV (Y' := Y_X0_mostFor) ok_X0_mostFor dX0_give_71 rfl rfl rfl tw_371 tw_373 tp_13 tw_4 jc_X0_mostFor rfl ⟨by decide, by decide, rfl⟩ ⟨by decide, by decide⟩))) (jOK_node (jOK_leaf (sn_aload_n dX0_give_74 rfl rfl)) (jOK_leaf (sn_getfield dX0_give_75 rfl rfl (by decide) tw_75 jin0)))) (jOK_node (jOK_node (jOK_leaf (sn_iload dX0_give_78 rfl)) (jOK_leaf (sn_iaload dX0_give_80 rfl))) (jOK_node (jOK_leaf (sn_isub dX0_give_81 rfl)) (jOK_leaf (sn_mmin dX0_give_82 rfl tw_376 tw_377 tw_10 tw_378 ⟨by decide, by decide⟩))))))
def F_X0_give_85 : Nat → jT := fun pc => (bif Nat.blt pc 98 then (bif Nat.blt pc 93 then (bif Nat.blt pc 88 then (bif Nat.blt pc 87 then (bif Nat.beq pc 85 then J_istore 6 87 else jbad) else (bif Nat.beq pc 87 then J_aload 0 88 else jbad)) else (bif Nat.blt pc 91 then (bif Nat.beq pc 88 then J_getfield 0 2 91 else jbad) else (bif Nat.beq pc 91 then J_iload 5 93 else jbad))) else (bif Nat.blt pc 95 then (bif Nat.blt pc 94 then (bif Nat.beq pc 93 then J_dup2 94 else jbad) else (bif Nat.beq pc 94 then J_iaload 95 else jbad)) else (bif Nat.blt pc 97 then (bif Nat.beq pc 95 then J_iload 6 97 else jbad) else (bif Nat.beq pc 97 then J_iadd 98 else jbad)))) else (bif Nat.blt pc 104 then (bif Nat.blt pc 101 then (bif Nat.blt pc 99 then (bif Nat.beq pc 98 then J_iastore 99 else jbad) else (bif Nat.beq pc 99 then J_iload 4 101 else jbad)) else (bif Nat.blt pc 103 then (bif Nat.beq pc 101 then J_iload 6 103 else jbad) else (bif Nat.beq pc 103 then J_isub 104 else jbad))) else (bif Nat.blt pc 109 then (bif Nat.blt pc 106 then (bif Nat.beq pc 104 then J_istore 4 106 else jbad) else (bif Nat.beq pc 106 then J_iinc 5 1 109 else jbad)) else (bif Nat.blt pc 112 then (bif Nat.beq pc 109 then J_goto 53 else jbad) else (bif Nat.beq pc 112 then J_return 0 0 else jbad)))))
theorem ftl_X0_give_85 : F_X0_give_85 85 = J_istore 6 87 := rfl
theorem ftl_X0_give_87 : F_X0_give_85 87 = J_aload 0 88 := rfl
theorem ftl_X0_give_88 : F_X0_give_85 88 = J_getfield 0 2 91 := rfl
theorem ftl_X0_give_91 : F_X0_give_85 91 = J_iload 5 93 := rfl
theorem ftl_X0_give_93 : F_X0_give_85 93 = J_dup2 94 := rfl
theorem ftl_X0_give_94 : F_X0_give_85 94 = J_iaload 95 := rfl
theorem ftl_X0_give_95 : F_X0_give_85 95 = J_iload 6 97 := rfl
theorem ftl_X0_give_97 : F_X0_give_85 97 = J_iadd 98 := rfl
theorem ftl_X0_give_98 : F_X0_give_85 98 = J_iastore 99 := rfl
theorem ftl_X0_give_99 : F_X0_give_85 99 = J_iload 4 101 := rfl
theorem ftl_X0_give_101 : F_X0_give_85 101 = J_iload 6 103 := rfl
theorem ftl_X0_give_103 : F_X0_give_85 103 = J_isub 104 := rfl
theorem ftl_X0_give_104 : F_X0_give_85 104 = J_istore 4 106 := rfl
theorem ftl_X0_give_106 : F_X0_give_85 106 = J_iinc 5 1 109 := rfl
theorem ftl_X0_give_109 : F_X0_give_85 109 = J_goto 53 := rfl
theorem ftl_X0_give_112 : F_X0_give_85 112 = J_return 0 0 := rfl
theorem F_X0_give_85_ok : jOK Y_X0_give none (F_X0_give_85) := (jOK_node (jOK_node (jOK_node (jOK_node (jOK_leaf (sn_istore dX0_give_85 rfl (by decide))) (jOK_leaf (sn_aload_n dX0_give_87 rfl rfl))) (jOK_node (jOK_leaf (sn_getfield dX0_give_88 rfl rfl (by decide) tw_75 jin0)) (jOK_leaf (sn_iload dX0_give_91 rfl)))) (jOK_node (jOK_node (jOK_leaf (sn_dup2 dX0_give_93 rfl)) (jOK_leaf (sn_iaload dX0_give_94 rfl))) (jOK_node (jOK_leaf (sn_iload dX0_give_95 rfl)) (jOK_leaf (sn_iadd dX0_give_97 rfl))))) (jOK_node (jOK_node (jOK_node (jOK_leaf (sn_iastore dX0_give_98 rfl)) (jOK_leaf (sn_iload dX0_give_99 rfl))) (jOK_node (jOK_leaf (sn_iload dX0_give_101 rfl)) (jOK_leaf (sn_isub dX0_give_103 rfl)))) (jOK_node (jOK_node (jOK_leaf (sn_istore dX0_give_104 rfl (by decide))) (jOK_leaf (sn_iinc dX0_give_106 rfl rfl (by decide)))) (jOK_node (jOK_leaf (sn_goto dX0_give_109 rfl)) (jOK_leaf (sn_return dX0_give_112 rfl rfl))))))
def F_X0_give_59_112 : Nat → jT := fun pc => bif Nat.blt pc 85 then F_X0_give_59 pc else F_X0_give_85 pc
theorem F_X0_give_59_112_ok : jOK Y_X0_give none (F_X0_give_59_112) := jOK_node (F_X0_give_59_ok) (F_X0_give_85_ok)
def F_X0_give_0_112 : Nat → jT := fun pc => bif Nat.blt pc 59 then F_X0_give_0_56 pc else F_X0_give_59_112 pc
theorem F_X0_give_0_112_ok : jOK Y_X0_give none (F_X0_give_0_112) := jOK_node (F_X0_give_0_56_ok) (F_X0_give_59_112_ok)
def F_X0_give : Nat → jT := F_X0_give_0_112
theorem OK_X0_give : jOK Y_X0_give none (F_X0_give) := F_X0_give_0_112_ok
theorem ft_X0_give_0 : F_X0_give 0 = J_aload 1 1 := ftl_X0_give_0
theorem ft_X0_give_1 : F_X0_give 1 = J_getfield 4 2 4 := ftl_X0_give_1
theorem ft_X0_give_4 : F_X0_give 4 = J_istore 4 6 := ftl_X0_give_4
theorem ft_X0_give_6 : F_X0_give 6 = J_iconst 0 7 := ftl_X0_give_6
theorem ft_X0_give_7 : F_X0_give 7 = J_istore 5 9 := ftl_X0_give_7
theorem ft_X0_give_9 : F_X0_give 9 = J_iload 5 11 := ftl_X0_give_9
theorem ft_X0_give_11 : F_X0_give 11 = J_iload 2 12 := ftl_X0_give_11
theorem ft_X0_give_12 : F_X0_give 12 = J_icge 50 15 := ftl_X0_give_12
theorem ft_X0_give_15 : F_X0_give 15 = J_aload 0 16 := ftl_X0_give_15
theorem ft_X0_give_16 : F_X0_give 16 = J_getfield 0 2 19 := ftl_X0_give_16
theorem ft_X0_give_19 : F_X0_give 19 = J_iload 5 21 := ftl_X0_give_19
theorem ft_X0_give_21 : F_X0_give 21 = J_iload 4 23 := ftl_X0_give_21
theorem ft_X0_give_23 : F_X0_give 23 = J_ifle 30 26 := ftl_X0_give_23
theorem ft_X0_give_26 : F_X0_give 26 = J_iconst 1 27 := ftl_X0_give_26
theorem ft_X0_give_27 : F_X0_give 27 = J_goto 31 := ftl_X0_give_27
theorem ft_X0_give_30 : F_X0_give 30 = J_iconst 0 31 := ftl_X0_give_30
theorem ft_X0_give_31 : F_X0_give 31 = J_iastore 32 := ftl_X0_give_31
theorem ft_X0_give_32 : F_X0_give 32 = J_iload 4 34 := ftl_X0_give_32
theorem ft_X0_give_34 : F_X0_give 34 = J_aload 0 35 := ftl_X0_give_34
theorem ft_X0_give_35 : F_X0_give 35 = J_getfield 0 2 38 := ftl_X0_give_35
theorem ft_X0_give_38 : F_X0_give 38 = J_iload 5 40 := ftl_X0_give_38
theorem ft_X0_give_40 : F_X0_give 40 = J_iaload 41 := ftl_X0_give_40
theorem ft_X0_give_41 : F_X0_give 41 = J_isub 42 := ftl_X0_give_41
theorem ft_X0_give_42 : F_X0_give 42 = J_istore 4 44 := ftl_X0_give_42
theorem ft_X0_give_44 : F_X0_give 44 = J_iinc 5 1 47 := ftl_X0_give_44
theorem ft_X0_give_47 : F_X0_give 47 = J_goto 9 := ftl_X0_give_47
theorem ft_X0_give_50 : F_X0_give 50 = J_iconst 0 51 := ftl_X0_give_50
theorem ft_X0_give_51 : F_X0_give 51 = J_istore 5 53 := ftl_X0_give_51
theorem ft_X0_give_53 : F_X0_give 53 = J_iload 5 55 := ftl_X0_give_53
theorem ft_X0_give_55 : F_X0_give 55 = J_iload 2 56 := ftl_X0_give_55
theorem ft_X0_give_56 : F_X0_give 56 = J_icge 112 59 := ftl_X0_give_56
theorem ft_X0_give_59 : F_X0_give 59 = J_iload 4 61 := ftl_X0_give_59
theorem ft_X0_give_61 : F_X0_give 61 = J_aload 0 62 := ftl_X0_give_61
theorem ft_X0_give_62 : F_X0_give 62 = J_aload 1 63 := ftl_X0_give_62
theorem ft_X0_give_63 : F_X0_give 63 = J_aload 0 64 := ftl_X0_give_63
theorem ft_X0_give_64 : F_X0_give 64 = J_getfield 0 1 67 := ftl_X0_give_64
theorem ft_X0_give_67 : F_X0_give 67 = J_iload 5 69 := ftl_X0_give_67
theorem ft_X0_give_69 : F_X0_give 69 = J_iaload 70 := ftl_X0_give_69
theorem ft_X0_give_70 : F_X0_give 70 = J_iload 3 71 := ftl_X0_give_70
theorem ft_X0_give_71 : F_X0_give 71 = J_callV 0 S_X0_mostFor 3 74 := ftl_X0_give_71
theorem ft_X0_give_74 : F_X0_give 74 = J_aload 0 75 := ftl_X0_give_74
theorem ft_X0_give_75 : F_X0_give 75 = J_getfield 0 2 78 := ftl_X0_give_75
theorem ft_X0_give_78 : F_X0_give 78 = J_iload 5 80 := ftl_X0_give_78
theorem ft_X0_give_80 : F_X0_give 80 = J_iaload 81 := ftl_X0_give_80
theorem ft_X0_give_81 : F_X0_give 81 = J_isub 82 := ftl_X0_give_81
theorem ft_X0_give_82 : F_X0_give 82 = J_mmin 85 := ftl_X0_give_82
theorem ft_X0_give_85 : F_X0_give 85 = J_istore 6 87 := ftl_X0_give_85
theorem ft_X0_give_87 : F_X0_give 87 = J_aload 0 88 := ftl_X0_give_87
theorem ft_X0_give_88 : F_X0_give 88 = J_getfield 0 2 91 := ftl_X0_give_88
theorem ft_X0_give_91 : F_X0_give 91 = J_iload 5 93 := ftl_X0_give_91
theorem ft_X0_give_93 : F_X0_give 93 = J_dup2 94 := ftl_X0_give_93
theorem ft_X0_give_94 : F_X0_give 94 = J_iaload 95 := ftl_X0_give_94
theorem ft_X0_give_95 : F_X0_give 95 = J_iload 6 97 := ftl_X0_give_95
theorem ft_X0_give_97 : F_X0_give 97 = J_iadd 98 := ftl_X0_give_97
theorem ft_X0_give_98 : F_X0_give 98 = J_iastore 99 := ftl_X0_give_98
theorem ft_X0_give_99 : F_X0_give 99 = J_iload 4 101 := ftl_X0_give_99
theorem ft_X0_give_101 : F_X0_give 101 = J_iload 6 103 := ftl_X0_give_101
theorem ft_X0_give_103 : F_X0_give 103 = J_isub 104 := ftl_X0_give_103
theorem ft_X0_give_104 : F_X0_give 104 = J_istore 4 106 := ftl_X0_give_104
theorem ft_X0_give_106 : F_X0_give 106 = J_iinc 5 1 109 := ftl_X0_give_106
theorem ft_X0_give_109 : F_X0_give 109 = J_goto 53 := ftl_X0_give_109
theorem ft_X0_give_112 : F_X0_give 112 = J_return 0 0 := ftl_X0_give_112
theorem lp_X0_give2 {Q : jQ} {C : Nat → Nat → Int32} {z : Nat → Int64} {nb s n : Nat} {l : Int32} (hs : jSt s 94) (hn : n ≤ 4) (q : (Nat → Int32) × Int32) (h : Q none (memS 94 (hrow C 8 (give2 (C 5) (C 4) (C s) (C 7) l q n).1) z)) :
    ∀ k j, j + k = n → ∀ x : Option Value, Rn Y_X0_give none Q 53 [some (.ref 6), some (.ref s), some (.int (nI n)), some (.int l), some (.int (give2 (C 5) (C 4) (C s) (C 7) l q j).2), some (.int (nI j)), x] [] (memS 94 (hrow C 8 (give2 (C 5) (C 4) (C s) (C 7) l q j).1) z) (nb, 0, 0) := by
  have n8 : (s = 8) = False := by have := (jst_ne hs).2.2.2.2; simp only [eq_iff_iff, iff_false] at this ⊢; exact fun q => this q.symm
  intro k
  induction k with
  | zero =>
    intro j hj x
    have hc : (nI n ≤ nI j) = True := eq_true (nI_le (by omega) (by omega))
    refine jrun_first OK_X0_give (C := [53]) 60 ?_
    simp -implicitDefEqProofs only [jr_0, jr_1, jr_2, j_iconst, j_lconst, j_iload0, j_aload0, j_istore0, j_astore0, j_iinc0, j_iload1, j_aload1, j_istore1, j_astore1, j_iinc1, j_iload2, j_aload2, j_istore2, j_astore2, j_iinc2, j_iload3, j_aload3, j_istore3, j_astore3, j_iinc3, j_iload4, j_aload4, j_istore4, j_astore4, j_iinc4, j_iload5, j_aload5, j_istore5, j_astore5, j_iinc5, j_iload6, j_aload6, j_istore6, j_astore6, j_iinc6, j_iload7, j_aload7, j_istore7, j_astore7, j_iinc7, j_iload8, j_aload8, j_istore8, j_astore8, j_iinc8, j_iadd, j_isub, j_imul, j_iand, j_ior, j_ixor, j_ishl, j_ishr, j_iushr, j_idiv, j_irem, j_ineg, j_ladd, j_lmul, j_land, j_lor, j_lcmp, j_lushr, j_lshl, j_i2l, j_l2i, j_dupI, j_dupR, j_popI, j_dup2, j_ifeq, j_iceq, j_ifne, j_icne, j_iflt, j_iclt, j_ifge, j_icge, j_ifgt, j_icgt, j_ifle, j_icle, j_goto, j_tsw, j_sw0, j_sw1, j_ireturn, j_zreturn, j_lreturn, j_return, j_getfield, j_putI, j_putJ, j_putR, j_iaload, j_baload, j_iastore, j_bastore, j_aaload, j_q, j_aastore, j_acopy, j_mmin, j_mmax, j_mabs, j_objinit, j_new, j_newI, j_newQ, j_sld, j_slen, j_callV0, j_callI0, j_callS0, j_callV1, j_callI1, j_callS1, j_callV2, j_callI2, j_callS2, j_callV3, j_callS3, j_callV4, j_callS4, j_callV5, j_callS5, j_pushS, j_pushN, j_sh0, j_sh1, j_sh2, j_sh3, j_sh4, Int32.reduceAdd, Int32.reduceMul, Int32.reduceSub, Int32.reduceLT, Int32.reduceLE, eq_self, i32_10, i32_01, ne_eq, hrow_s, hrow_n, ne10, ne100, ne1000, ne7, ne4, ne14, ne9973, or_true, true_or, or_false, false_or, not_true_eq_false, not_false_eq_true, false_implies, implies_true, and_true, forall_const, true_implies, jargs_n, jargs_r, jargs_i, List.cons_append, List.nil_append, true_and, Nat.reduceEqDiff, reduceIte, ft_X0_give_0, ft_X0_give_1, ft_X0_give_4, ft_X0_give_6, ft_X0_give_7, ft_X0_give_9, ft_X0_give_11, ft_X0_give_12, ft_X0_give_15, ft_X0_give_16, ft_X0_give_19, ft_X0_give_21, ft_X0_give_23, ft_X0_give_26, ft_X0_give_27, ft_X0_give_30, ft_X0_give_31, ft_X0_give_32, ft_X0_give_34, ft_X0_give_35, ft_X0_give_38, ft_X0_give_40, ft_X0_give_41, ft_X0_give_42, ft_X0_give_44, ft_X0_give_47, ft_X0_give_50, ft_X0_give_51, ft_X0_give_53, ft_X0_give_55, ft_X0_give_56, ft_X0_give_59, ft_X0_give_61, ft_X0_give_62, ft_X0_give_63, ft_X0_give_64, ft_X0_give_67, ft_X0_give_69, ft_X0_give_70, ft_X0_give_71, ft_X0_give_74, ft_X0_give_75, ft_X0_give_78, ft_X0_give_80, ft_X0_give_81, ft_X0_give_82, ft_X0_give_85, ft_X0_give_87, ft_X0_give_88, ft_X0_give_91, ft_X0_give_93, ft_X0_give_94, ft_X0_give_95, ft_X0_give_97, ft_X0_give_98, ft_X0_give_99, ft_X0_give_101, ft_X0_give_103, ft_X0_give_104, ft_X0_give_106, ft_X0_give_109, ft_X0_give_112, hc]
    rw [show j = n by omega]
    exact h
  | succ k ih =>
    intro j hj x
    have hc : (nI n ≤ nI j) = False := eq_false (nI_ge (by omega) (by omega))
    have hk := ih (j + 1) (by omega)
    unfold give2 at hk
    refine jrun_first OK_X0_give (C := [53]) 60 ?_
    generalize give2 (C 5) (C 4) (C s) (C 7) l q j = w at hk ⊢
    obtain ⟨g, left⟩ := w
    have v1 : vp_in (nI j) 4 := vp_in_nI (by omega) (by decide)
    simp -implicitDefEqProofs only [jr_0, jr_1, jr_2, j_iconst, j_lconst, j_iload0, j_aload0, j_istore0, j_astore0, j_iinc0, j_iload1, j_aload1, j_istore1, j_astore1, j_iinc1, j_iload2, j_aload2, j_istore2, j_astore2, j_iinc2, j_iload3, j_aload3, j_istore3, j_astore3, j_iinc3, j_iload4, j_aload4, j_istore4, j_astore4, j_iinc4, j_iload5, j_aload5, j_istore5, j_astore5, j_iinc5, j_iload6, j_aload6, j_istore6, j_astore6, j_iinc6, j_iload7, j_aload7, j_istore7, j_astore7, j_iinc7, j_iload8, j_aload8, j_istore8, j_astore8, j_iinc8, j_iadd, j_isub, j_imul, j_iand, j_ior, j_ixor, j_ishl, j_ishr, j_iushr, j_idiv, j_irem, j_ineg, j_ladd, j_lmul, j_land, j_lor, j_lcmp, j_lushr, j_lshl, j_i2l, j_l2i, j_dupI, j_dupR, j_popI, j_dup2, j_ifeq, j_iceq, j_ifne, j_icne, j_iflt, j_iclt, j_ifge, j_icge, j_ifgt, j_icgt, j_ifle, j_icle, j_goto, j_tsw, j_sw0, j_sw1, j_ireturn, j_zreturn, j_lreturn, j_return, j_getfield, j_putI, j_putJ, j_putR, j_iaload, j_baload, j_iastore, j_bastore, j_aaload, j_q, j_aastore, j_acopy, j_mmin, j_mmax, j_mabs, j_objinit, j_new, j_newI, j_newQ, j_sld, j_slen, j_callV0, j_callI0, j_callS0, j_callV1, j_callI1, j_callS1, j_callV2, j_callI2, j_callS2, j_callV3, j_callS3, j_callV4, j_callS4, j_callV5, j_callS5, j_pushS, j_pushN, j_sh0, j_sh1, j_sh2, j_sh3, j_sh4, Int32.reduceAdd, Int32.reduceMul, Int32.reduceSub, Int32.reduceLT, Int32.reduceLE, eq_self, i32_10, i32_01, ne_eq, hrow_s, hrow_n, ne10, ne100, ne1000, ne7, ne4, ne14, ne9973, or_true, true_or, or_false, false_or, not_true_eq_false, not_false_eq_true, false_implies, implies_true, and_true, forall_const, true_implies, jargs_n, jargs_r, jargs_i, List.cons_append, List.nil_append, true_and, Nat.reduceEqDiff, reduceIte, ft_X0_give_0, ft_X0_give_1, ft_X0_give_4, ft_X0_give_6, ft_X0_give_7, ft_X0_give_9, ft_X0_give_11, ft_X0_give_12, ft_X0_give_15, ft_X0_give_16, ft_X0_give_19, ft_X0_give_21, ft_X0_give_23, ft_X0_give_26, ft_X0_give_27, ft_X0_give_30, ft_X0_give_31, ft_X0_give_32, ft_X0_give_34, ft_X0_give_35, ft_X0_give_38, ft_X0_give_40, ft_X0_give_41, ft_X0_give_42, ft_X0_give_44, ft_X0_give_47, ft_X0_give_50, ft_X0_give_51, ft_X0_give_53, ft_X0_give_55, ft_X0_give_56, ft_X0_give_59, ft_X0_give_61, ft_X0_give_62, ft_X0_give_63, ft_X0_give_64, ft_X0_give_67, ft_X0_give_69, ft_X0_give_70, ft_X0_give_71, ft_X0_give_74, ft_X0_give_75, ft_X0_give_78, ft_X0_give_80, ft_X0_give_81, ft_X0_give_82, ft_X0_give_85, ft_X0_give_87, ft_X0_give_88, ft_X0_give_91, ft_X0_give_93, ft_X0_give_94, ft_X0_give_95, ft_X0_give_97, ft_X0_give_98, ft_X0_give_99, ft_X0_give_101, ft_X0_give_103, ft_X0_give_104, ft_X0_give_106, ft_X0_give_109, ft_X0_give_112, hc, n8, fl_6_1, fl_6_2, al_7, al_8, as_8, rc_6, s_X0_mostFor hs, nI_1, hrow_hrow, v1, nI_clamp (show j < 2 ^ 31 by omega)]
    exact hk _
theorem lp_X0_give1 {Q : jQ} {C : Nat → Nat → Int32} {z : Nat → Int64} {nb s n : Nat} {l : Int32} (hs : jSt s 94) (hn : n ≤ 4) (h : Q none (memS 94 (hrow C 8 (giveF (C 5) (C 4) (C s) (C 7) l n (C 8))) z)) :
    ∀ k j, j + k = n → ∀ x : Option Value, Rn Y_X0_give none Q 9 [some (.ref 6), some (.ref s), some (.int (nI n)), some (.int l), some (.int (give1 (C 8) (C s 38) j).2), some (.int (nI j)), x] [] (memS 94 (hrow C 8 (give1 (C 8) (C s 38) j).1) z) (nb, 0, 0) := by
  intro k
  induction k with
  | zero =>
    intro j hj x
    have hc : (nI n ≤ nI j) = True := eq_true (nI_le (by omega) (by omega))
    refine jrun_first OK_X0_give (C := [9, 53]) 60 ?_
    simp -implicitDefEqProofs only [jr_0, jr_1, jr_2, j_iconst, j_lconst, j_iload0, j_aload0, j_istore0, j_astore0, j_iinc0, j_iload1, j_aload1, j_istore1, j_astore1, j_iinc1, j_iload2, j_aload2, j_istore2, j_astore2, j_iinc2, j_iload3, j_aload3, j_istore3, j_astore3, j_iinc3, j_iload4, j_aload4, j_istore4, j_astore4, j_iinc4, j_iload5, j_aload5, j_istore5, j_astore5, j_iinc5, j_iload6, j_aload6, j_istore6, j_astore6, j_iinc6, j_iload7, j_aload7, j_istore7, j_astore7, j_iinc7, j_iload8, j_aload8, j_istore8, j_astore8, j_iinc8, j_iadd, j_isub, j_imul, j_iand, j_ior, j_ixor, j_ishl, j_ishr, j_iushr, j_idiv, j_irem, j_ineg, j_ladd, j_lmul, j_land, j_lor, j_lcmp, j_lushr, j_lshl, j_i2l, j_l2i, j_dupI, j_dupR, j_popI, j_dup2, j_ifeq, j_iceq, j_ifne, j_icne, j_iflt, j_iclt, j_ifge, j_icge, j_ifgt, j_icgt, j_ifle, j_icle, j_goto, j_tsw, j_sw0, j_sw1, j_ireturn, j_zreturn, j_lreturn, j_return, j_getfield, j_putI, j_putJ, j_putR, j_iaload, j_baload, j_iastore, j_bastore, j_aaload, j_q, j_aastore, j_acopy, j_mmin, j_mmax, j_mabs, j_objinit, j_new, j_newI, j_newQ, j_sld, j_slen, j_callV0, j_callI0, j_callS0, j_callV1, j_callI1, j_callS1, j_callV2, j_callI2, j_callS2, j_callV3, j_callS3, j_callV4, j_callS4, j_callV5, j_callS5, j_pushS, j_pushN, j_sh0, j_sh1, j_sh2, j_sh3, j_sh4, Int32.reduceAdd, Int32.reduceMul, Int32.reduceSub, Int32.reduceLT, Int32.reduceLE, eq_self, i32_10, i32_01, ne_eq, hrow_s, hrow_n, ne10, ne100, ne1000, ne7, ne4, ne14, ne9973, or_true, true_or, or_false, false_or, not_true_eq_false, not_false_eq_true, false_implies, implies_true, and_true, forall_const, true_implies, jargs_n, jargs_r, jargs_i, List.cons_append, List.nil_append, true_and, Nat.reduceEqDiff, reduceIte, ft_X0_give_0, ft_X0_give_1, ft_X0_give_4, ft_X0_give_6, ft_X0_give_7, ft_X0_give_9, ft_X0_give_11, ft_X0_give_12, ft_X0_give_15, ft_X0_give_16, ft_X0_give_19, ft_X0_give_21, ft_X0_give_23, ft_X0_give_26, ft_X0_give_27, ft_X0_give_30, ft_X0_give_31, ft_X0_give_32, ft_X0_give_34, ft_X0_give_35, ft_X0_give_38, ft_X0_give_40, ft_X0_give_41, ft_X0_give_42, ft_X0_give_44, ft_X0_give_47, ft_X0_give_50, ft_X0_give_51, ft_X0_give_53, ft_X0_give_55, ft_X0_give_56, ft_X0_give_59, ft_X0_give_61, ft_X0_give_62, ft_X0_give_63, ft_X0_give_64, ft_X0_give_67, ft_X0_give_69, ft_X0_give_70, ft_X0_give_71, ft_X0_give_74, ft_X0_give_75, ft_X0_give_78, ft_X0_give_80, ft_X0_give_81, ft_X0_give_82, ft_X0_give_85, ft_X0_give_87, ft_X0_give_88, ft_X0_give_91, ft_X0_give_93, ft_X0_give_94, ft_X0_give_95, ft_X0_give_97, ft_X0_give_98, ft_X0_give_99, ft_X0_give_101, ft_X0_give_103, ft_X0_give_104, ft_X0_give_106, ft_X0_give_109, ft_X0_give_112, hc]
    have := lp_X0_give2 (nb := nb) (Q := Q) (z := z) (l := l) hs hn (give1 (C 8) (C s 38) n) h n 0 (by omega) x
    rw [show j = n by omega]
    exact this
  | succ k ih =>
    intro j hj x
    have hc : (nI n ≤ nI j) = False := eq_false (nI_ge (by omega) (by omega))
    have hk := ih (j + 1) (by omega)
    unfold give1 at hk
    refine jrun_first OK_X0_give (C := [9, 53]) 60 ?_
    generalize give1 (C 8) (C s 38) j = w at hk ⊢
    obtain ⟨g, left⟩ := w
    have v1 : vp_in (nI j) 4 := vp_in_nI (by omega) (by decide)
    unfold gv1 at hk
    by_cases h1 : left ≤ 0
    · simp only [pick_t h1] at hk
      simp -implicitDefEqProofs only [jr_0, jr_1, jr_2, j_iconst, j_lconst, j_iload0, j_aload0, j_istore0, j_astore0, j_iinc0, j_iload1, j_aload1, j_istore1, j_astore1, j_iinc1, j_iload2, j_aload2, j_istore2, j_astore2, j_iinc2, j_iload3, j_aload3, j_istore3, j_astore3, j_iinc3, j_iload4, j_aload4, j_istore4, j_astore4, j_iinc4, j_iload5, j_aload5, j_istore5, j_astore5, j_iinc5, j_iload6, j_aload6, j_istore6, j_astore6, j_iinc6, j_iload7, j_aload7, j_istore7, j_astore7, j_iinc7, j_iload8, j_aload8, j_istore8, j_astore8, j_iinc8, j_iadd, j_isub, j_imul, j_iand, j_ior, j_ixor, j_ishl, j_ishr, j_iushr, j_idiv, j_irem, j_ineg, j_ladd, j_lmul, j_land, j_lor, j_lcmp, j_lushr, j_lshl, j_i2l, j_l2i, j_dupI, j_dupR, j_popI, j_dup2, j_ifeq, j_iceq, j_ifne, j_icne, j_iflt, j_iclt, j_ifge, j_icge, j_ifgt, j_icgt, j_ifle, j_icle, j_goto, j_tsw, j_sw0, j_sw1, j_ireturn, j_zreturn, j_lreturn, j_return, j_getfield, j_putI, j_putJ, j_putR, j_iaload, j_baload, j_iastore, j_bastore, j_aaload, j_q, j_aastore, j_acopy, j_mmin, j_mmax, j_mabs, j_objinit, j_new, j_newI, j_newQ, j_sld, j_slen, j_callV0, j_callI0, j_callS0, j_callV1, j_callI1, j_callS1, j_callV2, j_callI2, j_callS2, j_callV3, j_callS3, j_callV4, j_callS4, j_callV5, j_callS5, j_pushS, j_pushN, j_sh0, j_sh1, j_sh2, j_sh3, j_sh4, Int32.reduceAdd, Int32.reduceMul, Int32.reduceSub, Int32.reduceLT, Int32.reduceLE, eq_self, i32_10, i32_01, ne_eq, hrow_s, hrow_n, ne10, ne100, ne1000, ne7, ne4, ne14, ne9973, or_true, true_or, or_false, false_or, not_true_eq_false, not_false_eq_true, false_implies, implies_true, and_true, forall_const, true_implies, jargs_n, jargs_r, jargs_i, List.cons_append, List.nil_append, true_and, Nat.reduceEqDiff, reduceIte, ft_X0_give_0, ft_X0_give_1, ft_X0_give_4, ft_X0_give_6, ft_X0_give_7, ft_X0_give_9, ft_X0_give_11, ft_X0_give_12, ft_X0_give_15, ft_X0_give_16, ft_X0_give_19, ft_X0_give_21, ft_X0_give_23, ft_X0_give_26, ft_X0_give_27, ft_X0_give_30, ft_X0_give_31, ft_X0_give_32, ft_X0_give_34, ft_X0_give_35, ft_X0_give_38, ft_X0_give_40, ft_X0_give_41, ft_X0_give_42, ft_X0_give_44, ft_X0_give_47, ft_X0_give_50, ft_X0_give_51, ft_X0_give_53, ft_X0_give_55, ft_X0_give_56, ft_X0_give_59, ft_X0_give_61, ft_X0_give_62, ft_X0_give_63, ft_X0_give_64, ft_X0_give_67, ft_X0_give_69, ft_X0_give_70, ft_X0_give_71, ft_X0_give_74, ft_X0_give_75, ft_X0_give_78, ft_X0_give_80, ft_X0_give_81, ft_X0_give_82, ft_X0_give_85, ft_X0_give_87, ft_X0_give_88, ft_X0_give_91, ft_X0_give_93, ft_X0_give_94, ft_X0_give_95, ft_X0_give_97, ft_X0_give_98, ft_X0_give_99, ft_X0_give_101, ft_X0_give_103, ft_X0_give_104, ft_X0_give_106, ft_X0_give_109, ft_X0_give_112, hc, fl_6_1, fl_6_2, al_7, al_8, as_8, nI_1, hrow_hrow, v1, h1, nI_clamp (show j < 2 ^ 31 by omega), upd_eq]
      exact hk _
    · simp only [pick_f h1] at hk
      simp -implicitDefEqProofs only [jr_0, jr_1, jr_2, j_iconst, j_lconst, j_iload0, j_aload0, j_istore0, j_astore0, j_iinc0, j_iload1, j_aload1, j_istore1, j_astore1, j_iinc1, j_iload2, j_aload2, j_istore2, j_astore2, j_iinc2, j_iload3, j_aload3, j_istore3, j_astore3, j_iinc3, j_iload4, j_aload4, j_istore4, j_astore4, j_iinc4, j_iload5, j_aload5, j_istore5, j_astore5, j_iinc5, j_iload6, j_aload6, j_istore6, j_astore6, j_iinc6, j_iload7, j_aload7, j_istore7, j_astore7, j_iinc7, j_iload8, j_aload8, j_istore8, j_astore8, j_iinc8, j_iadd, j_isub, j_imul, j_iand, j_ior, j_ixor, j_ishl, j_ishr, j_iushr, j_idiv, j_irem, j_ineg, j_ladd, j_lmul, j_land, j_lor, j_lcmp, j_lushr, j_lshl, j_i2l, j_l2i, j_dupI, j_dupR, j_popI, j_dup2, j_ifeq, j_iceq, j_ifne, j_icne, j_iflt, j_iclt, j_ifge, j_icge, j_ifgt, j_icgt, j_ifle, j_icle, j_goto, j_tsw, j_sw0, j_sw1, j_ireturn, j_zreturn, j_lreturn, j_return, j_getfield, j_putI, j_putJ, j_putR, j_iaload, j_baload, j_iastore, j_bastore, j_aaload, j_q, j_aastore, j_acopy, j_mmin, j_mmax, j_mabs, j_objinit, j_new, j_newI, j_newQ, j_sld, j_slen, j_callV0, j_callI0, j_callS0, j_callV1, j_callI1, j_callS1, j_callV2, j_callI2, j_callS2, j_callV3, j_callS3, j_callV4, j_callS4, j_callV5, j_callS5, j_pushS, j_pushN, j_sh0, j_sh1, j_sh2, j_sh3, j_sh4, Int32.reduceAdd, Int32.reduceMul, Int32.reduceSub, Int32.reduceLT, Int32.reduceLE, eq_self, i32_10, i32_01, ne_eq, hrow_s, hrow_n, ne10, ne100, ne1000, ne7, ne4, ne14, ne9973, or_true, true_or, or_false, false_or, not_true_eq_false, not_false_eq_true, false_implies, implies_true, and_true, forall_const, true_implies, jargs_n, jargs_r, jargs_i, List.cons_append, List.nil_append, true_and, Nat.reduceEqDiff, reduceIte, ft_X0_give_0, ft_X0_give_1, ft_X0_give_4, ft_X0_give_6, ft_X0_give_7, ft_X0_give_9, ft_X0_give_11, ft_X0_give_12, ft_X0_give_15, ft_X0_give_16, ft_X0_give_19, ft_X0_give_21, ft_X0_give_23, ft_X0_give_26, ft_X0_give_27, ft_X0_give_30, ft_X0_give_31, ft_X0_give_32, ft_X0_give_34, ft_X0_give_35, ft_X0_give_38, ft_X0_give_40, ft_X0_give_41, ft_X0_give_42, ft_X0_give_44, ft_X0_give_47, ft_X0_give_50, ft_X0_give_51, ft_X0_give_53, ft_X0_give_55, ft_X0_give_56, ft_X0_give_59, ft_X0_give_61, ft_X0_give_62, ft_X0_give_63, ft_X0_give_64, ft_X0_give_67, ft_X0_give_69, ft_X0_give_70, ft_X0_give_71, ft_X0_give_74, ft_X0_give_75, ft_X0_give_78, ft_X0_give_80, ft_X0_give_81, ft_X0_give_82, ft_X0_give_85, ft_X0_give_87, ft_X0_give_88, ft_X0_give_91, ft_X0_give_93, ft_X0_give_94, ft_X0_give_95, ft_X0_give_97, ft_X0_give_98, ft_X0_give_99, ft_X0_give_101, ft_X0_give_103, ft_X0_give_104, ft_X0_give_106, ft_X0_give_109, ft_X0_give_112, hc, fl_6_1, fl_6_2, al_7, al_8, as_8, nI_1, hrow_hrow, v1, h1, nI_clamp (show j < 2 ^ 31 by omega), upd_eq]
      exact hk _
theorem ok_X0_give : jMeets Y_X0_give S_X0_give := by
  intro nb vs mem Q h
  obtain ⟨C, z, s, n, l, rfl, rfl, hs, hn, hQ⟩ := h
  refine Ok.run OK_X0_give [9, 53] 60 [none, none, none] pn0 (Nat.le_of_ble_eq_true rfl) rfl ?_
  simp -implicitDefEqProofs only [jr_0, jr_1, jr_2, j_iconst, j_lconst, j_iload0, j_aload0, j_istore0, j_astore0, j_iinc0, j_iload1, j_aload1, j_istore1, j_astore1, j_iinc1, j_iload2, j_aload2, j_istore2, j_astore2, j_iinc2, j_iload3, j_aload3, j_istore3, j_astore3, j_iinc3, j_iload4, j_aload4, j_istore4, j_astore4, j_iinc4, j_iload5, j_aload5, j_istore5, j_astore5, j_iinc5, j_iload6, j_aload6, j_istore6, j_astore6, j_iinc6, j_iload7, j_aload7, j_istore7, j_astore7, j_iinc7, j_iload8, j_aload8, j_istore8, j_astore8, j_iinc8, j_iadd, j_isub, j_imul, j_iand, j_ior, j_ixor, j_ishl, j_ishr, j_iushr, j_idiv, j_irem, j_ineg, j_ladd, j_lmul, j_land, j_lor, j_lcmp, j_lushr, j_lshl, j_i2l, j_l2i, j_dupI, j_dupR, j_popI, j_dup2, j_ifeq, j_iceq, j_ifne, j_icne, j_iflt, j_iclt, j_ifge, j_icge, j_ifgt, j_icgt, j_ifle, j_icle, j_goto, j_tsw, j_sw0, j_sw1, j_ireturn, j_zreturn, j_lreturn, j_return, j_getfield, j_putI, j_putJ, j_putR, j_iaload, j_baload, j_iastore, j_bastore, j_aaload, j_q, j_aastore, j_acopy, j_mmin, j_mmax, j_mabs, j_objinit, j_new, j_newI, j_newQ, j_sld, j_slen, j_callV0, j_callI0, j_callS0, j_callV1, j_callI1, j_callS1, j_callV2, j_callI2, j_callS2, j_callV3, j_callS3, j_callV4, j_callS4, j_callV5, j_callS5, j_pushS, j_pushN, j_sh0, j_sh1, j_sh2, j_sh3, j_sh4, Int32.reduceAdd, Int32.reduceMul, Int32.reduceSub, Int32.reduceLT, Int32.reduceLE, eq_self, i32_10, i32_01, ne_eq, hrow_s, hrow_n, ne10, ne100, ne1000, ne7, ne4, ne14, ne9973, or_true, true_or, or_false, false_or, not_true_eq_false, not_false_eq_true, false_implies, implies_true, and_true, forall_const, true_implies, jargs_n, jargs_r, jargs_i, List.cons_append, List.nil_append, true_and, Nat.reduceEqDiff, reduceIte, ft_X0_give_0, ft_X0_give_1, ft_X0_give_4, ft_X0_give_6, ft_X0_give_7, ft_X0_give_9, ft_X0_give_11, ft_X0_give_12, ft_X0_give_15, ft_X0_give_16, ft_X0_give_19, ft_X0_give_21, ft_X0_give_23, ft_X0_give_26, ft_X0_give_27, ft_X0_give_30, ft_X0_give_31, ft_X0_give_32, ft_X0_give_34, ft_X0_give_35, ft_X0_give_38, ft_X0_give_40, ft_X0_give_41, ft_X0_give_42, ft_X0_give_44, ft_X0_give_47, ft_X0_give_50, ft_X0_give_51, ft_X0_give_53, ft_X0_give_55, ft_X0_give_56, ft_X0_give_59, ft_X0_give_61, ft_X0_give_62, ft_X0_give_63, ft_X0_give_64, ft_X0_give_67, ft_X0_give_69, ft_X0_give_70, ft_X0_give_71, ft_X0_give_74, ft_X0_give_75, ft_X0_give_78, ft_X0_give_80, ft_X0_give_81, ft_X0_give_82, ft_X0_give_85, ft_X0_give_87, ft_X0_give_88, ft_X0_give_91, ft_X0_give_93, ft_X0_give_94, ft_X0_give_95, ft_X0_give_97, ft_X0_give_98, ft_X0_give_99, ft_X0_give_101, ft_X0_give_103, ft_X0_give_104, ft_X0_give_106, ft_X0_give_109, ft_X0_give_112, jfld_s2 hs]
  have := lp_X0_give1 hs hn hQ n 0 (by omega) none (nb := nb)
  rw [show give1 (C 8) (C s 38) 0 = (C 8, C s 38) from rfl, hrow_self] at this
  exact this
theorem s_X0_give {nb s n : Nat} {C : Nat → Nat → Int32} {z : Nat → Int64} {l : Int32} {Q : jQ} (hs : jSt s 94) (hn : n ≤ 4) (hQ : Q none (memS 94 (hrow C 8 (giveF (C 5) (C 4) (C s) (C 7) l n (C 8))) z)) : S_X0_give nb [.ref 6, .ref s, .int (nI n), .int l] (memS 94 C z) Q := ⟨C, z, s, n, l, rfl, rfl, hs, hn, hQ⟩
/-! draw -/
noncomputable def drawF (T ρ o g : Nat → Int32) (l : Int32) : Nat → (Nat → Int32)
  | 0 => ρ
  | i + 1 => drawStep T l (o i) (g i) (drawF T ρ o g l i)
def S_X0_draw : jSp := fun _ vs mem Q => ∃ C z s n, ∃ l : Int32, vs = [.ref 6, .ref s, .int (nI n), .int l] ∧ mem = memS 94 C z ∧ jSt s 94 ∧ n ≤ 4 ∧ Q none (memS 94 (hrow C s (drawF (C 5) (C s) (C 7) (C 8) l n)) z)
def F_X0_draw_0 : Nat → jT := fun pc => (bif Nat.blt pc 11 then (bif Nat.blt pc 5 then (bif Nat.blt pc 1 then (bif Nat.beq pc 0 then J_iconst 0 1 else jbad) else (bif Nat.blt pc 3 then (bif Nat.beq pc 1 then J_istore 4 3 else jbad) else (bif Nat.beq pc 3 then J_iload 4 5 else jbad))) else (bif Nat.blt pc 9 then (bif Nat.blt pc 6 then (bif Nat.beq pc 5 then J_iload 2 6 else jbad) else (bif Nat.beq pc 6 then J_icge 112 9 else jbad)) else (bif Nat.blt pc 10 then (bif Nat.beq pc 9 then J_aload 0 10 else jbad) else (bif Nat.beq pc 10 then J_aload 1 11 else jbad)))) else (bif Nat.blt pc 18 then (bif Nat.blt pc 15 then (bif Nat.blt pc 12 then (bif Nat.beq pc 11 then J_aload 0 12 else jbad) else (bif Nat.beq pc 12 then J_getfield 0 1 15 else jbad)) else (bif Nat.blt pc 17 then (bif Nat.beq pc 15 then J_iload 4 17 else jbad) else (bif Nat.beq pc 17 then J_iaload 18 else jbad))) else (bif Nat.blt pc 22 then (bif Nat.blt pc 19 then (bif Nat.beq pc 18 then J_iload 3 19 else jbad) else (bif Nat.beq pc 19 then J_callV 0 S_X0_kindAt 3 22 else jbad)) else (bif Nat.blt pc 23 then (bif Nat.beq pc 22 then J_iconst 1 23 else jbad) else (bif Nat.beq pc 23 then J_icne 30 26 else jbad)))))
theorem ftl_X0_draw_0 : F_X0_draw_0 0 = J_iconst 0 1 := rfl
theorem ftl_X0_draw_1 : F_X0_draw_0 1 = J_istore 4 3 := rfl
theorem ftl_X0_draw_3 : F_X0_draw_0 3 = J_iload 4 5 := rfl
theorem ftl_X0_draw_5 : F_X0_draw_0 5 = J_iload 2 6 := rfl
theorem ftl_X0_draw_6 : F_X0_draw_0 6 = J_icge 112 9 := rfl
theorem ftl_X0_draw_9 : F_X0_draw_0 9 = J_aload 0 10 := rfl
theorem ftl_X0_draw_10 : F_X0_draw_0 10 = J_aload 1 11 := rfl
theorem ftl_X0_draw_11 : F_X0_draw_0 11 = J_aload 0 12 := rfl
theorem ftl_X0_draw_12 : F_X0_draw_0 12 = J_getfield 0 1 15 := rfl
theorem ftl_X0_draw_15 : F_X0_draw_0 15 = J_iload 4 17 := rfl
theorem ftl_X0_draw_17 : F_X0_draw_0 17 = J_iaload 18 := rfl
theorem ftl_X0_draw_18 : F_X0_draw_0 18 = J_iload 3 19 := rfl
theorem ftl_X0_draw_19 : F_X0_draw_0 19 = J_callV 0 S_X0_kindAt 3 22 := rfl
theorem ftl_X0_draw_22 : F_X0_draw_0 22 = J_iconst 1 23 := rfl
theorem ftl_X0_draw_23 : F_X0_draw_0 23 = J_icne 30 26 := rfl
theorem F_X0_draw_0_ok : jOK Y_X0_draw none (F_X0_draw_0) := (jOK_node (jOK_node (jOK_node (jOK_leaf (sn_iconst dX0_draw_0 rfl rfl)) (jOK_node (jOK_leaf (sn_istore dX0_draw_1 rfl (by decide))) (jOK_leaf (sn_iload dX0_draw_3 rfl)))) (jOK_node (jOK_node (jOK_leaf (sn_iload_n dX0_draw_5 rfl rfl)) (jOK_leaf (sn_icge dX0_draw_6 rfl rfl))) (jOK_node (jOK_leaf (sn_aload_n dX0_draw_9 rfl rfl)) (jOK_leaf (sn_aload_n dX0_draw_10 rfl rfl))))) (jOK_node (jOK_node (jOK_node (jOK_leaf (sn_aload_n dX0_draw_11 rfl rfl)) (jOK_leaf (sn_getfield dX0_draw_12 rfl rfl (by decide) tw_74 jin0))) (jOK_node (jOK_leaf (sn_iload dX0_draw_15 rfl)) (jOK_leaf (sn_iaload dX0_draw_17 rfl)))) (jOK_node (jOK_node (jOK_leaf (sn_iload_n dX0_draw_18 rfl rfl)) (jOK_leaf (sn_callV (Y' := Y_X0_kindAt) ok_X0_kindAt dX0_draw_19 rfl rfl rfl tw_354 tw_356 tp_9 tw_4 jc_X0_kindAt rfl ⟨by decide, by decide, rfl⟩ ⟨by decide, by decide⟩))) (jOK_node (jOK_leaf (sn_iconst dX0_draw_22 rfl rfl)) (jOK_leaf (sn_icne dX0_draw_23 rfl rfl))))))
def F_X0_draw_26 : Nat → jT := fun pc => (bif Nat.blt pc 39 then (bif Nat.blt pc 31 then (bif Nat.blt pc 27 then (bif Nat.beq pc 26 then J_iconst 1 27 else jbad) else (bif Nat.blt pc 30 then (bif Nat.beq pc 27 then J_goto 31 else jbad) else (bif Nat.beq pc 30 then J_iconst 0 31 else jbad))) else (bif Nat.blt pc 34 then (bif Nat.blt pc 33 then (bif Nat.beq pc 31 then J_istore 5 33 else jbad) else (bif Nat.beq pc 33 then J_aload 0 34 else jbad)) else (bif Nat.blt pc 37 then (bif Nat.beq pc 34 then J_getfield 0 2 37 else jbad) else (bif Nat.beq pc 37 then J_iload 4 39 else jbad)))) else (bif Nat.blt pc 45 then (bif Nat.blt pc 43 then (bif Nat.blt pc 40 then (bif Nat.beq pc 39 then J_iaload 40 else jbad) else (bif Nat.beq pc 40 then J_ifle 79 43 else jbad)) else (bif Nat.blt pc 44 then (bif Nat.beq pc 43 then J_aload 0 44 else jbad) else (bif Nat.beq pc 44 then J_aload 1 45 else jbad))) else (bif Nat.blt pc 49 then (bif Nat.blt pc 46 then (bif Nat.beq pc 45 then J_aload 0 46 else jbad) else (bif Nat.beq pc 46 then J_getfield 0 1 49 else jbad)) else (bif Nat.blt pc 51 then (bif Nat.beq pc 49 then J_iload 4 51 else jbad) else (bif Nat.beq pc 51 then J_iaload 52 else jbad)))))
theorem ftl_X0_draw_26 : F_X0_draw_26 26 = J_iconst 1 27 := rfl
theorem ftl_X0_draw_27 : F_X0_draw_26 27 = J_goto 31 := rfl
theorem ftl_X0_draw_30 : F_X0_draw_26 30 = J_iconst 0 31 := rfl
theorem ftl_X0_draw_31 : F_X0_draw_26 31 = J_istore 5 33 := rfl
theorem ftl_X0_draw_33 : F_X0_draw_26 33 = J_aload 0 34 := rfl
theorem ftl_X0_draw_34 : F_X0_draw_26 34 = J_getfield 0 2 37 := rfl
theorem ftl_X0_draw_37 : F_X0_draw_26 37 = J_iload 4 39 := rfl
theorem ftl_X0_draw_39 : F_X0_draw_26 39 = J_iaload 40 := rfl
theorem ftl_X0_draw_40 : F_X0_draw_26 40 = J_ifle 79 43 := rfl
theorem ftl_X0_draw_43 : F_X0_draw_26 43 = J_aload 0 44 := rfl
theorem ftl_X0_draw_44 : F_X0_draw_26 44 = J_aload 1 45 := rfl
theorem ftl_X0_draw_45 : F_X0_draw_26 45 = J_aload 0 46 := rfl
theorem ftl_X0_draw_46 : F_X0_draw_26 46 = J_getfield 0 1 49 := rfl
theorem ftl_X0_draw_49 : F_X0_draw_26 49 = J_iload 4 51 := rfl
theorem ftl_X0_draw_51 : F_X0_draw_26 51 = J_iaload 52 := rfl
theorem F_X0_draw_26_ok : jOK Y_X0_draw none (F_X0_draw_26) := (jOK_node (jOK_node (jOK_node (jOK_leaf (sn_iconst dX0_draw_26 rfl rfl)) (jOK_node (jOK_leaf (sn_goto dX0_draw_27 rfl)) (jOK_leaf (sn_iconst dX0_draw_30 rfl rfl)))) (jOK_node (jOK_node (jOK_leaf (sn_istore dX0_draw_31 rfl (by decide))) (jOK_leaf (sn_aload_n dX0_draw_33 rfl rfl))) (jOK_node (jOK_leaf (sn_getfield dX0_draw_34 rfl rfl (by decide) tw_75 jin0)) (jOK_leaf (sn_iload dX0_draw_37 rfl))))) (jOK_node (jOK_node (jOK_node (jOK_leaf (sn_iaload dX0_draw_39 rfl)) (jOK_leaf (sn_ifle dX0_draw_40 rfl rfl))) (jOK_node (jOK_leaf (sn_aload_n dX0_draw_43 rfl rfl)) (jOK_leaf (sn_aload_n dX0_draw_44 rfl rfl)))) (jOK_node (jOK_node (jOK_leaf (sn_aload_n dX0_draw_45 rfl rfl)) (jOK_leaf (sn_getfield dX0_draw_46 rfl rfl (by decide) tw_74 jin0))) (jOK_node (jOK_leaf (sn_iload dX0_draw_49 rfl)) (jOK_leaf (sn_iaload dX0_draw_51 rfl))))))
def F_X0_draw_0_51 : Nat → jT := fun pc => bif Nat.blt pc 26 then F_X0_draw_0 pc else F_X0_draw_26 pc
theorem F_X0_draw_0_51_ok : jOK Y_X0_draw none (F_X0_draw_0_51) := jOK_node (F_X0_draw_0_ok) (F_X0_draw_26_ok)
def F_X0_draw_52 : Nat → jT := fun pc => (bif Nat.blt pc 65 then (bif Nat.blt pc 58 then (bif Nat.blt pc 54 then (bif Nat.beq pc 52 then J_iload 5 54 else jbad) else (bif Nat.blt pc 57 then (bif Nat.beq pc 54 then J_ifeq 69 57 else jbad) else (bif Nat.beq pc 57 then J_aload 0 58 else jbad))) else (bif Nat.blt pc 63 then (bif Nat.blt pc 61 then (bif Nat.beq pc 58 then J_getfield 0 2 61 else jbad) else (bif Nat.beq pc 61 then J_iload 4 63 else jbad)) else (bif Nat.blt pc 64 then (bif Nat.beq pc 63 then J_iaload 64 else jbad) else (bif Nat.beq pc 64 then J_iconst 1 65 else jbad)))) else (bif Nat.blt pc 73 then (bif Nat.blt pc 69 then (bif Nat.blt pc 66 then (bif Nat.beq pc 65 then J_iadd 66 else jbad) else (bif Nat.beq pc 66 then J_goto 76 else jbad)) else (bif Nat.blt pc 70 then (bif Nat.beq pc 69 then J_aload 0 70 else jbad) else (bif Nat.beq pc 70 then J_getfield 0 2 73 else jbad))) else (bif Nat.blt pc 76 then (bif Nat.blt pc 75 then (bif Nat.beq pc 73 then J_iload 4 75 else jbad) else (bif Nat.beq pc 75 then J_iaload 76 else jbad)) else (bif Nat.blt pc 79 then (bif Nat.beq pc 76 then J_callV 0 S_X0_meter 3 79 else jbad) else (bif Nat.beq pc 79 then J_aload 0 80 else jbad)))))
theorem ftl_X0_draw_52 : F_X0_draw_52 52 = J_iload 5 54 := rfl
theorem ftl_X0_draw_54 : F_X0_draw_52 54 = J_ifeq 69 57 := rfl
theorem ftl_X0_draw_57 : F_X0_draw_52 57 = J_aload 0 58 := rfl
theorem ftl_X0_draw_58 : F_X0_draw_52 58 = J_getfield 0 2 61 := rfl
theorem ftl_X0_draw_61 : F_X0_draw_52 61 = J_iload 4 63 := rfl
theorem ftl_X0_draw_63 : F_X0_draw_52 63 = J_iaload 64 := rfl
theorem ftl_X0_draw_64 : F_X0_draw_52 64 = J_iconst 1 65 := rfl
theorem ftl_X0_draw_65 : F_X0_draw_52 65 = J_iadd 66 := rfl
theorem ftl_X0_draw_66 : F_X0_draw_52 66 = J_goto 76 := rfl
theorem ftl_X0_draw_69 : F_X0_draw_52 69 = J_aload 0 70 := rfl
theorem ftl_X0_draw_70 : F_X0_draw_52 70 = J_getfield 0 2 73 := rfl
theorem ftl_X0_draw_73 : F_X0_draw_52 73 = J_iload 4 75 := rfl
theorem ftl_X0_draw_75 : F_X0_draw_52 75 = J_iaload 76 := rfl
theorem ftl_X0_draw_76 : F_X0_draw_52 76 = J_callV 0 S_X0_meter 3 79 := rfl
theorem ftl_X0_draw_79 : F_X0_draw_52 79 = J_aload 0 80 := rfl
theorem F_X0_draw_52_ok : jOK Y_X0_draw none (F_X0_draw_52) := (jOK_node (jOK_node (jOK_node (jOK_leaf (sn_iload dX0_draw_52 rfl)) (jOK_node (jOK_leaf (sn_ifeq dX0_draw_54 rfl rfl)) (jOK_leaf (sn_aload_n dX0_draw_57 rfl rfl)))) (jOK_node (jOK_node (jOK_leaf (sn_getfield dX0_draw_58 rfl rfl (by decide) tw_75 jin0)) (jOK_leaf (sn_iload dX0_draw_61 rfl))) (jOK_node (jOK_leaf (sn_iaload dX0_draw_63 rfl)) (jOK_leaf (sn_iconst dX0_draw_64 rfl rfl))))) (jOK_node (jOK_node (jOK_node (jOK_leaf (sn_iadd dX0_draw_65 rfl)) (jOK_leaf (sn_goto dX0_draw_66 rfl))) (jOK_node (jOK_leaf (sn_aload_n dX0_draw_69 rfl rfl)) (jOK_leaf (sn_getfield dX0_draw_70 rfl rfl (by decide) tw_75 jin0)))) (jOK_node (jOK_node (jOK_leaf (sn_iload dX0_draw_73 rfl)) (jOK_leaf (sn_iaload dX0_draw_75 rfl))) (jOK_node (jOK_leaf (sn_callV (Y' := Y_X0_meter) ok_X0_meter dX0_draw_76 rfl rfl rfl tw_383 tw_385 tp_15 tw_4 jc_X0_meter rfl ⟨by decide, by decide, rfl⟩ ⟨by decide, by decide⟩)) (jOK_leaf (sn_aload_n dX0_draw_79 rfl rfl))))))
def F_X0_draw_80 : Nat → jT := fun pc => (bif Nat.blt pc 96 then (bif Nat.blt pc 89 then (bif Nat.blt pc 85 then (bif Nat.blt pc 83 then (bif Nat.beq pc 80 then J_getfield 0 2 83 else jbad) else (bif Nat.beq pc 83 then J_iload 4 85 else jbad)) else (bif Nat.blt pc 86 then (bif Nat.beq pc 85 then J_iaload 86 else jbad) else (bif Nat.beq pc 86 then J_ifle 106 89 else jbad))) else (bif Nat.blt pc 94 then (bif Nat.blt pc 91 then (bif Nat.beq pc 89 then J_iload 5 91 else jbad) else (bif Nat.beq pc 91 then J_ifeq 106 94 else jbad)) else (bif Nat.blt pc 95 then (bif Nat.beq pc 94 then J_aload 0 95 else jbad) else (bif Nat.beq pc 95 then J_aload 1 96 else jbad)))) else (bif Nat.blt pc 103 then (bif Nat.blt pc 100 then (bif Nat.blt pc 97 then (bif Nat.beq pc 96 then J_aload 0 97 else jbad) else (bif Nat.beq pc 97 then J_getfield 0 1 100 else jbad)) else (bif Nat.blt pc 102 then (bif Nat.beq pc 100 then J_iload 4 102 else jbad) else (bif Nat.beq pc 102 then J_iaload 103 else jbad))) else (bif Nat.blt pc 109 then (bif Nat.blt pc 106 then (bif Nat.beq pc 103 then J_callV 0 S_X0_exceed 2 106 else jbad) else (bif Nat.beq pc 106 then J_iinc 4 1 109 else jbad)) else (bif Nat.blt pc 112 then (bif Nat.beq pc 109 then J_goto 3 else jbad) else (bif Nat.beq pc 112 then J_return 0 0 else jbad)))))
theorem ftl_X0_draw_80 : F_X0_draw_80 80 = J_getfield 0 2 83 := rfl
theorem ftl_X0_draw_83 : F_X0_draw_80 83 = J_iload 4 85 := rfl
theorem ftl_X0_draw_85 : F_X0_draw_80 85 = J_iaload 86 := rfl
theorem ftl_X0_draw_86 : F_X0_draw_80 86 = J_ifle 106 89 := rfl
theorem ftl_X0_draw_89 : F_X0_draw_80 89 = J_iload 5 91 := rfl
theorem ftl_X0_draw_91 : F_X0_draw_80 91 = J_ifeq 106 94 := rfl
theorem ftl_X0_draw_94 : F_X0_draw_80 94 = J_aload 0 95 := rfl
theorem ftl_X0_draw_95 : F_X0_draw_80 95 = J_aload 1 96 := rfl
theorem ftl_X0_draw_96 : F_X0_draw_80 96 = J_aload 0 97 := rfl
theorem ftl_X0_draw_97 : F_X0_draw_80 97 = J_getfield 0 1 100 := rfl
theorem ftl_X0_draw_100 : F_X0_draw_80 100 = J_iload 4 102 := rfl
theorem ftl_X0_draw_102 : F_X0_draw_80 102 = J_iaload 103 := rfl
theorem ftl_X0_draw_103 : F_X0_draw_80 103 = J_callV 0 S_X0_exceed 2 106 := rfl
theorem ftl_X0_draw_106 : F_X0_draw_80 106 = J_iinc 4 1 109 := rfl
theorem ftl_X0_draw_109 : F_X0_draw_80 109 = J_goto 3 := rfl
theorem ftl_X0_draw_112 : F_X0_draw_80 112 = J_return 0 0 := rfl
theorem F_X0_draw_80_ok : jOK Y_X0_draw none (F_X0_draw_80) := (jOK_node (jOK_node (jOK_node (jOK_node (jOK_leaf (sn_getfield dX0_draw_80 rfl rfl (by decide) tw_75 jin0)) (jOK_leaf (sn_iload dX0_draw_83 rfl))) (jOK_node (jOK_leaf (sn_iaload dX0_draw_85 rfl)) (jOK_leaf (sn_ifle dX0_draw_86 rfl rfl)))) (jOK_node (jOK_node (jOK_leaf (sn_iload dX0_draw_89 rfl)) (jOK_leaf (sn_ifeq dX0_draw_91 rfl rfl))) (jOK_node (jOK_leaf (sn_aload_n dX0_draw_94 rfl rfl)) (jOK_leaf (sn_aload_n dX0_draw_95 rfl rfl))))) (jOK_node (jOK_node (jOK_node (jOK_leaf (sn_aload_n dX0_draw_96 rfl rfl)) (jOK_leaf (sn_getfield dX0_draw_97 rfl rfl (by decide) tw_74 jin0))) (jOK_node (jOK_leaf (sn_iload dX0_draw_100 rfl)) (jOK_leaf (sn_iaload dX0_draw_102 rfl)))) (jOK_node (jOK_node (jOK_leaf (sn_callV (Y' := Y_X0_exceed) ok_X0_exceed dX0_draw_103 rfl rfl rfl tw_397 tw_399 tp_16 tw_4 jc_X0_exceed rfl ⟨by decide, by decide, rfl⟩ ⟨by decide, by decide⟩)) (jOK_leaf (sn_iinc dX0_draw_106 rfl rfl (by decide)))) (jOK_node (jOK_leaf (sn_goto dX0_draw_109 rfl)) (jOK_leaf (sn_return dX0_draw_112 rfl rfl))))))
def F_X0_draw_52_112 : Nat → jT := fun pc => bif Nat.blt pc 80 then F_X0_draw_52 pc else F_X0_draw_80 pc
theorem F_X0_draw_52_112_ok : jOK Y_X0_draw none (F_X0_draw_52_112) := jOK_node (F_X0_draw_52_ok) (F_X0_draw_80_ok)
def F_X0_draw_0_112 : Nat → jT := fun pc => bif Nat.blt pc 52 then F_X0_draw_0_51 pc else F_X0_draw_52_112 pc
theorem F_X0_draw_0_112_ok : jOK Y_X0_draw none (F_X0_draw_0_112) := jOK_node (F_X0_draw_0_51_ok) (F_X0_draw_52_112_ok)
def F_X0_draw : Nat → jT := F_X0_draw_0_112
theorem OK_X0_draw : jOK Y_X0_draw none (F_X0_draw) := F_X0_draw_0_112_ok
theorem ft_X0_draw_0 : F_X0_draw 0 = J_iconst 0 1 := ftl_X0_draw_0
theorem ft_X0_draw_1 : F_X0_draw 1 = J_istore 4 3 := ftl_X0_draw_1
theorem ft_X0_draw_3 : F_X0_draw 3 = J_iload 4 5 := ftl_X0_draw_3
theorem ft_X0_draw_5 : F_X0_draw 5 = J_iload 2 6 := ftl_X0_draw_5
theorem ft_X0_draw_6 : F_X0_draw 6 = J_icge 112 9 := ftl_X0_draw_6
theorem ft_X0_draw_9 : F_X0_draw 9 = J_aload 0 10 := ftl_X0_draw_9
theorem ft_X0_draw_10 : F_X0_draw 10 = J_aload 1 11 := ftl_X0_draw_10
theorem ft_X0_draw_11 : F_X0_draw 11 = J_aload 0 12 := ftl_X0_draw_11
theorem ft_X0_draw_12 : F_X0_draw 12 = J_getfield 0 1 15 := ftl_X0_draw_12
theorem ft_X0_draw_15 : F_X0_draw 15 = J_iload 4 17 := ftl_X0_draw_15
theorem ft_X0_draw_17 : F_X0_draw 17 = J_iaload 18 := ftl_X0_draw_17
theorem ft_X0_draw_18 : F_X0_draw 18 = J_iload 3 19 := ftl_X0_draw_18
theorem ft_X0_draw_19 : F_X0_draw 19 = J_callV 0 S_X0_kindAt 3 22 := ftl_X0_draw_19
theorem ft_X0_draw_22 : F_X0_draw 22 = J_iconst 1 23 := ftl_X0_draw_22
theorem ft_X0_draw_23 : F_X0_draw 23 = J_icne 30 26 := ftl_X0_draw_23
theorem ft_X0_draw_26 : F_X0_draw 26 = J_iconst 1 27 := ftl_X0_draw_26
theorem ft_X0_draw_27 : F_X0_draw 27 = J_goto 31 := ftl_X0_draw_27
theorem ft_X0_draw_30 : F_X0_draw 30 = J_iconst 0 31 := ftl_X0_draw_30
theorem ft_X0_draw_31 : F_X0_draw 31 = J_istore 5 33 := ftl_X0_draw_31
theorem ft_X0_draw_33 : F_X0_draw 33 = J_aload 0 34 := ftl_X0_draw_33
theorem ft_X0_draw_34 : F_X0_draw 34 = J_getfield 0 2 37 := ftl_X0_draw_34
theorem ft_X0_draw_37 : F_X0_draw 37 = J_iload 4 39 := ftl_X0_draw_37
theorem ft_X0_draw_39 : F_X0_draw 39 = J_iaload 40 := ftl_X0_draw_39
theorem ft_X0_draw_40 : F_X0_draw 40 = J_ifle 79 43 := ftl_X0_draw_40
theorem ft_X0_draw_43 : F_X0_draw 43 = J_aload 0 44 := ftl_X0_draw_43
theorem ft_X0_draw_44 : F_X0_draw 44 = J_aload 1 45 := ftl_X0_draw_44
theorem ft_X0_draw_45 : F_X0_draw 45 = J_aload 0 46 := ftl_X0_draw_45
theorem ft_X0_draw_46 : F_X0_draw 46 = J_getfield 0 1 49 := ftl_X0_draw_46
theorem ft_X0_draw_49 : F_X0_draw 49 = J_iload 4 51 := ftl_X0_draw_49
theorem ft_X0_draw_51 : F_X0_draw 51 = J_iaload 52 := ftl_X0_draw_51
theorem ft_X0_draw_52 : F_X0_draw 52 = J_iload 5 54 := ftl_X0_draw_52
theorem ft_X0_draw_54 : F_X0_draw 54 = J_ifeq 69 57 := ftl_X0_draw_54
theorem ft_X0_draw_57 : F_X0_draw 57 = J_aload 0 58 := ftl_X0_draw_57
theorem ft_X0_draw_58 : F_X0_draw 58 = J_getfield 0 2 61 := ftl_X0_draw_58
theorem ft_X0_draw_61 : F_X0_draw 61 = J_iload 4 63 := ftl_X0_draw_61
theorem ft_X0_draw_63 : F_X0_draw 63 = J_iaload 64 := ftl_X0_draw_63
theorem ft_X0_draw_64 : F_X0_draw 64 = J_iconst 1 65 := ftl_X0_draw_64
theorem ft_X0_draw_65 : F_X0_draw 65 = J_iadd 66 := ftl_X0_draw_65
theorem ft_X0_draw_66 : F_X0_draw 66 = J_goto 76 := ftl_X0_draw_66
theorem ft_X0_draw_69 : F_X0_draw 69 = J_aload 0 70 := ftl_X0_draw_69
theorem ft_X0_draw_70 : F_X0_draw 70 = J_getfield 0 2 73 := ftl_X0_draw_70
theorem ft_X0_draw_73 : F_X0_draw 73 = J_iload 4 75 := ftl_X0_draw_73
theorem ft_X0_draw_75 : F_X0_draw 75 = J_iaload 76 := ftl_X0_draw_75
theorem ft_X0_draw_76 : F_X0_draw 76 = J_callV 0 S_X0_meter 3 79 := ftl_X0_draw_76
theorem ft_X0_draw_79 : F_X0_draw 79 = J_aload 0 80 := ftl_X0_draw_79
theorem ft_X0_draw_80 : F_X0_draw 80 = J_getfield 0 2 83 := ftl_X0_draw_80
theorem ft_X0_draw_83 : F_X0_draw 83 = J_iload 4 85 := ftl_X0_draw_83
theorem ft_X0_draw_85 : F_X0_draw 85 = J_iaload 86 := ftl_X0_draw_85
theorem ft_X0_draw_86 : F_X0_draw 86 = J_ifle 106 89 := ftl_X0_draw_86
theorem ft_X0_draw_89 : F_X0_draw 89 = J_iload 5 91 := ftl_X0_draw_89
theorem ft_X0_draw_91 : F_X0_draw 91 = J_ifeq 106 94 := ftl_X0_draw_91
theorem ft_X0_draw_94 : F_X0_draw 94 = J_aload 0 95 := ftl_X0_draw_94
theorem ft_X0_draw_95 : F_X0_draw 95 = J_aload 1 96 := ftl_X0_draw_95
theorem ft_X0_draw_96 : F_X0_draw 96 = J_aload 0 97 := ftl_X0_draw_96
theorem ft_X0_draw_97 : F_X0_draw 97 = J_getfield 0 1 100 := ftl_X0_draw_97
theorem ft_X0_draw_100 : F_X0_draw 100 = J_iload 4 102 := ftl_X0_draw_100
theorem ft_X0_draw_102 : F_X0_draw 102 = J_iaload 103 := ftl_X0_draw_102
theorem ft_X0_draw_103 : F_X0_draw 103 = J_callV 0 S_X0_exceed 2 106 := ftl_X0_draw_103
theorem ft_X0_draw_106 : F_X0_draw 106 = J_iinc 4 1 109 := ftl_X0_draw_106
theorem ft_X0_draw_109 : F_X0_draw 109 = J_goto 3 := ftl_X0_draw_109
theorem ft_X0_draw_112 : F_X0_draw 112 = J_return 0 0 := ftl_X0_draw_112
theorem i32_ite0 {a : Int32} : (a ≤ 0) = ¬ 0 < a := by simp
theorem lp_X0_draw {Q : jQ} {C : Nat → Nat → Int32} {z : Nat → Int64} {nb s n : Nat} {l : Int32} (hs : jSt s 94) (hn : n ≤ 4) (h : Q none (memS 94 (hrow C s (drawF (C 5) (C s) (C 7) (C 8) l n)) z)) :
    ∀ k j, j + k = n → ∀ x : Option Value, Rn Y_X0_draw none Q 3 [some (.ref 6), some (.ref s), some (.int (nI n)), some (.int l), some (.int (nI j)), x] [] (memS 94 (hrow C s (drawF (C 5) (C s) (C 7) (C 8) l j)) z) (nb, 0, 0) := by
  intro k
  induction k with
  | zero =>
    intro j hj x
    have hc : (nI n ≤ nI j) = True := eq_true (nI_le (by omega) (by omega))
    refine jrun_first OK_X0_draw (C := [3]) 60 ?_
    simp -implicitDefEqProofs only [jr_0, jr_1, jr_2, j_iconst, j_lconst, j_iload0, j_aload0, j_istore0, j_astore0, j_iinc0, j_iload1, j_aload1, j_istore1, j_astore1, j_iinc1, j_iload2, j_aload2, j_istore2, j_astore2, j_iinc2, j_iload3, j_aload3, j_istore3, j_astore3, j_iinc3, j_iload4, j_aload4, j_istore4, j_astore4, j_iinc4, j_iload5, j_aload5, j_istore5, j_astore5, j_iinc5, j_iload6, j_aload6, j_istore6, j_astore6, j_iinc6, j_iload7, j_aload7, j_istore7, j_astore7, j_iinc7, j_iload8, j_aload8, j_istore8, j_astore8, j_iinc8, j_iadd, j_isub, j_imul, j_iand, j_ior, j_ixor, j_ishl, j_ishr, j_iushr, j_idiv, j_irem, j_ineg, j_ladd, j_lmul, j_land, j_lor, j_lcmp, j_lushr, j_lshl, j_i2l, j_l2i, j_dupI, j_dupR, j_popI, j_dup2, j_ifeq, j_iceq, j_ifne, j_icne, j_iflt, j_iclt, j_ifge, j_icge, j_ifgt, j_icgt, j_ifle, j_icle, j_goto, j_tsw, j_sw0, j_sw1, j_ireturn, j_zreturn, j_lreturn, j_return, j_getfield, j_putI, j_putJ, j_putR, j_iaload, j_baload, j_iastore, j_bastore, j_aaload, j_q, j_aastore, j_acopy, j_mmin, j_mmax, j_mabs, j_objinit, j_new, j_newI, j_newQ, j_sld, j_slen, j_callV0, j_callI0, j_callS0, j_callV1, j_callI1, j_callS1, j_callV2, j_callI2, j_callS2, j_callV3, j_callS3, j_callV4, j_callS4, j_callV5, j_callS5, j_pushS, j_pushN, j_sh0, j_sh1, j_sh2, j_sh3, j_sh4, Int32.reduceAdd, Int32.reduceMul, Int32.reduceSub, Int32.reduceLT, Int32.reduceLE, eq_self, i32_10, i32_01, ne_eq, hrow_s, hrow_n, ne10, ne100, ne1000, ne7, ne4, ne14, ne9973, or_true, true_or, or_false, false_or, not_true_eq_false, not_false_eq_true, false_implies, implies_true, and_true, forall_const, true_implies, jargs_n, jargs_r, jargs_i, List.cons_append, List.nil_append, true_and, Nat.reduceEqDiff, reduceIte, ft_X0_draw_0, ft_X0_draw_1, ft_X0_draw_3, ft_X0_draw_5, ft_X0_draw_6, ft_X0_draw_9, ft_X0_draw_10, ft_X0_draw_11, ft_X0_draw_12, ft_X0_draw_15, ft_X0_draw_17, ft_X0_draw_18, ft_X0_draw_19, ft_X0_draw_22, ft_X0_draw_23, ft_X0_draw_26, ft_X0_draw_27, ft_X0_draw_30, ft_X0_draw_31, ft_X0_draw_33, ft_X0_draw_34, ft_X0_draw_37, ft_X0_draw_39, ft_X0_draw_40, ft_X0_draw_43, ft_X0_draw_44, ft_X0_draw_45, ft_X0_draw_46, ft_X0_draw_49, ft_X0_draw_51, ft_X0_draw_52, ft_X0_draw_54, ft_X0_draw_57, ft_X0_draw_58, ft_X0_draw_61, ft_X0_draw_63, ft_X0_draw_64, ft_X0_draw_65, ft_X0_draw_66, ft_X0_draw_69, ft_X0_draw_70, ft_X0_draw_73, ft_X0_draw_75, ft_X0_draw_76, ft_X0_draw_79, ft_X0_draw_80, ft_X0_draw_83, ft_X0_draw_85, ft_X0_draw_86, ft_X0_draw_89, ft_X0_draw_91, ft_X0_draw_94, ft_X0_draw_95, ft_X0_draw_96, ft_X0_draw_97, ft_X0_draw_100, ft_X0_draw_102, ft_X0_draw_103, ft_X0_draw_106, ft_X0_draw_109, ft_X0_draw_112, hc]
    rw [show j = n by omega]
    exact h
  | succ k ih =>
    intro j hj x
    have hc : (nI n ≤ nI j) = False := eq_false (nI_ge (by omega) (by omega))
    have hk := ih (j + 1) (by omega)
    unfold drawF at hk
    refine jrun_first OK_X0_draw (C := [3]) 80 ?_
    generalize drawF (C 5) (C s) (C 7) (C 8) l j = ρ at hk ⊢
    have v1 : vp_in (nI j) 4 := vp_in_nI (by omega) (by decide)
    unfold drawStep at hk
    by_cases h1 : 0 < C 8 j <;> by_cases h2 : kdF (C 5) ρ (C 7 j) l = 1
    · simp only [pick_t h1, pick_t h2] at hk
      simp -implicitDefEqProofs only [jr_0, jr_1, jr_2, j_iconst, j_lconst, j_iload0, j_aload0, j_istore0, j_astore0, j_iinc0, j_iload1, j_aload1, j_istore1, j_astore1, j_iinc1, j_iload2, j_aload2, j_istore2, j_astore2, j_iinc2, j_iload3, j_aload3, j_istore3, j_astore3, j_iinc3, j_iload4, j_aload4, j_istore4, j_astore4, j_iinc4, j_iload5, j_aload5, j_istore5, j_astore5, j_iinc5, j_iload6, j_aload6, j_istore6, j_astore6, j_iinc6, j_iload7, j_aload7, j_istore7, j_astore7, j_iinc7, j_iload8, j_aload8, j_istore8, j_astore8, j_iinc8, j_iadd, j_isub, j_imul, j_iand, j_ior, j_ixor, j_ishl, j_ishr, j_iushr, j_idiv, j_irem, j_ineg, j_ladd, j_lmul, j_land, j_lor, j_lcmp, j_lushr, j_lshl, j_i2l, j_l2i, j_dupI, j_dupR, j_popI, j_dup2, j_ifeq, j_iceq, j_ifne, j_icne, j_iflt, j_iclt, j_ifge, j_icge, j_ifgt, j_icgt, j_ifle, j_icle, j_goto, j_tsw, j_sw0, j_sw1, j_ireturn, j_zreturn, j_lreturn, j_return, j_getfield, j_putI, j_putJ, j_putR, j_iaload, j_baload, j_iastore, j_bastore, j_aaload, j_q, j_aastore, j_acopy, j_mmin, j_mmax, j_mabs, j_objinit, j_new, j_newI, j_newQ, j_sld, j_slen, j_callV0, j_callI0, j_callS0, j_callV1, j_callI1, j_callS1, j_callV2, j_callI2, j_callS2, j_callV3, j_callS3, j_callV4, j_callS4, j_callV5, j_callS5, j_pushS, j_pushN, j_sh0, j_sh1, j_sh2, j_sh3, j_sh4, Int32.reduceAdd, Int32.reduceMul, Int32.reduceSub, Int32.reduceLT, Int32.reduceLE, eq_self, i32_10, i32_01, ne_eq, hrow_s, hrow_n, ne10, ne100, ne1000, ne7, ne4, ne14, ne9973, or_true, true_or, or_false, false_or, not_true_eq_false, not_false_eq_true, false_implies, implies_true, and_true, forall_const, true_implies, jargs_n, jargs_r, jargs_i, List.cons_append, List.nil_append, true_and, Nat.reduceEqDiff, reduceIte, ft_X0_draw_0, ft_X0_draw_1, ft_X0_draw_3, ft_X0_draw_5, ft_X0_draw_6, ft_X0_draw_9, ft_X0_draw_10, ft_X0_draw_11, ft_X0_draw_12, ft_X0_draw_15, ft_X0_draw_17, ft_X0_draw_18, ft_X0_draw_19, ft_X0_draw_22, ft_X0_draw_23, ft_X0_draw_26, ft_X0_draw_27, ft_X0_draw_30, ft_X0_draw_31, ft_X0_draw_33, ft_X0_draw_34, ft_X0_draw_37, ft_X0_draw_39, ft_X0_draw_40, ft_X0_draw_43, ft_X0_draw_44, ft_X0_draw_45, ft_X0_draw_46, ft_X0_draw_49, ft_X0_draw_51, ft_X0_draw_52, ft_X0_draw_54, ft_X0_draw_57, ft_X0_draw_58, ft_X0_draw_61, ft_X0_draw_63, ft_X0_draw_64, ft_X0_draw_65, ft_X0_draw_66, ft_X0_draw_69, ft_X0_draw_70, ft_X0_draw_73, ft_X0_draw_75, ft_X0_draw_76, ft_X0_draw_79, ft_X0_draw_80, ft_X0_draw_83, ft_X0_draw_85, ft_X0_draw_86, ft_X0_draw_89, ft_X0_draw_91, ft_X0_draw_94, ft_X0_draw_95, ft_X0_draw_96, ft_X0_draw_97, ft_X0_draw_100, ft_X0_draw_102, ft_X0_draw_103, ft_X0_draw_106, ft_X0_draw_109, ft_X0_draw_112, hc, fl_6_1, fl_6_2, al_7, al_8, rc_6, jst_ne hs, v1, h1, h2, i32_ite0, s_X0_kindAt hs, s_X0_meter hs, s_X0_exceed hs, nI_1, hrow_hrow, nI_clamp (show j < 2 ^ 31 by omega)]
      exact hk _
    · simp only [pick_t h1, pick_f h2] at hk
      simp -implicitDefEqProofs only [jr_0, jr_1, jr_2, j_iconst, j_lconst, j_iload0, j_aload0, j_istore0, j_astore0, j_iinc0, j_iload1, j_aload1, j_istore1, j_astore1, j_iinc1, j_iload2, j_aload2, j_istore2, j_astore2, j_iinc2, j_iload3, j_aload3, j_istore3, j_astore3, j_iinc3, j_iload4, j_aload4, j_istore4, j_astore4, j_iinc4, j_iload5, j_aload5, j_istore5, j_astore5, j_iinc5, j_iload6, j_aload6, j_istore6, j_astore6, j_iinc6, j_iload7, j_aload7, j_istore7, j_astore7, j_iinc7, j_iload8, j_aload8, j_istore8, j_astore8, j_iinc8, j_iadd, j_isub, j_imul, j_iand, j_ior, j_ixor, j_ishl, j_ishr, j_iushr, j_idiv, j_irem, j_ineg, j_ladd, j_lmul, j_land, j_lor, j_lcmp, j_lushr, j_lshl, j_i2l, j_l2i, j_dupI, j_dupR, j_popI, j_dup2, j_ifeq, j_iceq, j_ifne, j_icne, j_iflt, j_iclt, j_ifge, j_icge, j_ifgt, j_icgt, j_ifle, j_icle, j_goto, j_tsw, j_sw0, j_sw1, j_ireturn, j_zreturn, j_lreturn, j_return, j_getfield, j_putI, j_putJ, j_putR, j_iaload, j_baload, j_iastore, j_bastore, j_aaload, j_q, j_aastore, j_acopy, j_mmin, j_mmax, j_mabs, j_objinit, j_new, j_newI, j_newQ, j_sld, j_slen, j_callV0, j_callI0, j_callS0, j_callV1, j_callI1, j_callS1, j_callV2, j_callI2, j_callS2, j_callV3, j_callS3, j_callV4, j_callS4, j_callV5, j_callS5, j_pushS, j_pushN, j_sh0, j_sh1, j_sh2, j_sh3, j_sh4, Int32.reduceAdd, Int32.reduceMul, Int32.reduceSub, Int32.reduceLT, Int32.reduceLE, eq_self, i32_10, i32_01, ne_eq, hrow_s, hrow_n, ne10, ne100, ne1000, ne7, ne4, ne14, ne9973, or_true, true_or, or_false, false_or, not_true_eq_false, not_false_eq_true, false_implies, implies_true, and_true, forall_const, true_implies, jargs_n, jargs_r, jargs_i, List.cons_append, List.nil_append, true_and, Nat.reduceEqDiff, reduceIte, ft_X0_draw_0, ft_X0_draw_1, ft_X0_draw_3, ft_X0_draw_5, ft_X0_draw_6, ft_X0_draw_9, ft_X0_draw_10, ft_X0_draw_11, ft_X0_draw_12, ft_X0_draw_15, ft_X0_draw_17, ft_X0_draw_18, ft_X0_draw_19, ft_X0_draw_22, ft_X0_draw_23, ft_X0_draw_26, ft_X0_draw_27, ft_X0_draw_30, ft_X0_draw_31, ft_X0_draw_33, ft_X0_draw_34, ft_X0_draw_37, ft_X0_draw_39, ft_X0_draw_40, ft_X0_draw_43, ft_X0_draw_44, ft_X0_draw_45, ft_X0_draw_46, ft_X0_draw_49, ft_X0_draw_51, ft_X0_draw_52, ft_X0_draw_54, ft_X0_draw_57, ft_X0_draw_58, ft_X0_draw_61, ft_X0_draw_63, ft_X0_draw_64, ft_X0_draw_65, ft_X0_draw_66, ft_X0_draw_69, ft_X0_draw_70, ft_X0_draw_73, ft_X0_draw_75, ft_X0_draw_76, ft_X0_draw_79, ft_X0_draw_80, ft_X0_draw_83, ft_X0_draw_85, ft_X0_draw_86, ft_X0_draw_89, ft_X0_draw_91, ft_X0_draw_94, ft_X0_draw_95, ft_X0_draw_96, ft_X0_draw_97, ft_X0_draw_100, ft_X0_draw_102, ft_X0_draw_103, ft_X0_draw_106, ft_X0_draw_109, ft_X0_draw_112, hc, fl_6_1, fl_6_2, al_7, al_8, rc_6, jst_ne hs, v1, h1, h2, i32_ite0, s_X0_kindAt hs, s_X0_meter hs, s_X0_exceed hs, nI_1, hrow_hrow, nI_clamp (show j < 2 ^ 31 by omega)]
      exact hk _
    · simp only [pick_f h1] at hk
      simp -implicitDefEqProofs only [jr_0, jr_1, jr_2, j_iconst, j_lconst, j_iload0, j_aload0, j_istore0, j_astore0, j_iinc0, j_iload1, j_aload1, j_istore1, j_astore1, j_iinc1, j_iload2, j_aload2, j_istore2, j_astore2, j_iinc2, j_iload3, j_aload3, j_istore3, j_astore3, j_iinc3, j_iload4, j_aload4, j_istore4, j_astore4, j_iinc4, j_iload5, j_aload5, j_istore5, j_astore5, j_iinc5, j_iload6, j_aload6, j_istore6, j_astore6, j_iinc6, j_iload7, j_aload7, j_istore7, j_astore7, j_iinc7, j_iload8, j_aload8, j_istore8, j_astore8, j_iinc8, j_iadd, j_isub, j_imul, j_iand, j_ior, j_ixor, j_ishl, j_ishr, j_iushr, j_idiv, j_irem, j_ineg, j_ladd, j_lmul, j_land, j_lor, j_lcmp, j_lushr, j_lshl, j_i2l, j_l2i, j_dupI, j_dupR, j_popI, j_dup2, j_ifeq, j_iceq, j_ifne, j_icne, j_iflt, j_iclt, j_ifge, j_icge, j_ifgt, j_icgt, j_ifle, j_icle, j_goto, j_tsw, j_sw0, j_sw1, j_ireturn, j_zreturn, j_lreturn, j_return, j_getfield, j_putI, j_putJ, j_putR, j_iaload, j_baload, j_iastore, j_bastore, j_aaload, j_q, j_aastore, j_acopy, j_mmin, j_mmax, j_mabs, j_objinit, j_new, j_newI, j_newQ, j_sld, j_slen, j_callV0, j_callI0, j_callS0, j_callV1, j_callI1, j_callS1, j_callV2, j_callI2, j_callS2, j_callV3, j_callS3, j_callV4, j_callS4, j_callV5, j_callS5, j_pushS, j_pushN, j_sh0, j_sh1, j_sh2, j_sh3, j_sh4, Int32.reduceAdd, Int32.reduceMul, Int32.reduceSub, Int32.reduceLT, Int32.reduceLE, eq_self, i32_10, i32_01, ne_eq, hrow_s, hrow_n, ne10, ne100, ne1000, ne7, ne4, ne14, ne9973, or_true, true_or, or_false, false_or, not_true_eq_false, not_false_eq_true, false_implies, implies_true, and_true, forall_const, true_implies, jargs_n, jargs_r, jargs_i, List.cons_append, List.nil_append, true_and, Nat.reduceEqDiff, reduceIte, ft_X0_draw_0, ft_X0_draw_1, ft_X0_draw_3, ft_X0_draw_5, ft_X0_draw_6, ft_X0_draw_9, ft_X0_draw_10, ft_X0_draw_11, ft_X0_draw_12, ft_X0_draw_15, ft_X0_draw_17, ft_X0_draw_18, ft_X0_draw_19, ft_X0_draw_22, ft_X0_draw_23, ft_X0_draw_26, ft_X0_draw_27, ft_X0_draw_30, ft_X0_draw_31, ft_X0_draw_33, ft_X0_draw_34, ft_X0_draw_37, ft_X0_draw_39, ft_X0_draw_40, ft_X0_draw_43, ft_X0_draw_44, ft_X0_draw_45, ft_X0_draw_46, ft_X0_draw_49, ft_X0_draw_51, ft_X0_draw_52, ft_X0_draw_54, ft_X0_draw_57, ft_X0_draw_58, ft_X0_draw_61, ft_X0_draw_63, ft_X0_draw_64, ft_X0_draw_65, ft_X0_draw_66, ft_X0_draw_69, ft_X0_draw_70, ft_X0_draw_73, ft_X0_draw_75, ft_X0_draw_76, ft_X0_draw_79, ft_X0_draw_80, ft_X0_draw_83, ft_X0_draw_85, ft_X0_draw_86, ft_X0_draw_89, ft_X0_draw_91, ft_X0_draw_94, ft_X0_draw_95, ft_X0_draw_96, ft_X0_draw_97, ft_X0_draw_100, ft_X0_draw_102, ft_X0_draw_103, ft_X0_draw_106, ft_X0_draw_109, ft_X0_draw_112, hc, fl_6_1, fl_6_2, al_7, al_8, rc_6, jst_ne hs, v1, h1, h2, i32_ite0, s_X0_kindAt hs, s_X0_meter hs, s_X0_exceed hs, nI_1, hrow_hrow, nI_clamp (show j < 2 ^ 31 by omega)]
      exact hk _
    · simp only [pick_f h1] at hk
      simp -implicitDefEqProofs only [jr_0, jr_1, jr_2, j_iconst, j_lconst, j_iload0, j_aload0, j_istore0, j_astore0, j_iinc0, j_iload1, j_aload1, j_istore1, j_astore1, j_iinc1, j_iload2, j_aload2, j_istore2, j_astore2, j_iinc2, j_iload3, j_aload3, j_istore3, j_astore3, j_iinc3, j_iload4, j_aload4, j_istore4, j_astore4, j_iinc4, j_iload5, j_aload5, j_istore5, j_astore5, j_iinc5, j_iload6, j_aload6, j_istore6, j_astore6, j_iinc6, j_iload7, j_aload7, j_istore7, j_astore7, j_iinc7, j_iload8, j_aload8, j_istore8, j_astore8, j_iinc8, j_iadd, j_isub, j_imul, j_iand, j_ior, j_ixor, j_ishl, j_ishr, j_iushr, j_idiv, j_irem, j_ineg, j_ladd, j_lmul, j_land, j_lor, j_lcmp, j_lushr, j_lshl, j_i2l, j_l2i, j_dupI, j_dupR, j_popI, j_dup2, j_ifeq, j_iceq, j_ifne, j_icne, j_iflt, j_iclt, j_ifge, j_icge, j_ifgt, j_icgt, j_ifle, j_icle, j_goto, j_tsw, j_sw0, j_sw1, j_ireturn, j_zreturn, j_lreturn, j_return, j_getfield, j_putI, j_putJ, j_putR, j_iaload, j_baload, j_iastore, j_bastore, j_aaload, j_q, j_aastore, j_acopy, j_mmin, j_mmax, j_mabs, j_objinit, j_new, j_newI, j_newQ, j_sld, j_slen, j_callV0, j_callI0, j_callS0, j_callV1, j_callI1, j_callS1, j_callV2, j_callI2, j_callS2, j_callV3, j_callS3, j_callV4, j_callS4, j_callV5, j_callS5, j_pushS, j_pushN, j_sh0, j_sh1, j_sh2, j_sh3, j_sh4, Int32.reduceAdd, Int32.reduceMul, Int32.reduceSub, Int32.reduceLT, Int32.reduceLE, eq_self, i32_10, i32_01, ne_eq, hrow_s, hrow_n, ne10, ne100, ne1000, ne7, ne4, ne14, ne9973, or_true, true_or, or_false, false_or, not_true_eq_false, not_false_eq_true, false_implies, implies_true, and_true, forall_const, true_implies, jargs_n, jargs_r, jargs_i, List.cons_append, List.nil_append, true_and, Nat.reduceEqDiff, reduceIte, ft_X0_draw_0, ft_X0_draw_1, ft_X0_draw_3, ft_X0_draw_5, ft_X0_draw_6, ft_X0_draw_9, ft_X0_draw_10, ft_X0_draw_11, ft_X0_draw_12, ft_X0_draw_15, ft_X0_draw_17, ft_X0_draw_18, ft_X0_draw_19, ft_X0_draw_22, ft_X0_draw_23, ft_X0_draw_26, ft_X0_draw_27, ft_X0_draw_30, ft_X0_draw_31, ft_X0_draw_33, ft_X0_draw_34, ft_X0_draw_37, ft_X0_draw_39, ft_X0_draw_40, ft_X0_draw_43, ft_X0_draw_44, ft_X0_draw_45, ft_X0_draw_46, ft_X0_draw_49, ft_X0_draw_51, ft_X0_draw_52, ft_X0_draw_54, ft_X0_draw_57, ft_X0_draw_58, ft_X0_draw_61, ft_X0_draw_63, ft_X0_draw_64, ft_X0_draw_65, ft_X0_draw_66, ft_X0_draw_69, ft_X0_draw_70, ft_X0_draw_73, ft_X0_draw_75, ft_X0_draw_76, ft_X0_draw_79, ft_X0_draw_80, ft_X0_draw_83, ft_X0_draw_85, ft_X0_draw_86, ft_X0_draw_89, ft_X0_draw_91, ft_X0_draw_94, ft_X0_draw_95, ft_X0_draw_96, ft_X0_draw_97, ft_X0_draw_100, ft_X0_draw_102, ft_X0_draw_103, ft_X0_draw_106, ft_X0_draw_109, ft_X0_draw_112, hc, fl_6_1, fl_6_2, al_7, al_8, rc_6, jst_ne hs, v1, h1, h2, i32_ite0, s_X0_kindAt hs, s_X0_meter hs, s_X0_exceed hs, nI_1, hrow_hrow, nI_clamp (show j < 2 ^ 31 by omega)]
      exact hk _
theorem ok_X0_draw : jMeets Y_X0_draw S_X0_draw := by
  intro nb vs mem Q h
  obtain ⟨C, z, s, n, l, rfl, rfl, hs, hn, hQ⟩ := h
  refine Ok.run OK_X0_draw [3] 60 [none, none] pn0 (Nat.le_of_ble_eq_true rfl) rfl ?_
  simp -implicitDefEqProofs only [jr_0, jr_1, jr_2, j_iconst, j_lconst, j_iload0, j_aload0, j_istore0, j_astore0, j_iinc0, j_iload1, j_aload1, j_istore1, j_astore1, j_iinc1, j_iload2, j_aload2, j_istore2, j_astore2, j_iinc2, j_iload3, j_aload3, j_istore3, j_astore3, j_iinc3, j_iload4, j_aload4, j_istore4, j_astore4, j_iinc4, j_iload5, j_aload5, j_istore5, j_astore5, j_iinc5, j_iload6, j_aload6, j_istore6, j_astore6, j_iinc6, j_iload7, j_aload7, j_istore7, j_astore7, j_iinc7, j_iload8, j_aload8, j_istore8, j_astore8, j_iinc8, j_iadd, j_isub, j_imul, j_iand, j_ior, j_ixor, j_ishl, j_ishr, j_iushr, j_idiv, j_irem, j_ineg, j_ladd, j_lmul, j_land, j_lor, j_lcmp, j_lushr, j_lshl, j_i2l, j_l2i, j_dupI, j_dupR, j_popI, j_dup2, j_ifeq, j_iceq, j_ifne, j_icne, j_iflt, j_iclt, j_ifge, j_icge, j_ifgt, j_icgt, j_ifle, j_icle, j_goto, j_tsw, j_sw0, j_sw1, j_ireturn, j_zreturn, j_lreturn, j_return, j_getfield, j_putI, j_putJ, j_putR, j_iaload, j_baload, j_iastore, j_bastore, j_aaload, j_q, j_aastore, j_acopy, j_mmin, j_mmax, j_mabs, j_objinit, j_new, j_newI, j_newQ, j_sld, j_slen, j_callV0, j_callI0, j_callS0, j_callV1, j_callI1, j_callS1, j_callV2, j_callI2, j_callS2, j_callV3, j_callS3, j_callV4, j_callS4, j_callV5, j_callS5, j_pushS, j_pushN, j_sh0, j_sh1, j_sh2, j_sh3, j_sh4, Int32.reduceAdd, Int32.reduceMul, Int32.reduceSub, Int32.reduceLT, Int32.reduceLE, eq_self, i32_10, i32_01, ne_eq, hrow_s, hrow_n, ne10, ne100, ne1000, ne7, ne4, ne14, ne9973, or_true, true_or, or_false, false_or, not_true_eq_false, not_false_eq_true, false_implies, implies_true, and_true, forall_const, true_implies, jargs_n, jargs_r, jargs_i, List.cons_append, List.nil_append, true_and, Nat.reduceEqDiff, reduceIte, ft_X0_draw_0, ft_X0_draw_1, ft_X0_draw_3, ft_X0_draw_5, ft_X0_draw_6, ft_X0_draw_9, ft_X0_draw_10, ft_X0_draw_11, ft_X0_draw_12, ft_X0_draw_15, ft_X0_draw_17, ft_X0_draw_18, ft_X0_draw_19, ft_X0_draw_22, ft_X0_draw_23, ft_X0_draw_26, ft_X0_draw_27, ft_X0_draw_30, ft_X0_draw_31, ft_X0_draw_33, ft_X0_draw_34, ft_X0_draw_37, ft_X0_draw_39, ft_X0_draw_40, ft_X0_draw_43, ft_X0_draw_44, ft_X0_draw_45, ft_X0_draw_46, ft_X0_draw_49, ft_X0_draw_51, ft_X0_draw_52, ft_X0_draw_54, ft_X0_draw_57, ft_X0_draw_58, ft_X0_draw_61, ft_X0_draw_63, ft_X0_draw_64, ft_X0_draw_65, ft_X0_draw_66, ft_X0_draw_69, ft_X0_draw_70, ft_X0_draw_73, ft_X0_draw_75, ft_X0_draw_76, ft_X0_draw_79, ft_X0_draw_80, ft_X0_draw_83, ft_X0_draw_85, ft_X0_draw_86, ft_X0_draw_89, ft_X0_draw_91, ft_X0_draw_94, ft_X0_draw_95, ft_X0_draw_96, ft_X0_draw_97, ft_X0_draw_100, ft_X0_draw_102, ft_X0_draw_103, ft_X0_draw_106, ft_X0_draw_109, ft_X0_draw_112]
  have := lp_X0_draw hs hn hQ n 0 (by omega) none (nb := nb)
  rw [show drawF (C 5) (C s) (C 7) (C 8) l 0 = C s from rfl, hrow_self] at this
  exact this
theorem s_X0_draw {nb s n : Nat} {C : Nat → Nat → Int32} {z : Nat → Int64} {l : Int32} {Q : jQ} (hs : jSt s 94) (hn : n ≤ 4) (hQ : Q none (memS 94 (hrow C s (drawF (C 5) (C s) (C 7) (C 8) l n)) z)) : S_X0_draw nb [.ref 6, .ref s, .int (nI n), .int l] (memS 94 C z) Q := ⟨C, z, s, n, l, rfl, rfl, hs, hn, hQ⟩
