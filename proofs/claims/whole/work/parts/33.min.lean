/-! the model's minute -/
def MS (r : Nat) (C : Nat → Nat → Int32) (P K : Nat) (l : Int32) : Prop := jMr r ∧ SR C P K ∧ Li l (C 71 23)
section MSS
variable {w P K : Nat} {C C' : Nat → Nat → Int32} {g : Int32}
theorem MS.r (m : MS w C P K g) : jMr w := m.1
theorem MS.s (m : MS w C P K g) : SR C P K := m.2.1
theorem MS.l (m : MS w C P K g) : Li g (C 71 23) := m.2.2
theorem MS.mo (m : MS w C P K g) (h : Mo w C C') : MS w C' P K g := ⟨m.1, m.2.1.mo h m.1, by rw [h.2 23 (by decide)]; exact m.2.2⟩
theorem MS.h4 (m : MS w C P K g) : P ≤ 4 := m.s.h4
theorem MS.h6 (m : MS w C P K g) : K ≤ 6 := m.s.h6
end MSS
def Ta (sil talk : Int32) : Prop := ∀ p, p < 4 → hasP sil (nI p) = ¬ hasP talk (nI p)
theorem e1_0 : ((1 : Int32) = 0) = False := by decide
theorem e0_1 : ((0 : Int32) = 1) = False := by decide
theorem e0_2 : ((0 : Int32) = 2) = False := by decide
theorem e0_3 : ((0 : Int32) = 3) = False := by decide
theorem e1_2 : ((1 : Int32) = 2) = False := by decide
theorem e1_3 : ((1 : Int32) = 3) = False := by decide
theorem e2_1 : ((2 : Int32) = 1) = False := by decide
theorem e2_3 : ((2 : Int32) = 3) = False := by decide
theorem e3_1 : ((3 : Int32) = 1) = False := by decide
theorem e3_2 : ((3 : Int32) = 2) = False := by decide
theorem e4_1 : ((4 : Int32) = 1) = False := by decide
theorem e4_2 : ((4 : Int32) = 2) = False := by decide
theorem e4_3 : ((4 : Int32) = 3) = False := by decide
theorem lv_occ {P K B j : Nat} {ρ : Nat → Int32} (h : Inv P K B ρ) (hj : j < 4) (hv : lvP ρ j) : ∃ c, c < K ∧ ρ j = nI c := by
  rw [lvP_eq h hj, liveP_at hj] at hv
  exact (h.occ hj (live0 hv)).2.1
/-! who is silent -/
def S_X7_beSilent : jSp := fun _ vs mem Q => ∃ C z r P K B, ∃ l sil talk : Int32, vs = [.ref 71, .ref r, .int talk] ∧ mem = memS 94 C z ∧ MS r C P K l ∧ Inv P K B (C r) ∧ Ta sil talk ∧ ∀ C', Mo r C C' → C' r = foldP (silStep (C 5) (C 3 5) sil l) (C r) P → Q none (memS 94 C' z)
def F_X7_beSilent_0 : Nat → jT := fun pc => (bif Nat.blt pc 10 then (bif Nat.blt pc 3 then (bif Nat.blt pc 1 then (bif Nat.beq pc 0 then J_iconst 0 1 else jbad) else (bif Nat.blt pc 2 then (bif Nat.beq pc 1 then J_istore 3 2 else jbad) else (bif Nat.beq pc 2 then J_iload 3 3 else jbad))) else (bif Nat.blt pc 4 then (bif Nat.beq pc 3 then J_aload 0 4 else jbad) else (bif Nat.blt pc 7 then (bif Nat.beq pc 4 then J_getfield 7 2 7 else jbad) else (bif Nat.beq pc 7 then J_icge 78 10 else jbad)))) else (bif Nat.blt pc 15 then (bif Nat.blt pc 11 then (bif Nat.beq pc 10 then J_aload 1 11 else jbad) else (bif Nat.blt pc 12 then (bif Nat.beq pc 11 then J_iload 3 12 else jbad) else (bif Nat.beq pc 12 then J_callS S_X7_isLive 2 15 else jbad))) else (bif Nat.blt pc 18 then (bif Nat.beq pc 15 then J_ifeq 72 18 else jbad) else (bif Nat.blt pc 19 then (bif Nat.beq pc 18 then J_aload 0 19 else jbad) else (bif Nat.beq pc 19 then J_aload 1 20 else jbad)))))
theorem ftl_X7_beSilent_0 : F_X7_beSilent_0 0 = J_iconst 0 1 := rfl
theorem ftl_X7_beSilent_1 : F_X7_beSilent_0 1 = J_istore 3 2 := rfl
theorem ftl_X7_beSilent_2 : F_X7_beSilent_0 2 = J_iload 3 3 := rfl
theorem ftl_X7_beSilent_3 : F_X7_beSilent_0 3 = J_aload 0 4 := rfl
theorem ftl_X7_beSilent_4 : F_X7_beSilent_0 4 = J_getfield 7 2 7 := rfl
theorem ftl_X7_beSilent_7 : F_X7_beSilent_0 7 = J_icge 78 10 := rfl
theorem ftl_X7_beSilent_10 : F_X7_beSilent_0 10 = J_aload 1 11 := rfl
theorem ftl_X7_beSilent_11 : F_X7_beSilent_0 11 = J_iload 3 12 := rfl
theorem ftl_X7_beSilent_12 : F_X7_beSilent_0 12 = J_callS S_X7_isLive 2 15 := rfl
theorem ftl_X7_beSilent_15 : F_X7_beSilent_0 15 = J_ifeq 72 18 := rfl
theorem ftl_X7_beSilent_18 : F_X7_beSilent_0 18 = J_aload 0 19 := rfl
theorem ftl_X7_beSilent_19 : F_X7_beSilent_0 19 = J_aload 1 20 := rfl
theorem F_X7_beSilent_0_ok : jOK Y_X7_beSilent none (F_X7_beSilent_0) := (jOK_node (jOK_node (jOK_node (jOK_leaf (sn_iconst dX7_beSilent_0 rfl rfl)) (jOK_node (jOK_leaf (sn_istore_n dX7_beSilent_1 rfl rfl (by decide))) (jOK_leaf (sn_iload_n dX7_beSilent_2 rfl rfl)))) (jOK_node (jOK_leaf (sn_aload_n dX7_beSilent_3 rfl rfl)) (jOK_node (jOK_leaf (sn_getfield dX7_beSilent_4 rfl rfl (by decide) tw_616 jin7)) (jOK_leaf (sn_icge dX7_beSilent_7 rfl rfl))))) (jOK_node (jOK_node (jOK_leaf (sn_aload_n dX7_beSilent_10 rfl rfl)) (jOK_node (jOK_leaf (sn_iload_n dX7_beSilent_11 rfl rfl)) (jOK_leaf (sn_callS (Y' := Y_X7_isLive) ok_X7_isLive dX7_beSilent_12 rfl rfl tw_838 tw_839 tw_8 jc_X7_isLive ⟨by decide, by decide, rfl⟩ ⟨by decide, by decide⟩)))) (jOK_node (jOK_leaf (sn_ifeq dX7_beSilent_15 rfl rfl)) (jOK_node (jOK_leaf (sn_aload_n dX7_beSilent_18 rfl rfl)) (jOK_leaf (sn_aload_n dX7_beSilent_19 rfl rfl))))))
def F_X7_beSilent_20 : Nat → jT := fun pc => (bif Nat.blt pc 32 then (bif Nat.blt pc 27 then (bif Nat.blt pc 21 then (bif Nat.beq pc 20 then J_iload 3 21 else jbad) else (bif Nat.blt pc 24 then (bif Nat.beq pc 21 then J_callV 7 S_X7_isMuteAt 2 24 else jbad) else (bif Nat.beq pc 24 then J_ifne 72 27 else jbad))) else (bif Nat.blt pc 28 then (bif Nat.beq pc 27 then J_iload 2 28 else jbad) else (bif Nat.blt pc 29 then (bif Nat.beq pc 28 then J_iload 3 29 else jbad) else (bif Nat.beq pc 29 then J_callS S_X7_has 2 32 else jbad)))) else (bif Nat.blt pc 38 then (bif Nat.blt pc 35 then (bif Nat.beq pc 32 then J_ifne 72 35 else jbad) else (bif Nat.blt pc 36 then (bif Nat.beq pc 35 then J_aload 1 36 else jbad) else (bif Nat.beq pc 36 then J_iconst 12 38 else jbad))) else (bif Nat.blt pc 40 then (bif Nat.blt pc 39 then (bif Nat.beq pc 38 then J_iload 3 39 else jbad) else (bif Nat.beq pc 39 then J_iadd 40 else jbad)) else (bif Nat.blt pc 41 then (bif Nat.beq pc 40 then J_dup2 41 else jbad) else (bif Nat.beq pc 41 then J_iaload 42 else jbad)))))
theorem ftl_X7_beSilent_20 : F_X7_beSilent_20 20 = J_iload 3 21 := rfl
theorem ftl_X7_beSilent_21 : F_X7_beSilent_20 21 = J_callV 7 S_X7_isMuteAt 2 24 := rfl
theorem ftl_X7_beSilent_24 : F_X7_beSilent_20 24 = J_ifne 72 27 := rfl
theorem ftl_X7_beSilent_27 : F_X7_beSilent_20 27 = J_iload 2 28 := rfl
theorem ftl_X7_beSilent_28 : F_X7_beSilent_20 28 = J_iload 3 29 := rfl
theorem ftl_X7_beSilent_29 : F_X7_beSilent_20 29 = J_callS S_X7_has 2 32 := rfl
theorem ftl_X7_beSilent_32 : F_X7_beSilent_20 32 = J_ifne 72 35 := rfl
theorem ftl_X7_beSilent_35 : F_X7_beSilent_20 35 = J_aload 1 36 := rfl
theorem ftl_X7_beSilent_36 : F_X7_beSilent_20 36 = J_iconst 12 38 := rfl
theorem ftl_X7_beSilent_38 : F_X7_beSilent_20 38 = J_iload 3 39 := rfl
theorem ftl_X7_beSilent_39 : F_X7_beSilent_20 39 = J_iadd 40 := rfl
theorem ftl_X7_beSilent_40 : F_X7_beSilent_20 40 = J_dup2 41 := rfl
theorem ftl_X7_beSilent_41 : F_X7_beSilent_20 41 = J_iaload 42 := rfl
theorem F_X7_beSilent_20_ok : jOK Y_X7_beSilent none (F_X7_beSilent_20) := (jOK_node (jOK_node (jOK_node (jOK_leaf (sn_iload_n dX7_beSilent_20 rfl rfl)) (jOK_node (jOK_leaf (sn_callV (Y' := Y_X7_isMuteAt) ok_X7_isMuteAt dX7_beSilent_21 rfl rfl rfl tw_841 tw_843 tp_42 tw_8 jc_X7_isMuteAt rfl ⟨by decide, by decide, rfl⟩ ⟨by decide, by decide⟩)) (jOK_leaf (sn_ifne dX7_beSilent_24 rfl rfl)))) (jOK_node (jOK_leaf (sn_iload_n dX7_beSilent_27 rfl rfl)) (jOK_node (jOK_leaf (sn_iload_n dX7_beSilent_28 rfl rfl)) (jOK_leaf (sn_callS (Y' := Y_X7_has) ok_X7_has dX7_beSilent_29 rfl rfl tw_804 tw_805 tw_8 jc_X7_has ⟨by decide, by decide, rfl⟩ ⟨by decide, by decide⟩))))) (jOK_node (jOK_node (jOK_leaf (sn_ifne dX7_beSilent_32 rfl rfl)) (jOK_node (jOK_leaf (sn_aload_n dX7_beSilent_35 rfl rfl)) (jOK_leaf (sn_bipush dX7_beSilent_36 rfl rfl)))) (jOK_node (jOK_node (jOK_leaf (sn_iload_n dX7_beSilent_38 rfl rfl)) (jOK_leaf (sn_iadd dX7_beSilent_39 rfl))) (jOK_node (jOK_leaf (sn_dup2 dX7_beSilent_40 rfl)) (jOK_leaf (sn_iaload dX7_beSilent_41 rfl))))))
def F_X7_beSilent_0_41 : Nat → jT := fun pc => bif Nat.blt pc 20 then F_X7_beSilent_0 pc else F_X7_beSilent_20 pc
theorem F_X7_beSilent_0_41_l {pc : Nat} (h : Nat.blt pc 20 = true) : F_X7_beSilent_0_41 pc = F_X7_beSilent_0 pc := by unfold F_X7_beSilent_0_41; rw [h]; rfl
theorem F_X7_beSilent_0_41_r {pc : Nat} (h : Nat.blt pc 20 = false) : F_X7_beSilent_0_41 pc = F_X7_beSilent_20 pc := by unfold F_X7_beSilent_0_41; rw [h]; rfl
theorem F_X7_beSilent_0_41_ok : jOK Y_X7_beSilent none (F_X7_beSilent_0_41) := jOK_node (F_X7_beSilent_0_ok) (F_X7_beSilent_20_ok)
def F_X7_beSilent_42 : Nat → jT := fun pc => (bif Nat.blt pc 48 then (bif Nat.blt pc 45 then (bif Nat.blt pc 43 then (bif Nat.beq pc 42 then J_iconst 1 43 else jbad) else (bif Nat.blt pc 44 then (bif Nat.beq pc 43 then J_iadd 44 else jbad) else (bif Nat.beq pc 44 then J_iastore 45 else jbad))) else (bif Nat.blt pc 46 then (bif Nat.beq pc 45 then J_aload 1 46 else jbad) else (bif Nat.blt pc 47 then (bif Nat.beq pc 46 then J_iconst 4 47 else jbad) else (bif Nat.beq pc 47 then J_iload 3 48 else jbad)))) else (bif Nat.blt pc 52 then (bif Nat.blt pc 49 then (bif Nat.beq pc 48 then J_iadd 49 else jbad) else (bif Nat.blt pc 50 then (bif Nat.beq pc 49 then J_aload 1 50 else jbad) else (bif Nat.beq pc 50 then J_iconst 12 52 else jbad))) else (bif Nat.blt pc 54 then (bif Nat.blt pc 53 then (bif Nat.beq pc 52 then J_iload 3 53 else jbad) else (bif Nat.beq pc 53 then J_iadd 54 else jbad)) else (bif Nat.blt pc 55 then (bif Nat.beq pc 54 then J_iaload 55 else jbad) else (bif Nat.beq pc 55 then J_aload 0 56 else jbad)))))
theorem ftl_X7_beSilent_42 : F_X7_beSilent_42 42 = J_iconst 1 43 := rfl
theorem ftl_X7_beSilent_43 : F_X7_beSilent_42 43 = J_iadd 44 := rfl
theorem ftl_X7_beSilent_44 : F_X7_beSilent_42 44 = J_iastore 45 := rfl
theorem ftl_X7_beSilent_45 : F_X7_beSilent_42 45 = J_aload 1 46 := rfl
theorem ftl_X7_beSilent_46 : F_X7_beSilent_42 46 = J_iconst 4 47 := rfl
theorem ftl_X7_beSilent_47 : F_X7_beSilent_42 47 = J_iload 3 48 := rfl
theorem ftl_X7_beSilent_48 : F_X7_beSilent_42 48 = J_iadd 49 := rfl
theorem ftl_X7_beSilent_49 : F_X7_beSilent_42 49 = J_aload 1 50 := rfl
theorem ftl_X7_beSilent_50 : F_X7_beSilent_42 50 = J_iconst 12 52 := rfl
theorem ftl_X7_beSilent_52 : F_X7_beSilent_42 52 = J_iload 3 53 := rfl
theorem ftl_X7_beSilent_53 : F_X7_beSilent_42 53 = J_iadd 54 := rfl
theorem ftl_X7_beSilent_54 : F_X7_beSilent_42 54 = J_iaload 55 := rfl
theorem ftl_X7_beSilent_55 : F_X7_beSilent_42 55 = J_aload 0 56 := rfl
theorem F_X7_beSilent_42_ok : jOK Y_X7_beSilent none (F_X7_beSilent_42) := (jOK_node (jOK_node (jOK_node (jOK_leaf (sn_iconst dX7_beSilent_42 rfl rfl)) (jOK_node (jOK_leaf (sn_iadd dX7_beSilent_43 rfl)) (jOK_leaf (sn_iastore dX7_beSilent_44 rfl)))) (jOK_node (jOK_leaf (sn_aload_n dX7_beSilent_45 rfl rfl)) (jOK_node (jOK_leaf (sn_iconst dX7_beSilent_46 rfl rfl)) (jOK_leaf (sn_iload_n dX7_beSilent_47 rfl rfl))))) (jOK_node (jOK_node (jOK_leaf (sn_iadd dX7_beSilent_48 rfl)) (jOK_node (jOK_leaf (sn_aload_n dX7_beSilent_49 rfl rfl)) (jOK_leaf (sn_bipush dX7_beSilent_50 rfl rfl)))) (jOK_node (jOK_node (jOK_leaf (sn_iload_n dX7_beSilent_52 rfl rfl)) (jOK_leaf (sn_iadd dX7_beSilent_53 rfl))) (jOK_node (jOK_leaf (sn_iaload dX7_beSilent_54 rfl)) (jOK_leaf (sn_aload_n dX7_beSilent_55 rfl rfl))))))
def F_X7_beSilent_56 : Nat → jT := fun pc => (bif Nat.blt pc 68 then (bif Nat.blt pc 63 then (bif Nat.blt pc 59 then (bif Nat.beq pc 56 then J_getfield 7 9 59 else jbad) else (bif Nat.blt pc 62 then (bif Nat.beq pc 59 then J_icle 66 62 else jbad) else (bif Nat.beq pc 62 then J_iconst 4 63 else jbad))) else (bif Nat.blt pc 66 then (bif Nat.beq pc 63 then J_goto 71 else jbad) else (bif Nat.blt pc 67 then (bif Nat.beq pc 66 then J_aload 1 67 else jbad) else (bif Nat.beq pc 67 then J_iconst 4 68 else jbad)))) else (bif Nat.blt pc 71 then (bif Nat.blt pc 69 then (bif Nat.beq pc 68 then J_iload 3 69 else jbad) else (bif Nat.blt pc 70 then (bif Nat.beq pc 69 then J_iadd 70 else jbad) else (bif Nat.beq pc 70 then J_iaload 71 else jbad))) else (bif Nat.blt pc 75 then (bif Nat.blt pc 72 then (bif Nat.beq pc 71 then J_iastore 72 else jbad) else (bif Nat.beq pc 72 then J_iinc 3 1 75 else jbad)) else (bif Nat.blt pc 78 then (bif Nat.beq pc 75 then J_goto 2 else jbad) else (bif Nat.beq pc 78 then J_return 0 0 else jbad)))))
theorem ftl_X7_beSilent_56 : F_X7_beSilent_56 56 = J_getfield 7 9 59 := rfl
theorem ftl_X7_beSilent_59 : F_X7_beSilent_56 59 = J_icle 66 62 := rfl
theorem ftl_X7_beSilent_62 : F_X7_beSilent_56 62 = J_iconst 4 63 := rfl
theorem ftl_X7_beSilent_63 : F_X7_beSilent_56 63 = J_goto 71 := rfl
theorem ftl_X7_beSilent_66 : F_X7_beSilent_56 66 = J_aload 1 67 := rfl
theorem ftl_X7_beSilent_67 : F_X7_beSilent_56 67 = J_iconst 4 68 := rfl
theorem ftl_X7_beSilent_68 : F_X7_beSilent_56 68 = J_iload 3 69 := rfl
theorem ftl_X7_beSilent_69 : F_X7_beSilent_56 69 = J_iadd 70 := rfl
theorem ftl_X7_beSilent_70 : F_X7_beSilent_56 70 = J_iaload 71 := rfl
theorem ftl_X7_beSilent_71 : F_X7_beSilent_56 71 = J_iastore 72 := rfl
theorem ftl_X7_beSilent_72 : F_X7_beSilent_56 72 = J_iinc 3 1 75 := rfl
theorem ftl_X7_beSilent_75 : F_X7_beSilent_56 75 = J_goto 2 := rfl
theorem ftl_X7_beSilent_78 : F_X7_beSilent_56 78 = J_return 0 0 := rfl
theorem F_X7_beSilent_56_ok : jOK Y_X7_beSilent none (F_X7_beSilent_56) := (jOK_node (jOK_node (jOK_node (jOK_leaf (sn_getfield dX7_beSilent_56 rfl rfl (by decide) tw_623 jin7)) (jOK_node (jOK_leaf (sn_icle dX7_beSilent_59 rfl rfl)) (jOK_leaf (sn_iconst dX7_beSilent_62 rfl rfl)))) (jOK_node (jOK_leaf (sn_goto dX7_beSilent_63 rfl)) (jOK_node (jOK_leaf (sn_aload_n dX7_beSilent_66 rfl rfl)) (jOK_leaf (sn_iconst dX7_beSilent_67 rfl rfl))))) (jOK_node (jOK_node (jOK_leaf (sn_iload_n dX7_beSilent_68 rfl rfl)) (jOK_node (jOK_leaf (sn_iadd dX7_beSilent_69 rfl)) (jOK_leaf (sn_iaload dX7_beSilent_70 rfl)))) (jOK_node (jOK_node (jOK_leaf (sn_iastore dX7_beSilent_71 rfl)) (jOK_leaf (sn_iinc dX7_beSilent_72 rfl rfl (by decide)))) (jOK_node (jOK_leaf (sn_goto dX7_beSilent_75 rfl)) (jOK_leaf (sn_return dX7_beSilent_78 rfl rfl))))))
def F_X7_beSilent_42_78 : Nat → jT := fun pc => bif Nat.blt pc 56 then F_X7_beSilent_42 pc else F_X7_beSilent_56 pc
theorem F_X7_beSilent_42_78_l {pc : Nat} (h : Nat.blt pc 56 = true) : F_X7_beSilent_42_78 pc = F_X7_beSilent_42 pc := by unfold F_X7_beSilent_42_78; rw [h]; rfl
theorem F_X7_beSilent_42_78_r {pc : Nat} (h : Nat.blt pc 56 = false) : F_X7_beSilent_42_78 pc = F_X7_beSilent_56 pc := by unfold F_X7_beSilent_42_78; rw [h]; rfl
theorem F_X7_beSilent_42_78_ok : jOK Y_X7_beSilent none (F_X7_beSilent_42_78) := jOK_node (F_X7_beSilent_42_ok) (F_X7_beSilent_56_ok)
def F_X7_beSilent_0_78 : Nat → jT := fun pc => bif Nat.blt pc 42 then F_X7_beSilent_0_41 pc else F_X7_beSilent_42_78 pc
theorem F_X7_beSilent_0_78_l {pc : Nat} (h : Nat.blt pc 42 = true) : F_X7_beSilent_0_78 pc = F_X7_beSilent_0_41 pc := by unfold F_X7_beSilent_0_78; rw [h]; rfl
theorem F_X7_beSilent_0_78_r {pc : Nat} (h : Nat.blt pc 42 = false) : F_X7_beSilent_0_78 pc = F_X7_beSilent_42_78 pc := by unfold F_X7_beSilent_0_78; rw [h]; rfl
theorem F_X7_beSilent_0_78_ok : jOK Y_X7_beSilent none (F_X7_beSilent_0_78) := jOK_node (F_X7_beSilent_0_41_ok) (F_X7_beSilent_42_78_ok)
def F_X7_beSilent : Nat → jT := F_X7_beSilent_0_78
theorem OK_X7_beSilent : jOK Y_X7_beSilent none (F_X7_beSilent) := F_X7_beSilent_0_78_ok
theorem ft_X7_beSilent_0 : F_X7_beSilent 0 = J_iconst 0 1 := (F_X7_beSilent_0_78_l rfl).trans ((F_X7_beSilent_0_41_l rfl).trans (ftl_X7_beSilent_0))
theorem ft_X7_beSilent_1 : F_X7_beSilent 1 = J_istore 3 2 := (F_X7_beSilent_0_78_l rfl).trans ((F_X7_beSilent_0_41_l rfl).trans (ftl_X7_beSilent_1))
theorem ft_X7_beSilent_2 : F_X7_beSilent 2 = J_iload 3 3 := (F_X7_beSilent_0_78_l rfl).trans ((F_X7_beSilent_0_41_l rfl).trans (ftl_X7_beSilent_2))
theorem ft_X7_beSilent_3 : F_X7_beSilent 3 = J_aload 0 4 := (F_X7_beSilent_0_78_l rfl).trans ((F_X7_beSilent_0_41_l rfl).trans (ftl_X7_beSilent_3))
theorem ft_X7_beSilent_4 : F_X7_beSilent 4 = J_getfield 7 2 7 := (F_X7_beSilent_0_78_l rfl).trans ((F_X7_beSilent_0_41_l rfl).trans (ftl_X7_beSilent_4))
theorem ft_X7_beSilent_7 : F_X7_beSilent 7 = J_icge 78 10 := (F_X7_beSilent_0_78_l rfl).trans ((F_X7_beSilent_0_41_l rfl).trans (ftl_X7_beSilent_7))
theorem ft_X7_beSilent_10 : F_X7_beSilent 10 = J_aload 1 11 := (F_X7_beSilent_0_78_l rfl).trans ((F_X7_beSilent_0_41_l rfl).trans (ftl_X7_beSilent_10))
theorem ft_X7_beSilent_11 : F_X7_beSilent 11 = J_iload 3 12 := (F_X7_beSilent_0_78_l rfl).trans ((F_X7_beSilent_0_41_l rfl).trans (ftl_X7_beSilent_11))
theorem ft_X7_beSilent_12 : F_X7_beSilent 12 = J_callS S_X7_isLive 2 15 := (F_X7_beSilent_0_78_l rfl).trans ((F_X7_beSilent_0_41_l rfl).trans (ftl_X7_beSilent_12))
theorem ft_X7_beSilent_15 : F_X7_beSilent 15 = J_ifeq 72 18 := (F_X7_beSilent_0_78_l rfl).trans ((F_X7_beSilent_0_41_l rfl).trans (ftl_X7_beSilent_15))
theorem ft_X7_beSilent_18 : F_X7_beSilent 18 = J_aload 0 19 := (F_X7_beSilent_0_78_l rfl).trans ((F_X7_beSilent_0_41_l rfl).trans (ftl_X7_beSilent_18))
theorem ft_X7_beSilent_19 : F_X7_beSilent 19 = J_aload 1 20 := (F_X7_beSilent_0_78_l rfl).trans ((F_X7_beSilent_0_41_l rfl).trans (ftl_X7_beSilent_19))
theorem ft_X7_beSilent_20 : F_X7_beSilent 20 = J_iload 3 21 := (F_X7_beSilent_0_78_l rfl).trans ((F_X7_beSilent_0_41_r rfl).trans (ftl_X7_beSilent_20))
theorem ft_X7_beSilent_21 : F_X7_beSilent 21 = J_callV 7 S_X7_isMuteAt 2 24 := (F_X7_beSilent_0_78_l rfl).trans ((F_X7_beSilent_0_41_r rfl).trans (ftl_X7_beSilent_21))
theorem ft_X7_beSilent_24 : F_X7_beSilent 24 = J_ifne 72 27 := (F_X7_beSilent_0_78_l rfl).trans ((F_X7_beSilent_0_41_r rfl).trans (ftl_X7_beSilent_24))
theorem ft_X7_beSilent_27 : F_X7_beSilent 27 = J_iload 2 28 := (F_X7_beSilent_0_78_l rfl).trans ((F_X7_beSilent_0_41_r rfl).trans (ftl_X7_beSilent_27))
theorem ft_X7_beSilent_28 : F_X7_beSilent 28 = J_iload 3 29 := (F_X7_beSilent_0_78_l rfl).trans ((F_X7_beSilent_0_41_r rfl).trans (ftl_X7_beSilent_28))
theorem ft_X7_beSilent_29 : F_X7_beSilent 29 = J_callS S_X7_has 2 32 := (F_X7_beSilent_0_78_l rfl).trans ((F_X7_beSilent_0_41_r rfl).trans (ftl_X7_beSilent_29))
theorem ft_X7_beSilent_32 : F_X7_beSilent 32 = J_ifne 72 35 := (F_X7_beSilent_0_78_l rfl).trans ((F_X7_beSilent_0_41_r rfl).trans (ftl_X7_beSilent_32))
theorem ft_X7_beSilent_35 : F_X7_beSilent 35 = J_aload 1 36 := (F_X7_beSilent_0_78_l rfl).trans ((F_X7_beSilent_0_41_r rfl).trans (ftl_X7_beSilent_35))
theorem ft_X7_beSilent_36 : F_X7_beSilent 36 = J_iconst 12 38 := (F_X7_beSilent_0_78_l rfl).trans ((F_X7_beSilent_0_41_r rfl).trans (ftl_X7_beSilent_36))
theorem ft_X7_beSilent_38 : F_X7_beSilent 38 = J_iload 3 39 := (F_X7_beSilent_0_78_l rfl).trans ((F_X7_beSilent_0_41_r rfl).trans (ftl_X7_beSilent_38))
theorem ft_X7_beSilent_39 : F_X7_beSilent 39 = J_iadd 40 := (F_X7_beSilent_0_78_l rfl).trans ((F_X7_beSilent_0_41_r rfl).trans (ftl_X7_beSilent_39))
theorem ft_X7_beSilent_40 : F_X7_beSilent 40 = J_dup2 41 := (F_X7_beSilent_0_78_l rfl).trans ((F_X7_beSilent_0_41_r rfl).trans (ftl_X7_beSilent_40))
theorem ft_X7_beSilent_41 : F_X7_beSilent 41 = J_iaload 42 := (F_X7_beSilent_0_78_l rfl).trans ((F_X7_beSilent_0_41_r rfl).trans (ftl_X7_beSilent_41))
theorem ft_X7_beSilent_42 : F_X7_beSilent 42 = J_iconst 1 43 := (F_X7_beSilent_0_78_r rfl).trans ((F_X7_beSilent_42_78_l rfl).trans (ftl_X7_beSilent_42))
theorem ft_X7_beSilent_43 : F_X7_beSilent 43 = J_iadd 44 := (F_X7_beSilent_0_78_r rfl).trans ((F_X7_beSilent_42_78_l rfl).trans (ftl_X7_beSilent_43))
theorem ft_X7_beSilent_44 : F_X7_beSilent 44 = J_iastore 45 := (F_X7_beSilent_0_78_r rfl).trans ((F_X7_beSilent_42_78_l rfl).trans (ftl_X7_beSilent_44))
theorem ft_X7_beSilent_45 : F_X7_beSilent 45 = J_aload 1 46 := (F_X7_beSilent_0_78_r rfl).trans ((F_X7_beSilent_42_78_l rfl).trans (ftl_X7_beSilent_45))
theorem ft_X7_beSilent_46 : F_X7_beSilent 46 = J_iconst 4 47 := (F_X7_beSilent_0_78_r rfl).trans ((F_X7_beSilent_42_78_l rfl).trans (ftl_X7_beSilent_46))
theorem ft_X7_beSilent_47 : F_X7_beSilent 47 = J_iload 3 48 := (F_X7_beSilent_0_78_r rfl).trans ((F_X7_beSilent_42_78_l rfl).trans (ftl_X7_beSilent_47))
theorem ft_X7_beSilent_48 : F_X7_beSilent 48 = J_iadd 49 := (F_X7_beSilent_0_78_r rfl).trans ((F_X7_beSilent_42_78_l rfl).trans (ftl_X7_beSilent_48))
theorem ft_X7_beSilent_49 : F_X7_beSilent 49 = J_aload 1 50 := (F_X7_beSilent_0_78_r rfl).trans ((F_X7_beSilent_42_78_l rfl).trans (ftl_X7_beSilent_49))
theorem ft_X7_beSilent_50 : F_X7_beSilent 50 = J_iconst 12 52 := (F_X7_beSilent_0_78_r rfl).trans ((F_X7_beSilent_42_78_l rfl).trans (ftl_X7_beSilent_50))
theorem ft_X7_beSilent_52 : F_X7_beSilent 52 = J_iload 3 53 := (F_X7_beSilent_0_78_r rfl).trans ((F_X7_beSilent_42_78_l rfl).trans (ftl_X7_beSilent_52))
theorem ft_X7_beSilent_53 : F_X7_beSilent 53 = J_iadd 54 := (F_X7_beSilent_0_78_r rfl).trans ((F_X7_beSilent_42_78_l rfl).trans (ftl_X7_beSilent_53))
theorem ft_X7_beSilent_54 : F_X7_beSilent 54 = J_iaload 55 := (F_X7_beSilent_0_78_r rfl).trans ((F_X7_beSilent_42_78_l rfl).trans (ftl_X7_beSilent_54))
theorem ft_X7_beSilent_55 : F_X7_beSilent 55 = J_aload 0 56 := (F_X7_beSilent_0_78_r rfl).trans ((F_X7_beSilent_42_78_l rfl).trans (ftl_X7_beSilent_55))
theorem ft_X7_beSilent_56 : F_X7_beSilent 56 = J_getfield 7 9 59 := (F_X7_beSilent_0_78_r rfl).trans ((F_X7_beSilent_42_78_r rfl).trans (ftl_X7_beSilent_56))
theorem ft_X7_beSilent_59 : F_X7_beSilent 59 = J_icle 66 62 := (F_X7_beSilent_0_78_r rfl).trans ((F_X7_beSilent_42_78_r rfl).trans (ftl_X7_beSilent_59))
theorem ft_X7_beSilent_62 : F_X7_beSilent 62 = J_iconst 4 63 := (F_X7_beSilent_0_78_r rfl).trans ((F_X7_beSilent_42_78_r rfl).trans (ftl_X7_beSilent_62))
theorem ft_X7_beSilent_63 : F_X7_beSilent 63 = J_goto 71 := (F_X7_beSilent_0_78_r rfl).trans ((F_X7_beSilent_42_78_r rfl).trans (ftl_X7_beSilent_63))
theorem ft_X7_beSilent_66 : F_X7_beSilent 66 = J_aload 1 67 := (F_X7_beSilent_0_78_r rfl).trans ((F_X7_beSilent_42_78_r rfl).trans (ftl_X7_beSilent_66))
theorem ft_X7_beSilent_67 : F_X7_beSilent 67 = J_iconst 4 68 := (F_X7_beSilent_0_78_r rfl).trans ((F_X7_beSilent_42_78_r rfl).trans (ftl_X7_beSilent_67))
theorem ft_X7_beSilent_68 : F_X7_beSilent 68 = J_iload 3 69 := (F_X7_beSilent_0_78_r rfl).trans ((F_X7_beSilent_42_78_r rfl).trans (ftl_X7_beSilent_68))
theorem ft_X7_beSilent_69 : F_X7_beSilent 69 = J_iadd 70 := (F_X7_beSilent_0_78_r rfl).trans ((F_X7_beSilent_42_78_r rfl).trans (ftl_X7_beSilent_69))
theorem ft_X7_beSilent_70 : F_X7_beSilent 70 = J_iaload 71 := (F_X7_beSilent_0_78_r rfl).trans ((F_X7_beSilent_42_78_r rfl).trans (ftl_X7_beSilent_70))
theorem ft_X7_beSilent_71 : F_X7_beSilent 71 = J_iastore 72 := (F_X7_beSilent_0_78_r rfl).trans ((F_X7_beSilent_42_78_r rfl).trans (ftl_X7_beSilent_71))
theorem ft_X7_beSilent_72 : F_X7_beSilent 72 = J_iinc 3 1 75 := (F_X7_beSilent_0_78_r rfl).trans ((F_X7_beSilent_42_78_r rfl).trans (ftl_X7_beSilent_72))
theorem ft_X7_beSilent_75 : F_X7_beSilent 75 = J_goto 2 := (F_X7_beSilent_0_78_r rfl).trans ((F_X7_beSilent_42_78_r rfl).trans (ftl_X7_beSilent_75))
theorem ft_X7_beSilent_78 : F_X7_beSilent 78 = J_return 0 0 := (F_X7_beSilent_0_78_r rfl).trans ((F_X7_beSilent_42_78_r rfl).trans (ftl_X7_beSilent_78))
theorem lp_X7_beSilent {Q : jQ} {C : Nat → Nat → Int32} {z : Nat → Int64} {nb r P K B : Nat} {l sil talk : Int32} (m : MS r C P K l) (iv : Inv P K B (C r)) (ht : Ta sil talk) (h : ∀ C', Mo r C C' → C' r = foldP (silStep (C 5) (C 3 5) sil l) (C r) P → Q none (memS 94 C' z)) :
    ∀ k j, j + k = P → ∀ C', Mo r C C' → C' r = foldP (silStep (C 5) (C 3 5) sil l) (C r) j → Rn Y_X7_beSilent none Q 2 [some (.ref 71), some (.ref r), some (.int talk), some (.int (nI j))] [] (memS 94 C' z) (nb, 0, 0) := by
  have h4 := m.h4
  have h6 := m.h6
  intro k
  induction k with
  | zero =>
    intro j hj C' mo e
    have m' := m.mo mo
    have hc : (nI P ≤ nI j) = True := eq_true (nI_le (by omega) (by omega))
    refine jrun_first OK_X7_beSilent (C := [2]) 40 ?_
    simp -implicitDefEqProofs only [jr_0, jr_1, jr_2, j_iconst, j_lconst, j_iload0, j_aload0, j_istore0, j_astore0, j_iinc0, j_iload1, j_aload1, j_istore1, j_astore1, j_iinc1, j_iload2, j_aload2, j_istore2, j_astore2, j_iinc2, j_iload3, j_aload3, j_istore3, j_astore3, j_iinc3, j_iload4, j_aload4, j_istore4, j_astore4, j_iinc4, j_iload5, j_aload5, j_istore5, j_astore5, j_iinc5, j_iload6, j_aload6, j_istore6, j_astore6, j_iinc6, j_iload7, j_aload7, j_istore7, j_astore7, j_iinc7, j_iload8, j_aload8, j_istore8, j_astore8, j_iinc8, j_iadd, j_isub, j_imul, j_iand, j_ior, j_ixor, j_ishl, j_ishr, j_iushr, j_idiv, j_irem, j_ineg, j_ladd, j_lmul, j_land, j_lor, j_lcmp, j_lushr, j_lshl, j_i2l, j_l2i, j_dupI, j_dupR, j_popI, j_dup2, j_ifeq, j_iceq, j_ifne, j_icne, j_iflt, j_iclt, j_ifge, j_icge, j_ifgt, j_icgt, j_ifle, j_icle, j_goto, j_tsw, j_sw0, j_sw1, j_ireturn, j_zreturn, j_lreturn, j_return, j_getfield, j_putI, j_putJ, j_putR, j_iaload, j_baload, j_iastore, j_bastore, j_aaload, j_q, j_aastore, j_acopy, j_mmin, j_mmax, j_mabs, j_objinit, j_new, j_newI, j_newQ, j_sld, j_slen, j_callV0, j_callI0, j_callS0, j_callV1, j_callI1, j_callS1, j_callV2, j_callI2, j_callS2, j_callV3, j_callS3, j_callV4, j_callS4, j_callV5, j_callS5, j_pushS, j_pushN, j_sh0, j_sh1, j_sh2, j_sh3, j_sh4, Int32.reduceAdd, Int32.reduceMul, Int32.reduceSub, Int32.reduceLT, Int32.reduceLE, eq_self, i32_10, i32_01, ne_eq, hrow_s, hrow_n, ne10, ne100, ne1000, ne7, ne4, ne14, ne9973, or_true, true_or, or_false, false_or, not_true_eq_false, not_false_eq_true, false_implies, implies_true, and_true, forall_const, true_implies, jargs_n, jargs_r, jargs_i, List.cons_append, List.nil_append, true_and, Nat.reduceEqDiff, reduceIte, ft_X7_beSilent_0, ft_X7_beSilent_1, ft_X7_beSilent_2, ft_X7_beSilent_3, ft_X7_beSilent_4, ft_X7_beSilent_7, ft_X7_beSilent_10, ft_X7_beSilent_11, ft_X7_beSilent_12, ft_X7_beSilent_15, ft_X7_beSilent_18, ft_X7_beSilent_19, ft_X7_beSilent_20, ft_X7_beSilent_21, ft_X7_beSilent_24, ft_X7_beSilent_27, ft_X7_beSilent_28, ft_X7_beSilent_29, ft_X7_beSilent_32, ft_X7_beSilent_35, ft_X7_beSilent_36, ft_X7_beSilent_38, ft_X7_beSilent_39, ft_X7_beSilent_40, ft_X7_beSilent_41, ft_X7_beSilent_42, ft_X7_beSilent_43, ft_X7_beSilent_44, ft_X7_beSilent_45, ft_X7_beSilent_46, ft_X7_beSilent_47, ft_X7_beSilent_48, ft_X7_beSilent_49, ft_X7_beSilent_50, ft_X7_beSilent_52, ft_X7_beSilent_53, ft_X7_beSilent_54, ft_X7_beSilent_55, ft_X7_beSilent_56, ft_X7_beSilent_59, ft_X7_beSilent_62, ft_X7_beSilent_63, ft_X7_beSilent_66, ft_X7_beSilent_67, ft_X7_beSilent_68, ft_X7_beSilent_69, ft_X7_beSilent_70, ft_X7_beSilent_71, ft_X7_beSilent_72, ft_X7_beSilent_75, ft_X7_beSilent_78, fl_71_2, m'.s.mP, hc]
    rw [show j = P by omega] at e
    exact h C' mo e
  | succ k ih =>
    intro j hj C' mo e
    have m' := m.mo mo
    have hj4 : j < 4 := by omega
    have hc : (nI P ≤ nI j) = False := eq_false (nI_ge (by omega) (by omega))
    have hI : Inv P K B (C' r) := by rw [e]; exact foldP_I (fun _ _ hj h => silStep_I h hj) iv j (by omega)
    have hk : ∀ C'', Mo r C' C'' → C'' r = silStep (C' 5) (C' 3 5) sil l (nI j) (C' r) → Rn Y_X7_beSilent none Q 2 [some (.ref 71), some (.ref r), some (.int talk), some (.int (nI (j + 1)))] [] (memS 94 C'' z) (nb, 0, 0) := fun C'' mo2 e2 => ih (j + 1) (by omega) C'' (mo.tr mo2) (by rw [e2, mo.row m.r 5 rfl, mo.row m.r 3 rfl, e]; rfl)
    rw [silStep_at hj4, ht j hj4] at hk
    refine jrun_first OK_X7_beSilent (C := [2]) 60 ?_
    by_cases hv : lvP (C' r) j
    · obtain ⟨c, hcK, ec⟩ := lv_occ hI hj4 hv
      have hv2 := hv
      rw [lvP_eq hI hj4, liveP_at hj4] at hv2
      simp -implicitDefEqProofs only [jr_0, jr_1, jr_2, j_iconst, j_lconst, j_iload0, j_aload0, j_istore0, j_astore0, j_iinc0, j_iload1, j_aload1, j_istore1, j_astore1, j_iinc1, j_iload2, j_aload2, j_istore2, j_astore2, j_iinc2, j_iload3, j_aload3, j_istore3, j_astore3, j_iinc3, j_iload4, j_aload4, j_istore4, j_astore4, j_iinc4, j_iload5, j_aload5, j_istore5, j_astore5, j_iinc5, j_iload6, j_aload6, j_istore6, j_astore6, j_iinc6, j_iload7, j_aload7, j_istore7, j_astore7, j_iinc7, j_iload8, j_aload8, j_istore8, j_astore8, j_iinc8, j_iadd, j_isub, j_imul, j_iand, j_ior, j_ixor, j_ishl, j_ishr, j_iushr, j_idiv, j_irem, j_ineg, j_ladd, j_lmul, j_land, j_lor, j_lcmp, j_lushr, j_lshl, j_i2l, j_l2i, j_dupI, j_dupR, j_popI, j_dup2, j_ifeq, j_iceq, j_ifne, j_icne, j_iflt, j_iclt, j_ifge, j_icge, j_ifgt, j_icgt, j_ifle, j_icle, j_goto, j_tsw, j_sw0, j_sw1, j_ireturn, j_zreturn, j_lreturn, j_return, j_getfield, j_putI, j_putJ, j_putR, j_iaload, j_baload, j_iastore, j_bastore, j_aaload, j_q, j_aastore, j_acopy, j_mmin, j_mmax, j_mabs, j_objinit, j_new, j_newI, j_newQ, j_sld, j_slen, j_callV0, j_callI0, j_callS0, j_callV1, j_callI1, j_callS1, j_callV2, j_callI2, j_callS2, j_callV3, j_callS3, j_callV4, j_callS4, j_callV5, j_callS5, j_pushS, j_pushN, j_sh0, j_sh1, j_sh2, j_sh3, j_sh4, Int32.reduceAdd, Int32.reduceMul, Int32.reduceSub, Int32.reduceLT, Int32.reduceLE, eq_self, i32_10, i32_01, ne_eq, hrow_s, hrow_n, ne10, ne100, ne1000, ne7, ne4, ne14, ne9973, or_true, true_or, or_false, false_or, not_true_eq_false, not_false_eq_true, false_implies, implies_true, and_true, forall_const, true_implies, jargs_n, jargs_r, jargs_i, List.cons_append, List.nil_append, true_and, Nat.reduceEqDiff, reduceIte, ft_X7_beSilent_0, ft_X7_beSilent_1, ft_X7_beSilent_2, ft_X7_beSilent_3, ft_X7_beSilent_4, ft_X7_beSilent_7, ft_X7_beSilent_10, ft_X7_beSilent_11, ft_X7_beSilent_12, ft_X7_beSilent_15, ft_X7_beSilent_18, ft_X7_beSilent_19, ft_X7_beSilent_20, ft_X7_beSilent_21, ft_X7_beSilent_24, ft_X7_beSilent_27, ft_X7_beSilent_28, ft_X7_beSilent_29, ft_X7_beSilent_32, ft_X7_beSilent_35, ft_X7_beSilent_36, ft_X7_beSilent_38, ft_X7_beSilent_39, ft_X7_beSilent_40, ft_X7_beSilent_41, ft_X7_beSilent_42, ft_X7_beSilent_43, ft_X7_beSilent_44, ft_X7_beSilent_45, ft_X7_beSilent_46, ft_X7_beSilent_47, ft_X7_beSilent_48, ft_X7_beSilent_49, ft_X7_beSilent_50, ft_X7_beSilent_52, ft_X7_beSilent_53, ft_X7_beSilent_54, ft_X7_beSilent_55, ft_X7_beSilent_56, ft_X7_beSilent_59, ft_X7_beSilent_62, ft_X7_beSilent_63, ft_X7_beSilent_66, ft_X7_beSilent_67, ft_X7_beSilent_68, ft_X7_beSilent_69, ft_X7_beSilent_70, ft_X7_beSilent_71, ft_X7_beSilent_72, ft_X7_beSilent_75, ft_X7_beSilent_78, fl_71_2, fl_71_9, m'.s.mP, m'.s.mpat, hc, nI_1, rc_71, s_X7_isLive m'.r hj4, s_X7_isMuteAt m'.r m'.s m'.l hj4 (show c < 6 by omega) ec, s_X7_has, zb_0, hv, ar_12 m'.r hj4, aw_12 m'.r hj4, ar_4 m'.r hj4, aw_4 m'.r hj4, jn_71 m'.r, hrow_hrow, upd_eq]
      by_cases h2 : kdF (C' 5) (C' r) (nI j) l = 2
      · rw [pick_f (fun q => q.2.2 h2)] at hk
        simp only [h2, not_true_eq_false, not_false_eq_true, true_implies, false_implies, implies_true, and_true, true_and, forall_const]
        exact hk _ Mo.rf rfl
      · by_cases h3 : hasP talk (nI j)
        · rw [pick_f (fun q => q.1 h3)] at hk
          simp only [h2, h3, not_true_eq_false, not_false_eq_true, true_implies, false_implies, implies_true, and_true, true_and, forall_const]
          exact hk _ Mo.rf rfl
        · rw [pick_t ⟨h3, hv2, h2⟩] at hk
          by_cases h5 : C' r (12 + j) + 1 ≤ C' 3 5
          · rw [pick_t h5] at hk
            simp only [h2, h3, h5, not_true_eq_false, not_false_eq_true, true_implies, false_implies, implies_true, and_true, true_and, forall_const]
            rw [upd_same rfl]
            exact hk _ (Mo.rf.hr m.r) hrow_s
          · rw [pick_f h5] at hk
            simp only [h2, h3, h5, not_true_eq_false, not_false_eq_true, true_implies, false_implies, implies_true, and_true, true_and, forall_const]
            exact hk _ (Mo.rf.hr m.r) hrow_s
    · have hv2 := hv
      rw [lvP_eq hI hj4, liveP_at hj4] at hv2
      rw [pick_f (fun q => hv2 q.2.1)] at hk
      simp -implicitDefEqProofs only [jr_0, jr_1, jr_2, j_iconst, j_lconst, j_iload0, j_aload0, j_istore0, j_astore0, j_iinc0, j_iload1, j_aload1, j_istore1, j_astore1, j_iinc1, j_iload2, j_aload2, j_istore2, j_astore2, j_iinc2, j_iload3, j_aload3, j_istore3, j_astore3, j_iinc3, j_iload4, j_aload4, j_istore4, j_astore4, j_iinc4, j_iload5, j_aload5, j_istore5, j_astore5, j_iinc5, j_iload6, j_aload6, j_istore6, j_astore6, j_iinc6, j_iload7, j_aload7, j_istore7, j_astore7, j_iinc7, j_iload8, j_aload8, j_istore8, j_astore8, j_iinc8, j_iadd, j_isub, j_imul, j_iand, j_ior, j_ixor, j_ishl, j_ishr, j_iushr, j_idiv, j_irem, j_ineg, j_ladd, j_lmul, j_land, j_lor, j_lcmp, j_lushr, j_lshl, j_i2l, j_l2i, j_dupI, j_dupR, j_popI, j_dup2, j_ifeq, j_iceq, j_ifne, j_icne, j_iflt, j_iclt, j_ifge, j_icge, j_ifgt, j_icgt, j_ifle, j_icle, j_goto, j_tsw, j_sw0, j_sw1, j_ireturn, j_zreturn, j_lreturn, j_return, j_getfield, j_putI, j_putJ, j_putR, j_iaload, j_baload, j_iastore, j_bastore, j_aaload, j_q, j_aastore, j_acopy, j_mmin, j_mmax, j_mabs, j_objinit, j_new, j_newI, j_newQ, j_sld, j_slen, j_callV0, j_callI0, j_callS0, j_callV1, j_callI1, j_callS1, j_callV2, j_callI2, j_callS2, j_callV3, j_callS3, j_callV4, j_callS4, j_callV5, j_callS5, j_pushS, j_pushN, j_sh0, j_sh1, j_sh2, j_sh3, j_sh4, Int32.reduceAdd, Int32.reduceMul, Int32.reduceSub, Int32.reduceLT, Int32.reduceLE, eq_self, i32_10, i32_01, ne_eq, hrow_s, hrow_n, ne10, ne100, ne1000, ne7, ne4, ne14, ne9973, or_true, true_or, or_false, false_or, not_true_eq_false, not_false_eq_true, false_implies, implies_true, and_true, forall_const, true_implies, jargs_n, jargs_r, jargs_i, List.cons_append, List.nil_append, true_and, Nat.reduceEqDiff, reduceIte, ft_X7_beSilent_0, ft_X7_beSilent_1, ft_X7_beSilent_2, ft_X7_beSilent_3, ft_X7_beSilent_4, ft_X7_beSilent_7, ft_X7_beSilent_10, ft_X7_beSilent_11, ft_X7_beSilent_12, ft_X7_beSilent_15, ft_X7_beSilent_18, ft_X7_beSilent_19, ft_X7_beSilent_20, ft_X7_beSilent_21, ft_X7_beSilent_24, ft_X7_beSilent_27, ft_X7_beSilent_28, ft_X7_beSilent_29, ft_X7_beSilent_32, ft_X7_beSilent_35, ft_X7_beSilent_36, ft_X7_beSilent_38, ft_X7_beSilent_39, ft_X7_beSilent_40, ft_X7_beSilent_41, ft_X7_beSilent_42, ft_X7_beSilent_43, ft_X7_beSilent_44, ft_X7_beSilent_45, ft_X7_beSilent_46, ft_X7_beSilent_47, ft_X7_beSilent_48, ft_X7_beSilent_49, ft_X7_beSilent_50, ft_X7_beSilent_52, ft_X7_beSilent_53, ft_X7_beSilent_54, ft_X7_beSilent_55, ft_X7_beSilent_56, ft_X7_beSilent_59, ft_X7_beSilent_62, ft_X7_beSilent_63, ft_X7_beSilent_66, ft_X7_beSilent_67, ft_X7_beSilent_68, ft_X7_beSilent_69, ft_X7_beSilent_70, ft_X7_beSilent_71, ft_X7_beSilent_72, ft_X7_beSilent_75, ft_X7_beSilent_78, fl_71_2, m'.s.mP, hc, nI_1, rc_71, s_X7_isLive m'.r hj4, zb_0, hv]
      exact hk _ Mo.rf rfl
theorem ok_X7_beSilent : jMeets Y_X7_beSilent S_X7_beSilent := by
  intro nb vs mem Q h
  obtain ⟨C, z, r, P, K, B, l, sil, talk, rfl, rfl, m, iv, ht, hQ⟩ := h
  refine Ok.run OK_X7_beSilent [2] 40 [none] pn7 (Nat.le_of_ble_eq_true rfl) rfl ?_
  simp -implicitDefEqProofs only [jr_0, jr_1, jr_2, j_iconst, j_lconst, j_iload0, j_aload0, j_istore0, j_astore0, j_iinc0, j_iload1, j_aload1, j_istore1, j_astore1, j_iinc1, j_iload2, j_aload2, j_istore2, j_astore2, j_iinc2, j_iload3, j_aload3, j_istore3, j_astore3, j_iinc3, j_iload4, j_aload4, j_istore4, j_astore4, j_iinc4, j_iload5, j_aload5, j_istore5, j_astore5, j_iinc5, j_iload6, j_aload6, j_istore6, j_astore6, j_iinc6, j_iload7, j_aload7, j_istore7, j_astore7, j_iinc7, j_iload8, j_aload8, j_istore8, j_astore8, j_iinc8, j_iadd, j_isub, j_imul, j_iand, j_ior, j_ixor, j_ishl, j_ishr, j_iushr, j_idiv, j_irem, j_ineg, j_ladd, j_lmul, j_land, j_lor, j_lcmp, j_lushr, j_lshl, j_i2l, j_l2i, j_dupI, j_dupR, j_popI, j_dup2, j_ifeq, j_iceq, j_ifne, j_icne, j_iflt, j_iclt, j_ifge, j_icge, j_ifgt, j_icgt, j_ifle, j_icle, j_goto, j_tsw, j_sw0, j_sw1, j_ireturn, j_zreturn, j_lreturn, j_return, j_getfield, j_putI, j_putJ, j_putR, j_iaload, j_baload, j_iastore, j_bastore, j_aaload, j_q, j_aastore, j_acopy, j_mmin, j_mmax, j_mabs, j_objinit, j_new, j_newI, j_newQ, j_sld, j_slen, j_callV0, j_callI0, j_callS0, j_callV1, j_callI1, j_callS1, j_callV2, j_callI2, j_callS2, j_callV3, j_callS3, j_callV4, j_callS4, j_callV5, j_callS5, j_pushS, j_pushN, j_sh0, j_sh1, j_sh2, j_sh3, j_sh4, Int32.reduceAdd, Int32.reduceMul, Int32.reduceSub, Int32.reduceLT, Int32.reduceLE, eq_self, i32_10, i32_01, ne_eq, hrow_s, hrow_n, ne10, ne100, ne1000, ne7, ne4, ne14, ne9973, or_true, true_or, or_false, false_or, not_true_eq_false, not_false_eq_true, false_implies, implies_true, and_true, forall_const, true_implies, jargs_n, jargs_r, jargs_i, List.cons_append, List.nil_append, true_and, Nat.reduceEqDiff, reduceIte, ft_X7_beSilent_0, ft_X7_beSilent_1, ft_X7_beSilent_2, ft_X7_beSilent_3, ft_X7_beSilent_4, ft_X7_beSilent_7, ft_X7_beSilent_10, ft_X7_beSilent_11, ft_X7_beSilent_12, ft_X7_beSilent_15, ft_X7_beSilent_18, ft_X7_beSilent_19, ft_X7_beSilent_20, ft_X7_beSilent_21, ft_X7_beSilent_24, ft_X7_beSilent_27, ft_X7_beSilent_28, ft_X7_beSilent_29, ft_X7_beSilent_32, ft_X7_beSilent_35, ft_X7_beSilent_36, ft_X7_beSilent_38, ft_X7_beSilent_39, ft_X7_beSilent_40, ft_X7_beSilent_41, ft_X7_beSilent_42, ft_X7_beSilent_43, ft_X7_beSilent_44, ft_X7_beSilent_45, ft_X7_beSilent_46, ft_X7_beSilent_47, ft_X7_beSilent_48, ft_X7_beSilent_49, ft_X7_beSilent_50, ft_X7_beSilent_52, ft_X7_beSilent_53, ft_X7_beSilent_54, ft_X7_beSilent_55, ft_X7_beSilent_56, ft_X7_beSilent_59, ft_X7_beSilent_62, ft_X7_beSilent_63, ft_X7_beSilent_66, ft_X7_beSilent_67, ft_X7_beSilent_68, ft_X7_beSilent_69, ft_X7_beSilent_70, ft_X7_beSilent_71, ft_X7_beSilent_72, ft_X7_beSilent_75, ft_X7_beSilent_78]
  exact lp_X7_beSilent m iv ht hQ P 0 (by omega) C Mo.rf rfl
theorem s_X7_beSilent {nb r P K B : Nat} {C : Nat → Nat → Int32} {z : Nat → Int64} {l sil talk : Int32} {Q : jQ} (m : MS r C P K l) (iv : Inv P K B (C r)) (ht : Ta sil talk) (hQ : ∀ C', Mo r C C' → C' r = foldP (silStep (C 5) (C 3 5) sil l) (C r) P → Q none (memS 94 C' z)) : S_X7_beSilent nb [.ref 71, .ref r, .int talk] (memS 94 C z) Q := ⟨C, z, r, P, K, B, l, sil, talk, rfl, rfl, m, iv, ht, hQ⟩
/-! who goes on -/
def S_X7_goOn : jSp := fun _ vs mem Q => ∃ C z r P K B, ∃ l : Int32, vs = [.ref 71, .ref r] ∧ mem = memS 94 C z ∧ MS r C P K l ∧ Inv P K B (C r) ∧ ∀ C', Mo r C C' → C' r = foldP (stStep (C 5) l) (C r) P → Q none (memS 94 C' z)
def F_X7_goOn_0 : Nat → jT := fun pc => (bif Nat.blt pc 7 then (bif Nat.blt pc 2 then (bif Nat.blt pc 1 then (bif Nat.beq pc 0 then J_iconst 0 1 else jbad) else (bif Nat.beq pc 1 then J_istore 2 2 else jbad)) else (bif Nat.blt pc 3 then (bif Nat.beq pc 2 then J_iload 2 3 else jbad) else (bif Nat.blt pc 4 then (bif Nat.beq pc 3 then J_aload 0 4 else jbad) else (bif Nat.beq pc 4 then J_getfield 7 2 7 else jbad)))) else (bif Nat.blt pc 12 then (bif Nat.blt pc 10 then (bif Nat.beq pc 7 then J_icge 119 10 else jbad) else (bif Nat.blt pc 11 then (bif Nat.beq pc 10 then J_aload 1 11 else jbad) else (bif Nat.beq pc 11 then J_iconst 4 12 else jbad))) else (bif Nat.blt pc 13 then (bif Nat.beq pc 12 then J_iload 2 13 else jbad) else (bif Nat.blt pc 14 then (bif Nat.beq pc 13 then J_iadd 14 else jbad) else (bif Nat.beq pc 14 then J_iaload 15 else jbad)))))
theorem ftl_X7_goOn_0 : F_X7_goOn_0 0 = J_iconst 0 1 := rfl
theorem ftl_X7_goOn_1 : F_X7_goOn_0 1 = J_istore 2 2 := rfl
theorem ftl_X7_goOn_2 : F_X7_goOn_0 2 = J_iload 2 3 := rfl
theorem ftl_X7_goOn_3 : F_X7_goOn_0 3 = J_aload 0 4 := rfl
theorem ftl_X7_goOn_4 : F_X7_goOn_0 4 = J_getfield 7 2 7 := rfl
theorem ftl_X7_goOn_7 : F_X7_goOn_0 7 = J_icge 119 10 := rfl
theorem ftl_X7_goOn_10 : F_X7_goOn_0 10 = J_aload 1 11 := rfl
theorem ftl_X7_goOn_11 : F_X7_goOn_0 11 = J_iconst 4 12 := rfl
theorem ftl_X7_goOn_12 : F_X7_goOn_0 12 = J_iload 2 13 := rfl
theorem ftl_X7_goOn_13 : F_X7_goOn_0 13 = J_iadd 14 := rfl
theorem ftl_X7_goOn_14 : F_X7_goOn_0 14 = J_iaload 15 := rfl
theorem F_X7_goOn_0_ok : jOK Y_X7_goOn none (F_X7_goOn_0) := (jOK_node (jOK_node (jOK_node (jOK_leaf (sn_iconst dX7_goOn_0 rfl rfl)) (jOK_leaf (sn_istore_n dX7_goOn_1 rfl rfl (by decide)))) (jOK_node (jOK_leaf (sn_iload_n dX7_goOn_2 rfl rfl)) (jOK_node (jOK_leaf (sn_aload_n dX7_goOn_3 rfl rfl)) (jOK_leaf (sn_getfield dX7_goOn_4 rfl rfl (by decide) tw_616 jin7))))) (jOK_node (jOK_node (jOK_leaf (sn_icge dX7_goOn_7 rfl rfl)) (jOK_node (jOK_leaf (sn_aload_n dX7_goOn_10 rfl rfl)) (jOK_leaf (sn_iconst dX7_goOn_11 rfl rfl)))) (jOK_node (jOK_leaf (sn_iload_n dX7_goOn_12 rfl rfl)) (jOK_node (jOK_leaf (sn_iadd dX7_goOn_13 rfl)) (jOK_leaf (sn_iaload dX7_goOn_14 rfl))))))
def F_X7_goOn_15 : Nat → jT := fun pc => (bif Nat.blt pc 21 then (bif Nat.blt pc 17 then (bif Nat.blt pc 16 then (bif Nat.beq pc 15 then J_istore 3 16 else jbad) else (bif Nat.beq pc 16 then J_aload 1 17 else jbad)) else (bif Nat.blt pc 19 then (bif Nat.beq pc 17 then J_iconst 16 19 else jbad) else (bif Nat.blt pc 20 then (bif Nat.beq pc 19 then J_iload 2 20 else jbad) else (bif Nat.beq pc 20 then J_iadd 21 else jbad)))) else (bif Nat.blt pc 24 then (bif Nat.blt pc 22 then (bif Nat.beq pc 21 then J_dup2 22 else jbad) else (bif Nat.blt pc 23 then (bif Nat.beq pc 22 then J_iaload 23 else jbad) else (bif Nat.beq pc 23 then J_iload 3 24 else jbad))) else (bif Nat.blt pc 25 then (bif Nat.beq pc 24 then J_iconst 1 25 else jbad) else (bif Nat.blt pc 28 then (bif Nat.beq pc 25 then J_icne 32 28 else jbad) else (bif Nat.beq pc 28 then J_iconst 1 29 else jbad)))))
theorem ftl_X7_goOn_15 : F_X7_goOn_15 15 = J_istore 3 16 := rfl
theorem ftl_X7_goOn_16 : F_X7_goOn_15 16 = J_aload 1 17 := rfl
theorem ftl_X7_goOn_17 : F_X7_goOn_15 17 = J_iconst 16 19 := rfl
theorem ftl_X7_goOn_19 : F_X7_goOn_15 19 = J_iload 2 20 := rfl
theorem ftl_X7_goOn_20 : F_X7_goOn_15 20 = J_iadd 21 := rfl
theorem ftl_X7_goOn_21 : F_X7_goOn_15 21 = J_dup2 22 := rfl
theorem ftl_X7_goOn_22 : F_X7_goOn_15 22 = J_iaload 23 := rfl
theorem ftl_X7_goOn_23 : F_X7_goOn_15 23 = J_iload 3 24 := rfl
theorem ftl_X7_goOn_24 : F_X7_goOn_15 24 = J_iconst 1 25 := rfl
theorem ftl_X7_goOn_25 : F_X7_goOn_15 25 = J_icne 32 28 := rfl
theorem ftl_X7_goOn_28 : F_X7_goOn_15 28 = J_iconst 1 29 := rfl
theorem F_X7_goOn_15_ok : jOK Y_X7_goOn none (F_X7_goOn_15) := (jOK_node (jOK_node (jOK_node (jOK_leaf (sn_istore_n dX7_goOn_15 rfl rfl (by decide))) (jOK_leaf (sn_aload_n dX7_goOn_16 rfl rfl))) (jOK_node (jOK_leaf (sn_bipush dX7_goOn_17 rfl rfl)) (jOK_node (jOK_leaf (sn_iload_n dX7_goOn_19 rfl rfl)) (jOK_leaf (sn_iadd dX7_goOn_20 rfl))))) (jOK_node (jOK_node (jOK_leaf (sn_dup2 dX7_goOn_21 rfl)) (jOK_node (jOK_leaf (sn_iaload dX7_goOn_22 rfl)) (jOK_leaf (sn_iload_n dX7_goOn_23 rfl rfl)))) (jOK_node (jOK_leaf (sn_iconst dX7_goOn_24 rfl rfl)) (jOK_node (jOK_leaf (sn_icne dX7_goOn_25 rfl rfl)) (jOK_leaf (sn_iconst dX7_goOn_28 rfl rfl))))))
def F_X7_goOn_0_28 : Nat → jT := fun pc => bif Nat.blt pc 15 then F_X7_goOn_0 pc else F_X7_goOn_15 pc
theorem F_X7_goOn_0_28_l {pc : Nat} (h : Nat.blt pc 15 = true) : F_X7_goOn_0_28 pc = F_X7_goOn_0 pc := by unfold F_X7_goOn_0_28; rw [h]; rfl
theorem F_X7_goOn_0_28_r {pc : Nat} (h : Nat.blt pc 15 = false) : F_X7_goOn_0_28 pc = F_X7_goOn_15 pc := by unfold F_X7_goOn_0_28; rw [h]; rfl
theorem F_X7_goOn_0_28_ok : jOK Y_X7_goOn none (F_X7_goOn_0_28) := jOK_node (F_X7_goOn_0_ok) (F_X7_goOn_15_ok)
def F_X7_goOn_29 : Nat → jT := fun pc => (bif Nat.blt pc 36 then (bif Nat.blt pc 33 then (bif Nat.blt pc 32 then (bif Nat.beq pc 29 then J_goto 33 else jbad) else (bif Nat.beq pc 32 then J_iconst 0 33 else jbad)) else (bif Nat.blt pc 34 then (bif Nat.beq pc 33 then J_iadd 34 else jbad) else (bif Nat.blt pc 35 then (bif Nat.beq pc 34 then J_iastore 35 else jbad) else (bif Nat.beq pc 35 then J_iload 3 36 else jbad)))) else (bif Nat.blt pc 41 then (bif Nat.blt pc 37 then (bif Nat.beq pc 36 then J_iconst 1 37 else jbad) else (bif Nat.blt pc 40 then (bif Nat.beq pc 37 then J_icne 65 40 else jbad) else (bif Nat.beq pc 40 then J_aload 0 41 else jbad))) else (bif Nat.blt pc 42 then (bif Nat.beq pc 41 then J_aload 1 42 else jbad) else (bif Nat.blt pc 43 then (bif Nat.beq pc 42 then J_iload 2 43 else jbad) else (bif Nat.beq pc 43 then J_callV 7 S_X7_isMuteAt 2 46 else jbad)))))
theorem ftl_X7_goOn_29 : F_X7_goOn_29 29 = J_goto 33 := rfl
theorem ftl_X7_goOn_32 : F_X7_goOn_29 32 = J_iconst 0 33 := rfl
theorem ftl_X7_goOn_33 : F_X7_goOn_29 33 = J_iadd 34 := rfl
theorem ftl_X7_goOn_34 : F_X7_goOn_29 34 = J_iastore 35 := rfl
theorem ftl_X7_goOn_35 : F_X7_goOn_29 35 = J_iload 3 36 := rfl
theorem ftl_X7_goOn_36 : F_X7_goOn_29 36 = J_iconst 1 37 := rfl
theorem ftl_X7_goOn_37 : F_X7_goOn_29 37 = J_icne 65 40 := rfl
theorem ftl_X7_goOn_40 : F_X7_goOn_29 40 = J_aload 0 41 := rfl
theorem ftl_X7_goOn_41 : F_X7_goOn_29 41 = J_aload 1 42 := rfl
theorem ftl_X7_goOn_42 : F_X7_goOn_29 42 = J_iload 2 43 := rfl
theorem ftl_X7_goOn_43 : F_X7_goOn_29 43 = J_callV 7 S_X7_isMuteAt 2 46 := rfl
theorem F_X7_goOn_29_ok : jOK Y_X7_goOn none (F_X7_goOn_29) := (jOK_node (jOK_node (jOK_node (jOK_leaf (sn_goto dX7_goOn_29 rfl)) (jOK_leaf (sn_iconst dX7_goOn_32 rfl rfl))) (jOK_node (jOK_leaf (sn_iadd dX7_goOn_33 rfl)) (jOK_node (jOK_leaf (sn_iastore dX7_goOn_34 rfl)) (jOK_leaf (sn_iload_n dX7_goOn_35 rfl rfl))))) (jOK_node (jOK_node (jOK_leaf (sn_iconst dX7_goOn_36 rfl rfl)) (jOK_node (jOK_leaf (sn_icne dX7_goOn_37 rfl rfl)) (jOK_leaf (sn_aload_n dX7_goOn_40 rfl rfl)))) (jOK_node (jOK_leaf (sn_aload_n dX7_goOn_41 rfl rfl)) (jOK_node (jOK_leaf (sn_iload_n dX7_goOn_42 rfl rfl)) (jOK_leaf (sn_callV (Y' := Y_X7_isMuteAt) ok_X7_isMuteAt dX7_goOn_43 rfl rfl rfl tw_841 tw_843 tp_42 tw_8 jc_X7_isMuteAt rfl ⟨by decide, by decide, rfl⟩ ⟨by decide, by decide⟩))))))
def F_X7_goOn_46 : Nat → jT := fun pc => (bif Nat.blt pc 54 then (bif Nat.blt pc 50 then (bif Nat.blt pc 49 then (bif Nat.beq pc 46 then J_ifeq 65 49 else jbad) else (bif Nat.beq pc 49 then J_aload 1 50 else jbad)) else (bif Nat.blt pc 52 then (bif Nat.beq pc 50 then J_iconst 16 52 else jbad) else (bif Nat.blt pc 53 then (bif Nat.beq pc 52 then J_iload 2 53 else jbad) else (bif Nat.beq pc 53 then J_iadd 54 else jbad)))) else (bif Nat.blt pc 59 then (bif Nat.blt pc 55 then (bif Nat.beq pc 54 then J_iaload 55 else jbad) else (bif Nat.blt pc 56 then (bif Nat.beq pc 55 then J_iconst 2 56 else jbad) else (bif Nat.beq pc 56 then J_iclt 65 59 else jbad))) else (bif Nat.blt pc 60 then (bif Nat.beq pc 59 then J_aload 1 60 else jbad) else (bif Nat.blt pc 61 then (bif Nat.beq pc 60 then J_iconst 4 61 else jbad) else (bif Nat.beq pc 61 then J_iload 2 62 else jbad)))))
theorem ftl_X7_goOn_46 : F_X7_goOn_46 46 = J_ifeq 65 49 := rfl
theorem ftl_X7_goOn_49 : F_X7_goOn_46 49 = J_aload 1 50 := rfl
theorem ftl_X7_goOn_50 : F_X7_goOn_46 50 = J_iconst 16 52 := rfl
theorem ftl_X7_goOn_52 : F_X7_goOn_46 52 = J_iload 2 53 := rfl
theorem ftl_X7_goOn_53 : F_X7_goOn_46 53 = J_iadd 54 := rfl
theorem ftl_X7_goOn_54 : F_X7_goOn_46 54 = J_iaload 55 := rfl
theorem ftl_X7_goOn_55 : F_X7_goOn_46 55 = J_iconst 2 56 := rfl
theorem ftl_X7_goOn_56 : F_X7_goOn_46 56 = J_iclt 65 59 := rfl
theorem ftl_X7_goOn_59 : F_X7_goOn_46 59 = J_aload 1 60 := rfl
theorem ftl_X7_goOn_60 : F_X7_goOn_46 60 = J_iconst 4 61 := rfl
theorem ftl_X7_goOn_61 : F_X7_goOn_46 61 = J_iload 2 62 := rfl
theorem F_X7_goOn_46_ok : jOK Y_X7_goOn none (F_X7_goOn_46) := (jOK_node (jOK_node (jOK_node (jOK_leaf (sn_ifeq dX7_goOn_46 rfl rfl)) (jOK_leaf (sn_aload_n dX7_goOn_49 rfl rfl))) (jOK_node (jOK_leaf (sn_bipush dX7_goOn_50 rfl rfl)) (jOK_node (jOK_leaf (sn_iload_n dX7_goOn_52 rfl rfl)) (jOK_leaf (sn_iadd dX7_goOn_53 rfl))))) (jOK_node (jOK_node (jOK_leaf (sn_iaload dX7_goOn_54 rfl)) (jOK_node (jOK_leaf (sn_iconst dX7_goOn_55 rfl rfl)) (jOK_leaf (sn_iclt dX7_goOn_56 rfl rfl)))) (jOK_node (jOK_leaf (sn_aload_n dX7_goOn_59 rfl rfl)) (jOK_node (jOK_leaf (sn_iconst dX7_goOn_60 rfl rfl)) (jOK_leaf (sn_iload_n dX7_goOn_61 rfl rfl))))))
def F_X7_goOn_29_61 : Nat → jT := fun pc => bif Nat.blt pc 46 then F_X7_goOn_29 pc else F_X7_goOn_46 pc
theorem F_X7_goOn_29_61_l {pc : Nat} (h : Nat.blt pc 46 = true) : F_X7_goOn_29_61 pc = F_X7_goOn_29 pc := by unfold F_X7_goOn_29_61; rw [h]; rfl
theorem F_X7_goOn_29_61_r {pc : Nat} (h : Nat.blt pc 46 = false) : F_X7_goOn_29_61 pc = F_X7_goOn_46 pc := by unfold F_X7_goOn_29_61; rw [h]; rfl
theorem F_X7_goOn_29_61_ok : jOK Y_X7_goOn none (F_X7_goOn_29_61) := jOK_node (F_X7_goOn_29_ok) (F_X7_goOn_46_ok)
def F_X7_goOn_0_61 : Nat → jT := fun pc => bif Nat.blt pc 29 then F_X7_goOn_0_28 pc else F_X7_goOn_29_61 pc
theorem F_X7_goOn_0_61_l {pc : Nat} (h : Nat.blt pc 29 = true) : F_X7_goOn_0_61 pc = F_X7_goOn_0_28 pc := by unfold F_X7_goOn_0_61; rw [h]; rfl
theorem F_X7_goOn_0_61_r {pc : Nat} (h : Nat.blt pc 29 = false) : F_X7_goOn_0_61 pc = F_X7_goOn_29_61 pc := by unfold F_X7_goOn_0_61; rw [h]; rfl
theorem F_X7_goOn_0_61_ok : jOK Y_X7_goOn none (F_X7_goOn_0_61) := jOK_node (F_X7_goOn_0_28_ok) (F_X7_goOn_29_61_ok)
def F_X7_goOn_62 : Nat → jT := fun pc => (bif Nat.blt pc 67 then (bif Nat.blt pc 64 then (bif Nat.blt pc 63 then (bif Nat.beq pc 62 then J_iadd 63 else jbad) else (bif Nat.beq pc 63 then J_iconst 2 64 else jbad)) else (bif Nat.blt pc 65 then (bif Nat.beq pc 64 then J_iastore 65 else jbad) else (bif Nat.blt pc 66 then (bif Nat.beq pc 65 then J_iload 3 66 else jbad) else (bif Nat.beq pc 66 then J_iconst 2 67 else jbad)))) else (bif Nat.blt pc 73 then (bif Nat.blt pc 70 then (bif Nat.beq pc 67 then J_icne 89 70 else jbad) else (bif Nat.blt pc 71 then (bif Nat.beq pc 70 then J_aload 1 71 else jbad) else (bif Nat.beq pc 71 then J_iconst 32 73 else jbad))) else (bif Nat.blt pc 74 then (bif Nat.beq pc 73 then J_aload 1 74 else jbad) else (bif Nat.blt pc 75 then (bif Nat.beq pc 74 then J_iconst 0 75 else jbad) else (bif Nat.beq pc 75 then J_iload 2 76 else jbad)))))
theorem ftl_X7_goOn_62 : F_X7_goOn_62 62 = J_iadd 63 := rfl
theorem ftl_X7_goOn_63 : F_X7_goOn_62 63 = J_iconst 2 64 := rfl
theorem ftl_X7_goOn_64 : F_X7_goOn_62 64 = J_iastore 65 := rfl
theorem ftl_X7_goOn_65 : F_X7_goOn_62 65 = J_iload 3 66 := rfl
theorem ftl_X7_goOn_66 : F_X7_goOn_62 66 = J_iconst 2 67 := rfl
theorem ftl_X7_goOn_67 : F_X7_goOn_62 67 = J_icne 89 70 := rfl
theorem ftl_X7_goOn_70 : F_X7_goOn_62 70 = J_aload 1 71 := rfl
theorem ftl_X7_goOn_71 : F_X7_goOn_62 71 = J_iconst 32 73 := rfl
theorem ftl_X7_goOn_73 : F_X7_goOn_62 73 = J_aload 1 74 := rfl
theorem ftl_X7_goOn_74 : F_X7_goOn_62 74 = J_iconst 0 75 := rfl
theorem ftl_X7_goOn_75 : F_X7_goOn_62 75 = J_iload 2 76 := rfl
theorem F_X7_goOn_62_ok : jOK Y_X7_goOn none (F_X7_goOn_62) := (jOK_node (jOK_node (jOK_node (jOK_leaf (sn_iadd dX7_goOn_62 rfl)) (jOK_leaf (sn_iconst dX7_goOn_63 rfl rfl))) (jOK_node (jOK_leaf (sn_iastore dX7_goOn_64 rfl)) (jOK_node (jOK_leaf (sn_iload_n dX7_goOn_65 rfl rfl)) (jOK_leaf (sn_iconst dX7_goOn_66 rfl rfl))))) (jOK_node (jOK_node (jOK_leaf (sn_icne dX7_goOn_67 rfl rfl)) (jOK_node (jOK_leaf (sn_aload_n dX7_goOn_70 rfl rfl)) (jOK_leaf (sn_bipush dX7_goOn_71 rfl rfl)))) (jOK_node (jOK_leaf (sn_aload_n dX7_goOn_73 rfl rfl)) (jOK_node (jOK_leaf (sn_iconst dX7_goOn_74 rfl rfl)) (jOK_leaf (sn_iload_n dX7_goOn_75 rfl rfl))))))
def F_X7_goOn_76 : Nat → jT := fun pc => (bif Nat.blt pc 83 then (bif Nat.blt pc 78 then (bif Nat.blt pc 77 then (bif Nat.beq pc 76 then J_iadd 77 else jbad) else (bif Nat.beq pc 77 then J_iaload 78 else jbad)) else (bif Nat.blt pc 79 then (bif Nat.beq pc 78 then J_iadd 79 else jbad) else (bif Nat.blt pc 80 then (bif Nat.beq pc 79 then J_iaload 80 else jbad) else (bif Nat.beq pc 80 then J_ifle 89 83 else jbad)))) else (bif Nat.blt pc 86 then (bif Nat.blt pc 84 then (bif Nat.beq pc 83 then J_aload 1 84 else jbad) else (bif Nat.blt pc 85 then (bif Nat.beq pc 84 then J_iconst 4 85 else jbad) else (bif Nat.beq pc 85 then J_iload 2 86 else jbad))) else (bif Nat.blt pc 87 then (bif Nat.beq pc 86 then J_iadd 87 else jbad) else (bif Nat.blt pc 88 then (bif Nat.beq pc 87 then J_iconst 3 88 else jbad) else (bif Nat.beq pc 88 then J_iastore 89 else jbad)))))
theorem ftl_X7_goOn_76 : F_X7_goOn_76 76 = J_iadd 77 := rfl
theorem ftl_X7_goOn_77 : F_X7_goOn_76 77 = J_iaload 78 := rfl
theorem ftl_X7_goOn_78 : F_X7_goOn_76 78 = J_iadd 79 := rfl
theorem ftl_X7_goOn_79 : F_X7_goOn_76 79 = J_iaload 80 := rfl
theorem ftl_X7_goOn_80 : F_X7_goOn_76 80 = J_ifle 89 83 := rfl
theorem ftl_X7_goOn_83 : F_X7_goOn_76 83 = J_aload 1 84 := rfl
theorem ftl_X7_goOn_84 : F_X7_goOn_76 84 = J_iconst 4 85 := rfl
theorem ftl_X7_goOn_85 : F_X7_goOn_76 85 = J_iload 2 86 := rfl
theorem ftl_X7_goOn_86 : F_X7_goOn_76 86 = J_iadd 87 := rfl
theorem ftl_X7_goOn_87 : F_X7_goOn_76 87 = J_iconst 3 88 := rfl
theorem ftl_X7_goOn_88 : F_X7_goOn_76 88 = J_iastore 89 := rfl
theorem F_X7_goOn_76_ok : jOK Y_X7_goOn none (F_X7_goOn_76) := (jOK_node (jOK_node (jOK_node (jOK_leaf (sn_iadd dX7_goOn_76 rfl)) (jOK_leaf (sn_iaload dX7_goOn_77 rfl))) (jOK_node (jOK_leaf (sn_iadd dX7_goOn_78 rfl)) (jOK_node (jOK_leaf (sn_iaload dX7_goOn_79 rfl)) (jOK_leaf (sn_ifle dX7_goOn_80 rfl rfl))))) (jOK_node (jOK_node (jOK_leaf (sn_aload_n dX7_goOn_83 rfl rfl)) (jOK_node (jOK_leaf (sn_iconst dX7_goOn_84 rfl rfl)) (jOK_leaf (sn_iload_n dX7_goOn_85 rfl rfl)))) (jOK_node (jOK_leaf (sn_iadd dX7_goOn_86 rfl)) (jOK_node (jOK_leaf (sn_iconst dX7_goOn_87 rfl rfl)) (jOK_leaf (sn_iastore dX7_goOn_88 rfl))))))
def F_X7_goOn_62_88 : Nat → jT := fun pc => bif Nat.blt pc 76 then F_X7_goOn_62 pc else F_X7_goOn_76 pc
theorem F_X7_goOn_62_88_l {pc : Nat} (h : Nat.blt pc 76 = true) : F_X7_goOn_62_88 pc = F_X7_goOn_62 pc := by unfold F_X7_goOn_62_88; rw [h]; rfl
theorem F_X7_goOn_62_88_r {pc : Nat} (h : Nat.blt pc 76 = false) : F_X7_goOn_62_88 pc = F_X7_goOn_76 pc := by unfold F_X7_goOn_62_88; rw [h]; rfl
theorem F_X7_goOn_62_88_ok : jOK Y_X7_goOn none (F_X7_goOn_62_88) := jOK_node (F_X7_goOn_62_ok) (F_X7_goOn_76_ok)
def F_X7_goOn_89 : Nat → jT := fun pc => (bif Nat.blt pc 97 then (bif Nat.blt pc 91 then (bif Nat.blt pc 90 then (bif Nat.beq pc 89 then J_iload 3 90 else jbad) else (bif Nat.beq pc 90 then J_iconst 3 91 else jbad)) else (bif Nat.blt pc 94 then (bif Nat.beq pc 91 then J_icne 113 94 else jbad) else (bif Nat.blt pc 95 then (bif Nat.beq pc 94 then J_aload 1 95 else jbad) else (bif Nat.beq pc 95 then J_iconst 32 97 else jbad)))) else (bif Nat.blt pc 100 then (bif Nat.blt pc 98 then (bif Nat.beq pc 97 then J_aload 1 98 else jbad) else (bif Nat.blt pc 99 then (bif Nat.beq pc 98 then J_iconst 0 99 else jbad) else (bif Nat.beq pc 99 then J_iload 2 100 else jbad))) else (bif Nat.blt pc 101 then (bif Nat.beq pc 100 then J_iadd 101 else jbad) else (bif Nat.blt pc 102 then (bif Nat.beq pc 101 then J_iaload 102 else jbad) else (bif Nat.beq pc 102 then J_iadd 103 else jbad)))))
theorem ftl_X7_goOn_89 : F_X7_goOn_89 89 = J_iload 3 90 := rfl
theorem ftl_X7_goOn_90 : F_X7_goOn_89 90 = J_iconst 3 91 := rfl
theorem ftl_X7_goOn_91 : F_X7_goOn_89 91 = J_icne 113 94 := rfl
theorem ftl_X7_goOn_94 : F_X7_goOn_89 94 = J_aload 1 95 := rfl
theorem ftl_X7_goOn_95 : F_X7_goOn_89 95 = J_iconst 32 97 := rfl
theorem ftl_X7_goOn_97 : F_X7_goOn_89 97 = J_aload 1 98 := rfl
theorem ftl_X7_goOn_98 : F_X7_goOn_89 98 = J_iconst 0 99 := rfl
theorem ftl_X7_goOn_99 : F_X7_goOn_89 99 = J_iload 2 100 := rfl
theorem ftl_X7_goOn_100 : F_X7_goOn_89 100 = J_iadd 101 := rfl
theorem ftl_X7_goOn_101 : F_X7_goOn_89 101 = J_iaload 102 := rfl
theorem ftl_X7_goOn_102 : F_X7_goOn_89 102 = J_iadd 103 := rfl
theorem F_X7_goOn_89_ok : jOK Y_X7_goOn none (F_X7_goOn_89) := (jOK_node (jOK_node (jOK_node (jOK_leaf (sn_iload_n dX7_goOn_89 rfl rfl)) (jOK_leaf (sn_iconst dX7_goOn_90 rfl rfl))) (jOK_node (jOK_leaf (sn_icne dX7_goOn_91 rfl rfl)) (jOK_node (jOK_leaf (sn_aload_n dX7_goOn_94 rfl rfl)) (jOK_leaf (sn_bipush dX7_goOn_95 rfl rfl))))) (jOK_node (jOK_node (jOK_leaf (sn_aload_n dX7_goOn_97 rfl rfl)) (jOK_node (jOK_leaf (sn_iconst dX7_goOn_98 rfl rfl)) (jOK_leaf (sn_iload_n dX7_goOn_99 rfl rfl)))) (jOK_node (jOK_leaf (sn_iadd dX7_goOn_100 rfl)) (jOK_node (jOK_leaf (sn_iaload dX7_goOn_101 rfl)) (jOK_leaf (sn_iadd dX7_goOn_102 rfl))))))
def F_X7_goOn_103 : Nat → jT := fun pc => (bif Nat.blt pc 110 then (bif Nat.blt pc 107 then (bif Nat.blt pc 104 then (bif Nat.beq pc 103 then J_iaload 104 else jbad) else (bif Nat.beq pc 104 then J_ifne 113 107 else jbad)) else (bif Nat.blt pc 108 then (bif Nat.beq pc 107 then J_aload 1 108 else jbad) else (bif Nat.blt pc 109 then (bif Nat.beq pc 108 then J_iconst 4 109 else jbad) else (bif Nat.beq pc 109 then J_iload 2 110 else jbad)))) else (bif Nat.blt pc 113 then (bif Nat.blt pc 111 then (bif Nat.beq pc 110 then J_iadd 111 else jbad) else (bif Nat.blt pc 112 then (bif Nat.beq pc 111 then J_iconst 2 112 else jbad) else (bif Nat.beq pc 112 then J_iastore 113 else jbad))) else (bif Nat.blt pc 116 then (bif Nat.beq pc 113 then J_iinc 2 1 116 else jbad) else (bif Nat.blt pc 119 then (bif Nat.beq pc 116 then J_goto 2 else jbad) else (bif Nat.beq pc 119 then J_return 0 0 else jbad)))))
theorem ftl_X7_goOn_103 : F_X7_goOn_103 103 = J_iaload 104 := rfl
theorem ftl_X7_goOn_104 : F_X7_goOn_103 104 = J_ifne 113 107 := rfl
theorem ftl_X7_goOn_107 : F_X7_goOn_103 107 = J_aload 1 108 := rfl
theorem ftl_X7_goOn_108 : F_X7_goOn_103 108 = J_iconst 4 109 := rfl
theorem ftl_X7_goOn_109 : F_X7_goOn_103 109 = J_iload 2 110 := rfl
theorem ftl_X7_goOn_110 : F_X7_goOn_103 110 = J_iadd 111 := rfl
theorem ftl_X7_goOn_111 : F_X7_goOn_103 111 = J_iconst 2 112 := rfl
theorem ftl_X7_goOn_112 : F_X7_goOn_103 112 = J_iastore 113 := rfl
theorem ftl_X7_goOn_113 : F_X7_goOn_103 113 = J_iinc 2 1 116 := rfl
theorem ftl_X7_goOn_116 : F_X7_goOn_103 116 = J_goto 2 := rfl
theorem ftl_X7_goOn_119 : F_X7_goOn_103 119 = J_return 0 0 := rfl
theorem F_X7_goOn_103_ok : jOK Y_X7_goOn none (F_X7_goOn_103) := (jOK_node (jOK_node (jOK_node (jOK_leaf (sn_iaload dX7_goOn_103 rfl)) (jOK_leaf (sn_ifne dX7_goOn_104 rfl rfl))) (jOK_node (jOK_leaf (sn_aload_n dX7_goOn_107 rfl rfl)) (jOK_node (jOK_leaf (sn_iconst dX7_goOn_108 rfl rfl)) (jOK_leaf (sn_iload_n dX7_goOn_109 rfl rfl))))) (jOK_node (jOK_node (jOK_leaf (sn_iadd dX7_goOn_110 rfl)) (jOK_node (jOK_leaf (sn_iconst dX7_goOn_111 rfl rfl)) (jOK_leaf (sn_iastore dX7_goOn_112 rfl)))) (jOK_node (jOK_leaf (sn_iinc dX7_goOn_113 rfl rfl (by decide))) (jOK_node (jOK_leaf (sn_goto dX7_goOn_116 rfl)) (jOK_leaf (sn_return dX7_goOn_119 rfl rfl))))))
def F_X7_goOn_89_119 : Nat → jT := fun pc => bif Nat.blt pc 103 then F_X7_goOn_89 pc else F_X7_goOn_103 pc
theorem F_X7_goOn_89_119_l {pc : Nat} (h : Nat.blt pc 103 = true) : F_X7_goOn_89_119 pc = F_X7_goOn_89 pc := by unfold F_X7_goOn_89_119; rw [h]; rfl
theorem F_X7_goOn_89_119_r {pc : Nat} (h : Nat.blt pc 103 = false) : F_X7_goOn_89_119 pc = F_X7_goOn_103 pc := by unfold F_X7_goOn_89_119; rw [h]; rfl
theorem F_X7_goOn_89_119_ok : jOK Y_X7_goOn none (F_X7_goOn_89_119) := jOK_node (F_X7_goOn_89_ok) (F_X7_goOn_103_ok)
def F_X7_goOn_62_119 : Nat → jT := fun pc => bif Nat.blt pc 89 then F_X7_goOn_62_88 pc else F_X7_goOn_89_119 pc
theorem F_X7_goOn_62_119_l {pc : Nat} (h : Nat.blt pc 89 = true) : F_X7_goOn_62_119 pc = F_X7_goOn_62_88 pc := by unfold F_X7_goOn_62_119; rw [h]; rfl
theorem F_X7_goOn_62_119_r {pc : Nat} (h : Nat.blt pc 89 = false) : F_X7_goOn_62_119 pc = F_X7_goOn_89_119 pc := by unfold F_X7_goOn_62_119; rw [h]; rfl
theorem F_X7_goOn_62_119_ok : jOK Y_X7_goOn none (F_X7_goOn_62_119) := jOK_node (F_X7_goOn_62_88_ok) (F_X7_goOn_89_119_ok)
def F_X7_goOn_0_119 : Nat → jT := fun pc => bif Nat.blt pc 62 then F_X7_goOn_0_61 pc else F_X7_goOn_62_119 pc
theorem F_X7_goOn_0_119_l {pc : Nat} (h : Nat.blt pc 62 = true) : F_X7_goOn_0_119 pc = F_X7_goOn_0_61 pc := by unfold F_X7_goOn_0_119; rw [h]; rfl
theorem F_X7_goOn_0_119_r {pc : Nat} (h : Nat.blt pc 62 = false) : F_X7_goOn_0_119 pc = F_X7_goOn_62_119 pc := by unfold F_X7_goOn_0_119; rw [h]; rfl
theorem F_X7_goOn_0_119_ok : jOK Y_X7_goOn none (F_X7_goOn_0_119) := jOK_node (F_X7_goOn_0_61_ok) (F_X7_goOn_62_119_ok)
def F_X7_goOn : Nat → jT := F_X7_goOn_0_119
theorem OK_X7_goOn : jOK Y_X7_goOn none (F_X7_goOn) := F_X7_goOn_0_119_ok
theorem ft_X7_goOn_0 : F_X7_goOn 0 = J_iconst 0 1 := (F_X7_goOn_0_119_l rfl).trans ((F_X7_goOn_0_61_l rfl).trans ((F_X7_goOn_0_28_l rfl).trans (ftl_X7_goOn_0)))
theorem ft_X7_goOn_1 : F_X7_goOn 1 = J_istore 2 2 := (F_X7_goOn_0_119_l rfl).trans ((F_X7_goOn_0_61_l rfl).trans ((F_X7_goOn_0_28_l rfl).trans (ftl_X7_goOn_1)))
theorem ft_X7_goOn_2 : F_X7_goOn 2 = J_iload 2 3 := (F_X7_goOn_0_119_l rfl).trans ((F_X7_goOn_0_61_l rfl).trans ((F_X7_goOn_0_28_l rfl).trans (ftl_X7_goOn_2)))
theorem ft_X7_goOn_3 : F_X7_goOn 3 = J_aload 0 4 := (F_X7_goOn_0_119_l rfl).trans ((F_X7_goOn_0_61_l rfl).trans ((F_X7_goOn_0_28_l rfl).trans (ftl_X7_goOn_3)))
theorem ft_X7_goOn_4 : F_X7_goOn 4 = J_getfield 7 2 7 := (F_X7_goOn_0_119_l rfl).trans ((F_X7_goOn_0_61_l rfl).trans ((F_X7_goOn_0_28_l rfl).trans (ftl_X7_goOn_4)))
theorem ft_X7_goOn_7 : F_X7_goOn 7 = J_icge 119 10 := (F_X7_goOn_0_119_l rfl).trans ((F_X7_goOn_0_61_l rfl).trans ((F_X7_goOn_0_28_l rfl).trans (ftl_X7_goOn_7)))
theorem ft_X7_goOn_10 : F_X7_goOn 10 = J_aload 1 11 := (F_X7_goOn_0_119_l rfl).trans ((F_X7_goOn_0_61_l rfl).trans ((F_X7_goOn_0_28_l rfl).trans (ftl_X7_goOn_10)))
theorem ft_X7_goOn_11 : F_X7_goOn 11 = J_iconst 4 12 := (F_X7_goOn_0_119_l rfl).trans ((F_X7_goOn_0_61_l rfl).trans ((F_X7_goOn_0_28_l rfl).trans (ftl_X7_goOn_11)))
theorem ft_X7_goOn_12 : F_X7_goOn 12 = J_iload 2 13 := (F_X7_goOn_0_119_l rfl).trans ((F_X7_goOn_0_61_l rfl).trans ((F_X7_goOn_0_28_l rfl).trans (ftl_X7_goOn_12)))
theorem ft_X7_goOn_13 : F_X7_goOn 13 = J_iadd 14 := (F_X7_goOn_0_119_l rfl).trans ((F_X7_goOn_0_61_l rfl).trans ((F_X7_goOn_0_28_l rfl).trans (ftl_X7_goOn_13)))
theorem ft_X7_goOn_14 : F_X7_goOn 14 = J_iaload 15 := (F_X7_goOn_0_119_l rfl).trans ((F_X7_goOn_0_61_l rfl).trans ((F_X7_goOn_0_28_l rfl).trans (ftl_X7_goOn_14)))
theorem ft_X7_goOn_15 : F_X7_goOn 15 = J_istore 3 16 := (F_X7_goOn_0_119_l rfl).trans ((F_X7_goOn_0_61_l rfl).trans ((F_X7_goOn_0_28_r rfl).trans (ftl_X7_goOn_15)))
theorem ft_X7_goOn_16 : F_X7_goOn 16 = J_aload 1 17 := (F_X7_goOn_0_119_l rfl).trans ((F_X7_goOn_0_61_l rfl).trans ((F_X7_goOn_0_28_r rfl).trans (ftl_X7_goOn_16)))
theorem ft_X7_goOn_17 : F_X7_goOn 17 = J_iconst 16 19 := (F_X7_goOn_0_119_l rfl).trans ((F_X7_goOn_0_61_l rfl).trans ((F_X7_goOn_0_28_r rfl).trans (ftl_X7_goOn_17)))
theorem ft_X7_goOn_19 : F_X7_goOn 19 = J_iload 2 20 := (F_X7_goOn_0_119_l rfl).trans ((F_X7_goOn_0_61_l rfl).trans ((F_X7_goOn_0_28_r rfl).trans (ftl_X7_goOn_19)))
theorem ft_X7_goOn_20 : F_X7_goOn 20 = J_iadd 21 := (F_X7_goOn_0_119_l rfl).trans ((F_X7_goOn_0_61_l rfl).trans ((F_X7_goOn_0_28_r rfl).trans (ftl_X7_goOn_20)))
theorem ft_X7_goOn_21 : F_X7_goOn 21 = J_dup2 22 := (F_X7_goOn_0_119_l rfl).trans ((F_X7_goOn_0_61_l rfl).trans ((F_X7_goOn_0_28_r rfl).trans (ftl_X7_goOn_21)))
theorem ft_X7_goOn_22 : F_X7_goOn 22 = J_iaload 23 := (F_X7_goOn_0_119_l rfl).trans ((F_X7_goOn_0_61_l rfl).trans ((F_X7_goOn_0_28_r rfl).trans (ftl_X7_goOn_22)))
theorem ft_X7_goOn_23 : F_X7_goOn 23 = J_iload 3 24 := (F_X7_goOn_0_119_l rfl).trans ((F_X7_goOn_0_61_l rfl).trans ((F_X7_goOn_0_28_r rfl).trans (ftl_X7_goOn_23)))
theorem ft_X7_goOn_24 : F_X7_goOn 24 = J_iconst 1 25 := (F_X7_goOn_0_119_l rfl).trans ((F_X7_goOn_0_61_l rfl).trans ((F_X7_goOn_0_28_r rfl).trans (ftl_X7_goOn_24)))
theorem ft_X7_goOn_25 : F_X7_goOn 25 = J_icne 32 28 := (F_X7_goOn_0_119_l rfl).trans ((F_X7_goOn_0_61_l rfl).trans ((F_X7_goOn_0_28_r rfl).trans (ftl_X7_goOn_25)))
theorem ft_X7_goOn_28 : F_X7_goOn 28 = J_iconst 1 29 := (F_X7_goOn_0_119_l rfl).trans ((F_X7_goOn_0_61_l rfl).trans ((F_X7_goOn_0_28_r rfl).trans (ftl_X7_goOn_28)))
theorem ft_X7_goOn_29 : F_X7_goOn 29 = J_goto 33 := (F_X7_goOn_0_119_l rfl).trans ((F_X7_goOn_0_61_r rfl).trans ((F_X7_goOn_29_61_l rfl).trans (ftl_X7_goOn_29)))
theorem ft_X7_goOn_32 : F_X7_goOn 32 = J_iconst 0 33 := (F_X7_goOn_0_119_l rfl).trans ((F_X7_goOn_0_61_r rfl).trans ((F_X7_goOn_29_61_l rfl).trans (ftl_X7_goOn_32)))
theorem ft_X7_goOn_33 : F_X7_goOn 33 = J_iadd 34 := (F_X7_goOn_0_119_l rfl).trans ((F_X7_goOn_0_61_r rfl).trans ((F_X7_goOn_29_61_l rfl).trans (ftl_X7_goOn_33)))
theorem ft_X7_goOn_34 : F_X7_goOn 34 = J_iastore 35 := (F_X7_goOn_0_119_l rfl).trans ((F_X7_goOn_0_61_r rfl).trans ((F_X7_goOn_29_61_l rfl).trans (ftl_X7_goOn_34)))
theorem ft_X7_goOn_35 : F_X7_goOn 35 = J_iload 3 36 := (F_X7_goOn_0_119_l rfl).trans ((F_X7_goOn_0_61_r rfl).trans ((F_X7_goOn_29_61_l rfl).trans (ftl_X7_goOn_35)))
theorem ft_X7_goOn_36 : F_X7_goOn 36 = J_iconst 1 37 := (F_X7_goOn_0_119_l rfl).trans ((F_X7_goOn_0_61_r rfl).trans ((F_X7_goOn_29_61_l rfl).trans (ftl_X7_goOn_36)))
theorem ft_X7_goOn_37 : F_X7_goOn 37 = J_icne 65 40 := (F_X7_goOn_0_119_l rfl).trans ((F_X7_goOn_0_61_r rfl).trans ((F_X7_goOn_29_61_l rfl).trans (ftl_X7_goOn_37)))
theorem ft_X7_goOn_40 : F_X7_goOn 40 = J_aload 0 41 := (F_X7_goOn_0_119_l rfl).trans ((F_X7_goOn_0_61_r rfl).trans ((F_X7_goOn_29_61_l rfl).trans (ftl_X7_goOn_40)))
theorem ft_X7_goOn_41 : F_X7_goOn 41 = J_aload 1 42 := (F_X7_goOn_0_119_l rfl).trans ((F_X7_goOn_0_61_r rfl).trans ((F_X7_goOn_29_61_l rfl).trans (ftl_X7_goOn_41)))
theorem ft_X7_goOn_42 : F_X7_goOn 42 = J_iload 2 43 := (F_X7_goOn_0_119_l rfl).trans ((F_X7_goOn_0_61_r rfl).trans ((F_X7_goOn_29_61_l rfl).trans (ftl_X7_goOn_42)))
theorem ft_X7_goOn_43 : F_X7_goOn 43 = J_callV 7 S_X7_isMuteAt 2 46 := (F_X7_goOn_0_119_l rfl).trans ((F_X7_goOn_0_61_r rfl).trans ((F_X7_goOn_29_61_l rfl).trans (ftl_X7_goOn_43)))
theorem ft_X7_goOn_46 : F_X7_goOn 46 = J_ifeq 65 49 := (F_X7_goOn_0_119_l rfl).trans ((F_X7_goOn_0_61_r rfl).trans ((F_X7_goOn_29_61_r rfl).trans (ftl_X7_goOn_46)))
theorem ft_X7_goOn_49 : F_X7_goOn 49 = J_aload 1 50 := (F_X7_goOn_0_119_l rfl).trans ((F_X7_goOn_0_61_r rfl).trans ((F_X7_goOn_29_61_r rfl).trans (ftl_X7_goOn_49)))
theorem ft_X7_goOn_50 : F_X7_goOn 50 = J_iconst 16 52 := (F_X7_goOn_0_119_l rfl).trans ((F_X7_goOn_0_61_r rfl).trans ((F_X7_goOn_29_61_r rfl).trans (ftl_X7_goOn_50)))
theorem ft_X7_goOn_52 : F_X7_goOn 52 = J_iload 2 53 := (F_X7_goOn_0_119_l rfl).trans ((F_X7_goOn_0_61_r rfl).trans ((F_X7_goOn_29_61_r rfl).trans (ftl_X7_goOn_52)))
theorem ft_X7_goOn_53 : F_X7_goOn 53 = J_iadd 54 := (F_X7_goOn_0_119_l rfl).trans ((F_X7_goOn_0_61_r rfl).trans ((F_X7_goOn_29_61_r rfl).trans (ftl_X7_goOn_53)))
theorem ft_X7_goOn_54 : F_X7_goOn 54 = J_iaload 55 := (F_X7_goOn_0_119_l rfl).trans ((F_X7_goOn_0_61_r rfl).trans ((F_X7_goOn_29_61_r rfl).trans (ftl_X7_goOn_54)))
theorem ft_X7_goOn_55 : F_X7_goOn 55 = J_iconst 2 56 := (F_X7_goOn_0_119_l rfl).trans ((F_X7_goOn_0_61_r rfl).trans ((F_X7_goOn_29_61_r rfl).trans (ftl_X7_goOn_55)))
theorem ft_X7_goOn_56 : F_X7_goOn 56 = J_iclt 65 59 := (F_X7_goOn_0_119_l rfl).trans ((F_X7_goOn_0_61_r rfl).trans ((F_X7_goOn_29_61_r rfl).trans (ftl_X7_goOn_56)))
theorem ft_X7_goOn_59 : F_X7_goOn 59 = J_aload 1 60 := (F_X7_goOn_0_119_l rfl).trans ((F_X7_goOn_0_61_r rfl).trans ((F_X7_goOn_29_61_r rfl).trans (ftl_X7_goOn_59)))
theorem ft_X7_goOn_60 : F_X7_goOn 60 = J_iconst 4 61 := (F_X7_goOn_0_119_l rfl).trans ((F_X7_goOn_0_61_r rfl).trans ((F_X7_goOn_29_61_r rfl).trans (ftl_X7_goOn_60)))
theorem ft_X7_goOn_61 : F_X7_goOn 61 = J_iload 2 62 := (F_X7_goOn_0_119_l rfl).trans ((F_X7_goOn_0_61_r rfl).trans ((F_X7_goOn_29_61_r rfl).trans (ftl_X7_goOn_61)))
theorem ft_X7_goOn_62 : F_X7_goOn 62 = J_iadd 63 := (F_X7_goOn_0_119_r rfl).trans ((F_X7_goOn_62_119_l rfl).trans ((F_X7_goOn_62_88_l rfl).trans (ftl_X7_goOn_62)))
theorem ft_X7_goOn_63 : F_X7_goOn 63 = J_iconst 2 64 := (F_X7_goOn_0_119_r rfl).trans ((F_X7_goOn_62_119_l rfl).trans ((F_X7_goOn_62_88_l rfl).trans (ftl_X7_goOn_63)))
theorem ft_X7_goOn_64 : F_X7_goOn 64 = J_iastore 65 := (F_X7_goOn_0_119_r rfl).trans ((F_X7_goOn_62_119_l rfl).trans ((F_X7_goOn_62_88_l rfl).trans (ftl_X7_goOn_64)))
theorem ft_X7_goOn_65 : F_X7_goOn 65 = J_iload 3 66 := (F_X7_goOn_0_119_r rfl).trans ((F_X7_goOn_62_119_l rfl).trans ((F_X7_goOn_62_88_l rfl).trans (ftl_X7_goOn_65)))
theorem ft_X7_goOn_66 : F_X7_goOn 66 = J_iconst 2 67 := (F_X7_goOn_0_119_r rfl).trans ((F_X7_goOn_62_119_l rfl).trans ((F_X7_goOn_62_88_l rfl).trans (ftl_X7_goOn_66)))
theorem ft_X7_goOn_67 : F_X7_goOn 67 = J_icne 89 70 := (F_X7_goOn_0_119_r rfl).trans ((F_X7_goOn_62_119_l rfl).trans ((F_X7_goOn_62_88_l rfl).trans (ftl_X7_goOn_67)))
theorem ft_X7_goOn_70 : F_X7_goOn 70 = J_aload 1 71 := (F_X7_goOn_0_119_r rfl).trans ((F_X7_goOn_62_119_l rfl).trans ((F_X7_goOn_62_88_l rfl).trans (ftl_X7_goOn_70)))
theorem ft_X7_goOn_71 : F_X7_goOn 71 = J_iconst 32 73 := (F_X7_goOn_0_119_r rfl).trans ((F_X7_goOn_62_119_l rfl).trans ((F_X7_goOn_62_88_l rfl).trans (ftl_X7_goOn_71)))
theorem ft_X7_goOn_73 : F_X7_goOn 73 = J_aload 1 74 := (F_X7_goOn_0_119_r rfl).trans ((F_X7_goOn_62_119_l rfl).trans ((F_X7_goOn_62_88_l rfl).trans (ftl_X7_goOn_73)))
theorem ft_X7_goOn_74 : F_X7_goOn 74 = J_iconst 0 75 := (F_X7_goOn_0_119_r rfl).trans ((F_X7_goOn_62_119_l rfl).trans ((F_X7_goOn_62_88_l rfl).trans (ftl_X7_goOn_74)))
theorem ft_X7_goOn_75 : F_X7_goOn 75 = J_iload 2 76 := (F_X7_goOn_0_119_r rfl).trans ((F_X7_goOn_62_119_l rfl).trans ((F_X7_goOn_62_88_l rfl).trans (ftl_X7_goOn_75)))
theorem ft_X7_goOn_76 : F_X7_goOn 76 = J_iadd 77 := (F_X7_goOn_0_119_r rfl).trans ((F_X7_goOn_62_119_l rfl).trans ((F_X7_goOn_62_88_r rfl).trans (ftl_X7_goOn_76)))
theorem ft_X7_goOn_77 : F_X7_goOn 77 = J_iaload 78 := (F_X7_goOn_0_119_r rfl).trans ((F_X7_goOn_62_119_l rfl).trans ((F_X7_goOn_62_88_r rfl).trans (ftl_X7_goOn_77)))
theorem ft_X7_goOn_78 : F_X7_goOn 78 = J_iadd 79 := (F_X7_goOn_0_119_r rfl).trans ((F_X7_goOn_62_119_l rfl).trans ((F_X7_goOn_62_88_r rfl).trans (ftl_X7_goOn_78)))
theorem ft_X7_goOn_79 : F_X7_goOn 79 = J_iaload 80 := (F_X7_goOn_0_119_r rfl).trans ((F_X7_goOn_62_119_l rfl).trans ((F_X7_goOn_62_88_r rfl).trans (ftl_X7_goOn_79)))
theorem ft_X7_goOn_80 : F_X7_goOn 80 = J_ifle 89 83 := (F_X7_goOn_0_119_r rfl).trans ((F_X7_goOn_62_119_l rfl).trans ((F_X7_goOn_62_88_r rfl).trans (ftl_X7_goOn_80)))
theorem ft_X7_goOn_83 : F_X7_goOn 83 = J_aload 1 84 := (F_X7_goOn_0_119_r rfl).trans ((F_X7_goOn_62_119_l rfl).trans ((F_X7_goOn_62_88_r rfl).trans (ftl_X7_goOn_83)))
theorem ft_X7_goOn_84 : F_X7_goOn 84 = J_iconst 4 85 := (F_X7_goOn_0_119_r rfl).trans ((F_X7_goOn_62_119_l rfl).trans ((F_X7_goOn_62_88_r rfl).trans (ftl_X7_goOn_84)))
theorem ft_X7_goOn_85 : F_X7_goOn 85 = J_iload 2 86 := (F_X7_goOn_0_119_r rfl).trans ((F_X7_goOn_62_119_l rfl).trans ((F_X7_goOn_62_88_r rfl).trans (ftl_X7_goOn_85)))
theorem ft_X7_goOn_86 : F_X7_goOn 86 = J_iadd 87 := (F_X7_goOn_0_119_r rfl).trans ((F_X7_goOn_62_119_l rfl).trans ((F_X7_goOn_62_88_r rfl).trans (ftl_X7_goOn_86)))
theorem ft_X7_goOn_87 : F_X7_goOn 87 = J_iconst 3 88 := (F_X7_goOn_0_119_r rfl).trans ((F_X7_goOn_62_119_l rfl).trans ((F_X7_goOn_62_88_r rfl).trans (ftl_X7_goOn_87)))
theorem ft_X7_goOn_88 : F_X7_goOn 88 = J_iastore 89 := (F_X7_goOn_0_119_r rfl).trans ((F_X7_goOn_62_119_l rfl).trans ((F_X7_goOn_62_88_r rfl).trans (ftl_X7_goOn_88)))
theorem ft_X7_goOn_89 : F_X7_goOn 89 = J_iload 3 90 := (F_X7_goOn_0_119_r rfl).trans ((F_X7_goOn_62_119_r rfl).trans ((F_X7_goOn_89_119_l rfl).trans (ftl_X7_goOn_89)))
theorem ft_X7_goOn_90 : F_X7_goOn 90 = J_iconst 3 91 := (F_X7_goOn_0_119_r rfl).trans ((F_X7_goOn_62_119_r rfl).trans ((F_X7_goOn_89_119_l rfl).trans (ftl_X7_goOn_90)))
theorem ft_X7_goOn_91 : F_X7_goOn 91 = J_icne 113 94 := (F_X7_goOn_0_119_r rfl).trans ((F_X7_goOn_62_119_r rfl).trans ((F_X7_goOn_89_119_l rfl).trans (ftl_X7_goOn_91)))
theorem ft_X7_goOn_94 : F_X7_goOn 94 = J_aload 1 95 := (F_X7_goOn_0_119_r rfl).trans ((F_X7_goOn_62_119_r rfl).trans ((F_X7_goOn_89_119_l rfl).trans (ftl_X7_goOn_94)))
theorem ft_X7_goOn_95 : F_X7_goOn 95 = J_iconst 32 97 := (F_X7_goOn_0_119_r rfl).trans ((F_X7_goOn_62_119_r rfl).trans ((F_X7_goOn_89_119_l rfl).trans (ftl_X7_goOn_95)))
theorem ft_X7_goOn_97 : F_X7_goOn 97 = J_aload 1 98 := (F_X7_goOn_0_119_r rfl).trans ((F_X7_goOn_62_119_r rfl).trans ((F_X7_goOn_89_119_l rfl).trans (ftl_X7_goOn_97)))
theorem ft_X7_goOn_98 : F_X7_goOn 98 = J_iconst 0 99 := (F_X7_goOn_0_119_r rfl).trans ((F_X7_goOn_62_119_r rfl).trans ((F_X7_goOn_89_119_l rfl).trans (ftl_X7_goOn_98)))
theorem ft_X7_goOn_99 : F_X7_goOn 99 = J_iload 2 100 := (F_X7_goOn_0_119_r rfl).trans ((F_X7_goOn_62_119_r rfl).trans ((F_X7_goOn_89_119_l rfl).trans (ftl_X7_goOn_99)))
theorem ft_X7_goOn_100 : F_X7_goOn 100 = J_iadd 101 := (F_X7_goOn_0_119_r rfl).trans ((F_X7_goOn_62_119_r rfl).trans ((F_X7_goOn_89_119_l rfl).trans (ftl_X7_goOn_100)))
theorem ft_X7_goOn_101 : F_X7_goOn 101 = J_iaload 102 := (F_X7_goOn_0_119_r rfl).trans ((F_X7_goOn_62_119_r rfl).trans ((F_X7_goOn_89_119_l rfl).trans (ftl_X7_goOn_101)))
theorem ft_X7_goOn_102 : F_X7_goOn 102 = J_iadd 103 := (F_X7_goOn_0_119_r rfl).trans ((F_X7_goOn_62_119_r rfl).trans ((F_X7_goOn_89_119_l rfl).trans (ftl_X7_goOn_102)))
theorem ft_X7_goOn_103 : F_X7_goOn 103 = J_iaload 104 := (F_X7_goOn_0_119_r rfl).trans ((F_X7_goOn_62_119_r rfl).trans ((F_X7_goOn_89_119_r rfl).trans (ftl_X7_goOn_103)))
theorem ft_X7_goOn_104 : F_X7_goOn 104 = J_ifne 113 107 := (F_X7_goOn_0_119_r rfl).trans ((F_X7_goOn_62_119_r rfl).trans ((F_X7_goOn_89_119_r rfl).trans (ftl_X7_goOn_104)))
theorem ft_X7_goOn_107 : F_X7_goOn 107 = J_aload 1 108 := (F_X7_goOn_0_119_r rfl).trans ((F_X7_goOn_62_119_r rfl).trans ((F_X7_goOn_89_119_r rfl).trans (ftl_X7_goOn_107)))
theorem ft_X7_goOn_108 : F_X7_goOn 108 = J_iconst 4 109 := (F_X7_goOn_0_119_r rfl).trans ((F_X7_goOn_62_119_r rfl).trans ((F_X7_goOn_89_119_r rfl).trans (ftl_X7_goOn_108)))
theorem ft_X7_goOn_109 : F_X7_goOn 109 = J_iload 2 110 := (F_X7_goOn_0_119_r rfl).trans ((F_X7_goOn_62_119_r rfl).trans ((F_X7_goOn_89_119_r rfl).trans (ftl_X7_goOn_109)))
theorem ft_X7_goOn_110 : F_X7_goOn 110 = J_iadd 111 := (F_X7_goOn_0_119_r rfl).trans ((F_X7_goOn_62_119_r rfl).trans ((F_X7_goOn_89_119_r rfl).trans (ftl_X7_goOn_110)))
theorem ft_X7_goOn_111 : F_X7_goOn 111 = J_iconst 2 112 := (F_X7_goOn_0_119_r rfl).trans ((F_X7_goOn_62_119_r rfl).trans ((F_X7_goOn_89_119_r rfl).trans (ftl_X7_goOn_111)))
theorem ft_X7_goOn_112 : F_X7_goOn 112 = J_iastore 113 := (F_X7_goOn_0_119_r rfl).trans ((F_X7_goOn_62_119_r rfl).trans ((F_X7_goOn_89_119_r rfl).trans (ftl_X7_goOn_112)))
theorem ft_X7_goOn_113 : F_X7_goOn 113 = J_iinc 2 1 116 := (F_X7_goOn_0_119_r rfl).trans ((F_X7_goOn_62_119_r rfl).trans ((F_X7_goOn_89_119_r rfl).trans (ftl_X7_goOn_113)))
theorem ft_X7_goOn_116 : F_X7_goOn 116 = J_goto 2 := (F_X7_goOn_0_119_r rfl).trans ((F_X7_goOn_62_119_r rfl).trans ((F_X7_goOn_89_119_r rfl).trans (ftl_X7_goOn_116)))
theorem ft_X7_goOn_119 : F_X7_goOn 119 = J_return 0 0 := (F_X7_goOn_0_119_r rfl).trans ((F_X7_goOn_62_119_r rfl).trans ((F_X7_goOn_89_119_r rfl).trans (ftl_X7_goOn_119)))
set_option maxRecDepth 4096 in
theorem lp_X7_goOn {Q : jQ} {C : Nat → Nat → Int32} {z : Nat → Int64} {nb r P K B : Nat} {l : Int32} (m : MS r C P K l) (iv : Inv P K B (C r)) (h : ∀ C', Mo r C C' → C' r = foldP (stStep (C 5) l) (C r) P → Q none (memS 94 C' z)) :
    ∀ k j, j + k = P → ∀ C', Mo r C C' → C' r = foldP (stStep (C 5) l) (C r) j → ∀ o : Option Value, Rn Y_X7_goOn none Q 2 [some (.ref 71), some (.ref r), some (.int (nI j)), o] [] (memS 94 C' z) (nb, 0, 0) := by
  have h4 := m.h4
  have h6 := m.h6
  intro k
  induction k with
  | zero =>
    intro j hj C' mo e o
    have m' := m.mo mo
    have hc : (nI P ≤ nI j) = True := eq_true (nI_le (by omega) (by omega))
    refine jrun_first OK_X7_goOn (C := [2]) 40 ?_
    simp -implicitDefEqProofs only [jr_0, jr_1, jr_2, j_iconst, j_lconst, j_iload0, j_aload0, j_istore0, j_astore0, j_iinc0, j_iload1, j_aload1, j_istore1, j_astore1, j_iinc1, j_iload2, j_aload2, j_istore2, j_astore2, j_iinc2, j_iload3, j_aload3, j_istore3, j_astore3, j_iinc3, j_iload4, j_aload4, j_istore4, j_astore4, j_iinc4, j_iload5, j_aload5, j_istore5, j_astore5, j_iinc5, j_iload6, j_aload6, j_istore6, j_astore6, j_iinc6, j_iload7, j_aload7, j_istore7, j_astore7, j_iinc7, j_iload8, j_aload8, j_istore8, j_astore8, j_iinc8, j_iadd, j_isub, j_imul, j_iand, j_ior, j_ixor, j_ishl, j_ishr, j_iushr, j_idiv, j_irem, j_ineg, j_ladd, j_lmul, j_land, j_lor, j_lcmp, j_lushr, j_lshl, j_i2l, j_l2i, j_dupI, j_dupR, j_popI, j_dup2, j_ifeq, j_iceq, j_ifne, j_icne, j_iflt, j_iclt, j_ifge, j_icge, j_ifgt, j_icgt, j_ifle, j_icle, j_goto, j_tsw, j_sw0, j_sw1, j_ireturn, j_zreturn, j_lreturn, j_return, j_getfield, j_putI, j_putJ, j_putR, j_iaload, j_baload, j_iastore, j_bastore, j_aaload, j_q, j_aastore, j_acopy, j_mmin, j_mmax, j_mabs, j_objinit, j_new, j_newI, j_newQ, j_sld, j_slen, j_callV0, j_callI0, j_callS0, j_callV1, j_callI1, j_callS1, j_callV2, j_callI2, j_callS2, j_callV3, j_callS3, j_callV4, j_callS4, j_callV5, j_callS5, j_pushS, j_pushN, j_sh0, j_sh1, j_sh2, j_sh3, j_sh4, Int32.reduceAdd, Int32.reduceMul, Int32.reduceSub, Int32.reduceLT, Int32.reduceLE, eq_self, i32_10, i32_01, ne_eq, hrow_s, hrow_n, ne10, ne100, ne1000, ne7, ne4, ne14, ne9973, or_true, true_or, or_false, false_or, not_true_eq_false, not_false_eq_true, false_implies, implies_true, and_true, forall_const, true_implies, jargs_n, jargs_r, jargs_i, List.cons_append, List.nil_append, true_and, Nat.reduceEqDiff, reduceIte, ft_X7_goOn_0, ft_X7_goOn_1, ft_X7_goOn_2, ft_X7_goOn_3, ft_X7_goOn_4, ft_X7_goOn_7, ft_X7_goOn_10, ft_X7_goOn_11, ft_X7_goOn_12, ft_X7_goOn_13, ft_X7_goOn_14, ft_X7_goOn_15, ft_X7_goOn_16, ft_X7_goOn_17, ft_X7_goOn_19, ft_X7_goOn_20, ft_X7_goOn_21, ft_X7_goOn_22, ft_X7_goOn_23, ft_X7_goOn_24, ft_X7_goOn_25, ft_X7_goOn_28, ft_X7_goOn_29, ft_X7_goOn_32, ft_X7_goOn_33, ft_X7_goOn_34, ft_X7_goOn_35, ft_X7_goOn_36, ft_X7_goOn_37, ft_X7_goOn_40, ft_X7_goOn_41, ft_X7_goOn_42, ft_X7_goOn_43, ft_X7_goOn_46, ft_X7_goOn_49, ft_X7_goOn_50, ft_X7_goOn_52, ft_X7_goOn_53, ft_X7_goOn_54, ft_X7_goOn_55, ft_X7_goOn_56, ft_X7_goOn_59, ft_X7_goOn_60, ft_X7_goOn_61, ft_X7_goOn_62, ft_X7_goOn_63, ft_X7_goOn_64, ft_X7_goOn_65, ft_X7_goOn_66, ft_X7_goOn_67, ft_X7_goOn_70, ft_X7_goOn_71, ft_X7_goOn_73, ft_X7_goOn_74, ft_X7_goOn_75, ft_X7_goOn_76, ft_X7_goOn_77, ft_X7_goOn_78, ft_X7_goOn_79, ft_X7_goOn_80, ft_X7_goOn_83, ft_X7_goOn_84, ft_X7_goOn_85, ft_X7_goOn_86, ft_X7_goOn_87, ft_X7_goOn_88, ft_X7_goOn_89, ft_X7_goOn_90, ft_X7_goOn_91, ft_X7_goOn_94, ft_X7_goOn_95, ft_X7_goOn_97, ft_X7_goOn_98, ft_X7_goOn_99, ft_X7_goOn_100, ft_X7_goOn_101, ft_X7_goOn_102, ft_X7_goOn_103, ft_X7_goOn_104, ft_X7_goOn_107, ft_X7_goOn_108, ft_X7_goOn_109, ft_X7_goOn_110, ft_X7_goOn_111, ft_X7_goOn_112, ft_X7_goOn_113, ft_X7_goOn_116, ft_X7_goOn_119, fl_71_2, m'.s.mP, hc]
    rw [show j = P by omega] at e
    exact h C' mo e
  | succ k ih =>
    intro j hj C' mo e o
    have m' := m.mo mo
    have hj4 : j < 4 := by omega
    have hc : (nI P ≤ nI j) = False := eq_false (nI_ge (by omega) (by omega))
    have hI : Inv P K B (C' r) := by rw [e]; exact foldP_I (fun _ _ hj h => stStep_I h hj) iv j (by omega)
    have hk : ∀ C'', Mo r C' C'' → C'' r = stStep (C' 5) l (nI j) (C' r) → ∀ o : Option Value, Rn Y_X7_goOn none Q 2 [some (.ref 71), some (.ref r), some (.int (nI (j + 1))), o] [] (memS 94 C'' z) (nb, 0, 0) := fun C'' mo2 e2 => ih (j + 1) (by omega) C'' (mo.tr mo2) (by rw [e2, mo.row m.r 5 rfl, e]; rfl)
    rw [stStep_at hj4] at hk
    have u0 : ∀ (f : Nat → Int32) x, upd f (16 + j) x j = f j := fun f x => upd_ne (by omega)
    have u4 : ∀ (f : Nat → Int32) x, upd f (16 + j) x (4 + j) = f (4 + j) := fun f x => upd_ne (by omega)
    refine jrun_first OK_X7_goOn (C := [2]) 100 ?_
    rcases hI.pi hj4 with q | ⟨hP, ⟨c, hcK, ec⟩, st⟩
    · have hs := q.2
      rw [hs, pick_f (by decide), pick_f (fun q => absurd q.1 (by decide)), pick_f (fun q => absurd q.1 (by decide))] at hk
      simp -implicitDefEqProofs only [jr_0, jr_1, jr_2, j_iconst, j_lconst, j_iload0, j_aload0, j_istore0, j_astore0, j_iinc0, j_iload1, j_aload1, j_istore1, j_astore1, j_iinc1, j_iload2, j_aload2, j_istore2, j_astore2, j_iinc2, j_iload3, j_aload3, j_istore3, j_astore3, j_iinc3, j_iload4, j_aload4, j_istore4, j_astore4, j_iinc4, j_iload5, j_aload5, j_istore5, j_astore5, j_iinc5, j_iload6, j_aload6, j_istore6, j_astore6, j_iinc6, j_iload7, j_aload7, j_istore7, j_astore7, j_iinc7, j_iload8, j_aload8, j_istore8, j_astore8, j_iinc8, j_iadd, j_isub, j_imul, j_iand, j_ior, j_ixor, j_ishl, j_ishr, j_iushr, j_idiv, j_irem, j_ineg, j_ladd, j_lmul, j_land, j_lor, j_lcmp, j_lushr, j_lshl, j_i2l, j_l2i, j_dupI, j_dupR, j_popI, j_dup2, j_ifeq, j_iceq, j_ifne, j_icne, j_iflt, j_iclt, j_ifge, j_icge, j_ifgt, j_icgt, j_ifle, j_icle, j_goto, j_tsw, j_sw0, j_sw1, j_ireturn, j_zreturn, j_lreturn, j_return, j_getfield, j_putI, j_putJ, j_putR, j_iaload, j_baload, j_iastore, j_bastore, j_aaload, j_q, j_aastore, j_acopy, j_mmin, j_mmax, j_mabs, j_objinit, j_new, j_newI, j_newQ, j_sld, j_slen, j_callV0, j_callI0, j_callS0, j_callV1, j_callI1, j_callS1, j_callV2, j_callI2, j_callS2, j_callV3, j_callS3, j_callV4, j_callS4, j_callV5, j_callS5, j_pushS, j_pushN, j_sh0, j_sh1, j_sh2, j_sh3, j_sh4, Int32.reduceAdd, Int32.reduceMul, Int32.reduceSub, Int32.reduceLT, Int32.reduceLE, eq_self, i32_10, i32_01, ne_eq, hrow_s, hrow_n, ne10, ne100, ne1000, ne7, ne4, ne14, ne9973, or_true, true_or, or_false, false_or, not_true_eq_false, not_false_eq_true, false_implies, implies_true, and_true, forall_const, true_implies, jargs_n, jargs_r, jargs_i, List.cons_append, List.nil_append, true_and, Nat.reduceEqDiff, reduceIte, ft_X7_goOn_0, ft_X7_goOn_1, ft_X7_goOn_2, ft_X7_goOn_3, ft_X7_goOn_4, ft_X7_goOn_7, ft_X7_goOn_10, ft_X7_goOn_11, ft_X7_goOn_12, ft_X7_goOn_13, ft_X7_goOn_14, ft_X7_goOn_15, ft_X7_goOn_16, ft_X7_goOn_17, ft_X7_goOn_19, ft_X7_goOn_20, ft_X7_goOn_21, ft_X7_goOn_22, ft_X7_goOn_23, ft_X7_goOn_24, ft_X7_goOn_25, ft_X7_goOn_28, ft_X7_goOn_29, ft_X7_goOn_32, ft_X7_goOn_33, ft_X7_goOn_34, ft_X7_goOn_35, ft_X7_goOn_36, ft_X7_goOn_37, ft_X7_goOn_40, ft_X7_goOn_41, ft_X7_goOn_42, ft_X7_goOn_43, ft_X7_goOn_46, ft_X7_goOn_49, ft_X7_goOn_50, ft_X7_goOn_52, ft_X7_goOn_53, ft_X7_goOn_54, ft_X7_goOn_55, ft_X7_goOn_56, ft_X7_goOn_59, ft_X7_goOn_60, ft_X7_goOn_61, ft_X7_goOn_62, ft_X7_goOn_63, ft_X7_goOn_64, ft_X7_goOn_65, ft_X7_goOn_66, ft_X7_goOn_67, ft_X7_goOn_70, ft_X7_goOn_71, ft_X7_goOn_73, ft_X7_goOn_74, ft_X7_goOn_75, ft_X7_goOn_76, ft_X7_goOn_77, ft_X7_goOn_78, ft_X7_goOn_79, ft_X7_goOn_80, ft_X7_goOn_83, ft_X7_goOn_84, ft_X7_goOn_85, ft_X7_goOn_86, ft_X7_goOn_87, ft_X7_goOn_88, ft_X7_goOn_89, ft_X7_goOn_90, ft_X7_goOn_91, ft_X7_goOn_94, ft_X7_goOn_95, ft_X7_goOn_97, ft_X7_goOn_98, ft_X7_goOn_99, ft_X7_goOn_100, ft_X7_goOn_101, ft_X7_goOn_102, ft_X7_goOn_103, ft_X7_goOn_104, ft_X7_goOn_107, ft_X7_goOn_108, ft_X7_goOn_109, ft_X7_goOn_110, ft_X7_goOn_111, ft_X7_goOn_112, ft_X7_goOn_113, ft_X7_goOn_116, ft_X7_goOn_119, fl_71_2, m'.s.mP, hc, nI_1, rc_71, ar_4 m'.r hj4, ar_16 m'.r hj4, aw_16 m'.r hj4, jn_71 m'.r, hs, e0_1, e0_2, e0_3, Int32.add_zero, upd_same]
      rw [hrow_self]
      exact hk _ Mo.rf rfl _
    · have hc6 : c < 6 := by omega
      obtain ⟨x, hx, ex, -⟩ := hI.rest hc6
      have er : rrest (C' r) (C' r j) = nI x := by rw [ec, rrest_at hc6, ex]
      have u32 : ∀ (f : Nat → Int32) y, upd f (16 + j) y (32 + c) = f (32 + c) := fun f y => upd_ne (by omega)
      rw [er] at hk
      have x0 : (nI x = 0) = (x = 0) := nI_eqq (b := 0) (by omega) (by omega)
      have x1 : (nI x ≤ 0) = (x = 0) := i32_pos (by omega)
      rw [x0] at hk
      rcases st with hs | hs | hs | hs
      · rw [hs, pick_t rfl] at hk
        have hm := fun (nb : Nat) (z : Nat → Int64) (Q : jQ) => s_X7_isMuteAt (nb := nb) (z := z) (Q := Q) (C := hrow C' r (upd (C' r) (16 + j) (C' r (16 + j) + 1))) m'.r (m'.s.mo (Mo.rf.hr m'.r) m'.r) (by rw [hrow_n (by rcases m.r with q | q <;> rw [q] <;> decide)]; exact m'.l) hj4 hc6 (by rw [hrow_s, u0, ec])
        have hkd : kdF (C' 5) (upd (C' r) (16 + j) (C' r (16 + j) + 1)) (nI j) l = kdF (C' 5) (C' r) (nI j) l := by rw [kdF_at hj4, kdF_at hj4, u0]
        rw [hrow_s, hrow_n (by rcases m.r with q | q <;> rw [q] <;> decide), hkd] at hm
        simp -implicitDefEqProofs only [jr_0, jr_1, jr_2, j_iconst, j_lconst, j_iload0, j_aload0, j_istore0, j_astore0, j_iinc0, j_iload1, j_aload1, j_istore1, j_astore1, j_iinc1, j_iload2, j_aload2, j_istore2, j_astore2, j_iinc2, j_iload3, j_aload3, j_istore3, j_astore3, j_iinc3, j_iload4, j_aload4, j_istore4, j_astore4, j_iinc4, j_iload5, j_aload5, j_istore5, j_astore5, j_iinc5, j_iload6, j_aload6, j_istore6, j_astore6, j_iinc6, j_iload7, j_aload7, j_istore7, j_astore7, j_iinc7, j_iload8, j_aload8, j_istore8, j_astore8, j_iinc8, j_iadd, j_isub, j_imul, j_iand, j_ior, j_ixor, j_ishl, j_ishr, j_iushr, j_idiv, j_irem, j_ineg, j_ladd, j_lmul, j_land, j_lor, j_lcmp, j_lushr, j_lshl, j_i2l, j_l2i, j_dupI, j_dupR, j_popI, j_dup2, j_ifeq, j_iceq, j_ifne, j_icne, j_iflt, j_iclt, j_ifge, j_icge, j_ifgt, j_icgt, j_ifle, j_icle, j_goto, j_tsw, j_sw0, j_sw1, j_ireturn, j_zreturn, j_lreturn, j_return, j_getfield, j_putI, j_putJ, j_putR, j_iaload, j_baload, j_iastore, j_bastore, j_aaload, j_q, j_aastore, j_acopy, j_mmin, j_mmax, j_mabs, j_objinit, j_new, j_newI, j_newQ, j_sld, j_slen, j_callV0, j_callI0, j_callS0, j_callV1, j_callI1, j_callS1, j_callV2, j_callI2, j_callS2, j_callV3, j_callS3, j_callV4, j_callS4, j_callV5, j_callS5, j_pushS, j_pushN, j_sh0, j_sh1, j_sh2, j_sh3, j_sh4, Int32.reduceAdd, Int32.reduceMul, Int32.reduceSub, Int32.reduceLT, Int32.reduceLE, eq_self, i32_10, i32_01, ne_eq, hrow_s, hrow_n, ne10, ne100, ne1000, ne7, ne4, ne14, ne9973, or_true, true_or, or_false, false_or, not_true_eq_false, not_false_eq_true, false_implies, implies_true, and_true, forall_const, true_implies, jargs_n, jargs_r, jargs_i, List.cons_append, List.nil_append, true_and, Nat.reduceEqDiff, reduceIte, ft_X7_goOn_0, ft_X7_goOn_1, ft_X7_goOn_2, ft_X7_goOn_3, ft_X7_goOn_4, ft_X7_goOn_7, ft_X7_goOn_10, ft_X7_goOn_11, ft_X7_goOn_12, ft_X7_goOn_13, ft_X7_goOn_14, ft_X7_goOn_15, ft_X7_goOn_16, ft_X7_goOn_17, ft_X7_goOn_19, ft_X7_goOn_20, ft_X7_goOn_21, ft_X7_goOn_22, ft_X7_goOn_23, ft_X7_goOn_24, ft_X7_goOn_25, ft_X7_goOn_28, ft_X7_goOn_29, ft_X7_goOn_32, ft_X7_goOn_33, ft_X7_goOn_34, ft_X7_goOn_35, ft_X7_goOn_36, ft_X7_goOn_37, ft_X7_goOn_40, ft_X7_goOn_41, ft_X7_goOn_42, ft_X7_goOn_43, ft_X7_goOn_46, ft_X7_goOn_49, ft_X7_goOn_50, ft_X7_goOn_52, ft_X7_goOn_53, ft_X7_goOn_54, ft_X7_goOn_55, ft_X7_goOn_56, ft_X7_goOn_59, ft_X7_goOn_60, ft_X7_goOn_61, ft_X7_goOn_62, ft_X7_goOn_63, ft_X7_goOn_64, ft_X7_goOn_65, ft_X7_goOn_66, ft_X7_goOn_67, ft_X7_goOn_70, ft_X7_goOn_71, ft_X7_goOn_73, ft_X7_goOn_74, ft_X7_goOn_75, ft_X7_goOn_76, ft_X7_goOn_77, ft_X7_goOn_78, ft_X7_goOn_79, ft_X7_goOn_80, ft_X7_goOn_83, ft_X7_goOn_84, ft_X7_goOn_85, ft_X7_goOn_86, ft_X7_goOn_87, ft_X7_goOn_88, ft_X7_goOn_89, ft_X7_goOn_90, ft_X7_goOn_91, ft_X7_goOn_94, ft_X7_goOn_95, ft_X7_goOn_97, ft_X7_goOn_98, ft_X7_goOn_99, ft_X7_goOn_100, ft_X7_goOn_101, ft_X7_goOn_102, ft_X7_goOn_103, ft_X7_goOn_104, ft_X7_goOn_107, ft_X7_goOn_108, ft_X7_goOn_109, ft_X7_goOn_110, ft_X7_goOn_111, ft_X7_goOn_112, ft_X7_goOn_113, ft_X7_goOn_116, ft_X7_goOn_119, fl_71_2, m'.s.mP, hc, nI_1, rc_71, ar_4 m'.r hj4, aw_4 m'.r hj4, ar_16 m'.r hj4, aw_16 m'.r hj4, jn_71 m'.r, hs, e1_2, e1_3, upd_eq, hm, zb_0, hrow_hrow]
        by_cases h2 : kdF (C' 5) (C' r) (nI j) l = 2
        · by_cases h3 : C' r (16 + j) + 1 < 2
          · rw [pick_f (fun q => q.1 h3)] at hk
            simp only [h2, h3, not_true_eq_false, not_false_eq_true, true_implies, false_implies, implies_true, and_true, true_and, forall_const]
            exact hk _ (Mo.rf.hr m.r) hrow_s _
          · rw [pick_t ⟨h3, h2⟩] at hk
            simp only [h2, h3, not_true_eq_false, not_false_eq_true, true_implies, false_implies, implies_true, and_true, true_and, forall_const]
            exact hk _ (Mo.rf.hr m.r) hrow_s _
        · rw [pick_f (fun q => h2 q.2)] at hk
          simp only [h2, not_true_eq_false, not_false_eq_true, true_implies, false_implies, implies_true, and_true, true_and, forall_const]
          exact hk _ (Mo.rf.hr m.r) hrow_s _
      · rw [hs, pick_f (by decide)] at hk
        simp -implicitDefEqProofs only [jr_0, jr_1, jr_2, j_iconst, j_lconst, j_iload0, j_aload0, j_istore0, j_astore0, j_iinc0, j_iload1, j_aload1, j_istore1, j_astore1, j_iinc1, j_iload2, j_aload2, j_istore2, j_astore2, j_iinc2, j_iload3, j_aload3, j_istore3, j_astore3, j_iinc3, j_iload4, j_aload4, j_istore4, j_astore4, j_iinc4, j_iload5, j_aload5, j_istore5, j_astore5, j_iinc5, j_iload6, j_aload6, j_istore6, j_astore6, j_iinc6, j_iload7, j_aload7, j_istore7, j_astore7, j_iinc7, j_iload8, j_aload8, j_istore8, j_astore8, j_iinc8, j_iadd, j_isub, j_imul, j_iand, j_ior, j_ixor, j_ishl, j_ishr, j_iushr, j_idiv, j_irem, j_ineg, j_ladd, j_lmul, j_land, j_lor, j_lcmp, j_lushr, j_lshl, j_i2l, j_l2i, j_dupI, j_dupR, j_popI, j_dup2, j_ifeq, j_iceq, j_ifne, j_icne, j_iflt, j_iclt, j_ifge, j_icge, j_ifgt, j_icgt, j_ifle, j_icle, j_goto, j_tsw, j_sw0, j_sw1, j_ireturn, j_zreturn, j_lreturn, j_return, j_getfield, j_putI, j_putJ, j_putR, j_iaload, j_baload, j_iastore, j_bastore, j_aaload, j_q, j_aastore, j_acopy, j_mmin, j_mmax, j_mabs, j_objinit, j_new, j_newI, j_newQ, j_sld, j_slen, j_callV0, j_callI0, j_callS0, j_callV1, j_callI1, j_callS1, j_callV2, j_callI2, j_callS2, j_callV3, j_callS3, j_callV4, j_callS4, j_callV5, j_callS5, j_pushS, j_pushN, j_sh0, j_sh1, j_sh2, j_sh3, j_sh4, Int32.reduceAdd, Int32.reduceMul, Int32.reduceSub, Int32.reduceLT, Int32.reduceLE, eq_self, i32_10, i32_01, ne_eq, hrow_s, hrow_n, ne10, ne100, ne1000, ne7, ne4, ne14, ne9973, or_true, true_or, or_false, false_or, not_true_eq_false, not_false_eq_true, false_implies, implies_true, and_true, forall_const, true_implies, jargs_n, jargs_r, jargs_i, List.cons_append, List.nil_append, true_and, Nat.reduceEqDiff, reduceIte, ft_X7_goOn_0, ft_X7_goOn_1, ft_X7_goOn_2, ft_X7_goOn_3, ft_X7_goOn_4, ft_X7_goOn_7, ft_X7_goOn_10, ft_X7_goOn_11, ft_X7_goOn_12, ft_X7_goOn_13, ft_X7_goOn_14, ft_X7_goOn_15, ft_X7_goOn_16, ft_X7_goOn_17, ft_X7_goOn_19, ft_X7_goOn_20, ft_X7_goOn_21, ft_X7_goOn_22, ft_X7_goOn_23, ft_X7_goOn_24, ft_X7_goOn_25, ft_X7_goOn_28, ft_X7_goOn_29, ft_X7_goOn_32, ft_X7_goOn_33, ft_X7_goOn_34, ft_X7_goOn_35, ft_X7_goOn_36, ft_X7_goOn_37, ft_X7_goOn_40, ft_X7_goOn_41, ft_X7_goOn_42, ft_X7_goOn_43, ft_X7_goOn_46, ft_X7_goOn_49, ft_X7_goOn_50, ft_X7_goOn_52, ft_X7_goOn_53, ft_X7_goOn_54, ft_X7_goOn_55, ft_X7_goOn_56, ft_X7_goOn_59, ft_X7_goOn_60, ft_X7_goOn_61, ft_X7_goOn_62, ft_X7_goOn_63, ft_X7_goOn_64, ft_X7_goOn_65, ft_X7_goOn_66, ft_X7_goOn_67, ft_X7_goOn_70, ft_X7_goOn_71, ft_X7_goOn_73, ft_X7_goOn_74, ft_X7_goOn_75, ft_X7_goOn_76, ft_X7_goOn_77, ft_X7_goOn_78, ft_X7_goOn_79, ft_X7_goOn_80, ft_X7_goOn_83, ft_X7_goOn_84, ft_X7_goOn_85, ft_X7_goOn_86, ft_X7_goOn_87, ft_X7_goOn_88, ft_X7_goOn_89, ft_X7_goOn_90, ft_X7_goOn_91, ft_X7_goOn_94, ft_X7_goOn_95, ft_X7_goOn_97, ft_X7_goOn_98, ft_X7_goOn_99, ft_X7_goOn_100, ft_X7_goOn_101, ft_X7_goOn_102, ft_X7_goOn_103, ft_X7_goOn_104, ft_X7_goOn_107, ft_X7_goOn_108, ft_X7_goOn_109, ft_X7_goOn_110, ft_X7_goOn_111, ft_X7_goOn_112, ft_X7_goOn_113, ft_X7_goOn_116, ft_X7_goOn_119, fl_71_2, m'.s.mP, hc, nI_1, rc_71, ar_0 m'.r hj4, ar_4 m'.r hj4, aw_4 m'.r hj4, ar_16 m'.r hj4, aw_16 m'.r hj4, jn_71 m'.r, hs, e2_1, e2_3, ec, ar_32 m'.r hc6, ex, x1, Int32.add_zero, upd_same, hrow_self, hrow_hrow]
        by_cases h2 : x = 0
        · rw [pick_f (fun q => q.2 h2), pick_f (fun q => absurd q.1 (by decide))] at hk
          simp only [h2, not_true_eq_false, not_false_eq_true, true_implies, false_implies, implies_true, and_true, true_and, forall_const]
          exact hk _ Mo.rf rfl _
        · rw [pick_t ⟨rfl, h2⟩] at hk
          simp only [h2, not_true_eq_false, not_false_eq_true, true_implies, false_implies, implies_true, and_true, true_and, forall_const]
          exact hk _ (Mo.rf.hr m.r) hrow_s _
      · rw [hs, pick_f (by decide), pick_f (fun q => absurd q.1 (by decide))] at hk
        simp -implicitDefEqProofs only [jr_0, jr_1, jr_2, j_iconst, j_lconst, j_iload0, j_aload0, j_istore0, j_astore0, j_iinc0, j_iload1, j_aload1, j_istore1, j_astore1, j_iinc1, j_iload2, j_aload2, j_istore2, j_astore2, j_iinc2, j_iload3, j_aload3, j_istore3, j_astore3, j_iinc3, j_iload4, j_aload4, j_istore4, j_astore4, j_iinc4, j_iload5, j_aload5, j_istore5, j_astore5, j_iinc5, j_iload6, j_aload6, j_istore6, j_astore6, j_iinc6, j_iload7, j_aload7, j_istore7, j_astore7, j_iinc7, j_iload8, j_aload8, j_istore8, j_astore8, j_iinc8, j_iadd, j_isub, j_imul, j_iand, j_ior, j_ixor, j_ishl, j_ishr, j_iushr, j_idiv, j_irem, j_ineg, j_ladd, j_lmul, j_land, j_lor, j_lcmp, j_lushr, j_lshl, j_i2l, j_l2i, j_dupI, j_dupR, j_popI, j_dup2, j_ifeq, j_iceq, j_ifne, j_icne, j_iflt, j_iclt, j_ifge, j_icge, j_ifgt, j_icgt, j_ifle, j_icle, j_goto, j_tsw, j_sw0, j_sw1, j_ireturn, j_zreturn, j_lreturn, j_return, j_getfield, j_putI, j_putJ, j_putR, j_iaload, j_baload, j_iastore, j_bastore, j_aaload, j_q, j_aastore, j_acopy, j_mmin, j_mmax, j_mabs, j_objinit, j_new, j_newI, j_newQ, j_sld, j_slen, j_callV0, j_callI0, j_callS0, j_callV1, j_callI1, j_callS1, j_callV2, j_callI2, j_callS2, j_callV3, j_callS3, j_callV4, j_callS4, j_callV5, j_callS5, j_pushS, j_pushN, j_sh0, j_sh1, j_sh2, j_sh3, j_sh4, Int32.reduceAdd, Int32.reduceMul, Int32.reduceSub, Int32.reduceLT, Int32.reduceLE, eq_self, i32_10, i32_01, ne_eq, hrow_s, hrow_n, ne10, ne100, ne1000, ne7, ne4, ne14, ne9973, or_true, true_or, or_false, false_or, not_true_eq_false, not_false_eq_true, false_implies, implies_true, and_true, forall_const, true_implies, jargs_n, jargs_r, jargs_i, List.cons_append, List.nil_append, true_and, Nat.reduceEqDiff, reduceIte, ft_X7_goOn_0, ft_X7_goOn_1, ft_X7_goOn_2, ft_X7_goOn_3, ft_X7_goOn_4, ft_X7_goOn_7, ft_X7_goOn_10, ft_X7_goOn_11, ft_X7_goOn_12, ft_X7_goOn_13, ft_X7_goOn_14, ft_X7_goOn_15, ft_X7_goOn_16, ft_X7_goOn_17, ft_X7_goOn_19, ft_X7_goOn_20, ft_X7_goOn_21, ft_X7_goOn_22, ft_X7_goOn_23, ft_X7_goOn_24, ft_X7_goOn_25, ft_X7_goOn_28, ft_X7_goOn_29, ft_X7_goOn_32, ft_X7_goOn_33, ft_X7_goOn_34, ft_X7_goOn_35, ft_X7_goOn_36, ft_X7_goOn_37, ft_X7_goOn_40, ft_X7_goOn_41, ft_X7_goOn_42, ft_X7_goOn_43, ft_X7_goOn_46, ft_X7_goOn_49, ft_X7_goOn_50, ft_X7_goOn_52, ft_X7_goOn_53, ft_X7_goOn_54, ft_X7_goOn_55, ft_X7_goOn_56, ft_X7_goOn_59, ft_X7_goOn_60, ft_X7_goOn_61, ft_X7_goOn_62, ft_X7_goOn_63, ft_X7_goOn_64, ft_X7_goOn_65, ft_X7_goOn_66, ft_X7_goOn_67, ft_X7_goOn_70, ft_X7_goOn_71, ft_X7_goOn_73, ft_X7_goOn_74, ft_X7_goOn_75, ft_X7_goOn_76, ft_X7_goOn_77, ft_X7_goOn_78, ft_X7_goOn_79, ft_X7_goOn_80, ft_X7_goOn_83, ft_X7_goOn_84, ft_X7_goOn_85, ft_X7_goOn_86, ft_X7_goOn_87, ft_X7_goOn_88, ft_X7_goOn_89, ft_X7_goOn_90, ft_X7_goOn_91, ft_X7_goOn_94, ft_X7_goOn_95, ft_X7_goOn_97, ft_X7_goOn_98, ft_X7_goOn_99, ft_X7_goOn_100, ft_X7_goOn_101, ft_X7_goOn_102, ft_X7_goOn_103, ft_X7_goOn_104, ft_X7_goOn_107, ft_X7_goOn_108, ft_X7_goOn_109, ft_X7_goOn_110, ft_X7_goOn_111, ft_X7_goOn_112, ft_X7_goOn_113, ft_X7_goOn_116, ft_X7_goOn_119, fl_71_2, m'.s.mP, hc, nI_1, rc_71, ar_0 m'.r hj4, ar_4 m'.r hj4, aw_4 m'.r hj4, ar_16 m'.r hj4, aw_16 m'.r hj4, jn_71 m'.r, hs, e3_1, e3_2, ec, ar_32 m'.r hc6, ex, x0, Int32.add_zero, upd_same, hrow_self, hrow_hrow]
        by_cases h2 : x = 0
        · rw [pick_t ⟨rfl, h2⟩] at hk
          simp only [h2, not_true_eq_false, not_false_eq_true, true_implies, false_implies, implies_true, and_true, true_and, forall_const]
          exact hk _ (Mo.rf.hr m.r) hrow_s _
        · rw [pick_f (fun q => h2 q.2)] at hk
          simp only [h2, not_true_eq_false, not_false_eq_true, true_implies, false_implies, implies_true, and_true, true_and, forall_const]
          exact hk _ Mo.rf rfl _
      · rw [hs, pick_f (by decide), pick_f (fun q => absurd q.1 (by decide)), pick_f (fun q => absurd q.1 (by decide))] at hk
        simp -implicitDefEqProofs only [jr_0, jr_1, jr_2, j_iconst, j_lconst, j_iload0, j_aload0, j_istore0, j_astore0, j_iinc0, j_iload1, j_aload1, j_istore1, j_astore1, j_iinc1, j_iload2, j_aload2, j_istore2, j_astore2, j_iinc2, j_iload3, j_aload3, j_istore3, j_astore3, j_iinc3, j_iload4, j_aload4, j_istore4, j_astore4, j_iinc4, j_iload5, j_aload5, j_istore5, j_astore5, j_iinc5, j_iload6, j_aload6, j_istore6, j_astore6, j_iinc6, j_iload7, j_aload7, j_istore7, j_astore7, j_iinc7, j_iload8, j_aload8, j_istore8, j_astore8, j_iinc8, j_iadd, j_isub, j_imul, j_iand, j_ior, j_ixor, j_ishl, j_ishr, j_iushr, j_idiv, j_irem, j_ineg, j_ladd, j_lmul, j_land, j_lor, j_lcmp, j_lushr, j_lshl, j_i2l, j_l2i, j_dupI, j_dupR, j_popI, j_dup2, j_ifeq, j_iceq, j_ifne, j_icne, j_iflt, j_iclt, j_ifge, j_icge, j_ifgt, j_icgt, j_ifle, j_icle, j_goto, j_tsw, j_sw0, j_sw1, j_ireturn, j_zreturn, j_lreturn, j_return, j_getfield, j_putI, j_putJ, j_putR, j_iaload, j_baload, j_iastore, j_bastore, j_aaload, j_q, j_aastore, j_acopy, j_mmin, j_mmax, j_mabs, j_objinit, j_new, j_newI, j_newQ, j_sld, j_slen, j_callV0, j_callI0, j_callS0, j_callV1, j_callI1, j_callS1, j_callV2, j_callI2, j_callS2, j_callV3, j_callS3, j_callV4, j_callS4, j_callV5, j_callS5, j_pushS, j_pushN, j_sh0, j_sh1, j_sh2, j_sh3, j_sh4, Int32.reduceAdd, Int32.reduceMul, Int32.reduceSub, Int32.reduceLT, Int32.reduceLE, eq_self, i32_10, i32_01, ne_eq, hrow_s, hrow_n, ne10, ne100, ne1000, ne7, ne4, ne14, ne9973, or_true, true_or, or_false, false_or, not_true_eq_false, not_false_eq_true, false_implies, implies_true, and_true, forall_const, true_implies, jargs_n, jargs_r, jargs_i, List.cons_append, List.nil_append, true_and, Nat.reduceEqDiff, reduceIte, ft_X7_goOn_0, ft_X7_goOn_1, ft_X7_goOn_2, ft_X7_goOn_3, ft_X7_goOn_4, ft_X7_goOn_7, ft_X7_goOn_10, ft_X7_goOn_11, ft_X7_goOn_12, ft_X7_goOn_13, ft_X7_goOn_14, ft_X7_goOn_15, ft_X7_goOn_16, ft_X7_goOn_17, ft_X7_goOn_19, ft_X7_goOn_20, ft_X7_goOn_21, ft_X7_goOn_22, ft_X7_goOn_23, ft_X7_goOn_24, ft_X7_goOn_25, ft_X7_goOn_28, ft_X7_goOn_29, ft_X7_goOn_32, ft_X7_goOn_33, ft_X7_goOn_34, ft_X7_goOn_35, ft_X7_goOn_36, ft_X7_goOn_37, ft_X7_goOn_40, ft_X7_goOn_41, ft_X7_goOn_42, ft_X7_goOn_43, ft_X7_goOn_46, ft_X7_goOn_49, ft_X7_goOn_50, ft_X7_goOn_52, ft_X7_goOn_53, ft_X7_goOn_54, ft_X7_goOn_55, ft_X7_goOn_56, ft_X7_goOn_59, ft_X7_goOn_60, ft_X7_goOn_61, ft_X7_goOn_62, ft_X7_goOn_63, ft_X7_goOn_64, ft_X7_goOn_65, ft_X7_goOn_66, ft_X7_goOn_67, ft_X7_goOn_70, ft_X7_goOn_71, ft_X7_goOn_73, ft_X7_goOn_74, ft_X7_goOn_75, ft_X7_goOn_76, ft_X7_goOn_77, ft_X7_goOn_78, ft_X7_goOn_79, ft_X7_goOn_80, ft_X7_goOn_83, ft_X7_goOn_84, ft_X7_goOn_85, ft_X7_goOn_86, ft_X7_goOn_87, ft_X7_goOn_88, ft_X7_goOn_89, ft_X7_goOn_90, ft_X7_goOn_91, ft_X7_goOn_94, ft_X7_goOn_95, ft_X7_goOn_97, ft_X7_goOn_98, ft_X7_goOn_99, ft_X7_goOn_100, ft_X7_goOn_101, ft_X7_goOn_102, ft_X7_goOn_103, ft_X7_goOn_104, ft_X7_goOn_107, ft_X7_goOn_108, ft_X7_goOn_109, ft_X7_goOn_110, ft_X7_goOn_111, ft_X7_goOn_112, ft_X7_goOn_113, ft_X7_goOn_116, ft_X7_goOn_119, fl_71_2, m'.s.mP, hc, nI_1, rc_71, ar_4 m'.r hj4, ar_16 m'.r hj4, aw_16 m'.r hj4, jn_71 m'.r, hs, e4_1, e4_2, e4_3, Int32.add_zero, upd_same]
        rw [hrow_self]
        exact hk _ Mo.rf rfl _
theorem ok_X7_goOn : jMeets Y_X7_goOn S_X7_goOn := by
  intro nb vs mem Q h
  obtain ⟨C, z, r, P, K, B, l, rfl, rfl, m, iv, hQ⟩ := h
  refine Ok.run OK_X7_goOn [2] 40 [none, none] pn7 (Nat.le_of_ble_eq_true rfl) rfl ?_
  simp -implicitDefEqProofs only [jr_0, jr_1, jr_2, j_iconst, j_lconst, j_iload0, j_aload0, j_istore0, j_astore0, j_iinc0, j_iload1, j_aload1, j_istore1, j_astore1, j_iinc1, j_iload2, j_aload2, j_istore2, j_astore2, j_iinc2, j_iload3, j_aload3, j_istore3, j_astore3, j_iinc3, j_iload4, j_aload4, j_istore4, j_astore4, j_iinc4, j_iload5, j_aload5, j_istore5, j_astore5, j_iinc5, j_iload6, j_aload6, j_istore6, j_astore6, j_iinc6, j_iload7, j_aload7, j_istore7, j_astore7, j_iinc7, j_iload8, j_aload8, j_istore8, j_astore8, j_iinc8, j_iadd, j_isub, j_imul, j_iand, j_ior, j_ixor, j_ishl, j_ishr, j_iushr, j_idiv, j_irem, j_ineg, j_ladd, j_lmul, j_land, j_lor, j_lcmp, j_lushr, j_lshl, j_i2l, j_l2i, j_dupI, j_dupR, j_popI, j_dup2, j_ifeq, j_iceq, j_ifne, j_icne, j_iflt, j_iclt, j_ifge, j_icge, j_ifgt, j_icgt, j_ifle, j_icle, j_goto, j_tsw, j_sw0, j_sw1, j_ireturn, j_zreturn, j_lreturn, j_return, j_getfield, j_putI, j_putJ, j_putR, j_iaload, j_baload, j_iastore, j_bastore, j_aaload, j_q, j_aastore, j_acopy, j_mmin, j_mmax, j_mabs, j_objinit, j_new, j_newI, j_newQ, j_sld, j_slen, j_callV0, j_callI0, j_callS0, j_callV1, j_callI1, j_callS1, j_callV2, j_callI2, j_callS2, j_callV3, j_callS3, j_callV4, j_callS4, j_callV5, j_callS5, j_pushS, j_pushN, j_sh0, j_sh1, j_sh2, j_sh3, j_sh4, Int32.reduceAdd, Int32.reduceMul, Int32.reduceSub, Int32.reduceLT, Int32.reduceLE, eq_self, i32_10, i32_01, ne_eq, hrow_s, hrow_n, ne10, ne100, ne1000, ne7, ne4, ne14, ne9973, or_true, true_or, or_false, false_or, not_true_eq_false, not_false_eq_true, false_implies, implies_true, and_true, forall_const, true_implies, jargs_n, jargs_r, jargs_i, List.cons_append, List.nil_append, true_and, Nat.reduceEqDiff, reduceIte, ft_X7_goOn_0, ft_X7_goOn_1, ft_X7_goOn_2, ft_X7_goOn_3, ft_X7_goOn_4, ft_X7_goOn_7, ft_X7_goOn_10, ft_X7_goOn_11, ft_X7_goOn_12, ft_X7_goOn_13, ft_X7_goOn_14, ft_X7_goOn_15, ft_X7_goOn_16, ft_X7_goOn_17, ft_X7_goOn_19, ft_X7_goOn_20, ft_X7_goOn_21, ft_X7_goOn_22, ft_X7_goOn_23, ft_X7_goOn_24, ft_X7_goOn_25, ft_X7_goOn_28, ft_X7_goOn_29, ft_X7_goOn_32, ft_X7_goOn_33, ft_X7_goOn_34, ft_X7_goOn_35, ft_X7_goOn_36, ft_X7_goOn_37, ft_X7_goOn_40, ft_X7_goOn_41, ft_X7_goOn_42, ft_X7_goOn_43, ft_X7_goOn_46, ft_X7_goOn_49, ft_X7_goOn_50, ft_X7_goOn_52, ft_X7_goOn_53, ft_X7_goOn_54, ft_X7_goOn_55, ft_X7_goOn_56, ft_X7_goOn_59, ft_X7_goOn_60, ft_X7_goOn_61, ft_X7_goOn_62, ft_X7_goOn_63, ft_X7_goOn_64, ft_X7_goOn_65, ft_X7_goOn_66, ft_X7_goOn_67, ft_X7_goOn_70, ft_X7_goOn_71, ft_X7_goOn_73, ft_X7_goOn_74, ft_X7_goOn_75, ft_X7_goOn_76, ft_X7_goOn_77, ft_X7_goOn_78, ft_X7_goOn_79, ft_X7_goOn_80, ft_X7_goOn_83, ft_X7_goOn_84, ft_X7_goOn_85, ft_X7_goOn_86, ft_X7_goOn_87, ft_X7_goOn_88, ft_X7_goOn_89, ft_X7_goOn_90, ft_X7_goOn_91, ft_X7_goOn_94, ft_X7_goOn_95, ft_X7_goOn_97, ft_X7_goOn_98, ft_X7_goOn_99, ft_X7_goOn_100, ft_X7_goOn_101, ft_X7_goOn_102, ft_X7_goOn_103, ft_X7_goOn_104, ft_X7_goOn_107, ft_X7_goOn_108, ft_X7_goOn_109, ft_X7_goOn_110, ft_X7_goOn_111, ft_X7_goOn_112, ft_X7_goOn_113, ft_X7_goOn_116, ft_X7_goOn_119]
  exact lp_X7_goOn m iv hQ P 0 (by omega) C Mo.rf rfl _
theorem s_X7_goOn {nb r P K B : Nat} {C : Nat → Nat → Int32} {z : Nat → Int64} {l : Int32} {Q : jQ} (m : MS r C P K l) (iv : Inv P K B (C r)) (hQ : ∀ C', Mo r C C' → C' r = foldP (stStep (C 5) l) (C r) P → Q none (memS 94 C' z)) : S_X7_goOn nb [.ref 71, .ref r] (memS 94 C z) Q := ⟨C, z, r, P, K, B, l, rfl, rfl, m, iv, hQ⟩
