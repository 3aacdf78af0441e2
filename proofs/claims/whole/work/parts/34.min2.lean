/-! the model's order -/
theorem overF_at {T ρ : Nat → Int32} {p q c d a b x y : Nat} (hp : p < 4) (hq : q < 4) (hc : c < 6) (hd : d < 6) (ec : ρ p = nI c) (ed : ρ q = nI d) (ea : T (4 * c + 2) = nI a) (eb : T (4 * d + 2) = nI b) (ex : ρ (32 + c) = nI x) (ey : ρ (32 + d) = nI y) (ha : a ≤ 9) (hb : b ≤ 9) (hx : x ≤ 99) (hy : y ≤ 99) : overF T ρ (nI p) (nI q) = (b < a ∨ a = b ∧ y < x) := by
  unfold overF
  rw [rgj_1 hp, rgj_1 hq, Nat.zero_add, Nat.zero_add, ec, ed, trf_2 hc, trf_2 hd, rrest_at hc, rrest_at hd, ea, eb, ex, ey, nI_leq (by omega) (by omega)]
  have hi : (nI a - nI b).toInt = (a : Int) - b := by
    rw [Int32.toInt_sub, nI_toInt (by omega), nI_toInt (by omega), Int.bmod_eq_of_le (by omega) (by omega)]
  have h0 : (0 : Int32).toInt = 0 := rfl
  have e1 : (0 < nI a - nI b) = (b < a) := propext ⟨fun q => by
    rw [Int32.lt_iff_toInt_lt, hi, h0] at q
    omega, fun q => by
    rw [Int32.lt_iff_toInt_lt, hi, h0]
    omega⟩
  have e2 : (nI a - nI b = 0) = (a = b) := propext ⟨fun q => by
    have := congrArg Int32.toInt q
    rw [hi, h0] at this
    omega, fun q => by rw [q]; exact Int32.sub_self _⟩
  rw [e1, e2]
  exact propext ⟨fun q => by omega, fun q => by omega⟩
def F_X7_isBefore_0 : Nat → jT := fun pc => (bif Nat.blt pc 9 then (bif Nat.blt pc 4 then (bif Nat.blt pc 2 then (bif Nat.blt pc 1 then (bif Nat.beq pc 0 then J_aload 1 1 else jbad) else (bif Nat.beq pc 1 then J_iconst 0 2 else jbad)) else (bif Nat.blt pc 3 then (bif Nat.beq pc 2 then J_iload 2 3 else jbad) else (bif Nat.beq pc 3 then J_iadd 4 else jbad))) else (bif Nat.blt pc 7 then (bif Nat.blt pc 5 then (bif Nat.beq pc 4 then J_iaload 5 else jbad) else (bif Nat.beq pc 5 then J_istore 4 7 else jbad)) else (bif Nat.blt pc 8 then (bif Nat.beq pc 7 then J_aload 1 8 else jbad) else (bif Nat.beq pc 8 then J_iconst 0 9 else jbad)))) else (bif Nat.blt pc 14 then (bif Nat.blt pc 11 then (bif Nat.blt pc 10 then (bif Nat.beq pc 9 then J_iload 3 10 else jbad) else (bif Nat.beq pc 10 then J_iadd 11 else jbad)) else (bif Nat.blt pc 12 then (bif Nat.beq pc 11 then J_iaload 12 else jbad) else (bif Nat.beq pc 12 then J_istore 5 14 else jbad))) else (bif Nat.blt pc 18 then (bif Nat.blt pc 15 then (bif Nat.beq pc 14 then J_aload 0 15 else jbad) else (bif Nat.beq pc 15 then J_getfield 7 7 18 else jbad)) else (bif Nat.blt pc 20 then (bif Nat.beq pc 18 then J_iload 4 20 else jbad) else (bif Nat.beq pc 20 then J_iaload 21 else jbad)))))
theorem ftl_X7_isBefore_0 : F_X7_isBefore_0 0 = J_aload 1 1 := rfl
theorem ftl_X7_isBefore_1 : F_X7_isBefore_0 1 = J_iconst 0 2 := rfl
theorem ftl_X7_isBefore_2 : F_X7_isBefore_0 2 = J_iload 2 3 := rfl
theorem ftl_X7_isBefore_3 : F_X7_isBefore_0 3 = J_iadd 4 := rfl
theorem ftl_X7_isBefore_4 : F_X7_isBefore_0 4 = J_iaload 5 := rfl
theorem ftl_X7_isBefore_5 : F_X7_isBefore_0 5 = J_istore 4 7 := rfl
theorem ftl_X7_isBefore_7 : F_X7_isBefore_0 7 = J_aload 1 8 := rfl
theorem ftl_X7_isBefore_8 : F_X7_isBefore_0 8 = J_iconst 0 9 := rfl
theorem ftl_X7_isBefore_9 : F_X7_isBefore_0 9 = J_iload 3 10 := rfl
theorem ftl_X7_isBefore_10 : F_X7_isBefore_0 10 = J_iadd 11 := rfl
theorem ftl_X7_isBefore_11 : F_X7_isBefore_0 11 = J_iaload 12 := rfl
theorem ftl_X7_isBefore_12 : F_X7_isBefore_0 12 = J_istore 5 14 := rfl
theorem ftl_X7_isBefore_14 : F_X7_isBefore_0 14 = J_aload 0 15 := rfl
theorem ftl_X7_isBefore_15 : F_X7_isBefore_0 15 = J_getfield 7 7 18 := rfl
theorem ftl_X7_isBefore_18 : F_X7_isBefore_0 18 = J_iload 4 20 := rfl
theorem ftl_X7_isBefore_20 : F_X7_isBefore_0 20 = J_iaload 21 := rfl
theorem F_X7_isBefore_0_ok : jOK Y_X7_isBefore none (F_X7_isBefore_0) := (jOK_node (jOK_node (jOK_node (jOK_node (jOK_leaf (sn_aload_n dX7_isBefore_0 rfl rfl)) (jOK_leaf (sn_iconst dX7_isBefore_1 rfl rfl))) (jOK_node (jOK_leaf (sn_iload_n dX7_isBefore_2 rfl rfl)) (jOK_leaf (sn_iadd dX7_isBefore_3 rfl)))) (jOK_node (jOK_node (jOK_leaf (sn_iaload dX7_isBefore_4 rfl)) (jOK_leaf (sn_istore dX7_isBefore_5 rfl (by decide)))) (jOK_node (jOK_leaf (sn_aload_n dX7_isBefore_7 rfl rfl)) (jOK_leaf (sn_iconst dX7_isBefore_8 rfl rfl))))) (jOK_node (jOK_node (jOK_node (jOK_leaf (sn_iload_n dX7_isBefore_9 rfl rfl)) (jOK_leaf (sn_iadd dX7_isBefore_10 rfl))) (jOK_node (jOK_leaf (sn_iaload dX7_isBefore_11 rfl)) (jOK_leaf (sn_istore dX7_isBefore_12 rfl (by decide))))) (jOK_node (jOK_node (jOK_leaf (sn_aload_n dX7_isBefore_14 rfl rfl)) (jOK_leaf (sn_getfield dX7_isBefore_15 rfl rfl (by decide) tw_621 jin7))) (jOK_node (jOK_leaf (sn_iload dX7_isBefore_18 rfl)) (jOK_leaf (sn_iaload dX7_isBefore_20 rfl))))))
def F_X7_isBefore_21 : Nat → jT := fun pc => (bif Nat.blt pc 28 then (bif Nat.blt pc 25 then (bif Nat.blt pc 22 then (bif Nat.beq pc 21 then J_aload 0 22 else jbad) else (bif Nat.beq pc 22 then J_getfield 7 7 25 else jbad)) else (bif Nat.blt pc 27 then (bif Nat.beq pc 25 then J_iload 5 27 else jbad) else (bif Nat.beq pc 27 then J_iaload 28 else jbad))) else (bif Nat.blt pc 32 then (bif Nat.blt pc 31 then (bif Nat.beq pc 28 then J_iceq 54 31 else jbad) else (bif Nat.beq pc 31 then J_aload 0 32 else jbad)) else (bif Nat.blt pc 35 then (bif Nat.beq pc 32 then J_getfield 7 7 35 else jbad) else (bif Nat.beq pc 35 then J_iload 4 37 else jbad))))
theorem ftl_X7_isBefore_21 : F_X7_isBefore_21 21 = J_aload 0 22 := rfl
theorem ftl_X7_isBefore_22 : F_X7_isBefore_21 22 = J_getfield 7 7 25 := rfl
theorem ftl_X7_isBefore_25 : F_X7_isBefore_21 25 = J_iload 5 27 := rfl
theorem ftl_X7_isBefore_27 : F_X7_isBefore_21 27 = J_iaload 28 := rfl
theorem ftl_X7_isBefore_28 : F_X7_isBefore_21 28 = J_iceq 54 31 := rfl
theorem ftl_X7_isBefore_31 : F_X7_isBefore_21 31 = J_aload 0 32 := rfl
theorem ftl_X7_isBefore_32 : F_X7_isBefore_21 32 = J_getfield 7 7 35 := rfl
theorem ftl_X7_isBefore_35 : F_X7_isBefore_21 35 = J_iload 4 37 := rfl
theorem F_X7_isBefore_21_ok : jOK Y_X7_isBefore none (F_X7_isBefore_21) := (jOK_node (jOK_node (jOK_node (jOK_leaf (sn_aload_n dX7_isBefore_21 rfl rfl)) (jOK_leaf (sn_getfield dX7_isBefore_22 rfl rfl (by decide) tw_621 jin7))) (jOK_node (jOK_leaf (sn_iload dX7_isBefore_25 rfl)) (jOK_leaf (sn_iaload dX7_isBefore_27 rfl)))) (jOK_node (jOK_node (jOK_leaf (sn_iceq dX7_isBefore_28 rfl rfl)) (jOK_leaf (sn_aload_n dX7_isBefore_31 rfl rfl))) (jOK_node (jOK_leaf (sn_getfield dX7_isBefore_32 rfl rfl (by decide) tw_621 jin7)) (jOK_leaf (sn_iload dX7_isBefore_35 rfl)))))
def F_X7_isBefore_37 : Nat → jT := fun pc => (bif Nat.blt pc 44 then (bif Nat.blt pc 39 then (bif Nat.blt pc 38 then (bif Nat.beq pc 37 then J_iaload 38 else jbad) else (bif Nat.beq pc 38 then J_aload 0 39 else jbad)) else (bif Nat.blt pc 42 then (bif Nat.beq pc 39 then J_getfield 7 7 42 else jbad) else (bif Nat.beq pc 42 then J_iload 5 44 else jbad))) else (bif Nat.blt pc 48 then (bif Nat.blt pc 45 then (bif Nat.beq pc 44 then J_iaload 45 else jbad) else (bif Nat.beq pc 45 then J_icle 52 48 else jbad)) else (bif Nat.blt pc 49 then (bif Nat.beq pc 48 then J_iconst 1 49 else jbad) else (bif Nat.blt pc 52 then (bif Nat.beq pc 49 then J_goto 53 else jbad) else (bif Nat.beq pc 52 then J_iconst 0 53 else jbad)))))
theorem ftl_X7_isBefore_37 : F_X7_isBefore_37 37 = J_iaload 38 := rfl
theorem ftl_X7_isBefore_38 : F_X7_isBefore_37 38 = J_aload 0 39 := rfl
theorem ftl_X7_isBefore_39 : F_X7_isBefore_37 39 = J_getfield 7 7 42 := rfl
theorem ftl_X7_isBefore_42 : F_X7_isBefore_37 42 = J_iload 5 44 := rfl
theorem ftl_X7_isBefore_44 : F_X7_isBefore_37 44 = J_iaload 45 := rfl
theorem ftl_X7_isBefore_45 : F_X7_isBefore_37 45 = J_icle 52 48 := rfl
theorem ftl_X7_isBefore_48 : F_X7_isBefore_37 48 = J_iconst 1 49 := rfl
theorem ftl_X7_isBefore_49 : F_X7_isBefore_37 49 = J_goto 53 := rfl
theorem ftl_X7_isBefore_52 : F_X7_isBefore_37 52 = J_iconst 0 53 := rfl
theorem F_X7_isBefore_37_ok : jOK Y_X7_isBefore none (F_X7_isBefore_37) := (jOK_node (jOK_node (jOK_node (jOK_leaf (sn_iaload dX7_isBefore_37 rfl)) (jOK_leaf (sn_aload_n dX7_isBefore_38 rfl rfl))) (jOK_node (jOK_leaf (sn_getfield dX7_isBefore_39 rfl rfl (by decide) tw_621 jin7)) (jOK_leaf (sn_iload dX7_isBefore_42 rfl)))) (jOK_node (jOK_node (jOK_leaf (sn_iaload dX7_isBefore_44 rfl)) (jOK_leaf (sn_icle dX7_isBefore_45 rfl rfl))) (jOK_node (jOK_leaf (sn_iconst dX7_isBefore_48 rfl rfl)) (jOK_node (jOK_leaf (sn_goto dX7_isBefore_49 rfl)) (jOK_leaf (sn_iconst dX7_isBefore_52 rfl rfl))))))
def F_X7_isBefore_21_52 : Nat → jT := fun pc => bif Nat.blt pc 37 then F_X7_isBefore_21 pc else F_X7_isBefore_37 pc
theorem F_X7_isBefore_21_52_l {pc : Nat} (h : Nat.blt pc 37 = true) : F_X7_isBefore_21_52 pc = F_X7_isBefore_21 pc := by unfold F_X7_isBefore_21_52; rw [h]; rfl
theorem F_X7_isBefore_21_52_r {pc : Nat} (h : Nat.blt pc 37 = false) : F_X7_isBefore_21_52 pc = F_X7_isBefore_37 pc := by unfold F_X7_isBefore_21_52; rw [h]; rfl
theorem F_X7_isBefore_21_52_ok : jOK Y_X7_isBefore none (F_X7_isBefore_21_52) := jOK_node (F_X7_isBefore_21_ok) (F_X7_isBefore_37_ok)
def F_X7_isBefore_0_52 : Nat → jT := fun pc => bif Nat.blt pc 21 then F_X7_isBefore_0 pc else F_X7_isBefore_21_52 pc
theorem F_X7_isBefore_0_52_l {pc : Nat} (h : Nat.blt pc 21 = true) : F_X7_isBefore_0_52 pc = F_X7_isBefore_0 pc := by unfold F_X7_isBefore_0_52; rw [h]; rfl
theorem F_X7_isBefore_0_52_r {pc : Nat} (h : Nat.blt pc 21 = false) : F_X7_isBefore_0_52 pc = F_X7_isBefore_21_52 pc := by unfold F_X7_isBefore_0_52; rw [h]; rfl
theorem F_X7_isBefore_0_52_ok : jOK Y_X7_isBefore none (F_X7_isBefore_0_52) := jOK_node (F_X7_isBefore_0_ok) (F_X7_isBefore_21_52_ok)
def F_X7_isBefore_53 : Nat → jT := fun pc => (bif Nat.blt pc 59 then (bif Nat.blt pc 55 then (bif Nat.blt pc 54 then (bif Nat.beq pc 53 then J_zreturn 0 0 else jbad) else (bif Nat.beq pc 54 then J_aload 1 55 else jbad)) else (bif Nat.blt pc 57 then (bif Nat.beq pc 55 then J_iconst 32 57 else jbad) else (bif Nat.beq pc 57 then J_iload 4 59 else jbad))) else (bif Nat.blt pc 61 then (bif Nat.blt pc 60 then (bif Nat.beq pc 59 then J_iadd 60 else jbad) else (bif Nat.beq pc 60 then J_iaload 61 else jbad)) else (bif Nat.blt pc 62 then (bif Nat.beq pc 61 then J_aload 1 62 else jbad) else (bif Nat.beq pc 62 then J_iconst 32 64 else jbad))))
theorem ftl_X7_isBefore_53 : F_X7_isBefore_53 53 = J_zreturn 0 0 := rfl
theorem ftl_X7_isBefore_54 : F_X7_isBefore_53 54 = J_aload 1 55 := rfl
theorem ftl_X7_isBefore_55 : F_X7_isBefore_53 55 = J_iconst 32 57 := rfl
theorem ftl_X7_isBefore_57 : F_X7_isBefore_53 57 = J_iload 4 59 := rfl
theorem ftl_X7_isBefore_59 : F_X7_isBefore_53 59 = J_iadd 60 := rfl
theorem ftl_X7_isBefore_60 : F_X7_isBefore_53 60 = J_iaload 61 := rfl
theorem ftl_X7_isBefore_61 : F_X7_isBefore_53 61 = J_aload 1 62 := rfl
theorem ftl_X7_isBefore_62 : F_X7_isBefore_53 62 = J_iconst 32 64 := rfl
theorem F_X7_isBefore_53_ok : jOK Y_X7_isBefore none (F_X7_isBefore_53) := (jOK_node (jOK_node (jOK_node (jOK_leaf (sn_zreturn dX7_isBefore_53 rfl rfl)) (jOK_leaf (sn_aload_n dX7_isBefore_54 rfl rfl))) (jOK_node (jOK_leaf (sn_bipush dX7_isBefore_55 rfl rfl)) (jOK_leaf (sn_iload dX7_isBefore_57 rfl)))) (jOK_node (jOK_node (jOK_leaf (sn_iadd dX7_isBefore_59 rfl)) (jOK_leaf (sn_iaload dX7_isBefore_60 rfl))) (jOK_node (jOK_leaf (sn_aload_n dX7_isBefore_61 rfl rfl)) (jOK_leaf (sn_bipush dX7_isBefore_62 rfl rfl)))))
def F_X7_isBefore_64 : Nat → jT := fun pc => (bif Nat.blt pc 71 then (bif Nat.blt pc 67 then (bif Nat.blt pc 66 then (bif Nat.beq pc 64 then J_iload 5 66 else jbad) else (bif Nat.beq pc 66 then J_iadd 67 else jbad)) else (bif Nat.blt pc 68 then (bif Nat.beq pc 67 then J_iaload 68 else jbad) else (bif Nat.beq pc 68 then J_iceq 96 71 else jbad))) else (bif Nat.blt pc 74 then (bif Nat.blt pc 72 then (bif Nat.beq pc 71 then J_aload 1 72 else jbad) else (bif Nat.beq pc 72 then J_iconst 32 74 else jbad)) else (bif Nat.blt pc 76 then (bif Nat.beq pc 74 then J_iload 4 76 else jbad) else (bif Nat.blt pc 77 then (bif Nat.beq pc 76 then J_iadd 77 else jbad) else (bif Nat.beq pc 77 then J_iaload 78 else jbad)))))
theorem ftl_X7_isBefore_64 : F_X7_isBefore_64 64 = J_iload 5 66 := rfl
theorem ftl_X7_isBefore_66 : F_X7_isBefore_64 66 = J_iadd 67 := rfl
theorem ftl_X7_isBefore_67 : F_X7_isBefore_64 67 = J_iaload 68 := rfl
theorem ftl_X7_isBefore_68 : F_X7_isBefore_64 68 = J_iceq 96 71 := rfl
theorem ftl_X7_isBefore_71 : F_X7_isBefore_64 71 = J_aload 1 72 := rfl
theorem ftl_X7_isBefore_72 : F_X7_isBefore_64 72 = J_iconst 32 74 := rfl
theorem ftl_X7_isBefore_74 : F_X7_isBefore_64 74 = J_iload 4 76 := rfl
theorem ftl_X7_isBefore_76 : F_X7_isBefore_64 76 = J_iadd 77 := rfl
theorem ftl_X7_isBefore_77 : F_X7_isBefore_64 77 = J_iaload 78 := rfl
theorem F_X7_isBefore_64_ok : jOK Y_X7_isBefore none (F_X7_isBefore_64) := (jOK_node (jOK_node (jOK_node (jOK_leaf (sn_iload dX7_isBefore_64 rfl)) (jOK_leaf (sn_iadd dX7_isBefore_66 rfl))) (jOK_node (jOK_leaf (sn_iaload dX7_isBefore_67 rfl)) (jOK_leaf (sn_iceq dX7_isBefore_68 rfl rfl)))) (jOK_node (jOK_node (jOK_leaf (sn_aload_n dX7_isBefore_71 rfl rfl)) (jOK_leaf (sn_bipush dX7_isBefore_72 rfl rfl))) (jOK_node (jOK_leaf (sn_iload dX7_isBefore_74 rfl)) (jOK_node (jOK_leaf (sn_iadd dX7_isBefore_76 rfl)) (jOK_leaf (sn_iaload dX7_isBefore_77 rfl))))))
def F_X7_isBefore_53_77 : Nat → jT := fun pc => bif Nat.blt pc 64 then F_X7_isBefore_53 pc else F_X7_isBefore_64 pc
theorem F_X7_isBefore_53_77_l {pc : Nat} (h : Nat.blt pc 64 = true) : F_X7_isBefore_53_77 pc = F_X7_isBefore_53 pc := by unfold F_X7_isBefore_53_77; rw [h]; rfl
theorem F_X7_isBefore_53_77_r {pc : Nat} (h : Nat.blt pc 64 = false) : F_X7_isBefore_53_77 pc = F_X7_isBefore_64 pc := by unfold F_X7_isBefore_53_77; rw [h]; rfl
theorem F_X7_isBefore_53_77_ok : jOK Y_X7_isBefore none (F_X7_isBefore_53_77) := jOK_node (F_X7_isBefore_53_ok) (F_X7_isBefore_64_ok)
def F_X7_isBefore_78 : Nat → jT := fun pc => (bif Nat.blt pc 84 then (bif Nat.blt pc 81 then (bif Nat.blt pc 79 then (bif Nat.beq pc 78 then J_aload 1 79 else jbad) else (bif Nat.beq pc 79 then J_iconst 32 81 else jbad)) else (bif Nat.blt pc 83 then (bif Nat.beq pc 81 then J_iload 5 83 else jbad) else (bif Nat.beq pc 83 then J_iadd 84 else jbad))) else (bif Nat.blt pc 88 then (bif Nat.blt pc 85 then (bif Nat.beq pc 84 then J_iaload 85 else jbad) else (bif Nat.beq pc 85 then J_icle 92 88 else jbad)) else (bif Nat.blt pc 89 then (bif Nat.beq pc 88 then J_iconst 1 89 else jbad) else (bif Nat.beq pc 89 then J_goto 106 else jbad))))
theorem ftl_X7_isBefore_78 : F_X7_isBefore_78 78 = J_aload 1 79 := rfl
theorem ftl_X7_isBefore_79 : F_X7_isBefore_78 79 = J_iconst 32 81 := rfl
theorem ftl_X7_isBefore_81 : F_X7_isBefore_78 81 = J_iload 5 83 := rfl
theorem ftl_X7_isBefore_83 : F_X7_isBefore_78 83 = J_iadd 84 := rfl
theorem ftl_X7_isBefore_84 : F_X7_isBefore_78 84 = J_iaload 85 := rfl
theorem ftl_X7_isBefore_85 : F_X7_isBefore_78 85 = J_icle 92 88 := rfl
theorem ftl_X7_isBefore_88 : F_X7_isBefore_78 88 = J_iconst 1 89 := rfl
theorem ftl_X7_isBefore_89 : F_X7_isBefore_78 89 = J_goto 106 := rfl
theorem F_X7_isBefore_78_ok : jOK Y_X7_isBefore none (F_X7_isBefore_78) := (jOK_node (jOK_node (jOK_node (jOK_leaf (sn_aload_n dX7_isBefore_78 rfl rfl)) (jOK_leaf (sn_bipush dX7_isBefore_79 rfl rfl))) (jOK_node (jOK_leaf (sn_iload dX7_isBefore_81 rfl)) (jOK_leaf (sn_iadd dX7_isBefore_83 rfl)))) (jOK_node (jOK_node (jOK_leaf (sn_iaload dX7_isBefore_84 rfl)) (jOK_leaf (sn_icle dX7_isBefore_85 rfl rfl))) (jOK_node (jOK_leaf (sn_iconst dX7_isBefore_88 rfl rfl)) (jOK_leaf (sn_goto dX7_isBefore_89 rfl)))))
def F_X7_isBefore_92 : Nat → jT := fun pc => (bif Nat.blt pc 98 then (bif Nat.blt pc 96 then (bif Nat.blt pc 93 then (bif Nat.beq pc 92 then J_iconst 0 93 else jbad) else (bif Nat.beq pc 93 then J_goto 106 else jbad)) else (bif Nat.blt pc 97 then (bif Nat.beq pc 96 then J_iload 2 97 else jbad) else (bif Nat.beq pc 97 then J_iload 3 98 else jbad))) else (bif Nat.blt pc 102 then (bif Nat.blt pc 101 then (bif Nat.beq pc 98 then J_icge 105 101 else jbad) else (bif Nat.beq pc 101 then J_iconst 1 102 else jbad)) else (bif Nat.blt pc 105 then (bif Nat.beq pc 102 then J_goto 106 else jbad) else (bif Nat.blt pc 106 then (bif Nat.beq pc 105 then J_iconst 0 106 else jbad) else (bif Nat.beq pc 106 then J_zreturn 0 0 else jbad)))))
theorem ftl_X7_isBefore_92 : F_X7_isBefore_92 92 = J_iconst 0 93 := rfl
theorem ftl_X7_isBefore_93 : F_X7_isBefore_92 93 = J_goto 106 := rfl
theorem ftl_X7_isBefore_96 : F_X7_isBefore_92 96 = J_iload 2 97 := rfl
theorem ftl_X7_isBefore_97 : F_X7_isBefore_92 97 = J_iload 3 98 := rfl
theorem ftl_X7_isBefore_98 : F_X7_isBefore_92 98 = J_icge 105 101 := rfl
theorem ftl_X7_isBefore_101 : F_X7_isBefore_92 101 = J_iconst 1 102 := rfl
theorem ftl_X7_isBefore_102 : F_X7_isBefore_92 102 = J_goto 106 := rfl
theorem ftl_X7_isBefore_105 : F_X7_isBefore_92 105 = J_iconst 0 106 := rfl
theorem ftl_X7_isBefore_106 : F_X7_isBefore_92 106 = J_zreturn 0 0 := rfl
theorem F_X7_isBefore_92_ok : jOK Y_X7_isBefore none (F_X7_isBefore_92) := (jOK_node (jOK_node (jOK_node (jOK_leaf (sn_iconst dX7_isBefore_92 rfl rfl)) (jOK_leaf (sn_goto dX7_isBefore_93 rfl))) (jOK_node (jOK_leaf (sn_iload_n dX7_isBefore_96 rfl rfl)) (jOK_leaf (sn_iload_n dX7_isBefore_97 rfl rfl)))) (jOK_node (jOK_node (jOK_leaf (sn_icge dX7_isBefore_98 rfl rfl)) (jOK_leaf (sn_iconst dX7_isBefore_101 rfl rfl))) (jOK_node (jOK_leaf (sn_goto dX7_isBefore_102 rfl)) (jOK_node (jOK_leaf (sn_iconst dX7_isBefore_105 rfl rfl)) (jOK_leaf (sn_zreturn dX7_isBefore_106 rfl rfl))))))
def F_X7_isBefore_78_106 : Nat → jT := fun pc => bif Nat.blt pc 92 then F_X7_isBefore_78 pc else F_X7_isBefore_92 pc
theorem F_X7_isBefore_78_106_l {pc : Nat} (h : Nat.blt pc 92 = true) : F_X7_isBefore_78_106 pc = F_X7_isBefore_78 pc := by unfold F_X7_isBefore_78_106; rw [h]; rfl
theorem F_X7_isBefore_78_106_r {pc : Nat} (h : Nat.blt pc 92 = false) : F_X7_isBefore_78_106 pc = F_X7_isBefore_92 pc := by unfold F_X7_isBefore_78_106; rw [h]; rfl
theorem F_X7_isBefore_78_106_ok : jOK Y_X7_isBefore none (F_X7_isBefore_78_106) := jOK_node (F_X7_isBefore_78_ok) (F_X7_isBefore_92_ok)
def F_X7_isBefore_53_106 : Nat → jT := fun pc => bif Nat.blt pc 78 then F_X7_isBefore_53_77 pc else F_X7_isBefore_78_106 pc
theorem F_X7_isBefore_53_106_l {pc : Nat} (h : Nat.blt pc 78 = true) : F_X7_isBefore_53_106 pc = F_X7_isBefore_53_77 pc := by unfold F_X7_isBefore_53_106; rw [h]; rfl
theorem F_X7_isBefore_53_106_r {pc : Nat} (h : Nat.blt pc 78 = false) : F_X7_isBefore_53_106 pc = F_X7_isBefore_78_106 pc := by unfold F_X7_isBefore_53_106; rw [h]; rfl
theorem F_X7_isBefore_53_106_ok : jOK Y_X7_isBefore none (F_X7_isBefore_53_106) := jOK_node (F_X7_isBefore_53_77_ok) (F_X7_isBefore_78_106_ok)
def F_X7_isBefore_0_106 : Nat → jT := fun pc => bif Nat.blt pc 53 then F_X7_isBefore_0_52 pc else F_X7_isBefore_53_106 pc
theorem F_X7_isBefore_0_106_l {pc : Nat} (h : Nat.blt pc 53 = true) : F_X7_isBefore_0_106 pc = F_X7_isBefore_0_52 pc := by unfold F_X7_isBefore_0_106; rw [h]; rfl
theorem F_X7_isBefore_0_106_r {pc : Nat} (h : Nat.blt pc 53 = false) : F_X7_isBefore_0_106 pc = F_X7_isBefore_53_106 pc := by unfold F_X7_isBefore_0_106; rw [h]; rfl
theorem F_X7_isBefore_0_106_ok : jOK Y_X7_isBefore none (F_X7_isBefore_0_106) := jOK_node (F_X7_isBefore_0_52_ok) (F_X7_isBefore_53_106_ok)
def F_X7_isBefore : Nat → jT := F_X7_isBefore_0_106
theorem OK_X7_isBefore : jOK Y_X7_isBefore none (F_X7_isBefore) := F_X7_isBefore_0_106_ok
theorem ft_X7_isBefore_0 : F_X7_isBefore 0 = J_aload 1 1 := (F_X7_isBefore_0_106_l rfl).trans ((F_X7_isBefore_0_52_l rfl).trans (ftl_X7_isBefore_0))
theorem ft_X7_isBefore_1 : F_X7_isBefore 1 = J_iconst 0 2 := (F_X7_isBefore_0_106_l rfl).trans ((F_X7_isBefore_0_52_l rfl).trans (ftl_X7_isBefore_1))
theorem ft_X7_isBefore_2 : F_X7_isBefore 2 = J_iload 2 3 := (F_X7_isBefore_0_106_l rfl).trans ((F_X7_isBefore_0_52_l rfl).trans (ftl_X7_isBefore_2))
theorem ft_X7_isBefore_3 : F_X7_isBefore 3 = J_iadd 4 := (F_X7_isBefore_0_106_l rfl).trans ((F_X7_isBefore_0_52_l rfl).trans (ftl_X7_isBefore_3))
theorem ft_X7_isBefore_4 : F_X7_isBefore 4 = J_iaload 5 := (F_X7_isBefore_0_106_l rfl).trans ((F_X7_isBefore_0_52_l rfl).trans (ftl_X7_isBefore_4))
theorem ft_X7_isBefore_5 : F_X7_isBefore 5 = J_istore 4 7 := (F_X7_isBefore_0_106_l rfl).trans ((F_X7_isBefore_0_52_l rfl).trans (ftl_X7_isBefore_5))
theorem ft_X7_isBefore_7 : F_X7_isBefore 7 = J_aload 1 8 := (F_X7_isBefore_0_106_l rfl).trans ((F_X7_isBefore_0_52_l rfl).trans (ftl_X7_isBefore_7))
theorem ft_X7_isBefore_8 : F_X7_isBefore 8 = J_iconst 0 9 := (F_X7_isBefore_0_106_l rfl).trans ((F_X7_isBefore_0_52_l rfl).trans (ftl_X7_isBefore_8))
theorem ft_X7_isBefore_9 : F_X7_isBefore 9 = J_iload 3 10 := (F_X7_isBefore_0_106_l rfl).trans ((F_X7_isBefore_0_52_l rfl).trans (ftl_X7_isBefore_9))
theorem ft_X7_isBefore_10 : F_X7_isBefore 10 = J_iadd 11 := (F_X7_isBefore_0_106_l rfl).trans ((F_X7_isBefore_0_52_l rfl).trans (ftl_X7_isBefore_10))
theorem ft_X7_isBefore_11 : F_X7_isBefore 11 = J_iaload 12 := (F_X7_isBefore_0_106_l rfl).trans ((F_X7_isBefore_0_52_l rfl).trans (ftl_X7_isBefore_11))
theorem ft_X7_isBefore_12 : F_X7_isBefore 12 = J_istore 5 14 := (F_X7_isBefore_0_106_l rfl).trans ((F_X7_isBefore_0_52_l rfl).trans (ftl_X7_isBefore_12))
theorem ft_X7_isBefore_14 : F_X7_isBefore 14 = J_aload 0 15 := (F_X7_isBefore_0_106_l rfl).trans ((F_X7_isBefore_0_52_l rfl).trans (ftl_X7_isBefore_14))
theorem ft_X7_isBefore_15 : F_X7_isBefore 15 = J_getfield 7 7 18 := (F_X7_isBefore_0_106_l rfl).trans ((F_X7_isBefore_0_52_l rfl).trans (ftl_X7_isBefore_15))
theorem ft_X7_isBefore_18 : F_X7_isBefore 18 = J_iload 4 20 := (F_X7_isBefore_0_106_l rfl).trans ((F_X7_isBefore_0_52_l rfl).trans (ftl_X7_isBefore_18))
theorem ft_X7_isBefore_20 : F_X7_isBefore 20 = J_iaload 21 := (F_X7_isBefore_0_106_l rfl).trans ((F_X7_isBefore_0_52_l rfl).trans (ftl_X7_isBefore_20))
theorem ft_X7_isBefore_21 : F_X7_isBefore 21 = J_aload 0 22 := (F_X7_isBefore_0_106_l rfl).trans ((F_X7_isBefore_0_52_r rfl).trans ((F_X7_isBefore_21_52_l rfl).trans (ftl_X7_isBefore_21)))
theorem ft_X7_isBefore_22 : F_X7_isBefore 22 = J_getfield 7 7 25 := (F_X7_isBefore_0_106_l rfl).trans ((F_X7_isBefore_0_52_r rfl).trans ((F_X7_isBefore_21_52_l rfl).trans (ftl_X7_isBefore_22)))
theorem ft_X7_isBefore_25 : F_X7_isBefore 25 = J_iload 5 27 := (F_X7_isBefore_0_106_l rfl).trans ((F_X7_isBefore_0_52_r rfl).trans ((F_X7_isBefore_21_52_l rfl).trans (ftl_X7_isBefore_25)))
theorem ft_X7_isBefore_27 : F_X7_isBefore 27 = J_iaload 28 := (F_X7_isBefore_0_106_l rfl).trans ((F_X7_isBefore_0_52_r rfl).trans ((F_X7_isBefore_21_52_l rfl).trans (ftl_X7_isBefore_27)))
theorem ft_X7_isBefore_28 : F_X7_isBefore 28 = J_iceq 54 31 := (F_X7_isBefore_0_106_l rfl).trans ((F_X7_isBefore_0_52_r rfl).trans ((F_X7_isBefore_21_52_l rfl).trans (ftl_X7_isBefore_28)))
theorem ft_X7_isBefore_31 : F_X7_isBefore 31 = J_aload 0 32 := (F_X7_isBefore_0_106_l rfl).trans ((F_X7_isBefore_0_52_r rfl).trans ((F_X7_isBefore_21_52_l rfl).trans (ftl_X7_isBefore_31)))
theorem ft_X7_isBefore_32 : F_X7_isBefore 32 = J_getfield 7 7 35 := (F_X7_isBefore_0_106_l rfl).trans ((F_X7_isBefore_0_52_r rfl).trans ((F_X7_isBefore_21_52_l rfl).trans (ftl_X7_isBefore_32)))
theorem ft_X7_isBefore_35 : F_X7_isBefore 35 = J_iload 4 37 := (F_X7_isBefore_0_106_l rfl).trans ((F_X7_isBefore_0_52_r rfl).trans ((F_X7_isBefore_21_52_l rfl).trans (ftl_X7_isBefore_35)))
theorem ft_X7_isBefore_37 : F_X7_isBefore 37 = J_iaload 38 := (F_X7_isBefore_0_106_l rfl).trans ((F_X7_isBefore_0_52_r rfl).trans ((F_X7_isBefore_21_52_r rfl).trans (ftl_X7_isBefore_37)))
theorem ft_X7_isBefore_38 : F_X7_isBefore 38 = J_aload 0 39 := (F_X7_isBefore_0_106_l rfl).trans ((F_X7_isBefore_0_52_r rfl).trans ((F_X7_isBefore_21_52_r rfl).trans (ftl_X7_isBefore_38)))
theorem ft_X7_isBefore_39 : F_X7_isBefore 39 = J_getfield 7 7 42 := (F_X7_isBefore_0_106_l rfl).trans ((F_X7_isBefore_0_52_r rfl).trans ((F_X7_isBefore_21_52_r rfl).trans (ftl_X7_isBefore_39)))
theorem ft_X7_isBefore_42 : F_X7_isBefore 42 = J_iload 5 44 := (F_X7_isBefore_0_106_l rfl).trans ((F_X7_isBefore_0_52_r rfl).trans ((F_X7_isBefore_21_52_r rfl).trans (ftl_X7_isBefore_42)))
theorem ft_X7_isBefore_44 : F_X7_isBefore 44 = J_iaload 45 := (F_X7_isBefore_0_106_l rfl).trans ((F_X7_isBefore_0_52_r rfl).trans ((F_X7_isBefore_21_52_r rfl).trans (ftl_X7_isBefore_44)))
theorem ft_X7_isBefore_45 : F_X7_isBefore 45 = J_icle 52 48 := (F_X7_isBefore_0_106_l rfl).trans ((F_X7_isBefore_0_52_r rfl).trans ((F_X7_isBefore_21_52_r rfl).trans (ftl_X7_isBefore_45)))
theorem ft_X7_isBefore_48 : F_X7_isBefore 48 = J_iconst 1 49 := (F_X7_isBefore_0_106_l rfl).trans ((F_X7_isBefore_0_52_r rfl).trans ((F_X7_isBefore_21_52_r rfl).trans (ftl_X7_isBefore_48)))
theorem ft_X7_isBefore_49 : F_X7_isBefore 49 = J_goto 53 := (F_X7_isBefore_0_106_l rfl).trans ((F_X7_isBefore_0_52_r rfl).trans ((F_X7_isBefore_21_52_r rfl).trans (ftl_X7_isBefore_49)))
theorem ft_X7_isBefore_52 : F_X7_isBefore 52 = J_iconst 0 53 := (F_X7_isBefore_0_106_l rfl).trans ((F_X7_isBefore_0_52_r rfl).trans ((F_X7_isBefore_21_52_r rfl).trans (ftl_X7_isBefore_52)))
theorem ft_X7_isBefore_53 : F_X7_isBefore 53 = J_zreturn 0 0 := (F_X7_isBefore_0_106_r rfl).trans ((F_X7_isBefore_53_106_l rfl).trans ((F_X7_isBefore_53_77_l rfl).trans (ftl_X7_isBefore_53)))
theorem ft_X7_isBefore_54 : F_X7_isBefore 54 = J_aload 1 55 := (F_X7_isBefore_0_106_r rfl).trans ((F_X7_isBefore_53_106_l rfl).trans ((F_X7_isBefore_53_77_l rfl).trans (ftl_X7_isBefore_54)))
theorem ft_X7_isBefore_55 : F_X7_isBefore 55 = J_iconst 32 57 := (F_X7_isBefore_0_106_r rfl).trans ((F_X7_isBefore_53_106_l rfl).trans ((F_X7_isBefore_53_77_l rfl).trans (ftl_X7_isBefore_55)))
theorem ft_X7_isBefore_57 : F_X7_isBefore 57 = J_iload 4 59 := (F_X7_isBefore_0_106_r rfl).trans ((F_X7_isBefore_53_106_l rfl).trans ((F_X7_isBefore_53_77_l rfl).trans (ftl_X7_isBefore_57)))
theorem ft_X7_isBefore_59 : F_X7_isBefore 59 = J_iadd 60 := (F_X7_isBefore_0_106_r rfl).trans ((F_X7_isBefore_53_106_l rfl).trans ((F_X7_isBefore_53_77_l rfl).trans (ftl_X7_isBefore_59)))
theorem ft_X7_isBefore_60 : F_X7_isBefore 60 = J_iaload 61 := (F_X7_isBefore_0_106_r rfl).trans ((F_X7_isBefore_53_106_l rfl).trans ((F_X7_isBefore_53_77_l rfl).trans (ftl_X7_isBefore_60)))
theorem ft_X7_isBefore_61 : F_X7_isBefore 61 = J_aload 1 62 := (F_X7_isBefore_0_106_r rfl).trans ((F_X7_isBefore_53_106_l rfl).trans ((F_X7_isBefore_53_77_l rfl).trans (ftl_X7_isBefore_61)))
theorem ft_X7_isBefore_62 : F_X7_isBefore 62 = J_iconst 32 64 := (F_X7_isBefore_0_106_r rfl).trans ((F_X7_isBefore_53_106_l rfl).trans ((F_X7_isBefore_53_77_l rfl).trans (ftl_X7_isBefore_62)))
theorem ft_X7_isBefore_64 : F_X7_isBefore 64 = J_iload 5 66 := (F_X7_isBefore_0_106_r rfl).trans ((F_X7_isBefore_53_106_l rfl).trans ((F_X7_isBefore_53_77_r rfl).trans (ftl_X7_isBefore_64)))
theorem ft_X7_isBefore_66 : F_X7_isBefore 66 = J_iadd 67 := (F_X7_isBefore_0_106_r rfl).trans ((F_X7_isBefore_53_106_l rfl).trans ((F_X7_isBefore_53_77_r rfl).trans (ftl_X7_isBefore_66)))
theorem ft_X7_isBefore_67 : F_X7_isBefore 67 = J_iaload 68 := (F_X7_isBefore_0_106_r rfl).trans ((F_X7_isBefore_53_106_l rfl).trans ((F_X7_isBefore_53_77_r rfl).trans (ftl_X7_isBefore_67)))
theorem ft_X7_isBefore_68 : F_X7_isBefore 68 = J_iceq 96 71 := (F_X7_isBefore_0_106_r rfl).trans ((F_X7_isBefore_53_106_l rfl).trans ((F_X7_isBefore_53_77_r rfl).trans (ftl_X7_isBefore_68)))
theorem ft_X7_isBefore_71 : F_X7_isBefore 71 = J_aload 1 72 := (F_X7_isBefore_0_106_r rfl).trans ((F_X7_isBefore_53_106_l rfl).trans ((F_X7_isBefore_53_77_r rfl).trans (ftl_X7_isBefore_71)))
theorem ft_X7_isBefore_72 : F_X7_isBefore 72 = J_iconst 32 74 := (F_X7_isBefore_0_106_r rfl).trans ((F_X7_isBefore_53_106_l rfl).trans ((F_X7_isBefore_53_77_r rfl).trans (ftl_X7_isBefore_72)))
theorem ft_X7_isBefore_74 : F_X7_isBefore 74 = J_iload 4 76 := (F_X7_isBefore_0_106_r rfl).trans ((F_X7_isBefore_53_106_l rfl).trans ((F_X7_isBefore_53_77_r rfl).trans (ftl_X7_isBefore_74)))
theorem ft_X7_isBefore_76 : F_X7_isBefore 76 = J_iadd 77 := (F_X7_isBefore_0_106_r rfl).trans ((F_X7_isBefore_53_106_l rfl).trans ((F_X7_isBefore_53_77_r rfl).trans (ftl_X7_isBefore_76)))
theorem ft_X7_isBefore_77 : F_X7_isBefore 77 = J_iaload 78 := (F_X7_isBefore_0_106_r rfl).trans ((F_X7_isBefore_53_106_l rfl).trans ((F_X7_isBefore_53_77_r rfl).trans (ftl_X7_isBefore_77)))
theorem ft_X7_isBefore_78 : F_X7_isBefore 78 = J_aload 1 79 := (F_X7_isBefore_0_106_r rfl).trans ((F_X7_isBefore_53_106_r rfl).trans ((F_X7_isBefore_78_106_l rfl).trans (ftl_X7_isBefore_78)))
theorem ft_X7_isBefore_79 : F_X7_isBefore 79 = J_iconst 32 81 := (F_X7_isBefore_0_106_r rfl).trans ((F_X7_isBefore_53_106_r rfl).trans ((F_X7_isBefore_78_106_l rfl).trans (ftl_X7_isBefore_79)))
theorem ft_X7_isBefore_81 : F_X7_isBefore 81 = J_iload 5 83 := (F_X7_isBefore_0_106_r rfl).trans ((F_X7_isBefore_53_106_r rfl).trans ((F_X7_isBefore_78_106_l rfl).trans (ftl_X7_isBefore_81)))
theorem ft_X7_isBefore_83 : F_X7_isBefore 83 = J_iadd 84 := (F_X7_isBefore_0_106_r rfl).trans ((F_X7_isBefore_53_106_r rfl).trans ((F_X7_isBefore_78_106_l rfl).trans (ftl_X7_isBefore_83)))
theorem ft_X7_isBefore_84 : F_X7_isBefore 84 = J_iaload 85 := (F_X7_isBefore_0_106_r rfl).trans ((F_X7_isBefore_53_106_r rfl).trans ((F_X7_isBefore_78_106_l rfl).trans (ftl_X7_isBefore_84)))
theorem ft_X7_isBefore_85 : F_X7_isBefore 85 = J_icle 92 88 := (F_X7_isBefore_0_106_r rfl).trans ((F_X7_isBefore_53_106_r rfl).trans ((F_X7_isBefore_78_106_l rfl).trans (ftl_X7_isBefore_85)))
theorem ft_X7_isBefore_88 : F_X7_isBefore 88 = J_iconst 1 89 := (F_X7_isBefore_0_106_r rfl).trans ((F_X7_isBefore_53_106_r rfl).trans ((F_X7_isBefore_78_106_l rfl).trans (ftl_X7_isBefore_88)))
theorem ft_X7_isBefore_89 : F_X7_isBefore 89 = J_goto 106 := (F_X7_isBefore_0_106_r rfl).trans ((F_X7_isBefore_53_106_r rfl).trans ((F_X7_isBefore_78_106_l rfl).trans (ftl_X7_isBefore_89)))
theorem ft_X7_isBefore_92 : F_X7_isBefore 92 = J_iconst 0 93 := (F_X7_isBefore_0_106_r rfl).trans ((F_X7_isBefore_53_106_r rfl).trans ((F_X7_isBefore_78_106_r rfl).trans (ftl_X7_isBefore_92)))
theorem ft_X7_isBefore_93 : F_X7_isBefore 93 = J_goto 106 := (F_X7_isBefore_0_106_r rfl).trans ((F_X7_isBefore_53_106_r rfl).trans ((F_X7_isBefore_78_106_r rfl).trans (ftl_X7_isBefore_93)))
theorem ft_X7_isBefore_96 : F_X7_isBefore 96 = J_iload 2 97 := (F_X7_isBefore_0_106_r rfl).trans ((F_X7_isBefore_53_106_r rfl).trans ((F_X7_isBefore_78_106_r rfl).trans (ftl_X7_isBefore_96)))
theorem ft_X7_isBefore_97 : F_X7_isBefore 97 = J_iload 3 98 := (F_X7_isBefore_0_106_r rfl).trans ((F_X7_isBefore_53_106_r rfl).trans ((F_X7_isBefore_78_106_r rfl).trans (ftl_X7_isBefore_97)))
theorem ft_X7_isBefore_98 : F_X7_isBefore 98 = J_icge 105 101 := (F_X7_isBefore_0_106_r rfl).trans ((F_X7_isBefore_53_106_r rfl).trans ((F_X7_isBefore_78_106_r rfl).trans (ftl_X7_isBefore_98)))
theorem ft_X7_isBefore_101 : F_X7_isBefore 101 = J_iconst 1 102 := (F_X7_isBefore_0_106_r rfl).trans ((F_X7_isBefore_53_106_r rfl).trans ((F_X7_isBefore_78_106_r rfl).trans (ftl_X7_isBefore_101)))
theorem ft_X7_isBefore_102 : F_X7_isBefore 102 = J_goto 106 := (F_X7_isBefore_0_106_r rfl).trans ((F_X7_isBefore_53_106_r rfl).trans ((F_X7_isBefore_78_106_r rfl).trans (ftl_X7_isBefore_102)))
theorem ft_X7_isBefore_105 : F_X7_isBefore 105 = J_iconst 0 106 := (F_X7_isBefore_0_106_r rfl).trans ((F_X7_isBefore_53_106_r rfl).trans ((F_X7_isBefore_78_106_r rfl).trans (ftl_X7_isBefore_105)))
theorem ft_X7_isBefore_106 : F_X7_isBefore 106 = J_zreturn 0 0 := (F_X7_isBefore_0_106_r rfl).trans ((F_X7_isBefore_53_106_r rfl).trans ((F_X7_isBefore_78_106_r rfl).trans (ftl_X7_isBefore_106)))
def S_X7_isBefore : jSp := fun nb vs mem Q => jcs vs ≤ 6 ∧ jrun F_X7_isBefore [] 80 Q (fun _ _ _ _ _ => False) 0 (jargs vs ++ [none, none]) [] mem (nb, 0, 0)
theorem ok_X7_isBefore : jMeets Y_X7_isBefore S_X7_isBefore := fun _ _ _ _ h => Ok.inl OK_X7_isBefore 80 [none, none] pn7 rfl h
theorem s_X7_isBefore {nb r p q P K B : Nat} {C : Nat → Nat → Int32} {z : Nat → Int64} {l : Int32} {Q : jQ} (m : MS r C P K l) (iv : Inv P K B (C r)) (hp : p < 4) (hqp : q < p) (op : ¬ C r (4 + p) = 0) (oq : ¬ C r (4 + q) = 0) : S_X7_isBefore nb [.ref 71, .ref r, .int (nI p), .int (nI q)] (memS 94 C z) Q = Q (some (.int (zb (overF (C 5) (C r) (nI p) (nI q))))) (memS 94 C z) := by
  refine (eq_le rfl).trans ?_
  have h6 := m.h6
  have hq : q < 4 := by omega
  obtain ⟨hP, ⟨c, hc, ec⟩, -⟩ := iv.occ hp op
  obtain ⟨-, ⟨d, hd, ed⟩, -⟩ := iv.occ hq oq
  have hc6 : c < 6 := by omega
  have hd6 : d < 6 := by omega
  obtain ⟨-, -, a, -, ⟨-, -, ha, -⟩, -, -, ea, -⟩ := m.s.sv.2.2 c hc
  obtain ⟨-, -, b, -, ⟨-, -, hb, -⟩, -, -, eb, -⟩ := m.s.sv.2.2 d hd
  obtain ⟨x, hx, ex, -⟩ := iv.rest hc6
  obtain ⟨y, hy, ey, -⟩ := iv.rest hd6
  rw [overF_at hp hq hc6 hd6 ec ed ea eb ex ey ha hb hx hy]
  have v1 : vp_in (nI c) 6 := vp_in_nI hc6 (by decide)
  have v2 : vp_in (nI d) 6 := vp_in_nI hd6 (by decide)
  have f1 : (nI p < nI q) = False := eq_false fun g => by rw [nI_ltq (by omega) (by omega)] at g; omega
  have f2 : (nI q ≤ nI p) = True := eq_true (by rw [nI_leq (by omega) (by omega)]; omega)
  simp -implicitDefEqProofs only [jr_0, jr_1, jr_2, j_iconst, j_lconst, j_iload0, j_aload0, j_istore0, j_astore0, j_iinc0, j_iload1, j_aload1, j_istore1, j_astore1, j_iinc1, j_iload2, j_aload2, j_istore2, j_astore2, j_iinc2, j_iload3, j_aload3, j_istore3, j_astore3, j_iinc3, j_iload4, j_aload4, j_istore4, j_astore4, j_iinc4, j_iload5, j_aload5, j_istore5, j_astore5, j_iinc5, j_iload6, j_aload6, j_istore6, j_astore6, j_iinc6, j_iload7, j_aload7, j_istore7, j_astore7, j_iinc7, j_iload8, j_aload8, j_istore8, j_astore8, j_iinc8, j_iadd, j_isub, j_imul, j_iand, j_ior, j_ixor, j_ishl, j_ishr, j_iushr, j_idiv, j_irem, j_ineg, j_ladd, j_lmul, j_land, j_lor, j_lcmp, j_lushr, j_lshl, j_i2l, j_l2i, j_dupI, j_dupR, j_popI, j_dup2, j_ifeq, j_iceq, j_ifne, j_icne, j_iflt, j_iclt, j_ifge, j_icge, j_ifgt, j_icgt, j_ifle, j_icle, j_goto, j_tsw, j_sw0, j_sw1, j_ireturn, j_zreturn, j_lreturn, j_return, j_getfield, j_putI, j_putJ, j_putR, j_iaload, j_baload, j_iastore, j_bastore, j_aaload, j_q, j_aastore, j_acopy, j_mmin, j_mmax, j_mabs, j_objinit, j_new, j_newI, j_newQ, j_sld, j_slen, j_callV0, j_callI0, j_callS0, j_callV1, j_callI1, j_callS1, j_callV2, j_callI2, j_callS2, j_callV3, j_callS3, j_callV4, j_callS4, j_callV5, j_callS5, j_pushS, j_pushN, j_sh0, j_sh1, j_sh2, j_sh3, j_sh4, Int32.reduceAdd, Int32.reduceMul, Int32.reduceSub, Int32.reduceLT, Int32.reduceLE, eq_self, i32_10, i32_01, ne_eq, hrow_s, hrow_n, ne10, ne100, ne1000, ne7, ne4, ne14, ne9973, or_true, true_or, or_false, false_or, not_true_eq_false, not_false_eq_true, false_implies, implies_true, and_true, forall_const, true_implies, jargs_n, jargs_r, jargs_i, List.cons_append, List.nil_append, true_and, Nat.reduceEqDiff, reduceIte, ft_X7_isBefore_0, ft_X7_isBefore_1, ft_X7_isBefore_2, ft_X7_isBefore_3, ft_X7_isBefore_4, ft_X7_isBefore_5, ft_X7_isBefore_7, ft_X7_isBefore_8, ft_X7_isBefore_9, ft_X7_isBefore_10, ft_X7_isBefore_11, ft_X7_isBefore_12, ft_X7_isBefore_14, ft_X7_isBefore_15, ft_X7_isBefore_18, ft_X7_isBefore_20, ft_X7_isBefore_21, ft_X7_isBefore_22, ft_X7_isBefore_25, ft_X7_isBefore_27, ft_X7_isBefore_28, ft_X7_isBefore_31, ft_X7_isBefore_32, ft_X7_isBefore_35, ft_X7_isBefore_37, ft_X7_isBefore_38, ft_X7_isBefore_39, ft_X7_isBefore_42, ft_X7_isBefore_44, ft_X7_isBefore_45, ft_X7_isBefore_48, ft_X7_isBefore_49, ft_X7_isBefore_52, ft_X7_isBefore_53, ft_X7_isBefore_54, ft_X7_isBefore_55, ft_X7_isBefore_57, ft_X7_isBefore_59, ft_X7_isBefore_60, ft_X7_isBefore_61, ft_X7_isBefore_62, ft_X7_isBefore_64, ft_X7_isBefore_66, ft_X7_isBefore_67, ft_X7_isBefore_68, ft_X7_isBefore_71, ft_X7_isBefore_72, ft_X7_isBefore_74, ft_X7_isBefore_76, ft_X7_isBefore_77, ft_X7_isBefore_78, ft_X7_isBefore_79, ft_X7_isBefore_81, ft_X7_isBefore_83, ft_X7_isBefore_84, ft_X7_isBefore_85, ft_X7_isBefore_88, ft_X7_isBefore_89, ft_X7_isBefore_92, ft_X7_isBefore_93, ft_X7_isBefore_96, ft_X7_isBefore_97, ft_X7_isBefore_98, ft_X7_isBefore_101, ft_X7_isBefore_102, ft_X7_isBefore_105, ft_X7_isBefore_106, fl_71_7, al_76, ar_0 m.r hp, ar_0 m.r hq, ec, ed, ar_32 m.r hc6, ar_32 m.r hd6, v1, v2, nI_clamp (show c < 2 ^ 31 by omega), nI_clamp (show d < 2 ^ 31 by omega), m.s.rk hc6, m.s.rk hd6, ea, eb, ex, ey, nI_eqq (show a < 2 ^ 31 by omega) (show b < 2 ^ 31 by omega), nI_eqq (show x < 2 ^ 31 by omega) (show y < 2 ^ 31 by omega), nI_ltq (show a < 2 ^ 31 by omega) (show b < 2 ^ 31 by omega), nI_ltq (show b < 2 ^ 31 by omega) (show a < 2 ^ 31 by omega), nI_leq (show a < 2 ^ 31 by omega) (show b < 2 ^ 31 by omega), nI_leq (show b < 2 ^ 31 by omega) (show a < 2 ^ 31 by omega), nI_ltq (show x < 2 ^ 31 by omega) (show y < 2 ^ 31 by omega), nI_ltq (show y < 2 ^ 31 by omega) (show x < 2 ^ 31 by omega), nI_leq (show x < 2 ^ 31 by omega) (show y < 2 ^ 31 by omega), nI_leq (show y < 2 ^ 31 by omega) (show x < 2 ^ 31 by omega), f1, f2]
  by_cases g1 : a = b
  · by_cases g2 : x = y
    · rw [zb_f (by omega)]
      simp only [g1, g2, not_true_eq_false, not_false_eq_true, true_implies, false_implies, implies_true, and_true, true_and, forall_const]
    · by_cases g3 : x ≤ y
      · rw [zb_f (by omega)]
        simp only [g1, g2, g3, not_true_eq_false, not_false_eq_true, true_implies, false_implies, implies_true, and_true, true_and, forall_const]
      · rw [zb_t (by omega)]
        simp only [g1, g2, g3, not_true_eq_false, not_false_eq_true, true_implies, false_implies, implies_true, and_true, true_and, forall_const]
  · by_cases g3 : a ≤ b
    · rw [zb_f (by omega)]
      simp only [g1, g3, not_true_eq_false, not_false_eq_true, true_implies, false_implies, implies_true, and_true, true_and, forall_const]
    · rw [zb_t (by omega)]
      simp only [g1, g3, not_true_eq_false, not_false_eq_true, true_implies, false_implies, implies_true, and_true, true_and, forall_const]
/-- of the posts above P none is on -/
theorem ordF_P {T ρ o : Nat → Int32} {fed : Int32} {P K B : Nat} (h : Inv P K B ρ) : ∀ k, P + k ≤ 4 → ordF T ρ fed o (P + k) = ordF T ρ fed o P
  | 0, _ => rfl
  | k + 1, hk => by
    have ih := ordF_P (T := T) (o := o) (fed := fed) h k (by omega)
    show pick (onP ρ fed (nI (P + k))) _ (ordF T ρ fed o (P + k)) = _
    rw [pick_f, ih]
    intro q
    have := q.1
    rw [rgj_2 (by omega)] at this
    have := (h.occ (p := P + k) (by omega) (by rw [this]; decide)).1
    omega
theorem ordR_P {T ρ o : Nat → Int32} {fed : Int32} {P K B : Nat} (h : Inv P K B ρ) (h4 : P ≤ 4) : (ordF T ρ fed o P).2 = (ordR T ρ fed).2 ∧ Ag (ordR T ρ fed).2 (ordF T ρ fed o P).1 (ordR T ρ fed).1 := by
  have e := ordF_P (T := T) (o := o) (fed := fed) h (4 - P) (by omega)
  rw [show P + (4 - P) = 4 by omega] at e
  rw [← e]
  have := ordF_ag (T := T) (ρ := ρ) (fed := fed) (o := o) (o' := zrow) 4
  refine ⟨this.1, ?_⟩
  have h2 := this.2
  rw [this.1] at h2
  exact h2
/-- what the order's laying leaves -/
def Lo (r : Nat) (C C' : Nat → Nat → Int32) : Prop := Mo r C C' ∧ C' r = C r
def S_X7_layOrder : jSp := fun _ vs mem Q => ∃ C z r P K B, ∃ l : Int32, vs = [.ref 71, .ref r] ∧ mem = memS 94 C z ∧ MS r C P K l ∧ Inv P K B (C r) ∧ ∀ C', Lo r C C' → C' 71 25 = nI (ordR (C 5) (C r) (C 71 22)).2 → Ag (ordR (C 5) (C r) (C 71 22)).2 (C' 86) (ordR (C 5) (C r) (C 71 22)).1 → Q none (memS 94 C' z)
def F_X7_layOrder_0 : Nat → jT := fun pc => (bif Nat.blt pc 9 then (bif Nat.blt pc 5 then (bif Nat.blt pc 1 then (bif Nat.beq pc 0 then J_aload 0 1 else jbad) else (bif Nat.blt pc 2 then (bif Nat.beq pc 1 then J_iconst 0 2 else jbad) else (bif Nat.beq pc 2 then J_putI 7 25 5 else jbad))) else (bif Nat.blt pc 7 then (bif Nat.blt pc 6 then (bif Nat.beq pc 5 then J_iconst 0 6 else jbad) else (bif Nat.beq pc 6 then J_istore 2 7 else jbad)) else (bif Nat.blt pc 8 then (bif Nat.beq pc 7 then J_iload 2 8 else jbad) else (bif Nat.beq pc 8 then J_aload 0 9 else jbad)))) else (bif Nat.blt pc 17 then (bif Nat.blt pc 15 then (bif Nat.blt pc 12 then (bif Nat.beq pc 9 then J_getfield 7 2 12 else jbad) else (bif Nat.beq pc 12 then J_icge 104 15 else jbad)) else (bif Nat.blt pc 16 then (bif Nat.beq pc 15 then J_aload 1 16 else jbad) else (bif Nat.beq pc 16 then J_iconst 4 17 else jbad))) else (bif Nat.blt pc 19 then (bif Nat.blt pc 18 then (bif Nat.beq pc 17 then J_iload 2 18 else jbad) else (bif Nat.beq pc 18 then J_iadd 19 else jbad)) else (bif Nat.blt pc 20 then (bif Nat.beq pc 19 then J_iaload 20 else jbad) else (bif Nat.beq pc 20 then J_iconst 3 21 else jbad)))))
theorem ftl_X7_layOrder_0 : F_X7_layOrder_0 0 = J_aload 0 1 := rfl
theorem ftl_X7_layOrder_1 : F_X7_layOrder_0 1 = J_iconst 0 2 := rfl
theorem ftl_X7_layOrder_2 : F_X7_layOrder_0 2 = J_putI 7 25 5 := rfl
theorem ftl_X7_layOrder_5 : F_X7_layOrder_0 5 = J_iconst 0 6 := rfl
theorem ftl_X7_layOrder_6 : F_X7_layOrder_0 6 = J_istore 2 7 := rfl
theorem ftl_X7_layOrder_7 : F_X7_layOrder_0 7 = J_iload 2 8 := rfl
theorem ftl_X7_layOrder_8 : F_X7_layOrder_0 8 = J_aload 0 9 := rfl
theorem ftl_X7_layOrder_9 : F_X7_layOrder_0 9 = J_getfield 7 2 12 := rfl
theorem ftl_X7_layOrder_12 : F_X7_layOrder_0 12 = J_icge 104 15 := rfl
theorem ftl_X7_layOrder_15 : F_X7_layOrder_0 15 = J_aload 1 16 := rfl
theorem ftl_X7_layOrder_16 : F_X7_layOrder_0 16 = J_iconst 4 17 := rfl
theorem ftl_X7_layOrder_17 : F_X7_layOrder_0 17 = J_iload 2 18 := rfl
theorem ftl_X7_layOrder_18 : F_X7_layOrder_0 18 = J_iadd 19 := rfl
theorem ftl_X7_layOrder_19 : F_X7_layOrder_0 19 = J_iaload 20 := rfl
theorem ftl_X7_layOrder_20 : F_X7_layOrder_0 20 = J_iconst 3 21 := rfl
theorem F_X7_layOrder_0_ok : jOK Y_X7_layOrder none (F_X7_layOrder_0) := (jOK_node (jOK_node (jOK_node (jOK_leaf (sn_aload_n dX7_layOrder_0 rfl rfl)) (jOK_node (jOK_leaf (sn_iconst dX7_layOrder_1 rfl rfl)) (jOK_leaf (sn_putI tyX7 dX7_layOrder_2 rfl rfl (by decide) tw_639 jin7 tyX7_ok nmX7 rfl rfl)))) (jOK_node (jOK_node (jOK_leaf (sn_iconst dX7_layOrder_5 rfl rfl)) (jOK_leaf (sn_istore_n dX7_layOrder_6 rfl rfl (by decide)))) (jOK_node (jOK_leaf (sn_iload_n dX7_layOrder_7 rfl rfl)) (jOK_leaf (sn_aload_n dX7_layOrder_8 rfl rfl))))) (jOK_node (jOK_node (jOK_node (jOK_leaf (sn_getfield dX7_layOrder_9 rfl rfl (by decide) tw_616 jin7)) (jOK_leaf (sn_icge dX7_layOrder_12 rfl rfl))) (jOK_node (jOK_leaf (sn_aload_n dX7_layOrder_15 rfl rfl)) (jOK_leaf (sn_iconst dX7_layOrder_16 rfl rfl)))) (jOK_node (jOK_node (jOK_leaf (sn_iload_n dX7_layOrder_17 rfl rfl)) (jOK_leaf (sn_iadd dX7_layOrder_18 rfl))) (jOK_node (jOK_leaf (sn_iaload dX7_layOrder_19 rfl)) (jOK_leaf (sn_iconst dX7_layOrder_20 rfl rfl))))))
def F_X7_layOrder_21 : Nat → jT := fun pc => (bif Nat.blt pc 39 then (bif Nat.blt pc 29 then (bif Nat.blt pc 25 then (bif Nat.blt pc 24 then (bif Nat.beq pc 21 then J_icne 98 24 else jbad) else (bif Nat.beq pc 24 then J_aload 0 25 else jbad)) else (bif Nat.blt pc 28 then (bif Nat.beq pc 25 then J_getfield 7 22 28 else jbad) else (bif Nat.beq pc 28 then J_iload 2 29 else jbad))) else (bif Nat.blt pc 35 then (bif Nat.blt pc 32 then (bif Nat.beq pc 29 then J_callS S_X7_has 2 32 else jbad) else (bif Nat.beq pc 32 then J_ifeq 98 35 else jbad)) else (bif Nat.blt pc 36 then (bif Nat.beq pc 35 then J_aload 0 36 else jbad) else (bif Nat.beq pc 36 then J_getfield 7 25 39 else jbad)))) else (bif Nat.blt pc 45 then (bif Nat.blt pc 41 then (bif Nat.blt pc 40 then (bif Nat.beq pc 39 then J_istore 3 40 else jbad) else (bif Nat.beq pc 40 then J_iload 3 41 else jbad)) else (bif Nat.blt pc 44 then (bif Nat.beq pc 41 then J_ifle 81 44 else jbad) else (bif Nat.beq pc 44 then J_aload 0 45 else jbad))) else (bif Nat.blt pc 47 then (bif Nat.blt pc 46 then (bif Nat.beq pc 45 then J_aload 1 46 else jbad) else (bif Nat.beq pc 46 then J_iload 2 47 else jbad)) else (bif Nat.blt pc 48 then (bif Nat.beq pc 47 then J_aload 0 48 else jbad) else (bif Nat.beq pc 48 then J_getfield 7 24 51 else jbad)))))
theorem ftl_X7_layOrder_21 : F_X7_layOrder_21 21 = J_icne 98 24 := rfl
theorem ftl_X7_layOrder_24 : F_X7_layOrder_21 24 = J_aload 0 25 := rfl
theorem ftl_X7_layOrder_25 : F_X7_layOrder_21 25 = J_getfield 7 22 28 := rfl
theorem ftl_X7_layOrder_28 : F_X7_layOrder_21 28 = J_iload 2 29 := rfl
theorem ftl_X7_layOrder_29 : F_X7_layOrder_21 29 = J_callS S_X7_has 2 32 := rfl
theorem ftl_X7_layOrder_32 : F_X7_layOrder_21 32 = J_ifeq 98 35 := rfl
theorem ftl_X7_layOrder_35 : F_X7_layOrder_21 35 = J_aload 0 36 := rfl
theorem ftl_X7_layOrder_36 : F_X7_layOrder_21 36 = J_getfield 7 25 39 := rfl
theorem ftl_X7_layOrder_39 : F_X7_layOrder_21 39 = J_istore 3 40 := rfl
theorem ftl_X7_layOrder_40 : F_X7_layOrder_21 40 = J_iload 3 41 := rfl
theorem ftl_X7_layOrder_41 : F_X7_layOrder_21 41 = J_ifle 81 44 := rfl
theorem ftl_X7_layOrder_44 : F_X7_layOrder_21 44 = J_aload 0 45 := rfl
theorem ftl_X7_layOrder_45 : F_X7_layOrder_21 45 = J_aload 1 46 := rfl
theorem ftl_X7_layOrder_46 : F_X7_layOrder_21 46 = J_iload 2 47 := rfl
theorem ftl_X7_layOrder_47 : F_X7_layOrder_21 47 = J_aload 0 48 := rfl
theorem ftl_X7_layOrder_48 : F_X7_layOrder_21 48 = J_getfield 7 24 51 := rfl
theorem F_X7_layOrder_21_ok : jOK Y_X7_layOrder none (F_X7_layOrder_21) := (jOK_node (jOK_node (jOK_node (jOK_node (jOK_leaf (sn_icne dX7_layOrder_21 rfl rfl)) (jOK_leaf (sn_aload_n dX7_layOrder_24 rfl rfl))) (jOK_node (jOK_leaf (sn_getfield dX7_layOrder_25 rfl rfl (by decide) tw_636 jin7)) (jOK_leaf (sn_iload_n dX7_layOrder_28 rfl rfl)))) (jOK_node (jOK_node (jOK_leaf (sn_callS (Y' := Y_X7_has) ok_X7_has dX7_layOrder_29 rfl rfl tw_804 tw_805 tw_8 jc_X7_has ⟨by decide, by decide, rfl⟩ ⟨by decide, by decide⟩)) (jOK_leaf (sn_ifeq dX7_layOrder_32 rfl rfl))) (jOK_node (jOK_leaf (sn_aload_n dX7_layOrder_35 rfl rfl)) (jOK_leaf (sn_getfield dX7_layOrder_36 rfl rfl (by decide) tw_639 jin7))))) (jOK_node (jOK_node (jOK_node (jOK_leaf (sn_istore_n dX7_layOrder_39 rfl rfl (by decide))) (jOK_leaf (sn_iload_n dX7_layOrder_40 rfl rfl))) (jOK_node (jOK_leaf (sn_ifle dX7_layOrder_41 rfl rfl)) (jOK_leaf (sn_aload_n dX7_layOrder_44 rfl rfl)))) (jOK_node (jOK_node (jOK_leaf (sn_aload_n dX7_layOrder_45 rfl rfl)) (jOK_leaf (sn_iload_n dX7_layOrder_46 rfl rfl))) (jOK_node (jOK_leaf (sn_aload_n dX7_layOrder_47 rfl rfl)) (jOK_leaf (sn_getfield dX7_layOrder_48 rfl rfl (by decide) tw_638 jin7))))))
def F_X7_layOrder_0_48 : Nat → jT := fun pc => bif Nat.blt pc 21 then F_X7_layOrder_0 pc else F_X7_layOrder_21 pc
theorem F_X7_layOrder_0_48_l {pc : Nat} (h : Nat.blt pc 21 = true) : F_X7_layOrder_0_48 pc = F_X7_layOrder_0 pc := by unfold F_X7_layOrder_0_48; rw [h]; rfl
theorem F_X7_layOrder_0_48_r {pc : Nat} (h : Nat.blt pc 21 = false) : F_X7_layOrder_0_48 pc = F_X7_layOrder_21 pc := by unfold F_X7_layOrder_0_48; rw [h]; rfl
theorem F_X7_layOrder_0_48_ok : jOK Y_X7_layOrder none (F_X7_layOrder_0_48) := jOK_node (F_X7_layOrder_0_ok) (F_X7_layOrder_21_ok)
def F_X7_layOrder_51 : Nat → jT := fun pc => (bif Nat.blt pc 65 then (bif Nat.blt pc 55 then (bif Nat.blt pc 53 then (bif Nat.blt pc 52 then (bif Nat.beq pc 51 then J_iload 3 52 else jbad) else (bif Nat.beq pc 52 then J_iconst 1 53 else jbad)) else (bif Nat.blt pc 54 then (bif Nat.beq pc 53 then J_isub 54 else jbad) else (bif Nat.beq pc 54 then J_iaload 55 else jbad))) else (bif Nat.blt pc 61 then (bif Nat.blt pc 58 then (bif Nat.beq pc 55 then J_callV 7 S_X7_isBefore 3 58 else jbad) else (bif Nat.beq pc 58 then J_ifeq 81 61 else jbad)) else (bif Nat.blt pc 62 then (bif Nat.beq pc 61 then J_aload 0 62 else jbad) else (bif Nat.beq pc 62 then J_getfield 7 24 65 else jbad)))) else (bif Nat.blt pc 71 then (bif Nat.blt pc 67 then (bif Nat.blt pc 66 then (bif Nat.beq pc 65 then J_iload 3 66 else jbad) else (bif Nat.beq pc 66 then J_aload 0 67 else jbad)) else (bif Nat.blt pc 70 then (bif Nat.beq pc 67 then J_getfield 7 24 70 else jbad) else (bif Nat.beq pc 70 then J_iload 3 71 else jbad))) else (bif Nat.blt pc 73 then (bif Nat.blt pc 72 then (bif Nat.beq pc 71 then J_iconst 1 72 else jbad) else (bif Nat.beq pc 72 then J_isub 73 else jbad)) else (bif Nat.blt pc 74 then (bif Nat.beq pc 73 then J_iaload 74 else jbad) else (bif Nat.beq pc 74 then J_iastore 75 else jbad)))))
theorem ftl_X7_layOrder_51 : F_X7_layOrder_51 51 = J_iload 3 52 := rfl
theorem ftl_X7_layOrder_52 : F_X7_layOrder_51 52 = J_iconst 1 53 := rfl
theorem ftl_X7_layOrder_53 : F_X7_layOrder_51 53 = J_isub 54 := rfl
theorem ftl_X7_layOrder_54 : F_X7_layOrder_51 54 = J_iaload 55 := rfl
theorem ftl_X7_layOrder_55 : F_X7_layOrder_51 55 = J_callV 7 S_X7_isBefore 3 58 := rfl
theorem ftl_X7_layOrder_58 : F_X7_layOrder_51 58 = J_ifeq 81 61 := rfl
theorem ftl_X7_layOrder_61 : F_X7_layOrder_51 61 = J_aload 0 62 := rfl
theorem ftl_X7_layOrder_62 : F_X7_layOrder_51 62 = J_getfield 7 24 65 := rfl
theorem ftl_X7_layOrder_65 : F_X7_layOrder_51 65 = J_iload 3 66 := rfl
theorem ftl_X7_layOrder_66 : F_X7_layOrder_51 66 = J_aload 0 67 := rfl
theorem ftl_X7_layOrder_67 : F_X7_layOrder_51 67 = J_getfield 7 24 70 := rfl
theorem ftl_X7_layOrder_70 : F_X7_layOrder_51 70 = J_iload 3 71 := rfl
theorem ftl_X7_layOrder_71 : F_X7_layOrder_51 71 = J_iconst 1 72 := rfl
theorem ftl_X7_layOrder_72 : F_X7_layOrder_51 72 = J_isub 73 := rfl
theorem ftl_X7_layOrder_73 : F_X7_layOrder_51 73 = J_iaload 74 := rfl
theorem ftl_X7_layOrder_74 : F_X7_layOrder_51 74 = J_iastore 75 := rfl
theorem F_X7_layOrder_51_ok : jOK Y_X7_layOrder none (F_X7_layOrder_51) := (jOK_node (jOK_node (jOK_node (jOK_node (jOK_leaf (sn_iload_n dX7_layOrder_51 rfl rfl)) (jOK_leaf (sn_iconst dX7_layOrder_52 rfl rfl))) (jOK_node (jOK_leaf (sn_isub dX7_layOrder_53 rfl)) (jOK_leaf (sn_iaload dX7_layOrder_54 rfl)))) (jOK_node (jOK_node (jOK_leaf (sn_callV (Y' := Y_X7_isBefore) ok_X7_isBefore dX7_layOrder_55 rfl rfl rfl tw_807 tw_809 tp_37 tw_8 jc_X7_isBefore rfl ⟨by decide, by decide, rfl⟩ ⟨by decide, by decide⟩)) (jOK_leaf (sn_ifeq dX7_layOrder_58 rfl rfl))) (jOK_node (jOK_leaf (sn_aload_n dX7_layOrder_61 rfl rfl)) (jOK_leaf (sn_getfield dX7_layOrder_62 rfl rfl (by decide) tw_638 jin7))))) (jOK_node (jOK_node (jOK_node (jOK_leaf (sn_iload_n dX7_layOrder_65 rfl rfl)) (jOK_leaf (sn_aload_n dX7_layOrder_66 rfl rfl))) (jOK_node (jOK_leaf (sn_getfield dX7_layOrder_67 rfl rfl (by decide) tw_638 jin7)) (jOK_leaf (sn_iload_n dX7_layOrder_70 rfl rfl)))) (jOK_node (jOK_node (jOK_leaf (sn_iconst dX7_layOrder_71 rfl rfl)) (jOK_leaf (sn_isub dX7_layOrder_72 rfl))) (jOK_node (jOK_leaf (sn_iaload dX7_layOrder_73 rfl)) (jOK_leaf (sn_iastore dX7_layOrder_74 rfl))))))
def F_X7_layOrder_75 : Nat → jT := fun pc => (bif Nat.blt pc 89 then (bif Nat.blt pc 85 then (bif Nat.blt pc 81 then (bif Nat.blt pc 78 then (bif Nat.beq pc 75 then J_iinc 3 (-1) 78 else jbad) else (bif Nat.beq pc 78 then J_goto 40 else jbad)) else (bif Nat.blt pc 82 then (bif Nat.beq pc 81 then J_aload 0 82 else jbad) else (bif Nat.beq pc 82 then J_getfield 7 24 85 else jbad))) else (bif Nat.blt pc 87 then (bif Nat.blt pc 86 then (bif Nat.beq pc 85 then J_iload 3 86 else jbad) else (bif Nat.beq pc 86 then J_iload 2 87 else jbad)) else (bif Nat.blt pc 88 then (bif Nat.beq pc 87 then J_iastore 88 else jbad) else (bif Nat.beq pc 88 then J_aload 0 89 else jbad)))) else (bif Nat.blt pc 95 then (bif Nat.blt pc 93 then (bif Nat.blt pc 90 then (bif Nat.beq pc 89 then J_dup 90 else jbad) else (bif Nat.beq pc 90 then J_getfield 7 25 93 else jbad)) else (bif Nat.blt pc 94 then (bif Nat.beq pc 93 then J_iconst 1 94 else jbad) else (bif Nat.beq pc 94 then J_iadd 95 else jbad))) else (bif Nat.blt pc 101 then (bif Nat.blt pc 98 then (bif Nat.beq pc 95 then J_putI 7 25 98 else jbad) else (bif Nat.beq pc 98 then J_iinc 2 1 101 else jbad)) else (bif Nat.blt pc 104 then (bif Nat.beq pc 101 then J_goto 7 else jbad) else (bif Nat.beq pc 104 then J_return 0 0 else jbad)))))
theorem ftl_X7_layOrder_75 : F_X7_layOrder_75 75 = J_iinc 3 (-1) 78 := rfl
theorem ftl_X7_layOrder_78 : F_X7_layOrder_75 78 = J_goto 40 := rfl
theorem ftl_X7_layOrder_81 : F_X7_layOrder_75 81 = J_aload 0 82 := rfl
theorem ftl_X7_layOrder_82 : F_X7_layOrder_75 82 = J_getfield 7 24 85 := rfl
theorem ftl_X7_layOrder_85 : F_X7_layOrder_75 85 = J_iload 3 86 := rfl
theorem ftl_X7_layOrder_86 : F_X7_layOrder_75 86 = J_iload 2 87 := rfl
theorem ftl_X7_layOrder_87 : F_X7_layOrder_75 87 = J_iastore 88 := rfl
theorem ftl_X7_layOrder_88 : F_X7_layOrder_75 88 = J_aload 0 89 := rfl
theorem ftl_X7_layOrder_89 : F_X7_layOrder_75 89 = J_dup 90 := rfl
theorem ftl_X7_layOrder_90 : F_X7_layOrder_75 90 = J_getfield 7 25 93 := rfl
theorem ftl_X7_layOrder_93 : F_X7_layOrder_75 93 = J_iconst 1 94 := rfl
theorem ftl_X7_layOrder_94 : F_X7_layOrder_75 94 = J_iadd 95 := rfl
theorem ftl_X7_layOrder_95 : F_X7_layOrder_75 95 = J_putI 7 25 98 := rfl
theorem ftl_X7_layOrder_98 : F_X7_layOrder_75 98 = J_iinc 2 1 101 := rfl
theorem ftl_X7_layOrder_101 : F_X7_layOrder_75 101 = J_goto 7 := rfl
theorem ftl_X7_layOrder_104 : F_X7_layOrder_75 104 = J_return 0 0 := rfl
theorem F_X7_layOrder_75_ok : jOK Y_X7_layOrder none (F_X7_layOrder_75) := (jOK_node (jOK_node (jOK_node (jOK_node (jOK_leaf (sn_iinc dX7_layOrder_75 rfl rfl (by decide))) (jOK_leaf (sn_goto dX7_layOrder_78 rfl))) (jOK_node (jOK_leaf (sn_aload_n dX7_layOrder_81 rfl rfl)) (jOK_leaf (sn_getfield dX7_layOrder_82 rfl rfl (by decide) tw_638 jin7)))) (jOK_node (jOK_node (jOK_leaf (sn_iload_n dX7_layOrder_85 rfl rfl)) (jOK_leaf (sn_iload_n dX7_layOrder_86 rfl rfl))) (jOK_node (jOK_leaf (sn_iastore dX7_layOrder_87 rfl)) (jOK_leaf (sn_aload_n dX7_layOrder_88 rfl rfl))))) (jOK_node (jOK_node (jOK_node (jOK_leaf (sn_dup dX7_layOrder_89 rfl)) (jOK_leaf (sn_getfield dX7_layOrder_90 rfl rfl (by decide) tw_639 jin7))) (jOK_node (jOK_leaf (sn_iconst dX7_layOrder_93 rfl rfl)) (jOK_leaf (sn_iadd dX7_layOrder_94 rfl)))) (jOK_node (jOK_node (jOK_leaf (sn_putI tyX7 dX7_layOrder_95 rfl rfl (by decide) tw_639 jin7 tyX7_ok nmX7 rfl rfl)) (jOK_leaf (sn_iinc dX7_layOrder_98 rfl rfl (by decide)))) (jOK_node (jOK_leaf (sn_goto dX7_layOrder_101 rfl)) (jOK_leaf (sn_return dX7_layOrder_104 rfl rfl))))))
def F_X7_layOrder_51_104 : Nat → jT := fun pc => bif Nat.blt pc 75 then F_X7_layOrder_51 pc else F_X7_layOrder_75 pc
theorem F_X7_layOrder_51_104_l {pc : Nat} (h : Nat.blt pc 75 = true) : F_X7_layOrder_51_104 pc = F_X7_layOrder_51 pc := by unfold F_X7_layOrder_51_104; rw [h]; rfl
theorem F_X7_layOrder_51_104_r {pc : Nat} (h : Nat.blt pc 75 = false) : F_X7_layOrder_51_104 pc = F_X7_layOrder_75 pc := by unfold F_X7_layOrder_51_104; rw [h]; rfl
theorem F_X7_layOrder_51_104_ok : jOK Y_X7_layOrder none (F_X7_layOrder_51_104) := jOK_node (F_X7_layOrder_51_ok) (F_X7_layOrder_75_ok)
def F_X7_layOrder_0_104 : Nat → jT := fun pc => bif Nat.blt pc 51 then F_X7_layOrder_0_48 pc else F_X7_layOrder_51_104 pc
theorem F_X7_layOrder_0_104_l {pc : Nat} (h : Nat.blt pc 51 = true) : F_X7_layOrder_0_104 pc = F_X7_layOrder_0_48 pc := by unfold F_X7_layOrder_0_104; rw [h]; rfl
theorem F_X7_layOrder_0_104_r {pc : Nat} (h : Nat.blt pc 51 = false) : F_X7_layOrder_0_104 pc = F_X7_layOrder_51_104 pc := by unfold F_X7_layOrder_0_104; rw [h]; rfl
theorem F_X7_layOrder_0_104_ok : jOK Y_X7_layOrder none (F_X7_layOrder_0_104) := jOK_node (F_X7_layOrder_0_48_ok) (F_X7_layOrder_51_104_ok)
def F_X7_layOrder : Nat → jT := F_X7_layOrder_0_104
theorem OK_X7_layOrder : jOK Y_X7_layOrder none (F_X7_layOrder) := F_X7_layOrder_0_104_ok
theorem ft_X7_layOrder_0 : F_X7_layOrder 0 = J_aload 0 1 := (F_X7_layOrder_0_104_l rfl).trans ((F_X7_layOrder_0_48_l rfl).trans (ftl_X7_layOrder_0))
theorem ft_X7_layOrder_1 : F_X7_layOrder 1 = J_iconst 0 2 := (F_X7_layOrder_0_104_l rfl).trans ((F_X7_layOrder_0_48_l rfl).trans (ftl_X7_layOrder_1))
theorem ft_X7_layOrder_2 : F_X7_layOrder 2 = J_putI 7 25 5 := (F_X7_layOrder_0_104_l rfl).trans ((F_X7_layOrder_0_48_l rfl).trans (ftl_X7_layOrder_2))
theorem ft_X7_layOrder_5 : F_X7_layOrder 5 = J_iconst 0 6 := (F_X7_layOrder_0_104_l rfl).trans ((F_X7_layOrder_0_48_l rfl).trans (ftl_X7_layOrder_5))
theorem ft_X7_layOrder_6 : F_X7_layOrder 6 = J_istore 2 7 := (F_X7_layOrder_0_104_l rfl).trans ((F_X7_layOrder_0_48_l rfl).trans (ftl_X7_layOrder_6))
theorem ft_X7_layOrder_7 : F_X7_layOrder 7 = J_iload 2 8 := (F_X7_layOrder_0_104_l rfl).trans ((F_X7_layOrder_0_48_l rfl).trans (ftl_X7_layOrder_7))
theorem ft_X7_layOrder_8 : F_X7_layOrder 8 = J_aload 0 9 := (F_X7_layOrder_0_104_l rfl).trans ((F_X7_layOrder_0_48_l rfl).trans (ftl_X7_layOrder_8))
theorem ft_X7_layOrder_9 : F_X7_layOrder 9 = J_getfield 7 2 12 := (F_X7_layOrder_0_104_l rfl).trans ((F_X7_layOrder_0_48_l rfl).trans (ftl_X7_layOrder_9))
theorem ft_X7_layOrder_12 : F_X7_layOrder 12 = J_icge 104 15 := (F_X7_layOrder_0_104_l rfl).trans ((F_X7_layOrder_0_48_l rfl).trans (ftl_X7_layOrder_12))
theorem ft_X7_layOrder_15 : F_X7_layOrder 15 = J_aload 1 16 := (F_X7_layOrder_0_104_l rfl).trans ((F_X7_layOrder_0_48_l rfl).trans (ftl_X7_layOrder_15))
theorem ft_X7_layOrder_16 : F_X7_layOrder 16 = J_iconst 4 17 := (F_X7_layOrder_0_104_l rfl).trans ((F_X7_layOrder_0_48_l rfl).trans (ftl_X7_layOrder_16))
theorem ft_X7_layOrder_17 : F_X7_layOrder 17 = J_iload 2 18 := (F_X7_layOrder_0_104_l rfl).trans ((F_X7_layOrder_0_48_l rfl).trans (ftl_X7_layOrder_17))
theorem ft_X7_layOrder_18 : F_X7_layOrder 18 = J_iadd 19 := (F_X7_layOrder_0_104_l rfl).trans ((F_X7_layOrder_0_48_l rfl).trans (ftl_X7_layOrder_18))
theorem ft_X7_layOrder_19 : F_X7_layOrder 19 = J_iaload 20 := (F_X7_layOrder_0_104_l rfl).trans ((F_X7_layOrder_0_48_l rfl).trans (ftl_X7_layOrder_19))
theorem ft_X7_layOrder_20 : F_X7_layOrder 20 = J_iconst 3 21 := (F_X7_layOrder_0_104_l rfl).trans ((F_X7_layOrder_0_48_l rfl).trans (ftl_X7_layOrder_20))
theorem ft_X7_layOrder_21 : F_X7_layOrder 21 = J_icne 98 24 := (F_X7_layOrder_0_104_l rfl).trans ((F_X7_layOrder_0_48_r rfl).trans (ftl_X7_layOrder_21))
theorem ft_X7_layOrder_24 : F_X7_layOrder 24 = J_aload 0 25 := (F_X7_layOrder_0_104_l rfl).trans ((F_X7_layOrder_0_48_r rfl).trans (ftl_X7_layOrder_24))
theorem ft_X7_layOrder_25 : F_X7_layOrder 25 = J_getfield 7 22 28 := (F_X7_layOrder_0_104_l rfl).trans ((F_X7_layOrder_0_48_r rfl).trans (ftl_X7_layOrder_25))
theorem ft_X7_layOrder_28 : F_X7_layOrder 28 = J_iload 2 29 := (F_X7_layOrder_0_104_l rfl).trans ((F_X7_layOrder_0_48_r rfl).trans (ftl_X7_layOrder_28))
theorem ft_X7_layOrder_29 : F_X7_layOrder 29 = J_callS S_X7_has 2 32 := (F_X7_layOrder_0_104_l rfl).trans ((F_X7_layOrder_0_48_r rfl).trans (ftl_X7_layOrder_29))
theorem ft_X7_layOrder_32 : F_X7_layOrder 32 = J_ifeq 98 35 := (F_X7_layOrder_0_104_l rfl).trans ((F_X7_layOrder_0_48_r rfl).trans (ftl_X7_layOrder_32))
theorem ft_X7_layOrder_35 : F_X7_layOrder 35 = J_aload 0 36 := (F_X7_layOrder_0_104_l rfl).trans ((F_X7_layOrder_0_48_r rfl).trans (ftl_X7_layOrder_35))
theorem ft_X7_layOrder_36 : F_X7_layOrder 36 = J_getfield 7 25 39 := (F_X7_layOrder_0_104_l rfl).trans ((F_X7_layOrder_0_48_r rfl).trans (ftl_X7_layOrder_36))
theorem ft_X7_layOrder_39 : F_X7_layOrder 39 = J_istore 3 40 := (F_X7_layOrder_0_104_l rfl).trans ((F_X7_layOrder_0_48_r rfl).trans (ftl_X7_layOrder_39))
theorem ft_X7_layOrder_40 : F_X7_layOrder 40 = J_iload 3 41 := (F_X7_layOrder_0_104_l rfl).trans ((F_X7_layOrder_0_48_r rfl).trans (ftl_X7_layOrder_40))
theorem ft_X7_layOrder_41 : F_X7_layOrder 41 = J_ifle 81 44 := (F_X7_layOrder_0_104_l rfl).trans ((F_X7_layOrder_0_48_r rfl).trans (ftl_X7_layOrder_41))
theorem ft_X7_layOrder_44 : F_X7_layOrder 44 = J_aload 0 45 := (F_X7_layOrder_0_104_l rfl).trans ((F_X7_layOrder_0_48_r rfl).trans (ftl_X7_layOrder_44))
theorem ft_X7_layOrder_45 : F_X7_layOrder 45 = J_aload 1 46 := (F_X7_layOrder_0_104_l rfl).trans ((F_X7_layOrder_0_48_r rfl).trans (ftl_X7_layOrder_45))
theorem ft_X7_layOrder_46 : F_X7_layOrder 46 = J_iload 2 47 := (F_X7_layOrder_0_104_l rfl).trans ((F_X7_layOrder_0_48_r rfl).trans (ftl_X7_layOrder_46))
theorem ft_X7_layOrder_47 : F_X7_layOrder 47 = J_aload 0 48 := (F_X7_layOrder_0_104_l rfl).trans ((F_X7_layOrder_0_48_r rfl).trans (ftl_X7_layOrder_47))
theorem ft_X7_layOrder_48 : F_X7_layOrder 48 = J_getfield 7 24 51 := (F_X7_layOrder_0_104_l rfl).trans ((F_X7_layOrder_0_48_r rfl).trans (ftl_X7_layOrder_48))
theorem ft_X7_layOrder_51 : F_X7_layOrder 51 = J_iload 3 52 := (F_X7_layOrder_0_104_r rfl).trans ((F_X7_layOrder_51_104_l rfl).trans (ftl_X7_layOrder_51))
theorem ft_X7_layOrder_52 : F_X7_layOrder 52 = J_iconst 1 53 := (F_X7_layOrder_0_104_r rfl).trans ((F_X7_layOrder_51_104_l rfl).trans (ftl_X7_layOrder_52))
theorem ft_X7_layOrder_53 : F_X7_layOrder 53 = J_isub 54 := (F_X7_layOrder_0_104_r rfl).trans ((F_X7_layOrder_51_104_l rfl).trans (ftl_X7_layOrder_53))
theorem ft_X7_layOrder_54 : F_X7_layOrder 54 = J_iaload 55 := (F_X7_layOrder_0_104_r rfl).trans ((F_X7_layOrder_51_104_l rfl).trans (ftl_X7_layOrder_54))
theorem ft_X7_layOrder_55 : F_X7_layOrder 55 = J_callV 7 S_X7_isBefore 3 58 := (F_X7_layOrder_0_104_r rfl).trans ((F_X7_layOrder_51_104_l rfl).trans (ftl_X7_layOrder_55))
theorem ft_X7_layOrder_58 : F_X7_layOrder 58 = J_ifeq 81 61 := (F_X7_layOrder_0_104_r rfl).trans ((F_X7_layOrder_51_104_l rfl).trans (ftl_X7_layOrder_58))
theorem ft_X7_layOrder_61 : F_X7_layOrder 61 = J_aload 0 62 := (F_X7_layOrder_0_104_r rfl).trans ((F_X7_layOrder_51_104_l rfl).trans (ftl_X7_layOrder_61))
theorem ft_X7_layOrder_62 : F_X7_layOrder 62 = J_getfield 7 24 65 := (F_X7_layOrder_0_104_r rfl).trans ((F_X7_layOrder_51_104_l rfl).trans (ftl_X7_layOrder_62))
theorem ft_X7_layOrder_65 : F_X7_layOrder 65 = J_iload 3 66 := (F_X7_layOrder_0_104_r rfl).trans ((F_X7_layOrder_51_104_l rfl).trans (ftl_X7_layOrder_65))
theorem ft_X7_layOrder_66 : F_X7_layOrder 66 = J_aload 0 67 := (F_X7_layOrder_0_104_r rfl).trans ((F_X7_layOrder_51_104_l rfl).trans (ftl_X7_layOrder_66))
theorem ft_X7_layOrder_67 : F_X7_layOrder 67 = J_getfield 7 24 70 := (F_X7_layOrder_0_104_r rfl).trans ((F_X7_layOrder_51_104_l rfl).trans (ftl_X7_layOrder_67))
theorem ft_X7_layOrder_70 : F_X7_layOrder 70 = J_iload 3 71 := (F_X7_layOrder_0_104_r rfl).trans ((F_X7_layOrder_51_104_l rfl).trans (ftl_X7_layOrder_70))
theorem ft_X7_layOrder_71 : F_X7_layOrder 71 = J_iconst 1 72 := (F_X7_layOrder_0_104_r rfl).trans ((F_X7_layOrder_51_104_l rfl).trans (ftl_X7_layOrder_71))
theorem ft_X7_layOrder_72 : F_X7_layOrder 72 = J_isub 73 := (F_X7_layOrder_0_104_r rfl).trans ((F_X7_layOrder_51_104_l rfl).trans (ftl_X7_layOrder_72))
theorem ft_X7_layOrder_73 : F_X7_layOrder 73 = J_iaload 74 := (F_X7_layOrder_0_104_r rfl).trans ((F_X7_layOrder_51_104_l rfl).trans (ftl_X7_layOrder_73))
theorem ft_X7_layOrder_74 : F_X7_layOrder 74 = J_iastore 75 := (F_X7_layOrder_0_104_r rfl).trans ((F_X7_layOrder_51_104_l rfl).trans (ftl_X7_layOrder_74))
theorem ft_X7_layOrder_75 : F_X7_layOrder 75 = J_iinc 3 (-1) 78 := (F_X7_layOrder_0_104_r rfl).trans ((F_X7_layOrder_51_104_r rfl).trans (ftl_X7_layOrder_75))
theorem ft_X7_layOrder_78 : F_X7_layOrder 78 = J_goto 40 := (F_X7_layOrder_0_104_r rfl).trans ((F_X7_layOrder_51_104_r rfl).trans (ftl_X7_layOrder_78))
theorem ft_X7_layOrder_81 : F_X7_layOrder 81 = J_aload 0 82 := (F_X7_layOrder_0_104_r rfl).trans ((F_X7_layOrder_51_104_r rfl).trans (ftl_X7_layOrder_81))
theorem ft_X7_layOrder_82 : F_X7_layOrder 82 = J_getfield 7 24 85 := (F_X7_layOrder_0_104_r rfl).trans ((F_X7_layOrder_51_104_r rfl).trans (ftl_X7_layOrder_82))
theorem ft_X7_layOrder_85 : F_X7_layOrder 85 = J_iload 3 86 := (F_X7_layOrder_0_104_r rfl).trans ((F_X7_layOrder_51_104_r rfl).trans (ftl_X7_layOrder_85))
theorem ft_X7_layOrder_86 : F_X7_layOrder 86 = J_iload 2 87 := (F_X7_layOrder_0_104_r rfl).trans ((F_X7_layOrder_51_104_r rfl).trans (ftl_X7_layOrder_86))
theorem ft_X7_layOrder_87 : F_X7_layOrder 87 = J_iastore 88 := (F_X7_layOrder_0_104_r rfl).trans ((F_X7_layOrder_51_104_r rfl).trans (ftl_X7_layOrder_87))
theorem ft_X7_layOrder_88 : F_X7_layOrder 88 = J_aload 0 89 := (F_X7_layOrder_0_104_r rfl).trans ((F_X7_layOrder_51_104_r rfl).trans (ftl_X7_layOrder_88))
theorem ft_X7_layOrder_89 : F_X7_layOrder 89 = J_dup 90 := (F_X7_layOrder_0_104_r rfl).trans ((F_X7_layOrder_51_104_r rfl).trans (ftl_X7_layOrder_89))
theorem ft_X7_layOrder_90 : F_X7_layOrder 90 = J_getfield 7 25 93 := (F_X7_layOrder_0_104_r rfl).trans ((F_X7_layOrder_51_104_r rfl).trans (ftl_X7_layOrder_90))
theorem ft_X7_layOrder_93 : F_X7_layOrder 93 = J_iconst 1 94 := (F_X7_layOrder_0_104_r rfl).trans ((F_X7_layOrder_51_104_r rfl).trans (ftl_X7_layOrder_93))
theorem ft_X7_layOrder_94 : F_X7_layOrder 94 = J_iadd 95 := (F_X7_layOrder_0_104_r rfl).trans ((F_X7_layOrder_51_104_r rfl).trans (ftl_X7_layOrder_94))
theorem ft_X7_layOrder_95 : F_X7_layOrder 95 = J_putI 7 25 98 := (F_X7_layOrder_0_104_r rfl).trans ((F_X7_layOrder_51_104_r rfl).trans (ftl_X7_layOrder_95))
theorem ft_X7_layOrder_98 : F_X7_layOrder 98 = J_iinc 2 1 101 := (F_X7_layOrder_0_104_r rfl).trans ((F_X7_layOrder_51_104_r rfl).trans (ftl_X7_layOrder_98))
theorem ft_X7_layOrder_101 : F_X7_layOrder 101 = J_goto 7 := (F_X7_layOrder_0_104_r rfl).trans ((F_X7_layOrder_51_104_r rfl).trans (ftl_X7_layOrder_101))
theorem ft_X7_layOrder_104 : F_X7_layOrder 104 = J_return 0 0 := (F_X7_layOrder_0_104_r rfl).trans ((F_X7_layOrder_51_104_r rfl).trans (ftl_X7_layOrder_104))
theorem lp_X7_layOrder_in {Q : jQ} {C : Nat → Nat → Int32} {z : Nat → Int64} {nb r P K B j : Nat} {l : Int32} (m : MS r C P K l) (iv : Inv P K B (C r)) (hj : j < 4) (oj : C r (4 + j) = 3) : ∀ a, ∀ C' : Nat → Nat → Int32, a ≤ j → Lo r C C' →
    (∀ i, i < a → ∃ q, q < j ∧ C' 86 i = nI q ∧ C r (4 + q) = 3) →
    (∀ C'' : Nat → Nat → Int32, Lo r C C'' → C'' 86 = insF (C 5) (C r) (nI j) a (C' 86) → C'' 71 25 = C' 71 25 + 1 → ∀ x : Option Value, Rn Y_X7_layOrder none Q 7 [some (.ref 71), some (.ref r), some (.int (nI (j + 1))), x] [] (memS 94 C'' z) (nb, 0, 0)) →
    Rn Y_X7_layOrder none Q 40 [some (.ref 71), some (.ref r), some (.int (nI j)), some (.int (nI a))] [] (memS 94 C' z) (nb, 0, 0) := by
  have hr71 : r ≠ 71 := by rcases m.r with q | q <;> rw [q] <;> decide
  have hr86 : r ≠ 86 := by rcases m.r with q | q <;> rw [q] <;> decide
  have last : ∀ (a : Nat) (C' : Nat → Nat → Int32) (o : Nat → Int32), a < 4 → Lo r C C' → Lo r C (hrow (hrow C' 86 o) 71 (upd (C' 71) 25 (C' 71 25 + 1))) := fun a C' o ha lo => by
    have h1 : Mo r C (hrow C' 86 o) := lo.1.h86
    have h2 := h1.h71 (x := C' 71 25 + 1)
    rw [hrow_n (show 71 ≠ 86 by decide)] at h2
    exact ⟨h2, by rw [hrow_n hr71, hrow_n hr86]; exact lo.2⟩
  intro a
  induction a with
  | zero =>
    intro C' ha lo hen hx
    refine jrun_first OK_X7_layOrder (C := [7, 40]) 60 ?_
    simp -implicitDefEqProofs only [jr_0, jr_1, jr_2, j_iconst, j_lconst, j_iload0, j_aload0, j_istore0, j_astore0, j_iinc0, j_iload1, j_aload1, j_istore1, j_astore1, j_iinc1, j_iload2, j_aload2, j_istore2, j_astore2, j_iinc2, j_iload3, j_aload3, j_istore3, j_astore3, j_iinc3, j_iload4, j_aload4, j_istore4, j_astore4, j_iinc4, j_iload5, j_aload5, j_istore5, j_astore5, j_iinc5, j_iload6, j_aload6, j_istore6, j_astore6, j_iinc6, j_iload7, j_aload7, j_istore7, j_astore7, j_iinc7, j_iload8, j_aload8, j_istore8, j_astore8, j_iinc8, j_iadd, j_isub, j_imul, j_iand, j_ior, j_ixor, j_ishl, j_ishr, j_iushr, j_idiv, j_irem, j_ineg, j_ladd, j_lmul, j_land, j_lor, j_lcmp, j_lushr, j_lshl, j_i2l, j_l2i, j_dupI, j_dupR, j_popI, j_dup2, j_ifeq, j_iceq, j_ifne, j_icne, j_iflt, j_iclt, j_ifge, j_icge, j_ifgt, j_icgt, j_ifle, j_icle, j_goto, j_tsw, j_sw0, j_sw1, j_ireturn, j_zreturn, j_lreturn, j_return, j_getfield, j_putI, j_putJ, j_putR, j_iaload, j_baload, j_iastore, j_bastore, j_aaload, j_q, j_aastore, j_acopy, j_mmin, j_mmax, j_mabs, j_objinit, j_new, j_newI, j_newQ, j_sld, j_slen, j_callV0, j_callI0, j_callS0, j_callV1, j_callI1, j_callS1, j_callV2, j_callI2, j_callS2, j_callV3, j_callS3, j_callV4, j_callS4, j_callV5, j_callS5, j_pushS, j_pushN, j_sh0, j_sh1, j_sh2, j_sh3, j_sh4, Int32.reduceAdd, Int32.reduceMul, Int32.reduceSub, Int32.reduceLT, Int32.reduceLE, eq_self, i32_10, i32_01, ne_eq, hrow_s, hrow_n, ne10, ne100, ne1000, ne7, ne4, ne14, ne9973, or_true, true_or, or_false, false_or, not_true_eq_false, not_false_eq_true, false_implies, implies_true, and_true, forall_const, true_implies, jargs_n, jargs_r, jargs_i, List.cons_append, List.nil_append, true_and, Nat.reduceEqDiff, reduceIte, ft_X7_layOrder_0, ft_X7_layOrder_1, ft_X7_layOrder_2, ft_X7_layOrder_5, ft_X7_layOrder_6, ft_X7_layOrder_7, ft_X7_layOrder_8, ft_X7_layOrder_9, ft_X7_layOrder_12, ft_X7_layOrder_15, ft_X7_layOrder_16, ft_X7_layOrder_17, ft_X7_layOrder_18, ft_X7_layOrder_19, ft_X7_layOrder_20, ft_X7_layOrder_21, ft_X7_layOrder_24, ft_X7_layOrder_25, ft_X7_layOrder_28, ft_X7_layOrder_29, ft_X7_layOrder_32, ft_X7_layOrder_35, ft_X7_layOrder_36, ft_X7_layOrder_39, ft_X7_layOrder_40, ft_X7_layOrder_41, ft_X7_layOrder_44, ft_X7_layOrder_45, ft_X7_layOrder_46, ft_X7_layOrder_47, ft_X7_layOrder_48, ft_X7_layOrder_51, ft_X7_layOrder_52, ft_X7_layOrder_53, ft_X7_layOrder_54, ft_X7_layOrder_55, ft_X7_layOrder_58, ft_X7_layOrder_61, ft_X7_layOrder_62, ft_X7_layOrder_65, ft_X7_layOrder_66, ft_X7_layOrder_67, ft_X7_layOrder_70, ft_X7_layOrder_71, ft_X7_layOrder_72, ft_X7_layOrder_73, ft_X7_layOrder_74, ft_X7_layOrder_75, ft_X7_layOrder_78, ft_X7_layOrder_81, ft_X7_layOrder_82, ft_X7_layOrder_85, ft_X7_layOrder_86, ft_X7_layOrder_87, ft_X7_layOrder_88, ft_X7_layOrder_89, ft_X7_layOrder_90, ft_X7_layOrder_93, ft_X7_layOrder_94, ft_X7_layOrder_95, ft_X7_layOrder_98, ft_X7_layOrder_101, ft_X7_layOrder_104, fl_71_24, fl_71_25, fp_71_25, as_86, i32_pos (show (0 : Nat) < 2 ^ 31 by decide), nI_1, nI_clamp (show (0 : Nat) < 2 ^ 31 by decide)]
    refine ⟨vp_in_nI (by omega) (by decide), hx _ (last 0 C' _ (by omega) lo) ?_ ?_ _⟩
    · rw [hrow_n (by decide), hrow_s]
      rfl
    · rw [hrow_s, upd_eq]
  | succ a ih =>
    intro C' ha lo hen hx
    have m' := m.mo lo.1
    obtain ⟨q, hq, eq, hq3⟩ := hen a (by omega)
    have v1 : vp_in (nI a) 4 := vp_in_nI (by omega) (by decide)
    have v2 : vp_in (nI (a + 1)) 4 := vp_in_nI (by omega) (by decide)
    have hb := fun (nb : Nat) (z : Nat → Int64) (Q : jQ) => s_X7_isBefore (nb := nb) (z := z) (Q := Q) (B := B) m' (by rw [lo.2]; exact iv) hj hq (by rw [lo.2, oj]; decide) (by rw [lo.2, hq3]; decide)
    rw [lo.2, lo.1.row m.r 5 rfl] at hb
    refine jrun_first OK_X7_layOrder (C := [7, 40]) 60 ?_
    simp -implicitDefEqProofs only [jr_0, jr_1, jr_2, j_iconst, j_lconst, j_iload0, j_aload0, j_istore0, j_astore0, j_iinc0, j_iload1, j_aload1, j_istore1, j_astore1, j_iinc1, j_iload2, j_aload2, j_istore2, j_astore2, j_iinc2, j_iload3, j_aload3, j_istore3, j_astore3, j_iinc3, j_iload4, j_aload4, j_istore4, j_astore4, j_iinc4, j_iload5, j_aload5, j_istore5, j_astore5, j_iinc5, j_iload6, j_aload6, j_istore6, j_astore6, j_iinc6, j_iload7, j_aload7, j_istore7, j_astore7, j_iinc7, j_iload8, j_aload8, j_istore8, j_astore8, j_iinc8, j_iadd, j_isub, j_imul, j_iand, j_ior, j_ixor, j_ishl, j_ishr, j_iushr, j_idiv, j_irem, j_ineg, j_ladd, j_lmul, j_land, j_lor, j_lcmp, j_lushr, j_lshl, j_i2l, j_l2i, j_dupI, j_dupR, j_popI, j_dup2, j_ifeq, j_iceq, j_ifne, j_icne, j_iflt, j_iclt, j_ifge, j_icge, j_ifgt, j_icgt, j_ifle, j_icle, j_goto, j_tsw, j_sw0, j_sw1, j_ireturn, j_zreturn, j_lreturn, j_return, j_getfield, j_putI, j_putJ, j_putR, j_iaload, j_baload, j_iastore, j_bastore, j_aaload, j_q, j_aastore, j_acopy, j_mmin, j_mmax, j_mabs, j_objinit, j_new, j_newI, j_newQ, j_sld, j_slen, j_callV0, j_callI0, j_callS0, j_callV1, j_callI1, j_callS1, j_callV2, j_callI2, j_callS2, j_callV3, j_callS3, j_callV4, j_callS4, j_callV5, j_callS5, j_pushS, j_pushN, j_sh0, j_sh1, j_sh2, j_sh3, j_sh4, Int32.reduceAdd, Int32.reduceMul, Int32.reduceSub, Int32.reduceLT, Int32.reduceLE, eq_self, i32_10, i32_01, ne_eq, hrow_s, hrow_n, ne10, ne100, ne1000, ne7, ne4, ne14, ne9973, or_true, true_or, or_false, false_or, not_true_eq_false, not_false_eq_true, false_implies, implies_true, and_true, forall_const, true_implies, jargs_n, jargs_r, jargs_i, List.cons_append, List.nil_append, true_and, Nat.reduceEqDiff, reduceIte, ft_X7_layOrder_0, ft_X7_layOrder_1, ft_X7_layOrder_2, ft_X7_layOrder_5, ft_X7_layOrder_6, ft_X7_layOrder_7, ft_X7_layOrder_8, ft_X7_layOrder_9, ft_X7_layOrder_12, ft_X7_layOrder_15, ft_X7_layOrder_16, ft_X7_layOrder_17, ft_X7_layOrder_18, ft_X7_layOrder_19, ft_X7_layOrder_20, ft_X7_layOrder_21, ft_X7_layOrder_24, ft_X7_layOrder_25, ft_X7_layOrder_28, ft_X7_layOrder_29, ft_X7_layOrder_32, ft_X7_layOrder_35, ft_X7_layOrder_36, ft_X7_layOrder_39, ft_X7_layOrder_40, ft_X7_layOrder_41, ft_X7_layOrder_44, ft_X7_layOrder_45, ft_X7_layOrder_46, ft_X7_layOrder_47, ft_X7_layOrder_48, ft_X7_layOrder_51, ft_X7_layOrder_52, ft_X7_layOrder_53, ft_X7_layOrder_54, ft_X7_layOrder_55, ft_X7_layOrder_58, ft_X7_layOrder_61, ft_X7_layOrder_62, ft_X7_layOrder_65, ft_X7_layOrder_66, ft_X7_layOrder_67, ft_X7_layOrder_70, ft_X7_layOrder_71, ft_X7_layOrder_72, ft_X7_layOrder_73, ft_X7_layOrder_74, ft_X7_layOrder_75, ft_X7_layOrder_78, ft_X7_layOrder_81, ft_X7_layOrder_82, ft_X7_layOrder_85, ft_X7_layOrder_86, ft_X7_layOrder_87, ft_X7_layOrder_88, ft_X7_layOrder_89, ft_X7_layOrder_90, ft_X7_layOrder_93, ft_X7_layOrder_94, ft_X7_layOrder_95, ft_X7_layOrder_98, ft_X7_layOrder_101, ft_X7_layOrder_104, fl_71_24, fl_71_25, fp_71_25, rc_71, al_86, as_86, i32_pos (show a + 1 < 2 ^ 31 by omega), nI_1, nI_s1, nI_m1, hb, eq, v1, v2, zb_0, nI_clamp (show a < 2 ^ 31 by omega), nI_clamp (show a + 1 < 2 ^ 31 by omega), Nat.succ_ne_zero]
    unfold insF at hx
    rw [eq] at hx
    by_cases h1 : overF (C 5) (C r) (nI j) (nI q)
    · simp only [pick_t h1] at hx
      simp only [h1, not_true_eq_false, not_false_eq_true, true_implies, false_implies, implies_true, and_true, true_and, forall_const]
      refine ih (hrow C' 86 _) (by omega) ⟨lo.1.h86, by rw [hrow_n hr86]; exact lo.2⟩ (fun i hi => ?_) ?_
      · rw [hrow_s, upd_ne (by omega)]
        exact hen i (by omega)
      · rw [hrow_s, hrow_n (by decide)]
        exact hx
    · simp only [pick_f h1] at hx
      simp only [h1, not_true_eq_false, not_false_eq_true, true_implies, false_implies, implies_true, and_true, true_and, forall_const]
      refine hx _ (last (a + 1) C' _ (by omega) lo) ?_ ?_ _
      · rw [hrow_n (by decide), hrow_s]
      · rw [hrow_s, upd_eq]
theorem lp_X7_layOrder {Q : jQ} {C : Nat → Nat → Int32} {z : Nat → Int64} {nb r P K B : Nat} {l : Int32} (m : MS r C P K l) (iv : Inv P K B (C r)) (h : ∀ C' : Nat → Nat → Int32, Lo r C C' → C' 71 25 = nI (ordF (C 5) (C r) (C 71 22) (C 86) P).2 → C' 86 = (ordF (C 5) (C r) (C 71 22) (C 86) P).1 → Q none (memS 94 C' z)) :
    ∀ k j, j + k = P → ∀ C' : Nat → Nat → Int32, Lo r C C' → C' 71 25 = nI (ordF (C 5) (C r) (C 71 22) (C 86) j).2 → C' 86 = (ordF (C 5) (C r) (C 71 22) (C 86) j).1 → ∀ x : Option Value, Rn Y_X7_layOrder none Q 7 [some (.ref 71), some (.ref r), some (.int (nI j)), x] [] (memS 94 C' z) (nb, 0, 0) := by
  have h4 := m.h4
  intro k
  induction k with
  | zero =>
    intro j hj C' lo e1 e2 x
    have m' := m.mo lo.1
    have hc : (nI P ≤ nI j) = True := eq_true (nI_le (by omega) (by omega))
    refine jrun_first OK_X7_layOrder (C := [7, 40]) 60 ?_
    simp -implicitDefEqProofs only [jr_0, jr_1, jr_2, j_iconst, j_lconst, j_iload0, j_aload0, j_istore0, j_astore0, j_iinc0, j_iload1, j_aload1, j_istore1, j_astore1, j_iinc1, j_iload2, j_aload2, j_istore2, j_astore2, j_iinc2, j_iload3, j_aload3, j_istore3, j_astore3, j_iinc3, j_iload4, j_aload4, j_istore4, j_astore4, j_iinc4, j_iload5, j_aload5, j_istore5, j_astore5, j_iinc5, j_iload6, j_aload6, j_istore6, j_astore6, j_iinc6, j_iload7, j_aload7, j_istore7, j_astore7, j_iinc7, j_iload8, j_aload8, j_istore8, j_astore8, j_iinc8, j_iadd, j_isub, j_imul, j_iand, j_ior, j_ixor, j_ishl, j_ishr, j_iushr, j_idiv, j_irem, j_ineg, j_ladd, j_lmul, j_land, j_lor, j_lcmp, j_lushr, j_lshl, j_i2l, j_l2i, j_dupI, j_dupR, j_popI, j_dup2, j_ifeq, j_iceq, j_ifne, j_icne, j_iflt, j_iclt, j_ifge, j_icge, j_ifgt, j_icgt, j_ifle, j_icle, j_goto, j_tsw, j_sw0, j_sw1, j_ireturn, j_zreturn, j_lreturn, j_return, j_getfield, j_putI, j_putJ, j_putR, j_iaload, j_baload, j_iastore, j_bastore, j_aaload, j_q, j_aastore, j_acopy, j_mmin, j_mmax, j_mabs, j_objinit, j_new, j_newI, j_newQ, j_sld, j_slen, j_callV0, j_callI0, j_callS0, j_callV1, j_callI1, j_callS1, j_callV2, j_callI2, j_callS2, j_callV3, j_callS3, j_callV4, j_callS4, j_callV5, j_callS5, j_pushS, j_pushN, j_sh0, j_sh1, j_sh2, j_sh3, j_sh4, Int32.reduceAdd, Int32.reduceMul, Int32.reduceSub, Int32.reduceLT, Int32.reduceLE, eq_self, i32_10, i32_01, ne_eq, hrow_s, hrow_n, ne10, ne100, ne1000, ne7, ne4, ne14, ne9973, or_true, true_or, or_false, false_or, not_true_eq_false, not_false_eq_true, false_implies, implies_true, and_true, forall_const, true_implies, jargs_n, jargs_r, jargs_i, List.cons_append, List.nil_append, true_and, Nat.reduceEqDiff, reduceIte, ft_X7_layOrder_0, ft_X7_layOrder_1, ft_X7_layOrder_2, ft_X7_layOrder_5, ft_X7_layOrder_6, ft_X7_layOrder_7, ft_X7_layOrder_8, ft_X7_layOrder_9, ft_X7_layOrder_12, ft_X7_layOrder_15, ft_X7_layOrder_16, ft_X7_layOrder_17, ft_X7_layOrder_18, ft_X7_layOrder_19, ft_X7_layOrder_20, ft_X7_layOrder_21, ft_X7_layOrder_24, ft_X7_layOrder_25, ft_X7_layOrder_28, ft_X7_layOrder_29, ft_X7_layOrder_32, ft_X7_layOrder_35, ft_X7_layOrder_36, ft_X7_layOrder_39, ft_X7_layOrder_40, ft_X7_layOrder_41, ft_X7_layOrder_44, ft_X7_layOrder_45, ft_X7_layOrder_46, ft_X7_layOrder_47, ft_X7_layOrder_48, ft_X7_layOrder_51, ft_X7_layOrder_52, ft_X7_layOrder_53, ft_X7_layOrder_54, ft_X7_layOrder_55, ft_X7_layOrder_58, ft_X7_layOrder_61, ft_X7_layOrder_62, ft_X7_layOrder_65, ft_X7_layOrder_66, ft_X7_layOrder_67, ft_X7_layOrder_70, ft_X7_layOrder_71, ft_X7_layOrder_72, ft_X7_layOrder_73, ft_X7_layOrder_74, ft_X7_layOrder_75, ft_X7_layOrder_78, ft_X7_layOrder_81, ft_X7_layOrder_82, ft_X7_layOrder_85, ft_X7_layOrder_86, ft_X7_layOrder_87, ft_X7_layOrder_88, ft_X7_layOrder_89, ft_X7_layOrder_90, ft_X7_layOrder_93, ft_X7_layOrder_94, ft_X7_layOrder_95, ft_X7_layOrder_98, ft_X7_layOrder_101, ft_X7_layOrder_104, fl_71_2, m'.s.mP, hc]
    rw [show j = P by omega] at e1 e2
    exact h C' lo e1 e2
  | succ k ih =>
    intro j hj C' lo e1 e2 x
    have m' := m.mo lo.1
    have hj4 : j < 4 := by omega
    have hc : (nI P ≤ nI j) = False := eq_false (nI_ge (by omega) (by omega))
    have hk := ih (j + 1) (by omega)
    refine jrun_first OK_X7_layOrder (C := [7, 40]) 60 ?_
    have hle := ordF_le (T := C 5) (ρ := C r) (fed := C 71 22) (o := C 86) j
    have ent := ord_ent (T := C 5) (ρ := C r) (fed := C 71 22) (o := C 86) j (by omega)
    unfold ordF at hk
    generalize ordF (C 5) (C r) (C 71 22) (C 86) j = ok at hk hle e1 e2 ent
    obtain ⟨o, n⟩ := ok
    have e1 : C' 71 25 = nI n := e1
    have e2 : C' 86 = o := e2
    simp -implicitDefEqProofs only [jr_0, jr_1, jr_2, j_iconst, j_lconst, j_iload0, j_aload0, j_istore0, j_astore0, j_iinc0, j_iload1, j_aload1, j_istore1, j_astore1, j_iinc1, j_iload2, j_aload2, j_istore2, j_astore2, j_iinc2, j_iload3, j_aload3, j_istore3, j_astore3, j_iinc3, j_iload4, j_aload4, j_istore4, j_astore4, j_iinc4, j_iload5, j_aload5, j_istore5, j_astore5, j_iinc5, j_iload6, j_aload6, j_istore6, j_astore6, j_iinc6, j_iload7, j_aload7, j_istore7, j_astore7, j_iinc7, j_iload8, j_aload8, j_istore8, j_astore8, j_iinc8, j_iadd, j_isub, j_imul, j_iand, j_ior, j_ixor, j_ishl, j_ishr, j_iushr, j_idiv, j_irem, j_ineg, j_ladd, j_lmul, j_land, j_lor, j_lcmp, j_lushr, j_lshl, j_i2l, j_l2i, j_dupI, j_dupR, j_popI, j_dup2, j_ifeq, j_iceq, j_ifne, j_icne, j_iflt, j_iclt, j_ifge, j_icge, j_ifgt, j_icgt, j_ifle, j_icle, j_goto, j_tsw, j_sw0, j_sw1, j_ireturn, j_zreturn, j_lreturn, j_return, j_getfield, j_putI, j_putJ, j_putR, j_iaload, j_baload, j_iastore, j_bastore, j_aaload, j_q, j_aastore, j_acopy, j_mmin, j_mmax, j_mabs, j_objinit, j_new, j_newI, j_newQ, j_sld, j_slen, j_callV0, j_callI0, j_callS0, j_callV1, j_callI1, j_callS1, j_callV2, j_callI2, j_callS2, j_callV3, j_callS3, j_callV4, j_callS4, j_callV5, j_callS5, j_pushS, j_pushN, j_sh0, j_sh1, j_sh2, j_sh3, j_sh4, Int32.reduceAdd, Int32.reduceMul, Int32.reduceSub, Int32.reduceLT, Int32.reduceLE, eq_self, i32_10, i32_01, ne_eq, hrow_s, hrow_n, ne10, ne100, ne1000, ne7, ne4, ne14, ne9973, or_true, true_or, or_false, false_or, not_true_eq_false, not_false_eq_true, false_implies, implies_true, and_true, forall_const, true_implies, jargs_n, jargs_r, jargs_i, List.cons_append, List.nil_append, true_and, Nat.reduceEqDiff, reduceIte, ft_X7_layOrder_0, ft_X7_layOrder_1, ft_X7_layOrder_2, ft_X7_layOrder_5, ft_X7_layOrder_6, ft_X7_layOrder_7, ft_X7_layOrder_8, ft_X7_layOrder_9, ft_X7_layOrder_12, ft_X7_layOrder_15, ft_X7_layOrder_16, ft_X7_layOrder_17, ft_X7_layOrder_18, ft_X7_layOrder_19, ft_X7_layOrder_20, ft_X7_layOrder_21, ft_X7_layOrder_24, ft_X7_layOrder_25, ft_X7_layOrder_28, ft_X7_layOrder_29, ft_X7_layOrder_32, ft_X7_layOrder_35, ft_X7_layOrder_36, ft_X7_layOrder_39, ft_X7_layOrder_40, ft_X7_layOrder_41, ft_X7_layOrder_44, ft_X7_layOrder_45, ft_X7_layOrder_46, ft_X7_layOrder_47, ft_X7_layOrder_48, ft_X7_layOrder_51, ft_X7_layOrder_52, ft_X7_layOrder_53, ft_X7_layOrder_54, ft_X7_layOrder_55, ft_X7_layOrder_58, ft_X7_layOrder_61, ft_X7_layOrder_62, ft_X7_layOrder_65, ft_X7_layOrder_66, ft_X7_layOrder_67, ft_X7_layOrder_70, ft_X7_layOrder_71, ft_X7_layOrder_72, ft_X7_layOrder_73, ft_X7_layOrder_74, ft_X7_layOrder_75, ft_X7_layOrder_78, ft_X7_layOrder_81, ft_X7_layOrder_82, ft_X7_layOrder_85, ft_X7_layOrder_86, ft_X7_layOrder_87, ft_X7_layOrder_88, ft_X7_layOrder_89, ft_X7_layOrder_90, ft_X7_layOrder_93, ft_X7_layOrder_94, ft_X7_layOrder_95, ft_X7_layOrder_98, ft_X7_layOrder_101, ft_X7_layOrder_104, fl_71_2, fl_71_22, fl_71_25, m'.s.mP, hc, nI_1, rc_71, ar_4 m'.r hj4, lo.2, lo.1.2 22 (by decide), s_X7_has, zb_0, e1]
    by_cases h1 : C r (4 + j) = 3
    · by_cases h2 : hasP (C 71 22) (nI j)
      · rw [pick_t (show onP (C r) (C 71 22) (nI j) from ⟨by rw [rgj_2 hj4]; exact h1, h2⟩)] at hk
        simp only [h1, h2, not_true_eq_false, not_false_eq_true, true_implies, false_implies, implies_true, and_true, true_and, forall_const]
        refine lp_X7_layOrder_in m iv hj4 h1 n C' hle lo ?_ fun C'' lo2 g1 g2 x => hk C'' lo2 ?_ ?_ x
        · rw [e2]; exact ent
        · rw [g2, e1, nI_1]
        · rw [g1, e2]
      · rw [pick_f (fun q : onP (C r) (C 71 22) (nI j) => h2 q.2)] at hk
        simp only [h1, h2, not_true_eq_false, not_false_eq_true, true_implies, false_implies, implies_true, and_true, true_and, forall_const]
        exact hk C' lo e1 e2 _
    · rw [pick_f (fun q : onP (C r) (C 71 22) (nI j) => h1 (by have := q.1; rw [rgj_2 hj4] at this; exact this))] at hk
      simp only [h1, not_true_eq_false, not_false_eq_true, true_implies, false_implies, implies_true, and_true, true_and, forall_const]
      exact hk C' lo e1 e2 _
theorem ok_X7_layOrder : jMeets Y_X7_layOrder S_X7_layOrder := by
  intro nb vs mem Q h
  obtain ⟨C, z, r, P, K, B, l, rfl, rfl, m, iv, hQ⟩ := h
  have hp := fun o => ordR_P (T := C 5) (o := o) (fed := C 71 22) iv m.h4
  refine Ok.run OK_X7_layOrder [7, 40] 40 [none, none] pn7 (Nat.le_of_ble_eq_true rfl) rfl ?_
  simp -implicitDefEqProofs only [jr_0, jr_1, jr_2, j_iconst, j_lconst, j_iload0, j_aload0, j_istore0, j_astore0, j_iinc0, j_iload1, j_aload1, j_istore1, j_astore1, j_iinc1, j_iload2, j_aload2, j_istore2, j_astore2, j_iinc2, j_iload3, j_aload3, j_istore3, j_astore3, j_iinc3, j_iload4, j_aload4, j_istore4, j_astore4, j_iinc4, j_iload5, j_aload5, j_istore5, j_astore5, j_iinc5, j_iload6, j_aload6, j_istore6, j_astore6, j_iinc6, j_iload7, j_aload7, j_istore7, j_astore7, j_iinc7, j_iload8, j_aload8, j_istore8, j_astore8, j_iinc8, j_iadd, j_isub, j_imul, j_iand, j_ior, j_ixor, j_ishl, j_ishr, j_iushr, j_idiv, j_irem, j_ineg, j_ladd, j_lmul, j_land, j_lor, j_lcmp, j_lushr, j_lshl, j_i2l, j_l2i, j_dupI, j_dupR, j_popI, j_dup2, j_ifeq, j_iceq, j_ifne, j_icne, j_iflt, j_iclt, j_ifge, j_icge, j_ifgt, j_icgt, j_ifle, j_icle, j_goto, j_tsw, j_sw0, j_sw1, j_ireturn, j_zreturn, j_lreturn, j_return, j_getfield, j_putI, j_putJ, j_putR, j_iaload, j_baload, j_iastore, j_bastore, j_aaload, j_q, j_aastore, j_acopy, j_mmin, j_mmax, j_mabs, j_objinit, j_new, j_newI, j_newQ, j_sld, j_slen, j_callV0, j_callI0, j_callS0, j_callV1, j_callI1, j_callS1, j_callV2, j_callI2, j_callS2, j_callV3, j_callS3, j_callV4, j_callS4, j_callV5, j_callS5, j_pushS, j_pushN, j_sh0, j_sh1, j_sh2, j_sh3, j_sh4, Int32.reduceAdd, Int32.reduceMul, Int32.reduceSub, Int32.reduceLT, Int32.reduceLE, eq_self, i32_10, i32_01, ne_eq, hrow_s, hrow_n, ne10, ne100, ne1000, ne7, ne4, ne14, ne9973, or_true, true_or, or_false, false_or, not_true_eq_false, not_false_eq_true, false_implies, implies_true, and_true, forall_const, true_implies, jargs_n, jargs_r, jargs_i, List.cons_append, List.nil_append, true_and, Nat.reduceEqDiff, reduceIte, ft_X7_layOrder_0, ft_X7_layOrder_1, ft_X7_layOrder_2, ft_X7_layOrder_5, ft_X7_layOrder_6, ft_X7_layOrder_7, ft_X7_layOrder_8, ft_X7_layOrder_9, ft_X7_layOrder_12, ft_X7_layOrder_15, ft_X7_layOrder_16, ft_X7_layOrder_17, ft_X7_layOrder_18, ft_X7_layOrder_19, ft_X7_layOrder_20, ft_X7_layOrder_21, ft_X7_layOrder_24, ft_X7_layOrder_25, ft_X7_layOrder_28, ft_X7_layOrder_29, ft_X7_layOrder_32, ft_X7_layOrder_35, ft_X7_layOrder_36, ft_X7_layOrder_39, ft_X7_layOrder_40, ft_X7_layOrder_41, ft_X7_layOrder_44, ft_X7_layOrder_45, ft_X7_layOrder_46, ft_X7_layOrder_47, ft_X7_layOrder_48, ft_X7_layOrder_51, ft_X7_layOrder_52, ft_X7_layOrder_53, ft_X7_layOrder_54, ft_X7_layOrder_55, ft_X7_layOrder_58, ft_X7_layOrder_61, ft_X7_layOrder_62, ft_X7_layOrder_65, ft_X7_layOrder_66, ft_X7_layOrder_67, ft_X7_layOrder_70, ft_X7_layOrder_71, ft_X7_layOrder_72, ft_X7_layOrder_73, ft_X7_layOrder_74, ft_X7_layOrder_75, ft_X7_layOrder_78, ft_X7_layOrder_81, ft_X7_layOrder_82, ft_X7_layOrder_85, ft_X7_layOrder_86, ft_X7_layOrder_87, ft_X7_layOrder_88, ft_X7_layOrder_89, ft_X7_layOrder_90, ft_X7_layOrder_93, ft_X7_layOrder_94, ft_X7_layOrder_95, ft_X7_layOrder_98, ft_X7_layOrder_101, ft_X7_layOrder_104, fp_71_25]
  refine lp_X7_layOrder m iv (fun C' lo e1 e2 => hQ C' lo (by rw [e1, (hp _).1]) (by rw [e2]; exact (hp _).2)) P 0 (by omega) _ ⟨Mo.rf.h71, by rw [hrow_n (by rcases m.r with q | q <;> rw [q] <;> decide)]⟩ ?_ ?_ _
  · rw [hrow_s, upd_eq]
    rfl
  · rw [hrow_n (by decide)]
    rfl
theorem s_X7_layOrder {nb r P K B : Nat} {C : Nat → Nat → Int32} {z : Nat → Int64} {l : Int32} {Q : jQ} (m : MS r C P K l) (iv : Inv P K B (C r)) (hQ : ∀ C' : Nat → Nat → Int32, Lo r C C' → C' 71 25 = nI (ordR (C 5) (C r) (C 71 22)).2 → Ag (ordR (C 5) (C r) (C 71 22)).2 (C' 86) (ordR (C 5) (C r) (C 71 22)).1 → Q none (memS 94 C' z)) : S_X7_layOrder nb [.ref 71, .ref r] (memS 94 C z) Q := ⟨C, z, r, P, K, B, l, rfl, rfl, m, iv, hQ⟩
/-! what a post can take -/
def F_X7_capOf_0 : Nat → jT := fun pc => (bif Nat.blt pc 6 then (bif Nat.blt pc 3 then (bif Nat.blt pc 1 then (bif Nat.beq pc 0 then J_aload 1 1 else jbad) else (bif Nat.blt pc 2 then (bif Nat.beq pc 1 then J_iconst 0 2 else jbad) else (bif Nat.beq pc 2 then J_iload 2 3 else jbad))) else (bif Nat.blt pc 4 then (bif Nat.beq pc 3 then J_iadd 4 else jbad) else (bif Nat.blt pc 5 then (bif Nat.beq pc 4 then J_iaload 5 else jbad) else (bif Nat.beq pc 5 then J_istore 3 6 else jbad)))) else (bif Nat.blt pc 11 then (bif Nat.blt pc 7 then (bif Nat.beq pc 6 then J_aload 0 7 else jbad) else (bif Nat.blt pc 10 then (bif Nat.beq pc 7 then J_getfield 7 6 10 else jbad) else (bif Nat.beq pc 10 then J_iload 3 11 else jbad))) else (bif Nat.blt pc 13 then (bif Nat.blt pc 12 then (bif Nat.beq pc 11 then J_iaload 12 else jbad) else (bif Nat.beq pc 12 then J_aload 0 13 else jbad)) else (bif Nat.blt pc 16 then (bif Nat.beq pc 13 then J_getfield 7 3 16 else jbad) else (bif Nat.beq pc 16 then J_iload 2 17 else jbad)))))
theorem ftl_X7_capOf_0 : F_X7_capOf_0 0 = J_aload 1 1 := rfl
theorem ftl_X7_capOf_1 : F_X7_capOf_0 1 = J_iconst 0 2 := rfl
theorem ftl_X7_capOf_2 : F_X7_capOf_0 2 = J_iload 2 3 := rfl
theorem ftl_X7_capOf_3 : F_X7_capOf_0 3 = J_iadd 4 := rfl
theorem ftl_X7_capOf_4 : F_X7_capOf_0 4 = J_iaload 5 := rfl
theorem ftl_X7_capOf_5 : F_X7_capOf_0 5 = J_istore 3 6 := rfl
theorem ftl_X7_capOf_6 : F_X7_capOf_0 6 = J_aload 0 7 := rfl
theorem ftl_X7_capOf_7 : F_X7_capOf_0 7 = J_getfield 7 6 10 := rfl
theorem ftl_X7_capOf_10 : F_X7_capOf_0 10 = J_iload 3 11 := rfl
theorem ftl_X7_capOf_11 : F_X7_capOf_0 11 = J_iaload 12 := rfl
theorem ftl_X7_capOf_12 : F_X7_capOf_0 12 = J_aload 0 13 := rfl
theorem ftl_X7_capOf_13 : F_X7_capOf_0 13 = J_getfield 7 3 16 := rfl
theorem ftl_X7_capOf_16 : F_X7_capOf_0 16 = J_iload 2 17 := rfl
theorem F_X7_capOf_0_ok : jOK Y_X7_capOf none (F_X7_capOf_0) := (jOK_node (jOK_node (jOK_node (jOK_leaf (sn_aload_n dX7_capOf_0 rfl rfl)) (jOK_node (jOK_leaf (sn_iconst dX7_capOf_1 rfl rfl)) (jOK_leaf (sn_iload_n dX7_capOf_2 rfl rfl)))) (jOK_node (jOK_leaf (sn_iadd dX7_capOf_3 rfl)) (jOK_node (jOK_leaf (sn_iaload dX7_capOf_4 rfl)) (jOK_leaf (sn_istore_n dX7_capOf_5 rfl rfl (by decide)))))) (jOK_node (jOK_node (jOK_leaf (sn_aload_n dX7_capOf_6 rfl rfl)) (jOK_node (jOK_leaf (sn_getfield dX7_capOf_7 rfl rfl (by decide) tw_620 jin7)) (jOK_leaf (sn_iload_n dX7_capOf_10 rfl rfl)))) (jOK_node (jOK_node (jOK_leaf (sn_iaload dX7_capOf_11 rfl)) (jOK_leaf (sn_aload_n dX7_capOf_12 rfl rfl))) (jOK_node (jOK_leaf (sn_getfield dX7_capOf_13 rfl rfl (by decide) tw_617 jin7)) (jOK_leaf (sn_iload_n dX7_capOf_16 rfl rfl))))))
def F_X7_capOf_17 : Nat → jT := fun pc => (bif Nat.blt pc 27 then (bif Nat.blt pc 22 then (bif Nat.blt pc 18 then (bif Nat.beq pc 17 then J_iaload 18 else jbad) else (bif Nat.blt pc 21 then (bif Nat.beq pc 18 then J_icge 30 21 else jbad) else (bif Nat.beq pc 21 then J_aload 0 22 else jbad))) else (bif Nat.blt pc 25 then (bif Nat.beq pc 22 then J_getfield 7 6 25 else jbad) else (bif Nat.blt pc 26 then (bif Nat.beq pc 25 then J_iload 3 26 else jbad) else (bif Nat.beq pc 26 then J_iaload 27 else jbad)))) else (bif Nat.blt pc 34 then (bif Nat.blt pc 30 then (bif Nat.beq pc 27 then J_goto 36 else jbad) else (bif Nat.blt pc 31 then (bif Nat.beq pc 30 then J_aload 0 31 else jbad) else (bif Nat.beq pc 31 then J_getfield 7 3 34 else jbad))) else (bif Nat.blt pc 36 then (bif Nat.blt pc 35 then (bif Nat.beq pc 34 then J_iload 2 35 else jbad) else (bif Nat.beq pc 35 then J_iaload 36 else jbad)) else (bif Nat.blt pc 38 then (bif Nat.beq pc 36 then J_istore 4 38 else jbad) else (bif Nat.beq pc 38 then J_aload 1 39 else jbad)))))
theorem ftl_X7_capOf_17 : F_X7_capOf_17 17 = J_iaload 18 := rfl
theorem ftl_X7_capOf_18 : F_X7_capOf_17 18 = J_icge 30 21 := rfl
theorem ftl_X7_capOf_21 : F_X7_capOf_17 21 = J_aload 0 22 := rfl
theorem ftl_X7_capOf_22 : F_X7_capOf_17 22 = J_getfield 7 6 25 := rfl
theorem ftl_X7_capOf_25 : F_X7_capOf_17 25 = J_iload 3 26 := rfl
theorem ftl_X7_capOf_26 : F_X7_capOf_17 26 = J_iaload 27 := rfl
theorem ftl_X7_capOf_27 : F_X7_capOf_17 27 = J_goto 36 := rfl
theorem ftl_X7_capOf_30 : F_X7_capOf_17 30 = J_aload 0 31 := rfl
theorem ftl_X7_capOf_31 : F_X7_capOf_17 31 = J_getfield 7 3 34 := rfl
theorem ftl_X7_capOf_34 : F_X7_capOf_17 34 = J_iload 2 35 := rfl
theorem ftl_X7_capOf_35 : F_X7_capOf_17 35 = J_iaload 36 := rfl
theorem ftl_X7_capOf_36 : F_X7_capOf_17 36 = J_istore 4 38 := rfl
theorem ftl_X7_capOf_38 : F_X7_capOf_17 38 = J_aload 1 39 := rfl
theorem F_X7_capOf_17_ok : jOK Y_X7_capOf none (F_X7_capOf_17) := (jOK_node (jOK_node (jOK_node (jOK_leaf (sn_iaload dX7_capOf_17 rfl)) (jOK_node (jOK_leaf (sn_icge dX7_capOf_18 rfl rfl)) (jOK_leaf (sn_aload_n dX7_capOf_21 rfl rfl)))) (jOK_node (jOK_leaf (sn_getfield dX7_capOf_22 rfl rfl (by decide) tw_620 jin7)) (jOK_node (jOK_leaf (sn_iload_n dX7_capOf_25 rfl rfl)) (jOK_leaf (sn_iaload dX7_capOf_26 rfl))))) (jOK_node (jOK_node (jOK_leaf (sn_goto dX7_capOf_27 rfl)) (jOK_node (jOK_leaf (sn_aload_n dX7_capOf_30 rfl rfl)) (jOK_leaf (sn_getfield dX7_capOf_31 rfl rfl (by decide) tw_617 jin7)))) (jOK_node (jOK_node (jOK_leaf (sn_iload_n dX7_capOf_34 rfl rfl)) (jOK_leaf (sn_iaload dX7_capOf_35 rfl))) (jOK_node (jOK_leaf (sn_istore dX7_capOf_36 rfl (by decide))) (jOK_leaf (sn_aload_n dX7_capOf_38 rfl rfl))))))
def F_X7_capOf_0_38 : Nat → jT := fun pc => bif Nat.blt pc 17 then F_X7_capOf_0 pc else F_X7_capOf_17 pc
theorem F_X7_capOf_0_38_l {pc : Nat} (h : Nat.blt pc 17 = true) : F_X7_capOf_0_38 pc = F_X7_capOf_0 pc := by unfold F_X7_capOf_0_38; rw [h]; rfl
theorem F_X7_capOf_0_38_r {pc : Nat} (h : Nat.blt pc 17 = false) : F_X7_capOf_0_38 pc = F_X7_capOf_17 pc := by unfold F_X7_capOf_0_38; rw [h]; rfl
theorem F_X7_capOf_0_38_ok : jOK Y_X7_capOf none (F_X7_capOf_0_38) := jOK_node (F_X7_capOf_0_ok) (F_X7_capOf_17_ok)
def F_X7_capOf_39 : Nat → jT := fun pc => (bif Nat.blt pc 49 then (bif Nat.blt pc 43 then (bif Nat.blt pc 41 then (bif Nat.beq pc 39 then J_iconst 32 41 else jbad) else (bif Nat.blt pc 42 then (bif Nat.beq pc 41 then J_iload 3 42 else jbad) else (bif Nat.beq pc 42 then J_iadd 43 else jbad))) else (bif Nat.blt pc 44 then (bif Nat.beq pc 43 then J_iaload 44 else jbad) else (bif Nat.blt pc 46 then (bif Nat.beq pc 44 then J_iload 4 46 else jbad) else (bif Nat.beq pc 46 then J_icge 58 49 else jbad)))) else (bif Nat.blt pc 53 then (bif Nat.blt pc 50 then (bif Nat.beq pc 49 then J_aload 1 50 else jbad) else (bif Nat.blt pc 52 then (bif Nat.beq pc 50 then J_iconst 32 52 else jbad) else (bif Nat.beq pc 52 then J_iload 3 53 else jbad))) else (bif Nat.blt pc 55 then (bif Nat.blt pc 54 then (bif Nat.beq pc 53 then J_iadd 54 else jbad) else (bif Nat.beq pc 54 then J_iaload 55 else jbad)) else (bif Nat.blt pc 58 then (bif Nat.beq pc 55 then J_goto 60 else jbad) else (bif Nat.beq pc 58 then J_iload 4 60 else jbad)))))
theorem ftl_X7_capOf_39 : F_X7_capOf_39 39 = J_iconst 32 41 := rfl
theorem ftl_X7_capOf_41 : F_X7_capOf_39 41 = J_iload 3 42 := rfl
theorem ftl_X7_capOf_42 : F_X7_capOf_39 42 = J_iadd 43 := rfl
theorem ftl_X7_capOf_43 : F_X7_capOf_39 43 = J_iaload 44 := rfl
theorem ftl_X7_capOf_44 : F_X7_capOf_39 44 = J_iload 4 46 := rfl
theorem ftl_X7_capOf_46 : F_X7_capOf_39 46 = J_icge 58 49 := rfl
theorem ftl_X7_capOf_49 : F_X7_capOf_39 49 = J_aload 1 50 := rfl
theorem ftl_X7_capOf_50 : F_X7_capOf_39 50 = J_iconst 32 52 := rfl
theorem ftl_X7_capOf_52 : F_X7_capOf_39 52 = J_iload 3 53 := rfl
theorem ftl_X7_capOf_53 : F_X7_capOf_39 53 = J_iadd 54 := rfl
theorem ftl_X7_capOf_54 : F_X7_capOf_39 54 = J_iaload 55 := rfl
theorem ftl_X7_capOf_55 : F_X7_capOf_39 55 = J_goto 60 := rfl
theorem ftl_X7_capOf_58 : F_X7_capOf_39 58 = J_iload 4 60 := rfl
theorem F_X7_capOf_39_ok : jOK Y_X7_capOf none (F_X7_capOf_39) := (jOK_node (jOK_node (jOK_node (jOK_leaf (sn_bipush dX7_capOf_39 rfl rfl)) (jOK_node (jOK_leaf (sn_iload_n dX7_capOf_41 rfl rfl)) (jOK_leaf (sn_iadd dX7_capOf_42 rfl)))) (jOK_node (jOK_leaf (sn_iaload dX7_capOf_43 rfl)) (jOK_node (jOK_leaf (sn_iload dX7_capOf_44 rfl)) (jOK_leaf (sn_icge dX7_capOf_46 rfl rfl))))) (jOK_node (jOK_node (jOK_leaf (sn_aload_n dX7_capOf_49 rfl rfl)) (jOK_node (jOK_leaf (sn_bipush dX7_capOf_50 rfl rfl)) (jOK_leaf (sn_iload_n dX7_capOf_52 rfl rfl)))) (jOK_node (jOK_node (jOK_leaf (sn_iadd dX7_capOf_53 rfl)) (jOK_leaf (sn_iaload dX7_capOf_54 rfl))) (jOK_node (jOK_leaf (sn_goto dX7_capOf_55 rfl)) (jOK_leaf (sn_iload dX7_capOf_58 rfl))))))
def F_X7_capOf_60 : Nat → jT := fun pc => (bif Nat.blt pc 71 then (bif Nat.blt pc 64 then (bif Nat.blt pc 62 then (bif Nat.beq pc 60 then J_istore 4 62 else jbad) else (bif Nat.blt pc 63 then (bif Nat.beq pc 62 then J_aload 0 63 else jbad) else (bif Nat.beq pc 63 then J_aload 1 64 else jbad))) else (bif Nat.blt pc 65 then (bif Nat.beq pc 64 then J_iload 2 65 else jbad) else (bif Nat.blt pc 68 then (bif Nat.beq pc 65 then J_callV 7 S_X7_isMuteAt 2 68 else jbad) else (bif Nat.beq pc 68 then J_ifeq 81 71 else jbad)))) else (bif Nat.blt pc 77 then (bif Nat.blt pc 73 then (bif Nat.beq pc 71 then J_iload 4 73 else jbad) else (bif Nat.blt pc 74 then (bif Nat.beq pc 73 then J_iconst 2 74 else jbad) else (bif Nat.beq pc 74 then J_icle 81 77 else jbad))) else (bif Nat.blt pc 81 then (bif Nat.blt pc 78 then (bif Nat.beq pc 77 then J_iconst 2 78 else jbad) else (bif Nat.beq pc 78 then J_goto 83 else jbad)) else (bif Nat.blt pc 83 then (bif Nat.beq pc 81 then J_iload 4 83 else jbad) else (bif Nat.beq pc 83 then J_ireturn 0 0 else jbad)))))
theorem ftl_X7_capOf_60 : F_X7_capOf_60 60 = J_istore 4 62 := rfl
theorem ftl_X7_capOf_62 : F_X7_capOf_60 62 = J_aload 0 63 := rfl
theorem ftl_X7_capOf_63 : F_X7_capOf_60 63 = J_aload 1 64 := rfl
theorem ftl_X7_capOf_64 : F_X7_capOf_60 64 = J_iload 2 65 := rfl
theorem ftl_X7_capOf_65 : F_X7_capOf_60 65 = J_callV 7 S_X7_isMuteAt 2 68 := rfl
theorem ftl_X7_capOf_68 : F_X7_capOf_60 68 = J_ifeq 81 71 := rfl
theorem ftl_X7_capOf_71 : F_X7_capOf_60 71 = J_iload 4 73 := rfl
theorem ftl_X7_capOf_73 : F_X7_capOf_60 73 = J_iconst 2 74 := rfl
theorem ftl_X7_capOf_74 : F_X7_capOf_60 74 = J_icle 81 77 := rfl
theorem ftl_X7_capOf_77 : F_X7_capOf_60 77 = J_iconst 2 78 := rfl
theorem ftl_X7_capOf_78 : F_X7_capOf_60 78 = J_goto 83 := rfl
theorem ftl_X7_capOf_81 : F_X7_capOf_60 81 = J_iload 4 83 := rfl
theorem ftl_X7_capOf_83 : F_X7_capOf_60 83 = J_ireturn 0 0 := rfl
theorem F_X7_capOf_60_ok : jOK Y_X7_capOf none (F_X7_capOf_60) := (jOK_node (jOK_node (jOK_node (jOK_leaf (sn_istore dX7_capOf_60 rfl (by decide))) (jOK_node (jOK_leaf (sn_aload_n dX7_capOf_62 rfl rfl)) (jOK_leaf (sn_aload_n dX7_capOf_63 rfl rfl)))) (jOK_node (jOK_leaf (sn_iload_n dX7_capOf_64 rfl rfl)) (jOK_node (jOK_leaf (sn_callV (Y' := Y_X7_isMuteAt) ok_X7_isMuteAt dX7_capOf_65 rfl rfl rfl tw_841 tw_843 tp_42 tw_8 jc_X7_isMuteAt rfl ⟨by decide, by decide, rfl⟩ ⟨by decide, by decide⟩)) (jOK_leaf (sn_ifeq dX7_capOf_68 rfl rfl))))) (jOK_node (jOK_node (jOK_leaf (sn_iload dX7_capOf_71 rfl)) (jOK_node (jOK_leaf (sn_iconst dX7_capOf_73 rfl rfl)) (jOK_leaf (sn_icle dX7_capOf_74 rfl rfl)))) (jOK_node (jOK_node (jOK_leaf (sn_iconst dX7_capOf_77 rfl rfl)) (jOK_leaf (sn_goto dX7_capOf_78 rfl))) (jOK_node (jOK_leaf (sn_iload dX7_capOf_81 rfl)) (jOK_leaf (sn_ireturn dX7_capOf_83 rfl rfl))))))
def F_X7_capOf_39_83 : Nat → jT := fun pc => bif Nat.blt pc 60 then F_X7_capOf_39 pc else F_X7_capOf_60 pc
theorem F_X7_capOf_39_83_l {pc : Nat} (h : Nat.blt pc 60 = true) : F_X7_capOf_39_83 pc = F_X7_capOf_39 pc := by unfold F_X7_capOf_39_83; rw [h]; rfl
theorem F_X7_capOf_39_83_r {pc : Nat} (h : Nat.blt pc 60 = false) : F_X7_capOf_39_83 pc = F_X7_capOf_60 pc := by unfold F_X7_capOf_39_83; rw [h]; rfl
theorem F_X7_capOf_39_83_ok : jOK Y_X7_capOf none (F_X7_capOf_39_83) := jOK_node (F_X7_capOf_39_ok) (F_X7_capOf_60_ok)
def F_X7_capOf_0_83 : Nat → jT := fun pc => bif Nat.blt pc 39 then F_X7_capOf_0_38 pc else F_X7_capOf_39_83 pc
theorem F_X7_capOf_0_83_l {pc : Nat} (h : Nat.blt pc 39 = true) : F_X7_capOf_0_83 pc = F_X7_capOf_0_38 pc := by unfold F_X7_capOf_0_83; rw [h]; rfl
theorem F_X7_capOf_0_83_r {pc : Nat} (h : Nat.blt pc 39 = false) : F_X7_capOf_0_83 pc = F_X7_capOf_39_83 pc := by unfold F_X7_capOf_0_83; rw [h]; rfl
theorem F_X7_capOf_0_83_ok : jOK Y_X7_capOf none (F_X7_capOf_0_83) := jOK_node (F_X7_capOf_0_38_ok) (F_X7_capOf_39_83_ok)
def F_X7_capOf : Nat → jT := F_X7_capOf_0_83
theorem OK_X7_capOf : jOK Y_X7_capOf none (F_X7_capOf) := F_X7_capOf_0_83_ok
theorem ft_X7_capOf_0 : F_X7_capOf 0 = J_aload 1 1 := (F_X7_capOf_0_83_l rfl).trans ((F_X7_capOf_0_38_l rfl).trans (ftl_X7_capOf_0))
theorem ft_X7_capOf_1 : F_X7_capOf 1 = J_iconst 0 2 := (F_X7_capOf_0_83_l rfl).trans ((F_X7_capOf_0_38_l rfl).trans (ftl_X7_capOf_1))
theorem ft_X7_capOf_2 : F_X7_capOf 2 = J_iload 2 3 := (F_X7_capOf_0_83_l rfl).trans ((F_X7_capOf_0_38_l rfl).trans (ftl_X7_capOf_2))
theorem ft_X7_capOf_3 : F_X7_capOf 3 = J_iadd 4 := (F_X7_capOf_0_83_l rfl).trans ((F_X7_capOf_0_38_l rfl).trans (ftl_X7_capOf_3))
theorem ft_X7_capOf_4 : F_X7_capOf 4 = J_iaload 5 := (F_X7_capOf_0_83_l rfl).trans ((F_X7_capOf_0_38_l rfl).trans (ftl_X7_capOf_4))
theorem ft_X7_capOf_5 : F_X7_capOf 5 = J_istore 3 6 := (F_X7_capOf_0_83_l rfl).trans ((F_X7_capOf_0_38_l rfl).trans (ftl_X7_capOf_5))
theorem ft_X7_capOf_6 : F_X7_capOf 6 = J_aload 0 7 := (F_X7_capOf_0_83_l rfl).trans ((F_X7_capOf_0_38_l rfl).trans (ftl_X7_capOf_6))
theorem ft_X7_capOf_7 : F_X7_capOf 7 = J_getfield 7 6 10 := (F_X7_capOf_0_83_l rfl).trans ((F_X7_capOf_0_38_l rfl).trans (ftl_X7_capOf_7))
theorem ft_X7_capOf_10 : F_X7_capOf 10 = J_iload 3 11 := (F_X7_capOf_0_83_l rfl).trans ((F_X7_capOf_0_38_l rfl).trans (ftl_X7_capOf_10))
theorem ft_X7_capOf_11 : F_X7_capOf 11 = J_iaload 12 := (F_X7_capOf_0_83_l rfl).trans ((F_X7_capOf_0_38_l rfl).trans (ftl_X7_capOf_11))
theorem ft_X7_capOf_12 : F_X7_capOf 12 = J_aload 0 13 := (F_X7_capOf_0_83_l rfl).trans ((F_X7_capOf_0_38_l rfl).trans (ftl_X7_capOf_12))
theorem ft_X7_capOf_13 : F_X7_capOf 13 = J_getfield 7 3 16 := (F_X7_capOf_0_83_l rfl).trans ((F_X7_capOf_0_38_l rfl).trans (ftl_X7_capOf_13))
theorem ft_X7_capOf_16 : F_X7_capOf 16 = J_iload 2 17 := (F_X7_capOf_0_83_l rfl).trans ((F_X7_capOf_0_38_l rfl).trans (ftl_X7_capOf_16))
theorem ft_X7_capOf_17 : F_X7_capOf 17 = J_iaload 18 := (F_X7_capOf_0_83_l rfl).trans ((F_X7_capOf_0_38_r rfl).trans (ftl_X7_capOf_17))
theorem ft_X7_capOf_18 : F_X7_capOf 18 = J_icge 30 21 := (F_X7_capOf_0_83_l rfl).trans ((F_X7_capOf_0_38_r rfl).trans (ftl_X7_capOf_18))
theorem ft_X7_capOf_21 : F_X7_capOf 21 = J_aload 0 22 := (F_X7_capOf_0_83_l rfl).trans ((F_X7_capOf_0_38_r rfl).trans (ftl_X7_capOf_21))
theorem ft_X7_capOf_22 : F_X7_capOf 22 = J_getfield 7 6 25 := (F_X7_capOf_0_83_l rfl).trans ((F_X7_capOf_0_38_r rfl).trans (ftl_X7_capOf_22))
theorem ft_X7_capOf_25 : F_X7_capOf 25 = J_iload 3 26 := (F_X7_capOf_0_83_l rfl).trans ((F_X7_capOf_0_38_r rfl).trans (ftl_X7_capOf_25))
theorem ft_X7_capOf_26 : F_X7_capOf 26 = J_iaload 27 := (F_X7_capOf_0_83_l rfl).trans ((F_X7_capOf_0_38_r rfl).trans (ftl_X7_capOf_26))
theorem ft_X7_capOf_27 : F_X7_capOf 27 = J_goto 36 := (F_X7_capOf_0_83_l rfl).trans ((F_X7_capOf_0_38_r rfl).trans (ftl_X7_capOf_27))
theorem ft_X7_capOf_30 : F_X7_capOf 30 = J_aload 0 31 := (F_X7_capOf_0_83_l rfl).trans ((F_X7_capOf_0_38_r rfl).trans (ftl_X7_capOf_30))
theorem ft_X7_capOf_31 : F_X7_capOf 31 = J_getfield 7 3 34 := (F_X7_capOf_0_83_l rfl).trans ((F_X7_capOf_0_38_r rfl).trans (ftl_X7_capOf_31))
theorem ft_X7_capOf_34 : F_X7_capOf 34 = J_iload 2 35 := (F_X7_capOf_0_83_l rfl).trans ((F_X7_capOf_0_38_r rfl).trans (ftl_X7_capOf_34))
theorem ft_X7_capOf_35 : F_X7_capOf 35 = J_iaload 36 := (F_X7_capOf_0_83_l rfl).trans ((F_X7_capOf_0_38_r rfl).trans (ftl_X7_capOf_35))
theorem ft_X7_capOf_36 : F_X7_capOf 36 = J_istore 4 38 := (F_X7_capOf_0_83_l rfl).trans ((F_X7_capOf_0_38_r rfl).trans (ftl_X7_capOf_36))
theorem ft_X7_capOf_38 : F_X7_capOf 38 = J_aload 1 39 := (F_X7_capOf_0_83_l rfl).trans ((F_X7_capOf_0_38_r rfl).trans (ftl_X7_capOf_38))
theorem ft_X7_capOf_39 : F_X7_capOf 39 = J_iconst 32 41 := (F_X7_capOf_0_83_r rfl).trans ((F_X7_capOf_39_83_l rfl).trans (ftl_X7_capOf_39))
theorem ft_X7_capOf_41 : F_X7_capOf 41 = J_iload 3 42 := (F_X7_capOf_0_83_r rfl).trans ((F_X7_capOf_39_83_l rfl).trans (ftl_X7_capOf_41))
theorem ft_X7_capOf_42 : F_X7_capOf 42 = J_iadd 43 := (F_X7_capOf_0_83_r rfl).trans ((F_X7_capOf_39_83_l rfl).trans (ftl_X7_capOf_42))
theorem ft_X7_capOf_43 : F_X7_capOf 43 = J_iaload 44 := (F_X7_capOf_0_83_r rfl).trans ((F_X7_capOf_39_83_l rfl).trans (ftl_X7_capOf_43))
theorem ft_X7_capOf_44 : F_X7_capOf 44 = J_iload 4 46 := (F_X7_capOf_0_83_r rfl).trans ((F_X7_capOf_39_83_l rfl).trans (ftl_X7_capOf_44))
theorem ft_X7_capOf_46 : F_X7_capOf 46 = J_icge 58 49 := (F_X7_capOf_0_83_r rfl).trans ((F_X7_capOf_39_83_l rfl).trans (ftl_X7_capOf_46))
theorem ft_X7_capOf_49 : F_X7_capOf 49 = J_aload 1 50 := (F_X7_capOf_0_83_r rfl).trans ((F_X7_capOf_39_83_l rfl).trans (ftl_X7_capOf_49))
theorem ft_X7_capOf_50 : F_X7_capOf 50 = J_iconst 32 52 := (F_X7_capOf_0_83_r rfl).trans ((F_X7_capOf_39_83_l rfl).trans (ftl_X7_capOf_50))
theorem ft_X7_capOf_52 : F_X7_capOf 52 = J_iload 3 53 := (F_X7_capOf_0_83_r rfl).trans ((F_X7_capOf_39_83_l rfl).trans (ftl_X7_capOf_52))
theorem ft_X7_capOf_53 : F_X7_capOf 53 = J_iadd 54 := (F_X7_capOf_0_83_r rfl).trans ((F_X7_capOf_39_83_l rfl).trans (ftl_X7_capOf_53))
theorem ft_X7_capOf_54 : F_X7_capOf 54 = J_iaload 55 := (F_X7_capOf_0_83_r rfl).trans ((F_X7_capOf_39_83_l rfl).trans (ftl_X7_capOf_54))
theorem ft_X7_capOf_55 : F_X7_capOf 55 = J_goto 60 := (F_X7_capOf_0_83_r rfl).trans ((F_X7_capOf_39_83_l rfl).trans (ftl_X7_capOf_55))
theorem ft_X7_capOf_58 : F_X7_capOf 58 = J_iload 4 60 := (F_X7_capOf_0_83_r rfl).trans ((F_X7_capOf_39_83_l rfl).trans (ftl_X7_capOf_58))
theorem ft_X7_capOf_60 : F_X7_capOf 60 = J_istore 4 62 := (F_X7_capOf_0_83_r rfl).trans ((F_X7_capOf_39_83_r rfl).trans (ftl_X7_capOf_60))
theorem ft_X7_capOf_62 : F_X7_capOf 62 = J_aload 0 63 := (F_X7_capOf_0_83_r rfl).trans ((F_X7_capOf_39_83_r rfl).trans (ftl_X7_capOf_62))
theorem ft_X7_capOf_63 : F_X7_capOf 63 = J_aload 1 64 := (F_X7_capOf_0_83_r rfl).trans ((F_X7_capOf_39_83_r rfl).trans (ftl_X7_capOf_63))
theorem ft_X7_capOf_64 : F_X7_capOf 64 = J_iload 2 65 := (F_X7_capOf_0_83_r rfl).trans ((F_X7_capOf_39_83_r rfl).trans (ftl_X7_capOf_64))
theorem ft_X7_capOf_65 : F_X7_capOf 65 = J_callV 7 S_X7_isMuteAt 2 68 := (F_X7_capOf_0_83_r rfl).trans ((F_X7_capOf_39_83_r rfl).trans (ftl_X7_capOf_65))
theorem ft_X7_capOf_68 : F_X7_capOf 68 = J_ifeq 81 71 := (F_X7_capOf_0_83_r rfl).trans ((F_X7_capOf_39_83_r rfl).trans (ftl_X7_capOf_68))
theorem ft_X7_capOf_71 : F_X7_capOf 71 = J_iload 4 73 := (F_X7_capOf_0_83_r rfl).trans ((F_X7_capOf_39_83_r rfl).trans (ftl_X7_capOf_71))
theorem ft_X7_capOf_73 : F_X7_capOf 73 = J_iconst 2 74 := (F_X7_capOf_0_83_r rfl).trans ((F_X7_capOf_39_83_r rfl).trans (ftl_X7_capOf_73))
theorem ft_X7_capOf_74 : F_X7_capOf 74 = J_icle 81 77 := (F_X7_capOf_0_83_r rfl).trans ((F_X7_capOf_39_83_r rfl).trans (ftl_X7_capOf_74))
theorem ft_X7_capOf_77 : F_X7_capOf 77 = J_iconst 2 78 := (F_X7_capOf_0_83_r rfl).trans ((F_X7_capOf_39_83_r rfl).trans (ftl_X7_capOf_77))
theorem ft_X7_capOf_78 : F_X7_capOf 78 = J_goto 83 := (F_X7_capOf_0_83_r rfl).trans ((F_X7_capOf_39_83_r rfl).trans (ftl_X7_capOf_78))
theorem ft_X7_capOf_81 : F_X7_capOf 81 = J_iload 4 83 := (F_X7_capOf_0_83_r rfl).trans ((F_X7_capOf_39_83_r rfl).trans (ftl_X7_capOf_81))
theorem ft_X7_capOf_83 : F_X7_capOf 83 = J_ireturn 0 0 := (F_X7_capOf_0_83_r rfl).trans ((F_X7_capOf_39_83_r rfl).trans (ftl_X7_capOf_83))
def S_X7_capOf : jSp := fun nb vs mem Q => jcs vs ≤ 5 ∧ jrun F_X7_capOf [] 80 Q (fun _ _ _ _ _ => False) 0 (jargs vs ++ [none, none]) [] mem (nb, 0, 0)
theorem ok_X7_capOf : jMeets Y_X7_capOf S_X7_capOf := fun _ _ _ _ h => Ok.inl OK_X7_capOf 80 [none, none] pn7 rfl h
theorem s_X7_capOf {nb r q P K B : Nat} {C : Nat → Nat → Int32} {z : Nat → Int64} {l : Int32} {Q : jQ} (m : MS r C P K l) (iv : Inv P K B (C r)) (hq : q < 4) (oq : ¬ C r (4 + q) = 0) : S_X7_capOf nb [.ref 71, .ref r, .int (nI q)] (memS 94 C z) Q = Q (some (.int (mostF (C 5) (C 4) (C r) (nI q) l))) (memS 94 C z) := by
  refine (eq_le rfl).trans ?_
  have h6 := m.h6
  obtain ⟨hP, ⟨c, hc, ec⟩, -⟩ := iv.occ hq oq
  have hc6 : c < 6 := by omega
  obtain ⟨a, ⟨-, ha⟩, ea⟩ := m.s.sv.2.1 q hP
  obtain ⟨-, b, -, -, ⟨-, ⟨-, hb⟩, -⟩, -, eb, -⟩ := m.s.sv.2.2 c hc
  obtain ⟨x, hx, ex, -⟩ := iv.rest hc6
  have v1 : vp_in (nI c) 6 := vp_in_nI hc6 (by decide)
  have v2 : vp_in (nI q) 4 := vp_in_nI hq (by decide)
  unfold mostF
  rw [rgj_1 hq, Nat.zero_add, ec, trf_1 hc6, amps_at hq, rrest_at hc6, ea, eb, ex, minI_nI (show b < 2 ^ 31 by omega) (show a < 2 ^ 31 by omega), minI_nI (show min b a < 2 ^ 31 by omega) (show x < 2 ^ 31 by omega), show (2 : Int32) = nI 2 from rfl, minI_nI (show min (min b a) x < 2 ^ 31 by omega) (show 2 < 2 ^ 31 by omega)]
  have hm := fun (nb : Nat) (z : Nat → Int64) (Q : jQ) => s_X7_isMuteAt (nb := nb) (z := z) (Q := Q) m.r m.s m.l hq hc6 ec
  rw [show (2 : Int32) = nI 2 from rfl] at hm
  simp -implicitDefEqProofs only [jr_0, jr_1, jr_2, j_iconst, j_lconst, j_iload0, j_aload0, j_istore0, j_astore0, j_iinc0, j_iload1, j_aload1, j_istore1, j_astore1, j_iinc1, j_iload2, j_aload2, j_istore2, j_astore2, j_iinc2, j_iload3, j_aload3, j_istore3, j_astore3, j_iinc3, j_iload4, j_aload4, j_istore4, j_astore4, j_iinc4, j_iload5, j_aload5, j_istore5, j_astore5, j_iinc5, j_iload6, j_aload6, j_istore6, j_astore6, j_iinc6, j_iload7, j_aload7, j_istore7, j_astore7, j_iinc7, j_iload8, j_aload8, j_istore8, j_astore8, j_iinc8, j_iadd, j_isub, j_imul, j_iand, j_ior, j_ixor, j_ishl, j_ishr, j_iushr, j_idiv, j_irem, j_ineg, j_ladd, j_lmul, j_land, j_lor, j_lcmp, j_lushr, j_lshl, j_i2l, j_l2i, j_dupI, j_dupR, j_popI, j_dup2, j_ifeq, j_iceq, j_ifne, j_icne, j_iflt, j_iclt, j_ifge, j_icge, j_ifgt, j_icgt, j_ifle, j_icle, j_goto, j_tsw, j_sw0, j_sw1, j_ireturn, j_zreturn, j_lreturn, j_return, j_getfield, j_putI, j_putJ, j_putR, j_iaload, j_baload, j_iastore, j_bastore, j_aaload, j_q, j_aastore, j_acopy, j_mmin, j_mmax, j_mabs, j_objinit, j_new, j_newI, j_newQ, j_sld, j_slen, j_callV0, j_callI0, j_callS0, j_callV1, j_callI1, j_callS1, j_callV2, j_callI2, j_callS2, j_callV3, j_callS3, j_callV4, j_callS4, j_callV5, j_callS5, j_pushS, j_pushN, j_sh0, j_sh1, j_sh2, j_sh3, j_sh4, Int32.reduceAdd, Int32.reduceMul, Int32.reduceSub, Int32.reduceLT, Int32.reduceLE, eq_self, i32_10, i32_01, ne_eq, hrow_s, hrow_n, ne10, ne100, ne1000, ne7, ne4, ne14, ne9973, or_true, true_or, or_false, false_or, not_true_eq_false, not_false_eq_true, false_implies, implies_true, and_true, forall_const, true_implies, jargs_n, jargs_r, jargs_i, List.cons_append, List.nil_append, true_and, Nat.reduceEqDiff, reduceIte, ft_X7_capOf_0, ft_X7_capOf_1, ft_X7_capOf_2, ft_X7_capOf_3, ft_X7_capOf_4, ft_X7_capOf_5, ft_X7_capOf_6, ft_X7_capOf_7, ft_X7_capOf_10, ft_X7_capOf_11, ft_X7_capOf_12, ft_X7_capOf_13, ft_X7_capOf_16, ft_X7_capOf_17, ft_X7_capOf_18, ft_X7_capOf_21, ft_X7_capOf_22, ft_X7_capOf_25, ft_X7_capOf_26, ft_X7_capOf_27, ft_X7_capOf_30, ft_X7_capOf_31, ft_X7_capOf_34, ft_X7_capOf_35, ft_X7_capOf_36, ft_X7_capOf_38, ft_X7_capOf_39, ft_X7_capOf_41, ft_X7_capOf_42, ft_X7_capOf_43, ft_X7_capOf_44, ft_X7_capOf_46, ft_X7_capOf_49, ft_X7_capOf_50, ft_X7_capOf_52, ft_X7_capOf_53, ft_X7_capOf_54, ft_X7_capOf_55, ft_X7_capOf_58, ft_X7_capOf_60, ft_X7_capOf_62, ft_X7_capOf_63, ft_X7_capOf_64, ft_X7_capOf_65, ft_X7_capOf_68, ft_X7_capOf_71, ft_X7_capOf_73, ft_X7_capOf_74, ft_X7_capOf_77, ft_X7_capOf_78, ft_X7_capOf_81, ft_X7_capOf_83, fl_71_6, fl_71_3, al_75, al_73, rc_71, ar_0 m.r hq, ec, ar_32 m.r hc6, v1, v2, nI_clamp (show c < 2 ^ 31 by omega), nI_clamp (show q < 2 ^ 31 by omega), m.s.mx hc6, m.s.am hq, ea, eb, ex, nI_leq (show a < 2 ^ 31 by omega) (show b < 2 ^ 31 by omega), hm, zb_0]
  by_cases g1 : a ≤ b
  · have k1 : min b a = a := by omega
    simp only [g1, k1, nI_leq (show a < 2 ^ 31 by omega) (show x < 2 ^ 31 by omega), not_true_eq_false, not_false_eq_true, true_implies, false_implies, implies_true, and_true, true_and, forall_const]
    by_cases g2 : a ≤ x
    · have k2 : min a x = a := by omega
      simp only [g2, k2, not_true_eq_false, not_false_eq_true, true_implies, false_implies, implies_true, and_true, true_and, forall_const]
      by_cases g3 : kdF (C 5) (C r) (nI q) l = nI 2
      · rw [pick_t g3]
        by_cases g4 : a ≤ 2
        · have k3 : min a 2 = a := by omega
          have g5 : (nI a ≤ 2) = True := eq_true (by rw [show (2 : Int32) = nI 2 from rfl]; exact nI_le g4 (by omega))
          simp only [g3, g5, k3, not_true_eq_false, not_false_eq_true, true_implies, false_implies, implies_true, and_true, true_and, forall_const]
        · have k3 : min a 2 = 2 := by omega
          have g5 : (nI a ≤ 2) = False := eq_false fun g => by rw [show (2 : Int32) = nI 2 from rfl, nI_leq (by omega) (by omega)] at g; omega
          simp only [g3, g5, k3, not_true_eq_false, not_false_eq_true, true_implies, false_implies, implies_true, and_true, true_and, forall_const]
          rfl
      · rw [pick_f g3]
        simp only [g3, not_true_eq_false, not_false_eq_true, true_implies, false_implies, implies_true, and_true, true_and, forall_const]
    · have k2 : min a x = x := by omega
      simp only [g2, k2, not_true_eq_false, not_false_eq_true, true_implies, false_implies, implies_true, and_true, true_and, forall_const]
      by_cases g3 : kdF (C 5) (C r) (nI q) l = nI 2
      · rw [pick_t g3]
        by_cases g4 : x ≤ 2
        · have k3 : min x 2 = x := by omega
          have g5 : (nI x ≤ 2) = True := eq_true (by rw [show (2 : Int32) = nI 2 from rfl]; exact nI_le g4 (by omega))
          simp only [g3, g5, k3, not_true_eq_false, not_false_eq_true, true_implies, false_implies, implies_true, and_true, true_and, forall_const]
        · have k3 : min x 2 = 2 := by omega
          have g5 : (nI x ≤ 2) = False := eq_false fun g => by rw [show (2 : Int32) = nI 2 from rfl, nI_leq (by omega) (by omega)] at g; omega
          simp only [g3, g5, k3, not_true_eq_false, not_false_eq_true, true_implies, false_implies, implies_true, and_true, true_and, forall_const]
          rfl
      · rw [pick_f g3]
        simp only [g3, not_true_eq_false, not_false_eq_true, true_implies, false_implies, implies_true, and_true, true_and, forall_const]
  · have k1 : min b a = b := by omega
    simp only [g1, k1, nI_leq (show b < 2 ^ 31 by omega) (show x < 2 ^ 31 by omega), not_true_eq_false, not_false_eq_true, true_implies, false_implies, implies_true, and_true, true_and, forall_const]
    by_cases g2 : b ≤ x
    · have k2 : min b x = b := by omega
      simp only [g2, k2, not_true_eq_false, not_false_eq_true, true_implies, false_implies, implies_true, and_true, true_and, forall_const]
      by_cases g3 : kdF (C 5) (C r) (nI q) l = nI 2
      · rw [pick_t g3]
        by_cases g4 : b ≤ 2
        · have k3 : min b 2 = b := by omega
          have g5 : (nI b ≤ 2) = True := eq_true (by rw [show (2 : Int32) = nI 2 from rfl]; exact nI_le g4 (by omega))
          simp only [g3, g5, k3, not_true_eq_false, not_false_eq_true, true_implies, false_implies, implies_true, and_true, true_and, forall_const]
        · have k3 : min b 2 = 2 := by omega
          have g5 : (nI b ≤ 2) = False := eq_false fun g => by rw [show (2 : Int32) = nI 2 from rfl, nI_leq (by omega) (by omega)] at g; omega
          simp only [g3, g5, k3, not_true_eq_false, not_false_eq_true, true_implies, false_implies, implies_true, and_true, true_and, forall_const]
          rfl
      · rw [pick_f g3]
        simp only [g3, not_true_eq_false, not_false_eq_true, true_implies, false_implies, implies_true, and_true, true_and, forall_const]
    · have k2 : min b x = x := by omega
      simp only [g2, k2, not_true_eq_false, not_false_eq_true, true_implies, false_implies, implies_true, and_true, true_and, forall_const]
      by_cases g3 : kdF (C 5) (C r) (nI q) l = nI 2
      · rw [pick_t g3]
        by_cases g4 : x ≤ 2
        · have k3 : min x 2 = x := by omega
          have g5 : (nI x ≤ 2) = True := eq_true (by rw [show (2 : Int32) = nI 2 from rfl]; exact nI_le g4 (by omega))
          simp only [g3, g5, k3, not_true_eq_false, not_false_eq_true, true_implies, false_implies, implies_true, and_true, true_and, forall_const]
        · have k3 : min x 2 = 2 := by omega
          have g5 : (nI x ≤ 2) = False := eq_false fun g => by rw [show (2 : Int32) = nI 2 from rfl, nI_leq (by omega) (by omega)] at g; omega
          simp only [g3, g5, k3, not_true_eq_false, not_false_eq_true, true_implies, false_implies, implies_true, and_true, true_and, forall_const]
          rfl
      · rw [pick_f g3]
        simp only [g3, not_true_eq_false, not_false_eq_true, true_implies, false_implies, implies_true, and_true, true_and, forall_const]
