/-! rows of 40 -/
def Cut (ρ : Nat → Int32) : Prop := ∀ i, 40 ≤ i → ρ i = 0
def cutR (ρ : Nat → Int32) : Nat → Int32 := fun i => if i < 40 then ρ i else 0
theorem Cut.upd {ρ : Nat → Int32} (h : Cut ρ) {k : Nat} {x : Int32} (hk : k < 40) : Cut (upd ρ k x) := fun i hi => by rw [upd_ne (by omega)]; exact h i hi
theorem Cut.ext {ρ ρ' : Nat → Int32} (h : Cut ρ) (h' : Cut ρ') (e : ∀ i, i < 40 → ρ i = ρ' i) : ρ = ρ' := by
  funext i
  by_cases hi : i < 40
  · exact e i hi
  · rw [h i (by omega), h' i (by omega)]
theorem rtake_at {ρ0 ρ : Nat → Int32} {i : Nat} (h : i < 40) : rtake ρ0 ρ i = ρ0 i := by
  unfold rtake
  by_cases h9 : i = 39
  · rw [h9, upd_eq]
  · rw [upd_ne h9]
    by_cases h8 : i = 38
    · rw [h8, upd_eq]
    · rw [upd_ne h8]
      unfold rmixR rmixC
      by_cases h3 : 32 ≤ i
      · rw [if_pos ⟨h3, by omega⟩]
      · rw [if_neg (by omega), if_pos (by omega)]
theorem rtake_ge {ρ0 ρ : Nat → Int32} {i : Nat} (h : 40 ≤ i) : rtake ρ0 ρ i = ρ i := by
  unfold rtake
  rw [upd_ne (by omega), upd_ne (by omega)]
  unfold rmixR rmixC
  rw [if_neg (by omega), if_neg (by omega)]
theorem rtake_cut {ρ0 ρ : Nat → Int32} (h0 : Cut ρ0) (h : Cut ρ) : rtake ρ0 ρ = ρ0 := by
  funext i
  by_cases hi : i < 40
  · exact rtake_at hi
  · rw [rtake_ge (by omega), h i (by omega), h0 i (by omega)]
theorem rset_Cut {ρ : Nat → Int32} {p w x : Int32} (h : Cut ρ) : Cut (rset ρ p w x) := by
  unfold rset
  by_cases hc : p < 0 ∨ 4 ≤ p ∨ w < 1 ∨ 8 < w
  · rw [if_pos hc]; exact h
  · rw [if_neg hc]
    obtain ⟨i, hi, e⟩ := rset_in hc
    rw [e, nI_clamp (by omega)]
    exact h.upd (by have := cix_lt hi; omega)
theorem rsetR_Cut {ρ : Nat → Int32} {c x : Int32} (h : Cut ρ) : Cut (rsetR ρ c x) := by
  unfold rsetR
  by_cases hc : c < 0 ∨ 6 ≤ c
  · rw [if_pos hc]; exact h
  · rw [if_neg hc]
    obtain ⟨i, hi, e⟩ := rsetR_in hc
    rw [e, nI_clamp (by omega)]
    exact h.upd (by omega)
theorem pick_P {α : Sort _} {P : α → Prop} {c : Prop} {a b : α} (ha : P a) (hb : P b) : P (pick c a b) := by
  by_cases h : c
  · rw [pick_t h]; exact ha
  · rw [pick_f h]; exact hb
theorem rstartF_Cut {ρ : Nat → Int32} {p x : Int32} (h : Cut ρ) : Cut (rstartF ρ p x) := rset_Cut (rset_Cut (rset_Cut (rset_Cut (rset_Cut h))))
theorem foldP_Cut {f : Int32 → (Nat → Int32) → (Nat → Int32)} (hf : ∀ p ρ, Cut ρ → Cut (f p ρ)) {ρ : Nat → Int32} (h : Cut ρ) : ∀ k, Cut (foldP f ρ k)
  | 0 => h
  | k + 1 => hf _ _ (foldP_Cut hf h k)
theorem silStep_Cut {T ρ : Nat → Int32} {pat sil l p : Int32} (h : Cut ρ) : Cut (silStep T pat sil l p ρ) := by
  unfold silStep
  exact pick_P (pick_P (rset_Cut h) (rset_Cut (rset_Cut h))) h
theorem stStep_Cut {T ρ : Nat → Int32} {l p : Int32} (h : Cut ρ) : Cut (stStep T l p ρ) := by
  unfold stStep growF
  exact pick_P (pick_P (rset_Cut (rset_Cut h)) (rset_Cut h)) (pick_P (rset_Cut h) (pick_P (rset_Cut h) h))
theorem meterF_Cut {ρ : Nat → Int32} {p a : Int32} (h : Cut ρ) : Cut (meterF ρ p a) := rset_Cut (rset_Cut (rsetR_Cut h))
theorem drawStep_Cut {T ρ : Nat → Int32} {l p g : Int32} (h : Cut ρ) : Cut (drawStep T l p g ρ) := by
  unfold drawStep exceedF
  exact pick_P (pick_P (pick_P (rset_Cut (rset_Cut (meterF_Cut h))) (rset_Cut (meterF_Cut h))) (meterF_Cut h)) h
theorem drawF_Cut {T ρ o g : Nat → Int32} {l : Int32} (h : Cut ρ) : ∀ k, Cut (drawF T ρ o g l k)
  | 0 => h
  | k + 1 => drawStep_Cut (drawF_Cut h k)
theorem mnA_Cut {T ρ : Nat → Int32} {pat sil l : Int32} {P : Nat} (h : Cut ρ) : Cut (mnA T pat P sil l ρ) := foldP_Cut (fun _ _ h => stStep_Cut h) (foldP_Cut (fun _ _ h => silStep_Cut h) h P) P
theorem mnF_Cut {T Am : Nat → Int32} {pat sil fed l : Int32} {P : Nat} {x : jR3} (h : Cut x.1) : Cut (mnF T Am pat P sil fed l x).1 := Cut.upd (drawF_Cut (mnA_Cut h) _) (by decide)
theorem itM_Cut {T Am : Nat → Int32} {pat sil fed l : Int32} {P : Nat} {x : jR3} (h : Cut x.1) : ∀ n, Cut (itM (mnF T Am pat P sil fed l) n x).1
  | 0 => h
  | n + 1 => mnF_Cut (itM_Cut h n)
theorem tellR_Cut {ρ : Nat → Int32} {p m : Int32} (h : Cut ρ) : Cut (tellR ρ p m) := by
  unfold tellR climbF
  exact pick_P (rset_Cut (rset_Cut (rset_Cut (rset_Cut h)))) (pick_P (rset_Cut h) (pick_P (pick_P (rset_Cut (rset_Cut (rset_Cut h))) (rset_Cut (rset_Cut h))) (rset_Cut (rset_Cut h))))
theorem s_takeC {nb d s s0 : Nat} {C : Nat → Nat → Int32} {z : Nat → Int64} {Q : jQ} (h : jSt s d) (h0 : jSt s0 d) (hne : s0 ≠ s) (c : Cut (C s)) (c0 : Cut (C s0)) : S_X4_take nb [.ref s, .ref s0] (memS d C z) Q = Q none (memS d (hrow C s (C s0)) z) := by
  rw [s_X4_take h h0 hne, rtake_cut c0 c]
/-! begin -/
noncomputable def bgF (C : Nat → Nat → Int32) : Nat → Int32 := fun i => if i < 4 then -9 else if i < 32 then 0 else if i < 38 then pick (okCar C (nI (i - 32))) (traitF (C 5) (nI (i - 32)) 0) 0 else if i = 38 then C 3 4 else 0
noncomputable def bgR (C : Nat → Nat → Int32) (ρ : Nat → Int32) (j : Nat) : Nat → Int32 := fun i => if i < 4 then -9 else if i < 32 then 0 else if i < 32 + j then pick (okCar C (nI (i - 32))) (traitF (C 5) (nI (i - 32)) 0) 0 else ρ i
theorem bgR_s {C : Nat → Nat → Int32} {ρ : Nat → Int32} {j : Nat} : upd (bgR C ρ j) (32 + j) (pick (okCar C (nI j)) (traitF (C 5) (nI j) 0) 0) = bgR C ρ (j + 1) := by
  funext i
  by_cases hi : i = 32 + j
  · rw [hi, upd_eq]
    unfold bgR
    rw [if_neg (by omega), if_neg (by omega), if_pos (by omega), show 32 + j - 32 = j by omega]
  · rw [upd_ne hi]
    unfold bgR
    by_cases h1 : i < 4
    · rw [if_pos h1, if_pos h1]
    · rw [if_neg h1, if_neg h1]
      by_cases h2 : i < 32
      · rw [if_pos h2, if_pos h2]
      · rw [if_neg h2, if_neg h2]
        by_cases h3 : i < 32 + j
        · rw [if_pos h3, if_pos (by omega)]
        · rw [if_neg h3, if_neg (by omega)]
theorem bgR_end {C : Nat → Nat → Int32} {ρ : Nat → Int32} (h : Cut ρ) : upd (upd (bgR C ρ 6) 38 (C 3 4)) 39 0 = bgF C := by
  funext i
  by_cases h9 : i = 39
  · rw [h9, upd_eq]; rfl
  · rw [upd_ne h9]
    by_cases h8 : i = 38
    · rw [h8, upd_eq]; rfl
    · rw [upd_ne h8]
      unfold bgR bgF
      by_cases h1 : i < 4
      · rw [if_pos h1, if_pos h1]
      · rw [if_neg h1, if_neg h1]
        by_cases h2 : i < 32
        · rw [if_pos h2, if_pos h2]
        · rw [if_neg h2, if_neg h2]
          by_cases h3 : i < 38
          · rw [if_pos (by omega), if_pos h3]
          · rw [if_neg (by omega), if_neg h3, if_neg h8, h i (by omega)]
def S_X4_begin : jSp := fun _ vs mem Q => ∃ d C z s, vs = [.ref s, .ref 3] ∧ mem = memS d C z ∧ jSt s d ∧ jD d ∧ Cut (C s) ∧ Q none (memS d (hrow C s (bgF C)) z)
def F_X4_begin_0 : Nat → jT := fun pc => (bif Nat.blt pc 8 then (bif Nat.blt pc 3 then (bif Nat.blt pc 1 then (bif Nat.beq pc 0 then J_iconst 0 1 else jbad) else (bif Nat.blt pc 2 then (bif Nat.beq pc 1 then J_istore 2 2 else jbad) else (bif Nat.beq pc 2 then J_iload 2 3 else jbad))) else (bif Nat.blt pc 4 then (bif Nat.beq pc 3 then J_iconst 4 4 else jbad) else (bif Nat.blt pc 7 then (bif Nat.beq pc 4 then J_icge 43 7 else jbad) else (bif Nat.beq pc 7 then J_aload 0 8 else jbad)))) else (bif Nat.blt pc 12 then (bif Nat.blt pc 9 then (bif Nat.beq pc 8 then J_iload 2 9 else jbad) else (bif Nat.blt pc 10 then (bif Nat.beq pc 9 then J_iconst 1 10 else jbad) else (bif Nat.beq pc 10 then J_iconst (-9) 12 else jbad))) else (bif Nat.blt pc 16 then (bif Nat.blt pc 15 then (bif Nat.beq pc 12 then J_callV 4 S_X4_set 3 15 else jbad) else (bif Nat.beq pc 15 then J_aload 0 16 else jbad)) else (bif Nat.blt pc 17 then (bif Nat.beq pc 16 then J_iload 2 17 else jbad) else (bif Nat.beq pc 17 then J_iconst 7 19 else jbad)))))
theorem ftl_X4_begin_0 : F_X4_begin_0 0 = J_iconst 0 1 := rfl
theorem ftl_X4_begin_1 : F_X4_begin_0 1 = J_istore 2 2 := rfl
theorem ftl_X4_begin_2 : F_X4_begin_0 2 = J_iload 2 3 := rfl
theorem ftl_X4_begin_3 : F_X4_begin_0 3 = J_iconst 4 4 := rfl
theorem ftl_X4_begin_4 : F_X4_begin_0 4 = J_icge 43 7 := rfl
theorem ftl_X4_begin_7 : F_X4_begin_0 7 = J_aload 0 8 := rfl
theorem ftl_X4_begin_8 : F_X4_begin_0 8 = J_iload 2 9 := rfl
theorem ftl_X4_begin_9 : F_X4_begin_0 9 = J_iconst 1 10 := rfl
theorem ftl_X4_begin_10 : F_X4_begin_0 10 = J_iconst (-9) 12 := rfl
theorem ftl_X4_begin_12 : F_X4_begin_0 12 = J_callV 4 S_X4_set 3 15 := rfl
theorem ftl_X4_begin_15 : F_X4_begin_0 15 = J_aload 0 16 := rfl
theorem ftl_X4_begin_16 : F_X4_begin_0 16 = J_iload 2 17 := rfl
theorem ftl_X4_begin_17 : F_X4_begin_0 17 = J_iconst 7 19 := rfl
theorem F_X4_begin_0_ok : jOK Y_X4_begin none (F_X4_begin_0) := (jOK_node (jOK_node (jOK_node (jOK_leaf (sn_iconst dX4_begin_0 rfl rfl)) (jOK_node (jOK_leaf (sn_istore_n dX4_begin_1 rfl rfl (by decide))) (jOK_leaf (sn_iload_n dX4_begin_2 rfl rfl)))) (jOK_node (jOK_leaf (sn_iconst dX4_begin_3 rfl rfl)) (jOK_node (jOK_leaf (sn_icge dX4_begin_4 rfl rfl)) (jOK_leaf (sn_aload_n dX4_begin_7 rfl rfl))))) (jOK_node (jOK_node (jOK_leaf (sn_iload_n dX4_begin_8 rfl rfl)) (jOK_node (jOK_leaf (sn_iconst dX4_begin_9 rfl rfl)) (jOK_leaf (sn_bipush dX4_begin_10 rfl rfl)))) (jOK_node (jOK_node (jOK_leaf (sn_callV (Y' := Y_X4_set) ok_X4_set dX4_begin_12 rfl rfl rfl tw_150 tw_151 tw_152 tw_5 jc_X4_set rfl ⟨by decide, by decide, rfl⟩ ⟨by decide, by decide⟩)) (jOK_leaf (sn_aload_n dX4_begin_15 rfl rfl))) (jOK_node (jOK_leaf (sn_iload_n dX4_begin_16 rfl rfl)) (jOK_leaf (sn_bipush dX4_begin_17 rfl rfl))))))
def F_X4_begin_19 : Nat → jT := fun pc => (bif Nat.blt pc 31 then (bif Nat.blt pc 24 then (bif Nat.blt pc 20 then (bif Nat.beq pc 19 then J_iconst 0 20 else jbad) else (bif Nat.blt pc 23 then (bif Nat.beq pc 20 then J_callV 4 S_X4_set 3 23 else jbad) else (bif Nat.beq pc 23 then J_aload 0 24 else jbad))) else (bif Nat.blt pc 27 then (bif Nat.blt pc 25 then (bif Nat.beq pc 24 then J_iload 2 25 else jbad) else (bif Nat.beq pc 25 then J_iconst 8 27 else jbad)) else (bif Nat.blt pc 28 then (bif Nat.beq pc 27 then J_iconst 0 28 else jbad) else (bif Nat.beq pc 28 then J_callV 4 S_X4_set 3 31 else jbad)))) else (bif Nat.blt pc 34 then (bif Nat.blt pc 32 then (bif Nat.beq pc 31 then J_aload 0 32 else jbad) else (bif Nat.blt pc 33 then (bif Nat.beq pc 32 then J_iload 2 33 else jbad) else (bif Nat.beq pc 33 then J_iconst 0 34 else jbad))) else (bif Nat.blt pc 40 then (bif Nat.blt pc 37 then (bif Nat.beq pc 34 then J_callV 4 S_X4_restart 2 37 else jbad) else (bif Nat.beq pc 37 then J_iinc 2 1 40 else jbad)) else (bif Nat.blt pc 43 then (bif Nat.beq pc 40 then J_goto 2 else jbad) else (bif Nat.beq pc 43 then J_iconst 0 44 else jbad)))))
theorem ftl_X4_begin_19 : F_X4_begin_19 19 = J_iconst 0 20 := rfl
theorem ftl_X4_begin_20 : F_X4_begin_19 20 = J_callV 4 S_X4_set 3 23 := rfl
theorem ftl_X4_begin_23 : F_X4_begin_19 23 = J_aload 0 24 := rfl
theorem ftl_X4_begin_24 : F_X4_begin_19 24 = J_iload 2 25 := rfl
theorem ftl_X4_begin_25 : F_X4_begin_19 25 = J_iconst 8 27 := rfl
theorem ftl_X4_begin_27 : F_X4_begin_19 27 = J_iconst 0 28 := rfl
theorem ftl_X4_begin_28 : F_X4_begin_19 28 = J_callV 4 S_X4_set 3 31 := rfl
theorem ftl_X4_begin_31 : F_X4_begin_19 31 = J_aload 0 32 := rfl
theorem ftl_X4_begin_32 : F_X4_begin_19 32 = J_iload 2 33 := rfl
theorem ftl_X4_begin_33 : F_X4_begin_19 33 = J_iconst 0 34 := rfl
theorem ftl_X4_begin_34 : F_X4_begin_19 34 = J_callV 4 S_X4_restart 2 37 := rfl
theorem ftl_X4_begin_37 : F_X4_begin_19 37 = J_iinc 2 1 40 := rfl
theorem ftl_X4_begin_40 : F_X4_begin_19 40 = J_goto 2 := rfl
theorem ftl_X4_begin_43 : F_X4_begin_19 43 = J_iconst 0 44 := rfl
theorem F_X4_begin_19_ok : jOK Y_X4_begin none (F_X4_begin_19) := (jOK_node (jOK_node (jOK_node (jOK_leaf (sn_iconst dX4_begin_19 rfl rfl)) (jOK_node (jOK_leaf (sn_callV (Y' := Y_X4_set) ok_X4_set dX4_begin_20 rfl rfl rfl tw_150 tw_151 tw_152 tw_5 jc_X4_set rfl ⟨by decide, by decide, rfl⟩ ⟨by decide, by decide⟩)) (jOK_leaf (sn_aload_n dX4_begin_23 rfl rfl)))) (jOK_node (jOK_node (jOK_leaf (sn_iload_n dX4_begin_24 rfl rfl)) (jOK_leaf (sn_bipush dX4_begin_25 rfl rfl))) (jOK_node (jOK_leaf (sn_iconst dX4_begin_27 rfl rfl)) (jOK_leaf (sn_callV (Y' := Y_X4_set) ok_X4_set dX4_begin_28 rfl rfl rfl tw_150 tw_151 tw_152 tw_5 jc_X4_set rfl ⟨by decide, by decide, rfl⟩ ⟨by decide, by decide⟩))))) (jOK_node (jOK_node (jOK_leaf (sn_aload_n dX4_begin_31 rfl rfl)) (jOK_node (jOK_leaf (sn_iload_n dX4_begin_32 rfl rfl)) (jOK_leaf (sn_iconst dX4_begin_33 rfl rfl)))) (jOK_node (jOK_node (jOK_leaf (sn_callV (Y' := Y_X4_restart) ok_X4_restart dX4_begin_34 rfl rfl rfl tw_154 tw_155 tw_156 tw_5 jc_X4_restart rfl ⟨by decide, by decide, rfl⟩ ⟨by decide, by decide⟩)) (jOK_leaf (sn_iinc dX4_begin_37 rfl rfl (by decide)))) (jOK_node (jOK_leaf (sn_goto dX4_begin_40 rfl)) (jOK_leaf (sn_iconst dX4_begin_43 rfl rfl))))))
def F_X4_begin_0_43 : Nat → jT := fun pc => bif Nat.blt pc 19 then F_X4_begin_0 pc else F_X4_begin_19 pc
theorem F_X4_begin_0_43_ok : jOK Y_X4_begin none (F_X4_begin_0_43) := jOK_node (F_X4_begin_0_ok) (F_X4_begin_19_ok)
def F_X4_begin_44 : Nat → jT := fun pc => (bif Nat.blt pc 56 then (bif Nat.blt pc 48 then (bif Nat.blt pc 45 then (bif Nat.beq pc 44 then J_istore 2 45 else jbad) else (bif Nat.blt pc 46 then (bif Nat.beq pc 45 then J_iload 2 46 else jbad) else (bif Nat.beq pc 46 then J_iconst 6 48 else jbad))) else (bif Nat.blt pc 52 then (bif Nat.blt pc 51 then (bif Nat.beq pc 48 then J_icge 81 51 else jbad) else (bif Nat.beq pc 51 then J_aload 0 52 else jbad)) else (bif Nat.blt pc 55 then (bif Nat.beq pc 52 then J_getfield 4 1 55 else jbad) else (bif Nat.beq pc 55 then J_iload 2 56 else jbad)))) else (bif Nat.blt pc 61 then (bif Nat.blt pc 57 then (bif Nat.beq pc 56 then J_aload 1 57 else jbad) else (bif Nat.blt pc 58 then (bif Nat.beq pc 57 then J_iload 2 58 else jbad) else (bif Nat.beq pc 58 then J_callV 3 S_X3_hasCar 1 61 else jbad))) else (bif Nat.blt pc 65 then (bif Nat.blt pc 64 then (bif Nat.beq pc 61 then J_ifeq 73 64 else jbad) else (bif Nat.beq pc 64 then J_aload 1 65 else jbad)) else (bif Nat.blt pc 66 then (bif Nat.beq pc 65 then J_iload 2 66 else jbad) else (bif Nat.beq pc 66 then J_iconst 0 67 else jbad)))))
theorem ftl_X4_begin_44 : F_X4_begin_44 44 = J_istore 2 45 := rfl
theorem ftl_X4_begin_45 : F_X4_begin_44 45 = J_iload 2 46 := rfl
theorem ftl_X4_begin_46 : F_X4_begin_44 46 = J_iconst 6 48 := rfl
theorem ftl_X4_begin_48 : F_X4_begin_44 48 = J_icge 81 51 := rfl
theorem ftl_X4_begin_51 : F_X4_begin_44 51 = J_aload 0 52 := rfl
theorem ftl_X4_begin_52 : F_X4_begin_44 52 = J_getfield 4 1 55 := rfl
theorem ftl_X4_begin_55 : F_X4_begin_44 55 = J_iload 2 56 := rfl
theorem ftl_X4_begin_56 : F_X4_begin_44 56 = J_aload 1 57 := rfl
theorem ftl_X4_begin_57 : F_X4_begin_44 57 = J_iload 2 58 := rfl
theorem ftl_X4_begin_58 : F_X4_begin_44 58 = J_callV 3 S_X3_hasCar 1 61 := rfl
theorem ftl_X4_begin_61 : F_X4_begin_44 61 = J_ifeq 73 64 := rfl
theorem ftl_X4_begin_64 : F_X4_begin_44 64 = J_aload 1 65 := rfl
theorem ftl_X4_begin_65 : F_X4_begin_44 65 = J_iload 2 66 := rfl
theorem ftl_X4_begin_66 : F_X4_begin_44 66 = J_iconst 0 67 := rfl
theorem F_X4_begin_44_ok : jOK Y_X4_begin none (F_X4_begin_44) := (jOK_node (jOK_node (jOK_node (jOK_leaf (sn_istore_n dX4_begin_44 rfl rfl (by decide))) (jOK_node (jOK_leaf (sn_iload_n dX4_begin_45 rfl rfl)) (jOK_leaf (sn_bipush dX4_begin_46 rfl rfl)))) (jOK_node (jOK_node (jOK_leaf (sn_icge dX4_begin_48 rfl rfl)) (jOK_leaf (sn_aload_n dX4_begin_51 rfl rfl))) (jOK_node (jOK_leaf (sn_getfield dX4_begin_52 rfl rfl (by decide) tw_90 jin4)) (jOK_leaf (sn_iload_n dX4_begin_55 rfl rfl))))) (jOK_node (jOK_node (jOK_leaf (sn_aload_n dX4_begin_56 rfl rfl)) (jOK_node (jOK_leaf (sn_iload_n dX4_begin_57 rfl rfl)) (jOK_leaf (sn_callV (Y' := Y_X3_hasCar) ok_X3_hasCar dX4_begin_58 rfl rfl rfl tw_158 tw_159 tw_160 tw_3 jc_X3_hasCar rfl ⟨by decide, by decide, rfl⟩ ⟨by decide, by decide⟩)))) (jOK_node (jOK_node (jOK_leaf (sn_ifeq dX4_begin_61 rfl rfl)) (jOK_leaf (sn_aload_n dX4_begin_64 rfl rfl))) (jOK_node (jOK_leaf (sn_iload_n dX4_begin_65 rfl rfl)) (jOK_leaf (sn_iconst dX4_begin_66 rfl rfl))))))
def F_X4_begin_67 : Nat → jT := fun pc => (bif Nat.blt pc 82 then (bif Nat.blt pc 74 then (bif Nat.blt pc 70 then (bif Nat.beq pc 67 then J_callV 3 S_X3_trait 2 70 else jbad) else (bif Nat.blt pc 73 then (bif Nat.beq pc 70 then J_goto 74 else jbad) else (bif Nat.beq pc 73 then J_iconst 0 74 else jbad))) else (bif Nat.blt pc 78 then (bif Nat.blt pc 75 then (bif Nat.beq pc 74 then J_iastore 75 else jbad) else (bif Nat.beq pc 75 then J_iinc 2 1 78 else jbad)) else (bif Nat.blt pc 81 then (bif Nat.beq pc 78 then J_goto 45 else jbad) else (bif Nat.beq pc 81 then J_aload 0 82 else jbad)))) else (bif Nat.blt pc 89 then (bif Nat.blt pc 83 then (bif Nat.beq pc 82 then J_aload 1 83 else jbad) else (bif Nat.blt pc 86 then (bif Nat.beq pc 83 then J_getfield 3 4 86 else jbad) else (bif Nat.beq pc 86 then J_putI 4 2 89 else jbad))) else (bif Nat.blt pc 91 then (bif Nat.blt pc 90 then (bif Nat.beq pc 89 then J_aload 0 90 else jbad) else (bif Nat.beq pc 90 then J_iconst 0 91 else jbad)) else (bif Nat.blt pc 94 then (bif Nat.beq pc 91 then J_putI 4 3 94 else jbad) else (bif Nat.beq pc 94 then J_return 0 0 else jbad)))))
theorem ftl_X4_begin_67 : F_X4_begin_67 67 = J_callV 3 S_X3_trait 2 70 := rfl
theorem ftl_X4_begin_70 : F_X4_begin_67 70 = J_goto 74 := rfl
theorem ftl_X4_begin_73 : F_X4_begin_67 73 = J_iconst 0 74 := rfl
theorem ftl_X4_begin_74 : F_X4_begin_67 74 = J_iastore 75 := rfl
theorem ftl_X4_begin_75 : F_X4_begin_67 75 = J_iinc 2 1 78 := rfl
theorem ftl_X4_begin_78 : F_X4_begin_67 78 = J_goto 45 := rfl
theorem ftl_X4_begin_81 : F_X4_begin_67 81 = J_aload 0 82 := rfl
theorem ftl_X4_begin_82 : F_X4_begin_67 82 = J_aload 1 83 := rfl
theorem ftl_X4_begin_83 : F_X4_begin_67 83 = J_getfield 3 4 86 := rfl
theorem ftl_X4_begin_86 : F_X4_begin_67 86 = J_putI 4 2 89 := rfl
theorem ftl_X4_begin_89 : F_X4_begin_67 89 = J_aload 0 90 := rfl
theorem ftl_X4_begin_90 : F_X4_begin_67 90 = J_iconst 0 91 := rfl
theorem ftl_X4_begin_91 : F_X4_begin_67 91 = J_putI 4 3 94 := rfl
theorem ftl_X4_begin_94 : F_X4_begin_67 94 = J_return 0 0 := rfl
theorem F_X4_begin_67_ok : jOK Y_X4_begin none (F_X4_begin_67) := (jOK_node (jOK_node (jOK_node (jOK_leaf (sn_callV (Y' := Y_X3_trait) ok_X3_trait dX4_begin_67 rfl rfl rfl tw_162 tw_163 tw_164 tw_3 jc_X3_trait rfl ⟨by decide, by decide, rfl⟩ ⟨by decide, by decide⟩)) (jOK_node (jOK_leaf (sn_goto dX4_begin_70 rfl)) (jOK_leaf (sn_iconst dX4_begin_73 rfl rfl)))) (jOK_node (jOK_node (jOK_leaf (sn_iastore dX4_begin_74 rfl)) (jOK_leaf (sn_iinc dX4_begin_75 rfl rfl (by decide)))) (jOK_node (jOK_leaf (sn_goto dX4_begin_78 rfl)) (jOK_leaf (sn_aload_n dX4_begin_81 rfl rfl))))) (jOK_node (jOK_node (jOK_leaf (sn_aload_n dX4_begin_82 rfl rfl)) (jOK_node (jOK_leaf (sn_getfield dX4_begin_83 rfl rfl (by decide) tw_50 jin3)) (jOK_leaf (sn_putI tyX4 dX4_begin_86 rfl rfl (by decide) tw_91 jin4 tyX4_ok nmX4 rfl rfl)))) (jOK_node (jOK_node (jOK_leaf (sn_aload_n dX4_begin_89 rfl rfl)) (jOK_leaf (sn_iconst dX4_begin_90 rfl rfl))) (jOK_node (jOK_leaf (sn_putI tyX4 dX4_begin_91 rfl rfl (by decide) tw_94 jin4 tyX4_ok nmX4 rfl rfl)) (jOK_leaf (sn_return dX4_begin_94 rfl rfl))))))
def F_X4_begin_44_94 : Nat → jT := fun pc => bif Nat.blt pc 67 then F_X4_begin_44 pc else F_X4_begin_67 pc
theorem F_X4_begin_44_94_ok : jOK Y_X4_begin none (F_X4_begin_44_94) := jOK_node (F_X4_begin_44_ok) (F_X4_begin_67_ok)
def F_X4_begin_0_94 : Nat → jT := fun pc => bif Nat.blt pc 44 then F_X4_begin_0_43 pc else F_X4_begin_44_94 pc
theorem F_X4_begin_0_94_ok : jOK Y_X4_begin none (F_X4_begin_0_94) := jOK_node (F_X4_begin_0_43_ok) (F_X4_begin_44_94_ok)
def F_X4_begin : Nat → jT := F_X4_begin_0_94
theorem OK_X4_begin : jOK Y_X4_begin none (F_X4_begin) := F_X4_begin_0_94_ok
theorem ft_X4_begin_0 : F_X4_begin 0 = J_iconst 0 1 := ftl_X4_begin_0
theorem ft_X4_begin_1 : F_X4_begin 1 = J_istore 2 2 := ftl_X4_begin_1
theorem ft_X4_begin_2 : F_X4_begin 2 = J_iload 2 3 := ftl_X4_begin_2
theorem ft_X4_begin_3 : F_X4_begin 3 = J_iconst 4 4 := ftl_X4_begin_3
theorem ft_X4_begin_4 : F_X4_begin 4 = J_icge 43 7 := ftl_X4_begin_4
theorem ft_X4_begin_7 : F_X4_begin 7 = J_aload 0 8 := ftl_X4_begin_7
theorem ft_X4_begin_8 : F_X4_begin 8 = J_iload 2 9 := ftl_X4_begin_8
theorem ft_X4_begin_9 : F_X4_begin 9 = J_iconst 1 10 := ftl_X4_begin_9
theorem ft_X4_begin_10 : F_X4_begin 10 = J_iconst (-9) 12 := ftl_X4_begin_10
theorem ft_X4_begin_12 : F_X4_begin 12 = J_callV 4 S_X4_set 3 15 := ftl_X4_begin_12
theorem ft_X4_begin_15 : F_X4_begin 15 = J_aload 0 16 := ftl_X4_begin_15
theorem ft_X4_begin_16 : F_X4_begin 16 = J_iload 2 17 := ftl_X4_begin_16
theorem ft_X4_begin_17 : F_X4_begin 17 = J_iconst 7 19 := ftl_X4_begin_17
theorem ft_X4_begin_19 : F_X4_begin 19 = J_iconst 0 20 := ftl_X4_begin_19
theorem ft_X4_begin_20 : F_X4_begin 20 = J_callV 4 S_X4_set 3 23 := ftl_X4_begin_20
theorem ft_X4_begin_23 : F_X4_begin 23 = J_aload 0 24 := ftl_X4_begin_23
theorem ft_X4_begin_24 : F_X4_begin 24 = J_iload 2 25 := ftl_X4_begin_24
theorem ft_X4_begin_25 : F_X4_begin 25 = J_iconst 8 27 := ftl_X4_begin_25
theorem ft_X4_begin_27 : F_X4_begin 27 = J_iconst 0 28 := ftl_X4_begin_27
theorem ft_X4_begin_28 : F_X4_begin 28 = J_callV 4 S_X4_set 3 31 := ftl_X4_begin_28
theorem ft_X4_begin_31 : F_X4_begin 31 = J_aload 0 32 := ftl_X4_begin_31
theorem ft_X4_begin_32 : F_X4_begin 32 = J_iload 2 33 := ftl_X4_begin_32
theorem ft_X4_begin_33 : F_X4_begin 33 = J_iconst 0 34 := ftl_X4_begin_33
theorem ft_X4_begin_34 : F_X4_begin 34 = J_callV 4 S_X4_restart 2 37 := ftl_X4_begin_34
theorem ft_X4_begin_37 : F_X4_begin 37 = J_iinc 2 1 40 := ftl_X4_begin_37
theorem ft_X4_begin_40 : F_X4_begin 40 = J_goto 2 := ftl_X4_begin_40
theorem ft_X4_begin_43 : F_X4_begin 43 = J_iconst 0 44 := ftl_X4_begin_43
theorem ft_X4_begin_44 : F_X4_begin 44 = J_istore 2 45 := ftl_X4_begin_44
theorem ft_X4_begin_45 : F_X4_begin 45 = J_iload 2 46 := ftl_X4_begin_45
theorem ft_X4_begin_46 : F_X4_begin 46 = J_iconst 6 48 := ftl_X4_begin_46
theorem ft_X4_begin_48 : F_X4_begin 48 = J_icge 81 51 := ftl_X4_begin_48
theorem ft_X4_begin_51 : F_X4_begin 51 = J_aload 0 52 := ftl_X4_begin_51
theorem ft_X4_begin_52 : F_X4_begin 52 = J_getfield 4 1 55 := ftl_X4_begin_52
theorem ft_X4_begin_55 : F_X4_begin 55 = J_iload 2 56 := ftl_X4_begin_55
theorem ft_X4_begin_56 : F_X4_begin 56 = J_aload 1 57 := ftl_X4_begin_56
theorem ft_X4_begin_57 : F_X4_begin 57 = J_iload 2 58 := ftl_X4_begin_57
theorem ft_X4_begin_58 : F_X4_begin 58 = J_callV 3 S_X3_hasCar 1 61 := ftl_X4_begin_58
theorem ft_X4_begin_61 : F_X4_begin 61 = J_ifeq 73 64 := ftl_X4_begin_61
theorem ft_X4_begin_64 : F_X4_begin 64 = J_aload 1 65 := ftl_X4_begin_64
theorem ft_X4_begin_65 : F_X4_begin 65 = J_iload 2 66 := ftl_X4_begin_65
theorem ft_X4_begin_66 : F_X4_begin 66 = J_iconst 0 67 := ftl_X4_begin_66
theorem ft_X4_begin_67 : F_X4_begin 67 = J_callV 3 S_X3_trait 2 70 := ftl_X4_begin_67
theorem ft_X4_begin_70 : F_X4_begin 70 = J_goto 74 := ftl_X4_begin_70
theorem ft_X4_begin_73 : F_X4_begin 73 = J_iconst 0 74 := ftl_X4_begin_73
theorem ft_X4_begin_74 : F_X4_begin 74 = J_iastore 75 := ftl_X4_begin_74
theorem ft_X4_begin_75 : F_X4_begin 75 = J_iinc 2 1 78 := ftl_X4_begin_75
theorem ft_X4_begin_78 : F_X4_begin 78 = J_goto 45 := ftl_X4_begin_78
theorem ft_X4_begin_81 : F_X4_begin 81 = J_aload 0 82 := ftl_X4_begin_81
theorem ft_X4_begin_82 : F_X4_begin 82 = J_aload 1 83 := ftl_X4_begin_82
theorem ft_X4_begin_83 : F_X4_begin 83 = J_getfield 3 4 86 := ftl_X4_begin_83
theorem ft_X4_begin_86 : F_X4_begin 86 = J_putI 4 2 89 := ftl_X4_begin_86
theorem ft_X4_begin_89 : F_X4_begin 89 = J_aload 0 90 := ftl_X4_begin_89
theorem ft_X4_begin_90 : F_X4_begin 90 = J_iconst 0 91 := ftl_X4_begin_90
theorem ft_X4_begin_91 : F_X4_begin 91 = J_putI 4 3 94 := ftl_X4_begin_91
theorem ft_X4_begin_94 : F_X4_begin 94 = J_return 0 0 := ftl_X4_begin_94
theorem lp_X4_begin {Q : jQ} {d : Nat} {C : Nat → Nat → Int32} {z : Nat → Int64} {nb s : Nat} {ρ : Nat → Int32} (hs : jSt s d) (hd : jD d) (hcut : Cut ρ) (h : Q none (memS d (hrow C s (bgF C)) z)) :
    ∀ k j, j + k = 6 → Rn Y_X4_begin none Q 45 [some (.ref s), some (.ref 3), some (.int (nI j))] [] (memS d (hrow C s (bgR C ρ j)) z) (nb, 0, 0) := by
  have okc : ∀ (f : Nat → Int32) (c : Int32), okCar (hrow C s f) c = okCar C c := fun f c => by
    unfold okCar
    rw [hrow_n (by have := (jst_ne hs).1; simp at this; omega)]
  intro k
  induction k with
  | zero =>
    intro j hj
    have hj6 : j = 6 := by omega
    subst hj6
    have hc : (6 ≤ nI 6) = True := eq_true (by decide)
    refine jrun_first OK_X4_begin (C := [45]) 60 ?_
    simp -implicitDefEqProofs only [jr_0, jr_1, jr_2, j_iconst, j_lconst, j_iload0, j_aload0, j_istore0, j_astore0, j_iinc0, j_iload1, j_aload1, j_istore1, j_astore1, j_iinc1, j_iload2, j_aload2, j_istore2, j_astore2, j_iinc2, j_iload3, j_aload3, j_istore3, j_astore3, j_iinc3, j_iload4, j_aload4, j_istore4, j_astore4, j_iinc4, j_iload5, j_aload5, j_istore5, j_astore5, j_iinc5, j_iload6, j_aload6, j_istore6, j_astore6, j_iinc6, j_iload7, j_aload7, j_istore7, j_astore7, j_iinc7, j_iload8, j_aload8, j_istore8, j_astore8, j_iinc8, j_iadd, j_isub, j_imul, j_iand, j_ior, j_ixor, j_ishl, j_ishr, j_iushr, j_idiv, j_irem, j_ineg, j_ladd, j_lmul, j_land, j_lor, j_lcmp, j_lushr, j_lshl, j_i2l, j_l2i, j_dupI, j_dupR, j_popI, j_dup2, j_ifeq, j_iceq, j_ifne, j_icne, j_iflt, j_iclt, j_ifge, j_icge, j_ifgt, j_icgt, j_ifle, j_icle, j_goto, j_tsw, j_sw0, j_sw1, j_ireturn, j_zreturn, j_lreturn, j_return, j_getfield, j_putI, j_putJ, j_putR, j_iaload, j_baload, j_iastore, j_bastore, j_aaload, j_q, j_aastore, j_acopy, j_mmin, j_mmax, j_mabs, j_objinit, j_new, j_newI, j_newQ, j_sld, j_slen, j_callV0, j_callI0, j_callS0, j_callV1, j_callI1, j_callS1, j_callV2, j_callI2, j_callS2, j_callV3, j_callS3, j_callV4, j_callS4, j_callV5, j_callS5, j_pushS, j_pushN, j_sh0, j_sh1, j_sh2, j_sh3, j_sh4, Int32.reduceAdd, Int32.reduceMul, Int32.reduceSub, Int32.reduceLT, Int32.reduceLE, eq_self, i32_10, i32_01, ne_eq, hrow_s, hrow_n, ne10, ne100, ne1000, ne7, ne4, ne14, ne9973, or_true, true_or, or_false, false_or, not_true_eq_false, not_false_eq_true, false_implies, implies_true, and_true, forall_const, true_implies, jargs_n, jargs_r, jargs_i, List.cons_append, List.nil_append, true_and, Nat.reduceEqDiff, reduceIte, ft_X4_begin_0, ft_X4_begin_1, ft_X4_begin_2, ft_X4_begin_3, ft_X4_begin_4, ft_X4_begin_7, ft_X4_begin_8, ft_X4_begin_9, ft_X4_begin_10, ft_X4_begin_12, ft_X4_begin_15, ft_X4_begin_16, ft_X4_begin_17, ft_X4_begin_19, ft_X4_begin_20, ft_X4_begin_23, ft_X4_begin_24, ft_X4_begin_25, ft_X4_begin_27, ft_X4_begin_28, ft_X4_begin_31, ft_X4_begin_32, ft_X4_begin_33, ft_X4_begin_34, ft_X4_begin_37, ft_X4_begin_40, ft_X4_begin_43, ft_X4_begin_44, ft_X4_begin_45, ft_X4_begin_46, ft_X4_begin_48, ft_X4_begin_51, ft_X4_begin_52, ft_X4_begin_55, ft_X4_begin_56, ft_X4_begin_57, ft_X4_begin_58, ft_X4_begin_61, ft_X4_begin_64, ft_X4_begin_65, ft_X4_begin_66, ft_X4_begin_67, ft_X4_begin_70, ft_X4_begin_73, ft_X4_begin_74, ft_X4_begin_75, ft_X4_begin_78, ft_X4_begin_81, ft_X4_begin_82, ft_X4_begin_83, ft_X4_begin_86, ft_X4_begin_89, ft_X4_begin_90, ft_X4_begin_91, ft_X4_begin_94, hc, fl_3_4d hd, jput_s2 hs, jput_s3 hs, (jst_ne hs).1, hrow_hrow]
    rw [bgR_end hcut]
    exact h
  | succ k ih =>
    intro j hj
    have hc : (6 ≤ nI j) = False := eq_false (nI_ge (show j < 6 by omega) (by decide))
    have v1 : vp_in (nI j) 6 := vp_in_nI (by omega) (by decide)
    have hk := ih (j + 1) (by omega)
    rw [← bgR_s] at hk
    refine jrun_first OK_X4_begin (C := [45]) 60 ?_
    simp -implicitDefEqProofs only [jr_0, jr_1, jr_2, j_iconst, j_lconst, j_iload0, j_aload0, j_istore0, j_astore0, j_iinc0, j_iload1, j_aload1, j_istore1, j_astore1, j_iinc1, j_iload2, j_aload2, j_istore2, j_astore2, j_iinc2, j_iload3, j_aload3, j_istore3, j_astore3, j_iinc3, j_iload4, j_aload4, j_istore4, j_astore4, j_iinc4, j_iload5, j_aload5, j_istore5, j_astore5, j_iinc5, j_iload6, j_aload6, j_istore6, j_astore6, j_iinc6, j_iload7, j_aload7, j_istore7, j_astore7, j_iinc7, j_iload8, j_aload8, j_istore8, j_astore8, j_iinc8, j_iadd, j_isub, j_imul, j_iand, j_ior, j_ixor, j_ishl, j_ishr, j_iushr, j_idiv, j_irem, j_ineg, j_ladd, j_lmul, j_land, j_lor, j_lcmp, j_lushr, j_lshl, j_i2l, j_l2i, j_dupI, j_dupR, j_popI, j_dup2, j_ifeq, j_iceq, j_ifne, j_icne, j_iflt, j_iclt, j_ifge, j_icge, j_ifgt, j_icgt, j_ifle, j_icle, j_goto, j_tsw, j_sw0, j_sw1, j_ireturn, j_zreturn, j_lreturn, j_return, j_getfield, j_putI, j_putJ, j_putR, j_iaload, j_baload, j_iastore, j_bastore, j_aaload, j_q, j_aastore, j_acopy, j_mmin, j_mmax, j_mabs, j_objinit, j_new, j_newI, j_newQ, j_sld, j_slen, j_callV0, j_callI0, j_callS0, j_callV1, j_callI1, j_callS1, j_callV2, j_callI2, j_callS2, j_callV3, j_callS3, j_callV4, j_callS4, j_callV5, j_callS5, j_pushS, j_pushN, j_sh0, j_sh1, j_sh2, j_sh3, j_sh4, Int32.reduceAdd, Int32.reduceMul, Int32.reduceSub, Int32.reduceLT, Int32.reduceLE, eq_self, i32_10, i32_01, ne_eq, hrow_s, hrow_n, ne10, ne100, ne1000, ne7, ne4, ne14, ne9973, or_true, true_or, or_false, false_or, not_true_eq_false, not_false_eq_true, false_implies, implies_true, and_true, forall_const, true_implies, jargs_n, jargs_r, jargs_i, List.cons_append, List.nil_append, true_and, Nat.reduceEqDiff, reduceIte, ft_X4_begin_0, ft_X4_begin_1, ft_X4_begin_2, ft_X4_begin_3, ft_X4_begin_4, ft_X4_begin_7, ft_X4_begin_8, ft_X4_begin_9, ft_X4_begin_10, ft_X4_begin_12, ft_X4_begin_15, ft_X4_begin_16, ft_X4_begin_17, ft_X4_begin_19, ft_X4_begin_20, ft_X4_begin_23, ft_X4_begin_24, ft_X4_begin_25, ft_X4_begin_27, ft_X4_begin_28, ft_X4_begin_31, ft_X4_begin_32, ft_X4_begin_33, ft_X4_begin_34, ft_X4_begin_37, ft_X4_begin_40, ft_X4_begin_43, ft_X4_begin_44, ft_X4_begin_45, ft_X4_begin_46, ft_X4_begin_48, ft_X4_begin_51, ft_X4_begin_52, ft_X4_begin_55, ft_X4_begin_56, ft_X4_begin_57, ft_X4_begin_58, ft_X4_begin_61, ft_X4_begin_64, ft_X4_begin_65, ft_X4_begin_66, ft_X4_begin_67, ft_X4_begin_70, ft_X4_begin_73, ft_X4_begin_74, ft_X4_begin_75, ft_X4_begin_78, ft_X4_begin_81, ft_X4_begin_82, ft_X4_begin_83, ft_X4_begin_86, ft_X4_begin_89, ft_X4_begin_90, ft_X4_begin_91, ft_X4_begin_94, hc, jfld_s1 hs, rc_3d hd, s_okCar hd, s_X3_trait hd, zb_0, jast_r hs, (jst_ne hs).2.2.1, hrow_hrow, okc, v1, nI_1, nI_clamp (show j < 2 ^ 31 by omega)]
    by_cases h1 : okCar C (nI j)
    · simp only [pick_t h1] at hk
      exact ⟨fun q => absurd h1 q, fun _ => hk⟩
    · simp only [pick_f h1] at hk
      exact ⟨fun _ => hk, fun q => absurd q (not_not_intro h1)⟩
theorem bg_posts {C : Nat → Nat → Int32} {ρ : Nat → Int32} : rstartF (rset (rset (rset (rstartF (rset (rset (rset (rstartF (rset (rset (rset (rstartF (rset (rset (rset ρ 0 1 (-9)) 0 7 0) 0 8 0) 0 0) 1 1 (-9)) 1 7 0) 1 8 0) 1 0) 2 1 (-9)) 2 7 0) 2 8 0) 2 0) 3 1 (-9)) 3 7 0) 3 8 0) 3 0 = bgR C ρ 0 := by
  unfold rstartF
  simp only [rs_0_1, rs_0_2, rs_0_3, rs_0_4, rs_0_5, rs_0_6, rs_0_7, rs_0_8, rs_1_1, rs_1_2, rs_1_3, rs_1_4, rs_1_5, rs_1_6, rs_1_7, rs_1_8, rs_2_1, rs_2_2, rs_2_3, rs_2_4, rs_2_5, rs_2_6, rs_2_7, rs_2_8, rs_3_1, rs_3_2, rs_3_3, rs_3_4, rs_3_5, rs_3_6, rs_3_7, rs_3_8]
  funext i
  by_cases h2 : i < 32
  · have : ∀ i, i < 32 → ∀ f : Nat → Int32, True := fun _ _ _ => trivial
    rcases (show i = 0 ∨ i = 1 ∨ i = 2 ∨ i = 3 ∨ i = 4 ∨ i = 5 ∨ i = 6 ∨ i = 7 ∨ i = 8 ∨ i = 9 ∨ i = 10 ∨ i = 11 ∨ i = 12 ∨ i = 13 ∨ i = 14 ∨ i = 15 ∨ i = 16 ∨ i = 17 ∨ i = 18 ∨ i = 19 ∨ i = 20 ∨ i = 21 ∨ i = 22 ∨ i = 23 ∨ i = 24 ∨ i = 25 ∨ i = 26 ∨ i = 27 ∨ i = 28 ∨ i = 29 ∨ i = 30 ∨ i = 31 by omega) with rfl | rfl | rfl | rfl | rfl | rfl | rfl | rfl | rfl | rfl | rfl | rfl | rfl | rfl | rfl | rfl | rfl | rfl | rfl | rfl | rfl | rfl | rfl | rfl | rfl | rfl | rfl | rfl | rfl | rfl | rfl | rfl <;> rfl
  · unfold bgR
    rw [if_neg (by omega), if_neg h2, if_neg (by omega)]
    simp only [upd_ne (show i ≠ 0 by omega), upd_ne (show i ≠ 1 by omega), upd_ne (show i ≠ 2 by omega), upd_ne (show i ≠ 3 by omega), upd_ne (show i ≠ 4 by omega), upd_ne (show i ≠ 5 by omega), upd_ne (show i ≠ 6 by omega), upd_ne (show i ≠ 7 by omega), upd_ne (show i ≠ 8 by omega), upd_ne (show i ≠ 9 by omega), upd_ne (show i ≠ 10 by omega), upd_ne (show i ≠ 11 by omega), upd_ne (show i ≠ 12 by omega), upd_ne (show i ≠ 13 by omega), upd_ne (show i ≠ 14 by omega), upd_ne (show i ≠ 15 by omega), upd_ne (show i ≠ 16 by omega), upd_ne (show i ≠ 17 by omega), upd_ne (show i ≠ 18 by omega), upd_ne (show i ≠ 19 by omega), upd_ne (show i ≠ 20 by omega), upd_ne (show i ≠ 21 by omega), upd_ne (show i ≠ 22 by omega), upd_ne (show i ≠ 23 by omega), upd_ne (show i ≠ 24 by omega), upd_ne (show i ≠ 25 by omega), upd_ne (show i ≠ 26 by omega), upd_ne (show i ≠ 27 by omega), upd_ne (show i ≠ 28 by omega), upd_ne (show i ≠ 29 by omega), upd_ne (show i ≠ 30 by omega), upd_ne (show i ≠ 31 by omega)]
set_option maxRecDepth 100000 in
set_option maxHeartbeats 4000000 in
theorem ok_X4_begin : jMeets Y_X4_begin S_X4_begin := by
  intro nb vs mem Q h
  obtain ⟨d, C, z, s, rfl, rfl, hs, hd, hcut, hQ⟩ := h
  refine Ok.run OK_X4_begin [45] 150 [none] pn4 (Nat.le_of_ble_eq_true rfl) rfl ?_
  simp -implicitDefEqProofs only [jr_0, jr_1, jr_2, j_iconst, j_lconst, j_iload0, j_aload0, j_istore0, j_astore0, j_iinc0, j_iload1, j_aload1, j_istore1, j_astore1, j_iinc1, j_iload2, j_aload2, j_istore2, j_astore2, j_iinc2, j_iload3, j_aload3, j_istore3, j_astore3, j_iinc3, j_iload4, j_aload4, j_istore4, j_astore4, j_iinc4, j_iload5, j_aload5, j_istore5, j_astore5, j_iinc5, j_iload6, j_aload6, j_istore6, j_astore6, j_iinc6, j_iload7, j_aload7, j_istore7, j_astore7, j_iinc7, j_iload8, j_aload8, j_istore8, j_astore8, j_iinc8, j_iadd, j_isub, j_imul, j_iand, j_ior, j_ixor, j_ishl, j_ishr, j_iushr, j_idiv, j_irem, j_ineg, j_ladd, j_lmul, j_land, j_lor, j_lcmp, j_lushr, j_lshl, j_i2l, j_l2i, j_dupI, j_dupR, j_popI, j_dup2, j_ifeq, j_iceq, j_ifne, j_icne, j_iflt, j_iclt, j_ifge, j_icge, j_ifgt, j_icgt, j_ifle, j_icle, j_goto, j_tsw, j_sw0, j_sw1, j_ireturn, j_zreturn, j_lreturn, j_return, j_getfield, j_putI, j_putJ, j_putR, j_iaload, j_baload, j_iastore, j_bastore, j_aaload, j_q, j_aastore, j_acopy, j_mmin, j_mmax, j_mabs, j_objinit, j_new, j_newI, j_newQ, j_sld, j_slen, j_callV0, j_callI0, j_callS0, j_callV1, j_callI1, j_callS1, j_callV2, j_callI2, j_callS2, j_callV3, j_callS3, j_callV4, j_callS4, j_callV5, j_callS5, j_pushS, j_pushN, j_sh0, j_sh1, j_sh2, j_sh3, j_sh4, Int32.reduceAdd, Int32.reduceMul, Int32.reduceSub, Int32.reduceLT, Int32.reduceLE, eq_self, i32_10, i32_01, ne_eq, hrow_s, hrow_n, ne10, ne100, ne1000, ne7, ne4, ne14, ne9973, or_true, true_or, or_false, false_or, not_true_eq_false, not_false_eq_true, false_implies, implies_true, and_true, forall_const, true_implies, jargs_n, jargs_r, jargs_i, List.cons_append, List.nil_append, true_and, Nat.reduceEqDiff, reduceIte, ft_X4_begin_0, ft_X4_begin_1, ft_X4_begin_2, ft_X4_begin_3, ft_X4_begin_4, ft_X4_begin_7, ft_X4_begin_8, ft_X4_begin_9, ft_X4_begin_10, ft_X4_begin_12, ft_X4_begin_15, ft_X4_begin_16, ft_X4_begin_17, ft_X4_begin_19, ft_X4_begin_20, ft_X4_begin_23, ft_X4_begin_24, ft_X4_begin_25, ft_X4_begin_27, ft_X4_begin_28, ft_X4_begin_31, ft_X4_begin_32, ft_X4_begin_33, ft_X4_begin_34, ft_X4_begin_37, ft_X4_begin_40, ft_X4_begin_43, ft_X4_begin_44, ft_X4_begin_45, ft_X4_begin_46, ft_X4_begin_48, ft_X4_begin_51, ft_X4_begin_52, ft_X4_begin_55, ft_X4_begin_56, ft_X4_begin_57, ft_X4_begin_58, ft_X4_begin_61, ft_X4_begin_64, ft_X4_begin_65, ft_X4_begin_66, ft_X4_begin_67, ft_X4_begin_70, ft_X4_begin_73, ft_X4_begin_74, ft_X4_begin_75, ft_X4_begin_78, ft_X4_begin_81, ft_X4_begin_82, ft_X4_begin_83, ft_X4_begin_86, ft_X4_begin_89, ft_X4_begin_90, ft_X4_begin_91, ft_X4_begin_94, jrcv_st hs, s_X4_set hs, s_X4_restart hs, hrow_hrow]
  rw [bg_posts (C := C)]
  exact lp_X4_begin hs hd hcut hQ 6 0 rfl
theorem s_X4_begin {nb d s : Nat} {C : Nat → Nat → Int32} {z : Nat → Int64} {Q : jQ} (hs : jSt s d) (hd : jD d) (hc : Cut (C s)) (hQ : Q none (memS d (hrow C s (bgF C)) z)) : S_X4_begin nb [.ref s, .ref 3] (memS d C z) Q := ⟨d, C, z, s, rfl, rfl, hs, hd, hc, hQ⟩
