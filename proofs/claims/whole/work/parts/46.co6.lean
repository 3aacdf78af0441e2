/-! Euclid's way is short -/
theorem i32_tmod {a b : Int32} (hb : ¬ b = 0) : (a - a / b * b).toInt = a.toInt.tmod b.toInt := by
  have hb0 : b.toInt ≠ 0 := fun q => hb (Int32.toInt_inj.mp q)
  have h1 := Int32.le_toInt b
  have h2 := Int32.toInt_lt b
  have hr : (a.toInt.tmod b.toInt).natAbs < b.toInt.natAbs := by
    rw [Int.natAbs_tmod]
    exact Nat.mod_lt _ (by omega)
  have e : a.toInt - a.toInt.tdiv b.toInt * b.toInt = a.toInt.tmod b.toInt := by
    rw [Int.tmod_def, Int.mul_comm]
  rw [Int32.toInt_sub, Int32.toInt_mul, Int32.toInt_div, Int.bmod_mul_bmod, Int.sub_bmod_bmod, e]
  exact Int.bmod_eq_of_le (by omega) (by omega)
theorem mod_half {y r : Nat} (h0 : 0 < r) (h : r < y) : 2 * (y % r) < y := by
  have h1 := Nat.mod_lt y h0
  by_cases g : 2 * r ≤ y
  · omega
  · have : y % r = y - r := by
      rw [Nat.mod_eq_sub_mod (by omega), Nat.mod_eq_of_lt (by omega)]
    omega
theorem euP_s : ∀ k a b, euP k a b → euP (k + 1) a b
  | 0, _, _, h => Or.inl h
  | k + 1, a, b, h => by
    rcases h with h | h
    · exact Or.inl h
    · exact Or.inr (euP_s k _ _ h)
theorem euP_le {k m : Nat} {a b : Int32} (h : euP k a b) : euP (k + m) a b := by
  induction m with
  | zero => exact h
  | succ m ih => exact euP_s _ _ _ ih
theorem euP_2 : ∀ m a b, b.toInt.natAbs < 2 ^ m → euP (2 * m) a b
  | 0, a, b, h => by
    have : b.toInt = 0 := by omega
    exact Int32.toInt_inj.mp this
  | m + 1, a, b, h => by
    rw [show 2 * (m + 1) = 2 * m + 1 + 1 by omega]
    by_cases hb : b = 0
    · exact Or.inl hb
    · refine Or.inr ?_
      by_cases hr : a - a / b * b = 0
      · exact Or.inl hr
      · refine Or.inr (euP_2 m _ _ ?_)
        have hb0 : b.toInt ≠ 0 := fun q => hb (Int32.toInt_inj.mp q)
        have hr0 : (a - a / b * b).toInt ≠ 0 := fun q => hr (Int32.toInt_inj.mp q)
        have e1 := congrArg Int.natAbs (i32_tmod (a := a) hb)
        have e2 := congrArg Int.natAbs (i32_tmod (a := b) hr)
        rw [Int.natAbs_tmod] at e1 e2
        rw [e2]
        have h1 : (a - a / b * b).toInt.natAbs < b.toInt.natAbs := by
          rw [e1]
          exact Nat.mod_lt _ (by omega)
        have := mod_half (y := b.toInt.natAbs) (r := (a - a / b * b).toInt.natAbs) (by omega) h1
        rw [Nat.pow_succ] at h
        omega
theorem gdF_n0 : ∀ k a b, euP k a b → ¬ (a = 0 ∧ b = 0) → ¬ gdF k a b = 0
  | 0, a, b, h, hn => fun q => hn ⟨q, h⟩
  | k + 1, a, b, h, hn => by
    unfold gdF
    by_cases hb : b = 0
    · rw [if_pos hb]
      exact fun q => hn ⟨q, hb⟩
    · rw [if_neg hb]
      exact gdF_n0 k _ _ (h.resolve_left hb) fun q => hb q.1
theorem eu_ok {a : Int32} {b : Nat} (h0 : 0 < b) (hb : b < 2 ^ 14) : euP 50 a (nI b) ∧ ¬ gdF 50 a (nI b) = 0 := by
  have h : euP 50 a (nI b) := euP_le (m := 22) (euP_2 14 a (nI b) (by rw [nI_toInt (by omega)]; omega))
  refine ⟨h, gdF_n0 50 _ _ h fun q => ?_⟩
  have := q.2
  rw [show (0 : Int32) = nI 0 from rfl, nI_eqq (by omega) (by omega)] at this
  omega
theorem low_frac {a u : Int32} {b : Nat} (h0 : 0 < b) (hb : b < 2 ^ 14) : lowF a (nI b) u = fracF a (nI b) u := by
  unfold lowF fracF
  rw [if_neg (eu_ok (a := absF a) h0 hb).2]
  by_cases g : u = 0
  · rw [if_pos g, pick_t g]
  · rw [if_neg g, pick_f g]
/-! a field of the model that is another for a while -/
section ST3
variable {C C1 : Nat → Nat → Int32} {P K B i : Nat} {x y : Int32}
theorem Ev.on (v : Ev C C1) (i : Nat) (x : Int32) : Ev (hrow C 71 (upd (C 71) i x)) (hrow C1 71 (upd (C1 71) i x)) := by
  refine ⟨fun a ha => ?_, fun j hj => ?_, ?_, ?_⟩
  · have := (vN_n ha).2.1
    rw [hrow_n this, hrow_n this]; exact v.1 a ha
  · rw [hrow_s, hrow_s]
    by_cases q : j = i
    · subst q; rw [upd_eq, upd_eq]
    · rw [upd_ne q, upd_ne q]; exact v.2.1 j hj
  · rw [hrow_n (by decide)]; exact v.2.2.1
  · rw [hrow_n (by decide)]; exact v.2.2.2
theorem Ev.off (v : Ev (hrow C 71 (upd (C 71) i x)) C1) (hy : C 71 i = y) : Ev C (hrow C1 71 (upd (C1 71) i y)) := by
  refine ⟨fun a ha => ?_, fun j hj => ?_, ?_, ?_⟩
  · have := (vN_n ha).2.1
    rw [hrow_n this, v.1 a ha, hrow_n this]
  · rw [hrow_s]
    by_cases q : j = i
    · subst q; rw [upd_eq, hy]
    · rw [upd_ne q, v.2.1 j hj, hrow_s, upd_ne q]
  · rw [hrow_n (by decide)]; exact v.2.2.1
  · rw [hrow_n (by decide)]; exact v.2.2.2
theorem AK.on (k : AK C P K B) (hi : i ≠ 2 ∧ i ≠ 4 ∧ i ≠ 9) : AK (hrow C 71 (upd (C 71) i x)) P K B := by
  refine ⟨k.s.eq rfl rfl rfl ?_ ?_ ?_ rfl rfl rfl rfl rfl, k.2⟩
  · rw [hrow_s, upd_ne (Ne.symm hi.1)]
  · rw [hrow_s, upd_ne (Ne.symm hi.2.1)]
  · rw [hrow_s, upd_ne (Ne.symm hi.2.2)]
theorem goF_on {sil fed l : Int32} {n : Nat} {ρ : Nat → Int32} : goF (hrow C 71 (upd (C 71) i x)) sil fed l n ρ = goF C sil fed l n ρ := goF_c rfl rfl rfl
end ST3
/-! which car may lie -/
def soP (C : Nat → Nat → Int32) (P : Nat) (l : Int32) (i : Nat) : Prop := ¬ (C 61 i < nI P ∧ ¬ rget (goF C 0 15 l (C 62 i).toNatClampNeg (C 9)) (C 61 i) 7 = C 63 i)
theorem dnyF_ex {C : Nat → Nat → Int32} {P : Nat} {n : Int32} {ρ : Nat → Int32} : ∀ k i, dnyF C P n ρ k i = ∃ m, (i ≤ m ∧ m < i + k) ∧ dny1 C P n ρ m
  | 0, i => propext ⟨False.elim, fun q => by obtain ⟨m, h, _⟩ := q; omega⟩
  | k + 1, i => by
    show (dny1 C P n ρ i ∨ dnyF C P n ρ k (i + 1)) = _
    rw [dnyF_ex k (i + 1)]
    refine propext ⟨fun q => ?_, fun q => ?_⟩
    · rcases q with q | ⟨m, h, q⟩
      · exact ⟨i, by omega, q⟩
      · exact ⟨m, by omega, q⟩
    · obtain ⟨m, h, q⟩ := q
      by_cases e : m = i
      · subst e; exact Or.inl q
      · exact Or.inr ⟨m, by omega, q⟩
theorem mlF_all {C : Nat → Nat → Int32} {P ct : Nat} {l : Int32} {ρ : Nat → Int32} : ∀ k j, mlF C P ct l k j (goF C 0 15 l j ρ) = ∀ m, j ≤ m → m < j + k → ¬ dnyF C P (nI m) (goF C 0 15 l m ρ) ct 0
  | 0, j => propext ⟨fun _ m h1 h2 => by omega, fun _ => trivial⟩
  | k + 1, j => by
    show (¬ dnyF C P (nI j) (goF C 0 15 l j ρ) ct 0 ∧ mlF C P ct l k (j + 1) (goF C 0 15 l 1 (goF C 0 15 l j ρ))) = _
    rw [← goF_s, mlF_all k (j + 1)]
    refine propext ⟨fun q m h1 h2 => ?_, fun q => ⟨q j (by omega) (by omega), fun m h1 h2 => q m (by omega) (by omega)⟩⟩
    by_cases e : m = j
    · subst e; exact q.1
    · exact q.2 m (by omega) (by omega)
theorem ml_so {C : Nat → Nat → Int32} {P sn : Nat} {l : Int32} (o : OR C sn) : mlF C P sn l 21 0 (C 9) = ∀ i, i < sn → soP C P l i := by
  have := mlF_all (C := C) (P := P) (ct := sn) (l := l) (ρ := C 9) 21 0
  rw [goF_0] at this
  rw [this]
  refine propext ⟨fun q i hi g => ?_, fun q m _ h2 g => ?_⟩
  · obtain ⟨-, -, t, ht, et⟩ := o.2 i hi
    rw [et, nI_clamp (by omega)] at g
    refine q t (by omega) (by omega) ?_
    rw [dnyF_ex]
    exact ⟨i, by omega, et, g⟩
  · rw [dnyF_ex] at g
    obtain ⟨i, hi, h1, h3⟩ := g
    refine q i (by omega) ?_
    rw [h1, nI_clamp (by omega)]
    exact h3
def S_X7_isSoBy : jSp := fun _ vs mem Q => ∃ C C1 z P K B sn c i, vs = [.ref 71, .int (nI c), .int (nI i)] ∧ mem = memS 94 C1 z ∧ AQ C P K B ∧ Ev C C1 ∧ OR C sn ∧ i < sn ∧ ∀ C', Ev C C' → Q (some (.int (zb (soP C P (nI c) i)))) (memS 94 C' z)
def F_X7_isSoBy_0 : Nat → jT := fun pc => (bif Nat.blt pc 7 then (bif Nat.blt pc 2 then (bif Nat.blt pc 1 then (bif Nat.beq pc 0 then J_aload 0 1 else jbad) else (bif Nat.beq pc 1 then J_aload 0 2 else jbad)) else (bif Nat.blt pc 5 then (bif Nat.beq pc 2 then J_getfield 7 17 5 else jbad) else (bif Nat.blt pc 6 then (bif Nat.beq pc 5 then J_iload 2 6 else jbad) else (bif Nat.beq pc 6 then J_iaload 7 else jbad)))) else (bif Nat.blt pc 14 then (bif Nat.blt pc 10 then (bif Nat.beq pc 7 then J_callV 7 S_X7_isPost 1 10 else jbad) else (bif Nat.blt pc 13 then (bif Nat.beq pc 10 then J_ifne 15 13 else jbad) else (bif Nat.beq pc 13 then J_iconst 1 14 else jbad))) else (bif Nat.blt pc 15 then (bif Nat.beq pc 14 then J_zreturn 0 0 else jbad) else (bif Nat.blt pc 16 then (bif Nat.beq pc 15 then J_aload 0 16 else jbad) else (bif Nat.beq pc 16 then J_iload 1 17 else jbad)))))
theorem ftl_X7_isSoBy_0 : F_X7_isSoBy_0 0 = J_aload 0 1 := rfl
theorem ftl_X7_isSoBy_1 : F_X7_isSoBy_0 1 = J_aload 0 2 := rfl
theorem ftl_X7_isSoBy_2 : F_X7_isSoBy_0 2 = J_getfield 7 17 5 := rfl
theorem ftl_X7_isSoBy_5 : F_X7_isSoBy_0 5 = J_iload 2 6 := rfl
theorem ftl_X7_isSoBy_6 : F_X7_isSoBy_0 6 = J_iaload 7 := rfl
theorem ftl_X7_isSoBy_7 : F_X7_isSoBy_0 7 = J_callV 7 S_X7_isPost 1 10 := rfl
theorem ftl_X7_isSoBy_10 : F_X7_isSoBy_0 10 = J_ifne 15 13 := rfl
theorem ftl_X7_isSoBy_13 : F_X7_isSoBy_0 13 = J_iconst 1 14 := rfl
theorem ftl_X7_isSoBy_14 : F_X7_isSoBy_0 14 = J_zreturn 0 0 := rfl
theorem ftl_X7_isSoBy_15 : F_X7_isSoBy_0 15 = J_aload 0 16 := rfl
theorem ftl_X7_isSoBy_16 : F_X7_isSoBy_0 16 = J_iload 1 17 := rfl
theorem F_X7_isSoBy_0_ok : jOK Y_X7_isSoBy none (F_X7_isSoBy_0) := (jOK_node (jOK_node (jOK_node (jOK_leaf (sn_aload_n dX7_isSoBy_0 rfl rfl)) (jOK_leaf (sn_aload_n dX7_isSoBy_1 rfl rfl))) (jOK_node (jOK_leaf (sn_getfield dX7_isSoBy_2 rfl rfl (by decide) tw_631 jin7)) (jOK_node (jOK_leaf (sn_iload_n dX7_isSoBy_5 rfl rfl)) (jOK_leaf (sn_iaload dX7_isSoBy_6 rfl))))) (jOK_node (jOK_node (jOK_leaf (sn_callV (Y' := Y_X7_isPost) ok_X7_isPost dX7_isSoBy_7 rfl rfl rfl tw_788 tw_790 tp_33 tw_8 jc_X7_isPost rfl ⟨by decide, by decide, rfl⟩ ⟨by decide, by decide⟩)) (jOK_node (jOK_leaf (sn_ifne dX7_isSoBy_10 rfl rfl)) (jOK_leaf (sn_iconst dX7_isSoBy_13 rfl rfl)))) (jOK_node (jOK_leaf (sn_zreturn dX7_isSoBy_14 rfl rfl)) (jOK_node (jOK_leaf (sn_aload_n dX7_isSoBy_15 rfl rfl)) (jOK_leaf (sn_iload_n dX7_isSoBy_16 rfl rfl))))))
def F_X7_isSoBy_17 : Nat → jT := fun pc => (bif Nat.blt pc 28 then (bif Nat.blt pc 21 then (bif Nat.blt pc 20 then (bif Nat.beq pc 17 then J_putI 7 23 20 else jbad) else (bif Nat.beq pc 20 then J_aload 0 21 else jbad)) else (bif Nat.blt pc 24 then (bif Nat.beq pc 21 then J_getfield 7 10 24 else jbad) else (bif Nat.blt pc 25 then (bif Nat.beq pc 24 then J_aload 0 25 else jbad) else (bif Nat.beq pc 25 then J_getfield 7 11 28 else jbad)))) else (bif Nat.blt pc 33 then (bif Nat.blt pc 31 then (bif Nat.beq pc 28 then J_callS S_X7_copy 2 31 else jbad) else (bif Nat.blt pc 32 then (bif Nat.beq pc 31 then J_aload 0 32 else jbad) else (bif Nat.beq pc 32 then J_aload 0 33 else jbad))) else (bif Nat.blt pc 36 then (bif Nat.beq pc 33 then J_getfield 7 18 36 else jbad) else (bif Nat.blt pc 37 then (bif Nat.beq pc 36 then J_iload 2 37 else jbad) else (bif Nat.beq pc 37 then J_iaload 38 else jbad)))))
theorem ftl_X7_isSoBy_17 : F_X7_isSoBy_17 17 = J_putI 7 23 20 := rfl
theorem ftl_X7_isSoBy_20 : F_X7_isSoBy_17 20 = J_aload 0 21 := rfl
theorem ftl_X7_isSoBy_21 : F_X7_isSoBy_17 21 = J_getfield 7 10 24 := rfl
theorem ftl_X7_isSoBy_24 : F_X7_isSoBy_17 24 = J_aload 0 25 := rfl
theorem ftl_X7_isSoBy_25 : F_X7_isSoBy_17 25 = J_getfield 7 11 28 := rfl
theorem ftl_X7_isSoBy_28 : F_X7_isSoBy_17 28 = J_callS S_X7_copy 2 31 := rfl
theorem ftl_X7_isSoBy_31 : F_X7_isSoBy_17 31 = J_aload 0 32 := rfl
theorem ftl_X7_isSoBy_32 : F_X7_isSoBy_17 32 = J_aload 0 33 := rfl
theorem ftl_X7_isSoBy_33 : F_X7_isSoBy_17 33 = J_getfield 7 18 36 := rfl
theorem ftl_X7_isSoBy_36 : F_X7_isSoBy_17 36 = J_iload 2 37 := rfl
theorem ftl_X7_isSoBy_37 : F_X7_isSoBy_17 37 = J_iaload 38 := rfl
theorem F_X7_isSoBy_17_ok : jOK Y_X7_isSoBy none (F_X7_isSoBy_17) := (jOK_node (jOK_node (jOK_node (jOK_leaf (sn_putI tyX7 dX7_isSoBy_17 rfl rfl (by decide) tw_637 jin7 tyX7_ok nmX7 rfl rfl)) (jOK_leaf (sn_aload_n dX7_isSoBy_20 rfl rfl))) (jOK_node (jOK_leaf (sn_getfield dX7_isSoBy_21 rfl rfl (by decide) tw_624 jin7)) (jOK_node (jOK_leaf (sn_aload_n dX7_isSoBy_24 rfl rfl)) (jOK_leaf (sn_getfield dX7_isSoBy_25 rfl rfl (by decide) tw_625 jin7))))) (jOK_node (jOK_node (jOK_leaf (sn_callS (Y' := Y_X7_copy) ok_X7_copy dX7_isSoBy_28 rfl rfl tw_923 tw_924 tw_8 jc_X7_copy ⟨by decide, by decide, rfl⟩ ⟨by decide, by decide⟩)) (jOK_node (jOK_leaf (sn_aload_n dX7_isSoBy_31 rfl rfl)) (jOK_leaf (sn_aload_n dX7_isSoBy_32 rfl rfl)))) (jOK_node (jOK_leaf (sn_getfield dX7_isSoBy_33 rfl rfl (by decide) tw_632 jin7)) (jOK_node (jOK_leaf (sn_iload_n dX7_isSoBy_36 rfl rfl)) (jOK_leaf (sn_iaload dX7_isSoBy_37 rfl))))))
def F_X7_isSoBy_0_37 : Nat → jT := fun pc => bif Nat.blt pc 17 then F_X7_isSoBy_0 pc else F_X7_isSoBy_17 pc
theorem F_X7_isSoBy_0_37_l {pc : Nat} (h : Nat.blt pc 17 = true) : F_X7_isSoBy_0_37 pc = F_X7_isSoBy_0 pc := by unfold F_X7_isSoBy_0_37; rw [h]; rfl
theorem F_X7_isSoBy_0_37_r {pc : Nat} (h : Nat.blt pc 17 = false) : F_X7_isSoBy_0_37 pc = F_X7_isSoBy_17 pc := by unfold F_X7_isSoBy_0_37; rw [h]; rfl
theorem F_X7_isSoBy_0_37_ok : jOK Y_X7_isSoBy none (F_X7_isSoBy_0_37) := jOK_node (F_X7_isSoBy_0_ok) (F_X7_isSoBy_17_ok)
def F_X7_isSoBy_38 : Nat → jT := fun pc => (bif Nat.blt pc 49 then (bif Nat.blt pc 43 then (bif Nat.blt pc 40 then (bif Nat.beq pc 38 then J_iconst 15 40 else jbad) else (bif Nat.beq pc 40 then J_callV 7 S_X7_tryMinutes 2 43 else jbad)) else (bif Nat.blt pc 44 then (bif Nat.beq pc 43 then J_aload 0 44 else jbad) else (bif Nat.blt pc 46 then (bif Nat.beq pc 44 then J_iconst (-9) 46 else jbad) else (bif Nat.beq pc 46 then J_putI 7 23 49 else jbad)))) else (bif Nat.blt pc 55 then (bif Nat.blt pc 50 then (bif Nat.beq pc 49 then J_aload 0 50 else jbad) else (bif Nat.blt pc 53 then (bif Nat.beq pc 50 then J_getfield 7 11 53 else jbad) else (bif Nat.beq pc 53 then J_iconst 24 55 else jbad))) else (bif Nat.blt pc 56 then (bif Nat.beq pc 55 then J_aload 0 56 else jbad) else (bif Nat.blt pc 59 then (bif Nat.beq pc 56 then J_getfield 7 17 59 else jbad) else (bif Nat.beq pc 59 then J_iload 2 60 else jbad)))))
theorem ftl_X7_isSoBy_38 : F_X7_isSoBy_38 38 = J_iconst 15 40 := rfl
theorem ftl_X7_isSoBy_40 : F_X7_isSoBy_38 40 = J_callV 7 S_X7_tryMinutes 2 43 := rfl
theorem ftl_X7_isSoBy_43 : F_X7_isSoBy_38 43 = J_aload 0 44 := rfl
theorem ftl_X7_isSoBy_44 : F_X7_isSoBy_38 44 = J_iconst (-9) 46 := rfl
theorem ftl_X7_isSoBy_46 : F_X7_isSoBy_38 46 = J_putI 7 23 49 := rfl
theorem ftl_X7_isSoBy_49 : F_X7_isSoBy_38 49 = J_aload 0 50 := rfl
theorem ftl_X7_isSoBy_50 : F_X7_isSoBy_38 50 = J_getfield 7 11 53 := rfl
theorem ftl_X7_isSoBy_53 : F_X7_isSoBy_38 53 = J_iconst 24 55 := rfl
theorem ftl_X7_isSoBy_55 : F_X7_isSoBy_38 55 = J_aload 0 56 := rfl
theorem ftl_X7_isSoBy_56 : F_X7_isSoBy_38 56 = J_getfield 7 17 59 := rfl
theorem ftl_X7_isSoBy_59 : F_X7_isSoBy_38 59 = J_iload 2 60 := rfl
theorem F_X7_isSoBy_38_ok : jOK Y_X7_isSoBy none (F_X7_isSoBy_38) := (jOK_node (jOK_node (jOK_node (jOK_leaf (sn_bipush dX7_isSoBy_38 rfl rfl)) (jOK_leaf (sn_callV (Y' := Y_X7_tryMinutes) ok_X7_tryMinutes dX7_isSoBy_40 rfl rfl rfl tw_926 tw_928 tp_54 tw_8 jc_X7_tryMinutes rfl ⟨by decide, by decide, rfl⟩ ⟨by decide, by decide⟩))) (jOK_node (jOK_leaf (sn_aload_n dX7_isSoBy_43 rfl rfl)) (jOK_node (jOK_leaf (sn_bipush dX7_isSoBy_44 rfl rfl)) (jOK_leaf (sn_putI tyX7 dX7_isSoBy_46 rfl rfl (by decide) tw_637 jin7 tyX7_ok nmX7 rfl rfl))))) (jOK_node (jOK_node (jOK_leaf (sn_aload_n dX7_isSoBy_49 rfl rfl)) (jOK_node (jOK_leaf (sn_getfield dX7_isSoBy_50 rfl rfl (by decide) tw_625 jin7)) (jOK_leaf (sn_bipush dX7_isSoBy_53 rfl rfl)))) (jOK_node (jOK_leaf (sn_aload_n dX7_isSoBy_55 rfl rfl)) (jOK_node (jOK_leaf (sn_getfield dX7_isSoBy_56 rfl rfl (by decide) tw_631 jin7)) (jOK_leaf (sn_iload_n dX7_isSoBy_59 rfl rfl))))))
def F_X7_isSoBy_60 : Nat → jT := fun pc => (bif Nat.blt pc 68 then (bif Nat.blt pc 63 then (bif Nat.blt pc 61 then (bif Nat.beq pc 60 then J_iaload 61 else jbad) else (bif Nat.blt pc 62 then (bif Nat.beq pc 61 then J_iadd 62 else jbad) else (bif Nat.beq pc 62 then J_iaload 63 else jbad))) else (bif Nat.blt pc 64 then (bif Nat.beq pc 63 then J_aload 0 64 else jbad) else (bif Nat.blt pc 67 then (bif Nat.beq pc 64 then J_getfield 7 19 67 else jbad) else (bif Nat.beq pc 67 then J_iload 2 68 else jbad)))) else (bif Nat.blt pc 73 then (bif Nat.blt pc 69 then (bif Nat.beq pc 68 then J_iaload 69 else jbad) else (bif Nat.blt pc 72 then (bif Nat.beq pc 69 then J_icne 76 72 else jbad) else (bif Nat.beq pc 72 then J_iconst 1 73 else jbad))) else (bif Nat.blt pc 76 then (bif Nat.beq pc 73 then J_goto 77 else jbad) else (bif Nat.blt pc 77 then (bif Nat.beq pc 76 then J_iconst 0 77 else jbad) else (bif Nat.beq pc 77 then J_zreturn 0 0 else jbad)))))
theorem ftl_X7_isSoBy_60 : F_X7_isSoBy_60 60 = J_iaload 61 := rfl
theorem ftl_X7_isSoBy_61 : F_X7_isSoBy_60 61 = J_iadd 62 := rfl
theorem ftl_X7_isSoBy_62 : F_X7_isSoBy_60 62 = J_iaload 63 := rfl
theorem ftl_X7_isSoBy_63 : F_X7_isSoBy_60 63 = J_aload 0 64 := rfl
theorem ftl_X7_isSoBy_64 : F_X7_isSoBy_60 64 = J_getfield 7 19 67 := rfl
theorem ftl_X7_isSoBy_67 : F_X7_isSoBy_60 67 = J_iload 2 68 := rfl
theorem ftl_X7_isSoBy_68 : F_X7_isSoBy_60 68 = J_iaload 69 := rfl
theorem ftl_X7_isSoBy_69 : F_X7_isSoBy_60 69 = J_icne 76 72 := rfl
theorem ftl_X7_isSoBy_72 : F_X7_isSoBy_60 72 = J_iconst 1 73 := rfl
theorem ftl_X7_isSoBy_73 : F_X7_isSoBy_60 73 = J_goto 77 := rfl
theorem ftl_X7_isSoBy_76 : F_X7_isSoBy_60 76 = J_iconst 0 77 := rfl
theorem ftl_X7_isSoBy_77 : F_X7_isSoBy_60 77 = J_zreturn 0 0 := rfl
theorem F_X7_isSoBy_60_ok : jOK Y_X7_isSoBy none (F_X7_isSoBy_60) := (jOK_node (jOK_node (jOK_node (jOK_leaf (sn_iaload dX7_isSoBy_60 rfl)) (jOK_node (jOK_leaf (sn_iadd dX7_isSoBy_61 rfl)) (jOK_leaf (sn_iaload dX7_isSoBy_62 rfl)))) (jOK_node (jOK_leaf (sn_aload_n dX7_isSoBy_63 rfl rfl)) (jOK_node (jOK_leaf (sn_getfield dX7_isSoBy_64 rfl rfl (by decide) tw_633 jin7)) (jOK_leaf (sn_iload_n dX7_isSoBy_67 rfl rfl))))) (jOK_node (jOK_node (jOK_leaf (sn_iaload dX7_isSoBy_68 rfl)) (jOK_node (jOK_leaf (sn_icne dX7_isSoBy_69 rfl rfl)) (jOK_leaf (sn_iconst dX7_isSoBy_72 rfl rfl)))) (jOK_node (jOK_leaf (sn_goto dX7_isSoBy_73 rfl)) (jOK_node (jOK_leaf (sn_iconst dX7_isSoBy_76 rfl rfl)) (jOK_leaf (sn_zreturn dX7_isSoBy_77 rfl rfl))))))
def F_X7_isSoBy_38_77 : Nat → jT := fun pc => bif Nat.blt pc 60 then F_X7_isSoBy_38 pc else F_X7_isSoBy_60 pc
theorem F_X7_isSoBy_38_77_l {pc : Nat} (h : Nat.blt pc 60 = true) : F_X7_isSoBy_38_77 pc = F_X7_isSoBy_38 pc := by unfold F_X7_isSoBy_38_77; rw [h]; rfl
theorem F_X7_isSoBy_38_77_r {pc : Nat} (h : Nat.blt pc 60 = false) : F_X7_isSoBy_38_77 pc = F_X7_isSoBy_60 pc := by unfold F_X7_isSoBy_38_77; rw [h]; rfl
theorem F_X7_isSoBy_38_77_ok : jOK Y_X7_isSoBy none (F_X7_isSoBy_38_77) := jOK_node (F_X7_isSoBy_38_ok) (F_X7_isSoBy_60_ok)
def F_X7_isSoBy_0_77 : Nat → jT := fun pc => bif Nat.blt pc 38 then F_X7_isSoBy_0_37 pc else F_X7_isSoBy_38_77 pc
theorem F_X7_isSoBy_0_77_l {pc : Nat} (h : Nat.blt pc 38 = true) : F_X7_isSoBy_0_77 pc = F_X7_isSoBy_0_37 pc := by unfold F_X7_isSoBy_0_77; rw [h]; rfl
theorem F_X7_isSoBy_0_77_r {pc : Nat} (h : Nat.blt pc 38 = false) : F_X7_isSoBy_0_77 pc = F_X7_isSoBy_38_77 pc := by unfold F_X7_isSoBy_0_77; rw [h]; rfl
theorem F_X7_isSoBy_0_77_ok : jOK Y_X7_isSoBy none (F_X7_isSoBy_0_77) := jOK_node (F_X7_isSoBy_0_37_ok) (F_X7_isSoBy_38_77_ok)
def F_X7_isSoBy : Nat → jT := F_X7_isSoBy_0_77
theorem OK_X7_isSoBy : jOK Y_X7_isSoBy none (F_X7_isSoBy) := F_X7_isSoBy_0_77_ok
theorem ft_X7_isSoBy_0 : F_X7_isSoBy 0 = J_aload 0 1 := (F_X7_isSoBy_0_77_l rfl).trans ((F_X7_isSoBy_0_37_l rfl).trans (ftl_X7_isSoBy_0))
theorem ft_X7_isSoBy_1 : F_X7_isSoBy 1 = J_aload 0 2 := (F_X7_isSoBy_0_77_l rfl).trans ((F_X7_isSoBy_0_37_l rfl).trans (ftl_X7_isSoBy_1))
theorem ft_X7_isSoBy_2 : F_X7_isSoBy 2 = J_getfield 7 17 5 := (F_X7_isSoBy_0_77_l rfl).trans ((F_X7_isSoBy_0_37_l rfl).trans (ftl_X7_isSoBy_2))
theorem ft_X7_isSoBy_5 : F_X7_isSoBy 5 = J_iload 2 6 := (F_X7_isSoBy_0_77_l rfl).trans ((F_X7_isSoBy_0_37_l rfl).trans (ftl_X7_isSoBy_5))
theorem ft_X7_isSoBy_6 : F_X7_isSoBy 6 = J_iaload 7 := (F_X7_isSoBy_0_77_l rfl).trans ((F_X7_isSoBy_0_37_l rfl).trans (ftl_X7_isSoBy_6))
theorem ft_X7_isSoBy_7 : F_X7_isSoBy 7 = J_callV 7 S_X7_isPost 1 10 := (F_X7_isSoBy_0_77_l rfl).trans ((F_X7_isSoBy_0_37_l rfl).trans (ftl_X7_isSoBy_7))
theorem ft_X7_isSoBy_10 : F_X7_isSoBy 10 = J_ifne 15 13 := (F_X7_isSoBy_0_77_l rfl).trans ((F_X7_isSoBy_0_37_l rfl).trans (ftl_X7_isSoBy_10))
theorem ft_X7_isSoBy_13 : F_X7_isSoBy 13 = J_iconst 1 14 := (F_X7_isSoBy_0_77_l rfl).trans ((F_X7_isSoBy_0_37_l rfl).trans (ftl_X7_isSoBy_13))
theorem ft_X7_isSoBy_14 : F_X7_isSoBy 14 = J_zreturn 0 0 := (F_X7_isSoBy_0_77_l rfl).trans ((F_X7_isSoBy_0_37_l rfl).trans (ftl_X7_isSoBy_14))
theorem ft_X7_isSoBy_15 : F_X7_isSoBy 15 = J_aload 0 16 := (F_X7_isSoBy_0_77_l rfl).trans ((F_X7_isSoBy_0_37_l rfl).trans (ftl_X7_isSoBy_15))
theorem ft_X7_isSoBy_16 : F_X7_isSoBy 16 = J_iload 1 17 := (F_X7_isSoBy_0_77_l rfl).trans ((F_X7_isSoBy_0_37_l rfl).trans (ftl_X7_isSoBy_16))
theorem ft_X7_isSoBy_17 : F_X7_isSoBy 17 = J_putI 7 23 20 := (F_X7_isSoBy_0_77_l rfl).trans ((F_X7_isSoBy_0_37_r rfl).trans (ftl_X7_isSoBy_17))
theorem ft_X7_isSoBy_20 : F_X7_isSoBy 20 = J_aload 0 21 := (F_X7_isSoBy_0_77_l rfl).trans ((F_X7_isSoBy_0_37_r rfl).trans (ftl_X7_isSoBy_20))
theorem ft_X7_isSoBy_21 : F_X7_isSoBy 21 = J_getfield 7 10 24 := (F_X7_isSoBy_0_77_l rfl).trans ((F_X7_isSoBy_0_37_r rfl).trans (ftl_X7_isSoBy_21))
theorem ft_X7_isSoBy_24 : F_X7_isSoBy 24 = J_aload 0 25 := (F_X7_isSoBy_0_77_l rfl).trans ((F_X7_isSoBy_0_37_r rfl).trans (ftl_X7_isSoBy_24))
theorem ft_X7_isSoBy_25 : F_X7_isSoBy 25 = J_getfield 7 11 28 := (F_X7_isSoBy_0_77_l rfl).trans ((F_X7_isSoBy_0_37_r rfl).trans (ftl_X7_isSoBy_25))
theorem ft_X7_isSoBy_28 : F_X7_isSoBy 28 = J_callS S_X7_copy 2 31 := (F_X7_isSoBy_0_77_l rfl).trans ((F_X7_isSoBy_0_37_r rfl).trans (ftl_X7_isSoBy_28))
theorem ft_X7_isSoBy_31 : F_X7_isSoBy 31 = J_aload 0 32 := (F_X7_isSoBy_0_77_l rfl).trans ((F_X7_isSoBy_0_37_r rfl).trans (ftl_X7_isSoBy_31))
theorem ft_X7_isSoBy_32 : F_X7_isSoBy 32 = J_aload 0 33 := (F_X7_isSoBy_0_77_l rfl).trans ((F_X7_isSoBy_0_37_r rfl).trans (ftl_X7_isSoBy_32))
theorem ft_X7_isSoBy_33 : F_X7_isSoBy 33 = J_getfield 7 18 36 := (F_X7_isSoBy_0_77_l rfl).trans ((F_X7_isSoBy_0_37_r rfl).trans (ftl_X7_isSoBy_33))
theorem ft_X7_isSoBy_36 : F_X7_isSoBy 36 = J_iload 2 37 := (F_X7_isSoBy_0_77_l rfl).trans ((F_X7_isSoBy_0_37_r rfl).trans (ftl_X7_isSoBy_36))
theorem ft_X7_isSoBy_37 : F_X7_isSoBy 37 = J_iaload 38 := (F_X7_isSoBy_0_77_l rfl).trans ((F_X7_isSoBy_0_37_r rfl).trans (ftl_X7_isSoBy_37))
theorem ft_X7_isSoBy_38 : F_X7_isSoBy 38 = J_iconst 15 40 := (F_X7_isSoBy_0_77_r rfl).trans ((F_X7_isSoBy_38_77_l rfl).trans (ftl_X7_isSoBy_38))
theorem ft_X7_isSoBy_40 : F_X7_isSoBy 40 = J_callV 7 S_X7_tryMinutes 2 43 := (F_X7_isSoBy_0_77_r rfl).trans ((F_X7_isSoBy_38_77_l rfl).trans (ftl_X7_isSoBy_40))
theorem ft_X7_isSoBy_43 : F_X7_isSoBy 43 = J_aload 0 44 := (F_X7_isSoBy_0_77_r rfl).trans ((F_X7_isSoBy_38_77_l rfl).trans (ftl_X7_isSoBy_43))
theorem ft_X7_isSoBy_44 : F_X7_isSoBy 44 = J_iconst (-9) 46 := (F_X7_isSoBy_0_77_r rfl).trans ((F_X7_isSoBy_38_77_l rfl).trans (ftl_X7_isSoBy_44))
theorem ft_X7_isSoBy_46 : F_X7_isSoBy 46 = J_putI 7 23 49 := (F_X7_isSoBy_0_77_r rfl).trans ((F_X7_isSoBy_38_77_l rfl).trans (ftl_X7_isSoBy_46))
theorem ft_X7_isSoBy_49 : F_X7_isSoBy 49 = J_aload 0 50 := (F_X7_isSoBy_0_77_r rfl).trans ((F_X7_isSoBy_38_77_l rfl).trans (ftl_X7_isSoBy_49))
theorem ft_X7_isSoBy_50 : F_X7_isSoBy 50 = J_getfield 7 11 53 := (F_X7_isSoBy_0_77_r rfl).trans ((F_X7_isSoBy_38_77_l rfl).trans (ftl_X7_isSoBy_50))
theorem ft_X7_isSoBy_53 : F_X7_isSoBy 53 = J_iconst 24 55 := (F_X7_isSoBy_0_77_r rfl).trans ((F_X7_isSoBy_38_77_l rfl).trans (ftl_X7_isSoBy_53))
theorem ft_X7_isSoBy_55 : F_X7_isSoBy 55 = J_aload 0 56 := (F_X7_isSoBy_0_77_r rfl).trans ((F_X7_isSoBy_38_77_l rfl).trans (ftl_X7_isSoBy_55))
theorem ft_X7_isSoBy_56 : F_X7_isSoBy 56 = J_getfield 7 17 59 := (F_X7_isSoBy_0_77_r rfl).trans ((F_X7_isSoBy_38_77_l rfl).trans (ftl_X7_isSoBy_56))
theorem ft_X7_isSoBy_59 : F_X7_isSoBy 59 = J_iload 2 60 := (F_X7_isSoBy_0_77_r rfl).trans ((F_X7_isSoBy_38_77_l rfl).trans (ftl_X7_isSoBy_59))
theorem ft_X7_isSoBy_60 : F_X7_isSoBy 60 = J_iaload 61 := (F_X7_isSoBy_0_77_r rfl).trans ((F_X7_isSoBy_38_77_r rfl).trans (ftl_X7_isSoBy_60))
theorem ft_X7_isSoBy_61 : F_X7_isSoBy 61 = J_iadd 62 := (F_X7_isSoBy_0_77_r rfl).trans ((F_X7_isSoBy_38_77_r rfl).trans (ftl_X7_isSoBy_61))
theorem ft_X7_isSoBy_62 : F_X7_isSoBy 62 = J_iaload 63 := (F_X7_isSoBy_0_77_r rfl).trans ((F_X7_isSoBy_38_77_r rfl).trans (ftl_X7_isSoBy_62))
theorem ft_X7_isSoBy_63 : F_X7_isSoBy 63 = J_aload 0 64 := (F_X7_isSoBy_0_77_r rfl).trans ((F_X7_isSoBy_38_77_r rfl).trans (ftl_X7_isSoBy_63))
theorem ft_X7_isSoBy_64 : F_X7_isSoBy 64 = J_getfield 7 19 67 := (F_X7_isSoBy_0_77_r rfl).trans ((F_X7_isSoBy_38_77_r rfl).trans (ftl_X7_isSoBy_64))
theorem ft_X7_isSoBy_67 : F_X7_isSoBy 67 = J_iload 2 68 := (F_X7_isSoBy_0_77_r rfl).trans ((F_X7_isSoBy_38_77_r rfl).trans (ftl_X7_isSoBy_67))
theorem ft_X7_isSoBy_68 : F_X7_isSoBy 68 = J_iaload 69 := (F_X7_isSoBy_0_77_r rfl).trans ((F_X7_isSoBy_38_77_r rfl).trans (ftl_X7_isSoBy_68))
theorem ft_X7_isSoBy_69 : F_X7_isSoBy 69 = J_icne 76 72 := (F_X7_isSoBy_0_77_r rfl).trans ((F_X7_isSoBy_38_77_r rfl).trans (ftl_X7_isSoBy_69))
theorem ft_X7_isSoBy_72 : F_X7_isSoBy 72 = J_iconst 1 73 := (F_X7_isSoBy_0_77_r rfl).trans ((F_X7_isSoBy_38_77_r rfl).trans (ftl_X7_isSoBy_72))
theorem ft_X7_isSoBy_73 : F_X7_isSoBy 73 = J_goto 77 := (F_X7_isSoBy_0_77_r rfl).trans ((F_X7_isSoBy_38_77_r rfl).trans (ftl_X7_isSoBy_73))
theorem ft_X7_isSoBy_76 : F_X7_isSoBy 76 = J_iconst 0 77 := (F_X7_isSoBy_0_77_r rfl).trans ((F_X7_isSoBy_38_77_r rfl).trans (ftl_X7_isSoBy_76))
theorem ft_X7_isSoBy_77 : F_X7_isSoBy 77 = J_zreturn 0 0 := (F_X7_isSoBy_0_77_r rfl).trans ((F_X7_isSoBy_38_77_r rfl).trans (ftl_X7_isSoBy_77))
theorem ok_X7_isSoBy : jMeets Y_X7_isSoBy S_X7_isSoBy := by
  intro nb vs mem Q h
  obtain ⟨C, C1, z, P, K, B, sn, c, i, rfl, rfl, q, v, o, hi, hQ⟩ := h
  have k := q.1
  have h6 := o.1.1
  obtain ⟨⟨o1, o2, o3⟩, ⟨p, hp, ep⟩, t, ht, et⟩ := o.2 i hi
  have v1 : vp_in (nI i) 6 := vp_in_nI (by omega) (by decide)
  have ci := nI_clamp (show i < 2 ^ 31 by omega)
  refine Ok.run OK_X7_isSoBy [] 80 [] pn7 (Nat.le_of_ble_eq_true rfl) rfl ?_
  have hP : okPost C1 (nI p) = okPost C (nI p) := okPost_c (v.row 3 rfl)
  have e83 : C1 83 i = nI p := by rw [v.row 83 rfl, o1, ep]
  by_cases g : okPost C (nI p)
  · obtain ⟨p', hp', epp⟩ := okPost_at k.s g
    have : p = p' := nI_inj (by omega) (by have := k.s.h4; omega) epp
    subst this
    simp -implicitDefEqProofs only [jr_0, jr_1, jr_2, j_iconst, j_lconst, j_iload0, j_aload0, j_istore0, j_astore0, j_iinc0, j_iload1, j_aload1, j_istore1, j_astore1, j_iinc1, j_iload2, j_aload2, j_istore2, j_astore2, j_iinc2, j_iload3, j_aload3, j_istore3, j_astore3, j_iinc3, j_iload4, j_aload4, j_istore4, j_astore4, j_iinc4, j_iload5, j_aload5, j_istore5, j_astore5, j_iinc5, j_iload6, j_aload6, j_istore6, j_astore6, j_iinc6, j_iload7, j_aload7, j_istore7, j_astore7, j_iinc7, j_iload8, j_aload8, j_istore8, j_astore8, j_iinc8, j_iadd, j_isub, j_imul, j_iand, j_ior, j_ixor, j_ishl, j_ishr, j_iushr, j_idiv, j_irem, j_ineg, j_ladd, j_lmul, j_land, j_lor, j_lcmp, j_lushr, j_lshl, j_i2l, j_l2i, j_dupI, j_dupR, j_popI, j_dup2, j_ifeq, j_iceq, j_ifne, j_icne, j_iflt, j_iclt, j_ifge, j_icge, j_ifgt, j_icgt, j_ifle, j_icle, j_goto, j_tsw, j_sw0, j_sw1, j_ireturn, j_zreturn, j_lreturn, j_return, j_getfield, j_putI, j_putJ, j_putR, j_iaload, j_baload, j_iastore, j_bastore, j_aaload, j_q, j_aastore, j_acopy, j_mmin, j_mmax, j_mabs, j_objinit, j_new, j_newI, j_newQ, j_sld, j_slen, j_callV0, j_callI0, j_callS0, j_callV1, j_callI1, j_callS1, j_callV2, j_callI2, j_callS2, j_callV3, j_callS3, j_callV4, j_callS4, j_callV5, j_callS5, j_pushS, j_pushN, j_sh0, j_sh1, j_sh2, j_sh3, j_sh4, Int32.reduceAdd, Int32.reduceMul, Int32.reduceSub, Int32.reduceLT, Int32.reduceLE, eq_self, i32_10, i32_01, ne_eq, hrow_s, hrow_n, ne10, ne100, ne1000, ne7, ne4, ne14, ne9973, or_true, true_or, or_false, false_or, not_true_eq_false, not_false_eq_true, false_implies, implies_true, and_true, forall_const, true_implies, jargs_n, jargs_r, jargs_i, List.cons_append, List.nil_append, true_and, Nat.reduceEqDiff, reduceIte, ft_X7_isSoBy_0, ft_X7_isSoBy_1, ft_X7_isSoBy_2, ft_X7_isSoBy_5, ft_X7_isSoBy_6, ft_X7_isSoBy_7, ft_X7_isSoBy_10, ft_X7_isSoBy_13, ft_X7_isSoBy_14, ft_X7_isSoBy_15, ft_X7_isSoBy_16, ft_X7_isSoBy_17, ft_X7_isSoBy_20, ft_X7_isSoBy_21, ft_X7_isSoBy_24, ft_X7_isSoBy_25, ft_X7_isSoBy_28, ft_X7_isSoBy_31, ft_X7_isSoBy_32, ft_X7_isSoBy_33, ft_X7_isSoBy_36, ft_X7_isSoBy_37, ft_X7_isSoBy_38, ft_X7_isSoBy_40, ft_X7_isSoBy_43, ft_X7_isSoBy_44, ft_X7_isSoBy_46, ft_X7_isSoBy_49, ft_X7_isSoBy_50, ft_X7_isSoBy_53, ft_X7_isSoBy_55, ft_X7_isSoBy_56, ft_X7_isSoBy_59, ft_X7_isSoBy_60, ft_X7_isSoBy_61, ft_X7_isSoBy_62, ft_X7_isSoBy_63, ft_X7_isSoBy_64, ft_X7_isSoBy_67, ft_X7_isSoBy_68, ft_X7_isSoBy_69, ft_X7_isSoBy_72, ft_X7_isSoBy_73, ft_X7_isSoBy_76, ft_X7_isSoBy_77, rc_71, fl_71_17, fl_71_10, fl_71_11, fp_71_23, al_83, v1, ci, e83, s_X7_isPost (v.sr k.s), hP, zb_t g, ne1_0]
    have k' := k.on (i := 23) (x := nI c) ⟨by decide, by decide, by decide⟩
    have v' := v.on 23 (nI c)
    refine s_copyE k' v' fun C2 v2 e2 f2 r2 => ?_
    have e84 : C2 84 i = nI t := by rw [v2.row 84 rfl]; show C 84 i = _; rw [o2, et]
    have e9 : C2 79 = C 9 := e2
    simp -implicitDefEqProofs only [jr_0, jr_1, jr_2, j_iconst, j_lconst, j_iload0, j_aload0, j_istore0, j_astore0, j_iinc0, j_iload1, j_aload1, j_istore1, j_astore1, j_iinc1, j_iload2, j_aload2, j_istore2, j_astore2, j_iinc2, j_iload3, j_aload3, j_istore3, j_astore3, j_iinc3, j_iload4, j_aload4, j_istore4, j_astore4, j_iinc4, j_iload5, j_aload5, j_istore5, j_astore5, j_iinc5, j_iload6, j_aload6, j_istore6, j_astore6, j_iinc6, j_iload7, j_aload7, j_istore7, j_astore7, j_iinc7, j_iload8, j_aload8, j_istore8, j_astore8, j_iinc8, j_iadd, j_isub, j_imul, j_iand, j_ior, j_ixor, j_ishl, j_ishr, j_iushr, j_idiv, j_irem, j_ineg, j_ladd, j_lmul, j_land, j_lor, j_lcmp, j_lushr, j_lshl, j_i2l, j_l2i, j_dupI, j_dupR, j_popI, j_dup2, j_ifeq, j_iceq, j_ifne, j_icne, j_iflt, j_iclt, j_ifge, j_icge, j_ifgt, j_icgt, j_ifle, j_icle, j_goto, j_tsw, j_sw0, j_sw1, j_ireturn, j_zreturn, j_lreturn, j_return, j_getfield, j_putI, j_putJ, j_putR, j_iaload, j_baload, j_iastore, j_bastore, j_aaload, j_q, j_aastore, j_acopy, j_mmin, j_mmax, j_mabs, j_objinit, j_new, j_newI, j_newQ, j_sld, j_slen, j_callV0, j_callI0, j_callS0, j_callV1, j_callI1, j_callS1, j_callV2, j_callI2, j_callS2, j_callV3, j_callS3, j_callV4, j_callS4, j_callV5, j_callS5, j_pushS, j_pushN, j_sh0, j_sh1, j_sh2, j_sh3, j_sh4, Int32.reduceAdd, Int32.reduceMul, Int32.reduceSub, Int32.reduceLT, Int32.reduceLE, eq_self, i32_10, i32_01, ne_eq, hrow_s, hrow_n, ne10, ne100, ne1000, ne7, ne4, ne14, ne9973, or_true, true_or, or_false, false_or, not_true_eq_false, not_false_eq_true, false_implies, implies_true, and_true, forall_const, true_implies, jargs_n, jargs_r, jargs_i, List.cons_append, List.nil_append, true_and, Nat.reduceEqDiff, reduceIte, ft_X7_isSoBy_0, ft_X7_isSoBy_1, ft_X7_isSoBy_2, ft_X7_isSoBy_5, ft_X7_isSoBy_6, ft_X7_isSoBy_7, ft_X7_isSoBy_10, ft_X7_isSoBy_13, ft_X7_isSoBy_14, ft_X7_isSoBy_15, ft_X7_isSoBy_16, ft_X7_isSoBy_17, ft_X7_isSoBy_20, ft_X7_isSoBy_21, ft_X7_isSoBy_24, ft_X7_isSoBy_25, ft_X7_isSoBy_28, ft_X7_isSoBy_31, ft_X7_isSoBy_32, ft_X7_isSoBy_33, ft_X7_isSoBy_36, ft_X7_isSoBy_37, ft_X7_isSoBy_38, ft_X7_isSoBy_40, ft_X7_isSoBy_43, ft_X7_isSoBy_44, ft_X7_isSoBy_46, ft_X7_isSoBy_49, ft_X7_isSoBy_50, ft_X7_isSoBy_53, ft_X7_isSoBy_55, ft_X7_isSoBy_56, ft_X7_isSoBy_59, ft_X7_isSoBy_60, ft_X7_isSoBy_61, ft_X7_isSoBy_62, ft_X7_isSoBy_63, ft_X7_isSoBy_64, ft_X7_isSoBy_67, ft_X7_isSoBy_68, ft_X7_isSoBy_69, ft_X7_isSoBy_72, ft_X7_isSoBy_73, ft_X7_isSoBy_76, ft_X7_isSoBy_77, rc_71, fl_71_18, al_84, v1, ci, e84]
    refine s_tryE (l := nI c) (sil := 0) (n := t) k' v2 (by rw [hrow_s, upd_eq]; exact Li.rf) (by rw [e9]; exact k.iv) (by omega) (by have := q.2.2; omega) Ta_0 fun C3 v3 e3 i3 _ => ?_
    rw [goF_on, e9, hrow_s, upd_ne (by decide), q.2.1.1] at e3
    have hp4 : p < 4 := hp
    have e85 : C3 85 i = C 63 i := by rw [v3.row 85 rfl]; show C 85 i = _; rw [o3]
    have e83' : C3 83 i = nI p := by rw [v3.row 83 rfl]; show C 83 i = _; rw [o1, ep]
    have vf := v3.off (y := -9) q.2.1.2
    have hq := hQ _ vf
    unfold soP at hq
    rw [ep, et, nI_clamp (by omega), rgj_7 hp4, ← e3] at hq
    have hlt : nI p < nI P := nI_lt hp' (by have := k.s.h4; omega)
    simp -implicitDefEqProofs only [jr_0, jr_1, jr_2, j_iconst, j_lconst, j_iload0, j_aload0, j_istore0, j_astore0, j_iinc0, j_iload1, j_aload1, j_istore1, j_astore1, j_iinc1, j_iload2, j_aload2, j_istore2, j_astore2, j_iinc2, j_iload3, j_aload3, j_istore3, j_astore3, j_iinc3, j_iload4, j_aload4, j_istore4, j_astore4, j_iinc4, j_iload5, j_aload5, j_istore5, j_astore5, j_iinc5, j_iload6, j_aload6, j_istore6, j_astore6, j_iinc6, j_iload7, j_aload7, j_istore7, j_astore7, j_iinc7, j_iload8, j_aload8, j_istore8, j_astore8, j_iinc8, j_iadd, j_isub, j_imul, j_iand, j_ior, j_ixor, j_ishl, j_ishr, j_iushr, j_idiv, j_irem, j_ineg, j_ladd, j_lmul, j_land, j_lor, j_lcmp, j_lushr, j_lshl, j_i2l, j_l2i, j_dupI, j_dupR, j_popI, j_dup2, j_ifeq, j_iceq, j_ifne, j_icne, j_iflt, j_iclt, j_ifge, j_icge, j_ifgt, j_icgt, j_ifle, j_icle, j_goto, j_tsw, j_sw0, j_sw1, j_ireturn, j_zreturn, j_lreturn, j_return, j_getfield, j_putI, j_putJ, j_putR, j_iaload, j_baload, j_iastore, j_bastore, j_aaload, j_q, j_aastore, j_acopy, j_mmin, j_mmax, j_mabs, j_objinit, j_new, j_newI, j_newQ, j_sld, j_slen, j_callV0, j_callI0, j_callS0, j_callV1, j_callI1, j_callS1, j_callV2, j_callI2, j_callS2, j_callV3, j_callS3, j_callV4, j_callS4, j_callV5, j_callS5, j_pushS, j_pushN, j_sh0, j_sh1, j_sh2, j_sh3, j_sh4, Int32.reduceAdd, Int32.reduceMul, Int32.reduceSub, Int32.reduceLT, Int32.reduceLE, eq_self, i32_10, i32_01, ne_eq, hrow_s, hrow_n, ne10, ne100, ne1000, ne7, ne4, ne14, ne9973, or_true, true_or, or_false, false_or, not_true_eq_false, not_false_eq_true, false_implies, implies_true, and_true, forall_const, true_implies, jargs_n, jargs_r, jargs_i, List.cons_append, List.nil_append, true_and, Nat.reduceEqDiff, reduceIte, ft_X7_isSoBy_0, ft_X7_isSoBy_1, ft_X7_isSoBy_2, ft_X7_isSoBy_5, ft_X7_isSoBy_6, ft_X7_isSoBy_7, ft_X7_isSoBy_10, ft_X7_isSoBy_13, ft_X7_isSoBy_14, ft_X7_isSoBy_15, ft_X7_isSoBy_16, ft_X7_isSoBy_17, ft_X7_isSoBy_20, ft_X7_isSoBy_21, ft_X7_isSoBy_24, ft_X7_isSoBy_25, ft_X7_isSoBy_28, ft_X7_isSoBy_31, ft_X7_isSoBy_32, ft_X7_isSoBy_33, ft_X7_isSoBy_36, ft_X7_isSoBy_37, ft_X7_isSoBy_38, ft_X7_isSoBy_40, ft_X7_isSoBy_43, ft_X7_isSoBy_44, ft_X7_isSoBy_46, ft_X7_isSoBy_49, ft_X7_isSoBy_50, ft_X7_isSoBy_53, ft_X7_isSoBy_55, ft_X7_isSoBy_56, ft_X7_isSoBy_59, ft_X7_isSoBy_60, ft_X7_isSoBy_61, ft_X7_isSoBy_62, ft_X7_isSoBy_63, ft_X7_isSoBy_64, ft_X7_isSoBy_67, ft_X7_isSoBy_68, ft_X7_isSoBy_69, ft_X7_isSoBy_72, ft_X7_isSoBy_73, ft_X7_isSoBy_76, ft_X7_isSoBy_77, fl_71_11, fl_71_17, fl_71_19, fp_71_23, al_83, al_85, v1, ci, e83', e85, ar_24 jmr79 hp4]
    by_cases g2 : C3 79 (24 + p) = C 63 i
    · rw [zb_t fun w => w.2 g2] at hq
      simp only [g2, not_true_eq_false, not_false_eq_true, true_implies, false_implies, implies_true, and_true, true_and, forall_const]
      exact hq
    · rw [zb_f fun w => w ⟨hlt, g2⟩] at hq
      simp only [g2, not_true_eq_false, not_false_eq_true, true_implies, false_implies, implies_true, and_true, true_and, forall_const]
      exact hq
  · have hq := hQ C1 v
    unfold soP at hq
    have hlt : ¬ nI p < nI P := fun w => g (okPost_nI k.s (by rw [nI_ltq (by omega) (by have := k.s.h4; omega)] at w; exact w))
    rw [ep, zb_t fun w => hlt w.1] at hq
    simp -implicitDefEqProofs only [jr_0, jr_1, jr_2, j_iconst, j_lconst, j_iload0, j_aload0, j_istore0, j_astore0, j_iinc0, j_iload1, j_aload1, j_istore1, j_astore1, j_iinc1, j_iload2, j_aload2, j_istore2, j_astore2, j_iinc2, j_iload3, j_aload3, j_istore3, j_astore3, j_iinc3, j_iload4, j_aload4, j_istore4, j_astore4, j_iinc4, j_iload5, j_aload5, j_istore5, j_astore5, j_iinc5, j_iload6, j_aload6, j_istore6, j_astore6, j_iinc6, j_iload7, j_aload7, j_istore7, j_astore7, j_iinc7, j_iload8, j_aload8, j_istore8, j_astore8, j_iinc8, j_iadd, j_isub, j_imul, j_iand, j_ior, j_ixor, j_ishl, j_ishr, j_iushr, j_idiv, j_irem, j_ineg, j_ladd, j_lmul, j_land, j_lor, j_lcmp, j_lushr, j_lshl, j_i2l, j_l2i, j_dupI, j_dupR, j_popI, j_dup2, j_ifeq, j_iceq, j_ifne, j_icne, j_iflt, j_iclt, j_ifge, j_icge, j_ifgt, j_icgt, j_ifle, j_icle, j_goto, j_tsw, j_sw0, j_sw1, j_ireturn, j_zreturn, j_lreturn, j_return, j_getfield, j_putI, j_putJ, j_putR, j_iaload, j_baload, j_iastore, j_bastore, j_aaload, j_q, j_aastore, j_acopy, j_mmin, j_mmax, j_mabs, j_objinit, j_new, j_newI, j_newQ, j_sld, j_slen, j_callV0, j_callI0, j_callS0, j_callV1, j_callI1, j_callS1, j_callV2, j_callI2, j_callS2, j_callV3, j_callS3, j_callV4, j_callS4, j_callV5, j_callS5, j_pushS, j_pushN, j_sh0, j_sh1, j_sh2, j_sh3, j_sh4, Int32.reduceAdd, Int32.reduceMul, Int32.reduceSub, Int32.reduceLT, Int32.reduceLE, eq_self, i32_10, i32_01, ne_eq, hrow_s, hrow_n, ne10, ne100, ne1000, ne7, ne4, ne14, ne9973, or_true, true_or, or_false, false_or, not_true_eq_false, not_false_eq_true, false_implies, implies_true, and_true, forall_const, true_implies, jargs_n, jargs_r, jargs_i, List.cons_append, List.nil_append, true_and, Nat.reduceEqDiff, reduceIte, ft_X7_isSoBy_0, ft_X7_isSoBy_1, ft_X7_isSoBy_2, ft_X7_isSoBy_5, ft_X7_isSoBy_6, ft_X7_isSoBy_7, ft_X7_isSoBy_10, ft_X7_isSoBy_13, ft_X7_isSoBy_14, ft_X7_isSoBy_15, ft_X7_isSoBy_16, ft_X7_isSoBy_17, ft_X7_isSoBy_20, ft_X7_isSoBy_21, ft_X7_isSoBy_24, ft_X7_isSoBy_25, ft_X7_isSoBy_28, ft_X7_isSoBy_31, ft_X7_isSoBy_32, ft_X7_isSoBy_33, ft_X7_isSoBy_36, ft_X7_isSoBy_37, ft_X7_isSoBy_38, ft_X7_isSoBy_40, ft_X7_isSoBy_43, ft_X7_isSoBy_44, ft_X7_isSoBy_46, ft_X7_isSoBy_49, ft_X7_isSoBy_50, ft_X7_isSoBy_53, ft_X7_isSoBy_55, ft_X7_isSoBy_56, ft_X7_isSoBy_59, ft_X7_isSoBy_60, ft_X7_isSoBy_61, ft_X7_isSoBy_62, ft_X7_isSoBy_63, ft_X7_isSoBy_64, ft_X7_isSoBy_67, ft_X7_isSoBy_68, ft_X7_isSoBy_69, ft_X7_isSoBy_72, ft_X7_isSoBy_73, ft_X7_isSoBy_76, ft_X7_isSoBy_77, rc_71, fl_71_17, al_83, v1, ci, e83, s_X7_isPost (v.sr k.s), hP, zb_f g]
    exact hq
theorem s_X7_isSoBy {nb P K B sn c i : Nat} {C C1 : Nat → Nat → Int32} {z : Nat → Int64} {Q : jQ} (q : AQ C P K B) (v : Ev C C1) (o : OR C sn) (hi : i < sn) (hQ : ∀ C', Ev C C' → Q (some (.int (zb (soP C P (nI c) i)))) (memS 94 C' z)) : S_X7_isSoBy nb [.ref 71, .int (nI c), .int (nI i)] (memS 94 C1 z) Q := ⟨C, C1, z, P, K, B, sn, c, i, rfl, rfl, q, v, o, hi, hQ⟩
def S_X7_which : jSp := fun _ vs mem Q => ∃ C C1 z P K B sn, vs = [.ref 71] ∧ mem = memS 94 C1 z ∧ AQ C P K B ∧ Ev C C1 ∧ OR C sn ∧ ∀ C', Ev C C' → Q (some (.int (whF C P sn K))) (memS 94 C' z)
def F_X7_which_0 : Nat → jT := fun pc => (bif Nat.blt pc 5 then (bif Nat.blt pc 2 then (bif Nat.blt pc 1 then (bif Nat.beq pc 0 then J_iconst 0 1 else jbad) else (bif Nat.beq pc 1 then J_istore 1 2 else jbad)) else (bif Nat.blt pc 3 then (bif Nat.beq pc 2 then J_iconst 0 3 else jbad) else (bif Nat.blt pc 4 then (bif Nat.beq pc 3 then J_istore 2 4 else jbad) else (bif Nat.beq pc 4 then J_iload 2 5 else jbad)))) else (bif Nat.blt pc 9 then (bif Nat.blt pc 6 then (bif Nat.beq pc 5 then J_aload 0 6 else jbad) else (bif Nat.beq pc 6 then J_getfield 7 4 9 else jbad)) else (bif Nat.blt pc 12 then (bif Nat.beq pc 9 then J_icge 72 12 else jbad) else (bif Nat.blt pc 13 then (bif Nat.beq pc 12 then J_iconst 1 13 else jbad) else (bif Nat.beq pc 13 then J_istore 3 14 else jbad)))))
theorem ftl_X7_which_0 : F_X7_which_0 0 = J_iconst 0 1 := rfl
theorem ftl_X7_which_1 : F_X7_which_0 1 = J_istore 1 2 := rfl
theorem ftl_X7_which_2 : F_X7_which_0 2 = J_iconst 0 3 := rfl
theorem ftl_X7_which_3 : F_X7_which_0 3 = J_istore 2 4 := rfl
theorem ftl_X7_which_4 : F_X7_which_0 4 = J_iload 2 5 := rfl
theorem ftl_X7_which_5 : F_X7_which_0 5 = J_aload 0 6 := rfl
theorem ftl_X7_which_6 : F_X7_which_0 6 = J_getfield 7 4 9 := rfl
theorem ftl_X7_which_9 : F_X7_which_0 9 = J_icge 72 12 := rfl
theorem ftl_X7_which_12 : F_X7_which_0 12 = J_iconst 1 13 := rfl
theorem ftl_X7_which_13 : F_X7_which_0 13 = J_istore 3 14 := rfl
theorem F_X7_which_0_ok : jOK Y_X7_which none (F_X7_which_0) := (jOK_node (jOK_node (jOK_node (jOK_leaf (sn_iconst dX7_which_0 rfl rfl)) (jOK_leaf (sn_istore_n dX7_which_1 rfl rfl (by decide)))) (jOK_node (jOK_leaf (sn_iconst dX7_which_2 rfl rfl)) (jOK_node (jOK_leaf (sn_istore_n dX7_which_3 rfl rfl (by decide))) (jOK_leaf (sn_iload_n dX7_which_4 rfl rfl))))) (jOK_node (jOK_node (jOK_leaf (sn_aload_n dX7_which_5 rfl rfl)) (jOK_leaf (sn_getfield dX7_which_6 rfl rfl (by decide) tw_618 jin7))) (jOK_node (jOK_leaf (sn_icge dX7_which_9 rfl rfl)) (jOK_node (jOK_leaf (sn_iconst dX7_which_12 rfl rfl)) (jOK_leaf (sn_istore_n dX7_which_13 rfl rfl (by decide)))))))
def F_X7_which_14 : Nat → jT := fun pc => (bif Nat.blt pc 23 then (bif Nat.blt pc 17 then (bif Nat.blt pc 15 then (bif Nat.beq pc 14 then J_iconst 0 15 else jbad) else (bif Nat.beq pc 15 then J_istore 4 17 else jbad)) else (bif Nat.blt pc 19 then (bif Nat.beq pc 17 then J_iload 4 19 else jbad) else (bif Nat.blt pc 20 then (bif Nat.beq pc 19 then J_aload 0 20 else jbad) else (bif Nat.beq pc 20 then J_getfield 7 20 23 else jbad)))) else (bif Nat.blt pc 30 then (bif Nat.blt pc 26 then (bif Nat.beq pc 23 then J_icge 52 26 else jbad) else (bif Nat.blt pc 27 then (bif Nat.beq pc 26 then J_iload 3 27 else jbad) else (bif Nat.beq pc 27 then J_ifeq 44 30 else jbad))) else (bif Nat.blt pc 31 then (bif Nat.beq pc 30 then J_aload 0 31 else jbad) else (bif Nat.blt pc 32 then (bif Nat.beq pc 31 then J_iload 2 32 else jbad) else (bif Nat.beq pc 32 then J_iload 4 34 else jbad)))))
theorem ftl_X7_which_14 : F_X7_which_14 14 = J_iconst 0 15 := rfl
theorem ftl_X7_which_15 : F_X7_which_14 15 = J_istore 4 17 := rfl
theorem ftl_X7_which_17 : F_X7_which_14 17 = J_iload 4 19 := rfl
theorem ftl_X7_which_19 : F_X7_which_14 19 = J_aload 0 20 := rfl
theorem ftl_X7_which_20 : F_X7_which_14 20 = J_getfield 7 20 23 := rfl
theorem ftl_X7_which_23 : F_X7_which_14 23 = J_icge 52 26 := rfl
theorem ftl_X7_which_26 : F_X7_which_14 26 = J_iload 3 27 := rfl
theorem ftl_X7_which_27 : F_X7_which_14 27 = J_ifeq 44 30 := rfl
theorem ftl_X7_which_30 : F_X7_which_14 30 = J_aload 0 31 := rfl
theorem ftl_X7_which_31 : F_X7_which_14 31 = J_iload 2 32 := rfl
theorem ftl_X7_which_32 : F_X7_which_14 32 = J_iload 4 34 := rfl
theorem F_X7_which_14_ok : jOK Y_X7_which none (F_X7_which_14) := (jOK_node (jOK_node (jOK_node (jOK_leaf (sn_iconst dX7_which_14 rfl rfl)) (jOK_leaf (sn_istore dX7_which_15 rfl (by decide)))) (jOK_node (jOK_leaf (sn_iload dX7_which_17 rfl)) (jOK_node (jOK_leaf (sn_aload_n dX7_which_19 rfl rfl)) (jOK_leaf (sn_getfield dX7_which_20 rfl rfl (by decide) tw_634 jin7))))) (jOK_node (jOK_node (jOK_leaf (sn_icge dX7_which_23 rfl rfl)) (jOK_node (jOK_leaf (sn_iload_n dX7_which_26 rfl rfl)) (jOK_leaf (sn_ifeq dX7_which_27 rfl rfl)))) (jOK_node (jOK_leaf (sn_aload_n dX7_which_30 rfl rfl)) (jOK_node (jOK_leaf (sn_iload_n dX7_which_31 rfl rfl)) (jOK_leaf (sn_iload dX7_which_32 rfl))))))
def F_X7_which_0_32 : Nat → jT := fun pc => bif Nat.blt pc 14 then F_X7_which_0 pc else F_X7_which_14 pc
theorem F_X7_which_0_32_l {pc : Nat} (h : Nat.blt pc 14 = true) : F_X7_which_0_32 pc = F_X7_which_0 pc := by unfold F_X7_which_0_32; rw [h]; rfl
theorem F_X7_which_0_32_r {pc : Nat} (h : Nat.blt pc 14 = false) : F_X7_which_0_32 pc = F_X7_which_14 pc := by unfold F_X7_which_0_32; rw [h]; rfl
theorem F_X7_which_0_32_ok : jOK Y_X7_which none (F_X7_which_0_32) := jOK_node (F_X7_which_0_ok) (F_X7_which_14_ok)
def F_X7_which_34 : Nat → jT := fun pc => (bif Nat.blt pc 45 then (bif Nat.blt pc 40 then (bif Nat.blt pc 37 then (bif Nat.beq pc 34 then J_callV 7 S_X7_isSoBy 2 37 else jbad) else (bif Nat.beq pc 37 then J_ifeq 44 40 else jbad)) else (bif Nat.blt pc 41 then (bif Nat.beq pc 40 then J_iconst 1 41 else jbad) else (bif Nat.blt pc 44 then (bif Nat.beq pc 41 then J_goto 45 else jbad) else (bif Nat.beq pc 44 then J_iconst 0 45 else jbad)))) else (bif Nat.blt pc 52 then (bif Nat.blt pc 46 then (bif Nat.beq pc 45 then J_istore 3 46 else jbad) else (bif Nat.blt pc 49 then (bif Nat.beq pc 46 then J_iinc 4 1 49 else jbad) else (bif Nat.beq pc 49 then J_goto 17 else jbad))) else (bif Nat.blt pc 53 then (bif Nat.beq pc 52 then J_iload 1 53 else jbad) else (bif Nat.blt pc 54 then (bif Nat.beq pc 53 then J_iload 3 54 else jbad) else (bif Nat.beq pc 54 then J_ifeq 63 57 else jbad)))))
theorem ftl_X7_which_34 : F_X7_which_34 34 = J_callV 7 S_X7_isSoBy 2 37 := rfl
theorem ftl_X7_which_37 : F_X7_which_34 37 = J_ifeq 44 40 := rfl
theorem ftl_X7_which_40 : F_X7_which_34 40 = J_iconst 1 41 := rfl
theorem ftl_X7_which_41 : F_X7_which_34 41 = J_goto 45 := rfl
theorem ftl_X7_which_44 : F_X7_which_34 44 = J_iconst 0 45 := rfl
theorem ftl_X7_which_45 : F_X7_which_34 45 = J_istore 3 46 := rfl
theorem ftl_X7_which_46 : F_X7_which_34 46 = J_iinc 4 1 49 := rfl
theorem ftl_X7_which_49 : F_X7_which_34 49 = J_goto 17 := rfl
theorem ftl_X7_which_52 : F_X7_which_34 52 = J_iload 1 53 := rfl
theorem ftl_X7_which_53 : F_X7_which_34 53 = J_iload 3 54 := rfl
theorem ftl_X7_which_54 : F_X7_which_34 54 = J_ifeq 63 57 := rfl
theorem F_X7_which_34_ok : jOK Y_X7_which none (F_X7_which_34) := (jOK_node (jOK_node (jOK_node (jOK_leaf (sn_callV (Y' := Y_X7_isSoBy) ok_X7_isSoBy dX7_which_34 rfl rfl rfl tw_976 tw_978 tp_57 tw_8 jc_X7_isSoBy rfl ⟨by decide, by decide, rfl⟩ ⟨by decide, by decide⟩)) (jOK_leaf (sn_ifeq dX7_which_37 rfl rfl))) (jOK_node (jOK_leaf (sn_iconst dX7_which_40 rfl rfl)) (jOK_node (jOK_leaf (sn_goto dX7_which_41 rfl)) (jOK_leaf (sn_iconst dX7_which_44 rfl rfl))))) (jOK_node (jOK_node (jOK_leaf (sn_istore_n dX7_which_45 rfl rfl (by decide))) (jOK_node (jOK_leaf (sn_iinc dX7_which_46 rfl rfl (by decide))) (jOK_leaf (sn_goto dX7_which_49 rfl)))) (jOK_node (jOK_leaf (sn_iload_n dX7_which_52 rfl rfl)) (jOK_node (jOK_leaf (sn_iload_n dX7_which_53 rfl rfl)) (jOK_leaf (sn_ifeq dX7_which_54 rfl rfl))))))
def F_X7_which_57 : Nat → jT := fun pc => (bif Nat.blt pc 64 then (bif Nat.blt pc 59 then (bif Nat.blt pc 58 then (bif Nat.beq pc 57 then J_iconst 1 58 else jbad) else (bif Nat.beq pc 58 then J_iload 2 59 else jbad)) else (bif Nat.blt pc 60 then (bif Nat.beq pc 59 then J_ishl 60 else jbad) else (bif Nat.blt pc 63 then (bif Nat.beq pc 60 then J_goto 64 else jbad) else (bif Nat.beq pc 63 then J_iconst 0 64 else jbad)))) else (bif Nat.blt pc 69 then (bif Nat.blt pc 65 then (bif Nat.beq pc 64 then J_ior 65 else jbad) else (bif Nat.blt pc 66 then (bif Nat.beq pc 65 then J_istore 1 66 else jbad) else (bif Nat.beq pc 66 then J_iinc 2 1 69 else jbad))) else (bif Nat.blt pc 72 then (bif Nat.beq pc 69 then J_goto 4 else jbad) else (bif Nat.blt pc 73 then (bif Nat.beq pc 72 then J_iload 1 73 else jbad) else (bif Nat.beq pc 73 then J_ireturn 0 0 else jbad)))))
theorem ftl_X7_which_57 : F_X7_which_57 57 = J_iconst 1 58 := rfl
theorem ftl_X7_which_58 : F_X7_which_57 58 = J_iload 2 59 := rfl
theorem ftl_X7_which_59 : F_X7_which_57 59 = J_ishl 60 := rfl
theorem ftl_X7_which_60 : F_X7_which_57 60 = J_goto 64 := rfl
theorem ftl_X7_which_63 : F_X7_which_57 63 = J_iconst 0 64 := rfl
theorem ftl_X7_which_64 : F_X7_which_57 64 = J_ior 65 := rfl
theorem ftl_X7_which_65 : F_X7_which_57 65 = J_istore 1 66 := rfl
theorem ftl_X7_which_66 : F_X7_which_57 66 = J_iinc 2 1 69 := rfl
theorem ftl_X7_which_69 : F_X7_which_57 69 = J_goto 4 := rfl
theorem ftl_X7_which_72 : F_X7_which_57 72 = J_iload 1 73 := rfl
theorem ftl_X7_which_73 : F_X7_which_57 73 = J_ireturn 0 0 := rfl
theorem F_X7_which_57_ok : jOK Y_X7_which none (F_X7_which_57) := (jOK_node (jOK_node (jOK_node (jOK_leaf (sn_iconst dX7_which_57 rfl rfl)) (jOK_leaf (sn_iload_n dX7_which_58 rfl rfl))) (jOK_node (jOK_leaf (sn_ishl dX7_which_59 rfl)) (jOK_node (jOK_leaf (sn_goto dX7_which_60 rfl)) (jOK_leaf (sn_iconst dX7_which_63 rfl rfl))))) (jOK_node (jOK_node (jOK_leaf (sn_ior dX7_which_64 rfl)) (jOK_node (jOK_leaf (sn_istore_n dX7_which_65 rfl rfl (by decide))) (jOK_leaf (sn_iinc dX7_which_66 rfl rfl (by decide))))) (jOK_node (jOK_leaf (sn_goto dX7_which_69 rfl)) (jOK_node (jOK_leaf (sn_iload_n dX7_which_72 rfl rfl)) (jOK_leaf (sn_ireturn dX7_which_73 rfl rfl))))))
def F_X7_which_34_73 : Nat → jT := fun pc => bif Nat.blt pc 57 then F_X7_which_34 pc else F_X7_which_57 pc
theorem F_X7_which_34_73_l {pc : Nat} (h : Nat.blt pc 57 = true) : F_X7_which_34_73 pc = F_X7_which_34 pc := by unfold F_X7_which_34_73; rw [h]; rfl
theorem F_X7_which_34_73_r {pc : Nat} (h : Nat.blt pc 57 = false) : F_X7_which_34_73 pc = F_X7_which_57 pc := by unfold F_X7_which_34_73; rw [h]; rfl
theorem F_X7_which_34_73_ok : jOK Y_X7_which none (F_X7_which_34_73) := jOK_node (F_X7_which_34_ok) (F_X7_which_57_ok)
def F_X7_which_0_73 : Nat → jT := fun pc => bif Nat.blt pc 34 then F_X7_which_0_32 pc else F_X7_which_34_73 pc
theorem F_X7_which_0_73_l {pc : Nat} (h : Nat.blt pc 34 = true) : F_X7_which_0_73 pc = F_X7_which_0_32 pc := by unfold F_X7_which_0_73; rw [h]; rfl
theorem F_X7_which_0_73_r {pc : Nat} (h : Nat.blt pc 34 = false) : F_X7_which_0_73 pc = F_X7_which_34_73 pc := by unfold F_X7_which_0_73; rw [h]; rfl
theorem F_X7_which_0_73_ok : jOK Y_X7_which none (F_X7_which_0_73) := jOK_node (F_X7_which_0_32_ok) (F_X7_which_34_73_ok)
def F_X7_which : Nat → jT := F_X7_which_0_73
theorem OK_X7_which : jOK Y_X7_which none (F_X7_which) := F_X7_which_0_73_ok
theorem ft_X7_which_0 : F_X7_which 0 = J_iconst 0 1 := (F_X7_which_0_73_l rfl).trans ((F_X7_which_0_32_l rfl).trans (ftl_X7_which_0))
theorem ft_X7_which_1 : F_X7_which 1 = J_istore 1 2 := (F_X7_which_0_73_l rfl).trans ((F_X7_which_0_32_l rfl).trans (ftl_X7_which_1))
theorem ft_X7_which_2 : F_X7_which 2 = J_iconst 0 3 := (F_X7_which_0_73_l rfl).trans ((F_X7_which_0_32_l rfl).trans (ftl_X7_which_2))
theorem ft_X7_which_3 : F_X7_which 3 = J_istore 2 4 := (F_X7_which_0_73_l rfl).trans ((F_X7_which_0_32_l rfl).trans (ftl_X7_which_3))
theorem ft_X7_which_4 : F_X7_which 4 = J_iload 2 5 := (F_X7_which_0_73_l rfl).trans ((F_X7_which_0_32_l rfl).trans (ftl_X7_which_4))
theorem ft_X7_which_5 : F_X7_which 5 = J_aload 0 6 := (F_X7_which_0_73_l rfl).trans ((F_X7_which_0_32_l rfl).trans (ftl_X7_which_5))
theorem ft_X7_which_6 : F_X7_which 6 = J_getfield 7 4 9 := (F_X7_which_0_73_l rfl).trans ((F_X7_which_0_32_l rfl).trans (ftl_X7_which_6))
theorem ft_X7_which_9 : F_X7_which 9 = J_icge 72 12 := (F_X7_which_0_73_l rfl).trans ((F_X7_which_0_32_l rfl).trans (ftl_X7_which_9))
theorem ft_X7_which_12 : F_X7_which 12 = J_iconst 1 13 := (F_X7_which_0_73_l rfl).trans ((F_X7_which_0_32_l rfl).trans (ftl_X7_which_12))
theorem ft_X7_which_13 : F_X7_which 13 = J_istore 3 14 := (F_X7_which_0_73_l rfl).trans ((F_X7_which_0_32_l rfl).trans (ftl_X7_which_13))
theorem ft_X7_which_14 : F_X7_which 14 = J_iconst 0 15 := (F_X7_which_0_73_l rfl).trans ((F_X7_which_0_32_r rfl).trans (ftl_X7_which_14))
theorem ft_X7_which_15 : F_X7_which 15 = J_istore 4 17 := (F_X7_which_0_73_l rfl).trans ((F_X7_which_0_32_r rfl).trans (ftl_X7_which_15))
theorem ft_X7_which_17 : F_X7_which 17 = J_iload 4 19 := (F_X7_which_0_73_l rfl).trans ((F_X7_which_0_32_r rfl).trans (ftl_X7_which_17))
theorem ft_X7_which_19 : F_X7_which 19 = J_aload 0 20 := (F_X7_which_0_73_l rfl).trans ((F_X7_which_0_32_r rfl).trans (ftl_X7_which_19))
theorem ft_X7_which_20 : F_X7_which 20 = J_getfield 7 20 23 := (F_X7_which_0_73_l rfl).trans ((F_X7_which_0_32_r rfl).trans (ftl_X7_which_20))
theorem ft_X7_which_23 : F_X7_which 23 = J_icge 52 26 := (F_X7_which_0_73_l rfl).trans ((F_X7_which_0_32_r rfl).trans (ftl_X7_which_23))
theorem ft_X7_which_26 : F_X7_which 26 = J_iload 3 27 := (F_X7_which_0_73_l rfl).trans ((F_X7_which_0_32_r rfl).trans (ftl_X7_which_26))
theorem ft_X7_which_27 : F_X7_which 27 = J_ifeq 44 30 := (F_X7_which_0_73_l rfl).trans ((F_X7_which_0_32_r rfl).trans (ftl_X7_which_27))
theorem ft_X7_which_30 : F_X7_which 30 = J_aload 0 31 := (F_X7_which_0_73_l rfl).trans ((F_X7_which_0_32_r rfl).trans (ftl_X7_which_30))
theorem ft_X7_which_31 : F_X7_which 31 = J_iload 2 32 := (F_X7_which_0_73_l rfl).trans ((F_X7_which_0_32_r rfl).trans (ftl_X7_which_31))
theorem ft_X7_which_32 : F_X7_which 32 = J_iload 4 34 := (F_X7_which_0_73_l rfl).trans ((F_X7_which_0_32_r rfl).trans (ftl_X7_which_32))
theorem ft_X7_which_34 : F_X7_which 34 = J_callV 7 S_X7_isSoBy 2 37 := (F_X7_which_0_73_r rfl).trans ((F_X7_which_34_73_l rfl).trans (ftl_X7_which_34))
theorem ft_X7_which_37 : F_X7_which 37 = J_ifeq 44 40 := (F_X7_which_0_73_r rfl).trans ((F_X7_which_34_73_l rfl).trans (ftl_X7_which_37))
theorem ft_X7_which_40 : F_X7_which 40 = J_iconst 1 41 := (F_X7_which_0_73_r rfl).trans ((F_X7_which_34_73_l rfl).trans (ftl_X7_which_40))
theorem ft_X7_which_41 : F_X7_which 41 = J_goto 45 := (F_X7_which_0_73_r rfl).trans ((F_X7_which_34_73_l rfl).trans (ftl_X7_which_41))
theorem ft_X7_which_44 : F_X7_which 44 = J_iconst 0 45 := (F_X7_which_0_73_r rfl).trans ((F_X7_which_34_73_l rfl).trans (ftl_X7_which_44))
theorem ft_X7_which_45 : F_X7_which 45 = J_istore 3 46 := (F_X7_which_0_73_r rfl).trans ((F_X7_which_34_73_l rfl).trans (ftl_X7_which_45))
theorem ft_X7_which_46 : F_X7_which 46 = J_iinc 4 1 49 := (F_X7_which_0_73_r rfl).trans ((F_X7_which_34_73_l rfl).trans (ftl_X7_which_46))
theorem ft_X7_which_49 : F_X7_which 49 = J_goto 17 := (F_X7_which_0_73_r rfl).trans ((F_X7_which_34_73_l rfl).trans (ftl_X7_which_49))
theorem ft_X7_which_52 : F_X7_which 52 = J_iload 1 53 := (F_X7_which_0_73_r rfl).trans ((F_X7_which_34_73_l rfl).trans (ftl_X7_which_52))
theorem ft_X7_which_53 : F_X7_which 53 = J_iload 3 54 := (F_X7_which_0_73_r rfl).trans ((F_X7_which_34_73_l rfl).trans (ftl_X7_which_53))
theorem ft_X7_which_54 : F_X7_which 54 = J_ifeq 63 57 := (F_X7_which_0_73_r rfl).trans ((F_X7_which_34_73_l rfl).trans (ftl_X7_which_54))
theorem ft_X7_which_57 : F_X7_which 57 = J_iconst 1 58 := (F_X7_which_0_73_r rfl).trans ((F_X7_which_34_73_r rfl).trans (ftl_X7_which_57))
theorem ft_X7_which_58 : F_X7_which 58 = J_iload 2 59 := (F_X7_which_0_73_r rfl).trans ((F_X7_which_34_73_r rfl).trans (ftl_X7_which_58))
theorem ft_X7_which_59 : F_X7_which 59 = J_ishl 60 := (F_X7_which_0_73_r rfl).trans ((F_X7_which_34_73_r rfl).trans (ftl_X7_which_59))
theorem ft_X7_which_60 : F_X7_which 60 = J_goto 64 := (F_X7_which_0_73_r rfl).trans ((F_X7_which_34_73_r rfl).trans (ftl_X7_which_60))
theorem ft_X7_which_63 : F_X7_which 63 = J_iconst 0 64 := (F_X7_which_0_73_r rfl).trans ((F_X7_which_34_73_r rfl).trans (ftl_X7_which_63))
theorem ft_X7_which_64 : F_X7_which 64 = J_ior 65 := (F_X7_which_0_73_r rfl).trans ((F_X7_which_34_73_r rfl).trans (ftl_X7_which_64))
theorem ft_X7_which_65 : F_X7_which 65 = J_istore 1 66 := (F_X7_which_0_73_r rfl).trans ((F_X7_which_34_73_r rfl).trans (ftl_X7_which_65))
theorem ft_X7_which_66 : F_X7_which 66 = J_iinc 2 1 69 := (F_X7_which_0_73_r rfl).trans ((F_X7_which_34_73_r rfl).trans (ftl_X7_which_66))
theorem ft_X7_which_69 : F_X7_which 69 = J_goto 4 := (F_X7_which_0_73_r rfl).trans ((F_X7_which_34_73_r rfl).trans (ftl_X7_which_69))
theorem ft_X7_which_72 : F_X7_which 72 = J_iload 1 73 := (F_X7_which_0_73_r rfl).trans ((F_X7_which_34_73_r rfl).trans (ftl_X7_which_72))
theorem ft_X7_which_73 : F_X7_which 73 = J_ireturn 0 0 := (F_X7_which_0_73_r rfl).trans ((F_X7_which_34_73_r rfl).trans (ftl_X7_which_73))
def alF (C : Nat → Nat → Int32) (P : Nat) (l : Int32) (k : Nat) : Prop := ∀ i, i < k → soP C P l i
theorem lp_X7_which_in {Q : jQ} {C : Nat → Nat → Int32} {z : Nat → Int64} {nb P K B sn c : Nat} {w : Int32} (q : AQ C P K B) (o : OR C sn) (hK : c < K) (h : ∀ C1, Ev C C1 → ∀ x y : Option Value, Rn Y_X7_which none Q 4 [some (.ref 71), some (.int (pick (alF C P (nI c) sn) (w ||| 1 <<< (nI c &&& 31)) w)), some (.int (nI (c + 1))), x, y] [] (memS 94 C1 z) (nb, 0, 0)) :
    ∀ k j, j + k = sn → ∀ C1, Ev C C1 → Rn Y_X7_which none Q 17 [some (.ref 71), some (.int w), some (.int (nI c)), some (.int (zb (alF C P (nI c) j))), some (.int (nI j))] [] (memS 94 C1 z) (nb, 0, 0) := by
  have h6 := o.1.1
  intro k
  induction k with
  | zero =>
    intro j hj C1 v
    have hjn : j = sn := by omega
    subst hjn
    have hc : (nI j ≤ nI j) = True := eq_true (nI_le (by omega) (by omega))
    have e20 : C1 71 20 = nI j := by rw [v.fld 20 rfl]; exact o.1.2.2
    refine jrun_first OK_X7_which (C := [4, 17]) 60 ?_
    have hk := h C1 v
    by_cases g : alF C P (nI c) j
    · rw [pick_t g] at hk
      rw [zb_t g]
      simp -implicitDefEqProofs only [jr_0, jr_1, jr_2, j_iconst, j_lconst, j_iload0, j_aload0, j_istore0, j_astore0, j_iinc0, j_iload1, j_aload1, j_istore1, j_astore1, j_iinc1, j_iload2, j_aload2, j_istore2, j_astore2, j_iinc2, j_iload3, j_aload3, j_istore3, j_astore3, j_iinc3, j_iload4, j_aload4, j_istore4, j_astore4, j_iinc4, j_iload5, j_aload5, j_istore5, j_astore5, j_iinc5, j_iload6, j_aload6, j_istore6, j_astore6, j_iinc6, j_iload7, j_aload7, j_istore7, j_astore7, j_iinc7, j_iload8, j_aload8, j_istore8, j_astore8, j_iinc8, j_iadd, j_isub, j_imul, j_iand, j_ior, j_ixor, j_ishl, j_ishr, j_iushr, j_idiv, j_irem, j_ineg, j_ladd, j_lmul, j_land, j_lor, j_lcmp, j_lushr, j_lshl, j_i2l, j_l2i, j_dupI, j_dupR, j_popI, j_dup2, j_ifeq, j_iceq, j_ifne, j_icne, j_iflt, j_iclt, j_ifge, j_icge, j_ifgt, j_icgt, j_ifle, j_icle, j_goto, j_tsw, j_sw0, j_sw1, j_ireturn, j_zreturn, j_lreturn, j_return, j_getfield, j_putI, j_putJ, j_putR, j_iaload, j_baload, j_iastore, j_bastore, j_aaload, j_q, j_aastore, j_acopy, j_mmin, j_mmax, j_mabs, j_objinit, j_new, j_newI, j_newQ, j_sld, j_slen, j_callV0, j_callI0, j_callS0, j_callV1, j_callI1, j_callS1, j_callV2, j_callI2, j_callS2, j_callV3, j_callS3, j_callV4, j_callS4, j_callV5, j_callS5, j_pushS, j_pushN, j_sh0, j_sh1, j_sh2, j_sh3, j_sh4, Int32.reduceAdd, Int32.reduceMul, Int32.reduceSub, Int32.reduceLT, Int32.reduceLE, eq_self, i32_10, i32_01, ne_eq, hrow_s, hrow_n, ne10, ne100, ne1000, ne7, ne4, ne14, ne9973, or_true, true_or, or_false, false_or, not_true_eq_false, not_false_eq_true, false_implies, implies_true, and_true, forall_const, true_implies, jargs_n, jargs_r, jargs_i, List.cons_append, List.nil_append, true_and, Nat.reduceEqDiff, reduceIte, ft_X7_which_0, ft_X7_which_1, ft_X7_which_2, ft_X7_which_3, ft_X7_which_4, ft_X7_which_5, ft_X7_which_6, ft_X7_which_9, ft_X7_which_12, ft_X7_which_13, ft_X7_which_14, ft_X7_which_15, ft_X7_which_17, ft_X7_which_19, ft_X7_which_20, ft_X7_which_23, ft_X7_which_26, ft_X7_which_27, ft_X7_which_30, ft_X7_which_31, ft_X7_which_32, ft_X7_which_34, ft_X7_which_37, ft_X7_which_40, ft_X7_which_41, ft_X7_which_44, ft_X7_which_45, ft_X7_which_46, ft_X7_which_49, ft_X7_which_52, ft_X7_which_53, ft_X7_which_54, ft_X7_which_57, ft_X7_which_58, ft_X7_which_59, ft_X7_which_60, ft_X7_which_63, ft_X7_which_64, ft_X7_which_65, ft_X7_which_66, ft_X7_which_69, ft_X7_which_72, ft_X7_which_73, fl_71_20, e20, hc, ne1_0, nI_1]
      exact hk _ _
    · rw [pick_f g] at hk
      rw [zb_f g]
      simp -implicitDefEqProofs only [jr_0, jr_1, jr_2, j_iconst, j_lconst, j_iload0, j_aload0, j_istore0, j_astore0, j_iinc0, j_iload1, j_aload1, j_istore1, j_astore1, j_iinc1, j_iload2, j_aload2, j_istore2, j_astore2, j_iinc2, j_iload3, j_aload3, j_istore3, j_astore3, j_iinc3, j_iload4, j_aload4, j_istore4, j_astore4, j_iinc4, j_iload5, j_aload5, j_istore5, j_astore5, j_iinc5, j_iload6, j_aload6, j_istore6, j_astore6, j_iinc6, j_iload7, j_aload7, j_istore7, j_astore7, j_iinc7, j_iload8, j_aload8, j_istore8, j_astore8, j_iinc8, j_iadd, j_isub, j_imul, j_iand, j_ior, j_ixor, j_ishl, j_ishr, j_iushr, j_idiv, j_irem, j_ineg, j_ladd, j_lmul, j_land, j_lor, j_lcmp, j_lushr, j_lshl, j_i2l, j_l2i, j_dupI, j_dupR, j_popI, j_dup2, j_ifeq, j_iceq, j_ifne, j_icne, j_iflt, j_iclt, j_ifge, j_icge, j_ifgt, j_icgt, j_ifle, j_icle, j_goto, j_tsw, j_sw0, j_sw1, j_ireturn, j_zreturn, j_lreturn, j_return, j_getfield, j_putI, j_putJ, j_putR, j_iaload, j_baload, j_iastore, j_bastore, j_aaload, j_q, j_aastore, j_acopy, j_mmin, j_mmax, j_mabs, j_objinit, j_new, j_newI, j_newQ, j_sld, j_slen, j_callV0, j_callI0, j_callS0, j_callV1, j_callI1, j_callS1, j_callV2, j_callI2, j_callS2, j_callV3, j_callS3, j_callV4, j_callS4, j_callV5, j_callS5, j_pushS, j_pushN, j_sh0, j_sh1, j_sh2, j_sh3, j_sh4, Int32.reduceAdd, Int32.reduceMul, Int32.reduceSub, Int32.reduceLT, Int32.reduceLE, eq_self, i32_10, i32_01, ne_eq, hrow_s, hrow_n, ne10, ne100, ne1000, ne7, ne4, ne14, ne9973, or_true, true_or, or_false, false_or, not_true_eq_false, not_false_eq_true, false_implies, implies_true, and_true, forall_const, true_implies, jargs_n, jargs_r, jargs_i, List.cons_append, List.nil_append, true_and, Nat.reduceEqDiff, reduceIte, ft_X7_which_0, ft_X7_which_1, ft_X7_which_2, ft_X7_which_3, ft_X7_which_4, ft_X7_which_5, ft_X7_which_6, ft_X7_which_9, ft_X7_which_12, ft_X7_which_13, ft_X7_which_14, ft_X7_which_15, ft_X7_which_17, ft_X7_which_19, ft_X7_which_20, ft_X7_which_23, ft_X7_which_26, ft_X7_which_27, ft_X7_which_30, ft_X7_which_31, ft_X7_which_32, ft_X7_which_34, ft_X7_which_37, ft_X7_which_40, ft_X7_which_41, ft_X7_which_44, ft_X7_which_45, ft_X7_which_46, ft_X7_which_49, ft_X7_which_52, ft_X7_which_53, ft_X7_which_54, ft_X7_which_57, ft_X7_which_58, ft_X7_which_59, ft_X7_which_60, ft_X7_which_63, ft_X7_which_64, ft_X7_which_65, ft_X7_which_66, ft_X7_which_69, ft_X7_which_72, ft_X7_which_73, fl_71_20, e20, hc, nI_1, Int32.or_zero]
      exact hk _ _
  | succ k ih =>
    intro j hj C1 v
    have hc : (nI sn ≤ nI j) = False := eq_false (nI_ge (by omega) (by omega))
    have e20 : C1 71 20 = nI sn := by rw [v.fld 20 rfl]; exact o.1.2.2
    have hk := ih (j + 1) (by omega)
    have e : alF C P (nI c) (j + 1) = (alF C P (nI c) j ∧ soP C P (nI c) j) := propext ⟨fun w => ⟨fun i hi => w i (by omega), w j (by omega)⟩, fun w i hi => by
      by_cases g : i = j
      · subst g; exact w.2
      · exact w.1 i (by omega)⟩
    rw [e] at hk
    refine jrun_first OK_X7_which (C := [4, 17]) 60 ?_
    by_cases g : alF C P (nI c) j
    · rw [zb_t g]
      simp -implicitDefEqProofs only [jr_0, jr_1, jr_2, j_iconst, j_lconst, j_iload0, j_aload0, j_istore0, j_astore0, j_iinc0, j_iload1, j_aload1, j_istore1, j_astore1, j_iinc1, j_iload2, j_aload2, j_istore2, j_astore2, j_iinc2, j_iload3, j_aload3, j_istore3, j_astore3, j_iinc3, j_iload4, j_aload4, j_istore4, j_astore4, j_iinc4, j_iload5, j_aload5, j_istore5, j_astore5, j_iinc5, j_iload6, j_aload6, j_istore6, j_astore6, j_iinc6, j_iload7, j_aload7, j_istore7, j_astore7, j_iinc7, j_iload8, j_aload8, j_istore8, j_astore8, j_iinc8, j_iadd, j_isub, j_imul, j_iand, j_ior, j_ixor, j_ishl, j_ishr, j_iushr, j_idiv, j_irem, j_ineg, j_ladd, j_lmul, j_land, j_lor, j_lcmp, j_lushr, j_lshl, j_i2l, j_l2i, j_dupI, j_dupR, j_popI, j_dup2, j_ifeq, j_iceq, j_ifne, j_icne, j_iflt, j_iclt, j_ifge, j_icge, j_ifgt, j_icgt, j_ifle, j_icle, j_goto, j_tsw, j_sw0, j_sw1, j_ireturn, j_zreturn, j_lreturn, j_return, j_getfield, j_putI, j_putJ, j_putR, j_iaload, j_baload, j_iastore, j_bastore, j_aaload, j_q, j_aastore, j_acopy, j_mmin, j_mmax, j_mabs, j_objinit, j_new, j_newI, j_newQ, j_sld, j_slen, j_callV0, j_callI0, j_callS0, j_callV1, j_callI1, j_callS1, j_callV2, j_callI2, j_callS2, j_callV3, j_callS3, j_callV4, j_callS4, j_callV5, j_callS5, j_pushS, j_pushN, j_sh0, j_sh1, j_sh2, j_sh3, j_sh4, Int32.reduceAdd, Int32.reduceMul, Int32.reduceSub, Int32.reduceLT, Int32.reduceLE, eq_self, i32_10, i32_01, ne_eq, hrow_s, hrow_n, ne10, ne100, ne1000, ne7, ne4, ne14, ne9973, or_true, true_or, or_false, false_or, not_true_eq_false, not_false_eq_true, false_implies, implies_true, and_true, forall_const, true_implies, jargs_n, jargs_r, jargs_i, List.cons_append, List.nil_append, true_and, Nat.reduceEqDiff, reduceIte, ft_X7_which_0, ft_X7_which_1, ft_X7_which_2, ft_X7_which_3, ft_X7_which_4, ft_X7_which_5, ft_X7_which_6, ft_X7_which_9, ft_X7_which_12, ft_X7_which_13, ft_X7_which_14, ft_X7_which_15, ft_X7_which_17, ft_X7_which_19, ft_X7_which_20, ft_X7_which_23, ft_X7_which_26, ft_X7_which_27, ft_X7_which_30, ft_X7_which_31, ft_X7_which_32, ft_X7_which_34, ft_X7_which_37, ft_X7_which_40, ft_X7_which_41, ft_X7_which_44, ft_X7_which_45, ft_X7_which_46, ft_X7_which_49, ft_X7_which_52, ft_X7_which_53, ft_X7_which_54, ft_X7_which_57, ft_X7_which_58, ft_X7_which_59, ft_X7_which_60, ft_X7_which_63, ft_X7_which_64, ft_X7_which_65, ft_X7_which_66, ft_X7_which_69, ft_X7_which_72, ft_X7_which_73, fl_71_20, e20, hc, ne1_0, rc_71]
      refine s_X7_isSoBy q v o (by omega) fun C2 v2 => ?_
      have hk := hk C2 v2
      by_cases g2 : soP C P (nI c) j
      · rw [zb_t ⟨g, g2⟩] at hk
        rw [zb_t g2]
        simp -implicitDefEqProofs only [jr_0, jr_1, jr_2, j_iconst, j_lconst, j_iload0, j_aload0, j_istore0, j_astore0, j_iinc0, j_iload1, j_aload1, j_istore1, j_astore1, j_iinc1, j_iload2, j_aload2, j_istore2, j_astore2, j_iinc2, j_iload3, j_aload3, j_istore3, j_astore3, j_iinc3, j_iload4, j_aload4, j_istore4, j_astore4, j_iinc4, j_iload5, j_aload5, j_istore5, j_astore5, j_iinc5, j_iload6, j_aload6, j_istore6, j_astore6, j_iinc6, j_iload7, j_aload7, j_istore7, j_astore7, j_iinc7, j_iload8, j_aload8, j_istore8, j_astore8, j_iinc8, j_iadd, j_isub, j_imul, j_iand, j_ior, j_ixor, j_ishl, j_ishr, j_iushr, j_idiv, j_irem, j_ineg, j_ladd, j_lmul, j_land, j_lor, j_lcmp, j_lushr, j_lshl, j_i2l, j_l2i, j_dupI, j_dupR, j_popI, j_dup2, j_ifeq, j_iceq, j_ifne, j_icne, j_iflt, j_iclt, j_ifge, j_icge, j_ifgt, j_icgt, j_ifle, j_icle, j_goto, j_tsw, j_sw0, j_sw1, j_ireturn, j_zreturn, j_lreturn, j_return, j_getfield, j_putI, j_putJ, j_putR, j_iaload, j_baload, j_iastore, j_bastore, j_aaload, j_q, j_aastore, j_acopy, j_mmin, j_mmax, j_mabs, j_objinit, j_new, j_newI, j_newQ, j_sld, j_slen, j_callV0, j_callI0, j_callS0, j_callV1, j_callI1, j_callS1, j_callV2, j_callI2, j_callS2, j_callV3, j_callS3, j_callV4, j_callS4, j_callV5, j_callS5, j_pushS, j_pushN, j_sh0, j_sh1, j_sh2, j_sh3, j_sh4, Int32.reduceAdd, Int32.reduceMul, Int32.reduceSub, Int32.reduceLT, Int32.reduceLE, eq_self, i32_10, i32_01, ne_eq, hrow_s, hrow_n, ne10, ne100, ne1000, ne7, ne4, ne14, ne9973, or_true, true_or, or_false, false_or, not_true_eq_false, not_false_eq_true, false_implies, implies_true, and_true, forall_const, true_implies, jargs_n, jargs_r, jargs_i, List.cons_append, List.nil_append, true_and, Nat.reduceEqDiff, reduceIte, ft_X7_which_0, ft_X7_which_1, ft_X7_which_2, ft_X7_which_3, ft_X7_which_4, ft_X7_which_5, ft_X7_which_6, ft_X7_which_9, ft_X7_which_12, ft_X7_which_13, ft_X7_which_14, ft_X7_which_15, ft_X7_which_17, ft_X7_which_19, ft_X7_which_20, ft_X7_which_23, ft_X7_which_26, ft_X7_which_27, ft_X7_which_30, ft_X7_which_31, ft_X7_which_32, ft_X7_which_34, ft_X7_which_37, ft_X7_which_40, ft_X7_which_41, ft_X7_which_44, ft_X7_which_45, ft_X7_which_46, ft_X7_which_49, ft_X7_which_52, ft_X7_which_53, ft_X7_which_54, ft_X7_which_57, ft_X7_which_58, ft_X7_which_59, ft_X7_which_60, ft_X7_which_63, ft_X7_which_64, ft_X7_which_65, ft_X7_which_66, ft_X7_which_69, ft_X7_which_72, ft_X7_which_73, ne1_0, nI_1]
        exact hk
      · rw [zb_f fun w => g2 w.2] at hk
        rw [zb_f g2]
        simp -implicitDefEqProofs only [jr_0, jr_1, jr_2, j_iconst, j_lconst, j_iload0, j_aload0, j_istore0, j_astore0, j_iinc0, j_iload1, j_aload1, j_istore1, j_astore1, j_iinc1, j_iload2, j_aload2, j_istore2, j_astore2, j_iinc2, j_iload3, j_aload3, j_istore3, j_astore3, j_iinc3, j_iload4, j_aload4, j_istore4, j_astore4, j_iinc4, j_iload5, j_aload5, j_istore5, j_astore5, j_iinc5, j_iload6, j_aload6, j_istore6, j_astore6, j_iinc6, j_iload7, j_aload7, j_istore7, j_astore7, j_iinc7, j_iload8, j_aload8, j_istore8, j_astore8, j_iinc8, j_iadd, j_isub, j_imul, j_iand, j_ior, j_ixor, j_ishl, j_ishr, j_iushr, j_idiv, j_irem, j_ineg, j_ladd, j_lmul, j_land, j_lor, j_lcmp, j_lushr, j_lshl, j_i2l, j_l2i, j_dupI, j_dupR, j_popI, j_dup2, j_ifeq, j_iceq, j_ifne, j_icne, j_iflt, j_iclt, j_ifge, j_icge, j_ifgt, j_icgt, j_ifle, j_icle, j_goto, j_tsw, j_sw0, j_sw1, j_ireturn, j_zreturn, j_lreturn, j_return, j_getfield, j_putI, j_putJ, j_putR, j_iaload, j_baload, j_iastore, j_bastore, j_aaload, j_q, j_aastore, j_acopy, j_mmin, j_mmax, j_mabs, j_objinit, j_new, j_newI, j_newQ, j_sld, j_slen, j_callV0, j_callI0, j_callS0, j_callV1, j_callI1, j_callS1, j_callV2, j_callI2, j_callS2, j_callV3, j_callS3, j_callV4, j_callS4, j_callV5, j_callS5, j_pushS, j_pushN, j_sh0, j_sh1, j_sh2, j_sh3, j_sh4, Int32.reduceAdd, Int32.reduceMul, Int32.reduceSub, Int32.reduceLT, Int32.reduceLE, eq_self, i32_10, i32_01, ne_eq, hrow_s, hrow_n, ne10, ne100, ne1000, ne7, ne4, ne14, ne9973, or_true, true_or, or_false, false_or, not_true_eq_false, not_false_eq_true, false_implies, implies_true, and_true, forall_const, true_implies, jargs_n, jargs_r, jargs_i, List.cons_append, List.nil_append, true_and, Nat.reduceEqDiff, reduceIte, ft_X7_which_0, ft_X7_which_1, ft_X7_which_2, ft_X7_which_3, ft_X7_which_4, ft_X7_which_5, ft_X7_which_6, ft_X7_which_9, ft_X7_which_12, ft_X7_which_13, ft_X7_which_14, ft_X7_which_15, ft_X7_which_17, ft_X7_which_19, ft_X7_which_20, ft_X7_which_23, ft_X7_which_26, ft_X7_which_27, ft_X7_which_30, ft_X7_which_31, ft_X7_which_32, ft_X7_which_34, ft_X7_which_37, ft_X7_which_40, ft_X7_which_41, ft_X7_which_44, ft_X7_which_45, ft_X7_which_46, ft_X7_which_49, ft_X7_which_52, ft_X7_which_53, ft_X7_which_54, ft_X7_which_57, ft_X7_which_58, ft_X7_which_59, ft_X7_which_60, ft_X7_which_63, ft_X7_which_64, ft_X7_which_65, ft_X7_which_66, ft_X7_which_69, ft_X7_which_72, ft_X7_which_73, nI_1]
        exact hk
    · have hk := hk C1 v
      rw [zb_f fun w => g w.1] at hk
      rw [zb_f g]
      simp -implicitDefEqProofs only [jr_0, jr_1, jr_2, j_iconst, j_lconst, j_iload0, j_aload0, j_istore0, j_astore0, j_iinc0, j_iload1, j_aload1, j_istore1, j_astore1, j_iinc1, j_iload2, j_aload2, j_istore2, j_astore2, j_iinc2, j_iload3, j_aload3, j_istore3, j_astore3, j_iinc3, j_iload4, j_aload4, j_istore4, j_astore4, j_iinc4, j_iload5, j_aload5, j_istore5, j_astore5, j_iinc5, j_iload6, j_aload6, j_istore6, j_astore6, j_iinc6, j_iload7, j_aload7, j_istore7, j_astore7, j_iinc7, j_iload8, j_aload8, j_istore8, j_astore8, j_iinc8, j_iadd, j_isub, j_imul, j_iand, j_ior, j_ixor, j_ishl, j_ishr, j_iushr, j_idiv, j_irem, j_ineg, j_ladd, j_lmul, j_land, j_lor, j_lcmp, j_lushr, j_lshl, j_i2l, j_l2i, j_dupI, j_dupR, j_popI, j_dup2, j_ifeq, j_iceq, j_ifne, j_icne, j_iflt, j_iclt, j_ifge, j_icge, j_ifgt, j_icgt, j_ifle, j_icle, j_goto, j_tsw, j_sw0, j_sw1, j_ireturn, j_zreturn, j_lreturn, j_return, j_getfield, j_putI, j_putJ, j_putR, j_iaload, j_baload, j_iastore, j_bastore, j_aaload, j_q, j_aastore, j_acopy, j_mmin, j_mmax, j_mabs, j_objinit, j_new, j_newI, j_newQ, j_sld, j_slen, j_callV0, j_callI0, j_callS0, j_callV1, j_callI1, j_callS1, j_callV2, j_callI2, j_callS2, j_callV3, j_callS3, j_callV4, j_callS4, j_callV5, j_callS5, j_pushS, j_pushN, j_sh0, j_sh1, j_sh2, j_sh3, j_sh4, Int32.reduceAdd, Int32.reduceMul, Int32.reduceSub, Int32.reduceLT, Int32.reduceLE, eq_self, i32_10, i32_01, ne_eq, hrow_s, hrow_n, ne10, ne100, ne1000, ne7, ne4, ne14, ne9973, or_true, true_or, or_false, false_or, not_true_eq_false, not_false_eq_true, false_implies, implies_true, and_true, forall_const, true_implies, jargs_n, jargs_r, jargs_i, List.cons_append, List.nil_append, true_and, Nat.reduceEqDiff, reduceIte, ft_X7_which_0, ft_X7_which_1, ft_X7_which_2, ft_X7_which_3, ft_X7_which_4, ft_X7_which_5, ft_X7_which_6, ft_X7_which_9, ft_X7_which_12, ft_X7_which_13, ft_X7_which_14, ft_X7_which_15, ft_X7_which_17, ft_X7_which_19, ft_X7_which_20, ft_X7_which_23, ft_X7_which_26, ft_X7_which_27, ft_X7_which_30, ft_X7_which_31, ft_X7_which_32, ft_X7_which_34, ft_X7_which_37, ft_X7_which_40, ft_X7_which_41, ft_X7_which_44, ft_X7_which_45, ft_X7_which_46, ft_X7_which_49, ft_X7_which_52, ft_X7_which_53, ft_X7_which_54, ft_X7_which_57, ft_X7_which_58, ft_X7_which_59, ft_X7_which_60, ft_X7_which_63, ft_X7_which_64, ft_X7_which_65, ft_X7_which_66, ft_X7_which_69, ft_X7_which_72, ft_X7_which_73, fl_71_20, e20, hc, nI_1]
      exact hk
theorem lp_X7_which {Q : jQ} {C : Nat → Nat → Int32} {z : Nat → Int64} {nb P K B sn : Nat} (q : AQ C P K B) (o : OR C sn) (h : ∀ C', Ev C C' → Q (some (.int (whF C P sn K))) (memS 94 C' z)) :
    ∀ k j, j + k = K → ∀ C1, Ev C C1 → ∀ x y : Option Value, Rn Y_X7_which none Q 4 [some (.ref 71), some (.int (whF C P sn j)), some (.int (nI j)), x, y] [] (memS 94 C1 z) (nb, 0, 0) := by
  have h6 := q.1.s.h6
  intro k
  induction k with
  | zero =>
    intro j hj C1 v x y
    have hc : (nI K ≤ nI j) = True := eq_true (nI_le (by omega) (by omega))
    have e4 : C1 71 4 = nI K := by rw [v.fld 4 rfl]; exact q.1.s.mK
    refine jrun_first OK_X7_which (C := [4, 17]) 60 ?_
    simp -implicitDefEqProofs only [jr_0, jr_1, jr_2, j_iconst, j_lconst, j_iload0, j_aload0, j_istore0, j_astore0, j_iinc0, j_iload1, j_aload1, j_istore1, j_astore1, j_iinc1, j_iload2, j_aload2, j_istore2, j_astore2, j_iinc2, j_iload3, j_aload3, j_istore3, j_astore3, j_iinc3, j_iload4, j_aload4, j_istore4, j_astore4, j_iinc4, j_iload5, j_aload5, j_istore5, j_astore5, j_iinc5, j_iload6, j_aload6, j_istore6, j_astore6, j_iinc6, j_iload7, j_aload7, j_istore7, j_astore7, j_iinc7, j_iload8, j_aload8, j_istore8, j_astore8, j_iinc8, j_iadd, j_isub, j_imul, j_iand, j_ior, j_ixor, j_ishl, j_ishr, j_iushr, j_idiv, j_irem, j_ineg, j_ladd, j_lmul, j_land, j_lor, j_lcmp, j_lushr, j_lshl, j_i2l, j_l2i, j_dupI, j_dupR, j_popI, j_dup2, j_ifeq, j_iceq, j_ifne, j_icne, j_iflt, j_iclt, j_ifge, j_icge, j_ifgt, j_icgt, j_ifle, j_icle, j_goto, j_tsw, j_sw0, j_sw1, j_ireturn, j_zreturn, j_lreturn, j_return, j_getfield, j_putI, j_putJ, j_putR, j_iaload, j_baload, j_iastore, j_bastore, j_aaload, j_q, j_aastore, j_acopy, j_mmin, j_mmax, j_mabs, j_objinit, j_new, j_newI, j_newQ, j_sld, j_slen, j_callV0, j_callI0, j_callS0, j_callV1, j_callI1, j_callS1, j_callV2, j_callI2, j_callS2, j_callV3, j_callS3, j_callV4, j_callS4, j_callV5, j_callS5, j_pushS, j_pushN, j_sh0, j_sh1, j_sh2, j_sh3, j_sh4, Int32.reduceAdd, Int32.reduceMul, Int32.reduceSub, Int32.reduceLT, Int32.reduceLE, eq_self, i32_10, i32_01, ne_eq, hrow_s, hrow_n, ne10, ne100, ne1000, ne7, ne4, ne14, ne9973, or_true, true_or, or_false, false_or, not_true_eq_false, not_false_eq_true, false_implies, implies_true, and_true, forall_const, true_implies, jargs_n, jargs_r, jargs_i, List.cons_append, List.nil_append, true_and, Nat.reduceEqDiff, reduceIte, ft_X7_which_0, ft_X7_which_1, ft_X7_which_2, ft_X7_which_3, ft_X7_which_4, ft_X7_which_5, ft_X7_which_6, ft_X7_which_9, ft_X7_which_12, ft_X7_which_13, ft_X7_which_14, ft_X7_which_15, ft_X7_which_17, ft_X7_which_19, ft_X7_which_20, ft_X7_which_23, ft_X7_which_26, ft_X7_which_27, ft_X7_which_30, ft_X7_which_31, ft_X7_which_32, ft_X7_which_34, ft_X7_which_37, ft_X7_which_40, ft_X7_which_41, ft_X7_which_44, ft_X7_which_45, ft_X7_which_46, ft_X7_which_49, ft_X7_which_52, ft_X7_which_53, ft_X7_which_54, ft_X7_which_57, ft_X7_which_58, ft_X7_which_59, ft_X7_which_60, ft_X7_which_63, ft_X7_which_64, ft_X7_which_65, ft_X7_which_66, ft_X7_which_69, ft_X7_which_72, ft_X7_which_73, fl_71_4, e4, hc]
    rw [show j = K by omega]
    exact h C1 v
  | succ k ih =>
    intro j hj C1 v x y
    have hc : (nI K ≤ nI j) = False := eq_false (nI_ge (by omega) (by omega))
    have e4 : C1 71 4 = nI K := by rw [v.fld 4 rfl]; exact q.1.s.mK
    have hk := ih (j + 1) (by omega)
    have e : whF C P sn (j + 1) = pick (alF C P (nI j) sn) (whF C P sn j ||| 1 <<< (nI j &&& 31)) (whF C P sn j) := by
      show pick (mlF C P sn (nI j) 21 0 (C 9)) _ _ = _
      rw [ml_so o]
      rfl
    rw [e] at hk
    refine jrun_first OK_X7_which (C := [4, 17]) 60 ?_
    simp -implicitDefEqProofs only [jr_0, jr_1, jr_2, j_iconst, j_lconst, j_iload0, j_aload0, j_istore0, j_astore0, j_iinc0, j_iload1, j_aload1, j_istore1, j_astore1, j_iinc1, j_iload2, j_aload2, j_istore2, j_astore2, j_iinc2, j_iload3, j_aload3, j_istore3, j_astore3, j_iinc3, j_iload4, j_aload4, j_istore4, j_astore4, j_iinc4, j_iload5, j_aload5, j_istore5, j_astore5, j_iinc5, j_iload6, j_aload6, j_istore6, j_astore6, j_iinc6, j_iload7, j_aload7, j_istore7, j_astore7, j_iinc7, j_iload8, j_aload8, j_istore8, j_astore8, j_iinc8, j_iadd, j_isub, j_imul, j_iand, j_ior, j_ixor, j_ishl, j_ishr, j_iushr, j_idiv, j_irem, j_ineg, j_ladd, j_lmul, j_land, j_lor, j_lcmp, j_lushr, j_lshl, j_i2l, j_l2i, j_dupI, j_dupR, j_popI, j_dup2, j_ifeq, j_iceq, j_ifne, j_icne, j_iflt, j_iclt, j_ifge, j_icge, j_ifgt, j_icgt, j_ifle, j_icle, j_goto, j_tsw, j_sw0, j_sw1, j_ireturn, j_zreturn, j_lreturn, j_return, j_getfield, j_putI, j_putJ, j_putR, j_iaload, j_baload, j_iastore, j_bastore, j_aaload, j_q, j_aastore, j_acopy, j_mmin, j_mmax, j_mabs, j_objinit, j_new, j_newI, j_newQ, j_sld, j_slen, j_callV0, j_callI0, j_callS0, j_callV1, j_callI1, j_callS1, j_callV2, j_callI2, j_callS2, j_callV3, j_callS3, j_callV4, j_callS4, j_callV5, j_callS5, j_pushS, j_pushN, j_sh0, j_sh1, j_sh2, j_sh3, j_sh4, Int32.reduceAdd, Int32.reduceMul, Int32.reduceSub, Int32.reduceLT, Int32.reduceLE, eq_self, i32_10, i32_01, ne_eq, hrow_s, hrow_n, ne10, ne100, ne1000, ne7, ne4, ne14, ne9973, or_true, true_or, or_false, false_or, not_true_eq_false, not_false_eq_true, false_implies, implies_true, and_true, forall_const, true_implies, jargs_n, jargs_r, jargs_i, List.cons_append, List.nil_append, true_and, Nat.reduceEqDiff, reduceIte, ft_X7_which_0, ft_X7_which_1, ft_X7_which_2, ft_X7_which_3, ft_X7_which_4, ft_X7_which_5, ft_X7_which_6, ft_X7_which_9, ft_X7_which_12, ft_X7_which_13, ft_X7_which_14, ft_X7_which_15, ft_X7_which_17, ft_X7_which_19, ft_X7_which_20, ft_X7_which_23, ft_X7_which_26, ft_X7_which_27, ft_X7_which_30, ft_X7_which_31, ft_X7_which_32, ft_X7_which_34, ft_X7_which_37, ft_X7_which_40, ft_X7_which_41, ft_X7_which_44, ft_X7_which_45, ft_X7_which_46, ft_X7_which_49, ft_X7_which_52, ft_X7_which_53, ft_X7_which_54, ft_X7_which_57, ft_X7_which_58, ft_X7_which_59, ft_X7_which_60, ft_X7_which_63, ft_X7_which_64, ft_X7_which_65, ft_X7_which_66, ft_X7_which_69, ft_X7_which_72, ft_X7_which_73, fl_71_4, e4, hc]
    have := lp_X7_which_in (nb := nb) (Q := Q) (z := z) (c := j) (w := whF C P sn j) q o (by omega) hk sn 0 (by omega) C1 v
    rw [show zb (alF C P (nI j) 0) = 1 from zb_t fun i hi => absurd hi (Nat.not_lt_zero i)] at this
    exact this
theorem ok_X7_which : jMeets Y_X7_which S_X7_which := by
  intro nb vs mem Q h
  obtain ⟨C, C1, z, P, K, B, sn, rfl, rfl, q, v, o, hQ⟩ := h
  refine Ok.run OK_X7_which [4, 17] 60 [none, none, none, none] pn7 (Nat.le_of_ble_eq_true rfl) rfl ?_
  simp -implicitDefEqProofs only [jr_0, jr_1, jr_2, j_iconst, j_lconst, j_iload0, j_aload0, j_istore0, j_astore0, j_iinc0, j_iload1, j_aload1, j_istore1, j_astore1, j_iinc1, j_iload2, j_aload2, j_istore2, j_astore2, j_iinc2, j_iload3, j_aload3, j_istore3, j_astore3, j_iinc3, j_iload4, j_aload4, j_istore4, j_astore4, j_iinc4, j_iload5, j_aload5, j_istore5, j_astore5, j_iinc5, j_iload6, j_aload6, j_istore6, j_astore6, j_iinc6, j_iload7, j_aload7, j_istore7, j_astore7, j_iinc7, j_iload8, j_aload8, j_istore8, j_astore8, j_iinc8, j_iadd, j_isub, j_imul, j_iand, j_ior, j_ixor, j_ishl, j_ishr, j_iushr, j_idiv, j_irem, j_ineg, j_ladd, j_lmul, j_land, j_lor, j_lcmp, j_lushr, j_lshl, j_i2l, j_l2i, j_dupI, j_dupR, j_popI, j_dup2, j_ifeq, j_iceq, j_ifne, j_icne, j_iflt, j_iclt, j_ifge, j_icge, j_ifgt, j_icgt, j_ifle, j_icle, j_goto, j_tsw, j_sw0, j_sw1, j_ireturn, j_zreturn, j_lreturn, j_return, j_getfield, j_putI, j_putJ, j_putR, j_iaload, j_baload, j_iastore, j_bastore, j_aaload, j_q, j_aastore, j_acopy, j_mmin, j_mmax, j_mabs, j_objinit, j_new, j_newI, j_newQ, j_sld, j_slen, j_callV0, j_callI0, j_callS0, j_callV1, j_callI1, j_callS1, j_callV2, j_callI2, j_callS2, j_callV3, j_callS3, j_callV4, j_callS4, j_callV5, j_callS5, j_pushS, j_pushN, j_sh0, j_sh1, j_sh2, j_sh3, j_sh4, Int32.reduceAdd, Int32.reduceMul, Int32.reduceSub, Int32.reduceLT, Int32.reduceLE, eq_self, i32_10, i32_01, ne_eq, hrow_s, hrow_n, ne10, ne100, ne1000, ne7, ne4, ne14, ne9973, or_true, true_or, or_false, false_or, not_true_eq_false, not_false_eq_true, false_implies, implies_true, and_true, forall_const, true_implies, jargs_n, jargs_r, jargs_i, List.cons_append, List.nil_append, true_and, Nat.reduceEqDiff, reduceIte, ft_X7_which_0, ft_X7_which_1, ft_X7_which_2, ft_X7_which_3, ft_X7_which_4, ft_X7_which_5, ft_X7_which_6, ft_X7_which_9, ft_X7_which_12, ft_X7_which_13, ft_X7_which_14, ft_X7_which_15, ft_X7_which_17, ft_X7_which_19, ft_X7_which_20, ft_X7_which_23, ft_X7_which_26, ft_X7_which_27, ft_X7_which_30, ft_X7_which_31, ft_X7_which_32, ft_X7_which_34, ft_X7_which_37, ft_X7_which_40, ft_X7_which_41, ft_X7_which_44, ft_X7_which_45, ft_X7_which_46, ft_X7_which_49, ft_X7_which_52, ft_X7_which_53, ft_X7_which_54, ft_X7_which_57, ft_X7_which_58, ft_X7_which_59, ft_X7_which_60, ft_X7_which_63, ft_X7_which_64, ft_X7_which_65, ft_X7_which_66, ft_X7_which_69, ft_X7_which_72, ft_X7_which_73]
  exact lp_X7_which q o hQ K 0 (by omega) C1 v none none
theorem co_which : Co S_X6_which S_X7_which [.ref 0] [.ref 71] := by
  intro n C z h hn
  obtain ⟨P, K, L, nx, ct, sn, h⟩ := h
  exact co_ask h (fun nb Q q => s_X6_which h.ak.rc h.ak.s.1.2.2 h.ak.s.h6 h.or.1.2.1 h.or.1.1 q) fun nb Q C1 v hq => ⟨C, C1, z, P, K, _, sn, rfl, rfl, h.aq hn, v, h.or, hq⟩
