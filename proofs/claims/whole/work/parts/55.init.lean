/-! making the objects -/
def jI (n : Nat) : jE := .inl (false, n, fun _ => 0)
def jO (c : Nat) (f : Nat → Value) : jE := .inr (.inr (c, f))
theorem jput_i {mem : jM} {a ci k : Nat} {v : Value} {f : Nat → Value} {P : jM → Prop} (h : mem a = some (jO ci f)) (hP : P (jup mem a (jO ci (va_up f k v)))) : jput mem a ci k v P := by
  unfold jput
  rw [h]
  show (bif Nat.beq ci ci then _ else False)
  rw [Nat.beq_refl]
  exact hP
theorem jfld_i {mem : jM} {a ci k : Nat} {f : Nat → Value} {P : Value → Prop} (h : mem a = some (jO ci f)) (hP : P (f k)) : jfld mem a ci k P := by
  unfold jfld
  rw [h]
  show (bif Nat.beq ci ci then _ else False)
  rw [Nat.beq_refl]
  exact hP
theorem jrcv_i {mem : jM} {a ci : Nat} {f : Nat → Value} {r : List Value} (h : mem a = some (jO ci f)) : jrcv mem ci (.ref a :: r) := by
  show (match mem a with | some (.inr (.inr (c, _))) => c = ci | _ => False)
  rw [h]
  rfl
theorem jup_s {mem : jM} {k : Nat} {e : jE} : jup mem k e k = some e := if_pos rfl
theorem jup_n {mem : jM} {k j : Nat} {e : jE} (h : j ≠ k) : jup mem k e j = mem j := if_neg h
theorem jne {mem : jM} {a b : Nat} {e : jE} (h1 : mem a = some e) (h2 : mem b = none) : a ≠ b := fun q => by rw [q, h2] at h1; cases h1
/-! memories that differ in fields that no class has -/
def jCeq (x y : Option jE) : Prop := x = y ∨ ∃ c f g r, x = some (jO c f) ∧ y = some (jO c g) ∧ vwCl[c]? = some r ∧ ∀ i, i < r.2.2 → f i = g i
def jMeq (m m' : jM) : Prop := ∀ k, jCeq (m k) (m' k)
theorem jCeq.nn {x y : Option jE} (h : jCeq x y) : y ≠ none → x ≠ none := fun hy hx => by
  rcases h with h | ⟨c, f, g, r, h1, h2, -⟩
  · exact hy (h.symm.trans hx)
  · rw [hx] at h1; cases h1
theorem jP.conv {γ : jG} {ad : Nat → Nat} {m m' : jM} {H : Heap} (h : jP γ ad m H) (e : jMeq m m') : jP γ ad m' H := by
  refine ⟨fun k x hk => ?_, fun i j hi hj => h.2 i j ((e i).nn hi) ((e j).nn hj)⟩
  rcases e k with q | ⟨c, f, g, r, h1, h2, h3, h4⟩
  · exact h.1 k x (q.trans hk)
  · rw [h2] at hk
    cases hk
    obtain ⟨r', g1, cell, q1, q2, q3, q4⟩ := h.1 k _ h1
    have : r' = r := Option.some.inj (g1.symm.trans h3)
    subst this
    exact ⟨r', g1, cell, q1, q2, q3, fun i hi => by
      show _ = some (jv ad (g i))
      rw [← h4 i hi]
      exact q4 i hi⟩
theorem Rn.conv {Y : jY} {sc : jSc} {Q : jQ} {pc : Nat} {L : jL} {st : List Value} {m m' : jM} {kk : jK} (e : jMeq m m') (h : Rn Y sc Q pc L st m' kk) : Rn Y sc Q pc L st m kk :=
  fun γ p l en R s me args below meth c ad A Z F H locs ls ha hz hl => h γ p l en R s me args below meth c ad A Z F H locs ls ⟨ha.1.conv e, fun k hk => ha.2.1 k ((e k).nn hk), ha.2.2⟩ hz hl
/-! a built memory grows -/
def okk (d d' k : Nat) : Bool := match jshp[k]? with
  | some (n, _, fs) => Nat.blt n 4 || (bif n == 4 then (List.range 20).all (fun i => Nat.blt (fs.getD i 1000) d == Nat.blt (fs.getD i 1000) d') && Nat.ble fs.length 20 else (List.range 50).all (fun i => Nat.blt (fs.getD i 2000) 4 || (Nat.blt (fs.getD i 2000 - 4) d == Nat.blt (fs.getD i 2000 - 4) d')) && Nat.ble fs.length 50)
  | none => true
theorem getD_ge {α : Type} {x : α} : ∀ {l : List α} {i : Nat}, l.length ≤ i → l.getD i x = x
  | [], _, _ => rfl
  | a :: l, 0, h => absurd h (Nat.not_succ_le_zero _)
  | a :: l, i + 1, h => getD_ge (l := l) (i := i) (by simpa using h)
theorem jfv_c {d d' : Nat} {ρ : Nat → Int32} {y : Int64} {c i : Nat} (h : (Nat.blt c 4 || (Nat.blt (c - 4) d == Nat.blt (c - 4) d')) = true) : jfv d ρ y c i = jfv d' ρ y c i := by
  match c, h with
  | 0, _ => rfl
  | 1, _ => rfl
  | 2, _ => rfl
  | 3, _ => rfl
  | t + 4, h =>
    have h1 : Nat.blt (t + 4) 4 = false := by
      cases hb : Nat.blt (t + 4) 4 with
      | true => have := Nat.blt_eq.mp hb; omega
      | false => rfl
    rw [h1, Bool.false_or, Nat.add_sub_cancel] at h
    show (bif Nat.blt t d then _ else _) = (bif Nat.blt t d' then _ else _)
    rw [eq_of_beq h]
theorem memS_k {d d' k : Nat} {C : Nat → Nat → Int32} {z : Nat → Int64} (hd : d ≤ d') (hk : k < d) (h94 : d' ≤ 94) (ok : okk d d' k = true) : memS d C z k = memS d' C z k := by
  rw [memS_lt hk, memS_lt (by omega)]
  unfold jcellR
  unfold okk at ok
  match he : jshp[k]? with
  | none => rfl
  | some (0, _, _) => rfl
  | some (1, _, _) => rfl
  | some (2, _, _) => rfl
  | some (3, _, _) => rfl
  | some (4, n, ts) =>
    rw [he] at ok
    have ok : ((List.range 20).all (fun i => Nat.blt (ts.getD i 1000) d == Nat.blt (ts.getD i 1000) d') && Nat.ble ts.length 20) = true := ok
    rw [Bool.and_eq_true, List.all_eq_true] at ok
    show some (Sum.inr (Sum.inl (n, _))) = some (Sum.inr (Sum.inl (n, _)))
    congr 4
    funext i
    by_cases hi : i < 20
    · have := ok.1 i (List.mem_range.mpr hi)
      rw [eq_of_beq this]
    · have hl := Nat.ble_eq.mp ok.2
      rw [getD_ge (by omega)]
      have b1 : ∀ x, x ≤ 94 → Nat.blt 1000 x = false := fun x hx => by
        cases hb : Nat.blt 1000 x with
        | true => have := Nat.blt_eq.mp hb; omega
        | false => rfl
      rw [b1 d (by omega), b1 d' h94]
  | some (c + 5, n, fs) =>
    rw [he] at ok
    have ok : ((List.range 50).all (fun i => Nat.blt (fs.getD i 2000) 4 || (Nat.blt (fs.getD i 2000 - 4) d == Nat.blt (fs.getD i 2000 - 4) d')) && Nat.ble fs.length 50) = true := ok
    rw [Bool.and_eq_true, List.all_eq_true] at ok
    show some (Sum.inr (Sum.inr (c, _))) = some (Sum.inr (Sum.inr (c, _)))
    congr 4
    funext i
    by_cases hi : i < 50
    · exact jfv_c (ok.1 i (List.mem_range.mpr hi))
    · have hl := Nat.ble_eq.mp ok.2
      rw [getD_ge (by omega)]
      refine jfv_c ?_
      have b1 : ∀ x, x ≤ 94 → Nat.blt (2000 - 4) x = false := fun x hx => by
        cases hb : Nat.blt (2000 - 4) x with
        | true => have := Nat.blt_eq.mp hb; omega
        | false => rfl
      rw [b1 d (by omega), b1 d' h94]
      decide
/-- the parent's field is set to the object made -/
def okp (p kf d d' : Nat) : Bool := match jshp[p]? with
  | some (_, _, fs) => (fs.getD kf 2000 == d + 4) && ((List.range 50).all (fun i => i == kf || (Nat.blt (fs.getD i 2000) 4 || (Nat.blt (fs.getD i 2000 - 4) d == Nat.blt (fs.getD i 2000 - 4) d'))) && Nat.ble fs.length 50)
  | none => false
def okB (p kf d d' : Nat) : Bool := okp p kf d d' && (List.range d).all (fun k => k == p || okk d d' k)
theorem par_up {p kf d d' ci : Nat} {fs : List Nat} {ρ : Nat → Int32} {y : Int64} (hs : jshp[p]? = some (ci + 5, 0, fs)) (hd : d < d') (h94 : d' ≤ 94) (ok : okp p kf d d' = true) : va_up (fun i => jfv d ρ y (fs.getD i 2000) i) kf (.ref d) = fun i => jfv d' ρ y (fs.getD i 2000) i := by
  unfold okp at ok
  rw [hs] at ok
  have ok : ((fs.getD kf 2000 == d + 4) && ((List.range 50).all (fun i => i == kf || (Nat.blt (fs.getD i 2000) 4 || (Nat.blt (fs.getD i 2000 - 4) d == Nat.blt (fs.getD i 2000 - 4) d'))) && Nat.ble fs.length 50)) = true := ok
  rw [Bool.and_eq_true, Bool.and_eq_true, List.all_eq_true] at ok
  obtain ⟨o1, o2, o3⟩ := ok
  funext i
  by_cases hi : i = kf
  · subst hi
    rw [va_up_self, eq_of_beq o1]
    show _ = (bif Nat.blt d d' then Value.ref d else Value.null)
    rw [Nat.blt_eq.mpr hd]
    rfl
  · rw [va_up_ne _ _ hi]
    by_cases h50 : i < 50
    · have := o2 i (List.mem_range.mpr h50)
      rw [show (i == kf) = false from beq_eq_false_iff_ne.mpr hi, Bool.false_or] at this
      exact jfv_c this
    · have hl := Nat.ble_eq.mp o3
      show jfv d ρ y (fs.getD i 2000) i = _
      rw [getD_ge (by omega)]
      refine jfv_c ?_
      have b1 : ∀ x, x ≤ 94 → Nat.blt (2000 - 4) x = false := fun x hx => by
        cases hb : Nat.blt (2000 - 4) x with
        | true => have := Nat.blt_eq.mp hb; omega
        | false => rfl
      rw [b1 d (by omega), b1 d' h94]
      decide
theorem blk {d d' p kf ci : Nat} {fs : List Nat} {C : Nat → Nat → Int32} {z : Nat → Int64} {m : jM} (hs : jshp[p]? = some (ci + 5, 0, fs)) (hr : jrow p = p) (hp : p < d) (hd : d < d') (h94 : d' ≤ 94) (hm : m p = some (jO ci (va_up (fun i => jfv d (C p) (z p) (fs.getD i 2000) i) kf (.ref d)))) (hold : ∀ k, k < d → k ≠ p → m k = memS d C z k) (hnew : ∀ k, d ≤ k → k < d' → jCeq (m k) (memS d' C z k)) (hn : ∀ k, d' ≤ k → m k = none) (ok : okB p kf d d' = true) : jMeq m (memS d' C z) := by
  unfold okB at ok
  rw [Bool.and_eq_true, List.all_eq_true] at ok
  intro k
  by_cases h1 : k < d
  · by_cases h2 : k = p
    · subst h2
      left
      rw [hm, par_up hs hd h94 ok.1, memS_lt (by omega), hr]
      unfold jcellR
      rw [hs]
      rfl
    · left
      have := ok.2 k (List.mem_range.mpr h1)
      rw [show (k == p) = false from beq_eq_false_iff_ne.mpr h2, Bool.false_or] at this
      rw [hold k h1 h2]
      exact memS_k (by omega) h1 h94 this
  · by_cases h2 : k < d'
    · exact hnew k (by omega) h2
    · left
      rw [hn k (by omega), memS_ge (by omega)]
/-! states -/
def stV (s : Nat) : Nat → Value := va_up (va_up (jdf tyX4) 0 (.ref (s + 1))) 1 (.ref (s + 2))
theorem cells_z : cellsOf zrow = fun _ => 0 := by
  funext k
  unfold cellsOf
  by_cases h : k < 32
  · rw [if_pos h]; rfl
  · rw [if_neg h]
theorem rest_z : restOf zrow = fun _ => 0 := by
  funext k
  unfold restOf
  by_cases h : k < 6
  · rw [if_pos h]; rfl
  · rw [if_neg h]
theorem st_new {s d : Nat} {C : Nat → Nat → Int32} {z : Nat → Int64} (h : jSt s d) (hc : C s = zrow) : jCeq (some (jO 4 (stV s))) (memS d C z s) ∧ some (jI 32) = memS d C z (s + 1) ∧ some (jI 6) = memS d C z (s + 2) := by
  refine ⟨Or.inr ⟨4, _, _, _, rfl, jst_o h, rfl, fun i hi => ?_⟩, ?_, ?_⟩
  · have hi : i < 4 := hi
    have h4 : i = 0 ∨ i = 1 ∨ i = 2 ∨ i = 3 := by omega
    rcases h4 with rfl | rfl | rfl | rfl
    · show Value.ref (s + 1) = (bif Nat.blt (s + 1) d then Value.ref (s + 1) else Value.null)
      rw [Nat.blt_eq.mpr (by have := h.2; omega)]
      rfl
    · show Value.ref (s + 2) = (bif Nat.blt (s + 2) d then Value.ref (s + 2) else Value.null)
      rw [Nat.blt_eq.mpr (by have := h.2; omega)]
      rfl
    · show Value.int 0 = Value.int (C s 38)
      rw [hc]; rfl
    · show Value.int 0 = Value.int (C s 39)
      rw [hc]; rfl
  · rw [jst_c h, hc, cells_z]
    rfl
  · rw [jst_r h, hc, rest_z]
    rfl
def F_X4_init_0 : Nat → jT := fun pc => (bif Nat.blt pc 9 then (bif Nat.blt pc 4 then (bif Nat.blt pc 1 then (bif Nat.beq pc 0 then J_aload 0 1 else jbad) else (bif Nat.beq pc 1 then J_objinit 4 else jbad)) else (bif Nat.blt pc 5 then (bif Nat.beq pc 4 then J_aload 0 5 else jbad) else (bif Nat.blt pc 7 then (bif Nat.beq pc 5 then J_iconst 32 7 else jbad) else (bif Nat.beq pc 7 then J_newI false 32 2 38 9 else jbad)))) else (bif Nat.blt pc 15 then (bif Nat.blt pc 12 then (bif Nat.beq pc 9 then J_putR 4 0 12 else jbad) else (bif Nat.blt pc 13 then (bif Nat.beq pc 12 then J_aload 0 13 else jbad) else (bif Nat.beq pc 13 then J_iconst 6 15 else jbad))) else (bif Nat.blt pc 17 then (bif Nat.beq pc 15 then J_newI false 6 2 38 17 else jbad) else (bif Nat.blt pc 20 then (bif Nat.beq pc 17 then J_putR 4 1 20 else jbad) else (bif Nat.beq pc 20 then J_return 2 38 else jbad)))))
theorem ftl_X4_init_0 : F_X4_init_0 0 = J_aload 0 1 := rfl
theorem ftl_X4_init_1 : F_X4_init_0 1 = J_objinit 4 := rfl
theorem ftl_X4_init_4 : F_X4_init_0 4 = J_aload 0 5 := rfl
theorem ftl_X4_init_5 : F_X4_init_0 5 = J_iconst 32 7 := rfl
theorem ftl_X4_init_7 : F_X4_init_0 7 = J_newI false 32 2 38 9 := rfl
theorem ftl_X4_init_9 : F_X4_init_0 9 = J_putR 4 0 12 := rfl
theorem ftl_X4_init_12 : F_X4_init_0 12 = J_aload 0 13 := rfl
theorem ftl_X4_init_13 : F_X4_init_0 13 = J_iconst 6 15 := rfl
theorem ftl_X4_init_15 : F_X4_init_0 15 = J_newI false 6 2 38 17 := rfl
theorem ftl_X4_init_17 : F_X4_init_0 17 = J_putR 4 1 20 := rfl
theorem ftl_X4_init_20 : F_X4_init_0 20 = J_return 2 38 := rfl
theorem F_X4_init_0_ok : jOK Y_X4_init none (F_X4_init_0) := (jOK_node (jOK_node (jOK_node (jOK_leaf (sn_aload_n dX4_init_0 rfl rfl)) (jOK_leaf (sn_objinit dX4_init_1 rfl tw_88 tw_18 tw_19 ⟨by decide, by decide⟩))) (jOK_node (jOK_leaf (sn_aload_n dX4_init_4 rfl rfl)) (jOK_node (jOK_leaf (sn_bipush dX4_init_5 rfl rfl)) (jOK_leaf (sn_newI dX4_init_7 rfl rfl rfl (by decide) tw_35))))) (jOK_node (jOK_node (jOK_leaf (sn_putR tyX4 dX4_init_9 rfl rfl (by decide) tw_89 jin4 tyX4_ok nmX4 ⟨rfl, rfl, rfl⟩ (Or.inr ⟨_, rfl⟩))) (jOK_node (jOK_leaf (sn_aload_n dX4_init_12 rfl rfl)) (jOK_leaf (sn_bipush dX4_init_13 rfl rfl)))) (jOK_node (jOK_leaf (sn_newI dX4_init_15 rfl rfl rfl (by decide) tw_35)) (jOK_node (jOK_leaf (sn_putR tyX4 dX4_init_17 rfl rfl (by decide) tw_90 jin4 tyX4_ok nmX4 ⟨rfl, rfl, rfl⟩ (Or.inr ⟨_, rfl⟩))) (jOK_leaf (sn_return dX4_init_20 rfl rfl))))))
def F_X4_init : Nat → jT := F_X4_init_0
theorem OK_X4_init : jOK Y_X4_init none (F_X4_init) := F_X4_init_0_ok
theorem ft_X4_init_0 : F_X4_init 0 = J_aload 0 1 := ftl_X4_init_0
theorem ft_X4_init_1 : F_X4_init 1 = J_objinit 4 := ftl_X4_init_1
theorem ft_X4_init_4 : F_X4_init 4 = J_aload 0 5 := ftl_X4_init_4
theorem ft_X4_init_5 : F_X4_init 5 = J_iconst 32 7 := ftl_X4_init_5
theorem ft_X4_init_7 : F_X4_init 7 = J_newI false 32 2 38 9 := ftl_X4_init_7
theorem ft_X4_init_9 : F_X4_init 9 = J_putR 4 0 12 := ftl_X4_init_9
theorem ft_X4_init_12 : F_X4_init 12 = J_aload 0 13 := ftl_X4_init_12
theorem ft_X4_init_13 : F_X4_init 13 = J_iconst 6 15 := ftl_X4_init_13
theorem ft_X4_init_15 : F_X4_init 15 = J_newI false 6 2 38 17 := ftl_X4_init_15
theorem ft_X4_init_17 : F_X4_init 17 = J_putR 4 1 20 := ftl_X4_init_17
theorem ft_X4_init_20 : F_X4_init 20 = J_return 2 38 := ftl_X4_init_20
def S_X4_init : jSp := fun nb vs mem Q => ∃ a f, vs = [.ref a] ∧ mem a = some (jO 4 f) ∧ (mem nb = none ∧ mem (nb + 1) = none ∧ nb + 1 < 1000) ∧ ∀ m : jM, m a = some (jO 4 (va_up (va_up f 0 (.ref nb)) 1 (.ref (nb + 1)))) → m nb = some (jI 32) → m (nb + 1) = some (jI 6) → (∀ j, j ≠ a → j ≠ nb → j ≠ nb + 1 → m j = mem j) → Q none m
theorem ok_X4_init : jMeets Y_X4_init S_X4_init := by
  intro nb vs mem Q h
  obtain ⟨a, f, rfl, ha, ⟨h0, h1, hb⟩, hQ⟩ := h
  have n0 := jne ha h0
  have n1 := jne ha h1
  refine Ok.run OK_X4_init [] 40 [] pn4 (Nat.le_of_ble_eq_true rfl) rfl ?_
  simp -implicitDefEqProofs only [jr_0, jr_1, jr_2, j_iconst, j_lconst, j_iload0, j_aload0, j_istore0, j_astore0, j_iinc0, j_iload1, j_aload1, j_istore1, j_astore1, j_iinc1, j_iload2, j_aload2, j_istore2, j_astore2, j_iinc2, j_iload3, j_aload3, j_istore3, j_astore3, j_iinc3, j_iload4, j_aload4, j_istore4, j_astore4, j_iinc4, j_iload5, j_aload5, j_istore5, j_astore5, j_iinc5, j_iload6, j_aload6, j_istore6, j_astore6, j_iinc6, j_iload7, j_aload7, j_istore7, j_astore7, j_iinc7, j_iload8, j_aload8, j_istore8, j_astore8, j_iinc8, j_iadd, j_isub, j_imul, j_iand, j_ior, j_ixor, j_ishl, j_ishr, j_iushr, j_idiv, j_irem, j_ineg, j_ladd, j_lmul, j_land, j_lor, j_lcmp, j_lushr, j_lshl, j_i2l, j_l2i, j_dupI, j_dupR, j_popI, j_dup2, j_ifeq, j_iceq, j_ifne, j_icne, j_iflt, j_iclt, j_ifge, j_icge, j_ifgt, j_icgt, j_ifle, j_icle, j_goto, j_tsw, j_sw0, j_sw1, j_ireturn, j_zreturn, j_lreturn, j_return, j_getfield, j_putI, j_putJ, j_putR, j_iaload, j_baload, j_iastore, j_bastore, j_aaload, j_q, j_aastore, j_acopy, j_mmin, j_mmax, j_mabs, j_objinit, j_new, j_newI, j_newQ, j_sld, j_slen, j_callV0, j_callI0, j_callS0, j_callV1, j_callI1, j_callS1, j_callV2, j_callI2, j_callS2, j_callV3, j_callS3, j_callV4, j_callS4, j_callV5, j_callS5, j_pushS, j_pushN, j_sh0, j_sh1, j_sh2, j_sh3, j_sh4, Int32.reduceAdd, Int32.reduceMul, Int32.reduceSub, Int32.reduceLT, Int32.reduceLE, eq_self, i32_10, i32_01, ne_eq, hrow_s, hrow_n, ne10, ne100, ne1000, ne7, ne4, ne14, ne9973, or_true, true_or, or_false, false_or, not_true_eq_false, not_false_eq_true, false_implies, implies_true, and_true, forall_const, true_implies, jargs_n, jargs_r, jargs_i, List.cons_append, List.nil_append, true_and, Nat.reduceEqDiff, reduceIte, ft_X4_init_0, ft_X4_init_1, ft_X4_init_4, ft_X4_init_5, ft_X4_init_7, ft_X4_init_9, ft_X4_init_12, ft_X4_init_13, ft_X4_init_15, ft_X4_init_17, ft_X4_init_20, Nat.add_zero, Nat.reduceAdd]
  refine ⟨⟨rfl, h0, by omega, by decide, by decide⟩, jput_i (f := f) (by rw [jup_n n0]; exact ha) ⟨⟨rfl, ?_, by omega, by decide, by decide⟩, jput_i (f := va_up f 0 (.ref nb)) ?_ (hQ _ ?_ ?_ ?_ fun j g1 g2 g3 => ?_)⟩⟩
  · show jup _ _ _ (nb + 1) = none
    rw [jup_n (Ne.symm n1), jup_n (by omega)]; exact h1
  · rw [jup_n n1, jup_s]; try rfl
  · rw [jup_s]
  · rw [jup_n (Ne.symm n0), jup_n (show nb ≠ nb + 1 by omega), jup_n (Ne.symm n0), jup_s]; try rfl
  · rw [jup_n (Ne.symm n1), jup_s]; try rfl
  · rw [jup_n g1, jup_n g3, jup_n g1, jup_n g2]
theorem s_X4_init {nb a : Nat} {f : Nat → Value} {mem : jM} {Q : jQ} (ha : mem a = some (jO 4 f)) (h0 : mem nb = none) (h1 : mem (nb + 1) = none) (hb : nb + 1 < 1000) (hQ : ∀ m : jM, m a = some (jO 4 (va_up (va_up f 0 (.ref nb)) 1 (.ref (nb + 1)))) → m nb = some (jI 32) → m (nb + 1) = some (jI 6) → (∀ j, j ≠ a → j ≠ nb → j ≠ nb + 1 → m j = mem j) → Q none m) : S_X4_init nb [.ref a] mem Q := ⟨a, f, rfl, ha, ⟨h0, h1, hb⟩, hQ⟩
def F_X5_init_0 : Nat → jT := fun pc => (bif Nat.blt pc 5 then (bif Nat.blt pc 1 then (bif Nat.beq pc 0 then J_aload 0 1 else jbad) else (bif Nat.blt pc 4 then (bif Nat.beq pc 1 then J_objinit 4 else jbad) else (bif Nat.beq pc 4 then J_aload 0 5 else jbad))) else (bif Nat.blt pc 9 then (bif Nat.blt pc 7 then (bif Nat.beq pc 5 then J_iconst 70 7 else jbad) else (bif Nat.beq pc 7 then J_newI false 70 1 70 9 else jbad)) else (bif Nat.blt pc 12 then (bif Nat.beq pc 9 then J_putR 5 0 12 else jbad) else (bif Nat.beq pc 12 then J_return 1 70 else jbad))))
theorem ftl_X5_init_0 : F_X5_init_0 0 = J_aload 0 1 := rfl
theorem ftl_X5_init_1 : F_X5_init_0 1 = J_objinit 4 := rfl
theorem ftl_X5_init_4 : F_X5_init_0 4 = J_aload 0 5 := rfl
theorem ftl_X5_init_5 : F_X5_init_0 5 = J_iconst 70 7 := rfl
theorem ftl_X5_init_7 : F_X5_init_0 7 = J_newI false 70 1 70 9 := rfl
theorem ftl_X5_init_9 : F_X5_init_0 9 = J_putR 5 0 12 := rfl
theorem ftl_X5_init_12 : F_X5_init_0 12 = J_return 1 70 := rfl
theorem F_X5_init_0_ok : jOK Y_X5_init none (F_X5_init_0) := (jOK_node (jOK_node (jOK_leaf (sn_aload_n dX5_init_0 rfl rfl)) (jOK_node (jOK_leaf (sn_objinit dX5_init_1 rfl tw_25 tw_18 tw_19 ⟨by decide, by decide⟩)) (jOK_leaf (sn_aload_n dX5_init_4 rfl rfl)))) (jOK_node (jOK_node (jOK_leaf (sn_bipush dX5_init_5 rfl rfl)) (jOK_leaf (sn_newI dX5_init_7 rfl rfl rfl (by decide) tw_35))) (jOK_node (jOK_leaf (sn_putR tyX5 dX5_init_9 rfl rfl (by decide) tw_26 jin5 tyX5_ok nmX5 ⟨rfl, rfl, rfl⟩ (Or.inr ⟨_, rfl⟩))) (jOK_leaf (sn_return dX5_init_12 rfl rfl)))))
def F_X5_init : Nat → jT := F_X5_init_0
theorem OK_X5_init : jOK Y_X5_init none (F_X5_init) := F_X5_init_0_ok
theorem ft_X5_init_0 : F_X5_init 0 = J_aload 0 1 := ftl_X5_init_0
theorem ft_X5_init_1 : F_X5_init 1 = J_objinit 4 := ftl_X5_init_1
theorem ft_X5_init_4 : F_X5_init 4 = J_aload 0 5 := ftl_X5_init_4
theorem ft_X5_init_5 : F_X5_init 5 = J_iconst 70 7 := ftl_X5_init_5
theorem ft_X5_init_7 : F_X5_init 7 = J_newI false 70 1 70 9 := ftl_X5_init_7
theorem ft_X5_init_9 : F_X5_init 9 = J_putR 5 0 12 := ftl_X5_init_9
theorem ft_X5_init_12 : F_X5_init 12 = J_return 1 70 := ftl_X5_init_12
def S_X5_init : jSp := fun nb vs mem Q => ∃ a f, vs = [.ref a] ∧ mem a = some (jO 5 f) ∧ (mem nb = none ∧ nb < 1000) ∧ ∀ m : jM, m a = some (jO 5 (va_up f 0 (.ref nb))) → m nb = some (jI 70) → (∀ j, j ≠ a → j ≠ nb → m j = mem j) → Q none m
theorem ok_X5_init : jMeets Y_X5_init S_X5_init := by
  intro nb vs mem Q h
  obtain ⟨a, f, rfl, ha, ⟨h0, hb⟩, hQ⟩ := h
  have n0 := jne ha h0
  refine Ok.run OK_X5_init [] 40 [] pn5 (Nat.le_of_ble_eq_true rfl) rfl ?_
  simp -implicitDefEqProofs only [jr_0, jr_1, jr_2, j_iconst, j_lconst, j_iload0, j_aload0, j_istore0, j_astore0, j_iinc0, j_iload1, j_aload1, j_istore1, j_astore1, j_iinc1, j_iload2, j_aload2, j_istore2, j_astore2, j_iinc2, j_iload3, j_aload3, j_istore3, j_astore3, j_iinc3, j_iload4, j_aload4, j_istore4, j_astore4, j_iinc4, j_iload5, j_aload5, j_istore5, j_astore5, j_iinc5, j_iload6, j_aload6, j_istore6, j_astore6, j_iinc6, j_iload7, j_aload7, j_istore7, j_astore7, j_iinc7, j_iload8, j_aload8, j_istore8, j_astore8, j_iinc8, j_iadd, j_isub, j_imul, j_iand, j_ior, j_ixor, j_ishl, j_ishr, j_iushr, j_idiv, j_irem, j_ineg, j_ladd, j_lmul, j_land, j_lor, j_lcmp, j_lushr, j_lshl, j_i2l, j_l2i, j_dupI, j_dupR, j_popI, j_dup2, j_ifeq, j_iceq, j_ifne, j_icne, j_iflt, j_iclt, j_ifge, j_icge, j_ifgt, j_icgt, j_ifle, j_icle, j_goto, j_tsw, j_sw0, j_sw1, j_ireturn, j_zreturn, j_lreturn, j_return, j_getfield, j_putI, j_putJ, j_putR, j_iaload, j_baload, j_iastore, j_bastore, j_aaload, j_q, j_aastore, j_acopy, j_mmin, j_mmax, j_mabs, j_objinit, j_new, j_newI, j_newQ, j_sld, j_slen, j_callV0, j_callI0, j_callS0, j_callV1, j_callI1, j_callS1, j_callV2, j_callI2, j_callS2, j_callV3, j_callS3, j_callV4, j_callS4, j_callV5, j_callS5, j_pushS, j_pushN, j_sh0, j_sh1, j_sh2, j_sh3, j_sh4, Int32.reduceAdd, Int32.reduceMul, Int32.reduceSub, Int32.reduceLT, Int32.reduceLE, eq_self, i32_10, i32_01, ne_eq, hrow_s, hrow_n, ne10, ne100, ne1000, ne7, ne4, ne14, ne9973, or_true, true_or, or_false, false_or, not_true_eq_false, not_false_eq_true, false_implies, implies_true, and_true, forall_const, true_implies, jargs_n, jargs_r, jargs_i, List.cons_append, List.nil_append, true_and, Nat.reduceEqDiff, reduceIte, ft_X5_init_0, ft_X5_init_1, ft_X5_init_4, ft_X5_init_5, ft_X5_init_7, ft_X5_init_9, ft_X5_init_12, Nat.add_zero, Nat.reduceAdd]
  refine ⟨⟨rfl, h0, by omega, by decide, by decide⟩, jput_i (f := f) (by rw [jup_n n0]; exact ha) (hQ _ ?_ ?_ fun j g1 g2 => ?_)⟩
  · rw [jup_s]; try rfl
  · rw [jup_n (Ne.symm n0), jup_s]; try rfl
  · rw [jup_n g1, jup_n g2]
theorem s_X5_init {nb a : Nat} {f : Nat → Value} {mem : jM} {Q : jQ} (ha : mem a = some (jO 5 f)) (h0 : mem nb = none) (hb : nb < 1000) (hQ : ∀ m : jM, m a = some (jO 5 (va_up f 0 (.ref nb))) → m nb = some (jI 70) → (∀ j, j ≠ a → j ≠ nb → m j = mem j) → Q none m) : S_X5_init nb [.ref a] mem Q := ⟨a, f, rfl, ha, ⟨h0, hb⟩, hQ⟩
def F_X3_init_0 : Nat → jT := fun pc => (bif Nat.blt pc 12 then (bif Nat.blt pc 5 then (bif Nat.blt pc 1 then (bif Nat.beq pc 0 then J_aload 0 1 else jbad) else (bif Nat.blt pc 4 then (bif Nat.beq pc 1 then J_objinit 4 else jbad) else (bif Nat.beq pc 4 then J_aload 0 5 else jbad))) else (bif Nat.blt pc 8 then (bif Nat.blt pc 6 then (bif Nat.beq pc 5 then J_iconst 4 6 else jbad) else (bif Nat.beq pc 6 then J_newI false 4 2 28 8 else jbad)) else (bif Nat.blt pc 11 then (bif Nat.beq pc 8 then J_putR 3 0 11 else jbad) else (bif Nat.beq pc 11 then J_aload 0 12 else jbad)))) else (bif Nat.blt pc 19 then (bif Nat.blt pc 14 then (bif Nat.beq pc 12 then J_iconst 24 14 else jbad) else (bif Nat.blt pc 16 then (bif Nat.beq pc 14 then J_newI false 24 2 28 16 else jbad) else (bif Nat.beq pc 16 then J_putR 3 1 19 else jbad))) else (bif Nat.blt pc 21 then (bif Nat.blt pc 20 then (bif Nat.beq pc 19 then J_aload 0 20 else jbad) else (bif Nat.beq pc 20 then J_iconst 1 21 else jbad)) else (bif Nat.blt pc 24 then (bif Nat.beq pc 21 then J_putI 3 5 24 else jbad) else (bif Nat.beq pc 24 then J_return 2 28 else jbad)))))
theorem ftl_X3_init_0 : F_X3_init_0 0 = J_aload 0 1 := rfl
theorem ftl_X3_init_1 : F_X3_init_0 1 = J_objinit 4 := rfl
theorem ftl_X3_init_4 : F_X3_init_0 4 = J_aload 0 5 := rfl
theorem ftl_X3_init_5 : F_X3_init_0 5 = J_iconst 4 6 := rfl
theorem ftl_X3_init_6 : F_X3_init_0 6 = J_newI false 4 2 28 8 := rfl
theorem ftl_X3_init_8 : F_X3_init_0 8 = J_putR 3 0 11 := rfl
theorem ftl_X3_init_11 : F_X3_init_0 11 = J_aload 0 12 := rfl
theorem ftl_X3_init_12 : F_X3_init_0 12 = J_iconst 24 14 := rfl
theorem ftl_X3_init_14 : F_X3_init_0 14 = J_newI false 24 2 28 16 := rfl
theorem ftl_X3_init_16 : F_X3_init_0 16 = J_putR 3 1 19 := rfl
theorem ftl_X3_init_19 : F_X3_init_0 19 = J_aload 0 20 := rfl
theorem ftl_X3_init_20 : F_X3_init_0 20 = J_iconst 1 21 := rfl
theorem ftl_X3_init_21 : F_X3_init_0 21 = J_putI 3 5 24 := rfl
theorem ftl_X3_init_24 : F_X3_init_0 24 = J_return 2 28 := rfl
theorem F_X3_init_0_ok : jOK Y_X3_init none (F_X3_init_0) := (jOK_node (jOK_node (jOK_node (jOK_leaf (sn_aload_n dX3_init_0 rfl rfl)) (jOK_node (jOK_leaf (sn_objinit dX3_init_1 rfl tw_41 tw_18 tw_19 ⟨by decide, by decide⟩)) (jOK_leaf (sn_aload_n dX3_init_4 rfl rfl)))) (jOK_node (jOK_node (jOK_leaf (sn_iconst dX3_init_5 rfl rfl)) (jOK_leaf (sn_newI dX3_init_6 rfl rfl rfl (by decide) tw_35))) (jOK_node (jOK_leaf (sn_putR tyX3 dX3_init_8 rfl rfl (by decide) tw_42 jin3 tyX3_ok nmX3 ⟨rfl, rfl, rfl⟩ (Or.inr ⟨_, rfl⟩))) (jOK_leaf (sn_aload_n dX3_init_11 rfl rfl))))) (jOK_node (jOK_node (jOK_leaf (sn_bipush dX3_init_12 rfl rfl)) (jOK_node (jOK_leaf (sn_newI dX3_init_14 rfl rfl rfl (by decide) tw_35)) (jOK_leaf (sn_putR tyX3 dX3_init_16 rfl rfl (by decide) tw_43 jin3 tyX3_ok nmX3 ⟨rfl, rfl, rfl⟩ (Or.inr ⟨_, rfl⟩))))) (jOK_node (jOK_node (jOK_leaf (sn_aload_n dX3_init_19 rfl rfl)) (jOK_leaf (sn_iconst dX3_init_20 rfl rfl))) (jOK_node (jOK_leaf (sn_putI tyX3 dX3_init_21 rfl rfl (by decide) tw_51 jin3 tyX3_ok nmX3 rfl rfl)) (jOK_leaf (sn_return dX3_init_24 rfl rfl))))))
def F_X3_init : Nat → jT := F_X3_init_0
theorem OK_X3_init : jOK Y_X3_init none (F_X3_init) := F_X3_init_0_ok
theorem ft_X3_init_0 : F_X3_init 0 = J_aload 0 1 := ftl_X3_init_0
theorem ft_X3_init_1 : F_X3_init 1 = J_objinit 4 := ftl_X3_init_1
theorem ft_X3_init_4 : F_X3_init 4 = J_aload 0 5 := ftl_X3_init_4
theorem ft_X3_init_5 : F_X3_init 5 = J_iconst 4 6 := ftl_X3_init_5
theorem ft_X3_init_6 : F_X3_init 6 = J_newI false 4 2 28 8 := ftl_X3_init_6
theorem ft_X3_init_8 : F_X3_init 8 = J_putR 3 0 11 := ftl_X3_init_8
theorem ft_X3_init_11 : F_X3_init 11 = J_aload 0 12 := ftl_X3_init_11
theorem ft_X3_init_12 : F_X3_init 12 = J_iconst 24 14 := ftl_X3_init_12
theorem ft_X3_init_14 : F_X3_init 14 = J_newI false 24 2 28 16 := ftl_X3_init_14
theorem ft_X3_init_16 : F_X3_init 16 = J_putR 3 1 19 := ftl_X3_init_16
theorem ft_X3_init_19 : F_X3_init 19 = J_aload 0 20 := ftl_X3_init_19
theorem ft_X3_init_20 : F_X3_init 20 = J_iconst 1 21 := ftl_X3_init_20
theorem ft_X3_init_21 : F_X3_init 21 = J_putI 3 5 24 := ftl_X3_init_21
theorem ft_X3_init_24 : F_X3_init 24 = J_return 2 28 := ftl_X3_init_24
def S_X3_init : jSp := fun nb vs mem Q => ∃ a f, vs = [.ref a] ∧ mem a = some (jO 3 f) ∧ (mem nb = none ∧ mem (nb + 1) = none ∧ nb + 1 < 1000) ∧ ∀ m : jM, m a = some (jO 3 (va_up (va_up (va_up f 0 (.ref nb)) 1 (.ref (nb + 1))) 5 (.int 1))) → m nb = some (jI 4) → m (nb + 1) = some (jI 24) → (∀ j, j ≠ a → j ≠ nb → j ≠ nb + 1 → m j = mem j) → Q none m
theorem ok_X3_init : jMeets Y_X3_init S_X3_init := by
  intro nb vs mem Q h
  obtain ⟨a, f, rfl, ha, ⟨h0, h1, hb⟩, hQ⟩ := h
  have n0 := jne ha h0
  have n1 := jne ha h1
  refine Ok.run OK_X3_init [] 40 [] pn3 (Nat.le_of_ble_eq_true rfl) rfl ?_
  simp -implicitDefEqProofs only [jr_0, jr_1, jr_2, j_iconst, j_lconst, j_iload0, j_aload0, j_istore0, j_astore0, j_iinc0, j_iload1, j_aload1, j_istore1, j_astore1, j_iinc1, j_iload2, j_aload2, j_istore2, j_astore2, j_iinc2, j_iload3, j_aload3, j_istore3, j_astore3, j_iinc3, j_iload4, j_aload4, j_istore4, j_astore4, j_iinc4, j_iload5, j_aload5, j_istore5, j_astore5, j_iinc5, j_iload6, j_aload6, j_istore6, j_astore6, j_iinc6, j_iload7, j_aload7, j_istore7, j_astore7, j_iinc7, j_iload8, j_aload8, j_istore8, j_astore8, j_iinc8, j_iadd, j_isub, j_imul, j_iand, j_ior, j_ixor, j_ishl, j_ishr, j_iushr, j_idiv, j_irem, j_ineg, j_ladd, j_lmul, j_land, j_lor, j_lcmp, j_lushr, j_lshl, j_i2l, j_l2i, j_dupI, j_dupR, j_popI, j_dup2, j_ifeq, j_iceq, j_ifne, j_icne, j_iflt, j_iclt, j_ifge, j_icge, j_ifgt, j_icgt, j_ifle, j_icle, j_goto, j_tsw, j_sw0, j_sw1, j_ireturn, j_zreturn, j_lreturn, j_return, j_getfield, j_putI, j_putJ, j_putR, j_iaload, j_baload, j_iastore, j_bastore, j_aaload, j_q, j_aastore, j_acopy, j_mmin, j_mmax, j_mabs, j_objinit, j_new, j_newI, j_newQ, j_sld, j_slen, j_callV0, j_callI0, j_callS0, j_callV1, j_callI1, j_callS1, j_callV2, j_callI2, j_callS2, j_callV3, j_callS3, j_callV4, j_callS4, j_callV5, j_callS5, j_pushS, j_pushN, j_sh0, j_sh1, j_sh2, j_sh3, j_sh4, Int32.reduceAdd, Int32.reduceMul, Int32.reduceSub, Int32.reduceLT, Int32.reduceLE, eq_self, i32_10, i32_01, ne_eq, hrow_s, hrow_n, ne10, ne100, ne1000, ne7, ne4, ne14, ne9973, or_true, true_or, or_false, false_or, not_true_eq_false, not_false_eq_true, false_implies, implies_true, and_true, forall_const, true_implies, jargs_n, jargs_r, jargs_i, List.cons_append, List.nil_append, true_and, Nat.reduceEqDiff, reduceIte, ft_X3_init_0, ft_X3_init_1, ft_X3_init_4, ft_X3_init_5, ft_X3_init_6, ft_X3_init_8, ft_X3_init_11, ft_X3_init_12, ft_X3_init_14, ft_X3_init_16, ft_X3_init_19, ft_X3_init_20, ft_X3_init_21, ft_X3_init_24, Nat.add_zero, Nat.reduceAdd]
  refine ⟨⟨rfl, h0, by omega, by decide, by decide⟩, jput_i (f := f) (by rw [jup_n n0]; exact ha) ⟨⟨rfl, ?_, by omega, by decide, by decide⟩, jput_i (f := va_up f 0 (.ref nb)) ?_ (jput_i (f := va_up (va_up f 0 (.ref nb)) 1 (.ref (nb + 1))) ?_ (hQ _ ?_ ?_ ?_ fun j g1 g2 g3 => ?_))⟩⟩
  · show jup _ _ _ (nb + 1) = none
    rw [jup_n (Ne.symm n1), jup_n (by omega)]; exact h1
  · rw [jup_n n1, jup_s]; try rfl
  · rw [jup_s]; try rfl
  · rw [jup_s]
  · rw [jup_n (Ne.symm n0), jup_n (Ne.symm n0), jup_n (show nb ≠ nb + 1 by omega), jup_n (Ne.symm n0), jup_s]; try rfl
  · rw [jup_n (Ne.symm n1), jup_n (Ne.symm n1), jup_s]; try rfl
  · rw [jup_n g1, jup_n g1, jup_n g3, jup_n g1, jup_n g2]
theorem s_X3_init {nb a : Nat} {f : Nat → Value} {mem : jM} {Q : jQ} (ha : mem a = some (jO 3 f)) (h0 : mem nb = none) (h1 : mem (nb + 1) = none) (hb : nb + 1 < 1000) (hQ : ∀ m : jM, m a = some (jO 3 (va_up (va_up (va_up f 0 (.ref nb)) 1 (.ref (nb + 1))) 5 (.int 1))) → m nb = some (jI 4) → m (nb + 1) = some (jI 24) → (∀ j, j ≠ a → j ≠ nb → j ≠ nb + 1 → m j = mem j) → Q none m) : S_X3_init nb [.ref a] mem Q := ⟨a, f, rfl, ha, ⟨h0, h1, hb⟩, hQ⟩
def F_X0_init_0 : Nat → jT := fun pc => (bif Nat.blt pc 12 then (bif Nat.blt pc 5 then (bif Nat.blt pc 1 then (bif Nat.beq pc 0 then J_aload 0 1 else jbad) else (bif Nat.blt pc 4 then (bif Nat.beq pc 1 then J_objinit 4 else jbad) else (bif Nat.beq pc 4 then J_aload 0 5 else jbad))) else (bif Nat.blt pc 8 then (bif Nat.blt pc 6 then (bif Nat.beq pc 5 then J_iconst 4 6 else jbad) else (bif Nat.beq pc 6 then J_newI false 4 2 8 8 else jbad)) else (bif Nat.blt pc 11 then (bif Nat.beq pc 8 then J_putR 0 1 11 else jbad) else (bif Nat.beq pc 11 then J_aload 0 12 else jbad)))) else (bif Nat.blt pc 18 then (bif Nat.blt pc 13 then (bif Nat.beq pc 12 then J_iconst 4 13 else jbad) else (bif Nat.blt pc 15 then (bif Nat.beq pc 13 then J_newI false 4 2 8 15 else jbad) else (bif Nat.beq pc 15 then J_putR 0 2 18 else jbad))) else (bif Nat.blt pc 20 then (bif Nat.blt pc 19 then (bif Nat.beq pc 18 then J_aload 0 19 else jbad) else (bif Nat.beq pc 19 then J_aload 1 20 else jbad)) else (bif Nat.blt pc 23 then (bif Nat.beq pc 20 then J_putR 0 0 23 else jbad) else (bif Nat.beq pc 23 then J_return 2 8 else jbad)))))
theorem ftl_X0_init_0 : F_X0_init_0 0 = J_aload 0 1 := rfl
theorem ftl_X0_init_1 : F_X0_init_0 1 = J_objinit 4 := rfl
theorem ftl_X0_init_4 : F_X0_init_0 4 = J_aload 0 5 := rfl
theorem ftl_X0_init_5 : F_X0_init_0 5 = J_iconst 4 6 := rfl
theorem ftl_X0_init_6 : F_X0_init_0 6 = J_newI false 4 2 8 8 := rfl
theorem ftl_X0_init_8 : F_X0_init_0 8 = J_putR 0 1 11 := rfl
theorem ftl_X0_init_11 : F_X0_init_0 11 = J_aload 0 12 := rfl
theorem ftl_X0_init_12 : F_X0_init_0 12 = J_iconst 4 13 := rfl
theorem ftl_X0_init_13 : F_X0_init_0 13 = J_newI false 4 2 8 15 := rfl
theorem ftl_X0_init_15 : F_X0_init_0 15 = J_putR 0 2 18 := rfl
theorem ftl_X0_init_18 : F_X0_init_0 18 = J_aload 0 19 := rfl
theorem ftl_X0_init_19 : F_X0_init_0 19 = J_aload 1 20 := rfl
theorem ftl_X0_init_20 : F_X0_init_0 20 = J_putR 0 0 23 := rfl
theorem ftl_X0_init_23 : F_X0_init_0 23 = J_return 2 8 := rfl
theorem F_X0_init_0_ok : jOK Y_X0_init none (F_X0_init_0) := (jOK_node (jOK_node (jOK_node (jOK_leaf (sn_aload_n dX0_init_0 rfl rfl)) (jOK_node (jOK_leaf (sn_objinit dX0_init_1 rfl tw_72 tw_18 tw_19 ⟨by decide, by decide⟩)) (jOK_leaf (sn_aload_n dX0_init_4 rfl rfl)))) (jOK_node (jOK_node (jOK_leaf (sn_iconst dX0_init_5 rfl rfl)) (jOK_leaf (sn_newI dX0_init_6 rfl rfl rfl (by decide) tw_35))) (jOK_node (jOK_leaf (sn_putR tyX0 dX0_init_8 rfl rfl (by decide) tw_74 jin0 tyX0_ok nmX0 ⟨rfl, rfl, rfl⟩ (Or.inr ⟨_, rfl⟩))) (jOK_leaf (sn_aload_n dX0_init_11 rfl rfl))))) (jOK_node (jOK_node (jOK_leaf (sn_iconst dX0_init_12 rfl rfl)) (jOK_node (jOK_leaf (sn_newI dX0_init_13 rfl rfl rfl (by decide) tw_35)) (jOK_leaf (sn_putR tyX0 dX0_init_15 rfl rfl (by decide) tw_75 jin0 tyX0_ok nmX0 ⟨rfl, rfl, rfl⟩ (Or.inr ⟨_, rfl⟩))))) (jOK_node (jOK_node (jOK_leaf (sn_aload_n dX0_init_18 rfl rfl)) (jOK_leaf (sn_aload_n dX0_init_19 rfl rfl))) (jOK_node (jOK_leaf (sn_putR tyX0 dX0_init_20 rfl rfl (by decide) tw_73 jin0 tyX0_ok nmX0 ⟨rfl, rfl, rfl⟩ (Or.inl ⟨_, rfl⟩))) (jOK_leaf (sn_return dX0_init_23 rfl rfl))))))
def F_X0_init : Nat → jT := F_X0_init_0
theorem OK_X0_init : jOK Y_X0_init none (F_X0_init) := F_X0_init_0_ok
theorem ft_X0_init_0 : F_X0_init 0 = J_aload 0 1 := ftl_X0_init_0
theorem ft_X0_init_1 : F_X0_init 1 = J_objinit 4 := ftl_X0_init_1
theorem ft_X0_init_4 : F_X0_init 4 = J_aload 0 5 := ftl_X0_init_4
theorem ft_X0_init_5 : F_X0_init 5 = J_iconst 4 6 := ftl_X0_init_5
theorem ft_X0_init_6 : F_X0_init 6 = J_newI false 4 2 8 8 := ftl_X0_init_6
theorem ft_X0_init_8 : F_X0_init 8 = J_putR 0 1 11 := ftl_X0_init_8
theorem ft_X0_init_11 : F_X0_init 11 = J_aload 0 12 := ftl_X0_init_11
theorem ft_X0_init_12 : F_X0_init 12 = J_iconst 4 13 := ftl_X0_init_12
theorem ft_X0_init_13 : F_X0_init 13 = J_newI false 4 2 8 15 := ftl_X0_init_13
theorem ft_X0_init_15 : F_X0_init 15 = J_putR 0 2 18 := ftl_X0_init_15
theorem ft_X0_init_18 : F_X0_init 18 = J_aload 0 19 := ftl_X0_init_18
theorem ft_X0_init_19 : F_X0_init 19 = J_aload 1 20 := ftl_X0_init_19
theorem ft_X0_init_20 : F_X0_init 20 = J_putR 0 0 23 := ftl_X0_init_20
theorem ft_X0_init_23 : F_X0_init 23 = J_return 2 8 := ftl_X0_init_23
def S_X0_init : jSp := fun nb vs mem Q => ∃ a b f, vs = [.ref a, .ref b] ∧ mem a = some (jO 0 f) ∧ (mem nb = none ∧ mem (nb + 1) = none ∧ nb + 1 < 1000) ∧ ∀ m : jM, m a = some (jO 0 (va_up (va_up (va_up f 1 (.ref nb)) 2 (.ref (nb + 1))) 0 (.ref b))) → m nb = some (jI 4) → m (nb + 1) = some (jI 4) → (∀ j, j ≠ a → j ≠ nb → j ≠ nb + 1 → m j = mem j) → Q none m
theorem ok_X0_init : jMeets Y_X0_init S_X0_init := by
  intro nb vs mem Q h
  obtain ⟨a, b, f, rfl, ha, ⟨h0, h1, hb⟩, hQ⟩ := h
  have n0 := jne ha h0
  have n1 := jne ha h1
  refine Ok.run OK_X0_init [] 40 [] pn0 (Nat.le_of_ble_eq_true rfl) rfl ?_
  simp -implicitDefEqProofs only [jr_0, jr_1, jr_2, j_iconst, j_lconst, j_iload0, j_aload0, j_istore0, j_astore0, j_iinc0, j_iload1, j_aload1, j_istore1, j_astore1, j_iinc1, j_iload2, j_aload2, j_istore2, j_astore2, j_iinc2, j_iload3, j_aload3, j_istore3, j_astore3, j_iinc3, j_iload4, j_aload4, j_istore4, j_astore4, j_iinc4, j_iload5, j_aload5, j_istore5, j_astore5, j_iinc5, j_iload6, j_aload6, j_istore6, j_astore6, j_iinc6, j_iload7, j_aload7, j_istore7, j_astore7, j_iinc7, j_iload8, j_aload8, j_istore8, j_astore8, j_iinc8, j_iadd, j_isub, j_imul, j_iand, j_ior, j_ixor, j_ishl, j_ishr, j_iushr, j_idiv, j_irem, j_ineg, j_ladd, j_lmul, j_land, j_lor, j_lcmp, j_lushr, j_lshl, j_i2l, j_l2i, j_dupI, j_dupR, j_popI, j_dup2, j_ifeq, j_iceq, j_ifne, j_icne, j_iflt, j_iclt, j_ifge, j_icge, j_ifgt, j_icgt, j_ifle, j_icle, j_goto, j_tsw, j_sw0, j_sw1, j_ireturn, j_zreturn, j_lreturn, j_return, j_getfield, j_putI, j_putJ, j_putR, j_iaload, j_baload, j_iastore, j_bastore, j_aaload, j_q, j_aastore, j_acopy, j_mmin, j_mmax, j_mabs, j_objinit, j_new, j_newI, j_newQ, j_sld, j_slen, j_callV0, j_callI0, j_callS0, j_callV1, j_callI1, j_callS1, j_callV2, j_callI2, j_callS2, j_callV3, j_callS3, j_callV4, j_callS4, j_callV5, j_callS5, j_pushS, j_pushN, j_sh0, j_sh1, j_sh2, j_sh3, j_sh4, Int32.reduceAdd, Int32.reduceMul, Int32.reduceSub, Int32.reduceLT, Int32.reduceLE, eq_self, i32_10, i32_01, ne_eq, hrow_s, hrow_n, ne10, ne100, ne1000, ne7, ne4, ne14, ne9973, or_true, true_or, or_false, false_or, not_true_eq_false, not_false_eq_true, false_implies, implies_true, and_true, forall_const, true_implies, jargs_n, jargs_r, jargs_i, List.cons_append, List.nil_append, true_and, Nat.reduceEqDiff, reduceIte, ft_X0_init_0, ft_X0_init_1, ft_X0_init_4, ft_X0_init_5, ft_X0_init_6, ft_X0_init_8, ft_X0_init_11, ft_X0_init_12, ft_X0_init_13, ft_X0_init_15, ft_X0_init_18, ft_X0_init_19, ft_X0_init_20, ft_X0_init_23, Nat.add_zero, Nat.reduceAdd]
  refine ⟨⟨rfl, h0, by omega, by decide, by decide⟩, jput_i (f := f) (by rw [jup_n n0]; exact ha) ⟨⟨rfl, ?_, by omega, by decide, by decide⟩, jput_i (f := va_up f 1 (.ref nb)) ?_ (jput_i (f := va_up (va_up f 1 (.ref nb)) 2 (.ref (nb + 1))) ?_ (hQ _ ?_ ?_ ?_ fun j g1 g2 g3 => ?_))⟩⟩
  · show jup _ _ _ (nb + 1) = none
    rw [jup_n (Ne.symm n1), jup_n (by omega)]; exact h1
  · rw [jup_n n1, jup_s]; try rfl
  · rw [jup_s]; try rfl
  · rw [jup_s]
  · rw [jup_n (Ne.symm n0), jup_n (Ne.symm n0), jup_n (show nb ≠ nb + 1 by omega), jup_n (Ne.symm n0), jup_s]; try rfl
  · rw [jup_n (Ne.symm n1), jup_n (Ne.symm n1), jup_s]; try rfl
  · rw [jup_n g1, jup_n g1, jup_n g3, jup_n g1, jup_n g2]
theorem s_X0_init {nb a b : Nat} {f : Nat → Value} {mem : jM} {Q : jQ} (ha : mem a = some (jO 0 f)) (h0 : mem nb = none) (h1 : mem (nb + 1) = none) (hb : nb + 1 < 1000) (hQ : ∀ m : jM, m a = some (jO 0 (va_up (va_up (va_up f 1 (.ref nb)) 2 (.ref (nb + 1))) 0 (.ref b))) → m nb = some (jI 4) → m (nb + 1) = some (jI 4) → (∀ j, j ≠ a → j ≠ nb → j ≠ nb + 1 → m j = mem j) → Q none m) : S_X0_init nb [.ref a, .ref b] mem Q := ⟨a, b, f, rfl, ha, ⟨h0, h1, hb⟩, hQ⟩
def F_X2_init_0 : Nat → jT := fun pc => (bif Nat.blt pc 13 then (bif Nat.blt pc 5 then (bif Nat.blt pc 1 then (bif Nat.beq pc 0 then J_aload 0 1 else jbad) else (bif Nat.blt pc 4 then (bif Nat.beq pc 1 then J_objinit 4 else jbad) else (bif Nat.beq pc 4 then J_aload 0 5 else jbad))) else (bif Nat.blt pc 9 then (bif Nat.blt pc 7 then (bif Nat.beq pc 5 then J_iconst 6 7 else jbad) else (bif Nat.beq pc 7 then J_newI false 6 3 18 9 else jbad)) else (bif Nat.blt pc 12 then (bif Nat.beq pc 9 then J_putR 2 0 12 else jbad) else (bif Nat.beq pc 12 then J_aload 0 13 else jbad)))) else (bif Nat.blt pc 21 then (bif Nat.blt pc 17 then (bif Nat.blt pc 15 then (bif Nat.beq pc 13 then J_iconst 6 15 else jbad) else (bif Nat.beq pc 15 then J_newI false 6 3 18 17 else jbad)) else (bif Nat.blt pc 20 then (bif Nat.beq pc 17 then J_putR 2 1 20 else jbad) else (bif Nat.beq pc 20 then J_aload 0 21 else jbad))) else (bif Nat.blt pc 25 then (bif Nat.blt pc 23 then (bif Nat.beq pc 21 then J_iconst 6 23 else jbad) else (bif Nat.beq pc 23 then J_newI false 6 3 18 25 else jbad)) else (bif Nat.blt pc 28 then (bif Nat.beq pc 25 then J_putR 2 2 28 else jbad) else (bif Nat.beq pc 28 then J_return 3 18 else jbad)))))
theorem ftl_X2_init_0 : F_X2_init_0 0 = J_aload 0 1 := rfl
theorem ftl_X2_init_1 : F_X2_init_0 1 = J_objinit 4 := rfl
theorem ftl_X2_init_4 : F_X2_init_0 4 = J_aload 0 5 := rfl
theorem ftl_X2_init_5 : F_X2_init_0 5 = J_iconst 6 7 := rfl
theorem ftl_X2_init_7 : F_X2_init_0 7 = J_newI false 6 3 18 9 := rfl
theorem ftl_X2_init_9 : F_X2_init_0 9 = J_putR 2 0 12 := rfl
theorem ftl_X2_init_12 : F_X2_init_0 12 = J_aload 0 13 := rfl
theorem ftl_X2_init_13 : F_X2_init_0 13 = J_iconst 6 15 := rfl
theorem ftl_X2_init_15 : F_X2_init_0 15 = J_newI false 6 3 18 17 := rfl
theorem ftl_X2_init_17 : F_X2_init_0 17 = J_putR 2 1 20 := rfl
theorem ftl_X2_init_20 : F_X2_init_0 20 = J_aload 0 21 := rfl
theorem ftl_X2_init_21 : F_X2_init_0 21 = J_iconst 6 23 := rfl
theorem ftl_X2_init_23 : F_X2_init_0 23 = J_newI false 6 3 18 25 := rfl
theorem ftl_X2_init_25 : F_X2_init_0 25 = J_putR 2 2 28 := rfl
theorem ftl_X2_init_28 : F_X2_init_0 28 = J_return 3 18 := rfl
theorem F_X2_init_0_ok : jOK Y_X2_init none (F_X2_init_0) := (jOK_node (jOK_node (jOK_node (jOK_leaf (sn_aload_n dX2_init_0 rfl rfl)) (jOK_node (jOK_leaf (sn_objinit dX2_init_1 rfl tw_131 tw_18 tw_19 ⟨by decide, by decide⟩)) (jOK_leaf (sn_aload_n dX2_init_4 rfl rfl)))) (jOK_node (jOK_node (jOK_leaf (sn_bipush dX2_init_5 rfl rfl)) (jOK_leaf (sn_newI dX2_init_7 rfl rfl rfl (by decide) tw_35))) (jOK_node (jOK_leaf (sn_putR tyX2 dX2_init_9 rfl rfl (by decide) tw_132 jin2 tyX2_ok nmX2 ⟨rfl, rfl, rfl⟩ (Or.inr ⟨_, rfl⟩))) (jOK_leaf (sn_aload_n dX2_init_12 rfl rfl))))) (jOK_node (jOK_node (jOK_node (jOK_leaf (sn_bipush dX2_init_13 rfl rfl)) (jOK_leaf (sn_newI dX2_init_15 rfl rfl rfl (by decide) tw_35))) (jOK_node (jOK_leaf (sn_putR tyX2 dX2_init_17 rfl rfl (by decide) tw_133 jin2 tyX2_ok nmX2 ⟨rfl, rfl, rfl⟩ (Or.inr ⟨_, rfl⟩))) (jOK_leaf (sn_aload_n dX2_init_20 rfl rfl)))) (jOK_node (jOK_node (jOK_leaf (sn_bipush dX2_init_21 rfl rfl)) (jOK_leaf (sn_newI dX2_init_23 rfl rfl rfl (by decide) tw_35))) (jOK_node (jOK_leaf (sn_putR tyX2 dX2_init_25 rfl rfl (by decide) tw_134 jin2 tyX2_ok nmX2 ⟨rfl, rfl, rfl⟩ (Or.inr ⟨_, rfl⟩))) (jOK_leaf (sn_return dX2_init_28 rfl rfl))))))
def F_X2_init : Nat → jT := F_X2_init_0
theorem OK_X2_init : jOK Y_X2_init none (F_X2_init) := F_X2_init_0_ok
theorem ft_X2_init_0 : F_X2_init 0 = J_aload 0 1 := ftl_X2_init_0
theorem ft_X2_init_1 : F_X2_init 1 = J_objinit 4 := ftl_X2_init_1
theorem ft_X2_init_4 : F_X2_init 4 = J_aload 0 5 := ftl_X2_init_4
theorem ft_X2_init_5 : F_X2_init 5 = J_iconst 6 7 := ftl_X2_init_5
theorem ft_X2_init_7 : F_X2_init 7 = J_newI false 6 3 18 9 := ftl_X2_init_7
theorem ft_X2_init_9 : F_X2_init 9 = J_putR 2 0 12 := ftl_X2_init_9
theorem ft_X2_init_12 : F_X2_init 12 = J_aload 0 13 := ftl_X2_init_12
theorem ft_X2_init_13 : F_X2_init 13 = J_iconst 6 15 := ftl_X2_init_13
theorem ft_X2_init_15 : F_X2_init 15 = J_newI false 6 3 18 17 := ftl_X2_init_15
theorem ft_X2_init_17 : F_X2_init 17 = J_putR 2 1 20 := ftl_X2_init_17
theorem ft_X2_init_20 : F_X2_init 20 = J_aload 0 21 := ftl_X2_init_20
theorem ft_X2_init_21 : F_X2_init 21 = J_iconst 6 23 := ftl_X2_init_21
theorem ft_X2_init_23 : F_X2_init 23 = J_newI false 6 3 18 25 := ftl_X2_init_23
theorem ft_X2_init_25 : F_X2_init 25 = J_putR 2 2 28 := ftl_X2_init_25
theorem ft_X2_init_28 : F_X2_init 28 = J_return 3 18 := ftl_X2_init_28
def S_X2_init : jSp := fun nb vs mem Q => ∃ a f, vs = [.ref a] ∧ mem a = some (jO 2 f) ∧ (mem nb = none ∧ mem (nb + 1) = none ∧ mem (nb + 2) = none ∧ nb + 2 < 1000) ∧ ∀ m : jM, m a = some (jO 2 (va_up (va_up (va_up f 0 (.ref nb)) 1 (.ref (nb + 1))) 2 (.ref (nb + 2)))) → m nb = some (jI 6) → m (nb + 1) = some (jI 6) → m (nb + 2) = some (jI 6) → (∀ j, j ≠ a → j ≠ nb → j ≠ nb + 1 → j ≠ nb + 2 → m j = mem j) → Q none m
theorem ok_X2_init : jMeets Y_X2_init S_X2_init := by
  intro nb vs mem Q h
  obtain ⟨a, f, rfl, ha, ⟨h0, h1, h2, hb⟩, hQ⟩ := h
  have n0 := jne ha h0
  have n1 := jne ha h1
  have n2 := jne ha h2
  refine Ok.run OK_X2_init [] 40 [] pn2 (Nat.le_of_ble_eq_true rfl) rfl ?_
  simp -implicitDefEqProofs only [jr_0, jr_1, jr_2, j_iconst, j_lconst, j_iload0, j_aload0, j_istore0, j_astore0, j_iinc0, j_iload1, j_aload1, j_istore1, j_astore1, j_iinc1, j_iload2, j_aload2, j_istore2, j_astore2, j_iinc2, j_iload3, j_aload3, j_istore3, j_astore3, j_iinc3, j_iload4, j_aload4, j_istore4, j_astore4, j_iinc4, j_iload5, j_aload5, j_istore5, j_astore5, j_iinc5, j_iload6, j_aload6, j_istore6, j_astore6, j_iinc6, j_iload7, j_aload7, j_istore7, j_astore7, j_iinc7, j_iload8, j_aload8, j_istore8, j_astore8, j_iinc8, j_iadd, j_isub, j_imul, j_iand, j_ior, j_ixor, j_ishl, j_ishr, j_iushr, j_idiv, j_irem, j_ineg, j_ladd, j_lmul, j_land, j_lor, j_lcmp, j_lushr, j_lshl, j_i2l, j_l2i, j_dupI, j_dupR, j_popI, j_dup2, j_ifeq, j_iceq, j_ifne, j_icne, j_iflt, j_iclt, j_ifge, j_icge, j_ifgt, j_icgt, j_ifle, j_icle, j_goto, j_tsw, j_sw0, j_sw1, j_ireturn, j_zreturn, j_lreturn, j_return, j_getfield, j_putI, j_putJ, j_putR, j_iaload, j_baload, j_iastore, j_bastore, j_aaload, j_q, j_aastore, j_acopy, j_mmin, j_mmax, j_mabs, j_objinit, j_new, j_newI, j_newQ, j_sld, j_slen, j_callV0, j_callI0, j_callS0, j_callV1, j_callI1, j_callS1, j_callV2, j_callI2, j_callS2, j_callV3, j_callS3, j_callV4, j_callS4, j_callV5, j_callS5, j_pushS, j_pushN, j_sh0, j_sh1, j_sh2, j_sh3, j_sh4, Int32.reduceAdd, Int32.reduceMul, Int32.reduceSub, Int32.reduceLT, Int32.reduceLE, eq_self, i32_10, i32_01, ne_eq, hrow_s, hrow_n, ne10, ne100, ne1000, ne7, ne4, ne14, ne9973, or_true, true_or, or_false, false_or, not_true_eq_false, not_false_eq_true, false_implies, implies_true, and_true, forall_const, true_implies, jargs_n, jargs_r, jargs_i, List.cons_append, List.nil_append, true_and, Nat.reduceEqDiff, reduceIte, ft_X2_init_0, ft_X2_init_1, ft_X2_init_4, ft_X2_init_5, ft_X2_init_7, ft_X2_init_9, ft_X2_init_12, ft_X2_init_13, ft_X2_init_15, ft_X2_init_17, ft_X2_init_20, ft_X2_init_21, ft_X2_init_23, ft_X2_init_25, ft_X2_init_28, Nat.add_zero, Nat.reduceAdd]
  refine ⟨⟨rfl, h0, by omega, by decide, by decide⟩, jput_i (f := f) (by rw [jup_n n0]; exact ha) ⟨⟨rfl, ?_, by omega, by decide, by decide⟩, jput_i (f := va_up f 0 (.ref nb)) ?_ ⟨⟨rfl, ?_, by omega, by decide, by decide⟩, jput_i (f := va_up (va_up f 0 (.ref nb)) 1 (.ref (nb + 1))) ?_ (hQ _ ?_ ?_ ?_ ?_ fun j g1 g2 g3 g4 => ?_)⟩⟩⟩
  · show jup _ _ _ (nb + 1) = none
    rw [jup_n (Ne.symm n1), jup_n (by omega)]; exact h1
  · rw [jup_n n1, jup_s]; try rfl
  · show jup _ _ _ (nb + 2) = none
    rw [jup_n (Ne.symm n2), jup_n (show nb + 2 ≠ nb + 1 by omega), jup_n (Ne.symm n2), jup_n (show nb + 2 ≠ nb by omega)]; exact h2
  · rw [jup_n n2, jup_s]; try rfl
  · rw [jup_s]
  · rw [jup_n (Ne.symm n0), jup_n (show nb ≠ nb + 2 by omega), jup_n (Ne.symm n0), jup_n (show nb ≠ nb + 1 by omega), jup_n (Ne.symm n0), jup_s]; try rfl
  · rw [jup_n (Ne.symm n1), jup_n (show nb + 1 ≠ nb + 2 by omega), jup_n (Ne.symm n1), jup_s]; try rfl
  · rw [jup_n (Ne.symm n2), jup_s]; try rfl
  · rw [jup_n g1, jup_n g4, jup_n g1, jup_n g3, jup_n g1, jup_n g2]
theorem s_X2_init {nb a : Nat} {f : Nat → Value} {mem : jM} {Q : jQ} (ha : mem a = some (jO 2 f)) (h0 : mem nb = none) (h1 : mem (nb + 1) = none) (h2 : mem (nb + 2) = none) (hb : nb + 2 < 1000) (hQ : ∀ m : jM, m a = some (jO 2 (va_up (va_up (va_up f 0 (.ref nb)) 1 (.ref (nb + 1))) 2 (.ref (nb + 2)))) → m nb = some (jI 6) → m (nb + 1) = some (jI 6) → m (nb + 2) = some (jI 6) → (∀ j, j ≠ a → j ≠ nb → j ≠ nb + 1 → j ≠ nb + 2 → m j = mem j) → Q none m) : S_X2_init nb [.ref a] mem Q := ⟨a, f, rfl, ha, ⟨h0, h1, h2, hb⟩, hQ⟩
