
def jdf (ty : Nat → FieldType) : Nat → Value := fun k => defaultValue (ty k)
def J_objinit (nx : Nat) : jT := fun L st mem kk _ K => jpR st fun _ st => jshort st = true ∧ K nx L st mem kk
def J_new (ci N : Nat) (ty : Nat → FieldType) (Mc Ms nx : Nat) : jT := fun L st mem kk _ K => (mem (kk.1 + kk.2.1) = none ∧ kk.1 + kk.2.1 < 1000 ∧ kk.2.1 + 1 ≤ Mc ∧ kk.2.2 + N ≤ Ms) ∧ K nx L (.ref (kk.1 + kk.2.1) :: st) (jup mem (kk.1 + kk.2.1) (.inr (.inr (ci, jdf ty)))) (kk.1, kk.2.1 + 1, kk.2.2 + N)
def J_newI (b : Bool) (N Mc Ms nx : Nat) : jT := fun L st mem kk _ K => jpI st fun x st => (x = nI N ∧ mem (kk.1 + kk.2.1) = none ∧ kk.1 + kk.2.1 < 1000 ∧ kk.2.1 + 1 ≤ Mc ∧ kk.2.2 + N ≤ Ms) ∧ K nx L (.ref (kk.1 + kk.2.1) :: st) (jup mem (kk.1 + kk.2.1) (.inl (b, N, fun _ => 0))) (kk.1, kk.2.1 + 1, kk.2.2 + N)
def J_newQ (N Mc Ms nx : Nat) : jT := fun L st mem kk _ K => jpI st fun x st => (x = nI N ∧ mem (kk.1 + kk.2.1) = none ∧ kk.1 + kk.2.1 < 1000 ∧ kk.2.1 + 1 ≤ Mc ∧ kk.2.2 + N ≤ Ms) ∧ K nx L (.ref (kk.1 + kk.2.1) :: st) (jup mem (kk.1 + kk.2.1) (.inr (.inl (N, fun _ => none)))) (kk.1, kk.2.1 + 1, kk.2.2 + N)
def jastq (mem : jM) (a : Nat) (i : Int32) (v : Nat) (P : jM → Prop) : Prop := match mem a with
  | some (.inr (.inl (n, f))) => vp_in i n ∧ P (jup mem a (.inr (.inl (n, va_up f i.toNatClampNeg (some v)))))
  | _ => False
theorem jastq_e {mem : jM} {a v : Nat} {i : Int32} {P : jM → Prop} (h : jastq mem a i v P) : ∃ n f, mem a = some (.inr (.inl (n, f))) ∧ vp_in i n ∧ P (jup mem a (.inr (.inl (n, va_up f i.toNatClampNeg (some v))))) := by
  unfold jastq at h; split at h
  · rename_i n f hm
    exact ⟨n, f, hm, h⟩
  · exact h.elim
def J_aastore (nx : Nat) : jT := fun L st mem kk _ K => jpR st fun v st => jpI st fun i st => jpR st fun a st => jrcv mem 4 [.ref v] ∧ jastq mem a i v fun mem => K nx L st mem kk
def jcopy (mem : jM) (a0 a : Nat) (sp dp n : Int32) (P : jM → Prop) : Prop := match mem a0, mem a with
  | some (.inl (false, n0, f)), some (.inl (false, n1, g)) => (¬ sp < 0 ∧ ¬ dp < 0 ∧ ¬ n < 0 ∧ sp.toNatClampNeg + n.toNatClampNeg ≤ n0 ∧ dp.toNatClampNeg + n.toNatClampNeg ≤ n1) ∧ P (jup mem a (.inl (false, n1, va_cpy f g sp.toNatClampNeg dp.toNatClampNeg n.toNatClampNeg)))
  | _, _ => False
theorem jcopy_e {mem : jM} {a0 a : Nat} {sp dp n : Int32} {P : jM → Prop} (h : jcopy mem a0 a sp dp n P) : ∃ n0 f n1 g, mem a0 = some (.inl (false, n0, f)) ∧ mem a = some (.inl (false, n1, g)) ∧ (¬ sp < 0 ∧ ¬ dp < 0 ∧ ¬ n < 0 ∧ sp.toNatClampNeg + n.toNatClampNeg ≤ n0 ∧ dp.toNatClampNeg + n.toNatClampNeg ≤ n1) ∧ P (jup mem a (.inl (false, n1, va_cpy f g sp.toNatClampNeg dp.toNatClampNeg n.toNatClampNeg))) := by
  unfold jcopy at h; split at h
  · rename_i n0 f n1 g h1 h2
    exact ⟨n0, f, n1, g, h1, h2, h⟩
  · exact h.elim
def J_acopy (nx : Nat) : jT := fun L st mem kk _ K => jpI st fun n st => jpI st fun dp st => jpR st fun a st => jpI st fun sp st => jpR st fun a0 st => jshort st = true ∧ jcopy mem a0 a sp dp n fun mem => K nx L st mem kk
def J_mmin (nx : Nat) : jT := fun L st mem kk _ K => jpI st fun y st => jpI st fun x st => jshort st = true ∧ K nx L (.int (if y < x then y else x) :: st) mem kk
def J_mmax (nx : Nat) : jT := fun L st mem kk _ K => jpI st fun y st => jpI st fun x st => jshort st = true ∧ K nx L (.int (if x < y then y else x) :: st) mem kk
def J_mabs (nx : Nat) : jT := fun L st mem kk _ K => jpI st fun x st => jshort st = true ∧ K nx L (.int (if 0 ≤ x then x else 0 - x) :: st) mem kk
def J_sld (Lx : Nat) (xs : Nat → Int32) (nx : Nat) : jT := fun L st mem kk _ K => jpI st fun i st => jpR st fun a st => a = 1000 ∧ vp_in i Lx ∧ K nx L (.int (xs i.toNatClampNeg) :: st) mem kk
def J_slen (Lx : Nat) (nx : Nat) : jT := fun L st mem kk _ K => jpR st fun a st => a = 1000 ∧ K nx L (.int (nI Lx) :: st) mem kk
theorem jAt.new {γ : jG} {ad : Nat → Nat} {A : Nat → Prop} {s : State} {mem : jM} {H H1 : Heap} {locs : List Loc} {k : Nat} {e : jE} (hA : ∀ q, s.heap.size ≤ q → A q) (h : jAt γ ad A s mem H locs) (h0 : mem k = none) (hk : ad k = H.size) (he : jat γ ad k e H1) (z : H1.size = H.size + 1) (oq : ∀ q : Nat, q < H.size → H1[q]? = H[q]?) : jAt γ ad A s (jup mem k e) H1 locs := by
  refine ⟨h.1.new h0 hk he oq, fun i hi => ?_, Nat.le_trans h.2.2.1 (by omega), fun q h1 h2 => (oq q (Nat.lt_of_lt_of_le h1 h.2.2.1)).trans (h.2.2.2.1 q h1 h2), h.2.2.2.2⟩
  unfold jup at hi
  by_cases q : i = k
  · subst q
    exact hA _ (by rw [hk]; exact h.2.2.1)
  · rw [if_neg q] at hi
    exact h.2.1 i hi
section SN
variable {Y : jY} {sc : jSc} {pc nx : Nat}
theorem jnext {kk : jK} {hz sz : Nat} {ad : Nat → Nat} (h : jAl kk.1 sz ad) (e : hz = sz + kk.2.1) (hl : kk.1 + kk.2.1 < 1000) : ad (kk.1 + kk.2.1) = hz := by rw [h _ hl, e]
theorem sn_objinit {ix : Nat} (hd : decode Y.2.1 pc = .ok (.invokespecial ix, 3)) (hn : nx = pc + 3) (hlk : Cond.methodLink Y.1.cls ix objectInit ∈ jW) (hi : Cond.instanceMethod objectInit ∈ jW) (hcode : Cond.code objectInit ⟨#[0xb1]⟩ 1 none ∈ jW) (hfit : 1 ≤ Y.2.2.2.2.1.1 ∧ 20 ≤ Y.2.2.2.2.1.2) : Sound Y sc pc (J_objinit nx) := by
  subst hn
  intro Q K L st mem kk hK h γ p l e R s m args below meth c ad A Z F H locs ls ha hz hl
  obtain ⟨a, st, rfl, hs, h1⟩ := jpR_e h
  have hts := F.1.2.2.2.2.1
  have h9 := lv_room (m := m) (pc := pc) (ls := ls) (rest := jv ad (.ref a) :: st.map (jv ad)) (jshort_sum (ad := ad) hs)
  exact W.objInit F.1.1 F.1.2.1 F.1.2.2.2.1 (hts _ hlk) (hts _ hi) (hts _ hcode) rfl (hl.1.trans F.1.2.2.1.symm) (a := ad a) (rest := st.map (jv ad)) rfl hd (Nat.le_trans hfit.1 F.2.1.1) (by have := F.2.1.2.1; have := hfit.2; show 2 * (F0 m pc ls (jv ad (.ref a) :: st.map (jv ad))).monitorRoom + _ + 12 ≤ R.locals; omega) (hK _ _ _ _ _ h1 γ p l e R s m args below meth c ad A Z F H locs ls ha hz hl)
theorem sn_new {ix ci N Mc Ms : Nat} {C : String} {T : u_T} {ty : Nat → FieldType} (hd : decode Y.2.1 pc = .ok (.new ix, 3)) (hn : nx = pc + 3) (hMM : Y.2.2.2.2.2 = (Mc, Ms)) (hc : vwCl[ci]? = some (C, T, N)) (hin : ∀ w ∈ u_ws C T N, w ∈ jW) (hty : ∀ k, k < N → parseFieldDescriptor (T k).2.2.1 = some (ty k)) (hlk : Cond.classLink Y.1.cls ix C ∈ jW) (hi : Cond.instantiable C N ∈ jW) (hini : Cond.initialized C ∈ jW) : Sound Y sc pc (J_new ci N ty Mc Ms nx) := by
  subst hn
  intro Q K L st mem kk hK h γ p l e R s m args below meth c ad A Z F H locs ls ha hz hl
  obtain ⟨⟨h0, h1, hb⟩, h2⟩ := h
  have hts := F.1.2.2.2.2.1
  have hbb := jbud F hMM hb
  have hKn := F.1.2.2.2.2.2.1.1.1 ci _ hc
  have hk := jnext hz.2.2.2 hz.1 h1
  refine W.newcK F.1.1 F.1.2.1 F.1.2.2.2.1 (hts _ hlk) (hts _ hi) (hts _ hini) rfl hd hbb.1 hbb.2 hKn.2.1 rfl fun H1 kC hkC e1 z1 o1 => ?_
  have hat := ha.new F.2.2.1 h0 hk (e := .inr (.inr (ci, jdf ty))) (H1 := H1) ⟨_, hc, by
    rw [hk]
    refine (u_born ty hts hin hKn hkC e1 hty).to fun j _ => ?_
    unfold jdf
    cases ty j <;> rfl⟩ z1 o1
  have hK2 := hK _ _ _ _ _ h2 γ p l e R s m args below meth c ad A Z F H1 locs ls hat ⟨by show H1.size = s.heap.size + (kk.2.1 + 1); rw [z1, hz.1]; omega, hbb.1, hbb.2, hz.2.2.2⟩ hl
  have e9 : jv ad (.ref (kk.1 + kk.2.1)) = .ref H.size := by show Value.ref (ad _) = _; rw [hk]
  rw [List.map_cons, e9] at hK2
  exact hK2
theorem sn_newI {b : Bool} {at_ : ArrayType} {N Mc Ms : Nat} (hd : decode Y.2.1 pc = .ok (.newarray at_, 2)) (hn : nx = pc + 2) (hMM : Y.2.2.2.2.2 = (Mc, Ms)) (hT : newarray.typeOf at_ = bif b then .boolean else .int) (hN : N < 1000) (harr : Cond.arrayClass (newarray.typeOf at_) ∈ jW) : Sound Y sc pc (J_newI b N Mc Ms nx) := by
  subst hn
  intro Q K L st mem kk hK h γ p l e R s m args below meth c ad A Z F H locs ls ha hz hl
  obtain ⟨x, st, rfl, ⟨rfl, h0, h1, hb⟩, h2⟩ := jpI_e h
  have hts := F.1.2.2.2.2.1
  have hKK := F.1.2.2.2.2.2.1.1
  have hbb := jbud F hMM hb
  have hk := jnext hz.2.2.2 hz.1 h1
  refine va_newaK F.1.1 F.1.2.1 (hts _ harr) rfl hd (n := nI N) (N := N) (rest := st.map (jv ad)) rfl (nI_pos (by omega)) (nI_clamp (by omega)) (by rw [hT]; cases b <;> simp [componentBytes] <;> omega) hbb.1 hbb.2 rfl fun H1 cA e1 z1 o1 _ hNm => ?_
  have hcA : cA = bif b then γ.2.2.1 else γ.2.1 := by
    rw [hT] at hNm
    cases b with
    | false => exact Option.some.inj (hNm.symm.trans (hKK.2 0 _ rfl).2)
    | true => exact Option.some.inj (hNm.symm.trans (hKK.2 1 _ rfl).2)
  have hat := ha.new F.2.2.1 h0 hk (e := .inl (b, N, fun _ => 0)) (H1 := H1) (by
    show H1[ad _]? = some (vp_cell _ _)
    rw [hk, e1, hT, hcA, vp_cell_i]
    cases b <;> rfl) z1 o1
  have hK2 := hK _ _ _ _ _ h2 γ p l e R s m args below meth c ad A Z F H1 locs ls hat ⟨by show H1.size = s.heap.size + (kk.2.1 + 1); rw [z1, hz.1]; omega, hbb.1, hbb.2, hz.2.2.2⟩ hl
  have e9 : jv ad (.ref (kk.1 + kk.2.1)) = .ref H.size := by show Value.ref (ad _) = _; rw [hk]
  rw [List.map_cons, e9] at hK2
  exact hK2
theorem sn_newQ {ix N Mc Ms : Nat} (hd : decode Y.2.1 pc = .ok (.anewarray ix, 3)) (hn : nx = pc + 3) (hMM : Y.2.2.2.2.2 = (Mc, Ms)) (hN : N < 1000) (hlk : Cond.classLink Y.1.cls ix RX4 ∈ jW) : Sound Y sc pc (J_newQ N Mc Ms nx) := by
  subst hn
  intro Q K L st mem kk hK h γ p l e R s m args below meth c ad A Z F H locs ls ha hz hl
  obtain ⟨x, st, rfl, ⟨rfl, h0, h1, hb⟩, h2⟩ := jpI_e h
  have hts := F.1.2.2.2.2.1
  have hKK := F.1.2.2.2.2.2.1.1
  have hbb := jbud F hMM hb
  have hk := jnext hz.2.2.2 hz.1 h1
  have hcl : (nI N).toNatClampNeg = N := nI_clamp (by omega)
  refine W.anew F.1.1 F.1.2.1 F.1.2.2.2.1 (hts _ hlk) (va_AO.use F.1.2.2.2.2.2.1.2.2) rfl hd (n := nI N) (rest := st.map (jv ad)) rfl (nI_pos (by omega)) (by rw [hcl]; omega) hbb.1 (by rw [hcl]; exact hbb.2) fun cA kA comp f1 f2 f3 f4 => ?_
  rw [hcl]
  generalize hH1 : H.push ({ cls := cA, slots := Array.replicate N .null, vm := .none } : Cell) = H1
  have z1 : H1.size = H.size + 1 := by rw [← hH1, Array.size_push]
  have e1 : H1[H.size]? = some (arrV cA N (fun _ => .null)) := by rw [← hH1, Array.getElem?_push_size, ← arrV_new]
  have o1 : ∀ q : Nat, q < H.size → H1[q]? = H[q]? := fun q hq => by rw [← hH1, Array.getElem?_push, if_neg (Nat.ne_of_lt hq)]
  obtain ⟨kA', comp', g1, g2, g3, g4⟩ := (hKK.2 2 _ rfl).2
  have hcA : cA = γ.2.2.2 := Option.some.inj (f1.symm.trans g4)
  have hat := ha.new F.2.2.1 h0 hk (e := .inr (.inl (N, fun _ => none))) (H1 := H1) (by
    show H1[ad _]? = some (vp_cell _ _)
    rw [hk, e1, hcA, vp_cell_q]
    rfl) z1 o1
  have hK2 := hK _ _ _ _ _ h2 γ p l e R s m args below meth c ad A Z F H1 locs ls hat ⟨by show H1.size = s.heap.size + (kk.2.1 + 1); rw [z1, hz.1]; omega, hbb.1, hbb.2, hz.2.2.2⟩ hl
  have e9 : jv ad (.ref (kk.1 + kk.2.1)) = .ref H.size := by show Value.ref (ad _) = _; rw [hk]
  rw [List.map_cons, e9] at hK2
  exact hK2
theorem sn_aastore (hd : decode Y.2.1 pc = .ok (.aastore, 1)) (hn : nx = pc + 1) : Sound Y sc pc (J_aastore nx) := by
  subst hn
  intro Q K L st mem kk hK h γ p l e R s m args below meth c ad A Z F H locs ls ha hz hl
  obtain ⟨v, st, rfl, h1⟩ := jpR_e h
  obtain ⟨i, st, rfl, h2⟩ := jpI_e h1
  obtain ⟨a, st, rfl, hv, h3⟩ := jpR_e h2
  obtain ⟨n, f, hm, hin, h4⟩ := jastq_e h3
  obtain ⟨a', r', fv, ev, hmv⟩ := jrcv_e hv
  cases ev
  have hKK := F.1.2.2.2.2.2.1.1
  have hlt : i.toNatClampNeg < n := Nat.not_le.mp fun q => hin (Or.inr q)
  have h0 : ¬ i < 0 := fun q => hin (Or.inl q)
  obtain ⟨r', hr', cellV, g1, g2, g3, -⟩ := ha.1.1 _ _ hmv
  have hcls := (hKK.1 4 _ rfl).2
  obtain ⟨kA, comp, k1, k2, k3, -⟩ := (hKK.2 2 _ rfl).2
  have hcomp : comp = γ.1.1 4 := Option.some.inj (k3.symm.trans hcls.1)
  subst hcomp
  obtain ⟨kC, hkC, -⟩ := hcls.2
  refine W.aast F.1.1 F.1.2.1 (ha.1.1 a _ hm) (fun q h => by cases h) (fun h => by cases h) k1 k2 rfl hkC ⟨h0, by show _ < (arrV _ _ _).slots.size; rw [arrV_size]; exact hlt⟩ g1 (fun q h => by rw [g3] at h; cases h) (by rw [g2]; exact hkC) (by rw [g2]; exact va_assign hcls) rfl rfl hd fun H1 e1 z oq => ?_
  have e2 : H1[ad a]? = some (vp_cell γ.2.2.2 (n, .inr (.inr (.inr (.inr fun j => (va_up f i.toNatClampNeg (some v) j).map ad))))) := by
    rw [e1]
    rw [vp_cell_q, vp_cell_q, arrV_store]
    congr 2
    funext q
    by_cases hq : q = i.toNatClampNeg
    · subst hq
      simp [updV, va_up, va_rf]
    · simp [updV, va_up, hq]
  exact hK _ _ _ _ _ h4 γ p l e R s m args below meth c ad A Z F H1 _ ls (ha.set hm (e := .inr (.inl (n, va_up f i.toNatClampNeg (some v)))) e2 z oq) ⟨z.trans hz.1, hz.2⟩ hl
theorem sn_mmin {ix : Nat} (hd : decode Y.2.1 pc = .ok (.invokestatic ix, 3)) (hn : nx = pc + 3) (hlk : Cond.methodLink Y.1.cls ix Lib.Math.min.name ∈ jW) (hst : Cond.static Lib.Math.min.name ∈ jW) (hini : Cond.initialized "java/lang/Math" ∈ jW) (hcode : Cond.code Lib.Math.min.name Lib.Math.min.code 2 (some .int) ∈ jW) (hfit : 1 ≤ Y.2.2.2.2.1.1 ∧ 21 ≤ Y.2.2.2.2.1.2) : Sound Y sc pc (J_mmin nx) := by
  subst hn
  intro Q K L st mem kk hK h γ p l e R s m args below meth c ad A Z F H locs ls ha hz hl
  obtain ⟨y, st, rfl, h1⟩ := jpI_e h
  obtain ⟨x, st, rfl, hs, h2⟩ := jpI_e h1
  have hts := F.1.2.2.2.2.1
  have := jshort_sum (ad := ad) hs
  have := F.2.1.2.1
  exact va_mmin F.1.1 F.1.2.1 (F.1.2.2.1.trans hl.1.symm) F.1.2.2.2.1 (hts _ hlk) (hts _ hst) (hts _ hini) (hts _ hcode) (Nat.le_trans hfit.1 F.2.1.1) (by have := hfit.2; omega) hz.2.1 hz.2.2.1 hd (hK _ _ _ _ _ h2 γ p l e R s m args below meth c ad A Z F H locs ls ha hz hl)
theorem sn_mmax {ix : Nat} (hd : decode Y.2.1 pc = .ok (.invokestatic ix, 3)) (hn : nx = pc + 3) (hlk : Cond.methodLink Y.1.cls ix Lib.Math.max.name ∈ jW) (hst : Cond.static Lib.Math.max.name ∈ jW) (hini : Cond.initialized "java/lang/Math" ∈ jW) (hcode : Cond.code Lib.Math.max.name Lib.Math.max.code 2 (some .int) ∈ jW) (hfit : 1 ≤ Y.2.2.2.2.1.1 ∧ 21 ≤ Y.2.2.2.2.1.2) : Sound Y sc pc (J_mmax nx) := by
  subst hn
  intro Q K L st mem kk hK h γ p l e R s m args below meth c ad A Z F H locs ls ha hz hl
  obtain ⟨y, st, rfl, h1⟩ := jpI_e h
  obtain ⟨x, st, rfl, hs, h2⟩ := jpI_e h1
  have hts := F.1.2.2.2.2.1
  have := jshort_sum (ad := ad) hs
  have := F.2.1.2.1
  exact va_mmax F.1.1 F.1.2.1 (F.1.2.2.1.trans hl.1.symm) F.1.2.2.2.1 (hts _ hlk) (hts _ hst) (hts _ hini) (hts _ hcode) (Nat.le_trans hfit.1 F.2.1.1) (by have := hfit.2; omega) hz.2.1 hz.2.2.1 hd (hK _ _ _ _ _ h2 γ p l e R s m args below meth c ad A Z F H locs ls ha hz hl)
theorem sn_mabs {ix : Nat} (hd : decode Y.2.1 pc = .ok (.invokestatic ix, 3)) (hn : nx = pc + 3) (hlk : Cond.methodLink Y.1.cls ix Lib.Math.abs.name ∈ jW) (hst : Cond.static Lib.Math.abs.name ∈ jW) (hini : Cond.initialized "java/lang/Math" ∈ jW) (hcode : Cond.code Lib.Math.abs.name Lib.Math.abs.code 1 (some .int) ∈ jW) (hfit : 1 ≤ Y.2.2.2.2.1.1 ∧ 21 ≤ Y.2.2.2.2.1.2) : Sound Y sc pc (J_mabs nx) := by
  subst hn
  intro Q K L st mem kk hK h γ p l e R s m args below meth c ad A Z F H locs ls ha hz hl
  obtain ⟨x, st, rfl, hs, h2⟩ := jpI_e h
  have hts := F.1.2.2.2.2.1
  have := jshort_sum (ad := ad) hs
  have := F.2.1.2.1
  exact va_mabs F.1.1 F.1.2.1 (F.1.2.2.1.trans hl.1.symm) F.1.2.2.2.1 (hts _ hlk) (hts _ hst) (hts _ hini) (hts _ hcode) (Nat.le_trans hfit.1 F.2.1.1) (by have := hfit.2; omega) hz.2.1 hz.2.2.1 hd (hK _ _ _ _ _ h2 γ p l e R s m args below meth c ad A Z F H locs ls ha hz hl)
theorem sn_sld {Lx : Nat} {xs : Nat → Int32} (hd : decode Y.2.1 pc = .ok (.iaload, 1)) (hn : nx = pc + 1) : Sound Y (some (Lx, xs)) pc (J_sld Lx xs nx) := by
  subst hn
  intro Q K L st mem kk hK h γ p l e R s m args below meth c ad A Z F H locs ls ha hz hl
  obtain ⟨i, st, rfl, h1⟩ := jpI_e h
  obtain ⟨a, st, rfl, rfl, hin, h2⟩ := jpR_e h1
  obtain ⟨g1, g2, g3⟩ := F.2.2.2.1
  exact va_sld F.1.1 F.1.2.1 g1 g2 g3 ha.2.2 hin hd (hK _ _ _ _ _ h2 γ p l e R s m args below meth c ad A Z F H locs ls ha hz hl)
theorem sn_slen {Lx : Nat} {xs : Nat → Int32} (hd : decode Y.2.1 pc = .ok (.arraylength, 1)) (hn : nx = pc + 1) : Sound Y (some (Lx, xs)) pc (J_slen Lx nx) := by
  subst hn
  intro Q K L st mem kk hK h γ p l e R s m args below meth c ad A Z F H locs ls ha hz hl
  obtain ⟨a, st, rfl, rfl, h2⟩ := jpR_e h
  obtain ⟨g1, g2, g3⟩ := F.2.2.2.1
  exact va_slen F.1.1 F.1.2.1 g1 g2 g3 ha.2.2 hd (hK _ _ _ _ _ h2 γ p l e R s m args below meth c ad A Z F H locs ls ha hz hl)
theorem jnn {z : Int32} (hz : ¬ z < 0) : z.toInt = (z.toNatClampNeg : Int) := by
  have hz0 : (0 : Int) ≤ z.toInt := by
    have := Int32.not_lt.mp hz
    simpa using Int32.le_iff_toInt_le.mp this
  show z.toInt = ((z.toInt.toNat : Nat) : Int)
  omega
theorem sn_acopy {ix : Nat} (hd : decode Y.2.1 pc = .ok (.invokestatic ix, 3)) (hn : nx = pc + 3) (hlk : Cond.methodLink Y.1.cls ix arraycopyName ∈ jW) (hnat : Cond.native arraycopyName ∈ jW) (hst : Cond.static arraycopyName ∈ jW) (hini : Cond.initialized "java/lang/System" ∈ jW) (hfit : 1 ≤ Y.2.2.2.2.1.1 ∧ 8 + (nativeFrameWords "java/lang/System" "arraycopy" 5 + 11) ≤ Y.2.2.2.2.1.2) : Sound Y sc pc (J_acopy nx) := by
  subst hn
  intro Q K L st mem kk hK h γ p l e R s m args below meth c ad A Z F H locs ls ha hz hl
  obtain ⟨n, st, rfl, h1⟩ := jpI_e h
  obtain ⟨dp, st, rfl, h2⟩ := jpI_e h1
  obtain ⟨a, st, rfl, h3⟩ := jpR_e h2
  obtain ⟨sp, st, rfl, h4⟩ := jpI_e h3
  obtain ⟨a0, st, rfl, hs, h5⟩ := jpR_e h4
  obtain ⟨n0, f, n1, g, hm0, hm1, ⟨c1, c2, c3, c4, c5⟩, h6⟩ := jcopy_e h5
  have hts := F.1.2.2.2.2.1
  have hKK := F.1.2.2.2.2.2.1.1
  have hsum := jshort_sum (ad := ad) hs
  have hlo := F.2.1.2.1
  have hlo2 := hfit.2
  intro T hT X
  have hc0 : H[ad a0]? = some (vp_cell γ.2.1 (n0, .inl f)) := ha.1.1 a0 _ hm0
  have hc1 : H[ad a]? = some (vp_cell γ.2.1 (n1, .inl g)) := ha.1.1 a _ hm1
  obtain ⟨-, k0, hk0, cm0, hkk0⟩ := (hKK.2 0 _ rfl).1 n0 (fun j => .int (f j))
  obtain ⟨-, k1, hk1, cm1, hkk1⟩ := (hKK.2 0 _ rfl).1 n1 (fun j => .int (g j))
  obtain ⟨vm', X', step⟩ := X.arraycopy F.1.1 F.1.2.2.2.1 (hts _ hlk) (hts _ hnat) (hts _ hst) (hts _ hini) (src := ad a0) (dst := ad a) (cs := vp_cell γ.2.1 (n0, .inl f)) (cd := vp_cell γ.2.1 (n1, .inl g)) (srcPos := sp) (destPos := dp) (n := n) (by rw [hT]; exact hc0) (by rw [hT]; exact hc1)
    (fun _ h => by cases h) (fun _ h => by cases h) (fun h => by cases h) (fun h => by cases h) hk0 hk1 hkk0 hkk1 (by simp [refKind]) c1 c2 c3
    (by rw [jnn c1, jnn c3]; show ¬ _ > ((arrV γ.2.1 n0 (fun j => .int (f j))).slots.size : Int); rw [arrV_size]; omega)
    (by rw [jnn c2, jnn c3]; show ¬ _ > ((arrV γ.2.1 n1 (fun j => .int (g j))).slots.size : Int); rw [arrV_size]; omega)
    (fun vm₁ _ i hi => by
      have e : (vp_cell γ.2.1 (n0, .inl f)).slots.getD (sp.toNatClampNeg + i) .null = .int (f (sp.toNatClampNeg + i)) := by
        show (arrV γ.2.1 n0 (fun j => .int (f j))).slots.getD _ _ = _
        rw [Array.getD_eq_getD_getElem?, arrV_read _ _ (by omega)]
        rfl
      refine ⟨?_, ?_⟩
      · rw [e]
        rfl
      · rw [e]
        exact trivial)
    (g := F0 m pc ls (.int n :: .int dp :: .ref (ad a) :: .int sp :: .ref (ad a0) :: st.map (jv ad))) rfl (hl.1.trans F.1.2.2.1.symm) (rest := st.map (jv ad)) rfl (by rw [F.1.2.1]; exact hd) (Nat.le_trans hfit.1 F.2.1.1) (by show 2 * 0 + _ + _ ≤ _; omega)
  have e1 : copied (vp_cell γ.2.1 (n0, .inl f)) (vp_cell γ.2.1 (n1, .inl g)) sp dp n = vp_cell γ.2.1 (n1, .inl (va_cpy f g sp.toNatClampNeg dp.toNatClampNeg n.toNatClampNeg)) := va_copied (fun z => .int z) γ.2.1 γ.2.1 f g c4
  rw [e1] at X' step
  have hlt : ad a < H.size := (Array.getElem?_eq_some_iff.mp hc1).1
  have hheap : ((T.setVm vm').setCell (ad a) (vp_cell γ.2.1 (n1, .inl (va_cpy f g sp.toNatClampNeg dp.toNatClampNeg n.toNatClampNeg)))).heap = H.setIfInBounds (ad a) (vp_cell γ.2.1 (n1, .inl (va_cpy f g sp.toNatClampNeg dp.toNatClampNeg n.toNatClampNeg))) := by rw [← hT]; rfl
  have oq : ∀ q : Nat, q ≠ ad a → (H.setIfInBounds (ad a) (vp_cell γ.2.1 (n1, .inl (va_cpy f g sp.toNatClampNeg dp.toNatClampNeg n.toNatClampNeg))))[q]? = H[q]? := fun q hq => by simp [Array.getElem?_setIfInBounds, Ne.symm hq]
  have hAa : A (ad a) := ha.2.1 a (by rw [hm1]; exact fun z => by cases z)
  have hat : ∀ locs1 : List Loc, (∀ q ∈ locs1, q.base = ad a) → jAt γ ad A s (jup mem a (.inl (false, n1, va_cpy f g sp.toNatClampNeg dp.toNatClampNeg n.toNatClampNeg))) (H.setIfInBounds (ad a) (vp_cell γ.2.1 (n1, .inl (va_cpy f g sp.toNatClampNeg dp.toNatClampNeg n.toNatClampNeg)))) (locs ++ locs1) := fun locs1 hl1 =>
    ⟨ha.1.set hm1 (show (H.setIfInBounds (ad a) _)[ad a]? = some _ by simp [Array.getElem?_setIfInBounds, hlt]) oq, fun i hi => ha.2.1 i (jup_ne hm1 hi), by simp; exact ha.2.2.1, fun q g1 g2 => by
      rw [oq q (fun e => g2 (by rw [e]; exact hAa))]
      exact ha.2.2.2.1 q g1 g2, fun q hq => by
      rcases List.mem_append.mp hq with h | h
      · exact ha.2.2.2.2 q h
      · rw [hl1 q h]; exact hAa⟩
  obtain ⟨t, a1, b1⟩ := hK _ _ _ _ _ h6 γ p l e R s m args below meth c ad A Z F _ _ ls (hat _ fun q hq => by
      obtain ⟨z, -, hz⟩ := List.mem_map.mp hq
      rw [← hz]) ⟨by simp; exact hz.1, hz.2⟩ hl _ hheap X'
  exact ⟨t, step t a1, b1⟩
end SN
