/-! ===== the words: every good word of the tables ===== -/
def jW : List Cond := lw_tbl.filter goodWord
theorem jW_tbl {w : Cond} (h : w ∈ jW) : w ∈ lw_tbl := (List.mem_filter.mp h).1
theorem jgood {w : Cond} (h : w ∈ jW) : (w.onTables && w.keeps) = true ∨ ∃ ty, w = .arrayClass ty := good_of_word (List.mem_filter.mp h).2
/-! ===== memory: cells by number; a reference holds a number, 'ad' gives its address ===== -/
abbrev jE : Type := (Bool × Nat × (Nat → Int32)) ⊕ ((Nat × (Nat → Option Nat)) ⊕ (Nat × (Nat → Value)))
abbrev jM : Type := Nat → Option jE
abbrev jG : Type := va_G × (ClassId × (ClassId × ClassId))
abbrev jY : Type := MethodName × ByteArray × Nat × Option FieldType × (Nat × Nat) × (Nat × Nat)
abbrev jSc : Type := Option (Nat × (Nat → Int32))
abbrev jK : Type := Nat × Nat × Nat
abbrev jL : Type := List (Option Value)
abbrev jQ : Type := Option Value → jM → Prop
abbrev jKt : Type := Nat → jL → List Value → jM → jK → Prop
abbrev jT : Type := jL → List Value → jM → jK → jQ → jKt → Prop
def jv (ad : Nat → Nat) : Value → Value := fun v => match v with
  | .ref k => .ref (ad k)
  | w => w
theorem jv_cat (ad : Nat → Nat) (v : Value) : (jv ad v).category = v.category := by cases v <;> rfl
def jat (γ : jG) (ad : Nat → Nat) (k : Nat) (e : jE) (H : Heap) : Prop := match e with
  | .inl (b, n, f) => H[ad k]? = some (vp_cell (bif b then γ.2.2.1 else γ.2.1) (n, .inl f))
  | .inr (.inl (n, f)) => H[ad k]? = some (vp_cell γ.2.2.2 (n, .inr (.inr (.inr (.inr fun j => (f j).map ad)))))
  | .inr (.inr (ci, f)) => ∃ r, vwCl[ci]? = some r ∧ t_OB (ad k) (γ.1.1 ci) r.2.2 (γ.1.2 ci) H (fun j => jv ad (f j))
theorem jat.kept {γ : jG} {ad : Nat → Nat} {k : Nat} {e : jE} {H H1 : Heap} (h : jat γ ad k e H) (hq : H1[ad k]? = H[ad k]?) : jat γ ad k e H1 := by
  match e, h with
  | .inl (b, n, f), h => exact hq.trans h
  | .inr (.inl (n, f)), h => exact hq.trans h
  | .inr (.inr (ci, f)), h =>
    obtain ⟨r, h1, h2⟩ := h
    exact ⟨r, h1, h2.kept hq⟩
theorem jat.lt {γ : jG} {ad : Nat → Nat} {k : Nat} {e : jE} {H : Heap} (h : jat γ ad k e H) : ad k < H.size := by
  match e, h with
  | .inl (b, n, f), h => exact (Array.getElem?_eq_some_iff.mp h).1
  | .inr (.inl (n, f)), h => exact (Array.getElem?_eq_some_iff.mp h).1
  | .inr (.inr (ci, f)), h =>
    obtain ⟨r, h1, cell, h2, -⟩ := h
    exact (Array.getElem?_eq_some_iff.mp h2).1
def jP (γ : jG) (ad : Nat → Nat) (mem : jM) (H : Heap) : Prop := (∀ k e, mem k = some e → jat γ ad k e H) ∧ ∀ i j, mem i ≠ none → mem j ≠ none → ad i = ad j → i = j
def jup (mem : jM) (k : Nat) (e : jE) : jM := fun j => if j = k then some e else mem j
theorem jup_ne {mem : jM} {k j : Nat} {e : jE} {e0 : jE} (h0 : mem k = some e0) (h : jup mem k e j ≠ none) : mem j ≠ none := by
  unfold jup at h
  by_cases q : j = k
  · subst q; rw [h0]; exact fun z => by cases z
  · rw [if_neg q] at h; exact h
theorem jP.set {γ : jG} {ad : Nat → Nat} {mem : jM} {H H1 : Heap} {k : Nat} {e0 e : jE} (h : jP γ ad mem H) (h0 : mem k = some e0) (he : jat γ ad k e H1) (oq : ∀ q : Nat, q ≠ ad k → H1[q]? = H[q]?) : jP γ ad (jup mem k e) H1 := by
  refine ⟨fun j x hj => ?_, fun i j hi hj => h.2 i j (jup_ne h0 hi) (jup_ne h0 hj)⟩
  unfold jup at hj
  by_cases q : j = k
  · subst q
    rw [if_pos rfl] at hj
    cases hj
    exact he
  · rw [if_neg q] at hj
    exact (h.1 j x hj).kept (oq _ fun z => q (h.2 j k (by rw [hj]; exact fun z => by cases z) (by rw [h0]; exact fun z => by cases z) z))
theorem jP.new {γ : jG} {ad : Nat → Nat} {mem : jM} {H H1 : Heap} {k : Nat} {e : jE} (h : jP γ ad mem H) (h0 : mem k = none) (hk : ad k = H.size) (he : jat γ ad k e H1) (oq : ∀ q : Nat, q < H.size → H1[q]? = H[q]?) : jP γ ad (jup mem k e) H1 := by
  have lt : ∀ j, mem j ≠ none → ad j < H.size := fun j hj => by
    cases hm : mem j with
    | none => exact absurd hm hj
    | some x => exact (h.1 j x hm).lt
  refine ⟨fun j x hj => ?_, fun i j hi hj hij => ?_⟩
  · unfold jup at hj
    by_cases q : j = k
    · subst q
      rw [if_pos rfl] at hj
      cases hj
      exact he
    · rw [if_neg q] at hj
      exact (h.1 j x hj).kept (oq _ (h.1 j x hj).lt)
  · unfold jup at hi hj
    by_cases q : i = k
    · by_cases q2 : j = k
      · rw [q, q2]
      · rw [if_neg q2] at hj
        have := lt j hj
        rw [← hij, q, hk] at this
        omega
    · rw [if_neg q] at hi
      by_cases q2 : j = k
      · have := lt i hi
        rw [hij, q2, hk] at this
        omega
      · rw [if_neg q2] at hj
        exact h.2 i j hi hj hij
def jA (ad : Nat → Nat) (mem : jM) (sz : Nat) : Nat → Prop := fun q => (∃ k, mem k ≠ none ∧ ad k = q) ∨ sz ≤ q
def jAl (nb sz : Nat) (ad : Nat → Nat) : Prop := ∀ i, nb + i < 1000 → ad (nb + i) = sz + i
theorem jAl.go {nb sz k : Nat} {ad : Nat → Nat} (h : jAl nb sz ad) : jAl (nb + k) (sz + k) ad := fun i hi => by
  have := h (k + i) (by omega)
  rw [show nb + k + i = nb + (k + i) by omega, this]
  omega
/-! ===== the tables' part that every contract carries ===== -/
def jNest : List (String × Nat × MethodName × String) := [("ChargePosts", 11, ⟨"ChargePosts$Text", "<init>", "()V"⟩, "ChargePosts"), ("ChargePosts", 18, ⟨"ChargePosts$Site", "<init>", "()V"⟩, "ChargePosts"), ("ChargePosts", 34, ⟨"ChargePosts$State", "<init>", "()V"⟩, "ChargePosts"), ("ChargePosts$History", 17, ⟨"ChargePosts$State", "<init>", "()V"⟩, "ChargePosts"), ("ChargePosts", 55, ⟨"ChargePosts$Observations", "<init>", "()V"⟩, "ChargePosts"), ("ChargePosts$Feed", 112, ⟨"ChargePosts", "has", "(II)Z"⟩, "ChargePosts"), ("ChargePosts$Feed", 152, ⟨"ChargePosts", "nextSign", "(III)I"⟩, "ChargePosts")]
def KK (γ : jG) (U : State) : Prop := va_K γ.1 vwCl [(γ.2.1, .int), (γ.2.2.1, .boolean), (γ.2.2.2, .object RX4)] U ∧ (∀ q ∈ jNest, va_Nw (.methodLinkNest q.1 q.2.1 q.2.2.1 q.2.2.2) U) ∧ va_AO RX4 U
theorem KK.warm {γ : jG} {s U : State} (hW : s.WarmedH U.vm) (h : KK γ s) : KK γ U := ⟨h.1.moved hW.alike, fun q hq => va_Nw.warmM hW (h.2.1 q hq), h.2.2.moved hW.alike⟩
theorem KK.calling {γ : jG} {U : State} (h : KK γ U) (g : JFrame) (mk : MethodId) (a : Array Value) : KK γ (U.calling g mk a) := ⟨va_K.moved (u := U) (U := U.calling g mk a) (Vm.Alike.refl U.vm) h.1, fun q hq => va_Nw.same (u := U) (U := U.calling g mk a) rfl rfl (h.2.1 q hq), va_AO.moved (u := U) (U := U.calling g mk a) (Vm.Alike.refl U.vm) h.2.2⟩
/-! ===== locals ===== -/
def jget : jL → Nat → Option Value
  | [], _ => none
  | x :: _, 0 => x
  | _ :: r, n + 1 => jget r n
def jset : jL → Nat → Value → jL
  | [], _, _ => []
  | _ :: r, 0, v => some v :: r
  | x :: r, n + 1, v => x :: jset r n v
def jll (ad : Nat → Nat) : Nat → jL → List (Nat × Value)
  | _, [] => []
  | i, none :: r => jll ad (i + 1) r
  | i, some v :: r => if v.category = 1 then (i, jv ad v) :: jll ad (i + 1) r else jll ad (i + 1) r
theorem jll_mem {ad : Nat → Nat} : ∀ {L : jL} {i : Nat} {q : Nat × Value}, q ∈ jll ad i L ↔ ∃ j v, q.1 = i + j ∧ jget L j = some v ∧ v.category = 1 ∧ q.2 = jv ad v
  | [], i, q => by simp [jll, jget]
  | none :: r, i, q => by
    rw [jll, jll_mem]
    constructor
    · rintro ⟨j, v, h1, h2, h3⟩
      exact ⟨j + 1, v, by omega, h2, h3⟩
    · rintro ⟨j, v, h1, h2, h3⟩
      cases j with
      | zero => cases h2
      | succ j => exact ⟨j, v, by omega, h2, h3⟩
  | some x :: r, i, q => by
    rw [jll]
    by_cases hx : x.category = 1
    · rw [if_pos hx, List.mem_cons, jll_mem]
      constructor
      · rintro (h | ⟨j, v, h1, h2, h3⟩)
        · exact ⟨0, x, by rw [h]; rfl, rfl, hx, by rw [h]⟩
        · exact ⟨j + 1, v, by omega, h2, h3⟩
      · rintro ⟨j, v, h1, h2, h3, h4⟩
        cases j with
        | zero =>
          cases h2
          exact Or.inl (Prod.ext h1 h4)
        | succ j => exact Or.inr ⟨j, v, by omega, h2, h3, h4⟩
    · rw [if_neg hx, jll_mem]
      constructor
      · rintro ⟨j, v, h1, h2, h3⟩
        exact ⟨j + 1, v, by omega, h2, h3⟩
      · rintro ⟨j, v, h1, h2, h3, h4⟩
        cases j with
        | zero =>
          cases h2
          exact absurd h3 hx
        | succ j => exact ⟨j, v, by omega, h2, h3, h4⟩
theorem jget_set_ne : ∀ {L : jL} {i j : Nat} {v : Value}, j ≠ i → jget (jset L i v) j = jget L j
  | [], _, _, _, _ => rfl
  | _ :: _, 0, 0, _, h => absurd rfl h
  | _ :: _, 0, _ + 1, _, _ => rfl
  | _ :: _, _ + 1, 0, _, _ => rfl
  | _ :: r, i + 1, j + 1, v, h => by
    show jget (jset r i v) j = jget r j
    exact jget_set_ne (by omega)
theorem jget_set : ∀ {L : jL} {i : Nat} {v w : Value}, jget (jset L i v) i = some w → w = v
  | [], _, _, _, h => by cases h
  | _ :: _, 0, _, _, h => by cases h; rfl
  | _ :: r, i + 1, v, w, h => jget_set (L := r) (i := i) h
abbrev jLoc (ad : Nat → Nat) (ls : Array Slot) (nL : Nat) (L : jL) : Prop := lv_has ls nL (jll ad 0 L)
theorem jLoc.at {ad : Nat → Nat} {ls : Array Slot} {nL : Nat} {L : jL} (h : jLoc ad ls nL L) {i : Nat} {v : Value} (hi : jget L i = some v) (hc : v.category = 1) : ls[i]? = some (.val (jv ad v)) :=
  h.2.2 (i, jv ad v) (jll_mem.mpr ⟨i, v, by simp, hi, hc, rfl⟩)
theorem jLoc.put {ad : Nat → Nat} {ls' : Array Slot} {nL : Nat} {L : jL} {i : Nat} {v : Value} (h' : lv_has ls' nL ((i, jv ad v) :: (jll ad 0 L).filter (fun q => !(q.1 == i) && !(q.1 + 1 == i && q.2.category == 2)))) : jLoc ad ls' nL (jset L i v) := by
  refine ⟨h'.1, h'.2.1, fun q hq => ?_⟩
  obtain ⟨j, w, h1, h2, h3, h4⟩ := jll_mem.mp hq
  rw [Nat.zero_add] at h1
  by_cases hj : j = i
  · subst hj
    have := jget_set h2
    subst this
    have h5 := h'.2.2 (j, jv ad w) List.mem_cons_self
    rw [h1, h4]; exact h5
  · rw [jget_set_ne hj] at h2
    refine h'.2.2 q (List.mem_cons_of_mem _ (List.mem_filter.mpr ⟨jll_mem.mpr ⟨j, w, by omega, h2, h3, h4⟩, ?_⟩))
    have e2 : q.2.category = 1 := by rw [h4, jv_cat]; exact h3
    simp [e2, h1, hj]
/-! ===== the judgement ===== -/
def jAt (γ : jG) (ad : Nat → Nat) (A : Nat → Prop) (s : State) (mem : jM) (H : Heap) (locs : List Loc) : Prop := jP γ ad mem H ∧ (∀ k, mem k ≠ none → A (ad k)) ∧ va_S A s.heap H locs
def jScr (sc : jSc) (s : State) (ad : Nat → Nat) (A : Nat → Prop) : Prop := match sc with
  | none => True
  | some (L, xs) => va_X (ad 1000) L xs s s.heap ∧ ad 1000 < s.heap.size ∧ ¬ A (ad 1000)
def jRI (Y : jY) (pc : Nat) : Option Value → Prop
  | none => decode Y.2.1 pc = .ok (.return_, 1) ∧ Y.2.2.2.1 = none
  | some (.int x) => decode Y.2.1 pc = .ok (.ireturn, 1) ∧ ∃ ty, Y.2.2.2.1 = some ty ∧ narrow ty (.int x) = .int x
  | some (.long _) => decode Y.2.1 pc = .ok (.lreturn, 1) ∧ Y.2.2.2.1 = some .long
  | _ => False
def jEnd (Y : jY) (Q : jQ) (γ : jG) (p : Program) (l : Launch) (e : Env) (R : Room) (s : State) (m : MethodId) (args : Array Value) (below : List Frame) (meth : Method) (c : Code) (ad : Nat → Nat) (A : Nat → Prop) (Z : State → Prop) : Prop :=
  ∀ (v : Option Value) (mem : jM) (pc : Nat) (H : Heap) (locs : List Loc) (ls : Array Slot), Q v mem → jAt γ ad A s mem H locs → H.size = s.heap.size + Y.2.2.2.2.2.1 → jRI Y pc v →
    W p l e R s m args below meth c H locs Y.2.2.2.2.2.1 Y.2.2.2.2.2.2 Z (F0 m pc ls v.toList)
def jFix (Y : jY) (sc : jSc) (Q : jQ) (γ : jG) (p : Program) (l : Launch) (e : Env) (R : Room) (s : State) (m : MethodId) (args : Array Value) (below : List Frame) (meth : Method) (c : Code) (ad : Nat → Nat) (A : Nat → Prop) (Z : State → Prop) : Prop :=
  (p.tables.exec = Jvm.exec ∧ c.code = Y.2.1 ∧ c.maxLocals = Y.2.2.1 ∧ s.vm.findClass Y.1.cls = some m.cls ∧ (∀ w ∈ jW, w.before args s = true) ∧ KK γ s ∧ meth.name = Y.1.name) ∧
  (Y.2.2.2.2.1.1 ≤ R.frames ∧ Y.2.2.2.2.1.2 ≤ R.locals ∧ Y.2.2.2.2.2.1 ≤ R.cells ∧ Y.2.2.2.2.2.2 ≤ R.slots) ∧ (∀ q, s.heap.size ≤ q → A q) ∧ jScr sc s ad A ∧ jEnd Y Q γ p l e R s m args below meth c ad A Z
def jGo (Y : jY) (γ : jG) (p : Program) (l : Launch) (e : Env) (R : Room) (s : State) (m : MethodId) (args : Array Value) (below : List Frame) (meth : Method) (c : Code) (ad : Nat → Nat) (A : Nat → Prop) (Z : State → Prop) (pc : Nat) (L : jL) (st : List Value) (mem : jM) (kk : jK) : Prop :=
  ∀ (H : Heap) (locs : List Loc) (ls : Array Slot), jAt γ ad A s mem H locs → (H.size = s.heap.size + kk.2.1 ∧ kk.2.1 ≤ R.cells ∧ kk.2.2 ≤ R.slots ∧ jAl kk.1 s.heap.size ad) → jLoc ad ls Y.2.2.1 L →
    W p l e R s m args below meth c H locs kk.2.1 kk.2.2 Z (F0 m pc ls (st.map (jv ad)))
def Rn (Y : jY) (sc : jSc) (Q : jQ) : jKt := fun pc L st mem kk =>
  ∀ (γ : jG) (p : Program) (l : Launch) (e : Env) (R : Room) (s : State) (m : MethodId) (args : Array Value) (below : List Frame) (meth : Method) (c : Code) (ad : Nat → Nat) (A : Nat → Prop) (Z : State → Prop),
    jFix Y sc Q γ p l e R s m args below meth c ad A Z → jGo Y γ p l e R s m args below meth c ad A Z pc L st mem kk
def Sound (Y : jY) (sc : jSc) (pc : Nat) (T : jT) : Prop := ∀ (Q : jQ) (K : jKt) (L : jL) (st : List Value) (mem : jM) (kk : jK), (∀ (pc : Nat) (L : jL) (st : List Value) (mem : jM) (kk : jK), K pc L st mem kk → Rn Y sc Q pc L st mem kk) → T L st mem kk Q K → Rn Y sc Q pc L st mem kk
/-! ===== running ===== -/
def jrun (F : Nat → jT) (C : List Nat) : Nat → jQ → jKt → jKt
  | 0, _, R => R
  | n + 1, Q, R => fun pc L st mem kk => bif C.contains pc then R pc L st mem kk else F pc L st mem kk Q (jrun F C n Q R)
def jOK (Y : jY) (sc : jSc) (F : Nat → jT) : Prop := ∀ pc, Sound Y sc pc (F pc)
theorem jrun_soundR {Y : jY} {sc : jSc} {F : Nat → jT} (hF : jOK Y sc F) {C : List Nat} {Q : jQ} {R : jKt} (hR : ∀ (pc : Nat) (L : jL) (st : List Value) (mem : jM) (kk : jK), R pc L st mem kk → Rn Y sc Q pc L st mem kk) : ∀ {n pc : Nat} {L : jL} {st : List Value} {mem : jM} {kk : jK}, jrun F C n Q R pc L st mem kk → Rn Y sc Q pc L st mem kk
  | 0, _, _, _, _, _, h => hR _ _ _ _ _ h
  | n + 1, pc, L, st, mem, kk, h => by
    unfold jrun at h
    cases hc : C.contains pc with
    | true => rw [hc] at h; exact hR _ _ _ _ _ h
    | false =>
      rw [hc] at h
      exact hF pc Q _ L st mem kk (fun pc L st mem kk h => jrun_soundR hF hR h) h
theorem jrun_sound {Y : jY} {sc : jSc} {F : Nat → jT} (hF : jOK Y sc F) {C : List Nat} {Q : jQ} {n pc : Nat} {L : jL} {st : List Value} {mem : jM} {kk : jK} (h : jrun F C n Q (Rn Y sc Q) pc L st mem kk) : Rn Y sc Q pc L st mem kk := jrun_soundR hF (fun _ _ _ _ _ h => h) h
/-- one step by force (from a place that is a cut), then the run -/
theorem jrun_first {Y : jY} {sc : jSc} {F : Nat → jT} (hF : jOK Y sc F) {C : List Nat} {Q : jQ} (n : Nat) {pc : Nat} {L : jL} {st : List Value} {mem : jM} {kk : jK} (h : F pc L st mem kk Q (jrun F C n Q (Rn Y sc Q))) : Rn Y sc Q pc L st mem kk :=
  hF pc Q _ L st mem kk (fun pc L st mem kk h => jrun_sound hF h) h
/-- the table of a method, as a tree over pc -/
theorem jOK_node {Y : jY} {sc : jSc} {A B : Nat → jT} {k : Nat} (ha : jOK Y sc A) (hb : jOK Y sc B) : jOK Y sc (fun pc => bif Nat.blt pc k then A pc else B pc) := fun pc => by
  show Sound Y sc pc (bif Nat.blt pc k then A pc else B pc)
  cases h : Nat.blt pc k with
  | true => exact ha pc
  | false => exact hb pc
def jbad : jT := fun _ _ _ _ _ _ => False
theorem jOK_leaf {Y : jY} {sc : jSc} {T : jT} {k : Nat} (hs : Sound Y sc k T) : jOK Y sc (fun pc => bif Nat.beq pc k then T else jbad) := fun pc => by
  show Sound Y sc pc (bif Nat.beq pc k then T else jbad)
  cases h : Nat.beq pc k with
  | true =>
    have := Nat.eq_of_beq_eq_true h
    subst this
    exact hs
  | false => exact fun _ _ _ _ _ _ _ h => False.elim h
/-! ===== contracts ===== -/
def jws (Y : jY) : List Cond := .code Y.1 Y.2.1 Y.2.2.1 Y.2.2.2.1 :: jW
def jrm (Y : jY) : Room := { frames := Y.2.2.2.2.1.1, cells := Y.2.2.2.2.2.1, slots := Y.2.2.2.2.2.2, locals := Y.2.2.2.2.1.2 }
def jPc (γ : jG) (ad : Nat → Nat) (sz : Nat) (mem : jM) (vs : List Value) : Array Value → State → Prop := va_Pc (vs.map (jv ad)) (fun U => U.heap.size = sz ∧ jP γ ad mem U.heap ∧ KK γ U)
def jnr (v : Option Value) : Prop := ∀ (ad : Nat → Nat), v.toList.map (jv ad) = v.toList
def jQc (γ : jG) (ad : Nat → Nat) (sz mc : Nat) (mem : jM) (Q : jQ) : Array Value → State → Outcome → State → Prop := fun _ st o t =>
  (∃ (v : Option Value) (mem' : jM), o = .returned v ∧ jnr v ∧ Q v mem' ∧ jP γ ad mem' t.heap ∧ (∀ k, mem' k ≠ none → jA ad mem sz (ad k)) ∧ t.heap.size = sz + mc) ∧ va_F (jA ad mem sz) st t
def Ok (Y : jY) (nb : Nat) (vs : List Value) (mem : jM) (Q : jQ) : Prop :=
  ∀ (l : Launch) (γ : jG) (ad : Nat → Nat) (sz : Nat), jAl nb sz ad → Met l Y.1 (jws Y) (jrm Y) (jPc γ ad sz mem vs) (jQc γ ad sz Y.2.2.2.2.2.1 mem Q) Y.2.2.2.2.2.1 Y.2.2.2.2.2.2 (jA ad mem sz)
def jargs : List Value → jL
  | [] => []
  | v :: vs => some v :: (if v.category = 2 then none :: jargs vs else jargs vs)
theorem jargs_mem {ad : Nat → Nat} : ∀ {vs : List Value} {k i : Nat} {q : Nat × Value}, q ∈ jll ad i (jargs vs ++ List.replicate k none) → q ∈ lv_args i (vs.map (jv ad))
  | [], k, i, q, h => by
    exfalso
    obtain ⟨j, v, -, h2, -⟩ := jll_mem.mp h
    have : ∀ (k j : Nat), jget (List.replicate k none) j = none := by
      intro k
      induction k with
      | zero => intro j; rfl
      | succ k ih =>
        intro j
        cases j with
        | zero => rfl
        | succ j => exact ih j
    rw [show jargs [] ++ List.replicate k none = List.replicate k none from rfl, this] at h2
    cases h2
  | v :: vs, k, i, q, h => by
    show q ∈ (i, jv ad v) :: lv_args (if (jv ad v).category = 2 then i + 2 else i + 1) (vs.map (jv ad))
    rw [jv_cat]
    unfold jargs at h
    by_cases hv : v.category = 2
    · rw [if_pos hv] at h ⊢
      have h : q ∈ jll ad i (some v :: none :: (jargs vs ++ List.replicate k none)) := h
      rw [jll, if_neg (by omega), jll] at h
      exact List.mem_cons_of_mem _ (jargs_mem h)
    · rw [if_neg hv] at h ⊢
      have h : q ∈ jll ad i (some v :: (jargs vs ++ List.replicate k none)) := h
      have hc : v.category = 1 := by rcases lv_cat v with q | q <;> omega
      rw [jll, if_pos hc] at h
      rcases List.mem_cons.mp h with h | h
      · exact List.mem_cons.mpr (Or.inl h)
      · exact List.mem_cons_of_mem _ (jargs_mem h)
def jcs : List Value → Nat
  | [] => 0
  | v :: vs => (if v.category = 2 then 2 else 1) + jcs vs
theorem jcs_len (ad : Nat → Nat) : ∀ (vs : List Value), (lg_sl (vs.map (jv ad))).length = jcs vs
  | [] => rfl
  | v :: vs => by
    have ih := jcs_len ad vs
    unfold lg_sl at ih
    unfold lg_sl jcs
    rw [List.map_cons, List.flatMap_cons, List.length_append, ih, jv_cat]
    by_cases h : v.category = 2
    · rw [if_pos h, if_pos h]; rfl
    · rw [if_neg h, if_neg h]; rfl
theorem jmap_nil (ad : Nat → Nat) : ([] : List Value).map (jv ad) = [] := rfl
/-- a method keeps its contract if its body's run does -/
theorem Ok.of {Y : jY} (k : Nat) {nb : Nat} {vs : List Value} {mem : jM} {Q : jQ} (hy : plainName Y.1.cls = true) (hlen : jcs vs ≤ Y.2.2.1)
    (h : Rn Y none Q 0 (jargs vs ++ List.replicate k none) [] mem (nb, 0, 0)) : Ok Y nb vs mem Q := by
  intro l γ ad sz hal
  refine Met.ofW (cc := Y.2.1) (maxL := Y.2.2.1) (ret := Y.2.2.2.1) (ws' := jW) hy rfl ?_
  intro p e s m args below meth c s₁ B hml hv
  obtain ⟨rfl, hsz, hP, hK⟩ := hv
  have hts := atoms_spec (ws := jws Y) B.pre
  have hown : s.vm.findClass Y.1.cls = some m.cls := findClass_of_methodNamed B.named
  subst hsz
  have hl := lv_entry (vs.map (jv ad)) (n := Y.2.2.1) (by rw [jcs_len]; exact hlen)
  rw [lg_entry_eq]
  generalize (lg_sl (vs.map (jv ad)) ++ List.replicate (Y.2.2.1 - (lg_sl (vs.map (jv ad))).length) Slot.unset).toArray = ls at hl ⊢
  refine h γ p l e _ s m _ below meth c ad (jA ad mem s.heap.size) _ ⟨⟨B.exec, B.bytes, hml, hown, fun w hw => hts w (List.mem_cons_of_mem _ hw), hK, (name_of_methodNamed B.named B.method).1⟩, ⟨Nat.le_refl _, Nat.le_refl _, Nat.le_refl _, Nat.le_refl _⟩, fun q hq => Or.inr hq, trivial, ?_⟩ s.heap [] ls ⟨hP, fun k hk => Or.inl ⟨k, hk, rfl⟩, va_S.rf⟩ ⟨rfl, Nat.zero_le _, Nat.zero_le _, hal⟩ ⟨hl.1, hl.2.1, fun q hq => hl.2.2 q (jargs_mem hq)⟩
  intro v mem' pc H locs ls' hQ hat hz hr
  have hnr : jnr v := fun ad => by
    match v, hr with
    | none, _ => rfl
    | some (.int x), _ => rfl
    | some (.long x), _ => rfl
  have hQc : ∀ t : State, t.heap = H → s.WarmedH t.vm → jQc γ ad s.heap.size Y.2.2.2.2.2.1 mem Q (vs.map (jv ad)).toArray s (.returned v) t := fun t ht hW =>
    ⟨⟨v, mem', rfl, hnr, hQ, by rw [ht]; exact hat.1, hat.2.1, by rw [ht]; exact hz⟩, hat.2.2.F ht⟩
  match v, hr with
  | none, hr => exact W.vret B.exec B.bytes (B.returns.trans hr.2) hQc hat.2.2.2.2 hr.1
  | some (.int x), hr =>
    obtain ⟨hr, ty, h1, h2⟩ := hr
    exact W.zret B.exec B.bytes (B.returns.trans h1) h2 hQc hat.2.2.2.2 hr
  | some (.long x), hr => exact W.lret B.exec B.bytes (B.returns.trans hr.2) hQc hat.2.2.2.2 hr.1


theorem Ok.run {Y : jY} {F : Nat → jT} (hF : jOK Y none F) (C : List Nat) (n : Nat) (pad : jL) {nb : Nat} {vs : List Value} {mem : jM} {Q : jQ} (hy : plainName Y.1.cls = true) (hlen : jcs vs ≤ Y.2.2.1) (hp : pad = List.replicate pad.length none)
    (h : jrun F C n Q (Rn Y none Q) 0 (jargs vs ++ pad) [] mem (nb, 0, 0)) : Ok Y nb vs mem Q := Ok.of pad.length hy hlen (by rw [← hp]; exact jrun_sound hF h)
theorem Ok.inl {Y : jY} {F : Nat → jT} (hF : jOK Y none F) (n : Nat) (pad : jL) {nb : Nat} {vs : List Value} {mem : jM} {Q : jQ} (hy : plainName Y.1.cls = true) (hp : pad = List.replicate pad.length none)
    (h : jcs vs ≤ Y.2.2.1 ∧ jrun F [] n Q (fun _ _ _ _ _ => False) 0 (jargs vs ++ pad) [] mem (nb, 0, 0)) : Ok Y nb vs mem Q := Ok.of pad.length hy h.1 (by rw [← hp]; exact jrun_soundR hF (fun _ _ _ _ _ h => h.elim) h.2)
theorem jargs_n : jargs [] = [] := rfl
theorem jargs_r {a : Nat} {vs : List Value} : jargs (.ref a :: vs) = some (.ref a) :: jargs vs := rfl
theorem jargs_i {a : Int32} {vs : List Value} : jargs (.int a :: vs) = some (.int a) :: jargs vs := rfl
