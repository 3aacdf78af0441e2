
def jpN : Nat → List Value → List Value → (List Value → List Value → Prop) → Prop
  | 0, st, acc, k => k acc st
  | n + 1, v :: st, acc, k => jpN n st (v :: acc) k
  | _ + 1, [], _, _ => False
theorem jpN_e : ∀ {n : Nat} {st acc : List Value} {k : List Value → List Value → Prop}, jpN n st acc k → ∃ vs r, vs.length = n ∧ st = vs.reverse ++ r ∧ k (vs ++ acc) r
  | 0, st, acc, k, h => ⟨[], st, rfl, rfl, h⟩
  | n + 1, [], acc, k, h => h.elim
  | n + 1, v :: st, acc, k, h => by
    obtain ⟨vs, r, h1, h2, h3⟩ := jpN_e (n := n) (st := st) (acc := v :: acc) (k := k) h
    refine ⟨vs ++ [v], r, by simp [h1], ?_, by simpa using h3⟩
    rw [h2]
    simp
def jshort : List Value → Bool
  | [] => true
  | [_] => true
  | [_, _] => true
  | [_, _, _] => true
  | [_, _, _, _] => true
  | _ => false
theorem jcat_le (v : Value) : v.category ≤ 2 := by rcases lv_cat v with h | h <;> omega
theorem jshort_sum {ad : Nat → Nat} {r : List Value} (h : jshort r = true) : ((r.map (jv ad)).map fun v => v.category).sum ≤ 8 := by
  match r, h with
  | [], _ => simp
  | [a], _ => have := jcat_le (jv ad a); simp; omega
  | [a, b], _ => have := jcat_le (jv ad a); have := jcat_le (jv ad b); simp; omega
  | [a, b, c], _ => have := jcat_le (jv ad a); have := jcat_le (jv ad b); have := jcat_le (jv ad c); simp; omega
  | [a, b, c, d], _ => have := jcat_le (jv ad a); have := jcat_le (jv ad b); have := jcat_le (jv ad c); have := jcat_le (jv ad d); simp; omega
def jpush (v : Option Value) (r : List Value) : List Value := match v with
  | some x => x :: r
  | none => r
abbrev jSp : Type := Nat → List Value → jM → jQ → Prop
def jMeets (Y : jY) (S : jSp) : Prop := ∀ (nb : Nat) (vs : List Value) (mem : jM) (Q : jQ), S nb vs mem Q → Ok Y nb vs mem Q
/-- the receiver is an object of the class -/
def jrcv (mem : jM) (ci : Nat) (vs : List Value) : Prop := match vs with
  | .ref a :: _ => match mem a with
    | some (.inr (.inr (c, _))) => c = ci
    | _ => False
  | _ => False
theorem jrcv_e {mem : jM} {ci : Nat} {vs : List Value} (h : jrcv mem ci vs) : ∃ a r f, vs = .ref a :: r ∧ mem a = some (.inr (.inr (ci, f))) := by
  unfold jrcv at h
  split at h
  · split at h
    · rename_i c f hm
      subst h
      exact ⟨_, _, f, rfl, hm⟩
    · exact h.elim
  · exact h.elim
def J_callV (ci : Nat) (S : jSp) (n nx : Nat) : jT := fun L st mem kk _ K => jpN (n + 1) st [] fun vs r => jrcv mem ci vs ∧ jshort r = true ∧ S (kk.1 + kk.2.1) vs mem fun v mem' => K nx L (jpush v r) mem' kk
def J_callS (S : jSp) (n nx : Nat) : jT := fun L st mem kk _ K => jpN n st [] fun vs r => jshort r = true ∧ S (kk.1 + kk.2.1) vs mem fun v mem' => K nx L (jpush v r) mem' kk
def J_callI (ci : Nat) (S : jSp) (mc ms Mc Ms n nx : Nat) : jT := fun L st mem kk _ K => jpN (n + 1) st [] fun vs r => jrcv mem ci vs ∧ jshort r = true ∧ (kk.2.1 + mc ≤ Mc ∧ kk.2.2 + ms ≤ Ms) ∧ S (kk.1 + kk.2.1) vs mem fun v mem' => K nx L (jpush v r) mem' (kk.1, kk.2.1 + mc, kk.2.2 + ms)
def jNo (y : MethodName) (n : Nat) : Prop := y.cls ≠ "java/lang/invoke/MethodHandle" ∧ y.cls ≠ "java/lang/invoke/VarHandle" ∧ (parseMethodDescriptor y.desc).map (fun d => d.parameters.length) = some n
def jFits (Y Y' : jY) : Prop := Y'.2.2.2.2.1.1 + 1 ≤ Y.2.2.2.2.1.1 ∧ 8 + (Y'.2.2.1 + 11) + Y'.2.2.2.2.1.2 ≤ Y.2.2.2.2.1.2
def jcode (Y : jY) : Cond := .code Y.1 Y.2.1 Y.2.2.1 Y.2.2.2.1
theorem jgoodIn {Y : jY} (h : jcode Y ∈ jW) : GoodIn jW (jws Y) := fun w hw => by
  rcases List.mem_cons.mp hw with rfl | hw
  · exact ⟨h, jgood h⟩
  · exact ⟨hw, jgood hw⟩
theorem jPc_blind {γ : jG} {ad : Nat → Nat} {sz : Nat} {mem : jM} {vs : List Value} : FrameBlind (jPc γ ad sz mem vs) := fun _ U g mk h => ⟨h.1, h.2.1, h.2.2.1, h.2.2.2.calling g mk _⟩
section SN
variable {Y Y' : jY} {sc : jSc} {pc nx : Nat}
theorem jcall_go {γ : jG} {p : Program} {l : Launch} {e : Env} {R : Room} {s : State} {m : MethodId} {args : Array Value} {below : List Frame} {meth : Method} {c : Code} {ad : Nat → Nat} {A : Nat → Prop} {Z : State → Prop} {Q : jQ} (F : jFix Y sc Q γ p l e R s m args below meth c ad A Z) {mc ms cells slots : Nat} {Q' : jQ} {a : Array Value} {H : Heap} {locs : List Loc} {ls : Array Slot} {mem : jM} {st0 rest : List Value}
    (hr : va_Run p l e R s m args below meth c H locs cells slots mc ms (F0 m pc ls st0) (rest.map (jv ad)) (jQc γ ad H.size mc mem Q' a) (jA ad mem H.size)) (ha : jAt γ ad A s mem H locs)
    (kk : ∀ (v : Option Value) (mem' : jM) (H1 : Heap) (locs1 : List Loc), Q' v mem' → jAt γ ad A s mem' H1 locs1 → H1.size = H.size + mc → W p l e R s m args below meth c H1 locs1 (cells + mc) (slots + ms) Z (F0 m (pc + 3) ls ((jpush v rest).map (jv ad)))) : W p l e R s m args below meth c H locs cells slots Z (F0 m pc ls st0) := by
  intro T hT X
  obtain ⟨v, st₀, t, T', L, h0, X', hL, e1, e2, ⟨⟨v', mem', hv, hnr, hq, hP, hf, hsz⟩, hF⟩, st⟩ := hr T hT X
  cases hv
  unfold va_F at hF
  rw [h0] at hF
  have hA : ∀ q, jA ad mem H.size q → A q := fun q hq => by
    rcases hq with ⟨k, hk, rfl⟩ | hq
    · exact ha.2.1 k hk
    · exact F.2.2.1 q (Nat.le_trans ha.2.2.1 hq)
  obtain ⟨t2, a1, b1⟩ := kk v mem' T'.heap (locs ++ L) hq ⟨by rw [e1]; exact hP, fun k hk => hA _ (hf k hk), Nat.le_trans ha.2.2.1 (by rw [e1]; exact hF.1), fun q h1 h2 => by
    rw [e1, hF.2 q (Nat.lt_of_lt_of_le h1 ha.2.2.1) (fun z => h2 (hA q z))]
    exact ha.2.2.2.1 q h1 h2, fun q hq => by
      rcases List.mem_append.mp hq with h | h
      · exact ha.2.2.2.2 q h
      · exact hA _ (hL q h)⟩ (by rw [e1]; exact hsz) T' rfl X'
  refine ⟨t2, st t2 ?_, b1⟩
  have e3 : (jpush v rest).map (jv ad) = v.toList ++ rest.map (jv ad) := by
    have := hnr ad
    cases v with
    | none => rfl
    | some x =>
      simp at this
      show jv ad x :: _ = _
      rw [this]
      rfl
  rw [e3] at a1
  exact a1
theorem jal_of {nb sz k hz : Nat} {ad : Nat → Nat} (h : jAl nb sz ad) (e : hz = sz + k) : jAl (nb + k) hz ad := by rw [e]; exact h.go
theorem sn_callV {ix n ci : Nat} {C : String} {T : u_T} {N : Nat} {S : jSp} (hS : jMeets Y' S) (hd : decode Y.2.1 pc = .ok (.invokevirtual ix, 3)) (hn : nx = pc + 3) (hY : Y'.2.2.2.2.2 = (0, 0)) (hc : vwCl[ci]? = some (C, T, N)) (hlk : Cond.methodLink Y.1.cls ix Y'.1 ∈ jW) (hi : Cond.instanceMethod Y'.1 ∈ jW) (hs : Cond.selects C Y'.1 Y'.1 ∈ jW) (hini : Cond.initialized C ∈ jW) (hcode : jcode Y' ∈ jW) (hC : Y'.1.cls = C) (hno : jNo Y'.1 n) (hfit : jFits Y Y') : Sound Y sc pc (J_callV ci S n nx) := by
  subst hn
  intro Q K L st mem kk hK h γ p l e R s m args below meth c ad A Z F H locs ls ha hz hl
  obtain ⟨vs, r, hlen, rfl, h1, h2, h3⟩ := jpN_e h
  rw [List.append_nil] at h1 h3
  obtain ⟨a, As, f, rfl, hm⟩ := jrcv_e h1
  have hts := F.1.2.2.2.2.1
  have hKK := F.1.2.2.2.2.2.1
  have hmc : Y'.2.2.2.2.2.1 = 0 := by rw [hY]
  have hms : Y'.2.2.2.2.2.2 = 0 := by rw [hY]
  have hM := hS _ _ _ _ h3 l γ ad H.size (jal_of hz.2.2.2 hz.1)
  rw [hmc, hms] at hM
  obtain ⟨q, hq, cell, g1, g2, g3, -⟩ := ha.1.1 a _ hm
  have hq : q = (C, T, N) := Option.some.inj (hq.symm.trans hc)
  subst hq
  refine jcall_go F (va_runV (As := As.map (jv ad)) (rest := r.map (jv ad)) (C := C) (n := n) ⟨F.1.1, F.1.2.1, F.1.2.2.1, F.1.2.2.2.1, hts⟩ hM (cwV n hts (fun w hw => ?_) rfl hmc hms ⟨hC, hno⟩ ⟨Nat.le_trans hfit.1 F.2.1.1, Nat.le_trans hfit.2 F.2.1.2.1⟩) ⟨jPc_blind, ⟨cell, g1, by rw [g3]; rfl, by rw [g2]; exact (hKK.1.1 ci _ hc).2.1⟩, fun U hU hW => ⟨rfl, by rw [hU], by rw [hU]; exact ha.1, hKK.warm hW⟩⟩ rfl (by simp at hlen; simpa using hlen) hl.1 ?_ (lv_room (jshort_sum h2)) hd ⟨hz.2.1, hz.2.2.1⟩) ha fun v mem' H1 locs1 hQ hat hsz => hK _ _ _ _ _ hQ γ p l e R s m args below meth c ad A Z F H1 locs1 ls hat ⟨hsz.trans hz.1, hz.2⟩ hl
  · rcases List.mem_append.mp (show w ∈ ([.methodLink Y.1.cls ix Y'.1, .instanceMethod Y'.1, .selects C Y'.1 Y'.1, .initialized C] : List Cond) ++ jws Y' from hw) with hw | hw
    · simp at hw
      rcases hw with rfl | rfl | rfl | rfl
      · exact ⟨hlk, jgood hlk⟩
      · exact ⟨hi, jgood hi⟩
      · exact ⟨hs, jgood hs⟩
      · exact ⟨hini, jgood hini⟩
    · exact jgoodIn hcode w hw
  · simp [jv]
theorem sn_callS {ix n : Nat} {S : jSp} (hS : jMeets Y' S) (hd : decode Y.2.1 pc = .ok (.invokestatic ix, 3)) (hn : nx = pc + 3) (hY : Y'.2.2.2.2.2 = (0, 0)) (hlk : Cond.methodLink Y.1.cls ix Y'.1 ∈ jW) (hst : Cond.static Y'.1 ∈ jW) (hini : Cond.initialized Y'.1.cls ∈ jW) (hcode : jcode Y' ∈ jW) (hno : jNo Y'.1 n) (hfit : jFits Y Y') : Sound Y sc pc (J_callS S n nx) := by
  subst hn
  intro Q K L st mem kk hK h γ p l e R s m args below meth c ad A Z F H locs ls ha hz hl
  obtain ⟨vs, r, hlen, rfl, h2, h3⟩ := jpN_e h
  rw [List.append_nil] at h3
  have hts := F.1.2.2.2.2.1
  have hKK := F.1.2.2.2.2.2.1
  have hmc : Y'.2.2.2.2.2.1 = 0 := by rw [hY]
  have hms : Y'.2.2.2.2.2.2 = 0 := by rw [hY]
  have hM := hS _ _ _ _ h3 l γ ad H.size (jal_of hz.2.2.2 hz.1)
  rw [hmc, hms] at hM
  refine jcall_go F (va_runS (As := vs.map (jv ad)) (rest := r.map (jv ad)) (n := n) ⟨F.1.1, F.1.2.1, F.1.2.2.1, F.1.2.2.2.1, hts⟩ hM ⟨callB_of n hts (jgoodIn hcode) rfl hmc hms (hts _ hini) (hts _ hlk) hno ⟨Nat.le_trans hfit.1 F.2.1.1, Nat.le_trans hfit.2 F.2.1.2.1⟩, hts _ hst⟩ ⟨jPc_blind, fun U hU hW => ⟨rfl, by rw [hU], by rw [hU]; exact ha.1, hKK.warm hW⟩⟩ rfl (by simpa using hlen) hl.1 (by simp) (lv_room (jshort_sum h2)) hd ⟨hz.2.1, hz.2.2.1⟩) ha fun v mem' H1 locs1 hQ hat hsz => hK _ _ _ _ _ hQ γ p l e R s m args below meth c ad A Z F H1 locs1 ls hat ⟨hsz.trans hz.1, hz.2⟩ hl
theorem sn_callSN {ix n : Nat} {host : String} {S : jSp} (hS : jMeets Y' S) (hd : decode Y.2.1 pc = .ok (.invokestatic ix, 3)) (hn : nx = pc + 3) (hY : Y'.2.2.2.2.2 = (0, 0)) (hlk : (Y.1.cls, ix, Y'.1, host) ∈ jNest) (hst : Cond.static Y'.1 ∈ jW) (hini : Cond.initialized Y'.1.cls ∈ jW) (hcode : jcode Y' ∈ jW) (hno : jNo Y'.1 n) (hfit : jFits Y Y') : Sound Y sc pc (J_callS S n nx) := by
  subst hn
  intro Q K L st mem kk hK h γ p l e R s m args below meth c ad A Z F H locs ls ha hz hl
  obtain ⟨vs, r, hlen, rfl, h2, h3⟩ := jpN_e h
  rw [List.append_nil] at h3
  have hts := F.1.2.2.2.2.1
  have hKK := F.1.2.2.2.2.2.1
  have hmc : Y'.2.2.2.2.2.1 = 0 := by rw [hY]
  have hms : Y'.2.2.2.2.2.2 = 0 := by rw [hY]
  have hM := hS _ _ _ _ h3 l γ ad H.size (jal_of hz.2.2.2 hz.1)
  rw [hmc, hms] at hM
  refine jcall_go F (va_runSN (As := vs.map (jv ad)) (rest := r.map (jv ad)) (n := n) (host := host) ⟨F.1.1, F.1.2.1, F.1.2.2.1, F.1.2.2.2.1, hts⟩ hM ⟨va_cnB n hts (jgoodIn hcode) rfl hmc hms (hKK.2.1 _ hlk) (hts _ hini) hno ⟨Nat.le_trans hfit.1 F.2.1.1, Nat.le_trans hfit.2 F.2.1.2.1⟩, hts _ hst, trivial⟩ ⟨jPc_blind, fun U hU hW => ⟨rfl, by rw [hU], by rw [hU]; exact ha.1, hKK.warm hW⟩⟩ rfl (by simpa using hlen) hl.1 (by simp) (lv_room (jshort_sum h2)) hd ⟨hz.2.1, hz.2.2.1⟩) ha fun v mem' H1 locs1 hQ hat hsz => hK _ _ _ _ _ hQ γ p l e R s m args below meth c ad A Z F H1 locs1 ls hat ⟨hsz.trans hz.1, hz.2⟩ hl
theorem jbud {Q : jQ} {γ : jG} {p : Program} {l : Launch} {e : Env} {R : Room} {s : State} {m : MethodId} {args : Array Value} {below : List Frame} {meth : Method} {c : Code} {ad : Nat → Nat} {A : Nat → Prop} {Z : State → Prop} (F : jFix Y sc Q γ p l e R s m args below meth c ad A Z) {Mc Ms x y : Nat} (hM : Y.2.2.2.2.2 = (Mc, Ms)) (h : x ≤ Mc ∧ y ≤ Ms) : x ≤ R.cells ∧ y ≤ R.slots := by
  have h1 := F.2.1.2.2.1
  have h2 := F.2.1.2.2.2
  rw [hM] at h1 h2
  exact ⟨Nat.le_trans h.1 h1, Nat.le_trans h.2 h2⟩
theorem sn_callI {ix n ci mc ms Mc Ms : Nat} {S : jSp} (hS : jMeets Y' S) (hd : decode Y.2.1 pc = .ok (.invokespecial ix, 3)) (hn : nx = pc + 3) (hY : Y'.2.2.2.2.2 = (mc, ms)) (hMM : Y.2.2.2.2.2 = (Mc, Ms)) (hlk : Cond.methodLink Y.1.cls ix Y'.1 ∈ jW) (hi : Cond.instanceMethod Y'.1 ∈ jW) (hini : Cond.initialized Y'.1.cls ∈ jW) (hcode : jcode Y' ∈ jW) (hret : Y'.2.2.2.1 = none) (hin : Y'.1.name = "<init>") (hno : jNo Y'.1 n) (hfit : jFits Y Y') : Sound Y sc pc (J_callI ci S mc ms Mc Ms n nx) := by
  subst hn
  intro Q K L st mem kk hK h γ p l e R s m args below meth c ad A Z F H locs ls ha hz hl
  obtain ⟨vs, r, hlen, rfl, h1, h2, hb, h3⟩ := jpN_e h
  rw [List.append_nil] at h1 h3
  obtain ⟨b, As, f, rfl, hm⟩ := jrcv_e h1
  have hts := F.1.2.2.2.2.1
  have hKK := F.1.2.2.2.2.2.1
  have hmc : Y'.2.2.2.2.2.1 = mc := by rw [hY]
  have hms : Y'.2.2.2.2.2.2 = ms := by rw [hY]
  have hM := hS _ _ _ _ h3 l γ ad H.size (jal_of hz.2.2.2 hz.1)
  rw [hmc, hms] at hM
  have hws : jws Y' = Cond.code Y'.1 Y'.2.1 Y'.2.2.1 none :: jW := by unfold jws; rw [hret]
  have hbb := jbud F hMM hb
  refine jcall_go F (va_runI (b := ad b) (As := As.map (jv ad)) (rest := r.map (jv ad)) (n := n) ⟨F.1.1, F.1.2.1, F.1.2.2.1, F.1.2.2.2.1, hts⟩ hM (cwI n hts (jgoodIn hcode) hws hmc hms (hts _ hini) (hts _ hlk) (hts _ hi) hin hno ⟨Nat.le_trans hfit.1 F.2.1.1, Nat.le_trans hfit.2 F.2.1.2.1⟩) ⟨jPc_blind, fun U hU hW => ⟨rfl, by rw [hU], by rw [hU]; exact ha.1, hKK.warm hW⟩⟩ rfl (by simp at hlen; simpa using hlen) hl.1 (by simp [jv]) (lv_room (jshort_sum h2)) hd hbb) ha fun v mem' H1 locs1 hQ hat hsz => hK _ _ _ _ _ hQ γ p l e R s m args below meth c ad A Z F H1 locs1 ls hat ⟨by show H1.size = s.heap.size + (kk.2.1 + mc); rw [hsz, hz.1]; omega, hbb.1, hbb.2, hz.2.2.2⟩ hl
theorem sn_callIN {ix n ci mc ms Mc Ms : Nat} {host : String} {S : jSp} (hS : jMeets Y' S) (hd : decode Y.2.1 pc = .ok (.invokespecial ix, 3)) (hn : nx = pc + 3) (hY : Y'.2.2.2.2.2 = (mc, ms)) (hMM : Y.2.2.2.2.2 = (Mc, Ms)) (hlk : (Y.1.cls, ix, Y'.1, host) ∈ jNest) (hi : Cond.instanceMethod Y'.1 ∈ jW) (hini : Cond.initialized Y'.1.cls ∈ jW) (hcode : jcode Y' ∈ jW) (hret : Y'.2.2.2.1 = none) (hin : Y'.1.name = "<init>") (hno : jNo Y'.1 n) (hfit : jFits Y Y') : Sound Y sc pc (J_callI ci S mc ms Mc Ms n nx) := by
  subst hn
  intro Q K L st mem kk hK h γ p l e R s m args below meth c ad A Z F H locs ls ha hz hl
  obtain ⟨vs, r, hlen, rfl, h1, h2, hb, h3⟩ := jpN_e h
  rw [List.append_nil] at h1 h3
  obtain ⟨b, As, f, rfl, hm⟩ := jrcv_e h1
  have hts := F.1.2.2.2.2.1
  have hKK := F.1.2.2.2.2.2.1
  have hmc : Y'.2.2.2.2.2.1 = mc := by rw [hY]
  have hms : Y'.2.2.2.2.2.2 = ms := by rw [hY]
  have hM := hS _ _ _ _ h3 l γ ad H.size (jal_of hz.2.2.2 hz.1)
  rw [hmc, hms] at hM
  have hws : jws Y' = Cond.code Y'.1 Y'.2.1 Y'.2.2.1 none :: jW := by unfold jws; rw [hret]
  have hbb := jbud F hMM hb
  refine jcall_go F (va_runIN (b := ad b) (As := As.map (jv ad)) (rest := r.map (jv ad)) (n := n) (host := host) ⟨F.1.1, F.1.2.1, F.1.2.2.1, F.1.2.2.2.1, hts⟩ hM ⟨va_cnB n hts (jgoodIn hcode) hws hmc hms (hKK.2.1 _ hlk) (hts _ hini) hno ⟨Nat.le_trans hfit.1 F.2.1.1, Nat.le_trans hfit.2 F.2.1.2.1⟩, hin, hts _ hi⟩ ⟨jPc_blind, fun U hU hW => ⟨rfl, by rw [hU], by rw [hU]; exact ha.1, hKK.warm hW⟩⟩ rfl (by simp at hlen; simpa using hlen) hl.1 (by simp [jv]) (lv_room (jshort_sum h2)) hd hbb) ha fun v mem' H1 locs1 hQ hat hsz => hK _ _ _ _ _ hQ γ p l e R s m args below meth c ad A Z F H1 locs1 ls hat ⟨by show H1.size = s.heap.size + (kk.2.1 + mc); rw [hsz, hz.1]; omega, hbb.1, hbb.2, hz.2.2.2⟩ hl
end SN
