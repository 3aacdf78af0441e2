/-! ===== pops ===== -/
def jpI (st : List Value) (k : Int32 → List Value → Prop) : Prop := match st with
  | .int x :: r => k x r
  | _ => False
def jpR (st : List Value) (k : Nat → List Value → Prop) : Prop := match st with
  | .ref x :: r => k x r
  | _ => False
def jpJ (st : List Value) (k : Int64 → List Value → Prop) : Prop := match st with
  | .long x :: r => k x r
  | _ => False
def jpV (st : List Value) (k : Value → List Value → Prop) : Prop := match st with
  | v :: r => k v r
  | _ => False
theorem jpI_c {x : Int32} {r : List Value} {k : Int32 → List Value → Prop} : jpI (.int x :: r) k = k x r := rfl
theorem jpR_c {x : Nat} {r : List Value} {k : Nat → List Value → Prop} : jpR (.ref x :: r) k = k x r := rfl
theorem jpJ_c {x : Int64} {r : List Value} {k : Int64 → List Value → Prop} : jpJ (.long x :: r) k = k x r := rfl
theorem jpV_c {x : Value} {r : List Value} {k : Value → List Value → Prop} : jpV (x :: r) k = k x r := rfl
theorem jpI_e {st : List Value} {k : Int32 → List Value → Prop} (h : jpI st k) : ∃ x r, st = .int x :: r ∧ k x r := by
  unfold jpI at h; split at h
  · exact ⟨_, _, rfl, h⟩
  · exact h.elim
theorem jpR_e {st : List Value} {k : Nat → List Value → Prop} (h : jpR st k) : ∃ x r, st = .ref x :: r ∧ k x r := by
  unfold jpR at h; split at h
  · exact ⟨_, _, rfl, h⟩
  · exact h.elim
theorem jpJ_e {st : List Value} {k : Int64 → List Value → Prop} (h : jpJ st k) : ∃ x r, st = .long x :: r ∧ k x r := by
  unfold jpJ at h; split at h
  · exact ⟨_, _, rfl, h⟩
  · exact h.elim
theorem jpV_e {st : List Value} {k : Value → List Value → Prop} (h : jpV st k) : ∃ x r, st = x :: r ∧ k x r := by
  unfold jpV at h; split at h
  · exact ⟨_, _, rfl, h⟩
  · exact h.elim
/-! ===== locals read ===== -/
def jlI (o : Option Value) (k : Int32 → Prop) : Prop := match o with
  | some (.int x) => k x
  | _ => False
def jlR (o : Option Value) (k : Nat → Prop) : Prop := match o with
  | some (.ref x) => k x
  | _ => False
theorem jlI_e {o : Option Value} {k : Int32 → Prop} (h : jlI o k) : ∃ x, o = some (.int x) ∧ k x := by
  unfold jlI at h; split at h
  · exact ⟨_, rfl, h⟩
  · exact h.elim
theorem jlR_e {o : Option Value} {k : Nat → Prop} (h : jlR o k) : ∃ x, o = some (.ref x) ∧ k x := by
  unfold jlR at h; split at h
  · exact ⟨_, rfl, h⟩
  · exact h.elim
theorem jlI_c {x : Int32} {k : Int32 → Prop} : jlI (some (.int x)) k = k x := rfl
theorem jlR_c {x : Nat} {k : Nat → Prop} : jlR (some (.ref x)) k = k x := rfl
/-! ===== constants ===== -/
def J_iconst (v : Int32) (nx : Nat) : jT := fun L st mem kk _ K => K nx L (.int v :: st) mem kk
def J_lconst (v : Int64) (nx : Nat) : jT := fun L st mem kk _ K => K nx L (.long v :: st) mem kk
section SN
variable {Y : jY} {sc : jSc} {pc nx : Nat}

theorem sn_iconst {n : Int} {v : Int32} (hd : decode Y.2.1 pc = .ok (.iconst n, 1)) (hv : Int32.ofInt n = v) (hn : nx = pc + 1) : Sound Y sc pc (J_iconst v nx) := by
  intro Q K L st mem kk hK h γ p l e R s m args below meth c ad A Z F H locs ls ha hz hl
  subst hn
  exact lv_iconst F.1.1 F.1.2.1 hd hv (hK _ _ _ _ _ h γ p l e R s m args below meth c ad A Z F H locs ls ha hz hl)
theorem sn_bipush {n : Int} {v : Int32} (hd : decode Y.2.1 pc = .ok (.bipush n, 2)) (hv : (Int8.ofInt n).toInt32 = v) (hn : nx = pc + 2) : Sound Y sc pc (J_iconst v nx) := by
  intro Q K L st mem kk hK h γ p l e R s m args below meth c ad A Z F H locs ls ha hz hl
  subst hn
  exact lv_bipush F.1.1 F.1.2.1 hd hv (hK _ _ _ _ _ h γ p l e R s m args below meth c ad A Z F H locs ls ha hz hl)
theorem sn_sipush {n : Int} {v : Int32} (hd : decode Y.2.1 pc = .ok (.sipush n, 3)) (hv : (Int16.ofInt n).toInt32 = v) (hn : nx = pc + 3) : Sound Y sc pc (J_iconst v nx) := by
  intro Q K L st mem kk hK h γ p l e R s m args below meth c ad A Z F H locs ls ha hz hl
  subst hn
  exact lv_sipush F.1.1 F.1.2.1 hd hv (hK _ _ _ _ _ h γ p l e R s m args below meth c ad A Z F H locs ls ha hz hl)
theorem sn_ldcw {ix : Nat} {v : Int32} (hd : decode Y.2.1 pc = .ok (.ldc_w ix, 3)) (hc : Cond.constant Y.1.cls ix v ∈ jW) (hn : nx = pc + 3) : Sound Y sc pc (J_iconst v nx) := by
  intro Q K L st mem kk hK h γ p l e R s m args below meth c ad A Z F H locs ls ha hz hl
  subst hn
  exact lv_ldcw F.1.1 F.1.2.1 F.1.2.2.2.1 (F.1.2.2.2.2.1 _ hc) hd (hK _ _ _ _ _ h γ p l e R s m args below meth c ad A Z F H locs ls ha hz hl)
theorem sn_ldc2 {ix : Nat} {v : Int64} (hd : decode Y.2.1 pc = .ok (.ldc2_w ix, 3)) (hc : Cond.constantLong Y.1.cls ix v ∈ jW) (hn : nx = pc + 3) : Sound Y sc pc (J_lconst v nx) := by
  intro Q K L st mem kk hK h γ p l e R s m args below meth c ad A Z F H locs ls ha hz hl
  subst hn
  exact lv_ldc2 F.1.1 F.1.2.1 F.1.2.2.2.1 (F.1.2.2.2.2.1 _ hc) hd (hK _ _ _ _ _ h γ p l e R s m args below meth c ad A Z F H locs ls ha hz hl)
end SN
def J_iload (i : Nat) (nx : Nat) : jT := fun L st mem kk _ K => jlI (jget L i) fun x => K nx L (.int x :: st) mem kk
def J_aload (i : Nat) (nx : Nat) : jT := fun L st mem kk _ K => jlR (jget L i) fun x => K nx L (.ref x :: st) mem kk
def J_istore (i : Nat) (nx : Nat) : jT := fun L st mem kk _ K => jpI st fun x st => K nx (jset L i (.int x)) st mem kk
def J_astore (i : Nat) (nx : Nat) : jT := fun L st mem kk _ K => jpR st fun x st => K nx (jset L i (.ref x)) st mem kk
def J_iinc (i : Nat) (n : Int32) (nx : Nat) : jT := fun L st mem kk _ K => jlI (jget L i) fun x => K nx (jset L i (.int (x + n))) st mem kk
section SN
variable {Y : jY} {sc : jSc} {pc nx : Nat}

theorem sn_iload_n {k : Fin 4} {i : Nat} (hd : decode Y.2.1 pc = .ok (.iload_n k, 1)) (hi : (k : Nat) = i) (hn : nx = pc + 1) : Sound Y sc pc (J_iload i nx) := by
  intro Q K L st mem kk hK h γ p l e R s m args below meth c ad A Z F H locs ls ha hz hl
  subst hn
  obtain ⟨x, g1, h1⟩ := jlI_e h
  exact lv_iload_n F.1.1 F.1.2.1 hd hi (hl.at g1 rfl) (hK _ _ _ _ _ h1 γ p l e R s m args below meth c ad A Z F H locs ls ha hz hl)
theorem sn_iload {i : Nat} (hd : decode Y.2.1 pc = .ok (.iload i, 2)) (hn : nx = pc + 2) : Sound Y sc pc (J_iload i nx) := by
  intro Q K L st mem kk hK h γ p l e R s m args below meth c ad A Z F H locs ls ha hz hl
  subst hn
  obtain ⟨x, g1, h1⟩ := jlI_e h
  exact lv_iload F.1.1 F.1.2.1 hd (hl.at g1 rfl) (hK _ _ _ _ _ h1 γ p l e R s m args below meth c ad A Z F H locs ls ha hz hl)
theorem sn_aload_n {k : Fin 4} {i : Nat} (hd : decode Y.2.1 pc = .ok (.aload_n k, 1)) (hi : (k : Nat) = i) (hn : nx = pc + 1) : Sound Y sc pc (J_aload i nx) := by
  intro Q K L st mem kk hK h γ p l e R s m args below meth c ad A Z F H locs ls ha hz hl
  subst hn
  obtain ⟨x, g1, h1⟩ := jlR_e h
  exact lv_aload_n F.1.1 F.1.2.1 hd hi (hl.at g1 rfl) (hK _ _ _ _ _ h1 γ p l e R s m args below meth c ad A Z F H locs ls ha hz hl)
theorem sn_aload {i : Nat} (hd : decode Y.2.1 pc = .ok (.aload i, 2)) (hn : nx = pc + 2) : Sound Y sc pc (J_aload i nx) := by
  intro Q K L st mem kk hK h γ p l e R s m args below meth c ad A Z F H locs ls ha hz hl
  subst hn
  obtain ⟨x, g1, h1⟩ := jlR_e h
  exact lv_aload F.1.1 F.1.2.1 hd (hl.at g1 rfl) (hK _ _ _ _ _ h1 γ p l e R s m args below meth c ad A Z F H locs ls ha hz hl)
theorem sn_istore_n {k : Fin 4} {i : Nat} (hd : decode Y.2.1 pc = .ok (.istore_n k, 1)) (hi : (k : Nat) = i) (hn : nx = pc + 1) (hL : i < Y.2.2.1) : Sound Y sc pc (J_istore i nx) := by
  intro Q K L st mem kk hK h γ p l e R s m args below meth c ad A Z F H locs ls ha hz hl
  subst hn
  obtain ⟨x, st, rfl, h1⟩ := jpI_e h
  exact lv_istore_n F.1.1 F.1.2.1 hd hi hl hL rfl (fun ls' h' => hK _ _ _ _ _ h1 γ p l e R s m args below meth c ad A Z F H locs ls' ha hz (jLoc.put (v := .int x) h'))
theorem sn_istore {i : Nat} (hd : decode Y.2.1 pc = .ok (.istore i, 2)) (hn : nx = pc + 2) (hL : i < Y.2.2.1) : Sound Y sc pc (J_istore i nx) := by
  intro Q K L st mem kk hK h γ p l e R s m args below meth c ad A Z F H locs ls ha hz hl
  subst hn
  obtain ⟨x, st, rfl, h1⟩ := jpI_e h
  exact lv_istore F.1.1 F.1.2.1 hd hl hL rfl (fun ls' h' => hK _ _ _ _ _ h1 γ p l e R s m args below meth c ad A Z F H locs ls' ha hz (jLoc.put (v := .int x) h'))
theorem sn_astore_n {k : Fin 4} {i : Nat} (hd : decode Y.2.1 pc = .ok (.astore_n k, 1)) (hi : (k : Nat) = i) (hn : nx = pc + 1) (hL : i < Y.2.2.1) : Sound Y sc pc (J_astore i nx) := by
  intro Q K L st mem kk hK h γ p l e R s m args below meth c ad A Z F H locs ls ha hz hl
  subst hn
  obtain ⟨x, st, rfl, h1⟩ := jpR_e h
  exact lv_astore_n F.1.1 F.1.2.1 hd hi hl hL rfl (fun ls' h' => hK _ _ _ _ _ h1 γ p l e R s m args below meth c ad A Z F H locs ls' ha hz (jLoc.put (v := .ref x) h'))
theorem sn_astore {i : Nat} (hd : decode Y.2.1 pc = .ok (.astore i, 2)) (hn : nx = pc + 2) (hL : i < Y.2.2.1) : Sound Y sc pc (J_astore i nx) := by
  intro Q K L st mem kk hK h γ p l e R s m args below meth c ad A Z F H locs ls ha hz hl
  subst hn
  obtain ⟨x, st, rfl, h1⟩ := jpR_e h
  exact lv_astore F.1.1 F.1.2.1 hd hl hL rfl (fun ls' h' => hK _ _ _ _ _ h1 γ p l e R s m args below meth c ad A Z F H locs ls' ha hz (jLoc.put (v := .ref x) h'))
theorem sn_iinc {i : Nat} {n : Int} {v : Int32} (hd : decode Y.2.1 pc = .ok (.iinc i n, 3)) (hv : Int32.ofInt n = v) (hn : nx = pc + 3) (hL : i < Y.2.2.1) : Sound Y sc pc (J_iinc i v nx) := by
  intro Q K L st mem kk hK h γ p l e R s m args below meth c ad A Z F H locs ls ha hz hl
  subst hn
  obtain ⟨x, g1, h1⟩ := jlI_e h
  obtain ⟨k, hk⟩ := List.getElem?_of_mem (jll_mem (ad := ad) (L := L) (i := 0) (q := (i, .int x))|>.mpr ⟨i, .int x, by simp, g1, rfl, rfl⟩)
  exact lv_iinc (k := k) F.1.1 F.1.2.1 hd hl hk (by rw [hv]) hL rfl (fun ls' h' => hK _ _ _ _ _ h1 γ p l e R s m args below meth c ad A Z F H locs ls' ha hz (jLoc.put (v := .int (x + v)) h'))
end SN
def J_iadd (nx : Nat) : jT := fun L st mem kk _ K => jpI st fun y st => jpI st fun x st => K nx L (.int (x + y) :: st) mem kk
def J_isub (nx : Nat) : jT := fun L st mem kk _ K => jpI st fun y st => jpI st fun x st => K nx L (.int (x - y) :: st) mem kk
def J_imul (nx : Nat) : jT := fun L st mem kk _ K => jpI st fun y st => jpI st fun x st => K nx L (.int (x * y) :: st) mem kk
def J_iand (nx : Nat) : jT := fun L st mem kk _ K => jpI st fun y st => jpI st fun x st => K nx L (.int (x &&& y) :: st) mem kk
def J_ior (nx : Nat) : jT := fun L st mem kk _ K => jpI st fun y st => jpI st fun x st => K nx L (.int (x ||| y) :: st) mem kk
def J_ixor (nx : Nat) : jT := fun L st mem kk _ K => jpI st fun y st => jpI st fun x st => K nx L (.int (x ^^^ y) :: st) mem kk
def J_ishl (nx : Nat) : jT := fun L st mem kk _ K => jpI st fun y st => jpI st fun x st => K nx L (.int (x <<< (y &&& 31)) :: st) mem kk
def J_ishr (nx : Nat) : jT := fun L st mem kk _ K => jpI st fun y st => jpI st fun x st => K nx L (.int (x >>> (y &&& 31)) :: st) mem kk
def J_iushr (nx : Nat) : jT := fun L st mem kk _ K => jpI st fun y st => jpI st fun x st => K nx L (.int ((x.toUInt32 >>> (y.toUInt32 &&& Int32.toUInt32 31)).toInt32) :: st) mem kk
def J_idiv (nx : Nat) : jT := fun L st mem kk _ K => jpI st fun y st => jpI st fun x st => ¬ y = 0 ∧ K nx L (.int (x / y) :: st) mem kk
def J_irem (nx : Nat) : jT := fun L st mem kk _ K => jpI st fun y st => jpI st fun x st => ¬ y = 0 ∧ K nx L (.int (x - x / y * y) :: st) mem kk
def J_ineg (nx : Nat) : jT := fun L st mem kk _ K => jpI st fun x st => K nx L (.int (-x) :: st) mem kk
def J_ladd (nx : Nat) : jT := fun L st mem kk _ K => jpJ st fun y st => jpJ st fun x st => K nx L (.long (x + y) :: st) mem kk
def J_lmul (nx : Nat) : jT := fun L st mem kk _ K => jpJ st fun y st => jpJ st fun x st => K nx L (.long (x * y) :: st) mem kk
def J_land (nx : Nat) : jT := fun L st mem kk _ K => jpJ st fun y st => jpJ st fun x st => K nx L (.long (x &&& y) :: st) mem kk
def J_lor (nx : Nat) : jT := fun L st mem kk _ K => jpJ st fun y st => jpJ st fun x st => K nx L (.long (x ||| y) :: st) mem kk
def J_lcmp (nx : Nat) : jT := fun L st mem kk _ K => jpJ st fun y st => jpJ st fun x st => K nx L (.int (lg_cmp x y) :: st) mem kk
def J_lushr (nx : Nat) : jT := fun L st mem kk _ K => jpI st fun y st => jpJ st fun x st => K nx L (.long ((x.toUInt64 >>> (y.toInt64.toUInt64 &&& Int64.toUInt64 63)).toInt64) :: st) mem kk
def J_lshl (nx : Nat) : jT := fun L st mem kk _ K => jpI st fun y st => jpJ st fun x st => K nx L (.long (x <<< (y.toInt64 &&& 63)) :: st) mem kk
def J_i2l (nx : Nat) : jT := fun L st mem kk _ K => jpI st fun x st => K nx L (.long x.toInt64 :: st) mem kk
def J_l2i (nx : Nat) : jT := fun L st mem kk _ K => jpJ st fun x st => K nx L (.int x.toInt32 :: st) mem kk
def J_dup (nx : Nat) : jT := fun L st mem kk _ K => jpV st fun v st => v.category = 1 ∧ K nx L (v :: v :: st) mem kk
def J_pop (nx : Nat) : jT := fun L st mem kk _ K => jpV st fun v st => v.category = 1 ∧ K nx L st mem kk
def J_dup2 (nx : Nat) : jT := fun L st mem kk _ K => jpV st fun v st => jpV st fun u st => (v.category = 1 ∧ u.category = 1) ∧ K nx L (v :: u :: v :: u :: st) mem kk
section SN
variable {Y : jY} {sc : jSc} {pc nx : Nat}

theorem sn_iadd (hd : decode Y.2.1 pc = .ok (.iadd, 1)) (hn : nx = pc + 1) : Sound Y sc pc (J_iadd nx) := by
  intro Q K L st mem kk hK h γ p l e R s m args below meth c ad A Z F H locs ls ha hz hl
  subst hn
  obtain ⟨y, st, rfl, h1⟩ := jpI_e h
  obtain ⟨x, st, rfl, h2⟩ := jpI_e h1
  exact lv_iadd F.1.1 F.1.2.1 hd (hK _ _ _ _ _ h2 γ p l e R s m args below meth c ad A Z F H locs ls ha hz hl)
theorem sn_isub (hd : decode Y.2.1 pc = .ok (.isub, 1)) (hn : nx = pc + 1) : Sound Y sc pc (J_isub nx) := by
  intro Q K L st mem kk hK h γ p l e R s m args below meth c ad A Z F H locs ls ha hz hl
  subst hn
  obtain ⟨y, st, rfl, h1⟩ := jpI_e h
  obtain ⟨x, st, rfl, h2⟩ := jpI_e h1
  exact lv_isub F.1.1 F.1.2.1 hd (hK _ _ _ _ _ h2 γ p l e R s m args below meth c ad A Z F H locs ls ha hz hl)
theorem sn_imul (hd : decode Y.2.1 pc = .ok (.imul, 1)) (hn : nx = pc + 1) : Sound Y sc pc (J_imul nx) := by
  intro Q K L st mem kk hK h γ p l e R s m args below meth c ad A Z F H locs ls ha hz hl
  subst hn
  obtain ⟨y, st, rfl, h1⟩ := jpI_e h
  obtain ⟨x, st, rfl, h2⟩ := jpI_e h1
  exact lv_imul F.1.1 F.1.2.1 hd (hK _ _ _ _ _ h2 γ p l e R s m args below meth c ad A Z F H locs ls ha hz hl)
theorem sn_iand (hd : decode Y.2.1 pc = .ok (.iand, 1)) (hn : nx = pc + 1) : Sound Y sc pc (J_iand nx) := by
  intro Q K L st mem kk hK h γ p l e R s m args below meth c ad A Z F H locs ls ha hz hl
  subst hn
  obtain ⟨y, st, rfl, h1⟩ := jpI_e h
  obtain ⟨x, st, rfl, h2⟩ := jpI_e h1
  exact lv_iand F.1.1 F.1.2.1 hd (hK _ _ _ _ _ h2 γ p l e R s m args below meth c ad A Z F H locs ls ha hz hl)
theorem sn_ior (hd : decode Y.2.1 pc = .ok (.ior, 1)) (hn : nx = pc + 1) : Sound Y sc pc (J_ior nx) := by
  intro Q K L st mem kk hK h γ p l e R s m args below meth c ad A Z F H locs ls ha hz hl
  subst hn
  obtain ⟨y, st, rfl, h1⟩ := jpI_e h
  obtain ⟨x, st, rfl, h2⟩ := jpI_e h1
  exact lv_ior F.1.1 F.1.2.1 hd (hK _ _ _ _ _ h2 γ p l e R s m args below meth c ad A Z F H locs ls ha hz hl)
theorem sn_ixor (hd : decode Y.2.1 pc = .ok (.ixor, 1)) (hn : nx = pc + 1) : Sound Y sc pc (J_ixor nx) := by
  intro Q K L st mem kk hK h γ p l e R s m args below meth c ad A Z F H locs ls ha hz hl
  subst hn
  obtain ⟨y, st, rfl, h1⟩ := jpI_e h
  obtain ⟨x, st, rfl, h2⟩ := jpI_e h1
  exact lv_ixor F.1.1 F.1.2.1 hd (hK _ _ _ _ _ h2 γ p l e R s m args below meth c ad A Z F H locs ls ha hz hl)
theorem sn_ishl (hd : decode Y.2.1 pc = .ok (.ishl, 1)) (hn : nx = pc + 1) : Sound Y sc pc (J_ishl nx) := by
  intro Q K L st mem kk hK h γ p l e R s m args below meth c ad A Z F H locs ls ha hz hl
  subst hn
  obtain ⟨y, st, rfl, h1⟩ := jpI_e h
  obtain ⟨x, st, rfl, h2⟩ := jpI_e h1
  exact lv_ishl F.1.1 F.1.2.1 hd (hK _ _ _ _ _ h2 γ p l e R s m args below meth c ad A Z F H locs ls ha hz hl)
theorem sn_ishr (hd : decode Y.2.1 pc = .ok (.ishr, 1)) (hn : nx = pc + 1) : Sound Y sc pc (J_ishr nx) := by
  intro Q K L st mem kk hK h γ p l e R s m args below meth c ad A Z F H locs ls ha hz hl
  subst hn
  obtain ⟨y, st, rfl, h1⟩ := jpI_e h
  obtain ⟨x, st, rfl, h2⟩ := jpI_e h1
  exact lv_ishr F.1.1 F.1.2.1 hd (hK _ _ _ _ _ h2 γ p l e R s m args below meth c ad A Z F H locs ls ha hz hl)
theorem sn_iushr (hd : decode Y.2.1 pc = .ok (.iushr, 1)) (hn : nx = pc + 1) : Sound Y sc pc (J_iushr nx) := by
  intro Q K L st mem kk hK h γ p l e R s m args below meth c ad A Z F H locs ls ha hz hl
  subst hn
  obtain ⟨y, st, rfl, h1⟩ := jpI_e h
  obtain ⟨x, st, rfl, h2⟩ := jpI_e h1
  exact lv_iushr F.1.1 F.1.2.1 hd rfl (hK _ _ _ _ _ h2 γ p l e R s m args below meth c ad A Z F H locs ls ha hz hl)
theorem sn_idiv (hd : decode Y.2.1 pc = .ok (.idiv, 1)) (hn : nx = pc + 1) : Sound Y sc pc (J_idiv nx) := by
  intro Q K L st mem kk hK h γ p l e R s m args below meth c ad A Z F H locs ls ha hz hl
  subst hn
  obtain ⟨y, st, rfl, h1⟩ := jpI_e h
  obtain ⟨x, st, rfl, h0, h2⟩ := jpI_e h1
  exact lv_idiv F.1.1 F.1.2.1 hd h0 (hK _ _ _ _ _ h2 γ p l e R s m args below meth c ad A Z F H locs ls ha hz hl)
theorem sn_irem (hd : decode Y.2.1 pc = .ok (.irem, 1)) (hn : nx = pc + 1) : Sound Y sc pc (J_irem nx) := by
  intro Q K L st mem kk hK h γ p l e R s m args below meth c ad A Z F H locs ls ha hz hl
  subst hn
  obtain ⟨y, st, rfl, h1⟩ := jpI_e h
  obtain ⟨x, st, rfl, h0, h2⟩ := jpI_e h1
  exact lv_irem F.1.1 F.1.2.1 hd h0 (hK _ _ _ _ _ h2 γ p l e R s m args below meth c ad A Z F H locs ls ha hz hl)
theorem sn_ineg (hd : decode Y.2.1 pc = .ok (.ineg, 1)) (hn : nx = pc + 1) : Sound Y sc pc (J_ineg nx) := by
  intro Q K L st mem kk hK h γ p l e R s m args below meth c ad A Z F H locs ls ha hz hl
  subst hn
  obtain ⟨x, st, rfl, h1⟩ := jpI_e h
  exact lv_ineg F.1.1 F.1.2.1 hd (hK _ _ _ _ _ h1 γ p l e R s m args below meth c ad A Z F H locs ls ha hz hl)
theorem sn_ladd (hd : decode Y.2.1 pc = .ok (.ladd, 1)) (hn : nx = pc + 1) : Sound Y sc pc (J_ladd nx) := by
  intro Q K L st mem kk hK h γ p l e R s m args below meth c ad A Z F H locs ls ha hz hl
  subst hn
  obtain ⟨y, st, rfl, h1⟩ := jpJ_e h
  obtain ⟨x, st, rfl, h2⟩ := jpJ_e h1
  exact lv_ladd F.1.1 F.1.2.1 hd (hK _ _ _ _ _ h2 γ p l e R s m args below meth c ad A Z F H locs ls ha hz hl)
theorem sn_lmul (hd : decode Y.2.1 pc = .ok (.lmul, 1)) (hn : nx = pc + 1) : Sound Y sc pc (J_lmul nx) := by
  intro Q K L st mem kk hK h γ p l e R s m args below meth c ad A Z F H locs ls ha hz hl
  subst hn
  obtain ⟨y, st, rfl, h1⟩ := jpJ_e h
  obtain ⟨x, st, rfl, h2⟩ := jpJ_e h1
  exact lv_lmul F.1.1 F.1.2.1 hd (hK _ _ _ _ _ h2 γ p l e R s m args below meth c ad A Z F H locs ls ha hz hl)
theorem sn_land (hd : decode Y.2.1 pc = .ok (.land, 1)) (hn : nx = pc + 1) : Sound Y sc pc (J_land nx) := by
  intro Q K L st mem kk hK h γ p l e R s m args below meth c ad A Z F H locs ls ha hz hl
  subst hn
  obtain ⟨y, st, rfl, h1⟩ := jpJ_e h
  obtain ⟨x, st, rfl, h2⟩ := jpJ_e h1
  exact lv_land F.1.1 F.1.2.1 hd (hK _ _ _ _ _ h2 γ p l e R s m args below meth c ad A Z F H locs ls ha hz hl)
theorem sn_lor (hd : decode Y.2.1 pc = .ok (.lor, 1)) (hn : nx = pc + 1) : Sound Y sc pc (J_lor nx) := by
  intro Q K L st mem kk hK h γ p l e R s m args below meth c ad A Z F H locs ls ha hz hl
  subst hn
  obtain ⟨y, st, rfl, h1⟩ := jpJ_e h
  obtain ⟨x, st, rfl, h2⟩ := jpJ_e h1
  exact lv_lor F.1.1 F.1.2.1 hd (hK _ _ _ _ _ h2 γ p l e R s m args below meth c ad A Z F H locs ls ha hz hl)
theorem sn_lcmp (hd : decode Y.2.1 pc = .ok (.lcmp, 1)) (hn : nx = pc + 1) : Sound Y sc pc (J_lcmp nx) := by
  intro Q K L st mem kk hK h γ p l e R s m args below meth c ad A Z F H locs ls ha hz hl
  subst hn
  obtain ⟨y, st, rfl, h1⟩ := jpJ_e h
  obtain ⟨x, st, rfl, h2⟩ := jpJ_e h1
  exact W.lcmp F.1.1 F.1.2.1 hd (hK _ _ _ _ _ h2 γ p l e R s m args below meth c ad A Z F H locs ls ha hz hl)
theorem sn_lushr (hd : decode Y.2.1 pc = .ok (.lushr, 1)) (hn : nx = pc + 1) : Sound Y sc pc (J_lushr nx) := by
  intro Q K L st mem kk hK h γ p l e R s m args below meth c ad A Z F H locs ls ha hz hl
  subst hn
  obtain ⟨y, st, rfl, h1⟩ := jpI_e h
  obtain ⟨x, st, rfl, h2⟩ := jpJ_e h1
  exact lv_lushr F.1.1 F.1.2.1 hd rfl (hK _ _ _ _ _ h2 γ p l e R s m args below meth c ad A Z F H locs ls ha hz hl)
theorem sn_lshl (hd : decode Y.2.1 pc = .ok (.lshl, 1)) (hn : nx = pc + 1) : Sound Y sc pc (J_lshl nx) := by
  intro Q K L st mem kk hK h γ p l e R s m args below meth c ad A Z F H locs ls ha hz hl
  subst hn
  obtain ⟨y, st, rfl, h1⟩ := jpI_e h
  obtain ⟨x, st, rfl, h2⟩ := jpJ_e h1
  exact lv_lshl F.1.1 F.1.2.1 hd rfl (hK _ _ _ _ _ h2 γ p l e R s m args below meth c ad A Z F H locs ls ha hz hl)
theorem sn_i2l (hd : decode Y.2.1 pc = .ok (.i2l, 1)) (hn : nx = pc + 1) : Sound Y sc pc (J_i2l nx) := by
  intro Q K L st mem kk hK h γ p l e R s m args below meth c ad A Z F H locs ls ha hz hl
  subst hn
  obtain ⟨x, st, rfl, h1⟩ := jpI_e h
  exact lv_i2l F.1.1 F.1.2.1 hd rfl (hK _ _ _ _ _ h1 γ p l e R s m args below meth c ad A Z F H locs ls ha hz hl)
theorem sn_l2i (hd : decode Y.2.1 pc = .ok (.l2i, 1)) (hn : nx = pc + 1) : Sound Y sc pc (J_l2i nx) := by
  intro Q K L st mem kk hK h γ p l e R s m args below meth c ad A Z F H locs ls ha hz hl
  subst hn
  obtain ⟨x, st, rfl, h1⟩ := jpJ_e h
  exact lv_l2i F.1.1 F.1.2.1 hd rfl (hK _ _ _ _ _ h1 γ p l e R s m args below meth c ad A Z F H locs ls ha hz hl)
theorem sn_dup (hd : decode Y.2.1 pc = .ok (.dup, 1)) (hn : nx = pc + 1) : Sound Y sc pc (J_dup nx) := by
  intro Q K L st mem kk hK h γ p l e R s m args below meth c ad A Z F H locs ls ha hz hl
  subst hn
  obtain ⟨x, st, rfl, h0, h1⟩ := jpV_e h
  exact lv_dup F.1.1 F.1.2.1 hd (by rw [jv_cat]; exact h0) (hK _ _ _ _ _ h1 γ p l e R s m args below meth c ad A Z F H locs ls ha hz hl)
theorem sn_pop (hd : decode Y.2.1 pc = .ok (.pop, 1)) (hn : nx = pc + 1) : Sound Y sc pc (J_pop nx) := by
  intro Q K L st mem kk hK h γ p l e R s m args below meth c ad A Z F H locs ls ha hz hl
  subst hn
  obtain ⟨x, st, rfl, h0, h1⟩ := jpV_e h
  exact lv_pop F.1.1 F.1.2.1 hd (by rw [jv_cat]; exact h0) (hK _ _ _ _ _ h1 γ p l e R s m args below meth c ad A Z F H locs ls ha hz hl)
theorem sn_dup2 (hd : decode Y.2.1 pc = .ok (.dup2, 1)) (hn : nx = pc + 1) : Sound Y sc pc (J_dup2 nx) := by
  intro Q K L st mem kk hK h γ p l e R s m args below meth c ad A Z F H locs ls ha hz hl
  subst hn
  obtain ⟨x, st, rfl, h1⟩ := jpV_e h
  obtain ⟨y, st, rfl, h0, h2⟩ := jpV_e h1
  exact lv_dup2_11 F.1.1 F.1.2.1 hd (by rw [jv_cat]; exact h0.1) (by rw [jv_cat]; exact h0.2) (hK _ _ _ _ _ h2 γ p l e R s m args below meth c ad A Z F H locs ls ha hz hl)
end SN
def J_ifeq (t nx : Nat) : jT := fun L st mem kk _ K => jpI st fun x st => (x = 0 → K t L st mem kk) ∧ (¬ x = 0 → K nx L st mem kk)
def J_iceq (t nx : Nat) : jT := fun L st mem kk _ K => jpI st fun y st => jpI st fun x st => (x = y → K t L st mem kk) ∧ (¬ x = y → K nx L st mem kk)
def J_ifne (t nx : Nat) : jT := fun L st mem kk _ K => jpI st fun x st => (¬ x = 0 → K t L st mem kk) ∧ (x = 0 → K nx L st mem kk)
def J_icne (t nx : Nat) : jT := fun L st mem kk _ K => jpI st fun y st => jpI st fun x st => (¬ x = y → K t L st mem kk) ∧ (x = y → K nx L st mem kk)
def J_iflt (t nx : Nat) : jT := fun L st mem kk _ K => jpI st fun x st => (x < 0 → K t L st mem kk) ∧ (¬ x < 0 → K nx L st mem kk)
def J_iclt (t nx : Nat) : jT := fun L st mem kk _ K => jpI st fun y st => jpI st fun x st => (x < y → K t L st mem kk) ∧ (¬ x < y → K nx L st mem kk)
def J_ifge (t nx : Nat) : jT := fun L st mem kk _ K => jpI st fun x st => (0 ≤ x → K t L st mem kk) ∧ (¬ 0 ≤ x → K nx L st mem kk)
def J_icge (t nx : Nat) : jT := fun L st mem kk _ K => jpI st fun y st => jpI st fun x st => (y ≤ x → K t L st mem kk) ∧ (¬ y ≤ x → K nx L st mem kk)
def J_ifgt (t nx : Nat) : jT := fun L st mem kk _ K => jpI st fun x st => (0 < x → K t L st mem kk) ∧ (¬ 0 < x → K nx L st mem kk)
def J_icgt (t nx : Nat) : jT := fun L st mem kk _ K => jpI st fun y st => jpI st fun x st => (y < x → K t L st mem kk) ∧ (¬ y < x → K nx L st mem kk)
def J_ifle (t nx : Nat) : jT := fun L st mem kk _ K => jpI st fun x st => (x ≤ 0 → K t L st mem kk) ∧ (¬ x ≤ 0 → K nx L st mem kk)
def J_icle (t nx : Nat) : jT := fun L st mem kk _ K => jpI st fun y st => jpI st fun x st => (x ≤ y → K t L st mem kk) ∧ (¬ x ≤ y → K nx L st mem kk)
def J_goto (t : Nat) : jT := fun L st mem kk _ K => K t L st mem kk
section SN
variable {Y : jY} {sc : jSc} {pc nx t : Nat}

theorem sn_ifeq {o : Int} (hd : decode Y.2.1 pc = .ok (.ifCond .eq o, 3)) (ht : (pc : Int) + o = (t : Int)) (hn : nx = pc + 3) : Sound Y sc pc (J_ifeq t nx) := by
  intro Q K L st mem kk hK h γ p l e R s m args below meth c ad A Z F H locs ls ha hz hl
  subst hn
  obtain ⟨x, st, rfl, h1⟩ := jpI_e h
  exact lv_if_eq F.1.1 F.1.2.1 hd ht (fun q => (hK _ _ _ _ _ (h1.1 q) γ p l e R s m args below meth c ad A Z F H locs ls ha hz hl)) (fun q => (hK _ _ _ _ _ (h1.2 q) γ p l e R s m args below meth c ad A Z F H locs ls ha hz hl))
theorem sn_iceq {o : Int} (hd : decode Y.2.1 pc = .ok (.if_icmp .eq o, 3)) (ht : (pc : Int) + o = (t : Int)) (hn : nx = pc + 3) : Sound Y sc pc (J_iceq t nx) := by
  intro Q K L st mem kk hK h γ p l e R s m args below meth c ad A Z F H locs ls ha hz hl
  subst hn
  obtain ⟨y, st, rfl, h1⟩ := jpI_e h
  obtain ⟨x, st, rfl, h2⟩ := jpI_e h1
  exact lv_icmp_eq F.1.1 F.1.2.1 hd ht (fun q => (hK _ _ _ _ _ (h2.1 q) γ p l e R s m args below meth c ad A Z F H locs ls ha hz hl)) (fun q => (hK _ _ _ _ _ (h2.2 q) γ p l e R s m args below meth c ad A Z F H locs ls ha hz hl))
theorem sn_ifne {o : Int} (hd : decode Y.2.1 pc = .ok (.ifCond .ne o, 3)) (ht : (pc : Int) + o = (t : Int)) (hn : nx = pc + 3) : Sound Y sc pc (J_ifne t nx) := by
  intro Q K L st mem kk hK h γ p l e R s m args below meth c ad A Z F H locs ls ha hz hl
  subst hn
  obtain ⟨x, st, rfl, h1⟩ := jpI_e h
  exact lv_if_ne F.1.1 F.1.2.1 hd ht (fun q => (hK _ _ _ _ _ (h1.1 q) γ p l e R s m args below meth c ad A Z F H locs ls ha hz hl)) (fun q => (hK _ _ _ _ _ (h1.2 q) γ p l e R s m args below meth c ad A Z F H locs ls ha hz hl))
theorem sn_icne {o : Int} (hd : decode Y.2.1 pc = .ok (.if_icmp .ne o, 3)) (ht : (pc : Int) + o = (t : Int)) (hn : nx = pc + 3) : Sound Y sc pc (J_icne t nx) := by
  intro Q K L st mem kk hK h γ p l e R s m args below meth c ad A Z F H locs ls ha hz hl
  subst hn
  obtain ⟨y, st, rfl, h1⟩ := jpI_e h
  obtain ⟨x, st, rfl, h2⟩ := jpI_e h1
  exact lv_icmp_ne F.1.1 F.1.2.1 hd ht (fun q => (hK _ _ _ _ _ (h2.1 q) γ p l e R s m args below meth c ad A Z F H locs ls ha hz hl)) (fun q => (hK _ _ _ _ _ (h2.2 q) γ p l e R s m args below meth c ad A Z F H locs ls ha hz hl))
theorem sn_iflt {o : Int} (hd : decode Y.2.1 pc = .ok (.ifCond .lt o, 3)) (ht : (pc : Int) + o = (t : Int)) (hn : nx = pc + 3) : Sound Y sc pc (J_iflt t nx) := by
  intro Q K L st mem kk hK h γ p l e R s m args below meth c ad A Z F H locs ls ha hz hl
  subst hn
  obtain ⟨x, st, rfl, h1⟩ := jpI_e h
  exact lv_if_lt F.1.1 F.1.2.1 hd ht (fun q => (hK _ _ _ _ _ (h1.1 q) γ p l e R s m args below meth c ad A Z F H locs ls ha hz hl)) (fun q => (hK _ _ _ _ _ (h1.2 q) γ p l e R s m args below meth c ad A Z F H locs ls ha hz hl))
theorem sn_iclt {o : Int} (hd : decode Y.2.1 pc = .ok (.if_icmp .lt o, 3)) (ht : (pc : Int) + o = (t : Int)) (hn : nx = pc + 3) : Sound Y sc pc (J_iclt t nx) := by
  intro Q K L st mem kk hK h γ p l e R s m args below meth c ad A Z F H locs ls ha hz hl
  subst hn
  obtain ⟨y, st, rfl, h1⟩ := jpI_e h
  obtain ⟨x, st, rfl, h2⟩ := jpI_e h1
  exact lv_icmp_lt F.1.1 F.1.2.1 hd ht (fun q => (hK _ _ _ _ _ (h2.1 q) γ p l e R s m args below meth c ad A Z F H locs ls ha hz hl)) (fun q => (hK _ _ _ _ _ (h2.2 q) γ p l e R s m args below meth c ad A Z F H locs ls ha hz hl))
theorem sn_ifge {o : Int} (hd : decode Y.2.1 pc = .ok (.ifCond .ge o, 3)) (ht : (pc : Int) + o = (t : Int)) (hn : nx = pc + 3) : Sound Y sc pc (J_ifge t nx) := by
  intro Q K L st mem kk hK h γ p l e R s m args below meth c ad A Z F H locs ls ha hz hl
  subst hn
  obtain ⟨x, st, rfl, h1⟩ := jpI_e h
  exact lv_if_ge F.1.1 F.1.2.1 hd ht (fun q => (hK _ _ _ _ _ (h1.1 q) γ p l e R s m args below meth c ad A Z F H locs ls ha hz hl)) (fun q => (hK _ _ _ _ _ (h1.2 q) γ p l e R s m args below meth c ad A Z F H locs ls ha hz hl))
theorem sn_icge {o : Int} (hd : decode Y.2.1 pc = .ok (.if_icmp .ge o, 3)) (ht : (pc : Int) + o = (t : Int)) (hn : nx = pc + 3) : Sound Y sc pc (J_icge t nx) := by
  intro Q K L st mem kk hK h γ p l e R s m args below meth c ad A Z F H locs ls ha hz hl
  subst hn
  obtain ⟨y, st, rfl, h1⟩ := jpI_e h
  obtain ⟨x, st, rfl, h2⟩ := jpI_e h1
  exact lv_icmp_ge F.1.1 F.1.2.1 hd ht (fun q => (hK _ _ _ _ _ (h2.1 q) γ p l e R s m args below meth c ad A Z F H locs ls ha hz hl)) (fun q => (hK _ _ _ _ _ (h2.2 q) γ p l e R s m args below meth c ad A Z F H locs ls ha hz hl))
theorem sn_ifgt {o : Int} (hd : decode Y.2.1 pc = .ok (.ifCond .gt o, 3)) (ht : (pc : Int) + o = (t : Int)) (hn : nx = pc + 3) : Sound Y sc pc (J_ifgt t nx) := by
  intro Q K L st mem kk hK h γ p l e R s m args below meth c ad A Z F H locs ls ha hz hl
  subst hn
  obtain ⟨x, st, rfl, h1⟩ := jpI_e h
  exact lv_if_gt F.1.1 F.1.2.1 hd ht (fun q => (hK _ _ _ _ _ (h1.1 q) γ p l e R s m args below meth c ad A Z F H locs ls ha hz hl)) (fun q => (hK _ _ _ _ _ (h1.2 q) γ p l e R s m args below meth c ad A Z F H locs ls ha hz hl))
theorem sn_icgt {o : Int} (hd : decode Y.2.1 pc = .ok (.if_icmp .gt o, 3)) (ht : (pc : Int) + o = (t : Int)) (hn : nx = pc + 3) : Sound Y sc pc (J_icgt t nx) := by
  intro Q K L st mem kk hK h γ p l e R s m args below meth c ad A Z F H locs ls ha hz hl
  subst hn
  obtain ⟨y, st, rfl, h1⟩ := jpI_e h
  obtain ⟨x, st, rfl, h2⟩ := jpI_e h1
  exact lv_icmp_gt F.1.1 F.1.2.1 hd ht (fun q => (hK _ _ _ _ _ (h2.1 q) γ p l e R s m args below meth c ad A Z F H locs ls ha hz hl)) (fun q => (hK _ _ _ _ _ (h2.2 q) γ p l e R s m args below meth c ad A Z F H locs ls ha hz hl))
theorem sn_ifle {o : Int} (hd : decode Y.2.1 pc = .ok (.ifCond .le o, 3)) (ht : (pc : Int) + o = (t : Int)) (hn : nx = pc + 3) : Sound Y sc pc (J_ifle t nx) := by
  intro Q K L st mem kk hK h γ p l e R s m args below meth c ad A Z F H locs ls ha hz hl
  subst hn
  obtain ⟨x, st, rfl, h1⟩ := jpI_e h
  exact lv_if_le F.1.1 F.1.2.1 hd ht (fun q => (hK _ _ _ _ _ (h1.1 q) γ p l e R s m args below meth c ad A Z F H locs ls ha hz hl)) (fun q => (hK _ _ _ _ _ (h1.2 q) γ p l e R s m args below meth c ad A Z F H locs ls ha hz hl))
theorem sn_icle {o : Int} (hd : decode Y.2.1 pc = .ok (.if_icmp .le o, 3)) (ht : (pc : Int) + o = (t : Int)) (hn : nx = pc + 3) : Sound Y sc pc (J_icle t nx) := by
  intro Q K L st mem kk hK h γ p l e R s m args below meth c ad A Z F H locs ls ha hz hl
  subst hn
  obtain ⟨y, st, rfl, h1⟩ := jpI_e h
  obtain ⟨x, st, rfl, h2⟩ := jpI_e h1
  exact lv_icmp_le F.1.1 F.1.2.1 hd ht (fun q => (hK _ _ _ _ _ (h2.1 q) γ p l e R s m args below meth c ad A Z F H locs ls ha hz hl)) (fun q => (hK _ _ _ _ _ (h2.2 q) γ p l e R s m args below meth c ad A Z F H locs ls ha hz hl))
theorem sn_goto {o : Int} (hd : decode Y.2.1 pc = .ok (.goto o, 3)) (ht : (pc : Int) + o = (t : Int)) : Sound Y sc pc (J_goto t) := by
  intro Q K L st mem kk hK h γ p l e R s m args below meth c ad A Z F H locs ls ha hz hl
  exact lv_goto F.1.1 F.1.2.1 hd ht (hK _ _ _ _ _ h γ p l e R s m args below meth c ad A Z F H locs ls ha hz hl)
end SN
def jsw (x : Int32) (cs : List (Int32 × Nat)) (G : Nat → Prop) (d : Nat) : Prop := match cs with
  | [] => G d
  | (c, t) :: r => (x = c → G t) ∧ (¬ x = c → jsw x r G d)
def J_tsw (cs : List (Int32 × Nat)) (d : Nat) : jT := fun L st mem kk _ K => jpI st fun x st => jsw x cs (fun t => K t L st mem kk) d
theorem jsw_in {x : Int32} {G : Nat → Prop} {d : Nat} : ∀ {cs : List (Int32 × Nat)} {i : Nat} {c : Int32} {t : Nat}, jsw x cs G d → cs[i]? = some (c, t) → x = c → (∀ (j : Nat) (q : Int32 × Nat), j < i → cs[j]? = some q → ¬ x = q.1) → G t
  | [], i, c, t, _, h, _, _ => by simp at h
  | (c0, t0) :: r, 0, c, t, h, h1, h2, _ => by
    simp at h1
    obtain ⟨rfl, rfl⟩ := h1
    exact h.1 h2
  | (c0, t0) :: r, i + 1, c, t, h, h1, h2, h3 => by
    refine jsw_in (h.2 (h3 0 (c0, t0) (Nat.succ_pos _) rfl)) (i := i) (c := c) (by simpa using h1) h2 fun j q hj hq => h3 (j + 1) q (by omega) (by simpa using hq)
theorem jsw_out {x : Int32} {G : Nat → Prop} {d : Nat} : ∀ {cs : List (Int32 × Nat)}, jsw x cs G d → (∀ (j : Nat) (q : Int32 × Nat), cs[j]? = some q → ¬ x = q.1) → G d
  | [], h, _ => h
  | (c0, t0) :: r, h, h3 => jsw_out (h.2 (h3 0 (c0, t0) rfl)) fun j q hq => h3 (j + 1) q (by simpa using hq)
def jswOk (pc : Nat) (lo hi dflt : Int) (offs : Array Int) (cs : List (Int32 × Nat)) (d : Nat) : Bool :=
  decide (lo + (cs.length : Int) = hi + 1) && decide ((pc : Int) + dflt = (d : Int)) && (List.range cs.length).all fun i => match cs[i]?, offs[i]? with
    | some q, some o => decide (q.1.toInt = lo + (i : Int)) && decide ((pc : Int) + o = (q.2 : Int))
    | _, _ => false
theorem sn_tsw {Y : jY} {sc : jSc} {pc d len : Nat} {lo hi dflt : Int} {offs : Array Int} {cs : List (Int32 × Nat)} (hd : decode Y.2.1 pc = .ok (.tableswitch dflt lo hi offs, len)) (hok : jswOk pc lo hi dflt offs cs d = true) : Sound Y sc pc (J_tsw cs d) := by
  intro Q K L st mem kk hK h γ p l e R s m args below meth c ad A Z F H locs ls ha hz hl
  obtain ⟨x, st, rfl, h1⟩ := jpI_e h
  simp only [jswOk, Bool.and_eq_true, decide_eq_true_eq, List.all_eq_true, List.mem_range] at hok
  obtain ⟨⟨hlen, hdf⟩, hall⟩ := hok
  have row : ∀ (j : Nat) (q : Int32 × Nat), cs[j]? = some q → q.1.toInt = lo + (j : Int) ∧ ∃ o, offs[j]? = some o ∧ (pc : Int) + o = (q.2 : Int) := by
    intro j q hq
    have hj : j < cs.length := (List.getElem?_eq_some_iff.mp hq).1
    have h1 := hall j hj
    rw [hq] at h1
    cases ho : offs[j]? with
    | none => rw [ho] at h1; simp at h1
    | some o => rw [ho] at h1; simp at h1; exact ⟨h1.1, o, rfl, h1.2⟩
  by_cases hout : x.toInt < lo ∨ hi < x.toInt
  · refine lv_tableOut F.1.1 F.1.2.1 hd hout hdf (hK _ _ _ _ _ (jsw_out h1 fun j q hq hx => ?_) γ p l e R s m args below meth c ad A Z F H locs ls ha hz hl)
    have h1 := (row j q hq).1
    have hj : j < cs.length := (List.getElem?_eq_some_iff.mp hq).1
    rw [← hx] at h1
    omega
  · have g1 : ¬ x.toInt < lo := fun q => hout (Or.inl q)
    have g2 : ¬ hi < x.toInt := fun q => hout (Or.inr q)
    have hi1 : (x.toInt - lo).toNat < cs.length := by omega
    obtain ⟨ee, o, ho, ht⟩ := row _ _ (List.getElem?_eq_getElem hi1)
    refine lv_tableIn F.1.1 F.1.2.1 hd g1 g2 ho ht (hK _ _ _ _ _ (jsw_in h1 (i := (x.toInt - lo).toNat) (c := (cs[(x.toInt - lo).toNat]'hi1).1) (List.getElem?_eq_getElem hi1) (Int32.toInt_inj.mp (by omega)) fun j q hj hq hx => ?_) γ p l e R s m args below meth c ad A Z F H locs ls ha hz hl)
    have h3 := (row j q hq).1
    rw [← hx] at h3
    omega

def J_ireturn (mc ms : Nat) : jT := fun _ st mem kk Q _ => jpI st fun x st => (st = [] ∧ kk.2 = (mc, ms)) ∧ Q (some (.int x)) mem
def J_zreturn (mc ms : Nat) : jT := fun _ st mem kk Q _ => jpI st fun x st => (st = [] ∧ kk.2 = (mc, ms)) ∧ (x = 0 ∨ x = 1) ∧ Q (some (.int x)) mem
def J_lreturn (mc ms : Nat) : jT := fun _ st mem kk Q _ => jpJ st fun x st => (st = [] ∧ kk.2 = (mc, ms)) ∧ Q (some (.long x)) mem
def J_return (mc ms : Nat) : jT := fun _ st mem kk Q _ => (st = [] ∧ kk.2 = (mc, ms)) ∧ Q none mem
section SN
variable {Y : jY} {sc : jSc} {pc mc ms : Nat}
theorem jend {Q : jQ} {γ : jG} {p : Program} {l : Launch} {e : Env} {R : Room} {s : State} {m : MethodId} {args : Array Value} {below : List Frame} {meth : Method} {c : Code} {ad : Nat → Nat} {A : Nat → Prop} {Z : State → Prop} (F : jFix Y sc Q γ p l e R s m args below meth c ad A Z) (hy : Y.2.2.2.2.2 = (mc, ms)) {kk : jK} {mem : jM} {H : Heap} {locs : List Loc} {ls : Array Slot} (ha : jAt γ ad A s mem H locs) (hz : H.size = s.heap.size + kk.2.1) (hk : kk.2 = (mc, ms)) {v : Option Value} (hQ : Q v mem) (hr : jRI Y pc v) :
    W p l e R s m args below meth c H locs kk.2.1 kk.2.2 Z (F0 m pc ls v.toList) := by
  have h := F.2.2.2.2 v mem pc H locs ls hQ ha (by rw [hy, hz, hk]) hr
  rw [hy] at h
  rw [hk]
  exact h
theorem sn_ireturn (hd : decode Y.2.1 pc = .ok (.ireturn, 1)) (hr : Y.2.2.2.1 = some .int) (hy : Y.2.2.2.2.2 = (mc, ms)) : Sound Y sc pc (J_ireturn mc ms) := by
  intro Q K L st mem kk hK h γ p l e R s m args below meth c ad A Z F H locs ls ha hz hl
  obtain ⟨x, st, rfl, ⟨rfl, hk⟩, h1⟩ := jpI_e h
  exact jend F hy ha hz.1 hk h1 ⟨hd, .int, hr, rfl⟩
theorem sn_zreturn (hd : decode Y.2.1 pc = .ok (.ireturn, 1)) (hr : Y.2.2.2.1 = some .boolean) (hy : Y.2.2.2.2.2 = (mc, ms)) : Sound Y sc pc (J_zreturn mc ms) := by
  intro Q K L st mem kk hK h γ p l e R s m args below meth c ad A Z F H locs ls ha hz hl
  obtain ⟨x, st, rfl, ⟨rfl, hk⟩, hx, h1⟩ := jpI_e h
  exact jend F hy ha hz.1 hk h1 ⟨hd, .boolean, hr, by rcases hx with rfl | rfl <;> rfl⟩
theorem sn_lreturn (hd : decode Y.2.1 pc = .ok (.lreturn, 1)) (hr : Y.2.2.2.1 = some .long) (hy : Y.2.2.2.2.2 = (mc, ms)) : Sound Y sc pc (J_lreturn mc ms) := by
  intro Q K L st mem kk hK h γ p l e R s m args below meth c ad A Z F H locs ls ha hz hl
  obtain ⟨x, st, rfl, ⟨rfl, hk⟩, h1⟩ := jpJ_e h
  exact jend F hy ha hz.1 hk h1 ⟨hd, hr⟩
theorem sn_return (hd : decode Y.2.1 pc = .ok (.return_, 1)) (hr : Y.2.2.2.1 = none) (hy : Y.2.2.2.2.2 = (mc, ms)) : Sound Y sc pc (J_return mc ms) := by
  intro Q K L st mem kk hK h γ p l e R s m args below meth c ad A Z F H locs ls ha hz hl
  obtain ⟨⟨rfl, hk⟩, h⟩ := h
  exact jend F hy ha hz.1 hk h ⟨hd, hr⟩
end SN
/-! ===== memory ===== -/
def jfld (mem : jM) (a ci k : Nat) (P : Value → Prop) : Prop := match mem a with
  | some (.inr (.inr (c, f))) => bif Nat.beq c ci then P (f k) else False
  | _ => False
def jput (mem : jM) (a ci k : Nat) (v : Value) (P : jM → Prop) : Prop := match mem a with
  | some (.inr (.inr (c, f))) => bif Nat.beq c ci then P (jup mem a (.inr (.inr (ci, va_up f k v)))) else False
  | _ => False
def jald (mem : jM) (a : Nat) (b : Bool) (i : Int32) (P : Int32 → Prop) : Prop := match mem a with
  | some (.inl (b', n, f)) => bif b == b' then vp_in i n ∧ P (f i.toNatClampNeg) else False
  | _ => False
def jast (mem : jM) (a : Nat) (b : Bool) (i x : Int32) (P : jM → Prop) : Prop := match mem a with
  | some (.inl (b', n, f)) => bif b == b' then vp_in i n ∧ P (jup mem a (.inl (b, n, upd f i.toNatClampNeg x))) else False
  | _ => False
def jaldq (mem : jM) (a : Nat) (i : Int32) (P : Option Nat → Prop) : Prop := match mem a with
  | some (.inr (.inl (n, f))) => vp_in i n ∧ P (f i.toNatClampNeg)
  | _ => False
theorem jfld_e {mem : jM} {a ci k : Nat} {P : Value → Prop} (h : jfld mem a ci k P) : ∃ f, mem a = some (.inr (.inr (ci, f))) ∧ P (f k) := by
  unfold jfld at h; split at h
  · rename_i c f hm
    cases hc : Nat.beq c ci with
    | true =>
      rw [hc] at h
      have := Nat.eq_of_beq_eq_true hc
      subst this
      exact ⟨f, hm, h⟩
    | false => rw [hc] at h; exact False.elim h
  · exact h.elim
theorem jput_e {mem : jM} {a ci k : Nat} {v : Value} {P : jM → Prop} (h : jput mem a ci k v P) : ∃ f, mem a = some (.inr (.inr (ci, f))) ∧ P (jup mem a (.inr (.inr (ci, va_up f k v)))) := by
  unfold jput at h; split at h
  · rename_i c f hm
    cases hc : Nat.beq c ci with
    | true =>
      rw [hc] at h
      have := Nat.eq_of_beq_eq_true hc
      subst this
      exact ⟨f, hm, h⟩
    | false => rw [hc] at h; exact False.elim h
  · exact h.elim
theorem jald_e {mem : jM} {a : Nat} {b : Bool} {i : Int32} {P : Int32 → Prop} (h : jald mem a b i P) : ∃ n f, mem a = some (.inl (b, n, f)) ∧ vp_in i n ∧ P (f i.toNatClampNeg) := by
  unfold jald at h; split at h
  · rename_i b' n f hm
    cases hb : (b == b') with
    | true =>
      rw [hb] at h
      have : b = b' := by simpa using hb
      subst this
      exact ⟨n, f, hm, h⟩
    | false => rw [hb] at h; exact False.elim h
  · exact h.elim
theorem jast_e {mem : jM} {a : Nat} {b : Bool} {i x : Int32} {P : jM → Prop} (h : jast mem a b i x P) : ∃ n f, mem a = some (.inl (b, n, f)) ∧ vp_in i n ∧ P (jup mem a (.inl (b, n, upd f i.toNatClampNeg x))) := by
  unfold jast at h; split at h
  · rename_i b' n f hm
    cases hb : (b == b') with
    | true =>
      rw [hb] at h
      have : b = b' := by simpa using hb
      subst this
      exact ⟨n, f, hm, h⟩
    | false => rw [hb] at h; exact False.elim h
  · exact h.elim
theorem jaldq_e {mem : jM} {a : Nat} {i : Int32} {P : Option Nat → Prop} (h : jaldq mem a i P) : ∃ n f, mem a = some (.inr (.inl (n, f))) ∧ vp_in i n ∧ P (f i.toNatClampNeg) := by
  unfold jaldq at h; split at h
  · rename_i n f hm
    exact ⟨n, f, hm, h⟩
  · exact h.elim
theorem jAt.set {γ : jG} {ad : Nat → Nat} {A : Nat → Prop} {s : State} {mem : jM} {H H1 : Heap} {locs : List Loc} {k j : Nat} {e0 e : jE} (h : jAt γ ad A s mem H locs) (h0 : mem k = some e0) (he : jat γ ad k e H1) (z : H1.size = H.size) (oq : ∀ q : Nat, q ≠ ad k → H1[q]? = H[q]?) : jAt γ ad A s (jup mem k e) H1 (locs ++ [⟨ad k, j⟩]) :=
  ⟨h.1.set h0 he oq, fun i hi => h.2.1 i (jup_ne h0 hi), h.2.2.put z oq (h.2.1 k (by rw [h0]; exact fun z => by cases z))⟩
theorem vw_get {ci : Nat} {r : vw_C} (h : vwCl[ci]? = some r) {γ : jG} {U : State} (hK : KK γ U) : u_Kn U r.1 r.2.1 r.2.2 (γ.1.1 ci) (γ.1.2 ci) := hK.1.1 ci r h
def J_getfield (ci k nx : Nat) : jT := fun L st mem kk _ K => jpR st fun a st => jfld mem a ci k fun v => K nx L (v :: st) mem kk
def J_putI (ci k nx : Nat) : jT := fun L st mem kk _ K => jpI st fun x st => jpR st fun a st => jput mem a ci k (.int x) fun mem => K nx L st mem kk
def J_putJ (ci k nx : Nat) : jT := fun L st mem kk _ K => jpJ st fun x st => jpR st fun a st => jput mem a ci k (.long x) fun mem => K nx L st mem kk
def J_putR (ci k nx : Nat) : jT := fun L st mem kk _ K => jpR st fun x st => jpR st fun a st => jput mem a ci k (.ref x) fun mem => K nx L st mem kk
def J_iaload (nx : Nat) : jT := fun L st mem kk _ K => jpI st fun i st => jpR st fun a st => jald mem a false i fun x => K nx L (.int x :: st) mem kk
def J_baload (nx : Nat) : jT := fun L st mem kk _ K => jpI st fun i st => jpR st fun a st => jald mem a true i fun x => K nx L (.int x :: st) mem kk
def J_iastore (nx : Nat) : jT := fun L st mem kk _ K => jpI st fun x st => jpI st fun i st => jpR st fun a st => jast mem a false i x fun mem => K nx L st mem kk
def J_bastore (nx : Nat) : jT := fun L st mem kk _ K => jpI st fun x st => jpI st fun i st => jpR st fun a st => (x = 0 ∨ x = 1) ∧ jast mem a true i x fun mem => K nx L st mem kk
def J_aaload (nx : Nat) : jT := fun L st mem kk _ K => jpI st fun i st => jpR st fun a st => jaldq mem a i fun o => match o with
  | some t => K nx L (.ref t :: st) mem kk
  | none => False
section SN
variable {Y : jY} {sc : jSc} {pc nx : Nat}
theorem jput_go {γ : jG} {p : Program} {l : Launch} {e : Env} {R : Room} {s : State} {m : MethodId} {args : Array Value} {below : List Frame} {meth : Method} {c : Code} {ad : Nat → Nat} {A : Nat → Prop} {Z : State → Prop} {Q : jQ} (F : jFix Y sc Q γ p l e R s m args below meth c ad A Z) {ix ci k N : Nat} {C : String} {T : u_T} (hc : vwCl[ci]? = some (C, T, N)) (hk : k < N) (hlk : Cond.fieldLink Y.1.cls ix (T k).1 (T k).2.1 (T k).2.2.1 ∈ jW) (hin : ∀ w ∈ u_ws C T N, w ∈ jW) (ty0 : Nat → FieldType) (hty : ∀ k, k < N → parseFieldDescriptor (T k).2.2.1 = some (ty0 k)) (hnm : ∀ a, a < N → ∀ b, b < N → a ≠ b → (T a).2.1 ≠ (T b).2.1)
    (hfin : (T k).2.2.2 = false ∨ (T k).2.2.2 = true ∧ Y.1.name = "<init>" ∧ (T k).1 = Y.1.cls) {v : Value} (hn : narrow (ty0 k) (jv ad v) = jv ad v) (hfit : fits (ty0 k) (jv ad v) = true) (hd : decode Y.2.1 pc = .ok (.putfield ix, 3)) {H : Heap} {locs : List Loc} {ls : Array Slot} {mem : jM} (ha : jAt γ ad A s mem H locs) {a : Nat} {f : Nat → Value} (hm : mem a = some (.inr (.inr (ci, f)))) {cells slots : Nat} {st : List Value}
    (kk : ∀ (H1 : Heap) (locs1 : List Loc), H1.size = H.size → jAt γ ad A s (jup mem a (.inr (.inr (ci, va_up f k v)))) H1 locs1 → W p l e R s m args below meth c H1 locs1 cells slots Z (F0 m (pc + 3) ls st)) : W p l e R s m args below meth c H locs cells slots Z (F0 m pc ls (jv ad v :: .ref (ad a) :: st)) := by
  have hts := F.1.2.2.2.2.1
  have hKK := F.1.2.2.2.2.2.1
  have hap := va_apart (own := Y.1.cls) hts hin ty0 hty hnm hKK.1 hc
  obtain ⟨r, g1, cell, q1, q2, q3, q4⟩ := ha.1.1 a _ hm
  have hr : r = (C, T, N) := Option.some.inj (g1.symm.trans hc)
  subst hr
  obtain ⟨hS, hfc, kC, hkC, hkind⟩ := hKK.1.1 ci _ hc
  obtain ⟨cf, kf, fi, f', hi, hsl⟩ := hS k hk
  have hlay := hts _ (hin _ (u_in_lay hk))
  unfold u_lay at hlay
  have hst := (u_facts hfc hkC (u_lays hts hin hk) hi).1
  have fin : ∀ H1 : Heap, H1[ad a]? = some (cell.setSlot f'.slot (jv ad v)) → jat γ ad a (.inr (.inr (ci, va_up f k v))) H1 := by
    intro H1 e1
    rw [hsl] at e1
    refine ⟨_, hc, t_OB.to (V := updV (fun j => jv ad (f j)) k (jv ad v)) ⟨_, e1, q2, q3, t_set q4 hap hk (jv ad v)⟩ (fun j _ => ?_)⟩
    unfold updV va_up
    by_cases z : j = k
    · rw [if_pos z, if_pos z]
    · rw [if_neg z, if_neg z]
  rcases hfin with hfin | ⟨hfin, hnam, hdecl⟩
  · rw [if_neg (by rw [hfin]; decide)] at hlay
    have h6 := u_store hfc hkC hkind hlay hi (hty k hk) hn hfit
    refine W.putK F.1.1 F.1.2.1 (f := f') ⟨F.1.2.2.2.1, hts _ hlk, ⟨_, _, _, hi⟩, hst⟩ (by rw [q2]; exact h6) q1 q3 (by rw [hsl]; exact k2_hasslot (q4 k hk)) rfl rfl hd fun H' e1 e2 e3 => ?_
    exact kk H' _ e2 (ha.set hm (fin H' e1) e2 e3)
  · rw [if_pos hfin] at hlay
    have hcf : m.cls = cf := by
      obtain ⟨_, _, c', _, _, _, -, -, hf', -, -, -, hown2, -⟩ := Cond.laysFinal_spec hlay
      have e1 : c' = cf := by have := hi.symm.trans hf'; simp at this; exact this.1.symm
      rw [hdecl] at hown2
      rw [← e1]; exact Option.some.inj (F.1.2.2.2.1.symm.trans hown2)
    have h6 := u_fits hfc hkC hkind (Or.inr hlay) hi (hty k hk) hn hfit
    refine W.putFinK F.1.1 F.1.2.1 F.1.2.2.2.1 (hts _ hlk) hi hst hcf (F.1.2.2.2.2.2.2.trans hnam) (by rw [q2]; exact h6) q1 q3 (by rw [hsl]; exact k2_hasslot (q4 k hk)) rfl rfl hd fun H' e1 e2 e3 => ?_
    exact kk H' _ e2 (ha.set hm (fin H' e1) e2 e3)
theorem sn_getfield {ix ci k N : Nat} {C : String} {T : u_T} (hd : decode Y.2.1 pc = .ok (.getfield ix, 3)) (hn : nx = pc + 3) (hc : vwCl[ci]? = some (C, T, N)) (hk : k < N) (hlk : Cond.fieldLink Y.1.cls ix (T k).1 (T k).2.1 (T k).2.2.1 ∈ jW) (hin : ∀ w ∈ u_ws C T N, w ∈ jW) : Sound Y sc pc (J_getfield ci k nx) := by
  subst hn
  intro Q K L st mem kk hK h γ p l e R s m args below meth c ad A Z F H locs ls ha hz hl
  obtain ⟨a, st, rfl, h1⟩ := jpR_e h
  obtain ⟨f, hm, h2⟩ := jfld_e h1
  have hts := F.1.2.2.2.2.1
  obtain ⟨r, g1, cell, q1, q2, q3, q4⟩ := ha.1.1 a _ hm
  have hr : r = (C, T, N) := Option.some.inj (g1.symm.trans hc)
  subst hr
  obtain ⟨hS, hfc, kC, hkC, hkind⟩ := F.1.2.2.2.2.2.1.1.1 ci _ hc
  obtain ⟨cf, kf, fi, f', hi, hsl⟩ := hS k hk
  refine W.getf F.1.1 F.1.2.1 F.1.2.2.2.1 (hts _ hlk) hi (u_facts hfc hkC (u_lays hts hin hk) hi).1 q1 (by rw [q3]; exact fun h2 => by cases h2) (v := jv ad (f k)) ?_ rfl rfl hd (hK _ _ _ _ _ h2 γ p l e R s m args below meth c ad A Z F H locs ls ha hz hl)
  rw [hsl, q4 k hk]
theorem sn_putI {ix ci k N : Nat} {C : String} {T : u_T} (ty0 : Nat → FieldType) (hd : decode Y.2.1 pc = .ok (.putfield ix, 3)) (hn : nx = pc + 3) (hc : vwCl[ci]? = some (C, T, N)) (hk : k < N) (hlk : Cond.fieldLink Y.1.cls ix (T k).1 (T k).2.1 (T k).2.2.1 ∈ jW) (hin : ∀ w ∈ u_ws C T N, w ∈ jW) (hty : ∀ k, k < N → parseFieldDescriptor (T k).2.2.1 = some (ty0 k)) (hnm : ∀ a, a < N → ∀ b, b < N → a ≠ b → (T a).2.1 ≠ (T b).2.1) (hfin : (T k).2.2.2 = false) (h0 : ty0 k = .int) : Sound Y sc pc (J_putI ci k nx) := by
  subst hn
  intro Q K L st mem kk hK h γ p l e R s m args below meth c ad A Z F H locs ls ha hz hl
  obtain ⟨x, st, rfl, h1⟩ := jpI_e h
  obtain ⟨a, st, rfl, h2⟩ := jpR_e h1
  obtain ⟨f, hm, h3⟩ := jput_e h2
  exact jput_go F hc hk hlk hin ty0 hty hnm (Or.inl hfin) (v := .int x) (by rw [h0]; rfl) (by rw [h0]; rfl) hd ha hm fun H1 locs1 z hat => hK _ _ _ _ _ h3 γ p l e R s m args below meth c ad A Z F H1 locs1 ls hat ⟨z.trans hz.1, hz.2⟩ hl
theorem sn_putJ {ix ci k N : Nat} {C : String} {T : u_T} (ty0 : Nat → FieldType) (hd : decode Y.2.1 pc = .ok (.putfield ix, 3)) (hn : nx = pc + 3) (hc : vwCl[ci]? = some (C, T, N)) (hk : k < N) (hlk : Cond.fieldLink Y.1.cls ix (T k).1 (T k).2.1 (T k).2.2.1 ∈ jW) (hin : ∀ w ∈ u_ws C T N, w ∈ jW) (hty : ∀ k, k < N → parseFieldDescriptor (T k).2.2.1 = some (ty0 k)) (hnm : ∀ a, a < N → ∀ b, b < N → a ≠ b → (T a).2.1 ≠ (T b).2.1) (hfin : (T k).2.2.2 = false) (h0 : ty0 k = .long) : Sound Y sc pc (J_putJ ci k nx) := by
  subst hn
  intro Q K L st mem kk hK h γ p l e R s m args below meth c ad A Z F H locs ls ha hz hl
  obtain ⟨x, st, rfl, h1⟩ := jpJ_e h
  obtain ⟨a, st, rfl, h2⟩ := jpR_e h1
  obtain ⟨f, hm, h3⟩ := jput_e h2
  exact jput_go F hc hk hlk hin ty0 hty hnm (Or.inl hfin) (v := .long x) (by rw [h0]; rfl) (by rw [h0]; rfl) hd ha hm fun H1 locs1 z hat => hK _ _ _ _ _ h3 γ p l e R s m args below meth c ad A Z F H1 locs1 ls hat ⟨z.trans hz.1, hz.2⟩ hl
theorem sn_putR {ix ci k N : Nat} {C : String} {T : u_T} (ty0 : Nat → FieldType) (hd : decode Y.2.1 pc = .ok (.putfield ix, 3)) (hn : nx = pc + 3) (hc : vwCl[ci]? = some (C, T, N)) (hk : k < N) (hlk : Cond.fieldLink Y.1.cls ix (T k).1 (T k).2.1 (T k).2.2.1 ∈ jW) (hin : ∀ w ∈ u_ws C T N, w ∈ jW) (hty : ∀ k, k < N → parseFieldDescriptor (T k).2.2.1 = some (ty0 k)) (hnm : ∀ a, a < N → ∀ b, b < N → a ≠ b → (T a).2.1 ≠ (T b).2.1) (hfin : (T k).2.2.2 = true ∧ Y.1.name = "<init>" ∧ (T k).1 = Y.1.cls) (h0 : (∃ C', ty0 k = .object C') ∨ ∃ t', ty0 k = .array t') : Sound Y sc pc (J_putR ci k nx) := by
  subst hn
  intro Q K L st mem kk hK h γ p l e R s m args below meth c ad A Z F H locs ls ha hz hl
  obtain ⟨x, st, rfl, h1⟩ := jpR_e h
  obtain ⟨a, st, rfl, h2⟩ := jpR_e h1
  obtain ⟨f, hm, h3⟩ := jput_e h2
  exact jput_go F hc hk hlk hin ty0 hty hnm (Or.inr hfin) (v := .ref x) (by rcases h0 with ⟨_, h0⟩ | ⟨_, h0⟩ <;> rw [h0] <;> rfl) (by rcases h0 with ⟨_, h0⟩ | ⟨_, h0⟩ <;> rw [h0] <;> rfl) hd ha hm fun H1 locs1 z hat => hK _ _ _ _ _ h3 γ p l e R s m args below meth c ad A Z F H1 locs1 ls hat ⟨z.trans hz.1, hz.2⟩ hl
theorem jsing {γ : jG} {ad : Nat → Nat} {A : Nat → Prop} {s : State} {mem : jM} {H : Heap} {locs : List Loc} (ha : jAt γ ad A s mem H locs) {k : Nat} {b : Bool} {n : Nat} {f : Nat → Int32} (hm : mem k = some (.inl (b, n, f))) : va_P γ.1 vwCl [(ad k, .inl (bif b then γ.2.2.1 else γ.2.1, n, .inl f))] H := by
  intro i q hq
  cases i with
  | zero =>
    cases hq
    exact ha.1.1 k _ hm
  | succ i => simp at hq
theorem sn_iaload (hd : decode Y.2.1 pc = .ok (.iaload, 1)) (hn : nx = pc + 1) : Sound Y sc pc (J_iaload nx) := by
  subst hn
  intro Q K L st mem kk hK h γ p l e R s m args below meth c ad A Z F H locs ls ha hz hl
  obtain ⟨i, st, rfl, h1⟩ := jpI_e h
  obtain ⟨a, st, rfl, h2⟩ := jpR_e h1
  obtain ⟨n, f, hm, hin, h3⟩ := jald_e h2
  exact va_iald F.1.1 F.1.2.1 F.1.2.2.2.2.2.1.1 (jsing ha hm) 0 0 rfl rfl hin hd (hK _ _ _ _ _ h3 γ p l e R s m args below meth c ad A Z F H locs ls ha hz hl)
theorem sn_baload (hd : decode Y.2.1 pc = .ok (.baload, 1)) (hn : nx = pc + 1) : Sound Y sc pc (J_baload nx) := by
  subst hn
  intro Q K L st mem kk hK h γ p l e R s m args below meth c ad A Z F H locs ls ha hz hl
  obtain ⟨i, st, rfl, h1⟩ := jpI_e h
  obtain ⟨a, st, rfl, h2⟩ := jpR_e h1
  obtain ⟨n, f, hm, hin, h3⟩ := jald_e h2
  exact va_zald F.1.1 F.1.2.1 F.1.2.2.2.2.2.1.1 (jsing ha hm) 0 1 rfl rfl hin hd (hK _ _ _ _ _ h3 γ p l e R s m args below meth c ad A Z F H locs ls ha hz hl)
theorem jarr_set {cA : ClassId} {n : Nat} {f : Nat → Int32} {i : Nat} {x : Int32} : (vp_cell cA (n, .inl f)).setSlot i (.int x) = vp_cell cA (n, .inl (upd f i x)) := by
  rw [vp_cell_i, vp_cell_i, arrV_store]
  congr 2
  funext q
  by_cases hq : q = i
  · subst hq
    simp [updV, upd]
  · simp [updV, upd, hq]
theorem sn_iastore (hd : decode Y.2.1 pc = .ok (.iastore, 1)) (hn : nx = pc + 1) : Sound Y sc pc (J_iastore nx) := by
  subst hn
  intro Q K L st mem kk hK h γ p l e R s m args below meth c ad A Z F H locs ls ha hz hl
  obtain ⟨x, st, rfl, h1⟩ := jpI_e h
  obtain ⟨i, st, rfl, h2⟩ := jpI_e h1
  obtain ⟨a, st, rfl, h3⟩ := jpR_e h2
  obtain ⟨n, f, hm, hin, h4⟩ := jast_e h3
  have hKK := F.1.2.2.2.2.2.1.1
  refine W.iast F.1.1 F.1.2.1 (ha.1.1 a _ hm) ((hKK.2 0 _ rfl).1 n (fun j => .int (f j))) (fun q => by cases q) (by show ¬ (i < 0 ∨ (arrV _ _ _).slots.size ≤ _); rw [arrV_size]; exact hin) rfl rfl hd fun H1 e1 z oq => ?_
  rw [jarr_set] at e1
  exact hK _ _ _ _ _ h4 γ p l e R s m args below meth c ad A Z F H1 _ ls (ha.set hm e1 z oq) ⟨z.trans hz.1, hz.2⟩ hl
theorem sn_bastore (hd : decode Y.2.1 pc = .ok (.bastore, 1)) (hn : nx = pc + 1) : Sound Y sc pc (J_bastore nx) := by
  subst hn
  intro Q K L st mem kk hK h γ p l e R s m args below meth c ad A Z F H locs ls ha hz hl
  obtain ⟨x, st, rfl, h1⟩ := jpI_e h
  obtain ⟨i, st, rfl, h2⟩ := jpI_e h1
  obtain ⟨a, st, rfl, hx, h3⟩ := jpR_e h2
  obtain ⟨n, f, hm, hin, h4⟩ := jast_e h3
  have hKK := F.1.2.2.2.2.2.1.1
  refine W.zast F.1.1 F.1.2.1 (ha.1.1 a _ hm) ((hKK.2 1 _ rfl).1 n (fun j => .int (f j))) (fun q => by cases q) (by show ¬ (i < 0 ∨ (arrV _ _ _).slots.size ≤ _); rw [arrV_size]; exact hin) rfl rfl hd fun H1 e1 z oq => ?_
  rw [show narrow .boolean (.int x) = .int x by rcases hx with rfl | rfl <;> rfl, jarr_set] at e1
  exact hK _ _ _ _ _ h4 γ p l e R s m args below meth c ad A Z F H1 _ ls (ha.set hm e1 z oq) ⟨z.trans hz.1, hz.2⟩ hl
theorem sn_aaload (hd : decode Y.2.1 pc = .ok (.aaload, 1)) (hn : nx = pc + 1) : Sound Y sc pc (J_aaload nx) := by
  subst hn
  intro Q K L st mem kk hK h γ p l e R s m args below meth c ad A Z F H locs ls ha hz hl
  obtain ⟨i, st, rfl, h1⟩ := jpI_e h
  obtain ⟨a, st, rfl, h2⟩ := jpR_e h1
  obtain ⟨n, f, hm, hin, h3⟩ := jaldq_e h2
  cases ho : f i.toNatClampNeg with
  | none => rw [ho] at h3; exact h3.elim
  | some t =>
    rw [ho] at h3
    have hP : va_P γ.1 vwCl [(ad a, .inl (γ.2.2.2, n, .inr (.inr (.inr (.inr fun j => (f j).map ad)))))] H := by
      intro j q hq
      cases j with
      | zero =>
        cases hq
        exact ha.1.1 a _ hm
      | succ j => simp at hq
    refine va_aldq F.1.1 F.1.2.1 F.1.2.2.2.2.2.1.1 hP 0 2 rfl rfl hin hd ?_
    rw [ho]
    exact hK _ _ _ _ _ h3 γ p l e R s m args below meth c ad A Z F H locs ls ha hz hl
end SN
