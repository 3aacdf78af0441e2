def cix (k : Nat) : Nat := 4 * (k % 8) + k / 8
theorem upd_ne {f : Nat → Int32} {k j : Nat} {x : Int32} (h : j ≠ k) : upd f k x j = f j := by unfold upd; rw [if_neg h]
theorem upd_eq {f : Nat → Int32} {k : Nat} {x : Int32} : upd f k x k = x := by unfold upd; rw [if_pos rfl]
theorem cellsOf_at {ρ : Nat → Int32} {k : Nat} (h : k < 32) : cellsOf ρ k = ρ (cix k) := if_pos h
theorem cellsOf_no {ρ : Nat → Int32} {k : Nat} (h : ¬ k < 32) : cellsOf ρ k = 0 := if_neg h
theorem restOf_at {ρ : Nat → Int32} {k : Nat} (h : k < 6) : restOf ρ k = ρ (32 + k) := if_pos h
theorem restOf_no {ρ : Nat → Int32} {k : Nat} (h : ¬ k < 6) : restOf ρ k = 0 := if_neg h
theorem cix_inj {j k : Nat} (hj : j < 32) (hk : k < 32) (h : cix j = cix k) : j = k := by unfold cix at h; omega
theorem cellsOf_upd {ρ : Nat → Int32} {k : Nat} {x : Int32} (hk : k < 32) : cellsOf (upd ρ (cix k) x) = upd (cellsOf ρ) k x := by
  funext j
  by_cases hj : j = k
  · subst hj
    rw [cellsOf_at hk, upd_eq, upd_eq]
  · rw [upd_ne hj]
    by_cases h : j < 32
    · rw [cellsOf_at h, cellsOf_at h, upd_ne fun q => hj (cix_inj h hk q)]
    · rw [cellsOf_no h, cellsOf_no h]
theorem restOf_upd {ρ : Nat → Int32} {k : Nat} {x : Int32} (hk : k < 6) : restOf (upd ρ (32 + k) x) = upd (restOf ρ) k x := by
  funext j
  by_cases hj : j = k
  · subst hj
    rw [restOf_at hk, upd_eq, upd_eq]
  · rw [upd_ne hj]
    by_cases h : j < 6
    · rw [restOf_at h, restOf_at h, upd_ne (by omega)]
    · rw [restOf_no h, restOf_no h]
theorem cix_lt {k : Nat} (h : k < 32) : cix k < 32 := by unfold cix; omega
theorem cellsOf_congr {ρ ρ' : Nat → Int32} (h : ∀ i, i < 32 → ρ i = ρ' i) : cellsOf ρ = cellsOf ρ' := by
  funext j
  unfold cellsOf
  by_cases hj : j < 32
  · rw [if_pos hj, if_pos hj, h _ (by omega)]
  · rw [if_neg hj, if_neg hj]
theorem restOf_congr {ρ ρ' : Nat → Int32} (h : ∀ i, 32 ≤ i → i < 38 → ρ i = ρ' i) : restOf ρ = restOf ρ' := by
  funext j
  unfold restOf
  by_cases hj : j < 6
  · rw [if_pos hj, if_pos hj, h _ (by omega) (by omega)]
  · rw [if_neg hj, if_neg hj]
def rmixC (ρ1 ρ2 : Nat → Int32) : Nat → Int32 := fun i => if i < 32 then ρ1 i else ρ2 i
def rmixR (ρ1 ρ2 : Nat → Int32) : Nat → Int32 := fun i => if 32 ≤ i ∧ i < 38 then ρ1 i else ρ2 i
theorem va_cpy_full {f g : Nat → Int32} {n : Nat} (h : ∀ k, n ≤ k → f k = g k) : va_cpy f g 0 0 n = f := by
  funext k
  unfold va_cpy
  by_cases hk : k < n
  · rw [if_pos ⟨Nat.zero_le _, by omega⟩]; simp
  · rw [if_neg (by omega), h k (by omega)]
section ST
variable {d s : Nat} {C : Nat → Nat → Int32} {z : Nat → Int64}
theorem vp_lt {i : Int32} {n : Nat} (h : vp_in i n) : i.toNatClampNeg < n := Nat.not_le.mp fun q => h (Or.inr q)
theorem and_mem {c : Prop} {P : jM → Prop} {m m' : jM} (h : c → m = m') : (c ∧ P m) = (c ∧ P m') := propext ⟨fun q => ⟨q.1, h q.1 ▸ q.2⟩, fun q => ⟨q.1, (h q.1).symm ▸ q.2⟩⟩
theorem jast_c (h : jSt s d) {i x : Int32} {P : jM → Prop} : jast (memS d C z) (s + 1) false i x P = (vp_in i 32 ∧ P (memS d (hrow C s (upd (C s) (cix i.toNatClampNeg) x)) z)) := by
  unfold jast
  rw [jst_c h]
  exact and_mem fun hi => memS_stc h (cellsOf_upd (vp_lt hi)) fun j hj => upd_ne (by have := cix_lt (vp_lt hi); omega)
/-- a new row for a state, written through its rests -/
theorem memS_str (h : jSt s d) {f ρ : Nat → Int32} (hf : restOf ρ = f) (h1 : ∀ i, (i < 32 ∨ 38 ≤ i) → ρ i = C s i) : jup (memS d C z) (s + 2) (.inl (false, 6, f)) = memS d (hrow C s ρ) z := by
  obtain ⟨⟨g0, g1, g2⟩, ⟨r0, r1, r2⟩, hj⟩ := jst_tab s (by have := h.2; omega) h.1
  refine memS_jup (by have := h.2; omega) ?_ r2 fun j hd hn hr => ?_
  · unfold jcellR
    rw [g2, ← hf]
    rfl
  · rcases hj j (by have := h.2; omega) hr with rfl | rfl | rfl
    · unfold jcellR
      rw [g0]
      show some (Sum.inr (Sum.inr (4, fun i => jfv d ρ (z j) ([j + 5, j + 6, 2, 3].getD i 2000) i))) = some (Sum.inr (Sum.inr (4, fun i => jfv d (C j) (z j) ([j + 5, j + 6, 2, 3].getD i 2000) i)))
      congr 4
      funext i
      match i with
      | 0 => rfl
      | 1 => rfl
      | 2 => show Value.int (ρ 38) = .int (C j 38); rw [h1 38 (by omega)]
      | 3 => show Value.int (ρ 39) = .int (C j 39); rw [h1 39 (by omega)]
      | i + 4 => rfl
    · unfold jcellR
      rw [g1]
      exact congrArg (fun q => some (Sum.inl (false, 32, q))) (cellsOf_congr fun i hi => h1 i (Or.inl hi))
    · exact absurd rfl hn
theorem jast_r (h : jSt s d) {i x : Int32} {P : jM → Prop} : jast (memS d C z) (s + 2) false i x P = (vp_in i 6 ∧ P (memS d (hrow C s (upd (C s) (32 + i.toNatClampNeg) x)) z)) := by
  unfold jast
  rw [jst_r h]
  exact and_mem fun hi => memS_str h (restOf_upd (vp_lt hi)) fun j hj => upd_ne (by have := vp_lt hi; omega)
/-- a new row for a state, written through its object -/
theorem memS_sto (h : jSt s d) {f : Nat → Value} {ρ : Nat → Int32} (hf : (fun i => jfv d ρ (z s) ([s + 5, s + 6, 2, 3].getD i 2000) i) = f) (h1 : ∀ i, i < 38 → ρ i = C s i) : jup (memS d C z) s (.inr (.inr (4, f))) = memS d (hrow C s ρ) z := by
  obtain ⟨⟨g0, g1, g2⟩, ⟨r0, r1, r2⟩, hj⟩ := jst_tab s (by have := h.2; omega) h.1
  refine memS_jup (by have := h.2; omega) ?_ r0 fun j hd hn hr => ?_
  · unfold jcellR
    rw [g0, ← hf]
    rfl
  · rcases hj j (by have := h.2; omega) hr with rfl | rfl | rfl
    · exact absurd rfl hn
    · unfold jcellR
      rw [g1]
      exact congrArg (fun q => some (Sum.inl (false, 32, q))) (cellsOf_congr fun i hi => h1 i (by omega))
    · unfold jcellR
      rw [g2]
      exact congrArg (fun q => some (Sum.inl (false, 6, q))) (restOf_congr fun i hi hi2 => h1 i (by omega))
theorem jput_s2 (h : jSt s d) {x : Int32} {P : jM → Prop} : jput (memS d C z) s 4 2 (.int x) P = P (memS d (hrow C s (upd (C s) 38 x)) z) := by
  unfold jput
  rw [jst_o h]
  show P (jup _ _ _) = _
  rw [memS_sto h (ρ := upd (C s) 38 x) ?_ fun j hj => upd_ne (by omega)]
  funext i
  match i with
  | 0 => rfl
  | 1 => rfl
  | 2 => rfl
  | 3 => rfl
  | i + 4 => rfl
theorem jput_s3 (h : jSt s d) {x : Int32} {P : jM → Prop} : jput (memS d C z) s 4 3 (.int x) P = P (memS d (hrow C s (upd (C s) 39 x)) z) := by
  unfold jput
  rw [jst_o h]
  show P (jup _ _ _) = _
  rw [memS_sto h (ρ := upd (C s) 39 x) ?_ fun j hj => upd_ne (by omega)]
  funext i
  match i with
  | 0 => rfl
  | 1 => rfl
  | 2 => rfl
  | 3 => rfl
  | i + 4 => rfl
theorem jcopy_c {s0 : Nat} (h0 : jSt s0 d) (h : jSt s d) {P : jM → Prop} : jcopy (memS d C z) (s0 + 1) (s + 1) 0 0 32 P = P (memS d (hrow C s (rmixC (C s0) (C s))) z) := by
  unfold jcopy
  rw [jst_c h0, jst_c h]
  show (_ ∧ P (jup _ _ (.inl (false, 32, va_cpy (cellsOf (C s0)) (cellsOf (C s)) 0 0 32)))) = _
  rw [va_cpy_full (fun k hk => by unfold cellsOf; rw [if_neg (by omega), if_neg (by omega)]), memS_stc h (ρ := rmixC (C s0) (C s)) (cellsOf_congr fun i hi => by unfold rmixC; rw [if_pos hi]) fun i hi => by unfold rmixC; rw [if_neg (by omega)]]
  exact propext ⟨fun q => q.2, fun q => ⟨by decide, q⟩⟩
theorem jcopy_r {s0 : Nat} (h0 : jSt s0 d) (h : jSt s d) {P : jM → Prop} : jcopy (memS d C z) (s0 + 2) (s + 2) 0 0 6 P = P (memS d (hrow C s (rmixR (C s0) (C s))) z) := by
  unfold jcopy
  rw [jst_r h0, jst_r h]
  show (_ ∧ P (jup _ _ (.inl (false, 6, va_cpy (restOf (C s0)) (restOf (C s)) 0 0 6)))) = _
  rw [va_cpy_full (fun k hk => by unfold restOf; rw [if_neg (by omega), if_neg (by omega)]), memS_str h (ρ := rmixR (C s0) (C s)) (restOf_congr fun i hi hi2 => by unfold rmixR; rw [if_pos ⟨hi, hi2⟩]) fun i hi => by unfold rmixR; rw [if_neg (by omega)]]
  exact propext ⟨fun q => q.2, fun q => ⟨by decide, q⟩⟩
end ST
/-! rows of their own -/
def jOwn (k n : Nat) (b : Bool) (d : Nat) : Prop := k < d ∧ d ≤ 94 ∧ jshp[k]? = some (bif b then 3 else 0, n, []) ∧ jStB k = false ∧ jrow k = k
section OW
variable {d k n : Nat} {b : Bool} {C : Nat → Nat → Int32} {z : Nat → Int64}
theorem jown_c (h : jOwn k n b d) {f : Nat → Int32} {y : Int64} : jcellR d f y k = some (.inl (b, n, f)) := by
  unfold jcellR
  rw [h.2.2.1]
  cases b <;> rfl
theorem jown_m (h : jOwn k n b d) : memS d C z k = some (.inl (b, n, C k)) := by
  rw [memS_lt h.1, h.2.2.2.2, jown_c h]
theorem jown_ld (h : jOwn k n b d) {i : Int32} {P : Int32 → Prop} : jald (memS d C z) k b i P = (vp_in i n ∧ P (C k i.toNatClampNeg)) := by
  unfold jald
  rw [jown_m h]
  cases b <;> rfl
theorem jown_up (h : jOwn k n b d) {f : Nat → Int32} : jup (memS d C z) k (.inl (b, n, f)) = memS d (hrow C k f) z :=
  memS_jup h.1 (jown_c h) h.2.2.2.2 fun j hj hn hr => absurd (jrow_own k (Nat.lt_of_lt_of_le h.1 h.2.1) h.2.2.2.1 j (Nat.lt_of_lt_of_le hj h.2.1) hr) hn
theorem jown_st (h : jOwn k n b d) {i x : Int32} {P : jM → Prop} : jast (memS d C z) k b i x P = (vp_in i n ∧ P (memS d (hrow C k (upd (C k) i.toNatClampNeg x)) z)) := by
  unfold jast
  rw [jown_m h]
  cases b
  · show (_ ∧ P (jup _ _ _)) = _
    rw [jown_up h]
  · show (_ ∧ P (jup _ _ _)) = _
    rw [jown_up h]
end OW
def jObj (k ci : Nat) (fs : List Nat) (d : Nat) : Prop := k < d ∧ d ≤ 94 ∧ jshp[k]? = some (ci + 5, 0, fs) ∧ jStB k = false ∧ jrow k = k
section OB
variable {d k ci : Nat} {fs : List Nat} {C : Nat → Nat → Int32} {z : Nat → Int64}
theorem jobj_c (h : jObj k ci fs d) {f : Nat → Int32} {y : Int64} : jcellR d f y k = some (.inr (.inr (ci, fun i => jfv d f y (fs.getD i 2000) i))) := by
  unfold jcellR
  rw [h.2.2.1]
  rfl
theorem jobj_m (h : jObj k ci fs d) : memS d C z k = some (.inr (.inr (ci, fun i => jfv d (C k) (z k) (fs.getD i 2000) i))) := by
  rw [memS_lt h.1, h.2.2.2.2, jobj_c h]
theorem beq_rf (n : Nat) : Nat.beq n n = true := by induction n with
  | zero => rfl
  | succ n ih => exact ih
theorem jobj_ld (h : jObj k ci fs d) (i : Nat) {P : Value → Prop} : jfld (memS d C z) k ci i P = P (jfv d (C k) (z k) (fs.getD i 2000) i) := by
  unfold jfld
  rw [jobj_m h]
  simp only [Nat.beq_eq_true_eq, beq_rf, cond_true]
theorem jobj_rc (h : jObj k ci fs d) {r : List Value} : jrcv (memS d C z) ci (.ref k :: r) = True := by
  show (match memS d C z k with | some (.inr (.inr (c, _))) => c = ci | _ => False) = True
  rw [jobj_m h]
  exact eq_self ci
theorem jobj_pI (h : jObj k ci fs d) (i : Nat) (hi : fs.getD i 2000 = 0) (hall : ∀ j, fs.getD j 2000 ≠ 2 ∧ fs.getD j 2000 ≠ 3) {x : Int32} {P : jM → Prop} : jput (memS d C z) k ci i (.int x) P = P (memS d (hrow C k (upd (C k) i x)) z) := by
  unfold jput
  rw [jobj_m h]
  simp only [beq_rf, cond_true]
  rw [memS_jup h.1 (a := k) (f := upd (C k) i x) ?_ h.2.2.2.2 fun j hj hn hr => absurd (jrow_own k (Nat.lt_of_lt_of_le h.1 h.2.1) h.2.2.2.1 j (Nat.lt_of_lt_of_le hj h.2.1) hr) hn]
  rw [jobj_c h]
  congr 4
  funext j
  unfold va_up
  by_cases hj : j = i
  · subst hj
    rw [if_pos rfl, hi]
    show Value.int (upd (C k) j x j) = _
    rw [upd_eq]
  · rw [if_neg hj]
    have h2 := hall j
    show jfv d (upd (C k) i x) (z k) (fs.getD j 2000) j = jfv d (C k) (z k) (fs.getD j 2000) j
    revert h2
    generalize fs.getD j 2000 = e
    intro h2
    match e, h2 with
    | 0, _ => show Value.int (upd (C k) i x j) = _; rw [upd_ne hj]; rfl
    | 1, _ => rfl
    | 2, h2 => exact absurd rfl h2.1
    | 3, h2 => exact absurd rfl h2.2
    | t + 4, _ => rfl
theorem jobj_pJ (h : jObj k ci fs d) (i : Nat) (hi : fs.getD i 2000 = 1) (hall : ∀ j, fs.getD j 2000 = 1 → j = i) {x : Int64} {P : jM → Prop} : jput (memS d C z) k ci i (.long x) P = P (memS d C (zput z k x)) := by
  unfold jput
  rw [jobj_m h]
  simp only [beq_rf, cond_true]
  rw [memS_jupz h.1 (y := x)]
  rw [h.2.2.2.2, jobj_c h]
  congr 4
  funext j
  unfold va_up
  by_cases hj : j = i
  · subst hj
    rw [if_pos rfl, hi]
    rfl
  · rw [if_neg hj]
    have h2 := hall j
    show jfv d (C k) x (fs.getD j 2000) j = jfv d (C k) (z k) (fs.getD j 2000) j
    revert h2
    generalize fs.getD j 2000 = e
    intro h2
    match e, h2 with
    | 0, _ => rfl
    | 1, h2 => exact absurd (h2 rfl) hj
    | 2, _ => rfl
    | 3, _ => rfl
    | t + 4, _ => rfl
end OB
theorem jgetD_all {fs : List Nat} {q : Nat → Bool} (h : fs.all q = true) (h2 : q 2000 = true) (j : Nat) : q (fs.getD j 2000) = true := by
  rw [List.getD_eq_getElem?_getD]
  cases hj : fs[j]? with
  | none => exact h2
  | some x => exact List.all_eq_true.mp h x (List.mem_of_getElem? hj)

theorem ob_0 : jObj 0 6 [5, 7, 10, 13, 16, 19, 63, 64, 68, 0, 1] 94 := ⟨by decide, by decide, rfl, rfl, rfl⟩
theorem rc_0 {C : Nat → Nat → Int32} {z : Nat → Int64} {r : List Value} : jrcv (memS 94 C z) 6 (.ref 0 :: r) = True := jobj_rc ob_0
theorem fl_0_0 {C : Nat → Nat → Int32} {z : Nat → Int64} {P : Value → Prop} : jfld (memS 94 C z) 0 6 0 P = P (.ref 1) := jobj_ld ob_0 0
theorem fl_0_1 {C : Nat → Nat → Int32} {z : Nat → Int64} {P : Value → Prop} : jfld (memS 94 C z) 0 6 1 P = P (.ref 3) := jobj_ld ob_0 1
theorem fl_0_2 {C : Nat → Nat → Int32} {z : Nat → Int64} {P : Value → Prop} : jfld (memS 94 C z) 0 6 2 P = P (.ref 6) := jobj_ld ob_0 2
theorem fl_0_3 {C : Nat → Nat → Int32} {z : Nat → Int64} {P : Value → Prop} : jfld (memS 94 C z) 0 6 3 P = P (.ref 9) := jobj_ld ob_0 3
theorem fl_0_4 {C : Nat → Nat → Int32} {z : Nat → Int64} {P : Value → Prop} : jfld (memS 94 C z) 0 6 4 P = P (.ref 12) := jobj_ld ob_0 4
theorem fl_0_5 {C : Nat → Nat → Int32} {z : Nat → Int64} {P : Value → Prop} : jfld (memS 94 C z) 0 6 5 P = P (.ref 15) := jobj_ld ob_0 5
theorem fl_0_6 {C : Nat → Nat → Int32} {z : Nat → Int64} {P : Value → Prop} : jfld (memS 94 C z) 0 6 6 P = P (.ref 59) := jobj_ld ob_0 6
theorem fl_0_7 {C : Nat → Nat → Int32} {z : Nat → Int64} {P : Value → Prop} : jfld (memS 94 C z) 0 6 7 P = P (.ref 60) := jobj_ld ob_0 7
theorem fl_0_8 {C : Nat → Nat → Int32} {z : Nat → Int64} {P : Value → Prop} : jfld (memS 94 C z) 0 6 8 P = P (.ref 64) := jobj_ld ob_0 8
theorem fl_0_9 {C : Nat → Nat → Int32} {z : Nat → Int64} {P : Value → Prop} : jfld (memS 94 C z) 0 6 9 P = P (.int (C 0 9)) := jobj_ld ob_0 9
theorem fp_0_9 {C : Nat → Nat → Int32} {z : Nat → Int64} {x : Int32} {P : jM → Prop} : jput (memS 94 C z) 0 6 9 (.int x) P = P (memS 94 (hrow C 0 (upd (C 0) 9 x)) z) := jobj_pI ob_0 9 rfl fun j => by simpa using jgetD_all (fs := [5, 7, 10, 13, 16, 19, 63, 64, 68, 0, 1]) (q := fun a => a != 2 && a != 3) rfl rfl j
theorem fl_0_10 {C : Nat → Nat → Int32} {z : Nat → Int64} {P : Value → Prop} : jfld (memS 94 C z) 0 6 10 P = P (.long (z 0)) := jobj_ld ob_0 10
theorem fp_0_10 {C : Nat → Nat → Int32} {z : Nat → Int64} {x : Int64} {P : jM → Prop} : jput (memS 94 C z) 0 6 10 (.long x) P = P (memS 94 C (zput z 0 x)) := jobj_pJ ob_0 10 rfl fun j hj => by
  have h1 : j < 11 := by
    rcases Nat.lt_or_ge j 11 with h | h
    · exact h
    · rw [List.getD_eq_getElem?_getD, List.getElem?_eq_none (by exact h)] at hj; simp at hj
  have : ∀ j, j < 11 → [5, 7, 10, 13, 16, 19, 63, 64, 68, 0, 1].getD j 2000 = 1 → j = 10 := by decide
  exact this j h1 hj
theorem ob_1 : jObj 1 5 [6, 0] 94 := ⟨by decide, by decide, rfl, rfl, rfl⟩
theorem rc_1 {C : Nat → Nat → Int32} {z : Nat → Int64} {r : List Value} : jrcv (memS 94 C z) 5 (.ref 1 :: r) = True := jobj_rc ob_1
theorem fl_1_0 {C : Nat → Nat → Int32} {z : Nat → Int64} {P : Value → Prop} : jfld (memS 94 C z) 1 5 0 P = P (.ref 2) := jobj_ld ob_1 0
theorem fl_1_1 {C : Nat → Nat → Int32} {z : Nat → Int64} {P : Value → Prop} : jfld (memS 94 C z) 1 5 1 P = P (.int (C 1 1)) := jobj_ld ob_1 1
theorem fp_1_1 {C : Nat → Nat → Int32} {z : Nat → Int64} {x : Int32} {P : jM → Prop} : jput (memS 94 C z) 1 5 1 (.int x) P = P (memS 94 (hrow C 1 (upd (C 1) 1 x)) z) := jobj_pI ob_1 1 rfl fun j => by simpa using jgetD_all (fs := [6, 0]) (q := fun a => a != 2 && a != 3) rfl rfl j
theorem ow_2 : jOwn 2 70 false 94 := ⟨by decide, by decide, rfl, rfl, rfl⟩
theorem al_2 {C : Nat → Nat → Int32} {z : Nat → Int64} {i : Int32} {P : Int32 → Prop} : jald (memS 94 C z) 2 false i P = (vp_in i 70 ∧ P (C 2 i.toNatClampNeg)) := jown_ld ow_2
theorem as_2 {C : Nat → Nat → Int32} {z : Nat → Int64} {i x : Int32} {P : jM → Prop} : jast (memS 94 C z) 2 false i x P = (vp_in i 70 ∧ P (memS 94 (hrow C 2 (upd (C 2) i.toNatClampNeg x)) z)) := jown_st ow_2
theorem ob_3 : jObj 3 3 [8, 9, 0, 0, 0, 0] 94 := ⟨by decide, by decide, rfl, rfl, rfl⟩
theorem rc_3 {C : Nat → Nat → Int32} {z : Nat → Int64} {r : List Value} : jrcv (memS 94 C z) 3 (.ref 3 :: r) = True := jobj_rc ob_3
theorem fl_3_0 {C : Nat → Nat → Int32} {z : Nat → Int64} {P : Value → Prop} : jfld (memS 94 C z) 3 3 0 P = P (.ref 4) := jobj_ld ob_3 0
theorem fl_3_1 {C : Nat → Nat → Int32} {z : Nat → Int64} {P : Value → Prop} : jfld (memS 94 C z) 3 3 1 P = P (.ref 5) := jobj_ld ob_3 1
theorem fl_3_2 {C : Nat → Nat → Int32} {z : Nat → Int64} {P : Value → Prop} : jfld (memS 94 C z) 3 3 2 P = P (.int (C 3 2)) := jobj_ld ob_3 2
theorem fp_3_2 {C : Nat → Nat → Int32} {z : Nat → Int64} {x : Int32} {P : jM → Prop} : jput (memS 94 C z) 3 3 2 (.int x) P = P (memS 94 (hrow C 3 (upd (C 3) 2 x)) z) := jobj_pI ob_3 2 rfl fun j => by simpa using jgetD_all (fs := [8, 9, 0, 0, 0, 0]) (q := fun a => a != 2 && a != 3) rfl rfl j
theorem fl_3_3 {C : Nat → Nat → Int32} {z : Nat → Int64} {P : Value → Prop} : jfld (memS 94 C z) 3 3 3 P = P (.int (C 3 3)) := jobj_ld ob_3 3
theorem fp_3_3 {C : Nat → Nat → Int32} {z : Nat → Int64} {x : Int32} {P : jM → Prop} : jput (memS 94 C z) 3 3 3 (.int x) P = P (memS 94 (hrow C 3 (upd (C 3) 3 x)) z) := jobj_pI ob_3 3 rfl fun j => by simpa using jgetD_all (fs := [8, 9, 0, 0, 0, 0]) (q := fun a => a != 2 && a != 3) rfl rfl j
theorem fl_3_4 {C : Nat → Nat → Int32} {z : Nat → Int64} {P : Value → Prop} : jfld (memS 94 C z) 3 3 4 P = P (.int (C 3 4)) := jobj_ld ob_3 4
theorem fp_3_4 {C : Nat → Nat → Int32} {z : Nat → Int64} {x : Int32} {P : jM → Prop} : jput (memS 94 C z) 3 3 4 (.int x) P = P (memS 94 (hrow C 3 (upd (C 3) 4 x)) z) := jobj_pI ob_3 4 rfl fun j => by simpa using jgetD_all (fs := [8, 9, 0, 0, 0, 0]) (q := fun a => a != 2 && a != 3) rfl rfl j
theorem fl_3_5 {C : Nat → Nat → Int32} {z : Nat → Int64} {P : Value → Prop} : jfld (memS 94 C z) 3 3 5 P = P (.int (C 3 5)) := jobj_ld ob_3 5
theorem fp_3_5 {C : Nat → Nat → Int32} {z : Nat → Int64} {x : Int32} {P : jM → Prop} : jput (memS 94 C z) 3 3 5 (.int x) P = P (memS 94 (hrow C 3 (upd (C 3) 5 x)) z) := jobj_pI ob_3 5 rfl fun j => by simpa using jgetD_all (fs := [8, 9, 0, 0, 0, 0]) (q := fun a => a != 2 && a != 3) rfl rfl j
theorem ow_4 : jOwn 4 4 false 94 := ⟨by decide, by decide, rfl, rfl, rfl⟩
theorem al_4 {C : Nat → Nat → Int32} {z : Nat → Int64} {i : Int32} {P : Int32 → Prop} : jald (memS 94 C z) 4 false i P = (vp_in i 4 ∧ P (C 4 i.toNatClampNeg)) := jown_ld ow_4
theorem as_4 {C : Nat → Nat → Int32} {z : Nat → Int64} {i x : Int32} {P : jM → Prop} : jast (memS 94 C z) 4 false i x P = (vp_in i 4 ∧ P (memS 94 (hrow C 4 (upd (C 4) i.toNatClampNeg x)) z)) := jown_st ow_4
theorem ow_5 : jOwn 5 24 false 94 := ⟨by decide, by decide, rfl, rfl, rfl⟩
theorem al_5 {C : Nat → Nat → Int32} {z : Nat → Int64} {i : Int32} {P : Int32 → Prop} : jald (memS 94 C z) 5 false i P = (vp_in i 24 ∧ P (C 5 i.toNatClampNeg)) := jown_ld ow_5
theorem as_5 {C : Nat → Nat → Int32} {z : Nat → Int64} {i x : Int32} {P : jM → Prop} : jast (memS 94 C z) 5 false i x P = (vp_in i 24 ∧ P (memS 94 (hrow C 5 (upd (C 5) i.toNatClampNeg x)) z)) := jown_st ow_5
theorem ob_6 : jObj 6 0 [7, 11, 12] 94 := ⟨by decide, by decide, rfl, rfl, rfl⟩
theorem rc_6 {C : Nat → Nat → Int32} {z : Nat → Int64} {r : List Value} : jrcv (memS 94 C z) 0 (.ref 6 :: r) = True := jobj_rc ob_6
theorem fl_6_0 {C : Nat → Nat → Int32} {z : Nat → Int64} {P : Value → Prop} : jfld (memS 94 C z) 6 0 0 P = P (.ref 3) := jobj_ld ob_6 0
theorem fl_6_1 {C : Nat → Nat → Int32} {z : Nat → Int64} {P : Value → Prop} : jfld (memS 94 C z) 6 0 1 P = P (.ref 7) := jobj_ld ob_6 1
theorem fl_6_2 {C : Nat → Nat → Int32} {z : Nat → Int64} {P : Value → Prop} : jfld (memS 94 C z) 6 0 2 P = P (.ref 8) := jobj_ld ob_6 2
theorem ow_7 : jOwn 7 4 false 94 := ⟨by decide, by decide, rfl, rfl, rfl⟩
theorem al_7 {C : Nat → Nat → Int32} {z : Nat → Int64} {i : Int32} {P : Int32 → Prop} : jald (memS 94 C z) 7 false i P = (vp_in i 4 ∧ P (C 7 i.toNatClampNeg)) := jown_ld ow_7
theorem as_7 {C : Nat → Nat → Int32} {z : Nat → Int64} {i x : Int32} {P : jM → Prop} : jast (memS 94 C z) 7 false i x P = (vp_in i 4 ∧ P (memS 94 (hrow C 7 (upd (C 7) i.toNatClampNeg x)) z)) := jown_st ow_7
theorem ow_8 : jOwn 8 4 false 94 := ⟨by decide, by decide, rfl, rfl, rfl⟩
theorem al_8 {C : Nat → Nat → Int32} {z : Nat → Int64} {i : Int32} {P : Int32 → Prop} : jald (memS 94 C z) 8 false i P = (vp_in i 4 ∧ P (C 8 i.toNatClampNeg)) := jown_ld ow_8
theorem as_8 {C : Nat → Nat → Int32} {z : Nat → Int64} {i x : Int32} {P : jM → Prop} : jast (memS 94 C z) 8 false i x P = (vp_in i 4 ∧ P (memS 94 (hrow C 8 (upd (C 8) i.toNatClampNeg x)) z)) := jown_st ow_8
theorem ob_15 : jObj 15 1 [20, 0, 0] 94 := ⟨by decide, by decide, rfl, rfl, rfl⟩
theorem rc_15 {C : Nat → Nat → Int32} {z : Nat → Int64} {r : List Value} : jrcv (memS 94 C z) 1 (.ref 15 :: r) = True := jobj_rc ob_15
theorem fl_15_0 {C : Nat → Nat → Int32} {z : Nat → Int64} {P : Value → Prop} : jfld (memS 94 C z) 15 1 0 P = P (.ref 16) := jobj_ld ob_15 0
theorem fl_15_1 {C : Nat → Nat → Int32} {z : Nat → Int64} {P : Value → Prop} : jfld (memS 94 C z) 15 1 1 P = P (.int (C 15 1)) := jobj_ld ob_15 1
theorem fp_15_1 {C : Nat → Nat → Int32} {z : Nat → Int64} {x : Int32} {P : jM → Prop} : jput (memS 94 C z) 15 1 1 (.int x) P = P (memS 94 (hrow C 15 (upd (C 15) 1 x)) z) := jobj_pI ob_15 1 rfl fun j => by simpa using jgetD_all (fs := [20, 0, 0]) (q := fun a => a != 2 && a != 3) rfl rfl j
theorem fl_15_2 {C : Nat → Nat → Int32} {z : Nat → Int64} {P : Value → Prop} : jfld (memS 94 C z) 15 1 2 P = P (.int (C 15 2)) := jobj_ld ob_15 2
theorem fp_15_2 {C : Nat → Nat → Int32} {z : Nat → Int64} {x : Int32} {P : jM → Prop} : jput (memS 94 C z) 15 1 2 (.int x) P = P (memS 94 (hrow C 15 (upd (C 15) 2 x)) z) := jobj_pI ob_15 2 rfl fun j => by simpa using jgetD_all (fs := [20, 0, 0]) (q := fun a => a != 2 && a != 3) rfl rfl j
theorem ob_60 : jObj 60 2 [65, 66, 67, 0] 94 := ⟨by decide, by decide, rfl, rfl, rfl⟩
theorem rc_60 {C : Nat → Nat → Int32} {z : Nat → Int64} {r : List Value} : jrcv (memS 94 C z) 2 (.ref 60 :: r) = True := jobj_rc ob_60
theorem fl_60_0 {C : Nat → Nat → Int32} {z : Nat → Int64} {P : Value → Prop} : jfld (memS 94 C z) 60 2 0 P = P (.ref 61) := jobj_ld ob_60 0
theorem fl_60_1 {C : Nat → Nat → Int32} {z : Nat → Int64} {P : Value → Prop} : jfld (memS 94 C z) 60 2 1 P = P (.ref 62) := jobj_ld ob_60 1
theorem fl_60_2 {C : Nat → Nat → Int32} {z : Nat → Int64} {P : Value → Prop} : jfld (memS 94 C z) 60 2 2 P = P (.ref 63) := jobj_ld ob_60 2
theorem fl_60_3 {C : Nat → Nat → Int32} {z : Nat → Int64} {P : Value → Prop} : jfld (memS 94 C z) 60 2 3 P = P (.int (C 60 3)) := jobj_ld ob_60 3
theorem fp_60_3 {C : Nat → Nat → Int32} {z : Nat → Int64} {x : Int32} {P : jM → Prop} : jput (memS 94 C z) 60 2 3 (.int x) P = P (memS 94 (hrow C 60 (upd (C 60) 3 x)) z) := jobj_pI ob_60 3 rfl fun j => by simpa using jgetD_all (fs := [65, 66, 67, 0]) (q := fun a => a != 2 && a != 3) rfl rfl j
theorem ow_61 : jOwn 61 6 false 94 := ⟨by decide, by decide, rfl, rfl, rfl⟩
theorem al_61 {C : Nat → Nat → Int32} {z : Nat → Int64} {i : Int32} {P : Int32 → Prop} : jald (memS 94 C z) 61 false i P = (vp_in i 6 ∧ P (C 61 i.toNatClampNeg)) := jown_ld ow_61
theorem as_61 {C : Nat → Nat → Int32} {z : Nat → Int64} {i x : Int32} {P : jM → Prop} : jast (memS 94 C z) 61 false i x P = (vp_in i 6 ∧ P (memS 94 (hrow C 61 (upd (C 61) i.toNatClampNeg x)) z)) := jown_st ow_61
theorem ow_62 : jOwn 62 6 false 94 := ⟨by decide, by decide, rfl, rfl, rfl⟩
theorem al_62 {C : Nat → Nat → Int32} {z : Nat → Int64} {i : Int32} {P : Int32 → Prop} : jald (memS 94 C z) 62 false i P = (vp_in i 6 ∧ P (C 62 i.toNatClampNeg)) := jown_ld ow_62
theorem as_62 {C : Nat → Nat → Int32} {z : Nat → Int64} {i x : Int32} {P : jM → Prop} : jast (memS 94 C z) 62 false i x P = (vp_in i 6 ∧ P (memS 94 (hrow C 62 (upd (C 62) i.toNatClampNeg x)) z)) := jown_st ow_62
theorem ow_63 : jOwn 63 6 false 94 := ⟨by decide, by decide, rfl, rfl, rfl⟩
theorem al_63 {C : Nat → Nat → Int32} {z : Nat → Int64} {i : Int32} {P : Int32 → Prop} : jald (memS 94 C z) 63 false i P = (vp_in i 6 ∧ P (C 63 i.toNatClampNeg)) := jown_ld ow_63
theorem as_63 {C : Nat → Nat → Int32} {z : Nat → Int64} {i x : Int32} {P : jM → Prop} : jast (memS 94 C z) 63 false i x P = (vp_in i 6 ∧ P (memS 94 (hrow C 63 (upd (C 63) i.toNatClampNeg x)) z)) := jown_st ow_63
theorem ow_64 : jOwn 64 9 false 94 := ⟨by decide, by decide, rfl, rfl, rfl⟩
theorem al_64 {C : Nat → Nat → Int32} {z : Nat → Int64} {i : Int32} {P : Int32 → Prop} : jald (memS 94 C z) 64 false i P = (vp_in i 9 ∧ P (C 64 i.toNatClampNeg)) := jown_ld ow_64
theorem as_64 {C : Nat → Nat → Int32} {z : Nat → Int64} {i x : Int32} {P : jM → Prop} : jast (memS 94 C z) 64 false i x P = (vp_in i 9 ∧ P (memS 94 (hrow C 64 (upd (C 64) i.toNatClampNeg x)) z)) := jown_st ow_64
theorem ob_71 : jObj 71 7 [76, 0, 0, 77, 0, 78, 79, 80, 81, 0, 82, 83, 84, 0, 0, 85, 86, 87, 88, 89, 0, 1, 0, 0, 90, 0, 91, 92, 0, 0, 0, 93, 0, 94, 95, 96, 97, 0, 0] 94 := ⟨by decide, by decide, rfl, rfl, rfl⟩
theorem rc_71 {C : Nat → Nat → Int32} {z : Nat → Int64} {r : List Value} : jrcv (memS 94 C z) 7 (.ref 71 :: r) = True := jobj_rc ob_71
theorem fl_71_0 {C : Nat → Nat → Int32} {z : Nat → Int64} {P : Value → Prop} : jfld (memS 94 C z) 71 7 0 P = P (.ref 72) := jobj_ld ob_71 0
theorem fl_71_1 {C : Nat → Nat → Int32} {z : Nat → Int64} {P : Value → Prop} : jfld (memS 94 C z) 71 7 1 P = P (.int (C 71 1)) := jobj_ld ob_71 1
theorem fp_71_1 {C : Nat → Nat → Int32} {z : Nat → Int64} {x : Int32} {P : jM → Prop} : jput (memS 94 C z) 71 7 1 (.int x) P = P (memS 94 (hrow C 71 (upd (C 71) 1 x)) z) := jobj_pI ob_71 1 rfl fun j => by simpa using jgetD_all (fs := [76, 0, 0, 77, 0, 78, 79, 80, 81, 0, 82, 83, 84, 0, 0, 85, 86, 87, 88, 89, 0, 1, 0, 0, 90, 0, 91, 92, 0, 0, 0, 93, 0, 94, 95, 96, 97, 0, 0]) (q := fun a => a != 2 && a != 3) rfl rfl j
theorem fl_71_2 {C : Nat → Nat → Int32} {z : Nat → Int64} {P : Value → Prop} : jfld (memS 94 C z) 71 7 2 P = P (.int (C 71 2)) := jobj_ld ob_71 2
theorem fp_71_2 {C : Nat → Nat → Int32} {z : Nat → Int64} {x : Int32} {P : jM → Prop} : jput (memS 94 C z) 71 7 2 (.int x) P = P (memS 94 (hrow C 71 (upd (C 71) 2 x)) z) := jobj_pI ob_71 2 rfl fun j => by simpa using jgetD_all (fs := [76, 0, 0, 77, 0, 78, 79, 80, 81, 0, 82, 83, 84, 0, 0, 85, 86, 87, 88, 89, 0, 1, 0, 0, 90, 0, 91, 92, 0, 0, 0, 93, 0, 94, 95, 96, 97, 0, 0]) (q := fun a => a != 2 && a != 3) rfl rfl j
theorem fl_71_3 {C : Nat → Nat → Int32} {z : Nat → Int64} {P : Value → Prop} : jfld (memS 94 C z) 71 7 3 P = P (.ref 73) := jobj_ld ob_71 3
theorem fl_71_4 {C : Nat → Nat → Int32} {z : Nat → Int64} {P : Value → Prop} : jfld (memS 94 C z) 71 7 4 P = P (.int (C 71 4)) := jobj_ld ob_71 4
theorem fp_71_4 {C : Nat → Nat → Int32} {z : Nat → Int64} {x : Int32} {P : jM → Prop} : jput (memS 94 C z) 71 7 4 (.int x) P = P (memS 94 (hrow C 71 (upd (C 71) 4 x)) z) := jobj_pI ob_71 4 rfl fun j => by simpa using jgetD_all (fs := [76, 0, 0, 77, 0, 78, 79, 80, 81, 0, 82, 83, 84, 0, 0, 85, 86, 87, 88, 89, 0, 1, 0, 0, 90, 0, 91, 92, 0, 0, 0, 93, 0, 94, 95, 96, 97, 0, 0]) (q := fun a => a != 2 && a != 3) rfl rfl j
theorem fl_71_5 {C : Nat → Nat → Int32} {z : Nat → Int64} {P : Value → Prop} : jfld (memS 94 C z) 71 7 5 P = P (.ref 74) := jobj_ld ob_71 5
theorem fl_71_6 {C : Nat → Nat → Int32} {z : Nat → Int64} {P : Value → Prop} : jfld (memS 94 C z) 71 7 6 P = P (.ref 75) := jobj_ld ob_71 6
theorem fl_71_7 {C : Nat → Nat → Int32} {z : Nat → Int64} {P : Value → Prop} : jfld (memS 94 C z) 71 7 7 P = P (.ref 76) := jobj_ld ob_71 7
theorem fl_71_8 {C : Nat → Nat → Int32} {z : Nat → Int64} {P : Value → Prop} : jfld (memS 94 C z) 71 7 8 P = P (.ref 77) := jobj_ld ob_71 8
theorem fl_71_9 {C : Nat → Nat → Int32} {z : Nat → Int64} {P : Value → Prop} : jfld (memS 94 C z) 71 7 9 P = P (.int (C 71 9)) := jobj_ld ob_71 9
theorem fp_71_9 {C : Nat → Nat → Int32} {z : Nat → Int64} {x : Int32} {P : jM → Prop} : jput (memS 94 C z) 71 7 9 (.int x) P = P (memS 94 (hrow C 71 (upd (C 71) 9 x)) z) := jobj_pI ob_71 9 rfl fun j => by simpa using jgetD_all (fs := [76, 0, 0, 77, 0, 78, 79, 80, 81, 0, 82, 83, 84, 0, 0, 85, 86, 87, 88, 89, 0, 1, 0, 0, 90, 0, 91, 92, 0, 0, 0, 93, 0, 94, 95, 96, 97, 0, 0]) (q := fun a => a != 2 && a != 3) rfl rfl j
theorem fl_71_10 {C : Nat → Nat → Int32} {z : Nat → Int64} {P : Value → Prop} : jfld (memS 94 C z) 71 7 10 P = P (.ref 78) := jobj_ld ob_71 10
theorem fl_71_11 {C : Nat → Nat → Int32} {z : Nat → Int64} {P : Value → Prop} : jfld (memS 94 C z) 71 7 11 P = P (.ref 79) := jobj_ld ob_71 11
theorem fl_71_12 {C : Nat → Nat → Int32} {z : Nat → Int64} {P : Value → Prop} : jfld (memS 94 C z) 71 7 12 P = P (.ref 80) := jobj_ld ob_71 12
theorem fl_71_13 {C : Nat → Nat → Int32} {z : Nat → Int64} {P : Value → Prop} : jfld (memS 94 C z) 71 7 13 P = P (.int (C 71 13)) := jobj_ld ob_71 13
theorem fp_71_13 {C : Nat → Nat → Int32} {z : Nat → Int64} {x : Int32} {P : jM → Prop} : jput (memS 94 C z) 71 7 13 (.int x) P = P (memS 94 (hrow C 71 (upd (C 71) 13 x)) z) := jobj_pI ob_71 13 rfl fun j => by simpa using jgetD_all (fs := [76, 0, 0, 77, 0, 78, 79, 80, 81, 0, 82, 83, 84, 0, 0, 85, 86, 87, 88, 89, 0, 1, 0, 0, 90, 0, 91, 92, 0, 0, 0, 93, 0, 94, 95, 96, 97, 0, 0]) (q := fun a => a != 2 && a != 3) rfl rfl j
theorem fl_71_14 {C : Nat → Nat → Int32} {z : Nat → Int64} {P : Value → Prop} : jfld (memS 94 C z) 71 7 14 P = P (.int (C 71 14)) := jobj_ld ob_71 14
theorem fp_71_14 {C : Nat → Nat → Int32} {z : Nat → Int64} {x : Int32} {P : jM → Prop} : jput (memS 94 C z) 71 7 14 (.int x) P = P (memS 94 (hrow C 71 (upd (C 71) 14 x)) z) := jobj_pI ob_71 14 rfl fun j => by simpa using jgetD_all (fs := [76, 0, 0, 77, 0, 78, 79, 80, 81, 0, 82, 83, 84, 0, 0, 85, 86, 87, 88, 89, 0, 1, 0, 0, 90, 0, 91, 92, 0, 0, 0, 93, 0, 94, 95, 96, 97, 0, 0]) (q := fun a => a != 2 && a != 3) rfl rfl j
theorem fl_71_15 {C : Nat → Nat → Int32} {z : Nat → Int64} {P : Value → Prop} : jfld (memS 94 C z) 71 7 15 P = P (.ref 81) := jobj_ld ob_71 15
theorem fl_71_16 {C : Nat → Nat → Int32} {z : Nat → Int64} {P : Value → Prop} : jfld (memS 94 C z) 71 7 16 P = P (.ref 82) := jobj_ld ob_71 16
theorem fl_71_17 {C : Nat → Nat → Int32} {z : Nat → Int64} {P : Value → Prop} : jfld (memS 94 C z) 71 7 17 P = P (.ref 83) := jobj_ld ob_71 17
theorem fl_71_18 {C : Nat → Nat → Int32} {z : Nat → Int64} {P : Value → Prop} : jfld (memS 94 C z) 71 7 18 P = P (.ref 84) := jobj_ld ob_71 18
theorem fl_71_19 {C : Nat → Nat → Int32} {z : Nat → Int64} {P : Value → Prop} : jfld (memS 94 C z) 71 7 19 P = P (.ref 85) := jobj_ld ob_71 19
theorem fl_71_20 {C : Nat → Nat → Int32} {z : Nat → Int64} {P : Value → Prop} : jfld (memS 94 C z) 71 7 20 P = P (.int (C 71 20)) := jobj_ld ob_71 20
theorem fp_71_20 {C : Nat → Nat → Int32} {z : Nat → Int64} {x : Int32} {P : jM → Prop} : jput (memS 94 C z) 71 7 20 (.int x) P = P (memS 94 (hrow C 71 (upd (C 71) 20 x)) z) := jobj_pI ob_71 20 rfl fun j => by simpa using jgetD_all (fs := [76, 0, 0, 77, 0, 78, 79, 80, 81, 0, 82, 83, 84, 0, 0, 85, 86, 87, 88, 89, 0, 1, 0, 0, 90, 0, 91, 92, 0, 0, 0, 93, 0, 94, 95, 96, 97, 0, 0]) (q := fun a => a != 2 && a != 3) rfl rfl j
theorem fl_71_21 {C : Nat → Nat → Int32} {z : Nat → Int64} {P : Value → Prop} : jfld (memS 94 C z) 71 7 21 P = P (.long (z 71)) := jobj_ld ob_71 21
theorem fp_71_21 {C : Nat → Nat → Int32} {z : Nat → Int64} {x : Int64} {P : jM → Prop} : jput (memS 94 C z) 71 7 21 (.long x) P = P (memS 94 C (zput z 71 x)) := jobj_pJ ob_71 21 rfl fun j hj => by
  have h1 : j < 39 := by
    rcases Nat.lt_or_ge j 39 with h | h
    · exact h
    · rw [List.getD_eq_getElem?_getD, List.getElem?_eq_none (by exact h)] at hj; simp at hj
  have : ∀ j, j < 39 → [76, 0, 0, 77, 0, 78, 79, 80, 81, 0, 82, 83, 84, 0, 0, 85, 86, 87, 88, 89, 0, 1, 0, 0, 90, 0, 91, 92, 0, 0, 0, 93, 0, 94, 95, 96, 97, 0, 0].getD j 2000 = 1 → j = 21 := by decide
  exact this j h1 hj
theorem fl_71_22 {C : Nat → Nat → Int32} {z : Nat → Int64} {P : Value → Prop} : jfld (memS 94 C z) 71 7 22 P = P (.int (C 71 22)) := jobj_ld ob_71 22
theorem fp_71_22 {C : Nat → Nat → Int32} {z : Nat → Int64} {x : Int32} {P : jM → Prop} : jput (memS 94 C z) 71 7 22 (.int x) P = P (memS 94 (hrow C 71 (upd (C 71) 22 x)) z) := jobj_pI ob_71 22 rfl fun j => by simpa using jgetD_all (fs := [76, 0, 0, 77, 0, 78, 79, 80, 81, 0, 82, 83, 84, 0, 0, 85, 86, 87, 88, 89, 0, 1, 0, 0, 90, 0, 91, 92, 0, 0, 0, 93, 0, 94, 95, 96, 97, 0, 0]) (q := fun a => a != 2 && a != 3) rfl rfl j
theorem fl_71_23 {C : Nat → Nat → Int32} {z : Nat → Int64} {P : Value → Prop} : jfld (memS 94 C z) 71 7 23 P = P (.int (C 71 23)) := jobj_ld ob_71 23
theorem fp_71_23 {C : Nat → Nat → Int32} {z : Nat → Int64} {x : Int32} {P : jM → Prop} : jput (memS 94 C z) 71 7 23 (.int x) P = P (memS 94 (hrow C 71 (upd (C 71) 23 x)) z) := jobj_pI ob_71 23 rfl fun j => by simpa using jgetD_all (fs := [76, 0, 0, 77, 0, 78, 79, 80, 81, 0, 82, 83, 84, 0, 0, 85, 86, 87, 88, 89, 0, 1, 0, 0, 90, 0, 91, 92, 0, 0, 0, 93, 0, 94, 95, 96, 97, 0, 0]) (q := fun a => a != 2 && a != 3) rfl rfl j
theorem fl_71_24 {C : Nat → Nat → Int32} {z : Nat → Int64} {P : Value → Prop} : jfld (memS 94 C z) 71 7 24 P = P (.ref 86) := jobj_ld ob_71 24
theorem fl_71_25 {C : Nat → Nat → Int32} {z : Nat → Int64} {P : Value → Prop} : jfld (memS 94 C z) 71 7 25 P = P (.int (C 71 25)) := jobj_ld ob_71 25
theorem fp_71_25 {C : Nat → Nat → Int32} {z : Nat → Int64} {x : Int32} {P : jM → Prop} : jput (memS 94 C z) 71 7 25 (.int x) P = P (memS 94 (hrow C 71 (upd (C 71) 25 x)) z) := jobj_pI ob_71 25 rfl fun j => by simpa using jgetD_all (fs := [76, 0, 0, 77, 0, 78, 79, 80, 81, 0, 82, 83, 84, 0, 0, 85, 86, 87, 88, 89, 0, 1, 0, 0, 90, 0, 91, 92, 0, 0, 0, 93, 0, 94, 95, 96, 97, 0, 0]) (q := fun a => a != 2 && a != 3) rfl rfl j
theorem fl_71_26 {C : Nat → Nat → Int32} {z : Nat → Int64} {P : Value → Prop} : jfld (memS 94 C z) 71 7 26 P = P (.ref 87) := jobj_ld ob_71 26
theorem fl_71_27 {C : Nat → Nat → Int32} {z : Nat → Int64} {P : Value → Prop} : jfld (memS 94 C z) 71 7 27 P = P (.ref 88) := jobj_ld ob_71 27
theorem fl_71_28 {C : Nat → Nat → Int32} {z : Nat → Int64} {P : Value → Prop} : jfld (memS 94 C z) 71 7 28 P = P (.int (C 71 28)) := jobj_ld ob_71 28
theorem fp_71_28 {C : Nat → Nat → Int32} {z : Nat → Int64} {x : Int32} {P : jM → Prop} : jput (memS 94 C z) 71 7 28 (.int x) P = P (memS 94 (hrow C 71 (upd (C 71) 28 x)) z) := jobj_pI ob_71 28 rfl fun j => by simpa using jgetD_all (fs := [76, 0, 0, 77, 0, 78, 79, 80, 81, 0, 82, 83, 84, 0, 0, 85, 86, 87, 88, 89, 0, 1, 0, 0, 90, 0, 91, 92, 0, 0, 0, 93, 0, 94, 95, 96, 97, 0, 0]) (q := fun a => a != 2 && a != 3) rfl rfl j
theorem fl_71_29 {C : Nat → Nat → Int32} {z : Nat → Int64} {P : Value → Prop} : jfld (memS 94 C z) 71 7 29 P = P (.int (C 71 29)) := jobj_ld ob_71 29
theorem fp_71_29 {C : Nat → Nat → Int32} {z : Nat → Int64} {x : Int32} {P : jM → Prop} : jput (memS 94 C z) 71 7 29 (.int x) P = P (memS 94 (hrow C 71 (upd (C 71) 29 x)) z) := jobj_pI ob_71 29 rfl fun j => by simpa using jgetD_all (fs := [76, 0, 0, 77, 0, 78, 79, 80, 81, 0, 82, 83, 84, 0, 0, 85, 86, 87, 88, 89, 0, 1, 0, 0, 90, 0, 91, 92, 0, 0, 0, 93, 0, 94, 95, 96, 97, 0, 0]) (q := fun a => a != 2 && a != 3) rfl rfl j
theorem fl_71_30 {C : Nat → Nat → Int32} {z : Nat → Int64} {P : Value → Prop} : jfld (memS 94 C z) 71 7 30 P = P (.int (C 71 30)) := jobj_ld ob_71 30
theorem fp_71_30 {C : Nat → Nat → Int32} {z : Nat → Int64} {x : Int32} {P : jM → Prop} : jput (memS 94 C z) 71 7 30 (.int x) P = P (memS 94 (hrow C 71 (upd (C 71) 30 x)) z) := jobj_pI ob_71 30 rfl fun j => by simpa using jgetD_all (fs := [76, 0, 0, 77, 0, 78, 79, 80, 81, 0, 82, 83, 84, 0, 0, 85, 86, 87, 88, 89, 0, 1, 0, 0, 90, 0, 91, 92, 0, 0, 0, 93, 0, 94, 95, 96, 97, 0, 0]) (q := fun a => a != 2 && a != 3) rfl rfl j
theorem fl_71_31 {C : Nat → Nat → Int32} {z : Nat → Int64} {P : Value → Prop} : jfld (memS 94 C z) 71 7 31 P = P (.ref 89) := jobj_ld ob_71 31
theorem fl_71_32 {C : Nat → Nat → Int32} {z : Nat → Int64} {P : Value → Prop} : jfld (memS 94 C z) 71 7 32 P = P (.int (C 71 32)) := jobj_ld ob_71 32
theorem fp_71_32 {C : Nat → Nat → Int32} {z : Nat → Int64} {x : Int32} {P : jM → Prop} : jput (memS 94 C z) 71 7 32 (.int x) P = P (memS 94 (hrow C 71 (upd (C 71) 32 x)) z) := jobj_pI ob_71 32 rfl fun j => by simpa using jgetD_all (fs := [76, 0, 0, 77, 0, 78, 79, 80, 81, 0, 82, 83, 84, 0, 0, 85, 86, 87, 88, 89, 0, 1, 0, 0, 90, 0, 91, 92, 0, 0, 0, 93, 0, 94, 95, 96, 97, 0, 0]) (q := fun a => a != 2 && a != 3) rfl rfl j
theorem fl_71_33 {C : Nat → Nat → Int32} {z : Nat → Int64} {P : Value → Prop} : jfld (memS 94 C z) 71 7 33 P = P (.ref 90) := jobj_ld ob_71 33
theorem fl_71_34 {C : Nat → Nat → Int32} {z : Nat → Int64} {P : Value → Prop} : jfld (memS 94 C z) 71 7 34 P = P (.ref 91) := jobj_ld ob_71 34
theorem fl_71_35 {C : Nat → Nat → Int32} {z : Nat → Int64} {P : Value → Prop} : jfld (memS 94 C z) 71 7 35 P = P (.ref 92) := jobj_ld ob_71 35
theorem fl_71_36 {C : Nat → Nat → Int32} {z : Nat → Int64} {P : Value → Prop} : jfld (memS 94 C z) 71 7 36 P = P (.ref 93) := jobj_ld ob_71 36
theorem fl_71_37 {C : Nat → Nat → Int32} {z : Nat → Int64} {P : Value → Prop} : jfld (memS 94 C z) 71 7 37 P = P (.int (C 71 37)) := jobj_ld ob_71 37
theorem fp_71_37 {C : Nat → Nat → Int32} {z : Nat → Int64} {x : Int32} {P : jM → Prop} : jput (memS 94 C z) 71 7 37 (.int x) P = P (memS 94 (hrow C 71 (upd (C 71) 37 x)) z) := jobj_pI ob_71 37 rfl fun j => by simpa using jgetD_all (fs := [76, 0, 0, 77, 0, 78, 79, 80, 81, 0, 82, 83, 84, 0, 0, 85, 86, 87, 88, 89, 0, 1, 0, 0, 90, 0, 91, 92, 0, 0, 0, 93, 0, 94, 95, 96, 97, 0, 0]) (q := fun a => a != 2 && a != 3) rfl rfl j
theorem fl_71_38 {C : Nat → Nat → Int32} {z : Nat → Int64} {P : Value → Prop} : jfld (memS 94 C z) 71 7 38 P = P (.int (C 71 38)) := jobj_ld ob_71 38
theorem fp_71_38 {C : Nat → Nat → Int32} {z : Nat → Int64} {x : Int32} {P : jM → Prop} : jput (memS 94 C z) 71 7 38 (.int x) P = P (memS 94 (hrow C 71 (upd (C 71) 38 x)) z) := jobj_pI ob_71 38 rfl fun j => by simpa using jgetD_all (fs := [76, 0, 0, 77, 0, 78, 79, 80, 81, 0, 82, 83, 84, 0, 0, 85, 86, 87, 88, 89, 0, 1, 0, 0, 90, 0, 91, 92, 0, 0, 0, 93, 0, 94, 95, 96, 97, 0, 0]) (q := fun a => a != 2 && a != 3) rfl rfl j
theorem ow_72 : jOwn 72 70 false 94 := ⟨by decide, by decide, rfl, rfl, rfl⟩
theorem al_72 {C : Nat → Nat → Int32} {z : Nat → Int64} {i : Int32} {P : Int32 → Prop} : jald (memS 94 C z) 72 false i P = (vp_in i 70 ∧ P (C 72 i.toNatClampNeg)) := jown_ld ow_72
theorem as_72 {C : Nat → Nat → Int32} {z : Nat → Int64} {i x : Int32} {P : jM → Prop} : jast (memS 94 C z) 72 false i x P = (vp_in i 70 ∧ P (memS 94 (hrow C 72 (upd (C 72) i.toNatClampNeg x)) z)) := jown_st ow_72
theorem ow_73 : jOwn 73 4 false 94 := ⟨by decide, by decide, rfl, rfl, rfl⟩
theorem al_73 {C : Nat → Nat → Int32} {z : Nat → Int64} {i : Int32} {P : Int32 → Prop} : jald (memS 94 C z) 73 false i P = (vp_in i 4 ∧ P (C 73 i.toNatClampNeg)) := jown_ld ow_73
theorem as_73 {C : Nat → Nat → Int32} {z : Nat → Int64} {i x : Int32} {P : jM → Prop} : jast (memS 94 C z) 73 false i x P = (vp_in i 4 ∧ P (memS 94 (hrow C 73 (upd (C 73) i.toNatClampNeg x)) z)) := jown_st ow_73
theorem ow_74 : jOwn 74 6 false 94 := ⟨by decide, by decide, rfl, rfl, rfl⟩
theorem al_74 {C : Nat → Nat → Int32} {z : Nat → Int64} {i : Int32} {P : Int32 → Prop} : jald (memS 94 C z) 74 false i P = (vp_in i 6 ∧ P (C 74 i.toNatClampNeg)) := jown_ld ow_74
theorem as_74 {C : Nat → Nat → Int32} {z : Nat → Int64} {i x : Int32} {P : jM → Prop} : jast (memS 94 C z) 74 false i x P = (vp_in i 6 ∧ P (memS 94 (hrow C 74 (upd (C 74) i.toNatClampNeg x)) z)) := jown_st ow_74
theorem ow_75 : jOwn 75 6 false 94 := ⟨by decide, by decide, rfl, rfl, rfl⟩
theorem al_75 {C : Nat → Nat → Int32} {z : Nat → Int64} {i : Int32} {P : Int32 → Prop} : jald (memS 94 C z) 75 false i P = (vp_in i 6 ∧ P (C 75 i.toNatClampNeg)) := jown_ld ow_75
theorem as_75 {C : Nat → Nat → Int32} {z : Nat → Int64} {i x : Int32} {P : jM → Prop} : jast (memS 94 C z) 75 false i x P = (vp_in i 6 ∧ P (memS 94 (hrow C 75 (upd (C 75) i.toNatClampNeg x)) z)) := jown_st ow_75
theorem ow_76 : jOwn 76 6 false 94 := ⟨by decide, by decide, rfl, rfl, rfl⟩
theorem al_76 {C : Nat → Nat → Int32} {z : Nat → Int64} {i : Int32} {P : Int32 → Prop} : jald (memS 94 C z) 76 false i P = (vp_in i 6 ∧ P (C 76 i.toNatClampNeg)) := jown_ld ow_76
theorem as_76 {C : Nat → Nat → Int32} {z : Nat → Int64} {i x : Int32} {P : jM → Prop} : jast (memS 94 C z) 76 false i x P = (vp_in i 6 ∧ P (memS 94 (hrow C 76 (upd (C 76) i.toNatClampNeg x)) z)) := jown_st ow_76
theorem ow_77 : jOwn 77 6 false 94 := ⟨by decide, by decide, rfl, rfl, rfl⟩
theorem al_77 {C : Nat → Nat → Int32} {z : Nat → Int64} {i : Int32} {P : Int32 → Prop} : jald (memS 94 C z) 77 false i P = (vp_in i 6 ∧ P (C 77 i.toNatClampNeg)) := jown_ld ow_77
theorem as_77 {C : Nat → Nat → Int32} {z : Nat → Int64} {i x : Int32} {P : jM → Prop} : jast (memS 94 C z) 77 false i x P = (vp_in i 6 ∧ P (memS 94 (hrow C 77 (upd (C 77) i.toNatClampNeg x)) z)) := jown_st ow_77
theorem ow_78 : jOwn 78 40 false 94 := ⟨by decide, by decide, rfl, rfl, rfl⟩
theorem al_78 {C : Nat → Nat → Int32} {z : Nat → Int64} {i : Int32} {P : Int32 → Prop} : jald (memS 94 C z) 78 false i P = (vp_in i 40 ∧ P (C 78 i.toNatClampNeg)) := jown_ld ow_78
theorem as_78 {C : Nat → Nat → Int32} {z : Nat → Int64} {i x : Int32} {P : jM → Prop} : jast (memS 94 C z) 78 false i x P = (vp_in i 40 ∧ P (memS 94 (hrow C 78 (upd (C 78) i.toNatClampNeg x)) z)) := jown_st ow_78
theorem ow_79 : jOwn 79 40 false 94 := ⟨by decide, by decide, rfl, rfl, rfl⟩
theorem al_79 {C : Nat → Nat → Int32} {z : Nat → Int64} {i : Int32} {P : Int32 → Prop} : jald (memS 94 C z) 79 false i P = (vp_in i 40 ∧ P (C 79 i.toNatClampNeg)) := jown_ld ow_79
theorem as_79 {C : Nat → Nat → Int32} {z : Nat → Int64} {i x : Int32} {P : jM → Prop} : jast (memS 94 C z) 79 false i x P = (vp_in i 40 ∧ P (memS 94 (hrow C 79 (upd (C 79) i.toNatClampNeg x)) z)) := jown_st ow_79
theorem ow_80 : jOwn 80 560 false 94 := ⟨by decide, by decide, rfl, rfl, rfl⟩
theorem al_80 {C : Nat → Nat → Int32} {z : Nat → Int64} {i : Int32} {P : Int32 → Prop} : jald (memS 94 C z) 80 false i P = (vp_in i 560 ∧ P (C 80 i.toNatClampNeg)) := jown_ld ow_80
theorem as_80 {C : Nat → Nat → Int32} {z : Nat → Int64} {i x : Int32} {P : jM → Prop} : jast (memS 94 C z) 80 false i x P = (vp_in i 560 ∧ P (memS 94 (hrow C 80 (upd (C 80) i.toNatClampNeg x)) z)) := jown_st ow_80
theorem ow_81 : jOwn 81 80 false 94 := ⟨by decide, by decide, rfl, rfl, rfl⟩
theorem al_81 {C : Nat → Nat → Int32} {z : Nat → Int64} {i : Int32} {P : Int32 → Prop} : jald (memS 94 C z) 81 false i P = (vp_in i 80 ∧ P (C 81 i.toNatClampNeg)) := jown_ld ow_81
theorem as_81 {C : Nat → Nat → Int32} {z : Nat → Int64} {i x : Int32} {P : jM → Prop} : jast (memS 94 C z) 81 false i x P = (vp_in i 80 ∧ P (memS 94 (hrow C 81 (upd (C 81) i.toNatClampNeg x)) z)) := jown_st ow_81
theorem ow_82 : jOwn 82 2 true 94 := ⟨by decide, by decide, rfl, rfl, rfl⟩
theorem al_82 {C : Nat → Nat → Int32} {z : Nat → Int64} {i : Int32} {P : Int32 → Prop} : jald (memS 94 C z) 82 true i P = (vp_in i 2 ∧ P (C 82 i.toNatClampNeg)) := jown_ld ow_82
theorem as_82 {C : Nat → Nat → Int32} {z : Nat → Int64} {i x : Int32} {P : jM → Prop} : jast (memS 94 C z) 82 true i x P = (vp_in i 2 ∧ P (memS 94 (hrow C 82 (upd (C 82) i.toNatClampNeg x)) z)) := jown_st ow_82
theorem ow_83 : jOwn 83 6 false 94 := ⟨by decide, by decide, rfl, rfl, rfl⟩
theorem al_83 {C : Nat → Nat → Int32} {z : Nat → Int64} {i : Int32} {P : Int32 → Prop} : jald (memS 94 C z) 83 false i P = (vp_in i 6 ∧ P (C 83 i.toNatClampNeg)) := jown_ld ow_83
theorem as_83 {C : Nat → Nat → Int32} {z : Nat → Int64} {i x : Int32} {P : jM → Prop} : jast (memS 94 C z) 83 false i x P = (vp_in i 6 ∧ P (memS 94 (hrow C 83 (upd (C 83) i.toNatClampNeg x)) z)) := jown_st ow_83
theorem ow_84 : jOwn 84 6 false 94 := ⟨by decide, by decide, rfl, rfl, rfl⟩
theorem al_84 {C : Nat → Nat → Int32} {z : Nat → Int64} {i : Int32} {P : Int32 → Prop} : jald (memS 94 C z) 84 false i P = (vp_in i 6 ∧ P (C 84 i.toNatClampNeg)) := jown_ld ow_84
theorem as_84 {C : Nat → Nat → Int32} {z : Nat → Int64} {i x : Int32} {P : jM → Prop} : jast (memS 94 C z) 84 false i x P = (vp_in i 6 ∧ P (memS 94 (hrow C 84 (upd (C 84) i.toNatClampNeg x)) z)) := jown_st ow_84
theorem ow_85 : jOwn 85 6 false 94 := ⟨by decide, by decide, rfl, rfl, rfl⟩
theorem al_85 {C : Nat → Nat → Int32} {z : Nat → Int64} {i : Int32} {P : Int32 → Prop} : jald (memS 94 C z) 85 false i P = (vp_in i 6 ∧ P (C 85 i.toNatClampNeg)) := jown_ld ow_85
theorem as_85 {C : Nat → Nat → Int32} {z : Nat → Int64} {i x : Int32} {P : jM → Prop} : jast (memS 94 C z) 85 false i x P = (vp_in i 6 ∧ P (memS 94 (hrow C 85 (upd (C 85) i.toNatClampNeg x)) z)) := jown_st ow_85
theorem ow_86 : jOwn 86 4 false 94 := ⟨by decide, by decide, rfl, rfl, rfl⟩
theorem al_86 {C : Nat → Nat → Int32} {z : Nat → Int64} {i : Int32} {P : Int32 → Prop} : jald (memS 94 C z) 86 false i P = (vp_in i 4 ∧ P (C 86 i.toNatClampNeg)) := jown_ld ow_86
theorem as_86 {C : Nat → Nat → Int32} {z : Nat → Int64} {i x : Int32} {P : jM → Prop} : jast (memS 94 C z) 86 false i x P = (vp_in i 4 ∧ P (memS 94 (hrow C 86 (upd (C 86) i.toNatClampNeg x)) z)) := jown_st ow_86
theorem ow_87 : jOwn 87 4 false 94 := ⟨by decide, by decide, rfl, rfl, rfl⟩
theorem al_87 {C : Nat → Nat → Int32} {z : Nat → Int64} {i : Int32} {P : Int32 → Prop} : jald (memS 94 C z) 87 false i P = (vp_in i 4 ∧ P (C 87 i.toNatClampNeg)) := jown_ld ow_87
theorem as_87 {C : Nat → Nat → Int32} {z : Nat → Int64} {i x : Int32} {P : jM → Prop} : jast (memS 94 C z) 87 false i x P = (vp_in i 4 ∧ P (memS 94 (hrow C 87 (upd (C 87) i.toNatClampNeg x)) z)) := jown_st ow_87
theorem ow_88 : jOwn 88 16 false 94 := ⟨by decide, by decide, rfl, rfl, rfl⟩
theorem al_88 {C : Nat → Nat → Int32} {z : Nat → Int64} {i : Int32} {P : Int32 → Prop} : jald (memS 94 C z) 88 false i P = (vp_in i 16 ∧ P (C 88 i.toNatClampNeg)) := jown_ld ow_88
theorem as_88 {C : Nat → Nat → Int32} {z : Nat → Int64} {i x : Int32} {P : jM → Prop} : jast (memS 94 C z) 88 false i x P = (vp_in i 16 ∧ P (memS 94 (hrow C 88 (upd (C 88) i.toNatClampNeg x)) z)) := jown_st ow_88
theorem ow_89 : jOwn 89 4 false 94 := ⟨by decide, by decide, rfl, rfl, rfl⟩
theorem al_89 {C : Nat → Nat → Int32} {z : Nat → Int64} {i : Int32} {P : Int32 → Prop} : jald (memS 94 C z) 89 false i P = (vp_in i 4 ∧ P (C 89 i.toNatClampNeg)) := jown_ld ow_89
theorem as_89 {C : Nat → Nat → Int32} {z : Nat → Int64} {i x : Int32} {P : jM → Prop} : jast (memS 94 C z) 89 false i x P = (vp_in i 4 ∧ P (memS 94 (hrow C 89 (upd (C 89) i.toNatClampNeg x)) z)) := jown_st ow_89
theorem ow_90 : jOwn 90 6 false 94 := ⟨by decide, by decide, rfl, rfl, rfl⟩
theorem al_90 {C : Nat → Nat → Int32} {z : Nat → Int64} {i : Int32} {P : Int32 → Prop} : jald (memS 94 C z) 90 false i P = (vp_in i 6 ∧ P (C 90 i.toNatClampNeg)) := jown_ld ow_90
theorem as_90 {C : Nat → Nat → Int32} {z : Nat → Int64} {i x : Int32} {P : jM → Prop} : jast (memS 94 C z) 90 false i x P = (vp_in i 6 ∧ P (memS 94 (hrow C 90 (upd (C 90) i.toNatClampNeg x)) z)) := jown_st ow_90
theorem ow_91 : jOwn 91 6 false 94 := ⟨by decide, by decide, rfl, rfl, rfl⟩
theorem al_91 {C : Nat → Nat → Int32} {z : Nat → Int64} {i : Int32} {P : Int32 → Prop} : jald (memS 94 C z) 91 false i P = (vp_in i 6 ∧ P (C 91 i.toNatClampNeg)) := jown_ld ow_91
theorem as_91 {C : Nat → Nat → Int32} {z : Nat → Int64} {i x : Int32} {P : jM → Prop} : jast (memS 94 C z) 91 false i x P = (vp_in i 6 ∧ P (memS 94 (hrow C 91 (upd (C 91) i.toNatClampNeg x)) z)) := jown_st ow_91
theorem ow_92 : jOwn 92 6 false 94 := ⟨by decide, by decide, rfl, rfl, rfl⟩
theorem al_92 {C : Nat → Nat → Int32} {z : Nat → Int64} {i : Int32} {P : Int32 → Prop} : jald (memS 94 C z) 92 false i P = (vp_in i 6 ∧ P (C 92 i.toNatClampNeg)) := jown_ld ow_92
theorem as_92 {C : Nat → Nat → Int32} {z : Nat → Int64} {i x : Int32} {P : jM → Prop} : jast (memS 94 C z) 92 false i x P = (vp_in i 6 ∧ P (memS 94 (hrow C 92 (upd (C 92) i.toNatClampNeg x)) z)) := jown_st ow_92
theorem ow_93 : jOwn 93 6 false 94 := ⟨by decide, by decide, rfl, rfl, rfl⟩
theorem al_93 {C : Nat → Nat → Int32} {z : Nat → Int64} {i : Int32} {P : Int32 → Prop} : jald (memS 94 C z) 93 false i P = (vp_in i 6 ∧ P (C 93 i.toNatClampNeg)) := jown_ld ow_93
theorem as_93 {C : Nat → Nat → Int32} {z : Nat → Int64} {i x : Int32} {P : jM → Prop} : jast (memS 94 C z) 93 false i x P = (vp_in i 6 ∧ P (memS 94 (hrow C 93 (upd (C 93) i.toNatClampNeg x)) z)) := jown_st ow_93
theorem js_9 : jSt 9 94 := ⟨rfl, by decide, by decide⟩
theorem js_12 : jSt 12 94 := ⟨rfl, by decide, by decide⟩
theorem js_ring {j : Nat} (h : j < 14) : jSt (17 + 3 * j) 94 := ⟨(show ∀ j, j < 14 → jStB (17 + 3 * j) = true by decide +kernel) j h, by omega, by omega⟩
theorem js_slot {j : Nat} (h : j < 2) : jSt (65 + 3 * j) 94 := ⟨(show ∀ j, j < 2 → jStB (65 + 3 * j) = true by decide +kernel) j h, by omega, by omega⟩
theorem jaldq_ring {C : Nat → Nat → Int32} {z : Nat → Int64} {j : Nat} (hj : j < 14) {P : Option Nat → Prop} : jaldq (memS 94 C z) 16 (nI j) P = P (some (17 + 3 * j)) := by
  unfold jaldq
  rw [show memS 94 C z 16 = jcellR 94 (C 16) (z 16) 16 from memS_lt (by decide)]
  show (vp_in (nI j) 14 ∧ P (bif Nat.blt ([17, 20, 23, 26, 29, 32, 35, 38, 41, 44, 47, 50, 53, 56].getD (nI j).toNatClampNeg 1000) 94 then some ([17, 20, 23, 26, 29, 32, 35, 38, 41, 44, 47, 50, 53, 56].getD (nI j).toNatClampNeg 1000) else none)) = _
  rw [nI_clamp (by omega), (show ∀ j, j < 14 → [17, 20, 23, 26, 29, 32, 35, 38, 41, 44, 47, 50, 53, 56].getD j 1000 = 17 + 3 * j by decide) j hj, Nat.blt_eq.mpr (show 17 + 3 * j < 94 by omega)]
  exact propext ⟨fun q => q.2, fun q => ⟨vp_in_nI hj (by decide), q⟩⟩
theorem jaldq_slot {C : Nat → Nat → Int32} {z : Nat → Int64} {j : Nat} (hj : j < 2) {P : Option Nat → Prop} : jaldq (memS 94 C z) 59 (nI j) P = P (some (65 + 3 * j)) := by
  unfold jaldq
  rw [show memS 94 C z 59 = jcellR 94 (C 59) (z 59) 59 from memS_lt (by decide)]
  show (vp_in (nI j) 2 ∧ P (bif Nat.blt ([65, 68].getD (nI j).toNatClampNeg 1000) 94 then some ([65, 68].getD (nI j).toNatClampNeg 1000) else none)) = _
  rw [nI_clamp (by omega), (show ∀ j, j < 2 → [65, 68].getD j 1000 = 65 + 3 * j by decide) j hj, Nat.blt_eq.mpr (show 65 + 3 * j < 94 by omega)]
  exact propext ⟨fun q => q.2, fun q => ⟨vp_in_nI hj (by decide), q⟩⟩
/-! the site, also while the rest is being made -/
def jD (d : Nat) : Prop := 65 ≤ d ∧ d ≤ 94
theorem jD94 : jD 94 := ⟨by decide, by decide⟩
section SI
variable {d : Nat} {C : Nat → Nat → Int32} {z : Nat → Int64}
theorem ob3d (h : jD d) : jObj 3 3 [8, 9, 0, 0, 0, 0] d := ⟨by have := h.1; omega, h.2, rfl, rfl, rfl⟩
theorem rc_3d (h : jD d) {r : List Value} : jrcv (memS d C z) 3 (.ref 3 :: r) = True := jobj_rc (ob3d h)
theorem fl_3_0d (h : jD d) {P : Value → Prop} : jfld (memS d C z) 3 3 0 P = P (.ref 4) := by
  rw [jobj_ld (ob3d h)]
  show P (bif Nat.blt 4 d then .ref 4 else .null) = _
  rw [Nat.blt_eq.mpr (by have := h.1; omega)]
  rfl
theorem fl_3_1d (h : jD d) {P : Value → Prop} : jfld (memS d C z) 3 3 1 P = P (.ref 5) := by
  rw [jobj_ld (ob3d h)]
  show P (bif Nat.blt 5 d then .ref 5 else .null) = _
  rw [Nat.blt_eq.mpr (by have := h.1; omega)]
  rfl
theorem fl_3_2d (h : jD d) {P : Value → Prop} : jfld (memS d C z) 3 3 2 P = P (.int (C 3 2)) := jobj_ld (ob3d h) 2
theorem fl_3_3d (h : jD d) {P : Value → Prop} : jfld (memS d C z) 3 3 3 P = P (.int (C 3 3)) := jobj_ld (ob3d h) 3
theorem fl_3_4d (h : jD d) {P : Value → Prop} : jfld (memS d C z) 3 3 4 P = P (.int (C 3 4)) := jobj_ld (ob3d h) 4
theorem fl_3_5d (h : jD d) {P : Value → Prop} : jfld (memS d C z) 3 3 5 P = P (.int (C 3 5)) := jobj_ld (ob3d h) 5
theorem al_4d (h : jD d) {i : Int32} {P : Int32 → Prop} : jald (memS d C z) 4 false i P = (vp_in i 4 ∧ P (C 4 i.toNatClampNeg)) := jown_ld ⟨by have := h.1; omega, h.2, rfl, rfl, rfl⟩
theorem al_5d (h : jD d) {i : Int32} {P : Int32 → Prop} : jald (memS d C z) 5 false i P = (vp_in i 24 ∧ P (C 5 i.toNatClampNeg)) := jown_ld ⟨by have := h.1; omega, h.2, rfl, rfl, rfl⟩
end SI

