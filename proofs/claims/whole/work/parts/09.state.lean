/-! ===== the built memory: cell k has a shape, and draws its numbers from the row jrow k ===== -/
def jshp : List (Nat × Nat × List Nat) := [(11, 0, [5, 7, 10, 13, 16, 19, 63, 64, 68, 0, 1]), (10, 0, [6, 0]), (0, 70, []), (8, 0, [8, 9, 0, 0, 0, 0]), (0, 4, []), (0, 24, []), (5, 0, [7, 11, 12]), (0, 4, []), (0, 4, []), (9, 0, [14, 15, 2, 3]), (1, 32, []), (2, 6, []), (9, 0, [17, 18, 2, 3]), (1, 32, []), (2, 6, []), (6, 0, [20, 0, 0]), (4, 14, [17, 20, 23, 26, 29, 32, 35, 38, 41, 44, 47, 50, 53, 56]), (9, 0, [22, 23, 2, 3]), (1, 32, []), (2, 6, []), (9, 0, [25, 26, 2, 3]), (1, 32, []), (2, 6, []), (9, 0, [28, 29, 2, 3]), (1, 32, []), (2, 6, []), (9, 0, [31, 32, 2, 3]), (1, 32, []), (2, 6, []), (9, 0, [34, 35, 2, 3]), (1, 32, []), (2, 6, []), (9, 0, [37, 38, 2, 3]), (1, 32, []), (2, 6, []), (9, 0, [40, 41, 2, 3]), (1, 32, []), (2, 6, []), (9, 0, [43, 44, 2, 3]), (1, 32, []), (2, 6, []), (9, 0, [46, 47, 2, 3]), (1, 32, []), (2, 6, []), (9, 0, [49, 50, 2, 3]), (1, 32, []), (2, 6, []), (9, 0, [52, 53, 2, 3]), (1, 32, []), (2, 6, []), (9, 0, [55, 56, 2, 3]), (1, 32, []), (2, 6, []), (9, 0, [58, 59, 2, 3]), (1, 32, []), (2, 6, []), (9, 0, [61, 62, 2, 3]), (1, 32, []), (2, 6, []), (4, 2, [65, 68]), (7, 0, [65, 66, 67, 0]), (0, 6, []), (0, 6, []), (0, 6, []), (0, 9, []), (9, 0, [70, 71, 2, 3]), (1, 32, []), (2, 6, []), (9, 0, [73, 74, 2, 3]), (1, 32, []), (2, 6, []), (12, 0, [76, 0, 0, 77, 0, 78, 79, 80, 81, 0, 82, 83, 84, 0, 0, 85, 86, 87, 88, 89, 0, 1, 0, 0, 90, 0, 91, 92, 0, 0, 0, 93, 0, 94, 95, 96, 97, 0, 0]), (0, 70, []), (0, 4, []), (0, 6, []), (0, 6, []), (0, 6, []), (0, 6, []), (0, 40, []), (0, 40, []), (0, 560, []), (0, 80, []), (3, 2, []), (0, 6, []), (0, 6, []), (0, 6, []), (0, 4, []), (0, 4, []), (0, 16, []), (0, 4, []), (0, 6, []), (0, 6, []), (0, 6, []), (0, 6, [])]
def jrowL : List Nat := [0, 1, 2, 3, 4, 5, 6, 7, 8, 9, 9, 9, 12, 12, 12, 15, 16, 17, 17, 17, 20, 20, 20, 23, 23, 23, 26, 26, 26, 29, 29, 29, 32, 32, 32, 35, 35, 35, 38, 38, 38, 41, 41, 41, 44, 44, 44, 47, 47, 47, 50, 50, 50, 53, 53, 53, 56, 56, 56, 59, 60, 61, 62, 63, 64, 65, 65, 65, 68, 68, 68, 71, 72, 73, 74, 75, 76, 77, 78, 79, 80, 81, 82, 83, 84, 85, 86, 87, 88, 89, 90, 91, 92, 93]
def jrow (k : Nat) : Nat := jrowL.getD k k
def cellsOf (ρ : Nat → Int32) : Nat → Int32 := fun k => if k < 32 then ρ (4 * (k % 8) + k / 8) else 0
def restOf (ρ : Nat → Int32) : Nat → Int32 := fun k => if k < 6 then ρ (32 + k) else 0
def jfv (d : Nat) (ρ : Nat → Int32) (y : Int64) (code i : Nat) : Value := match code with
  | 0 => .int (ρ i)
  | 1 => .long y
  | 2 => .int (ρ 38)
  | 3 => .int (ρ 39)
  | t + 4 => bif Nat.blt t d then .ref t else .null
def jcellS (d : Nat) (ρ : Nat → Int32) (y : Int64) (e : Nat × Nat × List Nat) : jE := match e with
  | (0, n, _) => .inl (false, n, ρ)
  | (1, n, _) => .inl (false, n, cellsOf ρ)
  | (2, n, _) => .inl (false, n, restOf ρ)
  | (3, n, _) => .inl (true, n, ρ)
  | (4, n, ts) => .inr (.inl (n, fun i => bif Nat.blt (ts.getD i 1000) d then some (ts.getD i 1000) else none))
  | (c + 5, _, fs) => .inr (.inr (c, fun i => jfv d ρ y (fs.getD i 2000) i))
def jcellR (d : Nat) (ρ : Nat → Int32) (y : Int64) (k : Nat) : Option jE := match jshp[k]? with
  | some e => some (jcellS d ρ y e)
  | none => none
def memS (d : Nat) (C : Nat → Nat → Int32) (z : Nat → Int64) : jM := fun k => bif Nat.blt k d then jcellR d (C (jrow k)) (z k) k else none
def hrow (C : Nat → Nat → Int32) (a : Nat) (f : Nat → Int32) : Nat → Nat → Int32 := fun b => if b = a then f else C b
def zput (z : Nat → Int64) (a : Nat) (x : Int64) : Nat → Int64 := fun b => if b = a then x else z b
theorem hrow_s {C : Nat → Nat → Int32} {a : Nat} {f : Nat → Int32} : hrow C a f a = f := by unfold hrow; rw [if_pos rfl]
theorem hrow_n {C : Nat → Nat → Int32} {a b : Nat} {f : Nat → Int32} (h : b ≠ a) : hrow C a f b = C b := by unfold hrow; rw [if_neg h]
theorem hrow_hrow {C : Nat → Nat → Int32} {a : Nat} {f g : Nat → Int32} : hrow (hrow C a f) a g = hrow C a g := by
  funext b; unfold hrow; by_cases h : b = a
  · rw [if_pos h, if_pos h]
  · rw [if_neg h, if_neg h, if_neg h]
theorem hrow_self {C : Nat → Nat → Int32} {a : Nat} : hrow C a (C a) = C := by
  funext b; unfold hrow; by_cases h : b = a
  · rw [if_pos h, h]
  · rw [if_neg h]
theorem hrow_swap {C : Nat → Nat → Int32} {a b : Nat} {f g : Nat → Int32} (h : a ≠ b) : hrow (hrow C a f) b g = hrow (hrow C b g) a f := by
  funext c; unfold hrow
  by_cases h1 : c = a <;> by_cases h2 : c = b
  · exact absurd (h1.symm.trans h2) h
  · rw [if_neg h2, if_pos h1, if_pos h1]
  · rw [if_pos h2, if_neg h1, if_pos h2]
  · rw [if_neg h2, if_neg h1, if_neg h1, if_neg h2]
theorem memS_lt {d k : Nat} {C : Nat → Nat → Int32} {z : Nat → Int64} (h : k < d) : memS d C z k = jcellR d (C (jrow k)) (z k) k := by
  unfold memS
  rw [Nat.blt_eq.mpr h]
  rfl
theorem memS_ge {d k : Nat} {C : Nat → Nat → Int32} {z : Nat → Int64} (h : d ≤ k) : memS d C z k = none := by
  unfold memS
  cases hb : Nat.blt k d with
  | true => exact absurd (Nat.blt_eq.mp hb) (by omega)
  | false => rfl
theorem jshp_len : jshp.length = 94 := rfl
/-- changing one cell, where the row that it draws from is drawn from by no other cell but those that say the same of it -/
theorem memS_jup {d k a : Nat} {C : Nat → Nat → Int32} {z : Nat → Int64} {e : jE} {f : Nat → Int32} (hk : k < d) (h1 : jcellR d f (z k) k = some e) (hr : jrow k = a)
    (h2 : ∀ j, j < d → j ≠ k → jrow j = a → jcellR d f (z j) j = jcellR d (C a) (z j) j) : jup (memS d C z) k e = memS d (hrow C a f) z := by
  funext j
  unfold jup
  by_cases hj : j = k
  · subst hj
    rw [if_pos rfl, memS_lt hk, hr, hrow_s, h1]
  · rw [if_neg hj]
    by_cases hd : j < d
    · rw [memS_lt hd, memS_lt hd]
      by_cases h3 : jrow j = a
      · rw [h3, hrow_s, h2 j hd hj h3]
      · rw [hrow_n h3]
    · rw [memS_ge (by omega), memS_ge (by omega)]
theorem memS_jupz {d k : Nat} {C : Nat → Nat → Int32} {z : Nat → Int64} {e : jE} {y : Int64} (hk : k < d) (h1 : jcellR d (C (jrow k)) y k = some e) : jup (memS d C z) k e = memS d C (zput z k y) := by
  funext j
  unfold jup
  by_cases hj : j = k
  · subst hj
    rw [if_pos rfl, memS_lt hk]
    unfold zput
    rw [if_pos rfl, h1]
  · rw [if_neg hj]
    by_cases hd : j < d
    · rw [memS_lt hd, memS_lt hd]
      unfold zput
      rw [if_neg hj]
    · rw [memS_ge (by omega), memS_ge (by omega)]
/-! states: an object s, its cells s+1, its rest s+2, all drawn from row s -/
def jStB (s : Nat) : Bool := s == 9 || (s == 12 || (s == 65 || (s == 68 || (Nat.ble 17 s && (Nat.ble s 56 && s % 3 == 2)))))
def jSt (s d : Nat) : Prop := jStB s = true ∧ s + 2 < d ∧ d ≤ 94
theorem jst_u0 : ∀ s, s < 94 → jStB s = true → (jshp[s]? == some (9, 0, [s + 5, s + 6, 2, 3])) = true := by decide +kernel
theorem jst_t0 (s : Nat) (h : s < 94) (hb : jStB s = true) : jshp[s]? = some (9, 0, [s + 5, s + 6, 2, 3]) := eq_of_beq (jst_u0 s h hb)
theorem jst_u1 : ∀ s, s < 94 → jStB s = true → (jshp[s + 1]? == some (1, 32, [])) = true := by decide +kernel
theorem jst_t1 (s : Nat) (h : s < 94) (hb : jStB s = true) : jshp[s + 1]? = some (1, 32, []) := eq_of_beq (jst_u1 s h hb)
theorem jst_u2 : ∀ s, s < 94 → jStB s = true → (jshp[s + 2]? == some (2, 6, [])) = true := by decide +kernel
theorem jst_t2 (s : Nat) (h : s < 94) (hb : jStB s = true) : jshp[s + 2]? = some (2, 6, []) := eq_of_beq (jst_u2 s h hb)
theorem jst_t3 : ∀ s, s < 94 → jStB s = true → jrow s = s ∧ jrow (s + 1) = s ∧ jrow (s + 2) = s := by decide +kernel
theorem jst_t4 : ∀ s, s < 94 → jStB s = true → ∀ j, j < 94 → jrow j = s → j = s ∨ j = s + 1 ∨ j = s + 2 := by decide +kernel
theorem jst_tab (s : Nat) (h : s < 94) (hb : jStB s = true) : (jshp[s]? = some (9, 0, [s + 5, s + 6, 2, 3]) ∧ jshp[s + 1]? = some (1, 32, []) ∧ jshp[s + 2]? = some (2, 6, [])) ∧ (jrow s = s ∧ jrow (s + 1) = s ∧ jrow (s + 2) = s) ∧ ∀ j, j < 94 → jrow j = s → j = s ∨ j = s + 1 ∨ j = s + 2 := ⟨⟨jst_t0 s h hb, jst_t1 s h hb, jst_t2 s h hb⟩, jst_t3 s h hb, jst_t4 s h hb⟩
theorem jrow_own : ∀ k, k < 94 → jStB k = false → ∀ j, j < 94 → jrow j = k → j = k := by decide +kernel
section ST
variable {d s : Nat} {C : Nat → Nat → Int32} {z : Nat → Int64}
theorem jst_o (h : jSt s d) : memS d C z s = some (.inr (.inr (4, fun i => jfv d (C s) (z s) ([s + 5, s + 6, 2, 3].getD i 2000) i))) := by
  obtain ⟨⟨h1, -, -⟩, ⟨h2, -, -⟩, -⟩ := jst_tab s (by have := h.2; omega) h.1
  rw [memS_lt (by have := h.2; omega), h2]
  unfold jcellR
  rw [h1]
  rfl
theorem jst_c (h : jSt s d) : memS d C z (s + 1) = some (.inl (false, 32, cellsOf (C s))) := by
  obtain ⟨⟨-, h1, -⟩, ⟨-, h2, -⟩, -⟩ := jst_tab s (by have := h.2; omega) h.1
  rw [memS_lt (by have := h.2; omega), h2]
  unfold jcellR
  rw [h1]
  rfl
theorem jst_r (h : jSt s d) : memS d C z (s + 2) = some (.inl (false, 6, restOf (C s))) := by
  obtain ⟨⟨-, -, h1⟩, ⟨-, -, h2⟩, -⟩ := jst_tab s (by have := h.2; omega) h.1
  rw [memS_lt (by have := h.2; omega), h2]
  unfold jcellR
  rw [h1]
  rfl
theorem jrcv_st (h : jSt s d) {r : List Value} : jrcv (memS d C z) 4 (.ref s :: r) = True := by
  show (match memS d C z s with | some (.inr (.inr (c, _))) => c = 4 | _ => False) = True
  rw [jst_o h]
  exact eq_self 4
theorem jfld_s0 (h : jSt s d) {P : Value → Prop} : jfld (memS d C z) s 4 0 P = P (.ref (s + 1)) := by
  unfold jfld
  rw [jst_o h]
  show P (bif Nat.blt (s + 1) d then .ref (s + 1) else .null) = _
  rw [Nat.blt_eq.mpr (by have := h.2; omega)]
  rfl
theorem jfld_s1 (h : jSt s d) {P : Value → Prop} : jfld (memS d C z) s 4 1 P = P (.ref (s + 2)) := by
  unfold jfld
  rw [jst_o h]
  show P (bif Nat.blt (s + 2) d then .ref (s + 2) else .null) = _
  rw [Nat.blt_eq.mpr (by have := h.2; omega)]
  rfl
theorem jfld_s2 (h : jSt s d) {P : Value → Prop} : jfld (memS d C z) s 4 2 P = P (.int (C s 38)) := by
  unfold jfld
  rw [jst_o h]
  rfl
theorem jfld_s3 (h : jSt s d) {P : Value → Prop} : jfld (memS d C z) s 4 3 P = P (.int (C s 39)) := by
  unfold jfld
  rw [jst_o h]
  rfl
theorem jald_c (h : jSt s d) {i : Int32} {P : Int32 → Prop} : jald (memS d C z) (s + 1) false i P = (vp_in i 32 ∧ P (cellsOf (C s) i.toNatClampNeg)) := by
  unfold jald
  rw [jst_c h]
  rfl
theorem jald_r (h : jSt s d) {i : Int32} {P : Int32 → Prop} : jald (memS d C z) (s + 2) false i P = (vp_in i 6 ∧ P (restOf (C s) i.toNatClampNeg)) := by
  unfold jald
  rw [jst_r h]
  rfl
/-- a new row for a state, written through its cells -/
theorem memS_stc (h : jSt s d) {f ρ : Nat → Int32} (hf : cellsOf ρ = f) (h1 : ∀ i, 32 ≤ i → ρ i = C s i) : jup (memS d C z) (s + 1) (.inl (false, 32, f)) = memS d (hrow C s ρ) z := by
  obtain ⟨⟨g0, g1, g2⟩, ⟨r0, r1, r2⟩, hj⟩ := jst_tab s (by have := h.2; omega) h.1
  refine memS_jup (by have := h.2; omega) ?_ r1 fun j hd hn hr => ?_
  · unfold jcellR
    rw [g1, ← hf]
    rfl
  · rcases hj j (by have := h.2; omega) hr with rfl | rfl | rfl
    · unfold jcellR
      rw [g0]
      show some (Sum.inr (Sum.inr (4, fun i => jfv d ρ (z j) ([j + 5, j + 6, 2, 3].getD i 2000) i))) = some (Sum.inr (Sum.inr (4, fun i => jfv d (C j) (z j) ([j + 5, j + 6, 2, 3].getD i 2000) i)))
      congr 4
      funext i
      match i with
      | 0 => rfl
      | 1 => rfl
      | 2 => show Value.int (ρ 38) = .int (C j 38); rw [h1 38 (by omega)]
      | 3 => show Value.int (ρ 39) = .int (C j 39); rw [h1 39 (by omega)]
      | i + 4 => rfl
    · exact absurd rfl hn
    · unfold jcellR
      rw [g2]
      show some (Sum.inl (false, 6, restOf ρ)) = some (Sum.inl (false, 6, restOf (C s)))
      congr 4
      funext i
      unfold restOf
      by_cases hi : i < 6
      · rw [if_pos hi, if_pos hi, h1 _ (by omega)]
      · rw [if_neg hi, if_neg hi]
end ST

