/-! byte by byte -/
theorem Ev.g71 {C C1 : Nat → Nat → Int32} {g : Nat → Int32} (v : Ev C C1) (hg : ∀ i, vF i = false → g i = C1 71 i) : Ev C (hrow C1 71 g) := ⟨fun b hb => by rw [hrow_n (vN_n hb).2.1]; exact v.1 b hb, fun k hk => by rw [hrow_s, hg k hk]; exact v.2.1 k hk, by rw [hrow_n (by decide)]; exact v.2.2.1, by rw [hrow_n (by decide)]; exact v.2.2.2⟩
def TX (C : Nat → Nat → Int32) (n : Nat) : Prop := (C 71 1 = nI n ∧ n ≤ 70) ∧ ∀ i, i < n → C 72 i = C 2 i ∧ ∃ b, b ≤ 255 ∧ C 2 i = nI b
theorem byte_at {f : Nat → Int32} {n i : Nat} (hi : i < n) (h : n ≤ 70) : byteF f (nI n) (nI i) = f i := by
  unfold byteF
  rw [if_neg, nI_clamp (by omega)]
  rintro (q | q | q)
  · exact nI_pos (by omega) q
  · rw [nI_leq (by omega) (by omega)] at q; omega
  · rw [show (70 : Int32) = nI 70 from rfl, nI_leq (by omega) (by omega)] at q; omega
theorem byte_no {f : Nat → Int32} {n i : Nat} (hi : n ≤ i) (hb : i < 2 ^ 31) : byteF f (nI n) (nI i) = -1 := by
  unfold byteF
  rw [if_pos (Or.inr (Or.inl (nI_le hi hb)))]
theorem dg_at {f : Nat → Int32} {n i : Nat} {a b : Int32} (hi : i < n) (h : n ≤ 70) : dgF f (nI n) (nI i) a b = (a ≤ f i - 48 ∧ f i - 48 ≤ b) := by
  unfold dgF
  rw [byte_at hi h]
theorem dg_no {f : Nat → Int32} {n i : Nat} {a b : Int32} (hi : n ≤ i) (hb : i < 2 ^ 31) (ha : 0 ≤ a) : ¬ dgF f (nI n) (nI i) a b := by
  unfold dgF
  rw [byte_no hi hb]
  exact fun q => absurd (Int32.le_trans ha q.1) (by decide)
section SPS
variable {Q : jQ} {C C1 : Nat → Nat → Int32} {z : Nat → Int64} {nb n i P K : Nat} {A N M R D : Nat → Int32} {li pa pl : Int32}
theorem sp_0 (t : TX C n) (hi : i < n) (h : Pa C C1 0 pl P K A N M R D li pa) (hP : P ≤ 4) (hK : K ≤ 6) (h1 : C 2 i = 112 ∧ P < 4 ∨ C 2 i = 99 ∧ K < 6 → ∀ C2, Pa C C2 (C 2 i) 0 P K A N M R D li pa → Rn Y_X7_readText none Q 48 [some (.ref 71), some (.int (nI (i + 1)))] [] (memS 94 C2 z) (nb, 0, 0)) (h0 : ¬ (C 2 i = 112 ∧ P < 4 ∨ C 2 i = 99 ∧ K < 6) → ∀ C2, Ev C C2 → Q (some (.int (nI i))) (memS 94 C2 z)) : Rn Y_X7_readText none Q 48 [some (.ref 71), some (.int (nI (i)))] [] (memS 94 C1 z) (nb, 0, 0) := by
  obtain ⟨v, ⟨p1, p2⟩, ⟨p3, p4⟩, ⟨p5, p6, p7, p8, p9⟩, p10, p11⟩ := h
  have ev2 : Ev C (hrow C1 71 (upd (upd (C1 71) 37 (C 2 i)) 38 0)) := v.g71 (fun i hi => by rw [upd_ne (by have := vF_n hi; omega), upd_ne (by have := vF_n hi; omega)])
  refine stp (by rw [v.fld 1 rfl]; exact t.1.1) hi t.1.2 (x := C 2 i) (by rw [v.row 72 rfl]; exact (t.2 i hi).1) (tk_0 p1 p3 p4 hP hK) (fun g => h1 g _ ⟨ev2, ⟨?_, ?_⟩, ⟨?_, ?_⟩, ⟨?_, ?_, ?_, ?_, ?_⟩, ?_, ?_⟩) (fun g => h0 g _ ev2)
  all_goals simp [hrow, upd, p1, p2, p3, p4, p5, p6, p7, p8, p9, p10, p11]
theorem sp_112 (t : TX C n) (hi : i < n) (h : Pa C C1 112 pl P K A N M R D li pa) (hP : P < 4) (h1 : 1 ≤ C 2 i - 48 ∧ C 2 i - 48 ≤ 9 → ∀ C2, Pa C C2 0 pl (P + 1) K (upd A P (C 2 i - 48)) N M R D li pa → Rn Y_X7_readText none Q 48 [some (.ref 71), some (.int (nI (i + 1)))] [] (memS 94 C2 z) (nb, 0, 0)) (h0 : ¬ (1 ≤ C 2 i - 48 ∧ C 2 i - 48 ≤ 9) → ∀ C2, Ev C C2 → Q (some (.int (nI i))) (memS 94 C2 z)) : Rn Y_X7_readText none Q 48 [some (.ref 71), some (.int (nI (i)))] [] (memS 94 C1 z) (nb, 0, 0) := by
  obtain ⟨v, ⟨p1, p2⟩, ⟨p3, p4⟩, ⟨p5, p6, p7, p8, p9⟩, p10, p11⟩ := h
  have ev2 : Ev C (hrow (hrow C1 89 (upd (C1 89) P (C 2 i - 48))) 71 (upd (upd (C1 71) 30 (nI (P + 1))) 37 0)) := by
    have := (v.hx (a := 89) (ρ := upd (C1 89) P (C 2 i - 48)) (by decide) (by decide)).g71 (g := upd (upd (C1 71) 30 (nI (P + 1))) 37 0) (fun i hi => by rw [upd_ne (by have := vF_n hi; omega), upd_ne (by have := vF_n hi; omega)]; rw [hrow_n (by decide)])
    exact this
  refine stp (by rw [v.fld 1 rfl]; exact t.1.1) hi t.1.2 (x := C 2 i) (by rw [v.row 72 rfl]; exact (t.2 i hi).1) (tk_112 p1 p3 hP) (fun g => h1 g _ ⟨ev2, ⟨?_, ?_⟩, ⟨?_, ?_⟩, ⟨?_, ?_, ?_, ?_, ?_⟩, ?_, ?_⟩) (fun g => h0 g _ ev2)
  all_goals simp [hrow, upd, p1, p2, p3, p4, p5, p6, p7, p8, p9, p10, p11]
theorem sp_99_0 (t : TX C n) (hi : i < n) (h : Pa C C1 99 0 P K A N M R D li pa) (hK : K < 6) (h1 : 0 ≤ C 2 i - 48 ∧ C 2 i - 48 ≤ 9 → ∀ C2, Pa C C2 99 1 P K A (upd N K (C 2 i - 48)) M R D li pa → Rn Y_X7_readText none Q 48 [some (.ref 71), some (.int (nI (i + 1)))] [] (memS 94 C2 z) (nb, 0, 0)) (h0 : ¬ (0 ≤ C 2 i - 48 ∧ C 2 i - 48 ≤ 9) → ∀ C2, Ev C C2 → Q (some (.int (nI i))) (memS 94 C2 z)) : Rn Y_X7_readText none Q 48 [some (.ref 71), some (.int (nI (i)))] [] (memS 94 C1 z) (nb, 0, 0) := by
  obtain ⟨v, ⟨p1, p2⟩, ⟨p3, p4⟩, ⟨p5, p6, p7, p8, p9⟩, p10, p11⟩ := h
  have ev2 : Ev C (hrow (hrow C1 71 (upd (C1 71) 38 1)) 90 (upd (C1 90) K (C 2 i - 48))) := (v.h71 (i := 38) rfl).hx (a := 90) (by decide) (by decide)
  refine stp (by rw [v.fld 1 rfl]; exact t.1.1) hi t.1.2 (x := C 2 i) (by rw [v.row 72 rfl]; exact (t.2 i hi).1) (tk_99_0 p1 p2 p4 hK) (fun g => h1 g _ ⟨ev2, ⟨?_, ?_⟩, ⟨?_, ?_⟩, ⟨?_, ?_, ?_, ?_, ?_⟩, ?_, ?_⟩) (fun g => h0 g _ ev2)
  all_goals simp [hrow, upd, p1, p2, p3, p4, p5, p6, p7, p8, p9, p10, p11]
theorem sp_99_1 (t : TX C n) (hi : i < n) (h : Pa C C1 99 1 P K A N M R D li pa) (hK : K < 6) (h1 : (0 ≤ C 2 i - 48 ∧ C 2 i - 48 ≤ 9) ∧ 0 < 10 * N K + (C 2 i - 48) → ∀ C2, Pa C C2 99 2 P K A (upd N K (10 * N K + (C 2 i - 48))) M R D li pa → Rn Y_X7_readText none Q 48 [some (.ref 71), some (.int (nI (i + 1)))] [] (memS 94 C2 z) (nb, 0, 0)) (h0 : ¬ ((0 ≤ C 2 i - 48 ∧ C 2 i - 48 ≤ 9) ∧ 0 < 10 * N K + (C 2 i - 48)) → ∀ C2, Ev C C2 → Q (some (.int (nI i))) (memS 94 C2 z)) : Rn Y_X7_readText none Q 48 [some (.ref 71), some (.int (nI (i)))] [] (memS 94 C1 z) (nb, 0, 0) := by
  obtain ⟨v, ⟨p1, p2⟩, ⟨p3, p4⟩, ⟨p5, p6, p7, p8, p9⟩, p10, p11⟩ := h
  have ev2 : Ev C (hrow (hrow C1 71 (upd (C1 71) 38 2)) 90 (upd (C1 90) K (10 * C1 90 K + (C 2 i - 48)))) := (v.h71 (i := 38) rfl).hx (a := 90) (by decide) (by decide)
  refine stp (by rw [v.fld 1 rfl]; exact t.1.1) hi t.1.2 (x := C 2 i) (by rw [v.row 72 rfl]; exact (t.2 i hi).1) (by rw [← p6]; exact tk_99_1 p1 p2 p4 hK) (fun g => h1 g _ ⟨ev2, ⟨?_, ?_⟩, ⟨?_, ?_⟩, ⟨?_, ?_, ?_, ?_, ?_⟩, ?_, ?_⟩) (fun g => h0 g _ ev2)
  all_goals simp [hrow, upd, p1, p2, p3, p4, p5, p6, p7, p8, p9, p10, p11]
theorem sp_99_2 (t : TX C n) (hi : i < n) (h : Pa C C1 99 2 P K A N M R D li pa) (hK : K < 6) (h1 : 1 ≤ C 2 i - 48 ∧ C 2 i - 48 ≤ 9 → ∀ C2, Pa C C2 99 3 P K A N (upd M K (C 2 i - 48)) R D li pa → Rn Y_X7_readText none Q 48 [some (.ref 71), some (.int (nI (i + 1)))] [] (memS 94 C2 z) (nb, 0, 0)) (h0 : ¬ (1 ≤ C 2 i - 48 ∧ C 2 i - 48 ≤ 9) → ∀ C2, Ev C C2 → Q (some (.int (nI i))) (memS 94 C2 z)) : Rn Y_X7_readText none Q 48 [some (.ref 71), some (.int (nI (i)))] [] (memS 94 C1 z) (nb, 0, 0) := by
  obtain ⟨v, ⟨p1, p2⟩, ⟨p3, p4⟩, ⟨p5, p6, p7, p8, p9⟩, p10, p11⟩ := h
  have ev2 : Ev C (hrow (hrow C1 71 (upd (C1 71) 38 3)) 91 (upd (C1 91) K (C 2 i - 48))) := (v.h71 (i := 38) rfl).hx (a := 91) (by decide) (by decide)
  refine stp (by rw [v.fld 1 rfl]; exact t.1.1) hi t.1.2 (x := C 2 i) (by rw [v.row 72 rfl]; exact (t.2 i hi).1) (tk_99_2 p1 p2 p4 hK) (fun g => h1 g _ ⟨ev2, ⟨?_, ?_⟩, ⟨?_, ?_⟩, ⟨?_, ?_, ?_, ?_, ?_⟩, ?_, ?_⟩) (fun g => h0 g _ ev2)
  all_goals simp [hrow, upd, p1, p2, p3, p4, p5, p6, p7, p8, p9, p10, p11]
theorem sp_99_3 (t : TX C n) (hi : i < n) (h : Pa C C1 99 3 P K A N M R D li pa) (hK : K < 6) (h1 : 0 ≤ C 2 i - 48 ∧ C 2 i - 48 ≤ 9 → ∀ C2, Pa C C2 99 4 P K A N M (upd R K (C 2 i - 48)) D li pa → Rn Y_X7_readText none Q 48 [some (.ref 71), some (.int (nI (i + 1)))] [] (memS 94 C2 z) (nb, 0, 0)) (h0 : ¬ (0 ≤ C 2 i - 48 ∧ C 2 i - 48 ≤ 9) → ∀ C2, Ev C C2 → Q (some (.int (nI i))) (memS 94 C2 z)) : Rn Y_X7_readText none Q 48 [some (.ref 71), some (.int (nI (i)))] [] (memS 94 C1 z) (nb, 0, 0) := by
  obtain ⟨v, ⟨p1, p2⟩, ⟨p3, p4⟩, ⟨p5, p6, p7, p8, p9⟩, p10, p11⟩ := h
  have ev2 : Ev C (hrow (hrow C1 71 (upd (C1 71) 38 4)) 92 (upd (C1 92) K (C 2 i - 48))) := (v.h71 (i := 38) rfl).hx (a := 92) (by decide) (by decide)
  refine stp (by rw [v.fld 1 rfl]; exact t.1.1) hi t.1.2 (x := C 2 i) (by rw [v.row 72 rfl]; exact (t.2 i hi).1) (tk_99_3 p1 p2 p4 hK) (fun g => h1 g _ ⟨ev2, ⟨?_, ?_⟩, ⟨?_, ?_⟩, ⟨?_, ?_, ?_, ?_, ?_⟩, ?_, ?_⟩) (fun g => h0 g _ ev2)
  all_goals simp [hrow, upd, p1, p2, p3, p4, p5, p6, p7, p8, p9, p10, p11]
theorem sp_99_4 (t : TX C n) (hi : i < n) (h : Pa C C1 99 4 P K A N M R D li pa) (hK : K < 6) (h1 : 0 ≤ C 2 i - 48 ∧ C 2 i - 48 ≤ 2 → ∀ C2, Pa C C2 0 5 P (K + 1) A N M R (upd D K (C 2 i - 48)) li pa → Rn Y_X7_readText none Q 48 [some (.ref 71), some (.int (nI (i + 1)))] [] (memS 94 C2 z) (nb, 0, 0)) (h0 : ¬ (0 ≤ C 2 i - 48 ∧ C 2 i - 48 ≤ 2) → ∀ C2, Ev C C2 → Q (some (.int (nI i))) (memS 94 C2 z)) : Rn Y_X7_readText none Q 48 [some (.ref 71), some (.int (nI (i)))] [] (memS 94 C1 z) (nb, 0, 0) := by
  obtain ⟨v, ⟨p1, p2⟩, ⟨p3, p4⟩, ⟨p5, p6, p7, p8, p9⟩, p10, p11⟩ := h
  have ev2 : Ev C (hrow (hrow (hrow C1 71 (upd (C1 71) 38 5)) 93 (upd (C1 93) K (C 2 i - 48))) 71 (upd (upd (upd (C1 71) 38 5) 37 0) 32 (nI (K + 1)))) := by
    have := ((v.h71 (i := 38) (x := 5) rfl).hx (a := 93) (ρ := upd (C1 93) K (C 2 i - 48)) (by decide) (by decide)).g71 (g := upd (upd (upd (C1 71) 38 5) 37 0) 32 (nI (K + 1))) (fun i hi => by rw [upd_ne (by have := vF_n hi; omega), upd_ne (by have := vF_n hi; omega), hrow_n (by decide), hrow_s])
    exact this
  refine stp (by rw [v.fld 1 rfl]; exact t.1.1) hi t.1.2 (x := C 2 i) (by rw [v.row 72 rfl]; exact (t.2 i hi).1) (tk_99_4 p1 p2 p4 hK) (fun g => h1 g _ ⟨ev2, ⟨?_, ?_⟩, ⟨?_, ?_⟩, ⟨?_, ?_, ?_, ?_, ?_⟩, ?_, ?_⟩) (fun g => h0 g _ ev2)
  all_goals simp [hrow, upd, p1, p2, p3, p4, p5, p6, p7, p8, p9, p10, p11]
theorem sp_70_0 (t : TX C n) (hi : i < n) (h : Pa C C1 70 0 P K A N M R D li pa) (h1 : 0 ≤ C 2 i - 48 ∧ C 2 i - 48 ≤ 9 → ∀ C2, Pa C C2 70 1 P K A N M R D (10 * li + (C 2 i - 48)) pa → Rn Y_X7_readText none Q 48 [some (.ref 71), some (.int (nI (i + 1)))] [] (memS 94 C2 z) (nb, 0, 0)) (h0 : ¬ (0 ≤ C 2 i - 48 ∧ C 2 i - 48 ≤ 9) → ∀ C2, Ev C C2 → Q (some (.int (nI i))) (memS 94 C2 z)) : Rn Y_X7_readText none Q 48 [some (.ref 71), some (.int (nI (i)))] [] (memS 94 C1 z) (nb, 0, 0) := by
  obtain ⟨v, ⟨p1, p2⟩, ⟨p3, p4⟩, ⟨p5, p6, p7, p8, p9⟩, p10, p11⟩ := h
  have ev2 : Ev C (hrow C1 71 (upd (upd (C1 71) 38 1) 28 (10 * C1 71 28 + (C 2 i - 48)))) := v.g71 (fun i hi => by rw [upd_ne (by have := vF_n hi; omega), upd_ne (by have := vF_n hi; omega)])
  refine stp (by rw [v.fld 1 rfl]; exact t.1.1) hi t.1.2 (x := C 2 i) (by rw [v.row 72 rfl]; exact (t.2 i hi).1) (tk_70_0 p1 p2) (fun g => h1 g _ ⟨ev2, ⟨?_, ?_⟩, ⟨?_, ?_⟩, ⟨?_, ?_, ?_, ?_, ?_⟩, ?_, ?_⟩) (fun g => h0 g _ ev2)
  all_goals simp [hrow, upd, p1, p2, p3, p4, p5, p6, p7, p8, p9, p10, p11]
theorem sp_70_1 (t : TX C n) (hi : i < n) (h : Pa C C1 70 1 P K A N M R D li pa) (h1 : 0 ≤ C 2 i - 48 ∧ C 2 i - 48 ≤ 9 → ∀ C2, Pa C C2 70 2 P K A N M R D (10 * li + (C 2 i - 48)) pa → Rn Y_X7_readText none Q 48 [some (.ref 71), some (.int (nI (i + 1)))] [] (memS 94 C2 z) (nb, 0, 0)) (h0 : ¬ (0 ≤ C 2 i - 48 ∧ C 2 i - 48 ≤ 9) → ∀ C2, Ev C C2 → Q (some (.int (nI i))) (memS 94 C2 z)) : Rn Y_X7_readText none Q 48 [some (.ref 71), some (.int (nI (i)))] [] (memS 94 C1 z) (nb, 0, 0) := by
  obtain ⟨v, ⟨p1, p2⟩, ⟨p3, p4⟩, ⟨p5, p6, p7, p8, p9⟩, p10, p11⟩ := h
  have ev2 : Ev C (hrow C1 71 (upd (upd (C1 71) 38 2) 28 (10 * C1 71 28 + (C 2 i - 48)))) := v.g71 (fun i hi => by rw [upd_ne (by have := vF_n hi; omega), upd_ne (by have := vF_n hi; omega)])
  refine stp (by rw [v.fld 1 rfl]; exact t.1.1) hi t.1.2 (x := C 2 i) (by rw [v.row 72 rfl]; exact (t.2 i hi).1) (tk_70_1 p1 p2) (fun g => h1 g _ ⟨ev2, ⟨?_, ?_⟩, ⟨?_, ?_⟩, ⟨?_, ?_, ?_, ?_, ?_⟩, ?_, ?_⟩) (fun g => h0 g _ ev2)
  all_goals simp [hrow, upd, p1, p2, p3, p4, p5, p6, p7, p8, p9, p10, p11]
theorem sp_70_2 (t : TX C n) (hi : i < n) (h : Pa C C1 70 2 P K A N M R D li pa) (h1 : 1 ≤ C 2 i - 48 ∧ C 2 i - 48 ≤ 9 → ∀ C2, Pa C C2 0 3 P K A N M R D li (C 2 i - 48) → Rn Y_X7_readText none Q 48 [some (.ref 71), some (.int (nI (i + 1)))] [] (memS 94 C2 z) (nb, 0, 0)) (h0 : ¬ (1 ≤ C 2 i - 48 ∧ C 2 i - 48 ≤ 9) → ∀ C2, Ev C C2 → Q (some (.int (nI i))) (memS 94 C2 z)) : Rn Y_X7_readText none Q 48 [some (.ref 71), some (.int (nI (i)))] [] (memS 94 C1 z) (nb, 0, 0) := by
  obtain ⟨v, ⟨p1, p2⟩, ⟨p3, p4⟩, ⟨p5, p6, p7, p8, p9⟩, p10, p11⟩ := h
  have ev2 : Ev C (hrow C1 71 (upd (upd (upd (C1 71) 38 3) 37 0) 29 (C 2 i - 48))) := v.g71 (fun i hi => by rw [upd_ne (by have := vF_n hi; omega), upd_ne (by have := vF_n hi; omega), upd_ne (by have := vF_n hi; omega)])
  refine stp (by rw [v.fld 1 rfl]; exact t.1.1) hi t.1.2 (x := C 2 i) (by rw [v.row 72 rfl]; exact (t.2 i hi).1) (tk_70_2 p1 p2) (fun g => h1 g _ ⟨ev2, ⟨?_, ?_⟩, ⟨?_, ?_⟩, ⟨?_, ?_, ?_, ?_, ?_⟩, ?_, ?_⟩) (fun g => h0 g _ ev2)
  all_goals simp [hrow, upd, p1, p2, p3, p4, p5, p6, p7, p8, p9, p10, p11]
theorem sp_end {part : Int32} (t : TX C n) (hi : i = n) (h : Pa C C1 part pl P K A N M R D li pa) (h1 : part = 0 → Q (some (.int (-9))) (memS 94 C1 z)) (h0 : ¬ part = 0 → ∀ C2, Ev C C2 → Q (some (.int (nI i))) (memS 94 C2 z)) : Rn Y_X7_readText none Q 48 [some (.ref 71), some (.int (nI (i)))] [] (memS 94 C1 z) (nb, 0, 0) := by
  subst hi
  refine stp_end (by rw [h.1.fld 1 rfl]; exact t.1.1) rfl t.1.2 (fun g => h1 (h.2.1.1.symm.trans g)) fun g => h0 (fun q => g (h.2.1.1.trans q)) C1 h.1
/-! a car's five bytes -/
theorem sp_car {a : Nat} (t : TX C n) (ha : a < n) (hK : K < 6) (h : Pa C C1 99 0 P K A N M R D li pa)
    (h1 : carFaultF (C 2) (nI n) (nI a) = -9 → a + 6 ≤ n → ((0 ≤ C 2 (a + 1) - 48 ∧ C 2 (a + 1) - 48 ≤ 9) ∧ (0 ≤ C 2 (a + 2) - 48 ∧ C 2 (a + 2) - 48 ≤ 9) ∧ 0 < 10 * (C 2 (a + 1) - 48) + (C 2 (a + 2) - 48)) ∧ (1 ≤ C 2 (a + 3) - 48 ∧ C 2 (a + 3) - 48 ≤ 9) ∧ (0 ≤ C 2 (a + 4) - 48 ∧ C 2 (a + 4) - 48 ≤ 9) ∧ (0 ≤ C 2 (a + 5) - 48 ∧ C 2 (a + 5) - 48 ≤ 2) → ∀ C2, Pa C C2 0 5 P (K + 1) A (upd N K (10 * (C 2 (a + 1) - 48) + (C 2 (a + 2) - 48))) (upd M K (C 2 (a + 3) - 48)) (upd R K (C 2 (a + 4) - 48)) (upd D K (C 2 (a + 5) - 48)) li pa → Rn Y_X7_readText none Q 48 [some (.ref 71), some (.int (nI (a + 6)))] [] (memS 94 C2 z) (nb, 0, 0))
    (h0 : ∀ w : Int32, w = carFaultF (C 2) (nI n) (nI a) → ¬ w = -9 → ∀ C2, Ev C C2 → Q (some (.int w)) (memS 94 C2 z)) : Rn Y_X7_readText none Q 48 [some (.ref 71), some (.int (nI (a + 1)))] [] (memS 94 C1 z) (nb, 0, 0) := by
  have h70 := t.1.2
  have n9 : ∀ j, j < 100 → ¬ nI j = -9 := fun j hj => nI_n9 (by omega)
  have cf : carFaultF (C 2) (nI n) (nI a) = pick (dgF (C 2) (nI n) (nI (a + 1)) 0 9) (pick (dgF (C 2) (nI n) (nI (a + 2)) (pick (byteF (C 2) (nI n) (nI (a + 1)) - 48 = 0) 1 0) 9) (pick (dgF (C 2) (nI n) (nI (a + 3)) 1 9) (pick (dgF (C 2) (nI n) (nI (a + 4)) 0 9) (pick (dgF (C 2) (nI n) (nI (a + 5)) 0 2) (-9) (nI (a + 5))) (nI (a + 4))) (nI (a + 3))) (nI (a + 2))) (nI (a + 1)) := by
    unfold carFaultF
    rw [nI_1, nI_2, nI_3, nI_4, nI_5]
  by_cases e1 : a + 1 = n
  · refine sp_end t e1 h (fun q => absurd q (by decide)) fun _ C2 v2 => h0 _ ?_ (n9 _ (by omega)) C2 v2
    rw [cf, pick_f (dg_no (by omega) (by omega) (by decide))]
  refine sp_99_0 t (by omega) h hK (fun g1 C2 a2 => ?_) fun g1 C2 v2 => h0 _ ?_ (n9 _ (by omega)) C2 v2
  rotate_left
  · rw [cf, pick_f (by rw [dg_at (by omega) h70]; exact g1)]
  have d1 : dgF (C 2) (nI n) (nI (a + 1)) 0 9 := by rw [dg_at (by omega) h70]; exact g1
  have hl : 0 ≤ pick (byteF (C 2) (nI n) (nI (a + 1)) - 48 = 0) (1 : Int32) 0 := pick_P (P := fun y : Int32 => 0 ≤ y) (by decide) (by decide)
  by_cases e2 : a + 2 = n
  · refine sp_end t e2 a2 (fun q => absurd q (by decide)) fun _ C2 v2 => h0 _ ?_ (n9 _ (by omega)) C2 v2
    rw [cf, pick_t d1, pick_f (dg_no (by omega) (by omega) hl)]
  have d2 : dgF (C 2) (nI n) (nI (a + 2)) (pick (byteF (C 2) (nI n) (nI (a + 1)) - 48 = 0) 1 0) 9 = ((0 ≤ C 2 (a + 2) - 48 ∧ C 2 (a + 2) - 48 ≤ 9) ∧ 0 < 10 * (C 2 (a + 1) - 48) + (C 2 (a + 2) - 48)) := by
    rw [dg_at (by omega) h70, byte_at (by omega) h70]
    obtain ⟨x, hx, ex⟩ := i32_rng (n := C 2 (a + 1) - 48) (m := 10) (by decide) (Int32.not_lt.mpr g1.1) fun q => absurd (Int32.le_trans q g1.2) (by decide)
    rw [ex]
    refine propext ⟨fun q => ?_, fun q => ?_⟩
    · have q0 : 0 ≤ C 2 (a + 2) - 48 := Int32.le_trans (pick_P (P := fun y : Int32 => 0 ≤ y) (by decide) (by decide)) q.1
      obtain ⟨y, hy, ey⟩ := i32_rng (n := C 2 (a + 2) - 48) (m := 10) (by decide) (Int32.not_lt.mpr q0) fun q2 => absurd (Int32.le_trans q2 q.2) (by decide)
      refine ⟨⟨q0, q.2⟩, ?_⟩
      rw [ey] at q ⊢
      rw [show (10 : Int32) = nI 10 from rfl, nI_mul (by omega) (by omega) (by omega), nI_add]
      refine nI_lt (a := 0) ?_ (by omega)
      by_cases g : nI x = 0
      · rw [pick_t g] at q
        have := q.1
        rw [show (1 : Int32) = nI 1 from rfl, nI_leq (by omega) (by omega)] at this
        omega
      · have : x ≠ 0 := fun w => g (by rw [w]; rfl)
        omega
    · obtain ⟨⟨q1, q2⟩, q3⟩ := q
      obtain ⟨y, hy, ey⟩ := i32_rng (n := C 2 (a + 2) - 48) (m := 10) (by decide) (Int32.not_lt.mpr q1) fun q => absurd (Int32.le_trans q q2) (by decide)
      refine ⟨?_, q2⟩
      rw [ey] at q3 ⊢
      by_cases g : nI x = 0
      · rw [pick_t g]
        have hx0 : x = 0 := nI_inj (by omega) (by omega) g
        rw [hx0, show (10 : Int32) * nI 0 = nI 0 from rfl, nI_add, show (0 : Int32) = nI 0 from rfl, nI_ltq (by omega) (by omega)] at q3
        exact nI_le (a := 1) (by omega) (by omega)
      · rw [pick_f g]
        exact nI_le (a := 0) (by omega) (by omega)
  have eN : ∀ y, upd N K y K = y := fun y => upd_eq
  refine sp_99_1 t (by omega) a2 hK (fun g2 C2 a3 => ?_) fun g2 C2 v2 => h0 _ ?_ (n9 _ (by omega)) C2 v2
  rotate_left
  · rw [cf, pick_t d1, pick_f (by rw [d2]; rw [eN] at g2; exact g2)]
  rw [eN] at g2
  rw [eN, upd_upd] at a3
  have d2' := g2
  rw [← d2] at d2'
  by_cases e3 : a + 3 = n
  · refine sp_end t e3 a3 (fun q => absurd q (by decide)) fun _ C2 v2 => h0 _ ?_ (n9 _ (by omega)) C2 v2
    rw [cf, pick_t d1, pick_t d2', pick_f (dg_no (by omega) (by omega) (by decide))]
  refine sp_99_2 t (by omega) a3 hK (fun g3 C2 a4 => ?_) fun g3 C2 v2 => h0 _ ?_ (n9 _ (by omega)) C2 v2
  rotate_left
  · rw [cf, pick_t d1, pick_t d2', pick_f (by rw [dg_at (by omega) h70]; exact g3)]
  have d3 : dgF (C 2) (nI n) (nI (a + 3)) 1 9 := by rw [dg_at (by omega) h70]; exact g3
  by_cases e4 : a + 4 = n
  · refine sp_end t e4 a4 (fun q => absurd q (by decide)) fun _ C2 v2 => h0 _ ?_ (n9 _ (by omega)) C2 v2
    rw [cf, pick_t d1, pick_t d2', pick_t d3, pick_f (dg_no (by omega) (by omega) (by decide))]
  refine sp_99_3 t (by omega) a4 hK (fun g4 C2 a5 => ?_) fun g4 C2 v2 => h0 _ ?_ (n9 _ (by omega)) C2 v2
  rotate_left
  · rw [cf, pick_t d1, pick_t d2', pick_t d3, pick_f (by rw [dg_at (by omega) h70]; exact g4)]
  have d4 : dgF (C 2) (nI n) (nI (a + 4)) 0 9 := by rw [dg_at (by omega) h70]; exact g4
  by_cases e5 : a + 5 = n
  · refine sp_end t e5 a5 (fun q => absurd q (by decide)) fun _ C2 v2 => h0 _ ?_ (n9 _ (by omega)) C2 v2
    rw [cf, pick_t d1, pick_t d2', pick_t d3, pick_t d4, pick_f (dg_no (by omega) (by omega) (by decide))]
  refine sp_99_4 t (by omega) a5 hK (fun g5 C2 a6 => ?_) fun g5 C2 v2 => h0 _ ?_ (n9 _ (by omega)) C2 v2
  rotate_left
  · rw [cf, pick_t d1, pick_t d2', pick_t d3, pick_t d4, pick_f (by rw [dg_at (by omega) h70]; exact g5)]
  have d5 : dgF (C 2) (nI n) (nI (a + 5)) 0 2 := by rw [dg_at (by omega) h70]; exact g5
  exact h1 (by rw [cf, pick_t d1, pick_t d2', pick_t d3, pick_t d4, pick_t d5]) (by omega) ⟨⟨g1, g2.1, g2.2⟩, g3, g4, g5⟩ C2 a6
end SPS
