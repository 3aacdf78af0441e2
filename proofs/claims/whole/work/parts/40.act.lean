/-! acts keep the invariant -/
section IA
variable {P K B j : Nat} {ρ : Nat → Int32}
theorem Inv.plug {c : Nat} (h : Inv P K B ρ) (hj : j < P) (h4 : P ≤ 4) (hc : c < K) (h6 : K ≤ 6) (hs : ρ (4 + j) = 0) (hn : ∀ q, q < 4 → ¬ ρ q = nI c) : Inv P K B (upd (upd ρ j (nI c)) (4 + j) 1) := by
  refine ⟨⟨(h.cut.upd (by omega)).upd (by omega), fun q hq => ?_⟩, fun p' q' hp' hq' => ?_, fun d hd => ?_, fun q hq => ?_, fun q hq => ?_, ?_⟩
  · unfold PI
    by_cases e : q = j
    · subst e
      rw [upd_ne (show q ≠ 4 + q by omega), upd_eq, upd_eq]
      exact Or.inr ⟨hj, ⟨c, hc, rfl⟩, Or.inl rfl⟩
    · rw [upd_ne (show q ≠ 4 + j by omega), upd_ne e, upd_ne (show 4 + q ≠ 4 + j by omega), upd_ne (show 4 + q ≠ j by omega)]
      exact h.pi hq
  · rw [upd_ne (show p' ≠ 4 + j by omega), upd_ne (show q' ≠ 4 + j by omega)]
    by_cases e1 : p' = j
    · by_cases e2 : q' = j
      · exact fun _ => Or.inl (e1.trans e2.symm)
      · subst e1
        rw [upd_eq, upd_ne e2]
        exact fun q => absurd q.symm (hn q' hq')
    · by_cases e2 : q' = j
      · subst e2
        rw [upd_ne e1, upd_eq]
        exact fun q => absurd q (hn p' hp')
      · rw [upd_ne e1, upd_ne e2]
        exact h.dis hp' hq'
  · rw [upd_ne (by omega), upd_ne (by omega)]; exact h.rest hd
  · rw [upd_ne (by omega), upd_ne (by omega)]; exact h.met hq
  · rw [upd_ne (by omega), upd_ne (by omega)]; exact h.over hq
  · rw [upd_ne (by omega), upd_ne (by omega)]; exact h.lim
theorem Inv.pull (h : Inv P K B ρ) (hj : j < 4) : Inv P K B (upd (upd ρ j (-9)) (4 + j) 0) := by
  refine ⟨⟨(h.cut.upd (by omega)).upd (by omega), fun q hq => ?_⟩, fun p' q' hp' hq' => ?_, fun d hd => ?_, fun q hq => ?_, fun q hq => ?_, ?_⟩
  · unfold PI
    by_cases e : q = j
    · subst e
      rw [upd_ne (show q ≠ 4 + q by omega), upd_eq, upd_eq]
      exact Or.inl ⟨rfl, rfl⟩
    · rw [upd_ne (show q ≠ 4 + j by omega), upd_ne e, upd_ne (show 4 + q ≠ 4 + j by omega), upd_ne (show 4 + q ≠ j by omega)]
      exact h.pi hq
  · rw [upd_ne (show p' ≠ 4 + j by omega), upd_ne (show q' ≠ 4 + j by omega)]
    by_cases e1 : p' = j
    · subst e1
      rw [upd_eq]
      exact fun _ => Or.inr rfl
    · by_cases e2 : q' = j
      · subst e2
        rw [upd_ne e1, upd_eq]
        exact fun q => Or.inr q
      · rw [upd_ne e1, upd_ne e2]
        exact h.dis hp' hq'
  · rw [upd_ne (by omega), upd_ne (by omega)]; exact h.rest hd
  · rw [upd_ne (by omega), upd_ne (by omega)]; exact h.met hq
  · rw [upd_ne (by omega), upd_ne (by omega)]; exact h.over hq
  · rw [upd_ne (by omega), upd_ne (by omega)]; exact h.lim
theorem Inv.clear {f : Nat → Int32} (h : Inv P K B f) (hj : j < 4) : Inv P K B (upd (upd (upd (upd f (8 + j) 0) (12 + j) 0) (16 + j) 0) (20 + j) 0) :=
  (((h.upF (by omega)).upF (by omega)).upF (by omega)).upO hj (Or.inl rfl)
theorem plugR_I {c : Nat} (h : Inv P K B ρ) (hj : j < P) (h4 : P ≤ 4) (hc : c < K) (h6 : K ≤ 6) (hs : ρ (4 + j) = 0) (hn : postOfF ρ (nI c) = -9) : Inv P K B (plugR ρ (nI j) (nI c)) := by
  have hj4 : j < 4 := by omega
  unfold plugR
  rw [rsj_1 hj4, rstartF_at hj4, Nat.zero_add]
  refine Inv.clear (h.plug hj h4 hc h6 hs ?_) hj4
  unfold postOfF at hn
  intro q hq e
  have hq : q = 0 ∨ q = 1 ∨ q = 2 ∨ q = 3 := by omega
  by_cases g0 : ρ 0 = nI c
  · rw [if_pos g0] at hn; exact absurd hn (by decide)
  · by_cases g1 : ρ 1 = nI c
    · rw [if_neg g0, if_pos g1] at hn; exact absurd hn (by decide)
    · by_cases g2 : ρ 2 = nI c
      · rw [if_neg g0, if_neg g1, if_pos g2] at hn; exact absurd hn (by decide)
      · by_cases g3 : ρ 3 = nI c
        · rw [if_neg g0, if_neg g1, if_neg g2, if_pos g3] at hn; exact absurd hn (by decide)
        · rcases hq with rfl | rfl | rfl | rfl
          · exact g0 e
          · exact g1 e
          · exact g2 e
          · exact g3 e
theorem pullR_I (h : Inv P K B ρ) (hj : j < 4) : Inv P K B (pullR ρ (nI j)) := by
  unfold pullR
  rw [rsj_1 hj, rstartF_at hj, Nat.zero_add]
  exact Inv.clear (h.pull hj) hj
theorem rstartF_I {x : Int32} (h : Inv P K B ρ) (hj : j < 4) (hs : ¬ ρ (4 + j) = 0) (hx : x = 1 ∨ x = 2 ∨ x = 3 ∨ x = 4) : Inv P K B (rstartF ρ (nI j) x) := by
  rw [rstartF_at hj]
  exact Inv.clear (h.upS hj hs hx) hj
theorem tellR_I {x : Int32} (h : Inv P K B ρ) (hj : j < 4) (hs : ¬ ρ (4 + j) = 0) (h0 : ¬ x < 0) (h5 : x ≤ 5) : Inv P K B (tellR ρ (nI j) x) ∧ (tellR ρ (nI j) x (4 + j) = 1 ∨ tellR ρ (nI j) x (4 + j) = 2 ∨ tellR ρ (nI j) x (4 + j) = 3 ∨ tellR ρ (nI j) x (4 + j) = 4) := by
  have key : Inv P K B (tellR ρ (nI j) x) → ¬ tellR ρ (nI j) x (4 + j) = 0 → Inv P K B (tellR ρ (nI j) x) ∧ (tellR ρ (nI j) x (4 + j) = 1 ∨ tellR ρ (nI j) x (4 + j) = 2 ∨ tellR ρ (nI j) x (4 + j) = 3 ∨ tellR ρ (nI j) x (4 + j) = 4) := fun q1 q2 => ⟨q1, (q1.occ hj q2).2.2⟩
  have g : ∀ i (y : Int32), (8 ≤ i ∧ i < 20) → Inv P K B (upd ρ i y) ∧ ¬ upd ρ i y (4 + j) = 0 := fun i y hi => ⟨h.upF (by omega), by rw [upd_ne (by omega)]; exact hs⟩
  by_cases e5 : x = 5
  · subst e5
    refine key ?_ ?_
    · rw [tellR_5 hj]
      exact ((((g (12 + j) 0 (by omega)).1.upS hj (g (12 + j) 0 (by omega)).2 (Or.inl rfl)).upF (by omega)).upF (by omega))
    · rw [tellR_5 hj, upd_ne (by omega), upd_ne (by omega), upd_eq]; decide
  · by_cases e4 : x = 4
    · subst e4
      refine key ?_ ?_
      · rw [tellR_4 hj]
        exact (g (12 + j) 0 (by omega)).1
      · rw [tellR_4 hj]
        exact (g (12 + j) 0 (by omega)).2
    · have i1 := (g (12 + j) 0 (by omega)).1
      have i2 : Inv P K B (upd (upd ρ (12 + j) 0) (8 + j) (x + 1)) := i1.upF (by omega)
      have s2 : ¬ upd (upd ρ (12 + j) 0) (8 + j) (x + 1) (4 + j) = 0 := by rw [upd_ne (by omega), upd_ne (by omega)]; exact hs
      refine key ?_ ?_
      · rw [tellR_n hj e5 e4]
        exact pick_I (fun _ => pick_I (fun _ => i2.upS hj s2 (by simp)) fun _ => i2) fun _ => i1.upS hj (g (12 + j) 0 (by omega)).2 (by simp)
      · rw [tellR_n hj e5 e4]
        exact pick_I (R := fun f : Nat → Int32 => ¬ f (4 + j) = 0) (fun _ => pick_I (R := fun f : Nat → Int32 => ¬ f (4 + j) = 0) (fun _ => by rw [upd_eq]; decide) fun _ => s2) fun _ => by rw [upd_eq]; decide
end IA
/-! the ring of the history -/
theorem bk_0 {nx : Nat} (h : nx < 14) : bk (nxt nx) 0 = nx := by
  unfold bk nxt
  by_cases g : nx + 1 < 14
  · rw [if_pos g]; omega
  · rw [if_neg g]; omega
theorem bk_s {nx i : Nat} (h : nx < 14) (hi : i < 13) : bk (nxt nx) (i + 1) = bk nx i ∧ bk nx i ≠ nx := by
  unfold bk nxt
  by_cases g : nx + 1 < 14
  · rw [if_pos g]; omega
  · rw [if_neg g]; omega
theorem bk_p {nx i : Nat} (h : nx < 14) (hi : i < 13) : bk (prv nx) i = bk nx (i + 1) ∧ bk nx 0 = prv nx := by
  unfold bk prv
  by_cases g : 0 < nx
  · rw [if_pos g]; omega
  · rw [if_neg g]; omega
theorem nx_ring {nx : Nat} (h : nx < 14) (a : Nat) (ha : Nat.blt 56 a = true ∨ Nat.blt a 17 = true) : a ≠ 17 + 3 * nx := by
  simp [Nat.blt] at ha
  omega
/-- both sides have done an act -/
theorem Rp.acted {C C1 C2 C3 : Nat → Nat → Int32} {z : Nat → Int64} {B B' P K L nx ct sn : Nat} {ρ : Nat → Int32} (h : Rp C z B P K L nx ct sn) (a : Acted C C1 nx ct ρ) (nt : Noted C1 C2 nx ct) (mo : Mo 78 C2 C3) (e : C3 78 = ρ) (iv : Inv P K B' ρ) (hB : B ≤ B') : Rp C3 z B' P K L (nxt nx) (min (ct + 1) 14) sn := by
  obtain ⟨⟨⟨hn, h14, hc, hc14, hcr⟩, hm14, hm13⟩, hh⟩ := h.hr
  obtain ⟨⟨n1, n2⟩, ⟨n3, n4⟩, n5, n6⟩ := nt
  obtain ⟨a1, a2, a3, a4, a5, a6⟩ := a
  have r : ∀ a, (a != 12 && (a != 7 && (a != 8 && (a != 64 && (a != 9 && (a != 15 && (a != 71 && (a != 78 && (a != 80 && (a != 86 && a != 87)))))))))) = true → a ≠ 17 + 3 * nx → C3 a = C a := fun a ha h2 => by
    simp at ha
    obtain ⟨q1, q2, q3, q4, q5, q6, q7, q8, q9, q10, q11⟩ := ha
    rw [mo.1 a q8 q7 q10 q11, n1 a q9 q7, a1 a q1 q2 q3 q4 q5 q6 h2]
  have r2 : ∀ a, (a != 12 && (a != 7 && (a != 8 && (a != 64 && (a != 9 && (a != 15 && (a != 71 && (a != 78 && (a != 80 && (a != 86 && a != 87)))))))))) = true → Nat.blt 56 a = true ∨ Nat.blt a 17 = true → C3 a = C a := fun a ha h2 => r a ha (nx_ring h14 a h2)
  have f71 : C1 71 = C 71 := a1 71 (by decide) (by decide) (by decide) (by decide) (by decide) (by decide) (by omega)
  have f : ∀ i, i ≠ 13 → i ≠ 14 → i ≠ 25 → C3 71 i = C 71 i := fun i q1 q2 q3 => by rw [mo.2 i q3, n2 i q1 q2, f71]
  have e9 : C3 9 = ρ := by rw [mo.1 9 (by decide) (by decide) (by decide) (by decide), n1 9 (by decide) (by decide), a3]
  have e12 : C3 12 = C1 12 := by rw [mo.1 12 (by decide) (by decide) (by decide) (by decide), n1 12 (by decide) (by decide)]
  have e15 : C3 15 = C1 15 := by rw [mo.1 15 (by decide) (by decide) (by decide) (by decide), n1 15 (by decide) (by decide)]
  have e80 : C3 80 = C2 80 := mo.1 80 (by decide) (by decide) (by decide) (by decide)
  have eR : ∀ j, j < 14 → C3 (17 + 3 * j) = C1 (17 + 3 * j) := fun j hj => by rw [mo.1 _ (by omega) (by omega) (by omega) (by omega), n1 _ (by omega) (by omega)]
  have e178 : C1 78 = C 9 := by rw [a1 78 (by decide) (by decide) (by decide) (by decide) (by decide) (by decide) (by omega), h.ak.e]
  have e180 : C1 80 = C 80 := a1 80 (by decide) (by decide) (by decide) (by decide) (by decide) (by decide) (by omega)
  refine ⟨⟨h.hz, by rw [f 22 (by decide) (by decide) (by decide)]; exact h.h15, by rw [f 23 (by decide) (by decide) (by decide)]; exact h.h9⟩, ?_, ?_, ?_, ?_, ?_⟩
  · refine ⟨?_, ⟨by rw [e, e9], by rw [e9]; exact iv⟩, by rw [e12]; exact a2, ?_⟩
    · exact h.ak.s.eq (r2 3 rfl (Or.inr rfl)) (r2 4 rfl (Or.inr rfl)) (r2 5 rfl (Or.inr rfl)) (f 2 (by decide) (by decide) (by decide)) (f 4 (by decide) (by decide) (by decide)) (f 9 (by decide) (by decide) (by decide)) (r2 73 rfl (Or.inl rfl)) (r2 74 rfl (Or.inl rfl)) (r2 75 rfl (Or.inl rfl)) (r2 76 rfl (Or.inl rfl)) (r2 77 rfl (Or.inl rfl))
    · rw [r2 79 rfl (Or.inl rfl)]; exact h.ak.2.2.2
  · exact h.tr.eq (r2 1 rfl (Or.inr rfl)) (r2 2 rfl (Or.inr rfl)) (r2 72 rfl (Or.inl rfl)) (f 1 (by decide) (by decide) (by decide))
  · refine ⟨⟨⟨by rw [e15]; exact a5, nxt_lt h14, by rw [e15]; exact a6, by omega, fun j hj => ?_⟩, ?_, ?_⟩, fun i hi => ?_⟩
    · rw [eR j hj]
      by_cases q : j = nx
      · subst q; rw [a4]; exact h.ak.iv.cut
      · rw [a1 _ (by omega) (by omega) (by omega) (by omega) (by omega) (by omega) (by omega)]; exact hcr j hj
    · rw [mo.2 14 (by decide)]; exact n3
    · rw [mo.2 13 (by decide)]; exact n4
    · rw [eR _ bk_lt, e80]
      cases i with
      | zero =>
        rw [bk_0 h14, a4]
        refine ⟨h.ak.iv.le hB, fun k hk => ?_⟩
        rw [n5 k hk, e178]
      | succ i =>
        obtain ⟨q1, q2⟩ := bk_s (i := i) h14 (by omega)
        rw [q1]
        have hb : bk nx i < 14 := bk_lt
        rw [a1 _ (by omega) (by omega) (by omega) (by omega) (by omega) (by omega) (by omega)]
        obtain ⟨g1, g2⟩ := hh i (by omega)
        refine ⟨g1.le hB, fun k hk => ?_⟩
        rw [n6 _ (fun k' hk' => by omega), e180]
        exact g2 k hk
  · exact (h.kr.eq (r2 0 rfl (Or.inr rfl)) (r2 82 rfl (Or.inl rfl)) (r2 65 rfl (Or.inl rfl)) (r2 68 rfl (Or.inl rfl)) (r2 81 rfl (Or.inl rfl))).le hB
  · exact h.or.eq (r2 60 rfl (Or.inl rfl)) (r2 61 rfl (Or.inl rfl)) (r2 62 rfl (Or.inl rfl)) (r2 63 rfl (Or.inl rfl)) (r2 83 rfl (Or.inl rfl)) (r2 84 rfl (Or.inl rfl)) (r2 85 rfl (Or.inl rfl)) (f 20 (by decide) (by decide) (by decide))
/-- what the model finds when it does the act that the class has done -/
def Bf (C C1 : Nat → Nat → Int32) (P K nx ct : Nat) : Prop := SR C1 P K ∧ C1 78 = C 9 ∧ C1 71 = C 71 ∧ (C1 3 = C 3 ∧ C1 4 = C 4 ∧ C1 5 = C 5) ∧ (C1 71 14 = nI nx ∧ nx < 14) ∧ C1 71 13 = nI ct ∧ ct ≤ 14
theorem Rp.bf {C C1 : Nat → Nat → Int32} {z : Nat → Int64} {B P K L nx ct sn : Nat} (h : Rp C z B P K L nx ct sn) (hr : ∀ a, Nat.ble 65 a = true ∨ a = 3 ∨ a = 4 ∨ a = 5 → C1 a = C a) : Bf C C1 P K nx ct := by
  obtain ⟨⟨⟨hn, h14, hc, hc14, hcr⟩, hm14, hm13⟩, hh⟩ := h.hr
  have l : ∀ a, Nat.ble 65 a = true → C1 a = C a := fun a ha => hr a (Or.inl ha)
  have e3 : C1 3 = C 3 := hr 3 (by simp)
  have e4 : C1 4 = C 4 := hr 4 (by simp)
  have e5 : C1 5 = C 5 := hr 5 (by simp)
  have e71 : C1 71 = C 71 := l 71 rfl
  refine ⟨h.ak.s.eq e3 e4 e5 (by rw [e71]) (by rw [e71]) (by rw [e71]) (l 73 rfl) (l 74 rfl) (l 75 rfl) (l 76 rfl) (l 77 rfl), ?_, e71, ⟨e3, e4, e5⟩, ⟨by rw [e71]; exact hm14, h14⟩, by rw [e71]; exact hm13, hc14⟩
  rw [l 78 rfl, h.ak.e]
theorem Bf.s {C C1 : Nat → Nat → Int32} {P K nx ct : Nat} (b : Bf C C1 P K nx ct) : SR C1 P K := b.1
theorem Bf.e {C C1 : Nat → Nat → Int32} {P K nx ct : Nat} (b : Bf C C1 P K nx ct) : C1 78 = C 9 := b.2.1
/-- an act on both sides -/
theorem co_act {S T : jSp} {vs ws : List Value} {n : Nat} {C : Nat → Nat → Int32} {z : Nat → Int64} {P K L nx ct sn : Nat} {cond : Prop} {a e : Int32} {ρ : Nat → Int32} (h : Rp C z (3960 * n) P K L nx ct sn)
    (h6 : ∀ nb (Q : jQ), ActQ C z nx ct cond a ρ e Q → S nb vs (memS 94 C z) Q) (hn : cond → ¬ a < 0) (hI : cond → Inv P K (3960 * n + 3960) ρ)
    (hy : cond → ∀ nb (Q : jQ) C1, Bf C C1 P K nx ct → (∀ C2 C3, Noted C1 C2 nx ct → Mo 78 C2 C3 → C3 78 = ρ → Q (some (.int a)) (memS 94 C3 z)) → T nb ws (memS 94 C1 z) Q)
    (hz : ¬ cond → ∀ nb (Q : jQ) C1, Bf C C1 P K nx ct → Q (some (.int e)) (memS 94 C1 z) → T nb ws (memS 94 C1 z) Q) :
    ∀ nb (Q : jQ), (∀ v C1 z1, Mi T ws n v C1 z1 → Q (some (.int v)) (memS 94 C1 z1)) → S nb vs (memS 94 C z) Q := by
  intro nb Q hQ
  have h14 : nx < 14 := h.hr.1.1.2.1
  refine h6 nb Q ⟨hn, fun c C1 ac => hQ _ _ _ fun nb Q hq => ?_, fun c C1 v => hQ _ _ _ fun nb Q hq => ?_⟩
  · refine hy c nb Q C1 (h.bf fun b hb => ?_) fun C2 C3 nt mo e3 => hq C3 z ⟨P, K, L, _, _, sn, h.acted ac nt mo e3 (B' := 3960 * (n + 1)) ?_ (by omega)⟩
    · refine ac.1 b ?_ ?_ ?_ ?_ ?_ ?_ ?_ <;> (simp at hb; omega)
    · rw [show 3960 * (n + 1) = 3960 * n + 3960 by omega]; exact hI c
  · refine hz c nb Q C1 (h.bf fun b hb => ?_) (hq C1 z (h.rel (Ev.hv v h.ak.2.2.2) h.hz))
    refine v.1 b ?_ ?_ ?_ ?_ <;> (simp at hb; omega)
