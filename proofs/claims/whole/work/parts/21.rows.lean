/-! what a minute does to a state's row alone: the order's and the gifts' rows draw nothing from what stood in them -/
def Ag (n : Nat) (f g : Nat → Int32) : Prop := ∀ i, i < n → f i = g i
theorem Ag.rf {n : Nat} {f : Nat → Int32} : Ag n f f := fun _ _ => rfl
theorem Ag.le {m n : Nat} {f g : Nat → Int32} (h : Ag n f g) (hm : m ≤ n) : Ag m f g := fun i hi => h i (by omega)
theorem Ag.up {n k : Nat} {f g : Nat → Int32} {x : Int32} (h : Ag n f g) : Ag n (upd f k x) (upd g k x) := fun i hi => by
  by_cases q : i = k
  · subst q; rw [upd_eq, upd_eq]
  · rw [upd_ne q, upd_ne q]; exact h i hi
theorem Ag.up1 {n : Nat} {f g : Nat → Int32} {x : Int32} (h : Ag n f g) : Ag (n + 1) (upd f n x) (upd g n x) := fun i hi => by
  by_cases q : i = n
  · subst q; rw [upd_eq, upd_eq]
  · rw [upd_ne q, upd_ne q]; exact h i (by omega)
theorem insF_gt {T ρ : Nat → Int32} {p : Int32} : ∀ (a : Nat) (o : Nat → Int32) (i : Nat), a < i → insF T ρ p a o i = o i
  | 0, o, i, h => by unfold insF; exact upd_ne (by omega)
  | a + 1, o, i, h => by
    unfold insF
    by_cases c : overF T ρ p (o a)
    · rw [pick_t c, insF_gt a _ i (by omega), upd_ne (by omega)]
    · rw [pick_f c, upd_ne (by omega)]
theorem insF_ag {T ρ : Nat → Int32} {p : Int32} : ∀ (a : Nat) (o o' : Nat → Int32), Ag a o o' → Ag (a + 1) (insF T ρ p a o) (insF T ρ p a o')
  | 0, o, o', h => fun i hi => by
    have : i = 0 := by omega
    subst this
    unfold insF
    rw [upd_eq, upd_eq]
  | a + 1, o, o', h => fun i hi => by
    unfold insF
    rw [h a (by omega)]
    by_cases c : overF T ρ p (o' a)
    · rw [pick_t c, pick_t c]
      by_cases hi2 : i < a + 1
      · exact insF_ag a _ _ (fun j hj => by rw [upd_ne (by omega), upd_ne (by omega)]; exact h j (by omega)) i hi2
      · have : i = a + 1 := by omega
        rw [insF_gt a _ i (by omega), insF_gt a _ i (by omega), this, upd_eq, upd_eq]
    · rw [pick_f c, pick_f c]
      exact (h.up1) i hi
/-- where the post comes into the order -/
theorem insF_at {T ρ : Nat → Int32} {p : Int32} : ∀ (a : Nat) (o : Nat → Int32), ∃ k, k ≤ a ∧ ∀ i, i ≤ a → insF T ρ p a o i = if i < k then o i else if i = k then p else o (i - 1)
  | 0, o => ⟨0, Nat.le_refl _, fun i hi => by
    have : i = 0 := by omega
    subst this
    unfold insF
    rw [upd_eq]; rfl⟩
  | a + 1, o => by
    unfold insF
    by_cases c : overF T ρ p (o a)
    · rw [pick_t c]
      obtain ⟨k, hk, h⟩ := insF_at (T := T) (ρ := ρ) (p := p) a (upd o (a + 1) (o a))
      refine ⟨k, by omega, fun i hi => ?_⟩
      by_cases hi2 : i ≤ a
      · rw [h i hi2]
        by_cases h1 : i < k
        · rw [if_pos h1, if_pos h1, upd_ne (by omega)]
        · rw [if_neg h1, if_neg h1]
          by_cases h2 : i = k
          · rw [if_pos h2, if_pos h2]
          · rw [if_neg h2, if_neg h2, upd_ne (by omega)]
      · have : i = a + 1 := by omega
        subst this
        rw [insF_gt a _ _ (by omega), upd_eq, if_neg (by omega), if_neg (by omega)]
        rfl
    · rw [pick_f c]
      refine ⟨a + 1, Nat.le_refl _, fun i hi => ?_⟩
      by_cases h1 : i < a + 1
      · rw [if_pos h1, upd_ne (by omega)]
      · have : i = a + 1 := by omega
        subst this
        rw [upd_eq, if_neg (by omega), if_pos rfl]
theorem ordF_ag {T ρ : Nat → Int32} {fed : Int32} {o o' : Nat → Int32} : ∀ p, (ordF T ρ fed o p).2 = (ordF T ρ fed o' p).2 ∧ Ag (ordF T ρ fed o p).2 (ordF T ρ fed o p).1 (ordF T ρ fed o' p).1
  | 0 => ⟨rfl, fun i hi => absurd hi (Nat.not_lt_zero i)⟩
  | p + 1 => by
    have ih := ordF_ag (T := T) (ρ := ρ) (fed := fed) (o := o) (o' := o') p
    unfold ordF
    by_cases h : onP ρ fed (nI p)
    · rw [pick_t h, pick_t h, ← ih.1]
      exact ⟨rfl, insF_ag _ _ _ ih.2⟩
    · rw [pick_f h, pick_f h]
      exact ih
theorem give1_ag {g g' : Nat → Int32} {left : Int32} : ∀ i, (give1 g left i).2 = (give1 g' left i).2 ∧ Ag i (give1 g left i).1 (give1 g' left i).1
  | 0 => ⟨rfl, fun i hi => absurd hi (Nat.not_lt_zero i)⟩
  | i + 1 => by
    have ih := give1_ag (g := g) (g' := g') (left := left) i
    unfold give1
    rw [← ih.1]
    exact ⟨rfl, ih.2.up1⟩
theorem give2_ag {T Am ρ o o' : Nat → Int32} {l : Int32} {q q' : (Nat → Int32) × Int32} {n : Nat} (ho : Ag n o o') (h2 : q.2 = q'.2) (h1 : Ag n q.1 q'.1) : ∀ i, i ≤ n → (give2 T Am ρ o l q i).2 = (give2 T Am ρ o' l q' i).2 ∧ Ag n (give2 T Am ρ o l q i).1 (give2 T Am ρ o' l q' i).1
  | 0, _ => ⟨h2, h1⟩
  | i + 1, hi => by
    have ih := give2_ag (T := T) (Am := Am) (ρ := ρ) (l := l) ho h2 h1 i (by omega)
    have e : gmore T Am ρ o l i (give2 T Am ρ o l q i) = gmore T Am ρ o' l i (give2 T Am ρ o' l q' i) := by
      unfold gmore
      rw [ih.1, ho i (by omega), ih.2 i (by omega)]
    unfold give2
    rw [e, ih.1, ih.2 i (by omega)]
    exact ⟨rfl, ih.2.up⟩
theorem giveF_ag {T Am ρ o o' g g' : Nat → Int32} {l : Int32} {n : Nat} (ho : Ag n o o') : Ag n (giveF T Am ρ o l n g) (giveF T Am ρ o' l n g') := (give2_ag ho (give1_ag n).1 (give1_ag n).2 n (Nat.le_refl _)).2
theorem drawF_ag {T ρ o o' g g' : Nat → Int32} {l : Int32} {n : Nat} (ho : Ag n o o') (hg : Ag n g g') : ∀ i, i ≤ n → drawF T ρ o g l i = drawF T ρ o' g' l i
  | 0, _ => rfl
  | i + 1, hi => by
    unfold drawF
    rw [drawF_ag ho hg i (by omega), ho i (by omega), hg i (by omega)]
def zrow : Nat → Int32 := fun _ => 0
noncomputable def ordR (T ρ : Nat → Int32) (fed : Int32) : (Nat → Int32) × Nat := ordF T ρ fed zrow 4
noncomputable def givR (T Am ρ : Nat → Int32) (fed l : Int32) : Nat → Int32 := giveF T Am ρ (ordR T ρ fed).1 l (ordR T ρ fed).2 zrow
noncomputable def drwR (T Am ρ : Nat → Int32) (fed l : Int32) : Nat → Int32 := drawF T ρ (ordR T ρ fed).1 (givR T Am ρ fed l) l (ordR T ρ fed).2
noncomputable def mnR (T Am : Nat → Int32) (pat : Int32) (P : Nat) (sil fed l : Int32) (ρ : Nat → Int32) : Nat → Int32 :=
  upd (drwR T Am (mnA T pat P sil l ρ) fed l) 39 (drwR T Am (mnA T pat P sil l ρ) fed l 39 + 1)
theorem mnF_R {T Am : Nat → Int32} {pat : Int32} {P : Nat} {sil fed l : Int32} {x : jR3} : (mnF T Am pat P sil fed l x).1 = mnR T Am pat P sil fed l x.1 := by
  have e1 := ordF_ag (T := T) (ρ := mnA T pat P sil l x.1) (fed := fed) (o := x.2.1) (o' := zrow) 4
  have e2 : drawF T (mnA T pat P sil l x.1) (mnO T fed (mnA T pat P sil l x.1) x.2.1).1 (giveF T Am (mnA T pat P sil l x.1) (mnO T fed (mnA T pat P sil l x.1) x.2.1).1 l (mnO T fed (mnA T pat P sil l x.1) x.2.1).2 x.2.2) l (mnO T fed (mnA T pat P sil l x.1) x.2.1).2 = drwR T Am (mnA T pat P sil l x.1) fed l := by
    unfold drwR givR ordR mnO
    rw [← e1.1]
    exact drawF_ag e1.2 (giveF_ag e1.2) _ (Nat.le_refl _)
  show upd (drawF _ _ _ _ _ _) 39 (drawF _ _ _ _ _ _ 39 + 1) = _
  rw [e2]
  rfl
theorem itM_R {T Am : Nat → Int32} {pat : Int32} {P : Nat} {sil fed l : Int32} {x : jR3} : ∀ n, (itM (mnF T Am pat P sil fed l) n x).1 = itM (mnR T Am pat P sil fed l) n x.1
  | 0 => rfl
  | n + 1 => by
    unfold itM
    rw [mnF_R, itM_R n]
noncomputable def goF (C : Nat → Nat → Int32) (sil fed l : Int32) (n : Nat) (ρ : Nat → Int32) : Nat → Int32 := itM (mnR (C 5) (C 4) (C 3 5) (C 3 2).toNatClampNeg sil fed l) n ρ
theorem goF_c {C C' : Nat → Nat → Int32} (h3 : C' 3 = C 3) (h4 : C' 4 = C 4) (h5 : C' 5 = C 5) {sil fed l : Int32} {n : Nat} {ρ : Nat → Int32} : goF C' sil fed l n ρ = goF C sil fed l n ρ := by
  unfold goF
  rw [h3, h4, h5]
theorem goF_s {C : Nat → Nat → Int32} {sil fed l : Int32} {n : Nat} {ρ : Nat → Int32} : goF C sil fed l (n + 1) ρ = goF C sil fed l 1 (goF C sil fed l n ρ) := rfl
theorem goF_0 {C : Nat → Nat → Int32} {sil fed l : Int32} {ρ : Nat → Int32} : goF C sil fed l 0 ρ = ρ := rfl
theorem goF_Cut {C : Nat → Nat → Int32} {sil fed l : Int32} {ρ : Nat → Int32} (h : Cut ρ) : ∀ n, Cut (goF C sil fed l n ρ) := fun n => by
  have := itM_Cut (T := C 5) (Am := C 4) (pat := C 3 5) (sil := sil) (fed := fed) (l := l) (P := (C 3 2).toNatClampNeg) (x := (ρ, zrow, zrow)) h n
  rw [itM_R] at this
  exact this
theorem passF_go {C : Nat → Nat → Int32} {P : Nat} {sil fed l : Int32} {n s : Nat} (hP : C 3 2 = nI P) (h4 : P ≤ 4) : (passF C P sil fed l n s).1 = goF C sil fed l n (C s) := by
  unfold passF goF
  rw [itM_R, hP, nI_clamp (by omega)]
/-! the index in the order -/
theorem idxF_ag {p : Int32} {o o' : Nat → Int32} {n : Nat} (h : Ag n o o') : ∀ k i, i + k ≤ n → idxF o p k i = idxF o' p k i
  | 0, _, _ => rfl
  | k + 1, i, hi => by
    unfold idxF
    rw [h i (by omega), idxF_ag h k (i + 1) (by omega)]
noncomputable def idxR (T ρ : Nat → Int32) (p : Int32) : Int32 := idxF (ordR T ρ 15).1 p (ordR T ρ 15).2 0
theorem indexF_R {C : Nat → Nat → Int32} {s : Nat} {p : Int32} : indexF C s p = idxR (C 5) (C s) p := by
  have e1 := ordF_ag (T := C 5) (ρ := C s) (fed := 15) (o := C 7) (o' := zrow) 4
  unfold indexF idxR ordR mnO
  rw [← e1.1]
  exact idxF_ag e1.2 _ 0 (by omega)
noncomputable def propF (T ρ : Nat → Int32) (p w : Int32) : Int32 := pick (w = 9) (idxR T ρ p) (rget ρ p w)
/-! the class's rows that nothing shown depends on: trial 12, order 7, given 8, digits 64 -/
def Hv (C C' : Nat → Nat → Int32) : Prop := (∀ a, a ≠ 12 → a ≠ 7 → a ≠ 8 → a ≠ 64 → C' a = C a) ∧ Cut (C' 12)
theorem Hv.rf {C : Nat → Nat → Int32} (h : Cut (C 12)) : Hv C C := ⟨fun _ _ _ _ _ => rfl, h⟩
section HV
variable {C C' : Nat → Nat → Int32}
theorem Hv.h12 (h : Hv C C') {ρ : Nat → Int32} (hc : Cut ρ) : Hv C (hrow C' 12 ρ) := ⟨fun a h1 h2 h3 h4 => by rw [hrow_n h1]; exact h.1 a h1 h2 h3 h4, by rw [hrow_s]; exact hc⟩
theorem Hv.h7 (h : Hv C C') {ρ : Nat → Int32} : Hv C (hrow C' 7 ρ) := ⟨fun a h1 h2 h3 h4 => by rw [hrow_n h2]; exact h.1 a h1 h2 h3 h4, by rw [hrow_n (by decide)]; exact h.2⟩
theorem Hv.h8 (h : Hv C C') {ρ : Nat → Int32} : Hv C (hrow C' 8 ρ) := ⟨fun a h1 h2 h3 h4 => by rw [hrow_n h3]; exact h.1 a h1 h2 h3 h4, by rw [hrow_n (by decide)]; exact h.2⟩
theorem Hv.h64 (h : Hv C C') {ρ : Nat → Int32} : Hv C (hrow C' 64 ρ) := ⟨fun a h1 h2 h3 h4 => by rw [hrow_n h4]; exact h.1 a h1 h2 h3 h4, by rw [hrow_n (by decide)]; exact h.2⟩
theorem Hv.st3 (h : Hv C C') {x : jR3} (hc : Cut x.1) : Hv C (st3 C' 12 x) := ((h.h12 hc).h7).h8
theorem Hv.tr {C'' : Nat → Nat → Int32} (h : Hv C C') (h' : Hv C' C'') : Hv C C'' := ⟨fun a h1 h2 h3 h4 => (h'.1 a h1 h2 h3 h4).trans (h.1 a h1 h2 h3 h4), h'.2⟩
theorem Hv.r (h : Hv C C') (a : Nat) (ha : (a != 12 && (a != 7 && (a != 8 && a != 64))) = true) : C' a = C a := by
  simp at ha
  exact h.1 a ha.1 ha.2.1 ha.2.2.1 ha.2.2.2
theorem Hv.go (h : Hv C C') {sil fed l : Int32} {n : Nat} {ρ : Nat → Int32} : goF C' sil fed l n ρ = goF C sil fed l n ρ := goF_c (h.r 3 rfl) (h.r 4 rfl) (h.r 5 rfl)
end HV
/-- the trial state takes the state of now, in a memory that says of all else what C says -/
theorem s_takeT {nb : Nat} {C : Nat → Nat → Int32} {z : Nat → Int64} {Q : jQ} (c : Cut (C 12)) (c0 : Cut (C 9)) : S_X4_take nb [.ref 12, .ref 9] (memS 94 C z) Q = Q none (memS 94 (hrow C 12 (C 9)) z) := s_takeC js_12 js_9 (by decide) c c0
/-- a pass on the trial state -/
theorem s_passT {nb P n : Nat} {C C' : Nat → Nat → Int32} {z : Nat → Int64} {sil fed l : Int32} {Q : jQ} (hn : n < 2 ^ 31) (h : Hv C C') (hP : C 3 2 = nI P) (hP4 : P ≤ 4)
    (hQ : ∀ C'', Hv C C'' → C'' 12 = goF C sil fed l n (C' 12) → Q none (memS 94 C'' z)) : S_X0_pass nb [.ref 6, .ref 12, .int (nI n), .int sil, .int fed, .int l] (memS 94 C' z) Q := by
  have hP' : C' 3 2 = nI P := by rw [h.r 3 rfl]; exact hP
  refine s_pass hn js_12 hP' hP4 (hQ _ ?_ ?_)
  · refine h.st3 ?_
    rw [passF_go hP' hP4, h.go]
    exact goF_Cut h.2 n
  · rw [st3_s js_12, passF_go hP' hP4, h.go]
