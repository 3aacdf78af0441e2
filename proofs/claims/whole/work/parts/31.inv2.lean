/-! what is given is between 0 and 9 -/
theorem most_b {T Am ρ : Nat → Int32} {P K B q : Nat} {l : Int32} (s : Sv T Am P K) (h : Inv P K B ρ) (hq : q < 4) (ho : ¬ ρ (4 + q) = 0) : ∃ x, x ≤ 9 ∧ mostF T Am ρ (nI q) l = nI x := by
  obtain ⟨hP, ⟨c, hc, e⟩, -⟩ := h.occ hq ho
  have h6 := s.h6
  obtain ⟨a, ⟨-, ha⟩, ea⟩ := s.2.1 q hP
  obtain ⟨n, m, r, k, ⟨-, ⟨-, hm⟩, -⟩, -, em, -⟩ := s.2.2 c hc
  obtain ⟨x, hx, ex, -⟩ := h.rest (show c < 6 by omega)
  unfold mostF
  rw [rgj_1 hq, Nat.zero_add, e, trf_1 (by omega), amps_at hq, rrest_at (by omega), ea, em, ex]
  rw [minI_nI (by omega) (by omega), minI_nI (by omega) (by omega), show (2 : Int32) = nI 2 from rfl, minI_nI (by omega) (by omega)]
  by_cases h2 : kdF T ρ (nI q) l = nI 2
  · rw [pick_t h2]
    exact ⟨_, by omega, rfl⟩
  · rw [pick_f h2]
    exact ⟨_, by omega, rfl⟩
theorem gv1_at {v : Nat} (hv : v < 2 ^ 31) : gv1 (nI v) = nI (min v 1) := by
  unfold gv1
  by_cases h : v = 0
  · subst h
    rw [pick_t (by decide)]
    rfl
  · have : ¬ nI v ≤ 0 := nI_nle (by omega) hv
    rw [pick_f this, show min v 1 = 1 by omega]
    rfl
theorem give1_b {g : Nat → Int32} {v : Nat} (hv : v ≤ 99) : ∀ i, (∀ j, j < i → ∃ x, x ≤ 1 ∧ (give1 g (nI v) i).1 j = nI x) ∧ ∃ u, u ≤ v ∧ (give1 g (nI v) i).2 = nI u
  | 0 => ⟨fun j hj => absurd hj (Nat.not_lt_zero j), v, Nat.le_refl _, rfl⟩
  | i + 1 => by
    obtain ⟨h1, u, hu, e⟩ := give1_b (g := g) hv i
    unfold give1
    rw [e, gv1_at (by omega)]
    refine ⟨fun j hj => ?_, u - min u 1, by omega, nI_sub (by omega) (by omega)⟩
    by_cases q : j = i
    · subst q
      exact ⟨min u 1, by omega, upd_eq⟩
    · obtain ⟨x, hx, ex⟩ := h1 j (by omega)
      exact ⟨x, hx, by
        show upd _ i _ j = _
        rw [upd_ne q]; exact ex⟩
theorem more_b {u x g : Nat} (hu : u ≤ 1000) (hx : x ≤ 9) (hg : g ≤ 1) : ∃ y w, y ≤ 9 ∧ w ≤ u + 1 ∧ nI g + minI (nI u) (nI x - nI g) = nI y ∧ nI u - minI (nI u) (nI x - nI g) = nI w := by
  by_cases h : g ≤ x
  · rw [nI_sub h (by omega), minI_nI (by omega) (by omega), nI_add, nI_sub (by omega) (by omega)]
    exact ⟨_, _, by omega, by omega, rfl, rfl⟩
  · have hx0 : x = 0 := by omega
    have hg1 : g = 1 := by omega
    subst hx0 hg1
    have e : nI 0 - nI 1 = -1 := by decide
    have e2 : minI (nI u) (-1) = -1 := by
      unfold minI
      rw [if_pos (Int32.lt_of_lt_of_le (by decide) (nI_pos' (by omega)))]
    rw [e, e2]
    refine ⟨0, u + 1, by omega, by omega, by decide, ?_⟩
    rw [← nI_1]
    exact Int32.sub_neg
theorem give2_b {T Am ρ o : Nat → Int32} {l : Int32} {n : Nat} {q : (Nat → Int32) × Int32} (hn : n ≤ 4) (ho : ∀ i, i < n → ∃ x, x ≤ 9 ∧ mostF T Am ρ (o i) l = nI x) (h1 : ∀ j, j < n → ∃ x, x ≤ 1 ∧ q.1 j = nI x) (h2 : ∃ u, u ≤ 99 ∧ q.2 = nI u) :
    ∀ i, i ≤ n → (∀ j, j < n → ∃ x, x ≤ 9 ∧ (give2 T Am ρ o l q i).1 j = nI x ∧ (i ≤ j → x ≤ 1)) ∧ ∃ u, u ≤ 99 + i ∧ (give2 T Am ρ o l q i).2 = nI u
  | 0, _ => ⟨fun j hj => by obtain ⟨x, hx, e⟩ := h1 j hj; exact ⟨x, by omega, e, fun _ => hx⟩, h2⟩
  | i + 1, hi => by
    obtain ⟨g1, u, hu, e2⟩ := give2_b (T := T) (Am := Am) (ρ := ρ) (l := l) hn ho h1 h2 i (by omega)
    obtain ⟨x, hx, ex⟩ := ho i (by omega)
    obtain ⟨g, hg, eg, hg1⟩ := g1 i (by omega)
    obtain ⟨y, w, hy, hw, ey, ew⟩ := more_b (u := u) (x := x) (g := g) (by omega) hx (hg1 (Nat.le_refl _))
    unfold give2 gmore
    rw [e2, ex, eg, ey, ew]
    refine ⟨fun j hj => ?_, w, by omega, rfl⟩
    by_cases q2 : j = i
    · subst q2
      exact ⟨y, hy, upd_eq, fun z => by omega⟩
    · obtain ⟨x', h1', h2', h3'⟩ := g1 j hj
      exact ⟨x', h1', by show upd _ i _ j = _; rw [upd_ne q2]; exact h2', fun z => h3' (by omega)⟩
theorem givR_b {T Am ρ : Nat → Int32} {P K B : Nat} {fed l : Int32} (s : Sv T Am P K) (h : Inv P K B ρ) : ∀ i, i < (ordR T ρ fed).2 → ∃ x, x ≤ 9 ∧ givR T Am ρ fed l i = nI x := by
  intro i hi
  obtain ⟨v, hv, ev⟩ := h.lim
  have hn : (ordR T ρ fed).2 ≤ 4 := ordF_le 4
  have hb := give1_b (g := zrow) (v := v) hv (ordR T ρ fed).2
  obtain ⟨u, hu, eu⟩ := hb.2
  have := (give2_b (T := T) (Am := Am) (ρ := ρ) (l := l) (n := (ordR T ρ fed).2) (o := (ordR T ρ fed).1) (q := give1 zrow (nI v) (ordR T ρ fed).2) hn (fun i hi => by
    obtain ⟨q, h1, h2, h3⟩ := ord_ent (T := T) (ρ := ρ) (fed := fed) (o := zrow) 4 (by omega) i hi
    show ∃ x, x ≤ 9 ∧ mostF T Am ρ ((ordF T ρ fed zrow 4).1 i) l = nI x
    rw [h2]
    exact most_b s h h1 (by rw [h3]; decide)) hb.1 ⟨u, by omega, eu⟩ (ordR T ρ fed).2 (Nat.le_refl _)).1 i hi
  obtain ⟨x, h1, h2, -⟩ := this
  refine ⟨x, h1, ?_⟩
  unfold givR giveF
  rw [ev]
  exact h2
/-! drawing, at an occupied post -/
section DR
variable {T ρ : Nat → Int32} {l : Int32} {q c : Nat}
theorem meterF_at {a : Int32} (hq : q < 4) (hc : c < 6) (e : ρ q = nI c) : meterF ρ (nI q) a = upd (upd (upd ρ (32 + c) (maxI 0 (ρ (32 + c) - a))) (24 + q) (ρ (24 + q) + a)) (28 + q) (signF (ρ (28 + q)) (nI q) a) := by
  have e1 : mtF1 ρ (nI q) a = upd ρ (32 + c) (maxI 0 (ρ (32 + c) - a)) := by
    unfold mtF1
    rw [rgj_1 hq, Nat.zero_add, e, rsetR_at hc, rrest_at hc]
  have e2 : mtF2 ρ (nI q) a = upd (upd ρ (32 + c) (maxI 0 (ρ (32 + c) - a))) (24 + q) (ρ (24 + q) + a) := by
    unfold mtF2
    rw [e1, rgj_7 hq, rsj_7 hq, upd_ne (by omega)]
  unfold meterF
  rw [e2, rgj_8 hq, rsj_8 hq, upd_ne (show 28 + q ≠ 24 + q by omega), upd_ne (show 28 + q ≠ 32 + c by omega)]
theorem exceedF_at (hq : q < 4) : exceedF ρ (nI q) = pick (ρ (20 + q) + 1 = 2) (upd (upd ρ (4 + q) 4) (20 + q) 0) (upd ρ (20 + q) (ρ (20 + q) + 1)) := by
  unfold exceedF
  rw [rgj_6 hq, rsj_2 hq, rsj_6 hq, rsj_6 hq]
theorem maxI_sub {x a : Nat} (hx : x < 2 ^ 31) (ha : a < 2 ^ 31) : maxI 0 (nI x - nI a) = nI (x - a) := by
  unfold maxI
  by_cases h : a ≤ x
  · rw [nI_sub h hx]
    by_cases h0 : x - a = 0
    · rw [h0]
      rfl
    · have : (0 : Int32) < nI (x - a) := nI_lt (a := 0) (b := x - a) (by omega) (by omega)
      rw [if_pos this]
  · rw [show x - a = 0 by omega]
    have e : nI x - nI a < 0 := by
      rw [Int32.lt_iff_toInt_lt, Int32.toInt_sub, nI_toInt hx, nI_toInt ha, show (0 : Int32).toInt = 0 from rfl, Int.bmod_eq_of_le (by omega) (by omega)]
      omega
    have e2 : ¬ 0 < nI x - nI a := fun q => Int32.lt_irrefl (Int32.lt_trans e q)
    first
    | rw [if_neg e2]; rfl
    | rw [if_pos e]; rfl
theorem meterF_I {P K B a : Nat} (h : Inv P K B ρ) (h6 : K ≤ 6) (hB : B < 2 ^ 30) (hq : q < 4) (ho : ¬ ρ q = -9) (ha : a ≤ 10) : Inv P K (B + 10) (meterF ρ (nI q) (nI a)) := by
  obtain ⟨hP, ⟨c, hc, e⟩, -⟩ := h.occ9 hq ho
  obtain ⟨x, hx, ex, -⟩ := h.rest (show c < 6 by omega)
  obtain ⟨m, hm, em, -⟩ := h.met hq
  rw [meterF_at hq (by omega) e, ex, em, maxI_sub (by omega) (by omega), nI_add]
  exact ((h.upR hc h6 (by omega)).upM hq hP (by omega) (by omega)).upF (by omega)
theorem exceedF_I {P K B : Nat} (h : Inv P K B ρ) (hq : q < 4) (ho : ¬ ρ (4 + q) = 0) : Inv P K B (exceedF ρ (nI q)) := by
  rw [exceedF_at hq]
  refine pick_I (fun _ => (h.upS hq ho (by simp)).upO hq (by simp)) fun g => h.upO hq ?_
  rcases h.over hq with e | e
  · rw [e]; right; rfl
  · rw [e] at g; exact absurd (by decide) g
theorem drawStep_I {P K B g : Nat} (h : Inv P K B ρ) (h6 : K ≤ 6) (hB : B < 2 ^ 30) (hq : q < 4) (ho : ¬ ρ q = -9) (hg : g ≤ 9) : Inv P K (B + 10) (drawStep T l (nI q) (nI g) ρ) := by
  unfold drawStep
  refine pick_I (fun _ => pick_I (fun _ => ?_) fun _ => meterF_I h h6 hB hq ho (by omega)) fun _ => h.le (by omega)
  rw [nI_1]
  refine exceedF_I (meterF_I h h6 hB hq ho (by omega)) hq ?_
  obtain ⟨hP, ⟨c, hc, e⟩, st⟩ := h.occ9 hq ho
  rw [meterF_at hq (by omega) e, upd_ne (by omega), upd_ne (by omega), upd_ne (by omega)]
  rcases st with st | st | st | st <;> rw [st] <;> decide
theorem meterF_car {a : Int32} {i : Nat} (hq : q < 4) (hc : c < 6) (e : ρ q = nI c) (hi : i < 4) : meterF ρ (nI q) a i = ρ i := by
  rw [meterF_at hq hc e, upd_ne (by omega), upd_ne (by omega), upd_ne (by omega)]
theorem exceedF_car {i : Nat} (hq : q < 4) (hi : i < 4) : exceedF ρ (nI q) i = ρ i := by
  rw [exceedF_at hq]
  exact pick_P (P := fun f : Nat → Int32 => f i = ρ i) (by rw [upd_ne (by omega), upd_ne (by omega)]) (upd_ne (by omega))
theorem drawStep_car {P K B : Nat} {g : Int32} {i : Nat} (h : Inv P K B ρ) (h6 : K ≤ 6) (hq : q < 4) (ho : ¬ ρ q = -9) (hi : i < 4) : drawStep T l (nI q) g ρ i = ρ i := by
  obtain ⟨hP, ⟨c, hc, e⟩, -⟩ := h.occ9 hq ho
  unfold drawStep
  refine pick_P (P := fun f : Nat → Int32 => f i = ρ i) (pick_P (P := fun f : Nat → Int32 => f i = ρ i) ?_ (meterF_car hq (by omega) e hi)) rfl
  rw [exceedF_car hq hi, meterF_car hq (by omega) e hi]
end DR
theorem drawF_I {T ρ o g : Nat → Int32} {l : Int32} {P K B n : Nat} (h : Inv P K B ρ) (h6 : K ≤ 6) (hB : B + 40 < 2 ^ 30) (hn : n ≤ 4) (ho : ∀ i, i < n → ∃ q, q < 4 ∧ o i = nI q ∧ ¬ ρ q = -9) (hg : ∀ i, i < n → ∃ x, x ≤ 9 ∧ g i = nI x) :
    ∀ k, k ≤ n → Inv P K (B + 10 * k) (drawF T ρ o g l k) ∧ ∀ i, i < 4 → drawF T ρ o g l k i = ρ i
  | 0, _ => ⟨h, fun _ _ => rfl⟩
  | k + 1, hk => by
    obtain ⟨h1, h2⟩ := drawF_I (T := T) (l := l) h h6 hB hn ho hg k (by omega)
    obtain ⟨q, hq, eq, hq9⟩ := ho k (by omega)
    obtain ⟨x, hx, ex⟩ := hg k (by omega)
    unfold drawF
    rw [eq, ex]
    have h9 : ¬ drawF T ρ o g l k q = -9 := by rw [h2 q hq]; exact hq9
    refine ⟨?_, fun i hi => ?_⟩
    · have := drawStep_I (T := T) (l := l) h1 h6 (by omega) hq h9 hx
      rw [show B + 10 * (k + 1) = B + 10 * k + 10 by omega]
      exact this
    · rw [drawStep_car h1 h6 hq h9 hi]
      exact h2 i hi
theorem silStep_car {T ρ : Nat → Int32} {pat sil l : Int32} {j i : Nat} (hj : j < 4) (hi : i < 4) : silStep T pat sil l (nI j) ρ i = ρ i := by
  rw [silStep_at hj]
  refine pick_P (P := fun f : Nat → Int32 => f i = ρ i) (pick_P (P := fun f : Nat → Int32 => f i = ρ i) (upd_ne (by omega)) ?_) rfl
  rw [upd_ne (by omega), upd_ne (by omega)]
theorem stStep_car {T ρ : Nat → Int32} {l : Int32} {j i : Nat} (hj : j < 4) (hi : i < 4) : stStep T l (nI j) ρ i = ρ i := by
  rw [stStep_at hj]
  refine pick_P (P := fun f : Nat → Int32 => f i = ρ i) (pick_P (P := fun f : Nat → Int32 => f i = ρ i) ?_ (upd_ne (by omega))) (pick_P (P := fun f : Nat → Int32 => f i = ρ i) (upd_ne (by omega)) (pick_P (P := fun f : Nat → Int32 => f i = ρ i) (upd_ne (by omega)) rfl))
  rw [upd_ne (by omega), upd_ne (by omega)]
theorem foldP_car {f : Int32 → (Nat → Int32) → (Nat → Int32)} {ρ : Nat → Int32} {i : Nat} (hi : i < 4) (hf : ∀ j ρ, j < 4 → f (nI j) ρ i = ρ i) : ∀ k, k ≤ 4 → foldP f ρ k i = ρ i
  | 0, _ => rfl
  | k + 1, hk => (hf k _ (by omega)).trans (foldP_car hi hf k (by omega))
theorem mnA_car {T ρ : Nat → Int32} {pat sil l : Int32} {P i : Nat} (h4 : P ≤ 4) (hi : i < 4) : mnA T pat P sil l ρ i = ρ i := by
  unfold mnA
  rw [foldP_car hi (fun _ _ hj => stStep_car hj hi) P h4, foldP_car hi (fun _ _ hj => silStep_car hj hi) P h4]
theorem mnR_I {T Am ρ : Nat → Int32} {pat sil fed l : Int32} {P K B : Nat} (s : Sv T Am P K) (h : Inv P K B ρ) (hB : B + 40 < 2 ^ 30) : Inv P K (B + 40) (mnR T Am pat P sil fed l ρ) ∧ ∀ i, i < 4 → mnR T Am pat P sil fed l ρ i = ρ i := by
  have hA := mnA_I (T := T) (pat := pat) (sil := sil) (l := l) h s.h4
  have hc := fun i hi => mnA_car (T := T) (ρ := ρ) (pat := pat) (sil := sil) (l := l) (i := i) s.h4 hi
  have hn : (ordR T (mnA T pat P sil l ρ) fed).2 ≤ 4 := ordF_le 4
  have hd := drawF_I (T := T) (l := l) (o := (ordR T (mnA T pat P sil l ρ) fed).1) (g := givR T Am (mnA T pat P sil l ρ) fed l) hA s.h6 hB hn (fun i hi => by
    obtain ⟨q, h1, h2, h3⟩ := ord_ent (T := T) (ρ := mnA T pat P sil l ρ) (fed := fed) (o := zrow) 4 (by omega) i hi
    refine ⟨q, h1, h2, ?_⟩
    rw [hA.free s.h6 h1, h3]
    decide) (givR_b s hA) (ordR T (mnA T pat P sil l ρ) fed).2 (Nat.le_refl _)
  refine ⟨(hd.1.le (by omega)).upF (by omega), fun i hi => ?_⟩
  unfold mnR
  rw [upd_ne (by omega)]
  exact (hd.2 i hi).trans (hc i hi)
/-- the site of a memory -/
def SvC (C : Nat → Nat → Int32) (P K : Nat) : Prop := Sv (C 5) (C 4) P K ∧ C 3 2 = nI P ∧ C 3 3 = nI K
theorem goF_I {C : Nat → Nat → Int32} {sil fed l : Int32} {P K B : Nat} {ρ : Nat → Int32} (s : SvC C P K) (h : Inv P K B ρ) : ∀ n, B + 40 * n + 40 < 2 ^ 30 → Inv P K (B + 40 * n) (goF C sil fed l n ρ) ∧ ∀ i, i < 4 → goF C sil fed l n ρ i = ρ i
  | 0, _ => ⟨h, fun _ _ => rfl⟩
  | n + 1, hB => by
    obtain ⟨h1, h2⟩ := goF_I (sil := sil) (fed := fed) (l := l) s h n (by omega)
    have e : goF C sil fed l (n + 1) ρ = mnR (C 5) (C 4) (C 3 5) P sil fed l (goF C sil fed l n ρ) := by
      have hp : (C 3 2).toNatClampNeg = P := by rw [s.2.1, nI_clamp (by have := s.1.h4; omega)]
      unfold goF
      rw [hp]
      rfl
    rw [e]
    have := mnR_I (pat := C 3 5) (sil := sil) (fed := fed) (l := l) s.1 h1 (by omega)
    refine ⟨by rw [show B + 40 * (n + 1) = B + 40 * n + 40 by omega]; exact this.1, fun i hi => (this.2 i hi).trans (h2 i hi)⟩
theorem metersF_nn {P K B : Nat} {ρ : Nat → Int32} (h : Inv P K B ρ) (hB : B < 2 ^ 28) : ∃ m, m ≤ 4 * B ∧ metersF ρ = nI m := by
  obtain ⟨m0, h0, e0, -⟩ := h.met (p := 0) (by omega)
  obtain ⟨m1, h1, e1, -⟩ := h.met (p := 1) (by omega)
  obtain ⟨m2, h2, e2, -⟩ := h.met (p := 2) (by omega)
  obtain ⟨m3, h3, e3, -⟩ := h.met (p := 3) (by omega)
  unfold metersF
  rw [show ρ 24 = nI m0 from e0, show ρ 25 = nI m1 from e1, show ρ 26 = nI m2 from e2, show ρ 27 = nI m3 from e3, show (0 : Int32) = nI 0 from rfl, nI_add, nI_add, nI_add, nI_add]
  exact ⟨_, by omega, rfl⟩
