/-! a minute under another limit -/
section L38
variable {T Am ρ : Nat → Int32} {x l fed pat sil p : Int32}
theorem cells_38 : cellsOf (upd ρ 38 x) = cellsOf ρ := by
  funext k
  unfold cellsOf
  by_cases h : k < 32
  · rw [if_pos h, if_pos h, upd_ne (by omega)]
  · rw [if_neg h, if_neg h]
theorem rget_38 {w : Int32} : rget (upd ρ 38 x) p w = rget ρ p w := by unfold rget; rw [cells_38]
theorem rest_38 : restOf (upd ρ 38 x) = restOf ρ := by
  funext k
  unfold restOf
  by_cases h : k < 6
  · rw [if_pos h, if_pos h, upd_ne (by omega)]
  · rw [if_neg h, if_neg h]
theorem rrest_38 {c : Int32} : rrest (upd ρ 38 x) c = rrest ρ c := by unfold rrest; rw [rest_38]
theorem rset_38 {w y : Int32} : rset (upd ρ 38 x) p w y = upd (rset ρ p w y) 38 x := by
  unfold rset
  by_cases h : p < 0 ∨ 4 ≤ p ∨ w < 1 ∨ 8 < w
  · rw [if_pos h, if_pos h]
  · rw [if_neg h, if_neg h]
    have h1 : ¬ p < 0 := fun q => h (Or.inl q)
    have h2 : ¬ 4 ≤ p := fun q => h (Or.inr (Or.inl q))
    have h3 : ¬ w < 1 := fun q => h (Or.inr (Or.inr (Or.inl q)))
    have h4 : ¬ 8 < w := fun q => h (Or.inr (Or.inr (Or.inr q)))
    obtain ⟨j, hj, rfl⟩ := i32_rng (m := 4) (by decide) h1 h2
    obtain ⟨v, hv, rfl⟩ := i32_rng (n := w) (m := 9) (by decide) (fun q => h3 (Int32.lt_trans q (by decide))) (fun q => h4 (Int32.lt_of_lt_of_le (by decide) q))
    have hv1 : 1 ≤ v := by
      rcases Nat.eq_zero_or_pos v with q | q
      · subst q; exact absurd (by decide) h3
      · exact q
    have e : nI j * 8 + nI v - 1 = nI (j * 8 + v - 1) := by rw [show (8 : Int32) = nI 8 from rfl, nI_mul (by omega) (by omega) (by omega), nI_add, show (1 : Int32) = nI 1 from rfl, nI_sub (by omega) (by omega)]
    rw [e, nI_clamp (by omega)]
    have : cix (j * 8 + v - 1) < 32 := cix_lt (by omega)
    rw [upd_swap (by omega)]
theorem rsetR_38 {c y : Int32} : rsetR (upd ρ 38 x) c y = upd (rsetR ρ c y) 38 x := by
  unfold rsetR
  by_cases h : c < 0 ∨ 6 ≤ c
  · rw [if_pos h, if_pos h]
  · rw [if_neg h, if_neg h]
    have h1 : ¬ c < 0 := fun q => h (Or.inl q)
    have h2 : ¬ 6 ≤ c := fun q => h (Or.inr q)
    obtain ⟨j, hj, rfl⟩ := i32_rng (m := 6) (by decide) h1 h2
    rw [nI_clamp (by omega), upd_swap (by omega)]
theorem pick_38 {c : Prop} {f g : Nat → Int32} : pick c (upd f 38 x) (upd g 38 x) = upd (pick c f g) 38 x := by
  by_cases h : c
  · rw [pick_t h, pick_t h]
  · rw [pick_f h, pick_f h]
theorem kdF_38 : kdF T (upd ρ 38 x) p l = kdF T ρ p l := by unfold kdF; rw [rget_38]
theorem liveP_38 : liveP (upd ρ 38 x) p = liveP ρ p := by unfold liveP; rw [rget_38]
theorem silStep_38 : silStep T pat sil l p (upd ρ 38 x) = upd (silStep T pat sil l p ρ) 38 x := by
  unfold silStep
  simp only [kdF_38, liveP_38, rget_38, rset_38, pick_38]
theorem growF_38 : growF T (upd ρ 38 x) p l = upd (growF T ρ p l) 38 x := by
  unfold growF
  simp only [kdF_38, rget_38, rset_38, pick_38]
theorem stStep_38 : stStep T l p (upd ρ 38 x) = upd (stStep T l p ρ) 38 x := by
  unfold stStep
  simp only [growF_38, rget_38, rset_38, rrest_38, pick_38]
theorem foldP_38 {f : Int32 → (Nat → Int32) → (Nat → Int32)} (hf : ∀ p ρ, f p (upd ρ 38 x) = upd (f p ρ) 38 x) : ∀ k, foldP f (upd ρ 38 x) k = upd (foldP f ρ k) 38 x
  | 0 => rfl
  | k + 1 => by
    show f (nI k) (foldP f (upd ρ 38 x) k) = upd (f (nI k) (foldP f ρ k)) 38 x
    rw [foldP_38 hf k, hf]
theorem mnA_38 {P : Nat} : mnA T pat P sil l (upd ρ 38 x) = upd (mnA T pat P sil l ρ) 38 x := by
  unfold mnA
  rw [foldP_38 fun _ _ => silStep_38, foldP_38 fun _ _ => stStep_38]
theorem overF_38 {q : Int32} : overF T (upd ρ 38 x) p q = overF T ρ p q := by unfold overF; simp only [rget_38, rrest_38]
theorem insF_38 : ∀ a o, insF T (upd ρ 38 x) p a o = insF T ρ p a o
  | 0, o => rfl
  | a + 1, o => by unfold insF; rw [overF_38, insF_38 a]
theorem ordF_38 {o : Nat → Int32} : ∀ k, ordF T (upd ρ 38 x) fed o k = ordF T ρ fed o k
  | 0 => rfl
  | k + 1 => by
    have e : onP (upd ρ 38 x) fed (nI k) = onP ρ fed (nI k) := by unfold onP; rw [rget_38]
    unfold ordF
    rw [e, ordF_38 k, insF_38]
theorem ordR_38 : ordR T (upd ρ 38 x) fed = ordR T ρ fed := ordF_38 4
theorem mostF_38 : mostF T Am (upd ρ 38 x) p l = mostF T Am ρ p l := by unfold mostF; simp only [kdF_38, rget_38, rrest_38]
theorem meterF_38 {a : Int32} : meterF (upd ρ 38 x) p a = upd (meterF ρ p a) 38 x := by
  unfold meterF mtF2 mtF1
  simp only [rget_38, rrest_38, rset_38, rsetR_38]
theorem exceedF_38 : exceedF (upd ρ 38 x) p = upd (exceedF ρ p) 38 x := by
  unfold exceedF
  simp only [rget_38, rset_38, pick_38]
theorem drawStep_38 {g : Int32} : drawStep T l p g (upd ρ 38 x) = upd (drawStep T l p g ρ) 38 x := by
  unfold drawStep
  simp only [kdF_38, meterF_38, exceedF_38, pick_38]
theorem drawF_38 {o g : Nat → Int32} : ∀ k, drawF T (upd ρ 38 x) o g l k = upd (drawF T ρ o g l k) 38 x
  | 0 => rfl
  | k + 1 => by unfold drawF; rw [drawF_38 k, drawStep_38]
end L38
/-! sums of the feeds of posts -/
def sumN (f : Nat → Nat) : Nat → Nat
  | 0 => 0
  | k + 1 => sumN f k + f k
theorem sumN_c {f g : Nat → Nat} : ∀ n, (∀ i, i < n → f i = g i) → sumN f n = sumN g n
  | 0, _ => rfl
  | n + 1, h => by unfold sumN; rw [sumN_c n fun i hi => h i (by omega), h n (by omega)]
def aN (Am : Nat → Int32) (x : Int32) : Nat := (ampsF Am x).toNatClampNeg
section SU
variable {T Am ρ : Nat → Int32} {fed p : Int32}
theorem ins_sum : ∀ (a : Nat) (o : Nat → Int32), sumN (fun i => aN Am (insF T ρ p a o i)) (a + 1) = sumN (fun i => aN Am (o i)) a + aN Am p
  | 0, o => by
    show 0 + aN Am (upd o 0 p 0) = 0 + aN Am p
    rw [upd_eq]
  | a + 1, o => by
    unfold insF
    by_cases c : overF T ρ p (o a)
    · rw [pick_t c]
      show sumN (fun i => aN Am (insF T ρ p a (upd o (a + 1) (o a)) i)) (a + 1) + aN Am (insF T ρ p a (upd o (a + 1) (o a)) (a + 1)) = _
      rw [ins_sum a, insF_gt a _ _ (by omega), upd_eq]
      have : sumN (fun i => aN Am (upd o (a + 1) (o a) i)) a = sumN (fun i => aN Am (o i)) a := sumN_c a fun i hi => by
        show aN Am (upd o (a + 1) (o a) i) = _
        rw [upd_ne (by omega)]
      rw [this]
      show _ = sumN (fun i => aN Am (o i)) a + aN Am (o a) + aN Am p
      omega
    · rw [pick_f c]
      show sumN (fun i => aN Am (upd o (a + 1) p i)) (a + 1) + aN Am (upd o (a + 1) p (a + 1)) = _
      rw [upd_eq, sumN_c (a + 1) fun i hi => by
        show aN Am (upd o (a + 1) p i) = aN Am (o i)
        rw [upd_ne (by omega)]]
theorem ord_sum {o : Nat → Int32} (p : Nat) : sumN (fun i => aN Am ((ordF T ρ fed o p).1 i)) (ordF T ρ fed o p).2 ≤ sumN (fun q => aN Am (nI q)) p := by
  induction p with
  | zero =>
    have e1 : (ordF T ρ fed o 0).2 = 0 := rfl
    rw [e1]
    exact Nat.zero_le _
  | succ p ih =>
    have e : sumN (fun q => aN Am (nI q)) (p + 1) = sumN (fun q => aN Am (nI q)) p + aN Am (nI p) := rfl
    rw [e]
    unfold ordF
    generalize ordF T ρ fed o p = w at ih ⊢
    obtain ⟨o', n⟩ := w
    by_cases c : onP ρ fed (nI p)
    · rw [pick_t c]
      have := ins_sum (T := T) (Am := Am) (ρ := ρ) (p := nI p) n o'
      have ih : sumN (fun i => aN Am (o' i)) n ≤ sumN (fun q => aN Am (nI q)) p := ih
      show sumN (fun i => aN Am (insF T ρ (nI p) n o' i)) (n + 1) ≤ _
      rw [this]
      exact Nat.add_le_add_right ih _
    · rw [pick_f c]
      exact Nat.le_trans ih (Nat.le_add_right _ _)
end SU
theorem ampS_sum {Am T : Nat → Int32} {P K : Nat} (s : Sv T Am P K) : ∀ k, k ≤ P → ampS Am k = nI (sumN (fun q => aN Am (nI q)) k) ∧ sumN (fun q => aN Am (nI q)) k ≤ 9 * k
  | 0, _ => ⟨rfl, Nat.le_refl _⟩
  | k + 1, hk => by
    obtain ⟨e, hb⟩ := ampS_sum s k (by omega)
    obtain ⟨a, ⟨-, ha⟩, ea⟩ := s.2.1 k (by omega)
    have h4 := s.h4
    have e2 : ampsF Am (nI k) = nI a := by rw [amps_at (by omega), ea]
    have e3 : aN Am (nI k) = a := by unfold aN; rw [e2, nI_clamp (by omega)]
    show ampS Am k + ampsF Am (nI k) = nI (sumN _ k + aN Am (nI k)) ∧ sumN _ k + aN Am (nI k) ≤ 9 * (k + 1)
    rw [e, e2, e3, nI_add]
    exact ⟨rfl, by omega⟩
/-! where the limit is at least the feeds' sum, each post gets all that it can take -/
theorem g1_full {v : Nat} (hv : v ≤ 99) : ∀ i, i ≤ v → (∀ j, j < i → (give1 zrow (nI v) i).1 j = nI 1) ∧ (give1 zrow (nI v) i).2 = nI (v - i)
  | 0, _ => ⟨fun j hj => absurd hj (Nat.not_lt_zero j), rfl⟩
  | i + 1, hi => by
    obtain ⟨h1, e⟩ := g1_full hv i (by omega)
    unfold give1
    rw [e, gv1_at (by omega), show min (v - i) 1 = 1 by omega]
    refine ⟨fun j hj => ?_, by
      show nI (v - i) - nI 1 = _
      rw [nI_sub (by omega) (by omega), show v - i - 1 = v - (i + 1) by omega]⟩
    by_cases q : j = i
    · subst q; exact upd_eq
    · show upd _ i _ j = _
      rw [upd_ne q]
      exact h1 j (by omega)
theorem more_full {u c : Nat} (hu : u ≤ 1000) (hc : c ≤ u + 1) : nI 1 + minI (nI u) (nI c - nI 1) = nI c ∧ nI u - minI (nI u) (nI c - nI 1) = nI (u + 1 - c) := by
  by_cases h : 1 ≤ c
  · rw [nI_sub h (by omega), minI_nI (by omega) (by omega), show min u (c - 1) = c - 1 by omega, nI_add, nI_sub (by omega) (by omega), show 1 + (c - 1) = c by omega, show u - (c - 1) = u + 1 - c by omega]
    exact ⟨rfl, rfl⟩
  · have hc0 : c = 0 := by omega
    subst hc0
    have e : nI 0 - nI 1 = -1 := by decide
    have e2 : minI (nI u) (-1) = -1 := by
      unfold minI
      rw [if_pos (Int32.lt_of_lt_of_le (by decide) (nI_pos' (by omega)))]
    rw [e, e2]
    refine ⟨by decide, ?_⟩
    show _ = nI (u + 1)
    rw [← nI_1]
    exact Int32.sub_neg
theorem g2_full {T Am ρ o : Nat → Int32} {l : Int32} {n v : Nat} {c : Nat → Nat} {q : (Nat → Int32) × Int32} (hv : v ≤ 99) (hn : n ≤ v) (hc : ∀ i, i < n → mostF T Am ρ (o i) l = nI (c i)) (h1 : ∀ j, j < n → q.1 j = nI 1) (h2 : q.2 = nI (v - n)) (hS : ∀ i, i < n → sumN c (i + 1) + (n - i - 1) ≤ v) :
    ∀ i, i ≤ n → (∀ j, j < n → (give2 T Am ρ o l q i).1 j = if j < i then nI (c j) else nI 1) ∧ (give2 T Am ρ o l q i).2 = nI (v + i - n - sumN c i)
  | 0, _ => ⟨fun j hj => by rw [if_neg (by omega)]; exact h1 j hj, h2⟩
  | i + 1, hi => by
    obtain ⟨g1, e2⟩ := g2_full hv hn hc h1 h2 hS i (by omega)
    have hs := hS i (by omega)
    have hs' : sumN c (i + 1) = sumN c i + c i := rfl
    have hs0 : sumN c i + (n - i) ≤ v := by
      cases i with
      | zero => show 0 + (n - 0) ≤ v; omega
      | succ i => have := hS i (by omega); omega
    have eg := g1 i (by omega)
    rw [if_neg (by omega)] at eg
    obtain ⟨m1, m2⟩ := more_full (u := v + i - n - sumN c i) (c := c i) (by omega) (by omega)
    unfold give2 gmore
    rw [e2, hc i (by omega), eg, m1, m2]
    refine ⟨fun j hj => ?_, by
      show nI _ = nI _
      rw [show v + i - n - sumN c i + 1 - c i = v + (i + 1) - n - sumN c (i + 1) by omega]⟩
    show upd _ i _ j = _
    by_cases w : j = i
    · subst w; rw [upd_eq, if_pos (by omega)]
    · rw [upd_ne w, g1 j hj]
      by_cases w2 : j < i
      · rw [if_pos w2, if_pos (by omega)]
      · rw [if_neg w2, if_neg (by omega)]
theorem sum_le {f g : Nat → Nat} {n : Nat} (h : ∀ i, i < n → f i ≤ g i) (h1 : ∀ i, i < n → 1 ≤ g i) : ∀ k, k ≤ n → sumN f (n - k) + k ≤ sumN g n
  | 0, _ => by
    have : ∀ m, m ≤ n → sumN f m ≤ sumN g m := fun m => by
      induction m with
      | zero => intro _; exact Nat.le_refl _
      | succ m ih =>
        intro hm
        have := ih (by omega)
        have := h m (by omega)
        show sumN f m + f m ≤ sumN g m + g m
        omega
    exact this n (Nat.le_refl _)
  | k + 1, hk => by
    have : ∀ m, m ≤ k + 1 → sumN f (n - (k + 1)) + m ≤ sumN g (n - (k + 1) + m) := fun m => by
      induction m with
      | zero =>
        intro _
        have : ∀ m, m ≤ n → sumN f m ≤ sumN g m := fun m => by
          induction m with
          | zero => intro _; exact Nat.le_refl _
          | succ m ih =>
            intro hm
            have := ih (by omega)
            have := h m (by omega)
            show sumN f m + f m ≤ sumN g m + g m
            omega
        exact this _ (by omega)
      | succ m ih =>
        intro hm
        have := ih (by omega)
        have := h1 (n - (k + 1) + m) (by omega)
        show _ ≤ sumN g (n - (k + 1) + m) + g (n - (k + 1) + m)
        omega
    have := this (k + 1) (Nat.le_refl _)
    rw [show n - (k + 1) + (k + 1) = n by omega] at this
    exact this
theorem most_a {T Am ρ : Nat → Int32} {P K B q : Nat} {l : Int32} (s : Sv T Am P K) (h : Inv P K B ρ) (hq : q < 4) (ho : ¬ ρ (4 + q) = 0) : ∃ x, x ≤ aN Am (nI q) ∧ mostF T Am ρ (nI q) l = nI x ∧ 1 ≤ aN Am (nI q) := by
  obtain ⟨hP, ⟨c, hc, e⟩, -⟩ := h.occ hq ho
  have h6 := s.h6
  obtain ⟨a, ⟨ha1, ha⟩, ea⟩ := s.2.1 q hP
  obtain ⟨n, m, r, k, ⟨-, ⟨-, hm⟩, -⟩, -, em, -⟩ := s.2.2 c hc
  obtain ⟨x, hx, ex, -⟩ := h.rest (show c < 6 by omega)
  have e3 : aN Am (nI q) = a := by unfold aN; rw [amps_at hq, ea, nI_clamp (by omega)]
  rw [e3]
  unfold mostF
  rw [rgj_1 hq, Nat.zero_add, e, trf_1 (by omega), amps_at hq, rrest_at (by omega), ea, em, ex]
  rw [minI_nI (by omega) (by omega), minI_nI (by omega) (by omega), show (2 : Int32) = nI 2 from rfl, minI_nI (by omega) (by omega)]
  by_cases h2 : kdF T ρ (nI q) l = nI 2
  · rw [pick_t h2]
    exact ⟨_, by omega, rfl, ha1⟩
  · rw [pick_f h2]
    exact ⟨_, by omega, rfl, ha1⟩
theorem giv_full {T Am ρ : Nat → Int32} {P K B v : Nat} {fed l : Int32} (s : Sv T Am P K) (h : Inv P K B ρ) (hv : v ≤ 99) (hE : sumN (fun q => aN Am (nI q)) P ≤ v) : ∀ i, i < (ordR T ρ fed).2 → givR T Am (upd ρ 38 (nI v)) fed l i = mostF T Am ρ ((ordR T ρ fed).1 i) l := by
  have h4 := s.h4
  have hn : (ordR T ρ fed).2 ≤ 4 := ordF_le 4
  have ent : ∀ i, i < (ordR T ρ fed).2 → ∃ q, q < 4 ∧ (ordR T ρ fed).1 i = nI q ∧ ρ (4 + q) = 3 := ord_ent (T := T) (ρ := ρ) (fed := fed) (o := zrow) 4 (by omega)
  have eP : ordR T ρ fed = ordF T ρ fed zrow P := by
    have := ordF_P (T := T) (o := zrow) (fed := fed) h (4 - P) (by omega)
    rw [show P + (4 - P) = 4 by omega] at this
    exact this
  have hsum : sumN (fun i => aN Am ((ordR T ρ fed).1 i)) (ordR T ρ fed).2 ≤ v := by
    rw [eP]
    exact Nat.le_trans (ord_sum P) hE
  have hm : ∀ i, i < (ordR T ρ fed).2 → (mostF T Am ρ ((ordR T ρ fed).1 i) l).toNatClampNeg ≤ aN Am ((ordR T ρ fed).1 i) ∧ mostF T Am ρ ((ordR T ρ fed).1 i) l = nI (mostF T Am ρ ((ordR T ρ fed).1 i) l).toNatClampNeg ∧ 1 ≤ aN Am ((ordR T ρ fed).1 i) := fun i hi => by
    obtain ⟨q, h1, h2, h3⟩ := ent i hi
    rw [h2]
    obtain ⟨x, hx, ex, h5⟩ := most_a (l := l) s h h1 (by rw [h3]; decide)
    obtain ⟨y, hy, ey⟩ := most_b (l := l) s h h1 (by rw [h3]; decide)
    have : nI x = nI y := ex.symm.trans ey
    have hx9 : x < 2 ^ 31 := by
      have : aN Am (nI q) < 2 ^ 31 := i32_clt _
      omega
    rw [ex, nI_clamp hx9]
    exact ⟨hx, rfl, h5⟩
  have hle : (ordR T ρ fed).2 ≤ v := by
    have := sum_le (f := fun _ => 0) (g := fun i => aN Am ((ordR T ρ fed).1 i)) (n := (ordR T ρ fed).2) (fun i hi => by omega) (fun i hi => (hm i hi).2.2) (ordR T ρ fed).2 (Nat.le_refl _)
    have e0 : sumN (fun _ => 0) ((ordR T ρ fed).2 - (ordR T ρ fed).2) = 0 := by rw [Nat.sub_self]; rfl
    omega
  intro i hi
  have g1 := g1_full (v := v) hv (ordR T ρ fed).2 hle
  have := (g2_full (T := T) (Am := Am) (ρ := ρ) (o := (ordR T ρ fed).1) (l := l) (n := (ordR T ρ fed).2) (v := v) (c := fun i => (mostF T Am ρ ((ordR T ρ fed).1 i) l).toNatClampNeg) (q := give1 zrow (nI v) (ordR T ρ fed).2) hv hle (fun i hi => (hm i hi).2.1) g1.1 g1.2 (fun i hi => by
    have := sum_le (f := fun i => (mostF T Am ρ ((ordR T ρ fed).1 i) l).toNatClampNeg) (g := fun i => aN Am ((ordR T ρ fed).1 i)) (n := (ordR T ρ fed).2) (fun i hi => (hm i hi).1) (fun i hi => (hm i hi).2.2) ((ordR T ρ fed).2 - i - 1) (by omega)
    rw [show (ordR T ρ fed).2 - ((ordR T ρ fed).2 - i - 1) = i + 1 by omega] at this
    omega) (ordR T ρ fed).2 (Nat.le_refl _)).1 i hi
  rw [if_pos hi] at this
  rw [(hm i hi).2.1, ← this]
  have eg : ∀ (y : Int32) (n' : Nat) (o' : Nat → Int32) (qq : (Nat → Int32) × Int32), ∀ k, give2 T Am (upd ρ 38 y) o' l qq k = give2 T Am ρ o' l qq k := fun y n' o' qq k => by
    induction k with
    | zero => rfl
    | succ k ih =>
      unfold give2 gmore
      rw [ih, mostF_38]
  unfold givR giveF
  rw [ordR_38, eg (nI v) 0 _ _ _, upd_eq]
/-- no minute changes the limit -/
theorem mnR_lim {T Am ρ : Nat → Int32} {pat sil fed l : Int32} {P : Nat} : mnR T Am pat P sil fed l ρ 38 = ρ 38 := by
  have e := fun y => mnA_38 (T := T) (ρ := ρ) (x := y) (pat := pat) (sil := sil) (l := l) (P := P)
  have h0 : upd ρ 38 (ρ 38) = ρ := upd_same rfl
  have hA : mnA T pat P sil l ρ 38 = ρ 38 := by
    have := e (ρ 38)
    rw [h0] at this
    rw [this, upd_eq]
  have hD : ∀ (σ o g : Nat → Int32) k, drawF T σ o g l k 38 = σ 38 := fun σ o g k => by
    have := drawF_38 (T := T) (ρ := σ) (x := σ 38) (l := l) (o := o) (g := g) k
    rw [upd_same rfl] at this
    rw [this, upd_eq]
  unfold mnR
  rw [upd_ne (by decide)]
  unfold drwR
  rw [hD, hA]
theorem goF_38w {C : Nat → Nat → Int32} {ρ : Nat → Int32} {sil fed l : Int32} : ∀ n, goF C sil fed l n ρ 38 = ρ 38
  | 0 => rfl
  | n + 1 => by
    have ih := goF_38w (C := C) (ρ := ρ) (sil := sil) (fed := fed) (l := l) n
    have e : goF C sil fed l (n + 1) ρ = mnR (C 5) (C 4) (C 3 5) (C 3 2).toNatClampNeg sil fed l (goF C sil fed l n ρ) := rfl
    rw [e, mnR_lim, ih]
/-- the course is one and the same under every limit from the feeds' sum on -/
theorem mnR_38 {T Am ρ : Nat → Int32} {pat sil fed l : Int32} {P K B v w : Nat} (s : Sv T Am P K) (h : Inv P K B ρ) (hv : v ≤ 99) (hw : w ≤ 99) (h1 : sumN (fun q => aN Am (nI q)) P ≤ v) (h2 : sumN (fun q => aN Am (nI q)) P ≤ w) : mnR T Am pat P sil fed l (upd ρ 38 (nI v)) = upd (mnR T Am pat P sil fed l (upd ρ 38 (nI w))) 38 (nI v) := by
  have hA := mnA_I (T := T) (pat := pat) (sil := sil) (l := l) h s.h4
  have e : ∀ u, u ≤ 99 → sumN (fun q => aN Am (nI q)) P ≤ u → drwR T Am (mnA T pat P sil l (upd ρ 38 (nI u))) fed l = upd (drawF T (mnA T pat P sil l ρ) (ordR T (mnA T pat P sil l ρ) fed).1 (fun i => mostF T Am (mnA T pat P sil l ρ) ((ordR T (mnA T pat P sil l ρ) fed).1 i) l) l (ordR T (mnA T pat P sil l ρ) fed).2) 38 (nI u) := fun u hu hE => by
    rw [mnA_38]
    unfold drwR
    rw [ordR_38, drawF_38]
    congr 1
    exact drawF_ag Ag.rf (fun i hi => giv_full s hA hu hE i hi) _ (Nat.le_refl _)
  unfold mnR
  rw [e v hv h1, e w hw h2, upd_ne (show 39 ≠ 38 by decide), upd_ne (show 39 ≠ 38 by decide), upd_swap (show 38 ≠ 39 by decide), upd_swap (show 38 ≠ 39 by decide), upd_upd]
theorem goF_38 {C : Nat → Nat → Int32} {ρ : Nat → Int32} {sil fed l : Int32} {P K B v w : Nat} (s : SvC C P K) (h : Inv P K B ρ) (hv : v ≤ 99) (hw : w ≤ 99) (h1 : sumN (fun q => aN (C 4) (nI q)) P ≤ v) (h2 : sumN (fun q => aN (C 4) (nI q)) P ≤ w) : ∀ n, B + 40 * n + 40 < 2 ^ 30 → goF C sil fed l n (upd ρ 38 (nI v)) = upd (goF C sil fed l n (upd ρ 38 (nI w))) 38 (nI v)
  | 0, _ => by rw [goF_0, goF_0, upd_upd]
  | n + 1, hB => by
    have ih := goF_38 (sil := sil) (fed := fed) (l := l) s h hv hw h1 h2 n (by omega)
    have hI := (goF_I (sil := sil) (fed := fed) (l := l) s (h.upL hw) n (by omega)).1
    rw [goF_at s, goF_at s, ih]
    have e := mnR_38 (pat := C 3 5) (sil := sil) (fed := fed) (l := l) s.1 hI hv hw h1 h2
    have e2 : upd (goF C sil fed l n (upd ρ 38 (nI w))) 38 (nI w) = goF C sil fed l n (upd ρ 38 (nI w)) := by
      refine upd_same ?_
      have : ∀ m, goF C sil fed l m (upd ρ 38 (nI w)) 38 = nI w := fun m => by
        have g := goF_38w (C := C) (sil := sil) (fed := fed) (l := l) (ρ := upd ρ 38 (nI w)) m
        rw [g, upd_eq]
      exact this n
    rw [e2] at e
    exact e
