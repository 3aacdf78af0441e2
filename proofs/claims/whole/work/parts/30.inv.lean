/-! the invariant of a state's row: P posts, K cars, meters at most B -/
def PI (P K : Nat) (ρ : Nat → Int32) (p : Nat) : Prop := (ρ p = -9 ∧ ρ (4 + p) = 0) ∨ (p < P ∧ (∃ c, c < K ∧ ρ p = nI c) ∧ (ρ (4 + p) = 1 ∨ ρ (4 + p) = 2 ∨ ρ (4 + p) = 3 ∨ ρ (4 + p) = 4))
def Inv (P K B : Nat) (ρ : Nat → Int32) : Prop := (Cut ρ ∧ ∀ p, p < 4 → PI P K ρ p) ∧ (∀ p q, p < 4 → q < 4 → ρ p = ρ q → p = q ∨ ρ p = -9) ∧ (∀ c, c < 6 → ∃ x, x ≤ 99 ∧ ρ (32 + c) = nI x ∧ (K ≤ c → x = 0)) ∧ (∀ p, p < 4 → ∃ m, m ≤ B ∧ ρ (24 + p) = nI m ∧ (P ≤ p → m = 0)) ∧ (∀ p, p < 4 → ρ (20 + p) = 0 ∨ ρ (20 + p) = 1) ∧ ∃ v, v ≤ 99 ∧ ρ 38 = nI v
theorem nI_n9 {c : Nat} (h : c < 2 ^ 31) : ¬ nI c = -9 := fun q => by
  have := congrArg Int32.toInt q
  rw [nI_toInt h] at this
  have e : (-9 : Int32).toInt = -9 := by decide
  omega
section IN
variable {P K B : Nat} {ρ ρ' : Nat → Int32}
theorem Inv.cut (h : Inv P K B ρ) : Cut ρ := h.1.1
theorem Inv.pi (h : Inv P K B ρ) {p : Nat} (hp : p < 4) : PI P K ρ p := h.1.2 p hp
theorem Inv.dis (h : Inv P K B ρ) {p q : Nat} (hp : p < 4) (hq : q < 4) (e : ρ p = ρ q) : p = q ∨ ρ p = -9 := h.2.1 p q hp hq e
theorem Inv.rest (h : Inv P K B ρ) {c : Nat} (hc : c < 6) : ∃ x, x ≤ 99 ∧ ρ (32 + c) = nI x ∧ (K ≤ c → x = 0) := h.2.2.1 c hc
theorem Inv.met (h : Inv P K B ρ) {p : Nat} (hp : p < 4) : ∃ m, m ≤ B ∧ ρ (24 + p) = nI m ∧ (P ≤ p → m = 0) := h.2.2.2.1 p hp
theorem Inv.over (h : Inv P K B ρ) {p : Nat} (hp : p < 4) : ρ (20 + p) = 0 ∨ ρ (20 + p) = 1 := h.2.2.2.2.1 p hp
theorem Inv.lim (h : Inv P K B ρ) : ∃ v, v ≤ 99 ∧ ρ 38 = nI v := h.2.2.2.2.2
/-- an occupied post -/
theorem Inv.occ (h : Inv P K B ρ) {p : Nat} (hp : p < 4) (ho : ¬ ρ (4 + p) = 0) : p < P ∧ (∃ c, c < K ∧ ρ p = nI c) ∧ (ρ (4 + p) = 1 ∨ ρ (4 + p) = 2 ∨ ρ (4 + p) = 3 ∨ ρ (4 + p) = 4) := by
  rcases h.pi hp with q | q
  · exact absurd q.2 ho
  · exact q
theorem Inv.occ9 (h : Inv P K B ρ) {p : Nat} (hp : p < 4) (ho : ¬ ρ p = -9) : p < P ∧ (∃ c, c < K ∧ ρ p = nI c) ∧ (ρ (4 + p) = 1 ∨ ρ (4 + p) = 2 ∨ ρ (4 + p) = 3 ∨ ρ (4 + p) = 4) := by
  rcases h.pi hp with q | q
  · exact absurd q.1 ho
  · exact q
theorem Inv.free (h : Inv P K B ρ) (hK : K ≤ 6) {p : Nat} (hp : p < 4) : (ρ p = -9) = (ρ (4 + p) = 0) := by
  rcases h.pi hp with q | ⟨-, ⟨c, hc, e⟩, q⟩
  · simp [q.1, q.2]
  · have n1 : ¬ ρ p = -9 := by rw [e]; exact nI_n9 (by omega)
    have n2 : ¬ ρ (4 + p) = 0 := by rcases q with q | q | q | q <;> rw [q] <;> decide
    simp [n1, n2]
theorem Inv.keep (h : Inv P K B ρ) (hc : Cut ρ') (h1 : ∀ i, i < 8 → ρ' i = ρ i) (h2 : ∀ i, 20 ≤ i → i < 28 → ρ' i = ρ i) (h3 : ∀ i, 32 ≤ i → i < 39 → ρ' i = ρ i) : Inv P K B ρ' := by
  refine ⟨⟨hc, fun p hp => ?_⟩, fun p q hp hq => ?_, fun c hc => ?_, fun p hp => ?_, fun p hp => ?_, ?_⟩
  · unfold PI
    rw [h1 p (by omega), h1 (4 + p) (by omega)]
    exact h.pi hp
  · rw [h1 p (by omega), h1 q (by omega)]
    exact h.dis hp hq
  · rw [h3 _ (by omega) (by omega)]
    exact h.rest hc
  · rw [h2 _ (by omega) (by omega)]
    exact h.met hp
  · rw [h2 _ (by omega) (by omega)]
    exact h.over hp
  · rw [h3 38 (by omega) (by omega)]
    exact h.lim
/-- a place that the invariant doesn't speak of -/
theorem Inv.upF (h : Inv P K B ρ) {k : Nat} {x : Int32} (hk : (8 ≤ k ∧ k < 20) ∨ (28 ≤ k ∧ k < 32) ∨ k = 39) : Inv P K B (upd ρ k x) :=
  h.keep (h.cut.upd (by omega)) (fun i hi => upd_ne (by omega)) (fun i h1 h2 => upd_ne (by omega)) (fun i h1 h2 => upd_ne (by omega))
theorem Inv.upS (h : Inv P K B ρ) {p : Nat} {x : Int32} (hp : p < 4) (ho : ¬ ρ (4 + p) = 0) (hx : x = 1 ∨ x = 2 ∨ x = 3 ∨ x = 4) : Inv P K B (upd ρ (4 + p) x) := by
  refine ⟨⟨h.cut.upd (by omega), fun q hq => ?_⟩, fun p' q' hp' hq' => ?_, fun c hc => ?_, fun q hq => ?_, fun q hq => ?_, ?_⟩
  · unfold PI
    rw [upd_ne (show q ≠ 4 + p by omega)]
    by_cases e : q = p
    · subst e
      rw [upd_eq]
      have := h.occ hp ho
      exact Or.inr ⟨this.1, this.2.1, hx⟩
    · rw [upd_ne (by omega)]
      exact h.pi hq
  · rw [upd_ne (by omega), upd_ne (by omega)]
    exact h.dis hp' hq'
  · rw [upd_ne (by omega)]; exact h.rest hc
  · rw [upd_ne (by omega)]; exact h.met hq
  · rw [upd_ne (by omega)]; exact h.over hq
  · rw [upd_ne (by omega)]; exact h.lim
theorem Inv.upO (h : Inv P K B ρ) {p : Nat} {x : Int32} (hp : p < 4) (hx : x = 0 ∨ x = 1) : Inv P K B (upd ρ (20 + p) x) := by
  refine ⟨⟨h.cut.upd (by omega), fun q hq => ?_⟩, fun p' q' hp' hq' => ?_, fun c hc => ?_, fun q hq => ?_, fun q hq => ?_, ?_⟩
  · unfold PI
    rw [upd_ne (by omega), upd_ne (by omega)]
    exact h.pi hq
  · rw [upd_ne (by omega), upd_ne (by omega)]
    exact h.dis hp' hq'
  · rw [upd_ne (by omega)]; exact h.rest hc
  · rw [upd_ne (by omega)]; exact h.met hq
  · by_cases e : q = p
    · subst e; rw [upd_eq]; exact hx
    · rw [upd_ne (by omega)]; exact h.over hq
  · rw [upd_ne (by omega)]; exact h.lim
theorem Inv.upM (h : Inv P K B ρ) {p m B' : Nat} (h4 : p < 4) (hp : p < P) (hB : B ≤ B') (hm : m ≤ B') : Inv P K B' (upd ρ (24 + p) (nI m)) := by
  refine ⟨⟨h.cut.upd (by omega), fun q hq => ?_⟩, fun p' q' hp' hq' => ?_, fun c hc => ?_, fun q hq => ?_, fun q hq => ?_, ?_⟩
  · unfold PI
    rw [upd_ne (by omega), upd_ne (by omega)]
    exact h.pi hq
  · rw [upd_ne (by omega), upd_ne (by omega)]
    exact h.dis hp' hq'
  · rw [upd_ne (by omega)]; exact h.rest hc
  · by_cases e : q = p
    · subst e
      rw [upd_eq]
      exact ⟨m, hm, rfl, fun z => by omega⟩
    · rw [upd_ne (by omega)]
      obtain ⟨m', h1, h2, h3⟩ := h.met hq
      exact ⟨m', by omega, h2, h3⟩
  · rw [upd_ne (by omega)]; exact h.over hq
  · rw [upd_ne (by omega)]; exact h.lim
theorem Inv.upR (h : Inv P K B ρ) {c x : Nat} (hc : c < K) (hK : K ≤ 6) (hx : x ≤ 99) : Inv P K B (upd ρ (32 + c) (nI x)) := by
  refine ⟨⟨h.cut.upd (by omega), fun q hq => ?_⟩, fun p' q' hp' hq' => ?_, fun d hd => ?_, fun q hq => ?_, fun q hq => ?_, ?_⟩
  · unfold PI
    rw [upd_ne (by omega), upd_ne (by omega)]
    exact h.pi hq
  · rw [upd_ne (by omega), upd_ne (by omega)]
    exact h.dis hp' hq'
  · by_cases e : d = c
    · subst e
      rw [upd_eq]
      exact ⟨x, hx, rfl, fun z => by omega⟩
    · rw [upd_ne (by omega)]; exact h.rest hd
  · rw [upd_ne (by omega)]; exact h.met hq
  · rw [upd_ne (by omega)]; exact h.over hq
  · rw [upd_ne (by omega)]; exact h.lim
theorem Inv.upL (h : Inv P K B ρ) {v : Nat} (hv : v ≤ 99) : Inv P K B (upd ρ 38 (nI v)) := by
  refine ⟨⟨h.cut.upd (by omega), fun q hq => ?_⟩, fun p' q' hp' hq' => ?_, fun d hd => ?_, fun q hq => ?_, fun q hq => ?_, ?_⟩
  · unfold PI
    rw [upd_ne (by omega), upd_ne (by omega)]
    exact h.pi hq
  · rw [upd_ne (by omega), upd_ne (by omega)]
    exact h.dis hp' hq'
  · rw [upd_ne (by omega)]; exact h.rest hd
  · rw [upd_ne (by omega)]; exact h.met hq
  · rw [upd_ne (by omega)]; exact h.over hq
  · rw [upd_eq]; exact ⟨v, hv, rfl⟩
theorem Inv.le {B' : Nat} (h : Inv P K B ρ) (hB : B ≤ B') : Inv P K B' ρ :=
  ⟨h.1, h.2.1, h.2.2.1, fun p hp => by obtain ⟨m, h1, h2, h3⟩ := h.met hp; exact ⟨m, by omega, h2, h3⟩, h.2.2.2.2.1, h.lim⟩
end IN
/-! the site -/
def Sv (T Am : Nat → Int32) (P K : Nat) : Prop := (P ≤ 4 ∧ K ≤ 6) ∧ (∀ p, p < P → ∃ a, (1 ≤ a ∧ a ≤ 9) ∧ Am p = nI a) ∧ ∀ c, c < K → ∃ n m r k, ((1 ≤ n ∧ n ≤ 99) ∧ (1 ≤ m ∧ m ≤ 9) ∧ r ≤ 9 ∧ k ≤ 2) ∧ T (4 * c) = nI n ∧ T (4 * c + 1) = nI m ∧ T (4 * c + 2) = nI r ∧ T (4 * c + 3) = nI k
theorem Sv.h4 {T Am : Nat → Int32} {P K : Nat} (s : Sv T Am P K) : P ≤ 4 := s.1.1
theorem Sv.h6 {T Am : Nat → Int32} {P K : Nat} (s : Sv T Am P K) : K ≤ 6 := s.1.2
theorem trf_1 {T : Nat → Int32} {c : Nat} (hc : c < 6) : traitF T (nI c) 1 = T (4 * c + 1) := traitF_at (w := 1) hc (by decide)
theorem trf_2 {T : Nat → Int32} {c : Nat} (hc : c < 6) : traitF T (nI c) 2 = T (4 * c + 2) := traitF_at (w := 2) hc (by decide)
theorem trf_3 {T : Nat → Int32} {c : Nat} (hc : c < 6) : traitF T (nI c) 3 = T (4 * c + 3) := traitF_at (w := 3) hc (by decide)
theorem trf_0 {T : Nat → Int32} {c : Nat} (hc : c < 6) : traitF T (nI c) 0 = T (4 * c) := traitF_at (w := 0) hc (by decide)
theorem trf_9 {T : Nat → Int32} {w : Int32} : traitF T (-9) w = 0 := by unfold traitF; rw [if_pos (Or.inl (by decide))]
theorem amps_at {f : Nat → Int32} {p : Nat} (hp : p < 4) : ampsF f (nI p) = f p := by
  unfold ampsF
  rw [if_neg (by rintro (q | q); exact nI_pos (by omega) q; exact nI_ge hp (by decide) q), nI_clamp (by omega)]
/-! the steps at post j, in the model's places -/
section ST
variable {T Am ρ : Nat → Int32} {pat sil l : Int32} {j : Nat}
theorem kdF_at (h : j < 4) : kdF T ρ (nI j) l = pick (ρ j = l) 1 (traitF T (ρ j) 3) := by
  unfold kdF
  rw [rgj_1 h, Nat.zero_add]
theorem liveP_at (h : j < 4) : liveP ρ (nI j) = (ρ (4 + j) = 1 ∨ ρ (4 + j) = 2 ∨ ρ (4 + j) = 3) := by
  unfold liveP
  rw [rgj_2 h]
theorem silStep_at (h : j < 4) : silStep T pat sil l (nI j) ρ = pick (hasP sil (nI j) ∧ (ρ (4 + j) = 1 ∨ ρ (4 + j) = 2 ∨ ρ (4 + j) = 3) ∧ ¬ kdF T ρ (nI j) l = 2) (pick (ρ (12 + j) + 1 ≤ pat) (upd ρ (12 + j) (ρ (12 + j) + 1)) (upd (upd ρ (12 + j) (ρ (12 + j) + 1)) (4 + j) 4)) ρ := by
  unfold silStep
  rw [liveP_at h]
  simp only [rgj_4 h, rsj_4 h, rsj_2 h]
theorem stStep_at (h : j < 4) : stStep T l (nI j) ρ = pick (ρ (4 + j) = 1) (pick (¬ ρ (16 + j) + 1 < 2 ∧ kdF T ρ (nI j) l = 2) (upd (upd ρ (16 + j) (ρ (16 + j) + 1)) (4 + j) 2) (upd ρ (16 + j) (ρ (16 + j) + 1))) (pick (ρ (4 + j) = 2 ∧ ¬ rrest ρ (ρ j) = 0) (upd ρ (4 + j) 3) (pick (ρ (4 + j) = 3 ∧ rrest ρ (ρ j) = 0) (upd ρ (4 + j) 2) ρ)) := by
  unfold stStep growF
  have e : kdF T (upd ρ (16 + j) (ρ (16 + j) + 1)) (nI j) l = kdF T ρ (nI j) l := by
    rw [kdF_at h, kdF_at h, upd_ne (by omega)]
  simp only [rgj_1 h, rgj_2 h, rgj_5 h, rsj_5 h, rsj_2 h, e, Nat.zero_add]
end ST
theorem pick_I {α : Type} {R : α → Prop} {c : Prop} {a b : α} (ha : c → R a) (hb : ¬ c → R b) : R (pick c a b) := by
  by_cases h : c
  · rw [pick_t h]; exact ha h
  · rw [pick_f h]; exact hb h
section ST2
variable {T Am ρ : Nat → Int32} {pat sil l : Int32} {j P K B : Nat}
theorem live0 {x : Int32} (h : x = 1 ∨ x = 2 ∨ x = 3) : ¬ x = 0 := by rcases h with h | h | h <;> rw [h] <;> decide
theorem silStep_I (h : Inv P K B ρ) (hj : j < 4) : Inv P K B (silStep T pat sil l (nI j) ρ) := by
  rw [silStep_at hj]
  refine pick_I (fun q => pick_I (fun _ => h.upF (by omega)) fun _ => ?_) fun _ => h
  refine (h.upF (by omega)).upS hj ?_ (by simp)
  rw [upd_ne (by omega)]
  exact live0 q.2.1
theorem stStep_I (h : Inv P K B ρ) (hj : j < 4) : Inv P K B (stStep T l (nI j) ρ) := by
  rw [stStep_at hj]
  refine pick_I (fun q => pick_I (fun _ => (h.upF (by omega)).upS hj (by rw [upd_ne (by omega), q]; decide) (by simp)) fun _ => h.upF (by omega)) fun _ => ?_
  refine pick_I (fun q => h.upS hj (by rw [q.1]; decide) (by simp)) fun _ => ?_
  exact pick_I (fun q => h.upS hj (by rw [q.1]; decide) (by simp)) fun _ => h
theorem foldP_I {f : Int32 → (Nat → Int32) → (Nat → Int32)} (hf : ∀ j ρ, j < 4 → Inv P K B ρ → Inv P K B (f (nI j) ρ)) (h : Inv P K B ρ) : ∀ k, k ≤ 4 → Inv P K B (foldP f ρ k)
  | 0, _ => h
  | k + 1, hk => hf k _ (by omega) (foldP_I hf h k (by omega))
theorem mnA_I (h : Inv P K B ρ) (h4 : P ≤ 4) : Inv P K B (mnA T pat P sil l ρ) := foldP_I (fun _ _ hj h => stStep_I h hj) (foldP_I (fun _ _ hj h => silStep_I h hj) h P h4) P h4
end ST2
/-! the order's entries -/
theorem ord_ent {T ρ o : Nat → Int32} {fed : Int32} : ∀ p, p ≤ 4 → ∀ i, i < (ordF T ρ fed o p).2 → ∃ q, q < p ∧ (ordF T ρ fed o p).1 i = nI q ∧ ρ (4 + q) = 3
  | 0, _, i, hi => absurd hi (Nat.not_lt_zero i)
  | p + 1, hp, i, hi => by
    have ih := ord_ent (T := T) (ρ := ρ) (fed := fed) (o := o) p (by omega)
    unfold ordF at hi ⊢
    by_cases h : onP ρ fed (nI p)
    · rw [pick_t h] at hi ⊢
      have hi : i < (ordF T ρ fed o p).2 + 1 := hi
      show ∃ q, q < p + 1 ∧ insF T ρ (nI p) (ordF T ρ fed o p).2 (ordF T ρ fed o p).1 i = nI q ∧ _
      obtain ⟨k, hk, hz⟩ := insF_at (T := T) (ρ := ρ) (p := nI p) (ordF T ρ fed o p).2 (ordF T ρ fed o p).1
      rw [hz i (by omega)]
      by_cases h1 : i < k
      · rw [if_pos h1]
        obtain ⟨q, h1, h2⟩ := ih i (by omega)
        exact ⟨q, by omega, h2⟩
      · rw [if_neg h1]
        by_cases h2 : i = k
        · rw [if_pos h2]
          have := h.1
          rw [rgj_2 (by omega)] at this
          exact ⟨p, by omega, rfl, this⟩
        · rw [if_neg h2]
          obtain ⟨q, h1, h2⟩ := ih (i - 1) (by omega)
          exact ⟨q, by omega, h2⟩
    · rw [pick_f h] at hi ⊢
      obtain ⟨q, h1, h2⟩ := ih i hi
      exact ⟨q, by omega, h2⟩
theorem ord_dis {T ρ o : Nat → Int32} {fed : Int32} : ∀ p, p ≤ 4 → ∀ i j, i < (ordF T ρ fed o p).2 → j < (ordF T ρ fed o p).2 → (ordF T ρ fed o p).1 i = (ordF T ρ fed o p).1 j → i = j
  | 0, _, i, _, hi, _ => absurd hi (Nat.not_lt_zero i)
  | p + 1, hp, i, j, hi, hj => by
    have ih := ord_dis (T := T) (ρ := ρ) (fed := fed) (o := o) p (by omega)
    have ent := ord_ent (T := T) (ρ := ρ) (fed := fed) (o := o) p (by omega)
    have ne : ∀ i, i < (ordF T ρ fed o p).2 → ¬ (ordF T ρ fed o p).1 i = nI p := fun i hi q => by
      obtain ⟨q', h1, h2, -⟩ := ent i hi
      rw [h2] at q
      have := nI_inj (by omega) (by omega) q
      omega
    unfold ordF at hi hj ⊢
    by_cases h : onP ρ fed (nI p)
    · rw [pick_t h] at hi hj ⊢
      have hi : i < (ordF T ρ fed o p).2 + 1 := hi
      have hj : j < (ordF T ρ fed o p).2 + 1 := hj
      show insF T ρ (nI p) (ordF T ρ fed o p).2 (ordF T ρ fed o p).1 i = insF T ρ (nI p) (ordF T ρ fed o p).2 (ordF T ρ fed o p).1 j → i = j
      obtain ⟨k, hk, hz⟩ := insF_at (T := T) (ρ := ρ) (p := nI p) (ordF T ρ fed o p).2 (ordF T ρ fed o p).1
      rw [hz i (by omega), hz j (by omega)]
      intro e
      by_cases i1 : i < k
      · rw [if_pos i1] at e
        by_cases j1 : j < k
        · rw [if_pos j1] at e
          exact ih i j (by omega) (by omega) e
        · rw [if_neg j1] at e
          by_cases j2 : j = k
          · rw [if_pos j2] at e
            exact absurd e (ne i (by omega))
          · rw [if_neg j2] at e
            have := ih i (j - 1) (by omega) (by omega) e
            omega
      · rw [if_neg i1] at e
        by_cases i2 : i = k
        · rw [if_pos i2] at e
          by_cases j1 : j < k
          · rw [if_pos j1] at e
            exact absurd e.symm (ne j (by omega))
          · rw [if_neg j1] at e
            by_cases j2 : j = k
            · omega
            · rw [if_neg j2] at e
              exact absurd e.symm (ne (j - 1) (by omega))
        · rw [if_neg i2] at e
          by_cases j1 : j < k
          · rw [if_pos j1] at e
            have := ih (i - 1) j (by omega) (by omega) e
            omega
          · rw [if_neg j1] at e
            by_cases j2 : j = k
            · rw [if_pos j2] at e
              exact absurd e (ne (i - 1) (by omega))
            · rw [if_neg j2] at e
              have := ih (i - 1) (j - 1) (by omega) (by omega) e
              omega
    · rw [pick_f h] at hi hj ⊢
      exact ih i j hi hj
