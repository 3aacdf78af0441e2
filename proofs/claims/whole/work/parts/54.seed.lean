/-! the two seeds: a long as argument -/
theorem Ok.raw {Y : jY} {nb : Nat} {vs : List Value} {mem : jM} {Q : jQ} (hy : plainName Y.1.cls = true) (hlen : jcs vs ≤ Y.2.2.1)
    (h : ∀ (γ : jG) (p : Program) (l : Launch) (e : Env) (R : Room) (s : State) (m : MethodId) (args : Array Value) (below : List Frame) (meth : Method) (c : Code) (ad : Nat → Nat) (A : Nat → Prop) (Z : State → Prop), jFix Y none Q γ p l e R s m args below meth c ad A Z →
      ∀ (H : Heap) (locs : List Loc) (ls : Array Slot), jAt γ ad A s mem H locs → (H.size = s.heap.size + 0 ∧ 0 ≤ R.cells ∧ 0 ≤ R.slots ∧ jAl nb s.heap.size ad) → lv_has ls Y.2.2.1 (lv_args 0 (vs.map (jv ad))) → W p l e R s m args below meth c H locs 0 0 Z (F0 m 0 ls [])) : Ok Y nb vs mem Q := by
  intro l γ ad sz hal
  refine Met.ofW (cc := Y.2.1) (maxL := Y.2.2.1) (ret := Y.2.2.2.1) (ws' := jW) hy rfl ?_
  intro p e s m args below meth c s₁ B hml hv
  obtain ⟨rfl, hsz, hP, hK⟩ := hv
  have hts := atoms_spec (ws := jws Y) B.pre
  have hown : s.vm.findClass Y.1.cls = some m.cls := findClass_of_methodNamed B.named
  subst hsz
  have hl := lv_entry (vs.map (jv ad)) (n := Y.2.2.1) (by rw [jcs_len]; exact hlen)
  rw [lg_entry_eq]
  generalize (lg_sl (vs.map (jv ad)) ++ List.replicate (Y.2.2.1 - (lg_sl (vs.map (jv ad))).length) Slot.unset).toArray = ls at hl ⊢
  refine h γ p l e _ s m _ below meth c ad (jA ad mem s.heap.size) _ ⟨⟨B.exec, B.bytes, hml, hown, fun w hw => hts w (List.mem_cons_of_mem _ hw), hK, (name_of_methodNamed B.named B.method).1⟩, ⟨Nat.le_refl _, Nat.le_refl _, Nat.le_refl _, Nat.le_refl _⟩, fun q hq => Or.inr hq, trivial, ?_⟩ s.heap [] ls ⟨hP, fun k hk => Or.inl ⟨k, hk, rfl⟩, va_S.rf⟩ ⟨rfl, Nat.zero_le _, Nat.zero_le _, hal⟩ hl
  intro v mem' pc H locs ls' hQ hat hz hr
  have hnr : jnr v := fun ad => by
    match v, hr with
    | none, _ => rfl
    | some (.int x), _ => rfl
    | some (.long x), _ => rfl
  have hQc : ∀ t : State, t.heap = H → s.WarmedH t.vm → jQc γ ad s.heap.size Y.2.2.2.2.2.1 mem Q (vs.map (jv ad)).toArray s (.returned v) t := fun t ht hW =>
    ⟨⟨v, mem', rfl, hnr, hQ, by rw [ht]; exact hat.1, hat.2.1, by rw [ht]; exact hz⟩, hat.2.2.F ht⟩
  match v, hr with
  | none, hr => exact W.vret B.exec B.bytes (B.returns.trans hr.2) hQc hat.2.2.2.2 hr.1
  | some (.int x), hr =>
    obtain ⟨hr, ty, h1, h2⟩ := hr
    exact W.zret B.exec B.bytes (B.returns.trans h1) h2 hQc hat.2.2.2.2 hr
  | some (.long x), hr => exact W.lret B.exec B.bytes (B.returns.trans hr.2) hQc hat.2.2.2.2 hr.1
theorem Ok.seed {Y : jY} {nb a ix ci k N : Nat} {C : String} {T : u_T} {v : Int64} {mem : jM} {Q : jQ} (ty0 : Nat → FieldType) (hy : plainName Y.1.cls = true) (h5 : Y.2.2.1 = 5) (hret : Y.2.2.2.1 = some .long) (hmade : Y.2.2.2.2.2 = (0, 0))
    (d0 : decode Y.2.1 0 = .ok (.aload_n 0, 1)) (d1 : decode Y.2.1 1 = .ok (.getfield ix, 3)) (d4 : decode Y.2.1 4 = .ok (.lstore_n 3, 1)) (d5 : decode Y.2.1 5 = .ok (.aload_n 0, 1)) (d6 : decode Y.2.1 6 = .ok (.lload_n 1, 1)) (d7 : decode Y.2.1 7 = .ok (.putfield ix, 3)) (d10 : decode Y.2.1 10 = .ok (.lload_n 3, 1)) (d11 : decode Y.2.1 11 = .ok (.lreturn, 1))
    (hc : vwCl[ci]? = some (C, T, N)) (hk : k < N) (hlk : Cond.fieldLink Y.1.cls ix (T k).1 (T k).2.1 (T k).2.2.1 ∈ jW) (hin : ∀ w ∈ u_ws C T N, w ∈ jW) (hty : ∀ k, k < N → parseFieldDescriptor (T k).2.2.1 = some (ty0 k)) (hnm : ∀ a, a < N → ∀ b, b < N → a ≠ b → (T a).2.1 ≠ (T b).2.1) (hfin : (T k).2.2.2 = false) (h0 : ty0 k = .long)
    (h : jfld mem a ci k fun w => ∃ x, w = .long x ∧ jput mem a ci k (.long v) fun mem' => Q (some (.long x)) mem') : Ok Y nb [.ref a, .long v] mem Q := by
  refine Ok.raw hy (by rw [h5]; exact Nat.le_of_ble_eq_true rfl) ?_
  intro γ p l e R s m args below meth c ad A Z F H locs ls ha hz hl
  obtain ⟨f, hm, x, hx, h2⟩ := jfld_e h
  obtain ⟨f', hm', h3⟩ := jput_e h2
  have l0 : ls[0]? = some (.val (.ref (ad a))) := hl.2.2 (0, .ref (ad a)) List.mem_cons_self
  refine lv_aload_n F.1.1 F.1.2.1 d0 rfl l0 ?_
  have hts := F.1.2.2.2.2.1
  obtain ⟨r, g1, cell, q1, q2, q3, q4⟩ := ha.1.1 a _ hm
  have hr : r = (C, T, N) := Option.some.inj (g1.symm.trans hc)
  subst hr
  obtain ⟨hS, hfc, kC, hkC, hkind⟩ := F.1.2.2.2.2.2.1.1.1 ci _ hc
  obtain ⟨cf, kf, fi, f'', hi, hsl⟩ := hS k hk
  refine W.getf F.1.1 F.1.2.1 F.1.2.2.2.1 (hts _ hlk) hi (u_facts hfc hkC (u_lays hts hin hk) hi).1 q1 (by rw [q3]; exact fun h2 => by cases h2) (v := jv ad (f k)) (by rw [hsl, q4 k hk]) rfl rfl d1 ?_
  rw [hx]
  refine lv_lstore_n F.1.1 F.1.2.1 d4 rfl hl (by rw [h5]; decide) rfl fun ls' hl' => ?_
  have l0' : ls'[0]? = some (.val (.ref (ad a))) := hl'.2.2 (0, .ref (ad a)) (List.mem_cons_of_mem _ (List.mem_filter.mpr ⟨List.mem_cons_self, rfl⟩))
  have l1' : ls'[1]? = some (.val (.long v)) := hl'.2.2 (1, .long v) (List.mem_cons_of_mem _ (List.mem_filter.mpr ⟨List.mem_cons_of_mem _ List.mem_cons_self, rfl⟩))
  have l3' : ls'[3]? = some (.val (.long x)) := hl'.2.2 (3, .long x) List.mem_cons_self
  refine lv_aload_n F.1.1 F.1.2.1 d5 rfl l0' ?_
  refine lv_lload_n F.1.1 F.1.2.1 d6 rfl l1' ?_
  refine jput_go F hc hk hlk hin ty0 hty hnm (Or.inl hfin) (v := .long v) (by rw [h0]; rfl) (by rw [h0]; rfl) d7 ha hm' fun H1 locs1 z hat => ?_
  refine lv_lload_n F.1.1 F.1.2.1 d10 rfl l3' ?_
  exact jend F hmade (kk := (nb, 0, 0)) hat (z.trans hz.1) rfl h3 ⟨d11, hret⟩
def S_X6_seed : jSp := fun _ vs mem Q => ∃ a v, vs = [.ref a, .long v] ∧ jfld mem a 6 10 fun w => ∃ x, w = .long x ∧ jput mem a 6 10 (.long v) fun mem' => Q (some (.long x)) mem'
theorem ok_X6_seed : jMeets Y_X6_seed S_X6_seed := by
  intro nb vs mem Q h
  obtain ⟨a, v, rfl, h⟩ := h
  exact Ok.seed (Y := Y_X6_seed) tyX6 pn6 rfl rfl rfl dX6_seed_0 dX6_seed_1 dX6_seed_4 dX6_seed_5 dX6_seed_6 dX6_seed_7 dX6_seed_10 dX6_seed_11 (k := 10) (ci := 6) rfl (by decide) tw_176 jin6 tyX6_ok nmX6 rfl rfl h
def S_X7_seed : jSp := fun _ vs mem Q => ∃ a v, vs = [.ref a, .long v] ∧ jfld mem a 7 21 fun w => ∃ x, w = .long x ∧ jput mem a 7 21 (.long v) fun mem' => Q (some (.long x)) mem'
theorem ok_X7_seed : jMeets Y_X7_seed S_X7_seed := by
  intro nb vs mem Q h
  obtain ⟨a, v, rfl, h⟩ := h
  exact Ok.seed (Y := Y_X7_seed) tyX7 pn7 rfl rfl rfl dX7_seed_0 dX7_seed_1 dX7_seed_4 dX7_seed_5 dX7_seed_6 dX7_seed_7 dX7_seed_10 dX7_seed_11 (k := 21) (ci := 7) rfl (by decide) tw_635 jin7 tyX7_ok nmX7 rfl rfl h
theorem s_X6_seed {nb : Nat} {C : Nat → Nat → Int32} {z : Nat → Int64} {v : Int64} {Q : jQ} (hQ : Q (some (.long (z 0))) (memS 94 C (zput z 0 v))) : S_X6_seed nb [.ref 0, .long v] (memS 94 C z) Q := by
  refine ⟨0, v, rfl, ?_⟩
  rw [fl_0_10]
  refine ⟨_, rfl, ?_⟩
  rw [fp_0_10]
  exact hQ
theorem s_X7_seed {nb : Nat} {C : Nat → Nat → Int32} {z : Nat → Int64} {v : Int64} {Q : jQ} (hQ : Q (some (.long (z 71))) (memS 94 C (zput z 71 v))) : S_X7_seed nb [.ref 71, .long v] (memS 94 C z) Q := by
  refine ⟨71, v, rfl, ?_⟩
  rw [fl_71_21]
  refine ⟨_, rfl, ?_⟩
  rw [fp_71_21]
  exact hQ
theorem co_seed {n nb : Nat} {C : Nat → Nat → Int32} {z : Nat → Int64} {v : Int64} {Q : jQ} (h : Rel n C z) (hQ : (∀ nb (Q' : jQ), (∀ C2 z2, Rel (n + 1) C2 z2 → Q' (some (.long (z 0))) (memS 94 C2 z2)) → S_X7_seed nb [.ref 71, .long v] (memS 94 C (zput z 0 v)) Q') → Q (some (.long (z 0))) (memS 94 C (zput z 0 v))) : S_X6_seed nb [.ref 0, .long v] (memS 94 C z) Q := by
  obtain ⟨P, K, L, nx, ct, sn, h⟩ := h
  refine s_X6_seed (hQ fun nb Q' hq => s_X7_seed ?_)
  have n1 : zput z 0 v 71 = z 0 := by
    unfold zput
    rw [if_neg (by decide)]
    exact h.hz.symm
  rw [n1]
  refine hq _ _ (h.rel h.ak.rf ?_)
  unfold zput
  rw [if_neg (by decide), if_pos rfl, if_pos rfl]
