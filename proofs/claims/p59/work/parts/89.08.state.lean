/-! ===== stateAt: a state of a history, made when it is first asked for ===== -/
/-- a region's words, one by one -/
def at_rok (w : Nat → Int) (r : at_R) : Bool := (List.range r.2.2.2.1.toNat).all (fun o => (List.range r.2.2.2.2.1.toNat).all (fun i => (fun z : Int => decide (r.2.2.2.2.2.1 ≤ z) && decide (z ≤ r.2.2.2.2.2.2)) (w (r.2.1 + r.2.2.1 * (o : Int) + (i : Int)).toNat)))
theorem at_rok_ok {w : Nat → Int} {r : at_R} (h : at_rok w r = true) {j : Nat} (hm : at_mem j r) : r.2.2.2.2.2.1 ≤ w j ∧ w j ≤ r.2.2.2.2.2.2 := by
  obtain ⟨o, i, h1, h2, h3, h4, h5⟩ := hm
  have a1 := List.all_eq_true.mp h o.toNat (List.mem_range.mpr (by omega))
  have a2 := List.all_eq_true.mp a1 i.toNat (List.mem_range.mpr (by omega))
  have e1 : ((o.toNat : Nat) : Int) = o := Int.toNat_of_nonneg h1
  have e2 : ((i.toNat : Nat) : Int) = i := Int.toNat_of_nonneg h3
  rw [e1, e2, ← h5] at a2
  simp only [Bool.and_eq_true, decide_eq_true_eq, Int.toNat_natCast] at a2
  exact a2
theorem at_fresh : (List.range 90).all (fun r => (at_rg (fk_K1.getD r 0)).all (at_rok (fun i => (at_W0 r i).toInt))) = true := by decide +kernel
theorem at_sum1 {f g : Nat → Nat} {i : Nat} (he : ∀ j, j ≠ i → g j = f j) (hi : g i = f i + 1) : ∀ n : Nat, ((List.range n).map g).sum = ((List.range n).map f).sum + (if i < n then 1 else 0) := by
  intro n
  induction n with
  | zero => rfl
  | succ n ih =>
    rw [List.range_succ, List.map_append, List.map_append, List.sum_append, List.sum_append, ih]
    simp only [List.map_cons, List.map_nil, List.sum_cons, List.sum_nil, Nat.add_zero]
    by_cases h : i = n
    · subst h
      rw [if_neg (Nat.lt_irrefl _), if_pos (Nat.lt_succ_self _), hi]
      omega
    · rw [he n (fun e => h e.symm)]
      by_cases h2 : i < n
      · rw [if_pos h2, if_pos (by omega)]; omega
      · rw [if_neg h2, if_neg (by omega)]; omega
theorem at_K73 {p h : Nat} (hk : fk_K p = 73) : p = 271 ∨ p = 273 := by
  by_cases hl : p < 285
  · have : ∀ p : Fin 285, fk_K p.val = 73 → p.val = 271 ∨ p.val = 273 := by decide +kernel
    exact this ⟨p, hl⟩ hk
  · exfalso
    have : ∀ r : Fin 90, fk_K1.getD r.val 0 ≠ 73 := by decide +kernel
    unfold fk_K at hk
    rw [if_neg hl] at hk
    exact this ⟨(p - 285) % 90, Nat.mod_lt _ (by decide)⟩ hk
theorem at_K25 (j : Nat) : fk_K (285 + 90 * j) = 25 := by
  have := fk_K_hi (r := 0) (q := j) (by decide)
  rw [Nat.add_zero] at this
  rw [this]
  rfl
/-- the memory with one state more -/
theorem at_more {m : fl_M} {H : nw_H} (hX : at_XI m) (h1 : H.1.length = 90) (h2 : H.2 = 1564) (h3 : nw_ckl (285 + 90 * m.2.2) (fun r => at_w0l.getD r []) 0 H.1 = true) : nw_h (fl_H m) H = fl_H (m.1, m.2.1, m.2.2 + 1) := by
  unfold nw_h
  refine Prod.ext ?_ ?_
  · show (fl_H m).1 ++ H.1.map nw_o = (fl_H (m.1, m.2.1, m.2.2 + 1)).1
    have hN : fl_N (m.2.2 + 1) = fl_N m.2.2 + 90 := by unfold fl_N; omega
    have hl : (fl_H m).1.length = fl_N m.2.2 := by unfold fl_H; simp
    refine List.ext_getElem? (fun p => ?_)
    by_cases hp : p < fl_N m.2.2
    · rw [List.getElem?_append_left (by rw [hl]; exact hp), fl_get hp, fl_get (m := (m.1, m.2.1, m.2.2 + 1)) (by show p < fl_N (m.2.2 + 1); omega)]
    · rw [List.getElem?_append_right (by rw [hl]; omega), hl]
      by_cases hp2 : p < fl_N m.2.2 + 90
      · rw [fl_get (m := (m.1, m.2.1, m.2.2 + 1)) (by show p < fl_N (m.2.2 + 1); omega)]
        have hk := nw_ckl_ok H.1 0 h3 (p - fl_N m.2.2) (by omega)
        have e : 285 + 90 * m.2.2 + (0 + (p - fl_N m.2.2)) = p := by unfold fl_N at hp ⊢; omega
        rw [hk, e]
        have e2 : (p - 285) % 90 = p - fl_N m.2.2 := by unfold fl_N at hp hp2 ⊢; omega
        have e3 : (fun j => (at_w0l.getD (0 + (p - fl_N m.2.2)) []).getD j 0) = m.1 p := by
          funext j
          rw [hX.2.2.1 p (by omega) j, e2, Nat.zero_add]
          rfl
        show some (fl_ob _ _ (fun j => (at_w0l.getD (0 + (p - fl_N m.2.2)) []).getD j 0) _) = _
        rw [e3]
        -- longs: no array of longs among a state's places
        have kl : ∀ r : Fin 90, (match fk_kd (fk_K1.getD r.val 0) with | .inr (1, _) => false | _ => true) = true := by decide +kernel
        have kk := kl ⟨(p - 285) % 90, Nat.mod_lt _ (by decide)⟩
        have e4 : fk_K p = fk_K1.getD ((p - 285) % 90) 0 := by
          unfold fk_K
          rw [if_neg (by unfold fl_N at hp; omega)]
        rw [e4]
        dsimp only at kk
        generalize fk_kd (fk_K1.getD ((p - 285) % 90) 0) = kd at kk
        rcases kd with ⟨ci, fs⟩ | ⟨t, n, z⟩
        · rfl
        · match t, kk with
          | 0, _ => rfl
          | t + 2, _ => rfl
      · rw [List.getElem?_eq_none (by rw [List.length_map]; omega), List.getElem?_eq_none (by unfold fl_H; simp; omega)]
  · show fl_S m.2.2 + H.2 = fl_S (m.2.2 + 1)
    unfold fl_S
    omega
/-- X and all else with a new state in a history's row -/
theorem at_made {m : fl_M} {q i : Nat} {x : Int32} (hg : at_Good at_XI m) (hq : q = 272 ∨ q = 274) (hi : i < 20) (h0 : m.1 q i = 0) (hx : x.toInt = 285 + 90 * (m.2.2 : Int)) : m.2.2 < 40 ∧ at_Good at_XI (fl_up m.1 q i x, m.2.1, m.2.2 + 1) ∧ at_MD m (fl_up m.1 q i x, m.2.1, m.2.2 + 1) [(74, false, 0, 19)] := by
  have hkq : fk_K q = 74 := by rcases hq with rfl | rfl <;> decide +kernel
  have hq285 : q < 285 := by omega
  have hxne : x ≠ 0 := fun h => by
    rw [h] at hx
    have : (0 : Int32).toInt = 0 := rfl
    omega
  have ne : ∀ p j : Nat, p ≠ q → fl_up m.1 q i x p j = m.1 p j := fun p j e => bl_un (fun h => absurd h e)
  obtain ⟨a1, a2, a3, a4, a5, ⟨a6, a7, a8⟩, a9, a10⟩ := hg.2.2
  have hc : ∀ q', q' = q → at_cnt (fl_up m.1 q i x, m.2.1, m.2.2 + 1) q' = at_cnt m q' + 1 := by
    intro q' e
    subst e
    unfold at_cnt
    rw [at_sum1 (f := at_nzr m q') (g := at_nzr (fl_up m.1 q' i x, m.2.1, m.2.2 + 1) q') (i := i) (fun j hj => by
      unfold at_nzr
      show (if fl_up m.1 q' i x q' j = 0 then 0 else 1) = _
      rw [bl_un (fun _ => hj)]) (by
      unfold at_nzr
      show (if fl_up m.1 q' i x q' i = 0 then 0 else 1) = _
      rw [bl_ue, if_neg hxne, if_pos h0]), if_pos hi]
  have hc2 : ∀ q', q' ≠ q → at_cnt (fl_up m.1 q i x, m.2.1, m.2.2 + 1) q' = at_cnt m q' := by
    intro q' e
    unfold at_cnt at_nzr
    simp only [fun j => ne q' j e]
  have hX : at_XI (fl_up m.1 q i x, m.2.1, m.2.2 + 1) := by
    refine ⟨fun q' hq' i' hi' => ?_, ?_, fun p hp j => ?_, ?_, fun s hs => ?_, ⟨?_, ?_, ?_⟩, fun s hs => ?_, fun p j hp => ?_⟩
    · show fl_up m.1 q i x q' i' = 0 ∨ ∃ j, j < m.2.2 + 1 ∧ (fl_up m.1 q i x q' i').toInt = _
      by_cases e : q' = q ∧ i' = i
      · obtain ⟨rfl, rfl⟩ := e
        rw [bl_ue]
        exact Or.inr ⟨m.2.2, by omega, hx⟩
      · rw [bl_un (fun h h2 => e ⟨h, h2⟩)]
        rcases a1 q' hq' i' hi' with h | ⟨j, hj, h⟩
        · exact Or.inl h
        · exact Or.inr ⟨j, by omega, h⟩
    · show at_cnt _ 272 + at_cnt _ 274 = m.2.2 + 1
      rcases hq with rfl | rfl
      · rw [hc 272 rfl, hc2 274 (by decide)]; omega
      · rw [hc 274 rfl, hc2 272 (by decide)]; omega
    · have hp : fl_N (m.2.2 + 1) ≤ p := hp
      show fl_up m.1 q i x p j = _
      rw [ne p j (by unfold fl_N at hp; omega)]
      exact a3 p (by unfold fl_N at hp ⊢; omega) j
    · exact a4.congr (fun j _ _ => by (try dsimp only); rw [ne 283 _ (by omega)])
    · exact (a5 s hs).congr (fun j _ _ => by (try dsimp only); rw [ne 280 _ (by omega)])
    · exact a6.congr (fun j _ _ => by (try dsimp only); rw [ne 281 _ (by omega)])
    · show 0 ≤ (fl_up m.1 q i x 281 0).toInt ∧ (fl_up m.1 q i x 281 0).toInt ≤ 20
      rw [ne 281 0 (by omega)]; exact a7
    · show 0 ≤ (fl_up m.1 q i x 281 1).toInt ∧ (fl_up m.1 q i x 281 1).toInt ≤ 19
      rw [ne 281 1 (by omega)]; exact a8
    · exact (a9 s hs).congr (fun j _ _ => by (try dsimp only); rw [ne 281 _ (by omega)])
    · show fl_up m.1 q i x p j = _
      rw [ne p j (by omega)]
      exact a10 p j hp
  have h40 := hX.h40
  have ew : ∀ j, at_w (fl_up m.1 q i x, m.2.1, m.2.2 + 1) j = at_w m j := fun j => by
    show (fl_up m.1 q i x 280 j).toInt = _
    rw [ne 280 j (by omega)]
    rfl
  refine ⟨by show m.2.2 < 40; have : m.2.2 + 1 ≤ 40 := h40; omega, ⟨fun p hp r hr j hm => ?_, ?_, hX⟩, ⟨Nat.le_succ _, fun p j hne => ⟨_, List.mem_singleton.mpr rfl, ?_⟩⟩⟩
  · show r.2.2.2.2.2.1 ≤ (fl_up m.1 q i x p j).toInt ∧ (fl_up m.1 q i x p j).toInt ≤ r.2.2.2.2.2.2
    by_cases e : p = q
    · subst e
      rw [hkq] at hr
      have : at_rg 74 = [] := by decide +kernel
      rw [this] at hr
      cases hr
    · rw [ne p j e]
      by_cases hp2 : p < fl_N m.2.2
      · exact hg.1 p hp2 r hr j hm
      · have hp3 : p < fl_N (m.2.2 + 1) := hp
        rw [a3 p (by omega) j]
        have e4 : fk_K p = fk_K1.getD ((p - 285) % 90) 0 := by
          unfold fk_K
          rw [if_neg (by unfold fl_N at hp2; omega)]
        rw [e4] at hr
        have b1 := List.all_eq_true.mp at_fresh ((p - 285) % 90) (List.mem_range.mpr (Nat.mod_lt _ (by decide)))
        have b2 := List.all_eq_true.mp b1 r hr
        exact at_rok_ok b2 hm
  · obtain ⟨r1, r2⟩ := hg.2.1
    refine ⟨fun c hc hl => ?_, fun k hk => ?_⟩
    · simp only [ew] at hl ⊢
      exact r1 c hc hl
    · simp only [ew]
      exact r2 k hk
  · have hne : fl_up m.1 q i x p j ≠ m.1 p j := hne
    by_cases e : p = q ∧ j = i
    · obtain ⟨rfl, rfl⟩ := e
      refine ⟨hkq.symm, ?_⟩
      rw [if_neg (by decide)]
      show (0 : Int) ≤ j ∧ (j : Int) ≤ 19
      omega
    · exact absurd (bl_un (fun h h2 => e ⟨h, h2⟩)) hne
