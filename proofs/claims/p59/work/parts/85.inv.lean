/-! ===== what the looker leaves alone: histories, states that aren't made yet, blocks of the reference's words ===== -/
def at_top (r : at_R) : Bool := decide (0 ≤ r.2.2.1) && decide (r.2.1 + r.2.2.1 * (r.2.2.2.1 - 1) + (r.2.2.2.2.1 - 1) ≤ 1419)
theorem at_top_all : (at_rg at_TA).all at_top = true := by decide +kernel
theorem at_mem_top {r : at_R} (hr : r ∈ at_rg at_TA) {j : Int} (h : at_mem j r) : j ≤ 1419 := by
  have ht := List.all_eq_true.mp at_top_all r hr
  unfold at_top at ht
  simp only [Bool.and_eq_true, decide_eq_true_eq] at ht
  obtain ⟨o, i, h1, h2, h3, h4, h5⟩ := h
  have : r.2.2.1 * o ≤ r.2.2.1 * (r.2.2.2.1 - 1) := Int.mul_le_mul_of_nonneg_left h2 ht.1
  omega
/-- the words 2 .. 1419 that a step keeps are in their ranges -/
def at_AK (w : Nat → Int) : Prop :=
  (∀ r ∈ at_rg at_TA, ∀ j : Nat, 2 ≤ j → at_mem j r → r.2.2.2.2.2.1 ≤ w j ∧ w j ≤ r.2.2.2.2.2.2) ∧
  (∀ c : Nat, c < 16 → (c : Int) < w 2 → 100 ≤ w (444 + 61 * c) ∧ 100 ≤ w (450 + 61 * c) ∧ 1 ≤ w (454 + 61 * c) ∧ 0 ≤ w (445 + 61 * c) ∧ w (445 + 61 * c) ≤ 3600 * w (444 + 61 * c)) ∧
  ∀ k : Nat, k < 3 → w (341 + 35 * k) ≤ w 2
theorem at_AK.congr {w w' : Nat → Int} (h : at_AK w) (e : ∀ j : Nat, 2 ≤ j → j ≤ 1419 → w' j = w j) : at_AK w' := by
  obtain ⟨h1, h2, h3⟩ := h
  refine ⟨fun r hr j hj hm => ?_, fun c hc hl => ?_, fun k hk => ?_⟩
  · have := at_mem_top hr hm
    rw [e j hj (by omega)]
    exact h1 r hr j hj hm
  · rw [e 2 (by omega) (by omega)] at hl
    obtain ⟨a1, a2, a3, a4, a5⟩ := h2 c hc hl
    rw [e (444 + 61 * c) (by omega) (by omega), e (450 + 61 * c) (by omega) (by omega), e (454 + 61 * c) (by omega) (by omega), e (445 + 61 * c) (by omega) (by omega)]
    exact ⟨a1, a2, a3, a4, a5⟩
  · rw [e (341 + 35 * k) (by omega) (by omega), e 2 (by omega) (by omega)]
    exact h3 k hk
def at_nzr (m : fl_M) (q i : Nat) : Nat := if m.1 q i = 0 then 0 else 1
/-- how many rows of a history are made -/
def at_cnt (m : fl_M) (q : Nat) : Nat := ((List.range 20).map (at_nzr m q)).sum
theorem at_cnt_le (m : fl_M) (q : Nat) : at_cnt m q ≤ 20 := by
  have : ∀ l : List Nat, (l.map (at_nzr m q)).sum ≤ l.length := by
    intro l
    induction l with
    | nil => exact Nat.le_refl 0
    | cons a l ih =>
      rw [List.map_cons, List.sum_cons, List.length_cons]
      have : at_nzr m q a ≤ 1 := by unfold at_nzr; split <;> omega
      omega
  have h := this (List.range 20)
  rw [List.length_range] at h
  exact h
def at_XI (m : fl_M) : Prop :=
  (∀ q, q = 272 ∨ q = 274 → ∀ i, i < 20 → m.1 q i = 0 ∨ ∃ j, j < m.2.2 ∧ (m.1 q i).toInt = 285 + 90 * (j : Int)) ∧
  at_cnt m 272 + at_cnt m 274 = m.2.2 ∧
  (∀ p, fl_N m.2.2 ≤ p → ∀ i, m.1 p i = at_W0 ((p - 285) % 90) i) ∧
  at_AK (fun j => (m.1 283 (j - 2)).toInt) ∧
  (∀ s : Nat, s < 20 → at_AK (fun j => (m.1 280 (1420 + 1418 * s + (j - 2))).toInt)) ∧
  (at_AK (fun j => (m.1 281 j).toInt) ∧ (0 ≤ (m.1 281 0).toInt ∧ (m.1 281 0).toInt ≤ 20) ∧ (0 ≤ (m.1 281 1).toInt ∧ (m.1 281 1).toInt ≤ 19)) ∧
  (∀ s : Nat, s < 20 → at_AK (fun j => (m.1 281 (1420 + 1418 * s + (j - 2))).toInt)) ∧
  ∀ p j : Nat, p = 278 ∨ p = 279 → m.1 p j = (at_i0 p).getD j 0
theorem at_XI.h40 {m : fl_M} (h : at_XI m) : m.2.2 ≤ 40 := by
  have := at_cnt_le m 272
  have := at_cnt_le m 274
  have := h.2.1
  omega
/-- all that X speaks of stands -/
theorem at_XI.keep {m m' : fl_M} (h : at_XI m) (hh : m'.2.2 = m.2.2) (hk : ∀ p j : Nat, (p = 272 ∨ p = 274 ∨ fl_N m.2.2 ≤ p ∨ p = 283 ∨ (p = 280 ∧ 1420 ≤ j) ∨ p = 281 ∨ p = 278 ∨ p = 279) → m'.1 p j = m.1 p j) : at_XI m' := by
  obtain ⟨h1, h2, h3, h4, h5, ⟨h6, h7, h8⟩, h9, h10⟩ := h
  have c1 : at_cnt m' 272 = at_cnt m 272 := by
    unfold at_cnt at_nzr
    simp only [fun i => hk 272 i (Or.inl rfl)]
  have c2 : at_cnt m' 274 = at_cnt m 274 := by
    unfold at_cnt at_nzr
    simp only [fun i => hk 274 i (Or.inr (Or.inl rfl))]
  refine ⟨fun q hq i hi => ?_, by rw [c1, c2, hh]; exact h2, fun p hp i => ?_, ?_, fun s hs => ?_, ⟨?_, ?_, ?_⟩, fun s hs => ?_, fun p j hp => ?_⟩
  · have e : m'.1 q i = m.1 q i := hk q i (by rcases hq with rfl | rfl <;> simp)
    rw [e, hh]
    exact h1 q hq i hi
  · rw [hh] at hp
    rw [hk p i (by simp [hp])]
    exact h3 p hp i
  · exact h4.congr (fun j _ _ => by (try dsimp only); rw [hk 283 (j - 2) (by simp)])
  · exact (h5 s hs).congr (fun j _ _ => by (try dsimp only); rw [hk 280 _ (Or.inr (Or.inr (Or.inr (Or.inr (Or.inl ⟨rfl, by omega⟩)))))])
  · exact h6.congr (fun j _ _ => by (try dsimp only); rw [hk 281 j (by simp)])
  · rw [hk 281 0 (by simp)]; exact h7
  · rw [hk 281 1 (by simp)]; exact h8
  · exact (h9 s hs).congr (fun j _ _ => by (try dsimp only); rw [hk 281 _ (by simp)])
  · rw [hk p j (by rcases hp with rfl | rfl <;> simp)]
    exact h10 p j hp
theorem fk_K_280 : fk_K 280 = 79 := by decide +kernel
theorem at_XI_XX : at_XX at_XI := by
  have kp : ∀ p : Nat, p = 272 ∨ p = 274 → fk_K p = 74 := by rintro p (rfl | rfl) <;> decide +kernel
  have k1 : fk_K 283 = 82 := by decide +kernel
  have k2 : fk_K 281 = 80 := by decide +kernel
  have k3 : fk_K 278 = 77 := by decide +kernel
  have k4 : fk_K 279 = 78 := by decide +kernel
  refine ⟨fun m p i x h hp hn => ?_, fun m l h => ?_, fun m p w h hp hn => ?_⟩
  · refine h.keep rfl (fun q j hq => ?_)
    show fl_up m.1 p i x q j = m.1 q j
    unfold fl_up
    rw [if_neg]
    rintro ⟨rfl, rfl⟩
    refine hn ?_
    rcases hq with rfl | rfl | hq | rfl | ⟨rfl, hq⟩ | rfl | rfl | rfl
    · exact Or.inr (Or.inr (Or.inr (Or.inl (kp _ (Or.inl rfl)))))
    · exact Or.inr (Or.inr (Or.inr (Or.inl (kp _ (Or.inr rfl)))))
    · exact absurd hp (by omega)
    · exact Or.inr (Or.inr (Or.inl k1))
    · exact Or.inl ⟨fk_K_280, by omega⟩
    · exact Or.inr (Or.inl k2)
    · exact Or.inr (Or.inr (Or.inr (Or.inr (Or.inl k3))))
    · exact Or.inr (Or.inr (Or.inr (Or.inr (Or.inr k4))))
  · exact h.keep rfl (fun q j hq => rfl)
  · refine h.keep rfl (fun q j hq => ?_)
    show fl_row m.1 p w q j = m.1 q j
    unfold fl_row
    rw [if_neg]
    rintro rfl
    refine hn j ?_
    rcases hq with rfl | rfl | hq | rfl | ⟨rfl, hq⟩ | rfl | rfl | rfl
    · exact Or.inr (Or.inr (Or.inr (Or.inl (kp _ (Or.inl rfl)))))
    · exact Or.inr (Or.inr (Or.inr (Or.inl (kp _ (Or.inr rfl)))))
    · exact absurd hp (by omega)
    · exact Or.inr (Or.inr (Or.inl k1))
    · exact Or.inl ⟨fk_K_280, by omega⟩
    · exact Or.inr (Or.inl k2)
    · exact Or.inr (Or.inr (Or.inr (Or.inr (Or.inl k3))))
    · exact Or.inr (Or.inr (Or.inr (Or.inr (Or.inr k4))))
/-- the reference's words, whole -/
theorem at_Good.AK {X : fl_M → Prop} {m : fl_M} (h : at_Good X m) : at_AK (at_w m) := by
  obtain ⟨h1, ⟨h2, h3⟩, -⟩ := h
  have hnb : ∀ w c, at_nb (fun _ => 0) [] w c := fun w c b hb => by cases hb
  refine ⟨fun r hr j _ hm => ?_, fun c hc hl => ?_, h3⟩
  · refine h1 280 (by unfold fl_N; omega) r ?_ j hm
    rw [fk_K_280]
    exact hr
  · obtain ⟨x1, x2, x3, x4⟩ := h2 c hc hl
    obtain ⟨x5, x6⟩ := x4 (hnb _ _)
    exact ⟨x1 (hnb _ _), x2 (hnb _ _), x3 (hnb _ _), x5, x6⟩
theorem at_Good.w0 {X : fl_M → Prop} {m : fl_M} (h : at_Good X m) : 0 ≤ at_w m 0 ∧ at_w m 0 ≤ 20 := by
  refine h.1 280 (by unfold fl_N; omega) (0, 0, 0, 1, 1, 0, 20) ?_ 0 ⟨0, 0, by decide, by decide, by decide, by decide, by decide⟩
  rw [fk_K_280]
  decide +kernel
theorem at_Good.w1 {X : fl_M → Prop} {m : fl_M} (h : at_Good X m) : 0 ≤ at_w m 1 ∧ at_w m 1 ≤ 19 := by
  refine h.1 280 (by unfold fl_N; omega) (0, 1, 0, 1, 1, 0, 19) ?_ 1 ⟨0, 0, by decide, by decide, by decide, by decide, by decide⟩
  rw [fk_K_280]
  decide +kernel
theorem at_Good.w2 {X : fl_M → Prop} {m : fl_M} (h : at_Good X m) : 0 ≤ at_w m 2 ∧ at_w m 2 ≤ 16 := by
  refine h.1 280 (by unfold fl_N; omega) (0, 2, 0, 1, 1, 0, 16) ?_ 2 ⟨0, 0, by decide, by decide, by decide, by decide, by decide⟩
  rw [fk_K_280]
  decide +kernel
/-- the reference's words 0, 1 and those of a block: all good -/
def at_01 (r : at_R) : Bool := bif decide (r.2.1 ≤ 1) then decide (r = (0, 0, 0, 1, 1, 0, 20)) || decide (r = (0, 1, 0, 1, 1, 0, 19)) else decide (0 ≤ r.2.2.1)
theorem at_01_all : (at_rg at_TA).all at_01 = true := by decide +kernel
theorem at_Good.mk {X : fl_M → Prop} {m m' : fl_M} (h : at_Good X m) (hh : m'.2.2 = m.2.2) (hX : X m') (hr : ∀ p j : Nat, p ≠ 280 → p < fl_N m.2.2 → m'.1 p j ≠ m.1 p j → at_rg (fk_K p) = []) (h0 : 0 ≤ at_w m' 0 ∧ at_w m' 0 ≤ 20) (h1 : 0 ≤ at_w m' 1 ∧ at_w m' 1 ≤ 19) (hA : at_AK (at_w m')) : at_Good X m' := by
  obtain ⟨a1, a2, a3⟩ := hA
  refine ⟨fun p hp r hr' j hm => ?_, ⟨fun c hc hl => ?_, a3⟩, hX⟩
  · rw [hh] at hp
    by_cases hp2 : p = 280
    · subst hp2
      rw [fk_K_280] at hr'
      by_cases hj : 2 ≤ j
      · exact a1 r hr' j hj hm
      · have hb := List.all_eq_true.mp at_01_all r hr'
        unfold at_01 at hb
        obtain ⟨o, i, q1, q2, q3, q4, q5⟩ := hm
        cases hd : decide (r.2.1 ≤ 1) with
        | true =>
          rw [hd] at hb
          simp only [cond_true, Bool.or_eq_true, decide_eq_true_eq] at hb
          rcases hb with rfl | rfl
          · have : j = 0 := by simp only at q5 q4; omega
            subst this
            exact h0
          · have : j = 1 := by simp only at q5 q4; omega
            subst this
            exact h1
        | false =>
          rw [hd] at hb
          simp only [cond_false, decide_eq_true_eq] at hb
          have hd := of_decide_eq_false hd
          have := Int.mul_nonneg hb q1
          omega
    · by_cases e : m'.1 p j = m.1 p j
      · rw [e]
        exact h.1 p hp r hr' j hm
      · rw [hr p j hp2 hp e] at hr'
        cases hr'
  · obtain ⟨x1, x2, x3, x4, x5⟩ := a2 c hc hl
    exact ⟨fun _ => x1, fun _ => x2, fun _ => x3, fun _ => ⟨x4, x5⟩⟩
