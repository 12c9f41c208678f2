/-! 85.inv.lean.txt -/
section
/-! ===== what the looker leaves alone: histories, states that aren't made yet, blocks of the reference's words ===== -/
def at_top (r : at_R) : Bool := decide (0 ≤ r.2.2.1) && decide (r.2.1 + r.2.2.1 * (r.2.2.2.1 - 1) + (r.2.2.2.2.1 - 1) ≤ 1419)
theorem at_top_all : (at_rg at_TA).all at_top = true := by decide +kernel
theorem at_mem_top {r : at_R} (hr : r ∈ at_rg at_TA) {j : Int} (h : at_mem j r) : j ≤ 1419 := by
  have ht := List.all_eq_true.mp at_top_all r hr
  unfold at_top at ht
  simp only [Bool.and_eq_true, decide_eq_true_eq] at ht
  obtain ⟨o, i, h1, h2, h3, h4, h5⟩ := h
  have : r.2.2.1 * o ≤ r.2.2.1 * (r.2.2.2.1 - 1) := Int.mul_le_mul_of_nonneg_left h2 ht.1
  omega
/-- the words 2 .. 1419 that a step keeps are in their ranges -/
def at_AK (w : Nat → Int) : Prop :=
  (∀ r ∈ at_rg at_TA, ∀ j : Nat, 2 ≤ j → at_mem j r → r.2.2.2.2.2.1 ≤ w j ∧ w j ≤ r.2.2.2.2.2.2) ∧
  (∀ c : Nat, c < 16 → (c : Int) < w 2 → 100 ≤ w (444 + 61 * c) ∧ 100 ≤ w (450 + 61 * c) ∧ 1 ≤ w (454 + 61 * c) ∧ 0 ≤ w (445 + 61 * c) ∧ w (445 + 61 * c) ≤ 3600 * w (444 + 61 * c)) ∧
  ∀ k : Nat, k < 3 → w (341 + 35 * k) ≤ w 2
theorem at_AK.congr {w w' : Nat → Int} (h : at_AK w) (e : ∀ j : Nat, 2 ≤ j → j ≤ 1419 → w' j = w j) : at_AK w' := by
  obtain ⟨h1, h2, h3⟩ := h
  refine ⟨fun r hr j hj hm => ?_, fun c hc hl => ?_, fun k hk => ?_⟩
  · have := at_mem_top hr hm
    rw [e j hj (by omega)]
    exact h1 r hr j hj hm
  · rw [e 2 (by omega) (by omega)] at hl
    obtain ⟨a1, a2, a3, a4, a5⟩ := h2 c hc hl
    rw [e (444 + 61 * c) (by omega) (by omega), e (450 + 61 * c) (by omega) (by omega), e (454 + 61 * c) (by omega) (by omega), e (445 + 61 * c) (by omega) (by omega)]
    exact ⟨a1, a2, a3, a4, a5⟩
  · rw [e (341 + 35 * k) (by omega) (by omega), e 2 (by omega) (by omega)]
    exact h3 k hk
def at_nzr (m : fl_M) (q i : Nat) : Nat := if m.1 q i = 0 then 0 else 1
/-- how many rows of a history are made -/
def at_cnt (m : fl_M) (q : Nat) : Nat := ((List.range 20).map (at_nzr m q)).sum
theorem at_cnt_le (m : fl_M) (q : Nat) : at_cnt m q ≤ 20 := by
  have : ∀ l : List Nat, (l.map (at_nzr m q)).sum ≤ l.length := by
    intro l
    induction l with
    | nil => exact Nat.le_refl 0
    | cons a l ih =>
      rw [List.map_cons, List.sum_cons, List.length_cons]
      have : at_nzr m q a ≤ 1 := by unfold at_nzr; split <;> omega
      omega
  have h := this (List.range 20)
  rw [List.length_range] at h
  exact h
def at_XI (m : fl_M) : Prop :=
  (∀ q, q = 272 ∨ q = 274 → ∀ i, i < 20 → m.1 q i = 0 ∨ ∃ j, j < m.2.2 ∧ (m.1 q i).toInt = 285 + 90 * (j : Int)) ∧
  at_cnt m 272 + at_cnt m 274 = m.2.2 ∧
  (∀ p, fl_N m.2.2 ≤ p → ∀ i, m.1 p i = at_W0 ((p - 285) % 90) i) ∧
  at_AK (fun j => (m.1 283 (j - 2)).toInt) ∧
  (∀ s : Nat, s < 20 → at_AK (fun j => (m.1 280 (1420 + 1418 * s + (j - 2))).toInt)) ∧
  (at_AK (fun j => (m.1 281 j).toInt) ∧ (0 ≤ (m.1 281 0).toInt ∧ (m.1 281 0).toInt ≤ 20) ∧ (0 ≤ (m.1 281 1).toInt ∧ (m.1 281 1).toInt ≤ 19)) ∧
  (∀ s : Nat, s < 20 → at_AK (fun j => (m.1 281 (1420 + 1418 * s + (j - 2))).toInt)) ∧
  ∀ p j : Nat, p = 278 ∨ p = 279 → m.1 p j = (at_i0 p).getD j 0
theorem at_XI.h40 {m : fl_M} (h : at_XI m) : m.2.2 ≤ 40 := by
  have := at_cnt_le m 272
  have := at_cnt_le m 274
  have := h.2.1
  omega
/-- all that X speaks of stands -/
theorem at_XI.keep {m m' : fl_M} (h : at_XI m) (hh : m'.2.2 = m.2.2) (hk : ∀ p j : Nat, (p = 272 ∨ p = 274 ∨ fl_N m.2.2 ≤ p ∨ p = 283 ∨ (p = 280 ∧ 1420 ≤ j) ∨ p = 281 ∨ p = 278 ∨ p = 279) → m'.1 p j = m.1 p j) : at_XI m' := by
  obtain ⟨h1, h2, h3, h4, h5, ⟨h6, h7, h8⟩, h9, h10⟩ := h
  have c1 : at_cnt m' 272 = at_cnt m 272 := by
    unfold at_cnt at_nzr
    simp only [fun i => hk 272 i (Or.inl rfl)]
  have c2 : at_cnt m' 274 = at_cnt m 274 := by
    unfold at_cnt at_nzr
    simp only [fun i => hk 274 i (Or.inr (Or.inl rfl))]
  refine ⟨fun q hq i hi => ?_, by rw [c1, c2, hh]; exact h2, fun p hp i => ?_, ?_, fun s hs => ?_, ⟨?_, ?_, ?_⟩, fun s hs => ?_, fun p j hp => ?_⟩
  · have e : m'.1 q i = m.1 q i := hk q i (by rcases hq with rfl | rfl <;> simp)
    rw [e, hh]
    exact h1 q hq i hi
  · rw [hh] at hp
    rw [hk p i (by simp [hp])]
    exact h3 p hp i
  · exact h4.congr (fun j _ _ => by (try dsimp only); rw [hk 283 (j - 2) (by simp)])
  · exact (h5 s hs).congr (fun j _ _ => by (try dsimp only); rw [hk 280 _ (Or.inr (Or.inr (Or.inr (Or.inr (Or.inl ⟨rfl, by omega⟩)))))])
  · exact h6.congr (fun j _ _ => by (try dsimp only); rw [hk 281 j (by simp)])
  · rw [hk 281 0 (by simp)]; exact h7
  · rw [hk 281 1 (by simp)]; exact h8
  · exact (h9 s hs).congr (fun j _ _ => by (try dsimp only); rw [hk 281 _ (by simp)])
  · rw [hk p j (by rcases hp with rfl | rfl <;> simp)]
    exact h10 p j hp
theorem fk_K_280 : fk_K 280 = 79 := by decide +kernel
theorem at_XI_XX : at_XX at_XI := by
  have kp : ∀ p : Nat, p = 272 ∨ p = 274 → fk_K p = 74 := by rintro p (rfl | rfl) <;> decide +kernel
  have k1 : fk_K 283 = 82 := by decide +kernel
  have k2 : fk_K 281 = 80 := by decide +kernel
  have k3 : fk_K 278 = 77 := by decide +kernel
  have k4 : fk_K 279 = 78 := by decide +kernel
  refine ⟨fun m p i x h hp hn => ?_, fun m l h => ?_, fun m p w h hp hn => ?_⟩
  · refine h.keep rfl (fun q j hq => ?_)
    show fl_up m.1 p i x q j = m.1 q j
    unfold fl_up
    rw [if_neg]
    rintro ⟨rfl, rfl⟩
    refine hn ?_
    rcases hq with rfl | rfl | hq | rfl | ⟨rfl, hq⟩ | rfl | rfl | rfl
    · exact Or.inr (Or.inr (Or.inr (Or.inl (kp _ (Or.inl rfl)))))
    · exact Or.inr (Or.inr (Or.inr (Or.inl (kp _ (Or.inr rfl)))))
    · exact absurd hp (by omega)
    · exact Or.inr (Or.inr (Or.inl k1))
    · exact Or.inl ⟨fk_K_280, by omega⟩
    · exact Or.inr (Or.inl k2)
    · exact Or.inr (Or.inr (Or.inr (Or.inr (Or.inl k3))))
    · exact Or.inr (Or.inr (Or.inr (Or.inr (Or.inr k4))))
  · exact h.keep rfl (fun q j hq => rfl)
  · refine h.keep rfl (fun q j hq => ?_)
    show fl_row m.1 p w q j = m.1 q j
    unfold fl_row
    rw [if_neg]
    rintro rfl
    refine hn j ?_
    rcases hq with rfl | rfl | hq | rfl | ⟨rfl, hq⟩ | rfl | rfl | rfl
    · exact Or.inr (Or.inr (Or.inr (Or.inl (kp _ (Or.inl rfl)))))
    · exact Or.inr (Or.inr (Or.inr (Or.inl (kp _ (Or.inr rfl)))))
    · exact absurd hp (by omega)
    · exact Or.inr (Or.inr (Or.inl k1))
    · exact Or.inl ⟨fk_K_280, by omega⟩
    · exact Or.inr (Or.inl k2)
    · exact Or.inr (Or.inr (Or.inr (Or.inr (Or.inl k3))))
    · exact Or.inr (Or.inr (Or.inr (Or.inr (Or.inr k4))))
/-- the reference's words, whole -/
theorem at_Good.AK {X : fl_M → Prop} {m : fl_M} (h : at_Good X m) : at_AK (at_w m) := by
  obtain ⟨h1, ⟨h2, h3⟩, -⟩ := h
  have hnb : ∀ w c, at_nb (fun _ => 0) [] w c := fun w c b hb => by cases hb
  refine ⟨fun r hr j _ hm => ?_, fun c hc hl => ?_, h3⟩
  · refine h1 280 (by unfold fl_N; omega) r ?_ j hm
    rw [fk_K_280]
    exact hr
  · obtain ⟨x1, x2, x3, x4⟩ := h2 c hc hl
    obtain ⟨x5, x6⟩ := x4 (hnb _ _)
    exact ⟨x1 (hnb _ _), x2 (hnb _ _), x3 (hnb _ _), x5, x6⟩
theorem at_Good.w0 {X : fl_M → Prop} {m : fl_M} (h : at_Good X m) : 0 ≤ at_w m 0 ∧ at_w m 0 ≤ 20 := by
  refine h.1 280 (by unfold fl_N; omega) (0, 0, 0, 1, 1, 0, 20) ?_ 0 ⟨0, 0, by decide, by decide, by decide, by decide, by decide⟩
  rw [fk_K_280]
  decide +kernel
theorem at_Good.w1 {X : fl_M → Prop} {m : fl_M} (h : at_Good X m) : 0 ≤ at_w m 1 ∧ at_w m 1 ≤ 19 := by
  refine h.1 280 (by unfold fl_N; omega) (0, 1, 0, 1, 1, 0, 19) ?_ 1 ⟨0, 0, by decide, by decide, by decide, by decide, by decide⟩
  rw [fk_K_280]
  decide +kernel
theorem at_Good.w2 {X : fl_M → Prop} {m : fl_M} (h : at_Good X m) : 0 ≤ at_w m 2 ∧ at_w m 2 ≤ 16 := by
  refine h.1 280 (by unfold fl_N; omega) (0, 2, 0, 1, 1, 0, 16) ?_ 2 ⟨0, 0, by decide, by decide, by decide, by decide, by decide⟩
  rw [fk_K_280]
  decide +kernel
/-- the reference's words 0, 1 and those of a block: all good -/
def at_01 (r : at_R) : Bool := bif decide (r.2.1 ≤ 1) then decide (r = (0, 0, 0, 1, 1, 0, 20)) || decide (r = (0, 1, 0, 1, 1, 0, 19)) else decide (0 ≤ r.2.2.1)
theorem at_01_all : (at_rg at_TA).all at_01 = true := by decide +kernel
theorem at_Good.mk {X : fl_M → Prop} {m m' : fl_M} (h : at_Good X m) (hh : m'.2.2 = m.2.2) (hX : X m') (hr : ∀ p j : Nat, p ≠ 280 → p < fl_N m.2.2 → m'.1 p j ≠ m.1 p j → at_rg (fk_K p) = []) (h0 : 0 ≤ at_w m' 0 ∧ at_w m' 0 ≤ 20) (h1 : 0 ≤ at_w m' 1 ∧ at_w m' 1 ≤ 19) (hA : at_AK (at_w m')) : at_Good X m' := by
  obtain ⟨a1, a2, a3⟩ := hA
  refine ⟨fun p hp r hr' j hm => ?_, ⟨fun c hc hl => ?_, a3⟩, hX⟩
  · rw [hh] at hp
    by_cases hp2 : p = 280
    · subst hp2
      rw [fk_K_280] at hr'
      by_cases hj : 2 ≤ j
      · exact a1 r hr' j hj hm
      · have hb := List.all_eq_true.mp at_01_all r hr'
        unfold at_01 at hb
        obtain ⟨o, i, q1, q2, q3, q4, q5⟩ := hm
        cases hd : decide (r.2.1 ≤ 1) with
        | true =>
          rw [hd] at hb
          simp only [cond_true, Bool.or_eq_true, decide_eq_true_eq] at hb
          rcases hb with rfl | rfl
          · have : j = 0 := by simp only at q5 q4; omega
            subst this
            exact h0
          · have : j = 1 := by simp only at q5 q4; omega
            subst this
            exact h1
        | false =>
          rw [hd] at hb
          simp only [cond_false, decide_eq_true_eq] at hb
          have hd := of_decide_eq_false hd
          have := Int.mul_nonneg hb q1
          omega
    · by_cases e : m'.1 p j = m.1 p j
      · rw [e]
        exact h.1 p hp r hr' j hm
      · rw [hr p j hp2 hp e] at hr'
        cases hr'
  · obtain ⟨x1, x2, x3, x4, x5⟩ := a2 c hc hl
    exact ⟨fun _ => x1, fun _ => x2, fun _ => x3, fun _ => ⟨x4, x5⟩⟩

end

/-! 86.tools.lean.txt -/
section
/-! ===== tools for methods that are gone through by hand ===== -/
def fl_oks (h : Nat) : List fl_V → Prop
  | [] => True
  | v :: r => fl_ok h v ∧ fl_oks h r
theorem fl_oks_ok {h : Nat} : ∀ {st : List fl_V}, fl_oks h st → ∀ v ∈ st, fl_ok h v := by
  intro st
  induction st with
  | nil => intro _ v hv; cases hv
  | cons w r ih =>
    intro hs v hv
    rcases List.mem_cons.mp hv with rfl | hv
    · exact hs.1
    · exact ih hs.2 v hv
theorem fl_okp {h τ p : Nat} (hk : fk_K p = τ) (hp : p < 285) : fl_ok h (.inr (.inr (.inl (τ, p)))) := ⟨hk, by unfold fl_N; omega⟩
def fl_vb (v : fl_V) : Bool := match v with
  | .inr (.inr (.inl q)) => Nat.beq (fk_K q.2) q.1 && Nat.blt q.2 285
  | _ => true
theorem fl_bo {h : Nat} : ∀ {st : List fl_V}, st.all fl_vb = true → ∀ v ∈ st, fl_ok h v := by
  intro st hs v hv
  have := List.all_eq_true.mp hs v hv
  unfold fl_ok
  split
  · rename_i q
    have this : (Nat.beq (fk_K q.2) q.1 && Nat.blt q.2 285) = true := this
    rw [Bool.and_eq_true] at this
    have h2 : q.2 < 285 := Nat.le_of_ble_eq_true this.2
    exact ⟨Nat.eq_of_beq_eq_true this.1, by unfold fl_N; omega⟩
  · exact True.intro
section FTL
variable {P : am_Pg} {pc t p k : Nat} {off : Int} {lv : fl_L} {r : List fl_V} {m : fl_M} {τ n : Nat} {z : Nat × Nat × Nat} {i x : Int32} {b : Bool}
theorem at_ofN (h : k < 2147483648) : (Int32.ofNat k).toInt = k := Int32.toInt_ofNat_small h
theorem at_add32 {x y : Int32} (h1 : -2147483648 ≤ x.toInt + y.toInt) (h2 : x.toInt + y.toInt ≤ 2147483647) : (x + y).toInt = x.toInt + y.toInt := by
  rw [Int32.toInt_add]; exact Int.bmod_eq_of_le (by omega) (by omega)
theorem at_sub32 {x y : Int32} (h1 : -2147483648 ≤ x.toInt - y.toInt) (h2 : x.toInt - y.toInt ≤ 2147483647) : (x - y).toInt = x.toInt - y.toInt := by
  rw [Int32.toInt_sub]; exact Int.bmod_eq_of_le (by omega) (by omega)
theorem at_mul32 {x y : Int32} (h1 : -2147483648 ≤ x.toInt * y.toInt) (h2 : x.toInt * y.toInt ≤ 2147483647) : (x * y).toInt = x.toInt * y.toInt := by
  rw [Int32.toInt_mul]; exact Int.bmod_eq_of_le (by omega) (by omega)
theorem fl_ald_eq (hk : fk_kd τ = .inr (0, n, z)) (hi : i.toInt = k) (hlt : k < n) : fl_ald P pc lv (.inl i :: .inr (.inr (.inl (τ, p))) :: r) m = some (pc + 1, lv, .inl (m.1 p k) :: r, m) := by
  obtain ⟨h1, h2⟩ := at_in_ok (i := i) (n := n) (by omega) (by omega)
  have h3 : i.toNatClampNeg = k := by omega
  show ((match fk_kd τ with
    | .inr (0, n, _) => bif am_in i n then some (pc + 1, lv, .inl (m.1 p i.toNatClampNeg) :: r, m) else none
    | _ => none) : Option fl_C) = _
  rw [hk]
  show ((bif am_in i n then some (pc + 1, lv, .inl (m.1 p i.toNatClampNeg) :: r, m) else none) : Option fl_C) = _
  rw [h1, h3]
  rfl
theorem fl_ast_eq (hk : fk_kd τ = .inr (0, n, z)) (hi : i.toInt = k) (hlt : k < n) : fl_ast pc lv (.inl x :: .inl i :: .inr (.inr (.inl (τ, p))) :: r) m = some (pc + 1, lv, r, (fl_up m.1 p k x, m.2)) := by
  obtain ⟨h1, h2⟩ := at_in_ok (i := i) (n := n) (by omega) (by omega)
  have h3 : i.toNatClampNeg = k := by omega
  show ((match fk_kd τ with
    | .inr (0, n, _) => bif am_in i n then some (pc + 1, lv, r, (fl_up m.1 p i.toNatClampNeg x, m.2)) else none
    | _ => none) : Option fl_C) = _
  rw [hk]
  show ((bif am_in i n then some (pc + 1, lv, r, (fl_up m.1 p i.toNatClampNeg x, m.2)) else none) : Option fl_C) = _
  rw [h1, h3]
  rfl
theorem fl_br_t (hb : b = true) (ht : am_tg pc off = some t) : fl_br b pc off lv r m = some (t, lv, r, m) := by
  unfold fl_br
  rw [ht, hb]
  rfl
theorem fl_br_f (hb : b = false) (ht : am_tg pc off = some t) : fl_br b pc off lv r m = some (pc + 3, lv, r, m) := by
  unfold fl_br
  rw [ht, hb]
  rfl
variable {mi : Nat} {st : List fl_V} {Q : Option fl_V → fl_M → Prop} {y : Int32} {c : ClassFile.Cond}
theorem fl_Tq.jt (hc : am_code P mi pc = some (.if_icmp c off)) (hok : ∀ v ∈ (.inl y :: .inl x :: r : List fl_V), fl_ok m.2.2 v) (hb : am_c2 c x y = true) (ht : am_tg pc off = some t) (k : fl_Tq P mi t lv r m Q) : fl_Tq P mi pc lv (.inl y :: .inl x :: r) m Q := fl_Tq.stp hc rfl hok (fl_br_t hb ht) k
theorem fl_Tq.jf (hc : am_code P mi pc = some (.if_icmp c off)) (hok : ∀ v ∈ (.inl y :: .inl x :: r : List fl_V), fl_ok m.2.2 v) (hb : am_c2 c x y = false) (ht : am_tg pc off = some t) (k : fl_Tq P mi (pc + 3) lv r m Q) : fl_Tq P mi pc lv (.inl y :: .inl x :: r) m Q := fl_Tq.stp hc rfl hok (fl_br_f hb ht) k
theorem fl_Tq.zt (hc : am_code P mi pc = some (.ifCond c off)) (hok : ∀ v ∈ (.inl x :: r : List fl_V), fl_ok m.2.2 v) (hb : am_c1 c x = true) (ht : am_tg pc off = some t) (k : fl_Tq P mi t lv r m Q) : fl_Tq P mi pc lv (.inl x :: r) m Q := fl_Tq.stp hc rfl hok (fl_br_t hb ht) k
theorem fl_Tq.zf (hc : am_code P mi pc = some (.ifCond c off)) (hok : ∀ v ∈ (.inl x :: r : List fl_V), fl_ok m.2.2 v) (hb : am_c1 c x = false) (ht : am_tg pc off = some t) (k : fl_Tq P mi (pc + 3) lv r m Q) : fl_Tq P mi pc lv (.inl x :: r) m Q := fl_Tq.stp hc rfl hok (fl_br_f hb ht) k
theorem fl_Tq.ld (hc : am_code P mi pc = some .iaload) (hok : ∀ v ∈ (.inl i :: .inr (.inr (.inl (τ, p))) :: r : List fl_V), fl_ok m.2.2 v) (hk : fk_kd τ = .inr (0, n, z)) (hi : i.toInt = k) (hlt : k < n) (q : fl_Tq P mi (pc + 1) lv (.inl (m.1 p k) :: r) m Q) : fl_Tq P mi pc lv (.inl i :: .inr (.inr (.inl (τ, p))) :: r) m Q := fl_Tq.stp hc rfl hok (fl_ald_eq (P := P) hk hi hlt) q
theorem fl_Tq.sv (hc : am_code P mi pc = some .iastore) (hok : ∀ v ∈ (.inl x :: .inl i :: .inr (.inr (.inl (τ, p))) :: r : List fl_V), fl_ok m.2.2 v) (hk : fk_kd τ = .inr (0, n, z)) (hi : i.toInt = k) (hlt : k < n) (q : fl_Tq P mi (pc + 1) lv r (fl_up m.1 p k x, m.2) Q) : fl_Tq P mi pc lv (.inl x :: .inl i :: .inr (.inr (.inl (τ, p))) :: r) m Q := fl_Tq.stp hc rfl hok (fl_ast_eq hk hi hlt) q
theorem fl_Tq.rm (hc : am_code P mi pc = some .irem) (hok : ∀ v ∈ (.inl y :: .inl x :: r : List fl_V), fl_ok m.2.2 v) (hy : y ≠ 0) (q : fl_Tq P mi (pc + 1) lv (.inl (x - (x / y) * y) :: r) m Q) : fl_Tq P mi pc lv (.inl y :: .inl x :: r) m Q := fl_Tq.stp hc rfl hok (show (if y = 0 then none else some (pc + 1, lv, Sum.inl (x - (x / y) * y) :: r, m) : Option fl_C) = _ from if_neg hy) q
theorem fl_Tq.dv (hc : am_code P mi pc = some .idiv) (hok : ∀ v ∈ (.inl y :: .inl x :: r : List fl_V), fl_ok m.2.2 v) (hy : y ≠ 0) (q : fl_Tq P mi (pc + 1) lv (.inl (x / y) :: r) m Q) : fl_Tq P mi pc lv (.inl y :: .inl x :: r) m Q := fl_Tq.stp hc rfl hok (show (if y = 0 then none else some (pc + 1, lv, Sum.inl (x / y) :: r, m) : Option fl_C) = _ from if_neg hy) q
end FTL
/-! ===== blocks that are copied word by word ===== -/
def bl_cp (src s0 dst d0 n : Nat) (m : fl_M) : fl_M := (fun p j => if p = dst ∧ d0 ≤ j ∧ j < d0 + n then m.1 src (j - d0 + s0) else m.1 p j, m.2)
theorem bl_cp_0 {src s0 dst d0 : Nat} {m : fl_M} : bl_cp src s0 dst d0 0 m = m := by
  unfold bl_cp
  refine Prod.ext ?_ rfl
  funext p j
  dsimp only
  rw [if_neg (by omega)]
theorem bl_cp_s {src s0 dst d0 n : Nat} {m : fl_M} (hd : src = dst → s0 + n < d0 ∨ d0 ≤ s0) : (fl_up (bl_cp src s0 dst d0 n m).1 dst (d0 + n) ((bl_cp src s0 dst d0 n m).1 src (s0 + n)), (bl_cp src s0 dst d0 n m).2) = bl_cp src s0 dst d0 (n + 1) m := by
  have e : (bl_cp src s0 dst d0 n m).1 src (s0 + n) = m.1 src (s0 + n) := by
    show (if src = dst ∧ d0 ≤ s0 + n ∧ s0 + n < d0 + n then _ else _) = _
    rw [if_neg]
    rintro ⟨h, h1, h2⟩
    have := hd h
    omega
  rw [e]
  refine Prod.ext ?_ rfl
  funext p j
  show (if p = dst ∧ j = d0 + n then m.1 src (s0 + n) else if p = dst ∧ d0 ≤ j ∧ j < d0 + n then m.1 src (j - d0 + s0) else m.1 p j) = (if p = dst ∧ d0 ≤ j ∧ j < d0 + (n + 1) then m.1 src (j - d0 + s0) else m.1 p j)
  by_cases h1 : p = dst ∧ j = d0 + n
  · obtain ⟨rfl, rfl⟩ := h1
    rw [if_pos ⟨rfl, rfl⟩, if_pos ⟨rfl, by omega, by omega⟩]
    have : d0 + n - d0 + s0 = s0 + n := by omega
    rw [this]
  · rw [if_neg h1]
    by_cases h2 : p = dst ∧ d0 ≤ j ∧ j < d0 + n
    · rw [if_pos h2, if_pos ⟨h2.1, h2.2.1, by omega⟩]
    · rw [if_neg h2, if_neg]
      rintro ⟨h3, h4, h5⟩
      exact h2 ⟨h3, h4, by
        have : j ≠ d0 + n := fun h => h1 ⟨h3, h⟩
        omega⟩
section ATCP
variable {L : Nat} {xs : Nat → Int32} {m : fl_M} {Q : Option fl_V → fl_M → Prop}
/-- the words that the whole row's copy leaves -/
theorem at_copy {p q tp tq : Nat} (kp : fk_K p = tp) (kq : fk_K q = tq) (hp : p < 285) (hq : q < 285) (dp : fk_kd tp = .inr (0, 29780, 0, 0, 0)) (dq : fk_kd tq = .inr (0, 29780, 0, 0, 0)) (hne : p ≠ q) (k : Q none (bl_cp p 0 q 0 29780 m)) : fl_Tq (pw_P L xs) 184 0 (fl_args (am_mxl (pw_P L xs) 184) [.inr (.inr (.inl (tp, p))), .inr (.inr (.inl (tq, q)))]) [] m Q := by
  have loop : ∀ (d n : Nat), n + d = 29780 → fl_Tq (pw_P L xs) 184 2 [some (.inr (.inr (.inl (tp, p)))), some (.inr (.inr (.inl (tq, q)))), some (.inl (Int32.ofNat n))] [] (bl_cp p 0 q 0 n m) Q := by
    intro d
    induction d with
    | zero =>
      intro n hn
      have hn : n = 29780 := by omega
      subst hn
      refine fl_Tq.stp rfl rfl (fl_bo rfl) rfl ?_
      refine fl_Tq.stp rfl rfl (fl_bo rfl) rfl ?_
      refine fl_Tq.jt rfl (fl_bo rfl) (by decide +kernel) rfl ?_
      exact fl_Tq.ret rfl rfl rfl k
    | succ d ih =>
      intro n hn
      have en := at_ofN (k := n) (by omega)
      refine fl_Tq.stp rfl rfl (fl_bo rfl) rfl ?_
      refine fl_Tq.stp rfl rfl (fl_bo rfl) rfl ?_
      refine fl_Tq.jf rfl (fl_bo rfl) ?_ rfl ?_
      · rw [at_c2, en]
        exact decide_eq_false (by show ¬ (0 ≤ (n : Int) - (29780 : Int)); omega)
      refine fl_Tq.stp rfl rfl (fl_bo rfl) rfl ?_
      refine fl_Tq.stp rfl rfl (fl_oks_ok ⟨fl_okp kq hq, True.intro⟩) rfl ?_
      refine fl_Tq.stp rfl rfl (fl_oks_ok ⟨True.intro, fl_okp kq hq, True.intro⟩) rfl ?_
      refine fl_Tq.stp rfl rfl (fl_oks_ok ⟨fl_okp kp hp, True.intro, fl_okp kq hq, True.intro⟩) rfl ?_
      refine fl_Tq.ld rfl (fl_oks_ok ⟨True.intro, fl_okp kp hp, True.intro, fl_okp kq hq, True.intro⟩) dp en (by omega) ?_
      refine fl_Tq.sv rfl (fl_oks_ok ⟨True.intro, True.intro, fl_okp kq hq, True.intro⟩) dq en (by omega) ?_
      have e2 := bl_cp_s (src := p) (s0 := 0) (dst := q) (d0 := 0) (n := n) (m := m) (fun h => absurd h hne)
      rw [Nat.zero_add] at e2
      rw [e2]
      refine fl_Tq.stp rfl rfl (fl_bo rfl) rfl ?_
      refine fl_Tq.stp rfl rfl (fl_bo rfl) rfl ?_
      have e3 : Int32.ofNat n + Int32.ofInt 1 = Int32.ofNat (n + 1) := by
        refine Int32.toInt.inj ?_
        rw [at_add32] <;> rw [en] <;> first | (rw [at_ofN (by omega)]; rfl) | (show _ ≤ _; have : (Int32.ofInt 1).toInt = 1 := rfl; omega)
      have := ih (n + 1) (by omega)
      rw [← e3] at this
      exact this
  refine fl_Tq.stp rfl rfl (fl_bo rfl) rfl ?_
  refine fl_Tq.stp rfl rfl (fl_bo rfl) rfl ?_
  have := loop 29780 0 (by omega)
  rw [bl_cp_0] at this
  exact this
end ATCP

end

/-! 87.blocks.lean.txt -/
section
/-! ===== putAside, bringBack, image, back: by hand ===== -/
def at_this : fl_V := .inr (.inr (.inl (76, 277)))
theorem at_ag277 {h : Nat} {ks : List at_K} {vs : List fl_V} (hk : at_agk h (.inl (76, some 277) :: ks) vs) : ∃ r, vs = at_this :: r ∧ at_agk h ks r := by
  cases vs with
  | nil => cases hk
  | cons v r =>
    obtain ⟨⟨p, rfl, e1, e2, e3⟩, hr⟩ := hk
    have := e3 277 rfl
    subst this
    exact ⟨r, rfl, hr⟩
theorem at_agnil {h : Nat} {vs : List fl_V} (hk : at_agk h [] vs) : vs = [] := by
  cases vs with
  | nil => rfl
  | cons v r => cases hk
theorem at_inc {n : Nat} (h : n < 2147483647) : Int32.ofNat n + Int32.ofInt 1 = Int32.ofNat (n + 1) := by
  have en := at_ofN (k := n) (by omega)
  have e1 : (Int32.ofInt 1).toInt = 1 := rfl
  refine Int32.toInt.inj ?_
  rw [at_add32 (by omega) (by omega), en, e1, at_ofN (by omega)]
  rfl
theorem at_2n {n : Nat} (h : n < 2147483645) : (Int32.ofInt 2 + Int32.ofNat n).toInt = ((n + 2 : Nat) : Int) := by
  have en := at_ofN (k := n) (by omega)
  have e1 : (Int32.ofInt 2).toInt = 2 := rfl
  rw [at_add32 (by omega) (by omega), en, e1]
  omega
theorem at_XI.mk280 {m m' : fl_M} (h : at_XI m) (hh : m'.2.2 = m.2.2) (hk : ∀ p j : Nat, p ≠ 280 → m'.1 p j = m.1 p j) (hs : ∀ s : Nat, s < 20 → at_AK (fun j => (m'.1 280 (1420 + 1418 * s + (j - 2))).toInt)) : at_XI m' := by
  let m2 : fl_M := ((fun p j => if p = 280 then m.1 p j else m'.1 p j), m'.2)
  have h2 : at_XI m2 := h.keep hh (fun p j hp => by
    show (if p = 280 then m.1 p j else m'.1 p j) = m.1 p j
    by_cases e : p = 280
    · rw [if_pos e]
    · rw [if_neg e]; exact hk p j e)
  obtain ⟨a1, a2, a3, a4, a5, ⟨a6, a7, a8⟩, a9, a10⟩ := h2
  have ne : ∀ p j : Nat, p ≠ 280 → m2.1 p j = m'.1 p j := fun p j e => by
    show (if p = 280 then m.1 p j else m'.1 p j) = m'.1 p j
    rw [if_neg e]
  refine ⟨fun q hq i hi => ?_, ?_, fun p hp i => ?_, ?_, hs, ⟨?_, ?_, ?_⟩, fun s hs' => ?_, fun p j hp => ?_⟩
  · have := a1 q hq i hi
    rw [ne q i (by omega)] at this
    exact this
  · unfold at_cnt at_nzr at a2 ⊢
    simp only [fun i => ne 272 i (by omega), fun i => ne 274 i (by omega)] at a2
    exact a2
  · have e : p ≠ 280 := by unfold fl_N at hp; omega
    rw [← ne p i e]
    exact a3 p hp i
  · exact a4.congr (fun j _ _ => by (try dsimp only); rw [ne 283 _ (by omega)])
  · exact a6.congr (fun j _ _ => by (try dsimp only); rw [ne 281 _ (by omega)])
  · rw [← ne 281 0 (by omega)]; exact a7
  · rw [← ne 281 1 (by omega)]; exact a8
  · exact (a9 s hs').congr (fun j _ _ => by (try dsimp only); rw [ne 281 _ (by omega)])
  · rw [← ne p j (by omega)]
    exact a10 p j hp
theorem bl_cp_in {src s0 dst d0 n : Nat} {m : fl_M} {j : Nat} (h1 : d0 ≤ j) (h2 : j < d0 + n) : (bl_cp src s0 dst d0 n m).1 dst j = m.1 src (j - d0 + s0) := by
  show (if dst = dst ∧ d0 ≤ j ∧ j < d0 + n then _ else _) = _
  rw [if_pos ⟨rfl, h1, h2⟩]
theorem bl_cp_out {src s0 dst d0 n : Nat} {m : fl_M} {p j : Nat} (h : p = dst → j < d0 ∨ d0 + n ≤ j) : (bl_cp src s0 dst d0 n m).1 p j = m.1 p j := by
  show (if p = dst ∧ d0 ≤ j ∧ j < d0 + n then _ else _) = _
  rw [if_neg]
  rintro ⟨h1, h2, h3⟩
  have := h h1
  omega
section ATBL
variable {L : Nat} {xs : Nat → Int32}
theorem at_v238 : at_Valid at_XI (pw_P L xs) (238, [.inl (76, some 277)], [], none, false, [(82, false, 0, 1417)]) := by
  intro m vs hg hk _
  obtain ⟨r, rfl, hk2⟩ := at_ag277 hk
  have hr0 := at_agnil (vs := r) hk2
  subst hr0
  have k82 : fk_K 283 = 82 := by decide +kernel
  have hR : ∀ Q : Option fl_V → fl_M → Prop, Q none (bl_cp 280 2 283 0 1418 m) → fl_Tq (pw_P L xs) 238 0 (fl_args (am_mxl (pw_P L xs) 238) [at_this]) [] m Q := by
    intro Q k
    have loop : ∀ (d n : Nat), n + d = 1418 → fl_Tq (pw_P L xs) 238 2 [some (.inr (.inr (.inl (76, 277)))), some (.inl (Int32.ofNat n))] [] (bl_cp 280 2 283 0 n m) Q := by
      intro d
      induction d with
      | zero =>
        intro n hn
        have hn : n = 1418 := by omega
        subst hn
        refine fl_Tq.stp rfl rfl (fl_bo rfl) rfl ?_
        refine fl_Tq.stp rfl rfl (fl_bo rfl) rfl ?_
        refine fl_Tq.jt rfl (fl_bo rfl) (by decide +kernel) rfl ?_
        exact fl_Tq.ret rfl rfl rfl k
      | succ d ih =>
        intro n hn
        have en := at_ofN (k := n) (by omega)
        refine fl_Tq.stp rfl rfl (fl_bo rfl) rfl ?_
        refine fl_Tq.stp rfl rfl (fl_bo rfl) rfl ?_
        refine fl_Tq.jf rfl (fl_bo rfl) ?_ rfl ?_
        · rw [at_c2, en]
          exact decide_eq_false (by show ¬ (0 ≤ (n : Int) - (1418 : Int)); omega)
        refine fl_Tq.stp rfl rfl (fl_bo rfl) rfl ?_
        refine fl_Tq.stp rfl rfl (fl_bo rfl) rfl ?_
        refine fl_Tq.stp rfl rfl (fl_bo rfl) rfl ?_
        refine fl_Tq.stp rfl rfl (fl_bo rfl) rfl ?_
        refine fl_Tq.stp rfl rfl (fl_bo rfl) rfl ?_
        refine fl_Tq.stp rfl rfl (fl_bo rfl) rfl ?_
        refine fl_Tq.stp rfl rfl (fl_bo rfl) rfl ?_
        refine fl_Tq.stp rfl rfl (fl_bo rfl) rfl ?_
        refine fl_Tq.ld (p := 280) (τ := 79) (n := 29780) (z := (0, 0, 0)) (k := n + 2) rfl (fl_bo rfl) rfl (at_2n (by omega)) (by omega) ?_
        refine fl_Tq.sv (p := 283) (τ := 82) (n := 1418) (z := (0, 0, 0)) (k := n) rfl (fl_bo rfl) rfl en (by omega) ?_
        have e2 := bl_cp_s (src := 280) (s0 := 2) (dst := 283) (d0 := 0) (n := n) (m := m) (fun h => absurd h (by decide))
        rw [Nat.zero_add, Nat.add_comm 2 n] at e2
        rw [e2]
        refine fl_Tq.stp rfl rfl (fl_bo rfl) rfl ?_
        refine fl_Tq.stp rfl rfl (fl_bo rfl) rfl ?_
        have := ih (n + 1) (by omega)
        rw [← at_inc (by omega)] at this
        exact this
    refine fl_Tq.stp rfl rfl (fl_bo rfl) rfl ?_
    refine fl_Tq.stp rfl rfl (fl_bo rfl) rfl ?_
    have := loop 1418 0 (by omega)
    rw [bl_cp_0] at this
    exact this
  refine hR _ ?_
  have hX : at_XI (bl_cp 280 2 283 0 1418 m) := by
    obtain ⟨a1, a2, a3, a4, a5, ⟨a6, a7, a8⟩, a9, a10⟩ := hg.2.2
    have ne : ∀ p j : Nat, p ≠ 283 → (bl_cp 280 2 283 0 1418 m).1 p j = m.1 p j := fun p j e => bl_cp_out (fun h => absurd h e)
    refine ⟨fun q hq i hi => ?_, ?_, fun p hp i => ?_, ?_, fun s hs => ?_, ⟨?_, ?_, ?_⟩, fun s hs => ?_, fun p j hp => ?_⟩
    · rw [ne q i (by omega)]
      exact a1 q hq i hi
    · unfold at_cnt at_nzr at a2 ⊢
      simp only [fun i => ne 272 i (by omega), fun i => ne 274 i (by omega)]
      exact a2
    · have hp : fl_N m.2.2 ≤ p := hp
      rw [ne p i (by unfold fl_N at hp; omega)]
      exact a3 p hp i
    · refine hg.AK.congr (fun j h1 h2 => ?_)
      try dsimp only
      rw [bl_cp_in (by omega) (by omega)]
      have : j - 2 - 0 + 2 = j := by omega
      rw [this]
      rfl
    · exact (a5 s hs).congr (fun j _ _ => by (try dsimp only); rw [ne 280 _ (by omega)])
    · exact a6.congr (fun j _ _ => by (try dsimp only); rw [ne 281 _ (by omega)])
    · rw [ne 281 0 (by omega)]; exact a7
    · rw [ne 281 1 (by omega)]; exact a8
    · exact (a9 s hs).congr (fun j _ _ => by (try dsimp only); rw [ne 281 _ (by omega)])
    · rw [ne p j (by omega)]
      exact a10 p j hp
  have ew : ∀ j, at_w (bl_cp 280 2 283 0 1418 m) j = at_w m j := fun j => by
    show ((bl_cp 280 2 283 0 1418 m).1 280 j).toInt = _
    rw [bl_cp_out (fun h => absurd h (by decide))]
    rfl
  refine ⟨hg.mk rfl hX (fun p j hp _ hne => ?_) (by rw [ew]; exact hg.w0) (by rw [ew]; exact hg.w1) (hg.AK.congr (fun j _ _ => ew j)), ⟨Nat.le_refl _, fun p j hne => ⟨_, List.mem_singleton.mpr rfl, ?_⟩⟩, rfl⟩
  · by_cases e : p = 283
    · subst e
      rw [k82]
      decide +kernel
    · exact absurd (bl_cp_out (fun h => absurd h e)) hne
  · by_cases e : p = 283
    · subst e
      refine ⟨k82.symm, ?_⟩
      rw [if_neg (by decide)]
      by_cases hj : j < 0 + 1418
      · show (0 : Int) ≤ j ∧ (j : Int) ≤ 1417
        omega
      · exact absurd (bl_cp_out (fun _ => Or.inr (by omega))) hne
    · exact absurd (bl_cp_out (fun h => absurd h e)) hne
theorem at_v239 : at_Valid at_XI (pw_P L xs) (239, [.inl (76, some 277)], [], none, false, [(79, false, 2, 1419)]) := by
  intro m vs hg hk _
  obtain ⟨r, rfl, hk2⟩ := at_ag277 hk
  have hr0 := at_agnil (vs := r) hk2
  subst hr0
  have hR : ∀ Q : Option fl_V → fl_M → Prop, Q none (bl_cp 283 0 280 2 1418 m) → fl_Tq (pw_P L xs) 239 0 (fl_args (am_mxl (pw_P L xs) 239) [at_this]) [] m Q := by
    intro Q k
    have loop : ∀ (d n : Nat), n + d = 1418 → fl_Tq (pw_P L xs) 239 2 [some (.inr (.inr (.inl (76, 277)))), some (.inl (Int32.ofNat n))] [] (bl_cp 283 0 280 2 n m) Q := by
      intro d
      induction d with
      | zero =>
        intro n hn
        have hn : n = 1418 := by omega
        subst hn
        refine fl_Tq.stp rfl rfl (fl_bo rfl) rfl ?_
        refine fl_Tq.stp rfl rfl (fl_bo rfl) rfl ?_
        refine fl_Tq.jt rfl (fl_bo rfl) (by decide +kernel) rfl ?_
        exact fl_Tq.ret rfl rfl rfl k
      | succ d ih =>
        intro n hn
        have en := at_ofN (k := n) (by omega)
        refine fl_Tq.stp rfl rfl (fl_bo rfl) rfl ?_
        refine fl_Tq.stp rfl rfl (fl_bo rfl) rfl ?_
        refine fl_Tq.jf rfl (fl_bo rfl) ?_ rfl ?_
        · rw [at_c2, en]
          exact decide_eq_false (by show ¬ (0 ≤ (n : Int) - (1418 : Int)); omega)
        refine fl_Tq.stp rfl rfl (fl_bo rfl) rfl ?_
        refine fl_Tq.stp rfl rfl (fl_bo rfl) rfl ?_
        refine fl_Tq.stp rfl rfl (fl_bo rfl) rfl ?_
        refine fl_Tq.stp rfl rfl (fl_bo rfl) rfl ?_
        refine fl_Tq.stp rfl rfl (fl_bo rfl) rfl ?_
        refine fl_Tq.stp rfl rfl (fl_bo rfl) rfl ?_
        refine fl_Tq.stp rfl rfl (fl_bo rfl) rfl ?_
        refine fl_Tq.stp rfl rfl (fl_bo rfl) rfl ?_
        refine fl_Tq.ld (p := 283) (τ := 82) (n := 1418) (z := (0, 0, 0)) (k := n) rfl (fl_bo rfl) rfl en (by omega) ?_
        refine fl_Tq.sv (p := 280) (τ := 79) (n := 29780) (z := (0, 0, 0)) (k := n + 2) rfl (fl_bo rfl) rfl (at_2n (by omega)) (by omega) ?_
        have e2 := bl_cp_s (src := 283) (s0 := 0) (dst := 280) (d0 := 2) (n := n) (m := m) (fun h => absurd h (by decide))
        rw [Nat.zero_add, Nat.add_comm 2 n] at e2
        rw [e2]
        refine fl_Tq.stp rfl rfl (fl_bo rfl) rfl ?_
        refine fl_Tq.stp rfl rfl (fl_bo rfl) rfl ?_
        have := ih (n + 1) (by omega)
        rw [← at_inc (by omega)] at this
        exact this
    refine fl_Tq.stp rfl rfl (fl_bo rfl) rfl ?_
    refine fl_Tq.stp rfl rfl (fl_bo rfl) rfl ?_
    have := loop 1418 0 (by omega)
    rw [bl_cp_0] at this
    exact this
  refine hR _ ?_
  have ne : ∀ p j : Nat, (p = 280 → j < 2 ∨ 1420 ≤ j) → (bl_cp 283 0 280 2 1418 m).1 p j = m.1 p j := fun p j e => bl_cp_out (fun h => by have := e h; omega)
  have hX : at_XI (bl_cp 283 0 280 2 1418 m) := by
    refine hg.2.2.mk280 rfl (fun p j e => ne p j (fun h => absurd h e)) (fun s hs => (hg.2.2.2.2.2.2.1 s hs).congr (fun j _ _ => ?_))
    try dsimp only
    rw [ne 280 _ (fun _ => Or.inr (by omega))]
  have ew : ∀ j, j < 2 → at_w (bl_cp 283 0 280 2 1418 m) j = at_w m j := fun j hj => by
    show ((bl_cp 283 0 280 2 1418 m).1 280 j).toInt = _
    rw [ne 280 j (fun _ => Or.inl hj)]
    rfl
  refine ⟨hg.mk rfl hX (fun p j hp _ hne => absurd (ne p j (fun h => absurd h hp)) hne) (by rw [ew 0 (by decide)]; exact hg.w0) (by rw [ew 1 (by decide)]; exact hg.w1) (hg.2.2.2.2.2.1.congr (fun j h1 h2 => ?_)), ⟨Nat.le_refl _, fun p j hne => ⟨_, List.mem_singleton.mpr rfl, ?_⟩⟩, rfl⟩
  · show ((bl_cp 283 0 280 2 1418 m).1 280 j).toInt = _
    rw [bl_cp_in h1 (by omega)]
    have : j - 2 + 0 = j - 2 := by omega
    rw [this]
  · by_cases e : p = 280
    · subst e
      refine ⟨fk_K_280.symm, ?_⟩
      rw [if_neg (by decide)]
      by_cases hj : 2 ≤ j ∧ j < 1420
      · show (2 : Int) ≤ j ∧ (j : Int) ≤ 1419
        omega
      · exact absurd (ne 280 j (fun _ => by omega)) hne
    · exact absurd (ne p j (fun h => absurd h e)) hne
end ATBL

end

/-! 88.image.lean.txt -/
section
/-! ===== image, back ===== -/
section ATIM
variable {L : Nat} {xs : Nat → Int32}
theorem at_v323 : at_Valid at_XI (pw_P L xs) (323, [.inl (76, some 277)], [], some (.inr (false, -2147483648, 2147483647)), false, [(80, false, 0, 29779)]) := by
  intro m vs hg hk _
  obtain ⟨r, rfl, hk2⟩ := at_ag277 hk
  have hr0 := at_agnil (vs := r) hk2
  subst hr0
  have k81 : fk_K 281 = 80 := by decide +kernel
  refine fl_Tq.stp rfl rfl (fl_bo rfl) rfl ?_
  refine fl_Tq.stp rfl rfl (fl_bo rfl) rfl ?_
  refine fl_Tq.stp rfl rfl (fl_bo rfl) rfl ?_
  refine fl_Tq.stp rfl rfl (fl_bo rfl) rfl ?_
  refine fl_Tq.cal rfl rfl (fl_bo rfl) rfl ?_
  refine at_copy (p := 280) (q := 281) (tp := 79) (tq := 80) fk_K_280 k81 (by decide) (by decide) rfl rfl (by decide) ?_
  refine fl_Tq.stp rfl rfl (fl_bo rfl) rfl ?_
  refine fl_Tq.stp rfl rfl (fl_bo rfl) rfl ?_
  refine fl_Tq.stp rfl rfl (fl_bo rfl) rfl ?_
  refine fl_Tq.ld (p := 280) (τ := 79) (n := 29780) (z := (0, 0, 0)) (k := 7) rfl (fl_bo rfl) rfl (by decide +kernel) (by decide) ?_
  refine fl_Tq.ret rfl rfl rfl ?_
  have ne : ∀ p j : Nat, (p = 281 → 29780 ≤ j) → (bl_cp 280 0 281 0 29780 m).1 p j = m.1 p j := fun p j e => bl_cp_out (fun h => by have := e h; omega)
  have hin : ∀ j : Nat, j < 29780 → (bl_cp 280 0 281 0 29780 m).1 281 j = m.1 280 j := fun j hj => by
    rw [bl_cp_in (by omega) (by omega)]
    rfl
  have hX : at_XI (bl_cp 280 0 281 0 29780 m) := by
    obtain ⟨a1, a2, a3, a4, a5, ⟨a6, a7, a8⟩, a9, a10⟩ := hg.2.2
    refine ⟨fun q hq i hi => ?_, ?_, fun p hp i => ?_, ?_, fun s hs => ?_, ⟨?_, ?_, ?_⟩, fun s hs => ?_, fun p j hp => ?_⟩
    · rw [ne q i (by omega)]
      exact a1 q hq i hi
    · unfold at_cnt at_nzr at a2 ⊢
      simp only [fun i => ne 272 i (by omega), fun i => ne 274 i (by omega)]
      exact a2
    · have hp : fl_N m.2.2 ≤ p := hp
      rw [ne p i (by unfold fl_N at hp; omega)]
      exact a3 p hp i
    · exact a4.congr (fun j _ _ => by (try dsimp only); rw [ne 283 _ (by omega)])
    · exact (a5 s hs).congr (fun j _ _ => by (try dsimp only); rw [ne 280 _ (by omega)])
    · exact hg.AK.congr (fun j _ _ => by (try dsimp only); rw [hin j (by omega)]; rfl)
    · rw [hin 0 (by decide)]; exact hg.w0
    · rw [hin 1 (by decide)]; exact hg.w1
    · exact (a5 s hs).congr (fun j _ _ => by (try dsimp only); rw [hin _ (by omega)])
    · rw [ne p j (by omega)]
      exact a10 p j hp
  have ew : ∀ j, at_w (bl_cp 280 0 281 0 29780 m) j = at_w m j := fun j => by
    show ((bl_cp 280 0 281 0 29780 m).1 280 j).toInt = _
    rw [ne 280 j (by omega)]
    rfl
  obtain ⟨b1, b2⟩ := at_i32 ((bl_cp 280 0 281 0 29780 m).1 280 7)
  refine ⟨hg.mk rfl hX (fun p j hp _ hne => ?_) (by rw [ew]; exact hg.w0) (by rw [ew]; exact hg.w1) (hg.AK.congr (fun j _ _ => ew j)), ⟨Nat.le_refl _, fun p j hne => ⟨_, List.mem_singleton.mpr rfl, ?_⟩⟩, ⟨_, rfl, b1, b2, fun h => by cases h⟩⟩
  · by_cases e : p = 281
    · subst e
      rw [k81]
      decide +kernel
    · exact absurd (ne p j (fun h => absurd h e)) hne
  · by_cases e : p = 281
    · subst e
      refine ⟨k81.symm, ?_⟩
      rw [if_neg (by decide)]
      by_cases hj : j < 29780
      · show (0 : Int) ≤ j ∧ (j : Int) ≤ 29779
        omega
      · exact absurd (ne 281 j (fun _ => by omega)) hne
    · exact absurd (ne p j (fun h => absurd h e)) hne
theorem at_v324 : at_Valid at_XI (pw_P L xs) (324, [.inl (76, some 277)], [], some (.inr (false, -2147483648, 2147483647)), false, [(79, false, 0, 29779)]) := by
  intro m vs hg hk _
  obtain ⟨r, rfl, hk2⟩ := at_ag277 hk
  have hr0 := at_agnil (vs := r) hk2
  subst hr0
  have k81 : fk_K 281 = 80 := by decide +kernel
  refine fl_Tq.stp rfl rfl (fl_bo rfl) rfl ?_
  refine fl_Tq.stp rfl rfl (fl_bo rfl) rfl ?_
  refine fl_Tq.stp rfl rfl (fl_bo rfl) rfl ?_
  refine fl_Tq.stp rfl rfl (fl_bo rfl) rfl ?_
  refine fl_Tq.cal rfl rfl (fl_bo rfl) rfl ?_
  refine at_copy (p := 281) (q := 280) (tp := 80) (tq := 79) k81 fk_K_280 (by decide) (by decide) rfl rfl (by decide) ?_
  refine fl_Tq.stp rfl rfl (fl_bo rfl) rfl ?_
  refine fl_Tq.stp rfl rfl (fl_bo rfl) rfl ?_
  refine fl_Tq.stp rfl rfl (fl_bo rfl) rfl ?_
  refine fl_Tq.ld (p := 280) (τ := 79) (n := 29780) (z := (0, 0, 0)) (k := 7) rfl (fl_bo rfl) rfl (by decide +kernel) (by decide) ?_
  refine fl_Tq.ret rfl rfl rfl ?_
  have ne : ∀ p j : Nat, (p = 280 → 29780 ≤ j) → (bl_cp 281 0 280 0 29780 m).1 p j = m.1 p j := fun p j e => bl_cp_out (fun h => by have := e h; omega)
  have hin : ∀ j : Nat, j < 29780 → (bl_cp 281 0 280 0 29780 m).1 280 j = m.1 281 j := fun j hj => by
    rw [bl_cp_in (by omega) (by omega)]
    rfl
  obtain ⟨a1, a2, a3, a4, a5, ⟨a6, a7, a8⟩, a9, a10⟩ := id hg.2.2
  have hX : at_XI (bl_cp 281 0 280 0 29780 m) := by
    refine hg.2.2.mk280 rfl (fun p j e => ne p j (fun h => absurd h e)) (fun s hs => (a9 s hs).congr (fun j _ _ => ?_))
    try dsimp only
    rw [hin _ (by omega)]
  have ew : ∀ j, j < 29780 → at_w (bl_cp 281 0 280 0 29780 m) j = (m.1 281 j).toInt := fun j hj => by
    show ((bl_cp 281 0 280 0 29780 m).1 280 j).toInt = _
    rw [hin j hj]
  obtain ⟨b1, b2⟩ := at_i32 ((bl_cp 281 0 280 0 29780 m).1 280 7)
  refine ⟨hg.mk rfl hX (fun p j hp _ hne => absurd (ne p j (fun h => absurd h hp)) hne) (by rw [ew 0 (by decide)]; exact a7) (by rw [ew 1 (by decide)]; exact a8) (a6.congr (fun j _ _ => ew j (by omega))), ⟨Nat.le_refl _, fun p j hne => ⟨_, List.mem_singleton.mpr rfl, ?_⟩⟩, ⟨_, rfl, b1, b2, fun h => by cases h⟩⟩
  by_cases e : p = 280
  · subst e
    refine ⟨fk_K_280.symm, ?_⟩
    rw [if_neg (by decide)]
    by_cases hj : j < 29780
    · show (0 : Int) ≤ j ∧ (j : Int) ≤ 29779
      omega
    · exact absurd (ne 280 j (fun _ => by omega)) hne
  · exact absurd (ne p j (fun h => absurd h e)) hne
/-! ===== keep, undo ===== -/
theorem at_st240 {x y : Int32} {m : fl_M} {Q : Option fl_V → fl_M → Prop} (hx : 0 ≤ x.toInt ∧ x.toInt ≤ 20) (hy : 0 ≤ y.toInt ∧ y.toInt ≤ 20) (k : ∀ v : Int32, v.toInt = 1420 + 1418 * ((x.toInt + y.toInt) % 20) → Q (some (.inl v)) m) : fl_Tq (pw_P L xs) 240 0 (fl_args (am_mxl (pw_P L xs) 240) [.inl x, .inl y]) [] m Q := by
  refine fl_Tq.stp rfl rfl (fl_bo rfl) rfl ?_
  refine fl_Tq.stp rfl rfl (fl_bo rfl) rfl ?_
  refine fl_Tq.stp rfl rfl (fl_bo rfl) rfl ?_
  refine fl_Tq.stp rfl rfl (fl_bo rfl) rfl ?_
  refine fl_Tq.stp rfl rfl (fl_bo rfl) rfl ?_
  refine fl_Tq.stp rfl rfl (fl_bo rfl) rfl ?_
  refine fl_Tq.rm rfl (fl_bo rfl) (by decide +kernel) ?_
  refine fl_Tq.stp rfl rfl (fl_bo rfl) rfl ?_
  refine fl_Tq.stp rfl rfl (fl_bo rfl) rfl ?_
  refine fl_Tq.ret rfl rfl rfl (k _ ?_)
  dsimp only
  have es := at_add32 (x := x) (y := y) (by omega) (by omega)
  have e20 : (Int8.ofInt 20).toInt32.toInt = 20 := by decide +kernel
  have e18 : (Int16.ofInt 1418).toInt32.toInt = 1418 := by decide +kernel
  have e14 : (Int16.ofInt 1420).toInt32.toInt = 1420 := by decide +kernel
  generalize x + y = s at es ⊢
  generalize (Int8.ofInt 20).toInt32 = t at e20 ⊢
  generalize (Int16.ofInt 1418).toInt32 = u at e18 ⊢
  generalize (Int16.ofInt 1420).toInt32 = w at e14 ⊢
  have eq : (s / t).toInt = s.toInt / 20 := by
    rw [Int32.toInt_div, e20, Int.tdiv_eq_ediv_of_nonneg (by omega)]
    exact Int.bmod_eq_of_le (by omega) (by omega)
  have em : (s / t * t).toInt = s.toInt / 20 * 20 := by
    rw [at_mul32] <;> rw [eq, e20] <;> omega
  have er : (s - s / t * t).toInt = s.toInt % 20 := by
    rw [at_sub32] <;> rw [em] <;> omega
  have e1 : (u * (s - s / t * t)).toInt = 1418 * (s.toInt % 20) := by
    rw [at_mul32] <;> rw [er, e18] <;> omega
  rw [at_add32] <;> rw [e14, e1] <;> omega
end ATIM

end

/-! 89.01.steps.lean.txt -/
section
/-! ===== keep, undo ===== -/
theorem bl_un {f : Nat → Nat → Int32} {p k q j : Nat} {x : Int32} (h : q = p → j ≠ k) : fl_up f p k x q j = f q j := by
  unfold fl_up
  rw [if_neg (fun e => h e.1 e.2)]
theorem bl_ue {f : Nat → Nat → Int32} {p k : Nat} {x : Int32} : fl_up f p k x p k = x := by
  unfold fl_up
  rw [if_pos ⟨rfl, rfl⟩]
theorem at_rem20 {s t : Int32} (ht : t.toInt = 20) (hs : 0 ≤ s.toInt) : (s - s / t * t).toInt = s.toInt % 20 := by
  have hb := at_i32 s
  have eq : (s / t).toInt = s.toInt / 20 := by
    rw [Int32.toInt_div, ht, Int.tdiv_eq_ediv_of_nonneg hs]
    exact Int.bmod_eq_of_le (by omega) (by omega)
  have em : (s / t * t).toInt = s.toInt / 20 * 20 := by
    rw [at_mul32] <;> rw [eq, ht] <;> omega
  rw [at_sub32] <;> rw [em] <;> omega
section ATST
variable {L : Nat} {xs : Nat → Int32}
theorem at_v242 : at_Valid at_XI (pw_P L xs) (242, [.inl (76, some 277)], [], some (.inr (false, -1, 19)), false, [(79, false, 0, 0), (79, false, 2, 1419)]) := by
  intro m vs hg hk _
  obtain ⟨r, rfl, hk2⟩ := at_ag277 hk
  have hr0 := at_agnil (vs := r) hk2
  subst hr0
  have w0 : 0 ≤ (m.1 280 0).toInt ∧ (m.1 280 0).toInt ≤ 20 := hg.w0
  have w1 : 0 ≤ (m.1 280 1).toInt ∧ (m.1 280 1).toInt ≤ 19 := hg.w1
  refine fl_Tq.stp rfl rfl (fl_bo rfl) rfl ?_
  refine fl_Tq.stp rfl rfl (fl_bo rfl) rfl ?_
  refine fl_Tq.stp rfl rfl (fl_bo rfl) rfl ?_
  refine fl_Tq.ld (p := 280) (τ := 79) (n := 29780) (z := (0, 0, 0)) (k := 0) rfl (fl_bo rfl) rfl rfl (by decide) ?_
  by_cases h0 : (m.1 280 0).toInt = 0
  · refine fl_Tq.zf rfl (fl_bo rfl) ?_ rfl ?_
    · rw [at_c1, h0]; rfl
    refine fl_Tq.stp rfl rfl (fl_bo rfl) rfl ?_
    refine fl_Tq.ret rfl rfl rfl ⟨hg, ⟨Nat.le_refl _, fun p j hne => absurd rfl hne⟩, ⟨_, rfl, by decide +kernel, by decide +kernel, fun h => by cases h⟩⟩
  · refine fl_Tq.zt rfl (fl_bo rfl) ?_ rfl ?_
    · rw [at_c1]; show (!decide ((m.1 280 0).toInt = 0)) = true; rw [decide_eq_false h0]; rfl
    refine fl_Tq.stp rfl rfl (fl_bo rfl) rfl ?_
    refine fl_Tq.stp rfl rfl (fl_bo rfl) rfl ?_
    refine fl_Tq.stp rfl rfl (fl_bo rfl) rfl ?_
    refine fl_Tq.stp rfl rfl (fl_bo rfl) rfl ?_
    refine fl_Tq.ld (p := 280) (τ := 79) (n := 29780) (z := (0, 0, 0)) (k := 0) rfl (fl_bo rfl) rfl rfl (by decide) ?_
    refine fl_Tq.stp rfl rfl (fl_bo rfl) rfl ?_
    refine fl_Tq.stp rfl rfl (fl_bo rfl) rfl ?_
    refine fl_Tq.sv (p := 280) (τ := 79) (n := 29780) (z := (0, 0, 0)) (k := 0) rfl (fl_bo rfl) rfl rfl (by decide) ?_
    dsimp only
    have e1 : (Int32.ofInt 1).toInt = 1 := rfl
    have hv0 := at_sub32 (x := m.1 280 0) (y := Int32.ofInt 1) (by omega) (by omega)
    generalize m.1 280 0 - Int32.ofInt 1 = v0 at hv0
    refine fl_Tq.stp rfl rfl (fl_bo rfl) rfl ?_
    refine fl_Tq.stp rfl rfl (fl_bo rfl) rfl ?_
    refine fl_Tq.stp rfl rfl (fl_bo rfl) rfl ?_
    refine fl_Tq.ld (p := 280) (τ := 79) (n := 29780) (z := (0, 0, 0)) (k := 1) rfl (fl_bo rfl) rfl rfl (by decide) ?_
    refine fl_Tq.stp rfl rfl (fl_bo rfl) rfl ?_
    refine fl_Tq.stp rfl rfl (fl_bo rfl) rfl ?_
    refine fl_Tq.stp rfl rfl (fl_bo rfl) rfl ?_
    refine fl_Tq.ld (p := 280) (τ := 79) (n := 29780) (z := (0, 0, 0)) (k := 0) rfl (fl_bo rfl) rfl rfl (by decide) ?_
    have q1 : fl_up m.1 280 0 v0 280 1 = m.1 280 1 := bl_un (fun _ => by decide)
    have q0 : fl_up m.1 280 0 v0 280 0 = v0 := bl_ue
    refine fl_Tq.cal rfl rfl (fl_bo rfl) rfl ?_
    refine at_st240 (x := fl_up m.1 280 0 v0 280 1) (y := fl_up m.1 280 0 v0 280 0) (by rw [q1]; omega) (by rw [q0]; omega) (fun v hv => ?_)
    rw [q1, q0] at hv
    obtain ⟨s, hs, hsn⟩ : ∃ s : Nat, s < 20 ∧ v.toInt = ((1420 + 1418 * s : Nat) : Int) := ⟨(((m.1 280 1).toInt + v0.toInt) % 20).toNat, by omega, by omega⟩
    refine fl_Tq.stp rfl rfl (fl_bo rfl) rfl ?_
    refine fl_Tq.stp rfl rfl (fl_bo rfl) rfl ?_
    refine fl_Tq.stp rfl rfl (fl_bo rfl) rfl ?_
    have hR : ∀ Q : Option fl_V → fl_M → Prop, (∀ m2, m2 = bl_cp 280 (1420 + 1418 * s) 280 2 1418 (fl_up m.1 280 0 v0, m.2) → Q (some (.inl (m2.1 280 0))) m2) → fl_Tq (pw_P L xs) 242 39 [some (.inr (.inr (.inl (76, 277)))), some (.inl v), some (.inl (Int32.ofNat 0))] [] (fl_up m.1 280 0 v0, m.2) Q := by
      intro Q k
      have loop : ∀ (d n : Nat), n + d = 1418 → fl_Tq (pw_P L xs) 242 39 [some (.inr (.inr (.inl (76, 277)))), some (.inl v), some (.inl (Int32.ofNat n))] [] (bl_cp 280 (1420 + 1418 * s) 280 2 n (fl_up m.1 280 0 v0, m.2)) Q := by
        intro d
        induction d with
        | zero =>
          intro n hn
          have hn : n = 1418 := by omega
          subst hn
          refine fl_Tq.stp rfl rfl (fl_bo rfl) rfl ?_
          refine fl_Tq.stp rfl rfl (fl_bo rfl) rfl ?_
          refine fl_Tq.jt rfl (fl_bo rfl) (by decide +kernel) rfl ?_
          refine fl_Tq.stp rfl rfl (fl_bo rfl) rfl ?_
          refine fl_Tq.stp rfl rfl (fl_bo rfl) rfl ?_
          refine fl_Tq.stp rfl rfl (fl_bo rfl) rfl ?_
          refine fl_Tq.ld (p := 280) (τ := 79) (n := 29780) (z := (0, 0, 0)) (k := 0) rfl (fl_bo rfl) rfl rfl (by decide) ?_
          exact fl_Tq.ret rfl rfl rfl (k _ rfl)
        | succ d ih =>
          intro n hn
          have en := at_ofN (k := n) (by omega)
          refine fl_Tq.stp rfl rfl (fl_bo rfl) rfl ?_
          refine fl_Tq.stp rfl rfl (fl_bo rfl) rfl ?_
          refine fl_Tq.jf rfl (fl_bo rfl) ?_ rfl ?_
          · rw [at_c2, en]
            exact decide_eq_false (by show ¬ (0 ≤ (n : Int) - (1418 : Int)); omega)
          have h2 : (Int32.ofInt 2 + Int32.ofNat n).toInt = ((2 + n : Nat) : Int) := by rw [at_2n (by omega), Nat.add_comm]
          have h3 : (v + Int32.ofNat n).toInt = ((1420 + 1418 * s + n : Nat) : Int) := by
            rw [at_add32] <;> omega
          refine fl_Tq.stp rfl rfl (fl_bo rfl) rfl ?_
          refine fl_Tq.stp rfl rfl (fl_bo rfl) rfl ?_
          refine fl_Tq.stp rfl rfl (fl_bo rfl) rfl ?_
          refine fl_Tq.stp rfl rfl (fl_bo rfl) rfl ?_
          refine fl_Tq.stp rfl rfl (fl_bo rfl) rfl ?_
          refine fl_Tq.stp rfl rfl (fl_bo rfl) rfl ?_
          refine fl_Tq.stp rfl rfl (fl_bo rfl) rfl ?_
          refine fl_Tq.stp rfl rfl (fl_bo rfl) rfl ?_
          refine fl_Tq.stp rfl rfl (fl_bo rfl) rfl ?_
          refine fl_Tq.stp rfl rfl (fl_bo rfl) rfl ?_
          refine fl_Tq.ld (p := 280) (τ := 79) (n := 29780) (z := (0, 0, 0)) (k := 1420 + 1418 * s + n) rfl (fl_bo rfl) rfl h3 (by omega) ?_
          refine fl_Tq.sv (p := 280) (τ := 79) (n := 29780) (z := (0, 0, 0)) (k := 2 + n) rfl (fl_bo rfl) rfl h2 (by omega) ?_
          rw [bl_cp_s (src := 280) (s0 := 1420 + 1418 * s) (dst := 280) (d0 := 2) (n := n) (fun _ => Or.inr (by omega))]
          refine fl_Tq.stp rfl rfl (fl_bo rfl) rfl ?_
          refine fl_Tq.stp rfl rfl (fl_bo rfl) rfl ?_
          have := ih (n + 1) (by omega)
          rw [← at_inc (by omega)] at this
          exact this
      have := loop 1418 0 (by omega)
      rw [bl_cp_0] at this
      exact this
    refine hR _ (fun m2 em2 => ?_)
    have ne : ∀ p j : Nat, (p = 280 → j = 1 ∨ 1420 ≤ j) → m2.1 p j = m.1 p j := fun p j e => by
      rw [em2, bl_cp_out (fun h => by have := e h; omega)]
      exact bl_un (fun h => by have := e h; omega)
    have e0 : m2.1 280 0 = v0 := by
      rw [em2, bl_cp_out (fun _ => Or.inl (by decide))]
      show fl_up m.1 280 0 v0 280 0 = v0
      exact bl_ue
    have eh : m2.2 = m.2 := by rw [em2]; rfl
    have hX : at_XI m2 := by
      refine hg.2.2.mk280 (by rw [eh]) (fun p j e => ne p j (fun h => absurd h e)) (fun s hs => (hg.2.2.2.2.2.2.1 s hs).congr (fun j _ _ => ?_))
      try dsimp only
      rw [ne 280 _ (fun _ => Or.inr (by omega))]
    refine ⟨hg.mk (by rw [eh]) hX (fun p j hp _ hne => absurd (ne p j (fun h => absurd h hp)) hne) (by unfold at_w; rw [e0]; omega) (by unfold at_w; rw [ne 280 1 (by omega)]; exact w1) ((hg.2.2.2.2.2.2.1 s hs).congr (fun j h1 h2 => ?_)), ⟨by rw [eh]; exact Nat.le_refl _, fun p j hne => ?_⟩, ⟨_, rfl, by rw [e0]; omega, by rw [e0]; omega, fun h => by cases h⟩⟩
    · show (m2.1 280 j).toInt = _
      rw [em2, bl_cp_in h1 (by omega)]
      have : j - 2 + (1420 + 1418 * s) = 1420 + 1418 * s + (j - 2) := by omega
      rw [this]
      show (fl_up m.1 280 0 v0 280 _).toInt = _
      rw [bl_un (fun _ => by omega)]
    · by_cases e : p = 280
      · subst e
        by_cases hj : j = 0
        · subst hj
          refine ⟨(79, false, 0, 0), by simp, fk_K_280.symm, ?_⟩
          rw [if_neg (by decide)]
          exact ⟨Int.le_refl _, Int.le_refl _⟩
        · refine ⟨(79, false, 2, 1419), by simp, fk_K_280.symm, ?_⟩
          rw [if_neg (by decide)]
          by_cases hj2 : 2 ≤ j ∧ j < 1420
          · show (2 : Int) ≤ j ∧ (j : Int) ≤ 1419
            omega
          · exact absurd (ne 280 j (fun _ => by omega)) hne
      · exact absurd (ne p j (fun h => absurd h e)) hne
theorem at_v241 : at_Valid at_XI (pw_P L xs) (241, [.inl (76, some 277)], [], none, false, [(79, false, 0, 1), (79, false, 1420, 29779)]) := by
  intro m vs hg hk _
  obtain ⟨r, rfl, hk2⟩ := at_ag277 hk
  have hr0 := at_agnil (vs := r) hk2
  subst hr0
  have w0 : 0 ≤ (m.1 280 0).toInt ∧ (m.1 280 0).toInt ≤ 20 := hg.w0
  have w1 : 0 ≤ (m.1 280 1).toInt ∧ (m.1 280 1).toInt ≤ 19 := hg.w1
  have e1 : (Int32.ofInt 1).toInt = 1 := rfl
  -- from place 38 on
  have tail : ∀ m1 : fl_M, m1.2 = m.2 → (∀ p j : Nat, (p = 280 → 2 ≤ j) → m1.1 p j = m.1 p j) → (0 ≤ (m1.1 280 0).toInt ∧ (m1.1 280 0).toInt ≤ 19) → (0 ≤ (m1.1 280 1).toInt ∧ (m1.1 280 1).toInt ≤ 19) →
      fl_Tq (pw_P L xs) 241 38 (fl_args (am_mxl (pw_P L xs) 241) [at_this]) [] m1 (fun v m' => at_Good at_XI m' ∧ at_MD m m' [(79, false, 0, 1), (79, false, 1420, 29779)] ∧ at_rtc none false m' v) := by
    intro m1 eh1 ne1 x0 x1
    refine fl_Tq.stp rfl rfl (fl_bo rfl) rfl ?_
    refine fl_Tq.stp rfl rfl (fl_bo rfl) rfl ?_
    refine fl_Tq.stp rfl rfl (fl_bo rfl) rfl ?_
    refine fl_Tq.ld (p := 280) (τ := 79) (n := 29780) (z := (0, 0, 0)) (k := 1) rfl (fl_bo rfl) rfl rfl (by decide) ?_
    refine fl_Tq.stp rfl rfl (fl_bo rfl) rfl ?_
    refine fl_Tq.stp rfl rfl (fl_bo rfl) rfl ?_
    refine fl_Tq.stp rfl rfl (fl_bo rfl) rfl ?_
    refine fl_Tq.ld (p := 280) (τ := 79) (n := 29780) (z := (0, 0, 0)) (k := 0) rfl (fl_bo rfl) rfl rfl (by decide) ?_
    refine fl_Tq.cal rfl rfl (fl_bo rfl) rfl ?_
    refine at_st240 (x := m1.1 280 1) (y := m1.1 280 0) (by omega) (by omega) (fun v hv => ?_)
    obtain ⟨s, hs, hsn⟩ : ∃ s : Nat, s < 20 ∧ v.toInt = ((1420 + 1418 * s : Nat) : Int) := ⟨(((m1.1 280 1).toInt + (m1.1 280 0).toInt) % 20).toNat, by omega, by omega⟩
    refine fl_Tq.stp rfl rfl (fl_bo rfl) rfl ?_
    refine fl_Tq.stp rfl rfl (fl_bo rfl) rfl ?_
    refine fl_Tq.stp rfl rfl (fl_bo rfl) rfl ?_
    have hR : ∀ Q : Option fl_V → fl_M → Prop, (∀ m2, m2 = bl_cp 280 2 280 (1420 + 1418 * s) 1418 m1 → Q none (fl_up m2.1 280 0 (m2.1 280 0 + Int32.ofInt 1), m2.2)) → fl_Tq (pw_P L xs) 241 56 [some (.inr (.inr (.inl (76, 277)))), some (.inl v), some (.inl (Int32.ofNat 0))] [] m1 Q := by
      intro Q k
      have loop : ∀ (d n : Nat), n + d = 1418 → fl_Tq (pw_P L xs) 241 56 [some (.inr (.inr (.inl (76, 277)))), some (.inl v), some (.inl (Int32.ofNat n))] [] (bl_cp 280 2 280 (1420 + 1418 * s) n m1) Q := by
        intro d
        induction d with
        | zero =>
          intro n hn
          have hn : n = 1418 := by omega
          subst hn
          refine fl_Tq.stp rfl rfl (fl_bo rfl) rfl ?_
          refine fl_Tq.stp rfl rfl (fl_bo rfl) rfl ?_
          refine fl_Tq.jt rfl (fl_bo rfl) (by decide +kernel) rfl ?_
          refine fl_Tq.stp rfl rfl (fl_bo rfl) rfl ?_
          refine fl_Tq.stp rfl rfl (fl_bo rfl) rfl ?_
          refine fl_Tq.stp rfl rfl (fl_bo rfl) rfl ?_
          refine fl_Tq.stp rfl rfl (fl_bo rfl) rfl ?_
          refine fl_Tq.ld (p := 280) (τ := 79) (n := 29780) (z := (0, 0, 0)) (k := 0) rfl (fl_bo rfl) rfl rfl (by decide) ?_
          refine fl_Tq.stp rfl rfl (fl_bo rfl) rfl ?_
          refine fl_Tq.stp rfl rfl (fl_bo rfl) rfl ?_
          refine fl_Tq.sv (p := 280) (τ := 79) (n := 29780) (z := (0, 0, 0)) (k := 0) rfl (fl_bo rfl) rfl rfl (by decide) ?_
          exact fl_Tq.ret rfl rfl rfl (k _ rfl)
        | succ d ih =>
          intro n hn
          have en := at_ofN (k := n) (by omega)
          refine fl_Tq.stp rfl rfl (fl_bo rfl) rfl ?_
          refine fl_Tq.stp rfl rfl (fl_bo rfl) rfl ?_
          refine fl_Tq.jf rfl (fl_bo rfl) ?_ rfl ?_
          · rw [at_c2, en]
            exact decide_eq_false (by show ¬ (0 ≤ (n : Int) - (1418 : Int)); omega)
          have h2 : (Int32.ofInt 2 + Int32.ofNat n).toInt = ((2 + n : Nat) : Int) := by rw [at_2n (by omega), Nat.add_comm]
          have h3 : (v + Int32.ofNat n).toInt = ((1420 + 1418 * s + n : Nat) : Int) := by
            rw [at_add32] <;> omega
          refine fl_Tq.stp rfl rfl (fl_bo rfl) rfl ?_
          refine fl_Tq.stp rfl rfl (fl_bo rfl) rfl ?_
          refine fl_Tq.stp rfl rfl (fl_bo rfl) rfl ?_
          refine fl_Tq.stp rfl rfl (fl_bo rfl) rfl ?_
          refine fl_Tq.stp rfl rfl (fl_bo rfl) rfl ?_
          refine fl_Tq.stp rfl rfl (fl_bo rfl) rfl ?_
          refine fl_Tq.stp rfl rfl (fl_bo rfl) rfl ?_
          refine fl_Tq.stp rfl rfl (fl_bo rfl) rfl ?_
          refine fl_Tq.stp rfl rfl (fl_bo rfl) rfl ?_
          refine fl_Tq.stp rfl rfl (fl_bo rfl) rfl ?_
          refine fl_Tq.ld (p := 280) (τ := 79) (n := 29780) (z := (0, 0, 0)) (k := 2 + n) rfl (fl_bo rfl) rfl h2 (by omega) ?_
          refine fl_Tq.sv (p := 280) (τ := 79) (n := 29780) (z := (0, 0, 0)) (k := 1420 + 1418 * s + n) rfl (fl_bo rfl) rfl h3 (by omega) ?_
          rw [bl_cp_s (src := 280) (s0 := 2) (dst := 280) (d0 := 1420 + 1418 * s) (n := n) (fun _ => Or.inl (by omega))]
          refine fl_Tq.stp rfl rfl (fl_bo rfl) rfl ?_
          refine fl_Tq.stp rfl rfl (fl_bo rfl) rfl ?_
          have := ih (n + 1) (by omega)
          rw [← at_inc (by omega)] at this
          exact this
      have := loop 1418 0 (by omega)
      rw [bl_cp_0] at this
      exact this
    refine hR _ (fun m2 em2 => ?_)
    have f0 : m2.1 280 0 = m1.1 280 0 := by rw [em2]; exact bl_cp_out (fun _ => Or.inl (by omega))
    have f1 : m2.1 280 1 = m1.1 280 1 := by rw [em2]; exact bl_cp_out (fun _ => Or.inl (by omega))
    have eh : m2.2 = m.2 := by rw [em2]; exact eh1
    have hv := at_add32 (x := m2.1 280 0) (y := Int32.ofInt 1) (by rw [f0]; omega) (by rw [f0]; omega)
    generalize m2.1 280 0 + Int32.ofInt 1 = v1 at hv
    have ne2 : ∀ p j : Nat, (p = 280 → 2 ≤ j ∧ (j < 1420 + 1418 * s ∨ 1420 + 1418 * s + 1418 ≤ j)) → fl_up m2.1 280 0 v1 p j = m.1 p j := fun p j e => by
      rw [bl_un (fun h => by have := e h; omega), em2, bl_cp_out (fun h => by have := e h; omega)]
      exact ne1 p j (fun h => (e h).1)
    have hA : at_AK (fun j => (fl_up m2.1 280 0 v1 280 (1420 + 1418 * s + (j - 2))).toInt) := by
      refine hg.AK.congr (fun j h1 h2 => ?_)
      try dsimp only
      rw [bl_un (fun _ => by omega), em2, bl_cp_in (by omega) (by omega), ne1 280 _ (fun _ => by omega)]
      have : 1420 + 1418 * s + (j - 2) - (1420 + 1418 * s) + 2 = j := by omega
      rw [this]
      rfl
    have hX : at_XI (fl_up m2.1 280 0 v1, m2.2) := by
      refine hg.2.2.mk280 (by show m2.2.2 = _; rw [eh]) (fun p j e => ne2 p j (fun h => absurd h e)) (fun s' hs' => ?_)
      by_cases es : s' = s
      · subst es
        exact hA
      · refine (hg.2.2.2.2.2.2.1 s' hs').congr (fun j h1 h2 => ?_)
        try dsimp only
        rw [ne2 280 _ (fun _ => by omega)]
    refine ⟨hg.mk (by show m2.2.2 = _; rw [eh]) hX (fun p j hp _ hne => absurd (ne2 p j (fun h => absurd h hp)) hne) ?_ ?_ (hg.AK.congr (fun j h1 h2 => ?_)), ⟨by show m.2.2 ≤ m2.2.2; rw [eh]; exact Nat.le_refl _, fun p j hne => ?_⟩, rfl⟩
    · show 0 ≤ (fl_up m2.1 280 0 v1 280 0).toInt ∧ (fl_up m2.1 280 0 v1 280 0).toInt ≤ 20
      rw [bl_ue, hv, f0]; omega
    · show 0 ≤ (fl_up m2.1 280 0 v1 280 1).toInt ∧ (fl_up m2.1 280 0 v1 280 1).toInt ≤ 19
      rw [bl_un (fun _ => by omega), f1]; omega
    · show (fl_up m2.1 280 0 v1 280 j).toInt = _
      rw [ne2 280 j (fun _ => by omega)]
      rfl
    · by_cases e : p = 280
      · subst e
        by_cases hj : j < 2
        · refine ⟨(79, false, 0, 1), by simp, fk_K_280.symm, ?_⟩
          rw [if_neg (by decide)]
          show (0 : Int) ≤ j ∧ (j : Int) ≤ 1
          omega
        · refine ⟨(79, false, 1420, 29779), by simp, fk_K_280.symm, ?_⟩
          rw [if_neg (by decide)]
          by_cases hj2 : 1420 ≤ j ∧ j < 29780
          · show (1420 : Int) ≤ j ∧ (j : Int) ≤ 29779
            omega
          · exact absurd (ne2 280 j (fun _ => by omega)) hne
      · exact absurd (ne2 p j (fun h => absurd h e)) hne
  refine fl_Tq.stp rfl rfl (fl_bo rfl) rfl ?_
  refine fl_Tq.stp rfl rfl (fl_bo rfl) rfl ?_
  refine fl_Tq.stp rfl rfl (fl_bo rfl) rfl ?_
  refine fl_Tq.ld (p := 280) (τ := 79) (n := 29780) (z := (0, 0, 0)) (k := 0) rfl (fl_bo rfl) rfl rfl (by decide) ?_
  refine fl_Tq.stp rfl rfl (fl_bo rfl) rfl ?_
  have e20 : (Int8.ofInt 20).toInt32.toInt = 20 := by decide +kernel
  by_cases h0 : (m.1 280 0).toInt = 20
  · refine fl_Tq.jf rfl (fl_bo rfl) ?_ rfl ?_
    · rw [at_c2, h0, e20]; rfl
    refine fl_Tq.stp rfl rfl (fl_bo rfl) rfl ?_
    refine fl_Tq.stp rfl rfl (fl_bo rfl) rfl ?_
    refine fl_Tq.stp rfl rfl (fl_bo rfl) rfl ?_
    refine fl_Tq.stp rfl rfl (fl_bo rfl) rfl ?_
    refine fl_Tq.stp rfl rfl (fl_bo rfl) rfl ?_
    refine fl_Tq.stp rfl rfl (fl_bo rfl) rfl ?_
    refine fl_Tq.ld (p := 280) (τ := 79) (n := 29780) (z := (0, 0, 0)) (k := 1) rfl (fl_bo rfl) rfl rfl (by decide) ?_
    refine fl_Tq.stp rfl rfl (fl_bo rfl) rfl ?_
    refine fl_Tq.stp rfl rfl (fl_bo rfl) rfl ?_
    refine fl_Tq.stp rfl rfl (fl_bo rfl) rfl ?_
    refine fl_Tq.rm rfl (fl_bo rfl) (by decide +kernel) ?_
    refine fl_Tq.sv (p := 280) (τ := 79) (n := 29780) (z := (0, 0, 0)) (k := 1) rfl (fl_bo rfl) rfl rfl (by decide) ?_
    dsimp only
    have hs := at_add32 (x := m.1 280 1) (y := Int32.ofInt 1) (by omega) (by omega)
    generalize m.1 280 1 + Int32.ofInt 1 = u1 at hs
    have hr := at_rem20 (s := u1) e20 (by omega)
    generalize u1 - u1 / (Int8.ofInt 20).toInt32 * (Int8.ofInt 20).toInt32 = u2 at hr
    refine fl_Tq.stp rfl rfl (fl_bo rfl) rfl ?_
    refine fl_Tq.stp rfl rfl (fl_bo rfl) rfl ?_
    refine fl_Tq.stp rfl rfl (fl_bo rfl) rfl ?_
    refine fl_Tq.stp rfl rfl (fl_bo rfl) rfl ?_
    refine fl_Tq.ld (p := 280) (τ := 79) (n := 29780) (z := (0, 0, 0)) (k := 0) rfl (fl_bo rfl) rfl rfl (by decide) ?_
    refine fl_Tq.stp rfl rfl (fl_bo rfl) rfl ?_
    refine fl_Tq.stp rfl rfl (fl_bo rfl) rfl ?_
    refine fl_Tq.sv (p := 280) (τ := 79) (n := 29780) (z := (0, 0, 0)) (k := 0) rfl (fl_bo rfl) rfl rfl (by decide) ?_
    have q0 : fl_up m.1 280 1 u2 280 0 = m.1 280 0 := bl_un (fun _ => by decide)
    refine tail _ rfl (fun p j e => ?_) ?_ ?_
    · show fl_up (fl_up m.1 280 1 u2) 280 0 _ p j = _
      rw [bl_un (fun h => by have := e h; omega), bl_un (fun h => by have := e h; omega)]
    · show 0 ≤ (fl_up (fl_up m.1 280 1 u2) 280 0 (fl_up m.1 280 1 u2 280 0 - Int32.ofInt 1) 280 0).toInt ∧ (fl_up (fl_up m.1 280 1 u2) 280 0 (fl_up m.1 280 1 u2 280 0 - Int32.ofInt 1) 280 0).toInt ≤ 19
      rw [bl_ue, q0, at_sub32 (by omega) (by omega)]
      omega
    · show 0 ≤ (fl_up (fl_up m.1 280 1 u2) 280 0 (fl_up m.1 280 1 u2 280 0 - Int32.ofInt 1) 280 1).toInt ∧ (fl_up (fl_up m.1 280 1 u2) 280 0 (fl_up m.1 280 1 u2 280 0 - Int32.ofInt 1) 280 1).toInt ≤ 19
      rw [bl_un (fun _ => by decide), bl_ue]
      omega
  · refine fl_Tq.jt rfl (fl_bo rfl) ?_ rfl ?_
    · rw [at_c2, e20]; show (!decide ((m.1 280 0).toInt - 20 = 0)) = true; rw [decide_eq_false (by omega)]; rfl
    exact tail m rfl (fun p j _ => rfl) (by omega) w1
end ATST

end

/-! 89.02.fpn.lean.txt -/
section
/-! ===== 64: no NaN comes of these ===== -/
theorem fp_t64 : FP.Core.b64.tails = 4503599627370496 := by decide +kernel
theorem fp_x64 : FP.Core.b64.exps = 2048 := by decide +kernel
theorem fp_qn64 : FP.Core.b64.qmin = -1074 := by decide +kernel
theorem fp_qx64 : FP.Core.b64.qmax = 971 := by decide +kernel
theorem fp_p64 : 2 ^ FP.Core.b64.p = 9007199254740992 := by decide +kernel
theorem fp_pi64 : ((FP.Core.b64.p : Nat) : Int) - 1 = 52 := by decide +kernel
def fp_g64 (d : FP.Core.Datum) : Prop := match d with
  | .nan => False
  | .inf _ => True
  | .fin _ c q => c < 9007199254740992 ∧ q ≤ 971
theorem fp_enc64 {d : FP.Core.Datum} (h : fp_g64 d) : FP.Core.encode FP.Core.b64 d % 9223372036854775808 ≤ 9218868437227405312 := by
  cases d with
  | nan => cases h
  | inf s =>
    show FP.Core.assemble FP.Core.b64 s (FP.Core.b64.exps - 1) 0 % 9223372036854775808 ≤ 9218868437227405312
    unfold FP.Core.assemble
    rw [fp_x64, fp_t64]
    have : s.toNat ≤ 1 := Bool.toNat_le s
    omega
  | fin s c q =>
    obtain ⟨h1, h2⟩ := h
    show (if c < FP.Core.b64.tails then FP.Core.assemble FP.Core.b64 s 0 c else FP.Core.assemble FP.Core.b64 s ((q - FP.Core.b64.qmin).toNat + 1) (c - FP.Core.b64.tails)) % 9223372036854775808 ≤ 9218868437227405312
    unfold FP.Core.assemble
    rw [fp_x64, fp_t64, fp_qn64]
    have : s.toNat ≤ 1 := Bool.toNat_le s
    split <;> omega
theorem fp_dec64 {n : Nat} (h : n % 9223372036854775808 ≤ 9218868437227405312) : fp_g64 (FP.Core.decode FP.Core.b64 n) := by
  unfold FP.Core.decode FP.Core.fieldE FP.Core.fieldT FP.Core.fieldS
  rw [fp_x64, fp_t64, fp_qn64]
  by_cases h1 : n / 4503599627370496 % 2048 = 2048 - 1
  · rw [if_pos h1]
    by_cases h2 : n % 4503599627370496 = 0
    · rw [if_pos h2]; exact True.intro
    · exfalso; omega
  · rw [if_neg h1]
    by_cases h2 : n / 4503599627370496 % 2048 = 0
    · rw [if_pos h2]
      exact ⟨by omega, by omega⟩
    · rw [if_neg h2]
      exact ⟨by omega, by omega⟩
theorem fp_fin64 {n : Nat} (h : n % 9223372036854775808 < 9218868437227405312) (h0 : n % 9223372036854775808 ≠ 0) : ∃ s d r, FP.Core.decode FP.Core.b64 n = .fin s d r ∧ d ≠ 0 := by
  unfold FP.Core.decode FP.Core.fieldE FP.Core.fieldT
  rw [fp_x64, fp_t64, fp_qn64]
  by_cases h1 : n / 4503599627370496 % 2048 = 2048 - 1
  · exfalso; omega
  · rw [if_neg h1]
    by_cases h2 : n / 4503599627370496 % 2048 = 0
    · rw [if_pos h2]
      exact ⟨_, _, _, rfl, by omega⟩
    · rw [if_neg h2]
      exact ⟨_, _, _, rfl, by omega⟩
theorem fp_bd64 (s : Bool) {c : Nat} (hc : c < 9007199254740992) (q : Int) : fp_g64 (FP.Core.bound FP.Core.b64 s c q) := by
  unfold FP.Core.bound
  rw [fp_qx64]
  by_cases h : q ≤ 971
  · rw [if_pos h]; exact ⟨hc, h⟩
  · rw [if_neg h]; exact True.intro
theorem fp_rr64 (s : Bool) (num den : Nat) (e : Int) : fp_g64 (FP.Core.roundRatio FP.Core.b64 s num den e) := by
  unfold FP.Core.roundRatio
  by_cases h : num = 0
  · rw [if_pos h]
    refine ⟨by decide, ?_⟩
    rw [fp_qn64]
    decide
  · rw [if_neg h]
    unfold FP.Core.roundAt FP.Core.settle
    rw [fp_p64, fp_t64]
    split
    · rename_i hc
      exact fp_bd64 s hc _
    · exact fp_bd64 s (by decide) _
theorem fp_rd64 {d : FP.Core.Datum} (h : d ≠ .nan) : fp_g64 (FP.Core.round FP.Core.b64 d) := by
  cases d with
  | nan => exact absurd rfl h
  | inf s => exact True.intro
  | fin s c q => exact fp_rr64 s c 1 q
theorem fp_n64 (x : UInt64) : vf_n64 x ↔ x.toNat % 9223372036854775808 ≤ 9218868437227405312 := by
  unfold vf_n64
  rw [UInt64.le_iff_toNat_le, UInt64.toNat_and]
  have h1 : (0x7fffffffffffffff : UInt64).toNat = 2 ^ 63 - 1 := by decide
  have h2 : (0x7ff0000000000000 : UInt64).toNat = 9218868437227405312 := by decide
  rw [h1, h2, Nat.and_two_pow_sub_one_eq_mod]
theorem fp_of64 {n : Nat} (h : n % 9223372036854775808 ≤ 9218868437227405312) : vf_n64 (UInt64.ofNat n) := by
  rw [fp_n64, UInt64.toNat_ofNat']
  omega
theorem fp_nn64 {x : UInt64} (h : vf_n64 x) : fp_g64 (FP.Core.decode FP.Core.b64 x.toNat) := fp_dec64 ((fp_n64 x).mp h)
theorem fp_div64 {a b : UInt64} (ha : vf_n64 a) (hb : b.toNat % 9223372036854775808 < 9218868437227405312) (hz : b.toNat % 9223372036854775808 ≠ 0) : vf_n64 (FP.ddiv a b) := by
  refine fp_of64 (fp_enc64 ?_)
  have h1 := fp_nn64 ha
  obtain ⟨t, d, r, e, hd⟩ := fp_fin64 hb hz
  rw [e]
  generalize FP.Core.decode FP.Core.b64 a.toNat = x at h1
  cases x with
  | nan => cases h1
  | inf s => exact True.intro
  | fin s c q =>
    show fp_g64 (if d = 0 then (if c = 0 then .nan else .inf (s != t)) else FP.Core.roundRatio FP.Core.b64 (s != t) c d (q - r))
    rw [if_neg hd]
    exact fp_rr64 _ _ _ _
theorem fp_sub64 {a b : UInt64} (ha : vf_n64 a) (hb : b.toNat % 9223372036854775808 < 9218868437227405312) (hz : b.toNat % 9223372036854775808 ≠ 0) : vf_n64 (FP.dsub a b) := by
  refine fp_of64 (fp_enc64 (fp_rd64 ?_))
  have h1 := fp_nn64 ha
  obtain ⟨t, d, r, e, hd⟩ := fp_fin64 hb hz
  rw [e]
  generalize FP.Core.decode FP.Core.b64 a.toNat = x at h1
  cases x with
  | nan => cases h1
  | inf s => intro h; cases h
  | fin s c q => intro h; cases h
theorem fp_mul64 {a b : UInt64} (ha : vf_n64 a) (hb : b.toNat % 9223372036854775808 < 9218868437227405312) (hz : b.toNat % 9223372036854775808 ≠ 0) : vf_n64 (FP.dmul a b) := by
  refine fp_of64 (fp_enc64 (fp_rd64 ?_))
  have h1 := fp_nn64 ha
  obtain ⟨t, d, r, e, hd⟩ := fp_fin64 hb hz
  rw [e]
  generalize FP.Core.decode FP.Core.b64 a.toNat = x at h1
  cases x with
  | nan => cases h1
  | inf s =>
    show (if d = 0 then FP.Core.Datum.nan else .inf (s != t)) ≠ .nan
    rw [if_neg hd]
    intro h; cases h
  | fin s c q => intro h; cases h
/-- a whole number other than 0 -/
theorem fp_whole64 (s : Bool) {num : Nat} (h1 : 1 ≤ num) (h2 : num < 18446744073709551616) : ∃ c q, FP.Core.roundRatio FP.Core.b64 s num 1 0 = .fin s c q ∧ c ≠ 0 ∧ c < 9007199254740992 ∧ q ≤ 971 := by
  have hn : num ≠ 0 := by omega
  have hle : 2 ^ num.log2 ≤ num := Nat.log2_self_le hn
  have hlt : num.log2 < 64 := (Nat.log2_lt hn).mpr h2
  have hlead : FP.Core.leading num 1 = (num.log2 : Int) := by
    unfold FP.Core.leading
    have e1 : Nat.log2 1 = 0 := by decide +kernel
    rw [e1]
    have e2 : ((num.log2 : Int) - ((0 : Nat) : Int)).toNat = num.log2 := by omega
    have e3 : (-((num.log2 : Int) - ((0 : Nat) : Int))).toNat = 0 := by omega
    dsimp only
    rw [e2, e3, Nat.pow_zero, Nat.mul_one, Nat.one_mul, if_pos hle]
    omega
  have hq : FP.Core.quantum FP.Core.b64 num 1 0 = max (-1074) ((num.log2 : Int) - 52) := by
    unfold FP.Core.quantum
    rw [hlead, fp_qn64, fp_pi64]
    congr 1
  unfold FP.Core.roundRatio
  rw [if_neg hn, hq]
  generalize hqg : max (-1074 : Int) ((num.log2 : Int) - 52) = q
  have hq1 : q ≤ 64 := by omega
  unfold FP.Core.roundAt FP.Core.settle FP.Core.bound
  rw [fp_p64, fp_t64, fp_qx64]
  have hU : 1 ≤ FP.Core.nearest (FP.Core.unitsNum num 0 q) (FP.Core.unitsDen 1 0 q) := by
    have hd : 1 ≤ FP.Core.unitsNum num 0 q / FP.Core.unitsDen 1 0 q := by
      unfold FP.Core.unitsNum FP.Core.unitsDen
      refine Nat.div_pos ?_ ?_
      · by_cases hq0 : q ≤ 0
        · have e : (q - 0).toNat = 0 := by omega
          rw [e, Nat.pow_zero]
          have := Nat.mul_le_mul h1 (Nat.one_le_two_pow (n := (0 - q).toNat))
          omega
        · have e : (0 - q).toNat = 0 := by omega
          rw [e, Nat.pow_zero, Nat.mul_one, Nat.one_mul]
          have : (q - 0).toNat ≤ num.log2 := by omega
          exact Nat.le_trans (Nat.pow_le_pow_right (by decide) this) hle
      · rw [Nat.one_mul]
        exact Nat.one_le_two_pow
    unfold FP.Core.nearest
    split
    · exact hd
    · split <;> omega
  generalize FP.Core.nearest (FP.Core.unitsNum num 0 q) (FP.Core.unitsDen 1 0 q) = c at hU
  by_cases hc : c < 9007199254740992
  · rw [if_pos hc, if_pos (by omega)]
    exact ⟨c, q, rfl, by omega, hc, by omega⟩
  · rw [if_neg hc, if_pos (by omega)]
    exact ⟨4503599627370496, q + 1, rfl, by decide, by decide, by omega⟩
theorem fp_of_int64 (a : Int64) : vf_n64 (FP.l2d a) ∧ (a ≠ 0 → (FP.l2d a).toNat % 9223372036854775808 < 9218868437227405312 ∧ (FP.l2d a).toNat % 9223372036854775808 ≠ 0) := by
  refine ⟨fp_of64 (fp_enc64 (fp_rd64 (fun h => by cases h))), fun ha => ?_⟩
  have hb := (⟨Int64.le_toInt a, Int64.toInt_lt a⟩ : -2 ^ 63 ≤ a.toInt ∧ a.toInt < 2 ^ 63)
  have hne : a.toInt ≠ 0 := fun h => ha (Int64.toInt.inj h)
  obtain ⟨c, q, e, c0, c1, c2⟩ := fp_whole64 (decide (a.toInt < 0)) (num := a.toInt.natAbs) (by omega) (by omega)
  have he : FP.l2d a = UInt64.ofNat (FP.Core.encode FP.Core.b64 (.fin (decide (a.toInt < 0)) c q)) := by
    rw [← e]
    rfl
  rw [he, UInt64.toNat_ofNat']
  generalize decide (a.toInt < 0) = s
  have hs : s.toNat ≤ 1 := Bool.toNat_le s
  have hm : FP.Core.encode FP.Core.b64 (.fin s c q) % 9223372036854775808 < 9218868437227405312 ∧ FP.Core.encode FP.Core.b64 (.fin s c q) % 9223372036854775808 ≠ 0 := by
    show (if c < FP.Core.b64.tails then FP.Core.assemble FP.Core.b64 s 0 c else FP.Core.assemble FP.Core.b64 s ((q - FP.Core.b64.qmin).toNat + 1) (c - FP.Core.b64.tails)) % 9223372036854775808 < 9218868437227405312 ∧ (if c < FP.Core.b64.tails then FP.Core.assemble FP.Core.b64 s 0 c else FP.Core.assemble FP.Core.b64 s ((q - FP.Core.b64.qmin).toNat + 1) (c - FP.Core.b64.tails)) % 9223372036854775808 ≠ 0
    unfold FP.Core.assemble
    rw [fp_x64, fp_t64, fp_qn64]
    split <;> omega
  omega
/-! ===== 32: no NaN comes of these ===== -/
theorem fp_t32 : FP.Core.b32.tails = 8388608 := by decide +kernel
theorem fp_x32 : FP.Core.b32.exps = 256 := by decide +kernel
theorem fp_qn32 : FP.Core.b32.qmin = -149 := by decide +kernel
theorem fp_qx32 : FP.Core.b32.qmax = 104 := by decide +kernel
theorem fp_p32 : 2 ^ FP.Core.b32.p = 16777216 := by decide +kernel
theorem fp_pi32 : ((FP.Core.b32.p : Nat) : Int) - 1 = 23 := by decide +kernel
def fp_g32 (d : FP.Core.Datum) : Prop := match d with
  | .nan => False
  | .inf _ => True
  | .fin _ c q => c < 16777216 ∧ q ≤ 104
theorem fp_enc32 {d : FP.Core.Datum} (h : fp_g32 d) : FP.Core.encode FP.Core.b32 d % 2147483648 ≤ 2139095040 := by
  cases d with
  | nan => cases h
  | inf s =>
    show FP.Core.assemble FP.Core.b32 s (FP.Core.b32.exps - 1) 0 % 2147483648 ≤ 2139095040
    unfold FP.Core.assemble
    rw [fp_x32, fp_t32]
    have : s.toNat ≤ 1 := Bool.toNat_le s
    omega
  | fin s c q =>
    obtain ⟨h1, h2⟩ := h
    show (if c < FP.Core.b32.tails then FP.Core.assemble FP.Core.b32 s 0 c else FP.Core.assemble FP.Core.b32 s ((q - FP.Core.b32.qmin).toNat + 1) (c - FP.Core.b32.tails)) % 2147483648 ≤ 2139095040
    unfold FP.Core.assemble
    rw [fp_x32, fp_t32, fp_qn32]
    have : s.toNat ≤ 1 := Bool.toNat_le s
    split <;> omega
theorem fp_dec32 {n : Nat} (h : n % 2147483648 ≤ 2139095040) : fp_g32 (FP.Core.decode FP.Core.b32 n) := by
  unfold FP.Core.decode FP.Core.fieldE FP.Core.fieldT FP.Core.fieldS
  rw [fp_x32, fp_t32, fp_qn32]
  by_cases h1 : n / 8388608 % 256 = 256 - 1
  · rw [if_pos h1]
    by_cases h2 : n % 8388608 = 0
    · rw [if_pos h2]; exact True.intro
    · exfalso; omega
  · rw [if_neg h1]
    by_cases h2 : n / 8388608 % 256 = 0
    · rw [if_pos h2]
      exact ⟨by omega, by omega⟩
    · rw [if_neg h2]
      exact ⟨by omega, by omega⟩
theorem fp_fin32 {n : Nat} (h : n % 2147483648 < 2139095040) (h0 : n % 2147483648 ≠ 0) : ∃ s d r, FP.Core.decode FP.Core.b32 n = .fin s d r ∧ d ≠ 0 := by
  unfold FP.Core.decode FP.Core.fieldE FP.Core.fieldT
  rw [fp_x32, fp_t32, fp_qn32]
  by_cases h1 : n / 8388608 % 256 = 256 - 1
  · exfalso; omega
  · rw [if_neg h1]
    by_cases h2 : n / 8388608 % 256 = 0
    · rw [if_pos h2]
      exact ⟨_, _, _, rfl, by omega⟩
    · rw [if_neg h2]
      exact ⟨_, _, _, rfl, by omega⟩
theorem fp_bd32 (s : Bool) {c : Nat} (hc : c < 16777216) (q : Int) : fp_g32 (FP.Core.bound FP.Core.b32 s c q) := by
  unfold FP.Core.bound
  rw [fp_qx32]
  by_cases h : q ≤ 104
  · rw [if_pos h]; exact ⟨hc, h⟩
  · rw [if_neg h]; exact True.intro
theorem fp_rr32 (s : Bool) (num den : Nat) (e : Int) : fp_g32 (FP.Core.roundRatio FP.Core.b32 s num den e) := by
  unfold FP.Core.roundRatio
  by_cases h : num = 0
  · rw [if_pos h]
    refine ⟨by decide, ?_⟩
    rw [fp_qn32]
    decide
  · rw [if_neg h]
    unfold FP.Core.roundAt FP.Core.settle
    rw [fp_p32, fp_t32]
    split
    · rename_i hc
      exact fp_bd32 s hc _
    · exact fp_bd32 s (by decide) _
theorem fp_rd32 {d : FP.Core.Datum} (h : d ≠ .nan) : fp_g32 (FP.Core.round FP.Core.b32 d) := by
  cases d with
  | nan => exact absurd rfl h
  | inf s => exact True.intro
  | fin s c q => exact fp_rr32 s c 1 q
theorem fp_n32 (x : UInt32) : vf_n32 x ↔ x.toNat % 2147483648 ≤ 2139095040 := by
  unfold vf_n32
  rw [UInt32.le_iff_toNat_le, UInt32.toNat_and]
  have h1 : (0x7fffffff : UInt32).toNat = 2 ^ 31 - 1 := by decide
  have h2 : (0x7f800000 : UInt32).toNat = 2139095040 := by decide
  rw [h1, h2, Nat.and_two_pow_sub_one_eq_mod]
theorem fp_of32 {n : Nat} (h : n % 2147483648 ≤ 2139095040) : vf_n32 (UInt32.ofNat n) := by
  rw [fp_n32, UInt32.toNat_ofNat']
  omega
theorem fp_nn32 {x : UInt32} (h : vf_n32 x) : fp_g32 (FP.Core.decode FP.Core.b32 x.toNat) := fp_dec32 ((fp_n32 x).mp h)
theorem fp_div32 {a b : UInt32} (ha : vf_n32 a) (hb : b.toNat % 2147483648 < 2139095040) (hz : b.toNat % 2147483648 ≠ 0) : vf_n32 (FP.fdiv a b) := by
  refine fp_of32 (fp_enc32 ?_)
  have h1 := fp_nn32 ha
  obtain ⟨t, d, r, e, hd⟩ := fp_fin32 hb hz
  rw [e]
  generalize FP.Core.decode FP.Core.b32 a.toNat = x at h1
  cases x with
  | nan => cases h1
  | inf s => exact True.intro
  | fin s c q =>
    show fp_g32 (if d = 0 then (if c = 0 then .nan else .inf (s != t)) else FP.Core.roundRatio FP.Core.b32 (s != t) c d (q - r))
    rw [if_neg hd]
    exact fp_rr32 _ _ _ _
theorem fp_sub32 {a b : UInt32} (ha : vf_n32 a) (hb : b.toNat % 2147483648 < 2139095040) (hz : b.toNat % 2147483648 ≠ 0) : vf_n32 (FP.fsub a b) := by
  refine fp_of32 (fp_enc32 (fp_rd32 ?_))
  have h1 := fp_nn32 ha
  obtain ⟨t, d, r, e, hd⟩ := fp_fin32 hb hz
  rw [e]
  generalize FP.Core.decode FP.Core.b32 a.toNat = x at h1
  cases x with
  | nan => cases h1
  | inf s => intro h; cases h
  | fin s c q => intro h; cases h
theorem fp_mul32 {a b : UInt32} (ha : vf_n32 a) (hb : b.toNat % 2147483648 < 2139095040) (hz : b.toNat % 2147483648 ≠ 0) : vf_n32 (FP.fmul a b) := by
  refine fp_of32 (fp_enc32 (fp_rd32 ?_))
  have h1 := fp_nn32 ha
  obtain ⟨t, d, r, e, hd⟩ := fp_fin32 hb hz
  rw [e]
  generalize FP.Core.decode FP.Core.b32 a.toNat = x at h1
  cases x with
  | nan => cases h1
  | inf s =>
    show (if d = 0 then FP.Core.Datum.nan else .inf (s != t)) ≠ .nan
    rw [if_neg hd]
    intro h; cases h
  | fin s c q => intro h; cases h
/-- a whole number other than 0 -/
theorem fp_whole32 (s : Bool) {num : Nat} (h1 : 1 ≤ num) (h2 : num < 4294967296) : ∃ c q, FP.Core.roundRatio FP.Core.b32 s num 1 0 = .fin s c q ∧ c ≠ 0 ∧ c < 16777216 ∧ q ≤ 104 := by
  have hn : num ≠ 0 := by omega
  have hle : 2 ^ num.log2 ≤ num := Nat.log2_self_le hn
  have hlt : num.log2 < 32 := (Nat.log2_lt hn).mpr h2
  have hlead : FP.Core.leading num 1 = (num.log2 : Int) := by
    unfold FP.Core.leading
    have e1 : Nat.log2 1 = 0 := by decide +kernel
    rw [e1]
    have e2 : ((num.log2 : Int) - ((0 : Nat) : Int)).toNat = num.log2 := by omega
    have e3 : (-((num.log2 : Int) - ((0 : Nat) : Int))).toNat = 0 := by omega
    dsimp only
    rw [e2, e3, Nat.pow_zero, Nat.mul_one, Nat.one_mul, if_pos hle]
    omega
  have hq : FP.Core.quantum FP.Core.b32 num 1 0 = max (-149) ((num.log2 : Int) - 23) := by
    unfold FP.Core.quantum
    rw [hlead, fp_qn32, fp_pi32]
    congr 1
  unfold FP.Core.roundRatio
  rw [if_neg hn, hq]
  generalize hqg : max (-149 : Int) ((num.log2 : Int) - 23) = q
  have hq1 : q ≤ 32 := by omega
  unfold FP.Core.roundAt FP.Core.settle FP.Core.bound
  rw [fp_p32, fp_t32, fp_qx32]
  have hU : 1 ≤ FP.Core.nearest (FP.Core.unitsNum num 0 q) (FP.Core.unitsDen 1 0 q) := by
    have hd : 1 ≤ FP.Core.unitsNum num 0 q / FP.Core.unitsDen 1 0 q := by
      unfold FP.Core.unitsNum FP.Core.unitsDen
      refine Nat.div_pos ?_ ?_
      · by_cases hq0 : q ≤ 0
        · have e : (q - 0).toNat = 0 := by omega
          rw [e, Nat.pow_zero]
          have := Nat.mul_le_mul h1 (Nat.one_le_two_pow (n := (0 - q).toNat))
          omega
        · have e : (0 - q).toNat = 0 := by omega
          rw [e, Nat.pow_zero, Nat.mul_one, Nat.one_mul]
          have : (q - 0).toNat ≤ num.log2 := by omega
          exact Nat.le_trans (Nat.pow_le_pow_right (by decide) this) hle
      · rw [Nat.one_mul]
        exact Nat.one_le_two_pow
    unfold FP.Core.nearest
    split
    · exact hd
    · split <;> omega
  generalize FP.Core.nearest (FP.Core.unitsNum num 0 q) (FP.Core.unitsDen 1 0 q) = c at hU
  by_cases hc : c < 16777216
  · rw [if_pos hc, if_pos (by omega)]
    exact ⟨c, q, rfl, by omega, hc, by omega⟩
  · rw [if_neg hc, if_pos (by omega)]
    exact ⟨8388608, q + 1, rfl, by decide, by decide, by omega⟩
theorem fp_of_int32 (a : Int32) : vf_n32 (FP.i2f a) ∧ (a ≠ 0 → (FP.i2f a).toNat % 2147483648 < 2139095040 ∧ (FP.i2f a).toNat % 2147483648 ≠ 0) := by
  refine ⟨fp_of32 (fp_enc32 (fp_rd32 (fun h => by cases h))), fun ha => ?_⟩
  have hb := at_i32 a
  have hne : a.toInt ≠ 0 := fun h => ha (Int32.toInt.inj h)
  obtain ⟨c, q, e, c0, c1, c2⟩ := fp_whole32 (decide (a.toInt < 0)) (num := a.toInt.natAbs) (by omega) (by omega)
  have he : FP.i2f a = UInt32.ofNat (FP.Core.encode FP.Core.b32 (.fin (decide (a.toInt < 0)) c q)) := by
    rw [← e]
    rfl
  rw [he, UInt32.toNat_ofNat']
  generalize decide (a.toInt < 0) = s
  have hs : s.toNat ≤ 1 := Bool.toNat_le s
  have hm : FP.Core.encode FP.Core.b32 (.fin s c q) % 2147483648 < 2139095040 ∧ FP.Core.encode FP.Core.b32 (.fin s c q) % 2147483648 ≠ 0 := by
    show (if c < FP.Core.b32.tails then FP.Core.assemble FP.Core.b32 s 0 c else FP.Core.assemble FP.Core.b32 s ((q - FP.Core.b32.qmin).toNat + 1) (c - FP.Core.b32.tails)) % 2147483648 < 2139095040 ∧ (if c < FP.Core.b32.tails then FP.Core.assemble FP.Core.b32 s 0 c else FP.Core.assemble FP.Core.b32 s ((q - FP.Core.b32.qmin).toNat + 1) (c - FP.Core.b32.tails)) % 2147483648 ≠ 0
    unfold FP.Core.assemble
    rw [fp_x32, fp_t32, fp_qn32]
    split <;> omega
  omega

end

/-! 89.03.fp1.lean.txt -/
section
/-! ===== floats and doubles: never a NaN ===== -/
section FTF
variable {P : am_Pg} {mi pc pc' : Nat} {ins : Instr} {lv lv' : fl_L} {st st' r : List fl_V} {m : fl_M} {Q : Option fl_V → fl_M → Prop}
theorem fl_Tq.gen (hc : am_code P mi pc = some ins) (hcl : am_cl P mi ins = none) (hrt : am_rt P mi ins (st.map fl_c) = none) (hst : ∀ la : am_L, fl_LR lv la → ∃ la', am_st P mi ins pc la (st.map fl_c) (fl_H m) = some (pc', la', st'.map fl_c, fl_H m) ∧ fl_LR lv' la') (k : fl_Tq P mi pc' lv' st' m Q) : fl_Tq P mi pc lv st m Q := by
  intro la hl
  obtain ⟨la', h1, h2⟩ := hst la hl
  exact am_To.stp hc hcl hrt h1 (k la' h2)
theorem fl_Tq.dld {i w : Nat} (hc : am_code P mi pc = some ins) (hcl : am_cl P mi ins = none) (hrt : am_rt P mi ins (st.map fl_c) = none) {n : Nat} (hst : ∀ (la : am_L) (s : List Value) (M : am_M), am_st P mi ins pc la s M = am_pu n pc la s M (am_ld w (am_lk la i))) {v : fl_V} (hv : fl_ld w lv[i]? = some v) (k : fl_Tq P mi (pc + n) lv (v :: st) m Q) : fl_Tq P mi pc lv st m Q := by
  refine fl_Tq.gen hc hcl hrt (fun la hl => ⟨la, ?_, hl⟩) k
  rw [hst, fl_ld_c hl hv]
  rfl
theorem fl_Tq.dso {i w n : Nat} {v : fl_V} (hc : am_code P mi pc = some ins) (hcl : am_cl P mi ins = none) (hrt : am_rt P mi ins ((v :: r).map fl_c) = none) (hst : ∀ (la : am_L) (s : List Value) (M : am_M), am_st P mi ins pc la s M = am_so w n pc i (am_mxl P mi) la s M) (hv : fl_so w n pc i (am_mxl P mi) lv (v :: r) m = some (pc', lv', r, m)) (k : fl_Tq P mi pc' lv' r m Q) : fl_Tq P mi pc lv (v :: r) m Q := by
  refine fl_Tq.gen hc hcl hrt (fun la hl => ?_) k
  obtain ⟨la', h1, h2⟩ := fl_so_c hl hv
  exact ⟨la', by rw [hst]; exact h1, h2⟩
theorem fl_Tq.psh {v : fl_V} {n : Nat} (hc : am_code P mi pc = some ins) (hcl : am_cl P mi ins = none) (hrt : am_rt P mi ins (st.map fl_c) = none) (hst : ∀ (la : am_L) (s : List Value) (M : am_M), am_st P mi ins pc la s M = some (pc + n, la, fl_c v :: s, M)) (k : fl_Tq P mi (pc + n) lv (v :: st) m Q) : fl_Tq P mi pc lv st m Q :=
  fl_Tq.gen (st' := v :: st) hc hcl hrt (fun la hl => ⟨la, hst la (st.map fl_c) (fl_H m), hl⟩) k
theorem fl_Tq.un {v w : fl_V} (hc : am_code P mi pc = some ins) (hcl : am_cl P mi ins = none) (hrt : am_rt P mi ins ((v :: r).map fl_c) = none) (hst : ∀ (la : am_L) (s : List Value) (M : am_M), am_st P mi ins pc la (fl_c v :: s) M = some (pc + 1, la, fl_c w :: s, M)) (k : fl_Tq P mi (pc + 1) lv (w :: r) m Q) : fl_Tq P mi pc lv (v :: r) m Q :=
  fl_Tq.gen (st' := w :: r) hc hcl hrt (fun la hl => ⟨la, hst la (r.map fl_c) (fl_H m), hl⟩) k
theorem fl_Tq.bi {v w u : fl_V} (hc : am_code P mi pc = some ins) (hcl : am_cl P mi ins = none) (hrt : am_rt P mi ins ((v :: w :: r).map fl_c) = none) (hst : ∀ (la : am_L) (s : List Value) (M : am_M), am_st P mi ins pc la (fl_c v :: fl_c w :: s) M = some (pc + 1, la, fl_c u :: s, M)) (k : fl_Tq P mi (pc + 1) lv (u :: r) m Q) : fl_Tq P mi pc lv (v :: w :: r) m Q :=
  fl_Tq.gen (st' := u :: r) hc hcl hrt (fun la hl => ⟨la, hst la (r.map fl_c) (fl_H m), hl⟩) k
theorem fl_fD {g : UInt64 → UInt64 → UInt64} {a b : UInt64} (h : vf_n64 (g a b)) : am_fD g (.double a) (.double b) = some (.double (g a b)) := if_pos h
theorem fl_fF {g : UInt32 → UInt32 → UInt32} {a b : UInt32} (h : vf_n32 (g a b)) : am_fF g (.float a) (.float b) = some (.float (g a b)) := if_pos h
theorem fl_dbin {g : UInt64 → UInt64 → UInt64} {a b : UInt64} (hst : ∀ (la : am_L) (s : List Value) (M : am_M), am_st P mi ins pc la s M = am_2 pc la s M (am_fD g)) (h : vf_n64 (g a b)) (la : am_L) (s : List Value) (M : am_M) : am_st P mi ins pc la (.double b :: .double a :: s) M = some (pc + 1, la, .double (g a b) :: s, M) := by
  rw [hst]
  unfold am_2
  dsimp only
  rw [fl_fD h]
theorem fl_fbin {g : UInt32 → UInt32 → UInt32} {a b : UInt32} (hst : ∀ (la : am_L) (s : List Value) (M : am_M), am_st P mi ins pc la s M = am_2 pc la s M (am_fF g)) (h : vf_n32 (g a b)) (la : am_L) (s : List Value) (M : am_M) : am_st P mi ins pc la (.float b :: .float a :: s) M = some (pc + 1, la, .float (g a b) :: s, M) := by
  rw [hst]
  unfold am_2
  dsimp only
  rw [fl_fF h]
end FTF
abbrev fl_d (x : UInt64) : fl_V := .inr (.inr (.inr (.inr (.inr x))))
abbrev fl_f (x : UInt32) : fl_V := .inr (.inr (.inr (.inr (.inl x))))
abbrev fl_j (x : Int64) : fl_V := .inr (.inl x)
section ATFP
variable {L : Nat} {xs : Nat → Int32} {m : fl_M} {Q : Option fl_V → fl_M → Prop}
theorem at_326 {b : UInt64} (k : ∀ v : Int32, v = 0 ∨ v = 1 → Q (some (.inl v)) m) : fl_Tq (pw_P L xs) 326 0 (fl_args (am_mxl (pw_P L xs) 326) [fl_d b]) [] m Q := by
  refine fl_Tq.dld (i := 0) (w := 3) (n := 1) (v := fl_d b) rfl rfl rfl (fun _ _ _ => rfl) rfl ?_
  refine fl_Tq.dld (i := 0) (w := 3) (n := 1) (v := fl_d b) rfl rfl rfl (fun _ _ _ => rfl) rfl ?_
  refine fl_Tq.bi (u := .inl (Op.cmpValue (FP.dcmp b b) .l)) rfl rfl rfl (fun _ _ _ => rfl) ?_
  cases hb : am_c1 .eq (Op.cmpValue (FP.dcmp b b) .l) with
  | true =>
    refine fl_Tq.zt rfl (fl_bo rfl) hb rfl ?_
    refine fl_Tq.stp rfl rfl (fl_bo rfl) rfl ?_
    exact fl_Tq.ret rfl rfl rfl (k _ (Or.inl rfl))
  | false =>
    refine fl_Tq.zf rfl (fl_bo rfl) hb rfl ?_
    refine fl_Tq.stp rfl rfl (fl_bo rfl) rfl ?_
    refine fl_Tq.stp rfl rfl (fl_bo rfl) rfl ?_
    exact fl_Tq.ret rfl rfl rfl (k _ (Or.inr rfl))
theorem at_327 {b : UInt64} (k : ∀ v : Int64, Q (some (fl_j v)) m) : fl_Tq (pw_P L xs) 327 0 (fl_args (am_mxl (pw_P L xs) 327) [fl_d b]) [] m Q := by
  refine fl_Tq.dld (i := 0) (w := 3) (n := 1) (v := fl_d b) rfl rfl rfl (fun _ _ _ => rfl) rfl ?_
  refine fl_Tq.cal rfl rfl (fl_bo rfl) rfl ?_
  refine at_326 (fun v hv => ?_)
  cases hb : am_c1 .ne v with
  | true =>
    refine fl_Tq.zt rfl (fl_bo rfl) hb rfl ?_
    refine fl_Tq.stp rfl rfl (fl_bo rfl) rfl ?_
    exact fl_Tq.ret rfl rfl rfl (k _)
  | false =>
    refine fl_Tq.zf rfl (fl_bo rfl) hb rfl ?_
    refine fl_Tq.dld (i := 0) (w := 3) (n := 1) (v := fl_d b) rfl rfl rfl (fun _ _ _ => rfl) rfl ?_
    refine fl_Tq.gen (st' := [fl_j b.toInt64]) rfl rfl rfl (fun la hl => ⟨la, rfl, hl⟩) ?_
    exact fl_Tq.ret rfl rfl rfl (k _)
theorem at_328 {b : UInt32} (k : ∀ v : Int32, v = 0 ∨ v = 1 → Q (some (.inl v)) m) : fl_Tq (pw_P L xs) 328 0 (fl_args (am_mxl (pw_P L xs) 328) [fl_f b]) [] m Q := by
  refine fl_Tq.dld (i := 0) (w := 2) (n := 1) (v := fl_f b) rfl rfl rfl (fun _ _ _ => rfl) rfl ?_
  refine fl_Tq.dld (i := 0) (w := 2) (n := 1) (v := fl_f b) rfl rfl rfl (fun _ _ _ => rfl) rfl ?_
  refine fl_Tq.bi (u := .inl (Op.cmpValue (FP.fcmp b b) .l)) rfl rfl rfl (fun _ _ _ => rfl) ?_
  cases hb : am_c1 .eq (Op.cmpValue (FP.fcmp b b) .l) with
  | true =>
    refine fl_Tq.zt rfl (fl_bo rfl) hb rfl ?_
    refine fl_Tq.stp rfl rfl (fl_bo rfl) rfl ?_
    exact fl_Tq.ret rfl rfl rfl (k _ (Or.inl rfl))
  | false =>
    refine fl_Tq.zf rfl (fl_bo rfl) hb rfl ?_
    refine fl_Tq.stp rfl rfl (fl_bo rfl) rfl ?_
    refine fl_Tq.stp rfl rfl (fl_bo rfl) rfl ?_
    exact fl_Tq.ret rfl rfl rfl (k _ (Or.inr rfl))
theorem at_329 {b : UInt32} (k : ∀ v : Int32, Q (some (.inl v)) m) : fl_Tq (pw_P L xs) 329 0 (fl_args (am_mxl (pw_P L xs) 329) [fl_f b]) [] m Q := by
  refine fl_Tq.dld (i := 0) (w := 2) (n := 1) (v := fl_f b) rfl rfl rfl (fun _ _ _ => rfl) rfl ?_
  refine fl_Tq.cal rfl rfl (fl_bo rfl) rfl ?_
  refine at_328 (fun v hv => ?_)
  cases hb : am_c1 .ne v with
  | true =>
    refine fl_Tq.zt rfl (fl_bo rfl) hb rfl ?_
    refine fl_Tq.stp rfl rfl (fl_bo rfl) rfl ?_
    exact fl_Tq.ret rfl rfl rfl (k _)
  | false =>
    refine fl_Tq.zf rfl (fl_bo rfl) hb rfl ?_
    refine fl_Tq.dld (i := 0) (w := 2) (n := 1) (v := fl_f b) rfl rfl rfl (fun _ _ _ => rfl) rfl ?_
    refine fl_Tq.gen (st' := [.inl b.toInt32]) rfl rfl rfl (fun la hl => ⟨la, rfl, hl⟩) ?_
    exact fl_Tq.ret rfl rfl rfl (k _)
/-- the class's own bits of a double -/
theorem at_181 {b : UInt64} (hb0 : vf_n64 b) (k : ∀ v : Int64, Q (some (fl_j v)) m) : fl_Tq (pw_P L xs) 181 0 (fl_args (am_mxl (pw_P L xs) 181) [fl_d b]) [] m Q := by
  have tail : ∀ (x : UInt64) (e i : Int32), vf_n64 x → fl_Tq (pw_P L xs) 181 43 [some (fl_d b), none, some (.inl e), some (fl_d x), none, some (.inl i), none] [] m Q := by
    intro x e i hx
    refine fl_Tq.dld (i := 3) (w := 3) (n := 1) (v := fl_d x) rfl rfl rfl (fun _ _ _ => rfl) rfl ?_
    refine fl_Tq.psh (n := 1) (v := fl_d 0x3ff0000000000000) rfl rfl rfl (fun _ _ _ => rfl) ?_
    have n1 : vf_n64 (FP.dsub x 0x3ff0000000000000) := fp_sub64 hx (by decide) (by decide)
    refine fl_Tq.bi (u := fl_d (FP.dsub x 0x3ff0000000000000)) rfl rfl rfl (fl_dbin (fun _ _ _ => rfl) n1) ?_
    refine fl_Tq.psh (n := 3) (v := fl_d 0x4330000000000000) rfl rfl rfl (fun _ _ _ => rfl) ?_
    have n2 : vf_n64 (FP.dmul (FP.dsub x 0x3ff0000000000000) 0x4330000000000000) := fp_mul64 n1 (by decide) (by decide)
    refine fl_Tq.bi (u := fl_d (FP.dmul (FP.dsub x 0x3ff0000000000000) 0x4330000000000000)) rfl rfl rfl (fl_dbin (fun _ _ _ => rfl) n2) ?_
    refine fl_Tq.un (w := fl_j (FP.d2l (FP.dmul (FP.dsub x 0x3ff0000000000000) 0x4330000000000000))) rfl rfl rfl (fun _ _ _ => rfl) ?_
    refine fl_Tq.stp rfl rfl (fl_bo rfl) rfl ?_
    refine fl_Tq.stp rfl rfl (fl_bo rfl) rfl ?_
    refine fl_Tq.stp rfl rfl (fl_bo rfl) rfl ?_
    refine fl_Tq.stp rfl rfl (fl_bo rfl) rfl ?_
    refine fl_Tq.stp rfl rfl (fl_bo rfl) rfl ?_
    refine fl_Tq.stp rfl rfl (fl_bo rfl) rfl ?_
    refine fl_Tq.stp rfl rfl (fl_bo rfl) rfl ?_
    refine fl_Tq.stp rfl rfl (fl_bo rfl) rfl ?_
    refine fl_Tq.stp rfl rfl (fl_bo rfl) rfl ?_
    exact fl_Tq.ret rfl rfl rfl (k _)
  refine fl_Tq.dld (i := 0) (w := 3) (n := 1) (v := fl_d b) rfl rfl rfl (fun _ _ _ => rfl) rfl ?_
  refine fl_Tq.psh (n := 1) (v := fl_d 0) rfl rfl rfl (fun _ _ _ => rfl) ?_
  refine fl_Tq.bi (u := .inl (Op.cmpValue (FP.dcmp b 0) .g)) rfl rfl rfl (fun _ _ _ => rfl) ?_
  cases hb : am_c1 .gt (Op.cmpValue (FP.dcmp b 0) .g) with
  | false =>
    refine fl_Tq.zf rfl (fl_bo rfl) hb rfl ?_
    refine fl_Tq.stp rfl rfl (fl_bo rfl) rfl ?_
    exact fl_Tq.ret rfl rfl rfl (k _)
  | true =>
    refine fl_Tq.zt rfl (fl_bo rfl) hb rfl ?_
    refine fl_Tq.stp rfl rfl (fl_bo rfl) rfl ?_
    refine fl_Tq.stp rfl rfl (fl_bo rfl) rfl ?_
    refine fl_Tq.dld (i := 0) (w := 3) (n := 1) (v := fl_d b) rfl rfl rfl (fun _ _ _ => rfl) rfl ?_
    refine fl_Tq.dso (i := 3) (w := 3) (n := 1) rfl rfl rfl (fun _ _ _ => rfl) rfl ?_
    refine fl_Tq.stp rfl rfl (fl_bo rfl) rfl ?_
    refine fl_Tq.stp rfl rfl (fl_bo rfl) rfl ?_
    have loop : ∀ (d n : Nat) (x : UInt64) (e : Int32), n + d = 64 → vf_n64 x → fl_Tq (pw_P L xs) 181 15 [some (fl_d b), none, some (.inl e), some (fl_d x), none, some (.inl (Int32.ofNat n)), none] [] m Q := by
      intro d
      induction d with
      | zero =>
        intro n x e hn hx
        have hn : n = 64 := by omega
        subst hn
        refine fl_Tq.stp rfl rfl (fl_bo rfl) rfl ?_
        refine fl_Tq.stp rfl rfl (fl_bo rfl) rfl ?_
        refine fl_Tq.jt rfl (fl_bo rfl) (by decide +kernel) rfl ?_
        exact tail x e _ hx
      | succ d ih =>
        intro n x e hn hx
        have en := at_ofN (k := n) (by omega)
        refine fl_Tq.stp rfl rfl (fl_bo rfl) rfl ?_
        refine fl_Tq.stp rfl rfl (fl_bo rfl) rfl ?_
        refine fl_Tq.jf rfl (fl_bo rfl) ?_ rfl ?_
        · rw [at_c2, en]
          exact decide_eq_false (by show ¬ (0 ≤ (n : Int) - (64 : Int)); omega)
        refine fl_Tq.dld (i := 3) (w := 3) (n := 1) (v := fl_d x) rfl rfl rfl (fun _ _ _ => rfl) rfl ?_
        refine fl_Tq.psh (n := 1) (v := fl_d 0x3ff0000000000000) rfl rfl rfl (fun _ _ _ => rfl) ?_
        refine fl_Tq.bi (u := .inl (Op.cmpValue (FP.dcmp x 0x3ff0000000000000) .g)) rfl rfl rfl (fun _ _ _ => rfl) ?_
        cases hc : am_c1 .ge (Op.cmpValue (FP.dcmp x 0x3ff0000000000000) .g) with
        | true =>
          refine fl_Tq.zt rfl (fl_bo rfl) hc rfl ?_
          exact tail x e _ hx
        | false =>
          refine fl_Tq.zf rfl (fl_bo rfl) hc rfl ?_
          refine fl_Tq.dld (i := 3) (w := 3) (n := 1) (v := fl_d x) rfl rfl rfl (fun _ _ _ => rfl) rfl ?_
          refine fl_Tq.psh (n := 3) (v := fl_d 0x4000000000000000) rfl rfl rfl (fun _ _ _ => rfl) ?_
          have n2 : vf_n64 (FP.dmul x 0x4000000000000000) := fp_mul64 hx (by decide) (by decide)
          refine fl_Tq.bi (u := fl_d (FP.dmul x 0x4000000000000000)) rfl rfl rfl (fl_dbin (fun _ _ _ => rfl) n2) ?_
          refine fl_Tq.dso (i := 3) (w := 3) (n := 1) rfl rfl rfl (fun _ _ _ => rfl) rfl ?_
          refine fl_Tq.stp rfl rfl (fl_bo rfl) rfl ?_
          refine fl_Tq.stp rfl rfl (fl_bo rfl) rfl ?_
          refine fl_Tq.stp rfl rfl (fl_bo rfl) rfl ?_
          have := ih (n + 1) (FP.dmul x 0x4000000000000000) (e + Int32.ofInt (-1)) (by omega) n2
          rw [← at_inc (by omega)] at this
          exact this
    exact loop 64 0 b (Int32.ofInt 0) (by omega) hb0
end ATFP

end

/-! 89.03.fp2.lean.txt -/
section
/-! ===== the bits of a float; fullness, off ===== -/
section ATF2
variable {L : Nat} {xs : Nat → Int32} {m : fl_M} {Q : Option fl_V → fl_M → Prop}
theorem at_182 {b : UInt32} (hb0 : vf_n32 b) (k : ∀ v : Int32, Q (some (.inl v)) m) : fl_Tq (pw_P L xs) 182 0 (fl_args (am_mxl (pw_P L xs) 182) [fl_f b]) [] m Q := by
  have tail : ∀ (x : UInt32) (e i : Int32), vf_n32 x → fl_Tq (pw_P L xs) 182 66 [some (fl_f b), some (.inl e), some (fl_f x), some (.inl i)] [] m Q := by
    intro x e i hx
    refine fl_Tq.dld (i := 2) (w := 2) (n := 1) (v := fl_f x) rfl rfl rfl (fun _ _ _ => rfl) rfl ?_
    refine fl_Tq.psh (n := 1) (v := fl_f 0x3f800000) rfl rfl rfl (fun _ _ _ => rfl) ?_
    have n1 : vf_n32 (FP.fsub x 0x3f800000) := fp_sub32 hx (by decide) (by decide)
    refine fl_Tq.bi (u := fl_f (FP.fsub x 0x3f800000)) rfl rfl rfl (fl_fbin (fun _ _ _ => rfl) n1) ?_
    refine fl_Tq.psh (n := 3) (v := fl_f 0x4b000000) rfl rfl rfl (fun _ _ _ => rfl) ?_
    have n2 : vf_n32 (FP.fmul (FP.fsub x 0x3f800000) 0x4b000000) := fp_mul32 n1 (by decide) (by decide)
    refine fl_Tq.bi (u := fl_f (FP.fmul (FP.fsub x 0x3f800000) 0x4b000000)) rfl rfl rfl (fl_fbin (fun _ _ _ => rfl) n2) ?_
    refine fl_Tq.un (w := .inl (FP.f2i (FP.fmul (FP.fsub x 0x3f800000) 0x4b000000))) rfl rfl rfl (fun _ _ _ => rfl) ?_
    refine fl_Tq.stp rfl rfl (fl_bo rfl) rfl ?_
    refine fl_Tq.stp rfl rfl (fl_bo rfl) rfl ?_
    refine fl_Tq.stp rfl rfl (fl_bo rfl) rfl ?_
    refine fl_Tq.stp rfl rfl (fl_bo rfl) rfl ?_
    refine fl_Tq.stp rfl rfl (fl_bo rfl) rfl ?_
    refine fl_Tq.stp rfl rfl (fl_bo rfl) rfl ?_
    refine fl_Tq.stp rfl rfl (fl_bo rfl) rfl ?_
    refine fl_Tq.stp rfl rfl (fl_bo rfl) rfl ?_
    exact fl_Tq.ret rfl rfl rfl (k _)
  have down : ∀ (d n : Nat) (x : UInt32) (e : Int32), n + d = 32 → vf_n32 x → fl_Tq (pw_P L xs) 182 41 [some (fl_f b), some (.inl e), some (fl_f x), some (.inl (Int32.ofNat n))] [] m Q := by
    intro d
    induction d with
    | zero =>
      intro n x e hn hx
      have hn : n = 32 := by omega
      subst hn
      refine fl_Tq.stp rfl rfl (fl_bo rfl) rfl ?_
      refine fl_Tq.stp rfl rfl (fl_bo rfl) rfl ?_
      refine fl_Tq.jt rfl (fl_bo rfl) (by decide +kernel) rfl ?_
      exact tail x e _ hx
    | succ d ih =>
      intro n x e hn hx
      have en := at_ofN (k := n) (by omega)
      refine fl_Tq.stp rfl rfl (fl_bo rfl) rfl ?_
      refine fl_Tq.stp rfl rfl (fl_bo rfl) rfl ?_
      refine fl_Tq.jf rfl (fl_bo rfl) ?_ rfl ?_
      · rw [at_c2, en]
        exact decide_eq_false (by show ¬ (0 ≤ (n : Int) - (32 : Int)); omega)
      refine fl_Tq.dld (i := 2) (w := 2) (n := 1) (v := fl_f x) rfl rfl rfl (fun _ _ _ => rfl) rfl ?_
      refine fl_Tq.psh (n := 1) (v := fl_f 0x40000000) rfl rfl rfl (fun _ _ _ => rfl) ?_
      refine fl_Tq.bi (u := .inl (Op.cmpValue (FP.fcmp x 0x40000000) .l)) rfl rfl rfl (fun _ _ _ => rfl) ?_
      cases hc : am_c1 .lt (Op.cmpValue (FP.fcmp x 0x40000000) .l) with
      | true =>
        refine fl_Tq.zt rfl (fl_bo rfl) hc rfl ?_
        exact tail x e _ hx
      | false =>
        refine fl_Tq.zf rfl (fl_bo rfl) hc rfl ?_
        refine fl_Tq.dld (i := 2) (w := 2) (n := 1) (v := fl_f x) rfl rfl rfl (fun _ _ _ => rfl) rfl ?_
        refine fl_Tq.psh (n := 1) (v := fl_f 0x40000000) rfl rfl rfl (fun _ _ _ => rfl) ?_
        have n2 : vf_n32 (FP.fdiv x 0x40000000) := fp_div32 hx (by decide) (by decide)
        refine fl_Tq.bi (u := fl_f (FP.fdiv x 0x40000000)) rfl rfl rfl (fl_fbin (fun _ _ _ => rfl) n2) ?_
        refine fl_Tq.dso (i := 2) (w := 2) (n := 1) rfl rfl rfl (fun _ _ _ => rfl) rfl ?_
        refine fl_Tq.stp rfl rfl (fl_bo rfl) rfl ?_
        refine fl_Tq.stp rfl rfl (fl_bo rfl) rfl ?_
        refine fl_Tq.stp rfl rfl (fl_bo rfl) rfl ?_
        have := ih (n + 1) (FP.fdiv x 0x40000000) (e + Int32.ofInt 1) (by omega) n2
        rw [← at_inc (by omega)] at this
        exact this
  refine fl_Tq.dld (i := 0) (w := 2) (n := 1) (v := fl_f b) rfl rfl rfl (fun _ _ _ => rfl) rfl ?_
  refine fl_Tq.psh (n := 1) (v := fl_f 0) rfl rfl rfl (fun _ _ _ => rfl) ?_
  refine fl_Tq.bi (u := .inl (Op.cmpValue (FP.fcmp b 0) .g)) rfl rfl rfl (fun _ _ _ => rfl) ?_
  cases hb : am_c1 .gt (Op.cmpValue (FP.fcmp b 0) .g) with
  | false =>
    refine fl_Tq.zf rfl (fl_bo rfl) hb rfl ?_
    refine fl_Tq.stp rfl rfl (fl_bo rfl) rfl ?_
    exact fl_Tq.ret rfl rfl rfl (k _)
  | true =>
    refine fl_Tq.zt rfl (fl_bo rfl) hb rfl ?_
    refine fl_Tq.stp rfl rfl (fl_bo rfl) rfl ?_
    refine fl_Tq.stp rfl rfl (fl_bo rfl) rfl ?_
    refine fl_Tq.dld (i := 0) (w := 2) (n := 1) (v := fl_f b) rfl rfl rfl (fun _ _ _ => rfl) rfl ?_
    refine fl_Tq.dso (i := 2) (w := 2) (n := 1) rfl rfl rfl (fun _ _ _ => rfl) rfl ?_
    refine fl_Tq.stp rfl rfl (fl_bo rfl) rfl ?_
    refine fl_Tq.stp rfl rfl (fl_bo rfl) rfl ?_
    have loop : ∀ (d n : Nat) (x : UInt32) (e : Int32), n + d = 32 → vf_n32 x → fl_Tq (pw_P L xs) 182 14 [some (fl_f b), some (.inl e), some (fl_f x), some (.inl (Int32.ofNat n))] [] m Q := by
      intro d
      induction d with
      | zero =>
        intro n x e hn hx
        have hn : n = 32 := by omega
        subst hn
        refine fl_Tq.stp rfl rfl (fl_bo rfl) rfl ?_
        refine fl_Tq.stp rfl rfl (fl_bo rfl) rfl ?_
        refine fl_Tq.jt rfl (fl_bo rfl) (by decide +kernel) rfl ?_
        refine fl_Tq.stp rfl rfl (fl_bo rfl) rfl ?_
        refine fl_Tq.stp rfl rfl (fl_bo rfl) rfl ?_
        exact down 32 0 x e (by omega) hx
      | succ d ih =>
        intro n x e hn hx
        have en := at_ofN (k := n) (by omega)
        refine fl_Tq.stp rfl rfl (fl_bo rfl) rfl ?_
        refine fl_Tq.stp rfl rfl (fl_bo rfl) rfl ?_
        refine fl_Tq.jf rfl (fl_bo rfl) ?_ rfl ?_
        · rw [at_c2, en]
          exact decide_eq_false (by show ¬ (0 ≤ (n : Int) - (32 : Int)); omega)
        refine fl_Tq.dld (i := 2) (w := 2) (n := 1) (v := fl_f x) rfl rfl rfl (fun _ _ _ => rfl) rfl ?_
        refine fl_Tq.psh (n := 1) (v := fl_f 0x3f800000) rfl rfl rfl (fun _ _ _ => rfl) ?_
        refine fl_Tq.bi (u := .inl (Op.cmpValue (FP.fcmp x 0x3f800000) .g)) rfl rfl rfl (fun _ _ _ => rfl) ?_
        cases hc : am_c1 .ge (Op.cmpValue (FP.fcmp x 0x3f800000) .g) with
        | true =>
          refine fl_Tq.zt rfl (fl_bo rfl) hc rfl ?_
          refine fl_Tq.stp rfl rfl (fl_bo rfl) rfl ?_
          refine fl_Tq.stp rfl rfl (fl_bo rfl) rfl ?_
          exact down 32 0 x e (by omega) hx
        | false =>
          refine fl_Tq.zf rfl (fl_bo rfl) hc rfl ?_
          refine fl_Tq.dld (i := 2) (w := 2) (n := 1) (v := fl_f x) rfl rfl rfl (fun _ _ _ => rfl) rfl ?_
          refine fl_Tq.psh (n := 1) (v := fl_f 0x40000000) rfl rfl rfl (fun _ _ _ => rfl) ?_
          have n2 : vf_n32 (FP.fmul x 0x40000000) := fp_mul32 hx (by decide) (by decide)
          refine fl_Tq.bi (u := fl_f (FP.fmul x 0x40000000)) rfl rfl rfl (fl_fbin (fun _ _ _ => rfl) n2) ?_
          refine fl_Tq.dso (i := 2) (w := 2) (n := 1) rfl rfl rfl (fun _ _ _ => rfl) rfl ?_
          refine fl_Tq.stp rfl rfl (fl_bo rfl) rfl ?_
          refine fl_Tq.stp rfl rfl (fl_bo rfl) rfl ?_
          refine fl_Tq.stp rfl rfl (fl_bo rfl) rfl ?_
          have := ih (n + 1) (FP.fmul x 0x40000000) (e + Int32.ofInt (-1)) (by omega) n2
          rw [← at_inc (by omega)] at this
          exact this
    exact loop 32 0 b (Int32.ofInt 0) (by omega) hb0
end ATF2

end

/-! 89.04.full.lean.txt -/
section
/-! ===== fullness, off: by hand, the sums by the looker ===== -/
theorem at_vok {L : Nat} {xs : Nat → Int32} {c : at_C} (e : at_chk [] at_JT 4000 c = true) : at_Valid at_XI (pw_P L xs) c := at_chk_ok at_XI_XX (fun m h => by have := h.h40; omega) (fun c hc => by cases hc) e
theorem at_MD.rf {m : fl_M} {w : List at_W} : at_MD m m w := ⟨Nat.le_refl _, fun p j h => absurd rfl h⟩
theorem at_MD.tr {m0 m1 m2 : fl_M} {w : List at_W} (h1 : at_MD m0 m1 w) (h2 : at_MD m1 m2 w) : at_MD m0 m2 w := by
  refine ⟨Nat.le_trans h1.1 h2.1, fun p j hne => ?_⟩
  by_cases e : m2.1 p j = m1.1 p j
  · exact h1.2 p j (by rw [← e]; exact hne)
  · exact h2.2 p j e
theorem at_MD.wk {m0 m1 : fl_M} {w w' : List at_W} (h : at_MD m0 m1 w) (hs : ∀ x ∈ w, x ∈ w') : at_MD m0 m1 w' :=
  ⟨h.1, fun p j hne => by obtain ⟨x, hx, hc⟩ := h.2 p j hne; exact ⟨x, hs x hx, hc⟩⟩
theorem at_MD.same {m0 m1 : fl_M} (h : at_MD m0 m1 []) : m1.1 = m0.1 := by
  funext p j
  by_cases e : m1.1 p j = m0.1 p j
  · exact e
  · obtain ⟨x, hx, -⟩ := h.2 p j e
    cases hx
def at_kI : at_K := .inr (false, -2147483648, 2147483647)
def at_rI : Option (Nat ⊕ (Bool × Int × Int)) := some (.inr (false, -2147483648, 2147483647))
def at_rJ : Option (Nat ⊕ (Bool × Int × Int)) := some (.inr (true, -9223372036854775808, 9223372036854775807))
def at_cGet : at_C := (193, [.inl (76, some 277), .inr (false, 0, 15), .inr (false, 0, 60)], [], at_rI, false, [])
def at_cFull : at_C := (195, [.inl (76, some 277), .inr (false, 0, 15)], [], at_rI, false, [])
def at_cPAt : at_C := (196, [.inl (76, some 277), .inr (false, 0, 15), at_kI], [(1, 0)], at_rI, false, [])
def at_cPOf : at_C := (197, [.inl (76, some 277), .inr (false, 0, 15)], [(1, 0)], at_rI, false, [])
def at_cSize : at_C := (188, [at_kI], [], at_rI, false, [])
def at_cAF : at_C := (43, [.inl (1, some 1)], [], at_rJ, false, [])
def at_cAC : at_C := (42, [.inl (1, some 1)], [], at_rJ, false, [])
def at_cRP : at_C := (7, [.inl (18, none)], [], at_rI, false, [])
def at_cAbs : at_C := (333, [at_kI], [], at_rI, false, [])
set_option maxRecDepth 1000000 in
theorem at_cGet_k : at_chk [] at_JT 4000 at_cGet = true := by decide +kernel
set_option maxRecDepth 1000000 in
theorem at_cFull_k : at_chk [] at_JT 4000 at_cFull = true := by decide +kernel
set_option maxRecDepth 1000000 in
theorem at_cPAt_k : at_chk [] at_JT 4000 at_cPAt = true := by decide +kernel
set_option maxRecDepth 1000000 in
theorem at_cPOf_k : at_chk [] at_JT 4000 at_cPOf = true := by decide +kernel
set_option maxRecDepth 1000000 in
theorem at_cSize_k : at_chk [] at_JT 4000 at_cSize = true := by decide +kernel
set_option maxRecDepth 1000000 in
theorem at_cAF_k : at_chk [] at_JT 4000 at_cAF = true := by decide +kernel
set_option maxRecDepth 1000000 in
theorem at_cAC_k : at_chk [] at_JT 4000 at_cAC = true := by decide +kernel
set_option maxRecDepth 1000000 in
theorem at_cRP_k : at_chk [] at_JT 4000 at_cRP = true := by decide +kernel
set_option maxRecDepth 1000000 in
theorem at_cAbs_k : at_chk [] at_JT 4000 at_cAbs = true := by decide +kernel
theorem at_k277 (h : Nat) : ∃ p, (at_this : fl_V) = .inr (.inr (.inl (76, p))) ∧ fk_K p = 76 ∧ p < fl_N h ∧ ∀ q, some 277 = some q → p = q := ⟨277, rfl, by decide +kernel, by unfold fl_N; omega, fun q h => by cases h; rfl⟩
theorem at_kint (h : Nat) {x : Int32} : at_agk h [at_kI] [.inl x] := ⟨⟨x, rfl, (at_i32 x).1, (at_i32 x).2⟩, True.intro⟩
section ATFL
variable {L : Nat} {xs : Nat → Int32}
theorem at_v156 : at_Valid at_XI (pw_P L xs) (156, [.inl (0, some 0)], [], some (.inr (true, -9223372036854775808, 9223372036854775807)), false, []) := by
  intro m vs hg hk _
  cases vs with
  | nil => cases hk
  | cons v r =>
  obtain ⟨⟨p, rfl, e1, e2, e3⟩, hr⟩ := hk
  have e4 := e3 0 rfl
  subst e4
  have hr0 := at_agnil (vs := r) hr
  subst hr0
  have k1 : ∀ h : Nat, at_agk h [.inl (1, some 1)] [.inr (.inr (.inl (1, 1)))] := fun h => ⟨⟨1, rfl, by decide +kernel, by unfold fl_N; omega, fun q h => by cases h; rfl⟩, True.intro⟩
  refine fl_Tq.stp rfl rfl (fl_bo rfl) rfl ?_
  refine fl_Tq.stp rfl rfl (fl_bo rfl) rfl ?_
  refine fl_Tq.cal rfl rfl (fl_bo rfl) rfl ?_
  refine fl_Tq.mono (at_vok at_cAF_k m [.inr (.inr (.inl (1, 1)))] hg (k1 _) (fun q hq => by cases hq)) (fun v m1 ⟨hg1, hm1, hv1⟩ => ?_)
  obtain ⟨x, rfl, -⟩ := hv1
  refine fl_Tq.stp rfl rfl (fl_bo rfl) rfl ?_
  refine fl_Tq.stp rfl rfl (fl_bo rfl) rfl ?_
  refine fl_Tq.stp rfl rfl (fl_bo rfl) rfl ?_
  refine fl_Tq.stp rfl rfl (fl_bo rfl) rfl ?_
  cases hb : am_c1 .ne (lg_cmp x 0) with
  | false =>
    refine fl_Tq.zf rfl (fl_bo rfl) hb rfl ?_
    refine fl_Tq.stp rfl rfl (fl_bo rfl) rfl ?_
    exact fl_Tq.ret rfl rfl rfl ⟨hg1, hm1, ⟨0, rfl, by decide, by decide, fun h => by cases h⟩⟩
  | true =>
    have hx : x ≠ 0 := fun h => by rw [h] at hb; exact absurd hb (by decide)
    refine fl_Tq.zt rfl (fl_bo rfl) hb rfl ?_
    refine fl_Tq.stp rfl rfl (fl_bo rfl) rfl ?_
    refine fl_Tq.stp rfl rfl (fl_bo rfl) rfl ?_
    refine fl_Tq.cal rfl rfl (fl_bo rfl) rfl ?_
    refine fl_Tq.mono (at_vok at_cAC_k m1 [.inr (.inr (.inl (1, 1)))] hg1 (k1 _) (fun q hq => by cases hq)) (fun v m2 ⟨hg2, hm2, hv2⟩ => ?_)
    obtain ⟨y, rfl, -⟩ := hv2
    refine fl_Tq.un (w := fl_d (FP.l2d y)) rfl rfl rfl (fun _ _ _ => rfl) ?_
    refine fl_Tq.stp rfl rfl (fl_bo rfl) rfl ?_
    refine fl_Tq.un (w := fl_d (FP.l2d x)) rfl rfl rfl (fun _ _ _ => rfl) ?_
    have nn : vf_n64 (FP.ddiv (FP.l2d y) (FP.l2d x)) := fp_div64 (fp_of_int64 y).1 ((fp_of_int64 x).2 hx).1 ((fp_of_int64 x).2 hx).2
    refine fl_Tq.bi (u := fl_d (FP.ddiv (FP.l2d y) (FP.l2d x))) rfl rfl rfl (fl_dbin (fun _ _ _ => rfl) nn) ?_
    refine fl_Tq.cal rfl rfl (fl_bo rfl) rfl ?_
    refine at_181 nn (fun z => ?_)
    refine fl_Tq.ret rfl rfl rfl ⟨hg2, hm1.tr hm2, ⟨z, rfl, ?_, ?_, fun h => by cases h⟩⟩
    · exact Int64.le_toInt z
    · have := Int64.toInt_lt z; omega
theorem at_v292 : at_Valid at_XI (pw_P L xs) (292, [.inl (76, some 277)], [], some (.inr (true, -9223372036854775808, 9223372036854775807)), false, []) := by
  intro m vs hg hk _
  obtain ⟨r, rfl, hk2⟩ := at_ag277 hk
  have hr0 := at_agnil (vs := r) hk2
  subst hr0
  have w2 : 0 ≤ (m.1 280 2).toInt ∧ (m.1 280 2).toInt ≤ 16 := hg.w2
  refine fl_Tq.stp rfl rfl (fl_bo rfl) rfl ?_
  refine fl_Tq.stp rfl rfl (fl_bo rfl) rfl ?_
  refine fl_Tq.stp rfl rfl (fl_bo rfl) rfl ?_
  refine fl_Tq.stp rfl rfl (fl_bo rfl) rfl ?_
  refine fl_Tq.stp rfl rfl (fl_bo rfl) rfl ?_
  refine fl_Tq.stp rfl rfl (fl_bo rfl) rfl ?_
  have loop : ∀ (d n : Nat) (s a : Int64) (m1 : fl_M), ((n + d : Nat) : Int) = (m.1 280 2).toInt → at_Good at_XI m1 → at_MD m m1 [] → fl_Tq (pw_P L xs) 292 7 [some at_this, some (fl_j s), none, some (fl_j a), none, some (.inl (Int32.ofNat n))] [] m1 (fun v m' => at_Good at_XI m' ∧ at_MD m m' [] ∧ at_rtc at_rJ false m' v) := by
    intro d
    induction d with
    | zero =>
      intro n s a m1 hn hg1 hm1
      have en := at_ofN (k := n) (by omega)
      refine fl_Tq.stp rfl rfl (fl_bo rfl) rfl ?_
      refine fl_Tq.stp rfl rfl (fl_bo rfl) rfl ?_
      refine fl_Tq.stp rfl rfl (fl_bo rfl) rfl ?_
      refine fl_Tq.stp rfl rfl (fl_bo rfl) rfl ?_
      refine fl_Tq.ld (p := 280) (τ := 79) (n := 29780) (z := (0, 0, 0)) (k := 2) rfl (fl_bo rfl) rfl rfl (by decide) ?_
      rw [hm1.same]
      refine fl_Tq.jt rfl (fl_bo rfl) ?_ rfl ?_
      · rw [at_c2, en]
        exact decide_eq_true (by omega)
      refine fl_Tq.stp rfl rfl (fl_bo rfl) rfl ?_
      refine fl_Tq.stp rfl rfl (fl_bo rfl) rfl ?_
      refine fl_Tq.stp rfl rfl (fl_bo rfl) rfl ?_
      cases hb : am_c1 .ne (lg_cmp a 0) with
      | false =>
        refine fl_Tq.zf rfl (fl_bo rfl) hb rfl ?_
        refine fl_Tq.stp rfl rfl (fl_bo rfl) rfl ?_
        refine fl_Tq.stp rfl rfl (fl_bo rfl) rfl ?_
        exact fl_Tq.ret rfl rfl rfl ⟨hg1, hm1, ⟨0, rfl, by decide, by decide, fun h => by cases h⟩⟩
      | true =>
        have hx : a ≠ 0 := fun h => by rw [h] at hb; exact absurd hb (by decide)
        refine fl_Tq.zt rfl (fl_bo rfl) hb rfl ?_
        refine fl_Tq.stp rfl rfl (fl_bo rfl) rfl ?_
        refine fl_Tq.un (w := fl_d (FP.l2d s)) rfl rfl rfl (fun _ _ _ => rfl) ?_
        refine fl_Tq.stp rfl rfl (fl_bo rfl) rfl ?_
        refine fl_Tq.un (w := fl_d (FP.l2d a)) rfl rfl rfl (fun _ _ _ => rfl) ?_
        have nn : vf_n64 (FP.ddiv (FP.l2d s) (FP.l2d a)) := fp_div64 (fp_of_int64 s).1 ((fp_of_int64 a).2 hx).1 ((fp_of_int64 a).2 hx).2
        refine fl_Tq.bi (u := fl_d (FP.ddiv (FP.l2d s) (FP.l2d a))) rfl rfl rfl (fl_dbin (fun _ _ _ => rfl) nn) ?_
        refine fl_Tq.cal rfl rfl (fl_bo rfl) rfl ?_
        refine at_327 (fun z => ?_)
        refine fl_Tq.ret rfl rfl rfl ⟨hg1, hm1, ⟨z, rfl, ?_, ?_, fun h => by cases h⟩⟩
        · exact Int64.le_toInt z
        · have := Int64.toInt_lt z; omega
    | succ d ih =>
      intro n s a m1 hn hg1 hm1
      have en := at_ofN (k := n) (by omega)
      refine fl_Tq.stp rfl rfl (fl_bo rfl) rfl ?_
      refine fl_Tq.stp rfl rfl (fl_bo rfl) rfl ?_
      refine fl_Tq.stp rfl rfl (fl_bo rfl) rfl ?_
      refine fl_Tq.stp rfl rfl (fl_bo rfl) rfl ?_
      refine fl_Tq.ld (p := 280) (τ := 79) (n := 29780) (z := (0, 0, 0)) (k := 2) rfl (fl_bo rfl) rfl rfl (by decide) ?_
      rw [hm1.same]
      refine fl_Tq.jf rfl (fl_bo rfl) ?_ rfl ?_
      · rw [at_c2, en]
        exact decide_eq_false (by omega)
      refine fl_Tq.stp rfl rfl (fl_bo rfl) rfl ?_
      refine fl_Tq.stp rfl rfl (fl_bo rfl) rfl ?_
      refine fl_Tq.stp rfl rfl (fl_bo rfl) rfl ?_
      refine fl_Tq.stp rfl rfl (fl_bo rfl) rfl ?_
      refine fl_Tq.cal rfl rfl (fl_bo rfl) rfl ?_
      refine fl_Tq.mono (at_vok at_cGet_k m1 [at_this, .inl (Int32.ofNat n), .inl (Int32.ofInt 1)] hg1 ⟨at_k277 _, ⟨_, rfl, by omega, by omega⟩, ⟨_, rfl, by decide, by decide⟩, True.intro⟩ (fun q hq => by cases hq)) (fun v m2 ⟨hg2, hm2, hv2⟩ => ?_)
      obtain ⟨x, rfl, -⟩ := hv2
      refine fl_Tq.stp rfl rfl (fl_bo rfl) rfl ?_
      refine fl_Tq.stp rfl rfl (fl_bo rfl) rfl ?_
      refine fl_Tq.stp rfl rfl (fl_bo rfl) rfl ?_
      refine fl_Tq.stp rfl rfl (fl_bo rfl) rfl ?_
      refine fl_Tq.stp rfl rfl (fl_bo rfl) rfl ?_
      refine fl_Tq.stp rfl rfl (fl_bo rfl) rfl ?_
      refine fl_Tq.cal rfl rfl (fl_bo rfl) rfl ?_
      refine fl_Tq.mono (at_vok at_cFull_k m2 [at_this, .inl (Int32.ofNat n)] hg2 ⟨at_k277 _, ⟨_, rfl, by omega, by omega⟩, True.intro⟩ (fun q hq => by cases hq)) (fun v m3 ⟨hg3, hm3, hv3⟩ => ?_)
      obtain ⟨y, rfl, -⟩ := hv3
      refine fl_Tq.stp rfl rfl (fl_bo rfl) rfl ?_
      refine fl_Tq.stp rfl rfl (fl_bo rfl) rfl ?_
      refine fl_Tq.stp rfl rfl (fl_bo rfl) rfl ?_
      refine fl_Tq.stp rfl rfl (fl_bo rfl) rfl ?_
      refine fl_Tq.stp rfl rfl (fl_bo rfl) rfl ?_
      have := ih (n + 1) (s + x.toInt64) (a + y.toInt64) m3 (by omega) hg3 ((hm1.tr hm2).tr hm3)
      rw [← at_inc (by omega)] at this
      exact this
  exact loop (m.1 280 2).toInt.toNat 0 0 0 m (by omega) hg at_MD.rf
theorem at_v293 : at_Valid at_XI (pw_P L xs) (293, [.inl (76, some 277)], [], some (.inr (false, -2147483648, 2147483647)), false, []) := by
  intro m vs hg hk _
  obtain ⟨r, rfl, hk2⟩ := at_ag277 hk
  have hr0 := at_agnil (vs := r) hk2
  subst hr0
  have w2 : 0 ≤ (m.1 280 2).toInt ∧ (m.1 280 2).toInt ≤ 16 := hg.w2
  refine fl_Tq.stp rfl rfl (fl_bo rfl) rfl ?_
  refine fl_Tq.stp rfl rfl (fl_bo rfl) rfl ?_
  refine fl_Tq.stp rfl rfl (fl_bo rfl) rfl ?_
  refine fl_Tq.stp rfl rfl (fl_bo rfl) rfl ?_
  have loop : ∀ (d n : Nat) (s : Int32) (m1 : fl_M), ((n + d : Nat) : Int) = (m.1 280 2).toInt → at_Good at_XI m1 → at_MD m m1 [] → fl_Tq (pw_P L xs) 293 4 [some at_this, some (.inl s), some (.inl (Int32.ofNat n))] [] m1 (fun v m' => at_Good at_XI m' ∧ at_MD m m' [] ∧ at_rtc at_rI false m' v) := by
    intro d
    induction d with
    | zero =>
      intro n s m1 hn hg1 hm1
      have en := at_ofN (k := n) (by omega)
      refine fl_Tq.stp rfl rfl (fl_bo rfl) rfl ?_
      refine fl_Tq.stp rfl rfl (fl_bo rfl) rfl ?_
      refine fl_Tq.stp rfl rfl (fl_bo rfl) rfl ?_
      refine fl_Tq.stp rfl rfl (fl_bo rfl) rfl ?_
      refine fl_Tq.ld (p := 280) (τ := 79) (n := 29780) (z := (0, 0, 0)) (k := 2) rfl (fl_bo rfl) rfl rfl (by decide) ?_
      rw [hm1.same]
      refine fl_Tq.jt rfl (fl_bo rfl) ?_ rfl ?_
      · rw [at_c2, en]
        exact decide_eq_true (by omega)
      refine fl_Tq.stp rfl rfl (fl_bo rfl) rfl ?_
      refine fl_Tq.stp rfl rfl (fl_bo rfl) rfl ?_
      refine fl_Tq.stp rfl rfl (fl_bo rfl) rfl ?_
      refine fl_Tq.ld (p := 280) (τ := 79) (n := 29780) (z := (0, 0, 0)) (k := 2) rfl (fl_bo rfl) rfl rfl (by decide) ?_
      rw [hm1.same]
      cases hb : am_c1 .ne (m.1 280 2) with
      | false =>
        refine fl_Tq.zf rfl (fl_bo rfl) hb rfl ?_
        refine fl_Tq.stp rfl rfl (fl_bo rfl) rfl ?_
        refine fl_Tq.stp rfl rfl (fl_bo rfl) rfl ?_
        exact fl_Tq.ret rfl rfl rfl ⟨hg1, hm1, ⟨_, rfl, (at_i32 _).1, (at_i32 _).2, fun h => by cases h⟩⟩
      | true =>
        have hx : m.1 280 2 ≠ 0 := fun h => by rw [h] at hb; exact absurd hb (by decide)
        refine fl_Tq.zt rfl (fl_bo rfl) hb rfl ?_
        refine fl_Tq.stp rfl rfl (fl_bo rfl) rfl ?_
        refine fl_Tq.un (w := fl_f (FP.i2f s)) rfl rfl rfl (fun _ _ _ => rfl) ?_
        refine fl_Tq.stp rfl rfl (fl_bo rfl) rfl ?_
        refine fl_Tq.stp rfl rfl (fl_bo rfl) rfl ?_
        refine fl_Tq.stp rfl rfl (fl_bo rfl) rfl ?_
        refine fl_Tq.ld (p := 280) (τ := 79) (n := 29780) (z := (0, 0, 0)) (k := 2) rfl (fl_bo rfl) rfl rfl (by decide) ?_
        rw [hm1.same]
        refine fl_Tq.un (w := fl_f (FP.i2f (m.1 280 2))) rfl rfl rfl (fun _ _ _ => rfl) ?_
        have nn : vf_n32 (FP.fdiv (FP.i2f s) (FP.i2f (m.1 280 2))) := fp_div32 (fp_of_int32 s).1 ((fp_of_int32 _).2 hx).1 ((fp_of_int32 _).2 hx).2
        refine fl_Tq.bi (u := fl_f (FP.fdiv (FP.i2f s) (FP.i2f (m.1 280 2)))) rfl rfl rfl (fl_fbin (fun _ _ _ => rfl) nn) ?_
        refine fl_Tq.cal rfl rfl (fl_bo rfl) rfl ?_
        refine at_329 (fun z => ?_)
        exact fl_Tq.ret rfl rfl rfl ⟨hg1, hm1, ⟨z, rfl, (at_i32 _).1, (at_i32 _).2, fun h => by cases h⟩⟩
    | succ d ih =>
      intro n s m1 hn hg1 hm1
      have en := at_ofN (k := n) (by omega)
      have lt : ∀ m' : fl_M, m'.1 = m.1 → (Int32.ofNat n).toInt + 0 + 1 ≤ at_w m' 2 := fun m' e => by
        unfold at_w
        rw [e, en]
        omega
      refine fl_Tq.stp rfl rfl (fl_bo rfl) rfl ?_
      refine fl_Tq.stp rfl rfl (fl_bo rfl) rfl ?_
      refine fl_Tq.stp rfl rfl (fl_bo rfl) rfl ?_
      refine fl_Tq.stp rfl rfl (fl_bo rfl) rfl ?_
      refine fl_Tq.ld (p := 280) (τ := 79) (n := 29780) (z := (0, 0, 0)) (k := 2) rfl (fl_bo rfl) rfl rfl (by decide) ?_
      rw [hm1.same]
      refine fl_Tq.jf rfl (fl_bo rfl) ?_ rfl ?_
      · rw [at_c2, en]
        exact decide_eq_false (by omega)
      refine fl_Tq.stp rfl rfl (fl_bo rfl) rfl ?_
      refine fl_Tq.stp rfl rfl (fl_bo rfl) rfl ?_
      refine fl_Tq.stp rfl rfl (fl_bo rfl) rfl ?_
      refine fl_Tq.stp rfl rfl (fl_bo rfl) rfl ?_
      refine fl_Tq.stp rfl rfl (fl_bo rfl) rfl ?_
      refine fl_Tq.stp rfl rfl (fl_bo rfl) rfl ?_
      refine fl_Tq.cal rfl rfl (fl_bo rfl) rfl ?_
      refine fl_Tq.mono (at_vok at_cGet_k m1 [at_this, .inl (Int32.ofNat n), .inl (Int32.ofInt 4)] hg1 ⟨at_k277 _, ⟨_, rfl, by omega, by omega⟩, ⟨_, rfl, by decide, by decide⟩, True.intro⟩ (fun q hq => by cases hq)) (fun v m2 ⟨hg2, hm2, hv2⟩ => ?_)
      obtain ⟨x, rfl, -⟩ := hv2
      have s2 := (hm1.tr hm2).same
      refine fl_Tq.cal rfl rfl (fl_bo rfl) rfl ?_
      refine fl_Tq.mono (at_vok at_cPAt_k m2 [at_this, .inl (Int32.ofNat n), .inl x] hg2 ⟨at_k277 _, ⟨_, rfl, by omega, by omega⟩, at_kint _⟩ (fun q hq => by cases List.mem_singleton.mp hq; exact ⟨_, rfl, lt m2 s2⟩)) (fun v m3 ⟨hg3, hm3, hv3⟩ => ?_)
      obtain ⟨y, rfl, -⟩ := hv3
      have s3 := ((hm1.tr hm2).tr hm3).same
      refine fl_Tq.stp rfl rfl (fl_bo rfl) rfl ?_
      refine fl_Tq.stp rfl rfl (fl_bo rfl) rfl ?_
      refine fl_Tq.cal rfl rfl (fl_bo rfl) rfl ?_
      refine fl_Tq.mono (at_vok at_cPOf_k m3 [at_this, .inl (Int32.ofNat n)] hg3 ⟨at_k277 _, ⟨_, rfl, by omega, by omega⟩, True.intro⟩ (fun q hq => by cases List.mem_singleton.mp hq; exact ⟨_, rfl, lt m3 s3⟩)) (fun v m4 ⟨hg4, hm4, hv4⟩ => ?_)
      obtain ⟨z, rfl, -⟩ := hv4
      refine fl_Tq.stp rfl rfl (fl_bo rfl) rfl ?_
      refine fl_Tq.cal rfl rfl (fl_bo rfl) rfl ?_
      refine fl_Tq.mono (at_vok at_cSize_k m4 [.inl (y - z)] hg4 (at_kint _) (fun q hq => by cases hq)) (fun v m5 ⟨hg5, hm5, hv5⟩ => ?_)
      obtain ⟨u, rfl, -⟩ := hv5
      refine fl_Tq.stp rfl rfl (fl_bo rfl) rfl ?_
      refine fl_Tq.stp rfl rfl (fl_bo rfl) rfl ?_
      refine fl_Tq.stp rfl rfl (fl_bo rfl) rfl ?_
      refine fl_Tq.stp rfl rfl (fl_bo rfl) rfl ?_
      have := ih (n + 1) (s + u) m5 (by omega) hg5 ((((hm1.tr hm2).tr hm3).tr hm4).tr hm5)
      rw [← at_inc (by omega)] at this
      exact this
  exact loop (m.1 280 2).toInt.toNat 0 0 m (by omega) hg at_MD.rf
end ATFL

end

/-! 89.05.off.lean.txt -/
section
/-! ===== the class's off ===== -/
theorem fl_Tq.qld {P : am_Pg} {mi pc p k : Nat} {lv : fl_L} {r : List fl_V} {m : fl_M} {τ n t b d : Nat} {i : Int32} {Q : Option fl_V → fl_M → Prop} (hc : am_code P mi pc = some .aaload) (hok : ∀ v ∈ (.inl i :: .inr (.inr (.inl (τ, p))) :: r : List fl_V), fl_ok m.2.2 v) (hk : fk_kd τ = .inr (2, n, t, b, d + 1)) (hi : i.toInt = k) (hlt : k < n) (q : fl_Tq P mi (pc + 1) lv (.inr (.inr (.inl (t, p + b + (d + 1) * k))) :: r) m Q) : fl_Tq P mi pc lv (.inl i :: .inr (.inr (.inl (τ, p))) :: r) m Q := by
  refine fl_Tq.stp (pc' := pc + 1) (lv' := lv) (st' := .inr (.inr (.inl (t, p + b + (d + 1) * k))) :: r) (m' := m) hc rfl hok ?_ q
  obtain ⟨h1, h2⟩ := at_in_ok (i := i) (n := n) (by omega) (by omega)
  have h3 : i.toNatClampNeg = k := by omega
  show ((match fk_kd τ with
    | .inr (t, n, τ', b, d) => bif decide (2 ≤ t ∧ t < 5) && (decide (d ≠ 0) && am_in i n) then some (pc + 1, lv, .inr (.inr (.inl (τ', p + b + d * i.toNatClampNeg))) :: r, m) else none
    | _ => none) : Option fl_C) = _
  rw [hk]
  show ((bif decide (2 ≤ 2 ∧ 2 < 5) && (decide (d + 1 ≠ 0) && am_in i n) then some (pc + 1, lv, .inr (.inr (.inl (t, p + b + (d + 1) * i.toNatClampNeg))) :: r, m) else none) : Option fl_C) = _
  rw [h1, h3, decide_eq_true (show d + 1 ≠ 0 by omega)]
  rfl
section ATOF
variable {L : Nat} {xs : Nat → Int32}
theorem at_v157 : at_Valid at_XI (pw_P L xs) (157, [.inl (0, some 0)], [], some (.inr (false, -2147483648, 2147483647)), false, []) := by
  intro m vs hg hk _
  cases vs with
  | nil => cases hk
  | cons v r =>
  obtain ⟨⟨p, rfl, e1, e2, e3⟩, hr⟩ := hk
  have e4 := e3 0 rfl
  subst e4
  have hr0 := at_agnil (vs := r) hr
  subst hr0
  have w2 : 0 ≤ (m.1 1 5).toInt ∧ (m.1 1 5).toInt ≤ 16 := by
    refine hg.1 1 (by unfold fl_N; omega) (0, 5, 0, 1, 1, 0, 16) ?_ 5 ⟨0, 0, by decide, by decide, by decide, by decide, by decide⟩
    decide +kernel
  have kc : ∀ n : Nat, n < 16 → fk_K (18 + 4 * n) = 18 := by
    intro n hn
    have : ∀ n : Fin 16, fk_K (18 + 4 * n.val) = 18 := by decide +kernel
    exact this ⟨n, hn⟩
  refine fl_Tq.stp rfl rfl (fl_bo rfl) rfl ?_
  refine fl_Tq.stp rfl rfl (fl_bo rfl) rfl ?_
  refine fl_Tq.stp rfl rfl (fl_bo rfl) rfl ?_
  cases hb : am_c1 .ne (m.1 1 5) with
  | false =>
    refine fl_Tq.zf rfl (fl_bo rfl) hb rfl ?_
    refine fl_Tq.stp rfl rfl (fl_bo rfl) rfl ?_
    exact fl_Tq.ret rfl rfl rfl ⟨hg, at_MD.rf, ⟨_, rfl, (at_i32 _).1, (at_i32 _).2, fun h => by cases h⟩⟩
  | true =>
    have hx : m.1 1 5 ≠ 0 := fun h => by rw [h] at hb; exact absurd hb (by decide)
    refine fl_Tq.zt rfl (fl_bo rfl) hb rfl ?_
    refine fl_Tq.stp rfl rfl (fl_bo rfl) rfl ?_
    refine fl_Tq.stp rfl rfl (fl_bo rfl) rfl ?_
    refine fl_Tq.stp rfl rfl (fl_bo rfl) rfl ?_
    refine fl_Tq.stp rfl rfl (fl_bo rfl) rfl ?_
    have loop : ∀ (d n : Nat) (s : Int32) (m1 : fl_M), ((n + d : Nat) : Int) = (m.1 1 5).toInt → at_Good at_XI m1 → at_MD m m1 [] → fl_Tq (pw_P L xs) 157 16 [some (.inr (.inr (.inl (0, 0)))), some (.inl s), some (.inl (Int32.ofNat n))] [] m1 (fun v m' => at_Good at_XI m' ∧ at_MD m m' [] ∧ at_rtc at_rI false m' v) := by
      intro d
      induction d with
      | zero =>
        intro n s m1 hn hg1 hm1
        have en := at_ofN (k := n) (by omega)
        refine fl_Tq.stp rfl rfl (fl_bo rfl) rfl ?_
        refine fl_Tq.stp rfl rfl (fl_bo rfl) rfl ?_
        refine fl_Tq.stp rfl rfl (fl_bo rfl) rfl ?_
        refine fl_Tq.stp rfl rfl (fl_bo rfl) rfl ?_
        have hw : m1.1 (0 + 1) 5 = m.1 1 5 := by rw [hm1.same]
        refine fl_Tq.jt rfl (fl_bo rfl) ?_ rfl ?_
        · show am_c2 .ge (Int32.ofNat n) (m1.1 (0 + 1) 5) = true
          rw [hw, at_c2, en]
          exact decide_eq_true (by omega)
        refine fl_Tq.stp rfl rfl (fl_bo rfl) rfl ?_
        refine fl_Tq.un (w := fl_f (FP.i2f s)) rfl rfl rfl (fun _ _ _ => rfl) ?_
        refine fl_Tq.stp rfl rfl (fl_bo rfl) rfl ?_
        refine fl_Tq.stp rfl rfl (fl_bo rfl) rfl ?_
        refine fl_Tq.stp rfl rfl (fl_bo rfl) rfl ?_
        refine fl_Tq.un (w := fl_f (FP.i2f (m1.1 (0 + 1) 5))) rfl rfl rfl (fun _ _ _ => rfl) ?_
        have hx' : m1.1 (0 + 1) 5 ≠ 0 := by rw [hw]; exact hx
        have nn : vf_n32 (FP.fdiv (FP.i2f s) (FP.i2f (m1.1 (0 + 1) 5))) := fp_div32 (fp_of_int32 s).1 ((fp_of_int32 _).2 hx').1 ((fp_of_int32 _).2 hx').2
        refine fl_Tq.bi (u := fl_f (FP.fdiv (FP.i2f s) (FP.i2f (m1.1 (0 + 1) 5)))) rfl rfl rfl (fl_fbin (fun _ _ _ => rfl) nn) ?_
        refine fl_Tq.cal rfl rfl (fl_bo rfl) rfl ?_
        refine at_182 nn (fun z => ?_)
        exact fl_Tq.ret rfl rfl rfl ⟨hg1, hm1, ⟨z, rfl, (at_i32 _).1, (at_i32 _).2, fun h => by cases h⟩⟩
      | succ d ih =>
        intro n s m1 hn hg1 hm1
        have en := at_ofN (k := n) (by omega)
        have hn16 : n < 16 := by omega
        refine fl_Tq.stp rfl rfl (fl_bo rfl) rfl ?_
        refine fl_Tq.stp rfl rfl (fl_bo rfl) rfl ?_
        refine fl_Tq.stp rfl rfl (fl_bo rfl) rfl ?_
        refine fl_Tq.stp rfl rfl (fl_bo rfl) rfl ?_
        have hw : m1.1 (0 + 1) 5 = m.1 1 5 := by rw [hm1.same]
        refine fl_Tq.jf rfl (fl_bo rfl) ?_ rfl ?_
        · show am_c2 .ge (Int32.ofNat n) (m1.1 (0 + 1) 5) = false
          rw [hw, at_c2, en]
          exact decide_eq_false (by omega)
        refine fl_Tq.stp rfl rfl (fl_bo rfl) rfl ?_
        refine fl_Tq.stp rfl rfl (fl_bo rfl) rfl ?_
        refine fl_Tq.stp rfl rfl (fl_bo rfl) rfl ?_
        refine fl_Tq.stp rfl rfl (fl_bo rfl) rfl ?_
        refine fl_Tq.stp rfl rfl (fl_bo rfl) rfl ?_
        have kcell : ∀ h : Nat, fl_ok h (.inr (.inr (.inl (18, 2 + 16 + (3 + 1) * n)))) := fun h => ⟨by have := kc n hn16; rw [show 2 + 16 + (3 + 1) * n = 18 + 4 * n by omega]; exact this, by show 2 + 16 + (3 + 1) * n < fl_N h; unfold fl_N; omega⟩
        refine fl_Tq.qld (p := 2) (τ := 2) (n := 16) (t := 18) (b := 16) (d := 3) (k := n) rfl (fl_bo rfl) rfl en hn16 ?_
        refine fl_Tq.cal rfl rfl (fl_oks_ok ⟨kcell _, True.intro, True.intro⟩) rfl ?_
        refine fl_Tq.mono (at_vok at_cRP_k m1 [.inr (.inr (.inl (18, 2 + 16 + (3 + 1) * n)))] hg1 ⟨⟨_, rfl, (kcell m1.2.2).1, (kcell m1.2.2).2, fun q h => by cases h⟩, True.intro⟩ (fun q hq => by cases hq)) (fun v m2 ⟨hg2, hm2, hv2⟩ => ?_)
        obtain ⟨x, rfl, -⟩ := hv2
        refine fl_Tq.stp rfl rfl (fl_bo rfl) rfl ?_
        refine fl_Tq.stp rfl rfl (fl_bo rfl) rfl ?_
        refine fl_Tq.stp rfl rfl (fl_bo rfl) rfl ?_
        refine fl_Tq.stp rfl rfl (fl_bo rfl) rfl ?_
        refine fl_Tq.qld (p := 2) (τ := 2) (n := 16) (t := 18) (b := 16) (d := 3) (k := n) rfl (fl_bo rfl) rfl en hn16 ?_
        refine fl_Tq.stp rfl rfl (fl_oks_ok ⟨kcell _, True.intro, True.intro, True.intro⟩) rfl ?_
        refine fl_Tq.stp rfl rfl (fl_bo rfl) rfl ?_
        refine fl_Tq.cal rfl rfl (fl_bo rfl) rfl ?_
        refine fl_Tq.mono (at_vok at_cAbs_k m2 [.inl (x - m2.1 (2 + 16 + (3 + 1) * n) 3)] hg2 (at_kint _) (fun q hq => by cases hq)) (fun v m3 ⟨hg3, hm3, hv3⟩ => ?_)
        obtain ⟨u, rfl, -⟩ := hv3
        refine fl_Tq.stp rfl rfl (fl_bo rfl) rfl ?_
        refine fl_Tq.stp rfl rfl (fl_bo rfl) rfl ?_
        refine fl_Tq.stp rfl rfl (fl_bo rfl) rfl ?_
        refine fl_Tq.stp rfl rfl (fl_bo rfl) rfl ?_
        have := ih (n + 1) (s + u) m3 (by omega) hg3 ((hm1.tr hm2).tr hm3)
        rw [← at_inc (by omega)] at this
        exact this
    exact loop (m.1 1 5).toInt.toNat 0 0 m (by omega) hg at_MD.rf
end ATOF

end

/-! 89.06.cell.lean.txt -/
section
/-! ===== a cell's words: get, let, its, full, hold ===== -/
theorem at_subw (x y : Int32) : (x - y).toInt = x.toInt - y.toInt ∨ (x.toInt - y.toInt > 2147483647 ∧ (x - y).toInt = x.toInt - y.toInt - 4294967296) ∨ (x.toInt - y.toInt < -2147483648 ∧ (x - y).toInt = x.toInt - y.toInt + 4294967296) := by
  have hx := at_i32 x
  have hy := at_i32 y
  have h : (x - y).toInt = Int.bmod (x.toInt - y.toInt) 4294967296 := Int32.toInt_sub x y
  rw [h, Int.bmod_def]
  split <;> omega
section ATCL
variable {L : Nat} {xs : Nat → Int32} {m : fl_M} {Q : Option fl_V → fl_M → Prop}
theorem at_ix {c w : Nat} {ci wi : Int32} (hc : ci.toInt = c) (hw : wi.toInt = w) (hc2 : c < 16) (hw2 : w < 61) : ((Int16.ofInt 444).toInt32 + (Int8.ofInt 61).toInt32 * ci + wi).toInt = ((444 + 61 * c + w : Nat) : Int) := by
  have e1 : (Int16.ofInt 444).toInt32.toInt = 444 := by decide +kernel
  have e2 : (Int8.ofInt 61).toInt32.toInt = 61 := by decide +kernel
  have e3 : ((Int8.ofInt 61).toInt32 * ci).toInt = 61 * (c : Int) := by rw [at_mul32] <;> rw [e2, hc] <;> omega
  have e4 : ((Int16.ofInt 444).toInt32 + (Int8.ofInt 61).toInt32 * ci).toInt = 444 + 61 * (c : Int) := by rw [at_add32] <;> rw [e1, e3] <;> omega
  rw [at_add32] <;> rw [e4, hw] <;> omega
theorem at_get {c w : Nat} {ci wi : Int32} (hc : ci.toInt = c) (hw : wi.toInt = w) (hc2 : c < 16) (hw2 : w < 61) (k : Q (some (.inl (m.1 280 (444 + 61 * c + w)))) m) : fl_Tq (pw_P L xs) 193 0 (fl_args (am_mxl (pw_P L xs) 193) [at_this, .inl ci, .inl wi]) [] m Q := by
  refine fl_Tq.stp rfl rfl (fl_bo rfl) rfl ?_
  refine fl_Tq.stp rfl rfl (fl_bo rfl) rfl ?_
  refine fl_Tq.stp rfl rfl (fl_bo rfl) rfl ?_
  refine fl_Tq.stp rfl rfl (fl_bo rfl) rfl ?_
  refine fl_Tq.stp rfl rfl (fl_bo rfl) rfl ?_
  refine fl_Tq.stp rfl rfl (fl_bo rfl) rfl ?_
  refine fl_Tq.stp rfl rfl (fl_bo rfl) rfl ?_
  refine fl_Tq.stp rfl rfl (fl_bo rfl) rfl ?_
  refine fl_Tq.stp rfl rfl (fl_bo rfl) rfl ?_
  refine fl_Tq.ld (p := 280) (τ := 79) (n := 29780) (z := (0, 0, 0)) (k := 444 + 61 * c + w) rfl (fl_bo rfl) rfl (at_ix hc hw hc2 hw2) (by omega) ?_
  exact fl_Tq.ret rfl rfl rfl k
theorem at_let {c w : Nat} {ci wi x : Int32} (hc : ci.toInt = c) (hw : wi.toInt = w) (hc2 : c < 16) (hw2 : w < 61) (k : ∀ m', m' = (fl_up m.1 280 (444 + 61 * c + w) x, m.2) → Q none m') : fl_Tq (pw_P L xs) 194 0 (fl_args (am_mxl (pw_P L xs) 194) [at_this, .inl ci, .inl wi, .inl x]) [] m Q := by
  refine fl_Tq.stp rfl rfl (fl_bo rfl) rfl ?_
  refine fl_Tq.stp rfl rfl (fl_bo rfl) rfl ?_
  refine fl_Tq.stp rfl rfl (fl_bo rfl) rfl ?_
  refine fl_Tq.stp rfl rfl (fl_bo rfl) rfl ?_
  refine fl_Tq.stp rfl rfl (fl_bo rfl) rfl ?_
  refine fl_Tq.stp rfl rfl (fl_bo rfl) rfl ?_
  refine fl_Tq.stp rfl rfl (fl_bo rfl) rfl ?_
  refine fl_Tq.stp rfl rfl (fl_bo rfl) rfl ?_
  refine fl_Tq.stp rfl rfl (fl_bo rfl) rfl ?_
  refine fl_Tq.stp rfl rfl (fl_bo rfl) rfl ?_
  refine fl_Tq.sv (p := 280) (τ := 79) (n := 29780) (z := (0, 0, 0)) (k := 444 + 61 * c + w) rfl (fl_bo rfl) rfl (at_ix hc hw hc2 hw2) (by omega) ?_
  exact fl_Tq.ret rfl rfl rfl (k _ rfl)
theorem at_its {w : Nat} {wi : Int32} (hw : wi.toInt = w) (hw2 : w < 30) (k : Q (some (.inl (m.1 280 (34 + w)))) m) : fl_Tq (pw_P L xs) 191 0 (fl_args (am_mxl (pw_P L xs) 191) [at_this, .inl wi]) [] m Q := by
  refine fl_Tq.stp rfl rfl (fl_bo rfl) rfl ?_
  refine fl_Tq.stp rfl rfl (fl_bo rfl) rfl ?_
  refine fl_Tq.stp rfl rfl (fl_bo rfl) rfl ?_
  refine fl_Tq.stp rfl rfl (fl_bo rfl) rfl ?_
  refine fl_Tq.stp rfl rfl (fl_bo rfl) rfl ?_
  have e1 : (Int8.ofInt 34).toInt32.toInt = 34 := by decide +kernel
  have e2 : ((Int8.ofInt 34).toInt32 + wi).toInt = ((34 + w : Nat) : Int) := by rw [at_add32] <;> rw [e1, hw] <;> omega
  refine fl_Tq.ld (p := 280) (τ := 79) (n := 29780) (z := (0, 0, 0)) (k := 34 + w) rfl (fl_bo rfl) rfl e2 (by omega) ?_
  exact fl_Tq.ret rfl rfl rfl k
theorem at_size {x : Int32} (k : ∀ v, Q (some (.inl v)) m) : fl_Tq (pw_P L xs) 188 0 (fl_args (am_mxl (pw_P L xs) 188) [.inl x]) [] m Q := by
  refine fl_Tq.stp rfl rfl (fl_bo rfl) rfl ?_
  cases hb : am_c1 .ge x with
  | true =>
    refine fl_Tq.zt rfl (fl_bo rfl) hb rfl ?_
    refine fl_Tq.stp rfl rfl (fl_bo rfl) rfl ?_
    exact fl_Tq.ret rfl rfl rfl (k _)
  | false =>
    refine fl_Tq.zf rfl (fl_bo rfl) hb rfl ?_
    refine fl_Tq.stp rfl rfl (fl_bo rfl) rfl ?_
    refine fl_Tq.stp rfl rfl (fl_bo rfl) rfl ?_
    refine fl_Tq.stp rfl rfl (fl_bo rfl) rfl ?_
    exact fl_Tq.ret rfl rfl rfl (k _)
theorem at_full {c : Nat} {ci : Int32} (hc : ci.toInt = c) (hc2 : c < 16) (hr : 0 ≤ at_w m (444 + 61 * c) ∧ at_w m (444 + 61 * c) ≤ 9999) (k : ∀ v : Int32, v.toInt = 3600 * at_w m (444 + 61 * c) → Q (some (.inl v)) m) : fl_Tq (pw_P L xs) 195 0 (fl_args (am_mxl (pw_P L xs) 195) [at_this, .inl ci]) [] m Q := by
  refine fl_Tq.stp rfl rfl (fl_bo rfl) rfl ?_
  refine fl_Tq.stp rfl rfl (fl_bo rfl) rfl ?_
  refine fl_Tq.stp rfl rfl (fl_bo rfl) rfl ?_
  refine fl_Tq.stp rfl rfl (fl_bo rfl) rfl ?_
  refine fl_Tq.cal rfl rfl (fl_bo rfl) rfl ?_
  refine at_get (w := 0) hc (by decide) hc2 (by decide) ?_
  refine fl_Tq.stp rfl rfl (fl_bo rfl) rfl ?_
  refine fl_Tq.ret rfl rfl rfl (k _ ?_)
  dsimp only
  have e1 : (Int16.ofInt 3600).toInt32.toInt = 3600 := by decide +kernel
  have e2 : (m.1 280 (444 + 61 * c + 0)).toInt = at_w m (444 + 61 * c) := rfl
  rw [at_mul32] <;> rw [e1, e2] <;> omega
/-- hold: the charge between 0 and what is full -/
theorem at_hold {c : Nat} {ci : Int32} (hc : ci.toInt = c) (hc2 : c < 16) (hr : 0 ≤ at_w m (444 + 61 * c) ∧ at_w m (444 + 61 * c) ≤ 9999) (k : ∀ (x y : Int32) (m' : fl_M), 0 ≤ x.toInt → x.toInt ≤ 3600 * at_w m (444 + 61 * c) → m' = (fl_up (fl_up m.1 280 (445 + 61 * c) x) 280 (448 + 61 * c) y, m.2) → Q none m') : fl_Tq (pw_P L xs) 214 0 (fl_args (am_mxl (pw_P L xs) 214) [at_this, .inl ci]) [] m Q := by
  refine fl_Tq.stp rfl rfl (fl_bo rfl) rfl ?_
  refine fl_Tq.stp rfl rfl (fl_bo rfl) rfl ?_
  refine fl_Tq.stp rfl rfl (fl_bo rfl) rfl ?_
  refine fl_Tq.stp rfl rfl (fl_bo rfl) rfl ?_
  refine fl_Tq.stp rfl rfl (fl_bo rfl) rfl ?_
  refine fl_Tq.stp rfl rfl (fl_bo rfl) rfl ?_
  refine fl_Tq.cal rfl rfl (fl_bo rfl) rfl ?_
  refine at_get (w := 1) hc (by decide) hc2 (by decide) ?_
  refine fl_Tq.stp rfl rfl (fl_bo rfl) rfl ?_
  refine fl_Tq.stp rfl rfl (fl_bo rfl) rfl ?_
  refine fl_Tq.stp rfl rfl (fl_bo rfl) rfl ?_
  refine fl_Tq.cal rfl rfl (fl_bo rfl) rfl ?_
  refine at_full hc hc2 hr (fun f ef => ?_)
  refine fl_Tq.cal rfl rfl (fl_bo rfl) rfl ?_
  refine at_held _ _ _ ?_
  have hx : 0 ≤ (if m.1 280 (444 + 61 * c + 1) < Int32.ofInt 0 then Int32.ofInt 0 else if f < m.1 280 (444 + 61 * c + 1) then f else m.1 280 (444 + 61 * c + 1)).toInt ∧ (if m.1 280 (444 + 61 * c + 1) < Int32.ofInt 0 then Int32.ofInt 0 else if f < m.1 280 (444 + 61 * c + 1) then f else m.1 280 (444 + 61 * c + 1)).toInt ≤ 3600 * at_w m (444 + 61 * c) := by
    generalize m.1 280 (444 + 61 * c + 1) = v
    have e0 : (Int32.ofInt 0).toInt = 0 := rfl
    by_cases h1 : v < Int32.ofInt 0
    · rw [if_pos h1, e0]; omega
    · have h1' : ¬ v.toInt < (Int32.ofInt 0).toInt := fun q => h1 (Int32.lt_iff_toInt_lt.mpr q)
      rw [if_neg h1]
      by_cases h2 : f < v
      · rw [if_pos h2]; omega
      · have h2' : ¬ f.toInt < v.toInt := fun q => h2 (Int32.lt_iff_toInt_lt.mpr q)
        rw [if_neg h2]; omega
  generalize (if m.1 280 (444 + 61 * c + 1) < Int32.ofInt 0 then Int32.ofInt 0 else if f < m.1 280 (444 + 61 * c + 1) then f else m.1 280 (444 + 61 * c + 1)) = x at hx
  refine fl_Tq.cal rfl rfl (fl_bo rfl) rfl ?_
  refine at_let (w := 1) hc (by decide) hc2 (by decide) (fun m1 e1 => ?_)
  have hr1 : at_w m1 (444 + 61 * c) = at_w m (444 + 61 * c) := by
    rw [e1]
    show (fl_up m.1 280 (444 + 61 * c + 1) x 280 (444 + 61 * c)).toInt = _
    rw [bl_un (fun _ => by omega)]
    rfl
  refine fl_Tq.stp rfl rfl (fl_bo rfl) rfl ?_
  refine fl_Tq.stp rfl rfl (fl_bo rfl) rfl ?_
  refine fl_Tq.stp rfl rfl (fl_bo rfl) rfl ?_
  refine fl_Tq.stp rfl rfl (fl_bo rfl) rfl ?_
  refine fl_Tq.stp rfl rfl (fl_bo rfl) rfl ?_
  refine fl_Tq.stp rfl rfl (fl_bo rfl) rfl ?_
  refine fl_Tq.cal rfl rfl (fl_bo rfl) rfl ?_
  refine at_get (w := 4) hc (by decide) hc2 (by decide) ?_
  refine fl_Tq.stp rfl rfl (fl_bo rfl) rfl ?_
  refine fl_Tq.stp rfl rfl (fl_bo rfl) rfl ?_
  refine fl_Tq.stp rfl rfl (fl_bo rfl) rfl ?_
  refine fl_Tq.cal rfl rfl (fl_bo rfl) rfl ?_
  refine at_full hc hc2 (by rw [hr1]; exact hr) (fun f2 ef2 => ?_)
  refine fl_Tq.cal rfl rfl (fl_bo rfl) rfl ?_
  refine at_held _ _ _ ?_
  generalize (if m1.1 280 (444 + 61 * c + 4) < Int32.ofInt 0 then Int32.ofInt 0 else if f2 < m1.1 280 (444 + 61 * c + 4) then f2 else m1.1 280 (444 + 61 * c + 4)) = y
  refine fl_Tq.cal rfl rfl (fl_bo rfl) rfl ?_
  refine at_let (w := 4) hc (by decide) hc2 (by decide) (fun m2 e2 => ?_)
  refine fl_Tq.ret rfl rfl rfl (k x y m2 hx.1 hx.2 ?_)
  rw [e2, e1]
  have q1 : 444 + 61 * c + 1 = 445 + 61 * c := by omega
  have q2 : 444 + 61 * c + 4 = 448 + 61 * c := by omega
  rw [q1, q2]
end ATCL
/-! ===== one cell's words are changed ===== -/
def at_memb (j : Int) (r : at_R) : Bool := (List.range r.2.2.2.1.toNat).any (fun o => decide (r.2.1 + r.2.2.1 * (o : Int) ≤ j ∧ j ≤ r.2.1 + r.2.2.1 * (o : Int) + (r.2.2.2.2.1 - 1)))
theorem at_memb_ok {j : Int} {r : at_R} (h : at_mem j r) : at_memb j r = true := by
  obtain ⟨o, i, h1, h2, h3, h4, h5⟩ := h
  refine List.any_eq_true.mpr ⟨o.toNat, List.mem_range.mpr (by omega), decide_eq_true ?_⟩
  have : ((o.toNat : Nat) : Int) = o := Int.toNat_of_nonneg h1
  rw [this]
  omega
def at_R0 : at_R := (1, 444, 61, 16, 1, 0, 9999)
def at_R1 : at_R := (2, 445, 61, 16, 1, -2147483648, 2147483647)
theorem at_cuck : (List.range 16).all (fun c => ([0, 1, 4, 5, 9] : List Nat).all (fun k => (at_rg at_TA).all (fun r => !at_memb (444 + 61 * (c : Int) + (k : Int)) r || (decide (k = 0) && decide (r = at_R0) || decide (k = 1) && decide (r = at_R1))))) = true := by decide +kernel
theorem at_cu1 {c k : Nat} (hc : c < 16) (hk : k = 0 ∨ k = 1 ∨ k = 4 ∨ k = 5 ∨ k = 9) {r : at_R} (hr : r ∈ at_rg at_TA) {j : Nat} (ej : j = 444 + 61 * c + k) (h : at_mem j r) : (k = 0 ∧ r = at_R0) ∨ (k = 1 ∧ r = at_R1) := by
  have h1 := List.all_eq_true.mp at_cuck c (List.mem_range.mpr hc)
  have h2 := List.all_eq_true.mp h1 k (by rcases hk with rfl | rfl | rfl | rfl | rfl <;> simp)
  have h3 := List.all_eq_true.mp h2 r hr
  have e : ((444 + 61 * (c : Int)) + (k : Int)) = (j : Int) := by omega
  rw [e, at_memb_ok h] at h3
  simp only [Bool.not_true, Bool.false_or, Bool.or_eq_true, Bool.and_eq_true, decide_eq_true_eq] at h3
  exact h3
def at_out (c j : Nat) : Prop := j ≠ 444 + 61 * c ∧ j ≠ 445 + 61 * c ∧ j ≠ 448 + 61 * c ∧ j ≠ 449 + 61 * c ∧ j ≠ 453 + 61 * c
theorem at_AK.cell {w w' : Nat → Int} (h : at_AK w) {c : Nat} (hc : c < 16) (hs : ∀ j : Nat, at_out c j → w' j = w j) (hb : ∀ j, -2147483648 ≤ w' j ∧ w' j ≤ 2147483647) (h1 : 100 ≤ w' (444 + 61 * c)) (h2 : w' (444 + 61 * c) ≤ 9999) (h3 : 0 ≤ w' (445 + 61 * c)) (h4 : w' (445 + 61 * c) ≤ 3600 * w' (444 + 61 * c)) : at_AK w' := by
  obtain ⟨a1, a2, a3⟩ := h
  refine ⟨fun r hr j hj hm => ?_, fun c' hc' hl => ?_, fun k hk => ?_⟩
  · by_cases ho : at_out c j
    · rw [hs j ho]
      exact a1 r hr j hj hm
    · have : ∃ k : Nat, (k = 0 ∨ k = 1 ∨ k = 4 ∨ k = 5 ∨ k = 9) ∧ j = 444 + 61 * c + k := by
        unfold at_out at ho
        by_cases e0 : j = 444 + 61 * c
        · exact ⟨0, Or.inl rfl, by omega⟩
        by_cases e1 : j = 445 + 61 * c
        · exact ⟨1, Or.inr (Or.inl rfl), by omega⟩
        by_cases e4 : j = 448 + 61 * c
        · exact ⟨4, Or.inr (Or.inr (Or.inl rfl)), by omega⟩
        by_cases e5 : j = 449 + 61 * c
        · exact ⟨5, Or.inr (Or.inr (Or.inr (Or.inl rfl))), by omega⟩
        by_cases e9 : j = 453 + 61 * c
        · exact ⟨9, Or.inr (Or.inr (Or.inr (Or.inr rfl))), by omega⟩
        exact absurd ⟨e0, e1, e4, e5, e9⟩ ho
      obtain ⟨k, hk, ej⟩ := this
      rcases at_cu1 hc hk hr ej hm with ⟨rfl, rfl⟩ | ⟨rfl, rfl⟩
      · have : j = 444 + 61 * c := by omega
        rw [this]
        exact ⟨by show (0 : Int) ≤ _; omega, h2⟩
      · exact hb j
  · have e2 : w' 2 = w 2 := hs 2 (by unfold at_out; omega)
    rw [e2] at hl
    obtain ⟨x1, x2, x3, x4, x5⟩ := a2 c' hc' hl
    by_cases e : c' = c
    · subst e
      rw [hs (450 + 61 * c') (by unfold at_out; omega), hs (454 + 61 * c') (by unfold at_out; omega)]
      exact ⟨h1, x2, x3, h3, h4⟩
    · rw [hs (444 + 61 * c') (by unfold at_out; omega), hs (445 + 61 * c') (by unfold at_out; omega), hs (450 + 61 * c') (by unfold at_out; omega), hs (454 + 61 * c') (by unfold at_out; omega)]
      exact ⟨x1, x2, x3, x4, x5⟩
  · rw [hs (341 + 35 * k) (by unfold at_out; omega), hs 2 (by unfold at_out; omega)]
    exact a3 k hk
/-- but one cell's words nothing is changed -/
def at_U (m : fl_M) (c : Nat) (m' : fl_M) : Prop := m'.2 = m.2 ∧ (∀ p j : Nat, (p = 280 → at_out c j) → m'.1 p j = m.1 p j) ∧ 100 ≤ at_w m' (444 + 61 * c) ∧ at_w m' (444 + 61 * c) ≤ 9999
theorem at_U.up {m m' : fl_M} {c j : Nat} {x : Int32} (h : at_U m c m') (hj : j = 445 + 61 * c ∨ j = 448 + 61 * c ∨ j = 449 + 61 * c ∨ j = 453 + 61 * c) : at_U m c (fl_up m'.1 280 j x, m'.2) := by
  obtain ⟨h1, h2, h3⟩ := h
  refine ⟨h1, fun p i hp => ?_, ?_⟩
  · show fl_up m'.1 280 j x p i = _
    rw [bl_un (fun e => by have := hp e; unfold at_out at this; omega)]
    exact h2 p i hp
  · have : at_w (fl_up m'.1 280 j x, m'.2) (444 + 61 * c) = at_w m' (444 + 61 * c) := by
      show (fl_up m'.1 280 j x 280 (444 + 61 * c)).toInt = _
      rw [bl_un (fun _ => by omega)]
      rfl
    rw [this]
    exact h3
theorem at_U.good {m m' : fl_M} {c : Nat} (hg : at_Good at_XI m) (hc : c < 16) (h : at_U m c m') (h3 : 0 ≤ at_w m' (445 + 61 * c)) (h4 : at_w m' (445 + 61 * c) ≤ 3600 * at_w m' (444 + 61 * c)) : at_Good at_XI m' ∧ at_MD m m' [(79, false, 444, 1419)] := by
  obtain ⟨e1, e2, e3, e4⟩ := h
  have ew : ∀ j : Nat, at_out c j → at_w m' j = at_w m j := fun j hj => by
    unfold at_w
    rw [e2 280 j (fun _ => hj)]
  have hX : at_XI m' := hg.2.2.keep (by rw [e1]) (fun p j hp => e2 p j (fun e => by unfold at_out; unfold fl_N at hp; omega))
  refine ⟨hg.mk (by rw [e1]) hX (fun p j hp _ hne => absurd (e2 p j (fun e => absurd e hp)) hne) (by rw [ew 0 (by unfold at_out; omega)]; exact hg.w0) (by rw [ew 1 (by unfold at_out; omega)]; exact hg.w1) (hg.AK.cell hc ew (fun j => at_i32 _) e3 e4 h3 h4), ⟨by rw [e1]; exact Nat.le_refl _, fun p j hne => ⟨_, List.mem_singleton.mpr rfl, ?_⟩⟩⟩
  by_cases e : p = 280
  · subst e
    refine ⟨fk_K_280.symm, ?_⟩
    rw [if_neg (by decide)]
    by_cases ho : at_out c j
    · exact absurd (e2 280 j (fun _ => ho)) hne
    · unfold at_out at ho
      show (444 : Int) ≤ j ∧ (j : Int) ≤ 1419
      omega
  · exact absurd (e2 p j (fun h => absurd h e)) hne

end

/-! 89.07.old.lean.txt -/
section
/-! ===== goOld: wear takes its turns; each makes the through less (or, of a fade below 0, runs over) ===== -/
def at_mu (t b : Int) : Nat := if t < b then 0 else if 0 < b then t.toNat + 1 else (2147483648 - t).toNat + 1
theorem at_mu_lt {t b : Int32} (hb0 : b.toInt ≠ 0) (hb : -359996400 ≤ b.toInt ∧ b.toInt ≤ 359996400) (h : ¬ t.toInt < b.toInt) : at_mu (t - b).toInt b.toInt < at_mu t.toInt b.toInt := by
  have ht := at_i32 t
  unfold at_mu
  rw [if_neg h]
  rcases at_subw t b with e | ⟨q, e⟩ | ⟨q, e⟩
  · rw [e]
    by_cases h1 : t.toInt - b.toInt < b.toInt
    · rw [if_pos h1]
      split <;> omega
    · rw [if_neg h1]
      by_cases h2 : 0 < b.toInt
      · rw [if_pos h2, if_pos h2]; omega
      · rw [if_neg h2, if_neg h2]; omega
  · rw [e, if_pos (by omega)]
    split <;> omega
  · rw [e]
    split <;> split <;> omega
section ATOD
variable {L : Nat} {xs : Nat → Int32}
theorem at_v217 : at_Valid at_XI (pw_P L xs) (217, [.inl (76, some 277), .inr (false, 0, 15)], [(1, 0)], none, false, [(79, false, 444, 1419)]) := by
  intro m vs hg hk hl
  obtain ⟨r, rfl, hk2⟩ := at_ag277 hk
  cases r with
  | nil => cases hk2
  | cons v r =>
  obtain ⟨⟨ci, rfl, c1, c2⟩, hr⟩ := hk2
  have hr0 := at_agnil (vs := r) hr
  subst hr0
  obtain ⟨c, hc⟩ : ∃ c : Nat, ci.toInt = c := ⟨ci.toInt.toNat, by omega⟩
  have hc2 : c < 16 := by omega
  have hlt : (c : Int) < at_w m 2 := by
    obtain ⟨x, ex, hx⟩ := hl _ (List.mem_singleton.mpr rfl)
    cases ex
    omega
  have hA := hg.AK
  obtain ⟨x1, x2, x3, x4, x5⟩ := hA.2.1 c hc2 hlt
  have x6 : at_w m (444 + 61 * c) ≤ 9999 := by
    have := hA.1 (1, 444, 61, 16, 1, 0, 9999) (by decide +kernel) (444 + 61 * c) (by omega) ⟨c, 0, by omega, by show (c : Int) ≤ 16 - 1; omega, by decide, by decide, by show ((444 + 61 * c : Nat) : Int) = 444 + 61 * (c : Int) + 0; omega⟩
    exact this.2
  have hF : -99999 ≤ at_w m 58 ∧ at_w m 58 ≤ 99999 := by
    have := hA.1 (0, 34, 0, 1, 30, -99999, 99999) (by decide +kernel) 58 (by omega) ⟨0, 24, by decide, by decide, by decide, by decide, by decide⟩
    exact this
  have hU : at_U m c m := ⟨rfl, fun p j _ => rfl, x1, x6⟩
  -- the end, from place 137 on
  have fin : ∀ (by_ : Int32) (m1 : fl_M), at_U m c m1 → fl_Tq (pw_P L xs) 217 137 [some at_this, some (.inl ci), some (.inl by_)] [] m1 (fun v m' => at_Good at_XI m' ∧ at_MD m m' [(79, false, 444, 1419)] ∧ at_rtc none false m' v) := by
    intro by_ m1 hU1
    refine fl_Tq.stp rfl rfl (fl_bo rfl) rfl ?_
    refine fl_Tq.stp rfl rfl (fl_bo rfl) rfl ?_
    refine fl_Tq.stp rfl rfl (fl_bo rfl) rfl ?_
    refine fl_Tq.stp rfl rfl (fl_bo rfl) rfl ?_
    refine fl_Tq.stp rfl rfl (fl_bo rfl) rfl ?_
    refine fl_Tq.stp rfl rfl (fl_bo rfl) rfl ?_
    refine fl_Tq.cal rfl rfl (fl_bo rfl) rfl ?_
    refine at_get (w := 4) hc (by decide) hc2 (by decide) ?_
    refine fl_Tq.stp rfl rfl (fl_bo rfl) rfl ?_
    refine fl_Tq.stp rfl rfl (fl_bo rfl) rfl ?_
    refine fl_Tq.stp rfl rfl (fl_bo rfl) rfl ?_
    refine fl_Tq.ld (p := 280) (τ := 79) (n := 29780) (z := (0, 0, 0)) (k := 5) rfl (fl_bo rfl) rfl rfl (by decide) ?_
    refine fl_Tq.stp rfl rfl (fl_bo rfl) rfl ?_
    refine fl_Tq.stp rfl rfl (fl_bo rfl) rfl ?_
    refine fl_Tq.stp rfl rfl (fl_bo rfl) rfl ?_
    refine fl_Tq.cal rfl rfl (fl_bo rfl) rfl ?_
    refine at_its (w := 18) (by decide +kernel) (by decide) ?_
    refine fl_Tq.stp rfl rfl (fl_bo rfl) rfl ?_
    refine fl_Tq.cal rfl rfl (fl_bo rfl) rfl ?_
    refine at_let (w := 4) hc (by decide) hc2 (by decide) (fun m2 e2 => ?_)
    have hU2 : at_U m c m2 := by rw [e2]; exact hU1.up (Or.inr (Or.inl (by omega)))
    refine fl_Tq.stp rfl rfl (fl_bo rfl) rfl ?_
    refine fl_Tq.stp rfl rfl (fl_bo rfl) rfl ?_
    refine fl_Tq.cal rfl rfl (fl_bo rfl) rfl ?_
    refine at_hold hc hc2 ⟨by have := hU2.2.2.1; omega, hU2.2.2.2⟩ (fun x y m3 q1 q2 e3 => ?_)
    have hU3 : at_U m c m3 := by rw [e3]; exact (hU2.up (Or.inl rfl)).up (Or.inr (Or.inl rfl))
    have ec : at_w m3 (444 + 61 * c) = at_w m2 (444 + 61 * c) := by
      rw [e3]
      show (fl_up (fl_up m2.1 280 (445 + 61 * c) x) 280 (448 + 61 * c) y 280 (444 + 61 * c)).toInt = _
      rw [bl_un (fun _ => by omega), bl_un (fun _ => by omega)]
      rfl
    have eg : at_w m3 (445 + 61 * c) = x.toInt := by
      rw [e3]
      show (fl_up (fl_up m2.1 280 (445 + 61 * c) x) 280 (448 + 61 * c) y 280 (445 + 61 * c)).toInt = _
      rw [bl_un (fun _ => by omega), bl_ue]
    obtain ⟨g1, g2⟩ := hU3.good hg hc2 (by rw [eg]; exact q1) (by rw [eg, ec]; exact q2)
    exact fl_Tq.ret rfl rfl rfl ⟨g1, g2, rfl⟩
  -- the turns
  have turn : ∀ (by_ : Int32), (-359996400 ≤ by_.toInt ∧ by_.toInt ≤ 359996400) → ∀ (n : Nat) (m1 : fl_M), at_U m c m1 → at_mu (at_w m1 (449 + 61 * c)) by_.toInt ≤ n → fl_Tq (pw_P L xs) 217 76 [some at_this, some (.inl ci), some (.inl by_)] [] m1 (fun v m' => at_Good at_XI m' ∧ at_MD m m' [(79, false, 444, 1419)] ∧ at_rtc none false m' v) := by
    intro by_ hby n
    induction n with
    | zero =>
      intro m1 hU1 hn
      have hT : at_w m1 (449 + 61 * c) < by_.toInt := by
        unfold at_mu at hn
        split at hn
        · assumption
        · split at hn <;> omega
      refine fl_Tq.stp rfl rfl (fl_bo rfl) rfl ?_
      by_cases h0 : by_.toInt = 0
      · refine fl_Tq.zt rfl (fl_bo rfl) (by rw [at_c1]; exact decide_eq_true h0) rfl ?_
        exact fin by_ m1 hU1
      · refine fl_Tq.zf rfl (fl_bo rfl) (by rw [at_c1]; exact decide_eq_false h0) rfl ?_
        refine fl_Tq.stp rfl rfl (fl_bo rfl) rfl ?_
        refine fl_Tq.stp rfl rfl (fl_bo rfl) rfl ?_
        refine fl_Tq.stp rfl rfl (fl_bo rfl) rfl ?_
        refine fl_Tq.cal rfl rfl (fl_bo rfl) rfl ?_
        refine at_get (w := 5) hc (by decide) hc2 (by decide) ?_
        refine fl_Tq.stp rfl rfl (fl_bo rfl) rfl ?_
        refine fl_Tq.jt rfl (fl_bo rfl) ?_ rfl ?_
        · rw [at_c2]
          have : (m1.1 280 (444 + 61 * c + 5)).toInt = at_w m1 (449 + 61 * c) := by
            rw [show 444 + 61 * c + 5 = 449 + 61 * c by omega]; rfl
          rw [this]
          exact decide_eq_true (by omega)
        exact fin by_ m1 hU1
    | succ n ih =>
      intro m1 hU1 hn
      refine fl_Tq.stp rfl rfl (fl_bo rfl) rfl ?_
      by_cases h0 : by_.toInt = 0
      · refine fl_Tq.zt rfl (fl_bo rfl) (by rw [at_c1]; exact decide_eq_true h0) rfl ?_
        exact fin by_ m1 hU1
      refine fl_Tq.zf rfl (fl_bo rfl) (by rw [at_c1]; exact decide_eq_false h0) rfl ?_
      refine fl_Tq.stp rfl rfl (fl_bo rfl) rfl ?_
      refine fl_Tq.stp rfl rfl (fl_bo rfl) rfl ?_
      refine fl_Tq.stp rfl rfl (fl_bo rfl) rfl ?_
      refine fl_Tq.cal rfl rfl (fl_bo rfl) rfl ?_
      refine at_get (w := 5) hc (by decide) hc2 (by decide) ?_
      refine fl_Tq.stp rfl rfl (fl_bo rfl) rfl ?_
      have eT : m1.1 280 (444 + 61 * c + 5) = m1.1 280 (449 + 61 * c) := by rw [show 444 + 61 * c + 5 = 449 + 61 * c by omega]
      by_cases hT : at_w m1 (449 + 61 * c) < by_.toInt
      · refine fl_Tq.jt rfl (fl_bo rfl) ?_ rfl ?_
        · rw [at_c2, eT]
          exact decide_eq_true (by unfold at_w at hT; omega)
        exact fin by_ m1 hU1
      refine fl_Tq.jf rfl (fl_bo rfl) ?_ rfl ?_
      · rw [at_c2, eT]
        exact decide_eq_false (by unfold at_w at hT; omega)
      have hmu := at_mu_lt (t := m1.1 280 (449 + 61 * c)) h0 hby hT
      refine fl_Tq.stp rfl rfl (fl_bo rfl) rfl ?_
      refine fl_Tq.stp rfl rfl (fl_bo rfl) rfl ?_
      refine fl_Tq.stp rfl rfl (fl_bo rfl) rfl ?_
      refine fl_Tq.stp rfl rfl (fl_bo rfl) rfl ?_
      refine fl_Tq.stp rfl rfl (fl_bo rfl) rfl ?_
      refine fl_Tq.stp rfl rfl (fl_bo rfl) rfl ?_
      refine fl_Tq.cal rfl rfl (fl_bo rfl) rfl ?_
      refine at_get (w := 5) hc (by decide) hc2 (by decide) ?_
      refine fl_Tq.stp rfl rfl (fl_bo rfl) rfl ?_
      refine fl_Tq.stp rfl rfl (fl_bo rfl) rfl ?_
      refine fl_Tq.cal rfl rfl (fl_bo rfl) rfl ?_
      refine at_let (w := 5) hc (by decide) hc2 (by decide) (fun m2 e2 => ?_)
      dsimp only at e2
      have hU2 : at_U m c m2 := by rw [e2]; exact hU1.up (Or.inr (Or.inr (Or.inl (by omega))))
      have eT2 : m2.1 280 (449 + 61 * c) = m1.1 280 (449 + 61 * c) - by_ := by
        rw [e2]
        show fl_up m1.1 280 (444 + 61 * c + 5) (m1.1 280 (444 + 61 * c + 5) - by_) 280 (449 + 61 * c) = _
        rw [show 444 + 61 * c + 5 = 449 + 61 * c by omega, bl_ue]
      -- behind the capacity
      have rest : ∀ m3 : fl_M, at_U m c m3 → m3.1 280 (449 + 61 * c) = m2.1 280 (449 + 61 * c) → fl_Tq (pw_P L xs) 217 129 [some at_this, some (.inl ci), some (.inl by_)] [] m3 (fun v m' => at_Good at_XI m' ∧ at_MD m m' [(79, false, 444, 1419)] ∧ at_rtc none false m' v) := by
        intro m3 hU3 eT3
        refine fl_Tq.stp rfl rfl (fl_bo rfl) rfl ?_
        refine fl_Tq.stp rfl rfl (fl_bo rfl) rfl ?_
        refine fl_Tq.cal rfl rfl (fl_bo rfl) rfl ?_
        refine at_hold hc hc2 ⟨by have := hU3.2.2.1; omega, hU3.2.2.2⟩ (fun x y m4 q1 q2 e4 => ?_)
        have hU4 : at_U m c m4 := by rw [e4]; exact (hU3.up (Or.inl rfl)).up (Or.inr (Or.inl rfl))
        have eT4 : m4.1 280 (449 + 61 * c) = m1.1 280 (449 + 61 * c) - by_ := by
          rw [e4]
          show fl_up (fl_up m3.1 280 (445 + 61 * c) x) 280 (448 + 61 * c) y 280 (449 + 61 * c) = _
          rw [bl_un (fun _ => by omega), bl_un (fun _ => by omega), eT3, eT2]
        refine fl_Tq.stp rfl rfl (fl_bo rfl) rfl ?_
        refine ih m4 hU4 ?_
        unfold at_w at hn ⊢
        rw [eT4]
        omega
      refine fl_Tq.stp rfl rfl (fl_bo rfl) rfl ?_
      refine fl_Tq.stp rfl rfl (fl_bo rfl) rfl ?_
      refine fl_Tq.stp rfl rfl (fl_bo rfl) rfl ?_
      refine fl_Tq.cal rfl rfl (fl_bo rfl) rfl ?_
      refine at_get (w := 0) hc (by decide) hc2 (by decide) ?_
      refine fl_Tq.stp rfl rfl (fl_bo rfl) rfl ?_
      have e100 : (Int8.ofInt 100).toInt32.toInt = 100 := by decide +kernel
      have eC : (m2.1 280 (444 + 61 * c + 0)).toInt = at_w m2 (444 + 61 * c) := rfl
      by_cases hcap : at_w m2 (444 + 61 * c) ≤ 100
      · refine fl_Tq.jt rfl (fl_bo rfl) ?_ rfl ?_
        · rw [at_c2, eC, e100]
          exact decide_eq_true (by omega)
        exact rest m2 hU2 rfl
      refine fl_Tq.jf rfl (fl_bo rfl) ?_ rfl ?_
      · rw [at_c2, eC, e100]
        exact decide_eq_false (by omega)
      refine fl_Tq.stp rfl rfl (fl_bo rfl) rfl ?_
      refine fl_Tq.stp rfl rfl (fl_bo rfl) rfl ?_
      refine fl_Tq.stp rfl rfl (fl_bo rfl) rfl ?_
      refine fl_Tq.stp rfl rfl (fl_bo rfl) rfl ?_
      refine fl_Tq.stp rfl rfl (fl_bo rfl) rfl ?_
      refine fl_Tq.stp rfl rfl (fl_bo rfl) rfl ?_
      refine fl_Tq.cal rfl rfl (fl_bo rfl) rfl ?_
      refine at_get (w := 0) hc (by decide) hc2 (by decide) ?_
      refine fl_Tq.stp rfl rfl (fl_bo rfl) rfl ?_
      refine fl_Tq.stp rfl rfl (fl_bo rfl) rfl ?_
      refine fl_Tq.cal rfl rfl (fl_bo rfl) rfl ?_
      refine at_let (w := 0) hc (by decide) hc2 (by decide) (fun m3 e3 => ?_)
      dsimp only at e3
      have hc9 := hU2.2.2.2
      have e1 : (Int32.ofInt 1).toInt = 1 := rfl
      have eC3 : at_w m3 (444 + 61 * c) = at_w m2 (444 + 61 * c) - 1 := by
        rw [e3]
        show (fl_up m2.1 280 (444 + 61 * c + 0) (m2.1 280 (444 + 61 * c + 0) - Int32.ofInt 1) 280 (444 + 61 * c + 0)).toInt = _
        rw [bl_ue, at_sub32 (by rw [eC, e1]; omega) (by rw [eC, e1]; omega), eC, e1]
      have hU3 : at_U m c m3 := by
        obtain ⟨u1, u2, u3⟩ := hU2
        refine ⟨by rw [e3]; exact u1, fun p j hp => ?_, by rw [eC3]; omega, by rw [eC3]; omega⟩
        rw [e3]
        show fl_up m2.1 280 (444 + 61 * c + 0) _ p j = _
        rw [bl_un (fun e => by have := hp e; unfold at_out at this; omega)]
        exact u2 p j hp
      refine rest m3 hU3 ?_
      rw [e3]
      show fl_up m2.1 280 (444 + 61 * c + 0) _ 280 (449 + 61 * c) = _
      rw [bl_un (fun _ => by omega)]
  -- the beginning
  refine fl_Tq.stp rfl rfl (fl_bo rfl) rfl ?_
  refine fl_Tq.stp rfl rfl (fl_bo rfl) rfl ?_
  refine fl_Tq.stp rfl rfl (fl_bo rfl) rfl ?_
  refine fl_Tq.stp rfl rfl (fl_bo rfl) rfl ?_
  refine fl_Tq.stp rfl rfl (fl_bo rfl) rfl ?_
  refine fl_Tq.stp rfl rfl (fl_bo rfl) rfl ?_
  refine fl_Tq.cal rfl rfl (fl_bo rfl) rfl ?_
  refine at_get (w := 9) hc (by decide +kernel) hc2 (by decide) ?_
  refine fl_Tq.stp rfl rfl (fl_bo rfl) rfl ?_
  refine fl_Tq.stp rfl rfl (fl_bo rfl) rfl ?_
  refine fl_Tq.stp rfl rfl (fl_bo rfl) rfl ?_
  refine fl_Tq.ld (p := 280) (τ := 79) (n := 29780) (z := (0, 0, 0)) (k := 5) rfl (fl_bo rfl) rfl rfl (by decide) ?_
  refine fl_Tq.stp rfl rfl (fl_bo rfl) rfl ?_
  refine fl_Tq.stp rfl rfl (fl_bo rfl) rfl ?_
  refine fl_Tq.cal rfl rfl (fl_bo rfl) rfl ?_
  refine at_its (w := 25) (by decide +kernel) (by decide) ?_
  refine fl_Tq.stp rfl rfl (fl_bo rfl) rfl ?_
  refine fl_Tq.stp rfl rfl (fl_bo rfl) rfl ?_
  refine fl_Tq.dv rfl (fl_bo rfl) (by decide +kernel) ?_
  refine fl_Tq.stp rfl rfl (fl_bo rfl) rfl ?_
  refine fl_Tq.stp rfl rfl (fl_bo rfl) rfl ?_
  refine fl_Tq.stp rfl rfl (fl_bo rfl) rfl ?_
  refine fl_Tq.cal rfl rfl (fl_bo rfl) rfl ?_
  refine at_get (w := 9) hc (by decide +kernel) hc2 (by decide) ?_
  refine fl_Tq.stp rfl rfl (fl_bo rfl) rfl ?_
  refine fl_Tq.stp rfl rfl (fl_bo rfl) rfl ?_
  refine fl_Tq.dv rfl (fl_bo rfl) (by decide +kernel) ?_
  refine fl_Tq.stp rfl rfl (fl_bo rfl) rfl ?_
  refine fl_Tq.cal rfl rfl (fl_bo rfl) rfl ?_
  refine at_let (w := 9) hc (by decide +kernel) hc2 (by decide) (fun m1 e1 => ?_)
  have hU1 : at_U m c m1 := by rw [e1]; exact hU.up (Or.inr (Or.inr (Or.inr (by omega))))
  refine fl_Tq.stp rfl rfl (fl_bo rfl) rfl ?_
  refine fl_Tq.stp rfl rfl (fl_bo rfl) rfl ?_
  refine fl_Tq.stp rfl rfl (fl_bo rfl) rfl ?_
  refine fl_Tq.stp rfl rfl (fl_bo rfl) rfl ?_
  refine fl_Tq.stp rfl rfl (fl_bo rfl) rfl ?_
  refine fl_Tq.stp rfl rfl (fl_bo rfl) rfl ?_
  refine fl_Tq.cal rfl rfl (fl_bo rfl) rfl ?_
  refine at_get (w := 5) hc (by decide) hc2 (by decide) ?_
  refine fl_Tq.stp rfl rfl (fl_bo rfl) rfl ?_
  refine fl_Tq.stp rfl rfl (fl_bo rfl) rfl ?_
  refine fl_Tq.stp rfl rfl (fl_bo rfl) rfl ?_
  refine fl_Tq.ld (p := 280) (τ := 79) (n := 29780) (z := (0, 0, 0)) (k := 5) rfl (fl_bo rfl) rfl rfl (by decide) ?_
  refine fl_Tq.cal rfl rfl (fl_bo rfl) rfl ?_
  refine at_size (fun v => ?_)
  refine fl_Tq.stp rfl rfl (fl_bo rfl) rfl ?_
  refine fl_Tq.cal rfl rfl (fl_bo rfl) rfl ?_
  refine at_let (w := 5) hc (by decide) hc2 (by decide) (fun m2 e2 => ?_)
  have hU2 : at_U m c m2 := by rw [e2]; exact hU1.up (Or.inr (Or.inr (Or.inl (by omega))))
  refine fl_Tq.stp rfl rfl (fl_bo rfl) rfl ?_
  refine fl_Tq.stp rfl rfl (fl_bo rfl) rfl ?_
  refine fl_Tq.stp rfl rfl (fl_bo rfl) rfl ?_
  refine fl_Tq.cal rfl rfl (fl_bo rfl) rfl ?_
  refine at_its (w := 24) (by decide +kernel) (by decide) ?_
  refine fl_Tq.stp rfl rfl (fl_bo rfl) rfl ?_
  refine fl_Tq.stp rfl rfl (fl_bo rfl) rfl ?_
  have eF : (m2.1 280 (34 + 24)).toInt = at_w m 58 := by
    rw [hU2.2.1 280 58 (fun _ => by unfold at_out; omega)]
    rfl
  have e36 : (Int16.ofInt 3600).toInt32.toInt = 3600 := by decide +kernel
  have eB : ((Int16.ofInt 3600).toInt32 * m2.1 280 (34 + 24)).toInt = 3600 * at_w m 58 := by
    rw [at_mul32] <;> rw [e36, eF] <;> omega
  exact turn _ ⟨by rw [eB]; omega, by rw [eB]; omega⟩ _ m2 hU2 (Nat.le_refl _)
end ATOD

end

/-! 89.08.state.lean.txt -/
section
/-! ===== stateAt: a state of a history, made when it is first asked for ===== -/
/-- a region's words, one by one -/
def at_rok (w : Nat → Int) (r : at_R) : Bool := (List.range r.2.2.2.1.toNat).all (fun o => (List.range r.2.2.2.2.1.toNat).all (fun i => (fun z : Int => decide (r.2.2.2.2.2.1 ≤ z) && decide (z ≤ r.2.2.2.2.2.2)) (w (r.2.1 + r.2.2.1 * (o : Int) + (i : Int)).toNat)))
theorem at_rok_ok {w : Nat → Int} {r : at_R} (h : at_rok w r = true) {j : Nat} (hm : at_mem j r) : r.2.2.2.2.2.1 ≤ w j ∧ w j ≤ r.2.2.2.2.2.2 := by
  obtain ⟨o, i, h1, h2, h3, h4, h5⟩ := hm
  have a1 := List.all_eq_true.mp h o.toNat (List.mem_range.mpr (by omega))
  have a2 := List.all_eq_true.mp a1 i.toNat (List.mem_range.mpr (by omega))
  have e1 : ((o.toNat : Nat) : Int) = o := Int.toNat_of_nonneg h1
  have e2 : ((i.toNat : Nat) : Int) = i := Int.toNat_of_nonneg h3
  rw [e1, e2, ← h5] at a2
  simp only [Bool.and_eq_true, decide_eq_true_eq, Int.toNat_natCast] at a2
  exact a2
theorem at_fresh : (List.range 90).all (fun r => (at_rg (fk_K1.getD r 0)).all (at_rok (fun i => (at_W0 r i).toInt))) = true := by decide +kernel
theorem at_sum1 {f g : Nat → Nat} {i : Nat} (he : ∀ j, j ≠ i → g j = f j) (hi : g i = f i + 1) : ∀ n : Nat, ((List.range n).map g).sum = ((List.range n).map f).sum + (if i < n then 1 else 0) := by
  intro n
  induction n with
  | zero => rfl
  | succ n ih =>
    rw [List.range_succ, List.map_append, List.map_append, List.sum_append, List.sum_append, ih]
    simp only [List.map_cons, List.map_nil, List.sum_cons, List.sum_nil, Nat.add_zero]
    by_cases h : i = n
    · subst h
      rw [if_neg (Nat.lt_irrefl _), if_pos (Nat.lt_succ_self _), hi]
      omega
    · rw [he n (fun e => h e.symm)]
      by_cases h2 : i < n
      · rw [if_pos h2, if_pos (by omega)]; omega
      · rw [if_neg h2, if_neg (by omega)]; omega
theorem at_K73 {p h : Nat} (hk : fk_K p = 73) : p = 271 ∨ p = 273 := by
  by_cases hl : p < 285
  · have : ∀ p : Fin 285, fk_K p.val = 73 → p.val = 271 ∨ p.val = 273 := by decide +kernel
    exact this ⟨p, hl⟩ hk
  · exfalso
    have : ∀ r : Fin 90, fk_K1.getD r.val 0 ≠ 73 := by decide +kernel
    unfold fk_K at hk
    rw [if_neg hl] at hk
    exact this ⟨(p - 285) % 90, Nat.mod_lt _ (by decide)⟩ hk
theorem at_K25 (j : Nat) : fk_K (285 + 90 * j) = 25 := by
  have := fk_K_hi (r := 0) (q := j) (by decide)
  rw [Nat.add_zero] at this
  rw [this]
  rfl
/-- the memory with one state more -/
theorem at_more {m : fl_M} {H : nw_H} (hX : at_XI m) (h1 : H.1.length = 90) (h2 : H.2 = 1564) (h3 : nw_ckl (285 + 90 * m.2.2) (fun r => at_w0l.getD r []) 0 H.1 = true) : nw_h (fl_H m) H = fl_H (m.1, m.2.1, m.2.2 + 1) := by
  unfold nw_h
  refine Prod.ext ?_ ?_
  · show (fl_H m).1 ++ H.1.map nw_o = (fl_H (m.1, m.2.1, m.2.2 + 1)).1
    have hN : fl_N (m.2.2 + 1) = fl_N m.2.2 + 90 := by unfold fl_N; omega
    have hl : (fl_H m).1.length = fl_N m.2.2 := by unfold fl_H; simp
    refine List.ext_getElem? (fun p => ?_)
    by_cases hp : p < fl_N m.2.2
    · rw [List.getElem?_append_left (by rw [hl]; exact hp), fl_get hp, fl_get (m := (m.1, m.2.1, m.2.2 + 1)) (by show p < fl_N (m.2.2 + 1); omega)]
    · rw [List.getElem?_append_right (by rw [hl]; omega), hl]
      by_cases hp2 : p < fl_N m.2.2 + 90
      · rw [fl_get (m := (m.1, m.2.1, m.2.2 + 1)) (by show p < fl_N (m.2.2 + 1); omega)]
        have hk := nw_ckl_ok H.1 0 h3 (p - fl_N m.2.2) (by omega)
        have e : 285 + 90 * m.2.2 + (0 + (p - fl_N m.2.2)) = p := by unfold fl_N at hp ⊢; omega
        rw [hk, e]
        have e2 : (p - 285) % 90 = p - fl_N m.2.2 := by unfold fl_N at hp hp2 ⊢; omega
        have e3 : (fun j => (at_w0l.getD (0 + (p - fl_N m.2.2)) []).getD j 0) = m.1 p := by
          funext j
          rw [hX.2.2.1 p (by omega) j, e2, Nat.zero_add]
          rfl
        show some (fl_ob _ _ (fun j => (at_w0l.getD (0 + (p - fl_N m.2.2)) []).getD j 0) _) = _
        rw [e3]
        -- longs: no array of longs among a state's places
        have kl : ∀ r : Fin 90, (match fk_kd (fk_K1.getD r.val 0) with | .inr (1, _) => false | _ => true) = true := by decide +kernel
        have kk := kl ⟨(p - 285) % 90, Nat.mod_lt _ (by decide)⟩
        have e4 : fk_K p = fk_K1.getD ((p - 285) % 90) 0 := by
          unfold fk_K
          rw [if_neg (by unfold fl_N at hp; omega)]
        rw [e4]
        dsimp only at kk
        generalize fk_kd (fk_K1.getD ((p - 285) % 90) 0) = kd at kk
        rcases kd with ⟨ci, fs⟩ | ⟨t, n, z⟩
        · rfl
        · match t, kk with
          | 0, _ => rfl
          | t + 2, _ => rfl
      · rw [List.getElem?_eq_none (by rw [List.length_map]; omega), List.getElem?_eq_none (by unfold fl_H; simp; omega)]
  · show fl_S m.2.2 + H.2 = fl_S (m.2.2 + 1)
    unfold fl_S
    omega
/-- X and all else with a new state in a history's row -/
theorem at_made {m : fl_M} {q i : Nat} {x : Int32} (hg : at_Good at_XI m) (hq : q = 272 ∨ q = 274) (hi : i < 20) (h0 : m.1 q i = 0) (hx : x.toInt = 285 + 90 * (m.2.2 : Int)) : m.2.2 < 40 ∧ at_Good at_XI (fl_up m.1 q i x, m.2.1, m.2.2 + 1) ∧ at_MD m (fl_up m.1 q i x, m.2.1, m.2.2 + 1) [(74, false, 0, 19)] := by
  have hkq : fk_K q = 74 := by rcases hq with rfl | rfl <;> decide +kernel
  have hq285 : q < 285 := by omega
  have hxne : x ≠ 0 := fun h => by
    rw [h] at hx
    have : (0 : Int32).toInt = 0 := rfl
    omega
  have ne : ∀ p j : Nat, p ≠ q → fl_up m.1 q i x p j = m.1 p j := fun p j e => bl_un (fun h => absurd h e)
  obtain ⟨a1, a2, a3, a4, a5, ⟨a6, a7, a8⟩, a9, a10⟩ := hg.2.2
  have hc : ∀ q', q' = q → at_cnt (fl_up m.1 q i x, m.2.1, m.2.2 + 1) q' = at_cnt m q' + 1 := by
    intro q' e
    subst e
    unfold at_cnt
    rw [at_sum1 (f := at_nzr m q') (g := at_nzr (fl_up m.1 q' i x, m.2.1, m.2.2 + 1) q') (i := i) (fun j hj => by
      unfold at_nzr
      show (if fl_up m.1 q' i x q' j = 0 then 0 else 1) = _
      rw [bl_un (fun _ => hj)]) (by
      unfold at_nzr
      show (if fl_up m.1 q' i x q' i = 0 then 0 else 1) = _
      rw [bl_ue, if_neg hxne, if_pos h0]), if_pos hi]
  have hc2 : ∀ q', q' ≠ q → at_cnt (fl_up m.1 q i x, m.2.1, m.2.2 + 1) q' = at_cnt m q' := by
    intro q' e
    unfold at_cnt at_nzr
    simp only [fun j => ne q' j e]
  have hX : at_XI (fl_up m.1 q i x, m.2.1, m.2.2 + 1) := by
    refine ⟨fun q' hq' i' hi' => ?_, ?_, fun p hp j => ?_, ?_, fun s hs => ?_, ⟨?_, ?_, ?_⟩, fun s hs => ?_, fun p j hp => ?_⟩
    · show fl_up m.1 q i x q' i' = 0 ∨ ∃ j, j < m.2.2 + 1 ∧ (fl_up m.1 q i x q' i').toInt = _
      by_cases e : q' = q ∧ i' = i
      · obtain ⟨rfl, rfl⟩ := e
        rw [bl_ue]
        exact Or.inr ⟨m.2.2, by omega, hx⟩
      · rw [bl_un (fun h h2 => e ⟨h, h2⟩)]
        rcases a1 q' hq' i' hi' with h | ⟨j, hj, h⟩
        · exact Or.inl h
        · exact Or.inr ⟨j, by omega, h⟩
    · show at_cnt _ 272 + at_cnt _ 274 = m.2.2 + 1
      rcases hq with rfl | rfl
      · rw [hc 272 rfl, hc2 274 (by decide)]; omega
      · rw [hc 274 rfl, hc2 272 (by decide)]; omega
    · have hp : fl_N (m.2.2 + 1) ≤ p := hp
      show fl_up m.1 q i x p j = _
      rw [ne p j (by unfold fl_N at hp; omega)]
      exact a3 p (by unfold fl_N at hp ⊢; omega) j
    · exact a4.congr (fun j _ _ => by (try dsimp only); rw [ne 283 _ (by omega)])
    · exact (a5 s hs).congr (fun j _ _ => by (try dsimp only); rw [ne 280 _ (by omega)])
    · exact a6.congr (fun j _ _ => by (try dsimp only); rw [ne 281 _ (by omega)])
    · show 0 ≤ (fl_up m.1 q i x 281 0).toInt ∧ (fl_up m.1 q i x 281 0).toInt ≤ 20
      rw [ne 281 0 (by omega)]; exact a7
    · show 0 ≤ (fl_up m.1 q i x 281 1).toInt ∧ (fl_up m.1 q i x 281 1).toInt ≤ 19
      rw [ne 281 1 (by omega)]; exact a8
    · exact (a9 s hs).congr (fun j _ _ => by (try dsimp only); rw [ne 281 _ (by omega)])
    · show fl_up m.1 q i x p j = _
      rw [ne p j (by omega)]
      exact a10 p j hp
  have h40 := hX.h40
  have ew : ∀ j, at_w (fl_up m.1 q i x, m.2.1, m.2.2 + 1) j = at_w m j := fun j => by
    show (fl_up m.1 q i x 280 j).toInt = _
    rw [ne 280 j (by omega)]
    rfl
  refine ⟨by show m.2.2 < 40; have : m.2.2 + 1 ≤ 40 := h40; omega, ⟨fun p hp r hr j hm => ?_, ?_, hX⟩, ⟨Nat.le_succ _, fun p j hne => ⟨_, List.mem_singleton.mpr rfl, ?_⟩⟩⟩
  · show r.2.2.2.2.2.1 ≤ (fl_up m.1 q i x p j).toInt ∧ (fl_up m.1 q i x p j).toInt ≤ r.2.2.2.2.2.2
    by_cases e : p = q
    · subst e
      rw [hkq] at hr
      have : at_rg 74 = [] := by decide +kernel
      rw [this] at hr
      cases hr
    · rw [ne p j e]
      by_cases hp2 : p < fl_N m.2.2
      · exact hg.1 p hp2 r hr j hm
      · have hp3 : p < fl_N (m.2.2 + 1) := hp
        rw [a3 p (by omega) j]
        have e4 : fk_K p = fk_K1.getD ((p - 285) % 90) 0 := by
          unfold fk_K
          rw [if_neg (by unfold fl_N at hp2; omega)]
        rw [e4] at hr
        have b1 := List.all_eq_true.mp at_fresh ((p - 285) % 90) (List.mem_range.mpr (Nat.mod_lt _ (by decide)))
        have b2 := List.all_eq_true.mp b1 r hr
        exact at_rok_ok b2 hm
  · obtain ⟨r1, r2⟩ := hg.2.1
    refine ⟨fun c hc hl => ?_, fun k hk => ?_⟩
    · simp only [ew] at hl ⊢
      exact r1 c hc hl
    · simp only [ew]
      exact r2 k hk
  · have hne : fl_up m.1 q i x p j ≠ m.1 p j := hne
    by_cases e : p = q ∧ j = i
    · obtain ⟨rfl, rfl⟩ := e
      refine ⟨hkq.symm, ?_⟩
      rw [if_neg (by decide)]
      show (0 : Int) ≤ j ∧ (j : Int) ≤ 19
      omega
    · exact absurd (bl_un (fun h h2 => e ⟨h, h2⟩)) hne

end

/-! 89.09.stateat.lean.txt -/
section
/-! ===== stateAt itself ===== -/
theorem nw_state1 {h : Nat} (hh : h < 40) : ∃ H : nw_H, nw_ev (285 + 90 * h) 2000 32 0 [(0, .ref (285 + 90 * h))] [] ([nw_obj0], 17) = some (none, H) ∧ H.1.length = 90 ∧ H.2 = 1564 ∧ nw_ckl (285 + 90 * h) (fun r => at_w0l.getD r []) 0 H.1 = true := by
  have e := nw_state h hh
  unfold nw_one at e
  generalize nw_ev (285 + 90 * h) 2000 32 0 [(0, .ref (285 + 90 * h))] [] ([nw_obj0], 17) = r at e
  unfold nw_ckst at e
  split at e
  · rename_i H
    simp only [Bool.and_eq_true] at e
    exact ⟨H, rfl, Nat.eq_of_beq_eq_true e.1, Nat.eq_of_beq_eq_true e.2.1, e.2.2⟩
  · cases e
section ATSA
variable {L : Nat} {xs : Nat → Int32} {m : fl_M} {Q : Option fl_V → fl_M → Prop}
theorem fl_Tq.retA {P : am_Pg} {mi pc : Nat} {lv : fl_L} {τ p : Nat} (hc : am_code P mi pc = some .areturn) (hrt : am_rt P mi .areturn [.ref p] = some (some (.ref p))) (k : Q (some (.inr (.inr (.inl (τ, p))))) m) : fl_Tq P mi pc lv [.inr (.inr (.inl (τ, p)))] m Q :=
  fun la hl => am_To.ret (ins := .areturn) (v := some (.ref p)) hc rfl hrt ⟨_, m, rfl, rfl, k⟩
theorem at_hrow {q : Nat} (hq : q = 272 ∨ q = 274) : (fl_H m).1[q]? = some (.inl (4, 20, .inr (.inr (.inr (.inr (fun i => if i < 20 then (if m.1 q i = 0 then none else some (m.1 q i).toNatClampNeg) else none)))))) := by
  have hkq : fk_K q = 74 := by rcases hq with rfl | rfl <;> decide +kernel
  rw [fl_get (by unfold fl_N; omega), hkq]
  rfl
/-- a row of a history: what its load gives -/
theorem at_row {q i pc : Nat} {ii : Int32} {la : am_L} {r : List Value} (hq : q = 272 ∨ q = 274) (hi : ii.toInt = i) (hi2 : i < 20) : am_qald pc la (.int ii :: .ref q :: r) (fl_H m) = some (pc + 1, la, va_rf (if m.1 q i = 0 then none else some (m.1 q i).toNatClampNeg) :: r, fl_H m) := by
  obtain ⟨h1, h2⟩ := at_in_ok (i := ii) (n := 20) (by omega) (by omega)
  have h3 : ii.toNatClampNeg = i := by omega
  show ((match (fl_H m).1[q]? with
    | some (.inl (t, n, .inr (.inr (.inr (.inr f))))) => bif decide (2 ≤ t ∧ t < 5) && am_in ii n then some (pc + 1, la, va_rf (f ii.toNatClampNeg) :: r, fl_H m) else none
    | _ => none) : Option am_C) = _
  rw [at_hrow hq]
  show ((bif decide (2 ≤ 4 ∧ 4 < 5) && am_in ii 20 then some (pc + 1, la, va_rf (if ii.toNatClampNeg < 20 then (if m.1 q ii.toNatClampNeg = 0 then none else some (m.1 q ii.toNatClampNeg).toNatClampNeg) else none) :: r, fl_H m) else none) : Option am_C) = _
  rw [h1, h3, if_pos hi2]
  rfl
theorem at_t22 {p i x : Nat} {ii : Int32} (hkp : fk_K p = 73) (hpl : p < 285) (hkq : fk_K (p + 1) = 74) (hq : p + 1 = 272 ∨ p + 1 = 274) (hi : ii.toInt = i) (hi2 : i < 20) (h0 : m.1 (p + 1) i ≠ 0) (hx : (m.1 (p + 1) i).toInt = x) (k : Q (some (.inr (.inr (.inl (25, x))))) m) : fl_Tq (pw_P L xs) 24 22 [some (.inr (.inr (.inl (73, p)))), some (.inl ii)] [] m Q := by
  refine fl_Tq.stp rfl rfl (fl_bo rfl) rfl ?_
  refine fl_Tq.stp rfl rfl (fl_oks_ok ⟨fl_okp hkp hpl, True.intro⟩) rfl ?_
  refine fl_Tq.stp rfl rfl (fl_oks_ok ⟨fl_okp hkq (by show p + 1 < 285; omega), True.intro⟩) rfl ?_
  have e := fun la => at_row (m := m) (pc := 26 + 1) (r := []) (la := la) hq hi hi2
  have ex : (m.1 (p + 1) i).toNatClampNeg = x := by
    have : (m.1 (p + 1) i).toNatClampNeg = (m.1 (p + 1) i).toInt.toNat := rfl
    omega
  rw [if_neg h0, ex] at e
  refine fl_Tq.gen (ins := .aaload) (st' := [.inr (.inr (.inl (25, x)))]) rfl rfl rfl (fun la hl => ⟨la, e la, hl⟩) ?_
  exact fl_Tq.retA rfl rfl k
theorem at_v24 : at_Valid at_XI (pw_P L xs) (24, [.inl (73, none), .inr (false, 0, 19)], [], some (.inl 25), false, [(74, false, 0, 19)]) := by
  intro m vs hg hk _
  cases vs with
  | nil => cases hk
  | cons v r =>
  obtain ⟨⟨p, rfl, hkp, -, -⟩, hr⟩ := hk
  cases r with
  | nil => cases hr
  | cons v r =>
  obtain ⟨⟨ii, rfl, i1, i2⟩, hr⟩ := hr
  have hr0 := at_agnil (vs := r) hr
  subst hr0
  have hp := at_K73 (h := 0) hkp
  have hpl : p < 285 := by omega
  have hq : p + 1 = 272 ∨ p + 1 = 274 := by omega
  have hkq : fk_K (p + 1) = 74 := by rcases hp with rfl | rfl <;> decide +kernel
  obtain ⟨i, hi⟩ : ∃ i : Nat, ii.toInt = i := ⟨ii.toInt.toNat, by omega⟩
  have hi2 : i < 20 := by omega
  refine fl_Tq.stp rfl rfl (fl_bo rfl) rfl ?_
  refine fl_Tq.stp rfl rfl (fl_oks_ok ⟨fl_okp hkp hpl, True.intro⟩) rfl ?_
  refine fl_Tq.stp rfl rfl (fl_oks_ok ⟨fl_okp hkq (by show p + 1 < 285; omega), True.intro⟩) rfl ?_
  have e := fun la => at_row (m := m) (pc := 4 + 1) (r := []) (la := la) hq hi hi2
  by_cases h0 : m.1 (p + 1) i = 0
  · -- made now
    rw [if_pos h0] at e
    have k9 : ∀ Q : Option fl_V → fl_M → Prop, fl_Tq (pw_P L xs) 24 9 [some (.inr (.inr (.inl (73, p)))), some (.inl ii)] [] m Q → fl_Tq (pw_P L xs) 24 5 [some (.inr (.inr (.inl (73, p)))), some (.inl ii)] [.inl ii, .inr (.inr (.inl (74, p + 1)))] m Q := fun Q k la hl =>
      am_To.stp (ins := .aaload) (pc := 5) (lv := la) (st := [.int ii, .ref (p + 1)]) (M := fl_H m) (pc' := 6) (lv' := la) (st' := [.null]) (M' := fl_H m) rfl rfl rfl (e la) (am_To.stp (ins := .ifnonnull 16) (pc := 6) (lv := la) (st := [.null]) (M := fl_H m) (pc' := 9) (lv' := la) (st' := []) (M' := fl_H m) rfl rfl rfl rfl (k la hl))
    refine k9 _ ?_
    refine fl_Tq.stp rfl rfl (fl_bo rfl) rfl ?_
    refine fl_Tq.stp rfl rfl (fl_oks_ok ⟨fl_okp hkp hpl, True.intro⟩) rfl ?_
    refine fl_Tq.stp rfl rfl (fl_oks_ok ⟨fl_okp hkq (by show p + 1 < 285; omega), True.intro⟩) rfl ?_
    have hN : (fl_H m).1.length = 285 + 90 * m.2.2 := by unfold fl_H fl_N; simp
    have hh40 := hg.2.2.h40
    obtain ⟨x, hx⟩ : ∃ x : Int32, x.toInt = 285 + 90 * (m.2.2 : Int) := ⟨Int32.ofNat (285 + 90 * m.2.2), by rw [at_ofN (by omega)]; omega⟩
    obtain ⟨g1, g2, g3⟩ := at_made hg hq hi2 h0 hx
    obtain ⟨H, eH, l1, l2, l3⟩ := nw_state1 g1
    have em := at_more hg.2.2 l1 l2 l3
    intro la hl
    refine am_To.stp (ins := .new 9) (pc' := 17) (lv' := la) (st' := [.ref (fl_H m).1.length, .int ii, .ref (p + 1)]) (M' := nw_h (fl_H m) ([nw_obj0], 17)) rfl rfl rfl rfl ?_
    refine am_To.stp (ins := .dup) (pc' := 18) (lv' := la) (st' := [.ref (fl_H m).1.length, .ref (fl_H m).1.length, .int ii, .ref (p + 1)]) (M' := nw_h (fl_H m) ([nw_obj0], 17)) rfl rfl rfl rfl ?_
    refine am_To.cal (ins := .invokespecial 36) (mj := 32) (n := 1) rfl rfl rfl ?_
    refine ⟨2000, none, nw_h (fl_H m) H, nw_ev_ok (B := fl_H m) 2000 32 0 _ [] _ none H ?_, ?_⟩
    · rw [hN]
      exact eH
    · rw [em]
      have hrow := at_hrow (m := ((m.1, m.2.1, m.2.2 + 1) : fl_M)) hq
      obtain ⟨n1, n2⟩ := at_in_ok (i := ii) (n := 20) (by omega) (by omega)
      have n3 : ii.toNatClampNeg = i := by omega
      have hN2 : (fl_H (m.1, m.2.1, m.2.2 + 1)).1[285 + 90 * m.2.2]? = some (fl_ob (fk_kd (fk_K (285 + 90 * m.2.2))) (285 + 90 * m.2.2) (m.1 (285 + 90 * m.2.2)) (m.2.1 (285 + 90 * m.2.2))) := fl_get (m := (m.1, m.2.1, m.2.2 + 1)) (by show _ < fl_N (m.2.2 + 1); unfold fl_N; omega)
      rw [at_K25] at hN2
      have exN : x.toNatClampNeg = 285 + 90 * m.2.2 := by
        have : x.toNatClampNeg = x.toInt.toNat := rfl
        omega
      have hxne : x ≠ 0 := fun h => by
        rw [h] at hx
        have : (0 : Int32).toInt = 0 := rfl
        omega
      have es : am_qast (pw_P L xs) 21 la [.ref (285 + 90 * m.2.2), .int ii, .ref (p + 1)] (fl_H (m.1, m.2.1, m.2.2 + 1)) = some (22, la, [], fl_H (fl_up m.1 (p + 1) i x, m.2.1, m.2.2 + 1)) := by
        show ((match (fl_H (m.1, m.2.1, m.2.2 + 1)).1[p + 1]?, (fl_H (m.1, m.2.1, m.2.2 + 1)).1[285 + 90 * m.2.2]? with
          | some (.inl (t, n, .inr (.inr (.inr (.inr f))))), some (.inr (cj, _)) => bif decide (2 ≤ t ∧ t < 5) && (decide (pw_elt t = cj) && am_in ii n) then some (21 + 1, la, [], ((fl_H (m.1, m.2.1, m.2.2 + 1)).1.set (p + 1) (.inl (t, n, .inr (.inr (.inr (.inr (va_up f ii.toNatClampNeg (some (285 + 90 * m.2.2)))))))), (fl_H (m.1, m.2.1, m.2.2 + 1)).2)) else none
          | _, _ => none) : Option am_C) = _
        rw [hrow, hN2]
        show ((bif decide (2 ≤ 4 ∧ 4 < 5) && (decide (pw_elt 4 = 4) && am_in ii 20) then some (21 + 1, la, [], ((fl_H (m.1, m.2.1, m.2.2 + 1)).1.set (p + 1) (.inl (4, 20, .inr (.inr (.inr (.inr (va_up (fun i => if i < 20 then (if m.1 (p + 1) i = 0 then none else some (m.1 (p + 1) i).toNatClampNeg) else none) ii.toNatClampNeg (some (285 + 90 * m.2.2)))))))), (fl_H (m.1, m.2.1, m.2.2 + 1)).2)) else none) : Option am_C) = _
        rw [n1, n3]
        have ef : va_up (fun i => if i < 20 then (if m.1 (p + 1) i = 0 then none else some (m.1 (p + 1) i).toNatClampNeg) else none) i (some (285 + 90 * m.2.2)) = (fun j => if j < 20 then (if upd (m.1 (p + 1)) i x j = 0 then none else some (upd (m.1 (p + 1)) i x j).toNatClampNeg) else none) := by
          funext j
          unfold va_up upd
          by_cases hj : j = i
          · rw [if_pos hj, if_pos hj, if_pos (by omega), if_neg hxne, exN]
          · rw [if_neg hj, if_neg hj]
        rw [ef]
        have hset := fl_setR (m := ((m.1, m.2.1, m.2.2 + 1) : fl_M)) (p := p + 1) (w := upd (m.1 (p + 1)) i x) (by show p + 1 < fl_N (m.2.2 + 1); unfold fl_N; omega)
        rw [hkq] at hset
        rw [fl_up_row]
        show some (22, la, [], ((fl_H (m.1, m.2.1, m.2.2 + 1)).1.set (p + 1) (fl_ob (fk_kd 74) (p + 1) (upd (m.1 (p + 1)) i x) (m.2.1 (p + 1))), (fl_H (m.1, m.2.1, m.2.2 + 1)).2)) = _
        rw [hset]
      refine am_To.stp (ins := .aastore) (pc' := 22) (lv' := la) (st' := []) (M' := fl_H (fl_up m.1 (p + 1) i x, m.2.1, m.2.2 + 1)) rfl rfl rfl ?_ ?_
      · rw [hN]
        exact es
      · refine at_t22 (m := (fl_up m.1 (p + 1) i x, m.2.1, m.2.2 + 1)) (x := 285 + 90 * m.2.2) hkp hpl hkq hq hi hi2 ?_ ?_ ⟨g2, g3, ⟨285 + 90 * m.2.2, rfl, at_K25 _, ?_, by omega⟩⟩ la hl
        · show fl_up m.1 (p + 1) i x (p + 1) i ≠ 0
          rw [bl_ue]
          exact hxne
        · show (fl_up m.1 (p + 1) i x (p + 1) i).toInt = _
          rw [bl_ue, hx]
          omega
        · show 285 + 90 * m.2.2 < fl_N (m.2.2 + 1)
          unfold fl_N
          omega
  · -- there already
    rw [if_neg h0] at e
    obtain ⟨j, hj, hx⟩ : ∃ j, j < m.2.2 ∧ (m.1 (p + 1) i).toInt = 285 + 90 * (j : Int) := by
      rcases hg.2.2.1 (p + 1) hq i hi2 with h | h
      · exact absurd h h0
      · exact h
    have ex : (m.1 (p + 1) i).toNatClampNeg = 285 + 90 * j := by
      have : (m.1 (p + 1) i).toNatClampNeg = (m.1 (p + 1) i).toInt.toNat := rfl
      omega
    rw [ex] at e
    refine fl_Tq.gen (ins := .aaload) (pc' := 6) (lv' := [some (.inr (.inr (.inl (73, p)))), some (.inl ii)]) (st' := [.inr (.inr (.inl (25, 285 + 90 * j)))]) rfl rfl rfl (fun la hl => ⟨la, e la, hl⟩) ?_
    refine fl_Tq.gen (ins := .ifnonnull 16) (pc' := 22) (lv' := [some (.inr (.inr (.inl (73, p)))), some (.inl ii)]) (st' := []) rfl rfl rfl (fun la hl => ⟨la, rfl, hl⟩) ?_
    have h40 := hg.2.2.h40
    refine at_t22 (x := 285 + 90 * j) hkp hpl hkq hq hi hi2 h0 (by omega) ⟨hg, at_MD.rf, ⟨285 + 90 * j, rfl, at_K25 _, by unfold fl_N; omega, by omega⟩⟩
end ATSA

end

/-! 89.10.middle.lean.txt -/
section
/-! ===== rank, middle: some cell has the place ===== -/
theorem at_php : ∀ (n : Nat) (f : Nat → Nat), (∀ c, c < n → f c < n) → (∀ c d, c < n → d < n → f c = f d → c = d) → ∀ i, i < n → ∃ c, c < n ∧ f c = i := by
  intro n
  induction n with
  | zero => intro f _ _ i hi; omega
  | succ n ih =>
    intro f h1 h2 i hi
    have hg1 : ∀ c, c < n → (if f c = n then f n else f c) < n := by
      intro c hc
      have := h1 c (by omega)
      have := h1 n (by omega)
      split
      · rename_i e
        have : f n ≠ n := fun e2 => by have := h2 c n (by omega) (by omega) (by omega); omega
        omega
      · omega
    have hg2 : ∀ c d, c < n → d < n → (if f c = n then f n else f c) = (if f d = n then f n else f d) → c = d := by
      intro c d hc hd e
      split at e
      · split at e
        · exact h2 c d (by omega) (by omega) (by omega)
        · have := h2 n d (by omega) (by omega) e; omega
      · split at e
        · have := h2 c n (by omega) (by omega) e; omega
        · exact h2 c d (by omega) (by omega) e
    by_cases hin : i = f n
    · exact ⟨n, by omega, hin.symm⟩
    by_cases hi2 : i < n
    · obtain ⟨c, hc, e⟩ := ih (fun c => if f c = n then f n else f c) hg1 hg2 i hi2
      try dsimp only at e
      split at e
      · exact absurd e.symm hin
      · exact ⟨c, by omega, e⟩
    · have hi3 : i = n := by omega
      subst hi3
      have hfn : f i < i := by have := h1 i (by omega); omega
      obtain ⟨c, hc, e⟩ := ih (fun c => if f c = i then f i else f c) hg1 hg2 (f i) hfn
      try dsimp only at e
      split at e
      · rename_i e2
        exact ⟨c, by omega, e2⟩
      · have := h2 c i (by omega) (by omega) e; omega
/-- how many below n are so -/
def at_ct (P : Nat → Bool) : Nat → Nat
  | 0 => 0
  | n + 1 => at_ct P n + (if P n then 1 else 0)
theorem at_ct_le (P : Nat → Bool) : ∀ n, at_ct P n ≤ n := by
  intro n
  induction n with
  | zero => exact Nat.le_refl 0
  | succ n ih => unfold at_ct; split <;> omega
theorem at_ct_mono {P R : Nat → Bool} (h : ∀ e, P e = true → R e = true) : ∀ n, at_ct P n ≤ at_ct R n := by
  intro n
  induction n with
  | zero => exact Nat.le_refl 0
  | succ n ih =>
    unfold at_ct
    cases hp : P n with
    | true => rw [if_pos rfl, if_pos (h n hp)]; omega
    | false => rw [if_neg (by decide)]; omega
theorem at_ct_lt {P R : Nat → Bool} (h : ∀ e, P e = true → R e = true) {d : Nat} (h1 : P d = false) (h2 : R d = true) : ∀ n, d < n → at_ct P n < at_ct R n := by
  intro n
  induction n with
  | zero => intro hd; omega
  | succ n ih =>
    intro hd
    unfold at_ct
    by_cases e : d = n
    · subst e
      rw [h1, h2, if_neg (by decide), if_pos rfl]
      have := at_ct_mono h d
      omega
    · have := ih (by omega)
      cases hp : P n with
      | true => rw [if_pos rfl, if_pos (h n hp)]; omega
      | false => rw [if_neg (by decide)]; omega
theorem at_ct_tt {P : Nat → Bool} {d : Nat} (h1 : P d = false) (n : Nat) (hd : d < n) : at_ct P n < n := by
  have h := at_ct_lt (P := P) (R := fun _ => true) (fun _ _ => rfl) h1 rfl n hd
  have := at_ct_le (fun _ => true) n
  omega
/-- e comes ahead of c -/
def at_bf (f : Nat → Int) (c e : Nat) : Bool := decide (f c < f e) || (decide (f e = f c) && decide (e < c))
theorem at_bf_tr {f : Nat → Int} {a b c : Nat} (h1 : at_bf f c b = true) (h2 : at_bf f b a = true) : at_bf f c a = true := by
  unfold at_bf at h1 h2 ⊢
  simp only [Bool.or_eq_true, Bool.and_eq_true, decide_eq_true_eq] at h1 h2 ⊢
  omega
theorem at_bf_ir (f : Nat → Int) (c : Nat) : at_bf f c c = false := by
  unfold at_bf
  simp
theorem at_bf_to {f : Nat → Int} {c d : Nat} (h : c ≠ d) : at_bf f c d = true ∨ at_bf f d c = true := by
  unfold at_bf
  simp only [Bool.or_eq_true, Bool.and_eq_true, decide_eq_true_eq]
  omega
theorem at_rank_ex (f : Nat → Int) (n i : Nat) (hi : i < n) : ∃ c, c < n ∧ at_ct (at_bf f c) n = i := by
  refine at_php n (fun c => at_ct (at_bf f c) n) (fun c hc => at_ct_tt (at_bf_ir f c) n hc) (fun c d hc hd e => ?_) i hi
  try dsimp only at e
  rcases Classical.em (c = d) with h | h
  · exact h
  · exfalso
    rcases at_bf_to (f := f) h with h1 | h1
    · have := at_ct_lt (P := at_bf f d) (R := at_bf f c) (fun x hx => at_bf_tr h1 hx) (at_bf_ir f d) h1 n hd
      omega
    · have := at_ct_lt (P := at_bf f c) (R := at_bf f d) (fun x hx => at_bf_tr h1 hx) (at_bf_ir f c) h1 n hc
      omega
section ATMI
variable {L : Nat} {xs : Nat → Int32} {m : fl_M} {Q : Option fl_V → fl_M → Prop}
def at_pv (m : fl_M) (c : Nat) : Int32 := (((1000 : Int64) * (m.1 280 (444 + 61 * c + 1)).toInt64) / ((Int16.ofInt 3600).toInt32 * m.1 280 (444 + 61 * c + 0)).toInt64).toInt32
theorem at_fullx {c : Nat} {ci : Int32} (hc : ci.toInt = c) (hc2 : c < 16) (k : Q (some (.inl ((Int16.ofInt 3600).toInt32 * m.1 280 (444 + 61 * c + 0)))) m) : fl_Tq (pw_P L xs) 195 0 (fl_args (am_mxl (pw_P L xs) 195) [at_this, .inl ci]) [] m Q := by
  refine fl_Tq.stp rfl rfl (fl_bo rfl) rfl ?_
  refine fl_Tq.stp rfl rfl (fl_bo rfl) rfl ?_
  refine fl_Tq.stp rfl rfl (fl_bo rfl) rfl ?_
  refine fl_Tq.stp rfl rfl (fl_bo rfl) rfl ?_
  refine fl_Tq.cal rfl rfl (fl_bo rfl) rfl ?_
  refine at_get (w := 0) hc (by decide) hc2 (by decide) ?_
  refine fl_Tq.stp rfl rfl (fl_bo rfl) rfl ?_
  exact fl_Tq.ret rfl rfl rfl k
theorem fl_Tq.dvJ {P : am_Pg} {mi pc : Nat} {lv : fl_L} {r : List fl_V} {x y : Int64} (hc : am_code P mi pc = some .ldiv) (hok : ∀ v ∈ (.inr (.inl y) :: .inr (.inl x) :: r : List fl_V), fl_ok m.2.2 v) (hy : y ≠ 0) (q : fl_Tq P mi (pc + 1) lv (.inr (.inl (x / y)) :: r) m Q) : fl_Tq P mi pc lv (.inr (.inl y) :: .inr (.inl x) :: r) m Q := fl_Tq.stp hc rfl hok (show (if y = 0 then none else some (pc + 1, lv, Sum.inr (Sum.inl (x / y)) :: r, m) : Option fl_C) = _ from if_neg hy) q
theorem at_pof {c : Nat} {ci : Int32} (hc : ci.toInt = c) (hc2 : c < 16) (hr : 100 ≤ at_w m (444 + 61 * c) ∧ at_w m (444 + 61 * c) ≤ 9999) (k : Q (some (.inl (at_pv m c))) m) : fl_Tq (pw_P L xs) 197 0 (fl_args (am_mxl (pw_P L xs) 197) [at_this, .inl ci]) [] m Q := by
  have e1 : (Int16.ofInt 3600).toInt32.toInt = 3600 := by decide +kernel
  have e2 : (m.1 280 (444 + 61 * c + 0)).toInt = at_w m (444 + 61 * c) := rfl
  have e3 : ((Int16.ofInt 3600).toInt32 * m.1 280 (444 + 61 * c + 0)).toInt = 3600 * at_w m (444 + 61 * c) := by
    rw [at_mul32] <;> rw [e1, e2] <;> omega
  refine fl_Tq.stp rfl rfl (fl_bo rfl) rfl ?_
  refine fl_Tq.stp rfl rfl (fl_bo rfl) rfl ?_
  refine fl_Tq.stp rfl rfl (fl_bo rfl) rfl ?_
  refine fl_Tq.stp rfl rfl (fl_bo rfl) rfl ?_
  refine fl_Tq.stp rfl rfl (fl_bo rfl) rfl ?_
  refine fl_Tq.cal rfl rfl (fl_bo rfl) rfl ?_
  refine at_get (w := 1) hc (by decide) hc2 (by decide) ?_
  refine fl_Tq.cal rfl rfl (fl_bo rfl) rfl ?_
  refine fl_Tq.stp rfl rfl (fl_bo rfl) rfl ?_
  refine fl_Tq.stp rfl rfl (fl_bo rfl) rfl ?_
  refine fl_Tq.stp rfl rfl (fl_bo rfl) rfl ?_
  refine fl_Tq.stp rfl rfl (fl_bo rfl) rfl ?_
  refine fl_Tq.stp rfl rfl (fl_bo rfl) rfl ?_
  refine fl_Tq.stp rfl rfl (fl_bo rfl) rfl ?_
  refine fl_Tq.cal rfl rfl (fl_bo rfl) rfl ?_
  refine at_fullx hc hc2 ?_
  refine fl_Tq.stp rfl rfl (fl_bo rfl) rfl ?_
  refine fl_Tq.dvJ rfl (fl_bo rfl) ?_ ?_
  · intro h
    have h2 : ((Int16.ofInt 3600).toInt32 * m.1 280 (444 + 61 * c + 0)).toInt64.toInt = 0 := by rw [h]; rfl
    rw [Int32.toInt_toInt64, e3] at h2
    omega
  refine fl_Tq.stp rfl rfl (fl_bo rfl) rfl ?_
  refine fl_Tq.ret rfl rfl rfl ?_
  exact fl_Tq.ret rfl rfl rfl k
theorem at_rank {i n : Nat} {ii : Int32} (hg : at_Good at_XI m) (hi : ii.toInt = i) (hn : (m.1 280 2).toInt = n) (hin : i < n) (k : ∀ c : Nat, c < n → Q (some (.inl (Int32.ofNat c))) m) : fl_Tq (pw_P L xs) 295 0 (fl_args (am_mxl (pw_P L xs) 295) [at_this, .inl ii]) [] m Q := by
  have w2 : 0 ≤ (m.1 280 2).toInt ∧ (m.1 280 2).toInt ≤ 16 := hg.w2
  have hA := hg.AK
  have cap : ∀ c : Nat, c < n → 100 ≤ at_w m (444 + 61 * c) ∧ at_w m (444 + 61 * c) ≤ 9999 := by
    intro c hc
    have h16 : c < 16 := by omega
    obtain ⟨x1, -⟩ := hA.2.1 c h16 (by show (c : Int) < (m.1 280 2).toInt; omega)
    have := hA.1 (1, 444, 61, 16, 1, 0, 9999) (by decide +kernel) (444 + 61 * c) (by omega) ⟨c, 0, by omega, by show (c : Int) ≤ 16 - 1; omega, by decide, by decide, by show ((444 + 61 * c : Nat) : Int) = 444 + 61 * (c : Int) + 0; omega⟩
    exact ⟨x1, this.2⟩
  obtain ⟨c0, hc0, e0⟩ := at_rank_ex (fun c => (at_pv m c).toInt) n i hin
  have inner : ∀ (c : Nat), c < n → ∀ (d e : Nat), e + d = n → (∀ (v : Int32), v.toInt = at_ct (at_bf (fun c => (at_pv m c).toInt) c) n → fl_Tq (pw_P L xs) 295 76 [some at_this, some (.inl ii), some (.inl (Int32.ofNat c)), some (.inl v), some (.inl (Int32.ofNat n))] [] m Q) → ∀ v : Int32, v.toInt = at_ct (at_bf (fun c => (at_pv m c).toInt) c) e → fl_Tq (pw_P L xs) 295 17 [some at_this, some (.inl ii), some (.inl (Int32.ofNat c)), some (.inl v), some (.inl (Int32.ofNat e))] [] m Q := by
    intro c hc d
    have ec := at_ofN (k := c) (by omega)
    induction d with
    | zero =>
      intro e he kk v hv
      have he : e = n := by omega
      subst he
      have ee := at_ofN (k := e) (by omega)
      refine fl_Tq.stp rfl rfl (fl_bo rfl) rfl ?_
      refine fl_Tq.stp rfl rfl (fl_bo rfl) rfl ?_
      refine fl_Tq.stp rfl rfl (fl_bo rfl) rfl ?_
      refine fl_Tq.stp rfl rfl (fl_bo rfl) rfl ?_
      refine fl_Tq.ld (p := 280) (τ := 79) (n := 29780) (z := (0, 0, 0)) (k := 2) rfl (fl_bo rfl) rfl rfl (by decide) ?_
      refine fl_Tq.jt rfl (fl_bo rfl) ?_ rfl ?_
      · rw [at_c2, ee]
        exact decide_eq_true (by omega)
      exact kk v hv
    | succ d ih =>
      intro e he kk v hv
      have ee := at_ofN (k := e) (by omega)
      have hle := at_ct_le (at_bf (fun c => (at_pv m c).toInt) c) e
      refine fl_Tq.stp rfl rfl (fl_bo rfl) rfl ?_
      refine fl_Tq.stp rfl rfl (fl_bo rfl) rfl ?_
      refine fl_Tq.stp rfl rfl (fl_bo rfl) rfl ?_
      refine fl_Tq.stp rfl rfl (fl_bo rfl) rfl ?_
      refine fl_Tq.ld (p := 280) (τ := 79) (n := 29780) (z := (0, 0, 0)) (k := 2) rfl (fl_bo rfl) rfl rfl (by decide) ?_
      refine fl_Tq.jf rfl (fl_bo rfl) ?_ rfl ?_
      · rw [at_c2, ee]
        exact decide_eq_false (by omega)
      have fin : ∀ b : Int32, (b.toInt = if at_bf (fun c => (at_pv m c).toInt) c e = true then 1 else 0) → fl_Tq (pw_P L xs) 295 68 [some at_this, some (.inl ii), some (.inl (Int32.ofNat c)), some (.inl v), some (.inl (Int32.ofNat e))] [.inl b, .inl v] m Q := by
        intro b hb
        refine fl_Tq.stp rfl rfl (fl_bo rfl) rfl ?_
        refine fl_Tq.stp rfl rfl (fl_bo rfl) rfl ?_
        refine fl_Tq.stp rfl rfl (fl_bo rfl) rfl ?_
        refine fl_Tq.stp rfl rfl (fl_bo rfl) rfl ?_
        have hv2 : (v + b).toInt = at_ct (at_bf (fun c => (at_pv m c).toInt) c) (e + 1) := by
          unfold at_ct
          rw [at_add32] <;> rw [hv, hb] <;> split <;> omega
        have := ih (e + 1) (by omega) kk (v + b) hv2
        rw [← at_inc (by omega)] at this
        exact this
      have t1 : ∀ b : Int32, b = Int32.ofInt 1 → b.toInt = 1 := fun b h => by rw [h]; rfl
      have t0 : ∀ b : Int32, b = Int32.ofInt 0 → b.toInt = 0 := fun b h => by rw [h]; rfl
      refine fl_Tq.stp rfl rfl (fl_bo rfl) rfl ?_
      refine fl_Tq.stp rfl rfl (fl_bo rfl) rfl ?_
      refine fl_Tq.stp rfl rfl (fl_bo rfl) rfl ?_
      refine fl_Tq.cal rfl rfl (fl_bo rfl) rfl ?_
      refine at_pof ee (by omega) (cap e (by omega)) ?_
      refine fl_Tq.stp rfl rfl (fl_bo rfl) rfl ?_
      refine fl_Tq.stp rfl rfl (fl_bo rfl) rfl ?_
      refine fl_Tq.cal rfl rfl (fl_bo rfl) rfl ?_
      refine at_pof ec (by omega) (cap c hc) ?_
      by_cases h1 : (at_pv m c).toInt < (at_pv m e).toInt
      · refine fl_Tq.jt rfl (fl_bo rfl) ?_ rfl ?_
        · rw [at_c2]
          exact decide_eq_true (by omega)
        refine fl_Tq.stp rfl rfl (fl_bo rfl) rfl ?_
        refine fl_Tq.stp rfl rfl (fl_bo rfl) rfl ?_
        refine fin _ ?_
        rw [t1 _ rfl, if_pos]
        unfold at_bf
        simp [h1]
      refine fl_Tq.jf rfl (fl_bo rfl) ?_ rfl ?_
      · rw [at_c2]
        exact decide_eq_false (by omega)
      refine fl_Tq.stp rfl rfl (fl_bo rfl) rfl ?_
      refine fl_Tq.stp rfl rfl (fl_bo rfl) rfl ?_
      refine fl_Tq.cal rfl rfl (fl_bo rfl) rfl ?_
      refine at_pof ee (by omega) (cap e (by omega)) ?_
      refine fl_Tq.stp rfl rfl (fl_bo rfl) rfl ?_
      refine fl_Tq.stp rfl rfl (fl_bo rfl) rfl ?_
      refine fl_Tq.cal rfl rfl (fl_bo rfl) rfl ?_
      refine at_pof ec (by omega) (cap c hc) ?_
      by_cases h2 : (at_pv m e).toInt = (at_pv m c).toInt
      · refine fl_Tq.jf rfl (fl_bo rfl) ?_ rfl ?_
        · rw [at_c2]
          show (!decide _) = false
          rw [decide_eq_true (by omega)]
          rfl
        refine fl_Tq.stp rfl rfl (fl_bo rfl) rfl ?_
        refine fl_Tq.stp rfl rfl (fl_bo rfl) rfl ?_
        by_cases h3 : e < c
        · refine fl_Tq.jf rfl (fl_bo rfl) ?_ rfl ?_
          · rw [at_c2, ee, ec]
            exact decide_eq_false (by omega)
          refine fl_Tq.stp rfl rfl (fl_bo rfl) rfl ?_
          refine fl_Tq.stp rfl rfl (fl_bo rfl) rfl ?_
          refine fin _ ?_
          rw [t1 _ rfl, if_pos]
          unfold at_bf
          simp [h2, h3]
        · refine fl_Tq.jt rfl (fl_bo rfl) ?_ rfl ?_
          · rw [at_c2, ee, ec]
            exact decide_eq_true (by omega)
          refine fl_Tq.stp rfl rfl (fl_bo rfl) rfl ?_
          refine fin _ ?_
          rw [t0 _ rfl, if_neg]
          unfold at_bf
          simp [h2, h3]
      · refine fl_Tq.jt rfl (fl_bo rfl) ?_ rfl ?_
        · rw [at_c2]
          show (!decide _) = true
          rw [decide_eq_false (by omega)]
          rfl
        refine fl_Tq.stp rfl rfl (fl_bo rfl) rfl ?_
        refine fin _ ?_
        rw [t0 _ rfl, if_neg]
        unfold at_bf
        simp [h1, h2]
  have outer : ∀ (d c : Nat) (o3 o4 : Option fl_V), c + d = c0 → fl_Tq (pw_P L xs) 295 2 [some at_this, some (.inl ii), some (.inl (Int32.ofNat c)), o3, o4] [] m Q := by
    intro d
    induction d with
    | zero =>
      intro c o3 o4 hc
      have hc : c = c0 := by omega
      subst hc
      have ec := at_ofN (k := c) (by omega)
      refine fl_Tq.stp rfl rfl (fl_bo rfl) rfl ?_
      refine fl_Tq.stp rfl rfl (fl_bo rfl) rfl ?_
      refine fl_Tq.stp rfl rfl (fl_bo rfl) rfl ?_
      refine fl_Tq.stp rfl rfl (fl_bo rfl) rfl ?_
      refine fl_Tq.ld (p := 280) (τ := 79) (n := 29780) (z := (0, 0, 0)) (k := 2) rfl (fl_bo rfl) rfl rfl (by decide) ?_
      refine fl_Tq.jf rfl (fl_bo rfl) ?_ rfl ?_
      · rw [at_c2, ec]
        exact decide_eq_false (by omega)
      refine fl_Tq.stp rfl rfl (fl_bo rfl) rfl ?_
      refine fl_Tq.stp rfl rfl (fl_bo rfl) rfl ?_
      refine fl_Tq.stp rfl rfl (fl_bo rfl) rfl ?_
      refine fl_Tq.stp rfl rfl (fl_bo rfl) rfl ?_
      refine inner c hc0 n 0 (by omega) (fun v hv => ?_) _ rfl
      refine fl_Tq.stp rfl rfl (fl_bo rfl) rfl ?_
      refine fl_Tq.stp rfl rfl (fl_bo rfl) rfl ?_
      refine fl_Tq.jf rfl (fl_bo rfl) ?_ rfl ?_
      · rw [at_c2, hv, e0, hi]
        show (!decide _) = false
        rw [decide_eq_true (by omega)]
        rfl
      refine fl_Tq.stp rfl rfl (fl_bo rfl) rfl ?_
      exact fl_Tq.ret rfl rfl rfl (k c hc0)
    | succ d ih =>
      intro c o3 o4 hc
      have ec := at_ofN (k := c) (by omega)
      refine fl_Tq.stp rfl rfl (fl_bo rfl) rfl ?_
      refine fl_Tq.stp rfl rfl (fl_bo rfl) rfl ?_
      refine fl_Tq.stp rfl rfl (fl_bo rfl) rfl ?_
      refine fl_Tq.stp rfl rfl (fl_bo rfl) rfl ?_
      refine fl_Tq.ld (p := 280) (τ := 79) (n := 29780) (z := (0, 0, 0)) (k := 2) rfl (fl_bo rfl) rfl rfl (by decide) ?_
      refine fl_Tq.jf rfl (fl_bo rfl) ?_ rfl ?_
      · rw [at_c2, ec]
        exact decide_eq_false (by omega)
      refine fl_Tq.stp rfl rfl (fl_bo rfl) rfl ?_
      refine fl_Tq.stp rfl rfl (fl_bo rfl) rfl ?_
      refine fl_Tq.stp rfl rfl (fl_bo rfl) rfl ?_
      refine fl_Tq.stp rfl rfl (fl_bo rfl) rfl ?_
      refine inner c (by omega) n 0 (by omega) (fun v hv => ?_) _ rfl
      refine fl_Tq.stp rfl rfl (fl_bo rfl) rfl ?_
      refine fl_Tq.stp rfl rfl (fl_bo rfl) rfl ?_
      by_cases hvi : v.toInt = ii.toInt
      · refine fl_Tq.jf rfl (fl_bo rfl) ?_ rfl ?_
        · rw [at_c2]
          show (!decide _) = false
          rw [decide_eq_true (by omega)]
          rfl
        refine fl_Tq.stp rfl rfl (fl_bo rfl) rfl ?_
        exact fl_Tq.ret rfl rfl rfl (k c (by omega))
      · refine fl_Tq.jt rfl (fl_bo rfl) ?_ rfl ?_
        · rw [at_c2]
          show (!decide _) = true
          rw [decide_eq_false (by omega)]
          rfl
        refine fl_Tq.stp rfl rfl (fl_bo rfl) rfl ?_
        refine fl_Tq.stp rfl rfl (fl_bo rfl) rfl ?_
        have := ih (c + 1) (some (.inl v)) (some (.inl (Int32.ofNat n))) (by omega)
        rw [← at_inc (by omega)] at this
        exact this
  refine fl_Tq.stp rfl rfl (fl_bo rfl) rfl ?_
  refine fl_Tq.stp rfl rfl (fl_bo rfl) rfl ?_
  exact outer c0 0 none none (by omega)
def at_cPO2 : at_C := (197, [.inl (76, some 277), .inr (false, 0, 15)], [(1, 0)], some (.inr (false, 0, 1000)), false, [])
set_option maxRecDepth 1000000 in
theorem at_cPO2_k : at_chk [] at_JT 4000 at_cPO2 = true := by decide +kernel
theorem at_v296 : at_Valid at_XI (pw_P L xs) (296, [.inl (76, some 277)], [], some (.inr (false, -1, 1000)), false, []) := by
  intro m vs hg hk _
  obtain ⟨r, rfl, hk2⟩ := at_ag277 hk
  have hr0 := at_agnil (vs := r) hk2
  subst hr0
  have w2 : 0 ≤ (m.1 280 2).toInt ∧ (m.1 280 2).toInt ≤ 16 := hg.w2
  obtain ⟨n, hn⟩ : ∃ n : Nat, (m.1 280 2).toInt = n := ⟨(m.1 280 2).toInt.toNat, by omega⟩
  refine fl_Tq.stp rfl rfl (fl_bo rfl) rfl ?_
  refine fl_Tq.stp rfl rfl (fl_bo rfl) rfl ?_
  refine fl_Tq.stp rfl rfl (fl_bo rfl) rfl ?_
  refine fl_Tq.ld (p := 280) (τ := 79) (n := 29780) (z := (0, 0, 0)) (k := 2) rfl (fl_bo rfl) rfl rfl (by decide) ?_
  by_cases h0 : n = 0
  · refine fl_Tq.zf rfl (fl_bo rfl) ?_ rfl ?_
    · rw [at_c1, hn]
      show (!decide _) = false
      rw [decide_eq_true (by omega)]
      rfl
    refine fl_Tq.stp rfl rfl (fl_bo rfl) rfl ?_
    refine fl_Tq.stp rfl rfl (fl_bo rfl) rfl ?_
    refine fl_Tq.ret rfl rfl rfl ⟨hg, at_MD.rf, ⟨_, rfl, by decide +kernel, by decide +kernel, fun h => by cases h⟩⟩
  · refine fl_Tq.zt rfl (fl_bo rfl) ?_ rfl ?_
    · rw [at_c1, hn]
      show (!decide _) = true
      rw [decide_eq_false (by omega)]
      rfl
    refine fl_Tq.stp rfl rfl (fl_bo rfl) rfl ?_
    refine fl_Tq.stp rfl rfl (fl_bo rfl) rfl ?_
    refine fl_Tq.stp rfl rfl (fl_bo rfl) rfl ?_
    refine fl_Tq.stp rfl rfl (fl_bo rfl) rfl ?_
    refine fl_Tq.stp rfl rfl (fl_bo rfl) rfl ?_
    refine fl_Tq.ld (p := 280) (τ := 79) (n := 29780) (z := (0, 0, 0)) (k := 2) rfl (fl_bo rfl) rfl rfl (by decide) ?_
    refine fl_Tq.stp rfl rfl (fl_bo rfl) rfl ?_
    refine fl_Tq.dv rfl (fl_bo rfl) (by decide +kernel) ?_
    have e2 : (Int32.ofInt 2).toInt = 2 := rfl
    have eh : (m.1 280 2 / Int32.ofInt 2).toInt = ((n / 2 : Nat) : Int) := by
      rw [Int32.toInt_div, e2, hn, Int.tdiv_eq_ediv_of_nonneg (by omega)]
      rw [Int.bmod_eq_of_le (by omega) (by omega)]
      omega
    refine fl_Tq.cal rfl rfl (fl_bo rfl) rfl ?_
    refine at_rank hg eh hn (by omega) (fun c hc => ?_)
    have ec := at_ofN (k := c) (by omega)
    refine fl_Tq.cal rfl rfl (fl_bo rfl) rfl ?_
    refine fl_Tq.mono (at_vok at_cPO2_k m [at_this, .inl (Int32.ofNat c)] hg ⟨at_k277 _, ⟨_, rfl, by omega, by omega⟩, True.intro⟩ (fun q hq => by cases List.mem_singleton.mp hq; exact ⟨_, rfl, by unfold at_w; rw [ec]; omega⟩)) (fun v m1 ⟨hg1, hm1, hv1⟩ => ?_)
    obtain ⟨x, rfl, x1, x2, -⟩ := hv1
    exact fl_Tq.ret rfl rfl rfl ⟨hg1, hm1, ⟨x, rfl, by omega, x2, fun h => by cases h⟩⟩
end ATMI

end

/-! 89.11.cheap.lean.txt -/
section
/-! ===== the reference's cheapest: its table says where there is no way ===== -/
section ATCH
variable {L : Nat} {xs : Nat → Int32} {m : fl_M} {Q : Option fl_V → fl_M → Prop}
theorem at_isin {v l t : Int32} (k : ∀ b : Int32, (b = 1 ∧ l.toInt ≤ v.toInt ∧ v.toInt ≤ t.toInt) ∨ (b = 0 ∧ ¬ (l.toInt ≤ v.toInt ∧ v.toInt ≤ t.toInt)) → Q (some (.inl b)) m) : fl_Tq (pw_P L xs) 185 0 (fl_args (am_mxl (pw_P L xs) 185) [.inl v, .inl l, .inl t]) [] m Q := by
  refine fl_Tq.stp rfl rfl (fl_bo rfl) rfl ?_
  refine fl_Tq.stp rfl rfl (fl_bo rfl) rfl ?_
  by_cases h1 : v.toInt < l.toInt
  · refine fl_Tq.jt rfl (fl_bo rfl) (by rw [at_c2]; exact decide_eq_true (by omega)) rfl ?_
    refine fl_Tq.stp rfl rfl (fl_bo rfl) rfl ?_
    exact fl_Tq.ret rfl rfl rfl (k _ (Or.inr ⟨rfl, by omega⟩))
  refine fl_Tq.jf rfl (fl_bo rfl) (by rw [at_c2]; exact decide_eq_false (by omega)) rfl ?_
  refine fl_Tq.stp rfl rfl (fl_bo rfl) rfl ?_
  refine fl_Tq.stp rfl rfl (fl_bo rfl) rfl ?_
  by_cases h2 : t.toInt < v.toInt
  · refine fl_Tq.jt rfl (fl_bo rfl) (by rw [at_c2]; exact decide_eq_true (by omega)) rfl ?_
    refine fl_Tq.stp rfl rfl (fl_bo rfl) rfl ?_
    exact fl_Tq.ret rfl rfl rfl (k _ (Or.inr ⟨rfl, by omega⟩))
  refine fl_Tq.jf rfl (fl_bo rfl) (by rw [at_c2]; exact decide_eq_false (by omega)) rfl ?_
  refine fl_Tq.stp rfl rfl (fl_bo rfl) rfl ?_
  refine fl_Tq.stp rfl rfl (fl_bo rfl) rfl ?_
  exact fl_Tq.ret rfl rfl rfl (k _ (Or.inl ⟨rfl, by omega, by omega⟩))
/-- the place of a price -/
def at_px (h k mm t : Nat) : Nat := ((h * 25 + k) * 13 + mm) * 2 + t
theorem at_price {h k mm t : Nat} {hi ki mi_ ti : Int32} (eh : hi.toInt = h) (ek : ki.toInt = k) (em : mi_.toInt = mm) (et : ti.toInt = t) (bh : h ≤ 24) (bk : k ≤ 24) (bm : mm ≤ 12) (bt : t ≤ 1) (kk : ∀ v : Int32, v.toInt = at_px h k mm t → Q (some (.inl v)) m) : fl_Tq (pw_P L xs) 305 0 (fl_args (am_mxl (pw_P L xs) 305) [.inl hi, .inl ki, .inl mi_, .inl ti]) [] m Q := by
  refine fl_Tq.stp rfl rfl (fl_bo rfl) rfl ?_
  refine fl_Tq.stp rfl rfl (fl_bo rfl) rfl ?_
  refine fl_Tq.stp rfl rfl (fl_bo rfl) rfl ?_
  refine fl_Tq.stp rfl rfl (fl_bo rfl) rfl ?_
  refine fl_Tq.stp rfl rfl (fl_bo rfl) rfl ?_
  refine fl_Tq.stp rfl rfl (fl_bo rfl) rfl ?_
  refine fl_Tq.stp rfl rfl (fl_bo rfl) rfl ?_
  refine fl_Tq.stp rfl rfl (fl_bo rfl) rfl ?_
  refine fl_Tq.stp rfl rfl (fl_bo rfl) rfl ?_
  refine fl_Tq.stp rfl rfl (fl_bo rfl) rfl ?_
  refine fl_Tq.stp rfl rfl (fl_bo rfl) rfl ?_
  refine fl_Tq.stp rfl rfl (fl_bo rfl) rfl ?_
  refine fl_Tq.stp rfl rfl (fl_bo rfl) rfl ?_
  refine fl_Tq.ret rfl rfl rfl (kk _ ?_)
  dsimp only
  have e25 : (Int8.ofInt 25).toInt32.toInt = 25 := by decide +kernel
  have e13 : (Int8.ofInt 13).toInt32.toInt = 13 := by decide +kernel
  have e2 : (Int32.ofInt 2).toInt = 2 := rfl
  have a1 : (hi * (Int8.ofInt 25).toInt32).toInt = (h : Int) * 25 := by rw [at_mul32] <;> rw [eh, e25] <;> omega
  have a2 : (hi * (Int8.ofInt 25).toInt32 + ki).toInt = (h : Int) * 25 + k := by rw [at_add32] <;> rw [a1, ek] <;> omega
  have a3 : ((hi * (Int8.ofInt 25).toInt32 + ki) * (Int8.ofInt 13).toInt32).toInt = ((h : Int) * 25 + k) * 13 := by rw [at_mul32] <;> rw [a2, e13] <;> omega
  have a4 : ((hi * (Int8.ofInt 25).toInt32 + ki) * (Int8.ofInt 13).toInt32 + mi_).toInt = ((h : Int) * 25 + k) * 13 + mm := by rw [at_add32] <;> rw [a3, em] <;> omega
  have a5 : (((hi * (Int8.ofInt 25).toInt32 + ki) * (Int8.ofInt 13).toInt32 + mi_) * Int32.ofInt 2).toInt = (((h : Int) * 25 + k) * 13 + mm) * 2 := by rw [at_mul32] <;> rw [a4, e2] <;> omega
  unfold at_px
  rw [at_add32] <;> rw [a5, et] <;> omega
theorem at_dec {x : Int32} {n : Nat} (h : x.toInt = n) (h1 : 1 ≤ n) : (x - Int32.ofInt 1).toInt = ((n - 1 : Nat) : Int) := by
  have e1 : (Int32.ofInt 1).toInt = 1 := rfl
  have := at_i32 x
  rw [at_sub32] <;> rw [h, e1] <;> omega
theorem at_k83 : fk_K 284 = 83 := by decide +kernel
theorem at_taken {h k mm t : Nat} {hi ki mi_ ti : Int32} (eh : hi.toInt = h) (ek : ki.toInt = k) (em : mi_.toInt = mm) (et : ti.toInt = t) (bh : h ≤ 24) (bh1 : 1 ≤ h) (bk : k ≤ 24) (bm : mm ≤ 12) (bt : t ≤ 1) (kk : ∀ v : Int32, (k = 0 ∨ (t = 0 ∧ mm = 0) → v = Int32.ofInt (-1)) → Q (some (.inl v)) m) : fl_Tq (pw_P L xs) 306 0 (fl_args (am_mxl (pw_P L xs) 306) [at_this, .inl hi, .inl ki, .inl mi_, .inl ti]) [] m Q := by
  have e1 : (Int32.ofInt 1).toInt = 1 := rfl
  -- from place 13: s the stretches left
  have from13 : ∀ (s : Int32), s.toInt = (if t = 1 then (mm : Int) else (mm : Int) - 1) → fl_Tq (pw_P L xs) 306 13 [some at_this, some (.inl hi), some (.inl ki), some (.inl mi_), some (.inl ti), none, none] [.inl s] m Q := by
    intro s hs
    refine fl_Tq.stp rfl rfl (fl_bo rfl) rfl ?_
    refine fl_Tq.stp rfl rfl (fl_bo rfl) rfl ?_
    by_cases hk : k = 0
    · refine fl_Tq.zt rfl (fl_bo rfl) (by rw [at_c1, ek, hk]; rfl) rfl ?_
      refine fl_Tq.stp rfl rfl (fl_bo rfl) rfl ?_
      exact fl_Tq.ret rfl rfl rfl (kk _ (fun _ => rfl))
    refine fl_Tq.zf rfl (fl_bo rfl) (by rw [at_c1, ek]; exact decide_eq_false (by omega)) rfl ?_
    refine fl_Tq.stp rfl rfl (fl_bo rfl) rfl ?_
    by_cases hs0 : s.toInt < 0
    · refine fl_Tq.zf rfl (fl_bo rfl) (by rw [at_c1]; exact decide_eq_false (by omega)) rfl ?_
      refine fl_Tq.stp rfl rfl (fl_bo rfl) rfl ?_
      exact fl_Tq.ret rfl rfl rfl (kk _ (fun _ => rfl))
    have hns : ¬ (k = 0 ∨ (t = 0 ∧ mm = 0)) := by
      rintro (h | ⟨h, h'⟩)
      · exact hk h
      · rw [if_neg (by omega)] at hs; omega
    refine fl_Tq.zt rfl (fl_bo rfl) (by rw [at_c1]; exact decide_eq_true (by omega)) rfl ?_
    obtain ⟨sn, hsn⟩ : ∃ sn : Nat, s.toInt = sn := ⟨s.toInt.toNat, by omega⟩
    have bs : sn ≤ 12 := by split at hs <;> omega
    refine fl_Tq.stp rfl rfl (fl_bo rfl) rfl ?_
    refine fl_Tq.stp rfl rfl (fl_bo rfl) rfl ?_
    refine fl_Tq.stp rfl rfl (fl_bo rfl) rfl ?_
    refine fl_Tq.stp rfl rfl (fl_bo rfl) rfl ?_
    refine fl_Tq.stp rfl rfl (fl_bo rfl) rfl ?_
    refine fl_Tq.stp rfl rfl (fl_bo rfl) rfl ?_
    refine fl_Tq.stp rfl rfl (fl_bo rfl) rfl ?_
    refine fl_Tq.stp rfl rfl (fl_bo rfl) rfl ?_
    refine fl_Tq.stp rfl rfl (fl_bo rfl) rfl ?_
    refine fl_Tq.stp rfl rfl (fl_bo rfl) rfl ?_
    refine fl_Tq.cal rfl rfl (fl_bo rfl) rfl ?_
    refine at_price (h := h - 1) (k := k - 1) (mm := sn) (t := 1) (at_dec eh bh1) (at_dec ek (by omega)) hsn e1 (by omega) (by omega) bs (by omega) (fun v hv => ?_)
    refine fl_Tq.ld (p := 284) (τ := 83) (n := 16250) (z := (0, 0, 0)) (k := at_px (h - 1) (k - 1) sn 1) rfl (fl_bo rfl) rfl hv (by unfold at_px; omega) ?_
    refine fl_Tq.stp rfl rfl (fl_bo rfl) rfl ?_
    refine fl_Tq.stp rfl rfl (fl_bo rfl) rfl ?_
    refine fl_Tq.stp rfl rfl (fl_bo rfl) rfl ?_
    generalize m.1 284 (at_px (h - 1) (k - 1) sn 1) = rv
    by_cases hr : rv.toInt = -1
    · refine fl_Tq.jf rfl (fl_bo rfl) ?_ rfl ?_
      · rw [at_c2, hr]; rfl
      refine fl_Tq.stp rfl rfl (fl_bo rfl) rfl ?_
      refine fl_Tq.stp rfl rfl (fl_bo rfl) rfl ?_
      exact fl_Tq.ret rfl rfl rfl (kk _ (fun h => absurd h hns))
    · refine fl_Tq.jt rfl (fl_bo rfl) ?_ rfl ?_
      · rw [at_c2]
        show (!decide (rv.toInt - -1 = 0)) = true
        rw [decide_eq_false (by omega)]; rfl
      refine fl_Tq.stp rfl rfl (fl_bo rfl) rfl ?_
      refine fl_Tq.stp rfl rfl (fl_bo rfl) rfl ?_
      refine fl_Tq.stp rfl rfl (fl_bo rfl) rfl ?_
      refine fl_Tq.stp rfl rfl (fl_bo rfl) rfl ?_
      refine fl_Tq.stp rfl rfl (fl_bo rfl) rfl ?_
      refine fl_Tq.stp rfl rfl (fl_bo rfl) rfl ?_
      refine fl_Tq.stp rfl rfl (fl_bo rfl) rfl ?_
      refine fl_Tq.stp rfl rfl (fl_bo rfl) rfl ?_
      have ei : ((Int16.ofInt 315).toInt32 + hi - Int32.ofInt 1).toInt = ((315 + h - 1 : Nat) : Int) := by
        have e3 : (Int16.ofInt 315).toInt32.toInt = 315 := by decide +kernel
        have e4 : ((Int16.ofInt 315).toInt32 + hi).toInt = 315 + (h : Int) := by rw [at_add32] <;> rw [e3, eh] <;> omega
        rw [at_sub32] <;> rw [e4, e1] <;> omega
      refine fl_Tq.ld (p := 280) (τ := 79) (n := 29780) (z := (0, 0, 0)) (k := 315 + h - 1) rfl (fl_bo rfl) rfl ei (by omega) ?_
      refine fl_Tq.stp rfl rfl (fl_bo rfl) rfl ?_
      exact fl_Tq.ret rfl rfl rfl (kk _ (fun h => absurd h hns))
  refine fl_Tq.stp rfl rfl (fl_bo rfl) rfl ?_
  refine fl_Tq.stp rfl rfl (fl_bo rfl) rfl ?_
  by_cases ht : t = 1
  · refine fl_Tq.jf rfl (fl_bo rfl) ?_ rfl ?_
    · rw [at_c2, et, ht]; rfl
    refine fl_Tq.stp rfl rfl (fl_bo rfl) rfl ?_
    refine fl_Tq.stp rfl rfl (fl_bo rfl) rfl ?_
    exact from13 mi_ (by rw [if_pos ht]; exact em)
  · refine fl_Tq.jt rfl (fl_bo rfl) ?_ rfl ?_
    · rw [at_c2, et]
      have : t = 0 := by omega
      rw [this]; rfl
    refine fl_Tq.stp rfl rfl (fl_bo rfl) rfl ?_
    refine fl_Tq.stp rfl rfl (fl_bo rfl) rfl ?_
    refine fl_Tq.stp rfl rfl (fl_bo rfl) rfl ?_
    exact from13 _ (by rw [if_neg ht, at_sub32] <;> rw [em, e1] <;> omega)
/-- only the table is changed -/
def at_TL (m m' : fl_M) : Prop := m'.2 = m.2 ∧ ∀ p j : Nat, (p = 284 → 16250 ≤ j) → m'.1 p j = m.1 p j
theorem at_TL.up {m m' : fl_M} {j : Nat} {x : Int32} (h : at_TL m m') (hj : j < 16250) : at_TL m (fl_up m'.1 284 j x, m'.2) := by
  refine ⟨h.1, fun p i hp => ?_⟩
  show fl_up m'.1 284 j x p i = _
  rw [bl_un (fun e => by have := hp e; omega)]
  exact h.2 p i hp
theorem at_TL.good {m m' : fl_M} (hg : at_Good at_XI m) (h : at_TL m m') : at_Good at_XI m' ∧ at_MD m m' [(83, false, 0, 16249)] := by
  have hX : at_XI m' := hg.2.2.keep (by rw [h.1]) (fun p j hp => h.2 p j (fun e => by unfold fl_N at hp; omega))
  have ew : ∀ j, at_w m' j = at_w m j := fun j => by
    unfold at_w
    rw [h.2 280 j (fun e => by omega)]
  refine ⟨hg.mk (by rw [h.1]) hX (fun p j hp _ hne => ?_) (by rw [ew]; exact hg.w0) (by rw [ew]; exact hg.w1) (hg.AK.congr (fun j _ _ => ew j)), ⟨by rw [h.1]; exact Nat.le_refl _, fun p j hne => ⟨_, List.mem_singleton.mpr rfl, ?_⟩⟩⟩
  · by_cases e : p = 284
    · subst e
      rw [at_k83]
      decide +kernel
    · exact absurd (h.2 p j (fun h => absurd h e)) hne
  · by_cases e : p = 284
    · subst e
      refine ⟨at_k83.symm, ?_⟩
      rw [if_neg (by decide)]
      by_cases hj : j < 16250
      · show (0 : Int) ≤ j ∧ (j : Int) ≤ 16249
        omega
      · exact absurd (h.2 284 j (fun _ => by omega)) hne
    · exact absurd (h.2 p j (fun h => absurd h e)) hne
/-- where no hour can be taken the row is the row before -/
def at_LP (n : Nat) (m : fl_M) : Prop := ∀ h k x : Nat, 1 ≤ h → h ≤ 24 → k < 25 → x < 26 → (h * 25 + k) * 26 + x < n → (k = 0 ∨ x = 0) → m.1 284 ((h * 25 + k) * 26 + x) = m.1 284 (((h - 1) * 25 + k) * 26 + 2 * (x / 2))
theorem at_half {x : Int32} {n : Nat} (h : x.toInt = n) : (x / Int32.ofInt 2).toInt = ((n / 2 : Nat) : Int) ∧ (x - x / Int32.ofInt 2 * Int32.ofInt 2).toInt = ((n % 2 : Nat) : Int) := by
  have e2 : (Int32.ofInt 2).toInt = 2 := rfl
  have hx := at_i32 x
  have q1 : (x / Int32.ofInt 2).toInt = ((n / 2 : Nat) : Int) := by
    rw [Int32.toInt_div, e2, h, Int.tdiv_eq_ediv_of_nonneg (by omega)]
    rw [Int.bmod_eq_of_le (by omega) (by omega)]
    omega
  have q2 : (x / Int32.ofInt 2 * Int32.ofInt 2).toInt = ((n / 2 * 2 : Nat) : Int) := by
    rw [at_mul32] <;> rw [q1, e2] <;> omega
  refine ⟨q1, ?_⟩
  rw [at_sub32] <;> rw [q2, h] <;> omega
end ATCH

end

/-! 89.12.lay.lean.txt -/
section
/-! ===== layPrices, cheapest ===== -/
section ATLY
variable {L : Nat} {xs : Nat → Int32} {m : fl_M} {Q : Option fl_V → fl_M → Prop}
/-- one place of the table -/
theorem at_lay1 {h k x : Nat} (bh : h ≤ 24) (bk : k < 25) (bx : x < 26) {m1 : fl_M} (hT : at_TL m m1) (hP : at_LP ((h * 25 + k) * 26 + x) m1) (o4 o5 : Option fl_V)
    (kk : ∀ (m2 : fl_M) (o4 o5 : Option fl_V), at_TL m m2 → at_LP ((h * 25 + k) * 26 + x + 1) m2 → fl_Tq (pw_P L xs) 307 18 [some at_this, some (.inl (Int32.ofNat h)), some (.inl (Int32.ofNat k)), some (.inl (Int32.ofNat (x + 1))), o4, o5] [] m2 Q) :
    fl_Tq (pw_P L xs) 307 24 [some at_this, some (.inl (Int32.ofNat h)), some (.inl (Int32.ofNat k)), some (.inl (Int32.ofNat x)), o4, o5] [] m1 Q := by
  have eh := at_ofN (k := h) (by omega)
  have ek := at_ofN (k := k) (by omega)
  have ex := at_ofN (k := x) (by omega)
  obtain ⟨exd, exm⟩ := at_half ex
  have hN : at_px h k (x / 2) (x % 2) = (h * 25 + k) * 26 + x := by unfold at_px; omega
  have bN : (h * 25 + k) * 26 + x < 16250 := by omega
  generalize hNg : (h * 25 + k) * 26 + x = N at *
  -- behind the table's own step: place 98
  have p98 : ∀ (ai tv : Int32) (m2 : fl_M), ai.toInt = N → at_TL m m2 → (∀ j : Nat, j ≠ N → m2.1 284 j = m1.1 284 j) → (1 ≤ h → (k = 0 ∨ x = 0) → tv = Int32.ofInt (-1) ∧ m2.1 284 N = m1.1 284 (((h - 1) * 25 + k) * 26 + 2 * (x / 2))) → fl_Tq (pw_P L xs) 307 98 [some at_this, some (.inl (Int32.ofNat h)), some (.inl (Int32.ofNat k)), some (.inl (Int32.ofNat x)), some (.inl ai), some (.inl tv)] [] m2 Q := by
    intro ai tv m2 ea hT2 hs hc
    have old : ∀ m3 : fl_M, (∀ j : Nat, j ≠ N → m3.1 284 j = m1.1 284 j) → (1 ≤ h → (k = 0 ∨ x = 0) → m3.1 284 N = m1.1 284 (((h - 1) * 25 + k) * 26 + 2 * (x / 2))) → at_LP (N + 1) m3 := by
      intro m3 h3 h4 h' k' x' b1 b2 b3 b4 b5 b6
      by_cases e : (h' * 25 + k') * 26 + x' = N
      · have e1 : h' = h ∧ k' = k ∧ x' = x := by omega
        obtain ⟨rfl, rfl, rfl⟩ := e1
        rw [e, h4 b1 b6, h3 _ (by omega)]
      · rw [h3 _ e, h3 _ (by omega)]
        exact hP h' k' x' b1 b2 b3 b4 (by omega) b6
    have go : ∀ (m3 : fl_M), at_TL m m3 → at_LP (N + 1) m3 → fl_Tq (pw_P L xs) 307 136 [some at_this, some (.inl (Int32.ofNat h)), some (.inl (Int32.ofNat k)), some (.inl (Int32.ofNat x)), some (.inl ai), some (.inl tv)] [] m3 Q := by
      intro m3 hT3 hP3
      refine fl_Tq.stp rfl rfl (fl_bo rfl) rfl ?_
      refine fl_Tq.stp rfl rfl (fl_bo rfl) rfl ?_
      have := kk m3 (some (.inl ai)) (some (.inl tv)) hT3 hP3
      rw [← at_inc (by omega)] at this
      exact this
    refine fl_Tq.stp rfl rfl (fl_bo rfl) rfl ?_
    refine fl_Tq.stp rfl rfl (fl_bo rfl) rfl ?_
    by_cases h1 : tv.toInt = -1
    · refine fl_Tq.jt rfl (fl_bo rfl) ?_ rfl ?_
      · rw [at_c2, h1]; rfl
      exact go m2 hT2 (old m2 hs (fun b1 b2 => (hc b1 b2).2))
    have hnc : ¬ (1 ≤ h ∧ (k = 0 ∨ x = 0)) := by
      rintro ⟨b1, b2⟩
      have := (hc b1 b2).1
      rw [this] at h1
      exact h1 rfl
    refine fl_Tq.jf rfl (fl_bo rfl) ?_ rfl ?_
    · rw [at_c2]
      exact decide_eq_false (by show ¬ (tv.toInt - -1 = 0); omega)
    have put : fl_Tq (pw_P L xs) 307 127 [some at_this, some (.inl (Int32.ofNat h)), some (.inl (Int32.ofNat k)), some (.inl (Int32.ofNat x)), some (.inl ai), some (.inl tv)] [] m2 Q := by
      refine fl_Tq.stp rfl rfl (fl_bo rfl) rfl ?_
      refine fl_Tq.stp rfl rfl (fl_bo rfl) rfl ?_
      refine fl_Tq.stp rfl rfl (fl_bo rfl) rfl ?_
      refine fl_Tq.stp rfl rfl (fl_bo rfl) rfl ?_
      refine fl_Tq.sv (p := 284) (τ := 83) (n := 16250) (z := (0, 0, 0)) (k := N) rfl (fl_bo rfl) rfl ea bN ?_
      refine go _ (hT2.up bN) (old _ (fun j hj => ?_) (fun b1 b2 => absurd ⟨b1, b2⟩ hnc))
      show fl_up m2.1 284 N tv 284 j = _
      rw [bl_un (fun _ => hj)]
      exact hs j hj
    refine fl_Tq.stp rfl rfl (fl_bo rfl) rfl ?_
    refine fl_Tq.stp rfl rfl (fl_bo rfl) rfl ?_
    refine fl_Tq.stp rfl rfl (fl_bo rfl) rfl ?_
    refine fl_Tq.ld (p := 284) (τ := 83) (n := 16250) (z := (0, 0, 0)) (k := N) rfl (fl_bo rfl) rfl ea bN ?_
    refine fl_Tq.stp rfl rfl (fl_bo rfl) rfl ?_
    by_cases h2 : (m2.1 284 N).toInt = -1
    · refine fl_Tq.jt rfl (fl_bo rfl) ?_ rfl ?_
      · rw [at_c2, h2]; rfl
      exact put
    refine fl_Tq.jf rfl (fl_bo rfl) ?_ rfl ?_
    · rw [at_c2]
      exact decide_eq_false (by show ¬ ((m2.1 284 N).toInt - -1 = 0); omega)
    refine fl_Tq.stp rfl rfl (fl_bo rfl) rfl ?_
    refine fl_Tq.stp rfl rfl (fl_bo rfl) rfl ?_
    refine fl_Tq.stp rfl rfl (fl_bo rfl) rfl ?_
    refine fl_Tq.stp rfl rfl (fl_bo rfl) rfl ?_
    refine fl_Tq.ld (p := 284) (τ := 83) (n := 16250) (z := (0, 0, 0)) (k := N) rfl (fl_bo rfl) rfl ea bN ?_
    by_cases h3 : tv.toInt < (m2.1 284 N).toInt
    · refine fl_Tq.jf rfl (fl_bo rfl) (by rw [at_c2]; exact decide_eq_false (by omega)) rfl ?_
      exact put
    · refine fl_Tq.jt rfl (fl_bo rfl) (by rw [at_c2]; exact decide_eq_true (by omega)) rfl ?_
      exact go m2 hT2 (old m2 hs (fun b1 b2 => absurd ⟨b1, b2⟩ hnc))
  -- the step's value is on the stack: place 75
  have p75 : ∀ (ai v : Int32) , ai.toInt = N → (1 ≤ h → v = m1.1 284 (((h - 1) * 25 + k) * 26 + 2 * (x / 2))) → fl_Tq (pw_P L xs) 307 75 [some at_this, some (.inl (Int32.ofNat h)), some (.inl (Int32.ofNat k)), some (.inl (Int32.ofNat x)), some (.inl ai), o5] [.inl v, .inl ai, .inr (.inr (.inl (83, 284)))] m1 Q := by
    intro ai v ea hv
    refine fl_Tq.sv (p := 284) (τ := 83) (n := 16250) (z := (0, 0, 0)) (k := N) rfl (fl_bo rfl) rfl ea bN ?_
    have hT2 := hT.up (x := v) bN
    have hs : ∀ j : Nat, j ≠ N → fl_up m1.1 284 N v 284 j = m1.1 284 j := fun j hj => bl_un (fun _ => hj)
    have hn : fl_up m1.1 284 N v 284 N = v := bl_ue
    refine fl_Tq.stp rfl rfl (fl_bo rfl) rfl ?_
    by_cases h0 : h = 0
    · refine fl_Tq.zf rfl (fl_bo rfl) (by rw [at_c1, eh, h0]; rfl) rfl ?_
      refine fl_Tq.stp rfl rfl (fl_bo rfl) rfl ?_
      refine fl_Tq.stp rfl rfl (fl_bo rfl) rfl ?_
      refine fl_Tq.stp rfl rfl (fl_bo rfl) rfl ?_
      exact p98 ai _ _ ea hT2 hs (fun b => by omega)
    refine fl_Tq.zt rfl (fl_bo rfl) ?_ rfl ?_
    · rw [at_c1, eh]
      show (!decide ((h : Int) = 0)) = true
      rw [decide_eq_false (by omega)]; rfl
    refine fl_Tq.stp rfl rfl (fl_bo rfl) rfl ?_
    refine fl_Tq.stp rfl rfl (fl_bo rfl) rfl ?_
    refine fl_Tq.stp rfl rfl (fl_bo rfl) rfl ?_
    refine fl_Tq.stp rfl rfl (fl_bo rfl) rfl ?_
    refine fl_Tq.stp rfl rfl (fl_bo rfl) rfl ?_
    refine fl_Tq.dv rfl (fl_bo rfl) (by decide +kernel) ?_
    refine fl_Tq.stp rfl rfl (fl_bo rfl) rfl ?_
    refine fl_Tq.stp rfl rfl (fl_bo rfl) rfl ?_
    refine fl_Tq.rm rfl (fl_bo rfl) (by decide +kernel) ?_
    refine fl_Tq.cal rfl rfl (fl_bo rfl) rfl ?_
    refine at_taken (h := h) (k := k) (mm := x / 2) (t := x % 2) eh ek exd exm bh (by omega) (by omega) (by omega) (by omega) (fun tv htv => ?_)
    refine fl_Tq.stp rfl rfl (fl_bo rfl) rfl ?_
    exact p98 ai tv _ ea hT2 hs (fun b1 b2 => ⟨htv (by omega), by show fl_up m1.1 284 N v 284 N = _; rw [hn]; exact hv b1⟩)
  refine fl_Tq.stp rfl rfl (fl_bo rfl) rfl ?_
  refine fl_Tq.stp rfl rfl (fl_bo rfl) rfl ?_
  refine fl_Tq.stp rfl rfl (fl_bo rfl) rfl ?_
  refine fl_Tq.stp rfl rfl (fl_bo rfl) rfl ?_
  refine fl_Tq.dv rfl (fl_bo rfl) (by decide +kernel) ?_
  refine fl_Tq.stp rfl rfl (fl_bo rfl) rfl ?_
  refine fl_Tq.stp rfl rfl (fl_bo rfl) rfl ?_
  refine fl_Tq.rm rfl (fl_bo rfl) (by decide +kernel) ?_
  refine fl_Tq.cal rfl rfl (fl_bo rfl) rfl ?_
  refine at_price (h := h) (k := k) (mm := x / 2) (t := x % 2) eh ek exd exm bh (by omega) (by omega) (by omega) (fun ai ea => ?_)
  rw [hN] at ea
  refine fl_Tq.stp rfl rfl (fl_bo rfl) rfl ?_
  refine fl_Tq.stp rfl rfl (fl_bo rfl) rfl ?_
  refine fl_Tq.stp rfl rfl (fl_bo rfl) rfl ?_
  refine fl_Tq.stp rfl rfl (fl_bo rfl) rfl ?_
  refine fl_Tq.stp rfl rfl (fl_bo rfl) rfl ?_
  by_cases h0 : h = 0
  · refine fl_Tq.zf rfl (fl_bo rfl) (by rw [at_c1, eh, h0]; rfl) rfl ?_
    refine fl_Tq.stp rfl rfl (fl_bo rfl) rfl ?_
    by_cases k0 : k = 0
    · refine fl_Tq.zf rfl (fl_bo rfl) (by rw [at_c1, ek, k0]; rfl) rfl ?_
      refine fl_Tq.stp rfl rfl (fl_bo rfl) rfl ?_
      refine fl_Tq.stp rfl rfl (fl_bo rfl) rfl ?_
      exact p75 ai _ ea (fun b => by omega)
    · refine fl_Tq.zt rfl (fl_bo rfl) ?_ rfl ?_
      · rw [at_c1, ek]
        show (!decide ((k : Int) = 0)) = true
        rw [decide_eq_false (by omega)]; rfl
      refine fl_Tq.stp rfl rfl (fl_bo rfl) rfl ?_
      refine fl_Tq.stp rfl rfl (fl_bo rfl) rfl ?_
      exact p75 ai _ ea (fun b => by omega)
  · refine fl_Tq.zt rfl (fl_bo rfl) ?_ rfl ?_
    · rw [at_c1, eh]
      show (!decide ((h : Int) = 0)) = true
      rw [decide_eq_false (by omega)]; rfl
    refine fl_Tq.stp rfl rfl (fl_bo rfl) rfl ?_
    refine fl_Tq.stp rfl rfl (fl_bo rfl) rfl ?_
    refine fl_Tq.stp rfl rfl (fl_bo rfl) rfl ?_
    refine fl_Tq.stp rfl rfl (fl_bo rfl) rfl ?_
    refine fl_Tq.stp rfl rfl (fl_bo rfl) rfl ?_
    refine fl_Tq.stp rfl rfl (fl_bo rfl) rfl ?_
    refine fl_Tq.stp rfl rfl (fl_bo rfl) rfl ?_
    refine fl_Tq.stp rfl rfl (fl_bo rfl) rfl ?_
    refine fl_Tq.dv rfl (fl_bo rfl) (by decide +kernel) ?_
    refine fl_Tq.stp rfl rfl (fl_bo rfl) rfl ?_
    refine fl_Tq.cal rfl rfl (fl_bo rfl) rfl ?_
    refine at_price (h := h - 1) (k := k) (mm := x / 2) (t := 0) (at_dec eh (by omega)) ek exd rfl (by omega) (by omega) (by omega) (by omega) (fun v hv => ?_)
    have hpv : at_px (h - 1) k (x / 2) 0 = ((h - 1) * 25 + k) * 26 + 2 * (x / 2) := by unfold at_px; omega
    rw [hpv] at hv
    refine fl_Tq.ld (p := 284) (τ := 83) (n := 16250) (z := (0, 0, 0)) (k := ((h - 1) * 25 + k) * 26 + 2 * (x / 2)) rfl (fl_bo rfl) rfl hv (by omega) ?_
    exact p75 ai _ ea (fun _ => rfl)
theorem at_lay (hg : at_TL m m) (kk : ∀ m2 : fl_M, at_TL m m2 → at_LP 16250 m2 → Q none m2) : fl_Tq (pw_P L xs) 307 0 (fl_args (am_mxl (pw_P L xs) 307) [at_this]) [] m Q := by
  have lx : ∀ (h k : Nat), h ≤ 24 → k < 25 → ∀ (d x : Nat) (m1 : fl_M) (o4 o5 : Option fl_V), x + d = 26 → at_TL m m1 → at_LP ((h * 25 + k) * 26 + x) m1 → (∀ (m2 : fl_M) (o4 o5 : Option fl_V), at_TL m m2 → at_LP ((h * 25 + k) * 26 + 26) m2 → fl_Tq (pw_P L xs) 307 142 [some at_this, some (.inl (Int32.ofNat h)), some (.inl (Int32.ofNat k)), some (.inl (Int32.ofNat 26)), o4, o5] [] m2 Q) → fl_Tq (pw_P L xs) 307 18 [some at_this, some (.inl (Int32.ofNat h)), some (.inl (Int32.ofNat k)), some (.inl (Int32.ofNat x)), o4, o5] [] m1 Q := by
    intro h k bh bk d
    induction d with
    | zero =>
      intro x m1 o4 o5 hx hT hP kn
      have hx : x = 26 := by omega
      subst hx
      refine fl_Tq.stp rfl rfl (fl_bo rfl) rfl ?_
      refine fl_Tq.stp rfl rfl (fl_bo rfl) rfl ?_
      refine fl_Tq.jt rfl (fl_bo rfl) (by decide +kernel) rfl ?_
      exact kn m1 o4 o5 hT hP
    | succ d ih =>
      intro x m1 o4 o5 hx hT hP kn
      have ex := at_ofN (k := x) (by omega)
      refine fl_Tq.stp rfl rfl (fl_bo rfl) rfl ?_
      refine fl_Tq.stp rfl rfl (fl_bo rfl) rfl ?_
      refine fl_Tq.jf rfl (fl_bo rfl) ?_ rfl ?_
      · rw [at_c2, ex]
        exact decide_eq_false (by show ¬ (0 ≤ (x : Int) - 26); omega)
      exact at_lay1 bh bk (by omega) hT hP o4 o5 (fun m2 o4 o5 hT2 hP2 => ih (x + 1) m2 o4 o5 (by omega) hT2 hP2 kn)
  have lk : ∀ (h : Nat), h ≤ 24 → ∀ (d k : Nat) (m1 : fl_M) (o3 o4 o5 : Option fl_V), k + d = 25 → at_TL m m1 → at_LP ((h * 25 + k) * 26) m1 → (∀ (m2 : fl_M) (o3 o4 o5 : Option fl_V), at_TL m m2 → at_LP ((h * 25 + 25) * 26) m2 → fl_Tq (pw_P L xs) 307 148 [some at_this, some (.inl (Int32.ofNat h)), some (.inl (Int32.ofNat 25)), o3, o4, o5] [] m2 Q) → fl_Tq (pw_P L xs) 307 10 [some at_this, some (.inl (Int32.ofNat h)), some (.inl (Int32.ofNat k)), o3, o4, o5] [] m1 Q := by
    intro h bh d
    induction d with
    | zero =>
      intro k m1 o3 o4 o5 hk hT hP kn
      have hk : k = 25 := by omega
      subst hk
      refine fl_Tq.stp rfl rfl (fl_bo rfl) rfl ?_
      refine fl_Tq.stp rfl rfl (fl_bo rfl) rfl ?_
      refine fl_Tq.jt rfl (fl_bo rfl) (by decide +kernel) rfl ?_
      exact kn m1 o3 o4 o5 hT hP
    | succ d ih =>
      intro k m1 o3 o4 o5 hk hT hP kn
      have ek := at_ofN (k := k) (by omega)
      refine fl_Tq.stp rfl rfl (fl_bo rfl) rfl ?_
      refine fl_Tq.stp rfl rfl (fl_bo rfl) rfl ?_
      refine fl_Tq.jf rfl (fl_bo rfl) ?_ rfl ?_
      · rw [at_c2, ek]
        exact decide_eq_false (by show ¬ (0 ≤ (k : Int) - 25); omega)
      refine fl_Tq.stp rfl rfl (fl_bo rfl) rfl ?_
      refine fl_Tq.stp rfl rfl (fl_bo rfl) rfl ?_
      refine lx h k bh (by omega) 26 0 m1 o4 o5 (by omega) hT hP (fun m2 o4 o5 hT2 hP2 => ?_)
      refine fl_Tq.stp rfl rfl (fl_bo rfl) rfl ?_
      refine fl_Tq.stp rfl rfl (fl_bo rfl) rfl ?_
      have := ih (k + 1) m2 (some (.inl (Int32.ofNat 26))) o4 o5 (by omega) hT2 (by rw [show (h * 25 + (k + 1)) * 26 = (h * 25 + k) * 26 + 26 by omega]; exact hP2) kn
      rw [← at_inc (by omega)] at this
      exact this
  have lh : ∀ (d h : Nat) (m1 : fl_M) (o2 o3 o4 o5 : Option fl_V), h + d = 25 → at_TL m m1 → at_LP (h * 25 * 26) m1 → fl_Tq (pw_P L xs) 307 2 [some at_this, some (.inl (Int32.ofNat h)), o2, o3, o4, o5] [] m1 Q := by
    intro d
    induction d with
    | zero =>
      intro h m1 o2 o3 o4 o5 hh hT hP
      have hh : h = 25 := by omega
      subst hh
      refine fl_Tq.stp rfl rfl (fl_bo rfl) rfl ?_
      refine fl_Tq.stp rfl rfl (fl_bo rfl) rfl ?_
      refine fl_Tq.jt rfl (fl_bo rfl) (by decide +kernel) rfl ?_
      exact fl_Tq.ret rfl rfl rfl (kk m1 hT hP)
    | succ d ih =>
      intro h m1 o2 o3 o4 o5 hh hT hP
      have eh := at_ofN (k := h) (by omega)
      refine fl_Tq.stp rfl rfl (fl_bo rfl) rfl ?_
      refine fl_Tq.stp rfl rfl (fl_bo rfl) rfl ?_
      refine fl_Tq.jf rfl (fl_bo rfl) ?_ rfl ?_
      · rw [at_c2, eh]
        exact decide_eq_false (by show ¬ (0 < (h : Int) - 24); omega)
      refine fl_Tq.stp rfl rfl (fl_bo rfl) rfl ?_
      refine fl_Tq.stp rfl rfl (fl_bo rfl) rfl ?_
      refine lk h (by omega) 25 0 m1 o3 o4 o5 (by omega) hT (by rw [show (h * 25 + 0) * 26 = h * 25 * 26 by omega]; exact hP) (fun m2 o3 o4 o5 hT2 hP2 => ?_)
      refine fl_Tq.stp rfl rfl (fl_bo rfl) rfl ?_
      refine fl_Tq.stp rfl rfl (fl_bo rfl) rfl ?_
      have := ih (h + 1) m2 (some (.inl (Int32.ofNat 25))) o3 o4 o5 (by omega) hT2 (by rw [show (h + 1) * 25 * 26 = (h * 25 + 25) * 26 by omega]; exact hP2)
      rw [← at_inc (by omega)] at this
      exact this
  refine fl_Tq.stp rfl rfl (fl_bo rfl) rfl ?_
  refine fl_Tq.stp rfl rfl (fl_bo rfl) rfl ?_
  exact lh 25 0 m none none none none (by omega) hg (fun h k x _ _ _ _ b => by omega)
end ATLY

end
