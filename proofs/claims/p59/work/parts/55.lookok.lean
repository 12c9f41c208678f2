/-! ===== what 54 says holds ===== -/
theorem at_evl_ins (ν : Nat → Int) (t : Int × Nat) (l : List (Int × Nat)) : at_evl ν (at_ins t l) = t.1 * ν t.2 + at_evl ν l := by
  induction l with
  | nil => rfl
  | cons q r ih =>
    unfold at_ins
    cases h1 : Nat.beq t.2 q.2 with
    | true =>
      have e := Nat.eq_of_beq_eq_true h1
      cases h2 : decide (t.1 + q.1 = 0) with
      | true =>
        have e2 := of_decide_eq_true h2
        show at_evl ν r = t.1 * ν t.2 + (q.1 * ν q.2 + at_evl ν r)
        rw [e, ← Int.add_assoc, ← Int.add_mul, e2]
        omega
      | false =>
        show (t.1 + q.1) * ν q.2 + at_evl ν r = t.1 * ν t.2 + (q.1 * ν q.2 + at_evl ν r)
        rw [e, Int.add_mul]
        omega
    | false =>
      cases h2 : Nat.blt t.2 q.2 with
      | true => rfl
      | false =>
        show q.1 * ν q.2 + at_evl ν (at_ins t r) = t.1 * ν t.2 + (q.1 * ν q.2 + at_evl ν r)
        rw [ih]
        omega
theorem at_evl_foldr (ν : Nat → Int) (l r : List (Int × Nat)) : at_evl ν (l.foldr at_ins r) = at_evl ν l + at_evl ν r := by
  induction l with
  | nil => simp [at_evl]
  | cons t l ih =>
    rw [List.foldr_cons, at_evl_ins, ih]
    show _ = t.1 * ν t.2 + at_evl ν l + at_evl ν r
    omega
theorem at_ev_add (ν : Nat → Int) (a b : at_A) : at_ev ν (at_add a b) = at_ev ν a + at_ev ν b := by
  unfold at_ev at_add
  dsimp only
  rw [at_evl_foldr]
  omega
theorem at_evl_map (ν : Nat → Int) (k : Int) (l : List (Int × Nat)) : at_evl ν (l.map (fun t => (k * t.1, t.2))) = k * at_evl ν l := by
  induction l with
  | nil => simp [at_evl]
  | cons t l ih =>
    rw [List.map_cons]
    unfold at_evl
    rw [ih, Int.mul_add, Int.mul_assoc]
theorem at_ev_mul (ν : Nat → Int) (k : Int) (a : at_A) : at_ev ν (at_mul k a) = k * at_ev ν a := by
  unfold at_mul
  cases h : decide (k = 0) with
  | true =>
    have e := of_decide_eq_true h
    subst e
    show at_ev ν (0, []) = _
    simp [at_ev, at_evl]
  | false =>
    show k * a.1 + at_evl ν (a.2.map (fun t => (k * t.1, t.2))) = _
    rw [at_evl_map]
    unfold at_ev
    rw [Int.mul_add]
theorem at_ev_sub (ν : Nat → Int) (a b : at_A) : at_ev ν (at_sub a b) = at_ev ν a - at_ev ν b := by
  unfold at_sub
  rw [at_ev_add, at_ev_mul]
  omega
theorem at_ev_c (ν : Nat → Int) (k : Int) : at_ev ν (at_c k) = k := by
  simp [at_ev, at_c, at_evl]
theorem at_ev_v (ν : Nat → Int) (x : Nat) : at_ev ν (at_v x) = ν x := by
  simp [at_ev, at_v, at_evl]
theorem at_eqT_ok {p q : List (Int × Nat)} (h : at_eqT p q = true) : p = q := by
  induction p generalizing q with
  | nil => cases q with
    | nil => rfl
    | cons t q => cases h
  | cons s p ih => cases q with
    | nil => cases h
    | cons t q =>
      unfold at_eqT at h
      simp only [Bool.and_eq_true, decide_eq_true_eq] at h
      obtain ⟨h1, h2, h3⟩ := h
      have h2 := Nat.eq_of_beq_eq_true h2
      obtain ⟨a, b⟩ := s
      obtain ⟨c, d⟩ := t
      dsimp only at h1 h2
      rw [h1, h2, ih h3]
theorem at_eq_ok {a b : at_A} (h : at_eq a b = true) : a = b := by
  unfold at_eq at h
  simp only [Bool.and_eq_true, decide_eq_true_eq] at h
  exact Prod.ext h.1 (at_eqT_ok h.2)
/-- the names' ranges hold -/
def at_Rg (ν : Nat → Int) (sy : List (Int × Int)) : Prop := ∀ x, (at_bd sy x).1 ≤ ν x ∧ ν x ≤ (at_bd sy x).2
def at_GP (ν : Nat → Int) (P : at_P) : Prop := at_Rg ν P.1 ∧ (∀ c ∈ P.2.1, at_ev ν c ≤ 0) ∧ (∀ d ∈ P.2.2, at_ev ν d ≠ 0)
theorem at_los_le {ν : Nat → Int} {sy : List (Int × Int)} (h : at_Rg ν sy) (l : List (Int × Nat)) : at_los sy l ≤ at_evl ν l := by
  induction l with
  | nil => exact Int.le_refl _
  | cons t l ih =>
    unfold at_los at_evl
    obtain ⟨h1, h2⟩ := h t.2
    cases hc : decide (0 < t.1) with
    | true =>
      have hp : 0 ≤ t.1 := Int.le_of_lt (of_decide_eq_true hc)
      have := Int.mul_le_mul_of_nonneg_left h1 hp
      show t.1 * (at_bd sy t.2).1 + _ ≤ _
      omega
    | false =>
      have hp : t.1 ≤ 0 := Int.not_lt.mp (of_decide_eq_false hc)
      have := Int.mul_le_mul_of_nonpos_left hp h2
      show t.1 * (at_bd sy t.2).2 + _ ≤ _
      omega
theorem at_his_le {ν : Nat → Int} {sy : List (Int × Int)} (h : at_Rg ν sy) (l : List (Int × Nat)) : at_evl ν l ≤ at_his sy l := by
  induction l with
  | nil => exact Int.le_refl _
  | cons t l ih =>
    unfold at_his at_evl
    obtain ⟨h1, h2⟩ := h t.2
    cases hc : decide (0 < t.1) with
    | true =>
      have hp : 0 ≤ t.1 := Int.le_of_lt (of_decide_eq_true hc)
      have := Int.mul_le_mul_of_nonneg_left h2 hp
      show _ ≤ t.1 * (at_bd sy t.2).2 + _
      omega
    | false =>
      have hp : t.1 ≤ 0 := Int.not_lt.mp (of_decide_eq_false hc)
      have := Int.mul_le_mul_of_nonpos_left hp h1
      show _ ≤ t.1 * (at_bd sy t.2).1 + _
      omega
theorem at_lo_le {ν : Nat → Int} {sy : List (Int × Int)} (h : at_Rg ν sy) (a : at_A) : at_lo sy a ≤ at_ev ν a := by
  have := at_los_le h a.2
  unfold at_lo at_ev
  omega
theorem at_hi_le {ν : Nat → Int} {sy : List (Int × Int)} (h : at_Rg ν sy) (a : at_A) : at_ev ν a ≤ at_hi sy a := by
  have := at_his_le h a.2
  unfold at_hi at_ev
  omega
theorem at_gcd_dvd {l : List (Int × Nat)} {t : Int × Nat} (h : t ∈ l) : (at_gcd l : Int) ∣ t.1 := by
  induction l with
  | nil => cases h
  | cons q r ih =>
    unfold at_gcd
    rcases List.mem_cons.mp h with rfl | h
    · exact Int.ofNat_dvd_left.mpr (Nat.gcd_dvd_left _ _)
    · exact Int.dvd_trans (Int.natCast_dvd_natCast.mpr (Nat.gcd_dvd_right _ _)) (ih h)
theorem at_evl_div {ν : Nat → Int} {g : Int} {l : List (Int × Nat)} (h : ∀ t ∈ l, g ∣ t.1) : at_evl ν l = g * at_evl ν (l.map (fun t => (t.1 / g, t.2))) := by
  induction l with
  | nil => simp [at_evl]
  | cons t l ih =>
    rw [List.map_cons]
    unfold at_evl
    rw [ih (fun s hs => h s (List.mem_cons_of_mem _ hs)), Int.mul_add]
    dsimp only
    rw [← Int.mul_assoc, Int.mul_ediv_cancel' (h t List.mem_cons_self)]
theorem at_gn_ok (ν : Nat → Int) (a : at_A) : at_ev ν (at_gn a) ≤ 0 ↔ at_ev ν a ≤ 0 := by
  unfold at_gn
  cases hb : Nat.ble (at_gcd a.2) 1 with
  | true => exact Iff.rfl
  | false =>
    have hg : 1 < at_gcd a.2 := by
      rcases Nat.lt_or_ge 1 (at_gcd a.2) with h | h
      · exact h
      · rw [Nat.ble_eq_true_of_le h] at hb; cases hb
    show at_ev ν (-((-a.1) / (at_gcd a.2 : Int)), _) ≤ 0 ↔ _
    have e := at_evl_div (ν := ν) (g := (at_gcd a.2 : Int)) (l := a.2) (fun t ht => at_gcd_dvd ht)
    unfold at_ev
    dsimp only
    rw [e]
    generalize at_evl ν (a.2.map (fun t => (t.1 / (at_gcd a.2 : Int), t.2))) = z
    have hg0 : (0 : Int) < (at_gcd a.2 : Int) := by omega
    generalize (at_gcd a.2 : Int) = g at hg0 ⊢
    have k := Int.le_ediv_iff_mul_le (a := z) (b := -a.1) hg0
    rw [Int.mul_comm] at k
    constructor
    · intro h
      have := k.mp (by omega)
      omega
    · intro h
      have := k.mpr (by omega)
      omega
theorem at_ent_ok {ν : Nat → Int} {P : at_P} (hP : at_GP ν P) : ∀ (d : Nat) (a : at_A), at_ent P d a = true → at_ev ν a ≤ 0 := by
  intro d
  induction d with
  | zero =>
    intro a h
    have h1 := of_decide_eq_true h
    have := at_hi_le hP.1 a
    omega
  | succ d ih =>
    intro a h
    unfold at_ent at h
    rcases (Bool.or_eq_true _ _).mp h with h | h
    · have h1 := of_decide_eq_true h
      have := at_hi_le hP.1 a
      omega
    · split at h
      · cases h
      · obtain ⟨c, hc, h⟩ := List.any_eq_true.mp h
        split at h
        · cases h
        · rename_i t r ec
          simp only [Bool.and_eq_true, decide_eq_true_eq] at h
          obtain ⟨h1, h2, h3⟩ := h
          generalize at_co t.2 (at_gn a).2 = ac at h1 h2 h3
          have h3 := ih _ h3
          rw [at_ev_sub, at_ev_mul] at h3
          have hc0 := hP.2.1 c hc
          refine (at_gn_ok ν a).mp ?_
          have hk : 0 ≤ ac / t.1 := by
            obtain ⟨q, rfl⟩ := Int.dvd_of_emod_eq_zero h2
            have ht : t.1 ≠ 0 := by intro e; rw [e] at h1; simp at h1
            rw [Int.mul_ediv_cancel_left _ ht]
            rcases Int.lt_or_le q 0 with hq | hq
            · exfalso
              have h5 : 0 < t.1 * t.1 := by
                rcases Int.lt_or_lt_of_ne ht with h | h
                · exact Int.mul_pos_of_neg_of_neg h h
                · exact Int.mul_pos h h
              have h6 := Int.mul_neg_of_pos_of_neg h5 hq
              have e : t.1 * q * t.1 = t.1 * t.1 * q := by rw [Int.mul_assoc, Int.mul_comm q, ← Int.mul_assoc]
              omega
            · exact hq
          have := Int.mul_nonpos_of_nonneg_of_nonpos hk hc0
          omega
theorem at_le_ok {ν : Nat → Int} {P : at_P} (hP : at_GP ν P) {a : at_A} (h : at_le P a = true) : at_ev ν a ≤ 0 := at_ent_ok hP 2 a h
theorem at_inR_ok {ν : Nat → Int} {P : at_P} (hP : at_GP ν P) {a : at_A} {lo hi : Int} (h : at_inR P a lo hi = true) : lo ≤ at_ev ν a ∧ at_ev ν a ≤ hi := by
  unfold at_inR at h
  simp only [Bool.and_eq_true, Bool.or_eq_true, decide_eq_true_eq] at h
  obtain ⟨h1, h2⟩ := h
  constructor
  · rcases h1 with h1 | h1
    · have := at_lo_le hP.1 a
      omega
    · have := at_le_ok hP h1
      rw [at_ev_sub, at_ev_c] at this
      omega
  · rcases h2 with h2 | h2
    · have := at_hi_le hP.1 a
      omega
    · have := at_le_ok hP h2
      rw [at_ev_sub, at_ev_c] at this
      omega
theorem at_Rg.set {ν : Nat → Int} {sy : List (Int × Int)} (h : at_Rg ν sy) {x : Nat} {l u : Int} (h1 : l ≤ ν x) (h2 : ν x ≤ u) : at_Rg ν (sy.set x (l, u)) := by
  intro y
  by_cases hy : y = x
  · subst hy
    by_cases hl : y < sy.length
    · have e : at_bd (sy.set y (l, u)) y = (l, u) := by
        unfold at_bd
        rw [List.getD_eq_getElem?_getD, List.getElem?_set_self hl]
        rfl
      rw [e]
      exact ⟨h1, h2⟩
    · have e : sy.set y (l, u) = sy := List.set_eq_of_length_le (by omega)
      rw [e]
      exact h y
  · have e : at_bd (sy.set x (l, u)) y = at_bd sy y := by
      unfold at_bd
      rw [List.getD_eq_getElem?_getD, List.getElem?_set_ne (Ne.symm hy), ← List.getD_eq_getElem?_getD]
    rw [e]
    exact h y
theorem at_los_rest {ν : Nat → Int} {sy : List (Int × Int)} (h : at_Rg ν sy) {l : List (Int × Nat)} {t : Int × Nat} (ht : t ∈ l) : (0 < t.1 → at_los sy l - t.1 * (at_bd sy t.2).1 ≤ at_evl ν l - t.1 * ν t.2) ∧ (¬ 0 < t.1 → at_los sy l - t.1 * (at_bd sy t.2).2 ≤ at_evl ν l - t.1 * ν t.2) := by
  induction l with
  | nil => cases ht
  | cons q r ih =>
    have hr := at_los_le h r
    rcases List.mem_cons.mp ht with rfl | hm
    · have e1 : at_los sy (t :: r) = (bif decide (0 < t.1) then t.1 * (at_bd sy t.2).1 else t.1 * (at_bd sy t.2).2) + at_los sy r := rfl
      have e2 : at_evl ν (t :: r) = t.1 * ν t.2 + at_evl ν r := rfl
      rw [e1, e2]
      constructor
      · intro hp
        rw [decide_eq_true hp]
        dsimp only [cond_true]
        omega
      · intro hp
        rw [decide_eq_false hp]
        dsimp only [cond_false]
        omega
    · have e1 : at_los sy (q :: r) = (bif decide (0 < q.1) then q.1 * (at_bd sy q.2).1 else q.1 * (at_bd sy q.2).2) + at_los sy r := rfl
      have e2 : at_evl ν (q :: r) = q.1 * ν q.2 + at_evl ν r := rfl
      have h1 : at_los sy [q] ≤ at_evl ν [q] := at_los_le h [q]
      have e3 : at_los sy [q] = (bif decide (0 < q.1) then q.1 * (at_bd sy q.2).1 else q.1 * (at_bd sy q.2).2) + 0 := rfl
      have e4 : at_evl ν [q] = q.1 * ν q.2 + 0 := rfl
      rw [e3, e4] at h1
      rw [e1, e2]
      obtain ⟨i1, i2⟩ := ih hm
      exact ⟨fun hp => by have := i1 hp; omega, fun hp => by have := i2 hp; omega⟩
theorem at_ref_ok {ν : Nat → Int} {s0 : List (Int × Int)} {lo tot : Int} (hz : tot ≤ 0) : ∀ (l : List (Int × Nat)) (sy : List (Int × Int)), (∀ t ∈ l, (0 < t.1 → lo - t.1 * (at_bd s0 t.2).1 ≤ tot - t.1 * ν t.2) ∧ (¬ 0 < t.1 → lo - t.1 * (at_bd s0 t.2).2 ≤ tot - t.1 * ν t.2)) → (∀ t ∈ l, t.1 ≠ 0) → at_Rg ν sy → ∃ sy', at_ref s0 lo l sy = some sy' ∧ at_Rg ν sy' ∧ sy'.length = sy.length := by
  intro l
  induction l with
  | nil => intro sy _ _ h; exact ⟨sy, rfl, h, rfl⟩
  | cons t r ih =>
    intro sy hl h0 h
    obtain ⟨k1, k2⟩ := hl t List.mem_cons_self
    have hn := h0 t List.mem_cons_self
    obtain ⟨b1, b2⟩ := h t.2
    unfold at_ref
    cases hc : decide (0 < t.1) with
    | true =>
      have hp := of_decide_eq_true hc
      have k1 := k1 hp
      dsimp only [cond_true]
      have hb : ν t.2 ≤ (-(lo - t.1 * (at_bd s0 t.2).1)) / t.1 := by
        rw [Int.le_ediv_iff_mul_le hp, Int.mul_comm]
        omega
      have hle : (at_bd sy t.2).1 ≤ min (at_bd sy t.2).2 ((-(lo - t.1 * (at_bd s0 t.2).1)) / t.1) := by omega
      rw [decide_eq_true hle]
      dsimp only [cond_true]
      obtain ⟨sy', e1, e2, e3⟩ := ih (sy.set t.2 ((at_bd sy t.2).1, min (at_bd sy t.2).2 ((-(lo - t.1 * (at_bd s0 t.2).1)) / t.1))) (fun s hs => hl s (List.mem_cons_of_mem _ hs)) (fun s hs => h0 s (List.mem_cons_of_mem _ hs)) (h.set b1 (by omega))
      exact ⟨sy', e1, e2, by rw [e3, List.length_set]⟩
    | false =>
      have hp := of_decide_eq_false hc
      have k2 := k2 hp
      dsimp only [cond_false]
      have hneg : 0 < -t.1 := by omega
      have hb : -((-(lo - t.1 * (at_bd s0 t.2).2)) / (-t.1)) ≤ ν t.2 := by
        have : -ν t.2 ≤ (-(lo - t.1 * (at_bd s0 t.2).2)) / (-t.1) := by
          rw [Int.le_ediv_iff_mul_le hneg, Int.neg_mul_neg, Int.mul_comm]
          omega
        omega
      have hle : max (at_bd sy t.2).1 (-((-(lo - t.1 * (at_bd s0 t.2).2)) / (-t.1))) ≤ (at_bd sy t.2).2 := by omega
      rw [decide_eq_true hle]
      dsimp only [cond_true]
      obtain ⟨sy', e1, e2, e3⟩ := ih (sy.set t.2 (max (at_bd sy t.2).1 (-((-(lo - t.1 * (at_bd s0 t.2).2)) / (-t.1))), (at_bd sy t.2).2)) (fun s hs => hl s (List.mem_cons_of_mem _ hs)) (fun s hs => h0 s (List.mem_cons_of_mem _ hs)) (h.set (by omega) b2)
      exact ⟨sy', e1, e2, by rw [e3, List.length_set]⟩

theorem at_as_ok {ν : Nat → Int} {P : at_P} (hP : at_GP ν P) {a : at_A} (h : at_ev ν a ≤ 0) : ∃ P', at_as P a = some P' ∧ at_GP ν P' ∧ P'.1.length = P.1.length := by
  unfold at_as
  cases h1 : decide (at_hi P.1 a ≤ 0) with
  | true => exact ⟨P, rfl, hP, rfl⟩
  | false =>
    dsimp only [cond_false]
    have hlo : ¬ 0 < at_lo P.1 a := by have := at_lo_le hP.1 a; omega
    rw [decide_eq_false hlo]
    dsimp only [cond_false]
    cases h2 : at_le P a with
    | true => exact ⟨P, rfl, hP, rfl⟩
    | false =>
      dsimp only [cond_false]
      cases h3 : at_le P (at_sub (at_c 1) a) with
      | true =>
        exfalso
        have := at_le_ok hP h3
        rw [at_ev_sub, at_ev_c] at this
        omega
      | false =>
        dsimp only [cond_false]
        have hg := (at_gn_ok ν a).mpr h
        have key : ∃ sy, (bif (at_gn a).2.all (fun t => !decide (t.1 = 0)) then at_ref P.1 (at_lo P.1 (at_gn a)) (at_gn a).2 P.1 else some P.1) = some sy ∧ at_Rg ν sy ∧ sy.length = P.1.length := by
          cases hb : (at_gn a).2.all (fun t => !decide (t.1 = 0)) with
          | false => exact ⟨P.1, rfl, hP.1, rfl⟩
          | true =>
            refine at_ref_ok hg (at_gn a).2 P.1 (fun t ht => ?_) (fun t ht => ?_) hP.1
            · obtain ⟨k1, k2⟩ := at_los_rest hP.1 ht
              unfold at_lo at_ev
              exact ⟨fun hp => by have := k1 hp; omega, fun hp => by have := k2 hp; omega⟩
            · have := List.all_eq_true.mp hb t ht
              simpa using this
        obtain ⟨sy, e, e2, e3⟩ := key
        rw [e]
        refine ⟨_, rfl, ⟨e2, ?_, hP.2.2⟩, e3⟩
        intro c hc
        rcases List.mem_cons.mp hc with rfl | hc
        · exact hg
        · exact hP.2.1 c hc
theorem at_as_no {ν : Nat → Int} {P : at_P} (hP : at_GP ν P) {a : at_A} (h : at_as P a = none) : ¬ at_ev ν a ≤ 0 := by
  intro h2
  obtain ⟨P', e, -⟩ := at_as_ok hP h2
  rw [h] at e
  cases e
theorem at_as_yes {ν : Nat → Int} {P P' : at_P} (hP : at_GP ν P) {a : at_A} (h : at_as P a = some P') (h2 : at_ev ν a ≤ 0) : at_GP ν P' ∧ P'.1.length = P.1.length := by
  obtain ⟨P'', e, e2⟩ := at_as_ok hP h2
  rw [h] at e
  cases e
  exact e2
theorem at_nz_ok {ν : Nat → Int} {P : at_P} (hP : at_GP ν P) {d : at_A} (h : at_nz P d = true) : at_ev ν d ≠ 0 := by
  unfold at_nz at h
  simp only [Bool.or_eq_true, Bool.and_eq_true, decide_eq_true_eq, Bool.not_eq_true', decide_eq_false_iff_not] at h
  rcases h with h | h | ⟨h1, h2⟩
  · have := at_lo_le hP.1 d; omega
  · have := at_hi_le hP.1 d; omega
  · intro e
    have e2 := at_evl_div (ν := ν) (g := (at_gcd d.2 : Int)) (l := d.2) (fun t ht => at_gcd_dvd ht)
    unfold at_ev at e
    rw [e2] at e
    have e3 : d.1 = (at_gcd d.2 : Int) * (-at_evl ν (d.2.map (fun t => (t.1 / (at_gcd d.2 : Int), t.2)))) := by rw [Int.mul_neg]; omega
    exact h2 (Int.emod_eq_zero_of_dvd ⟨_, e3⟩)
/-- only names below n -/
def at_wf (n : Nat) (a : at_A) : Prop := ∀ t ∈ a.2, t.2 < n
theorem at_wf.mono {n k : Nat} {a : at_A} (h : at_wf n a) (hk : n ≤ k) : at_wf k a := fun t ht => Nat.lt_of_lt_of_le (h t ht) hk
theorem at_ins_mem {t s : Int × Nat} {l : List (Int × Nat)} (h : s ∈ at_ins t l) : s.2 = t.2 ∨ ∃ q ∈ l, s.2 = q.2 := by
  induction l with
  | nil =>
    rcases List.mem_cons.mp h with rfl | h
    · exact Or.inl rfl
    · cases h
  | cons q r ih =>
    unfold at_ins at h
    cases h1 : Nat.beq t.2 q.2 with
    | true =>
      rw [h1] at h
      dsimp only [cond_true] at h
      cases h2 : decide (t.1 + q.1 = 0) with
      | true =>
        rw [h2] at h
        exact Or.inr ⟨s, List.mem_cons_of_mem _ h, rfl⟩
      | false =>
        rw [h2] at h
        rcases List.mem_cons.mp h with rfl | h
        · exact Or.inr ⟨q, List.mem_cons_self, rfl⟩
        · exact Or.inr ⟨s, List.mem_cons_of_mem _ h, rfl⟩
    | false =>
      rw [h1] at h
      dsimp only [cond_false] at h
      cases h2 : Nat.blt t.2 q.2 with
      | true =>
        rw [h2] at h
        rcases List.mem_cons.mp h with rfl | h
        · exact Or.inl rfl
        · exact Or.inr ⟨s, h, rfl⟩
      | false =>
        rw [h2] at h
        rcases List.mem_cons.mp h with rfl | h
        · exact Or.inr ⟨s, List.mem_cons_self, rfl⟩
        · rcases ih h with h | ⟨u, hu, e⟩
          · exact Or.inl h
          · exact Or.inr ⟨u, List.mem_cons_of_mem _ hu, e⟩
theorem at_wf_add {n : Nat} {a b : at_A} (ha : at_wf n a) (hb : at_wf n b) : at_wf n (at_add a b) := by
  have key : ∀ l : List (Int × Nat), (∀ t ∈ l, t.2 < n) → ∀ t ∈ l.foldr at_ins b.2, t.2 < n := by
    intro l
    induction l with
    | nil => intro _ t ht; exact hb t ht
    | cons q r ih =>
      intro hl t ht
      rcases at_ins_mem (by simpa using ht) with e | ⟨u, hu, e⟩
      · rw [e]; exact hl q List.mem_cons_self
      · rw [e]; exact ih (fun s hs => hl s (List.mem_cons_of_mem _ hs)) u hu
  exact key a.2 ha
theorem at_wf_mul {n : Nat} {k : Int} {a : at_A} (ha : at_wf n a) : at_wf n (at_mul k a) := by
  unfold at_mul
  cases decide (k = 0) with
  | true => intro t ht; cases ht
  | false =>
    intro t ht
    obtain ⟨s, hs, rfl⟩ := List.mem_map.mp ht
    exact ha s hs
theorem at_wf_sub {n : Nat} {a b : at_A} (ha : at_wf n a) (hb : at_wf n b) : at_wf n (at_sub a b) := at_wf_add (at_wf_mul hb) ha
theorem at_wf_c {n : Nat} {k : Int} : at_wf n (at_c k) := fun t ht => by cases ht
theorem at_wf_gn {n : Nat} {a : at_A} (ha : at_wf n a) : at_wf n (at_gn a) := by
  unfold at_gn
  cases Nat.ble (at_gcd a.2) 1 with
  | true => exact ha
  | false =>
    intro t ht
    obtain ⟨s, hs, rfl⟩ := List.mem_map.mp ht
    exact ha s hs
/-- two valuations agree below n -/
def at_ag (n : Nat) (ν ν' : Nat → Int) : Prop := ∀ x, x < n → ν' x = ν x
theorem at_ag.rfl {n : Nat} {ν : Nat → Int} : at_ag n ν ν := fun _ _ => Eq.refl _
theorem at_ag.trans {n k : Nat} {ν ν' ν'' : Nat → Int} (h : at_ag n ν ν') (h2 : at_ag k ν' ν'') (hk : n ≤ k) : at_ag n ν ν'' := fun x hx => (h2 x (Nat.lt_of_lt_of_le hx hk)).trans (h x hx)
theorem at_evl_ag {n : Nat} {ν ν' : Nat → Int} (h : at_ag n ν ν') {l : List (Int × Nat)} (hl : ∀ t ∈ l, t.2 < n) : at_evl ν' l = at_evl ν l := by
  induction l with
  | nil => rfl
  | cons t r ih =>
    unfold at_evl
    rw [h t.2 (hl t List.mem_cons_self), ih (fun s hs => hl s (List.mem_cons_of_mem _ hs))]
theorem at_ev_ag {n : Nat} {ν ν' : Nat → Int} (h : at_ag n ν ν') {a : at_A} (ha : at_wf n a) : at_ev ν' a = at_ev ν a := by
  unfold at_ev
  rw [at_evl_ag h ha]
/-- the path's conditions speak of names that are there -/
def at_wP (P : at_P) : Prop := (∀ c ∈ P.2.1, at_wf P.1.length c) ∧ (∀ d ∈ P.2.2, at_wf P.1.length d)
theorem at_as_wf {P P' : at_P} {a : at_A} (hP : at_wP P) (ha : at_wf P.1.length a) (h : at_as P a = some P') (hl : P'.1.length = P.1.length) : at_wP P' := by
  unfold at_as at h
  cases h1 : decide (at_hi P.1 a ≤ 0) with
  | true => rw [h1] at h; cases h; exact hP
  | false =>
    rw [h1] at h
    dsimp only [cond_false] at h
    cases h2 : decide (0 < at_lo P.1 a) with
    | true => rw [h2] at h; cases h
    | false =>
      rw [h2] at h
      dsimp only [cond_false] at h
      cases h3 : at_le P a with
      | true => rw [h3] at h; cases h; exact hP
      | false =>
        rw [h3] at h
        dsimp only [cond_false] at h
        cases h4 : at_le P (at_sub (at_c 1) a) with
        | true => rw [h4] at h; cases h
        | false =>
          rw [h4] at h
          dsimp only [cond_false] at h
          split at h
          · cases h
            dsimp only at hl
            unfold at_wP
            dsimp only
            rw [hl]
            refine ⟨fun c hc => ?_, hP.2⟩
            rcases List.mem_cons.mp hc with rfl | hc
            · exact at_wf_gn ha
            · exact hP.1 c hc
          · cases h
/-- what is known of a path -/
def at_KP (ν : Nat → Int) (P : at_P) : Prop := at_GP ν P ∧ at_wP P
/-- more is known; the names that were there stand for the same -/
def at_X (ν : Nat → Int) (P : at_P) (ν' : Nat → Int) (P' : at_P) : Prop := at_ag P.1.length ν ν' ∧ P.1.length ≤ P'.1.length ∧ at_KP ν' P'
theorem at_X.rfl {ν : Nat → Int} {P : at_P} (h : at_KP ν P) : at_X ν P ν P := ⟨at_ag.rfl, Nat.le_refl _, h⟩
theorem at_X.trans {ν ν' ν'' : Nat → Int} {P P' P'' : at_P} (h : at_X ν P ν' P') (h2 : at_X ν' P' ν'' P'') : at_X ν P ν'' P'' := ⟨h.1.trans h2.1 h.2.1, Nat.le_trans h.2.1 h2.2.1, h2.2.2⟩
theorem at_as_X {ν : Nat → Int} {P : at_P} (hP : at_KP ν P) {a : at_A} (ha : at_wf P.1.length a) (h : at_ev ν a ≤ 0) : ∃ P', at_as P a = some P' ∧ at_X ν P ν P' ∧ P'.1.length = P.1.length := by
  obtain ⟨P', e, h1, h2⟩ := at_as_ok hP.1 h
  exact ⟨P', e, ⟨at_ag.rfl, by omega, h1, at_as_wf hP.2 ha e h2⟩, h2⟩
theorem at_bd_new {sy : List (Int × Int)} {q : Int × Int} {x : Nat} (h : x ≠ sy.length) : at_bd (sy ++ [q]) x = at_bd sy x := by
  unfold at_bd
  rw [List.getD_eq_getElem?_getD, List.getD_eq_getElem?_getD]
  rcases Nat.lt_or_ge x sy.length with hl | hl
  · rw [List.getElem?_append_left hl]
  · rw [List.getElem?_append_right hl, List.getElem?_eq_none (l := [q]) (by simp; omega), List.getElem?_eq_none hl]
theorem at_bd_newS {sy : List (Int × Int)} {q : Int × Int} : at_bd (sy ++ [q]) sy.length = q := by
  unfold at_bd
  simp [List.getD_eq_getElem?_getD]
theorem at_new_X {ν : Nat → Int} {P : at_P} (hP : at_KP ν P) {lo hi x : Int} (h1 : lo ≤ x) (h2 : x ≤ hi) : ∃ ν', at_X ν P ν' (at_new P lo hi) ∧ at_wf (at_new P lo hi).1.length (at_nv P) ∧ at_ev ν' (at_nv P) = x := by
  have hag : at_ag P.1.length ν (fun y => if y = P.1.length then x else ν y) := fun y hy => if_neg (by omega)
  have hlen : (at_new P lo hi).1.length = P.1.length + 1 := by simp [at_new]
  refine ⟨fun y => if y = P.1.length then x else ν y, ⟨hag, by omega, ⟨?_, ?_, ?_⟩, ?_, ?_⟩, ?_, ?_⟩
  · intro y
    show (at_bd (P.1 ++ [(lo, hi)]) y).1 ≤ _ ∧ _ ≤ (at_bd (P.1 ++ [(lo, hi)]) y).2
    by_cases hy : y = P.1.length
    · subst hy
      rw [at_bd_newS]
      simp [h1, h2]
    · rw [at_bd_new hy]
      simp only [if_neg hy]
      exact hP.1.1 y
  · intro c hc
    rw [at_ev_ag hag (hP.2.1 c hc)]
    exact hP.1.2.1 c hc
  · intro d hd
    rw [at_ev_ag hag (hP.2.2 d hd)]
    exact hP.1.2.2 d hd
  · intro c hc
    exact (hP.2.1 c hc).mono (by omega)
  · intro d hd
    exact (hP.2.2 d hd).mono (by omega)
  · intro t ht
    have : t = (1, P.1.length) := by simpa [at_nv, at_v] using ht
    rw [this]
    show P.1.length < _
    omega
  · unfold at_nv
    rw [at_ev_v]
    simp
