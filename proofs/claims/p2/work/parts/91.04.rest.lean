/-! ===== the rest curve, the least part by volts: as functions ===== -/
def t2_rb (x : Int32) : Int32 := Int32.ofInt (t2_rv x.toInt.toNat)
theorem t2_rvb (p : Nat) : 0 ≤ t2_rv p ∧ t2_rv p ≤ 4700 := by
  unfold t2_rv
  split
  · have := t2_Tb ⟨10, by omega⟩
    dsimp only at this
    omega
  · rename_i h
    have h1 := t2_Tb ⟨p / 100, by omega⟩
    have h2 := t2_Td ⟨p / 100, by omega⟩
    dsimp only at h1 h2
    have h3 : 0 ≤ (t2_T (p / 100 + 1) - t2_T (p / 100)) * ((p % 100 : Nat) : Int) := Int.mul_nonneg h2.1 (by omega)
    have h4 : (t2_T (p / 100 + 1) - t2_T (p / 100)) * ((p % 100 : Nat) : Int) ≤ 450 * 99 := Int.mul_le_mul h2.2 (by omega) (by omega) (by omega)
    omega
theorem t2_rbi (x : Int32) : (t2_rb x).toInt = t2_rv x.toInt.toNat := by
  have := t2_rvb x.toInt.toNat
  unfold t2_rb
  exact Int32.toInt_ofInt_of_le (by omega) (by omega)
noncomputable def t2_pb (v : Int32) : Int32 := Int32.ofNat (Classical.epsilon (fun n => t2_lp v.toInt n))
section T2RB
variable {L : Nat} {xs : Nat → Int32} {f : t2_F} {l : t2_L} {Q : Option fl_V → fl_M → Prop}
theorem t2_restBy_q {x : Int32} (hx : 0 ≤ x.toInt) (k : Q (some (.inl (t2_rb x))) (f, l)) : fl_Tq (pw_P L xs) 178 0 (fl_args (am_mxl (pw_P L xs) 178) [.inl x]) [] (f, l) Q := by
  refine t2_restBy (p := x.toInt.toNat) (by omega) (fun v hv => ?_)
  have : v = t2_rb x := Int32.toInt.inj (by rw [hv, t2_rbi])
  rw [this]
  exact k
theorem r_restOf_q {x : Int32} (hr : t2_RS f) (hx : 0 ≤ x.toInt) (hx2 : x.toInt ≤ 1000) (k : Q (some (.inl (t2_rb x))) (f, l)) : fl_Tq (pw_P L xs) 198 0 (fl_args (am_mxl (pw_P L xs) 198) [at_this, .inl x]) [] (f, l) Q := by
  refine t2_restOf (m := (f, l)) hr (p := x.toInt.toNat) (by omega) (by omega) (fun v hv => ?_)
  have : v = t2_rb x := Int32.toInt.inj (by rw [hv, t2_rbi])
  rw [this]
  exact k
theorem t2_pbi {v x : Int32} {n : Nat} (hx : x.toInt = n) (h : t2_lp v.toInt n) : x = t2_pb v := by
  have h2 : t2_lp v.toInt (Classical.epsilon (fun n => t2_lp v.toInt n)) := Classical.epsilon_spec ⟨n, h⟩
  have h3 := t2_lp_u h h2
  unfold t2_pb
  rw [← h3]
  refine Int32.toInt.inj ?_
  rw [hx, at_ofN (by have := h.1; omega)]
theorem t2_pb_q {v : Int32} (k : Q (some (.inl (t2_pb v))) (f, l)) : fl_Tq (pw_P L xs) 179 0 (fl_args (am_mxl (pw_P L xs) 179) [.inl v]) [] (f, l) Q := by
  refine t2_byVolts (fun x n hx hn => ?_)
  rw [t2_pbi hx hn]
  exact k
theorem r_leastBy_q {v : Int32} (hr : t2_RS f) (k : Q (some (.inl (t2_pb v))) (f, l)) : fl_Tq (pw_P L xs) 223 0 (fl_args (am_mxl (pw_P L xs) 223) [at_this, .inl v]) [] (f, l) Q := by
  refine t2_leastBy (m := (f, l)) hr (fun x n hx hn => ?_)
  rw [t2_pbi hx hn]
  exact k
end T2RB
theorem fl_Tq.swI {P : am_Pg} {mi pc t : Nat} {d lo hi k : Int} {offs : Array Int} {x : Int32} {lv : fl_L} {r : List fl_V} {m : fl_M} {Q : Option fl_V → fl_M → Prop} (hc : am_code P mi pc = some (.tableswitch d lo hi offs)) (hok : ∀ v ∈ (.inl x :: r : List fl_V), fl_ok m.2.2 v) (hx : x.toInt = k) (hk : am_swk (Int32.ofInt k) lo hi offs = true) (ht : am_tg pc (am_sw (Int32.ofInt k) d lo hi offs) = some t) (q : fl_Tq P mi t lv r m Q) : fl_Tq P mi pc lv (.inl x :: r) m Q := by
  have e : x = Int32.ofInt k := by rw [← hx, Int32.ofInt_toInt]
  refine fl_Tq.stp hc rfl hok ?_ q
  show (bif am_swk x lo hi offs then fl_go pc (am_sw x d lo hi offs) lv r m else none) = _
  rw [e, hk]
  show fl_go pc (am_sw (Int32.ofInt k) d lo hi offs) lv r m = _
  unfold fl_go
  rw [ht]
theorem fl_Tq.swD {P : am_Pg} {mi pc t : Nat} {d lo hi : Int} {offs : Array Int} {x : Int32} {lv : fl_L} {r : List fl_V} {m : fl_M} {Q : Option fl_V → fl_M → Prop} (hc : am_code P mi pc = some (.tableswitch d lo hi offs)) (hok : ∀ v ∈ (.inl x :: r : List fl_V), fl_ok m.2.2 v) (hx : x.toInt < lo ∨ hi < x.toInt) (ht : am_tg pc d = some t) (q : fl_Tq P mi t lv r m Q) : fl_Tq P mi pc lv (.inl x :: r) m Q := by
  refine fl_Tq.stp hc rfl hok ?_ q
  show (bif am_swk x lo hi offs then fl_go pc (am_sw x d lo hi offs) lv r m else none) = _
  have e1 : am_swk x lo hi offs = true := by
    unfold am_swk
    rw [decide_eq_true hx]
    rfl
  have e2 : am_sw x d lo hi offs = d := by
    unfold am_sw
    rw [if_pos hx]
  rw [e1, e2]
  show fl_go pc d lv r m = _
  unfold fl_go
  rw [ht]
def t2_cap (x : Int32) : Prop := 100 ≤ x.toInt ∧ x.toInt ≤ 9999
theorem t2_full_i {x : Int32} (h : t2_cap x) : (x * (3600 : Int32)).toInt = x.toInt * 3600 := by
  obtain ⟨h1, h2⟩ := h
  have e : (3600 : Int32).toInt = 3600 := by decide +kernel
  rw [at_mul32] <;> rw [e] <;> omega
theorem t2_heldTo_b {v lo hi : Int32} (h : lo.toInt ≤ hi.toInt) : lo.toInt ≤ (t2_heldTo_v v lo hi).toInt ∧ (t2_heldTo_v v lo hi).toInt ≤ hi.toInt := by
  unfold t2_heldTo_v
  split
  · omega
  · split <;> omega
theorem t2_i64 (x : Int32) : x.toInt64.toInt = x.toInt := Int32.toInt_toInt64 x
theorem t2_partOf_b {c x : Int32} (h1 : 0 ≤ c.toInt) (h2 : c.toInt ≤ x.toInt) : (t2_partOf_v c x).toInt = (if 0 < x.toInt then c.toInt * 1000 / x.toInt else 0) ∧ 0 ≤ (t2_partOf_v c x).toInt ∧ (t2_partOf_v c x).toInt ≤ 1000 := by
  unfold t2_partOf_v
  split
  · rename_i hx
    have b1 := at_i32 c
    have b2 := at_i32 x
    have e1 : (c.toInt64 * (1000 : Int64)).toInt = c.toInt * 1000 := by
      rw [Int64.toInt_mul, t2_i64]
      have : (1000 : Int64).toInt = 1000 := by decide +kernel
      rw [this]
      exact Int.bmod_eq_of_le (by omega) (by omega)
    have q1 : 0 ≤ c.toInt * 1000 / x.toInt := Int.ediv_nonneg (by omega) (by omega)
    have q2 : c.toInt * 1000 / x.toInt ≤ 1000 := by
      refine Int.ediv_le_of_le_mul hx ?_
      have := Int.mul_le_mul_of_nonneg_right h2 (show (0 : Int) ≤ 1000 by omega)
      rw [Int.mul_comm 1000]
      exact this
    have e2 : (c.toInt64 * (1000 : Int64) / x.toInt64).toInt = c.toInt * 1000 / x.toInt := by
      rw [Int64.toInt_div, e1, t2_i64, Int.tdiv_eq_ediv_of_nonneg (by omega)]
      exact Int.bmod_eq_of_le (by omega) (by omega)
    have e3 : ((c.toInt64 * (1000 : Int64)) / x.toInt64).toInt32.toInt = c.toInt * 1000 / x.toInt := by
      rw [Int64.toInt_toInt32, e2]
      exact Int.bmod_eq_of_le (by omega) (by omega)
    rw [e3]
    exact ⟨rfl, q1, q2⟩
  · refine ⟨rfl, ?_, ?_⟩ <;> decide +kernel
theorem t2_ph {v x : Int32} (h : t2_cap x) : 0 ≤ (t2_partOf_v (t2_heldTo_v v (0 : Int32) (x * (3600 : Int32))) (x * (3600 : Int32))).toInt := by
  have e := t2_full_i h
  have h0 : (0 : Int32).toInt = 0 := rfl
  have := t2_heldTo_b (v := v) (lo := 0) (hi := x * (3600 : Int32)) (by rw [e, h0]; have := h.1; omega)
  exact (t2_partOf_b (by omega) this.2).2.1
theorem t2_abs_nz {x : Int32} (h : ¬ (t2_abs_v x).toInt < (1000 : Int32).toInt) : x ≠ 0 := by
  intro e
  apply h
  rw [e]
  decide +kernel
theorem t2_way_nz {x : Int32} (h : ¬ x.toInt < (100 : Int32).toInt) : x.toInt64 * (3600 : Int64) ≠ 0 := by
  intro e
  have h1 := congrArg Int64.toInt e
  have b := at_i32 x
  have e100 : (100 : Int32).toInt = 100 := by decide +kernel
  have e36 : (3600 : Int64).toInt = 3600 := by decide +kernel
  rw [Int64.toInt_mul, t2_i64, e36, Int.bmod_eq_of_le (by omega) (by omega)] at h1
  have : (0 : Int64).toInt = 0 := rfl
  omega
theorem fl_Tq.gfR {P : am_Pg} {mi pc i p p' d τ τ' : Nat} {lv : fl_L} {r : List fl_V} {m : fl_M} {Q : Option fl_V → fl_M → Prop} (hc : am_code P mi pc = some (.getfield i)) (hok : ∀ u ∈ (.inr (.inr (.inl (τ, p))) :: r : List fl_V), fl_ok m.2.2 u) (hst : fl_gf P (am_own P mi) i pc lv (.inr (.inr (.inl (τ, p))) :: r) m = some (pc + 3, lv, .inr (.inr (.inl (τ', p + d))) :: r, m)) (he : p + d = p') (q : fl_Tq P mi (pc + 3) lv (.inr (.inr (.inl (τ', p'))) :: r) m Q) : fl_Tq P mi pc lv (.inr (.inr (.inl (τ, p))) :: r) m Q := by
  subst he
  exact fl_Tq.stp hc rfl hok hst q
theorem t2_lk {k n : Nat} {b : Int32} (hk : k < n) (hb : b.toInt = n) : (Int32.ofNat k).toInt < b.toInt := by
  have := at_i32 b
  rw [hb, at_ofN (by omega)]
  omega
theorem t2_ln {n : Nat} {b : Int32} (hb : b.toInt = n) : ¬ ((Int32.ofNat n).toInt < b.toInt) := by
  have := at_i32 b
  rw [hb, at_ofN (by omega)]
  omega
theorem t2_for {n : Nat} {S : Nat → Prop} (hs : ∀ k : Nat, k < n → S (k + 1) → S k) (h : S n) : S 0 := by
  have H : ∀ d k : Nat, k + d = n → S k := by
    intro d
    induction d with
    | zero =>
      intro k e
      have : k = n := by omega
      rw [this]
      exact h
    | succ d ih =>
      intro k e
      exact hs k (by omega) (ih (k + 1) (by omega))
  exact H n 0 (by omega)
theorem t2_k1 (k : Nat) : Int32.ofNat k + (1 : Int32) = Int32.ofNat (k + 1) := by
  exact (Int32.ofNat_add k 1).symm
theorem t2_nn {x : Int32} (h : 0 ≤ x.toInt) : x.toInt = ((x.toInt.toNat : Nat) : Int) := by omega
theorem t2_i2 {k : Nat} (h : k < 1000) : (Int32.ofNat k * (2 : Int32)).toInt = ((2 * k : Nat) : Int) := by
  have e : (2 : Int32).toInt = 2 := by decide +kernel
  have ek := at_ofN (k := k) (by omega)
  rw [at_mul32] <;> rw [e, ek] <;> omega
theorem t2_i21 {k : Nat} (h : k < 1000) : (Int32.ofNat k * (2 : Int32) + (1 : Int32)).toInt = ((2 * k + 1 : Nat) : Int) := by
  have e : (1 : Int32).toInt = 1 := by decide +kernel
  have ek := t2_i2 h
  rw [at_add32] <;> rw [e, ek] <;> omega
def fl_le : fl_L → fl_L → Prop
  | [], _ => True
  | none :: r, _ :: r' => fl_le r r'
  | some a :: r, b :: r' => b = some a ∧ fl_le r r'
  | _ :: _, [] => False
theorem fl_le_ok : ∀ {a b : fl_L}, fl_le a b → ∀ (j : Nat) (w : fl_V), a[j]? = some (some w) → b[j]? = some (some w) := by
  intro a
  induction a with
  | nil => intro b _ j w h; simp at h
  | cons x r ih =>
    intro b hb j w h
    cases b with
    | nil => cases x <;> exact hb.elim
    | cons y r' =>
      cases x with
      | none =>
        cases j with
        | zero => simp at h
        | succ j => exact ih (b := r') hb j w h
      | some a =>
        cases j with
        | zero =>
          have h : a = w := by simpa using h
          rw [← h]
          have := hb.1
          simp [this]
        | succ j => exact ih (b := r') hb.2 j w h
theorem fl_Tq.fg {P : am_Pg} {mi pc : Nat} {lv lv' : fl_L} {st : List fl_V} {m : fl_M} {Q : Option fl_V → fl_M → Prop} (h : fl_Tq P mi pc lv st m Q) (hle : fl_le lv lv') : fl_Tq P mi pc lv' st m Q :=
  fun la hl => h la (fun j w e => hl j w (fl_le_ok hle j w e))
theorem t2_ia {a b : Int32} {A B : Nat} (ha : a.toInt = (A : Int)) (hb : b.toInt = (B : Int)) (h : A + B < 2147483648) : (a + b).toInt = ((A + B : Nat) : Int) := by
  rw [at_add32] <;> rw [ha, hb] <;> omega
theorem t2_is {a b : Int32} {A B : Nat} (ha : a.toInt = (A : Int)) (hb : b.toInt = (B : Int)) (h : B ≤ A) : (a - b).toInt = ((A - B : Nat) : Int) := by
  have := at_i32 a
  have := at_i32 b
  rw [at_sub32] <;> rw [ha, hb] <;> omega
theorem t2_im {a b : Int32} {A B : Nat} (ha : a.toInt = (A : Int)) (hb : b.toInt = (B : Int)) (h : A * B < 2147483648) : (a * b).toInt = ((A * B : Nat) : Int) := by
  have e : ((A * B : Nat) : Int) = (A : Int) * (B : Int) := Int.natCast_mul A B
  have h0 : (0 : Int) ≤ (A : Int) * (B : Int) := by rw [← e]; omega
  rw [at_mul32] <;> rw [ha, hb]
  · exact e.symm
  · omega
  · rw [← e]; omega
theorem t2_Em {α : Type} {E : Nat → Option α} (hm : ∀ (k : Nat) (r : α), E k = some r → E (k + 1) = some r) {k n : Nat} {r : α} (h : E k = some r) (hk : k ≤ n) : E n = some r := by
  obtain ⟨d, rfl⟩ := Nat.exists_eq_add_of_le hk
  clear hk
  induction d with
  | zero => exact h
  | succ d ih => exact hm _ _ ih
theorem t2_forE {α : Type} {n : Nat} {E : Nat → Option α} {S : Nat → Prop} (hs : ∀ k : Nat, k < n → E k = none → (E (k + 1) = none → S (k + 1)) → S k) (h0 : E 0 = none) (h : E n = none → S n) : S 0 := by
  have H : ∀ d k : Nat, k + d = n → E k = none → S k := by
    intro d
    induction d with
    | zero =>
      intro k e he
      have : k = n := by omega
      rw [this] at he ⊢
      exact h he
    | succ d ih =>
      intro k e he
      exact hs k (by omega) he (fun h1 => ih (k + 1) (by omega) h1)
  exact H n 0 (by omega) h0
theorem t2_tx {x d : Int32} {D : Nat} (hd : d.toInt = D) (h1 : D ≤ x.toInt) (h2 : x.toInt ≤ 32) (h3 : 2 ≤ D) : 0 ≤ (x - d).toInt ∧ (x - d).toInt + 1 < 32 := by
  rw [at_sub32] <;> rw [hd] <;> omega
def t2_pt (x : Int32) : Prop := 0 ≤ x.toInt ∧ x.toInt ≤ 9999000
def t2_p32 (g : Nat → Int32) : Prop := ∀ k : Nat, k < 32 → t2_pt (g k)
theorem t2_p32.upd {g : Nat → Int32} {j : Nat} {x : Int32} (h : t2_p32 g) (hx : t2_pt x) : t2_p32 (upd g j x) := fun k hk => by
  by_cases e : k = j
  · subst e
    rw [upd_self]
    exact hx
  · rw [upd_ne e]
    exact h k hk
theorem t2_p32.cpy {g : Nat → Int32} (h : t2_p32 g) : t2_p32 (va_cpy g g 1 0 31) := fun k hk => by
  unfold va_cpy
  split
  · exact h _ (by omega)
  · exact h k hk
theorem t2_cyi {x : Int32} (hx : 0 ≤ x.toInt) : 0 ≤ (t2_min_v (x / (100 : Int32)) (10 : Int32)).toInt ∧ (t2_min_v (x / (100 : Int32)) (10 : Int32)).toInt ≤ 10 := by
  have e : (100 : Int32).toInt = 100 := by decide +kernel
  have e1 : (10 : Int32).toInt = 10 := by decide +kernel
  have d := at_div32 (x := x) (y := (100 : Int32)) hx (by omega)
  rw [e] at d
  unfold t2_min_v
  split <;> omega
