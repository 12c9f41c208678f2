/-! ===== tools for methods that are gone through by hand ===== -/
def fl_oks (h : Nat) : List fl_V → Prop
  | [] => True
  | v :: r => fl_ok h v ∧ fl_oks h r
theorem fl_oks_ok {h : Nat} : ∀ {st : List fl_V}, fl_oks h st → ∀ v ∈ st, fl_ok h v := by
  intro st
  induction st with
  | nil => intro _ v hv; cases hv
  | cons w r ih =>
    intro hs v hv
    rcases List.mem_cons.mp hv with rfl | hv
    · exact hs.1
    · exact ih hs.2 v hv
theorem fl_okp {h τ p : Nat} (hk : fk_K p = τ) (hp : p < 285) : fl_ok h (.inr (.inr (.inl (τ, p)))) := ⟨hk, by unfold fl_N; omega⟩
def fl_vb (v : fl_V) : Bool := match v with
  | .inr (.inr (.inl q)) => Nat.beq (fk_K q.2) q.1 && Nat.blt q.2 285
  | _ => true
theorem fl_bo {h : Nat} : ∀ {st : List fl_V}, st.all fl_vb = true → ∀ v ∈ st, fl_ok h v := by
  intro st hs v hv
  have := List.all_eq_true.mp hs v hv
  unfold fl_ok
  split
  · rename_i q
    have this : (Nat.beq (fk_K q.2) q.1 && Nat.blt q.2 285) = true := this
    rw [Bool.and_eq_true] at this
    have h2 : q.2 < 285 := Nat.le_of_ble_eq_true this.2
    exact ⟨Nat.eq_of_beq_eq_true this.1, by unfold fl_N; omega⟩
  · exact True.intro
section FTL
variable {P : am_Pg} {pc t p k : Nat} {off : Int} {lv : fl_L} {r : List fl_V} {m : fl_M} {τ n : Nat} {z : Nat × Nat × Nat} {i x : Int32} {b : Bool}
theorem at_ofN (h : k < 2147483648) : (Int32.ofNat k).toInt = k := Int32.toInt_ofNat_small h
theorem at_add32 {x y : Int32} (h1 : -2147483648 ≤ x.toInt + y.toInt) (h2 : x.toInt + y.toInt ≤ 2147483647) : (x + y).toInt = x.toInt + y.toInt := by
  rw [Int32.toInt_add]; exact Int.bmod_eq_of_le (by omega) (by omega)
theorem at_sub32 {x y : Int32} (h1 : -2147483648 ≤ x.toInt - y.toInt) (h2 : x.toInt - y.toInt ≤ 2147483647) : (x - y).toInt = x.toInt - y.toInt := by
  rw [Int32.toInt_sub]; exact Int.bmod_eq_of_le (by omega) (by omega)
theorem at_mul32 {x y : Int32} (h1 : -2147483648 ≤ x.toInt * y.toInt) (h2 : x.toInt * y.toInt ≤ 2147483647) : (x * y).toInt = x.toInt * y.toInt := by
  rw [Int32.toInt_mul]; exact Int.bmod_eq_of_le (by omega) (by omega)
theorem fl_ald_eq (hk : fk_kd τ = .inr (0, n, z)) (hi : i.toInt = k) (hlt : k < n) : fl_ald P pc lv (.inl i :: .inr (.inr (.inl (τ, p))) :: r) m = some (pc + 1, lv, .inl (m.1 p k) :: r, m) := by
  obtain ⟨h1, h2⟩ := at_in_ok (i := i) (n := n) (by omega) (by omega)
  have h3 : i.toNatClampNeg = k := by omega
  show ((match fk_kd τ with
    | .inr (0, n, _) => bif am_in i n then some (pc + 1, lv, .inl (m.1 p i.toNatClampNeg) :: r, m) else none
    | _ => none) : Option fl_C) = _
  rw [hk]
  show ((bif am_in i n then some (pc + 1, lv, .inl (m.1 p i.toNatClampNeg) :: r, m) else none) : Option fl_C) = _
  rw [h1, h3]
  rfl
theorem fl_ast_eq (hk : fk_kd τ = .inr (0, n, z)) (hi : i.toInt = k) (hlt : k < n) : fl_ast pc lv (.inl x :: .inl i :: .inr (.inr (.inl (τ, p))) :: r) m = some (pc + 1, lv, r, (fl_up m.1 p k x, m.2)) := by
  obtain ⟨h1, h2⟩ := at_in_ok (i := i) (n := n) (by omega) (by omega)
  have h3 : i.toNatClampNeg = k := by omega
  show ((match fk_kd τ with
    | .inr (0, n, _) => bif am_in i n then some (pc + 1, lv, r, (fl_up m.1 p i.toNatClampNeg x, m.2)) else none
    | _ => none) : Option fl_C) = _
  rw [hk]
  show ((bif am_in i n then some (pc + 1, lv, r, (fl_up m.1 p i.toNatClampNeg x, m.2)) else none) : Option fl_C) = _
  rw [h1, h3]
  rfl
theorem fl_br_t (hb : b = true) (ht : am_tg pc off = some t) : fl_br b pc off lv r m = some (t, lv, r, m) := by
  unfold fl_br
  rw [ht, hb]
  rfl
theorem fl_br_f (hb : b = false) (ht : am_tg pc off = some t) : fl_br b pc off lv r m = some (pc + 3, lv, r, m) := by
  unfold fl_br
  rw [ht, hb]
  rfl
variable {mi : Nat} {st : List fl_V} {Q : Option fl_V → fl_M → Prop} {y : Int32} {c : ClassFile.Cond}
theorem fl_Tq.jt (hc : am_code P mi pc = some (.if_icmp c off)) (hok : ∀ v ∈ (.inl y :: .inl x :: r : List fl_V), fl_ok m.2.2 v) (hb : am_c2 c x y = true) (ht : am_tg pc off = some t) (k : fl_Tq P mi t lv r m Q) : fl_Tq P mi pc lv (.inl y :: .inl x :: r) m Q := fl_Tq.stp hc rfl hok (fl_br_t hb ht) k
theorem fl_Tq.jf (hc : am_code P mi pc = some (.if_icmp c off)) (hok : ∀ v ∈ (.inl y :: .inl x :: r : List fl_V), fl_ok m.2.2 v) (hb : am_c2 c x y = false) (ht : am_tg pc off = some t) (k : fl_Tq P mi (pc + 3) lv r m Q) : fl_Tq P mi pc lv (.inl y :: .inl x :: r) m Q := fl_Tq.stp hc rfl hok (fl_br_f hb ht) k
theorem fl_Tq.zt (hc : am_code P mi pc = some (.ifCond c off)) (hok : ∀ v ∈ (.inl x :: r : List fl_V), fl_ok m.2.2 v) (hb : am_c1 c x = true) (ht : am_tg pc off = some t) (k : fl_Tq P mi t lv r m Q) : fl_Tq P mi pc lv (.inl x :: r) m Q := fl_Tq.stp hc rfl hok (fl_br_t hb ht) k
theorem fl_Tq.zf (hc : am_code P mi pc = some (.ifCond c off)) (hok : ∀ v ∈ (.inl x :: r : List fl_V), fl_ok m.2.2 v) (hb : am_c1 c x = false) (ht : am_tg pc off = some t) (k : fl_Tq P mi (pc + 3) lv r m Q) : fl_Tq P mi pc lv (.inl x :: r) m Q := fl_Tq.stp hc rfl hok (fl_br_f hb ht) k
theorem fl_Tq.ld (hc : am_code P mi pc = some .iaload) (hok : ∀ v ∈ (.inl i :: .inr (.inr (.inl (τ, p))) :: r : List fl_V), fl_ok m.2.2 v) (hk : fk_kd τ = .inr (0, n, z)) (hi : i.toInt = k) (hlt : k < n) (q : fl_Tq P mi (pc + 1) lv (.inl (m.1 p k) :: r) m Q) : fl_Tq P mi pc lv (.inl i :: .inr (.inr (.inl (τ, p))) :: r) m Q := fl_Tq.stp hc rfl hok (fl_ald_eq (P := P) hk hi hlt) q
theorem fl_Tq.sv (hc : am_code P mi pc = some .iastore) (hok : ∀ v ∈ (.inl x :: .inl i :: .inr (.inr (.inl (τ, p))) :: r : List fl_V), fl_ok m.2.2 v) (hk : fk_kd τ = .inr (0, n, z)) (hi : i.toInt = k) (hlt : k < n) (q : fl_Tq P mi (pc + 1) lv r (fl_up m.1 p k x, m.2) Q) : fl_Tq P mi pc lv (.inl x :: .inl i :: .inr (.inr (.inl (τ, p))) :: r) m Q := fl_Tq.stp hc rfl hok (fl_ast_eq hk hi hlt) q
theorem fl_Tq.rm (hc : am_code P mi pc = some .irem) (hok : ∀ v ∈ (.inl y :: .inl x :: r : List fl_V), fl_ok m.2.2 v) (hy : y ≠ 0) (q : fl_Tq P mi (pc + 1) lv (.inl (x - (x / y) * y) :: r) m Q) : fl_Tq P mi pc lv (.inl y :: .inl x :: r) m Q := fl_Tq.stp hc rfl hok (show (if y = 0 then none else some (pc + 1, lv, Sum.inl (x - (x / y) * y) :: r, m) : Option fl_C) = _ from if_neg hy) q
theorem fl_Tq.dv (hc : am_code P mi pc = some .idiv) (hok : ∀ v ∈ (.inl y :: .inl x :: r : List fl_V), fl_ok m.2.2 v) (hy : y ≠ 0) (q : fl_Tq P mi (pc + 1) lv (.inl (x / y) :: r) m Q) : fl_Tq P mi pc lv (.inl y :: .inl x :: r) m Q := fl_Tq.stp hc rfl hok (show (if y = 0 then none else some (pc + 1, lv, Sum.inl (x / y) :: r, m) : Option fl_C) = _ from if_neg hy) q
end FTL
/-! ===== blocks that are copied word by word ===== -/
def bl_cp (src s0 dst d0 n : Nat) (m : fl_M) : fl_M := (fun p j => if p = dst ∧ d0 ≤ j ∧ j < d0 + n then m.1 src (j - d0 + s0) else m.1 p j, m.2)
theorem bl_cp_0 {src s0 dst d0 : Nat} {m : fl_M} : bl_cp src s0 dst d0 0 m = m := by
  unfold bl_cp
  refine Prod.ext ?_ rfl
  funext p j
  dsimp only
  rw [if_neg (by omega)]
theorem bl_cp_s {src s0 dst d0 n : Nat} {m : fl_M} (hd : src = dst → s0 + n < d0 ∨ d0 ≤ s0) : (fl_up (bl_cp src s0 dst d0 n m).1 dst (d0 + n) ((bl_cp src s0 dst d0 n m).1 src (s0 + n)), (bl_cp src s0 dst d0 n m).2) = bl_cp src s0 dst d0 (n + 1) m := by
  have e : (bl_cp src s0 dst d0 n m).1 src (s0 + n) = m.1 src (s0 + n) := by
    show (if src = dst ∧ d0 ≤ s0 + n ∧ s0 + n < d0 + n then _ else _) = _
    rw [if_neg]
    rintro ⟨h, h1, h2⟩
    have := hd h
    omega
  rw [e]
  refine Prod.ext ?_ rfl
  funext p j
  show (if p = dst ∧ j = d0 + n then m.1 src (s0 + n) else if p = dst ∧ d0 ≤ j ∧ j < d0 + n then m.1 src (j - d0 + s0) else m.1 p j) = (if p = dst ∧ d0 ≤ j ∧ j < d0 + (n + 1) then m.1 src (j - d0 + s0) else m.1 p j)
  by_cases h1 : p = dst ∧ j = d0 + n
  · obtain ⟨rfl, rfl⟩ := h1
    rw [if_pos ⟨rfl, rfl⟩, if_pos ⟨rfl, by omega, by omega⟩]
    have : d0 + n - d0 + s0 = s0 + n := by omega
    rw [this]
  · rw [if_neg h1]
    by_cases h2 : p = dst ∧ d0 ≤ j ∧ j < d0 + n
    · rw [if_pos h2, if_pos ⟨h2.1, h2.2.1, by omega⟩]
    · rw [if_neg h2, if_neg]
      rintro ⟨h3, h4, h5⟩
      exact h2 ⟨h3, h4, by
        have : j ≠ d0 + n := fun h => h1 ⟨h3, h⟩
        omega⟩
section ATCP
variable {L : Nat} {xs : Nat → Int32} {m : fl_M} {Q : Option fl_V → fl_M → Prop}
/-- the words that the whole row's copy leaves -/
theorem at_copy {p q tp tq : Nat} (kp : fk_K p = tp) (kq : fk_K q = tq) (hp : p < 285) (hq : q < 285) (dp : fk_kd tp = .inr (0, 29780, 0, 0, 0)) (dq : fk_kd tq = .inr (0, 29780, 0, 0, 0)) (hne : p ≠ q) (k : Q none (bl_cp p 0 q 0 29780 m)) : fl_Tq (pw_P L xs) 184 0 (fl_args (am_mxl (pw_P L xs) 184) [.inr (.inr (.inl (tp, p))), .inr (.inr (.inl (tq, q)))]) [] m Q := by
  have loop : ∀ (d n : Nat), n + d = 29780 → fl_Tq (pw_P L xs) 184 2 [some (.inr (.inr (.inl (tp, p)))), some (.inr (.inr (.inl (tq, q)))), some (.inl (Int32.ofNat n))] [] (bl_cp p 0 q 0 n m) Q := by
    intro d
    induction d with
    | zero =>
      intro n hn
      have hn : n = 29780 := by omega
      subst hn
      refine fl_Tq.stp rfl rfl (fl_bo rfl) rfl ?_
      refine fl_Tq.stp rfl rfl (fl_bo rfl) rfl ?_
      refine fl_Tq.jt rfl (fl_bo rfl) (by decide +kernel) rfl ?_
      exact fl_Tq.ret rfl rfl rfl k
    | succ d ih =>
      intro n hn
      have en := at_ofN (k := n) (by omega)
      refine fl_Tq.stp rfl rfl (fl_bo rfl) rfl ?_
      refine fl_Tq.stp rfl rfl (fl_bo rfl) rfl ?_
      refine fl_Tq.jf rfl (fl_bo rfl) ?_ rfl ?_
      · rw [at_c2, en]
        exact decide_eq_false (by show ¬ (0 ≤ (n : Int) - (29780 : Int)); omega)
      refine fl_Tq.stp rfl rfl (fl_bo rfl) rfl ?_
      refine fl_Tq.stp rfl rfl (fl_oks_ok ⟨fl_okp kq hq, True.intro⟩) rfl ?_
      refine fl_Tq.stp rfl rfl (fl_oks_ok ⟨True.intro, fl_okp kq hq, True.intro⟩) rfl ?_
      refine fl_Tq.stp rfl rfl (fl_oks_ok ⟨fl_okp kp hp, True.intro, fl_okp kq hq, True.intro⟩) rfl ?_
      refine fl_Tq.ld rfl (fl_oks_ok ⟨True.intro, fl_okp kp hp, True.intro, fl_okp kq hq, True.intro⟩) dp en (by omega) ?_
      refine fl_Tq.sv rfl (fl_oks_ok ⟨True.intro, True.intro, fl_okp kq hq, True.intro⟩) dq en (by omega) ?_
      have e2 := bl_cp_s (src := p) (s0 := 0) (dst := q) (d0 := 0) (n := n) (m := m) (fun h => absurd h hne)
      rw [Nat.zero_add] at e2
      rw [e2]
      refine fl_Tq.stp rfl rfl (fl_bo rfl) rfl ?_
      refine fl_Tq.stp rfl rfl (fl_bo rfl) rfl ?_
      have e3 : Int32.ofNat n + Int32.ofInt 1 = Int32.ofNat (n + 1) := by
        refine Int32.toInt.inj ?_
        rw [at_add32] <;> rw [en] <;> first | (rw [at_ofN (by omega)]; rfl) | (show _ ≤ _; have : (Int32.ofInt 1).toInt = 1 := rfl; omega)
      have := ih (n + 1) (by omega)
      rw [← e3] at this
      exact this
  refine fl_Tq.stp rfl rfl (fl_bo rfl) rfl ?_
  refine fl_Tq.stp rfl rfl (fl_bo rfl) rfl ?_
  have := loop 29780 0 (by omega)
  rw [bl_cp_0] at this
  exact this
end ATCP
