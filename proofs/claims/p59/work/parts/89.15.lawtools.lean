/-! ===== the law: its calls by their contracts ===== -/
section LWT
variable {L : Nat} {xs : Nat → Int32} {m : fl_M} {Q : Option fl_V → fl_M → Prop}
def lx_lv (i : Nat) : fl_L := [some (.inr (.inr (.inr (.inl 0)))), some (.inr (.inr (.inl (0, 0)))), some (.inr (.inr (.inl (76, 277)))), some (.inl (Int32.ofNat i))]
def lx_x : fl_V := .inr (.inr (.inl (0, 0)))
theorem lx_kx (h : Nat) : ∃ p, lx_x = .inr (.inr (.inl (0, p))) ∧ fk_K p = 0 ∧ p < fl_N h ∧ ∀ q, some 0 = some q → p = q := ⟨0, rfl, by decide +kernel, by unfold fl_N; omega, fun q h => by cases h; rfl⟩
theorem lx_ki (x : Int32) : ∃ y : Int32, (.inl x : fl_V) = .inl y ∧ -2147483648 ≤ y.toInt ∧ y.toInt ≤ 2147483647 := ⟨x, rfl, (at_i32 x).1, (at_i32 x).2⟩
theorem fl_Tq.tld {P : am_Pg} {mi pc k n c : Nat} {f : Nat → Int32} {lv : fl_L} {r : List fl_V} {i : Int32} (hc : am_code P mi pc = some .iaload) (hok : ∀ v ∈ (.inl i :: .inr (.inr (.inr (.inl c))) :: r : List fl_V), fl_ok m.2.2 v) (hcst : am_cst P c = some (n, f)) (hi : i.toInt = k) (hlt : k < n) (q : fl_Tq P mi (pc + 1) lv (.inl (f k) :: r) m Q) : fl_Tq P mi pc lv (.inl i :: .inr (.inr (.inr (.inl c))) :: r) m Q := by
  refine fl_Tq.stp (pc' := pc + 1) (lv' := lv) (st' := .inl (f k) :: r) (m' := m) hc rfl hok ?_ q
  obtain ⟨h1, h2⟩ := at_in_ok (i := i) (n := n) (by omega) (by omega)
  have h3 : i.toNatClampNeg = k := by omega
  show ((match am_cst P c with
    | some (n, f) => bif am_in i n then some (pc + 1, lv, .inl (f i.toNatClampNeg) :: r, m) else none
    | _ => none) : Option fl_C) = _
  rw [hcst]
  show ((bif am_in i n then some (pc + 1, lv, .inl (f i.toNatClampNeg) :: r, m) else none) : Option fl_C) = _
  rw [h1, h3]
  rfl
/-- a number of the script -/
theorem lx_arg {pc i jn : Nat} {j : Int} {st : List fl_V} (h1 : am_code (pw_P L xs) 0 pc = some (.aload_n 0)) (h2 : am_code (pw_P L xs) 0 (pc + 1) = some (.iload_n 3)) (h3 : am_code (pw_P L xs) 0 (pc + 2) = some (.iconst j)) (h4 : am_code (pw_P L xs) 0 (pc + 3) = some .iadd) (h5 : am_code (pw_P L xs) 0 (pc + 4) = some .iaload) (hj : (Int32.ofInt j).toInt = jn) (hok : ∀ v ∈ st, fl_ok m.2.2 v) (hL : L ≤ 3072) (hlt : i + jn < L) (k : fl_Tq (pw_P L xs) 0 (pc + 5) (lx_lv i) (.inl (xs (i + jn)) :: st) m Q) : fl_Tq (pw_P L xs) 0 pc (lx_lv i) st m Q := by
  have ok1 : ∀ v ∈ (.inr (.inr (.inr (.inl 0))) :: st : List fl_V), fl_ok m.2.2 v := fun v hv => by
    rcases List.mem_cons.mp hv with rfl | hv
    · exact True.intro
    · exact hok v hv
  have ok2 : ∀ x : Int32, ∀ v ∈ (.inl x :: .inr (.inr (.inr (.inl 0))) :: st : List fl_V), fl_ok m.2.2 v := fun x v hv => by
    rcases List.mem_cons.mp hv with rfl | hv
    · exact True.intro
    · exact ok1 v hv
  have ok3 : ∀ x y : Int32, ∀ v ∈ (.inl x :: .inl y :: .inr (.inr (.inr (.inl 0))) :: st : List fl_V), fl_ok m.2.2 v := fun x y v hv => by
    rcases List.mem_cons.mp hv with rfl | hv
    · exact True.intro
    · exact ok2 y v hv
  refine fl_Tq.stp h1 rfl hok rfl ?_
  refine fl_Tq.stp h2 rfl ok1 rfl ?_
  refine fl_Tq.stp h3 rfl (ok2 _) rfl ?_
  refine fl_Tq.stp h4 rfl (ok3 _ _) rfl ?_
  have ei := at_ofN (k := i) (by omega)
  have e : (Int32.ofNat i + Int32.ofInt j).toInt = ((i + jn : Nat) : Int) := by rw [at_add32] <;> rw [ei, hj] <;> omega
  exact fl_Tq.tld (n := L) (f := xs) (k := i + jn) h5 (ok2 _) rfl e hlt k
theorem lx_bool {pc : Nat} {lv : fl_L} {st : List fl_V} {x : Int32} (h1 : am_code (pw_P L xs) 0 pc = some (.ifCond .eq 7)) (h2 : am_code (pw_P L xs) 0 (pc + 3) = some (.iconst 1)) (h3 : am_code (pw_P L xs) 0 (pc + 4) = some (.goto 4)) (h4 : am_code (pw_P L xs) 0 (pc + 7) = some (.iconst 0)) (hok : ∀ v ∈ (.inl x :: st : List fl_V), fl_ok m.2.2 v) (ht : am_tg pc 7 = some (pc + 7)) (ht2 : am_tg (pc + 4) 4 = some (pc + 8)) (k : ∀ b : Int32, 0 ≤ b.toInt → b.toInt ≤ 1 → fl_Tq (pw_P L xs) 0 (pc + 8) lv (.inl b :: st) m Q) : fl_Tq (pw_P L xs) 0 pc lv (.inl x :: st) m Q := by
  have ok : ∀ v ∈ st, fl_ok m.2.2 v := fun v hv => hok v (List.mem_cons_of_mem _ hv)
  have ok1 : ∀ y : Int32, ∀ v ∈ (.inl y :: st : List fl_V), fl_ok m.2.2 v := fun y v hv => by
    rcases List.mem_cons.mp hv with rfl | hv
    · exact True.intro
    · exact ok v hv
  cases hb : am_c1 .eq x with
  | true =>
    refine fl_Tq.zt h1 hok hb ht ?_
    refine fl_Tq.stp h4 rfl ok rfl ?_
    exact k _ (by decide) (by decide)
  | false =>
    refine fl_Tq.zf h1 hok hb ht ?_
    refine fl_Tq.stp h2 rfl ok rfl ?_
    refine fl_Tq.stp (pc' := pc + 8) (lv' := lv) (st' := .inl (Int32.ofInt 1) :: st) (m' := m) h3 rfl (ok1 _) ?_ ?_
    · show fl_go (pc + 3 + 1) 4 lv _ m = _
      unfold fl_go
      rw [show pc + 3 + 1 = pc + 4 by omega, ht2]
    · exact k _ (by decide) (by decide)
/-- a call whose answer, an int, is dropped -/
theorem lx_callI {pc mj n : Nat} {ins : Instr} {lv : fl_L} {st as_ : List fl_V} {c : at_C} {lo hi : Int} (hc : am_code (pw_P L xs) 0 pc = some ins) (hcl : am_cl (pw_P L xs) 0 ins = some (mj, n)) (hp : am_code (pw_P L xs) 0 (pc + 3) = some .pop) (hrc : fl_rc (pw_P L xs) ins mj n st = true) (hok : ∀ v ∈ st, fl_ok m.2.2 v) (hst : (st.take n).reverse = as_) (hd : st.drop n = []) (hV : at_Valid at_XI (pw_P L xs) c) (hcm : c.1 = mj) (hg : at_Good at_XI m) (hk : at_agk m.2.2 c.2.1 as_) (hl : c.2.2.1 = []) (hr : c.2.2.2.1 = some (.inr (false, lo, hi))) (k : ∀ m', at_Good at_XI m' → fl_Tq (pw_P L xs) 0 (pc + 4) lv [] m' Q) : fl_Tq (pw_P L xs) 0 pc lv st m Q := by
  refine fl_Tq.cal hc hcl hok hrc ?_
  rw [hst, hd]
  subst hcm
  refine fl_Tq.mono (hV m as_ hg hk (fun q hq => by rw [hl] at hq; cases hq)) (fun v m' ⟨hg', _, hv⟩ => ?_)
  rw [hr] at hv
  obtain ⟨x, rfl, -⟩ := hv
  refine fl_Tq.stp hp rfl (fl_bo rfl) rfl ?_
  exact k m' hg'
/-- a long -/
theorem lx_callJ {pc mj n : Nat} {ins : Instr} {lv : fl_L} {st as_ : List fl_V} {c : at_C} {lo hi : Int} (hc : am_code (pw_P L xs) 0 pc = some ins) (hcl : am_cl (pw_P L xs) 0 ins = some (mj, n)) (hp : am_code (pw_P L xs) 0 (pc + 3) = some .pop2) (hrc : fl_rc (pw_P L xs) ins mj n st = true) (hok : ∀ v ∈ st, fl_ok m.2.2 v) (hst : (st.take n).reverse = as_) (hd : st.drop n = []) (hV : at_Valid at_XI (pw_P L xs) c) (hcm : c.1 = mj) (hg : at_Good at_XI m) (hk : at_agk m.2.2 c.2.1 as_) (hl : c.2.2.1 = []) (hr : c.2.2.2.1 = some (.inr (true, lo, hi))) (k : ∀ m', at_Good at_XI m' → fl_Tq (pw_P L xs) 0 (pc + 4) lv [] m' Q) : fl_Tq (pw_P L xs) 0 pc lv st m Q := by
  refine fl_Tq.cal hc hcl hok hrc ?_
  rw [hst, hd]
  subst hcm
  refine fl_Tq.mono (hV m as_ hg hk (fun q hq => by rw [hl] at hq; cases hq)) (fun v m' ⟨hg', _, hv⟩ => ?_)
  rw [hr] at hv
  obtain ⟨x, rfl, -⟩ := hv
  refine fl_Tq.stp hp rfl (fl_bo rfl) rfl ?_
  exact k m' hg'
end LWT
