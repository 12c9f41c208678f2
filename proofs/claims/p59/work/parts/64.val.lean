/-! ===== the looker's values and locals ===== -/
/-- int, long, reference (kind, place), table, the sign of a number -/
abbrev at_V : Type := at_A ⊕ (at_A ⊕ ((Nat × at_A) ⊕ (Nat ⊕ at_A)))
abbrev at_L : Type := List (Option at_V)
def at_RV (ν : Nat → Int) (h : Nat) (a : at_V) (v : fl_V) : Prop := match a with
  | .inl a => ∃ x, v = .inl x ∧ x.toInt = at_ev ν a
  | .inr (.inl a) => ∃ x, v = .inr (.inl x) ∧ x.toInt = at_ev ν a
  | .inr (.inr (.inl q)) => ∃ p, v = .inr (.inr (.inl (q.1, p))) ∧ at_ev ν q.2 = (p : Int) ∧ fk_K p = q.1 ∧ p < fl_N h
  | .inr (.inr (.inr (.inl c))) => v = .inr (.inr (.inr (.inl c)))
  | .inr (.inr (.inr (.inr d))) => ∃ x : Int32, v = .inl x ∧ ((x = 1 ∧ 0 < at_ev ν d) ∨ (x = 0 ∧ at_ev ν d = 0) ∨ (x = -1 ∧ at_ev ν d < 0))
def at_wV (n : Nat) (a : at_V) : Prop := match a with
  | .inl a => at_wf n a
  | .inr (.inl a) => at_wf n a
  | .inr (.inr (.inl q)) => at_wf n q.2
  | .inr (.inr (.inr (.inl _))) => True
  | .inr (.inr (.inr (.inr d))) => at_wf n d
def at_cat (a : at_V) : Nat := match a with
  | .inr (.inl _) => 2
  | _ => 1
theorem at_RV.cat {ν : Nat → Int} {h : Nat} {a : at_V} {v : fl_V} (hv : at_RV ν h a v) : fl_cat v = at_cat a := by
  rcases a with a | a | q | c | d
  · obtain ⟨x, rfl, -⟩ := hv; rfl
  · obtain ⟨x, rfl, -⟩ := hv; rfl
  · obtain ⟨p, rfl, -⟩ := hv; rfl
  · cases hv; rfl
  · obtain ⟨x, rfl, -⟩ := hv; rfl
theorem at_RV.ok {ν : Nat → Int} {h : Nat} {a : at_V} {v : fl_V} (hv : at_RV ν h a v) : fl_ok h v := by
  rcases a with a | a | q | c | d
  · obtain ⟨x, rfl, -⟩ := hv; exact True.intro
  · obtain ⟨x, rfl, -⟩ := hv; exact True.intro
  · obtain ⟨p, rfl, -, h1, h2⟩ := hv; exact ⟨h1, h2⟩
  · cases hv; exact True.intro
  · obtain ⟨x, rfl, -⟩ := hv; exact True.intro
theorem fl_N_mono {h h' : Nat} (hh : h ≤ h') : fl_N h ≤ fl_N h' := by unfold fl_N; omega
theorem at_RV.ag {ν ν' : Nat → Int} {n h h' : Nat} {a : at_V} {v : fl_V} (hv : at_RV ν h a v) (hw : at_wV n a) (hag : at_ag n ν ν') (hh : h ≤ h') : at_RV ν' h' a v := by
  rcases a with a | a | q | c | d
  · obtain ⟨x, e1, e2⟩ := hv; exact ⟨x, e1, by rw [at_ev_ag hag hw]; exact e2⟩
  · obtain ⟨x, e1, e2⟩ := hv; exact ⟨x, e1, by rw [at_ev_ag hag hw]; exact e2⟩
  · obtain ⟨p, e1, e2, e3, e4⟩ := hv; exact ⟨p, e1, by rw [at_ev_ag hag hw]; exact e2, e3, Nat.lt_of_lt_of_le e4 (fl_N_mono hh)⟩
  · exact hv
  · obtain ⟨x, e1, e2⟩ := hv; exact ⟨x, e1, by rw [at_ev_ag hag hw]; exact e2⟩
theorem at_wV.mono {n k : Nat} {a : at_V} (h : at_wV n a) (hk : n ≤ k) : at_wV k a := by
  rcases a with a | a | q | c | d
  · exact at_wf.mono h hk
  · exact at_wf.mono h hk
  · exact at_wf.mono h hk
  · exact True.intro
  · exact at_wf.mono h hk
/-- stacks -/
def at_RS (ν : Nat → Int) (h : Nat) : List at_V → List fl_V → Prop
  | [], [] => True
  | a :: r, v :: s => at_RV ν h a v ∧ at_RS ν h r s
  | _, _ => False
theorem at_RS.cons {ν : Nat → Int} {h : Nat} {a : at_V} {r : List at_V} {s : List fl_V} (hs : at_RS ν h (a :: r) s) : ∃ v s', s = v :: s' ∧ at_RV ν h a v ∧ at_RS ν h r s' := by
  cases s with
  | nil => cases hs
  | cons v s' => exact ⟨v, s', rfl, hs.1, hs.2⟩
theorem at_RS.nil {ν : Nat → Int} {h : Nat} {s : List fl_V} (hs : at_RS ν h [] s) : s = [] := by
  cases s with
  | nil => rfl
  | cons v s' => cases hs
theorem at_RS.ok {ν : Nat → Int} {h : Nat} {r : List at_V} {s : List fl_V} (hs : at_RS ν h r s) : ∀ v ∈ s, fl_ok h v := by
  induction r generalizing s with
  | nil => rw [hs.nil]; intro v hv; cases hv
  | cons a r ih =>
    obtain ⟨v, s', rfl, h1, h2⟩ := hs.cons
    intro w hw
    rcases List.mem_cons.mp hw with rfl | hw
    · exact h1.ok
    · exact ih h2 w hw
theorem at_RS.ag {ν ν' : Nat → Int} {n h h' : Nat} {r : List at_V} {s : List fl_V} (hs : at_RS ν h r s) (hw : ∀ a ∈ r, at_wV n a) (hag : at_ag n ν ν') (hh : h ≤ h') : at_RS ν' h' r s := by
  induction r generalizing s with
  | nil => rw [hs.nil]; exact True.intro
  | cons a r ih =>
    obtain ⟨v, s', rfl, h1, h2⟩ := hs.cons
    exact ⟨h1.ag (hw a List.mem_cons_self) hag hh, ih h2 (fun b hb => hw b (List.mem_cons_of_mem _ hb))⟩
theorem at_RS.len {ν : Nat → Int} {h : Nat} {r : List at_V} {s : List fl_V} (hs : at_RS ν h r s) : s.length = r.length := by
  induction r generalizing s with
  | nil => rw [hs.nil]; rfl
  | cons a r ih =>
    obtain ⟨v, s', rfl, h1, h2⟩ := hs.cons
    rw [List.length_cons, List.length_cons, ih h2]
theorem at_RS.take {ν : Nat → Int} {h : Nat} {r : List at_V} {s : List fl_V} (hs : at_RS ν h r s) (n : Nat) : at_RS ν h (r.take n) (s.take n) ∧ at_RS ν h (r.drop n) (s.drop n) := by
  induction r generalizing s n with
  | nil => rw [hs.nil]; simp [at_RS]
  | cons a r ih =>
    obtain ⟨v, s', rfl, h1, h2⟩ := hs.cons
    cases n with
    | zero => exact ⟨True.intro, hs⟩
    | succ n => exact ⟨⟨h1, (ih h2 n).1⟩, (ih h2 n).2⟩
theorem at_RS.app {ν : Nat → Int} {h : Nat} {r1 r2 : List at_V} {s1 s2 : List fl_V} (h1 : at_RS ν h r1 s1) (h2 : at_RS ν h r2 s2) : at_RS ν h (r1 ++ r2) (s1 ++ s2) := by
  induction r1 generalizing s1 with
  | nil => rw [h1.nil]; exact h2
  | cons a r ih =>
    obtain ⟨v, s', rfl, k1, k2⟩ := h1.cons
    exact ⟨k1, ih k2⟩
theorem at_RS.rev {ν : Nat → Int} {h : Nat} {r : List at_V} {s : List fl_V} (hs : at_RS ν h r s) : at_RS ν h r.reverse s.reverse := by
  induction r generalizing s with
  | nil => rw [hs.nil]; exact True.intro
  | cons a r ih =>
    obtain ⟨v, s', rfl, k1, k2⟩ := hs.cons
    rw [List.reverse_cons, List.reverse_cons]
    exact (ih k2).app ⟨k1, True.intro⟩
theorem at_RS.sum {ν : Nat → Int} {h : Nat} {r : List at_V} {s : List fl_V} (hs : at_RS ν h r s) : fl_sum s = (r.map at_cat).sum := by
  induction r generalizing s with
  | nil => rw [hs.nil]; rfl
  | cons a r ih =>
    obtain ⟨v, s', rfl, k1, k2⟩ := hs.cons
    have := ih k2
    unfold fl_sum at this ⊢
    rw [List.map_cons, List.map_cons, List.sum_cons, List.sum_cons, this, k1.cat]
/-- locals -/
def at_LR (ν : Nat → Int) (h : Nat) (lv : at_L) (fl : fl_L) : Prop := lv.length = fl.length ∧ ∀ (i : Nat) (a : at_V), lv[i]? = some (some a) → ∃ v, fl[i]? = some (some v) ∧ at_RV ν h a v
theorem at_LR.ag {ν ν' : Nat → Int} {n h h' : Nat} {lv : at_L} {fl : fl_L} (hl : at_LR ν h lv fl) (hw : ∀ a, some a ∈ lv → at_wV n a) (hag : at_ag n ν ν') (hh : h ≤ h') : at_LR ν' h' lv fl := by
  refine ⟨hl.1, fun i a e => ?_⟩
  obtain ⟨v, e1, e2⟩ := hl.2 i a e
  exact ⟨v, e1, e2.ag (hw a (List.mem_of_getElem? e)) hag hh⟩
def at_s0 (lv : at_L) (i : Nat) : at_L := match i with
  | 0 => lv
  | j + 1 => match lv[j]? with
    | some (some w) => bif Nat.beq (at_cat w) 2 then lv.set j none else lv
    | _ => lv
def at_s (lv : at_L) (i : Nat) (v : at_V) : at_L := bif Nat.beq (at_cat v) 2 then ((at_s0 lv i).set i (some v)).set (i + 1) none else (at_s0 lv i).set i (some v)
theorem at_set_get {l : at_L} {i j : Nat} {o : Option at_V} {w : at_V} (h : (l.set i o)[j]? = some (some w)) : (j = i ∧ o = some w ∧ i < l.length) ∨ (j ≠ i ∧ l[j]? = some (some w)) := by
  by_cases hj : j = i
  · subst hj
    by_cases hl : j < l.length
    · rw [List.getElem?_set_self hl] at h
      exact Or.inl ⟨rfl, Option.some.inj h, hl⟩
    · rw [List.getElem?_eq_none (by rw [List.length_set]; omega)] at h
      cases h
  · rw [List.getElem?_set_ne (Ne.symm hj)] at h
    exact Or.inr ⟨hj, h⟩
theorem at_s0_get {lv : at_L} {i j : Nat} {w : at_V} (h : (at_s0 lv i)[j]? = some (some w)) : lv[j]? = some (some w) ∧ (j + 1 = i → at_cat w ≠ 2) := by
  cases i with
  | zero => exact ⟨h, fun e => absurd e (by omega)⟩
  | succ k =>
    unfold at_s0 at h
    dsimp only at h
    split at h
    · rename_i u hu
      cases hc : Nat.beq (at_cat u) 2 with
      | true =>
        rw [hc] at h
        rcases at_set_get h with ⟨-, h2, -⟩ | ⟨h1, h2⟩
        · cases h2
        · exact ⟨h2, fun e => absurd (by omega) h1⟩
      | false =>
        rw [hc] at h
        refine ⟨h, fun e e2 => ?_⟩
        have e3 : j = k := by omega
        subst e3
        have h : lv[j]? = some (some w) := h
        rw [hu] at h
        cases h
        rw [e2] at hc
        cases hc
    · rename_i hn
      refine ⟨h, fun e => ?_⟩
      have e2 : j = k := by omega
      subst e2
      exact absurd h (hn w)
theorem at_s0_len (lv : at_L) (i : Nat) : (at_s0 lv i).length = lv.length := by
  unfold at_s0
  split
  · rfl
  · split
    · cases Nat.beq (at_cat _) 2
      · rfl
      · exact List.length_set
    · rfl
theorem at_s_len (lv : at_L) (i : Nat) (v : at_V) : (at_s lv i v).length = lv.length := by
  unfold at_s
  cases Nat.beq (at_cat v) 2
  · simp [at_s0_len]
  · simp [at_s0_len]
theorem fl_s0_len (lv : fl_L) (i : Nat) : (fl_s0 lv i).length = lv.length := by
  unfold fl_s0
  split
  · rfl
  · split
    · split
      · exact List.length_set
      · rfl
    · rfl
theorem fl_s_len (lv : fl_L) (i : Nat) (v : fl_V) : (fl_s lv i v).length = lv.length := by
  unfold fl_s
  split <;> simp [fl_s0_len]
theorem at_s_get {lv : at_L} {i j : Nat} {v w : at_V} (h : (at_s lv i v)[j]? = some (some w)) : (j = i ∧ w = v ∧ i < lv.length) ∨ (j ≠ i ∧ lv[j]? = some (some w) ∧ (j + 1 = i → at_cat w ≠ 2) ∧ (at_cat v = 2 → j ≠ i + 1)) := by
  unfold at_s at h
  cases hc : Nat.beq (at_cat v) 2 with
  | true =>
    rw [hc] at h
    rcases at_set_get h with ⟨-, h2, -⟩ | ⟨h1, h2⟩
    · cases h2
    · rcases at_set_get h2 with ⟨h3, h4, h5⟩ | ⟨h3, h4⟩
      · rw [at_s0_len] at h5
        exact Or.inl ⟨h3, (Option.some.inj h4).symm, h5⟩
      · obtain ⟨h5, h6⟩ := at_s0_get h4
        exact Or.inr ⟨h3, h5, h6, fun _ => h1⟩
  | false =>
    rw [hc] at h
    rcases at_set_get h with ⟨h3, h4, h5⟩ | ⟨h3, h4⟩
    · rw [at_s0_len] at h5
      exact Or.inl ⟨h3, (Option.some.inj h4).symm, h5⟩
    · obtain ⟨h5, h6⟩ := at_s0_get h4
      refine Or.inr ⟨h3, h5, h6, fun e => ?_⟩
      rw [e] at hc
      cases hc
theorem fl_s0_put {lv : fl_L} {i j : Nat} {w : fl_V} (h : lv[j]? = some (some w)) (h1 : j + 1 = i → fl_cat w ≠ 2) : (fl_s0 lv i)[j]? = some (some w) := by
  unfold fl_s0
  split
  · exact h
  · rename_i k
    split
    · rename_i u hu
      split
      · rename_i hc
        have hne : k ≠ j := by
          rintro rfl
          rw [hu] at h
          cases h
          exact h1 rfl hc
        rw [List.getElem?_set_ne hne]
        exact h
      · exact h
    · exact h
theorem fl_s_put {lv : fl_L} {i j : Nat} {v w : fl_V} (h : lv[j]? = some (some w)) (hj : j ≠ i) (h1 : j + 1 = i → fl_cat w ≠ 2) (h2 : fl_cat v = 2 → j ≠ i + 1) : (fl_s lv i v)[j]? = some (some w) := by
  unfold fl_s
  split
  · rename_i hc
    rw [List.getElem?_set_ne (Ne.symm (h2 hc)), List.getElem?_set_ne (Ne.symm hj)]
    exact fl_s0_put h h1
  · rw [List.getElem?_set_ne (Ne.symm hj)]
    exact fl_s0_put h h1
theorem fl_s_self {lv : fl_L} {i : Nat} {v : fl_V} (h : i < lv.length) : (fl_s lv i v)[i]? = some (some v) := by
  unfold fl_s
  split
  · rw [List.getElem?_set_ne (by omega), List.getElem?_set_self (by rw [fl_s0_len]; exact h)]
  · rw [List.getElem?_set_self (by rw [fl_s0_len]; exact h)]
theorem at_LR.s {ν : Nat → Int} {h : Nat} {lv : at_L} {fl : fl_L} {i : Nat} {a : at_V} {v : fl_V} (hl : at_LR ν h lv fl) (hv : at_RV ν h a v) : at_LR ν h (at_s lv i a) (fl_s fl i v) := by
  refine ⟨by rw [at_s_len, fl_s_len]; exact hl.1, fun j b e => ?_⟩
  rcases at_s_get e with ⟨rfl, rfl, hi⟩ | ⟨h1, h2, h3, h4⟩
  · exact ⟨v, fl_s_self (by rw [← hl.1]; exact hi), hv⟩
  · obtain ⟨w, e1, e2⟩ := hl.2 j b h2
    exact ⟨w, fl_s_put e1 h1 (fun q => by rw [e2.cat]; exact h3 q) (fun q => h4 (by rw [← hv.cat]; exact q)), e2⟩
theorem at_s_mem {lv : at_L} {i : Nat} {a b : at_V} (h : some b ∈ at_s lv i a) : b = a ∨ some b ∈ lv := by
  obtain ⟨j, e⟩ := List.getElem?_of_mem h
  rcases at_s_get e with ⟨-, h2, -⟩ | ⟨-, h2, -⟩
  · exact Or.inl h2
  · exact Or.inr (List.mem_of_getElem? h2)
