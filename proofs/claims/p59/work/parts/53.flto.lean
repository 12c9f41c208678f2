/-! ===== what a run over flat memory comes to ===== -/
/-- an answer -/
def fl_rt (P : am_Pg) (mi : Nat) (ins : Instr) (st : List fl_V) : Option (Option fl_V) := match ins, st with
  | .return_, [] => match am_ret P mi with
    | none => some none
    | some _ => none
  | .ireturn, [.inl v] => match am_ret P mi with
    | some .int => some (some (.inl v))
    | some .boolean => if v = 0 ∨ v = 1 then some (some (.inl v)) else none
    | _ => none
  | .lreturn, [.inr (.inl v)] => match am_ret P mi with
    | some .long => some (some (.inr (.inl v)))
    | _ => none
  | _, _ => none
theorem fl_rt_c {P : am_Pg} {mi : Nat} {ins : Instr} {st : List fl_V} {v : Option fl_V} (h : fl_rt P mi ins st = some v) : am_rt P mi ins (st.map fl_c) = some (v.map fl_c) := by
  unfold fl_rt at h
  split at h
  · split at h
    · rename_i e
      cases h
      show (match am_ret P mi with | none => some none | some _ => none) = _
      rw [e]
      rfl
    · cases h
  · rename_i x
    split at h
    · rename_i e
      cases h
      show (match am_ret P mi with | some .int => some (some (Value.int x)) | some .boolean => if x = 0 ∨ x = 1 then some (some (.int x)) else none | _ => none) = _
      rw [e]
      rfl
    · rename_i e
      split at h
      · rename_i hx
        cases h
        show (match am_ret P mi with | some .int => some (some (Value.int x)) | some .boolean => if x = 0 ∨ x = 1 then some (some (.int x)) else none | _ => none) = _
        rw [e]
        show (if x = 0 ∨ x = 1 then some (some (Value.int x)) else none) = _
        rw [if_pos hx]
        rfl
      · cases h
    · cases h
  · rename_i x
    split at h
    · rename_i e
      cases h
      show (match am_ret P mi with | some .long => some (some (Value.long x)) | _ => none) = _
      rw [e]
      rfl
    · cases h
  · cases h
/-- a call's stack -/
def fl_rc (P : am_Pg) (ins : Instr) (mj n : Nat) (st : List fl_V) : Bool :=
  decide (n ≤ st.length) && (decide (fl_sum (st.drop n) ≤ 8 ∧ fl_sum (st.take n) ≤ am_mxl P mj) && (match ins with
  | .invokestatic _ => true
  | .invokespecial _ => (match (st.take n).reverse with
    | .inr (.inr (.inl _)) :: _ => true
    | _ => false)
  | .invokevirtual _ => (match (st.take n).reverse with
    | .inr (.inr (.inl q)) :: _ => (match fk_kd q.1 with
      | .inl (cj, _) => decide (cj = am_own P mj)
      | _ => false)
    | _ => false)
  | _ => false))
theorem fl_rc_c {P : am_Pg} {mi : Nat} {ins : Instr} {mj n : Nat} {st : List fl_V} {m : fl_M} (hok : ∀ v ∈ st, fl_ok m.2.2 v) (h : fl_rc P ins mj n st = true) : am_rc P mi ins mj n (st.map fl_c) (fl_H m) = true := by
  unfold fl_rc at h
  simp only [Bool.and_eq_true, decide_eq_true_eq] at h
  obtain ⟨h1, ⟨h2, h3⟩, h4⟩ := h
  unfold am_rc
  have e1 : (st.map fl_c).drop n = (st.drop n).map fl_c := by rw [List.map_drop]
  have e2 : (st.map fl_c).take n = (st.take n).map fl_c := by rw [List.map_take]
  rw [e1, e2, ← List.map_reverse, fl_sum_c, fl_sum_c, List.length_map]
  simp only [Bool.and_eq_true, decide_eq_true_eq]
  refine ⟨h1, ⟨h2, h3⟩, ?_⟩
  split at h4
  · rfl
  · split at h4
    · rename_i q r e
      rw [e]
      rfl
    · cases h4
  · split at h4
    · rename_i q r e
      obtain ⟨τ, p⟩ := q
      have hm : (Sum.inr (Sum.inr (Sum.inl (τ, p))) : fl_V) ∈ st := by
        have : (Sum.inr (Sum.inr (Sum.inl (τ, p))) : fl_V) ∈ (st.take n).reverse := by rw [e]; exact List.mem_cons_self
        exact List.mem_of_mem_take (List.mem_reverse.mp this)
      obtain ⟨hk, hp⟩ := fl_okr (hok _ hm)
      split at h4
      · rename_i cj fs ek
        rw [e]
        show am_rv P mj (Value.ref p :: _) (fl_H m) = true
        unfold am_rv
        dsimp only
        dsimp only at ek
        rw [fl_get hp, hk, ek]
        exact h4
      · cases h4
    · cases h4
  · cases h4
def fl_ar : List fl_V → fl_L
  | [] => []
  | v :: r => if fl_cat v = 2 then some v :: none :: fl_ar r else some v :: fl_ar r
/-- a method's locals at its start -/
def fl_args (n : Nat) (as_ : List fl_V) : fl_L := fl_ar as_ ++ List.replicate (n - (fl_ar as_).length) none
theorem fl_ar_lk {as_ : List fl_V} {i j : Nat} {w : fl_V} (h : (fl_ar as_)[j]? = some (some w)) : am_lk (lv_args i (as_.map fl_c)) (i + j) = some (fl_c w) := by
  induction as_ generalizing i j with
  | nil => simp [fl_ar] at h
  | cons v r ih =>
    unfold fl_ar at h
    rw [List.map_cons]
    show am_lk ((i, fl_c v) :: lv_args (if (fl_c v).category = 2 then i + 2 else i + 1) (r.map fl_c)) (i + j) = _
    rw [fl_cat_c]
    split at h
    · rename_i hc
      rw [if_pos hc]
      unfold am_lk
      match j, h with
      | 0, h =>
        have h : some (some v) = some (some w) := h
        cases h
        rw [if_pos (show i = i + 0 from rfl)]
      | 1, h =>
        have h : some none = some (some w) := h
        cases h
      | k + 2, h =>
        have h : (fl_ar r)[k]? = some (some w) := h
        rw [if_neg (by show i ≠ _; omega)]
        have := ih (i := i + 2) h
        rw [show i + (k + 2) = i + 2 + k by omega]
        exact this
    · rename_i hc
      rw [if_neg hc]
      unfold am_lk
      match j, h with
      | 0, h =>
        have h : some (some v) = some (some w) := h
        cases h
        rw [if_pos (show i = i + 0 from rfl)]
      | k + 1, h =>
        have h : (fl_ar r)[k]? = some (some w) := h
        rw [if_neg (by show i ≠ _; omega)]
        have := ih (i := i + 1) h
        rw [show i + (k + 1) = i + 1 + k by omega]
        exact this
theorem fl_args_LR (n : Nat) (as_ : List fl_V) : fl_LR (fl_args n as_) (lv_args 0 (as_.map fl_c)) := by
  intro j w h
  unfold fl_args at h
  by_cases hj : j < (fl_ar as_).length
  · rw [List.getElem?_append_left hj] at h
    have := fl_ar_lk (i := 0) h
    rw [Nat.zero_add] at this
    exact this
  · rw [List.getElem?_append_right (by omega), List.getElem?_replicate] at h
    split at h <;> cases h
/-- from here it comes to an end, with an answer and a memory of which Q holds -/
def fl_Tq (P : am_Pg) (mi pc : Nat) (lv : fl_L) (st : List fl_V) (m : fl_M) (Q : Option fl_V → fl_M → Prop) : Prop :=
  ∀ la : am_L, fl_LR lv la → am_To P mi pc la (st.map fl_c) (fl_H m) (fun v M => ∃ v' m', v = v'.map fl_c ∧ M = fl_H m' ∧ Q v' m')
section FLT
variable {P : am_Pg} {mi pc : Nat} {ins : Instr} {lv : fl_L} {st : List fl_V} {m : fl_M} {Q : Option fl_V → fl_M → Prop}
theorem fl_Tq.mono {Q' : Option fl_V → fl_M → Prop} (h : fl_Tq P mi pc lv st m Q) (hq : ∀ v m', Q v m' → Q' v m') : fl_Tq P mi pc lv st m Q' :=
  fun la hl => am_To.mono (h la hl) (fun v M ⟨v', m', h1, h2, h3⟩ => ⟨v', m', h1, h2, hq _ _ h3⟩)
theorem fl_Tq.stp {pc' : Nat} {lv' : fl_L} {st' : List fl_V} {m' : fl_M} (hc : am_code P mi pc = some ins) (hcl : am_cl P mi ins = none) (hok : ∀ v ∈ st, fl_ok m.2.2 v) (hst : fl_st P mi ins pc lv st m = some (pc', lv', st', m')) (k : fl_Tq P mi pc' lv' st' m' Q) : fl_Tq P mi pc lv st m Q := by
  intro la hl
  obtain ⟨h1, la', h2, h3⟩ := fl_tie hok hl hst
  exact am_To.stp hc hcl h1 h2 (k la' h3)
theorem fl_Tq.ret {v : Option fl_V} (hc : am_code P mi pc = some ins) (hcl : am_cl P mi ins = none) (hrt : fl_rt P mi ins st = some v) (k : Q v m) : fl_Tq P mi pc lv st m Q :=
  fun la hl => am_To.ret hc hcl (fl_rt_c hrt) ⟨v, m, rfl, rfl, k⟩
theorem fl_Tq.cal {mj n : Nat} (hc : am_code P mi pc = some ins) (hcl : am_cl P mi ins = some (mj, n)) (hok : ∀ v ∈ st, fl_ok m.2.2 v) (hrc : fl_rc P ins mj n st = true) (k : fl_Tq P mj 0 (fl_args (am_mxl P mj) (st.take n).reverse) [] m (fun v m' => fl_Tq P mi (pc + 3) lv (v.toList ++ st.drop n) m' Q)) : fl_Tq P mi pc lv st m Q := by
  intro la hl
  refine am_To.cal hc hcl (fl_rc_c hok hrc) ?_
  have e : ((st.map fl_c).take n).reverse = ((st.take n).reverse).map fl_c := by rw [List.map_reverse, List.map_take]
  rw [e]
  refine am_To.mono (k _ (fl_args_LR _ _)) ?_
  rintro v M ⟨v', m', rfl, rfl, h⟩
  have h := h la hl
  have e2 : (v'.map fl_c).toList ++ (st.map fl_c).drop n = (v'.toList ++ st.drop n).map fl_c := by
    rw [List.map_append, List.map_drop]
    cases v' <;> rfl
  rw [e2]
  exact h
end FLT
