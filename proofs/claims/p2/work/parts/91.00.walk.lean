/-! ===== steps with their ends written out (for wip/gen/walk2.py) ===== -/
abbrev t2_F : Type := Nat → Nat → Int32
abbrev t2_L : Type := (Nat → Nat → Int64) × Nat
section T2K
variable {P : am_Pg} {mi pc i k p τ n : Nat} {z : Nat × Nat × Nat} {lv : fl_L} {r : List fl_V} {m : fl_M} {f f' : t2_F} {l : t2_L} {v x y ix c : Int32} {Q : Option fl_V → fl_M → Prop}
theorem fl_Tq.cI {n : Int} {st : List fl_V} (hc : am_code P mi pc = some (.iconst n)) (e : Int32.ofInt n = c) (hok : ∀ u ∈ st, fl_ok m.2.2 u) (q : fl_Tq P mi (pc + 1) lv (.inl c :: st) m Q) : fl_Tq P mi pc lv st m Q := by
  subst e
  exact fl_Tq.stp hc rfl hok rfl q
theorem fl_Tq.cB {n : Int} {st : List fl_V} (hc : am_code P mi pc = some (.bipush n)) (e : (Int8.ofInt n).toInt32 = c) (hok : ∀ u ∈ st, fl_ok m.2.2 u) (q : fl_Tq P mi (pc + 2) lv (.inl c :: st) m Q) : fl_Tq P mi pc lv st m Q := by
  subst e
  exact fl_Tq.stp hc rfl hok rfl q
theorem fl_Tq.cS {n : Int} {st : List fl_V} (hc : am_code P mi pc = some (.sipush n)) (e : (Int16.ofInt n).toInt32 = c) (hok : ∀ u ∈ st, fl_ok m.2.2 u) (q : fl_Tq P mi (pc + 3) lv (.inl c :: st) m Q) : fl_Tq P mi pc lv st m Q := by
  subst e
  exact fl_Tq.stp hc rfl hok rfl q
theorem fl_Tq.gfV (hc : am_code P mi pc = some (.getfield i)) (hok : ∀ u ∈ (.inr (.inr (.inl (τ, p))) :: r : List fl_V), fl_ok l.2 u) (hst : fl_gf P (am_own P mi) i pc lv (.inr (.inr (.inl (τ, p))) :: r) (f, l) = some (pc + 3, lv, .inl (f p k) :: r, (f, l))) (hv : f p k = v) (q : fl_Tq P mi (pc + 3) lv (.inl v :: r) (f, l) Q) : fl_Tq P mi pc lv (.inr (.inr (.inl (τ, p))) :: r) (f, l) Q := by
  subst hv
  exact fl_Tq.stp hc rfl hok hst q
theorem fl_Tq.pfV {m' : fl_M} (hc : am_code P mi pc = some (.putfield i)) (hok : ∀ u ∈ (.inl x :: .inr (.inr (.inl (τ, p))) :: r : List fl_V), fl_ok l.2 u) (hst : fl_pf P mi (am_own P mi) i pc lv (.inl x :: .inr (.inr (.inl (τ, p))) :: r) (f, l) = some (pc + 3, lv, r, (fl_up f p k x, l))) (hm : ((fl_up f p k x, l) : fl_M) = m') (q : fl_Tq P mi (pc + 3) lv r m' Q) : fl_Tq P mi pc lv (.inl x :: .inr (.inr (.inl (τ, p))) :: r) (f, l) Q := by
  subst hm
  exact fl_Tq.stp hc rfl hok hst q
theorem fl_Tq.ldV (hc : am_code P mi pc = some .iaload) (hok : ∀ u ∈ (.inl ix :: .inr (.inr (.inl (τ, p))) :: r : List fl_V), fl_ok l.2 u) (hk : fk_kd τ = .inr (0, n, z)) (hi : ix.toInt = k) (hlt : k < n) (hv : f p k = v) (q : fl_Tq P mi (pc + 1) lv (.inl v :: r) (f, l) Q) : fl_Tq P mi pc lv (.inl ix :: .inr (.inr (.inl (τ, p))) :: r) (f, l) Q := by
  subst hv
  exact fl_Tq.ld (m := (f, l)) hc hok hk hi hlt q
theorem fl_Tq.svV {m' : fl_M} (hc : am_code P mi pc = some .iastore) (hok : ∀ u ∈ (.inl x :: .inl ix :: .inr (.inr (.inl (τ, p))) :: r : List fl_V), fl_ok l.2 u) (hk : fk_kd τ = .inr (0, n, z)) (hi : ix.toInt = k) (hlt : k < n) (hm : ((fl_up f p k x, l) : fl_M) = m') (q : fl_Tq P mi (pc + 1) lv r m' Q) : fl_Tq P mi pc lv (.inl x :: .inl ix :: .inr (.inr (.inl (τ, p))) :: r) (f, l) Q := by
  subst hm
  exact fl_Tq.sv (m := (f, l)) hc hok hk hi hlt q
theorem upd_self {w : Nat → Int32} : upd w k x k = x := by unfold upd; rw [if_pos rfl]
theorem upd_ne {w : Nat → Int32} {j : Nat} (h : j ≠ k) : upd w k x j = w j := by unfold upd; rw [if_neg h]
theorem t2_upn {w : Nat → Int32} (h : f p = w) : ((fl_up f p k x, l) : fl_M) = (fl_row f p (upd w k x), l) := by
  rw [fl_up_row, h]
theorem t2_upr {w : Nat → Int32} : ((fl_up (fl_row f p w) p k x, l) : fl_M) = (fl_row f p (upd w k x), l) := by
  rw [fl_up_row, fl_row_self]
  refine Prod.ext ?_ rfl
  funext q j
  show (if q = p then upd w k x j else if q = p then w j else f q j) = (if q = p then upd w k x j else f q j)
  by_cases h : q = p
  · rw [if_pos h, if_pos h]
  · rw [if_neg h, if_neg h, if_neg h]
theorem t2_upo {w : Nat → Int32} {x0 : Int32} : ((fl_up (fl_row f p (upd w k x0)) p k x, l) : fl_M) = (fl_row f p (upd w k x), l) := by
  rw [fl_up_row, fl_row_self]
  refine Prod.ext ?_ rfl
  funext q j
  show (if q = p then upd (upd w k x0) k x j else if q = p then upd w k x0 j else f q j) = (if q = p then upd w k x j else f q j)
  by_cases h : q = p
  · rw [if_pos h, if_pos h]
    unfold upd
    by_cases h2 : j = k
    · rw [if_pos h2, if_pos h2]
    · rw [if_neg h2, if_neg h2, if_neg h2]
  · rw [if_neg h, if_neg h, if_neg h]
theorem t2_iap {c : Prop} [Decidable c] {a b : t2_F} {p k : Nat} : (if c then a else b) p k = if c then a p k else b p k := by
  split <;> rfl
theorem fl_Tq.cpy {P : am_Pg} {mi pc i a b n0 n1 τa τb SP DP N : Nat} {za zb : Nat × Nat × Nat} {lv : fl_L} {r : List fl_V} {f : t2_F} {l : t2_L} {n dp sp : Int32} {wa wb : Nat → Int32} {Q : Option fl_V → fl_M → Prop} (hc : am_code P mi pc = some (.invokestatic i)) (hcl : am_cl P mi (.invokestatic i) = none) (hnt : am_ntk P mi (.invokestatic i) = some 1) (hok : ∀ u ∈ (.inl n :: .inl dp :: .inr (.inr (.inl (τb, b))) :: .inl sp :: .inr (.inr (.inl (τa, a))) :: r : List fl_V), fl_ok l.2 u) (ka : fk_kd τa = .inr (0, n0, za)) (kb : fk_kd τb = .inr (0, n1, zb)) (es : sp.toNatClampNeg = SP) (ed : dp.toNatClampNeg = DP) (en : n.toNatClampNeg = N) (hb : (decide (fl_sum r ≤ 8) && (!(decide (sp < 0)) && (!(decide (dp < 0)) && (!(decide (n < 0)) && (decide (SP + N ≤ n0) && decide (DP + N ≤ n1)))))) = true) (ha : f a = wa) (hbb : f b = wb) (q : fl_Tq P mi (pc + 3) lv r (fl_row f b (va_cpy wa wb SP DP N), l) Q) : fl_Tq P mi pc lv (.inl n :: .inl dp :: .inr (.inr (.inl (τb, b))) :: .inl sp :: .inr (.inr (.inl (τa, a))) :: r) (f, l) Q := by
  subst ha hbb es ed en
  refine fl_Tq.stp (pc' := pc + 3) (lv' := lv) (st' := r) (m' := (fl_row f b (va_cpy (f a) (f b) sp.toNatClampNeg dp.toNatClampNeg n.toNatClampNeg), l)) hc hcl hok ?_ q
  show (match am_ntk P mi (.invokestatic i) with | some 1 => fl_n1 pc lv _ _ | _ => none) = _
  rw [hnt]
  show (match fk_kd τa, fk_kd τb with | .inr (0, n0, _), .inr (0, n1, _) => bif decide (fl_sum r ≤ 8) && (!(decide (sp < 0)) && (!(decide (dp < 0)) && (!(decide (n < 0)) && (decide (sp.toNatClampNeg + n.toNatClampNeg ≤ n0) && decide (dp.toNatClampNeg + n.toNatClampNeg ≤ n1))))) then some (pc + 3, lv, r, ((fl_row f b (va_cpy (f a) (f b) sp.toNatClampNeg dp.toNatClampNeg n.toNatClampNeg), l) : fl_M)) else none | _, _ => none) = _
  rw [ka, kb]
  show (bif _ then _ else _) = _
  rw [hb]
  rfl
theorem t2_tn (x : Int32) : x.toInt.toNat ≤ 2147483647 := by
  have := at_i32 x
  omega
/-- while: so many rounds at most -/
def t2_wf (g : t2_F → Option t2_F) : Nat → t2_F → t2_F
  | 0, f => f
  | n + 1, f => match g f with
    | none => f
    | some f' => t2_wf g n f'
theorem t2_wh {g : t2_F → Option t2_F} {I : t2_F → Prop} {μ : t2_F → Nat} {S E : t2_F → Prop} (hI : ∀ f f' : t2_F, I f → g f = some f' → I f' ∧ μ f' < μ f) (hs : ∀ f : t2_F, I f → (g f = none → E f) → (∀ f' : t2_F, g f = some f' → S f') → S f) : ∀ (n : Nat) (f : t2_F), I f → μ f ≤ n → E (t2_wf g n f) → S f := by
  intro n
  induction n with
  | zero =>
    intro f h0 hm he
    refine hs f h0 (fun _ => he) (fun f' e => ?_)
    have := (hI f f' h0 e).2
    omega
  | succ n ih =>
    intro f h0 hm he
    refine hs f h0 (fun e => ?_) (fun f' e => ?_)
    · unfold t2_wf at he
      rw [e] at he
      exact he
    · obtain ⟨h1, h2⟩ := hI f f' h0 e
      unfold t2_wf at he
      rw [e] at he
      exact ih f' h1 (by omega) he
theorem t2_wf_k {g : t2_F → Option t2_F} {p k : Nat} (h : ∀ f f' : t2_F, g f = some f' → f' p k = f p k) : ∀ (n : Nat) (f : t2_F), t2_wf g n f p k = f p k := by
  intro n
  induction n with
  | zero => intro f; rfl
  | succ n ih =>
    intro f
    unfold t2_wf
    cases e : g f with
    | none => rfl
    | some f' => exact (ih f').trans (h f f' e)
theorem t2_wf_p {g : t2_F → Option t2_F} {p : Nat} (h : ∀ f f' : t2_F, g f = some f' → f' p = f p) (n : Nat) (f : t2_F) : t2_wf g n f p = f p := funext fun k => t2_wf_k (fun f f' e => by rw [h f f' e]) n f
theorem c2_lt_t (h : x.toInt < y.toInt) : am_c2 .lt x y = true := by rw [at_c2]; exact decide_eq_true (by omega)
theorem c2_lt_f (h : ¬ (x.toInt < y.toInt)) : am_c2 .lt x y = false := by rw [at_c2]; exact decide_eq_false (by omega)
theorem c2_ge_f (h : x.toInt < y.toInt) : am_c2 .ge x y = false := by rw [at_c2]; exact decide_eq_false (by omega)
theorem c2_ge_t (h : ¬ (x.toInt < y.toInt)) : am_c2 .ge x y = true := by rw [at_c2]; exact decide_eq_true (by omega)
theorem c2_gt_t (h : y.toInt < x.toInt) : am_c2 .gt x y = true := by rw [at_c2]; exact decide_eq_true (by omega)
theorem c2_gt_f (h : ¬ (y.toInt < x.toInt)) : am_c2 .gt x y = false := by rw [at_c2]; exact decide_eq_false (by omega)
theorem c2_le_f (h : y.toInt < x.toInt) : am_c2 .le x y = false := by rw [at_c2]; exact decide_eq_false (by omega)
theorem c2_le_t (h : ¬ (y.toInt < x.toInt)) : am_c2 .le x y = true := by rw [at_c2]; exact decide_eq_true (by omega)
theorem c2_eq_t (h : x.toInt = y.toInt) : am_c2 .eq x y = true := by rw [at_c2]; exact decide_eq_true (by omega)
theorem c2_eq_f (h : ¬ (x.toInt = y.toInt)) : am_c2 .eq x y = false := by rw [at_c2]; exact decide_eq_false (by omega)
theorem c2_ne_f (h : x.toInt = y.toInt) : am_c2 .ne x y = false := by rw [at_c2]; show (!decide _) = false; rw [decide_eq_true (by omega)]; rfl
theorem c2_ne_t (h : ¬ (x.toInt = y.toInt)) : am_c2 .ne x y = true := by rw [at_c2]; show (!decide _) = true; rw [decide_eq_false (by omega)]; rfl
theorem c1_lt_t (h : x.toInt < 0) : am_c1 .lt x = true := by rw [at_c1]; exact decide_eq_true (by omega)
theorem c1_lt_f (h : ¬ (x.toInt < 0)) : am_c1 .lt x = false := by rw [at_c1]; exact decide_eq_false (by omega)
theorem c1_ge_f (h : x.toInt < 0) : am_c1 .ge x = false := by rw [at_c1]; exact decide_eq_false (by omega)
theorem c1_ge_t (h : ¬ (x.toInt < 0)) : am_c1 .ge x = true := by rw [at_c1]; exact decide_eq_true (by omega)
theorem c1_gt_t (h : 0 < x.toInt) : am_c1 .gt x = true := by rw [at_c1]; exact decide_eq_true (by omega)
theorem c1_gt_f (h : ¬ (0 < x.toInt)) : am_c1 .gt x = false := by rw [at_c1]; exact decide_eq_false (by omega)
theorem c1_le_f (h : 0 < x.toInt) : am_c1 .le x = false := by rw [at_c1]; exact decide_eq_false (by omega)
theorem c1_le_t (h : ¬ (0 < x.toInt)) : am_c1 .le x = true := by rw [at_c1]; exact decide_eq_true (by omega)
theorem c1_eq_t (h : x.toInt = 0) : am_c1 .eq x = true := by rw [at_c1]; exact decide_eq_true h
theorem c1_eq_f (h : ¬ (x.toInt = 0)) : am_c1 .eq x = false := by rw [at_c1]; exact decide_eq_false h
theorem c1_ne_f (h : x.toInt = 0) : am_c1 .ne x = false := by rw [at_c1]; show (!decide _) = false; rw [decide_eq_true h]; rfl
theorem c1_ne_t (h : ¬ (x.toInt = 0)) : am_c1 .ne x = true := by rw [at_c1]; show (!decide _) = true; rw [decide_eq_false h]; rfl
end T2K
