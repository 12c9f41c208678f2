/-! ===== the looker's arithmetic ===== -/
/-- an answer of the looker stands for z -/
def at_Sp (ν : Nat → Int) (P : at_P) (q : at_P × at_A) (z : Int) : Prop := ∃ ν', at_X ν P ν' q.1 ∧ at_wf q.1.1.length q.2 ∧ at_ev ν' q.2 = z
def at_fr (P : at_P) (lo hi : Int) : at_P × at_A := (at_new P lo hi, at_nv P)
theorem at_fr_ok {ν : Nat → Int} {P : at_P} (hP : at_KP ν P) {lo hi z : Int} (h1 : lo ≤ z) (h2 : z ≤ hi) : at_Sp ν P (at_fr P lo hi) z := by
  obtain ⟨ν', h, hw, he⟩ := at_new_X hP h1 h2
  exact ⟨ν', h, hw, he⟩
def at_fx (P : at_P) (a : at_A) (lo hi : Int) : at_P × at_A := bif at_inR P a lo hi then (P, a) else at_fr P lo hi
theorem at_fx_ok {ν : Nat → Int} {P : at_P} (hP : at_KP ν P) {a : at_A} (ha : at_wf P.1.length a) {lo hi z : Int} (h1 : lo ≤ z) (h2 : z ≤ hi) (he : lo ≤ at_ev ν a → at_ev ν a ≤ hi → z = at_ev ν a) : at_Sp ν P (at_fx P a lo hi) z := by
  unfold at_fx
  cases h : at_inR P a lo hi with
  | false => exact at_fr_ok hP h1 h2
  | true =>
    obtain ⟨k1, k2⟩ := at_inR_ok hP.1 h
    exact ⟨ν, at_X.rfl hP, ha, (he k1 k2).symm⟩
def at_try (P : at_P) (a : at_A) : at_P := match at_as P a with
  | some P' => P'
  | none => P
theorem at_try_X {ν : Nat → Int} {P : at_P} (hP : at_KP ν P) {a : at_A} (ha : at_wf P.1.length a) (h : at_ev ν a ≤ 0) : at_X ν P ν (at_try P a) ∧ (at_try P a).1.length = P.1.length := by
  obtain ⟨P', e, h1, h2⟩ := at_as_X hP ha h
  unfold at_try
  rw [e]
  exact ⟨h1, h2⟩
def at_ic (sy : List (Int × Int)) (a : at_A) : Option Int := bif decide (at_lo sy a = at_hi sy a) then some (at_lo sy a) else none
theorem at_ic_ok {ν : Nat → Int} {sy : List (Int × Int)} (h : at_Rg ν sy) {a : at_A} {k : Int} (e : at_ic sy a = some k) : at_ev ν a = k := by
  unfold at_ic at e
  cases hd : decide (at_lo sy a = at_hi sy a) with
  | false => rw [hd] at e; cases e
  | true =>
    rw [hd] at e
    cases e
    have := of_decide_eq_true hd
    have := at_lo_le h a
    have := at_hi_le h a
    omega
/-- two numbers' product, in which of them one is known; else by ranges -/
def at_ml (P : at_P) (a b : at_A) (lo hi : Int) : at_P × at_A := match at_ic P.1 a, at_ic P.1 b with
  | some k, _ => at_fx P (at_mul k b) lo hi
  | none, some k => at_fx P (at_mul k a) lo hi
  | none, none => (fun xl xh yl yh : Int => (fun l h : Int => bif decide (lo ≤ l) && decide (h ≤ hi) then
      (fun z : at_A => (fun P1 : at_P => ((bif decide (0 ≤ xl) then at_try P1 (at_sub z (at_mul yh a)) else P1), z)) (bif decide (0 ≤ yl) then at_try (at_new P l h) (at_sub z (at_mul xh b)) else at_new P l h)) (at_nv P)
      else at_fr P lo hi) (min (min (xl * yl) (xl * yh)) (min (xh * yl) (xh * yh))) (max (max (xl * yl) (xl * yh)) (max (xh * yl) (xh * yh)))) (at_lo P.1 a) (at_hi P.1 a) (at_lo P.1 b) (at_hi P.1 b)
theorem at_prod {xl xh yl yh x y : Int} (h1 : xl ≤ x) (h2 : x ≤ xh) (h3 : yl ≤ y) (h4 : y ≤ yh) : min (min (xl * yl) (xl * yh)) (min (xh * yl) (xh * yh)) ≤ x * y ∧ x * y ≤ max (max (xl * yl) (xl * yh)) (max (xh * yl) (xh * yh)) := by
  have a1 : min (x * yl) (x * yh) ≤ x * y ∧ x * y ≤ max (x * yl) (x * yh) := by
    rcases Int.le_total 0 x with h | h
    · have := Int.mul_le_mul_of_nonneg_left h3 h
      have := Int.mul_le_mul_of_nonneg_left h4 h
      omega
    · have := Int.mul_le_mul_of_nonpos_left h h3
      have := Int.mul_le_mul_of_nonpos_left h h4
      omega
  have a2 : ∀ c : Int, min (xl * c) (xh * c) ≤ x * c ∧ x * c ≤ max (xl * c) (xh * c) := by
    intro c
    rcases Int.le_total 0 c with h | h
    · have := Int.mul_le_mul_of_nonneg_right h1 h
      have := Int.mul_le_mul_of_nonneg_right h2 h
      omega
    · have := Int.mul_le_mul_of_nonpos_right h1 h
      have := Int.mul_le_mul_of_nonpos_right h2 h
      omega
  have b1 := a2 yl
  have b2 := a2 yh
  omega
theorem at_ml_ok {ν : Nat → Int} {P : at_P} (hP : at_KP ν P) {a b : at_A} (ha : at_wf P.1.length a) (hb : at_wf P.1.length b) {lo hi z : Int} (h1 : lo ≤ z) (h2 : z ≤ hi) (he : lo ≤ at_ev ν a * at_ev ν b → at_ev ν a * at_ev ν b ≤ hi → z = at_ev ν a * at_ev ν b) : at_Sp ν P (at_ml P a b lo hi) z := by
  unfold at_ml
  rcases e1 : at_ic P.1 a with _ | k
  case some =>
    have e2 := at_ic_ok hP.1.1 e1
    refine at_fx_ok hP (at_wf_mul hb) h1 h2 ?_
    rw [at_ev_mul, ← e2]
    exact he
  rcases e3 : at_ic P.1 b with _ | k
  case some =>
    have e2 := at_ic_ok hP.1.1 e3
    refine at_fx_ok hP (at_wf_mul ha) h1 h2 ?_
    rw [at_ev_mul, ← e2, Int.mul_comm]
    exact he
  · have xl1 := at_lo_le hP.1.1 a
    have xh1 := at_hi_le hP.1.1 a
    have yl1 := at_lo_le hP.1.1 b
    have yh1 := at_hi_le hP.1.1 b
    generalize at_lo P.1 a = xl at xl1 ⊢
    generalize at_hi P.1 a = xh at xh1 ⊢
    generalize at_lo P.1 b = yl at yl1 ⊢
    generalize at_hi P.1 b = yh at yh1 ⊢
    dsimp only
    obtain ⟨p1, p2⟩ := at_prod xl1 xh1 yl1 yh1
    generalize min (min (xl * yl) (xl * yh)) (min (xh * yl) (xh * yh)) = l at p1 ⊢
    generalize max (max (xl * yl) (xl * yh)) (max (xh * yl) (xh * yh)) = h at p2 ⊢
    cases hd : decide (lo ≤ l) && decide (h ≤ hi) with
    | false => exact at_fr_ok hP h1 h2
    | true =>
      simp only [Bool.and_eq_true, decide_eq_true_eq] at hd
      dsimp only [cond_true]
      have hz := he (by omega) (by omega)
      rw [← hz] at p1 p2
      obtain ⟨ν', hx, hw, hv⟩ := at_new_X hP p1 p2
      have hlen := hx.2.1
      have ea := at_ev_ag hx.1 ha
      have eb := at_ev_ag hx.1 hb
      have k1 : ∃ P1, P1 = (bif decide (0 ≤ yl) then at_try (at_new P l h) (at_sub (at_nv P) (at_mul xh b)) else at_new P l h) ∧ at_X ν P ν' P1 ∧ P1.1.length = (at_new P l h).1.length := by
        refine ⟨_, rfl, ?_⟩
        cases hy : decide (0 ≤ yl) with
        | false => exact ⟨hx, rfl⟩
        | true =>
          have hy := of_decide_eq_true hy
          have q : at_ev ν' (at_sub (at_nv P) (at_mul xh b)) ≤ 0 := by
            rw [at_ev_sub, at_ev_mul, hv, eb, hz]
            have := Int.mul_le_mul_of_nonneg_right xh1 (by omega : 0 ≤ at_ev ν b)
            omega
          obtain ⟨k1, k2⟩ := at_try_X hx.2.2 (at_wf_sub hw (at_wf_mul (hb.mono hlen))) q
          exact ⟨hx.trans k1, k2⟩
      obtain ⟨P1, e1, x1, l1⟩ := k1
      rw [← e1]
      have hw1 : at_wf P1.1.length (at_nv P) := by rw [l1]; exact hw
      cases hxl : decide (0 ≤ xl) with
      | false => exact ⟨ν', x1, hw1, hv⟩
      | true =>
        have hxl := of_decide_eq_true hxl
        have q : at_ev ν' (at_sub (at_nv P) (at_mul yh a)) ≤ 0 := by
          rw [at_ev_sub, at_ev_mul, hv, ea, hz, Int.mul_comm yh]
          have := Int.mul_le_mul_of_nonneg_left yh1 (by omega : 0 ≤ at_ev ν a)
          omega
        obtain ⟨k1, k2⟩ := at_try_X x1.2.2 (at_wf_sub hw1 (at_wf_mul (ha.mono x1.2.1))) q
        refine ⟨ν', x1.trans k1, ?_, hv⟩
        dsimp only [cond_true]
        rw [k2]
        exact hw1
/-- is the number known to be above 0? -/
def at_ps (P : at_P) (b : at_A) : Bool := decide (0 < at_lo P.1 b) || at_le P (at_sub (at_c 1) b)
def at_nn (P : at_P) (a : at_A) : Bool := decide (0 ≤ at_lo P.1 a) || at_le P (at_mul (-1) a)
def at_n0 (P : at_P) (b : at_A) : Bool := at_ps P b || (decide (at_hi P.1 b < 0) || P.2.2.any (fun d => at_eq d b))
theorem at_ps_ok {ν : Nat → Int} {P : at_P} (hP : at_GP ν P) {b : at_A} (h : at_ps P b = true) : 0 < at_ev ν b := by
  unfold at_ps at h
  rcases (Bool.or_eq_true _ _).mp h with h | h
  · have := of_decide_eq_true h
    have := at_lo_le hP.1 b
    omega
  · have := at_le_ok hP h
    rw [at_ev_sub, at_ev_c] at this
    omega
theorem at_nn_ok {ν : Nat → Int} {P : at_P} (hP : at_GP ν P) {b : at_A} (h : at_nn P b = true) : 0 ≤ at_ev ν b := by
  unfold at_nn at h
  rcases (Bool.or_eq_true _ _).mp h with h | h
  · have := of_decide_eq_true h
    have := at_lo_le hP.1 b
    omega
  · have := at_le_ok hP h
    rw [at_ev_mul] at this
    omega
theorem at_n0_ok {ν : Nat → Int} {P : at_P} (hP : at_GP ν P) {b : at_A} (h : at_n0 P b = true) : at_ev ν b ≠ 0 := by
  unfold at_n0 at h
  simp only [Bool.or_eq_true, decide_eq_true_eq, List.any_eq_true] at h
  rcases h with h | h | ⟨d, hd, e⟩
  · have := at_ps_ok hP h; omega
  · have := at_hi_le hP.1 b; omega
  · rw [← at_eq_ok e]
    exact hP.2.2 d hd
/-- what is known of a quotient by d of the number x: from x - T <= 0, where d divides T -/
def at_dq (z : at_A) (d : Int) (x : Nat) : List at_A → at_P → at_P
  | [], P => P
  | c :: r, P => at_dq z d x r ((fun T : at_A => bif decide (at_co x T.2 = 0) && (decide (T.1 % d = 0) && T.2.all (fun t => decide (t.1 % d = 0))) then at_try P (at_sub z (T.1 / d, T.2.map (fun t => (t.1 / d, t.2)))) else P) (at_sub (at_v x) c))
def at_dv (P : at_P) (a b : at_A) (lo hi : Int) : Option (at_P × at_A) :=
  bif !at_n0 P b then none
  else bif at_ps P b && at_nn P a then
    some ((fun (l h : Int) (z : at_A) => (fun P1 : at_P => match at_ic P.1 b with
      | none => (P1, z)
      | some d => ((match a with
        | (0, [(1, x)]) => at_dq z d x P.2.1 (at_try P1 (at_sub (at_mul d z) a))
        | _ => at_try P1 (at_sub (at_mul d z) a)), z)) (at_new P l h)) (max (at_lo P.1 a) 0 / max (at_hi P.1 b) 1) ((fun h : Int => bif at_le P (at_sub a (at_mul 1000 b)) then min h 1000 else h) (at_hi P.1 a / max (at_lo P.1 b) 1)) (at_nv P))
  else some ((fun m : Int => bif decide (m ≤ hi) && decide (lo ≤ -m) then at_fr P (-m) m else at_fr P lo hi) (max (at_hi P.1 a) (-at_lo P.1 a) / max (at_lo P.1 b) 1))
theorem at_dq_ok {ν : Nat → Int} {z : at_A} {d : Int} {x : Nat} (hd : 0 < d) : ∀ (cs : List at_A) (P : at_P), at_KP ν P → at_wf P.1.length z → x < P.1.length → (∀ c ∈ cs, at_ev ν c ≤ 0 ∧ at_wf P.1.length c) → d * at_ev ν z ≤ ν x → at_X ν P ν (at_dq z d x cs P) ∧ (at_dq z d x cs P).1.length = P.1.length := by
  intro cs
  induction cs with
  | nil => intro P hP _ _ _ _; exact ⟨at_X.rfl hP, rfl⟩
  | cons c r ih =>
    intro P hP hz hx hc hq
    unfold at_dq
    dsimp only
    obtain ⟨c1, c2⟩ := hc c List.mem_cons_self
    have hv : at_wf P.1.length (at_v x) := by
      intro t ht
      have : t = (1, x) := by simpa [at_v] using ht
      rw [this]; exact hx
    have hT : at_wf P.1.length (at_sub (at_v x) c) := at_wf_sub hv c2
    have eT : at_ev ν (at_sub (at_v x) c) = ν x - at_ev ν c := by rw [at_ev_sub, at_ev_v]
    generalize at_sub (at_v x) c = T at hT eT ⊢
    have key : at_X ν P ν (bif decide (at_co x T.2 = 0) && (decide (T.1 % d = 0) && T.2.all (fun t => decide (t.1 % d = 0))) then at_try P (at_sub z (T.1 / d, T.2.map (fun t => (t.1 / d, t.2)))) else P) ∧ (bif decide (at_co x T.2 = 0) && (decide (T.1 % d = 0) && T.2.all (fun t => decide (t.1 % d = 0))) then at_try P (at_sub z (T.1 / d, T.2.map (fun t => (t.1 / d, t.2)))) else P).1.length = P.1.length := by
      cases hb : decide (at_co x T.2 = 0) && (decide (T.1 % d = 0) && T.2.all (fun t => decide (t.1 % d = 0))) with
      | false => exact ⟨at_X.rfl hP, rfl⟩
      | true =>
        simp only [Bool.and_eq_true, decide_eq_true_eq, List.all_eq_true] at hb
        obtain ⟨-, b2, b3⟩ := hb
        have hdv : ∀ t ∈ T.2, d ∣ t.1 := fun t ht => Int.dvd_of_emod_eq_zero (b3 t ht)
        have e2 := at_evl_div (ν := ν) hdv
        have e3 : at_ev ν T = d * at_ev ν (T.1 / d, T.2.map (fun t => (t.1 / d, t.2))) := by
          unfold at_ev
          dsimp only
          rw [e2, Int.mul_add, Int.mul_ediv_cancel' (Int.dvd_of_emod_eq_zero b2)]
        have hw : at_wf P.1.length (at_sub z (T.1 / d, T.2.map (fun t => (t.1 / d, t.2)))) := by
          refine at_wf_sub hz ?_
          intro t ht
          obtain ⟨s, hs, rfl⟩ := List.mem_map.mp ht
          exact hT s hs
        refine at_try_X hP hw ?_
        rw [at_ev_sub]
        have h5 : d * at_ev ν z ≤ d * at_ev ν (T.1 / d, T.2.map (fun t => (t.1 / d, t.2))) := by rw [← e3, eT]; omega
        have := Int.le_of_mul_le_mul_left h5 hd
        omega
    obtain ⟨k1, k2⟩ := key
    obtain ⟨k3, k4⟩ := ih _ k1.2.2 (by rw [k2]; exact hz) (by rw [k2]; exact hx) (fun c hc' => by rw [k2]; exact hc c (List.mem_cons_of_mem _ hc')) hq
    exact ⟨k1.trans k3, by rw [k4, k2]⟩

theorem at_tdiv_abs {x y m d : Int} (hy : y ≠ 0) (h1 : x ≤ m) (h2 : -x ≤ m) (hd : 1 ≤ d) (hdy : d = 1 ∨ d ≤ y) : -(m / d) ≤ x.tdiv y ∧ x.tdiv y ≤ m / d := by
  have e : (x.tdiv y).natAbs = x.natAbs / y.natAbs := Int.natAbs_tdiv x y
  have h3 : (x.tdiv y).natAbs * y.natAbs ≤ x.natAbs := by rw [e]; exact Nat.div_mul_le_self _ _
  have h4 : ((x.tdiv y).natAbs : Int) ≤ m / d := by
    refine (Int.le_ediv_iff_mul_le (by omega)).mpr ?_
    have h5 : ((x.tdiv y).natAbs : Int) * d ≤ (x.tdiv y).natAbs * (y.natAbs : Int) := Int.mul_le_mul_of_nonneg_left (by omega) (by omega)
    have h6 : ((x.tdiv y).natAbs : Int) * (y.natAbs : Int) ≤ x.natAbs := by exact_mod_cast h3
    omega
  omega
theorem at_dv_ok {ν : Nat → Int} {P : at_P} (hP : at_KP ν P) {a b : at_A} (ha : at_wf P.1.length a) (hb : at_wf P.1.length b) {lo hi z : Int} {q : at_P × at_A} (h : at_dv P a b lo hi = some q) (h1 : lo ≤ z) (h2 : z ≤ hi) (he : lo ≤ (at_ev ν a).tdiv (at_ev ν b) → (at_ev ν a).tdiv (at_ev ν b) ≤ hi → z = (at_ev ν a).tdiv (at_ev ν b)) (hr : at_ev ν a ≤ hi) (hl : lo ≤ 0) : at_ev ν b ≠ 0 ∧ at_Sp ν P q z := by
  unfold at_dv at h
  cases h0 : at_n0 P b with
  | false => rw [h0] at h; cases h
  | true =>
    have hn := at_n0_ok hP.1 h0
    refine ⟨hn, ?_⟩
    rw [h0] at h
    dsimp only [Bool.not_true, cond_false] at h
    cases hc : at_ps P b && at_nn P a with
    | true =>
      rw [hc] at h
      simp only [Bool.and_eq_true] at hc
      have hbp := at_ps_ok hP.1 hc.1
      have hap := at_nn_ok hP.1 hc.2
      have e := Int.tdiv_eq_ediv_of_nonneg (b := at_ev ν b) hap
      rw [e] at he
      dsimp only [cond_true] at h
      have al := at_lo_le hP.1.1 a
      have ah := at_hi_le hP.1.1 a
      have bl := at_lo_le hP.1.1 b
      have bh := at_hi_le hP.1.1 b
      have hq0 : 0 ≤ at_ev ν a / at_ev ν b := Int.ediv_nonneg hap (by omega)
      have hqx : at_ev ν a / at_ev ν b ≤ at_ev ν a := Int.ediv_le_self _ hap
      have hz := he (by omega) (by omega)
      have p1 : max (at_lo P.1 a) 0 / max (at_hi P.1 b) 1 ≤ z := by
        rw [hz]
        refine (Int.le_ediv_iff_mul_le hbp).mpr ?_
        have k1 : max (at_lo P.1 a) 0 / max (at_hi P.1 b) 1 * max (at_hi P.1 b) 1 ≤ max (at_lo P.1 a) 0 := Int.ediv_mul_le _ (by omega)
        have k2 : max (at_lo P.1 a) 0 / max (at_hi P.1 b) 1 * at_ev ν b ≤ max (at_lo P.1 a) 0 / max (at_hi P.1 b) 1 * max (at_hi P.1 b) 1 := Int.mul_le_mul_of_nonneg_left (by omega) (Int.ediv_nonneg (by omega) (by omega))
        omega
      have p2' : z ≤ at_hi P.1 a / max (at_lo P.1 b) 1 := by
        rw [hz]
        refine (Int.le_ediv_iff_mul_le (by omega)).mpr ?_
        have k1 : at_ev ν a / at_ev ν b * at_ev ν b ≤ at_ev ν a := Int.ediv_mul_le _ (by omega)
        have k2 : at_ev ν a / at_ev ν b * max (at_lo P.1 b) 1 ≤ at_ev ν a / at_ev ν b * at_ev ν b := Int.mul_le_mul_of_nonneg_left (by omega) hq0
        omega
      have p2 : z ≤ (bif at_le P (at_sub a (at_mul 1000 b)) then min (at_hi P.1 a / max (at_lo P.1 b) 1) 1000 else at_hi P.1 a / max (at_lo P.1 b) 1) := by
        cases hk : at_le P (at_sub a (at_mul 1000 b)) with
        | false => exact p2'
        | true =>
          have := at_le_ok hP.1 hk
          rw [at_ev_sub, at_ev_mul] at this
          have : z ≤ 1000 := by
            rw [hz]
            have : at_ev ν a / at_ev ν b ≤ 1000 * at_ev ν b / at_ev ν b := Int.ediv_le_ediv hbp (by omega)
            rw [Int.mul_ediv_cancel _ hn] at this
            exact this
          show z ≤ min _ _
          omega
      generalize (bif at_le P (at_sub a (at_mul 1000 b)) then min (at_hi P.1 a / max (at_lo P.1 b) 1) 1000 else at_hi P.1 a / max (at_lo P.1 b) 1) = hh at p2 h
      generalize max (at_lo P.1 a) 0 / max (at_hi P.1 b) 1 = ll at p1 h
      obtain ⟨ν', hx, hw, hv⟩ := at_new_X hP p1 p2
      have hlen := hx.2.1
      rcases e1 : at_ic P.1 b with _ | d
      · rw [e1] at h
        cases h
        exact ⟨ν', hx, hw, hv⟩
      · rw [e1] at h
        have ed := at_ic_ok hP.1.1 e1
        have hd : 0 < d := by omega
        have hdz : d * at_ev ν' (at_nv P) ≤ at_ev ν' a := by
          rw [hv, at_ev_ag hx.1 ha, hz, ← ed]
          exact Int.mul_ediv_self_le hn
        have hwa := ha.mono hlen
        have hwz : at_wf (at_new P ll hh).1.length (at_sub (at_mul d (at_nv P)) a) := at_wf_sub (at_wf_mul hw) hwa
        obtain ⟨k1, k2⟩ := at_try_X hx.2.2 hwz (by rw [at_ev_sub, at_ev_mul]; omega)
        dsimp only at h
        split at h
        · rename_i x
          cases h
          have hxl : x < P.1.length := ha (1, x) List.mem_cons_self
          obtain ⟨k3, k4⟩ := at_dq_ok (z := at_nv P) (x := x) hd P.2.1 (at_try (at_new P ll hh) (at_sub (at_mul d (at_nv P)) (0, [(1, x)]))) k1.2.2 (by rw [k2]; exact hw) (by rw [k2]; omega) (fun c hc => by
            refine ⟨?_, ?_⟩
            · rw [at_ev_ag hx.1 (hP.2.1 c hc)]; exact hP.1.2.1 c hc
            · rw [k2]; exact (hP.2.1 c hc).mono hlen) (by
            have : at_ev ν' (0, [(1, x)]) = ν' x := at_ev_v ν' x
            omega)
          exact ⟨ν', (hx.trans k1).trans k3, by dsimp only; rw [k4, k2]; exact hw, hv⟩
        · cases h
          exact ⟨ν', hx.trans k1, by dsimp only; rw [k2]; exact hw, hv⟩
    | false =>
      rw [hc] at h
      dsimp only [cond_false] at h
      have ah := at_hi_le hP.1.1 a
      have al := at_lo_le hP.1.1 a
      have bl := at_lo_le hP.1.1 b
      cases hm : decide (max (at_hi P.1 a) (-at_lo P.1 a) / max (at_lo P.1 b) 1 ≤ hi) && decide (lo ≤ -(max (at_hi P.1 a) (-at_lo P.1 a) / max (at_lo P.1 b) 1)) with
      | false =>
        rw [hm] at h
        cases h
        exact at_fr_ok hP h1 h2
      | true =>
        rw [hm] at h
        cases h
        simp only [Bool.and_eq_true, decide_eq_true_eq] at hm
        obtain ⟨k1, k2⟩ := at_tdiv_abs (x := at_ev ν a) (m := max (at_hi P.1 a) (-at_lo P.1 a)) (d := max (at_lo P.1 b) 1) hn (by omega) (by omega) (by omega) (by omega)
        generalize max (at_hi P.1 a) (-at_lo P.1 a) / max (at_lo P.1 b) 1 = mm at k1 k2 hm ⊢
        have := he (by omega) (by omega)
        exact at_fr_ok hP (by omega) (by omega)
/-- a remainder (the number's own sign) -/
def at_rm (P : at_P) (a b : at_A) (lo hi : Int) : Option (at_P × at_A) :=
  bif !at_n0 P b then none
  else bif decide (0 < at_lo P.1 b) && (decide (at_hi P.1 b ≤ hi) && decide (lo ≤ -at_hi P.1 b)) then (bif at_nn P a then some (at_fr P 0 (at_hi P.1 b - 1)) else some (at_fr P (-(at_hi P.1 b - 1)) (at_hi P.1 b - 1)))
  else some (at_fr P lo hi)
theorem at_rm_ok {ν : Nat → Int} {P : at_P} (hP : at_KP ν P) {a b : at_A} {lo hi z : Int} {q : at_P × at_A} (h : at_rm P a b lo hi = some q) (h1 : lo ≤ z) (h2 : z ≤ hi) (he : lo ≤ (at_ev ν a).tmod (at_ev ν b) → (at_ev ν a).tmod (at_ev ν b) ≤ hi → z = (at_ev ν a).tmod (at_ev ν b)) : at_ev ν b ≠ 0 ∧ at_Sp ν P q z := by
  unfold at_rm at h
  cases h0 : at_n0 P b with
  | false => rw [h0] at h; cases h
  | true =>
    have hn := at_n0_ok hP.1 h0
    refine ⟨hn, ?_⟩
    rw [h0] at h
    replace h : (bif decide (0 < at_lo P.1 b) && (decide (at_hi P.1 b ≤ hi) && decide (lo ≤ -at_hi P.1 b)) then (bif at_nn P a then some (at_fr P 0 (at_hi P.1 b - 1)) else some (at_fr P (-(at_hi P.1 b - 1)) (at_hi P.1 b - 1))) else some (at_fr P lo hi)) = some q := h
    cases hc : decide (0 < at_lo P.1 b) && (decide (at_hi P.1 b ≤ hi) && decide (lo ≤ -at_hi P.1 b)) with
    | false =>
      rw [hc] at h
      cases h
      exact at_fr_ok hP h1 h2
    | true =>
      rw [hc] at h
      simp only [Bool.and_eq_true, decide_eq_true_eq] at hc
      obtain ⟨c1, c2, c3⟩ := hc
      have bl := at_lo_le hP.1.1 b
      have bh := at_hi_le hP.1.1 b
      have t1 := Int.tmod_lt_of_pos (at_ev ν a) (by omega : 0 < at_ev ν b)
      have t2 : -at_ev ν b < (at_ev ν a).tmod (at_ev ν b) := by
        have h5 := Int.tmod_lt_of_pos (-at_ev ν a) (by omega : 0 < at_ev ν b)
        rw [Int.neg_tmod] at h5
        omega
      have hz := he (by omega) (by omega)
      dsimp only [cond_true] at h
      cases hx : at_nn P a with
      | true =>
        rw [hx] at h
        cases h
        have := at_nn_ok hP.1 hx
        have := Int.tmod_nonneg (at_ev ν b) this
        exact at_fr_ok hP (by omega) (by omega)
      | false =>
        rw [hx] at h
        cases h
        exact at_fr_ok hP (by omega) (by omega)
/-- bits that both have -/
def at_an (P : at_P) (a b : at_A) (lo hi : Int) : at_P × at_A :=
  bif decide (0 ≤ at_lo P.1 b) then (at_try (at_new P 0 (at_hi P.1 b)) (at_sub (at_nv P) b), at_nv P)
  else bif decide (0 ≤ at_lo P.1 a) then (at_try (at_new P 0 (at_hi P.1 a)) (at_sub (at_nv P) a), at_nv P)
  else at_fr P lo hi
theorem at_an_ok {ν : Nat → Int} {P : at_P} (hP : at_KP ν P) {a b : at_A} (ha : at_wf P.1.length a) (hb : at_wf P.1.length b) {lo hi z : Int} (h1 : lo ≤ z) (h2 : z ≤ hi) (ea : 0 ≤ at_ev ν a → 0 ≤ z ∧ z ≤ at_ev ν a) (eb : 0 ≤ at_ev ν b → 0 ≤ z ∧ z ≤ at_ev ν b) : at_Sp ν P (at_an P a b lo hi) z := by
  have key : ∀ c : at_A, at_wf P.1.length c → (0 ≤ at_ev ν c → 0 ≤ z ∧ z ≤ at_ev ν c) → 0 ≤ at_lo P.1 c → at_Sp ν P (at_try (at_new P 0 (at_hi P.1 c)) (at_sub (at_nv P) c), at_nv P) z := by
    intro c hc ec hl
    have cl := at_lo_le hP.1.1 c
    have ch := at_hi_le hP.1.1 c
    obtain ⟨p1, p2⟩ := ec (by omega)
    obtain ⟨ν', hx, hw, hv⟩ := at_new_X hP p1 (by omega : z ≤ at_hi P.1 c)
    obtain ⟨k1, k2⟩ := at_try_X hx.2.2 (at_wf_sub hw (hc.mono hx.2.1)) (by rw [at_ev_sub, hv, at_ev_ag hx.1 hc]; omega)
    exact ⟨ν', hx.trans k1, by dsimp only; rw [k2]; exact hw, hv⟩
  unfold at_an
  cases h3 : decide (0 ≤ at_lo P.1 b) with
  | true => exact key b hb eb (of_decide_eq_true h3)
  | false =>
    dsimp only [cond_false]
    cases h4 : decide (0 ≤ at_lo P.1 a) with
    | true => exact key a ha ea (of_decide_eq_true h4)
    | false => exact at_fr_ok hP h1 h2
