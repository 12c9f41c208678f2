/-! ===== a contract and what its method is as a function: one end ===== -/
/-- a word of its own: an int field, a row of ints -/
def t2_iw (p j : Nat) : Bool := match fk_kd (fk_K p) with
  | .inl (_, fs) => (match fs[j]? with
    | some none => true
    | _ => false)
  | .inr (t, _) => Nat.beq t 0
theorem t2_Hw {m m' : fl_M} (e : fl_H m = fl_H m') {p j : Nat} (hp : p < fl_N m.2.2) (hw : t2_iw p j = true) : m.1 p j = m'.1 p j := by
  have ho := (t2_He e).2 p hp
  unfold t2_iw at hw
  cases hkd : fk_kd (fk_K p) with
  | inl q =>
    obtain ⟨ci, fs⟩ := q
    rw [hkd] at hw ho
    have c4 : fs[j]? = some none := by
      dsimp only at hw
      split at hw
      · rename_i h; exact h
      · cases hw
    unfold fl_ob at ho
    injection ho with ho
    injection ho with _ ho
    have h1 := congrArg (fun l : List Value => l[j]?) ho
    simp only [List.getElem?_mapIdx, c4, Option.map_some, fl_fv] at h1
    injection h1 with h1
    injection h1
  | inr q =>
    obtain ⟨t, n, z⟩ := q
    rw [hkd] at hw ho
    have ht : t = 0 := Nat.eq_of_beq_eq_true hw
    subst ht
    injection ho with ho
    injection ho with _ ho
    injection ho with _ ho
    injection ho with ho
    rw [ho]
/-- the words are those that a function leaves -/
def t2_E (m : fl_M) (g : t2_F) : Prop := ∀ p j : Nat, p < fl_N m.2.2 → t2_iw p j = true → m.1 p j = g p j
section T2USE
variable {L : Nat} {xs : Nat → Int32}
def t2_P (c : at_C) (m : fl_M) (g : t2_F) (v : Option fl_V) (v2 : Option fl_V) (m2 : fl_M) : Prop := at_Good at_XI m2 ∧ at_MD m m2 c.2.2.2.2.2 ∧ at_rtc c.2.2.2.1 c.2.2.2.2.1 m2 v2 ∧ v2.map fl_c = v.map fl_c ∧ m2.2.2 = m.2.2 ∧ t2_E m2 g
theorem t2_use {c : at_C} {as_ : List fl_V} {m : fl_M} {g : t2_F} {v : Option fl_V} (hv : at_Valid at_XI (pw_P L xs) c) (hg : at_Good at_XI m) (hk : at_agk m.2.2 c.2.1 as_) (hlt : ∀ q ∈ c.2.2.1, at_ltc m as_ q) (hq : ∀ Q : Option fl_V → fl_M → Prop, Q v (g, m.2) → fl_Tq (pw_P L xs) c.1 0 (fl_args (am_mxl (pw_P L xs) c.1) as_) [] m Q) : fl_Tq (pw_P L xs) c.1 0 (fl_args (am_mxl (pw_P L xs) c.1) as_) [] m (t2_P c m g v) := by
  refine fl_Tq.mono (t2_join (hv m as_ hg hk hlt) (hq (fun v' m' => v' = v ∧ m' = (g, m.2)) ⟨rfl, rfl⟩)) ?_
  intro v2 m2 h
  obtain ⟨⟨a, b, c⟩, v3, m3, e1, e2, e3, e4⟩ := h
  subst e3 e4
  exact ⟨a, b, c, e1, (t2_He e2).1, fun p j hp hw => t2_Hw e2 hp hw⟩
theorem t2_vi {x : Int32} {v : Option fl_V} {m : fl_M} {lo hi : Int} {lt : Bool} (h : at_rtc (some (.inr (false, lo, hi))) lt m v) (e : v.map fl_c = (some (.inl x) : Option fl_V).map fl_c) : v = some (.inl x) ∧ lo ≤ x.toInt ∧ x.toInt ≤ hi := by
  obtain ⟨y, rfl, h1, h2, -⟩ := h
  have e : some (fl_c (.inl y)) = some (fl_c (.inl x)) := e
  injection e with e
  have e : Value.int y = Value.int x := e
  injection e with e
  subst e
  exact ⟨rfl, h1, h2⟩
theorem t2_vn {v : Option fl_V} {m : fl_M} {lt : Bool} (h : at_rtc none lt m v) : v = none := h
end T2USE
/-- nothing written of words lo .. hi of a kind -/
def t2_nw (ws : List at_W) (k : Nat) (lo hi : Int) : Bool := ws.all (fun w => !(Nat.beq w.1 k) || (bif w.2.1 then (decide (0 ≤ w.2.2.1) && decide (w.2.2.2 ≤ 60)) && (decide (hi < 444) || decide (1420 ≤ lo)) else (decide (w.2.2.2 < lo) || decide (hi < w.2.2.1))))
theorem t2_fr {m0 m : fl_M} {ws : List at_W} (h : at_MD m0 m ws) {p j k : Nat} (lo hi : Int) (hk : fk_K p = k) (hc : t2_nw ws k lo hi = true) (h1 : lo ≤ (j : Int)) (h2 : (j : Int) ≤ hi) : m.1 p j = m0.1 p j := by
  apply Classical.byContradiction
  intro hne
  obtain ⟨w, hw, e, hcv⟩ := h.2 p j hne
  have hb := List.all_eq_true.mp hc w hw
  rw [hk] at e
  rw [e, Nat.beq_refl, Bool.not_true, Bool.false_or] at hb
  cases hw2 : w.2.1 with
  | true =>
    rw [hw2] at hb hcv
    simp only [cond_true, Bool.and_eq_true, Bool.or_eq_true, decide_eq_true_eq] at hb
    rw [if_pos rfl] at hcv
    obtain ⟨o, o1, o2, o3, o4⟩ := hcv
    omega
  | false =>
    rw [hw2] at hb hcv
    simp only [cond_false, Bool.or_eq_true, decide_eq_true_eq] at hb
    rw [if_neg Bool.false_ne_true] at hcv
    omega
/-- nothing written of words w .. w' of the reference's cells -/
def t2_nwC (ws : List at_W) (lo hi : Int) : Bool := ws.all (fun x => !(Nat.beq x.1 79) || (bif x.2.1 then (decide (0 ≤ x.2.2.1) && decide (x.2.2.2 ≤ 60)) && (decide (x.2.2.2 < lo) || decide (hi < x.2.2.1)) else (decide (x.2.2.2 < 444) || decide (1420 ≤ x.2.2.1))))
theorem t2_frC {m0 m : fl_M} {ws : List at_W} (h : at_MD m0 m ws) {C w : Nat} (lo hi : Int) (hC : C < 16) (hw : w < 61) (hc : t2_nwC ws lo hi = true) (h1 : lo ≤ (w : Int)) (h2 : (w : Int) ≤ hi) : m.1 280 (444 + 61 * C + w) = m0.1 280 (444 + 61 * C + w) := by
  apply Classical.byContradiction
  intro hne
  obtain ⟨x, hx, e, hcv⟩ := h.2 280 _ hne
  have hb := List.all_eq_true.mp hc x hx
  rw [fk_K_280] at e
  rw [e, Nat.beq_refl, Bool.not_true, Bool.false_or] at hb
  cases hw2 : x.2.1 with
  | true =>
    rw [hw2] at hb hcv
    simp only [cond_true, Bool.and_eq_true, Bool.or_eq_true, decide_eq_true_eq] at hb
    rw [if_pos rfl] at hcv
    obtain ⟨o, o1, o2, o3, o4⟩ := hcv
    omega
  | false =>
    rw [hw2] at hb hcv
    simp only [cond_false, Bool.or_eq_true, decide_eq_true_eq] at hb
    rw [if_neg Bool.false_ne_true] at hcv
    omega
/-- the kinds of a block's cells -/
theorem t2_kK {C : Nat} (hC : C < 16) : fk_K (18 + 4 * C) = 18 ∧ fk_K (19 + 4 * C) = 19 ∧ fk_K (20 + 4 * C) = 20 ∧ fk_K (21 + 4 * C) = 21 := by
  have H : (List.range 16).all (fun i => Nat.beq (fk_K (18 + 4 * i)) 18 && Nat.beq (fk_K (19 + 4 * i)) 19 && Nat.beq (fk_K (20 + 4 * i)) 20 && Nat.beq (fk_K (21 + 4 * i)) 21) = true := by decide +kernel
  have h := List.all_eq_true.mp H C (List.mem_range.mpr hC)
  simp only [Bool.and_eq_true] at h
  obtain ⟨⟨⟨a, b⟩, c⟩, d⟩ := h
  exact ⟨Nat.eq_of_beq_eq_true a, Nat.eq_of_beq_eq_true b, Nat.eq_of_beq_eq_true c, Nat.eq_of_beq_eq_true d⟩
theorem t2_iwC {C j : Nat} (hC : C < 16) (hj : j < 19) : t2_iw (18 + 4 * C) j = true := by
  unfold t2_iw
  rw [(t2_kK hC).1]
  have H : (List.range 19).all (fun j => match fk_kd 18 with
    | .inl (_, fs) => (match fs[j]? with
      | some none => true
      | _ => false)
    | .inr (t, _) => Nat.beq t 0) = true := by decide +kernel
  exact List.all_eq_true.mp H j (List.mem_range.mpr hj)
theorem t2_iwT {C j : Nat} (hC : C < 16) : t2_iw (19 + 4 * C) 2 = true ∧ t2_iw (20 + 4 * C) j = true ∧ t2_iw (21 + 4 * C) j = true := by
  unfold t2_iw
  rw [(t2_kK hC).2.1, (t2_kK hC).2.2.1, (t2_kK hC).2.2.2]
  exact ⟨rfl, rfl, rfl⟩
