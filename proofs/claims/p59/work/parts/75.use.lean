/-! ===== contracts ===== -/
def at_Good (X : fl_M → Prop) (m : fl_M) : Prop := at_RG m ∧ at_RL (fun _ => 0) [] m ∧ X m
def at_agk (h : Nat) : List at_K → List fl_V → Prop
  | [], [] => True
  | .inl k :: r, v :: s => (∃ p, v = .inr (.inr (.inl (k.1, p))) ∧ fk_K p = k.1 ∧ p < fl_N h ∧ ∀ q, k.2 = some q → p = q) ∧ at_agk h r s
  | .inr (false, lo, hi) :: r, v :: s => (∃ x : Int32, v = .inl x ∧ lo ≤ x.toInt ∧ x.toInt ≤ hi) ∧ at_agk h r s
  | .inr (true, lo, hi) :: r, v :: s => (∃ x : Int64, v = .inr (.inl x) ∧ lo ≤ x.toInt ∧ x.toInt ≤ hi) ∧ at_agk h r s
  | _, _ => False
def at_ltc (m : fl_M) (as_ : List fl_V) (q : Nat × Int) : Prop := ∃ x : Int32, as_[q.1]? = some (.inl x) ∧ x.toInt + q.2 + 1 ≤ at_w m 2
def at_rtc (r : Option (Nat ⊕ (Bool × Int × Int))) (lt : Bool) (m : fl_M) (v : Option fl_V) : Prop := match r with
  | none => v = none
  | some (.inl τ) => ∃ p, v = some (.inr (.inr (.inl (τ, p)))) ∧ fk_K p = τ ∧ p < fl_N m.2.2 ∧ p ≤ 1000000
  | some (.inr (false, lo, hi)) => ∃ x : Int32, v = some (.inl x) ∧ lo ≤ x.toInt ∧ x.toInt ≤ hi ∧ (lt = true → x.toInt + 1 ≤ at_w m 2)
  | some (.inr (true, lo, hi)) => ∃ x : Int64, v = some (.inr (.inl x)) ∧ lo ≤ x.toInt ∧ x.toInt ≤ hi ∧ (lt = true → x.toInt + 1 ≤ at_w m 2)
/-- THE CONTRACT HOLDS -/
def at_Valid (X : fl_M → Prop) (P : am_Pg) (c : at_C) : Prop := ∀ (m : fl_M) (as_ : List fl_V), at_Good X m → at_agk m.2.2 c.2.1 as_ → (∀ q ∈ c.2.2.1, at_ltc m as_ q) → fl_Tq P c.1 0 (fl_args (am_mxl P c.1) as_) [] m (fun v m' => at_Good X m' ∧ at_MD m m' c.2.2.2.2.2 ∧ at_rtc c.2.2.2.1 c.2.2.2.2.1 m' v)
def at_RO (ν : Nat → Int) (h n : Nat) (a : Option at_V) (v : Option fl_V) : Prop := match a, v with
  | none, none => True
  | some a, some v => at_RV ν h a v ∧ at_wV n a
  | _, _ => False
section ATUS
variable {X : fl_M → Prop} {m0 m : fl_M} {ν ν' : Nat → Int} {S : at_S} {lv : at_L} {fl : fl_L}
theorem at_aok_ok {P : at_P} {h : Nat} (hP : at_GP ν P) : ∀ (ks : List at_K) (as_ : List at_V) (vs : List fl_V), at_RS ν h as_ vs → at_kmt ks as_ = true → at_aok P ks as_ = true → at_agk h ks vs := by
  intro ks
  induction ks with
  | nil =>
    intro as_ vs hr hk _
    cases as_ with
    | nil => rw [hr.nil]; exact True.intro
    | cons a s => cases hk
  | cons k r ih =>
    intro as_ vs hr hk e
    cases as_ with
    | nil =>
      rcases k with k | ⟨b, q⟩
      · cases hk
      · cases b <;> cases hk
    | cons a s =>
      obtain ⟨v, vs', rfl, hv, hr'⟩ := hr.cons
      rcases k with ⟨τ, po⟩ | ⟨b, lo, hi⟩
      · rcases a with a | a | q | c | d
        · cases hk
        · cases hk
        · have hk : (Nat.beq τ q.1 && at_kmt r s) = true := hk
          rw [Bool.and_eq_true] at hk
          obtain ⟨hk1, hk2⟩ := hk
          have hk1 := Nat.eq_of_beq_eq_true hk1
          obtain ⟨p, rfl, ep, kp, hp⟩ := hv
          obtain ⟨q1, q2⟩ := q
          dsimp only at hk1 ep kp
          subst hk1
          cases po with
          | none =>
            exact ⟨⟨p, rfl, kp, hp, fun q hq => by cases hq⟩, ih s vs' hr' hk2 e⟩
          | some p0 =>
            have e : (at_eq q2 (at_c p0) && at_aok P r s) = true := e
            rw [Bool.and_eq_true] at e
            refine ⟨⟨p, rfl, kp, hp, fun q hq => ?_⟩, ih s vs' hr' hk2 e.2⟩
            cases hq
            rw [at_eq_ok e.1, at_ev_c] at ep
            omega
        · cases hk
        · cases hk
      · cases b with
        | false =>
          rcases a with a | a | q | c | d
          · obtain ⟨x, rfl, ex⟩ := hv
            have e : (at_inR P a lo hi && at_aok P r s) = true := e
            rw [Bool.and_eq_true] at e
            obtain ⟨i1, i2⟩ := at_inR_ok hP e.1
            exact ⟨⟨x, rfl, by omega, by omega⟩, ih s vs' hr' hk e.2⟩
          · cases hk
          · cases hk
          · cases hk
          · cases hk
        | true =>
          rcases a with a | a | q | c | d
          · cases hk
          · obtain ⟨x, rfl, ex⟩ := hv
            have e : (at_inR P a lo hi && at_aok P r s) = true := e
            rw [Bool.and_eq_true] at e
            obtain ⟨i1, i2⟩ := at_inR_ok hP e.1
            exact ⟨⟨x, rfl, by omega, by omega⟩, ih s vs' hr' hk e.2⟩
          · cases hk
          · cases hk
          · cases hk
theorem at_RS.get {h : Nat} {as_ : List at_V} {vs : List fl_V} (hr : at_RS ν h as_ vs) {k : Nat} {a : at_V} (e : as_[k]? = some a) : ∃ v, vs[k]? = some v ∧ at_RV ν h a v := by
  induction as_ generalizing vs k with
  | nil => simp at e
  | cons b s ih =>
    obtain ⟨v, vs', rfl, hv, hr'⟩ := hr.cons
    cases k with
    | zero => cases e; exact ⟨v, rfl, hv⟩
    | succ k => exact ih hr' e
theorem at_mh_ok {P : at_P} (hP : at_GP ν P) {f : at_F} {w : at_W} {i : Nat} (ei : at_ev ν f.2.2.1 = i) (e : at_mh P.1 f w = false) : ¬ at_cv w f.1 i := by
  obtain ⟨w1, w2, w3, w4⟩ := w
  rintro ⟨h1, h2⟩
  dsimp only at h1 h2
  unfold at_mh at e
  dsimp only at e
  rw [h1, Nat.beq_refl, Bool.true_and] at e
  cases w2 with
  | true =>
    simp only [cond_true, Bool.not_eq_false'] at e
    have hd := at_dj_ok hP.1 e
    rw [if_pos rfl] at h2
    obtain ⟨o, o1, o2, o3, o4⟩ := h2
    rw [ei] at hd
    refine hd ⟨o, (i : Int) - 444 - w3 - 61 * o, o1, ?_, by omega, ?_, ?_⟩
    · show o ≤ 16 - 1; omega
    · show (i : Int) - 444 - w3 - 61 * o ≤ w4 - w3 + 1 - 1; omega
    · show (i : Int) = 444 + w3 + 61 * o + ((i : Int) - 444 - w3 - 61 * o); omega
  | false =>
    simp only [cond_false, Bool.not_eq_false', Bool.or_eq_true, decide_eq_true_eq] at e
    rw [if_neg (by decide)] at h2
    have l := at_lo_le hP.1 f.2.2.1
    have u := at_hi_le hP.1 f.2.2.1
    omega
theorem at_GS.good (h : at_GS X m0 m ν S) (hb : S.2.2.2.isEmpty = true) : at_Good X m := by
  have hb := List.isEmpty_iff.mp hb
  obtain ⟨r1, r2⟩ := h.2.2.2.2.1
  rw [hb] at r1
  have hnb : ∀ w c, at_nb ν [] w c := fun w c b hb => by cases hb
  refine ⟨h.2.2.2.1, ⟨fun c hc hl => ?_, r2⟩, h.2.2.2.2.2.1⟩
  obtain ⟨x1, x2, x3, x4⟩ := r1 c hc hl
  exact ⟨fun _ => x1 (hnb _ _), fun _ => x2 (hnb _ _), fun _ => x3 (hnb _ _), fun _ => x4 (hnb _ _)⟩
theorem at_Good.RL (h : at_Good X m) (brk : List (Nat × at_A)) : at_RL ν brk m := by
  obtain ⟨-, ⟨r1, r2⟩, -⟩ := h
  have hnb : ∀ w c, at_nb (fun _ => 0) [] w c := fun w c b hb => by cases hb
  refine ⟨fun c hc hl => ?_, r2⟩
  obtain ⟨x1, x2, x3, x4⟩ := r1 c hc hl
  exact ⟨fun _ => x1 (hnb _ _), fun _ => x2 (hnb _ _), fun _ => x3 (hnb _ _), fun _ => x4 (hnb _ _)⟩
/-- the memory behind a call by contract -/
theorem at_GS.call {m' : fl_M} {mods : List at_W} (h : at_GS X m0 m ν S) (hg : at_Good X m') (hm : at_MD m m' mods) : at_GS X m0 m' ν (S.1, S.2.1.filter (fun f => !mods.any (at_mh S.1.1 f)), mods.filter (fun w => !S.2.2.1.any (at_eqW w)) ++ S.2.2.1, S.2.2.2) := by
  obtain ⟨h1, h2, h3, h4, h5, h6, h7⟩ := h
  refine ⟨h1, fun f hf => ?_, h3, hg.1, hg.RL _, hg.2.2, Nat.le_trans h7.1 hm.1, fun p i hne => ?_⟩
  · obtain ⟨hf, hq⟩ := List.mem_filter.mp hf
    obtain ⟨⟨p, i, e1, e2, e3, e4⟩, hw⟩ := h2 f hf
    refine ⟨⟨p, i, e1, e2, e3, ?_⟩, hw⟩
    have : m'.1 p i = m.1 p i := by
      rcases Classical.em (m'.1 p i = m.1 p i) with h | h
      · exact h
      · obtain ⟨w, hw, hcv⟩ := hm.2 p i h
        rw [e3] at hcv
        exfalso
        simp only [Bool.not_eq_true', List.any_eq_false] at hq
        have := hq w hw
        refine at_mh_ok h1.1 e2 ?_ hcv
        cases hx : at_mh S.1.1 f w with
        | false => rfl
        | true => exact absurd hx this
    rw [this]
    exact e4
  · rcases Classical.em (m'.1 p i = m.1 p i) with h | h
    · obtain ⟨w, hw, hcv⟩ := h7.2 p i (by rw [← h]; exact hne)
      exact ⟨w, List.mem_append_right _ hw, hcv⟩
    · obtain ⟨w, hw, hcv⟩ := hm.2 p i h
      cases hx : S.2.2.1.any (at_eqW w) with
      | true =>
        obtain ⟨w', hw', e⟩ := List.any_eq_true.mp hx
        have e := at_eqW_ok e
        subst e
        exact ⟨w, List.mem_append_right _ hw', hcv⟩
      | false => exact ⟨w, List.mem_append_left _ (List.mem_filter.mpr ⟨hw, by rw [hx]; rfl⟩), hcv⟩
theorem at_use_ok {as_ : List at_V} {vs : List fl_V} {c : at_C} {o : at_O} (h : at_GS X m0 m ν S) (hr : at_RS ν m.2.2 as_ vs) (hw : ∀ a ∈ as_, at_wV S.1.1.length a) (hk : at_kmt c.2.1 as_ = true) (e : at_use S as_ c = some o) : at_Good X m ∧ at_agk m.2.2 c.2.1 vs ∧ (∀ q ∈ c.2.2.1, at_ltc m vs q) ∧ ∀ (m' : fl_M) (v : Option fl_V), at_Good X m' → at_MD m m' c.2.2.2.2.2 → at_rtc c.2.2.2.1 c.2.2.2.2.1 m' v → ∃ ν', at_ag S.1.1.length ν ν' ∧ S.1.1.length ≤ o.1.1.1.length ∧ at_GS X m0 m' ν' o.1 ∧ at_RO ν' m'.2.2 o.1.1.1.length o.2 v := by
  obtain ⟨ν1, ag1, le1, g1, w1, e1, same1⟩ := at_cs_ok h
  unfold at_use at e
  generalize at_cs S = s at le1 g1 w1 e1 same1 e
  dsimp only at e
  obtain ⟨hb, e⟩ := am_bif e
  simp only [Bool.and_eq_true] at hb
  obtain ⟨b1, b2, b3⟩ := hb
  have hr1 := hr.ag hw ag1 (Nat.le_refl m.2.2)
  refine ⟨g1.good b1, at_aok_ok g1.1.1 _ _ _ hr1 hk b2, fun q hq => ?_, fun m' v hg hm hv => ?_⟩
  · have := List.all_eq_true.mp b3 q hq
    unfold at_ltk at this
    split at this
    · rename_i a ea
      obtain ⟨v, ev, x, rfl, ex⟩ := hr1.get ea
      have := at_le_ok g1.1.1 this
      rw [at_ev_add, at_ev_sub, at_ev_c, e1] at this
      exact ⟨x, ev, by omega⟩
    · cases this
  · have g2 := g1.call hg hm
    generalize hS : (s.1.1, s.1.2.1.filter (fun f => !c.2.2.2.2.2.any (at_mh s.1.1.1 f)), c.2.2.2.2.2.filter (fun w => !s.1.2.2.1.any (at_eqW w)) ++ s.1.2.2.1, s.1.2.2.2) = S1 at g2 e
    have hP1 : S1.1 = s.1.1 := by rw [← hS]
    have le2 : S.1.1.length ≤ S1.1.1.length := by rw [hP1]; exact le1
    have e := Option.some.inj e
    unfold at_rtc at hv
    unfold at_urt at e
    generalize c.2.2.2.1 = rt at hv e
    rcases rt with _ | τ | ⟨b, lo, hi⟩
    · subst e
      have hv : v = none := hv
      subst hv
      exact ⟨ν1, ag1, le2, g2, True.intro⟩
    · subst e
      obtain ⟨p, rfl, p1, p2, p3⟩ := hv
      obtain ⟨ν2, hx, hw2, he⟩ := at_new_X g2.1 (lo := 0) (hi := 1000000) (x := p) (by omega) (by omega)
      exact ⟨ν2, ag1.trans (by rw [← hP1]; exact hx.1) le1, Nat.le_trans le2 hx.2.1, g2.ext hx, ⟨⟨p, rfl, he, p1, p2⟩, hw2⟩⟩
    · have key : ∀ (z : Int) (vv : fl_V), lo ≤ z → z ≤ hi → (c.2.2.2.2.1 = true → z + 1 ≤ at_w m' 2) → v = some vv → (∀ ν' (a : at_A), at_ev ν' a = z → at_RV ν' m'.2.2 (bif b then .inr (.inl a) else .inl a) vv) → ∃ ν', at_ag S.1.1.length ν ν' ∧ S.1.1.length ≤ o.1.1.1.length ∧ at_GS X m0 m' ν' o.1 ∧ at_RO ν' m'.2.2 o.1.1.1.length o.2 v := by
        intro z vv z1 z2 z3 hvv hRV
        have hsp : at_Sp ν1 S1.1 (bif decide (lo = hi) then (S1.1, at_c lo) else at_fr S1.1 lo hi) z := by
          cases hd : decide (lo = hi) with
          | true =>
            have hd := of_decide_eq_true hd
            have : z = lo := by omega
            rw [this]
            exact at_Sp.c g2.1 _
          | false => exact at_fr_ok g2.1 z1 z2
        have e : at_urn c.2.2.2.2.1 b S1 (bif decide (lo = hi) then (S1.1, at_c lo) else at_fr S1.1 lo hi) = o := e
        generalize (bif decide (lo = hi) then (S1.1, at_c lo) else at_fr S1.1 lo hi) = vq at hsp e
        obtain ⟨ν2, hx, hw2, he⟩ := hsp
        have g3 := g2.ext hx
        have ag2 : at_ag S.1.1.length ν ν2 := ag1.trans (by rw [← hP1]; exact hx.1) le1
        have le3 : S.1.1.length ≤ vq.1.1.length := Nat.le_trans le2 hx.2.1
        subst hvv
        unfold at_urn at e
        cases hlt : c.2.2.2.2.1 with
        | false =>
          rw [hlt] at e
          subst e
          refine ⟨ν2, ag2, le3, g3, hRV ν2 _ he, ?_⟩
          cases b <;> exact hw2
        | true =>
          rw [hlt] at e
          obtain ⟨ν3, ag3, le4, g4, w4, e4, same4⟩ := at_cs_ok g3
          dsimp only [cond_true] at e
          generalize at_cs (vq.1, S1.2) = s2 at le4 g4 w4 e4 same4 e
          have le4' : vq.1.1.length ≤ s2.1.1.1.length := le4
          have hw4 := hw2.mono le4'
          have he4 : at_ev ν3 vq.2 = z := by rw [at_ev_ag ag3 hw2]; exact he
          obtain ⟨g5, l5⟩ := g4.tr (a := at_add (at_sub vq.2 s2.2) (at_c 1)) (at_wf_add (at_wf_sub hw4 w4) at_wf_c) (by
            rw [at_ev_add, at_ev_sub, at_ev_c, he4, e4]
            have := z3 hlt
            omega)
          subst e
          refine ⟨ν3, ag2.trans ag3 le3, ?_, g5, hRV ν3 _ he4, ?_⟩
          · dsimp only; rw [l5]; omega
          · dsimp only
            rw [l5]
            cases b <;> exact hw4
      cases b with
      | false =>
        obtain ⟨x, rfl, x1, x2, x3⟩ := hv
        exact key x.toInt _ x1 x2 x3 rfl (fun ν' a ha => ⟨x, rfl, ha.symm⟩)
      | true =>
        obtain ⟨x, rfl, x1, x2, x3⟩ := hv
        exact key x.toInt _ x1 x2 x3 rfl (fun ν' a ha => ⟨x, rfl, ha.symm⟩)
end ATUS
