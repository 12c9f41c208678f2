/-! 75.use.lean.txt -/
section
/-! ===== contracts ===== -/
def at_Good (X : fl_M → Prop) (m : fl_M) : Prop := at_RG m ∧ at_RL (fun _ => 0) [] m ∧ X m
def at_agk (h : Nat) : List at_K → List fl_V → Prop
  | [], [] => True
  | .inl k :: r, v :: s => (∃ p, v = .inr (.inr (.inl (k.1, p))) ∧ fk_K p = k.1 ∧ p < fl_N h ∧ ∀ q, k.2 = some q → p = q) ∧ at_agk h r s
  | .inr (false, lo, hi) :: r, v :: s => (∃ x : Int32, v = .inl x ∧ lo ≤ x.toInt ∧ x.toInt ≤ hi) ∧ at_agk h r s
  | .inr (true, lo, hi) :: r, v :: s => (∃ x : Int64, v = .inr (.inl x) ∧ lo ≤ x.toInt ∧ x.toInt ≤ hi) ∧ at_agk h r s
  | _, _ => False
def at_ltc (m : fl_M) (as_ : List fl_V) (q : Nat × Int) : Prop := ∃ x : Int32, as_[q.1]? = some (.inl x) ∧ x.toInt + q.2 + 1 ≤ at_w m 2
def at_rtc (r : Option (Nat ⊕ (Bool × Int × Int))) (lt : Bool) (m : fl_M) (v : Option fl_V) : Prop := match r with
  | none => v = none
  | some (.inl τ) => ∃ p, v = some (.inr (.inr (.inl (τ, p)))) ∧ fk_K p = τ ∧ p < fl_N m.2.2 ∧ p ≤ 1000000
  | some (.inr (false, lo, hi)) => ∃ x : Int32, v = some (.inl x) ∧ lo ≤ x.toInt ∧ x.toInt ≤ hi ∧ (lt = true → x.toInt + 1 ≤ at_w m 2)
  | some (.inr (true, lo, hi)) => ∃ x : Int64, v = some (.inr (.inl x)) ∧ lo ≤ x.toInt ∧ x.toInt ≤ hi ∧ (lt = true → x.toInt + 1 ≤ at_w m 2)
/-- THE CONTRACT HOLDS -/
def at_Valid (X : fl_M → Prop) (P : am_Pg) (c : at_C) : Prop := ∀ (m : fl_M) (as_ : List fl_V), at_Good X m → at_agk m.2.2 c.2.1 as_ → (∀ q ∈ c.2.2.1, at_ltc m as_ q) → fl_Tq P c.1 0 (fl_args (am_mxl P c.1) as_) [] m (fun v m' => at_Good X m' ∧ at_MD m m' c.2.2.2.2.2 ∧ at_rtc c.2.2.2.1 c.2.2.2.2.1 m' v)
def at_RO (ν : Nat → Int) (h n : Nat) (a : Option at_V) (v : Option fl_V) : Prop := match a, v with
  | none, none => True
  | some a, some v => at_RV ν h a v ∧ at_wV n a
  | _, _ => False
section ATUS
variable {X : fl_M → Prop} {m0 m : fl_M} {ν ν' : Nat → Int} {S : at_S} {lv : at_L} {fl : fl_L}
theorem at_aok_ok {P : at_P} {h : Nat} (hP : at_GP ν P) : ∀ (ks : List at_K) (as_ : List at_V) (vs : List fl_V), at_RS ν h as_ vs → at_kmt ks as_ = true → at_aok P ks as_ = true → at_agk h ks vs := by
  intro ks
  induction ks with
  | nil =>
    intro as_ vs hr hk _
    cases as_ with
    | nil => rw [hr.nil]; exact True.intro
    | cons a s => cases hk
  | cons k r ih =>
    intro as_ vs hr hk e
    cases as_ with
    | nil =>
      rcases k with k | ⟨b, q⟩
      · cases hk
      · cases b <;> cases hk
    | cons a s =>
      obtain ⟨v, vs', rfl, hv, hr'⟩ := hr.cons
      rcases k with ⟨τ, po⟩ | ⟨b, lo, hi⟩
      · rcases a with a | a | q | c | d
        · cases hk
        · cases hk
        · have hk : (Nat.beq τ q.1 && at_kmt r s) = true := hk
          rw [Bool.and_eq_true] at hk
          obtain ⟨hk1, hk2⟩ := hk
          have hk1 := Nat.eq_of_beq_eq_true hk1
          obtain ⟨p, rfl, ep, kp, hp⟩ := hv
          obtain ⟨q1, q2⟩ := q
          dsimp only at hk1 ep kp
          subst hk1
          cases po with
          | none =>
            exact ⟨⟨p, rfl, kp, hp, fun q hq => by cases hq⟩, ih s vs' hr' hk2 e⟩
          | some p0 =>
            have e : (at_eq q2 (at_c p0) && at_aok P r s) = true := e
            rw [Bool.and_eq_true] at e
            refine ⟨⟨p, rfl, kp, hp, fun q hq => ?_⟩, ih s vs' hr' hk2 e.2⟩
            cases hq
            rw [at_eq_ok e.1, at_ev_c] at ep
            omega
        · cases hk
        · cases hk
      · cases b with
        | false =>
          rcases a with a | a | q | c | d
          · obtain ⟨x, rfl, ex⟩ := hv
            have e : (at_inR P a lo hi && at_aok P r s) = true := e
            rw [Bool.and_eq_true] at e
            obtain ⟨i1, i2⟩ := at_inR_ok hP e.1
            exact ⟨⟨x, rfl, by omega, by omega⟩, ih s vs' hr' hk e.2⟩
          · cases hk
          · cases hk
          · cases hk
          · cases hk
        | true =>
          rcases a with a | a | q | c | d
          · cases hk
          · obtain ⟨x, rfl, ex⟩ := hv
            have e : (at_inR P a lo hi && at_aok P r s) = true := e
            rw [Bool.and_eq_true] at e
            obtain ⟨i1, i2⟩ := at_inR_ok hP e.1
            exact ⟨⟨x, rfl, by omega, by omega⟩, ih s vs' hr' hk e.2⟩
          · cases hk
          · cases hk
          · cases hk
theorem at_RS.get {h : Nat} {as_ : List at_V} {vs : List fl_V} (hr : at_RS ν h as_ vs) {k : Nat} {a : at_V} (e : as_[k]? = some a) : ∃ v, vs[k]? = some v ∧ at_RV ν h a v := by
  induction as_ generalizing vs k with
  | nil => simp at e
  | cons b s ih =>
    obtain ⟨v, vs', rfl, hv, hr'⟩ := hr.cons
    cases k with
    | zero => cases e; exact ⟨v, rfl, hv⟩
    | succ k => exact ih hr' e
theorem at_mh_ok {P : at_P} (hP : at_GP ν P) {f : at_F} {w : at_W} {i : Nat} (ei : at_ev ν f.2.2.1 = i) (e : at_mh P.1 f w = false) : ¬ at_cv w f.1 i := by
  obtain ⟨w1, w2, w3, w4⟩ := w
  rintro ⟨h1, h2⟩
  dsimp only at h1 h2
  unfold at_mh at e
  dsimp only at e
  rw [h1, Nat.beq_refl, Bool.true_and] at e
  cases w2 with
  | true =>
    simp only [cond_true, Bool.not_eq_false'] at e
    have hd := at_dj_ok hP.1 e
    rw [if_pos rfl] at h2
    obtain ⟨o, o1, o2, o3, o4⟩ := h2
    rw [ei] at hd
    refine hd ⟨o, (i : Int) - 444 - w3 - 61 * o, o1, ?_, by omega, ?_, ?_⟩
    · show o ≤ 16 - 1; omega
    · show (i : Int) - 444 - w3 - 61 * o ≤ w4 - w3 + 1 - 1; omega
    · show (i : Int) = 444 + w3 + 61 * o + ((i : Int) - 444 - w3 - 61 * o); omega
  | false =>
    simp only [cond_false, Bool.not_eq_false', Bool.or_eq_true, decide_eq_true_eq] at e
    rw [if_neg (by decide)] at h2
    have l := at_lo_le hP.1 f.2.2.1
    have u := at_hi_le hP.1 f.2.2.1
    omega
theorem at_GS.good (h : at_GS X m0 m ν S) (hb : S.2.2.2.isEmpty = true) : at_Good X m := by
  have hb := List.isEmpty_iff.mp hb
  obtain ⟨r1, r2⟩ := h.2.2.2.2.1
  rw [hb] at r1
  have hnb : ∀ w c, at_nb ν [] w c := fun w c b hb => by cases hb
  refine ⟨h.2.2.2.1, ⟨fun c hc hl => ?_, r2⟩, h.2.2.2.2.2.1⟩
  obtain ⟨x1, x2, x3, x4⟩ := r1 c hc hl
  exact ⟨fun _ => x1 (hnb _ _), fun _ => x2 (hnb _ _), fun _ => x3 (hnb _ _), fun _ => x4 (hnb _ _)⟩
theorem at_Good.RL (h : at_Good X m) (brk : List (Nat × at_A)) : at_RL ν brk m := by
  obtain ⟨-, ⟨r1, r2⟩, -⟩ := h
  have hnb : ∀ w c, at_nb (fun _ => 0) [] w c := fun w c b hb => by cases hb
  refine ⟨fun c hc hl => ?_, r2⟩
  obtain ⟨x1, x2, x3, x4⟩ := r1 c hc hl
  exact ⟨fun _ => x1 (hnb _ _), fun _ => x2 (hnb _ _), fun _ => x3 (hnb _ _), fun _ => x4 (hnb _ _)⟩
/-- the memory behind a call by contract -/
theorem at_GS.call {m' : fl_M} {mods : List at_W} (h : at_GS X m0 m ν S) (hg : at_Good X m') (hm : at_MD m m' mods) : at_GS X m0 m' ν (S.1, S.2.1.filter (fun f => !mods.any (at_mh S.1.1 f)), mods.filter (fun w => !S.2.2.1.any (at_eqW w)) ++ S.2.2.1, S.2.2.2) := by
  obtain ⟨h1, h2, h3, h4, h5, h6, h7⟩ := h
  refine ⟨h1, fun f hf => ?_, h3, hg.1, hg.RL _, hg.2.2, Nat.le_trans h7.1 hm.1, fun p i hne => ?_⟩
  · obtain ⟨hf, hq⟩ := List.mem_filter.mp hf
    obtain ⟨⟨p, i, e1, e2, e3, e4⟩, hw⟩ := h2 f hf
    refine ⟨⟨p, i, e1, e2, e3, ?_⟩, hw⟩
    have : m'.1 p i = m.1 p i := by
      rcases Classical.em (m'.1 p i = m.1 p i) with h | h
      · exact h
      · obtain ⟨w, hw, hcv⟩ := hm.2 p i h
        rw [e3] at hcv
        exfalso
        simp only [Bool.not_eq_true', List.any_eq_false] at hq
        have := hq w hw
        refine at_mh_ok h1.1 e2 ?_ hcv
        cases hx : at_mh S.1.1 f w with
        | false => rfl
        | true => exact absurd hx this
    rw [this]
    exact e4
  · rcases Classical.em (m'.1 p i = m.1 p i) with h | h
    · obtain ⟨w, hw, hcv⟩ := h7.2 p i (by rw [← h]; exact hne)
      exact ⟨w, List.mem_append_right _ hw, hcv⟩
    · obtain ⟨w, hw, hcv⟩ := hm.2 p i h
      cases hx : S.2.2.1.any (at_eqW w) with
      | true =>
        obtain ⟨w', hw', e⟩ := List.any_eq_true.mp hx
        have e := at_eqW_ok e
        subst e
        exact ⟨w, List.mem_append_right _ hw', hcv⟩
      | false => exact ⟨w, List.mem_append_left _ (List.mem_filter.mpr ⟨hw, by rw [hx]; rfl⟩), hcv⟩
theorem at_use_ok {as_ : List at_V} {vs : List fl_V} {c : at_C} {o : at_O} (h : at_GS X m0 m ν S) (hr : at_RS ν m.2.2 as_ vs) (hw : ∀ a ∈ as_, at_wV S.1.1.length a) (hk : at_kmt c.2.1 as_ = true) (e : at_use S as_ c = some o) : at_Good X m ∧ at_agk m.2.2 c.2.1 vs ∧ (∀ q ∈ c.2.2.1, at_ltc m vs q) ∧ ∀ (m' : fl_M) (v : Option fl_V), at_Good X m' → at_MD m m' c.2.2.2.2.2 → at_rtc c.2.2.2.1 c.2.2.2.2.1 m' v → ∃ ν', at_ag S.1.1.length ν ν' ∧ S.1.1.length ≤ o.1.1.1.length ∧ at_GS X m0 m' ν' o.1 ∧ at_RO ν' m'.2.2 o.1.1.1.length o.2 v := by
  obtain ⟨ν1, ag1, le1, g1, w1, e1, same1⟩ := at_cs_ok h
  unfold at_use at e
  generalize at_cs S = s at le1 g1 w1 e1 same1 e
  dsimp only at e
  obtain ⟨hb, e⟩ := am_bif e
  simp only [Bool.and_eq_true] at hb
  obtain ⟨b1, b2, b3⟩ := hb
  have hr1 := hr.ag hw ag1 (Nat.le_refl m.2.2)
  refine ⟨g1.good b1, at_aok_ok g1.1.1 _ _ _ hr1 hk b2, fun q hq => ?_, fun m' v hg hm hv => ?_⟩
  · have := List.all_eq_true.mp b3 q hq
    unfold at_ltk at this
    split at this
    · rename_i a ea
      obtain ⟨v, ev, x, rfl, ex⟩ := hr1.get ea
      have := at_le_ok g1.1.1 this
      rw [at_ev_add, at_ev_sub, at_ev_c, e1] at this
      exact ⟨x, ev, by omega⟩
    · cases this
  · have g2 := g1.call hg hm
    generalize hS : (s.1.1, s.1.2.1.filter (fun f => !c.2.2.2.2.2.any (at_mh s.1.1.1 f)), c.2.2.2.2.2.filter (fun w => !s.1.2.2.1.any (at_eqW w)) ++ s.1.2.2.1, s.1.2.2.2) = S1 at g2 e
    have hP1 : S1.1 = s.1.1 := by rw [← hS]
    have le2 : S.1.1.length ≤ S1.1.1.length := by rw [hP1]; exact le1
    have e := Option.some.inj e
    unfold at_rtc at hv
    unfold at_urt at e
    generalize c.2.2.2.1 = rt at hv e
    rcases rt with _ | τ | ⟨b, lo, hi⟩
    · subst e
      have hv : v = none := hv
      subst hv
      exact ⟨ν1, ag1, le2, g2, True.intro⟩
    · subst e
      obtain ⟨p, rfl, p1, p2, p3⟩ := hv
      obtain ⟨ν2, hx, hw2, he⟩ := at_new_X g2.1 (lo := 0) (hi := 1000000) (x := p) (by omega) (by omega)
      exact ⟨ν2, ag1.trans (by rw [← hP1]; exact hx.1) le1, Nat.le_trans le2 hx.2.1, g2.ext hx, ⟨⟨p, rfl, he, p1, p2⟩, hw2⟩⟩
    · have key : ∀ (z : Int) (vv : fl_V), lo ≤ z → z ≤ hi → (c.2.2.2.2.1 = true → z + 1 ≤ at_w m' 2) → v = some vv → (∀ ν' (a : at_A), at_ev ν' a = z → at_RV ν' m'.2.2 (bif b then .inr (.inl a) else .inl a) vv) → ∃ ν', at_ag S.1.1.length ν ν' ∧ S.1.1.length ≤ o.1.1.1.length ∧ at_GS X m0 m' ν' o.1 ∧ at_RO ν' m'.2.2 o.1.1.1.length o.2 v := by
        intro z vv z1 z2 z3 hvv hRV
        have hsp : at_Sp ν1 S1.1 (bif decide (lo = hi) then (S1.1, at_c lo) else at_fr S1.1 lo hi) z := by
          cases hd : decide (lo = hi) with
          | true =>
            have hd := of_decide_eq_true hd
            have : z = lo := by omega
            rw [this]
            exact at_Sp.c g2.1 _
          | false => exact at_fr_ok g2.1 z1 z2
        have e : at_urn c.2.2.2.2.1 b S1 (bif decide (lo = hi) then (S1.1, at_c lo) else at_fr S1.1 lo hi) = o := e
        generalize (bif decide (lo = hi) then (S1.1, at_c lo) else at_fr S1.1 lo hi) = vq at hsp e
        obtain ⟨ν2, hx, hw2, he⟩ := hsp
        have g3 := g2.ext hx
        have ag2 : at_ag S.1.1.length ν ν2 := ag1.trans (by rw [← hP1]; exact hx.1) le1
        have le3 : S.1.1.length ≤ vq.1.1.length := Nat.le_trans le2 hx.2.1
        subst hvv
        unfold at_urn at e
        cases hlt : c.2.2.2.2.1 with
        | false =>
          rw [hlt] at e
          subst e
          refine ⟨ν2, ag2, le3, g3, hRV ν2 _ he, ?_⟩
          cases b <;> exact hw2
        | true =>
          rw [hlt] at e
          obtain ⟨ν3, ag3, le4, g4, w4, e4, same4⟩ := at_cs_ok g3
          dsimp only [cond_true] at e
          generalize at_cs (vq.1, S1.2) = s2 at le4 g4 w4 e4 same4 e
          have le4' : vq.1.1.length ≤ s2.1.1.1.length := le4
          have hw4 := hw2.mono le4'
          have he4 : at_ev ν3 vq.2 = z := by rw [at_ev_ag ag3 hw2]; exact he
          obtain ⟨g5, l5⟩ := g4.tr (a := at_add (at_sub vq.2 s2.2) (at_c 1)) (at_wf_add (at_wf_sub hw4 w4) at_wf_c) (by
            rw [at_ev_add, at_ev_sub, at_ev_c, he4, e4]
            have := z3 hlt
            omega)
          subst e
          refine ⟨ν3, ag2.trans ag3 le3, ?_, g5, hRV ν3 _ he4, ?_⟩
          · dsimp only; rw [l5]; omega
          · dsimp only
            rw [l5]
            cases b <;> exact hw4
      cases b with
      | false =>
        obtain ⟨x, rfl, x1, x2, x3⟩ := hv
        exact key x.toInt _ x1 x2 x3 rfl (fun ν' a ha => ⟨x, rfl, ha.symm⟩)
      | true =>
        obtain ⟨x, rfl, x1, x2, x3⟩ := hv
        exact key x.toInt _ x1 x2 x3 rfl (fun ν' a ha => ⟨x, rfl, ha.symm⟩)
end ATUS

end

/-! 76.prim.lean.txt -/
section
/-! ===== the lesser of two; held to two bounds ===== -/
section ATPR
variable {L : Nat} {xs : Nat → Int32} {m : fl_M} {Q : Option fl_V → fl_M → Prop}
theorem at_nok (h : Nat) : ∀ v ∈ ([] : List fl_V), fl_ok h v := fun v hv => by cases hv
theorem at_iok (h : Nat) {x : Int32} {s : List fl_V} (hs : ∀ v ∈ s, fl_ok h v) : ∀ v ∈ (.inl x :: s : List fl_V), fl_ok h v := fun v hv => by
  rcases List.mem_cons.mp hv with rfl | hv
  · exact True.intro
  · exact hs v hv
theorem at_lesser (x y : Int32) (k : Q (some (.inl (if x < y then x else y))) m) : fl_Tq (pw_P L xs) 187 0 (fl_args (am_mxl (pw_P L xs) 187) [.inl x, .inl y]) [] m Q := by
  refine fl_Tq.stp (ins := .iload_n 0) (pc' := 1) (lv' := [some (.inl x), some (.inl y)]) (st' := [.inl x]) (m' := m) rfl rfl (at_nok _) rfl ?_
  refine fl_Tq.stp (ins := .iload_n 1) (pc' := 2) (lv' := [some (.inl x), some (.inl y)]) (st' := [.inl y, .inl x]) (m' := m) rfl rfl (at_iok _ (at_nok _)) rfl ?_
  by_cases h : x < y
  · rw [if_pos h] at k
    have hc : am_c2 .ge x y = false := by
      rw [at_c2]
      have := Int32.lt_iff_toInt_lt.mp h
      exact decide_eq_false (by omega)
    refine fl_Tq.stp (ins := .if_icmp .ge 7) (pc' := 5) (lv' := [some (.inl x), some (.inl y)]) (st' := []) (m' := m) rfl rfl (at_iok _ (at_iok _ (at_nok _))) ?_ ?_
    · show fl_br (am_c2 .ge x y) 2 7 _ _ _ = _
      rw [hc]
      rfl
    refine fl_Tq.stp (ins := .iload_n 0) (pc' := 6) (lv' := [some (.inl x), some (.inl y)]) (st' := [.inl x]) (m' := m) rfl rfl (at_nok _) rfl ?_
    refine fl_Tq.stp (ins := .goto 4) (pc' := 10) (lv' := [some (.inl x), some (.inl y)]) (st' := [.inl x]) (m' := m) rfl rfl (at_iok _ (at_nok _)) rfl ?_
    exact fl_Tq.ret (ins := .ireturn) rfl rfl rfl k
  · rw [if_neg h] at k
    have hc : am_c2 .ge x y = true := by
      rw [at_c2]
      have : ¬ x.toInt < y.toInt := fun q => h (Int32.lt_iff_toInt_lt.mpr q)
      exact decide_eq_true (by omega)
    refine fl_Tq.stp (ins := .if_icmp .ge 7) (pc' := 9) (lv' := [some (.inl x), some (.inl y)]) (st' := []) (m' := m) rfl rfl (at_iok _ (at_iok _ (at_nok _))) ?_ ?_
    · show fl_br (am_c2 .ge x y) 2 7 _ _ _ = _
      rw [hc]
      rfl
    refine fl_Tq.stp (ins := .iload_n 1) (pc' := 10) (lv' := [some (.inl x), some (.inl y)]) (st' := [.inl y]) (m' := m) rfl rfl (at_nok _) rfl ?_
    exact fl_Tq.ret (ins := .ireturn) rfl rfl rfl k
theorem at_held (v l h : Int32) (k : Q (some (.inl (if v < l then l else if h < v then h else v))) m) : fl_Tq (pw_P L xs) 186 0 (fl_args (am_mxl (pw_P L xs) 186) [.inl v, .inl l, .inl h]) [] m Q := by
  refine fl_Tq.stp (ins := .iload_n 0) (pc' := 1) (lv' := [some (.inl v), some (.inl l), some (.inl h)]) (st' := [.inl v]) (m' := m) rfl rfl (at_nok _) rfl ?_
  refine fl_Tq.stp (ins := .iload_n 1) (pc' := 2) (lv' := [some (.inl v), some (.inl l), some (.inl h)]) (st' := [.inl l, .inl v]) (m' := m) rfl rfl (at_iok _ (at_nok _)) rfl ?_
  by_cases h1 : v < l
  · rw [if_pos h1] at k
    have hc : am_c2 .ge v l = false := by
      rw [at_c2]
      have := Int32.lt_iff_toInt_lt.mp h1
      exact decide_eq_false (by omega)
    refine fl_Tq.stp (ins := .if_icmp .ge 7) (pc' := 5) (lv' := [some (.inl v), some (.inl l), some (.inl h)]) (st' := []) (m' := m) rfl rfl (at_iok _ (at_iok _ (at_nok _))) ?_ ?_
    · show fl_br (am_c2 .ge v l) 2 7 _ _ _ = _
      rw [hc]
      rfl
    refine fl_Tq.stp (ins := .iload_n 1) (pc' := 6) (lv' := [some (.inl v), some (.inl l), some (.inl h)]) (st' := [.inl l]) (m' := m) rfl rfl (at_nok _) rfl ?_
    refine fl_Tq.stp (ins := .goto 13) (pc' := 19) (lv' := [some (.inl v), some (.inl l), some (.inl h)]) (st' := [.inl l]) (m' := m) rfl rfl (at_iok _ (at_nok _)) rfl ?_
    exact fl_Tq.ret (ins := .ireturn) rfl rfl rfl k
  · rw [if_neg h1] at k
    have hc : am_c2 .ge v l = true := by
      rw [at_c2]
      have : ¬ v.toInt < l.toInt := fun q => h1 (Int32.lt_iff_toInt_lt.mpr q)
      exact decide_eq_true (by omega)
    refine fl_Tq.stp (ins := .if_icmp .ge 7) (pc' := 9) (lv' := [some (.inl v), some (.inl l), some (.inl h)]) (st' := []) (m' := m) rfl rfl (at_iok _ (at_iok _ (at_nok _))) ?_ ?_
    · show fl_br (am_c2 .ge v l) 2 7 _ _ _ = _
      rw [hc]
      rfl
    refine fl_Tq.stp (ins := .iload_n 0) (pc' := 10) (lv' := [some (.inl v), some (.inl l), some (.inl h)]) (st' := [.inl v]) (m' := m) rfl rfl (at_nok _) rfl ?_
    refine fl_Tq.stp (ins := .iload_n 2) (pc' := 11) (lv' := [some (.inl v), some (.inl l), some (.inl h)]) (st' := [.inl h, .inl v]) (m' := m) rfl rfl (at_iok _ (at_nok _)) rfl ?_
    by_cases h2 : h < v
    · rw [if_pos h2] at k
      have hc : am_c2 .le v h = false := by
        rw [at_c2]
        have := Int32.lt_iff_toInt_lt.mp h2
        exact decide_eq_false (by omega)
      refine fl_Tq.stp (ins := .if_icmp .le 7) (pc' := 14) (lv' := [some (.inl v), some (.inl l), some (.inl h)]) (st' := []) (m' := m) rfl rfl (at_iok _ (at_iok _ (at_nok _))) ?_ ?_
      · show fl_br (am_c2 .le v h) 11 7 _ _ _ = _
        rw [hc]
        rfl
      refine fl_Tq.stp (ins := .iload_n 2) (pc' := 15) (lv' := [some (.inl v), some (.inl l), some (.inl h)]) (st' := [.inl h]) (m' := m) rfl rfl (at_nok _) rfl ?_
      refine fl_Tq.stp (ins := .goto 4) (pc' := 19) (lv' := [some (.inl v), some (.inl l), some (.inl h)]) (st' := [.inl h]) (m' := m) rfl rfl (at_iok _ (at_nok _)) rfl ?_
      exact fl_Tq.ret (ins := .ireturn) rfl rfl rfl k
    · rw [if_neg h2] at k
      have hc : am_c2 .le v h = true := by
        rw [at_c2]
        have : ¬ h.toInt < v.toInt := fun q => h2 (Int32.lt_iff_toInt_lt.mpr q)
        exact decide_eq_true (by omega)
      refine fl_Tq.stp (ins := .if_icmp .le 7) (pc' := 18) (lv' := [some (.inl v), some (.inl l), some (.inl h)]) (st' := []) (m' := m) rfl rfl (at_iok _ (at_iok _ (at_nok _))) ?_ ?_
      · show fl_br (am_c2 .le v h) 11 7 _ _ _ = _
        rw [hc]
        rfl
      refine fl_Tq.stp (ins := .iload_n 0) (pc' := 19) (lv' := [some (.inl v), some (.inl l), some (.inl h)]) (st' := [.inl v]) (m' := m) rfl rfl (at_nok _) rfl ?_
      exact fl_Tq.ret (ins := .ireturn) rfl rfl rfl k
theorem at_prim_ok {X : fl_M → Prop} {m0 : fl_M} {ν : Nat → Int} {S : at_S} {mj : Nat} {as_ : List at_V} {vs : List fl_V} {o : at_O} (h : at_GS X m0 m ν S) (hr : at_RS ν m.2.2 as_ vs) (hw : ∀ a ∈ as_, at_wV S.1.1.length a) (e : at_prim mj S as_ = some o) (k : ∀ (v : Option fl_V) (ν' : Nat → Int), at_ag S.1.1.length ν ν' → S.1.1.length ≤ o.1.1.1.length → at_GS X m0 m ν' o.1 → at_RO ν' m.2.2 o.1.1.1.length o.2 v → Q v m) : fl_Tq (pw_P L xs) mj 0 (fl_args (am_mxl (pw_P L xs) mj) vs) [] m Q := by
  unfold at_prim at e
  split at e
  · rename_i a b
    cases e
    obtain ⟨v0, s0, rfl, ⟨x, rfl, ex⟩, hr1⟩ := hr.cons
    obtain ⟨v1, s1, rfl, ⟨y, rfl, ey⟩, hr2⟩ := hr1.cons
    rw [hr2.nil]
    have wa : at_wf S.1.1.length a := hw (.inl a) (by simp)
    have wb : at_wf S.1.1.length b := hw (.inl b) (by simp)
    refine at_lesser x y ?_
    have hz : (if x < y then x else y).toInt = min (at_ev ν a) (at_ev ν b) := by
      by_cases hxy : x < y
      · rw [if_pos hxy]
        have := Int32.lt_iff_toInt_lt.mp hxy
        omega
      · rw [if_neg hxy]
        have : ¬ x.toInt < y.toInt := fun q => hxy (Int32.lt_iff_toInt_lt.mpr q)
        omega
    generalize (if x < y then x else y) = z at hz ⊢
    have la := at_lo_le h.1.1.1 a
    have ua := at_hi_le h.1.1.1 a
    have lb := at_lo_le h.1.1.1 b
    have ub := at_hi_le h.1.1.1 b
    obtain ⟨ν1, hx, hw1, he⟩ := at_new_X h.1 (lo := min (at_lo S.1.1 a) (at_lo S.1.1 b)) (hi := min (at_hi S.1.1 a) (at_hi S.1.1 b)) (x := z.toInt) (by omega) (by omega)
    have ea1 := at_ev_ag hx.1 wa
    have eb1 := at_ev_ag hx.1 wb
    obtain ⟨x2, l2⟩ := at_try_X hx.2.2 (a := at_sub (at_nv S.1) a) (at_wf_sub hw1 (wa.mono hx.2.1)) (by rw [at_ev_sub, he, ea1]; omega)
    have x12 := hx.trans x2
    obtain ⟨x3, l3⟩ := at_try_X x12.2.2 (a := at_sub (at_nv S.1) b) (at_wf_sub (hw1.mono x2.2.1) (wb.mono x12.2.1)) (by rw [at_ev_sub, he, eb1]; omega)
    have x13 := x12.trans x3
    exact k _ ν1 x13.1 x13.2.1 (h.ext x13) ⟨⟨z, rfl, he.symm⟩, hw1.mono (Nat.le_trans x2.2.1 x3.2.1)⟩
  · rename_i a l u
    obtain ⟨hb, e⟩ := am_bif e
    cases e
    obtain ⟨v0, s0, rfl, ⟨x, rfl, ex⟩, hr1⟩ := hr.cons
    obtain ⟨v1, s1, rfl, ⟨y, rfl, ey⟩, hr2⟩ := hr1.cons
    obtain ⟨v2, s2, rfl, ⟨w, rfl, ew⟩, hr3⟩ := hr2.cons
    rw [hr3.nil]
    have wl : at_wf S.1.1.length l := hw (.inl l) (by simp)
    have wu : at_wf S.1.1.length u := hw (.inl u) (by simp)
    have hlu := at_le_ok h.1.1 hb
    rw [at_ev_sub] at hlu
    refine at_held x y w ?_
    have hz : at_ev ν l ≤ (if x < y then y else if w < x then w else x).toInt ∧ (if x < y then y else if w < x then w else x).toInt ≤ at_ev ν u := by
      by_cases hxy : x < y
      · rw [if_pos hxy]
        omega
      · rw [if_neg hxy]
        have h3 : ¬ x.toInt < y.toInt := fun q => hxy (Int32.lt_iff_toInt_lt.mpr q)
        by_cases hwx : w < x
        · rw [if_pos hwx]
          omega
        · rw [if_neg hwx]
          have h4 : ¬ w.toInt < x.toInt := fun q => hwx (Int32.lt_iff_toInt_lt.mpr q)
          omega
    generalize (if x < y then y else if w < x then w else x) = z at hz ⊢
    have ll := at_lo_le h.1.1.1 l
    have uu := at_hi_le h.1.1.1 u
    obtain ⟨ν1, hx, hw1, he⟩ := at_new_X h.1 (lo := at_lo S.1.1 l) (hi := at_hi S.1.1 u) (x := z.toInt) (by omega) (by omega)
    have el1 := at_ev_ag hx.1 wl
    have eu1 := at_ev_ag hx.1 wu
    obtain ⟨x2, l2⟩ := at_try_X hx.2.2 (a := at_sub (at_nv S.1) u) (at_wf_sub hw1 (wu.mono hx.2.1)) (by rw [at_ev_sub, he, eu1]; omega)
    have x12 := hx.trans x2
    obtain ⟨x3, l3⟩ := at_try_X x12.2.2 (a := at_sub l (at_nv S.1)) (at_wf_sub (wl.mono x12.2.1) (hw1.mono x2.2.1)) (by rw [at_ev_sub, he, el1]; omega)
    have x13 := x12.trans x3
    exact k _ ν1 x13.1 x13.2.1 (h.ext x13) ⟨⟨z, rfl, he.symm⟩, hw1.mono (Nat.le_trans x2.2.1 x3.2.1)⟩
  · cases e
end ATPR

end

/-! 77.main.lean.txt -/
section
/-! ===== WHAT THE LOOKER SAYS HOLDS ===== -/
theorem fl_st_h {P : am_Pg} {mi pc : Nat} {ins : Instr} {fl : fl_L} {fs : List fl_V} {m : fl_M} {c : fl_C} (e : fl_st P mi ins pc fl fs m = some c) : c.2.2.2.2.2 = m.2.2 := by
  cases ins
  all_goals first | (cases e; done) | (cases e; rfl) | skip
  all_goals (try dsimp only [fl_st] at e)
  all_goals (try unfold fl_pu at e)
  all_goals (try unfold fl_so at e)
  all_goals (try unfold fl_I at e)
  all_goals (try unfold fl_ID at e)
  all_goals (try unfold fl_J at e)
  all_goals (try unfold fl_JD at e)
  all_goals (try unfold fl_JI at e)
  all_goals (try unfold fl_br at e)
  all_goals (try unfold fl_go at e)
  all_goals (try unfold fl_gf at e)
  all_goals (try unfold fl_pf at e)
  all_goals (try unfold fl_ald at e)
  all_goals (try unfold fl_ast at e)
  all_goals (try unfold fl_lald at e)
  all_goals (try unfold fl_last at e)
  all_goals (try unfold fl_qald at e)
  all_goals (try unfold fl_len at e)
  all_goals (try unfold fl_n1 at e)
  all_goals (repeat' (first | (cases e; done) | (cases e; rfl; done) | (obtain ⟨-, e⟩ := am_bif e; cases e; rfl; done) | (obtain ⟨-, e⟩ := am_bif e; cases e; done) | split at e))
  all_goals (have hcb : ∀ (b : Bool) (u w : fl_C), u.2.2.2 = m → w.2.2.2 = m → (bif b then some u else some w) = some c → c.2.2.2.2.2 = m.2.2 := fun b u w h1 h2 e => by cases b <;> (cases e; first | rw [h1] | rw [h2]))
  all_goals exact hcb _ _ _ rfl rfl e
theorem at_jn_mem {α : Type} {l : List (Option (List α))} {q : List α} (h : at_jn l = some q) : ∀ x ∈ l, ∃ y, x = some y ∧ ∀ z ∈ y, z ∈ q := by
  induction l generalizing q with
  | nil => intro x hx; cases hx
  | cons a r ih =>
    intro x hx
    cases a with
    | none => cases h
    | some y =>
      unfold at_jn at h
      split at h
      · rename_i q' e
        cases h
        rcases List.mem_cons.mp hx with rfl | hx
        · exact ⟨y, rfl, fun z hz => List.mem_append_left _ hz⟩
        · obtain ⟨y', e1, e2⟩ := ih e x hx
          exact ⟨y', e1, fun z hz => List.mem_append_right _ (e2 z hz)⟩
      · cases h
section ATMN
variable {X : fl_M → Prop} {m0 m : fl_M} {ν ν' : Nat → Int} {S : at_S} {lv : at_L} {st : List at_V} {fl : fl_L} {fs : List fl_V} {L : Nat} {xs : Nat → Int32}
theorem at_rc_ok {h : Nat} {ins : Instr} {mj n : Nat} (hr : at_RS ν h st fs) (e : at_rc ins mj n st = true) : fl_rc (pw_P L xs) ins mj n fs = true := by
  unfold at_rc at e
  simp only [Bool.and_eq_true] at e
  obtain ⟨e1, e2, e3, e4⟩ := e
  have e1 := Nat.le_of_ble_eq_true e1
  have e2 := Nat.le_of_ble_eq_true e2
  have e3 := Nat.le_of_ble_eq_true e3
  obtain ⟨ht, hd⟩ := hr.take n
  unfold fl_rc
  simp only [Bool.and_eq_true, decide_eq_true_eq]
  refine ⟨by rw [hr.len]; exact e1, ⟨by rw [hd.sum]; exact e2, by rw [ht.sum]; exact e3⟩, ?_⟩
  have hrev := ht.rev
  split at e4
  · rfl
  · split at e4
    · rename_i q r eq
      rw [eq] at hrev
      obtain ⟨v, s', ev, ⟨p, rfl, -⟩, -⟩ := hrev.cons
      rw [ev]
    · cases e4
  · split at e4
    · rename_i q r eq
      rw [eq] at hrev
      obtain ⟨v, s', ev, ⟨p, rfl, -⟩, -⟩ := hrev.cons
      rw [ev]
      split at e4
      · rename_i cj fs0 ek
        show (match fk_kd q.1 with | .inl (cj, _) => decide (cj = am_own (pw_P L xs) mj) | _ => false) = true
        rw [ek]
        exact decide_eq_true (Nat.eq_of_beq_eq_true e4)
      · cases e4
    · cases e4
  · cases e4
theorem at_ar_LR {h : Nat} {as_ : List at_V} {vs : List fl_V} (hr : at_RS ν h as_ vs) : at_LR ν h (at_ar as_) (fl_ar vs) := by
  induction as_ generalizing vs with
  | nil => rw [hr.nil]; exact ⟨rfl, fun i a e => by simp [at_ar] at e⟩
  | cons a s ih =>
    obtain ⟨v, vs', rfl, hv, hr'⟩ := hr.cons
    obtain ⟨l1, l2⟩ := ih hr'
    unfold at_ar fl_ar
    rw [hv.cat]
    cases hc : Nat.beq (at_cat a) 2 with
    | true =>
      rw [if_pos (Nat.eq_of_beq_eq_true hc)]
      refine ⟨by simp [l1], fun i b e => ?_⟩
      match i, e with
      | 0, e => cases e; exact ⟨v, rfl, hv⟩
      | 1, e => cases e
      | i + 2, e => exact l2 i b e
    | false =>
      rw [if_neg (fun q => by rw [q] at hc; cases hc)]
      refine ⟨by simp [l1], fun i b e => ?_⟩
      match i, e with
      | 0, e => cases e; exact ⟨v, rfl, hv⟩
      | i + 1, e => exact l2 i b e
theorem at_args_LR {h n : Nat} {as_ : List at_V} {vs : List fl_V} (hr : at_RS ν h as_ vs) : at_LR ν h (at_args n as_) (fl_args n vs) := by
  obtain ⟨l1, l2⟩ := at_ar_LR hr
  unfold at_args fl_args
  refine ⟨by simp [l1], fun i b e => ?_⟩
  by_cases hi : i < (at_ar as_).length
  · rw [List.getElem?_append_left hi] at e
    obtain ⟨v, e1, e2⟩ := l2 i b e
    exact ⟨v, by rw [List.getElem?_append_left (by omega)]; exact e1, e2⟩
  · rw [List.getElem?_append_right (by omega), List.getElem?_replicate] at e
    split at e <;> cases e
theorem at_ar_mem {as_ : List at_V} {a : at_V} (h : some a ∈ at_ar as_) : a ∈ as_ := by
  induction as_ with
  | nil => simp [at_ar] at h
  | cons b s ih =>
    unfold at_ar at h
    cases hc : Nat.beq (at_cat b) 2 with
    | true =>
      rw [hc] at h
      simp only [cond_true, List.mem_cons, Option.some.injEq, reduceCtorEq, false_or] at h
      rcases h with rfl | h
      · exact List.mem_cons_self
      · exact List.mem_cons_of_mem _ (ih h)
    | false =>
      rw [hc] at h
      simp only [cond_false, List.mem_cons, Option.some.injEq] at h
      rcases h with rfl | h
      · exact List.mem_cons_self
      · exact List.mem_cons_of_mem _ (ih h)
theorem at_args_mem {n : Nat} {as_ : List at_V} {a : at_V} (h : some a ∈ at_args n as_) : a ∈ as_ := by
  unfold at_args at h
  rcases List.mem_append.mp h with h | h
  · exact at_ar_mem h
  · have := (List.mem_replicate.mp h).2
    cases this
theorem at_ret_ok {mi : Nat} {ins : Instr} {o : at_O} (h : at_G X m0 m ν S lv st fl fs) (e : at_ret mi ins S st = some o) : ∃ v, fl_rt (pw_P L xs) mi ins fs = some v ∧ o.1 = S ∧ at_RO ν m.2.2 S.1.1.length o.2 v := by
  unfold at_ret at e
  split at e
  · split at e
    · rename_i er
      cases e
      rw [h.2.2.2.1.nil]
      refine ⟨none, ?_, rfl, True.intro⟩
      show (match pw_ret mi with | none => some none | some _ => none) = _
      rw [er]
    · cases e
  · rename_i a
    obtain ⟨v, s, rfl, ⟨x, rfl, ex⟩, hw, hG⟩ := h.pop
    rw [hG.2.2.2.1.nil]
    split at e
    · rename_i er
      cases e
      refine ⟨some (.inl x), ?_, rfl, ⟨x, rfl, ex⟩, hw⟩
      show (match pw_ret mi with | some .int => some (some (Sum.inl x)) | some .boolean => if x = 0 ∨ x = 1 then some (some (Sum.inl x)) else none | _ => none) = _
      rw [er]
    · rename_i er
      obtain ⟨hb, e⟩ := am_bif e
      cases e
      obtain ⟨b1, b2⟩ := at_inR_ok h.1.1.1 hb
      rw [← ex] at b1 b2
      have hx : x = 0 ∨ x = 1 := by
        rcases (show x.toInt = 0 ∨ x.toInt = 1 by omega) with h | h
        · exact Or.inl (Int32.toInt.inj h)
        · exact Or.inr (Int32.toInt.inj h)
      refine ⟨some (.inl x), ?_, rfl, ⟨x, rfl, ex⟩, hw⟩
      show (match pw_ret mi with | some .int => some (some (Sum.inl x)) | some .boolean => if x = 0 ∨ x = 1 then some (some (Sum.inl x)) else none | _ => none) = _
      rw [er]
      show (if x = 0 ∨ x = 1 then some (some (Sum.inl x)) else none) = _
      rw [if_pos hx]
    · cases e
  · rename_i a
    obtain ⟨v, s, rfl, ⟨x, rfl, ex⟩, hw, hG⟩ := h.pop
    rw [hG.2.2.2.1.nil]
    split at e
    · rename_i er
      cases e
      refine ⟨some (.inr (.inl x)), ?_, rfl, ⟨x, rfl, ex⟩, hw⟩
      show (match pw_ret mi with | some .long => some (some (Sum.inr (Sum.inl x))) | _ => none) = _
      rw [er]
    · cases e
  · cases e
/-- what is known of a loop that is being gone through -/
def at_AcOK (X : fl_M → Prop) (m0 : fl_M) (P : am_Pg) (mi : Nat) (Q : Option fl_V → fl_M → Prop) (n : Nat) (ν : Nat → Int) (m : fl_M) (A : at_Ac) : Prop :=
  ∃ h0 P2 wr2 brk2 ν2 mF flF zsF, at_AO P2 wr2 brk2 A ∧ at_Ft X m0 h0 P2 wr2 brk2 A ν2 mF flF zsF ∧ P2.1.length ≤ n ∧ at_ag P2.1.length ν2 ν ∧ at_wf n A.2.2.2.2.2.2.2 ∧ h0 ≤ m.2.2 ∧
    ∀ m1 fl1 zs1, at_Ft X m0 h0 P2 wr2 brk2 A ν2 m1 fl1 zs1 → at_sm m1 fl1 zs1 A.2.1.2.2.2.2.2.2 ≤ at_ev ν A.2.2.2.2.2.2.2 - 1 → 1 ≤ at_ev ν A.2.2.2.2.2.2.2 → fl_Tq P mi A.1 fl1 [] m1 Q
theorem at_AcOK.mono {P : am_Pg} {mi : Nat} {Q : Option fl_V → fl_M → Prop} {n n' : Nat} {m' : fl_M} {A : at_Ac} (h : at_AcOK X m0 P mi Q n ν m A) (hag : at_ag n ν ν') (hn : n ≤ n') (hm : m.2.2 ≤ m'.2.2) : at_AcOK X m0 P mi Q n' ν' m' A := by
  obtain ⟨h0, P2, wr2, brk2, ν2, mF, flF, zsF, a1, a2, a3, a4, a5, a6, a7⟩ := h
  refine ⟨h0, P2, wr2, brk2, ν2, mF, flF, zsF, a1, a2, Nat.le_trans a3 hn, a4.trans (fun x hx => hag x (Nat.lt_of_lt_of_le hx a3)) (Nat.le_refl _), a5.mono hn, Nat.le_trans a6 hm, fun m1 fl1 zs1 h1 h2 h3 => ?_⟩
  rw [at_ev_ag hag a5] at h2 h3
  exact a7 m1 fl1 zs1 h1 h2 h3
theorem at_G.app {o : Option at_V} {v : Option fl_V} {S' : at_S} {m' : fl_M} (h : at_G X m0 m ν S lv st fl fs) (hag : at_ag S.1.1.length ν ν') (hle : S.1.1.length ≤ S'.1.1.length) (hh : m.2.2 ≤ m'.2.2) (hg : at_GS X m0 m' ν' S') (hr : at_RO ν' m'.2.2 S'.1.1.length o v) : at_G X m0 m' ν' S' lv (o.toList ++ st) fl (v.toList ++ fs) := by
  have h2 := h.mem (m' := m') hag hle hh hg
  cases o with
  | none =>
    cases v with
    | none => exact h2
    | some v => cases hr
  | some a =>
    cases v with
    | none => cases hr
    | some v => exact h2.push hr.1 hr.2
theorem at_G.drop (h : at_G X m0 m ν S lv st fl fs) (n : Nat) : at_G X m0 m ν S lv (st.drop n) fl (fs.drop n) := ⟨h.1, h.2.1, h.2.2.1, (h.2.2.2.1.take n).2, fun a ha => h.2.2.2.2 a (List.mem_of_mem_drop ha)⟩
theorem at_fj_pc {JT : List at_J} {mi pc : Nat} {k0 : Option Nat} {j : at_J} (e : at_fj JT mi pc k0 = some j) : j.1.2.1 = pc := by
  have := List.find?_some e
  simp only [Bool.and_eq_true] at this
  exact Nat.eq_of_beq_eq_true this.2.1
theorem at_ex_ok (hX : at_XX X) (CT : List at_C) (hC : ∀ c ∈ CT, at_Valid X (pw_P L xs) c) (JT : List at_J) : ∀ (f mi : Nat) (k0 : Option Nat) (pc : Nat) (hd : Bool) (S : at_S) (lv : at_L) (st : List at_V) (act : List at_Ac) (outs : List at_O), at_ex CT JT f mi k0 pc hd S lv st act = some outs → ∀ (ν : Nat → Int) (m : fl_M) (fl : fl_L) (fs : List fl_V) (Q : Option fl_V → fl_M → Prop), at_G X m0 m ν S lv st fl fs → (∀ A ∈ act, at_AcOK X m0 (pw_P L xs) mi Q S.1.1.length ν m A) →
    (∀ o ∈ outs, ∀ (ν' : Nat → Int) (m' : fl_M) (v : Option fl_V), at_ag S.1.1.length ν ν' → S.1.1.length ≤ o.1.1.1.length → at_GS X m0 m' ν' o.1 → m.2.2 ≤ m'.2.2 → at_RO ν' m'.2.2 o.1.1.1.length o.2 v → Q v m') → fl_Tq (pw_P L xs) mi pc fl fs m Q := by
  intro f
  induction f with
  | zero => intro mi k0 pc hd S lv st act outs e; cases e
  | succ f ih =>
    intro mi k0 pc hd S lv st act outs e ν m fl fs Q hG hA hO
    unfold at_ex at e
    split at e
    · cases e
    · -- back at a loop's head
      rename_i eh
      cases hb : (hd && st.isEmpty) with
      | false => rw [hb] at eh; cases eh
      | true =>
        rw [hb] at eh
        replace eh : at_head JT mi k0 pc S lv act = some (some none) := eh
        simp only [Bool.and_eq_true] at hb
        have hst := List.isEmpty_iff.mp hb.2
        subst hst
        have hfs := hG.2.2.2.1.nil
        subst hfs
        unfold at_head at eh
        split at eh
        · cases eh
        · rename_i j ej
          cases hs : at_skip S lv j with
          | true => rw [hs] at eh; cases eh
          | false =>
            rw [hs] at eh
            dsimp only [cond_false] at eh
            split at eh
            · rename_i A eA
              obtain ⟨hbk, -⟩ := am_bif eh
              have hAm := List.mem_of_find?_eq_some eA
              have hpc : A.1 = pc := Nat.eq_of_beq_eq_true (List.find?_some (p := fun A : at_Ac => Nat.beq A.1 pc) eA)
              obtain ⟨h0, P2, wr2, brk2, ν2, mF, flF, zsF, a1, a2, a3, a4, a5, a6, a7⟩ := hA A hAm
              obtain ⟨zs, b1, b2, b3⟩ := at_back_ok a1 a2 a4 hG a6 hbk
              rw [← hpc]
              exact a7 m fl zs b1 b2 b3
            · split at eh <;> cases eh
    · -- into a loop
      rename_i SJ lvJ A eh
      cases hb : (hd && st.isEmpty) with
      | false => rw [hb] at eh; cases eh
      | true =>
        rw [hb] at eh
        replace eh : at_head JT mi k0 pc S lv act = some (some (some (SJ, lvJ, A))) := eh
        simp only [Bool.and_eq_true] at hb
        have hst := List.isEmpty_iff.mp hb.2
        subst hst
        have hfs := hG.2.2.2.1.nil
        subst hfs
        unfold at_head at eh
        split at eh
        · cases eh
        · rename_i j ej
          cases hs : at_skip S lv j with
          | true => rw [hs] at eh; cases eh
          | false =>
            rw [hs] at eh
            dsimp only [cond_false] at eh
            split at eh
            · obtain ⟨-, eh⟩ := am_bif eh
              cases eh
            · split at eh
              · rename_i x ex
                cases eh
                obtain ⟨P2, wr2, brk2, ν2, zs, ag2, le2, hAO, hF, hpc, rfl, rfl⟩ := at_enter_ok hG ex
                have hpc2 : A.1 = pc := hpc.trans (at_fj_pc ej)
                have key : ∀ (k : Nat) (m1 : fl_M) (fl1 : fl_L) (zs1 : List Int), at_Ft X m0 m.2.2 P2 wr2 brk2 A ν2 m1 fl1 zs1 → (at_sm m1 fl1 zs1 A.2.1.2.2.2.2.2.2).toNat ≤ k → fl_Tq (pw_P L xs) mi pc fl1 [] m1 Q := by
                  intro k
                  induction k with
                  | zero =>
                    intro m1 fl1 zs1 hF1 hk
                    obtain ⟨νJ, agJ, leJ, GJ, wJ, eJ⟩ := at_fit_ok hAO hF1
                    have agS := ag2.trans agJ le2
                    refine ih mi k0 pc false _ _ [] (A :: act) outs e νJ m1 fl1 [] Q GJ (fun B hB => ?_) (fun o ho ν' m' v q1 q2 q3 q4 q5 => hO o ho ν' m' v (agS.trans q1 (Nat.le_trans le2 leJ)) (Nat.le_trans (Nat.le_trans le2 leJ) q2) q3 (Nat.le_trans hF1.1 q4) q5)
                    rcases List.mem_cons.mp hB with rfl | hB
                    · refine ⟨m.2.2, P2, wr2, brk2, ν2, m1, fl1, zs1, hAO, hF1, leJ, agJ, wJ, hF1.1, fun m2 fl2 zs2 _ _ h3 => ?_⟩
                      rw [eJ] at h3
                      omega
                    · exact (hA B hB).mono agS (Nat.le_trans le2 leJ) hF1.1
                  | succ k ihk =>
                    intro m1 fl1 zs1 hF1 hk
                    obtain ⟨νJ, agJ, leJ, GJ, wJ, eJ⟩ := at_fit_ok hAO hF1
                    have agS := ag2.trans agJ le2
                    refine ih mi k0 pc false _ _ [] (A :: act) outs e νJ m1 fl1 [] Q GJ (fun B hB => ?_) (fun o ho ν' m' v q1 q2 q3 q4 q5 => hO o ho ν' m' v (agS.trans q1 (Nat.le_trans le2 leJ)) (Nat.le_trans (Nat.le_trans le2 leJ) q2) q3 (Nat.le_trans hF1.1 q4) q5)
                    rcases List.mem_cons.mp hB with rfl | hB
                    · refine ⟨m.2.2, P2, wr2, brk2, ν2, m1, fl1, zs1, hAO, hF1, leJ, agJ, wJ, hF1.1, fun m2 fl2 zs2 hF2 h2 h3 => ?_⟩
                      rw [eJ] at h2 h3
                      rw [hpc2]
                      exact ihk m2 fl2 zs2 hF2 (by omega)
                    · exact (hA B hB).mono agS (Nat.le_trans le2 leJ) hF1.1
                exact key _ m fl zs hF (Nat.le_refl _)
              · cases eh
    · -- an instruction
      split at e
      · cases e
      · rename_i ins ei
        have hok := hG.2.2.2.1.ok
        split at e
        · -- a call
          rename_i mj n ecl
          obtain ⟨hrc, e⟩ := am_bif e
          have hargs : at_RS ν m.2.2 (st.take n).reverse (fs.take n).reverse := (hG.2.2.2.1.take n).1.rev
          have hwa : ∀ a ∈ (st.take n).reverse, at_wV S.1.1.length a := fun a ha => hG.2.2.2.2 a (List.mem_of_mem_take (List.mem_reverse.mp ha))
          have hGd := hG.drop n
          refine fl_Tq.cal (ins := ins) (mj := mj) (n := n) ei ecl hok (at_rc_ok hG.2.2.2.1 hrc) ?_
          split at e
          · cases e
          · rename_i o eo
            have hgo : ∀ (v : Option fl_V) (ν' : Nat → Int) (m' : fl_M), at_ag S.1.1.length ν ν' → S.1.1.length ≤ o.1.1.1.length → m.2.2 ≤ m'.2.2 → at_GS X m0 m' ν' o.1 → at_RO ν' m'.2.2 o.1.1.1.length o.2 v → fl_Tq (pw_P L xs) mi (pc + 3) fl (v.toList ++ fs.drop n) m' Q := by
              intro v ν' m' q1 q2 q3 q4 q5
              exact ih mi k0 (pc + 3) true o.1 lv (o.2.toList ++ st.drop n) act outs e ν' m' fl (v.toList ++ fs.drop n) Q (hGd.app q1 q2 q3 q4 q5) (fun A hAm => (hA A hAm).mono q1 q2 q3) (fun o' ho' ν'' m'' v' r1 r2 r3 r4 r5 => hO o' ho' ν'' m'' v' (q1.trans r1 q2) (Nat.le_trans q2 r2) r3 (Nat.le_trans q3 r4) r5)
            unfold at_call at eo
            split at eo
            · rename_i o' eo'
              cases eo
              exact at_prim_ok hG.1 hargs hwa eo' (fun v ν' q1 q2 q3 q4 => hgo v ν' m q1 q2 (Nat.le_refl _) q3 q4)
            · split at eo
              · rename_i c ec
                have eo := Option.some.inj eo
                have hcm := List.mem_of_find?_eq_some ec
                have hcp := List.find?_some ec
                simp only [Bool.and_eq_true] at hcp
                have hmj := Nat.eq_of_beq_eq_true hcp.1
                obtain ⟨u1, u2, u3, u4⟩ := at_use_ok hG.1 hargs hwa hcp.2 eo
                have hv := hC c hcm m _ u1 u2 u3
                rw [hmj] at hv
                refine hv.mono (fun v m' hpost => ?_)
                obtain ⟨ν', r1, r2, r3, r4⟩ := u4 m' v hpost.1 hpost.2.1 hpost.2.2
                exact hgo v ν' m' r1 r2 hpost.2.1.1 r3 r4
              · cases eo
          · split at e
            · cases e
            · rename_i outs1 e1
              have hGc : at_G X m0 m ν S (at_args (pw_mxl mj) (st.take n).reverse) [] (fl_args (am_mxl (pw_P L xs) mj) (fs.take n).reverse) [] := ⟨hG.1, at_args_LR hargs, fun a ha => hwa a (at_args_mem ha), True.intro, fun a ha => by cases ha⟩
              refine ih mj _ 0 true S _ [] [] outs1 e1 ν m _ [] _ hGc (fun A hA => by cases hA) (fun o ho ν' m' v q1 q2 q3 q4 q5 => ?_)
              obtain ⟨y, ey, hy⟩ := at_jn_mem e _ (List.mem_map.mpr ⟨o, ho, rfl⟩)
              exact ih mi k0 (pc + 3) true o.1 lv (o.2.toList ++ st.drop n) act y ey ν' m' fl (v.toList ++ fs.drop n) Q (hGd.app q1 q2 q4 q3 q5) (fun A hAm => (hA A hAm).mono q1 q2 q4) (fun o' ho' ν'' m'' v' r1 r2 r3 r4 r5 => hO o' (hy o' ho') ν'' m'' v' (q1.trans r1 q2) (Nat.le_trans q2 r2) r3 (Nat.le_trans q4 r4) r5)
        · rename_i ecl
          split at e
          · -- an answer
            rename_i o eo
            cases e
            obtain ⟨v, e1, e2, e3⟩ := at_ret_ok (L := L) (xs := xs) hG eo
            refine fl_Tq.ret (ins := ins) ei ecl e1 (hO o List.mem_cons_self ν m v at_ag.rfl (by rw [e2]; exact Nat.le_refl _) (by rw [e2]; exact hG.1) (Nat.le_refl _) (by rw [e2]; exact e3))
          · split at e
            · cases e
            · rename_i alts ea
              obtain ⟨c, e1, a, ha, ν', h1, h2, h3, h4⟩ := at_st_ok (L := L) (xs := xs) hX hG ea
              obtain ⟨pc', fl', fs', m'⟩ := c
              have hh := fl_st_h e1
              dsimp only at hh h1 h4
              refine fl_Tq.stp (ins := ins) ei ecl hok e1 ?_
              obtain ⟨y, ey, hy⟩ := at_jn_mem e _ (List.mem_map.mpr ⟨a, ha, rfl⟩)
              rw [← h1]
              have hmm : m.2.2 ≤ m'.2.2 := Nat.le_of_eq hh.symm
              exact ih mi k0 a.1 true a.2.1 a.2.2.1 a.2.2.2 act y ey ν' m' fl' fs' Q h4 (fun A hAm => (hA A hAm).mono h2 h3 hmm) (fun o' ho' ν'' m'' v' r1 r2 r3 r4 r5 => hO o' (hy o' ho') ν'' m'' v' (h2.trans r1 h3) (Nat.le_trans h3 r2) r3 (Nat.le_trans hmm r4) r5)
end ATMN

end

/-! 78.chk.lean.txt -/
section
/-! ===== a contract that the looker passes holds ===== -/
section ATCH
variable {X : fl_M → Prop} {m0 m : fl_M} {ν ν' : Nat → Int} {S : at_S} {L : Nat} {xs : Nat → Int32}
theorem at_sta_ok {h : Nat} (hh : h ≤ 1000) : ∀ (ks : List at_K) (vs : List fl_V) (P : at_P) (ν : Nat → Int), at_KP ν P → at_agk h ks vs → ∃ ν', at_X ν P ν' (at_sta ks P).1 ∧ at_RS ν' h (at_sta ks P).2 vs ∧ ∀ a ∈ (at_sta ks P).2, at_wV (at_sta ks P).1.1.length a := by
  intro ks
  induction ks with
  | nil =>
    intro vs P ν hP hk
    cases vs with
    | nil => exact ⟨ν, at_X.rfl hP, True.intro, fun a ha => by cases ha⟩
    | cons v s => cases hk
  | cons k r ih =>
    intro vs P ν hP hk
    have lift : ∀ (P1 : at_P) (ν1 : Nat → Int) (a : at_V) (v : fl_V) (s : List fl_V), at_X ν P ν1 P1 → at_RV ν1 h a v → at_wV P1.1.length a → at_agk h r s → ∃ ν', at_X ν P ν' (at_sta r P1).1 ∧ at_RS ν' h (a :: (at_sta r P1).2) (v :: s) ∧ ∀ b ∈ a :: (at_sta r P1).2, at_wV (at_sta r P1).1.1.length b := by
      intro P1 ν1 a v s hx hv hw hs
      obtain ⟨ν2, hx2, hr2, hw2⟩ := ih s P1 ν1 hx.2.2 hs
      refine ⟨ν2, hx.trans hx2, ⟨hv.ag hw hx2.1 (Nat.le_refl _), hr2⟩, fun b hb => ?_⟩
      rcases List.mem_cons.mp hb with rfl | hb
      · exact hw.mono hx2.2.1
      · exact hw2 b hb
    rcases k with ⟨τ, po⟩ | ⟨b, lo, hi⟩
    · cases vs with
      | nil => cases hk
      | cons v s =>
        obtain ⟨⟨p, rfl, e1, e2, e3⟩, hs⟩ := hk
        cases po with
        | some q =>
          have := e3 q rfl
          subst this
          exact lift P ν (.inr (.inr (.inl (τ, at_c p)))) _ s (at_X.rfl hP) ⟨p, rfl, at_ev_c _ _, e1, e2⟩ at_wf_c hs
        | none =>
          have hp : p ≤ 1000000 := by unfold fl_N at e2; omega
          obtain ⟨ν1, hx, hw1, he⟩ := at_new_X hP (lo := 0) (hi := 1000000) (x := p) (by omega) (by omega)
          exact lift (at_new P 0 1000000) ν1 (.inr (.inr (.inl (τ, at_nv P)))) _ s hx ⟨p, rfl, he, e1, e2⟩ hw1 hs
    · cases b with
      | false =>
        cases vs with
        | nil => cases hk
        | cons v s =>
          obtain ⟨⟨x, rfl, x1, x2⟩, hs⟩ := hk
          obtain ⟨ν1, hx, hw1, he⟩ := at_new_X hP x1 x2
          exact lift (at_new P lo hi) ν1 (.inl (at_nv P)) _ s hx ⟨x, rfl, he.symm⟩ hw1 hs
      | true =>
        cases vs with
        | nil => cases hk
        | cons v s =>
          obtain ⟨⟨x, rfl, x1, x2⟩, hs⟩ := hk
          obtain ⟨ν1, hx, hw1, he⟩ := at_new_X hP x1 x2
          exact lift (at_new P lo hi) ν1 (.inr (.inl (at_nv P))) _ s hx ⟨x, rfl, he.symm⟩ hw1 hs
theorem at_stl_ok {as_ : List at_V} {vs : List fl_V} : ∀ (lt : List (Nat × Int)) (S : at_S) (ν : Nat → Int) (S' : at_S), at_GS X m0 m ν S → at_RS ν m.2.2 as_ vs → (∀ a ∈ as_, at_wV S.1.1.length a) → (∀ q ∈ lt, at_ltc m vs q) → at_stl as_ lt S = some S' → ∃ ν', at_ag S.1.1.length ν ν' ∧ S.1.1.length ≤ S'.1.1.length ∧ at_GS X m0 m ν' S' := by
  intro lt
  induction lt with
  | nil => intro S ν S' h _ _ _ e; cases e; exact ⟨ν, at_ag.rfl, Nat.le_refl _, h⟩
  | cons q r ih =>
    intro S ν S' h hr hw hq e
    unfold at_stl at e
    split at e
    · rename_i a ea
      obtain ⟨v, ev, x, rfl, ex⟩ := hr.get ea
      obtain ⟨x', ev', hx'⟩ := hq q List.mem_cons_self
      rw [ev] at ev'
      cases ev'
      obtain ⟨ν1, ag1, le1, g1, w1, e1, same1⟩ := at_cs_ok h
      have wa : at_wf S.1.1.length a := hw (.inl a) (List.mem_of_getElem? ea)
      dsimp only at e
      obtain ⟨P', eP, xP, lP⟩ := at_as_X g1.1 (a := at_add (at_sub a (at_cs S).2) (at_c (q.2 + 1))) (at_wf_add (at_wf_sub (wa.mono le1) w1) at_wf_c) (by
        rw [at_ev_add, at_ev_sub, at_ev_c, at_ev_ag ag1 wa, e1, ← ex]
        omega)
      rw [eP] at e
      have g2 := g1.ext xP
      obtain ⟨ν2, ag2, le2, g3⟩ := ih (P', (at_cs S).1.2) ν1 S' g2 (hr.ag hw ag1 (Nat.le_refl _)) (fun b hb => (hw b hb).mono (Nat.le_trans le1 xP.2.1)) (fun q hq' => hq q (List.mem_cons_of_mem _ hq')) e
      exact ⟨ν2, ag1.trans ag2 (by show S.1.1.length ≤ P'.1.length; omega), by have : P'.1.length ≤ S'.1.1.length := le2; omega, g3⟩
    · cases e
theorem at_chk_ok (hX : at_XX X) (hX4 : ∀ m, X m → m.2.2 ≤ 1000) {CT : List at_C} (hC : ∀ c ∈ CT, at_Valid X (pw_P L xs) c) {JT : List at_J} {f : Nat} {c : at_C} (e : at_chk CT JT f c = true) : at_Valid X (pw_P L xs) c := by
  intro m vs hg hk hl
  unfold at_chk at e
  have h0 : at_KP (fun _ => 0) (([], [], []) : at_P) := ⟨⟨fun x => (by simp [at_bd]), fun c hc => (by cases hc), fun c hc => (by cases hc)⟩, fun c hc => (by cases hc), fun c hc => (by cases hc)⟩
  obtain ⟨ν1, hx, hr, hw⟩ := at_sta_ok (hX4 m hg.2.2) c.2.1 vs ([], [], []) _ h0 hk
  generalize at_sta c.2.1 ([], [], []) = z at hx hr hw e
  dsimp only at e
  split at e
  · rename_i S eS
    have g1 : at_GS X m m ν1 (z.1, [], [], []) := ⟨hx.2.2, fun f hf => (by cases hf), fun b hb => (by cases hb), hg.1, hg.RL _, hg.2.2, Nat.le_refl _, fun p j hne => absurd rfl hne⟩
    obtain ⟨ν2, ag2, le2, g2⟩ := at_stl_ok c.2.2.1 _ ν1 S g1 hr hw hl eS
    split at e
    · rename_i outs eo
      have hr2 := hr.ag hw ag2 (Nat.le_refl m.2.2)
      have hw2 : ∀ a ∈ z.2, at_wV S.1.1.length a := fun a ha => (hw a ha).mono le2
      have hG : at_G X m m ν2 S (at_args (pw_mxl c.1) z.2) [] (fl_args (am_mxl (pw_P L xs) c.1) vs) [] := ⟨g2, at_args_LR hr2, fun a ha => hw2 a (at_args_mem ha), True.intro, fun a ha => by cases ha⟩
      refine at_ex_ok hX CT hC JT f c.1 _ 0 true S _ [] [] outs eo ν2 m _ [] _ hG (fun A hA => by cases hA) (fun o ho ν' m' v q1 q2 q3 q4 q5 => ?_)
      have hk := List.all_eq_true.mp e o ho
      unfold at_oko at hk
      simp only [Bool.and_eq_true] at hk
      obtain ⟨k1, k2, k3⟩ := hk
      refine ⟨q3.good k1, ⟨q3.2.2.2.2.2.2.1, fun p j hne => ?_⟩, ?_⟩
      · obtain ⟨w, hw', hcv⟩ := q3.2.2.2.2.2.2.2 p j hne
        obtain ⟨w', hw'', ecv⟩ := List.any_eq_true.mp (List.all_eq_true.mp k2 w hw')
        exact ⟨w', hw'', at_cvW_ok ecv hcv⟩
      · unfold at_rtc
        split at k3
        · rename_i er eo2
          rw [er]
          rw [eo2] at q5
          cases v with
          | none => rfl
          | some v => cases q5
        · rename_i lo hi a er eo2
          rw [er]
          rw [eo2] at q5
          simp only [Bool.and_eq_true, Bool.or_eq_true, Bool.not_eq_true'] at k3
          obtain ⟨r1, r2⟩ := k3
          cases v with
          | none => cases q5
          | some v =>
            obtain ⟨⟨x, rfl, ex⟩, wa⟩ := q5
            obtain ⟨i1, i2⟩ := at_inR_ok q3.1.1 r1
            refine ⟨x, rfl, by omega, by omega, fun hlt => ?_⟩
            rcases r2 with r2 | r2
            · rw [hlt] at r2; cases r2
            · obtain ⟨ν3, ag3, le3, g3, w3, e3, -⟩ := at_cs_ok q3
              have := at_le_ok g3.1.1 r2
              have wa : at_wf o.1.1.1.length a := wa
              rw [at_ev_add, at_ev_sub, at_ev_c, at_ev_ag ag3 wa, e3] at this
              omega
        · rename_i lo hi a er eo2
          rw [er]
          rw [eo2] at q5
          simp only [Bool.and_eq_true, Bool.not_eq_true'] at k3
          obtain ⟨r1, r2⟩ := k3
          cases v with
          | none => cases q5
          | some v =>
            obtain ⟨⟨x, rfl, ex⟩, wa⟩ := q5
            obtain ⟨i1, i2⟩ := at_inR_ok q3.1.1 r1
            exact ⟨x, rfl, by omega, by omega, fun hlt => by rw [r2] at hlt; cases hlt⟩
        · cases k3
    · cases e
  · cases e
theorem at_all_ok (hX : at_XX X) (hX4 : ∀ m, X m → m.2.2 ≤ 1000) {JT : List at_J} {f : Nat} : ∀ (cs CT : List at_C), (∀ c ∈ CT, at_Valid X (pw_P L xs) c) → at_all CT JT f cs = true → ∀ c ∈ cs, at_Valid X (pw_P L xs) c := by
  intro cs
  induction cs with
  | nil => intro CT _ _ c hc; cases hc
  | cons d r ih =>
    intro CT hC e c hc
    unfold at_all at e
    simp only [Bool.and_eq_true] at e
    have hd := at_chk_ok hX hX4 hC e.1
    rcases List.mem_cons.mp hc with rfl | hc
    · exact hd
    · refine ih (CT ++ [d]) (fun c' hc' => ?_) e.2 c hc
      rcases List.mem_append.mp hc' with h | h
      · exact hC c' h
      · rw [List.mem_singleton.mp h]; exact hd
end ATCH

end
