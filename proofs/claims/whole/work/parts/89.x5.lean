/-! ===== the class: walks ===== -/
theorem q_hasWide {σ : xS} {T : sT} (h : XC σ T) {c : Nat} {t : List Int32} (hc : T c = some (.inl t)) (hl : t.length ≤ 120) : P_X0_hasWideSign [.inr (some c)] σ 0 0 (mI (fun r σ' => σ' = σ ∧ r = if wd t then 1 else 0)) := by
  obtain ⟨h1, o, a1, a2, a3, -⟩ := h c _ hc
  rw [tx_leaf hc] at a3
  refine e_X0_hasWideSign c σ 0 0 _ _ a1 a2 ?_
  generalize hret : (mI (fun r σ' => σ' = σ ∧ r = if wd t then 1 else 0)) = ret
  have key : ∀ i : Nat, (i ≤ t.length ∧ wd (t.take i) = false) → W_X0_hasWideSign ret (2, [some (.inr (some c)), some (.inl (nI i))], [], σ, 0, 0) := by
    refine mm_loop _ _ (fun i => t.length - i) ?_
    rintro i ⟨i0, i1⟩ ih
    rw [r_X0_hasWideSign_2]
    simp only [r_X0_hasWideSign_0, r_X0_hasWideSign_1, r_X0_hasWideSign_3, r_X0_hasWideSign_4, r_X0_hasWideSign_7, r_X0_hasWideSign_10, r_X0_hasWideSign_11, r_X0_hasWideSign_12, r_X0_hasWideSign_15, r_X0_hasWideSign_18, r_X0_hasWideSign_21, r_X0_hasWideSign_22, r_X0_hasWideSign_23, r_X0_hasWideSign_26, r_X0_hasWideSign_29, r_X0_hasWideSign_30, xo a1, a2, true_and, a3, nI_leI (show t.length < 2 ^ 31 by omega) (show i < 2 ^ 31 by omega), nI_add]
    refine ⟨fun hle => ⟨Or.inl nI_0, ?_⟩, fun hle => ?_⟩
    · have : i = t.length := by omega
      subst this
      rw [List.take_length] at i1
      subst hret
      rw [mI_e, i1]
      exact ⟨rfl, nI_0⟩
    · obtain ⟨x, hx⟩ : ∃ x, t[i]? = some x := ⟨_, List.getElem?_eq_getElem (show i < t.length by omega)⟩
      refine ⟨_, q_leafSign h hc hl (nI i), ?_⟩
      rintro r s' ⟨hs, hr⟩
      subst hs
      rw [ix_nI (by omega), hx] at hr
      have hr : r = x := hr
      subst hr
      refine ⟨fun hle => ih (i + 1) ⟨by omega, ?_⟩ (by omega), fun hle => ⟨Or.inr rfl, ?_⟩⟩
      · rw [wd_succ hx, i1, decide_eq_false (fun z => (Int32_lt_not _ _).mp z hle)]; rfl
      · have : wd t = true := by
          simp only [wd, List.any_eq_true]
          exact ⟨r, List.mem_of_getElem? hx, decide_eq_true ((Int32_lt_not _ _).mpr hle)⟩
        subst hret
        rw [mI_e, this]
        exact ⟨rfl, rfl⟩
  simp only [r_X0_hasWideSign_0, r_X0_hasWideSign_1, r_X0_hasWideSign_3, r_X0_hasWideSign_4, r_X0_hasWideSign_7, r_X0_hasWideSign_10, r_X0_hasWideSign_11, r_X0_hasWideSign_12, r_X0_hasWideSign_15, r_X0_hasWideSign_18, r_X0_hasWideSign_21, r_X0_hasWideSign_22, r_X0_hasWideSign_23, r_X0_hasWideSign_26, r_X0_hasWideSign_29, r_X0_hasWideSign_30]
  exact key 0 ⟨Nat.zero_le _, by simp [wd]⟩
theorem q_room {σ : xS} {T : sT} (h : XC σ T) (hT : ∀ c, T c ≠ none → wf T 13 c) {c : Nat} (hn : T c ≠ none) : P_X0_room [.inr (some c)] σ 0 0 (mI (fun r σ' => σ' = σ ∧ r = nI (rm T c))) := by
  have hw := hT c hn
  obtain ⟨v, hv⟩ := Option.ne_none_iff_exists'.mp hn
  obtain ⟨h1, o, a1, a2, a3, a4⟩ := h c v hv
  refine e_X0_room c σ 0 0 _ _ a1 a2 ?_
  have t0 : (nI 0 : Int32).toInt = 0 := by decide
  have t1 : (nI 1 : Int32).toInt = 1 := by decide
  have t2 : (nI 2 : Int32).toInt = 2 := by decide
  rcases v with t | q | q
  · have ht := (wf_leaf hv).mp hw
    rw [tx_leaf hv] at a3
    simp only [r_X0_room_0, r_X0_room_1, r_X0_room_4, r_X0_room_32, r_X0_room_34, r_X0_room_35, r_X0_room_37, r_X0_room_38, r_X0_room_40, r_X0_room_41, r_X0_room_44, r_X0_room_47, r_X0_room_48, r_X0_room_49, r_X0_room_52, r_X0_room_53, r_X0_room_56, r_X0_room_57, r_X0_room_60, r_X0_room_61, xo a1, a2, true_and, a3, a4.1, t0, mI_e]
    refine ⟨fun z => absurd z (by decide), fun _ => ⟨fun z => absurd z (by decide), fun _ => ?_⟩⟩
    refine ⟨_, q_hasWide h hv ht.1, ?_⟩
    rintro r s' ⟨rfl, rfl⟩
    simp only [xo a1, a2, true_and, a3, nI_add, pk_mul, rm, hv]
    by_cases hwd : wd t = true
    · rw [hwd]
      refine ⟨fun z => absurd z (by decide), fun _ => ?_⟩
      rfl
    · rw [Bool.not_eq_true] at hwd
      rw [hwd]
      refine ⟨fun _ => ?_, fun z => absurd rfl z⟩
      simp
  · simp only [r_X0_room_0, r_X0_room_1, r_X0_room_4, r_X0_room_32, r_X0_room_34, r_X0_room_35, r_X0_room_37, r_X0_room_38, r_X0_room_40, r_X0_room_41, r_X0_room_44, r_X0_room_47, r_X0_room_48, r_X0_room_49, r_X0_room_52, r_X0_room_53, r_X0_room_56, r_X0_room_57, r_X0_room_60, r_X0_room_61, xo a1, a2, true_and, a4.1, t1, mI_e]
    refine ⟨fun _ => ?_, fun z => absurd trivial z⟩
    simp only [rm, hv]
  · simp only [r_X0_room_0, r_X0_room_1, r_X0_room_4, r_X0_room_32, r_X0_room_34, r_X0_room_35, r_X0_room_37, r_X0_room_38, r_X0_room_40, r_X0_room_41, r_X0_room_44, r_X0_room_47, r_X0_room_48, r_X0_room_49, r_X0_room_52, r_X0_room_53, r_X0_room_56, r_X0_room_57, r_X0_room_60, r_X0_room_61, xo a1, a2, true_and, a4.1, t2, mI_e]
    refine ⟨fun z => absurd z (by decide), fun _ => ⟨fun _ => ?_, fun z => absurd trivial z⟩⟩
    simp only [rm, hv]
/-- a walk's frame: marks alone change -/
def WFr (T : sT) (σ σ1 : xS) : Prop := σ1.2 = σ.2 ∧ (∀ k, T k = none → k ≠ 17 → σ1.1 k = σ.1 k) ∧ ∀ k o, σ.1 k = some o → k ≠ 17 → ∃ o', σ1.1 k = some o' ∧ o'.1 = o.1 ∧ o'.2.2 = o.2.2 ∧ ∀ j, j ≠ 8 → o'.2.1 j = o.2.1 j
theorem WFr_rf (T : sT) (σ : xS) : WFr T σ σ := ⟨rfl, fun _ _ _ => rfl, fun _ o h _ => ⟨o, h, rfl, rfl, fun _ _ => rfl⟩⟩
theorem WFr_tr {T : sT} {σ σ1 σ2 : xS} (h1 : WFr T σ σ1) (h2 : WFr T σ1 σ2) : WFr T σ σ2 := by
  refine ⟨h2.1.trans h1.1, fun k hk h17 => (h2.2.1 k hk h17).trans (h1.2.1 k hk h17), fun k o ho h17 => ?_⟩
  obtain ⟨o1, a1, a2, a3, a4⟩ := h1.2.2 k o ho h17
  obtain ⟨o2, b1, b2, b3, b4⟩ := h2.2.2 k o1 a1 h17
  exact ⟨o2, b1, b2.trans a2, b3.trans a3, fun j hj => (b4 j hj).trans (a4 j hj)⟩
theorem WFr_17 {T : sT} {σ : xS} (v : Option xO) : WFr T σ (va_up σ.1 17 v, σ.2) := ⟨rfl, fun k _ h => va_up_ne _ _ h, fun k o ho h => ⟨o, by show va_up σ.1 17 v k = _; rw [va_up_ne _ _ h]; exact ho, rfl, rfl, fun _ _ => rfl⟩⟩
theorem WFr_m {T : sT} {σ : xS} {c : Nat} (hc : T c ≠ none) {o : xO} (ho : σ.1 c = some o) (x : Int32) : WFr T σ (va_up σ.1 c (some (o.1, upd o.2.1 8 x, o.2.2)), σ.2) := by
  refine ⟨rfl, fun k hk _ => va_up_ne _ _ (fun z => hc (by rw [← z]; exact hk)), fun k o' ho' h => ?_⟩
  by_cases hkc : k = c
  · subst hkc
    rw [ho] at ho'
    cases ho'
    exact ⟨_, va_up_self _ _ _, rfl, rfl, fun j hj => pk_un hj⟩
  · exact ⟨o', by show va_up σ.1 c _ k = _; rw [va_up_ne _ _ hkc]; exact ho', rfl, rfl, fun _ _ => rfl⟩
theorem WFr_C {T : sT} {σ σ1 : xS} (hC : XC σ T) (h : WFr T σ σ1) : XC σ1 T := fun c v hc => by
  obtain ⟨h24, o, o1, o2, o3, o4⟩ := hC c v hc
  obtain ⟨o', p1, p2, p3, p4⟩ := h.2.2 c o o1 (by omega)
  refine ⟨h24, o', p1, p2.trans o2, by rw [p4 1 (by decide)]; exact o3, ?_⟩
  rcases v with t | q | q
  · obtain ⟨a1, a2, a3, a4, a5, p, g, a6, a7, a8, a9⟩ := o4
    exact ⟨by rw [p4 0 (by decide)]; exact a1, by rw [p4 6 (by decide)]; exact a2, by rw [p3]; exact a3, by rw [p3]; exact a4, by rw [p3]; exact a5, p, g, by rw [p3]; exact a6, a7, by rw [h.1]; exact a8, a9⟩
  · obtain ⟨a1, a2, a3, a4⟩ := o4
    exact ⟨by rw [p4 0 (by decide)]; exact a1, by rw [p3]; exact a2, by rw [p3]; exact a3, by rw [p3]; exact a4⟩
  · obtain ⟨a1, a2, a3, a4, a5⟩ := o4
    exact ⟨by rw [p4 0 (by decide)]; exact a1, by rw [p4 6 (by decide)]; exact a2, by rw [p3]; exact a3, by rw [p3]; exact a4, by rw [p3]; exact a5⟩
/-- a walk under way: V was come by -/
def VI (σ0 : xS) (T : sT) (st : Nat) (σ1 : xS) (V : List Nat) : Prop :=
  XC σ1 T ∧ WFr T σ0 σ1 ∧ okV T V ∧ (∃ fi fr, σ1.1 17 = some (4, fi, fr) ∧ fi 0 = nI st ∧ fi 1 = nI V.length ∧ fi 2 = nI (V.map (rm T)).sum) ∧ ∀ c o, T c ≠ none → σ1.1 c = some o → (o.2.1 8 = nI st ↔ c ∈ V) ∧ ∃ s, s ≤ st ∧ o.2.1 8 = nI s
theorem q_cameByO {σ : xS} {fi : Nat → Int32} {fr : Nat → Option Nat} {st : Int32} (h : σ.1 17 = some (4, fi, fr)) (h0 : fi 0 = st) {c : Nat} {o : xO} (hc : σ.1 c = some o) (hc0 : o.1 = 0) : P_X4_cameBy [.inr (some 17), .inr (some c)] σ 0 0 (mI (fun r σ' => σ' = σ ∧ ((o.2.1 8 = st ∧ r = 1) ∨ (¬ o.2.1 8 = st ∧ r = 0)))) := by
  refine e_X4_cameBy (some c) 17 σ 0 0 _ _ h rfl ?_
  simp only [r_X4_cameBy_0, r_X4_cameBy_1, r_X4_cameBy_4, r_X4_cameBy_5, r_X4_cameBy_8, r_X4_cameBy_9, r_X4_cameBy_12, r_X4_cameBy_15, r_X4_cameBy_16, r_X4_cameBy_19, r_X4_cameBy_20, sN, sS, true_and, xo hc, hc0, xo h, h0, mI_e]
  refine ⟨fun hne => ⟨Or.inl nI_0, Or.inr ⟨hne, nI_0⟩⟩, fun he => ⟨Or.inr rfl, Or.inl ⟨Classical.not_not.mp he, rfl⟩⟩⟩
theorem q_visitNone {σ : xS} {o : xO} (h : σ.1 17 = some o) (h4 : o.1 = 4) (d : Nat) (lv : Int32) : P_X4_visit (d + 1) [.inr (some 17), .inr none, .inl lv] σ 0 0 (mN (fun σ' => σ' = σ)) := by
  refine e_X4_visit d lv none 17 σ 0 0 _ _ h h4 ?_
  have nS : ∀ {P : Prop}, (∀ q : Nat, (none : Option Nat) = some q → P) = True := propext ⟨fun _ => trivial, fun _ q z => by cases z⟩
  simp only [r_X4_visit_0, r_X4_visit_1, r_X4_visit_18, nS, mN_e]
  exact ⟨fun _ => trivial, trivial⟩
theorem q_visitSeen {σ0 σ1 : xS} {T : sT} {st : Nat} {V : List Nat} (h : VI σ0 T st σ1 V) {c : Nat} (hc : c ∈ V) (d : Nat) (lv : Int32) {post : xS → Prop} (hp : post σ1) : P_X4_visit (d + 1) [.inr (some 17), .inr (some c), .inl lv] σ1 0 0 (mN post) := by
  obtain ⟨h1, h2, h3, ⟨fi, fr, w1, w2, w3, w4⟩, h5⟩ := h
  obtain ⟨v, hv⟩ := Option.ne_none_iff_exists'.mp (h3.2 c hc)
  obtain ⟨h24, o, o1, o2, o3, o4⟩ := h1 c v hv
  refine e_X4_visit d lv (some c) 17 σ1 0 0 _ _ w1 rfl ?_
  simp only [r_X4_visit_0, r_X4_visit_1, r_X4_visit_4, r_X4_visit_5, r_X4_visit_6, sN, sS, true_and]
  refine ⟨_, q_cameByO w1 w2 o1 o2, ?_⟩
  rintro r s' ⟨rfl, hr⟩
  have hm := ((h5 c o (h3.2 c hc) o1).1).mpr hc
  rcases hr with ⟨-, rfl⟩ | ⟨hr, -⟩
  · simp only [r_X4_visit_9, r_X4_visit_18, mN_e]
    exact ⟨fun _ => hp, fun z => absurd (by decide) z⟩
  · exact absurd hm hr
theorem q_visitNew {σ0 σ1 : xS} {T : sT} (hT : ∀ c, T c ≠ none → wf T 13 c) {st : Nat} {V : List Nat} (h : VI σ0 T st σ1 V) {c : Nat} (hcT : T c ≠ none) (hc : c ∉ V) (d lv : Nat) (hlv : lv ≤ 40) {ret : Option mV → xS → Prop} (K : ∀ σ2, VI σ0 T st σ2 (c :: V) → W_X4_visit d ret (50, [some (.inr (some 17)), some (.inr (some c)), some (.inl (nI lv))], [], σ2, 0, 0)) : P_X4_visit (d + 1) [.inr (some 17), .inr (some c), .inl (nI lv)] σ1 0 0 ret := by
  obtain ⟨h1, h2, h3, ⟨fi, fr, w1, w2, w3, w4⟩, h5⟩ := h
  obtain ⟨v, hv⟩ := Option.ne_none_iff_exists'.mp hcT
  obtain ⟨h24, o, o1, o2, o3, o4⟩ := h1 c v hv
  have hc17 : c ≠ 17 := by omega
  refine e_X4_visit d (nI lv) (some c) 17 σ1 0 0 _ _ w1 rfl ?_
  simp only [r_X4_visit_0, r_X4_visit_1, r_X4_visit_4, r_X4_visit_5, r_X4_visit_6, sN, sS, true_and]
  refine ⟨_, q_cameByO w1 w2 o1 o2, ?_⟩
  rintro r s' ⟨rfl, hr⟩
  rcases hr with ⟨hr, -⟩ | ⟨-, rfl⟩
  · exact absurd (((h5 c o hcT o1).1).mp hr) hc
  simp only [r_X4_visit_9, r_X4_visit_12, r_X4_visit_13, r_X4_visit_15, r_X4_visit_19, r_X4_visit_20, r_X4_visit_21, r_X4_visit_24, r_X4_visit_27, r_X4_visit_28, r_X4_visit_29, r_X4_visit_32, r_X4_visit_33, r_X4_visit_34, r_X4_visit_37, r_X4_visit_38, r_X4_visit_39, r_X4_visit_42, r_X4_visit_43, r_X4_visit_46, r_X4_visit_47, nI_leI (show lv < 2 ^ 31 by omega) (show 40 < 2 ^ 31 by omega)]
  refine ⟨fun z => absurd trivial z, fun _ => ⟨fun _ => ?_, fun z => absurd hlv z⟩⟩
  simp only [xo w1, xo o1, o2, w2, true_and]
  have f1 : (va_up s'.1 c (some (0, upd o.2.1 8 (nI st), o.2.2)), s'.2).1 17 = some (4, fi, fr) := by
    show va_up s'.1 c _ 17 = _
    rw [va_up_ne _ _ (fun z => hc17 z.symm)]; exact w1
  have m0 : WFr T s' (va_up s'.1 c (some (0, upd o.2.1 8 (nI st), o.2.2)), s'.2) := by
    have := WFr_m hcT o1 (nI st)
    rw [o2] at this
    exact this
  simp only [xo f1, true_and, w3, nI_add]
  have m1 : WFr T s' (va_up (va_up s'.1 c (some (0, upd o.2.1 8 (nI st), o.2.2))) 17 (some (4, upd fi 1 (nI (V.length + 1)), fr)), s'.2) := WFr_tr m0 (WFr_17 _)
  simp only [xu, true_and]
  refine ⟨_, q_room (WFr_C h1 m1) hT hcT, ?_⟩
  rintro r s2 ⟨rfl, rfl⟩
  simp only [xu, true_and, va_up_up]
  have m2 : WFr T s' (va_up (va_up s'.1 c (some (0, upd o.2.1 8 (nI st), o.2.2))) 17 (some (4, upd (upd fi 1 (nI (V.length + 1))) 2 (upd fi 1 (nI (V.length + 1)) 2 + nI (rm T c)), fr)), s'.2) := WFr_tr m0 (WFr_17 _)
  refine K _ ⟨WFr_C h1 m2, WFr_tr h2 m2, ⟨List.nodup_cons.mpr ⟨hc, h3.1⟩, fun x hx => ?_⟩, ⟨upd (upd fi 1 (nI (V.length + 1))) 2 (upd fi 1 (nI (V.length + 1)) 2 + nI (rm T c)), fr, by simp only [va_up_self], ?_, ?_, ?_⟩, fun x o' hx ho' => ?_⟩
  · rcases List.mem_cons.mp hx with rfl | hx
    · exact hcT
    · exact h3.2 x hx
  · rw [pk_un (by decide), pk_un (by decide)]; exact w2
  · rw [pk_un (by decide), pk_us]; rfl
  · rw [pk_us, pk_un (by decide), w4, nI_add, List.map_cons, List.sum_cons, Nat.add_comm]
  · have hx17 : x ≠ 17 := fun z => by
      subst z
      exact hx (XC_24 h1 (by omega))
    have ho' : va_up (va_up s'.1 c (some (0, upd o.2.1 8 (nI st), o.2.2))) 17 (some (4, upd (upd fi 1 (nI (V.length + 1))) 2 (upd fi 1 (nI (V.length + 1)) 2 + nI (rm T c)), fr)) x = some o' := ho'
    rw [va_up_ne _ _ hx17] at ho'
    by_cases hxc : x = c
    · subst hxc
      rw [va_up_self] at ho'
      cases ho'
      have e8 : upd o.2.1 8 (nI st) 8 = nI st := pk_us
      exact ⟨⟨fun _ => List.mem_cons_self, fun _ => e8⟩, st, Nat.le_refl _, e8⟩
    · rw [va_up_ne _ _ hxc] at ho'
      obtain ⟨g1, g2⟩ := h5 x o' hx ho'
      refine ⟨?_, g2⟩
      rw [g1, List.mem_cons]
      exact ⟨Or.inr, fun z => z.resolve_left hxc⟩
def vpost (σ0 : xS) (T : sT) (st : Nat) (V St : List Nat) (c : Nat) (R : List Nat) (σ2 : xS) : Prop := ∃ V', VI σ0 T st σ2 V' ∧ (∀ x ∈ V, x ∈ V') ∧ c ∈ V' ∧ mkC T V' St ∧ ∀ x ∈ V', x ∈ V ∨ x ∈ R
theorem VI_17 {σ0 σ1 : xS} {T : sT} {st : Nat} {V : List Nat} (h : VI σ0 T st σ1 V) : ∃ o, σ1.1 17 = some o ∧ o.1 = 4 := by
  obtain ⟨-, -, -, ⟨fi, fr, w1, -⟩, -⟩ := h
  exact ⟨_, w1, rfl⟩
theorem mkC_seen {T : sT} {V St : List Nat} {c : Nat} (h : mkC T V St) (hc : c ∈ V) (R : List Nat) {σ0 σ1 : xS} {st : Nat} (hV : VI σ0 T st σ1 V) : vpost σ0 T st V St c R σ1 := ⟨V, hV, fun _ z => z, hc, h, fun _ z => Or.inl z⟩
theorem mkC_new {T : sT} {V St : List Nat} {c : Nat} (h : mkC T V St) : mkC T (c :: V) (c :: St) := fun z hz hn y hy => by
  rcases List.mem_cons.mp hz with rfl | hz
  · exact absurd List.mem_cons_self hn
  · exact List.mem_cons_of_mem _ (h z hz (fun w => hn (List.mem_cons_of_mem _ w)) y hy)
theorem mkC_done {T : sT} {V St : List Nat} {c : Nat} (h : mkC T V (c :: St)) (hc : ∀ y ∈ ch T c, y ∈ V) : mkC T V St := fun z hz hn y hy => by
  by_cases hzc : z = c
  · subst hzc; exact hc y hy
  · exact h z hz (fun w => (List.mem_cons.mp w).elim hzc hn) y hy
theorem q_visitLeaf {σ0 σ1 : xS} {T : sT} (hT : ∀ c, T c ≠ none → wf T 13 c) {st : Nat} {V St : List Nat} (h : VI σ0 T st σ1 V) (hm : mkC T V St) {c : Nat} {t : List Int32} (hv : T c = some (.inl t)) (d lv : Nat) (hlv : lv ≤ 40) : P_X4_visit (d + 2) [.inr (some 17), .inr (some c), .inl (nI lv)] σ1 0 0 (mN (vpost σ0 T st V St c [c])) := by
  by_cases hc : c ∈ V
  · exact q_visitSeen h hc (d + 1) _ (mkC_seen hm hc _ h)
  refine q_visitNew hT h (by rw [hv]; exact fun z => by cases z) hc (d + 1) lv hlv (fun σ2 h2 => ?_)
  obtain ⟨h24, o, o1, o2, o3, k1, k2, k3, k4, k5, -⟩ := h2.1 c _ hv
  obtain ⟨w, w1, w2⟩ := VI_17 h2
  rw [r_X4_visit_50]
  simp only [r_X4_visit_1, r_X4_visit_4, r_X4_visit_5, r_X4_visit_6, r_X4_visit_9, r_X4_visit_12, r_X4_visit_13, r_X4_visit_15, r_X4_visit_18, r_X4_visit_19, r_X4_visit_20, r_X4_visit_21, r_X4_visit_24, r_X4_visit_27, r_X4_visit_28, r_X4_visit_29, r_X4_visit_32, r_X4_visit_33, r_X4_visit_34, r_X4_visit_37, r_X4_visit_38, r_X4_visit_39, r_X4_visit_42, r_X4_visit_43, r_X4_visit_46, r_X4_visit_47, r_X4_visit_51, r_X4_visit_52, r_X4_visit_55, r_X4_visit_56, r_X4_visit_57, r_X4_visit_58, r_X4_visit_61, r_X4_visit_62, r_X4_visit_63, r_X4_visit_66, r_X4_visit_67, r_X4_visit_68, r_X4_visit_69, r_X4_visit_72, r_X4_visit_73, r_X4_visit_74, r_X4_visit_77, r_X4_visit_78, r_X4_visit_79, r_X4_visit_80, r_X4_visit_83, xo o1, o2, true_and, k3, nI_add]
  refine ⟨_, q_visitNone w1 w2 d _, ?_⟩
  rintro s3 rfl
  simp only [xo o1, o2, true_and, k4]
  refine ⟨_, q_visitNone w1 w2 d _, ?_⟩
  rintro s4 rfl
  simp only [xo o1, o2, true_and, k5]
  refine ⟨_, q_visitNone w1 w2 d _, ?_⟩
  rintro s5 rfl
  rw [mN_e]
  refine ⟨c :: V, h2, fun x hx => List.mem_cons_of_mem _ hx, List.mem_cons_self, mkC_done (mkC_new hm) (fun y hy => by rw [ch_leaf hv] at hy; simp at hy), fun x hx => ?_⟩
  rcases List.mem_cons.mp hx with rfl | hx
  · exact Or.inr (by simp)
  · exact Or.inl hx
theorem q_visitSlice {σ0 σ1 : xS} {T : sT} (hT : ∀ c, T c ≠ none → wf T 13 c) {st : Nat} {V St : List Nat} (h : VI σ0 T st σ1 V) (hm : mkC T V St) {c : Nat} {q : Nat × Nat × Nat} (hv : T c = some (.inr (.inr q))) (hq : oks T q) (d lv : Nat) (hlv : lv ≤ 39) : P_X4_visit (d + 3) [.inr (some 17), .inr (some c), .inl (nI lv)] σ1 0 0 (mN (vpost σ0 T st V St c [c, q.1])) := by
  by_cases hc : c ∈ V
  · exact q_visitSeen h hc (d + 2) _ (mkC_seen hm hc _ h)
  refine q_visitNew hT h (by rw [hv]; exact fun z => by cases z) hc (d + 2) lv (by omega) (fun σ2 h2 => ?_)
  obtain ⟨h24, o, o1, o2, o3, k1, k2, k3, k4, k5⟩ := h2.1 c _ hv
  obtain ⟨w, w1, w2⟩ := VI_17 h2
  obtain ⟨tb, q1, -⟩ := hq
  rw [r_X4_visit_50]
  simp only [r_X4_visit_1, r_X4_visit_4, r_X4_visit_5, r_X4_visit_6, r_X4_visit_9, r_X4_visit_12, r_X4_visit_13, r_X4_visit_15, r_X4_visit_18, r_X4_visit_19, r_X4_visit_20, r_X4_visit_21, r_X4_visit_24, r_X4_visit_27, r_X4_visit_28, r_X4_visit_29, r_X4_visit_32, r_X4_visit_33, r_X4_visit_34, r_X4_visit_37, r_X4_visit_38, r_X4_visit_39, r_X4_visit_42, r_X4_visit_43, r_X4_visit_46, r_X4_visit_47, r_X4_visit_51, r_X4_visit_52, r_X4_visit_55, r_X4_visit_56, r_X4_visit_57, r_X4_visit_58, r_X4_visit_61, r_X4_visit_62, r_X4_visit_63, r_X4_visit_66, r_X4_visit_67, r_X4_visit_68, r_X4_visit_69, r_X4_visit_72, r_X4_visit_73, r_X4_visit_74, r_X4_visit_77, r_X4_visit_78, r_X4_visit_79, r_X4_visit_80, r_X4_visit_83, xo o1, o2, true_and, k3, nI_add]
  refine ⟨_, q_visitNone w1 w2 (d + 1) _, ?_⟩
  rintro s3 rfl
  simp only [xo o1, o2, true_and, k4]
  refine ⟨_, q_visitNone w1 w2 (d + 1) _, ?_⟩
  rintro s4 rfl
  simp only [xo o1, o2, true_and, k5]
  refine ⟨_, q_visitLeaf hT h2 (mkC_new (c := c) hm) q1 d (lv + 1) (by omega), ?_⟩
  rintro s5 ⟨V', g1, g2, g3, g4, g5⟩
  rw [mN_e]
  refine ⟨V', g1, fun x hx => g2 x (List.mem_cons_of_mem _ hx), g2 c List.mem_cons_self, mkC_done g4 (fun y hy => ?_), fun x hx => ?_⟩
  · rw [ch_slice hv, List.mem_singleton] at hy; rw [hy]; exact g3
  · rcases g5 x hx with hx | hx
    · rcases List.mem_cons.mp hx with rfl | hx
      · exact Or.inr (by simp)
      · exact Or.inl hx
    · exact Or.inr (List.mem_cons_of_mem _ hx)
theorem q_visit {σ0 : xS} {T : sT} (hT : ∀ c, T c ≠ none → wf T 13 c) {st : Nat} : ∀ (n d c lv : Nat) (σ1 : xS) (V St : List Nat), n ≤ d → n ≤ 13 → wf T n c → lv + n ≤ 39 → VI σ0 T st σ1 V → mkC T V St → P_X4_visit (d + 3) [.inr (some 17), .inr (some c), .inl (nI lv)] σ1 0 0 (mN (vpost σ0 T st V St c (rl T n c))) := by
  intro n
  induction n with
  | zero =>
    intro d c lv σ1 V St hnd hn hw hlv h hm
    rcases wf_cases hw with ⟨tt, hv, htt⟩ | ⟨q, hv, hq⟩ | ⟨k, q, hk, -⟩
    · rw [rl_leaf hv]; exact q_visitLeaf hT h hm hv (d + 1) lv (by omega)
    · rw [rl_slice hv]; exact q_visitSlice hT h hm hv hq d lv (by omega)
    · cases hk
  | succ n ih =>
    intro d c lv σ1 V St hnd hn hw hlv h hm
    rcases wf_cases hw with ⟨tt, hv, htt⟩ | ⟨q, hv, hq⟩ | ⟨k, q, hk, hv, h1, h2, h3, h4, h5⟩
    · rw [rl_leaf hv]; exact q_visitLeaf hT h hm hv (d + 1) lv (by omega)
    · rw [rl_slice hv]; exact q_visitSlice hT h hm hv hq d lv (by omega)
    · cases hk
      rw [rl_join hv]
      by_cases hc : c ∈ V
      · exact q_visitSeen h hc (d + 2) _ (mkC_seen hm hc _ h)
      cases d with
      | zero => omega
      | succ d =>
        refine q_visitNew hT h (by rw [hv]; exact fun z => by cases z) hc (d + 1 + 2) lv (by omega) (fun σ2 g => ?_)
        obtain ⟨h24, o, o1, o2, o3, k1, k2, k3, k4⟩ := g.1 c _ hv
        rw [r_X4_visit_50]
        simp only [r_X4_visit_1, r_X4_visit_4, r_X4_visit_5, r_X4_visit_6, r_X4_visit_9, r_X4_visit_12, r_X4_visit_13, r_X4_visit_15, r_X4_visit_18, r_X4_visit_19, r_X4_visit_20, r_X4_visit_21, r_X4_visit_24, r_X4_visit_27, r_X4_visit_28, r_X4_visit_29, r_X4_visit_32, r_X4_visit_33, r_X4_visit_34, r_X4_visit_37, r_X4_visit_38, r_X4_visit_39, r_X4_visit_42, r_X4_visit_43, r_X4_visit_46, r_X4_visit_47, r_X4_visit_51, r_X4_visit_52, r_X4_visit_55, r_X4_visit_56, r_X4_visit_57, r_X4_visit_58, r_X4_visit_62, r_X4_visit_63, r_X4_visit_66, r_X4_visit_67, r_X4_visit_68, r_X4_visit_69, r_X4_visit_72, r_X4_visit_73, r_X4_visit_74, r_X4_visit_77, r_X4_visit_78, r_X4_visit_79, r_X4_visit_80, r_X4_visit_83, xo o1, o2, true_and, k2, nI_add]
        refine ⟨_, ih d q.1 (lv + 1) σ2 (c :: V) (c :: St) (by omega) (by omega) h1 (by omega) g (mkC_new hm), ?_⟩
        rintro s3 ⟨V3, a1, a2, a3, a4, a5⟩
        obtain ⟨-, o', p1, p2, p3, m1, m2, m3, m4⟩ := a1.1 c _ hv
        rw [r_X4_visit_61]
        simp only [r_X4_visit_1, r_X4_visit_4, r_X4_visit_5, r_X4_visit_6, r_X4_visit_9, r_X4_visit_12, r_X4_visit_13, r_X4_visit_15, r_X4_visit_18, r_X4_visit_19, r_X4_visit_20, r_X4_visit_21, r_X4_visit_24, r_X4_visit_27, r_X4_visit_28, r_X4_visit_29, r_X4_visit_32, r_X4_visit_33, r_X4_visit_34, r_X4_visit_37, r_X4_visit_38, r_X4_visit_39, r_X4_visit_42, r_X4_visit_43, r_X4_visit_46, r_X4_visit_47, r_X4_visit_51, r_X4_visit_52, r_X4_visit_55, r_X4_visit_56, r_X4_visit_57, r_X4_visit_58, r_X4_visit_62, r_X4_visit_63, r_X4_visit_66, r_X4_visit_67, r_X4_visit_68, r_X4_visit_69, r_X4_visit_73, r_X4_visit_74, r_X4_visit_77, r_X4_visit_78, r_X4_visit_79, r_X4_visit_80, r_X4_visit_83, xo p1, p2, true_and, m3, nI_add]
        refine ⟨_, ih d q.2 (lv + 1) s3 V3 (c :: St) (by omega) (by omega) h2 (by omega) a1 a4, ?_⟩
        rintro s4 ⟨V4, b1, b2, b3, b4, b5⟩
        obtain ⟨-, o', p1, p2, p3, m1, m2, m3, m4⟩ := b1.1 c _ hv
        obtain ⟨w, w1, w2⟩ := VI_17 b1
        rw [r_X4_visit_72]
        simp only [r_X4_visit_1, r_X4_visit_4, r_X4_visit_5, r_X4_visit_6, r_X4_visit_9, r_X4_visit_12, r_X4_visit_13, r_X4_visit_15, r_X4_visit_18, r_X4_visit_19, r_X4_visit_20, r_X4_visit_21, r_X4_visit_24, r_X4_visit_27, r_X4_visit_28, r_X4_visit_29, r_X4_visit_32, r_X4_visit_33, r_X4_visit_34, r_X4_visit_37, r_X4_visit_38, r_X4_visit_39, r_X4_visit_42, r_X4_visit_43, r_X4_visit_46, r_X4_visit_47, r_X4_visit_51, r_X4_visit_52, r_X4_visit_55, r_X4_visit_56, r_X4_visit_57, r_X4_visit_58, r_X4_visit_62, r_X4_visit_63, r_X4_visit_66, r_X4_visit_67, r_X4_visit_68, r_X4_visit_69, r_X4_visit_73, r_X4_visit_74, r_X4_visit_77, r_X4_visit_78, r_X4_visit_79, r_X4_visit_80, r_X4_visit_83, xo p1, p2, true_and, m4, nI_add]
        refine ⟨_, q_visitNone w1 w2 (d + 2) _, ?_⟩
        rintro s5 rfl
        rw [mN_e]
        refine ⟨V4, b1, fun x hx => b2 x (a2 x (List.mem_cons_of_mem _ hx)), b2 c (a2 c List.mem_cons_self), mkC_done b4 (fun y hy => ?_), fun x hx => ?_⟩
        · rw [ch_join hv, List.mem_cons, List.mem_singleton] at hy
          rcases hy with rfl | rfl
          · exact b2 _ a3
          · exact b3
        · rcases b5 x hx with hx | hx
          · rcases a5 x hx with hx | hx
            · rcases List.mem_cons.mp hx with rfl | hx
              · exact Or.inr List.mem_cons_self
              · exact Or.inl hx
            · exact Or.inr (List.mem_cons_of_mem _ (List.mem_append_left _ hx))
          · exact Or.inr (List.mem_cons_of_mem _ (List.mem_append_right _ hx))
