/-! ===== the class: the weaver's state; new joins ===== -/
/-- joins that nobody has, chained by their left cells -/
def SPC (σ : xS) (st : Nat) : List Nat → Option Nat → Prop
  | [], h => h = none
  | c :: l, h => h = some c ∧ 24 ≤ c ∧ ∃ o : xO, σ.1 c = some o ∧ o.1 = 0 ∧ o.2.2 5 = none ∧ (∃ s, s ≤ st ∧ o.2.1 8 = nI s) ∧ SPC σ st l (o.2.2 3)
theorem SPC_f {σ σ' : xS} {st : Nat} : ∀ (l : List Nat) (h : Option Nat), SPC σ st l h → (∀ k o, k ∈ l → σ.1 k = some o → σ'.1 k = some o) → SPC σ' st l h
  | [], _, h, _ => h
  | c :: l, _, ⟨h1, h24, o, h2, h3, h4, h5, h6⟩, hk => ⟨h1, h24, o, hk c o List.mem_cons_self h2, h3, h4, h5, SPC_f l _ h6 (fun k o' hk' => hk k o' (List.mem_cons_of_mem _ hk'))⟩
theorem SPC_h {σ : xS} {st : Nat} : ∀ (l : List Nat) (h : Option Nat), SPC σ st l h → h = l.head?
  | [], _, h => h
  | _ :: _, _, h => h.1
theorem SPC_24 {σ : xS} {st : Nat} : ∀ (l : List Nat) (h : Option Nat), SPC σ st l h → ∀ x ∈ l, 24 ≤ x
  | [], _, _, x, hx => by simp at hx
  | c :: l, _, ⟨_, h24, o, _, _, _, _, h6⟩, x, hx => by
    rcases List.mem_cons.mp hx with rfl | hx
    · exact h24
    · exact SPC_24 l _ h6 x hx
/-- what lies below 24, the weaver's own things aside, is as it was -/
def YF (σ σ' : xS) : Prop := (∀ k o, k < 24 → k ≠ 11 → k ≠ 13 → k ≠ 15 → σ.1 k = some o → σ'.1 k = some o) ∧ (∀ k t, k < 24 → k ≠ 16 → σ.2.1 k = some t → σ'.2.1 k = some t) ∧ (∀ k t, k < 24 → k ≠ 14 → σ.2.2 k = some t → σ'.2.2 k = some t) ∧ ∀ k, k < 24 → σ.2.1 k = none → σ'.2.1 k = none
theorem YF_rf (σ : xS) : YF σ σ := ⟨fun _ _ _ _ _ _ h => h, fun _ _ _ _ h => h, fun _ _ _ _ h => h, fun _ _ h => h⟩
theorem YF_tr {σ σ1 σ2 : xS} (h1 : YF σ σ1) (h2 : YF σ1 σ2) : YF σ σ2 := ⟨fun k o a b c d e => h2.1 k o a b c d (h1.1 k o a b c d e), fun k t a b c => h2.2.1 k t a b (h1.2.1 k t a b c), fun k t a b c => h2.2.2.1 k t a b (h1.2.2.1 k t a b c), fun k a b => h2.2.2.2 k a (h1.2.2.2 k a b)⟩
theorem YF_x {lo lg lr : List Nat} {σ σ' : xS} (h : XF lo lg lr σ σ') (h1 : ∀ k ∈ lo, k < 24 → k = 11 ∨ k = 13 ∨ k = 15) (h2 : ∀ k ∈ lg, k < 24 → k = 16) (h3 : ∀ k ∈ lr, k < 24 → k = 14) : YF σ σ' :=
  ⟨fun k o a b c d e => h.1 k o (fun z => by rcases h1 k z a with z | z | z <;> omega) e, fun k t a b e => h.2.1 k t (fun z => b (h2 k z a)) e, fun k t a b e => h.2.2.1 k t (fun z => b (h3 k z a)) e, h.2.2.2⟩
/-- the weaver with its rules, its cells, its spare joins -/
def WS (σ : xS) (T : sT) (sm dp lo tn st : Nat) (sp : List Nat) : Prop :=
  XC σ T ∧ (∀ c, T c ≠ none → wf T 13 c) ∧ (∃ fi fr, σ.1 11 = some (5, fi, fr) ∧ fr 0 = some 12 ∧ fr 1 = some 13 ∧ fr 2 = some 15 ∧ fi 3 = nI tn ∧ SPC σ st sp (fr 4)) ∧ (∃ g, σ.2.1 12 = some (3, g) ∧ g 0 = nI sm ∧ g 1 = nI dp ∧ g 2 = nI lo) ∧ (∃ P, PCS σ 13 P) ∧ (∃ L, TXT σ 15 L) ∧ (∀ c o, T c ≠ none → σ.1 c = some o → (∃ m, m ≤ tn ∧ o.2.1 7 = nI m) ∧ ∃ s, s ≤ st ∧ o.2.1 8 = nI s) ∧ sp.Nodup ∧ ∀ c ∈ sp, T c = none
def KP (T : sT) (σ σ' : xS) : Prop := ∀ k o, T k ≠ none → σ.1 k = some o → σ'.1 k = some o
theorem KP_rf (T : sT) (σ : xS) : KP T σ σ := fun _ _ _ h => h
theorem KP_tr {T : sT} {σ σ1 σ2 : xS} (h1 : KP T σ σ1) (h2 : KP T σ1 σ2) : KP T σ σ2 := fun k o a b => h2 k o a (h1 k o a b)
theorem KP_w {T T1 : sT} {σ σ1 : xS} (h1 : KP T1 σ σ1) (h : ∀ c v, T c = some v → T1 c = some v) : KP T σ σ1 := fun k o a b => h1 k o (ext_nn h a) b
theorem KP_x {T : sT} {lo lg lr : List Nat} {σ σ' : xS} (h : XF lo lg lr σ σ') (h1 : ∀ k ∈ lo, T k = none) : KP T σ σ' := fun k o a b => h.1 k o (fun z => a (h1 k z)) b
theorem XC_sub {σ : xS} {T T2 : sT} (h : XC σ T) (hs : ∀ c v, T2 c = some v → T c = some v) (hw : ∀ c, T2 c ≠ none → wf T2 13 c) : XC σ T2 := fun c v hc => by
  obtain ⟨h1, o, h2, h3, h4, h5⟩ := h c v (hs c v hc)
  exact ⟨h1, o, h2, h3, by rw [h4, (ext_wf hs 13 c (hw c (by rw [hc]; exact fun z => by cases z))).2.1], h5⟩
theorem XC_nn {σ : xS} {T : sT} (h : XC σ T) {c : Nat} (hc : T c ≠ none) : 24 ≤ c ∧ ∃ o, σ.1 c = some o ∧ o.1 = 0 := by
  obtain ⟨v, hv⟩ := Option.ne_none_iff_exists'.mp hc
  obtain ⟨h1, o, h2, h3, -⟩ := h c v hv
  exact ⟨h1, o, h2, h3⟩
theorem wf_new {T : sT} {c : Nat} {v : cV} (hT : ∀ c, T c ≠ none → wf T 13 c) (hc : T c = none) (hw : wf (va_up T c (some v)) 13 c) : ∀ x, va_up T c (some v) x ≠ none → wf (va_up T c (some v)) 13 x := fun x hx => by
  by_cases hxc : x = c
  · subst hxc; exact hw
  · rw [va_up_ne _ _ hxc] at hx
    exact (ext_wf (ext_up hc v) 13 x (hT x hx)).1
theorem XC_free {σ : xS} {T : sT} (h : XC σ T) {c : Nat} (hc : σ.1 c = none) : T c = none := by
  cases hv : T c with
  | none => rfl
  | some v =>
    obtain ⟨-, o, ho, -⟩ := h c v hv
    rw [hc] at ho; cases ho
/-- a cell more, in the place of nothing or of a spare join -/
theorem XC_put {σ σ' : xS} {T : sT} (h : XC σ T) (hT : ∀ c, T c ≠ none → wf T 13 c) {c : Nat} (hTc : T c = none) {lo lr : List Nat} (hf : XF lo [] lr σ σ') (hlo : ∀ k ∈ lo, T k = none) (h24 : 24 ≤ c) {v : cV} {o : xO} (h1 : σ'.1 c = some o) (h2 : o.1 = 0) (h3 : o.2.1 1 = nI (tx (va_up T c (some v)) 13 c).length) (h4 : xck σ' o v) : XC σ' (va_up T c (some v)) := fun x w hx => by
  by_cases hxc : x = c
  · subst hxc
    rw [va_up_self] at hx
    cases hx
    exact ⟨h24, o, h1, h2, h3, h4⟩
  · rw [va_up_ne _ _ hxc] at hx
    have hxn : T x ≠ none := by rw [hx]; exact fun z => by cases z
    obtain ⟨g1, o, g2, g3, g4, g5⟩ := h x w hx
    refine ⟨g1, o, hf.1 x o (fun z => hxn (hlo x z)) g2, g3, ?_, xck_f g5 hf (fun k hk => by simp at hk)⟩
    rw [g4, (ext_wf (ext_up hTc v) 13 x (hT x hxn)).2.1]
section
variable {T : sT} {sm dp lo tn st : Nat} {sp : List Nat} {σ : xS}
theorem q_newJoin (h : WS σ T sm dp lo tn st sp) {x y : Nat} (hx : wf T 12 x) (hy : wf T 12 y) (hx0 : tx T 12 x ≠ []) (hy0 : tx T 12 y ≠ []) (hl : (tx T 12 x).length + (tx T 12 y).length ≤ 120) (a b : Nat) (ha : 1 ≤ a) (hb : 9 ≤ b) :
    P_X5_newJoin [.inr (some 11), .inr (some x), .inr (some y)] σ a b (mR (fun r σ' => ∃ c sp', r = some c ∧ T c = none ∧ WS σ' (va_up T c (some (.inr (.inl (x, y))))) sm dp lo tn st sp' ∧ KP T σ σ' ∧ YF σ σ' ∧ (∀ P, PCS σ 13 P → PCS σ' 13 P) ∧ ∃ o, σ'.1 c = some o ∧ o.2.1 7 = nI tn)) := by
  obtain ⟨hC, hT, ⟨fi, fr, w1, w2, w3, w4, w5, w6⟩, ⟨g, r1, r2⟩, ⟨P0, hP⟩, ⟨L0, hL⟩, hM, hnd, hsp⟩ := id h
  obtain ⟨ux1, ux2, -⟩ := wf_up 12 x hx
  obtain ⟨uy1, uy2, -⟩ := wf_up 12 y hy
  obtain ⟨vx, hvx⟩ := Option.ne_none_iff_exists'.mp (wf_nn hx)
  obtain ⟨vy, hvy⟩ := Option.ne_none_iff_exists'.mp (wf_nn hy)
  obtain ⟨x24, ox, x1, x2, x3, -⟩ := hC x vx hvx
  obtain ⟨y24, oy, y1, y2, y3, -⟩ := hC y vy hvy
  rw [ux2] at x3
  rw [uy2] at y3
  -- the end, for whichever cell it is
  have fin : ∀ (c : Nat) (sp' : List Nat) (σ' : xS) (oi : Nat → Int32) (oe : Nat → Option Nat) (fr' : Nat → Option Nat), T c = none → 24 ≤ c → XF [c, 11] [] [] σ σ' → σ'.1 11 = some (5, fi, fr') → (∀ j, j ≠ 4 → fr' j = fr j) → SPC σ' st sp' (fr' 4) → sp'.Nodup → (∀ k ∈ sp', T k = none ∧ k ≠ c) → σ'.1 c = some (0, oi, oe) → oi 0 = nI 1 → oi 1 = nI ((tx T 12 x).length + (tx T 12 y).length) → oi 7 = nI tn → (∃ s, s ≤ st ∧ oi 8 = nI s) → oe 3 = some x → oe 4 = some y → oe 5 = none →
      ∃ c0 sp', some c = some c0 ∧ T c0 = none ∧ WS σ' (va_up T c0 (some (.inr (.inl (x, y))))) sm dp lo tn st sp' ∧ KP T σ σ' ∧ YF σ σ' ∧ (∀ P, PCS σ 13 P → PCS σ' 13 P) ∧ ∃ o, σ'.1 c0 = some o ∧ o.2.1 7 = nI tn := by
    intro c sp' σ' oi oe fr' hTc h24 hf f11 ffr fsp fnd fT o1 o3 o4 o5 o6 o7 o8 o9
    have hlo : ∀ k ∈ [c, 11], T k = none := fun k hk => by
      simp at hk
      rcases hk with rfl | rfl
      · exact hTc
      · exact XC_24 hC (by omega)
    have hup := ext_up hTc (.inr (.inl (x, y)))
    obtain ⟨ex1, ex2, -⟩ := ext_wf hup 12 x hx
    obtain ⟨ey1, ey2, -⟩ := ext_wf hup 12 y hy
    have hcc : va_up T c (some (.inr (.inl (x, y)))) c = some (.inr (.inl (x, y))) := va_up_self _ _ _
    have hwc : wf (va_up T c (some (.inr (.inl (x, y))))) 13 c := (wf_join hcc).mpr ⟨ex1, ey1, by rw [ex2]; exact hx0, by rw [ey2]; exact hy0, by rw [ex2, ey2]; exact hl⟩
    refine ⟨c, sp', rfl, hTc, ⟨?_, wf_new hT hTc hwc, ⟨fi, fr', f11, by rw [ffr 0 (by decide)]; exact w2, by rw [ffr 1 (by decide)]; exact w3, by rw [ffr 2 (by decide)]; exact w4, w5, fsp⟩, ⟨g, hf.2.1 12 _ (by simp) r1, r2⟩, ⟨P0, PCS_f hP hf (by omega) (by simp; omega) (by simp)⟩, ⟨L0, TXT_f hL hf (by simp; omega) (by simp)⟩, ?_, fnd, ?_⟩, KP_x hf hlo, YF_x hf (fun k hk h => by simp at hk; omega) (fun k hk => by simp at hk) (fun k hk => by simp at hk), fun P hP' => PCS_f hP' hf (by omega) (by simp; omega) (by simp), _, o1, o5⟩
    · refine XC_put hC hT hTc hf hlo h24 o1 rfl ?_ ⟨o3, o7, o8, o9⟩
      rw [show (13 : Nat) = 12 + 1 from rfl, tx_join hcc, ex2, ey2, List.length_append]
      exact o4
    · intro k o' hk ho'
      by_cases hkc : k = c
      · subst hkc
        rw [o1] at ho'
        cases ho'
        exact ⟨⟨tn, Nat.le_refl _, o5⟩, o6⟩
      · rw [va_up_ne _ _ hkc] at hk
        obtain ⟨-, o'', p1, -⟩ := XC_nn hC hk
        have := KP_x hf hlo k o'' hk p1
        rw [this] at ho'
        cases ho'
        exact hM k _ hk p1
    · intro k hk
      rw [va_up_ne _ _ (fT k hk).2]
      exact (fT k hk).1
  have hxy : ∀ {P : Prop}, (∀ q, some x = some q → P) = P := sS
  cases sp with
  | nil =>
    have w6' : fr 4 = none := w6
    refine e_X5_newJoin (some x) (some y) 11 σ a b _ _ w1 rfl ?_
    have nS : ∀ {P : Prop}, (∀ q : Nat, (none : Option Nat) = some q → P) = True := propext ⟨fun _ => trivial, fun _ q z => by cases z⟩
    have nN : ∀ {P : Prop}, ((none : Option Nat) = none → P) = P := propext ⟨fun h => h rfl, fun h _ => h⟩
    simp only [r_X5_newJoin_0, r_X5_newJoin_1, r_X5_newJoin_4, r_X5_newJoin_5, r_X5_newJoin_6, r_X5_newJoin_9, r_X5_newJoin_12, r_X5_newJoin_13, xo w1, true_and, w6', nS, nN]
    refine fun _ => ⟨ha, hb, fun c h24 c1 c2 c3 => ?_⟩
    have hn : (va_up σ.1 c (some (0, (fun _ => (0 : Int32)), (fun _ => (none : Option Nat)))), σ.2).1 c = some (0, (fun _ => (0 : Int32)), (fun _ => (none : Option Nat))) := va_up_self _ _ _
    refine ⟨_, q_cellInit hn rfl, ?_⟩
    intro s' hs
    subst hs
    have hc11 : (11 : Nat) ≠ c := by omega
    have hcx : x ≠ c := fun z => by rw [z, c1] at x1; cases x1
    have hcy : y ≠ c := fun z => by rw [z, c1] at y1; cases y1
    have e11 : ∀ v, va_up σ.1 c v 11 = some (5, fi, fr) := fun v => by rw [va_up_ne _ _ hc11]; exact w1
    have ex : ∀ v, va_up σ.1 c v x = some ox := fun v => by rw [va_up_ne _ _ hcx]; exact x1
    have ey : ∀ v, va_up σ.1 c v y = some oy := fun v => by rw [va_up_ne _ _ hcy]; exact y1
    have z11 : ∀ (v : Option xO) {P : xO → Prop}, (∃ q, va_up σ.1 c v 11 = some q ∧ P q) = P (5, fi, fr) := fun v P => xo (σ := (va_up σ.1 c v, σ.2)) (e11 v)
    have zx : ∀ (v : Option xO) {P : xO → Prop}, (∃ q, va_up σ.1 c v x = some q ∧ P q) = P ox := fun v P => xo (σ := (va_up σ.1 c v, σ.2)) (ex v)
    have zy : ∀ (v : Option xO) {P : xO → Prop}, (∃ q, va_up σ.1 c v y = some q ∧ P q) = P oy := fun v P => xo (σ := (va_up σ.1 c v, σ.2)) (ey v)
    simp only [r_X5_newJoin_16, r_X5_newJoin_17, r_X5_newJoin_28, r_X5_newJoin_29, r_X5_newJoin_30, r_X5_newJoin_33, r_X5_newJoin_34, r_X5_newJoin_35, r_X5_newJoin_38, r_X5_newJoin_39, r_X5_newJoin_40, r_X5_newJoin_43, r_X5_newJoin_44, r_X5_newJoin_45, r_X5_newJoin_48, r_X5_newJoin_49, r_X5_newJoin_52, r_X5_newJoin_53, r_X5_newJoin_56, r_X5_newJoin_57, r_X5_newJoin_60, r_X5_newJoin_61, r_X5_newJoin_64, r_X5_newJoin_65, r_X5_newJoin_68, r_X5_newJoin_69, r_X5_newJoin_72, r_X5_newJoin_73, r_X5_newJoin_74, r_X5_newJoin_77, r_X5_newJoin_80, r_X5_newJoin_81, xu, va_up_up, true_and, sS, sN, and_true, z11, zx, zy, x2, y2, x3, y3, nI_add, w5, mR_e]
    refine fin c [] _ _ _ fr (XC_free hC c1) h24 (XF_o (XF_rf _ _ _ _) (Or.inl (by simp))) (e11 _) (fun _ _ => rfl) w6' List.nodup_nil (fun k hk => by simp at hk) (va_up_self _ _ _) ?_ ?_ pk_us ⟨0, Nat.zero_le _, ?_⟩ ?_ ?_ ?_
    · rw [pk_un (by decide), pk_un (by decide), pk_us]
    · rw [pk_un (by decide), pk_us]
    · rw [pk_un (by decide), pk_un (by decide), pk_un (by decide)]; rfl
    · rw [va_up_ne _ _ (by decide), va_up_self]
    · exact va_up_self _ _ _
    · rw [va_up_ne _ _ (by decide), va_up_ne _ _ (by decide)]
  | cons c sp =>
    obtain ⟨s1, s24, so, s2, s3, s4, s5, s6⟩ := w6
    refine e_X5_newJoin (some x) (some y) 11 σ a b _ _ w1 rfl ?_
    have hTc : T c = none := hsp c List.mem_cons_self
    have hcx : c ≠ x := fun z => by rw [z] at hTc; exact wf_nn hx hTc
    have hcy : c ≠ y := fun z => by rw [z] at hTc; exact wf_nn hy hTc
    have hc11 : c ≠ 11 := by omega
    obtain ⟨hcs, hnd'⟩ := List.nodup_cons.mp hnd
    simp only [r_X5_newJoin_0, r_X5_newJoin_1, r_X5_newJoin_4, r_X5_newJoin_5, r_X5_newJoin_6, r_X5_newJoin_20, r_X5_newJoin_21, r_X5_newJoin_22, r_X5_newJoin_25, xo w1, true_and, s1, sS, sN, and_true, xo s2, s3]
    have ec : ∀ v, va_up σ.1 11 v c = some so := fun v => by rw [va_up_ne _ _ hc11]; exact s2
    have zc : ∀ (v : Option xO) {P : xO → Prop}, (∃ q, va_up σ.1 11 v c = some q ∧ P q) = P so := fun v P => xo (σ := (va_up σ.1 11 v, σ.2)) (ec v)
    simp only [r_X5_newJoin_28, r_X5_newJoin_29, r_X5_newJoin_30, r_X5_newJoin_33, r_X5_newJoin_34, r_X5_newJoin_35, zc, s3, true_and]
    have z11 : ∀ (v w : Option xO) {P : xO → Prop}, (∃ q, va_up (va_up σ.1 11 (some (5, fi, w.elim fr (fun _ => va_up fr 4 (so.2.2 3))))) c v 11 = some q ∧ P q) = P (5, fi, w.elim fr (fun _ => va_up fr 4 (so.2.2 3))) := fun v w P => xo (σ := (va_up (va_up σ.1 11 (some (5, fi, w.elim fr (fun _ => va_up fr 4 (so.2.2 3))))) c v, σ.2)) (by show va_up (va_up σ.1 11 _) c v 11 = _; rw [va_up_ne _ _ (fun z => hc11 z.symm), va_up_self])
    have z11 : ∀ (v : Option xO) {P : xO → Prop}, (∃ q, va_up (va_up σ.1 11 (some (5, fi, va_up fr 4 (so.2.2 3)))) c v 11 = some q ∧ P q) = P (5, fi, va_up fr 4 (so.2.2 3)) := fun v P => z11 v (some so)
    have zx : ∀ (v : Option xO) {P : xO → Prop}, (∃ q, va_up (va_up σ.1 11 (some (5, fi, va_up fr 4 (so.2.2 3)))) c v x = some q ∧ P q) = P ox := fun v P => xo (σ := (va_up (va_up σ.1 11 (some (5, fi, va_up fr 4 (so.2.2 3)))) c v, σ.2)) (by show va_up (va_up σ.1 11 _) c v x = _; rw [va_up_ne _ _ (fun z => hcx z.symm), va_up_ne _ _ (by omega)]; exact x1)
    have zy : ∀ (v : Option xO) {P : xO → Prop}, (∃ q, va_up (va_up σ.1 11 (some (5, fi, va_up fr 4 (so.2.2 3)))) c v y = some q ∧ P q) = P oy := fun v P => xo (σ := (va_up (va_up σ.1 11 (some (5, fi, va_up fr 4 (so.2.2 3)))) c v, σ.2)) (by show va_up (va_up σ.1 11 _) c v y = _; rw [va_up_ne _ _ (fun z => hcy z.symm), va_up_ne _ _ (by omega)]; exact y1)
    simp only [r_X5_newJoin_38, r_X5_newJoin_39, r_X5_newJoin_40, r_X5_newJoin_43, r_X5_newJoin_44, r_X5_newJoin_45, r_X5_newJoin_48, r_X5_newJoin_49, r_X5_newJoin_52, r_X5_newJoin_53, r_X5_newJoin_56, r_X5_newJoin_57, r_X5_newJoin_60, r_X5_newJoin_61, r_X5_newJoin_64, r_X5_newJoin_65, r_X5_newJoin_68, r_X5_newJoin_69, r_X5_newJoin_72, r_X5_newJoin_73, r_X5_newJoin_74, r_X5_newJoin_77, r_X5_newJoin_80, r_X5_newJoin_81, xu, va_up_up, true_and, sS, sN, and_true, z11, zx, zy, x2, y2, x3, y3, nI_add, w5, mR_e]
    have hf : ∀ v, XF [c, 11] [] [] σ (va_up (va_up σ.1 11 (some (5, fi, va_up fr 4 (so.2.2 3)))) c v, σ.2) := fun v => XF_o (XF_o (XF_rf _ _ _ _) (Or.inl (by simp))) (Or.inl (by simp))
    refine fin c sp _ _ _ (va_up fr 4 (so.2.2 3)) hTc s24 (hf _) ?_ (fun j hj => va_up_ne _ _ hj) ?_ hnd' (fun k hk => ⟨hsp k (List.mem_cons_of_mem _ hk), fun z => hcs (by rw [← z]; exact hk)⟩) (va_up_self _ _ _) ?_ ?_ pk_us ?_ ?_ ?_ ?_
    · show va_up (va_up σ.1 11 _) c _ 11 = _
      rw [va_up_ne _ _ (fun z => hc11 z.symm), va_up_self]
    · rw [va_up_self]
      have h24s := SPC_24 _ _ s6
      refine SPC_f sp _ s6 (fun k o hk ho => (hf _).1 k o ?_ ho)
      have := h24s k hk
      simp only [List.mem_cons, List.not_mem_nil, or_false, not_or]
      exact ⟨fun z => hcs (by rw [← z]; exact hk), by omega⟩
    · rw [pk_un (by decide), pk_un (by decide), pk_us]
    · rw [pk_un (by decide), pk_us]
    · obtain ⟨s, hs, he⟩ := s5
      exact ⟨s, hs, by rw [pk_un (by decide), pk_un (by decide), pk_un (by decide)]; exact he⟩
    · rw [va_up_ne _ _ (by decide), va_up_self]
    · exact va_up_self _ _ _
    · rw [va_up_ne _ _ (by decide), va_up_ne _ _ (by decide)]; exact s4
end
