/-! ===== the class: rule, say, copy, image, restore ===== -/
section
variable {σ : xS} {T : sT} {sl : List Nat} {im : Nat → Option (List Nat)} {en nu : List Nat} {ev : Nat} {dr : List Int32} {sm dp lo tn st : Nat} {sp : List Nat}
theorem XS_rule (h : XS σ T sl im en nu ev dr sm dp lo tn st sp) {g' : Nat → Int32} {sm' dp' lo' : Nat} (r2 : g' 0 = nI sm') (r3 : g' 1 = nI dp') (r4 : g' 2 = nI lo') (h5 : sm' ≤ 32 ∧ 1 ≤ dp' ∧ dp' ≤ 12 ∧ 1 ≤ lo' ∧ lo' ≤ 8) : XS (σ.1, va_up σ.2.1 12 (some (3, g')), σ.2.2) T sl im en nu ev dr sm' dp' lo' tn st sp := by
  obtain ⟨⟨hC, hT, ⟨fi, fr, w1, w2, w3, w4, w5, w6⟩, ⟨g, r1, -⟩, ⟨P, hP⟩, ⟨L, hL⟩, hM, hnd, hsp⟩, hO, h3, h4, -⟩ := h
  have hf : XF [] [12] [] σ (σ.1, va_up σ.2.1 12 (some (3, g')), σ.2.2) := XF_g (XF_rf _ _ _ _) (Or.inl ⟨by simp, by rw [r1]; exact fun z => by cases z⟩)
  refine ⟨⟨XC_f hC hf (fun k hk => by simp at hk) (fun k hk => by simp at hk; omega), hT, ⟨fi, fr, w1, w2, w3, w4, w5, SPC_f sp _ w6 (fun k o hk ho => ho)⟩, ⟨g', by simp only [va_up_self], r2, r3, r4⟩, ⟨P, PCS_f hP hf (by omega) (by simp) (by simp)⟩, ⟨L, TXT_f hL hf (by simp) (by simp)⟩, hM, hnd, hsp⟩, ?_, h3, h4, h5⟩
  obtain ⟨P, hP⟩ := hO.2.2.2.2.2.2.1
  obtain ⟨A, hA⟩ := hO.2.2.2.2.2.2.2.2.1
  obtain ⟨B, hB⟩ := hO.2.2.2.2.2.2.2.2.2.1
  exact XO_s hO (ZF_x hf) (by simp) (by simp) (by simp) ⟨P, PCS_f hP hf (by omega) (by simp) (by simp)⟩ ⟨A, TXT_f hA hf (by simp) (by simp)⟩ ⟨B, TXT_f hB hf (by simp) (by simp)⟩
theorem p_rule (h : XS σ T sl im en nu ev dr sm dp lo tn st sp) (w n : Int32) : P_X6_rule [.inr (some 0), .inl w, .inl n] σ 0 0 (mI (fun r σ' => ∃ sm' dp' lo', A_rule sm dp lo w n r sm' dp' lo' ∧ XS σ' T sl im en nu ev dr sm' dp' lo' tn st sp)) := by
  obtain ⟨⟨fi, fr, a1, a2, a3, a4, a5, a6, a7, a8, a9, a10, a11, a12⟩, -, -, -, -, -, -, -, -, -, ⟨g, gh, s1, s2, s3, s4, s5, s6, s7, s8⟩⟩ := id h.2.1
  obtain ⟨-, -, ⟨wi, we, y1, y2, -⟩, ⟨rg, r1, r2, r3, r4⟩, -⟩ := id h.1
  obtain ⟨b1, b2, b3, b4, b5⟩ := id h.2.2.2.2
  refine e_X6_rule w n 0 σ 0 0 _ _ a1 rfl ?_
  simp only [r_X6_rule_0, r_X6_rule_1]
  refine ⟨_, p_isRule σ w, ?_⟩
  rintro r s' ⟨hs, hr⟩
  subst hs
  subst hr
  have hno : ¬ ((w = nI 0 ∧ nI 0 ≤ n ∧ n ≤ nI 32) ∨ (w = nI 1 ∧ nI 1 ≤ n ∧ n ≤ nI 12) ∨ (w = nI 2 ∧ nI 1 ≤ n ∧ n ≤ nI 8)) → ∃ sm' dp' lo', A_rule sm dp lo w n (Int32.ofInt (-2)) sm' dp' lo' ∧ XS s' T sl im en nu ev dr sm' dp' lo' tn st sp := fun z => ⟨sm, dp, lo, Or.inr (Or.inr (Or.inr ⟨z, rfl, rfl, rfl, rfl⟩)), h⟩
  by_cases hw : ¬ (nI 0 ≤ w ∧ w ≤ nI 2)
  · rw [if_neg hw]
    simp only [r_X6_rule_4, r_X6_rule_25, r_X6_rule_27, mI_e]
    refine ⟨fun _ => hno (fun z => ?_), fun z => absurd trivial z⟩
    rcases z with ⟨z, -⟩ | ⟨z, -⟩ | ⟨z, -⟩
    · exact hw (by rw [z]; decide)
    · exact hw (by rw [z]; decide)
    · exact hw (by rw [z]; decide)
  have hw := Classical.not_not.mp hw
  rw [if_pos hw]
  obtain ⟨k, rfl, -, hk⟩ := nI_rng (by omega) hw (by omega)
  simp only [r_X6_rule_4, r_X6_rule_7, r_X6_rule_8, r_X6_rule_11, r_X6_rule_12, r_X6_rule_13, r_X6_rule_16, r_X6_rule_17, r_X6_rule_20, r_X6_rule_21, r_X6_rule_22, r_X6_rule_25, r_X6_rule_27, r_X6_rule_28, r_X6_rule_29, r_X6_rule_32, r_X6_rule_35, r_X6_rule_36, r_X6_rule_37, r_X6_rule_38, r_X6_rule_39, r_X6_rule_42, r_X6_rule_45, r_X6_rule_46, r_X6_rule_47, r_X6_rule_48, r_X6_rule_49, xg s1, xg s5, xo a1, a8, true_and, xo y1, y2, xg r1, nI_clamp (show k < 2 ^ 31 by omega), vp_in_i (show k < 2 ^ 31 by omega), show k < 3 by omega, mI_e]
  refine ⟨fun z => absurd z (by decide), fun _ => ?_⟩
  have hk3 : k = 0 ∨ k = 1 ∨ k = 2 := by omega
  rcases hk3 with rfl | rfl | rfl
  · rw [s2, s6]
    refine ⟨fun hlt => hno (fun z => ?_), fun hge => ⟨fun hle => ?_, fun hgt => hno (fun z => ?_)⟩⟩
    · rcases z with ⟨-, z, -⟩ | ⟨z, -⟩ | ⟨z, -⟩
      · exact (Int32_lt_not _ _).mp hlt z
      · exact absurd z (by decide)
      · exact absurd z (by decide)
    · obtain ⟨j, rfl, -, hj⟩ := nI_rng (by omega) ⟨Classical.not_not.mp (fun z => hge ((Int32_lt_not _ _).mpr z)), hle⟩ (by omega)
      refine ⟨by decide, by decide, j, dp, lo, Or.inl ⟨j, rfl, rfl, hj, r2, rfl, rfl, rfl⟩, ?_⟩
      refine XS_rule h pk_us ?_ ?_ ⟨hj, b2, b3, b4, b5⟩
      · rw [pk_un (by decide)]; exact r3
      · rw [pk_un (by decide)]; exact r4
    · rcases z with ⟨-, -, z⟩ | ⟨z, -⟩ | ⟨z, -⟩
      · exact hgt z
      · exact absurd z (by decide)
      · exact absurd z (by decide)
  · rw [s3, s7]
    refine ⟨fun hlt => hno (fun z => ?_), fun hge => ⟨fun hle => ?_, fun hgt => hno (fun z => ?_)⟩⟩
    · rcases z with ⟨z, -⟩ | ⟨-, z, -⟩ | ⟨z, -⟩
      · exact absurd z (by decide)
      · exact (Int32_lt_not _ _).mp hlt z
      · exact absurd z (by decide)
    · obtain ⟨j, rfl, hj0, hj⟩ := nI_rng (by omega) ⟨Classical.not_not.mp (fun z => hge ((Int32_lt_not _ _).mpr z)), hle⟩ (by omega)
      refine ⟨by decide, by decide, sm, j, lo, Or.inr (Or.inl ⟨j, rfl, rfl, hj0, hj, r3, rfl, rfl, rfl⟩), ?_⟩
      refine XS_rule h ?_ pk_us ?_ ⟨b1, hj0, hj, b4, b5⟩
      · rw [pk_un (by decide)]; exact r2
      · rw [pk_un (by decide)]; exact r4
    · rcases z with ⟨z, -⟩ | ⟨-, -, z⟩ | ⟨z, -⟩
      · exact absurd z (by decide)
      · exact hgt z
      · exact absurd z (by decide)
  · rw [s4, s8]
    refine ⟨fun hlt => hno (fun z => ?_), fun hge => ⟨fun hle => ?_, fun hgt => hno (fun z => ?_)⟩⟩
    · rcases z with ⟨z, -⟩ | ⟨z, -⟩ | ⟨-, z, -⟩
      · exact absurd z (by decide)
      · exact absurd z (by decide)
      · exact (Int32_lt_not _ _).mp hlt z
    · obtain ⟨j, rfl, hj0, hj⟩ := nI_rng (by omega) ⟨Classical.not_not.mp (fun z => hge ((Int32_lt_not _ _).mpr z)), hle⟩ (by omega)
      refine ⟨by decide, by decide, sm, dp, j, Or.inr (Or.inr (Or.inl ⟨j, rfl, rfl, hj0, hj, r4, rfl, rfl, rfl⟩)), ?_⟩
      refine XS_rule h ?_ ?_ pk_us ⟨b1, b2, b3, hj0, hj⟩
      · rw [pk_un (by decide)]; exact r2
      · rw [pk_un (by decide)]; exact r3
    · rcases z with ⟨z, -⟩ | ⟨z, -⟩ | ⟨-, -, z⟩
      · exact absurd z (by decide)
      · exact absurd z (by decide)
      · exact hgt z
theorem XO_dr {σ' : xS} {dr' : List Int32} {kg : List Nat} (h : XO σ sl im en nu ev dr st) (hf : XF [4] kg [] σ σ') (hk : ∀ k ∈ kg, k = 5) (hL : TXT σ' 4 dr') : XO σ' sl im en nu ev dr' st := by
  obtain ⟨a1, a2, a3, a4, a5, a6, ⟨P, a7⟩, a8, ⟨L, a9⟩, ⟨M, a10⟩, a11⟩ := h
  have hz := ZF_x hf
  exact ⟨SH_z a1 hz (by simp), IR_z a2 hz (by omega) (by simp), IR_z a3 hz (by omega) (by simp), IR_z a4 hz (by omega) (by simp), hL, TB_z a6 hz (by simp) (fun z => by have := hk _ z; omega) (by simp), ⟨P, PCS_f a7 hf (by omega) (by simp) (by simp)⟩, WK_z a8 hz (by simp), ⟨L, TXT_f a9 hf (by simp) (fun z => by have := hk _ z; omega)⟩, ⟨M, TXT_f a10 hf (by simp) (fun z => by have := hk _ z; omega)⟩, STc_z a11 hz (fun z => by have := hk _ z; omega) (fun z => by have := hk _ z; omega)⟩
theorem XS_dr (h : XS σ T sl im en nu ev dr sm dp lo tn st sp) {σ' : xS} {dr' : List Int32} {kg : List Nat} (hf : XF [4] kg [] σ σ') (hk : ∀ k ∈ kg, k = 5) (hL : TXT σ' 4 dr') (h4 : dr'.length ≤ 40 ∧ ∀ x ∈ dr', (0 : Int32) < x) : XS σ' T sl im en nu ev dr' sm dp lo tn st sp :=
  ⟨WS_k h.1 hf (by simp) (fun k hk' => by have := hk k hk'; omega) (by simp), XO_dr h.2.1 hf hk hL, h.2.2.1, h4, h.2.2.2.2⟩
theorem p_say (h : XS σ T sl im en nu ev dr sm dp lo tn st sp) (x : Int32) : P_X6_say [.inr (some 0), .inl x] σ 0 0 (mI (fun r σ' => ∃ dr', A_say dr x r dr' ∧ XS σ' T sl im en nu ev dr' sm dp lo tn st sp)) := by
  obtain ⟨⟨fi, fr, a1, a2, a3, a4, a5, -⟩, -, -, -, hd, -⟩ := id h.2.1
  obtain ⟨di, de, dg, d1, d2, d3, -⟩ := id hd
  obtain ⟨l40, hpos⟩ := h.2.2.2.1
  refine e_X6_say x 0 σ 0 0 _ _ a1 rfl ?_
  simp only [r_X6_say_0, r_X6_say_1, r_X6_say_2, r_X6_say_5, r_X6_say_6, r_X6_say_9, r_X6_say_12, r_X6_say_14, r_X6_say_15, r_X6_say_16, r_X6_say_19, r_X6_say_22, r_X6_say_24, r_X6_say_27, r_X6_say_29, r_X6_say_30, r_X6_say_31, r_X6_say_34, r_X6_say_35, r_X6_say_39, r_X6_say_42, r_X6_say_45, xo a1, a5, true_and, xo d1, d3, nI_ltI (show dr.length < 2 ^ 31 by omega) (show 40 < 2 ^ 31 by omega), mI_e]
  have hno : ¬ (nI 1 ≤ x ∧ x ≤ nI 9999) → ∃ dr', A_say dr x (Int32.ofInt (-2)) dr' ∧ XS σ T sl im en nu ev dr' sm dp lo tn st sp := fun z => ⟨dr, ⟨fun _ => ⟨rfl, rfl⟩, fun q => absurd q z⟩, h⟩
  refine ⟨fun hlt => hno (fun z => (Int32_lt_not _ _).mp hlt z.1), fun hge => ⟨fun hle => ?_, fun hgt => hno (fun z => hgt z.2)⟩⟩
  have hx : nI 1 ≤ x ∧ x ≤ nI 9999 := ⟨Classical.not_not.mp (fun z => hge ((Int32_lt_not _ _).mpr z)), hle⟩
  refine ⟨fun hl => ?_, fun hl => ⟨dr, ⟨fun z => absurd hx z, fun _ => ⟨fun _ => ⟨rfl, rfl⟩, fun z => by omega⟩⟩, h⟩⟩
  refine ⟨_, q_addSign (t := 4) (by omega) hd (by omega) x, ?_⟩
  rintro s1 ⟨f1, t1⟩
  have hS : XS s1 T sl im en nu ev (dr ++ [x]) sm dp lo tn st sp := XS_dr h f1 (by simp) t1 ⟨by rw [List.length_append, List.length_singleton]; omega, fun y hy => by
    rcases List.mem_append.mp hy with hy | hy
    · exact hpos y hy
    · rw [List.mem_singleton.mp hy, Int32_lt_not]
      intro z
      have a := (w_ge (n := 1) (by omega)).mp hx.1
      have b := Int32.le_iff_toInt_le.mp z
      have c : (0 : Int32).toInt = 0 := by decide
      omega⟩
  obtain ⟨⟨fi', fr', b1, -, -, -, b5, -⟩, -⟩ := id hS.2.1
  obtain ⟨di', de', dg', e1, e2, e3, -⟩ := id t1
  rw [r_X6_say_38]
  simp only [r_X6_say_39, r_X6_say_42, r_X6_say_45, xo b1, b5, true_and, xo e1, e3, mI_e]
  exact ⟨dr ++ [x], ⟨fun z => absurd hx z, fun _ => ⟨fun z => by omega, fun _ => ⟨by rw [List.length_append, List.length_singleton], rfl⟩⟩⟩, hS⟩
theorem p_copy (h : XS σ T sl im en nu ev dr sm dp lo tn st sp) (t f : Int32) : P_X6_copy [.inr (some 0), .inl t, .inl f] σ 0 0 (mI (fun r σ' => ∃ sl', A_copy T sl t f r sl' ∧ XS σ' T sl' im en nu ev dr sm dp lo tn st sp)) := by
  obtain ⟨⟨fi, fr, a1, a2, -⟩, -⟩ := id h.2.1
  refine e_X6_copy t f 0 σ 0 0 _ _ a1 rfl ?_
  simp only [r_X6_copy_0, r_X6_copy_1, r_X6_copy_2]
  refine ⟨_, XO_cellOf h.2.1 f, ?_⟩
  rintro r s' ⟨hs, hr⟩
  subst hs
  subst hr
  simp only [r_X6_copy_5, r_X6_copy_6, r_X6_copy_7]
  refine ⟨_, p_isSlot s' t, ?_⟩
  rintro r s2 ⟨hs, hr⟩
  subst hs
  subst hr
  rcases ix_8 (XS_sl8 h) t with ⟨h1, h2⟩ | ⟨j, x, rfl, hj, hx, h1, h2⟩
  · rw [if_neg h2]
    simp only [r_X6_copy_10, r_X6_copy_17, r_X6_copy_18, mI_e]
    exact ⟨fun _ => ⟨sl, ⟨fun _ => ⟨rfl, rfl⟩, fun c z => absurd h1 z⟩, h⟩, fun z => absurd trivial z⟩
  · rw [if_pos h2]
    cases hc : ix sl f with
    | none =>
      simp only [r_X6_copy_10, r_X6_copy_13, r_X6_copy_14, r_X6_copy_17, r_X6_copy_18, sNS, true_and, mI_e]
      exact ⟨fun z => absurd z (by decide), fun _ _ => ⟨sl, ⟨fun _ => ⟨rfl, rfl⟩, fun c _ z => by rw [hc] at z; cases z⟩, h⟩⟩
    | some c =>
      obtain ⟨w1, w2, w3, w4, -⟩ := XS_c h (XS_ix h hc)
      simp only [r_X6_copy_10, r_X6_copy_13, r_X6_copy_14, r_X6_copy_19, r_X6_copy_20, r_X6_copy_21, r_X6_copy_22, sN, sS, and_true]
      refine ⟨fun z => absurd z (by decide), fun _ => ⟨_, q_hold h hj w1, ?_⟩⟩
      rintro r s3 ⟨rfl, hS⟩
      rw [r_X6_copy_25, mI_e]
      refine ⟨sl.set j c, ⟨fun z => ?_, fun c' _ z => ?_⟩, hS⟩
      · rw [h1, hc] at z; rcases z with z | z <;> cases z
      · rw [hc] at z; cases z
        exact ⟨by rw [w4], by rw [nI_clamp (by omega)]⟩
theorem q_imageRow {k : Nat} (hk : k < 2) {m : Nat} (h : SH σ m) : P_X6_imageRow [.inr (some 0), .inl (nI k)] σ 0 0 (mR (fun r σ' => σ' = σ ∧ r = some (2 + k))) := by
  obtain ⟨fi, fr, a1, a2, a3, a4, -⟩ := h
  refine e_X6_imageRow (nI k) 0 σ 0 0 _ _ a1 rfl ?_
  simp only [r_X6_imageRow_0, r_X6_imageRow_1, r_X6_imageRow_4, r_X6_imageRow_5, r_X6_imageRow_8, r_X6_imageRow_11, r_X6_imageRow_12, r_X6_imageRow_15, xo a1, a3, a4, true_and, mR_e, nI_z (show k < 2 ^ 31 by omega)]
  refine ⟨fun hz => ?_, fun hz => ?_⟩
  · have : k = 1 := by omega
    rw [this]
  · have : k = 0 := Classical.not_not.mp hz
    rw [this]
theorem q_moveCells {a b : Nat} (hb : b < 22) (hab : a ≠ b) {l : List Nat} {q : Option (List Nat)} (h1 : IR σ a (some l)) (h2 : IR σ b q) (hl : ∀ x ∈ l, ∃ o, σ.1 x = some o ∧ o.1 = 0) : P_X6_moveCells [.inr (some a), .inr (some b)] σ 0 0 (mN (fun σ' => XF [] [] [b] σ σ' ∧ IR σ' b (some l))) := by
  obtain ⟨g, a1, a2, a3⟩ := h1
  obtain ⟨a3, a4⟩ := a3 l rfl
  obtain ⟨g0, b1, b2, -⟩ := h2
  refine e_X6_moveCells (some a) (some b) σ 0 0 _ ?_
  generalize hret : (mN (fun σ' => XF [] [] [b] σ σ' ∧ IR σ' b (some l))) = ret
  have key : ∀ y : Nat × (Nat → Option Nat), (y.1 ≤ 8 ∧ AP y.2 ((l.take y.1).map some)) → W_X6_moveCells ret (2, [some (.inr (some a)), some (.inr (some b)), some (.inl (nI y.1))], [], (σ.1, σ.2.1, va_up σ.2.2 b (some (8, y.2))), 0, 0) := by
    refine mm_loop _ _ (fun y => 8 - y.1) ?_
    rintro ⟨i, f⟩ ⟨j0, j1⟩ ih
    dsimp only at j0 j1 ⊢
    have ea : (σ.1, σ.2.1, va_up σ.2.2 b (some (8, f))).2.2 a = some (8, g) := by
      show va_up σ.2.2 b _ a = _
      rw [va_up_ne _ _ hab]; exact a1
    have eb : (σ.1, σ.2.1, va_up σ.2.2 b (some (8, f))).2.2 b = some (8, f) := va_up_self _ _ _
    have la : x_len (σ.1, σ.2.1, va_up σ.2.2 b (some (8, f))) a = some 8 := x_lenR (σ := (σ.1, σ.2.1, va_up σ.2.2 b (some (8, f)))) a2 ea
    have lb : x_len (σ.1, σ.2.1, va_up σ.2.2 b (some (8, f))) b = some 8 := x_lenR (σ := (σ.1, σ.2.1, va_up σ.2.2 b (some (8, f)))) b2 eb
    rw [r_X6_moveCells_2]
    have za : ∀ {P : Nat × (Nat → Option Nat) → Prop}, (∃ c, va_up σ.2.2 b (some (8, f)) a = some c ∧ P c) = P (8, g) := fun {P} => xr (σ := (σ.1, σ.2.1, va_up σ.2.2 b (some (8, f)))) ea
    simp only [r_X6_moveCells_0, r_X6_moveCells_1, r_X6_moveCells_3, r_X6_moveCells_4, r_X6_moveCells_5, r_X6_moveCells_8, r_X6_moveCells_9, r_X6_moveCells_10, r_X6_moveCells_11, r_X6_moveCells_14, r_X6_moveCells_15, r_X6_moveCells_16, r_X6_moveCells_17, r_X6_moveCells_18, r_X6_moveCells_19, r_X6_moveCells_20, r_X6_moveCells_23, r_X6_moveCells_26, xl la, xl lb, za, xu, nI_leI (show 8 < 2 ^ 31 by omega) (show i < 2 ^ 31 by omega), nI_clamp (show i < 2 ^ 31 by omega), vp_in_i (show i < 2 ^ 31 by omega), nI_add, va_up_up]
    have fin : 8 ≤ i → ret none (σ.1, σ.2.1, va_up σ.2.2 b (some (8, f))) := fun hle => by
      have : i = 8 := by omega
      subst this
      rw [List.take_of_length_le (by omega)] at j1
      subst hret
      rw [mN_e]
      exact ⟨XF_r (XF_rf _ _ _ _) (Or.inl (by simp)), f, va_up_self _ _ _, b2, fun l' hl' => by cases hl'; exact ⟨j1, a4⟩⟩
    refine ⟨fin, fun hle => ⟨fin, fun _ => ⟨by omega, by omega, by omega, by omega, ?_⟩⟩⟩
    obtain ⟨x, hx⟩ : ∃ x, l[i]? = some x := ⟨_, List.getElem?_eq_getElem (show i < l.length by omega)⟩
    have ex : g i = some x := a3 i _ (by rw [List.getElem?_map, hx]; rfl)
    obtain ⟨o, o1, o2⟩ := hl x (List.mem_of_getElem? hx)
    rw [ex]
    simp only [sD, xo o1, o2, true_and]
    refine ih (i + 1, va_up f i (some x)) ⟨by dsimp only; omega, ?_⟩ (by dsimp only; omega)
    dsimp only
    rw [List.take_add_one, hx]
    have := AP_pushV j1 (some x)
    rw [List.length_map, List.length_take, Nat.min_eq_left (by omega)] at this
    simpa using this
  simp only [r_X6_moveCells_0, r_X6_moveCells_1, r_X6_moveCells_3, r_X6_moveCells_4, r_X6_moveCells_5, r_X6_moveCells_8, r_X6_moveCells_9, r_X6_moveCells_10, r_X6_moveCells_11, r_X6_moveCells_14, r_X6_moveCells_15, r_X6_moveCells_16, r_X6_moveCells_17, r_X6_moveCells_18, r_X6_moveCells_19, r_X6_moveCells_20, r_X6_moveCells_23, r_X6_moveCells_26]
  have h0 := key (0, g0) ⟨by dsimp only; omega, by simp only [List.take_zero, List.map_nil]; exact AP_nil _⟩
  have e : va_up σ.2.2 b (some (8, g0)) = σ.2.2 := by
    funext z
    by_cases hz : z = b
    · subst hz; rw [va_up_self, b1]
    · exact va_up_ne _ _ hz
  dsimp only at h0
  rw [e] at h0
  exact h0
theorem XO_im {σ' : xS} {im' : Nat → Option (List Nat)} (h : XO σ sl im en nu ev dr st) {kr : List Nat} (hf : XF [0] [] kr σ σ') (hk : ∀ k ∈ kr, k = 2 ∨ k = 3) (h0 : SH σ' (mk im')) (h2 : IR σ' 2 (im' 0)) (h3 : IR σ' 3 (im' 1)) : XO σ' sl im' en nu ev dr st := by
  obtain ⟨a1, a2, a3, a4, a5, a6, ⟨P, a7⟩, a8, ⟨L, a9⟩, ⟨M, a10⟩, a11⟩ := h
  have hz := ZF_x hf
  have n : ∀ x, x ≠ 2 → x ≠ 3 → x ∉ kr := fun x q1 q2 z => by rcases hk x z with z | z <;> omega
  exact ⟨h0, IR_z a2 hz (by omega) (n _ (by omega) (by omega)), h2, h3, TXT_f a5 hf (by simp) (by simp), TB_z a6 hz (by simp) (by simp) (n _ (by omega) (by omega)), ⟨P, PCS_f a7 hf (by omega) (by simp) (n _ (by omega) (by omega))⟩, WK_z a8 hz (by simp), ⟨L, TXT_f a9 hf (by simp) (by simp)⟩, ⟨M, TXT_f a10 hf (by simp) (by simp)⟩, STc_z a11 hz (by simp) (by simp)⟩
theorem mk_or (im : Nat → Option (List Nat)) (sl : List Nat) {j : Nat} (hj : j < 2) : nI (mk im) ||| (nI 1 <<< (nI j &&& 31)) = nI (mk (fun i => if i = j then some sl else im i)) := by
  have k0 : ∀ a b : Bool, nI ((if a = true then 1 else 0) + (if b = true then 2 else 0)) ||| (nI 1 <<< (nI 0 &&& 31)) = nI (1 + (if b = true then 2 else 0)) := by decide
  have k1 : ∀ a b : Bool, nI ((if a = true then 1 else 0) + (if b = true then 2 else 0)) ||| (nI 1 <<< (nI 1 &&& 31)) = nI ((if a = true then 1 else 0) + 2) := by decide
  have hj2 : j = 0 ∨ j = 1 := by omega
  rcases hj2 with rfl | rfl
  · have e : mk (fun i => if i = 0 then some sl else im i) = 1 + (if (im 1).isSome = true then 2 else 0) := by simp [mk]
    rw [e]
    exact k0 (im 0).isSome (im 1).isSome
  · have e : mk (fun i => if i = 1 then some sl else im i) = (if (im 0).isSome = true then 1 else 0) + 2 := by simp [mk]
    rw [e]
    exact k1 (im 0).isSome (im 1).isSome
theorem mk_and (im : Nat → Option (List Nat)) {j : Nat} (hj : j < 2) : (nI (mk im) &&& (nI 1 <<< (nI j &&& 31)) = 0) ↔ im j = none := by
  have hj2 : j = 0 ∨ j = 1 := by omega
  rcases hj2 with rfl | rfl
  · unfold mk
    cases im 0 <;> cases im 1 <;> simp <;> decide
  · unfold mk
    cases im 0 <;> cases im 1 <;> simp <;> decide
theorem p_image (h : XS σ T sl im en nu ev dr sm dp lo tn st sp) (k : Int32) : P_X6_image [.inr (some 0), .inl k] σ 0 0 (mI (fun r σ' => ∃ im', A_image sl im k r im' ∧ XS σ' T sl im' en nu ev dr sm dp lo tn st sp)) := by
  obtain ⟨⟨fi, fr, a1, a2, a3, a4, a5, a6, a7, a8, a9, a10, a11, a12⟩, hI1, hI2, hI3, -⟩ := id h.2.1
  refine e_X6_image k 0 σ 0 0 _ _ a1 rfl ?_
  simp only [r_X6_image_0, r_X6_image_1]
  refine ⟨_, p_isImage σ k, ?_⟩
  rintro r s' ⟨hs, hr⟩
  subst hs
  subst hr
  by_cases hk : ¬ (nI 0 ≤ k ∧ k ≤ nI 1)
  · rw [if_neg hk]
    simp only [r_X6_image_4, r_X6_image_7, r_X6_image_9, mI_e]
    refine ⟨fun z => absurd trivial z, fun _ => ⟨im, ⟨fun _ => ⟨rfl, rfl⟩, fun j hj z => absurd ?_ hk⟩, h⟩⟩
    rw [z]; exact nI_rng' (by omega) (by omega) (by omega)
  have hk := Classical.not_not.mp hk
  rw [if_pos hk]
  obtain ⟨j, rfl, -, hj⟩ := nI_rng (by omega) hk (by omega)
  simp only [r_X6_image_4, r_X6_image_10, r_X6_image_11, r_X6_image_14, r_X6_image_15, r_X6_image_16, xo a1, a2, true_and]
  refine ⟨fun _ => ?_, fun z => absurd (by decide) z⟩
  refine ⟨_, q_imageRow (show j < 2 by omega) h.2.1.1, ?_⟩
  rintro r s2 ⟨hs, hr⟩
  subst hs
  subst hr
  rw [r_X6_image_19]
  have hcells : ∀ x ∈ sl, ∃ o, s2.1 x = some o ∧ o.1 = 0 := fun x hx => by
    obtain ⟨-, -, -, -, -, -, o, o1, o2, -⟩ := XS_c h (c := x) (by simp [rts, hx])
    exact ⟨o, o1, o2⟩
  have hIj : IR s2 (2 + j) (im j) := by
    have : j = 0 ∨ j = 1 := by omega
    rcases this with rfl | rfl
    · exact hI2
    · exact hI3
  refine ⟨_, q_moveCells (by omega) (by omega) hI1 hIj hcells, ?_⟩
  rintro s3 ⟨f3, i3⟩
  have b1 : s3.1 0 = some (6, fi, fr) := f3.1 0 _ (by simp) a1
  rw [r_X6_image_22]
  simp only [r_X6_image_23, r_X6_image_24, r_X6_image_27, r_X6_image_28, r_X6_image_29, r_X6_image_30, r_X6_image_31, r_X6_image_34, r_X6_image_35, xo b1, true_and, a12, mk_or im sl (show j < 2 by omega), mI_e]
  have f4 : XF [0] [] [2 + j] s2 (va_up s3.1 0 (some (6, upd fi 3 (nI (mk (fun i => if i = j then some sl else im i))), fr)), s3.2) := XF_o (XF_w f3 (by simp) (by simp) (by simp)) (Or.inl (by simp))
  refine ⟨fun i => if i = j then some sl else im i, ⟨fun z => absurd hk z, fun j' hj' z => ?_⟩, WS_k h.1 f4 (by simp) (by simp) (by simp; omega), XO_im h.2.1 f4 (by simp; omega) ⟨upd fi 3 (nI (mk (fun i => if i = j then some sl else im i))), fr, by simp only [va_up_self], a2, a3, a4, a5, a6, a7, a8, a9, a10, a11, pk_us⟩ ?_ ?_, fun r hr => ?_, h.2.2.2⟩
  · rw [nI_eq (by omega) (by omega)] at z
    subst z
    exact ⟨rfl, rfl⟩
  · have : j = 0 ∨ j = 1 := by omega
    rcases this with rfl | rfl
    · obtain ⟨g, q1, q2, q3⟩ := i3
      exact ⟨g, q1, q2, fun l hl => q3 l (by simpa using hl)⟩
    · obtain ⟨g, q1, q2, q3⟩ := IR_z hI2 (ZF_x f3) (by omega) (by simp)
      exact ⟨g, q1, q2, fun l hl => q3 l (by simpa using hl)⟩
  · have : j = 0 ∨ j = 1 := by omega
    rcases this with rfl | rfl
    · obtain ⟨g, q1, q2, q3⟩ := IR_z hI3 (ZF_x f3) (by omega) (by simp)
      exact ⟨g, q1, q2, fun l hl => q3 l (by simpa using hl)⟩
    · obtain ⟨g, q1, q2, q3⟩ := i3
      exact ⟨g, q1, q2, fun l hl => q3 l (by simpa using hl)⟩
  · refine h.2.2.1 r ?_
    have : j = 0 ∨ j = 1 := by omega
    rcases this with rfl | rfl
    · have hr : r ∈ sl ++ (sl ++ ((im 1).getD [] ++ en)) := hr
      simp only [rts, List.mem_append] at hr ⊢
      rcases hr with hr | hr | hr | hr
      · exact Or.inl hr
      · exact Or.inl hr
      · exact Or.inr (Or.inr (Or.inl hr))
      · exact Or.inr (Or.inr (Or.inr hr))
    · have hr : r ∈ sl ++ ((im 0).getD [] ++ (sl ++ en)) := hr
      simp only [rts, List.mem_append] at hr ⊢
      rcases hr with hr | hr | hr | hr
      · exact Or.inl hr
      · exact Or.inr (Or.inl hr)
      · exact Or.inl hr
      · exact Or.inr (Or.inr (Or.inr hr))
theorem p_restore (h : XS σ T sl im en nu ev dr sm dp lo tn st sp) (k : Int32) : P_X6_restore [.inr (some 0), .inl k] σ 0 0 (mI (fun r σ' => ∃ sl', A_restore sl im k r sl' ∧ XS σ' T sl' im en nu ev dr sm dp lo tn st sp)) := by
  obtain ⟨⟨fi, fr, a1, a2, a3, a4, a5, a6, a7, a8, a9, a10, a11, a12⟩, hI1, hI2, hI3, -⟩ := id h.2.1
  refine e_X6_restore k 0 σ 0 0 _ _ a1 rfl ?_
  simp only [r_X6_restore_0, r_X6_restore_1]
  refine ⟨_, p_isImage σ k, ?_⟩
  rintro r s' ⟨hs, hr⟩
  subst hs
  subst hr
  by_cases hk : ¬ (nI 0 ≤ k ∧ k ≤ nI 1)
  · rw [if_neg hk]
    simp only [r_X6_restore_4, r_X6_restore_7, r_X6_restore_9, mI_e]
    refine ⟨fun z => absurd trivial z, fun _ => ⟨sl, ⟨fun _ => ⟨rfl, rfl⟩, fun j hj z => absurd ?_ hk⟩, h⟩⟩
    rw [z]; exact nI_rng' (by omega) (by omega) (by omega)
  have hk := Classical.not_not.mp hk
  rw [if_pos hk]
  obtain ⟨j, rfl, -, hj⟩ := nI_rng (by omega) hk (by omega)
  have hIj : IR s' (2 + j) (im j) := by
    have : j = 0 ∨ j = 1 := by omega
    rcases this with rfl | rfl
    · exact hI2
    · exact hI3
  simp only [r_X6_restore_4, r_X6_restore_10, r_X6_restore_11, r_X6_restore_14, r_X6_restore_15, r_X6_restore_16, r_X6_restore_17, r_X6_restore_18, r_X6_restore_21, r_X6_restore_23, xo a1, a12, true_and, mk_and im (show j < 2 by omega), mI_e]
  refine ⟨fun _ => ⟨fun hne => ?_, fun he => ⟨sl, ⟨fun z => absurd hk z, fun j' hj' z => ?_⟩, h⟩⟩, fun z => absurd (by decide) z⟩
  · obtain ⟨l, hl⟩ := Option.ne_none_iff_exists'.mp hne
    rw [hl] at hIj
    rw [r_X6_restore_24]
    simp only [r_X6_restore_25, r_X6_restore_26]
    refine ⟨_, q_imageRow (show j < 2 by omega) h.2.1.1, ?_⟩
    rintro r s2 ⟨hs, hr⟩
    subst hs
    subst hr
    simp only [r_X6_restore_29, r_X6_restore_30, r_X6_restore_33, xo a1, a2, true_and]
    have hlr : ∀ x ∈ l, x ∈ rts sl im en := fun x hx => by
      have : j = 0 ∨ j = 1 := by omega
      rcases this with rfl | rfl
      · simp [rts, hl, hx]
      · simp [rts, hl, hx]
    have hcells : ∀ x ∈ l, ∃ o, s2.1 x = some o ∧ o.1 = 0 := fun x hx => by
      obtain ⟨-, -, -, -, -, -, o, o1, o2, -⟩ := XS_c h (hlr x hx)
      exact ⟨o, o1, o2⟩
    refine ⟨_, q_moveCells (by omega) (by omega) hIj hI1 hcells, ?_⟩
    rintro s3 ⟨f3, i3⟩
    rw [r_X6_restore_36, r_X6_restore_37, mI_e]
    refine ⟨l, ⟨fun z => absurd hk z, fun j' hj' z => ?_⟩, WS_k h.1 f3 (by simp) (by simp) (by simp), XO_slots h.2.1 f3 i3, fun r hr => ?_, h.2.2.2⟩
    · rw [nI_eq (by omega) (by omega)] at z
      subst z
      exact ⟨fun z => absurd z hne, fun l' hl' => by rw [hl] at hl'; cases hl'; exact ⟨rfl, rfl⟩⟩
    · unfold rts at hr
      rcases List.mem_append.mp hr with hr | hr
      · exact h.2.2.1 r (hlr r hr)
      · exact h.2.2.1 r (List.mem_append_right _ hr)
  · have he := Classical.not_not.mp he
    rw [nI_eq (by omega) (by omega)] at z
    subst z
    exact ⟨fun _ => ⟨rfl, rfl⟩, fun l hl => by rw [he] at hl; cases hl⟩
end
