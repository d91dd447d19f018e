/-! ===== the class: intern, sweep ===== -/
section
variable {σ : xS} {T : sT} {sl : List Nat} {im : Nat → Option (List Nat)} {en nu : List Nat} {ev : Nat} {dr : List Int32} {sm dp lo tn st : Nat} {sp : List Nat}
theorem XO_tb {σ' : xS} {en' nu' : List Nat} {ev' : Nat} (h : XO σ sl im en nu ev dr st) (hf : XF [6] [8] [7] σ σ') (h' : TB σ' en' nu' ev') : XO σ' sl im en' nu' ev' dr st := by
  obtain ⟨a1, a2, a3, a4, a5, a6, ⟨P, a7⟩, a8, ⟨L, a9⟩, ⟨M, a10⟩, a11⟩ := h
  have hz := ZF_x hf
  exact ⟨SH_z a1 hz (by simp), IR_z a2 hz (by omega) (by simp), IR_z a3 hz (by omega) (by simp), IR_z a4 hz (by omega) (by simp), TXT_f a5 hf (by simp) (by simp), h', ⟨P, PCS_f a7 hf (by omega) (by simp) (by simp)⟩, WK_z a8 hz (by simp), ⟨L, TXT_f a9 hf (by simp) (by simp)⟩, ⟨M, TXT_f a10 hf (by simp) (by simp)⟩, STc_z a11 hz (by simp) (by simp)⟩
theorem q_place {fi : Nat → Int32} {fr : Nat → Option Nat} {g : Nat → Option Nat} {hh : Nat → Int32} {k : Nat} (a1 : σ.1 6 = some (2, fi, fr)) (a2 : fr 0 = some 7) (a3 : fr 1 = some 8) (a4 : fi 2 = nI k) (hk : k < 24) (a6 : σ.2.1 7 = none) (a7 : σ.2.2 7 = some (24, g)) (a9 : σ.2.1 8 = some (24, hh)) {c : Nat} {o : xO} (o1 : σ.1 c = some o) (o2 : o.1 = 0) (n : Int32) :
    P_X2_place [.inr (some 6), .inr (some c), .inl n] σ 0 0 (mN (fun σ' => σ' = (va_up σ.1 6 (some (2, upd fi 2 (nI (k + 1)), fr)), va_up σ.2.1 8 (some (24, upd hh k n)), va_up σ.2.2 7 (some (24, va_up g k (some c)))))) := by
  refine e_X2_place n (some c) 6 σ 0 0 _ _ a1 rfl ?_
  simp only [r_X2_place_0, r_X2_place_1, r_X2_place_4, r_X2_place_7, r_X2_place_8, r_X2_place_11, r_X2_place_12, r_X2_place_15, r_X2_place_16, r_X2_place_19, r_X2_place_20, r_X2_place_23, r_X2_place_24, r_X2_place_27, r_X2_place_28, r_X2_place_29, r_X2_place_30, r_X2_place_33, r_X2_place_34, r_X2_place_37, r_X2_place_38, r_X2_place_39, r_X2_place_40, r_X2_place_41, r_X2_place_44, r_X2_place_45, r_X2_place_46, r_X2_place_49, xo a1, true_and, a2, a3, a4, xl (x_lenR a6 a7), xr a7, xg a9, sD, xo o1, o2, nI_clamp (show k < 2 ^ 31 by omega), vp_in_i (show k < 2 ^ 31 by omega), nI_leI (show 24 < 2 ^ 31 by omega) (show k < 2 ^ 31 by omega), nI_add, mN_e]
  refine ⟨fun z => absurd z (nI_pos (by omega)), fun _ => ⟨fun z => by omega, fun _ => ⟨by omega, by omega, hk, by omega, by omega, hk, trivial⟩⟩⟩
theorem q_enter (h : TB σ en nu ev) (hl : en.length < 24) {c : Nat} {o : xO} (o1 : σ.1 c = some o) (o2 : o.1 = 0) (hc : c ≠ 6) : P_X2_enter [.inr (some 6), .inr (some c)] σ 0 0 (mI (fun r σ' => r = nI ev ∧ XF [6] [8] [7] σ σ' ∧ TB σ' (en ++ [c]) (nu ++ [ev]) (ev + 1))) := by
  obtain ⟨fi, fr, g, hh, a1, a2, a3, a4, a5, a6, a7, a8, a9, a10, a11, a12⟩ := h
  refine e_X2_enter (some c) 6 σ 0 0 _ _ a1 rfl ?_
  simp only [r_X2_enter_0, r_X2_enter_1, r_X2_enter_4, r_X2_enter_5, r_X2_enter_6, r_X2_enter_7, r_X2_enter_10, r_X2_enter_11, r_X2_enter_12, r_X2_enter_15, r_X2_enter_16, r_X2_enter_17, r_X2_enter_18, r_X2_enter_21, r_X2_enter_22, xo a1, true_and, a5, nI_add]
  have b1 : (va_up σ.1 6 (some (2, upd fi 3 (nI (ev + 1)), fr)), σ.2).1 6 = some (2, upd fi 3 (nI (ev + 1)), fr) := by simp only [va_up_self]
  have oc : (va_up σ.1 6 (some (2, upd fi 3 (nI (ev + 1)), fr)), σ.2).1 c = some o := by
    show va_up σ.1 6 _ c = _
    rw [va_up_ne _ _ hc]; exact o1
  refine ⟨_, q_place (σ := (va_up σ.1 6 (some (2, upd fi 3 (nI (ev + 1)), fr)), σ.2)) b1 a2 a3 (k := en.length) (by rw [pk_un (by decide)]; exact a4) hl a6 a7 a9 oc o2 (nI ev), ?_⟩
  rintro s' rfl
  rw [mI_e]
  have f1 : XF [6] [8] [7] σ (va_up (va_up σ.1 6 (some (2, upd fi 3 (nI (ev + 1)), fr))) 6 (some (2, upd (upd fi 3 (nI (ev + 1))) 2 (nI (en.length + 1)), fr)), va_up σ.2.1 8 (some (24, upd hh en.length (nI ev))), va_up σ.2.2 7 (some (24, va_up g en.length (some c)))) := XF_o (XF_g (XF_r (XF_o (XF_rf _ _ _ _) (Or.inl (by simp))) (Or.inl (by simp))) (Or.inl ⟨by simp, by rw [a9]; exact fun z => by cases z⟩)) (Or.inl (by simp))
  refine ⟨rfl, f1, upd (upd fi 3 (nI (ev + 1))) 2 (nI (en.length + 1)), fr, va_up g en.length (some c), upd hh en.length (nI ev), by simp only [va_up_self], a2, a3, ?_, ?_, ?_, by simp only [va_up_self], ?_, by simp only [va_up_self], ?_, ?_, ?_⟩
  · rw [pk_us, List.length_append, List.length_singleton]
  · rw [pk_un (by decide), pk_us]
  · dsimp only; rw [va_up_ne _ _ (by decide)]; exact a6
  · have := AP_pushV a8 (some c)
    rw [List.length_map] at this
    rw [List.map_append]; exact this
  · have := AP_push a10 (nI ev)
    rw [List.length_map, a11] at this
    rw [List.map_append]; exact this
  · rw [List.length_append, List.length_append, a11]; rfl
  · rw [List.length_append, List.length_singleton]; omega
theorem q_isFull (h : TB σ en nu ev) : P_X2_isFull [.inr (some 6)] σ 0 0 (mI (fun r σ' => σ' = σ ∧ r = if en.length < 24 then 0 else 1)) := by
  obtain ⟨fi, fr, g, hh, a1, a2, a3, a4, a5, a6, a7, a8, a9, a10, a11, a12⟩ := h
  refine e_X2_isFull 6 σ 0 0 _ _ a1 rfl ?_
  simp only [r_X2_isFull_0, r_X2_isFull_1, r_X2_isFull_4, r_X2_isFull_6, r_X2_isFull_9, r_X2_isFull_10, r_X2_isFull_13, r_X2_isFull_14, xo a1, true_and, a4, nI_ltI (show en.length < 2 ^ 31 by omega) (show 24 < 2 ^ 31 by omega), mI_e]
  refine ⟨fun hl => ⟨Or.inl nI_0, ?_⟩, fun hl => ⟨Or.inr rfl, ?_⟩⟩
  · rw [if_pos hl, nI_0]
  · rw [if_neg hl]; rfl
theorem q_placeInTable (h : XS σ T sl im en nu ev dr sm dp lo tn st sp) {c : Nat} (hw : wf T 13 c) : P_X6_placeInTable [.inr (some 0), .inr (some c)] σ 0 0 (mI (fun r σ' => XS σ' T sl im en nu ev dr sm dp lo tn st sp ∧ ((∃ i, fe T (tx T 13 c) en = some i ∧ r = nI i) ∨ (fe T (tx T 13 c) en = none ∧ r = Int32.ofInt (-6))))) := by
  obtain ⟨⟨fi, fr, a1, a2, a3, a4, a5, a6, a7, a8, a9, a10, a11, a12⟩, -⟩ := id h.2.1
  have hl24 : en.length ≤ 24 := by
    obtain ⟨_, _, _, _, _, _, _, _, _, _, _, _, _, _, _, q2⟩ := h.2.1.2.2.2.2.2.1
    exact q2
  refine e_X6_placeInTable (some c) 0 σ 0 0 _ _ a1 rfl ?_
  generalize hret : (mI (fun r σ' => XS σ' T sl im en nu ev dr sm dp lo tn st sp ∧ ((∃ i, fe T (tx T 13 c) en = some i ∧ r = nI i) ∨ (fe T (tx T 13 c) en = none ∧ r = Int32.ofInt (-6))))) = ret
  have key : ∀ y : Nat × xS, (y.1 ≤ en.length ∧ XS y.2 T sl im en nu ev dr sm dp lo tn st sp ∧ TXT y.2 18 (tx T 13 c) ∧ ∀ j x, j < y.1 → en[j]? = some x → tx T 13 x ≠ tx T 13 c) → W_X6_placeInTable ret (10, [some (.inr (some 0)), some (.inr (some c)), some (.inl (nI y.1))], [], y.2, 0, 0) := by
    refine mm_loop _ _ (fun y => en.length - y.1) ?_
    rintro ⟨i, s1⟩ ⟨j0, j1, j2, j3⟩ ih
    dsimp only at j0 j1 j2 j3 ⊢
    obtain ⟨⟨zi, zr, b1, b2, b3, b4, b5, b6, b7, b8, b9, b10, b11, b12⟩, -, -, -, -, hTB, -, -, -, ⟨M, hM⟩, -⟩ := id j1.2.1
    obtain ⟨ti, te, tg, th, t1, t2, t3, t4, -⟩ := id hTB
    rw [r_X6_placeInTable_10]
    simp only [r_X6_placeInTable_11, r_X6_placeInTable_12, r_X6_placeInTable_15, r_X6_placeInTable_18, r_X6_placeInTable_21, r_X6_placeInTable_22, r_X6_placeInTable_25, r_X6_placeInTable_26, r_X6_placeInTable_29, r_X6_placeInTable_30, r_X6_placeInTable_58, r_X6_placeInTable_60, xo b1, b6, b11, true_and, xo t1, t4, nI_leI (show en.length < 2 ^ 31 by omega) (show i < 2 ^ 31 by omega)]
    refine ⟨fun hle => ?_, fun hle => ?_⟩
    · subst hret
      rw [mI_e]
      refine ⟨j1, Or.inr ⟨fe_none en (fun x hx => ?_), rfl⟩⟩
      obtain ⟨j, hj⟩ := List.mem_iff_getElem?.mp hx
      have := (List.getElem?_eq_some_iff.mp hj).1
      exact j3 j x (by omega) hj
    · refine ⟨_, q_cellAt hTB (nI i), ?_⟩
      rintro r s2 ⟨hs, hr⟩
      subst hs
      subst hr
      obtain ⟨x, hx⟩ : ∃ x, en[i]? = some x := ⟨_, List.getElem?_eq_getElem (show i < en.length by omega)⟩
      have hxR : x ∈ rts sl im en := by simp [rts, List.mem_of_getElem? hx]
      obtain ⟨x1, x2, -⟩ := XS_c j1 hxR
      rw [ix_nI (by omega), hx, r_X6_placeInTable_33]
      refine ⟨_, q_read (t := 20) (by omega) j1.1.1 x2 hM, ?_⟩
      rintro s3 ⟨f3, t3'⟩
      have hS3 := XS_20 j1 f3 t3'
      have t18 := TXT_f j2 f3 (by simp) (by simp)
      obtain ⟨⟨zi', zr', c1, -, -, -, -, -, -, -, -, c10, c11, -⟩, -⟩ := id hS3.2.1
      rw [r_X6_placeInTable_36]
      simp only [r_X6_placeInTable_37, r_X6_placeInTable_40, r_X6_placeInTable_41, r_X6_placeInTable_44, xo c1, c10, c11, true_and]
      refine ⟨_, q_isSameAs t18 t3', ?_⟩
      rintro r s4 ⟨hs, hr⟩
      subst hs
      subst hr
      simp only [r_X6_placeInTable_47, r_X6_placeInTable_50, r_X6_placeInTable_51, r_X6_placeInTable_52, r_X6_placeInTable_55, nI_add]
      by_cases he : tx T 13 c = tx T 13 x
      · rw [if_pos he]
        refine ⟨fun z => absurd z (by decide), fun _ => ?_⟩
        subst hret
        rw [mI_e]
        exact ⟨hS3, Or.inl ⟨i, fe_some en i x hx he.symm j3, rfl⟩⟩
      · rw [if_neg he]
        refine ⟨fun _ => ?_, fun z => absurd rfl z⟩
        refine ih (i + 1, s4) ⟨by dsimp only; omega, hS3, t18, fun j y hj hy => ?_⟩ (by dsimp only; omega)
        by_cases hji : j = i
        · subst hji; rw [hx] at hy; cases hy; exact fun z => he z.symm
        · exact j3 j y (by dsimp only at hj; omega) hy
  obtain ⟨L, hL⟩ := h.2.1.2.2.2.2.2.2.2.2.1
  simp only [r_X6_placeInTable_0, r_X6_placeInTable_1, r_X6_placeInTable_4, r_X6_placeInTable_5, xo a1, a10, true_and]
  refine ⟨_, q_read (t := 18) (by omega) h.1.1 hw hL, ?_⟩
  rintro s1 ⟨f1, t1⟩
  simp only [r_X6_placeInTable_8, r_X6_placeInTable_9]
  exact key (0, s1) ⟨by dsimp only; omega, XS_18 h f1 t1, t1, fun j x hj => by dsimp only at hj; omega⟩
theorem p_intern (h : XS σ T sl im en nu ev dr sm dp lo tn st sp) (s : Int32) : P_X6_intern [.inr (some 0), .inl s] σ 0 0 (mI (fun r σ' => ∃ sl' en' nu' ev', A_intern T sl en nu ev s r sl' en' nu' ev' ∧ XS σ' T sl' im en' nu' ev' dr sm dp lo tn st sp)) := by
  obtain ⟨⟨fi, fr, a1, a2, a3, a4, a5, a6, a7, a8, a9, a10, a11, a12⟩, -⟩ := id h.2.1
  obtain ⟨hl1, hl24⟩ : nu.length = en.length ∧ en.length ≤ 24 := by
    obtain ⟨_, _, _, _, _, _, _, _, _, _, _, _, _, _, q1, q2⟩ := h.2.1.2.2.2.2.2.1
    exact ⟨q1, q2⟩
  refine e_X6_intern s 0 σ 0 0 _ _ a1 rfl ?_
  simp only [r_X6_intern_0, r_X6_intern_1, r_X6_intern_2]
  refine ⟨_, XO_cellOf h.2.1 s, ?_⟩
  rintro r s' ⟨hs, hr⟩
  subst hs
  subst hr
  rcases ix_8 (XS_sl8 h) s with ⟨h1, h2⟩ | ⟨j, c, rfl, hj, hx, h1, h2⟩
  · rw [h1]
    simp only [r_X6_intern_5, r_X6_intern_6, r_X6_intern_7, r_X6_intern_10, r_X6_intern_11, sNS, true_and, mI_e]
    exact fun _ => ⟨sl, en, nu, ev, ⟨fun _ => ⟨rfl, rfl, rfl, rfl, rfl⟩, fun c z => by rw [h1] at z; cases z⟩, h⟩
  rw [h1]
  obtain ⟨w1, w2, w3, w4, w5, w6, -⟩ := XS_c h (XS_ix h h1)
  simp only [r_X6_intern_5, r_X6_intern_6, r_X6_intern_7, r_X6_intern_12, r_X6_intern_13, r_X6_intern_14, sN, sS, and_true]
  refine ⟨_, q_placeInTable h w2, ?_⟩
  rintro r s1 ⟨hS, hr⟩
  obtain ⟨⟨zi, zr, b1, b2, b3, b4, b5, b6, b7, b8, b9, b10, b11, b12⟩, -, -, -, -, hTB, -⟩ := id hS.2.1
  rcases hr with ⟨i, hi, rfl⟩ | ⟨hi, rfl⟩
  · obtain ⟨d, hd, hil⟩ : ∃ d, en[i]? = some d ∧ i < en.length := by
      have : ∀ (l : List Nat) (i : Nat), fe T (tx T 13 c) l = some i → i < l.length := by
        intro l
        induction l with
        | nil => intro i z; simp [fe] at z
        | cons a l ih =>
          intro i z
          simp only [fe] at z
          split at z
          · cases z; simp
          · cases hq : fe T (tx T 13 c) l with
            | none => rw [hq] at z; cases z
            | some q =>
              rw [hq] at z
              simp only [Option.map_some, Option.some.injEq] at z
              have := ih q hq
              simp only [List.length_cons]
              omega
      have hlt := this en i hi
      exact ⟨_, List.getElem?_eq_getElem hlt, hlt⟩
    obtain ⟨m, hm, -⟩ := zip_at hl1 hd
    have hdR : d ∈ rts sl im en := by simp [rts, List.mem_of_getElem? hd]
    obtain ⟨d1, -⟩ := XS_c hS hdR
    simp only [r_X6_intern_17, r_X6_intern_18, r_X6_intern_19]
    refine ⟨fun _ => ?_, fun z => absurd (nI_pos' (by omega)) z⟩
    simp only [r_X6_intern_46, r_X6_intern_47, r_X6_intern_48, r_X6_intern_49, r_X6_intern_52, r_X6_intern_53, xo b1, b6, true_and]
    refine ⟨_, q_cellAt hTB (nI i), ?_⟩
    rintro r s2 ⟨hs, hr⟩
    subst hs
    subst hr
    rw [ix_nI (by omega), hd, r_X6_intern_56]
    refine ⟨_, q_hold hS hj d1, ?_⟩
    rintro r s3 ⟨-, hS3⟩
    obtain ⟨⟨zi', zr', c1, -, -, -, -, c6, -⟩, -, -, -, -, hTB3, -⟩ := id hS3.2.1
    simp only [r_X6_intern_59, r_X6_intern_60, r_X6_intern_61, r_X6_intern_64, r_X6_intern_65, xo c1, c6, true_and]
    refine ⟨_, q_numberAt hTB3 hm, ?_⟩
    rintro r s4 ⟨hs, hr⟩
    subst hs
    subst hr
    rw [r_X6_intern_68, mI_e]
    refine ⟨sl.set j d, en, nu, ev, ⟨fun z => (by rw [h1] at z; cases z), fun c' z => ?_⟩, hS3⟩
    rw [h1] at z
    cases z
    refine ⟨fun i' hi' => ?_, fun z => by rw [hi] at z; cases z⟩
    rw [hi] at hi'
    cases hi'
    exact ⟨d, m, hd, hm, rfl, by rw [nI_clamp (by omega)], rfl, rfl, rfl⟩
  · simp only [r_X6_intern_17, r_X6_intern_18, r_X6_intern_19]
    refine ⟨fun z => absurd z (by decide), fun _ => ?_⟩
    simp only [r_X6_intern_22, r_X6_intern_23, r_X6_intern_26, xo b1, b6, true_and]
    refine ⟨_, q_isFull hTB, ?_⟩
    rintro r s2 ⟨hs, hr⟩
    subst hs
    subst hr
    by_cases hlt : en.length < 24
    · rw [if_pos hlt]
      simp only [r_X6_intern_29, r_X6_intern_37, r_X6_intern_38, r_X6_intern_41, r_X6_intern_42, xo b1, b6, true_and]
      obtain ⟨-, -, -, -, -, c24, o, o1, o2, -⟩ := XS_c hS (XS_ix hS h1)
      refine ⟨fun _ => ⟨_, q_enter hTB hlt o1 o2 (by omega), ?_⟩, fun z => absurd trivial z⟩
      rintro r s3 ⟨rfl, f3, t3⟩
      rw [r_X6_intern_45, mI_e]
      refine ⟨sl, en ++ [c], nu ++ [ev], ev + 1, ⟨fun z => (by rw [h1] at z; cases z), fun c' z => ?_⟩, WS_k hS.1 f3 (by simp) (by simp) (by simp), XO_tb hS.2.1 f3 t3, fun r hr => ?_, hS.2.2.2⟩
      · rw [h1] at z
        cases z
        exact ⟨fun i' hi' => (by rw [hi] at hi'; cases hi'), fun _ => ⟨fun z => by omega, fun _ => ⟨rfl, rfl, rfl, rfl, rfl⟩⟩⟩
      · simp only [rts, List.mem_append] at hr
        rcases hr with hr | hr | hr | hr | hr
        · exact hS.2.2.1 r (by simp [rts, hr])
        · exact hS.2.2.1 r (by simp [rts, hr])
        · exact hS.2.2.1 r (by simp [rts, hr])
        · exact hS.2.2.1 r (by simp [rts, hr])
        · rw [List.mem_singleton.mp hr]; exact w1
    · rw [if_neg hlt]
      simp only [r_X6_intern_29, r_X6_intern_32, r_X6_intern_34, r_X6_intern_45, mI_e]
      refine ⟨fun z => absurd z (by decide), fun _ => ⟨sl, en, nu, ev, ⟨fun z => (by rw [h1] at z; cases z), fun c' z => ?_⟩, hS⟩⟩
      rw [h1] at z
      cases z
      exact ⟨fun i' hi' => (by rw [hi] at hi'; cases hi'), fun _ => ⟨fun _ => ⟨rfl, rfl, rfl, rfl, rfl⟩, fun z => by omega⟩⟩
theorem q_drop (h : XS σ T sl im en nu ev dr sm dp lo tn st sp) {V : List Nat} {R : List Nat} (hR : ∀ x, x ∈ V ↔ x ∈ R) {σ0 : xS} {s0 : Nat} (hV : VI σ0 T s0 σ V) :
    P_X2_dropUnmarked [.inr (some 6), .inr (some 17)] σ 0 0 (mI (fun r σ' => ∃ en' nu', r = nI (en.length - en'.length) ∧ en' = ((en.zip nu).filter (fun q => decide (q.1 ∈ R))).map (fun q => q.1) ∧ nu' = ((en.zip nu).filter (fun q => decide (q.1 ∈ R))).map (fun q => q.2) ∧ XF [6] [8] [7] σ σ' ∧ TB σ' en' nu' ev)) := by
  obtain ⟨fi, fr, g, hh, a1, a2, a3, a4, a5, a6, a7, a8, a9, a10, a11, a12⟩ := h.2.1.2.2.2.2.2.1
  obtain ⟨v1, v2, v3, ⟨vi, vr, v4, v5, -⟩, v6⟩ := hV
  refine e_X2_dropUnmarked (some 17) 6 σ 0 0 _ _ a1 rfl ?_
  generalize hp : (fun q : Nat × Nat => decide (q.1 ∈ R)) = p
  generalize hret : (mI (fun r σ' => ∃ en' nu', r = nI (en.length - en'.length) ∧ en' = ((en.zip nu).filter p).map (fun q => q.1) ∧ nu' = ((en.zip nu).filter p).map (fun q => q.2) ∧ XF [6] [8] [7] σ σ' ∧ TB σ' en' nu' ev)) = ret
  have hzl : (en.zip nu).length = en.length := by rw [List.length_zip]; omega
  have key : ∀ y : Nat × (Nat → Int32) × (Nat → Option Nat) × (Nat → Int32), (y.1 ≤ en.length ∧ y.2.1 2 = nI (((en.zip nu).take y.1).filter p).length ∧ y.2.1 3 = nI ev ∧ AP y.2.2.1 ((((en.zip nu).take y.1).filter p).map (fun q => some q.1)) ∧ AP y.2.2.2 ((((en.zip nu).take y.1).filter p).map (fun q => nI q.2)) ∧ ∀ k, y.1 ≤ k → y.2.2.1 k = g k ∧ y.2.2.2 k = hh k) → W_X2_dropUnmarked ret (12, [some (.inr (some 6)), some (.inr (some 17)), some (.inl (nI en.length)), some (.inl (nI y.1))], [], (va_up σ.1 6 (some (2, y.2.1, fr)), va_up σ.2.1 8 (some (24, y.2.2.2)), va_up σ.2.2 7 (some (24, y.2.2.1))), 0, 0) := by
    refine mm_loop _ _ (fun y => en.length - y.1) ?_
    rintro ⟨i, zi, zg, zh⟩ ⟨j0, j1, j2, j3, j4, j5⟩ ih
    dsimp only at j0 j1 j2 j3 j4 j5 ⊢
    generalize hs1 : ((va_up σ.1 6 (some (2, zi, fr)), va_up σ.2.1 8 (some (24, zh)), va_up σ.2.2 7 (some (24, zg))) : xS) = s1
    have e1 : s1.1 6 = some (2, zi, fr) := by rw [← hs1]; simp only [va_up_self]
    have e6 : s1.2.1 7 = none := by rw [← hs1]; dsimp only; rw [va_up_ne _ _ (by decide)]; exact a6
    have e7 : s1.2.2 7 = some (24, zg) := by rw [← hs1]; simp only [va_up_self]
    have e9 : s1.2.1 8 = some (24, zh) := by rw [← hs1]; simp only [va_up_self]
    have eo : ∀ k, k ≠ 6 → s1.1 k = σ.1 k := fun k hk => by rw [← hs1]; exact va_up_ne _ _ hk
    have hle1 : (((en.zip nu).take i).filter p).length ≤ i := by
      have := List.length_filter_le p ((en.zip nu).take i)
      rw [List.length_take] at this
      omega
    have hX : XF [6] [8] [7] σ s1 := by
      rw [← hs1]
      exact XF_o (XF_g (XF_r (XF_rf _ _ _ _) (Or.inl (by simp))) (Or.inl ⟨by simp, by rw [a9]; exact fun z => by cases z⟩)) (Or.inl (by simp))
    rw [r_X2_dropUnmarked_12]
    simp only [r_X2_dropUnmarked_0, r_X2_dropUnmarked_1, r_X2_dropUnmarked_4, r_X2_dropUnmarked_5, r_X2_dropUnmarked_6, r_X2_dropUnmarked_7, r_X2_dropUnmarked_10, r_X2_dropUnmarked_11, r_X2_dropUnmarked_13, r_X2_dropUnmarked_14, r_X2_dropUnmarked_17, r_X2_dropUnmarked_18, r_X2_dropUnmarked_19, r_X2_dropUnmarked_22, r_X2_dropUnmarked_23, r_X2_dropUnmarked_26, r_X2_dropUnmarked_27, r_X2_dropUnmarked_28, r_X2_dropUnmarked_31, r_X2_dropUnmarked_32, r_X2_dropUnmarked_33, r_X2_dropUnmarked_40, r_X2_dropUnmarked_41, r_X2_dropUnmarked_44, r_X2_dropUnmarked_45, r_X2_dropUnmarked_46, r_X2_dropUnmarked_47, r_X2_dropUnmarked_50, r_X2_dropUnmarked_51, r_X2_dropUnmarked_52, r_X2_dropUnmarked_58, r_X2_dropUnmarked_61, r_X2_dropUnmarked_62, r_X2_dropUnmarked_63, r_X2_dropUnmarked_66, r_X2_dropUnmarked_67, nI_leI (show en.length < 2 ^ 31 by omega) (show i < 2 ^ 31 by omega), nI_leI (show 24 < 2 ^ 31 by omega) (show i < 2 ^ 31 by omega), xo e1, a2, true_and, xl (x_lenR e6 e7), xr e7, nI_clamp (show i < 2 ^ 31 by omega), vp_in_i (show i < 2 ^ 31 by omega), j1]
    have fin : en.length ≤ i → ret (some (.inl (nI en.length - nI (((en.zip nu).take i).filter p).length))) s1 := fun hle => by
      have hi : i = en.length := by omega
      subst hi
      rw [List.take_of_length_le (by omega)] at j1 j3 j4 hle1 ⊢
      subst hret
      rw [mI_e]
      refine ⟨_, _, ?_, rfl, rfl, hX, zi, fr, zg, zh, e1, a2, a3, by rw [List.length_map]; exact j1, j2, e6, e7, by rw [List.map_map]; exact j3, e9, by rw [List.map_map]; exact j4, by rw [List.length_map, List.length_map], by rw [List.length_map]; omega⟩
      rw [pk_sub hle1, List.length_map]
    refine ⟨fun hle => fin hle, fun hle => ⟨fun z => by omega, fun _ => ⟨by omega, ?_⟩⟩⟩
    obtain ⟨d, hd⟩ : ∃ d, en[i]? = some d := ⟨_, List.getElem?_eq_getElem (show i < en.length by omega)⟩
    obtain ⟨m, hm, hz⟩ := zip_at a11 hd
    have hgd : zg i = some d := by rw [(j5 i (Nat.le_refl _)).1]; exact a8 i _ (by rw [List.getElem?_map, hd]; rfl)
    have hhm : zh i = nI m := by rw [(j5 i (Nat.le_refl _)).2]; exact a10 i _ (by rw [List.getElem?_map, hm]; rfl)
    have hdR : d ∈ rts sl im en := by simp [rts, List.mem_of_getElem? hd]
    obtain ⟨-, -, d3, -, -, d24, o, o1, o2, -⟩ := XS_c h hdR
    have o1' : s1.1 d = some o := by rw [eo d (by omega)]; exact o1
    have e17 : s1.1 17 = some (4, vi, vr) := by rw [eo 17 (by omega)]; exact v4
    have hmark := (v6 d o d3 o1).1
    have htk : ((en.zip nu).take (i + 1)).filter p = ((en.zip nu).take i).filter p ++ (if p (d, m) then [(d, m)] else []) := by
      rw [List.take_add_one, hz, List.filter_append]
      simp only [Option.toList_some, List.filter_cons, List.filter_nil]
    have hpd : (p (d, m) = true) ↔ d ∈ V := by
      rw [← hp]
      simp only [decide_eq_true_eq]
      exact (hR d).symm
    rw [hgd]
    refine ⟨_, q_cameByO e17 v5 o1' o2, ?_⟩
    rintro r s2 ⟨hs, hr⟩
    subst hs
    rw [r_X2_dropUnmarked_36]
    generalize hK : ((en.zip nu).take i).filter p = K at j1 j3 j4 hle1 htk
    rcases hr with ⟨hin, rfl⟩ | ⟨hno, rfl⟩
    · have hin := hmark.mp hin
      refine ⟨fun z => absurd z (by decide), fun _ => ?_⟩
      rw [r_X2_dropUnmarked_39]
      simp only [r_X2_dropUnmarked_40, r_X2_dropUnmarked_41, r_X2_dropUnmarked_44, r_X2_dropUnmarked_45, r_X2_dropUnmarked_46, r_X2_dropUnmarked_47, r_X2_dropUnmarked_50, r_X2_dropUnmarked_51, r_X2_dropUnmarked_52, xo e1, a2, a3, true_and, xr e7, xg e9, nI_clamp (show i < 2 ^ 31 by omega), vp_in_i (show i < 2 ^ 31 by omega), hgd, hhm]
      refine ⟨by omega, by omega, _, q_place e1 a2 a3 j1 (by omega) e6 e7 e9 o1' o2 (nI m), ?_⟩
      rintro s3 rfl
      rw [r_X2_dropUnmarked_55]
      simp only [r_X2_dropUnmarked_58, nI_add]
      have hh2 := ih (i + 1, upd zi 2 (nI (K.length + 1)), va_up zg K.length (some d), upd zh K.length (nI m)) ⟨by dsimp only; omega, ?_, ?_, ?_, ?_, fun k hk => ?_⟩ (by dsimp only; omega)
      · rw [← hs1]
        simp only [va_up_up]
        exact hh2
      · dsimp only
        rw [htk, if_pos (hpd.mpr hin), pk_us, List.length_append, List.length_singleton]
      · dsimp only
        rw [pk_un (by decide)]; exact j2
      · dsimp only
        rw [htk, if_pos (hpd.mpr hin), List.map_append]
        have := AP_pushV j3 (some d)
        rw [List.length_map] at this
        exact this
      · dsimp only
        rw [htk, if_pos (hpd.mpr hin), List.map_append]
        have := AP_push j4 (nI m)
        rw [List.length_map] at this
        exact this
      · dsimp only at hk ⊢
        rw [va_up_ne _ _ (by omega), pk_un (by omega)]
        exact j5 k (by omega)
    · have hno : ¬ d ∈ V := fun z => hno (hmark.mpr z)
      refine ⟨fun _ => ?_, fun z => absurd rfl z⟩
      rw [r_X2_dropUnmarked_55]
      simp only [r_X2_dropUnmarked_58, nI_add]
      have hh2 := ih (i + 1, zi, zg, zh) ⟨by dsimp only; omega, ?_, j2, ?_, ?_, fun k hk => j5 k (by dsimp only at hk; omega)⟩ (by dsimp only; omega)
      · rw [← hs1]
        exact hh2
      · dsimp only
        rw [htk, if_neg (fun z => hno (hpd.mp z)), List.append_nil]; exact j1
      · dsimp only
        rw [htk, if_neg (fun z => hno (hpd.mp z)), List.append_nil]; exact j3
      · dsimp only
        rw [htk, if_neg (fun z => hno (hpd.mp z)), List.append_nil]; exact j4
  simp only [r_X2_dropUnmarked_0, r_X2_dropUnmarked_1, r_X2_dropUnmarked_4, r_X2_dropUnmarked_5, r_X2_dropUnmarked_6, r_X2_dropUnmarked_7, r_X2_dropUnmarked_10, r_X2_dropUnmarked_11, xo a1, true_and, a4]
  have h0 := key (0, upd fi 2 (nI 0), g, hh) ⟨by dsimp only; omega, by dsimp only; rw [pk_us]; rfl, by dsimp only; rw [pk_un (by decide)]; exact a5, by simp only [List.take_zero, List.filter_nil, List.map_nil]; exact AP_nil _, by simp only [List.take_zero, List.filter_nil, List.map_nil]; exact AP_nil _, fun k _ => ⟨rfl, rfl⟩⟩
  have e8 : va_up σ.2.1 8 (some (24, hh)) = σ.2.1 := by
    funext z
    by_cases hz : z = 8
    · subst hz; rw [va_up_self, a9]
    · exact va_up_ne _ _ hz
  have e7 : va_up σ.2.2 7 (some (24, g)) = σ.2.2 := by
    funext z
    by_cases hz : z = 7
    · subst hz; rw [va_up_self, a7]
    · exact va_up_ne _ _ hz
  dsimp only at h0
  rw [e8, e7] at h0
  exact h0
theorem p_sweep (h : XS σ T sl im en nu ev dr sm dp lo tn st sp) (hst : st + 1 < 2 ^ 31) : P_X6_sweep [.inr (some 0)] σ 0 0 (mI (fun r σ' => ∃ en' nu', A_sweep T sl en nu r en' nu' ∧ XS σ' T sl im en' nu' ev dr sm dp lo tn (st + 1) sp)) := by
  obtain ⟨⟨fi, fr, a1, a2, a3, a4, a5, a6, a7, a8, a9, -⟩, -⟩ := id h.2.1
  refine e_X6_sweep 0 σ 0 0 _ _ a1 rfl ?_
  simp only [r_X6_sweep_0, r_X6_sweep_1, r_X6_sweep_4, r_X6_sweep_5, r_X6_sweep_8, xo a1, a2, a9, true_and]
  refine ⟨_, q_overAll h hst, ?_⟩
  rintro s1 ⟨V, hV, hR⟩
  have hS := VI_XS h hV
  obtain ⟨⟨zi, zr, b1, b2, b3, b4, b5, b6, b7, b8, b9, -⟩, -⟩ := id hS.2.1
  simp only [r_X6_sweep_11, r_X6_sweep_12, r_X6_sweep_15, r_X6_sweep_16, r_X6_sweep_19, xo b1, b6, b9, true_and]
  refine ⟨_, q_drop hS hR hV, ?_⟩
  rintro r s2 ⟨en', nu', rfl, e1, e2, f2, t2⟩
  rw [r_X6_sweep_22, mI_e]
  refine ⟨en', nu', ⟨rfl, e1, e2⟩, WS_k hS.1 f2 (by simp) (by simp) (by simp), XO_tb hS.2.1 f2 t2, fun r hr => ?_, hS.2.2.2⟩
  simp only [rts, List.mem_append] at hr
  rcases hr with hr | hr | hr | hr
  · exact hS.2.2.1 r (by simp [rts, hr])
  · exact hS.2.2.1 r (by simp [rts, hr])
  · exact hS.2.2.1 r (by simp [rts, hr])
  · rw [e1] at hr
    obtain ⟨q, hq, rfl⟩ := List.mem_map.mp hr
    have hq2 := (List.mem_filter.mp hq).1
    exact hS.2.2.1 q.1 (by simp [rts, (List.of_mem_zip hq2).1])
end
