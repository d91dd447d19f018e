/-! ===== the class: piece, alike, entry, count ===== -/
theorem w_lt0 (w : Int32) : w < 0 ↔ w.toInt < 0 := by
  rw [Int32.lt_iff_toInt_lt]
  exact Iff.rfl
theorem w_le {w : Int32} {n : Nat} (hn : n < 2 ^ 31) : w ≤ nI n ↔ w.toInt ≤ n := by rw [Int32.le_iff_toInt_le, nI_toInt hn]
theorem w_ge {w : Int32} {n : Nat} (hn : n < 2 ^ 31) : nI n ≤ w ↔ (n : Int) ≤ w.toInt := by rw [Int32.le_iff_toInt_le, nI_toInt hn]
theorem w_eq {w : Int32} {n : Nat} (hn : n < 2 ^ 31) : w = nI n ↔ w.toInt = n := by
  rw [← Int32.toInt_inj, nI_toInt hn]
section
variable {σ : xS} {T : sT} {sl : List Nat} {im : Nat → Option (List Nat)} {en nu : List Nat} {ev : Nat} {dr : List Int32} {sm dp lo tn st : Nat} {sp : List Nat}
theorem p_piece (h : XS σ T sl im en nu ev dr sm dp lo tn st sp) (s i w : Int32) : P_X6_piece [.inr (some 0), .inl s, .inl i, .inl w] σ 0 0 (mI (fun r σ' => A_piece T sl s i w r ∧ XS σ' T sl im en nu ev dr sm dp lo tn st sp)) := by
  obtain ⟨⟨zi, zr, a1, a2, a3, a4, a5, a6, a7, a8, a9, a10, a11, a12⟩, -⟩ := id h.2.1
  refine e_X6_piece s i w 0 σ 0 0 _ _ a1 rfl ?_
  simp only [r_X6_piece_0, r_X6_piece_1, r_X6_piece_2]
  refine ⟨_, XO_cellOf h.2.1 s, ?_⟩
  rintro r s' ⟨hs, hr⟩
  subst hs
  subst hr
  cases hc : ix sl s with
  | none =>
    simp only [r_X6_piece_5, r_X6_piece_7, r_X6_piece_9, r_X6_piece_12, r_X6_piece_13, sNS, true_and, mI_e]
    exact fun _ => ⟨⟨fun _ => rfl, fun c z => by rw [hc] at z; cases z⟩, h⟩
  | some c =>
    obtain ⟨w1, w2, w3, w4, w5, w6, o, o1, o2, o3, o4⟩ := XS_c h (XS_ix h hc)
    simp only [r_X6_piece_5, r_X6_piece_7, r_X6_piece_9, r_X6_piece_14, r_X6_piece_15, r_X6_piece_18, r_X6_piece_19, r_X6_piece_20, r_X6_piece_23, r_X6_piece_25, sN, sS, and_true, mI_e]
    have hA : ∀ {r : Int32}, ((¬ (nI 0 ≤ w ∧ w ≤ nI 3) → r = Int32.ofInt (-2)) ∧ ((nI 0 ≤ w ∧ w ≤ nI 3) → (ix (pcs T 13 c) i = none → r = Int32.ofInt (-6)) ∧ ∀ p, ix (pcs T 13 c) i = some p →
      (w = nI 0 → r = nI (tx T 13 p).length) ∧ (w = nI 1 → r = nI (match T p with | some (.inr (.inr q)) => q.2.1 | _ => 0)) ∧ (w = nI 2 → r = nI (match T p with | some (.inr (.inr q)) => (lfT T q.1).length | _ => (tx T 13 p).length)) ∧ (w = nI 3 → r = nI (fi (pcs T 13 c) p)))) → A_piece T sl s i w r := fun hr => ⟨fun z => (by rw [hc] at z; cases z), fun c' z => by rw [hc] at z; cases z; exact hr⟩
    by_cases hw : ¬ (nI 0 ≤ w ∧ w ≤ nI 3)
    · have hB : A_piece T sl s i w (Int32.ofInt (-2)) := hA ⟨fun _ => rfl, fun z => absurd z hw⟩
      refine ⟨fun _ => ⟨hB, h⟩, fun hn => ⟨fun hle => ?_, fun _ => ⟨hB, h⟩⟩⟩
      refine absurd ⟨?_, hle⟩ hw
      rw [w_ge (by omega)]
      have := mt (w_lt0 w).mpr hn
      omega
    have hw := Classical.not_not.mp hw
    have hw0 : ¬ w < 0 := fun z => by
      have a := (w_lt0 w).mp z
      have b := (w_ge (show 0 < 2 ^ 31 by omega)).mp hw.1
      omega
    refine ⟨fun z => absurd z hw0, fun _ => ⟨fun _ => ?_, fun z => absurd hw.2 z⟩⟩
    rw [r_X6_piece_26]
    simp only [r_X6_piece_27, r_X6_piece_30, r_X6_piece_32, xo a1, a7, true_and]
    obtain ⟨P, hP⟩ := h.2.1.2.2.2.2.2.2.1
    refine ⟨_, q_piecesRead (t := 9) (by omega) h.1.1 w2 hP, ?_⟩
    rintro s1 ⟨f1, t1⟩
    have hS := XS_9 h f1 t1
    obtain ⟨⟨fi', fr', b1, -, -, -, -, -, b7, -⟩, -⟩ := id hS.2.1
    rw [r_X6_piece_35]
    simp only [r_X6_piece_36, r_X6_piece_39, r_X6_piece_40, xo b1, b7, true_and]
    refine ⟨_, q_at t1 i, ?_⟩
    rintro r s2 ⟨hs, hr⟩
    subst hs
    subst hr
    cases hp : ix (pcs T 13 c) i with
    | none =>
      simp only [r_X6_piece_43, r_X6_piece_45, r_X6_piece_47, r_X6_piece_50, r_X6_piece_52, sNS, true_and, mI_e]
      exact fun _ => ⟨hA ⟨fun z => absurd hw z, fun _ => ⟨fun _ => rfl, fun p z => by rw [hp] at z; cases z⟩⟩, hS⟩
    | some p =>
      obtain ⟨j, hj⟩ : ∃ j : Nat, (pcs T 13 c)[j]? = some p := by
        rcases ix_cases (pcs T 13 c) (by have := pcs_120 w2; omega) i with ⟨h1, -⟩ | ⟨j, x, -, -, hx, h1⟩
        · rw [h1] at hp; cases hp
        · rw [h1] at hp; cases hp; exact ⟨j, hx⟩
      have hpc := pcs_isPc 13 c w2 p (List.mem_of_getElem? hj)
      have hB : ∀ {r : Int32}, ((w = nI 0 → r = nI (tx T 13 p).length) ∧ (w = nI 1 → r = nI (match T p with | some (.inr (.inr q)) => q.2.1 | _ => 0)) ∧ (w = nI 2 → r = nI (match T p with | some (.inr (.inr q)) => (lfT T q.1).length | _ => (tx T 13 p).length)) ∧ (w = nI 3 → r = nI (fi (pcs T 13 c) p))) → A_piece T sl s i w r := fun hr => hA ⟨fun z => absurd hw z, fun _ => ⟨fun z => (by rw [hp] at z; cases z), fun p' z => by rw [hp] at z; cases z; exact hr⟩⟩
      obtain ⟨v, hv⟩ := Option.ne_none_iff_exists'.mp (isPc_nn hpc)
      obtain ⟨p24, po, p1, p2, p3, p4⟩ := hS.1.1 p v hv
      have h24 : ∀ x ∈ pcs T 13 c, 24 ≤ x := fun x hx => (isPc_kind hS.1.1 (pcs_isPc 13 c w2 x hx)).choose_spec.2.2.2
      have t0 : (nI 0 : Int32).toInt = 0 := by decide
      have t1' : (nI 1 : Int32).toInt = 1 := by decide
      have t2 : (nI 2 : Int32).toInt = 2 := by decide
      have t3 : (nI 3 : Int32).toInt = 3 := by decide
      simp only [r_X6_piece_43, r_X6_piece_45, r_X6_piece_47, r_X6_piece_53, r_X6_piece_54, sN, sS, and_true]
      rcases nI_03 hw with rfl | rfl | rfl | rfl
      · rw [t0]
        refine ⟨fun z => by omega, fun _ => ?_, fun z => by omega, fun z => by omega⟩
        simp only [r_X6_piece_80, r_X6_piece_82, r_X6_piece_85, xo p1, p2, p3, true_and, mI_e]
        exact ⟨hB ⟨fun _ => rfl, fun z => absurd z (by decide), fun z => absurd z (by decide), fun z => absurd z (by decide)⟩, hS⟩
      · rw [t1']
        refine ⟨fun z => by omega, fun z => by omega, fun _ => ?_, fun z => by omega⟩
        simp only [r_X6_piece_86, r_X6_piece_88, r_X6_piece_91, xo p1, p2, true_and, mI_e]
        refine ⟨hB ⟨fun z => absurd z (by decide), fun _ => ?_, fun z => absurd z (by decide), fun z => absurd z (by decide)⟩, hS⟩
        rw [hv]
        rcases v with t | q | q
        · exact p4.2.1
        · rcases hpc with ⟨t, ht, -⟩ | ⟨q', hq', -⟩
          · rw [hv] at ht; cases ht
          · rw [hv] at hq'; cases hq'
        · exact p4.2.1
      · rw [t2]
        refine ⟨fun z => by omega, fun z => by omega, fun z => by omega, fun _ => ?_⟩
        simp only [r_X6_piece_92, r_X6_piece_94, r_X6_piece_97, xo p1, p2, true_and]
        rcases v with t | q | q
        · rw [p4.2.2.2.2.1]
          simp only [sNS, true_and, r_X6_piece_100, r_X6_piece_102, r_X6_piece_105, r_X6_piece_116, xo p1, p2, p3, mI_e]
          refine fun _ => ⟨hB ⟨fun z => absurd z (by decide), fun z => absurd z (by decide), fun _ => ?_, fun z => absurd z (by decide)⟩, hS⟩
          rw [hv]
        · rcases hpc with ⟨t, ht, -⟩ | ⟨q', hq', -⟩
          · rw [hv] at ht; cases ht
          · rw [hv] at hq'; cases hq'
        · obtain ⟨tb, q1, -⟩ : oks T q := by
            rcases hpc with ⟨t, ht, -⟩ | ⟨q', hq', hq⟩
            · rw [hv] at ht; cases ht
            · rw [hv] at hq'; cases hq'; exact hq
          obtain ⟨-, bo, b1', b2', b3', -⟩ := hS.1.1 q.1 _ q1
          rw [tx_leaf q1] at b3'
          rw [p4.2.2.2.2]
          simp only [sN, sS, and_true, r_X6_piece_108, r_X6_piece_110, r_X6_piece_113, r_X6_piece_116, xo p1, p2, p4.2.2.2.2, true_and, xo b1', b2', b3', mI_e]
          refine ⟨hB ⟨fun z => absurd z (by decide), fun z => absurd z (by decide), fun _ => ?_, fun z => absurd z (by decide)⟩, hS⟩
          rw [hv]
          show nI tb.length = nI (lfT T q.1).length
          simp only [lfT, q1]
      · rw [t3]
        refine ⟨fun _ => ?_, fun z => by omega, fun z => by omega, fun z => by omega⟩
        simp only [r_X6_piece_117, r_X6_piece_118, r_X6_piece_121, r_X6_piece_123, xo b1, b7, true_and]
        refine ⟨_, q_firstPlaceOf t1 h24 hj, ?_⟩
        rintro r s3 ⟨hs, hr⟩
        subst hs
        subst hr
        rw [r_X6_piece_126, mI_e]
        exact ⟨hB ⟨fun z => absurd z (by decide), fun z => absurd z (by decide), fun z => absurd z (by decide), fun _ => rfl⟩, hS⟩
theorem q_compare {k : Nat} (hH : SH σ k) {L M : List Int32} (h1 : TXT σ 18 L) (h2 : TXT σ 20 M) (w : Int32) (hw : 0 ≤ w.toInt ∧ w.toInt ≤ 4 ∧ w.toInt ≠ 1) : P_X6_compareTexts [.inr (some 0), .inl w] σ 0 0 (mI (fun r σ' => σ' = σ ∧ (w.toInt = 0 → r = if L = M then 1 else 0) ∧ (w.toInt = 2 → r = nI (lcp L M)) ∧ (w.toInt = 3 → isPlc L M r) ∧ (w.toInt = 4 → (cfs L M ∧ r = 1) ∨ (¬ cfs L M ∧ r = 0)))) := by
  obtain ⟨fi, fr, a1, a2, a3, a4, a5, a6, a7, a8, a9, a10, a11, a12⟩ := hH
  refine e_X6_compareTexts w 0 σ 0 0 _ _ a1 rfl ?_
  simp only [r_X6_compareTexts_1, r_X6_compareTexts_32, r_X6_compareTexts_33, r_X6_compareTexts_36, r_X6_compareTexts_37, r_X6_compareTexts_40, r_X6_compareTexts_46, r_X6_compareTexts_47, r_X6_compareTexts_48, r_X6_compareTexts_51, r_X6_compareTexts_52, r_X6_compareTexts_55, r_X6_compareTexts_58, r_X6_compareTexts_59, r_X6_compareTexts_60, r_X6_compareTexts_63, r_X6_compareTexts_64, r_X6_compareTexts_67, r_X6_compareTexts_70, r_X6_compareTexts_71, r_X6_compareTexts_72, r_X6_compareTexts_75, r_X6_compareTexts_76, r_X6_compareTexts_79, r_X6_compareTexts_85, r_X6_compareTexts_0, xo a1, a10, a11, true_and]
  refine ⟨fun hz => ?_, fun hz => ?_, fun hz => by omega, fun hz => ?_, fun hz => ?_, trivial⟩
  · refine ⟨_, q_comesBefore h1 h2, ?_⟩
    rintro r s2 ⟨hs, hr⟩
    subst hs
    rw [r_X6_compareTexts_82]
    refine ⟨_, p_asNumber s2 r (by rcases hr with ⟨-, z⟩ | ⟨-, z⟩ <;> simp [z]), ?_⟩
    rintro r' s3 ⟨hs, hr'⟩
    subst hs
    subst hr'
    rw [r_X6_compareTexts_85, mI_e]
    exact ⟨rfl, fun z => by omega, fun z => by omega, fun z => by omega, fun _ => hr⟩
  · refine ⟨_, q_isSameAs h1 h2, ?_⟩
    rintro r s2 ⟨hs, hr⟩
    subst hs
    subst hr
    rw [r_X6_compareTexts_43]
    refine ⟨_, p_asNumber s2 _ (by split <;> simp), ?_⟩
    rintro r' s3 ⟨hs, hr'⟩
    subst hs
    subst hr'
    rw [r_X6_compareTexts_46, mI_e]
    exact ⟨rfl, fun _ => rfl, fun z => by omega, fun z => by omega, fun z => by omega⟩
  · refine ⟨_, q_samePlaces h1 h2, ?_⟩
    rintro r s2 ⟨hs, hr⟩
    subst hs
    subst hr
    rw [mI_e]
    exact ⟨rfl, fun z => by omega, fun _ => rfl, fun z => by omega, fun z => by omega⟩
  · refine ⟨_, q_placeOf h1 h2, ?_⟩
    rintro r s2 ⟨hs, hr⟩
    subst hs
    rw [mI_e]
    exact ⟨rfl, fun z => by omega, fun z => by omega, fun _ => hr, fun z => by omega⟩
theorem p_alike (h : XS σ T sl im en nu ev dr sm dp lo tn st sp) (a b w : Int32) : P_X6_alike [.inr (some 0), .inl a, .inl b, .inl w] σ 0 0 (mI (fun r σ' => A_alike T sl a b w r ∧ XS σ' T sl im en nu ev dr sm dp lo tn st sp)) := by
  obtain ⟨⟨fi, fr, a1, a2, a3, a4, a5, a6, a7, a8, a9, a10, a11, a12⟩, -⟩ := id h.2.1
  refine e_X6_alike a b w 0 σ 0 0 _ _ a1 rfl ?_
  simp only [r_X6_alike_0, r_X6_alike_1, r_X6_alike_2]
  refine ⟨_, XO_cellOf h.2.1 a, ?_⟩
  rintro r s' ⟨hs, hr⟩
  subst hs
  subst hr
  simp only [r_X6_alike_5, r_X6_alike_7, r_X6_alike_8, r_X6_alike_9]
  refine ⟨_, XO_cellOf h.2.1 b, ?_⟩
  rintro r s2 ⟨hs, hr⟩
  subst hs
  subst hr
  cases hc : ix sl a with
  | none =>
    simp only [r_X6_alike_12, r_X6_alike_14, r_X6_alike_16, r_X6_alike_24, r_X6_alike_25, sNS, and_true, mI_e]
    exact fun _ => ⟨⟨fun _ => rfl, fun c d z => by rw [hc] at z; cases z⟩, h⟩
  | some c =>
    cases hd : ix sl b with
    | none =>
      simp only [r_X6_alike_12, r_X6_alike_14, r_X6_alike_16, r_X6_alike_19, r_X6_alike_21, r_X6_alike_24, r_X6_alike_25, sN, sS, sNS, true_and, mI_e]
      exact fun _ => ⟨⟨fun _ => rfl, fun c d _ z => by rw [hd] at z; cases z⟩, h⟩
    | some d =>
      obtain ⟨w1, w2, w3, w4, w5, w6, -⟩ := XS_c h (XS_ix h hc)
      obtain ⟨d1, d2, d3, d4, d5, d6, -⟩ := XS_c h (XS_ix h hd)
      have hA : ∀ {r : Int32}, (((w.toInt < 0 ∨ 4 < w.toInt) → r = Int32.ofInt (-2)) ∧ (w.toInt = 0 → r = if tx T 13 c = tx T 13 d then 1 else 0) ∧ (w.toInt = 1 → r = if c = d then 1 else 0) ∧ (w.toInt = 2 → r = nI (lcp (tx T 13 c) (tx T 13 d))) ∧ (w.toInt = 3 → isPlc (tx T 13 c) (tx T 13 d) r) ∧ (w.toInt = 4 → (cfs (tx T 13 c) (tx T 13 d) ∧ r = 1) ∨ (¬ cfs (tx T 13 c) (tx T 13 d) ∧ r = 0))) → A_alike T sl a b w r := fun hr => ⟨fun z => (by rw [hc, hd] at z; rcases z with z | z <;> cases z), fun c' d' z z' => by rw [hc] at z; rw [hd] at z'; cases z; cases z'; exact hr⟩
      simp only [r_X6_alike_12, r_X6_alike_14, r_X6_alike_16, r_X6_alike_19, r_X6_alike_21, r_X6_alike_26, r_X6_alike_27, r_X6_alike_30, r_X6_alike_31, r_X6_alike_32, r_X6_alike_35, r_X6_alike_37, r_X6_alike_38, r_X6_alike_39, r_X6_alike_40, sN, sS, and_true, true_and, mI_e]
      have hB : (w.toInt < 0 ∨ 4 < w.toInt) → A_alike T sl a b w (Int32.ofInt (-2)) := fun hz => hA ⟨fun _ => rfl, fun z => by omega, fun z => by omega, fun z => by omega, fun z => by omega, fun z => by omega⟩
      refine ⟨fun hz => ⟨hB (Or.inl ((w_lt0 w).mp hz)), h⟩, fun hn => ⟨fun hle => ⟨fun hne => ?_, fun he => ?_⟩, fun hgt => ⟨hB (Or.inr ?_), h⟩⟩⟩
      · have g0 : ¬ w.toInt < 0 := fun z => hn ((w_lt0 w).mpr z)
        have g1 : w.toInt ≤ 4 := by have := (w_le (n := 4) (by omega)).mp hle; omega
        have g2 : w.toInt ≠ 1 := fun z => hne ((w_eq (n := 1) (by omega)).mpr (by omega))
        rw [r_X6_alike_59]
        simp only [r_X6_alike_60, r_X6_alike_63, r_X6_alike_65, xo a1, a10, true_and]
        obtain ⟨L, hL⟩ := h.2.1.2.2.2.2.2.2.2.2.1
        refine ⟨_, q_read (t := 18) (by omega) h.1.1 w2 hL, ?_⟩
        rintro s3 ⟨f1, t1⟩
        have hS := XS_18 h f1 t1
        obtain ⟨⟨fi', fr', b1, -, -, -, -, -, -, -, -, -, b11, -⟩, -⟩ := id hS.2.1
        rw [r_X6_alike_68]
        simp only [r_X6_alike_69, r_X6_alike_72, r_X6_alike_74, xo b1, b11, true_and]
        obtain ⟨M, hM⟩ := hS.2.1.2.2.2.2.2.2.2.2.2.1
        refine ⟨_, q_read (t := 20) (by omega) hS.1.1 d2 hM, ?_⟩
        rintro s4 ⟨f2, t2⟩
        have hS2 := XS_20 hS f2 t2
        have t1' := TXT_f t1 f2 (by simp) (by simp)
        simp only [r_X6_alike_77, r_X6_alike_78, r_X6_alike_79]
        refine ⟨_, q_compare hS2.2.1.1 t1' t2 w ⟨by omega, g1, g2⟩, ?_⟩
        rintro r s5 ⟨hs, r1, r2, r3, r4⟩
        subst hs
        rw [r_X6_alike_82, mI_e]
        exact ⟨hA ⟨fun z => by omega, r1, fun z => absurd z g2, r2, r3, r4⟩, hS2⟩
      · have he := Classical.not_not.mp he
        have g2 : w.toInt = 1 := by have := (w_eq (n := 1) (by omega)).mp he; omega
        rw [r_X6_alike_43]
        simp only [r_X6_alike_45, r_X6_alike_47, r_X6_alike_50, r_X6_alike_51, r_X6_alike_54, r_X6_alike_55, sD]
        have fin : ∀ r : Int32, (r = if c = d then 1 else 0) → A_alike T sl a b w r := fun r hr => hA ⟨fun z => by omega, fun z => by omega, fun _ => hr, fun z => by omega, fun z => by omega, fun z => by omega⟩
        refine ⟨w6, d6, fun hne => ?_, fun hee => ?_⟩
        · refine ⟨_, p_asNumber s2 _ (Or.inl nI_0), ?_⟩
          rintro r' s3 ⟨hs, hr'⟩
          subst hs
          subst hr'
          rw [r_X6_alike_58, mI_e]
          exact ⟨fin _ (by rw [if_neg (fun z => hne (by rw [z])), nI_0]), h⟩
        · refine ⟨_, p_asNumber s2 _ (Or.inr rfl), ?_⟩
          rintro r' s3 ⟨hs, hr'⟩
          subst hs
          subst hr'
          rw [r_X6_alike_58, mI_e]
          cases hee
          exact ⟨fin _ (by rw [if_pos rfl]; rfl), h⟩
      · have := mt (w_le (w := w) (show 4 < 2 ^ 31 by omega)).mpr hgt
        omega
theorem q_cellAt (h : TB σ en nu ev) (i : Int32) : P_X2_cellAt [.inr (some 6), .inl i] σ 0 0 (mR (fun r σ' => σ' = σ ∧ r = ix en i)) := by
  obtain ⟨fi, fr, g, hh, a1, a2, a3, a4, a5, a6, a7, a8, a9, a10, a11, a12⟩ := h
  refine e_X2_cellAt i 6 σ 0 0 _ _ a1 rfl ?_
  simp only [r_X2_cellAt_0, r_X2_cellAt_1, r_X2_cellAt_4, r_X2_cellAt_5, r_X2_cellAt_6, r_X2_cellAt_9, r_X2_cellAt_12, r_X2_cellAt_13, r_X2_cellAt_14, r_X2_cellAt_17, r_X2_cellAt_18, r_X2_cellAt_21, r_X2_cellAt_22, r_X2_cellAt_25, r_X2_cellAt_26, r_X2_cellAt_27, r_X2_cellAt_30, r_X2_cellAt_31, xo a1, true_and, a2, a4, xl (x_lenR a6 a7), xr a7, mR_e]
  rcases ix_cases en (by omega) i with ⟨h1, h2⟩ | ⟨j, x, rfl, hj, hx, h1⟩
  · rw [h1]
    refine ⟨fun _ => rfl, fun hn => ⟨fun _ => rfl, fun hl => ?_⟩⟩
    rcases h2 with h2 | h2
    · exact absurd h2 hn
    · exact absurd h2 hl
  · rw [h1]
    refine ⟨fun z => absurd z (nI_pos (by omega)), fun _ => ⟨fun z => ?_, fun _ => ⟨fun z => ?_, fun _ => ?_⟩⟩⟩
    · rw [nI_leI (by omega) (by omega)] at z; omega
    · rw [nI_leI (by omega) (by omega)] at z; omega
    · rw [nI_clamp (by omega), vp_in_i (by omega)]
      exact ⟨by omega, a8 j _ (by rw [List.getElem?_map, hx]; rfl)⟩
theorem q_numberAt (h : TB σ en nu ev) {j m : Nat} (hj : nu[j]? = some m) : P_X2_numberAt [.inr (some 6), .inl (nI j)] σ 0 0 (mI (fun r σ' => σ' = σ ∧ r = nI m)) := by
  obtain ⟨fi, fr, g, hh, a1, a2, a3, a4, a5, a6, a7, a8, a9, a10, a11, a12⟩ := h
  have hjl := (List.getElem?_eq_some_iff.mp hj).1
  refine e_X2_numberAt (nI j) 6 σ 0 0 _ _ a1 rfl ?_
  simp only [r_X2_numberAt_0, r_X2_numberAt_1, r_X2_numberAt_4, r_X2_numberAt_5, r_X2_numberAt_6, r_X2_numberAt_9, r_X2_numberAt_12, r_X2_numberAt_13, r_X2_numberAt_14, r_X2_numberAt_17, r_X2_numberAt_18, r_X2_numberAt_21, r_X2_numberAt_22, r_X2_numberAt_25, r_X2_numberAt_26, r_X2_numberAt_27, r_X2_numberAt_30, r_X2_numberAt_32, xo a1, true_and, a3, a4, xl (x_lenG a9), xg a9, nI_clamp (show j < 2 ^ 31 by omega), vp_in_i (show j < 2 ^ 31 by omega), nI_leI (show en.length < 2 ^ 31 by omega) (show j < 2 ^ 31 by omega), nI_leI (show 24 < 2 ^ 31 by omega) (show j < 2 ^ 31 by omega), mI_e]
  refine ⟨fun z => absurd z (nI_pos (by omega)), fun _ => ⟨fun z => by omega, fun _ => ⟨fun z => by omega, fun _ => ⟨by omega, a10 j _ (by rw [List.getElem?_map, hj]; rfl)⟩⟩⟩⟩
theorem q_slotsWith (h : XS σ T sl im en nu ev dr sm dp lo tn st sp) {c : Nat} (hc : 24 ≤ c) : P_X6_slotsWith [.inr (some 0), .inr (some c)] σ 0 0 (mI (fun r σ' => σ' = σ ∧ r = nI (cnt sl c))) := by
  obtain ⟨⟨fi, fr, a1, a2, -⟩, ⟨g, b1, b2, b3⟩, -⟩ := id h.2.1
  obtain ⟨b3, b4⟩ := b3 sl rfl
  refine e_X6_slotsWith (some c) 0 σ 0 0 _ _ a1 rfl ?_
  generalize hret : (mI (fun r σ' => σ' = σ ∧ r = nI (cnt sl c))) = ret
  have key : ∀ i : Nat, i ≤ 8 → W_X6_slotsWith ret (4, [some (.inr (some 0)), some (.inr (some c)), some (.inl (nI (cnt (sl.take i) c))), some (.inl (nI i))], [], σ, 0, 0) := by
    refine mm_loop _ _ (fun i => 8 - i) ?_
    intro i hi ih
    rw [r_X6_slotsWith_4]
    simp only [r_X6_slotsWith_0, r_X6_slotsWith_1, r_X6_slotsWith_2, r_X6_slotsWith_3, r_X6_slotsWith_5, r_X6_slotsWith_6, r_X6_slotsWith_9, r_X6_slotsWith_10, r_X6_slotsWith_13, r_X6_slotsWith_14, r_X6_slotsWith_17, r_X6_slotsWith_18, r_X6_slotsWith_19, r_X6_slotsWith_20, r_X6_slotsWith_23, r_X6_slotsWith_26, r_X6_slotsWith_29, r_X6_slotsWith_32, r_X6_slotsWith_33, xo a1, a2, true_and, xl (x_lenR b2 b1), xr b1, nI_leI (show 8 < 2 ^ 31 by omega) (show i < 2 ^ 31 by omega), nI_clamp (show i < 2 ^ 31 by omega), vp_in_i (show i < 2 ^ 31 by omega), nI_add]
    refine ⟨fun hle => ?_, fun hle => ?_⟩
    · have : i = 8 := by omega
      subst this
      rw [List.take_of_length_le (by omega)]
      subst hret
      rw [mI_e]
      exact ⟨rfl, rfl⟩
    · obtain ⟨x, hx⟩ : ∃ x, sl[i]? = some x := ⟨_, List.getElem?_eq_getElem (show i < sl.length by omega)⟩
      have e9 : g i = some x := b3 i _ (by rw [List.getElem?_map, hx]; rfl)
      have x24 : 24 ≤ x := (XS_c h (List.mem_append_left _ (List.mem_of_getElem? hx))).2.2.2.2.2.1
      have hh := ih (i + 1) (by omega) (by omega)
      rw [cnt_succ hx] at hh
      rw [e9]
      simp only [sD]
      refine ⟨by omega, x24, hc, fun hne => ?_, fun he => ?_⟩
      · rw [if_neg (fun z => hne (by rw [z]))] at hh; exact hh
      · cases he
        rw [if_pos rfl] at hh; exact hh
  simp only [r_X6_slotsWith_0, r_X6_slotsWith_1, r_X6_slotsWith_2, r_X6_slotsWith_3, r_X6_slotsWith_5, r_X6_slotsWith_6, r_X6_slotsWith_9, r_X6_slotsWith_10, r_X6_slotsWith_13, r_X6_slotsWith_14, r_X6_slotsWith_17, r_X6_slotsWith_18, r_X6_slotsWith_19, r_X6_slotsWith_20, r_X6_slotsWith_23, r_X6_slotsWith_26, r_X6_slotsWith_29, r_X6_slotsWith_32, r_X6_slotsWith_33]
  exact key 0 (by omega)
theorem p_entry (h : XS σ T sl im en nu ev dr sm dp lo tn st sp) (i w : Int32) : P_X6_entry [.inr (some 0), .inl i, .inl w] σ 0 0 (mI (fun r σ' => A_entry T sl en nu i w r ∧ XS σ' T sl im en nu ev dr sm dp lo tn st sp)) := by
  obtain ⟨⟨fi, fr, a1, a2, a3, a4, a5, a6, a7, a8, a9, a10, a11, a12⟩, -, -, -, -, hTB, -⟩ := id h.2.1
  refine e_X6_entry i w 0 σ 0 0 _ _ a1 rfl ?_
  simp only [r_X6_entry_0, r_X6_entry_1, r_X6_entry_4, r_X6_entry_5, r_X6_entry_6, r_X6_entry_9, r_X6_entry_11, mI_e]
  by_cases hw : ¬ (nI 0 ≤ w ∧ w ≤ nI 2)
  · have hB : A_entry T sl en nu i w (Int32.ofInt (-2)) := ⟨fun _ => rfl, fun z => absurd z hw⟩
    refine ⟨fun _ => ⟨hB, h⟩, fun hn => ⟨fun hle => ?_, fun _ => ⟨hB, h⟩⟩⟩
    refine absurd ⟨?_, hle⟩ hw
    rw [w_ge (by omega)]
    have := mt (w_lt0 w).mpr hn
    omega
  have hw := Classical.not_not.mp hw
  have hw0 : ¬ w < 0 := fun z => by
    have a := (w_lt0 w).mp z
    have b := (w_ge (show 0 < 2 ^ 31 by omega)).mp hw.1
    omega
  refine ⟨fun z => absurd z hw0, fun _ => ⟨fun _ => ?_, fun z => absurd hw.2 z⟩⟩
  simp only [r_X6_entry_12, r_X6_entry_13, r_X6_entry_16, r_X6_entry_17, xo a1, a6, true_and]
  refine ⟨_, q_cellAt hTB i, ?_⟩
  rintro r s' ⟨hs, hr⟩
  subst hs
  subst hr
  cases hc : ix en i with
  | none =>
    simp only [r_X6_entry_20, r_X6_entry_21, r_X6_entry_22, r_X6_entry_25, r_X6_entry_27, sNS, true_and, mI_e]
    exact fun _ => ⟨⟨fun z => absurd hw z, fun _ => ⟨fun _ => rfl, fun c z => by rw [hc] at z; cases z⟩⟩, h⟩
  | some c =>
    have hnl : nu.length = en.length ∧ en.length ≤ 24 := by
      obtain ⟨_, _, _, _, _, _, _, _, _, _, _, _, _, _, q1, q2⟩ := hTB
      exact ⟨q1, q2⟩
    obtain ⟨j, rfl, hj, hcj⟩ : ∃ j, i = nI j ∧ j < en.length ∧ en[j]? = some c := by
      rcases ix_cases en (by omega) i with ⟨h1, -⟩ | ⟨j, x, h0, h2, hx, h1⟩
      · rw [h1] at hc; cases hc
      · rw [h1] at hc; cases hc; exact ⟨j, h0, h2, hx⟩
    obtain ⟨m, hm⟩ : ∃ m, nu[j]? = some m := ⟨_, List.getElem?_eq_getElem (by omega)⟩
    have hcR : c ∈ rts sl im en := by simp [rts, List.mem_of_getElem? hcj]
    obtain ⟨w1, w2, w3, w4, w5, w6, o, o1, o2, o3, o4⟩ := XS_c h hcR
    have hA : ∀ {r : Int32}, ((w = nI 0 → r = nI m) ∧ (w = nI 1 → r = nI (tx T 13 c).length) ∧ (w = nI 2 → r = nI (cnt sl c))) → A_entry T sl en nu (nI j) w r := fun hr => ⟨fun z => absurd hw z, fun _ => ⟨fun z => (by rw [hc] at z; cases z), fun c' z => by rw [hc] at z; cases z; exact ⟨fun q => ⟨m, by rw [ix_nI (by omega)]; exact hm, hr.1 q⟩, hr.2⟩⟩⟩
    simp only [r_X6_entry_20, r_X6_entry_21, r_X6_entry_22, r_X6_entry_28, r_X6_entry_29, sN, sS, and_true]
    refine ⟨fun h0 => ?_, fun h0 => ⟨fun h1 => ?_, fun h1 => ?_⟩⟩
    · have hw0 : w = nI 0 := (w_eq (by omega)).mpr h0
      simp only [r_X6_entry_56, r_X6_entry_57, r_X6_entry_60, r_X6_entry_61, xo a1, a6, true_and]
      refine ⟨_, q_numberAt hTB hm, ?_⟩
      rintro r s2 ⟨hs, hr⟩
      subst hs
      subst hr
      rw [r_X6_entry_64, mI_e]
      exact ⟨hA ⟨fun _ => rfl, fun z => by rw [hw0] at z; exact absurd z (by decide), fun z => by rw [hw0] at z; exact absurd z (by decide)⟩, h⟩
    · have hw1 : w = nI 1 := (w_eq (by omega)).mpr h1
      simp only [r_X6_entry_65, r_X6_entry_66, r_X6_entry_69, xo o1, o2, o3, true_and, mI_e]
      exact ⟨hA ⟨fun z => by rw [hw1] at z; exact absurd z (by decide), fun _ => rfl, fun z => by rw [hw1] at z; exact absurd z (by decide)⟩, h⟩
    · simp only [r_X6_entry_70, r_X6_entry_71, r_X6_entry_72]
      refine ⟨_, q_slotsWith h w6, ?_⟩
      rintro r s2 ⟨hs, hr⟩
      subst hs
      subst hr
      rw [r_X6_entry_75, mI_e]
      exact ⟨hA ⟨fun z => absurd ((w_eq (by omega)).mp z) h0, fun z => absurd ((w_eq (by omega)).mp z) h1, fun _ => rfl⟩, h⟩
theorem mk_eq (im : Nat → Option (List Nat)) : mk im = (if im 0 = none then 0 else 1) + (if im 1 = none then 0 else 2) := by
  unfold mk
  cases im 0 <;> cases im 1 <;> rfl
theorem p_count (h : XS σ T sl im en nu ev dr sm dp lo tn st sp) (hst : st + 1 < 2 ^ 31) (w : Int32) : P_X6_count [.inr (some 0), .inl w] σ 0 0 (mI (fun r σ' => A_count T sl im en ev dr sm dp lo w r ∧ ∃ st', st' ≤ st + 1 ∧ XS σ' T sl im en nu ev dr sm dp lo tn st' sp)) := by
  obtain ⟨⟨fi, fr, a1, a2, a3, a4, a5, a6, a7, a8, a9, a10, a11, a12⟩, -, -, -, ⟨di, de, dg, d1, d2, d3, -⟩, ⟨ti, te, tg, th, t1, t2, t3, t4, t5, -⟩, -⟩ := id h.2.1
  obtain ⟨-, -, ⟨wi, we, y1, y2, -⟩, ⟨rg, r1, r2, r3, r4⟩, -⟩ := id h.1
  refine e_X6_count w 0 σ 0 0 _ _ a1 rfl ?_
  have hX : ∃ st', st' ≤ st + 1 ∧ XS σ T sl im en nu ev dr sm dp lo tn st' sp := ⟨st, by omega, h⟩
  simp only [r_X6_count_0, r_X6_count_1, r_X6_count_40, r_X6_count_41, r_X6_count_44, r_X6_count_45, r_X6_count_48, r_X6_count_52, r_X6_count_55, r_X6_count_58, r_X6_count_59, r_X6_count_60, r_X6_count_63, r_X6_count_64, r_X6_count_67, r_X6_count_71, r_X6_count_74, r_X6_count_77, r_X6_count_78, r_X6_count_79, r_X6_count_82, r_X6_count_85, r_X6_count_86, r_X6_count_87, r_X6_count_90, r_X6_count_93, r_X6_count_94, r_X6_count_95, r_X6_count_98, r_X6_count_101, r_X6_count_102, r_X6_count_103, r_X6_count_106, xo a1, a2, a5, a6, a9, a12, true_and, xo t1, t4, t5, xo d1, d3, mI_e]
  refine ⟨fun hw => ?_, fun hw => ?_, fun hw => ?_, fun hw => ⟨⟨fun z => by omega, fun z => by omega, fun z => by omega, fun _ => rfl, fun z => by omega, fun z => by omega, fun z => by omega, fun z => by omega, fun z => by omega, fun z => by omega⟩, hX⟩, fun hw => ⟨⟨fun z => by omega, fun z => by omega, fun z => by omega, fun z => by omega, fun _ => rfl, fun z => by omega, fun z => by omega, fun z => by omega, fun z => by omega, fun z => by omega⟩, hX⟩, fun hw => ⟨⟨fun z => by omega, fun z => by omega, fun z => by omega, fun z => by omega, fun z => by omega, fun _ => rfl, fun z => by omega, fun z => by omega, fun z => by omega, fun z => by omega⟩, hX⟩, fun hw => ⟨⟨fun z => by omega, fun z => by omega, fun z => by omega, fun z => by omega, fun z => by omega, fun z => by omega, fun _ => by rw [mk_eq], fun z => by omega, fun z => by omega, fun z => by omega⟩, hX⟩, trivial⟩
  · rw [r_X6_count_107]
    have hno : (w.toInt < 10 ∨ 12 < w.toInt) → A_count T sl im en ev dr sm dp lo w (Int32.ofInt (-2)) := fun hz => ⟨fun _ => rfl, fun z => by omega, fun z => by omega, fun z => by omega, fun z => by omega, fun z => by omega, fun z => by omega, fun z => by omega, fun z => by omega, fun z => by omega⟩
    simp only [r_X6_count_108, r_X6_count_110, r_X6_count_111, r_X6_count_112, r_X6_count_113]
    refine ⟨_, p_isRule σ _, ?_⟩
    rintro r s2 ⟨hs, hr⟩
    subst hs
    subst hr
    rw [r_X6_count_116]
    by_cases hin : 10 ≤ w.toInt ∧ w.toInt ≤ 12
    · obtain ⟨j, hj, rfl⟩ := nI_of (x := w) (fun z => by have := (w_lt0 w).mp z; omega)
      have hti := nI_toInt hj
      rw [hti] at hin
      rw [pk_sub (show 10 ≤ j by omega), if_pos (nI_rng' (by omega) (by omega) (by omega))]
      refine ⟨fun z => absurd z (by decide), fun _ => ?_⟩
      rw [r_X6_count_119]
      simp only [r_X6_count_120, r_X6_count_123, r_X6_count_126, r_X6_count_127, r_X6_count_128, r_X6_count_133, xo a1, a8, true_and, xo y1, y2, xg r1, nI_clamp (show j - 10 < 2 ^ 31 by omega), vp_in_i (show j - 10 < 2 ^ 31 by omega), mI_e]
      refine ⟨by omega, ?_, hX⟩
      have hj3 : j = 10 ∨ j = 11 ∨ j = 12 := by omega
      rcases hj3 with rfl | rfl | rfl
      · exact ⟨fun z => by omega, fun z => by omega, fun z => by omega, fun z => by omega, fun z => by omega, fun z => by omega, fun z => by omega, fun _ => r2, fun z => by omega, fun z => by omega⟩
      · exact ⟨fun z => by omega, fun z => by omega, fun z => by omega, fun z => by omega, fun z => by omega, fun z => by omega, fun z => by omega, fun z => by omega, fun _ => r3, fun z => by omega⟩
      · exact ⟨fun z => by omega, fun z => by omega, fun z => by omega, fun z => by omega, fun z => by omega, fun z => by omega, fun z => by omega, fun z => by omega, fun z => by omega, fun _ => r4⟩
    · have hnr : ¬ (nI 0 ≤ w - nI 10 ∧ w - nI 10 ≤ nI 2) := by
        rintro ⟨z1, z2⟩
        have z3 := (w_ge (w := w - nI 10) (n := 0) (by omega)).mp z1
        obtain ⟨k, hk, hx⟩ := nI_of (x := w - nI 10) (fun z => by have := (w_lt0 (w - nI 10)).mp z; omega)
        rw [hx, nI_leI (by omega) (by omega)] at z2
        have hw : w = nI k + nI 10 := by rw [← hx, Int32.sub_add_cancel]
        refine hin ?_
        rw [hw]
        have hk3 : k = 0 ∨ k = 1 ∨ k = 2 := by omega
        rcases hk3 with rfl | rfl | rfl <;> decide
      rw [if_neg hnr]
      refine ⟨fun _ => ?_, fun z => absurd rfl z⟩
      rw [r_X6_count_131, r_X6_count_133, mI_e]
      exact ⟨hno (by omega), hX⟩
  · refine ⟨_, q_overAll h hst, ?_⟩
    intro s1 h1
    obtain ⟨vi, vr, k1, k2, k3⟩ := WD_n h1
    obtain ⟨V, hV, -⟩ := h1
    have hS := VI_XS h hV
    obtain ⟨⟨fi', fr', b1, -, -, -, -, -, -, -, b9, -⟩, -⟩ := id hS.2.1
    rw [r_X6_count_51]
    simp only [r_X6_count_52, r_X6_count_55, r_X6_count_58, xo b1, b9, xo k1, k2, true_and, mI_e]
    exact ⟨⟨fun z => by omega, fun _ => rfl, fun z => by omega, fun z => by omega, fun z => by omega, fun z => by omega, fun z => by omega, fun z => by omega, fun z => by omega, fun z => by omega⟩, st + 1, by omega, hS⟩
  · refine ⟨_, q_overAll h hst, ?_⟩
    intro s1 h1
    obtain ⟨vi, vr, k1, k2, k3⟩ := WD_n h1
    obtain ⟨V, hV, -⟩ := h1
    have hS := VI_XS h hV
    obtain ⟨⟨fi', fr', b1, -, -, -, -, -, -, -, b9, -⟩, -⟩ := id hS.2.1
    rw [r_X6_count_70]
    simp only [r_X6_count_71, r_X6_count_74, r_X6_count_77, xo b1, b9, xo k1, k3, true_and, mI_e]
    exact ⟨⟨fun z => by omega, fun z => by omega, fun _ => rfl, fun z => by omega, fun z => by omega, fun z => by omega, fun z => by omega, fun z => by omega, fun z => by omega, fun z => by omega⟩, st + 1, by omega, hS⟩
end
