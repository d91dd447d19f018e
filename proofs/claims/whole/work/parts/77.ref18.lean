/-! ===== the reference: more readers ===== -/
theorem k_placeIn {μ : rf_M} {t u : List Int32} (h : Bt μ t u) : P_placeIn [.inr (some 39)] μ 0 0 (mI (fun r μ' => μ' = μ ∧ isPlc t u r)) := by
  refine e_placeIn μ _ ?_
  generalize hret : (mI (fun r μ' => μ' = μ ∧ isPlc t u r)) = ret
  obtain ⟨h1, h2, h3, h4, h5⟩ := id h
  have key : ∀ y : Nat × Option mV, (y.1 ≤ 121 ∧ ∀ g, g < y.1 → ¬ hasP t u g) → W_placeIn ret (2, [some (.inr (some 39)), some (.inl (nI y.1)), y.2], [], μ, 0, 0) := by
    refine mm_loop _ _ (fun y => 122 - y.1) ?_
    rintro ⟨f, l2⟩ ⟨j0, j1⟩ ih
    dsimp only at j0 j1 ⊢
    rw [r_placeIn_2]
    simp only [r_placeIn_0, r_placeIn_1, r_placeIn_3, r_placeIn_4, r_placeIn_7, r_placeIn_8, r_placeIn_9, r_placeIn_12, r_placeIn_15, r_placeIn_16, r_placeIn_18, r_placeIn_19, r_placeIn_22, r_placeIn_25, r_placeIn_26, r_placeIn_29, r_placeIn_30, r_placeIn_31, r_placeIn_32, r_placeIn_33, r_placeIn_34, r_placeIn_37, r_placeIn_38, r_placeIn_41, r_placeIn_42, r_placeIn_43, r_placeIn_44, r_placeIn_47, r_placeIn_50, r_placeIn_53, r_placeIn_54, r_placeIn_55, r_placeIn_58, r_placeIn_61, r_placeIn_62, r_placeIn_63, r_placeIn_66, r_placeIn_69, r_placeIn_71, h1, h2, nI_add, nI_ltI (show t.length < 2 ^ 31 by omega) (show f + u.length < 2 ^ 31 by omega)]
    refine ⟨fun hl => ?_, fun hl => ?_⟩
    · subst hret
      rw [mI_e]
      refine ⟨rfl, Or.inr ⟨rfl, fun g hg => ?_⟩⟩
      rcases Nat.lt_or_ge g f with hgf | hgf
      · exact j1 g hgf hg
      · have := hg.1; omega
    · have inner : ∀ n : Nat, (n ≤ u.length ∧ ∀ j x, j < n → u[j]? = some x → t[f + j]? = some x) → W_placeIn ret (17, [some (.inr (some 39)), some (.inl (nI f)), some (.inl (nI n))], [], μ, 0, 0) := by
        refine mm_loop _ _ (fun n => u.length - n) ?_
        rintro n ⟨n0, n1⟩ ih2
        have fin : (n ≠ u.length → ¬ hasP t u f) → (¬ n = u.length → W_placeIn ret (2, [some (.inr (some 39)), some (.inl (nI (f + 1))), some (.inl (nI n))], [], μ, 0, 0)) ∧ (¬ ¬ n = u.length → ret (some (.inl (nI f))) μ) := fun hno => by
          refine ⟨fun hne => ih (f + 1, some (.inl (nI n))) ⟨by dsimp only; omega, fun g hg => ?_⟩ (by dsimp only; omega), fun he => ?_⟩
          · by_cases hgf : g = f
            · subst hgf; exact hno hne
            · exact j1 g (by dsimp only at hg; omega)
          · have he := Classical.not_not.mp he
            subst hret
            rw [mI_e]
            exact ⟨rfl, Or.inl ⟨f, rfl, ⟨by omega, fun j x hj => n1 j x (by rw [he]; exact (List.getElem?_eq_some_iff.mp hj).1) hj⟩, j1⟩⟩
        rw [r_placeIn_17]
        simp only [r_placeIn_0, r_placeIn_1, r_placeIn_3, r_placeIn_4, r_placeIn_7, r_placeIn_8, r_placeIn_9, r_placeIn_12, r_placeIn_15, r_placeIn_16, r_placeIn_18, r_placeIn_19, r_placeIn_22, r_placeIn_25, r_placeIn_26, r_placeIn_29, r_placeIn_30, r_placeIn_31, r_placeIn_32, r_placeIn_33, r_placeIn_34, r_placeIn_37, r_placeIn_38, r_placeIn_41, r_placeIn_42, r_placeIn_43, r_placeIn_44, r_placeIn_47, r_placeIn_50, r_placeIn_53, r_placeIn_54, r_placeIn_55, r_placeIn_58, r_placeIn_61, r_placeIn_62, r_placeIn_63, r_placeIn_66, r_placeIn_69, r_placeIn_71, h1, h2, nI_add, nI_leI (show u.length < 2 ^ 31 by omega) (show n < 2 ^ 31 by omega), nI_eq (show n < 2 ^ 31 by omega) (show u.length < 2 ^ 31 by omega)]
        refine ⟨fun hle => fin (fun hne => by omega), fun hle => ?_⟩
        obtain ⟨y, hy⟩ : ∃ y, u[n]? = some y := ⟨_, List.getElem?_eq_getElem (show n < u.length by omega)⟩
        obtain ⟨x, hx⟩ : ∃ x, t[f + n]? = some x := ⟨_, List.getElem?_eq_getElem (show f + n < t.length by omega)⟩
        simp only [nI_clamp (show f + n < 2 ^ 31 by omega), vp_in_i (show f + n < 2 ^ 31 by omega), nI_clamp (show t.length + n < 2 ^ 31 by omega), vp_in_i (show t.length + n < 2 ^ 31 by omega), Bt_1 h hx, Bt_2 h hy]
        refine ⟨by omega, by omega, fun hne => fin (fun _ hp => ?_), fun he => ?_⟩
        · have := hp.2 n y hy
          rw [hx] at this
          cases this
          exact hne rfl
        · have he := Classical.not_not.mp he
          subst he
          refine ih2 (n + 1) ⟨by omega, fun j z hj hz => ?_⟩ (by omega)
          by_cases hjn : j = n
          · subst hjn; rw [hy] at hz; cases hz; exact hx
          · exact n1 j z (by omega) hz
      exact inner 0 ⟨Nat.zero_le _, fun j x hj => by omega⟩
  simp only [r_placeIn_0, r_placeIn_1, r_placeIn_3, r_placeIn_4, r_placeIn_7, r_placeIn_8, r_placeIn_9, r_placeIn_12, r_placeIn_15, r_placeIn_16, r_placeIn_18, r_placeIn_19, r_placeIn_22, r_placeIn_25, r_placeIn_26, r_placeIn_29, r_placeIn_30, r_placeIn_31, r_placeIn_32, r_placeIn_33, r_placeIn_34, r_placeIn_37, r_placeIn_38, r_placeIn_41, r_placeIn_42, r_placeIn_43, r_placeIn_44, r_placeIn_47, r_placeIn_50, r_placeIn_53, r_placeIn_54, r_placeIn_55, r_placeIn_58, r_placeIn_61, r_placeIn_62, r_placeIn_63, r_placeIn_66, r_placeIn_69, r_placeIn_71]
  exact key (0, none) ⟨by dsimp only; omega, fun g hg => by dsimp only at hg; omega⟩
theorem Int32_lt_not (x y : Int32) : x < y ↔ ¬ y ≤ x := by
  rw [Int32.lt_iff_toInt_lt, Int32.le_iff_toInt_le]; omega
theorem k_comesFirst {μ : rf_M} {t u : List Int32} (h : Bt μ t u) (ht : ∀ x ∈ t, (0 : Int32) < x) (hu : ∀ x ∈ u, (0 : Int32) < x) : P_comesFirst [.inr (some 39)] μ 0 0 (mI (fun r μ' => μ' = μ ∧ ((cfs t u ∧ r = 1) ∨ (¬ cfs t u ∧ r = 0)))) := by
  refine e_comesFirst μ _ ?_
  obtain ⟨h1, h2, h3, h4, h5⟩ := id h
  simp only [r_comesFirst_0, r_comesFirst_1, r_comesFirst_4, r_comesFirst_5, r_comesFirst_6, r_comesFirst_7, r_comesFirst_10, r_comesFirst_13, r_comesFirst_14, r_comesFirst_15, r_comesFirst_18, r_comesFirst_21, r_comesFirst_22, r_comesFirst_25, r_comesFirst_26, r_comesFirst_29, r_comesFirst_32, r_comesFirst_33, r_comesFirst_36, r_comesFirst_37, r_comesFirst_38, r_comesFirst_39, r_comesFirst_42, r_comesFirst_43, r_comesFirst_44, r_comesFirst_45, r_comesFirst_48, r_comesFirst_49, r_comesFirst_52, r_comesFirst_53, r_comesFirst_54, r_comesFirst_55, r_comesFirst_58, r_comesFirst_59, r_comesFirst_62, r_comesFirst_63, mI_e]
  refine ⟨_, k_alikeSigns h, ?_⟩
  rintro r s2 ⟨rfl, rfl⟩
  obtain ⟨l1, l2⟩ := lcp_le t u
  have e0 : ¬ ((0 : Int32) < 0) := by decide
  have short : (lcp t u = t.length ∨ lcp t u = u.length) → (u.length ≤ t.length → ¬ cfs t u) ∧ (¬ u.length ≤ t.length → cfs t u) := fun hs => by
    refine ⟨fun hle => ?_, fun hle => ?_⟩
    · have hn : lcp t u = u.length := by omega
      unfold cfs
      rw [hn, List.getD_eq_getElem?_getD, List.getD_eq_getElem?_getD, List.getElem?_eq_none (Nat.le_refl u.length)]
      intro hlt
      rcases Nat.lt_or_ge u.length t.length with hl | hl
      · rw [List.getElem?_eq_getElem hl] at hlt
        have := ht _ (List.getElem_mem hl)
        have a := Int32.lt_iff_toInt_lt.mp hlt
        have b := Int32.lt_iff_toInt_lt.mp this
        simp only [Option.getD_some, Option.getD_none] at a
        omega
      · rw [List.getElem?_eq_none hl] at hlt
        exact e0 hlt
    · have hn : lcp t u = t.length := by omega
      have hl : t.length < u.length := by omega
      unfold cfs
      rw [hn, List.getD_eq_getElem?_getD, List.getD_eq_getElem?_getD, List.getElem?_eq_none (Nat.le_refl t.length), List.getElem?_eq_getElem hl]
      exact hu _ (List.getElem_mem hl)
  have fin : (lcp t u = t.length ∨ lcp t u = u.length) → (u.length ≤ t.length → (nI 0 = (0 : Int32) ∨ nI 0 = (1 : Int32)) ∧ True ∧ (cfs t u ∧ nI 0 = (1 : Int32) ∨ ¬ cfs t u ∧ nI 0 = (0 : Int32))) ∧ (¬ u.length ≤ t.length → (nI 1 = (0 : Int32) ∨ nI 1 = (1 : Int32)) ∧ True ∧ (cfs t u ∧ nI 1 = (1 : Int32) ∨ ¬ cfs t u ∧ nI 1 = (0 : Int32))) := fun hs =>
    ⟨fun hl => ⟨Or.inl nI_0, trivial, Or.inr ⟨(short hs).1 hl, nI_0⟩⟩, fun hl => ⟨Or.inr rfl, trivial, Or.inl ⟨(short hs).2 hl, rfl⟩⟩⟩
  simp only [h1, h2, nI_eq (show lcp t u < 2 ^ 31 by omega) (show t.length < 2 ^ 31 by omega), nI_eq (show lcp t u < 2 ^ 31 by omega) (show u.length < 2 ^ 31 by omega), nI_leI (show u.length < 2 ^ 31 by omega) (show t.length < 2 ^ 31 by omega)]
  refine ⟨fun he => fin (Or.inl he), fun hne => ⟨fun hne2 => ?_, fun he => fin (Or.inr (Classical.not_not.mp he))⟩⟩
  obtain ⟨x, hx⟩ : ∃ x, t[lcp t u]? = some x := ⟨_, List.getElem?_eq_getElem (show lcp t u < t.length by omega)⟩
  obtain ⟨y, hy⟩ : ∃ y, u[lcp t u]? = some y := ⟨_, List.getElem?_eq_getElem (show lcp t u < u.length by omega)⟩
  simp only [nI_add, nI_clamp (show lcp t u < 2 ^ 31 by omega), vp_in_i (show lcp t u < 2 ^ 31 by omega), nI_clamp (show t.length + lcp t u < 2 ^ 31 by omega), vp_in_i (show t.length + lcp t u < 2 ^ 31 by omega), Bt_1 h hx, Bt_2 h hy]
  have hc : cfs t u ↔ x < y := by
    unfold cfs
    rw [List.getD_eq_getElem?_getD, List.getD_eq_getElem?_getD, hx, hy]
    exact Iff.rfl
  refine ⟨by omega, by omega, fun hle => ⟨Or.inl nI_0, ?_⟩, fun hle => ⟨Or.inr rfl, ?_⟩⟩
  · exact ⟨trivial, Or.inr ⟨fun z => (Int32_lt_not x y).mp (hc.mp z) hle, nI_0⟩⟩
  · exact ⟨trivial, Or.inl ⟨hc.mpr ((Int32_lt_not x y).mpr hle), rfl⟩⟩
theorem k_isWide {T : sT} {ι : Nat → Nat} {μ : rf_M} (hK : RK T ι μ) (hX : RX T ι μ) {sl : List Nat} (h8 : sl.length = 8) (hsl : AP (μ.2 9) (sl.map (fun p => nI (ι p)))) {j c : Nat} (hj : sl[j]? = some c) (hw : wf T 13 c) : P_isWide [.inr (some 39), .inl (nI j)] μ 0 0 (mI (fun r μ' => CH [21, 23, 24, 25, 26] μ μ' ∧ r = if wd (tx T 13 c) then 1 else 0)) := by
  refine e_isWide _ μ _ ?_
  generalize hret : (mI (fun r μ' => CH [21, 23, 24, 25, 26] μ μ' ∧ r = if wd (tx T 13 c) then 1 else 0)) = ret
  have hjl := (List.getElem?_eq_some_iff.mp hj).1
  have e9 : μ.2 9 j = nI (ι c) := hsl j _ (by rw [List.getElem?_map, hj]; rfl)
  simp only [r_isWide_0, r_isWide_1, r_isWide_2, r_isWide_5, r_isWide_6, r_isWide_7, r_isWide_8, r_isWide_11, r_isWide_12, r_isWide_13, r_isWide_14, r_isWide_15, r_isWide_19, r_isWide_20, r_isWide_23, r_isWide_24, r_isWide_27, r_isWide_28, r_isWide_31, r_isWide_33, r_isWide_34, r_isWide_37, r_isWide_40, r_isWide_41, r_isWide_44, r_isWide_45, r_isWide_46, r_isWide_49, r_isWide_52, r_isWide_53, nI_clamp (show j < 2 ^ 31 by omega), vp_in_i (show j < 2 ^ 31 by omega), show j < 8 by omega, true_and, e9]
  refine ⟨_, k_layText hK hX hw (pre := []) (AP_nil _) (by simp), ?_⟩
  rintro r s' ⟨rfl, h1, h2, h3⟩
  have lc := (wf_okt 13 c hw).1
  rw [List.nil_append] at h3
  generalize tx T 13 c = t at h3 lc hret
  have key : ∀ i : Nat, i ≤ t.length → W_isWide ret (17, [some (.inr (some 39)), some (.inl (nI j)), some (.inl (nI t.length)), some (.inl (if wd (t.take i) then 1 else 0)), some (.inl (nI i))], [], s', 0, 0) := by
    refine mm_loop _ _ (fun i => t.length - i) ?_
    intro i hi ih
    rw [r_isWide_17]
    simp only [r_isWide_0, r_isWide_1, r_isWide_2, r_isWide_5, r_isWide_6, r_isWide_7, r_isWide_8, r_isWide_11, r_isWide_12, r_isWide_13, r_isWide_14, r_isWide_15, r_isWide_19, r_isWide_20, r_isWide_23, r_isWide_24, r_isWide_27, r_isWide_28, r_isWide_31, r_isWide_33, r_isWide_34, r_isWide_37, r_isWide_40, r_isWide_41, r_isWide_44, r_isWide_45, r_isWide_46, r_isWide_49, r_isWide_52, r_isWide_53, nI_leI (show t.length < 2 ^ 31 by omega) (show i < 2 ^ 31 by omega), nI_add]
    refine ⟨fun hle => ?_, fun hle => ?_⟩
    · have : i = t.length := by omega
      subst this
      rw [List.take_length]
      refine ⟨?_, ?_⟩
      · split
        · exact Or.inr rfl
        · exact Or.inl rfl
      · subst hret
        rw [mI_e]
        exact ⟨h1, rfl⟩
    · obtain ⟨x, hx⟩ : ∃ x, t[i]? = some x := ⟨_, List.getElem?_eq_getElem (show i < t.length by omega)⟩
      have hh := ih (i + 1) (by omega) (by omega)
      rw [wd_succ hx] at hh
      have e21 := h3 i x hx
      simp only [nI_clamp (show i < 2 ^ 31 by omega), vp_in_i (show i < 2 ^ 31 by omega), show i < 240 by omega, true_and, e21]
      by_cases hwd : wd (t.take i) = true
      · rw [hwd] at hh ⊢
        refine ⟨fun _ => hh, fun z => absurd (by decide) z⟩
      · rw [Bool.not_eq_true] at hwd
        rw [hwd] at hh ⊢
        refine ⟨fun z => absurd rfl z, fun _ => ⟨fun hle => ?_, fun hle => ?_⟩⟩
        · have hd : decide (nI 255 < x) = false := decide_eq_false (fun z => (Int32_lt_not _ _).mp z hle)
          rw [hd] at hh
          exact hh
        · have hd : decide (nI 255 < x) = true := decide_eq_true ((Int32_lt_not _ _).mpr hle)
          rw [hd] at hh
          exact hh
  have hh := key 0 (Nat.zero_le _)
  exact hh
/-- the reference, held against what it stands for -/
def MS (T : sT) (ι : Nat → Nat) (μ : rf_M) (B sp e : Nat) (sl : List Nat) (im : Nat → Option (List Nat)) (en nu : List Nat) (ev : Nat) (dr : List Int32) (sm dp lo : Nat) : Prop :=
  RR T ι μ B sp e ∧ RO ι μ sl im en ∧ (∀ r ∈ rts sl im en, wf T 12 r) ∧ nu.length = en.length ∧ AP (μ.2 13) (nu.map nI) ∧ μ.1 15 = nI ev ∧ (dr.length ≤ 40 ∧ μ.1 17 = nI dr.length ∧ AP (μ.2 16) dr ∧ ∀ x ∈ dr, (0 : Int32) < x) ∧ (μ.1 18 = nI sm ∧ μ.1 19 = nI dp ∧ μ.1 20 = nI lo) ∧ (sm ≤ 32 ∧ 1 ≤ dp ∧ dp ≤ 12 ∧ 1 ≤ lo ∧ lo ≤ 8)
section
variable {T : sT} {ι : Nat → Nat} {μ μ' : rf_M} {B sp e : Nat} {sl : List Nat} {im : Nat → Option (List Nat)} {en nu : List Nat} {ev : Nat} {dr : List Int32} {sm dp lo : Nat}
theorem MS_ch {l : List Nat} (h : MS T ι μ B sp e sl im en nu ev dr sm dp lo) (hc : CH l μ μ') (hl : ∀ k ∈ [0, 1, 2, 3, 5, 6, 7, 8, 9, 10, 11, 12, 13, 14, 15, 16, 17, 18, 19, 20], k ∉ l) : MS T ι μ' B sp e sl im en nu ev dr sm dp lo := by
  obtain ⟨h1, h2, h3, h4, h5, h6, ⟨h7, h8, h9, h10⟩, ⟨h11, h12, h13⟩, h14⟩ := h
  have g := fun k hk => hc k (hl k hk)
  refine ⟨RR_ch h1 hc (fun k hk => hl k ?_), RO_ch h2 hc (fun k hk => hl k ?_), h3, h4, by rw [(g 13 (by decide)).2]; exact h5, by rw [(g 15 (by decide)).1]; exact h6, ⟨h7, by rw [(g 17 (by decide)).1]; exact h8, by rw [(g 16 (by decide)).2]; exact h9, h10⟩, ⟨by rw [(g 18 (by decide)).1]; exact h11, by rw [(g 19 (by decide)).1]; exact h12, by rw [(g 20 (by decide)).1]; exact h13⟩, h14⟩
  · revert k; decide
  · revert k; decide
theorem MS_sl (h : MS T ι μ B sp e sl im en nu ev dr sm dp lo) {j c : Nat} (hj : sl[j]? = some c) : wf T 12 c ∧ wf T 13 c ∧ T c ≠ none ∧ ι c < 20480 ∧ μ.2 9 j = nI (ι c) ∧ μ.2 3 (ι c) = nI (tx T 13 c).length ∧ tx T 13 c = tx T 12 c := by
  have hm : c ∈ rts sl im en := by simp [rts, List.mem_of_getElem? hj]
  have hw := h.2.2.1 c hm
  obtain ⟨v, hv⟩ := Option.ne_none_iff_exists'.mp (wf_nn hw)
  obtain ⟨k1, -, k3⟩ := h.1.1 c v hv
  exact ⟨hw, (wf_up 12 c hw).1, wf_nn hw, k1, h.2.1.1.2 j _ (by rw [List.getElem?_map, hj]; rfl), k3, (wf_up 12 c hw).2.1⟩
end
