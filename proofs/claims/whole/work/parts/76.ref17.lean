/-! ===== the reference: small readers ===== -/
theorem k_isSlot (μ : rf_M) (s : Int32) : P_isSlot [.inl s] μ 0 0 (mI (fun r μ' => μ' = μ ∧ r = if nI 0 ≤ s ∧ s ≤ nI 7 then 1 else 0)) := by
  refine e_isSlot s μ _ ?_
  simp only [r_isSlot_0, r_isSlot_1, r_isSlot_2, r_isSlot_4, r_isSlot_7, mI_e]
  refine ⟨_, k_in μ s (nI 0) (nI 7), ?_⟩
  rintro r s' ⟨rfl, rfl⟩
  refine ⟨?_, rfl, rfl⟩
  split
  · exact Or.inr rfl
  · exact Or.inl rfl
theorem wd_succ {t : List Int32} {i : Nat} {x : Int32} (h : t[i]? = some x) : wd (t.take (i + 1)) = (wd (t.take i) || decide (nI 255 < x)) := by
  rw [List.take_add_one, h]
  simp [wd, List.any_append]
theorem k_roomOf {T : sT} {ι : Nat → Nat} {μ : rf_M} (hK : RK T ι μ) (hX : RX T ι μ) (hT : ∀ c, T c ≠ none → wf T 13 c) {c : Nat} (hc : T c ≠ none) : P_roomOf [.inr (some 39), .inl (nI (ι c))] μ 0 0 (mI (fun r μ' => μ' = μ ∧ r = nI (rm T c))) := by
  refine e_roomOf _ μ _ ?_
  generalize hret : (mI (fun r μ' => μ' = μ ∧ r = nI (rm T c))) = ret
  obtain ⟨v, hv⟩ := Option.ne_none_iff_exists'.mp hc
  obtain ⟨hi, hk, hz⟩ := hK c v hv
  rcases v with t | q | q
  · obtain ⟨p, p1, p2, p3⟩ := hX c t hv
    have hk : μ.2 0 (ι c) = nI 1 := hk
    rw [tx_leaf hv] at hz
    have hl := (wf_okt 13 c (hT c hc)).1
    rw [tx_leaf hv] at hl
    have key : ∀ i : Nat, i ≤ t.length → W_roomOf ret (32, [some (.inr (some 39)), some (.inl (nI (ι c))), some (.inl (nI (if wd (t.take i) then 2 else 1))), some (.inl (nI i))], [], μ, 0, 0) := by
      refine mm_loop _ _ (fun i => t.length - i) ?_
      intro i hil ih
      rw [r_roomOf_32]
      simp only [r_roomOf_0, r_roomOf_1, r_roomOf_4, r_roomOf_5, r_roomOf_6, r_roomOf_7, r_roomOf_10, r_roomOf_11, r_roomOf_14, r_roomOf_15, r_roomOf_16, r_roomOf_17, r_roomOf_20, r_roomOf_22, r_roomOf_25, r_roomOf_27, r_roomOf_28, r_roomOf_29, r_roomOf_30, r_roomOf_31, r_roomOf_33, r_roomOf_34, r_roomOf_37, r_roomOf_38, r_roomOf_39, r_roomOf_42, r_roomOf_43, r_roomOf_46, r_roomOf_47, r_roomOf_50, r_roomOf_51, r_roomOf_52, r_roomOf_53, r_roomOf_54, r_roomOf_55, r_roomOf_58, r_roomOf_61, r_roomOf_62, r_roomOf_65, r_roomOf_66, r_roomOf_67, r_roomOf_70, r_roomOf_73, r_roomOf_75, r_roomOf_76, r_roomOf_77, r_roomOf_80, r_roomOf_81, r_roomOf_82, r_roomOf_83, r_roomOf_84, nI_clamp (show ι c < 2 ^ 31 by omega), vp_in_i (show ι c < 2 ^ 31 by omega), hi, true_and, hz, nI_leI (show t.length < 2 ^ 31 by omega) (show i < 2 ^ 31 by omega), p1]
      refine ⟨fun hle => ?_, fun hle => ?_⟩
      · have : i = t.length := by omega
        subst this
        rw [List.take_length]
        subst hret
        rw [mI_e]
        refine ⟨rfl, ?_⟩
        simp only [rm, hv]
        rw [nI_mul, nI_add]
      · obtain ⟨x, hx⟩ : ∃ x, t[i]? = some x := ⟨_, List.getElem?_eq_getElem (show i < t.length by omega)⟩
        have hh := ih (i + 1) (by omega) (by omega)
        rw [wd_succ hx] at hh
        simp only [nI_add, nI_clamp (show p + i < 2 ^ 31 by omega), vp_in_i (show p + i < 2 ^ 31 by omega), show p + i < 81920 by omega, true_and, p3 i x hx]
        have hlt : (nI 255 < x) ↔ ¬ (x ≤ nI 255) := by
          rw [Int32.lt_iff_toInt_lt, Int32.le_iff_toInt_le]; omega
        refine ⟨fun hle => ?_, fun hle => ?_⟩
        · have hd : decide (nI 255 < x) = false := decide_eq_false (fun z => hlt.mp z hle)
          rw [hd, Bool.or_false] at hh
          exact hh
        · have hd : decide (nI 255 < x) = true := decide_eq_true (hlt.mpr hle)
          rw [hd, Bool.or_true] at hh
          exact hh
    simp only [r_roomOf_0, r_roomOf_1, r_roomOf_4, r_roomOf_5, r_roomOf_6, r_roomOf_7, r_roomOf_10, r_roomOf_11, r_roomOf_14, r_roomOf_15, r_roomOf_16, r_roomOf_17, r_roomOf_20, r_roomOf_22, r_roomOf_25, r_roomOf_27, r_roomOf_28, r_roomOf_29, r_roomOf_30, r_roomOf_31, r_roomOf_33, r_roomOf_34, r_roomOf_37, r_roomOf_38, r_roomOf_39, r_roomOf_42, r_roomOf_43, r_roomOf_46, r_roomOf_47, r_roomOf_50, r_roomOf_51, r_roomOf_52, r_roomOf_53, r_roomOf_54, r_roomOf_55, r_roomOf_58, r_roomOf_61, r_roomOf_62, r_roomOf_65, r_roomOf_66, r_roomOf_67, r_roomOf_70, r_roomOf_73, r_roomOf_75, r_roomOf_76, r_roomOf_77, r_roomOf_80, r_roomOf_81, r_roomOf_82, r_roomOf_83, r_roomOf_84, nI_clamp (show ι c < 2 ^ 31 by omega), vp_in_i (show ι c < 2 ^ 31 by omega), hi, true_and, hk]
    refine ⟨fun _ => ?_, fun z => absurd trivial z⟩
    have hh := key 0 (Nat.zero_le _)
    exact hh
  · obtain ⟨hk, -, -⟩ := hk
    subst hret
    simp only [r_roomOf_0, r_roomOf_1, r_roomOf_4, r_roomOf_5, r_roomOf_6, r_roomOf_7, r_roomOf_10, r_roomOf_11, r_roomOf_14, r_roomOf_15, r_roomOf_16, r_roomOf_17, r_roomOf_20, r_roomOf_22, r_roomOf_25, r_roomOf_27, r_roomOf_28, r_roomOf_29, r_roomOf_30, r_roomOf_31, r_roomOf_33, r_roomOf_34, r_roomOf_37, r_roomOf_38, r_roomOf_39, r_roomOf_42, r_roomOf_43, r_roomOf_46, r_roomOf_47, r_roomOf_50, r_roomOf_51, r_roomOf_52, r_roomOf_53, r_roomOf_54, r_roomOf_55, r_roomOf_58, r_roomOf_61, r_roomOf_62, r_roomOf_65, r_roomOf_66, r_roomOf_67, r_roomOf_70, r_roomOf_73, r_roomOf_75, r_roomOf_76, r_roomOf_77, r_roomOf_80, r_roomOf_81, r_roomOf_82, r_roomOf_83, r_roomOf_84, nI_clamp (show ι c < 2 ^ 31 by omega), vp_in_i (show ι c < 2 ^ 31 by omega), hi, true_and, hk, mI_e, rm, hv]
    exact ⟨fun z => absurd z (by decide), fun _ => ⟨fun z => absurd trivial z, fun _ => trivial⟩⟩
  · obtain ⟨hk, -, -⟩ := hk
    subst hret
    simp only [r_roomOf_0, r_roomOf_1, r_roomOf_4, r_roomOf_5, r_roomOf_6, r_roomOf_7, r_roomOf_10, r_roomOf_11, r_roomOf_14, r_roomOf_15, r_roomOf_16, r_roomOf_17, r_roomOf_20, r_roomOf_22, r_roomOf_25, r_roomOf_27, r_roomOf_28, r_roomOf_29, r_roomOf_30, r_roomOf_31, r_roomOf_33, r_roomOf_34, r_roomOf_37, r_roomOf_38, r_roomOf_39, r_roomOf_42, r_roomOf_43, r_roomOf_46, r_roomOf_47, r_roomOf_50, r_roomOf_51, r_roomOf_52, r_roomOf_53, r_roomOf_54, r_roomOf_55, r_roomOf_58, r_roomOf_61, r_roomOf_62, r_roomOf_65, r_roomOf_66, r_roomOf_67, r_roomOf_70, r_roomOf_73, r_roomOf_75, r_roomOf_76, r_roomOf_77, r_roomOf_80, r_roomOf_81, r_roomOf_82, r_roomOf_83, r_roomOf_84, nI_clamp (show ι c < 2 ^ 31 by omega), vp_in_i (show ι c < 2 ^ 31 by omega), hi, true_and, hk, mI_e, rm, hv]
    exact ⟨fun z => absurd z (by decide), fun _ => ⟨fun _ => trivial, fun z => absurd (by decide) z⟩⟩
/-- sums over the marked below a number -/
def SV (T : sT) (ι : Nat → Nat) (i : Nat) : List Nat → Nat
  | [] => 0
  | x :: V => (if ι x < i then rm T x else 0) + SV T ι i V
theorem SV_0 (T : sT) (ι : Nat → Nat) : ∀ V, SV T ι 0 V = 0
  | [] => rfl
  | x :: V => by simp [SV, SV_0 T ι V]
theorem SV_all {T : sT} {ι : Nat → Nat} {N : Nat} : ∀ V : List Nat, (∀ x ∈ V, ι x < N) → SV T ι N V = (V.map (rm T)).sum
  | [], _ => rfl
  | x :: V, h => by simp only [SV, List.map_cons, List.sum_cons, if_pos (h x List.mem_cons_self), SV_all V (fun y hy => h y (List.mem_cons_of_mem _ hy))]
theorem SV_none {T : sT} {ι : Nat → Nat} {i : Nat} : ∀ V : List Nat, (∀ x ∈ V, ι x ≠ i) → SV T ι (i + 1) V = SV T ι i V
  | [], _ => rfl
  | x :: V, h => by
    have h1 := h x List.mem_cons_self
    have ih := SV_none (T := T) V (fun y hy => h y (List.mem_cons_of_mem _ hy))
    simp only [SV, ih]
    by_cases hx : ι x < i
    · rw [if_pos hx, if_pos (by omega)]
    · rw [if_neg hx, if_neg (by omega)]
theorem SV_one {T : sT} {ι : Nat → Nat} {x : Nat} : ∀ V : List Nat, V.Nodup → x ∈ V → (∀ y ∈ V, ι y = ι x → y = x) → SV T ι (ι x + 1) V = SV T ι (ι x) V + rm T x
  | [], _, hx, _ => by simp at hx
  | y :: V, hn, hx, hu => by
    obtain ⟨h1, h2⟩ := List.nodup_cons.mp hn
    by_cases hyx : y = x
    · subst hyx
      have := SV_none (T := T) (ι := ι) (i := ι y) V (fun z hz e => h1 (hu z (List.mem_cons_of_mem _ hz) e ▸ hz))
      simp only [SV, this]
      rw [if_pos (by omega), if_neg (by omega)]
      omega
    · have hxV : x ∈ V := by
        rcases List.mem_cons.mp hx with h | h
        · exact absurd h.symm hyx
        · exact h
      have ih := SV_one (T := T) V h2 hxV (fun z hz => hu z (List.mem_cons_of_mem _ hz))
      have hne : ι y ≠ ι x := fun e => hyx (hu y List.mem_cons_self e)
      simp only [SV, ih]
      by_cases hl : ι y < ι x
      · rw [if_pos hl, if_pos (by omega)]; omega
      · rw [if_neg hl, if_neg (by omega)]; omega
theorem k_roomOfMarked {T : sT} {ι : Nat → Nat} {μ : rf_M} (hK : RK T ι μ) (hX : RX T ι μ) (hinj : ∀ a b, T a ≠ none → T b ≠ none → ι a = ι b → a = b) (hT : ∀ c, T c ≠ none → wf T 13 c) {V : List Nat} (hV : okV T V) (hM : MKS ι μ V) : P_roomOfMarked [.inr (some 39)] μ 0 0 (mI (fun r μ' => μ' = μ ∧ r = nI (V.map (rm T)).sum)) := by
  refine e_roomOfMarked μ _ ?_
  generalize hret : (mI (fun r μ' => μ' = μ ∧ r = nI (V.map (rm T)).sum)) = ret
  have hlt : ∀ x ∈ V, ι x < 20480 := fun x hx => by
    obtain ⟨v, hv⟩ := Option.ne_none_iff_exists'.mp (hV.2 x hx)
    exact (hK x v hv).1
  have key : ∀ i : Nat, i ≤ 20480 → W_roomOfMarked ret (4, [some (.inr (some 39)), some (.inl (nI (SV T ι i V))), some (.inl (nI i))], [], μ, 0, 0) := by
    refine mm_loop _ _ (fun i => 20480 - i) ?_
    intro i hi ih
    rw [r_roomOfMarked_4]
    simp only [r_roomOfMarked_0, r_roomOfMarked_1, r_roomOfMarked_2, r_roomOfMarked_3, r_roomOfMarked_5, r_roomOfMarked_8, r_roomOfMarked_11, r_roomOfMarked_12, r_roomOfMarked_13, r_roomOfMarked_16, r_roomOfMarked_17, r_roomOfMarked_18, r_roomOfMarked_21, r_roomOfMarked_22, r_roomOfMarked_23, r_roomOfMarked_26, r_roomOfMarked_29, r_roomOfMarked_30, r_roomOfMarked_31, r_roomOfMarked_32, r_roomOfMarked_35, r_roomOfMarked_38, r_roomOfMarked_39, nI_leI (show 20480 < 2 ^ 31 by omega) (show i < 2 ^ 31 by omega), nI_clamp (show i < 2 ^ 31 by omega), vp_in_i (show i < 2 ^ 31 by omega), nI_add]
    refine ⟨fun hle => ?_, fun hle => ⟨by omega, fun hz => ?_, fun hz => ?_⟩⟩
    · have : i = 20480 := by omega
      subst this
      subst hret
      rw [mI_e, SV_all V hlt]
      exact ⟨rfl, rfl⟩
    · have hh := ih (i + 1) (by omega) (by omega)
      rw [SV_none V (fun x hx e => by
        have := (hM i (by omega)).2.mpr ⟨x, hx, e⟩
        rw [hz] at this
        exact absurd this (by decide))] at hh
      exact hh
    · obtain ⟨x, hx, rfl⟩ := (hM i (by omega)).2.mp ((hM i (by omega)).1.resolve_left hz)
      refine ⟨_, k_roomOf hK hX hT (hV.2 x hx), ?_⟩
      rintro r s' ⟨rfl, rfl⟩
      have hh := ih (ι x + 1) (by omega) (by omega)
      rw [SV_one V hV.1 hx (fun y hy e => hinj y x (hV.2 y hy) (hV.2 x hx) e)] at hh
      simp only [nI_add]
      exact hh
  simp only [r_roomOfMarked_0, r_roomOfMarked_1, r_roomOfMarked_2, r_roomOfMarked_3, r_roomOfMarked_5, r_roomOfMarked_8, r_roomOfMarked_11, r_roomOfMarked_12, r_roomOfMarked_13, r_roomOfMarked_16, r_roomOfMarked_17, r_roomOfMarked_18, r_roomOfMarked_21, r_roomOfMarked_22, r_roomOfMarked_23, r_roomOfMarked_26, r_roomOfMarked_29, r_roomOfMarked_30, r_roomOfMarked_31, r_roomOfMarked_32, r_roomOfMarked_35, r_roomOfMarked_38, r_roomOfMarked_39]
  have hh := key 0 (by omega)
  rw [SV_0] at hh
  exact hh
/-- what the slots have is marked: how many -/
theorem k_markHeld {T : sT} {ι : Nat → Nat} {μ : rf_M} (hK : RK T ι μ) (hinj : ∀ a b, T a ≠ none → T b ≠ none → ι a = ι b → a = b) (hT : ∀ c, T c ≠ none → wf T 13 c) {sl : List Nat} (h8 : sl.length = 8) (hsl : AP (μ.2 9) (sl.map (fun p => nI (ι p)))) (hR : ∀ r ∈ sl, T r ≠ none) : P_markHeld [.inr (some 39)] μ 0 0 (mI (fun r μ' => ∃ V, okV T V ∧ MKS ι μ' V ∧ (∀ x, x ∈ V ↔ x ∈ sl.flatMap (rl T 13)) ∧ r = nI V.length ∧ CH [4, 22] μ μ')) := by
  refine e_markHeld μ _ ?_
  generalize hret : (mI (fun r μ' => ∃ V, okV T V ∧ MKS ι μ' V ∧ (∀ x, x ∈ V ↔ x ∈ sl.flatMap (rl T 13)) ∧ r = nI V.length ∧ CH [4, 22] μ μ')) = ret
  have key : ∀ y : Nat × List Nat × rf_M, (y.1 ≤ 8 ∧ GI T ι μ sl y.2.1 y.2.2 ∧ ∀ x, x ∈ y.2.1 ↔ x ∈ (sl.take y.1).flatMap (rl T 13)) → W_markHeld ret (8, [some (.inr (some 39)), some (.inl (nI y.2.1.length)), some (.inl (nI y.1))], [], y.2.2, 0, 0) := by
    refine mm_loop _ _ (fun y => 8 - y.1) ?_
    rintro ⟨i, V, μ1⟩ ⟨j0, j1, j2⟩ ih
    dsimp only at j0 j1 j2 ⊢
    rw [r_markHeld_8]
    simp only [r_markHeld_0, r_markHeld_1, r_markHeld_4, r_markHeld_5, r_markHeld_6, r_markHeld_7, r_markHeld_9, r_markHeld_11, r_markHeld_14, r_markHeld_15, r_markHeld_16, r_markHeld_17, r_markHeld_20, r_markHeld_21, r_markHeld_22, r_markHeld_25, r_markHeld_26, r_markHeld_27, r_markHeld_30, r_markHeld_33, r_markHeld_34, nI_leI (show 8 < 2 ^ 31 by omega) (show i < 2 ^ 31 by omega)]
    refine ⟨fun hle => ?_, fun hle => ?_⟩
    · have : i = 8 := by omega
      subst this
      rw [List.take_of_length_le (by omega)] at j2
      subst hret
      rw [mI_e]
      exact ⟨V, j1.1, j1.2.1, j2, rfl, j1.2.2.2.2⟩
    · obtain ⟨x, hx⟩ : ∃ x, sl[i]? = some x := ⟨_, List.getElem?_eq_getElem (show i < sl.length by omega)⟩
      have hxm := List.mem_of_getElem? hx
      have e9 : μ1.2 9 i = nI (ι x) := by
        rw [(j1.2.2.2.2 9 (by decide)).2]
        exact hsl i _ (by rw [List.getElem?_map, hx]; rfl)
      simp only [nI_clamp (show i < 2 ^ 31 by omega), vp_in_i (show i < 2 ^ 31 by omega), show i < 8 by omega, true_and, e9]
      refine ⟨_, GI_mark hK hinj hT j1 hxm (hR x hxm), ?_⟩
      rintro r s' ⟨V', v1, v2, v3, v4, v5, rfl⟩
      have hh := ih (i + 1, V', s') ⟨by dsimp only; omega, v1, fun z => ?_⟩ (by dsimp only; omega)
      · simp only [nI_add]
        rw [show V.length + (V'.length - V.length) = V'.length by omega]
        exact hh
      · dsimp only
        rw [v4, j2, fm_take_succ (rl T 13) sl hx, List.mem_append]
  simp only [r_markHeld_0, r_markHeld_1, r_markHeld_4, r_markHeld_5, r_markHeld_6, r_markHeld_7, r_markHeld_9, r_markHeld_11, r_markHeld_14, r_markHeld_15, r_markHeld_16, r_markHeld_17, r_markHeld_20, r_markHeld_21, r_markHeld_22, r_markHeld_25, r_markHeld_26, r_markHeld_27, r_markHeld_30, r_markHeld_33, r_markHeld_34]
  refine ⟨_, k_clearMarks μ, ?_⟩
  rintro s' ⟨h1, h2⟩
  exact key (0, [], s') ⟨by dsimp only; omega, ⟨⟨List.nodup_nil, fun x hx => by simp at hx⟩, MKS_0 h2, fun x hx => by simp at hx, fun x hx => by simp at hx, CH_w h1 (by decide)⟩, fun x => by simp⟩
/-- two texts lie one behind the other -/
def Bt (μ : rf_M) (t u : List Int32) : Prop := μ.1 37 = nI t.length ∧ μ.1 38 = nI u.length ∧ AP (μ.2 21) (t ++ u) ∧ t.length ≤ 120 ∧ u.length ≤ 120
theorem Bt_1 {μ : rf_M} {t u : List Int32} (h : Bt μ t u) {j : Nat} {x : Int32} (hj : t[j]? = some x) : μ.2 21 j = x := h.2.2.1 j x (by rw [List.getElem?_append_left (List.getElem?_eq_some_iff.mp hj).1]; exact hj)
theorem Bt_2 {μ : rf_M} {t u : List Int32} (h : Bt μ t u) {j : Nat} {x : Int32} (hj : u[j]? = some x) : μ.2 21 (t.length + j) = x := h.2.2.1 _ x (by rw [List.getElem?_append_right (by omega), show t.length + j - t.length = j by omega]; exact hj)
theorem k_layBoth {T : sT} {ι : Nat → Nat} {μ : rf_M} (hK : RK T ι μ) (hX : RX T ι μ) {a b : Nat} (ha : wf T 13 a) (hb : wf T 13 b) : P_layBoth [.inr (some 39), .inl (nI (ι a)), .inl (nI (ι b))] μ 0 0 (mN (fun μ' => CH [21, 23, 24, 25, 26, 37, 38] μ μ' ∧ Bt μ' (tx T 13 a) (tx T 13 b))) := by
  refine e_layBoth _ _ μ _ ?_
  simp only [r_layBoth_0, r_layBoth_1, r_layBoth_2, r_layBoth_3, r_layBoth_4, r_layBoth_7, r_layBoth_10, r_layBoth_11, r_layBoth_12, r_layBoth_13, r_layBoth_14, r_layBoth_17, r_layBoth_20, r_layBoth_23]
  refine ⟨_, k_layText hK hX ha (pre := []) (AP_nil _) (by simp), ?_⟩
  rintro r s' ⟨rfl, h1, h2, h3⟩
  have la := (wf_okt 13 a ha).1
  have lb := (wf_okt 13 b hb).1
  have e37 : upd s'.1 37 (nI (tx T 13 a).length) 37 = nI (tx T 13 a).length := pk_us
  simp only [e37]
  have c1 : CH [21, 23, 24, 25, 26, 37] μ (upd s'.1 37 (nI (tx T 13 a).length), s'.2) := CH_i (CH_w h1 (by decide)) (by decide)
  refine ⟨_, k_layText (RK_ch hK c1 (by decide) (by decide) (by decide) (by decide)) (RX_ch hX c1 (by decide) (by decide)) hb (pre := tx T 13 a) (by simpa using h3) la, ?_⟩
  rintro r s2 ⟨rfl, g1, g2, g3⟩
  rw [mN_e]
  refine ⟨CH_i (CH_tr c1 g1 (by decide) (by decide)) (by decide), ?_, ?_, g3, la, lb⟩
  · show upd s2.1 38 (nI (tx T 13 b).length) 37 = _
    rw [pk_un (by decide), (g1 37 (by decide)).1]
    exact e37
  · show upd s2.1 38 (nI (tx T 13 b).length) 38 = _
    exact pk_us
theorem k_alikeSigns {μ : rf_M} {t u : List Int32} (h : Bt μ t u) : P_alikeSigns [.inr (some 39)] μ 0 0 (mI (fun r μ' => μ' = μ ∧ r = nI (lcp t u))) := by
  refine e_alikeSigns μ _ ?_
  generalize hret : (mI (fun r μ' => μ' = μ ∧ r = nI (lcp t u))) = ret
  obtain ⟨h1, h2, h3, h4, h5⟩ := id h
  have key : ∀ n : Nat, (∀ j, j < n → ∃ x, t[j]? = some x ∧ u[j]? = some x) → W_alikeSigns ret (2, [some (.inr (some 39)), some (.inl (nI n))], [], μ, 0, 0) := by
    refine mm_loop _ _ (fun n => 121 - n) ?_
    intro n hn ih
    have hnt : n ≤ t.length ∧ n ≤ u.length := by
      rcases Nat.eq_zero_or_pos n with hz | hz
      · omega
      · obtain ⟨x, a, b⟩ := hn (n - 1) (by omega)
        have := (List.getElem?_eq_some_iff.mp a).1
        have := (List.getElem?_eq_some_iff.mp b).1
        omega
    have fin : (t.length ≤ n ∨ u.length ≤ n ∨ ∃ x y, t[n]? = some x ∧ u[n]? = some y ∧ x ≠ y) → ret (some (.inl (nI n))) μ := fun hf => by
      subst hret
      rw [mI_e, lcp_u n t u hn hf]
      exact ⟨rfl, rfl⟩
    rw [r_alikeSigns_2]
    simp only [r_alikeSigns_0, r_alikeSigns_1, r_alikeSigns_3, r_alikeSigns_4, r_alikeSigns_7, r_alikeSigns_10, r_alikeSigns_11, r_alikeSigns_12, r_alikeSigns_15, r_alikeSigns_18, r_alikeSigns_19, r_alikeSigns_22, r_alikeSigns_23, r_alikeSigns_24, r_alikeSigns_25, r_alikeSigns_28, r_alikeSigns_29, r_alikeSigns_32, r_alikeSigns_33, r_alikeSigns_34, r_alikeSigns_35, r_alikeSigns_38, r_alikeSigns_41, r_alikeSigns_44, r_alikeSigns_45, h1, h2, nI_leI (show t.length < 2 ^ 31 by omega) (show n < 2 ^ 31 by omega), nI_leI (show u.length < 2 ^ 31 by omega) (show n < 2 ^ 31 by omega)]
    refine ⟨fun hl => fin (Or.inl hl), fun hl => ⟨fun hl2 => fin (Or.inr (Or.inl hl2)), fun hl2 => ?_⟩⟩
    obtain ⟨x, hx⟩ : ∃ x, t[n]? = some x := ⟨_, List.getElem?_eq_getElem (show n < t.length by omega)⟩
    obtain ⟨y, hy⟩ : ∃ y, u[n]? = some y := ⟨_, List.getElem?_eq_getElem (show n < u.length by omega)⟩
    simp only [nI_add, nI_clamp (show n < 2 ^ 31 by omega), vp_in_i (show n < 2 ^ 31 by omega), nI_clamp (show t.length + n < 2 ^ 31 by omega), vp_in_i (show t.length + n < 2 ^ 31 by omega), Bt_1 h hx, Bt_2 h hy]
    refine ⟨by omega, by omega, fun hne => fin (Or.inr (Or.inr ⟨x, y, hx, hy, hne⟩)), fun he => ?_⟩
    have he := Classical.not_not.mp he
    subst he
    refine ih (n + 1) (fun j hj => ?_) (by omega)
    by_cases hjn : j = n
    · subst hjn; exact ⟨x, hx, hy⟩
    · exact hn j (by omega)
  simp only [r_alikeSigns_0, r_alikeSigns_1, r_alikeSigns_3, r_alikeSigns_4, r_alikeSigns_7, r_alikeSigns_10, r_alikeSigns_11, r_alikeSigns_12, r_alikeSigns_15, r_alikeSigns_18, r_alikeSigns_19, r_alikeSigns_22, r_alikeSigns_23, r_alikeSigns_24, r_alikeSigns_25, r_alikeSigns_28, r_alikeSigns_29, r_alikeSigns_32, r_alikeSigns_33, r_alikeSigns_34, r_alikeSigns_35, r_alikeSigns_38, r_alikeSigns_41, r_alikeSigns_44, r_alikeSigns_45]
  exact key 0 (fun j hj => by omega)
theorem k_areSame {T : sT} {ι : Nat → Nat} {μ : rf_M} (hK : RK T ι μ) (hX : RX T ι μ) {a b : Nat} (ha : wf T 13 a) (hb : wf T 13 b) : P_areSame [.inr (some 39), .inl (nI (ι a)), .inl (nI (ι b))] μ 0 0 (mI (fun r μ' => (CH [21, 23, 24, 25, 26, 37, 38] μ μ' ∧ Bt μ' (tx T 13 a) (tx T 13 b)) ∧ r = if tx T 13 a = tx T 13 b then 1 else 0)) := by
  refine e_areSame _ _ μ _ ?_
  simp only [r_areSame_0, r_areSame_1, r_areSame_2, r_areSame_3, r_areSame_6, r_areSame_7, r_areSame_10, r_areSame_11, r_areSame_14, r_areSame_17, r_areSame_18, r_areSame_21, r_areSame_22, r_areSame_25, r_areSame_28, r_areSame_29, r_areSame_32, r_areSame_33, mI_e]
  refine ⟨_, k_layBoth hK hX ha hb, ?_⟩
  rintro s' ⟨h1, h2⟩
  obtain ⟨g1, g2, g3, g4, g5⟩ := id h2
  simp only [g1, g2]
  rw [nI_eq (by omega) (by omega)]
  refine ⟨fun hne => ⟨Or.inl nI_0, ⟨h1, h2⟩, ?_⟩, fun he => ?_⟩
  · rw [if_neg (fun z => hne (by rw [z])), nI_0]
  · have he := Classical.not_not.mp he
    refine ⟨_, k_alikeSigns h2, ?_⟩
    rintro r s2 ⟨rfl, rfl⟩
    have := (lcp_le (tx T 13 a) (tx T 13 b)).1
    simp only [g1]
    rw [nI_eq (by omega) (by omega)]
    refine ⟨fun hne => ⟨Or.inl nI_0, ⟨h1, h2⟩, ?_⟩, fun hee => ⟨Or.inr rfl, ⟨h1, h2⟩, ?_⟩⟩
    · rw [if_neg (fun z => hne (lcp_eq.mp z).2), nI_0]
    · rw [if_pos (lcp_eq.mpr ⟨he, Classical.not_not.mp hee⟩)]; rfl
