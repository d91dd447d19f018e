/-! ===== the reference: mark ===== -/
theorem ch_nn {T : sT} (hT : ∀ c, T c ≠ none → wf T 13 c) {x y : Nat} (hx : T x ≠ none) (hy : y ∈ ch T x) : T y ≠ none := by
  have hw := hT x hx
  exact (rl_ch 13 x hw y ((rl_ch 13 x hw x (rl_self 13 x)).1 y hy)).2
def mkC (T : sT) (V St : List Nat) : Prop := ∀ z ∈ V, z ∉ St → ∀ y ∈ ch T z, y ∈ V
theorem mkI_pop {T : sT} {ι : Nat → Nat} {μ : rf_M} {V0 : List Nat} {c : Nat} {V St : List Nat} {x n : Nat} {μ1 : rf_M} (h : mkI T ι μ V0 c V (St ++ [x]) n μ1) : mkI T ι μ V0 c V St (n + 1) μ1 := by
  obtain ⟨a1, a2, a3, a4, a5, a6, a7, a8⟩ := h
  refine ⟨a1, a2, a3, ?_, fun z hz => a5 z (List.mem_append_left _ hz), ?_, a7, a8⟩
  · rw [List.map_append] at a4; exact AP_pre a4
  · rw [List.length_append, List.length_singleton] at a6; omega
set_option maxHeartbeats 4000000 in
theorem k_mark {T : sT} {ι : Nat → Nat} {μ : rf_M} (hK : RK T ι μ) (hinj : ∀ a b, T a ≠ none → T b ≠ none → ι a = ι b → a = b) (hT : ∀ c, T c ≠ none → wf T 13 c) {V0 : List Nat} (hM : MKS ι μ V0) (hV : okV T V0) (hcl : ∀ x ∈ V0, ∀ y ∈ ch T x, y ∈ V0) {c : Nat} (hw : wf T 13 c) : P_mark [.inr (some 39), .inl (nI (ι c))] μ 0 0 (mI (fun r μ' => ∃ V, okV T V ∧ MKS ι μ' V ∧ (∀ x ∈ V, ∀ y ∈ ch T x, y ∈ V) ∧ (∀ x, x ∈ V ↔ x ∈ V0 ∨ x ∈ rl T 13 c) ∧ r = nI (V.length - V0.length) ∧ V0.length ≤ V.length ∧ CH [4, 22] μ μ')) := by
  refine e_mark (nI (ι c)) μ _ ?_
  generalize hret : (mI (fun r μ' => ∃ V, okV T V ∧ MKS ι μ' V ∧ (∀ x ∈ V, ∀ y ∈ ch T x, y ∈ V) ∧ (∀ x, x ∈ V ↔ x ∈ V0 ∨ x ∈ rl T 13 c) ∧ r = nI (V.length - V0.length) ∧ V0.length ≤ V.length ∧ CH [4, 22] μ μ')) = ret
  have hcn : T c ≠ none := wf_nn hw
  obtain ⟨vc, hvc⟩ := Option.ne_none_iff_exists'.mp hcn
  have hic := (hK c vc hvc).1
  have hrl := rl_ch 13 c hw
  have key : ∀ x : List Nat × List Nat × Nat × rf_M × Option mV, (mkI T ι μ V0 c x.1 x.2.1 x.2.2.1 x.2.2.2.1 ∧ mkC T x.1 x.2.1 ∧ c ∈ x.1) → W_mark ret (29, [some (.inr (some 39)), some (.inl (nI (ι c))), some (.inl (nI x.2.2.1)), some (.inl (nI x.2.1.length)), x.2.2.2.2], [], x.2.2.2.1, 0, 0) := by
    refine mm_loop _ _ (fun x => 2 * (20481 - x.1.length) + x.2.1.length) ?_
    rintro ⟨V, St, n, μ1, l4⟩ ⟨i1, i2, i3⟩ ih
    dsimp only at i1 i2 i3 ⊢
    have hVl := okV_len hK hinj i1.2.2.1
    have hl := i1.2.2.2.2.2.1
    rw [r_mark_29]
    simp only [r_mark_0, r_mark_1, r_mark_2, r_mark_3, r_mark_4, r_mark_5, r_mark_8, r_mark_9, r_mark_10, r_mark_13, r_mark_14, r_mark_17, r_mark_18, r_mark_19, r_mark_20, r_mark_21, r_mark_24, r_mark_25, r_mark_26, r_mark_27, r_mark_28, r_mark_30, r_mark_33, r_mark_36, r_mark_37, r_mark_40, r_mark_41, r_mark_42, r_mark_44, r_mark_47, r_mark_48, r_mark_51, r_mark_53, r_mark_54, r_mark_55, r_mark_58, r_mark_59, r_mark_62, r_mark_63, r_mark_66, r_mark_68, r_mark_69, r_mark_70, r_mark_73, r_mark_74, r_mark_77, r_mark_78, r_mark_81, r_mark_83, r_mark_84, r_mark_85, r_mark_86, r_mark_87, r_mark_90, r_mark_91, r_mark_92, r_mark_95, r_mark_97, r_mark_98, r_mark_99, r_mark_103, r_mark_106, r_mark_108, r_mark_109, r_mark_110, r_mark_113, r_mark_114, r_mark_117, r_mark_118, r_mark_121, r_mark_123, r_mark_124, r_mark_125, r_mark_128, r_mark_129, r_mark_132, r_mark_133, r_mark_136, r_mark_138, r_mark_139, r_mark_140, r_mark_141, r_mark_142, r_mark_145, r_mark_146, r_mark_147, r_mark_150, r_mark_152, r_mark_153, r_mark_154, r_mark_157, r_mark_160, r_mark_161]
    rcases lst St with rfl | ⟨St0, x, rfl⟩
    · refine ⟨fun _ => ?_, fun h => absurd (by decide) h⟩
      subst hret
      rw [mI_e]
      obtain ⟨a1, a2, a3, a4, a5, a6, a7, a8⟩ := i1
      simp only [List.length_nil, Nat.add_zero] at a6
      have hcl' : ∀ x ∈ V, ∀ y ∈ ch T x, y ∈ V := fun z hz => i2 z hz (by simp)
      refine ⟨V, a3, a2, hcl', fun z => ⟨a7 z, fun hz => ?_⟩, by rw [a6]; congr 1; omega, by omega, a1⟩
      rcases hz with hz | hz
      · exact a8 z hz
      · exact rl_in hcl' 13 c hw i3 z hz
    · rw [List.length_append, List.length_singleton] at hl ⊢
      refine ⟨fun h => ?_, fun _ => ?_⟩
      · rw [nI_zle _ (by omega)] at h; omega
      have hxV : x ∈ V := i1.2.2.2.2.1 x (by simp)
      have hxn : T x ≠ none := i1.2.2.1.2 x hxV
      obtain ⟨vx, hvx⟩ := Option.ne_none_iff_exists'.mp hxn
      obtain ⟨hix, hrk, -⟩ := hK x vx hvx
      have e22 : μ1.2 22 St0.length = nI (ι x) := by
        have := AP_last (l := St0.map (fun q => nI (ι q))) (x := nI (ι x)) (by simpa using i1.2.2.2.1)
        simpa using this
      have hchr : ∀ y ∈ ch T x, y ∉ V → y ∈ rl T 13 c := fun y hy hyV => by
        rcases i1.2.2.2.2.2.2.1 x hxV with h | h
        · exact absurd (i1.2.2.2.2.2.2.2 y (hcl x h y hy)) hyV
        · exact (hrl x h).1 y hy
      have j1 := mkI_pop i1
      have k0 : ∀ {μ2 : rf_M}, CH [4, 22] μ μ2 → μ2.2 0 = μ.2 0 ∧ μ2.2 1 = μ.2 1 ∧ μ2.2 2 = μ.2 2 := fun h => ⟨(h 0 (by decide)).2, (h 1 (by decide)).2, (h 2 (by decide)).2⟩
      -- the second half
      have second : ∀ (V1 St1 : List Nat) (μ2 : rf_M), mkI T ι μ V0 c V1 St1 (n + 1) μ2 → (∀ z ∈ V, z ∈ V1) → (∀ z ∈ V1, z ∉ St1 → z ≠ x → ∀ y ∈ ch T z, y ∈ V1) → (∀ q, T x = some (.inr (.inl q)) → q.1 ∈ V1) → (∀ q, T x = some (.inr (.inr q)) → q.1 ∈ V1) → 2 * (20481 - V1.length) + St1.length ≤ 2 * (20481 - V.length) + St0.length →
          W_mark ret (102, [some (.inr (some 39)), some (.inl (nI (ι c))), some (.inl (nI (n + 1))), some (.inl (nI St1.length)), some (.inl (nI (ι x)))], [], μ2, 0, 0) := by
        intro V1 St1 μ2 g1 g2 g3 g4 g4' g5
        have hVl1 := okV_len hK hinj g1.2.2.1
        have hl1 := g1.2.2.2.2.2.1
        obtain ⟨k0, k1, k2⟩ := k0 g1.1
        have fin : (∀ y ∈ ch T x, y ∈ V1) → W_mark ret (29, [some (.inr (some 39)), some (.inl (nI (ι c))), some (.inl (nI (n + 1))), some (.inl (nI St1.length)), some (.inl (nI (ι x)))], [], μ2, 0, 0) := fun hch =>
          ih (V1, St1, n + 1, μ2, some (.inl (nI (ι x)))) ⟨g1, fun z hz hzs y hy => by
            by_cases hzx : z = x
            · subst hzx; exact hch y hy
            · exact g3 z hz hzs hzx y hy, g2 c i3⟩ (by dsimp only; rw [List.length_append, List.length_singleton]; omega)
        rw [r_mark_102]
        simp only [r_mark_0, r_mark_1, r_mark_2, r_mark_3, r_mark_4, r_mark_5, r_mark_8, r_mark_9, r_mark_10, r_mark_13, r_mark_14, r_mark_17, r_mark_18, r_mark_19, r_mark_20, r_mark_21, r_mark_24, r_mark_25, r_mark_26, r_mark_27, r_mark_28, r_mark_30, r_mark_33, r_mark_36, r_mark_37, r_mark_40, r_mark_41, r_mark_42, r_mark_44, r_mark_47, r_mark_48, r_mark_51, r_mark_53, r_mark_54, r_mark_55, r_mark_58, r_mark_59, r_mark_62, r_mark_63, r_mark_66, r_mark_68, r_mark_69, r_mark_70, r_mark_73, r_mark_74, r_mark_77, r_mark_78, r_mark_81, r_mark_83, r_mark_84, r_mark_85, r_mark_86, r_mark_87, r_mark_90, r_mark_91, r_mark_92, r_mark_95, r_mark_97, r_mark_98, r_mark_99, r_mark_103, r_mark_106, r_mark_108, r_mark_109, r_mark_110, r_mark_113, r_mark_114, r_mark_117, r_mark_118, r_mark_121, r_mark_123, r_mark_124, r_mark_125, r_mark_128, r_mark_129, r_mark_132, r_mark_133, r_mark_136, r_mark_138, r_mark_139, r_mark_140, r_mark_141, r_mark_142, r_mark_145, r_mark_146, r_mark_147, r_mark_150, r_mark_152, r_mark_153, r_mark_154, r_mark_157, r_mark_160, r_mark_161, nI_clamp (show ι x < 2 ^ 31 by omega), vp_in_i (show ι x < 2 ^ 31 by omega), hix, true_and, k0, k2, rf_up_n (show (2 : Nat) ≠ 4 by decide)]
        rcases vx with t | q | q
        · have hr : μ.2 0 (ι x) = nI 1 := hrk
          rw [hr]
          refine ⟨fun _ => fin (fun y hy => ?_), fun z => absurd (by decide) z⟩
          rw [ch_leaf hvx] at hy; simp at hy
        · obtain ⟨hr, hr1, hr2⟩ := hrk
          rw [hr, hr2]
          refine ⟨fun z => absurd rfl z, fun _ => ?_⟩
          have hq2 : q.2 ∈ ch T x := by rw [ch_join hvx]; simp
          have hq2n : T q.2 ≠ none := ch_nn hT hxn hq2
          obtain ⟨v2, hv2⟩ := Option.ne_none_iff_exists'.mp hq2n
          have hi2 := (hK q.2 v2 hv2).1
          simp only [nI_clamp (show ι q.2 < 2 ^ 31 by omega), vp_in_i (show ι q.2 < 2 ^ 31 by omega), hi2, true_and, MKS_in hinj g1.2.2.1 g1.2.1 hq2n hi2, Classical.not_not]
          refine ⟨fun hin => fin (fun y hy => ?_), fun hin => ?_⟩
          · rw [ch_join hvx] at hy
            simp only [List.mem_cons, List.not_mem_nil, or_false] at hy
            rcases hy with rfl | rfl
            · exact g4 q hvx
            · exact hin
          · have hpu := mkI_push g1 hin hq2n (hchr q.2 hq2 (fun z => hin (g2 _ z)))
            have hVl2 := okV_len hK hinj hpu.2.2.1
            rw [List.length_append, List.length_singleton] at hVl2
            simp only [nI_clamp (show St1.length < 2 ^ 31 by omega), vp_in_i (show St1.length < 2 ^ 31 by omega), show St1.length < 20480 by omega, true_and, nI_add]
            refine ⟨Or.inr rfl, ?_⟩
            have hh := ih (V1 ++ [q.2], St1 ++ [q.2], n + 1, _, some (.inl (nI (ι x)))) ⟨hpu, fun z hz hzs y hy => ?_, List.mem_append_left _ (g2 c i3)⟩ (by dsimp only; simp only [List.length_append, List.length_singleton]; omega)
            · rw [List.length_append, List.length_singleton] at hh
              exact hh
            · dsimp only at hz hzs ⊢
              rcases List.mem_append.mp hz with hz | hz
              · by_cases hzx : z = x
                · subst hzx
                  rw [ch_join hvx] at hy
                  simp only [List.mem_cons, List.not_mem_nil, or_false] at hy
                  rcases hy with rfl | rfl
                  · exact List.mem_append_left _ (g4 q hvx)
                  · exact List.mem_append_right _ (by simp)
                · exact List.mem_append_left _ (g3 z hz (fun w => hzs (List.mem_append_left _ w)) hzx y hy)
              · exact absurd (List.mem_append_right _ hz) hzs
        · obtain ⟨hr, hr1, hr2⟩ := hrk
          rw [hr]
          refine ⟨fun _ => fin (fun y hy => ?_), fun z => absurd (by decide) z⟩
          rw [ch_slice hvx, List.mem_singleton] at hy
          subst hy
          exact g4' q hvx
      obtain ⟨k0, k1, k2⟩ := k0 j1.1
      simp only [nI_m1, nI_clamp (show St0.length < 2 ^ 31 by omega), vp_in_i (show St0.length < 2 ^ 31 by omega), show St0.length < 20480 by omega, true_and, e22, nI_clamp (show ι x < 2 ^ 31 by omega), vp_in_i (show ι x < 2 ^ 31 by omega), hix, k0, k1, nI_add, rf_up_n (show (1 : Nat) ≠ 4 by decide)]
      have hst : ∀ z ∈ V, z ∉ St0 → z ≠ x → ∀ y ∈ ch T z, y ∈ V := fun z hz h1 h2 => i2 z hz (fun w => by
        rcases List.mem_append.mp w with w | w
        · exact h1 w
        · exact h2 (List.mem_singleton.mp w))
      have first : ∀ y, y ∈ ch T x → μ.2 1 (ι x) = nI (ι y) → (∀ q, T x = some (.inr (.inl q)) → q.1 = y) → (∀ q, T x = some (.inr (.inr q)) → q.1 = y) → ¬ μ.2 0 (ι x) = nI 1 →
          (μ.2 0 (ι x) = nI 1 → W_mark ret (102, [some (.inr (some 39)), some (.inl (nI (ι c))), some (.inl (nI (n + 1))), some (.inl (nI St0.length)), some (.inl (nI (ι x)))], [], μ1, 0, 0)) ∧
          (¬ μ.2 0 (ι x) = nI 1 → vp_in (nI (ι y)) 20480 ∧ (¬ μ1.2 4 (nI (ι y)).toNatClampNeg = 0 → W_mark ret (102, [some (.inr (some 39)), some (.inl (nI (ι c))), some (.inl (nI (n + 1))), some (.inl (nI St0.length)), some (.inl (nI (ι x)))], [], μ1, 0, 0)) ∧
            (¬ ¬ μ1.2 4 (nI (ι y)).toNatClampNeg = 0 → vp_in (nI (ι y)) 20480 ∧ (nI 1 = 0 ∨ nI 1 = 1) ∧ W_mark ret (102, [some (.inr (some 39)), some (.inl (nI (ι c))), some (.inl (nI (n + 1))), some (.inl (nI (St0.length + 1))), some (.inl (nI (ι x)))], [], (μ1.1, rf_up (rf_up μ1.2 4 (nI (ι y)).toNatClampNeg (nI 1)) 22 St0.length (nI (ι y))), 0, 0))) := by
        intro y hy e1 u1 u2 hne
        refine ⟨fun h => absurd h hne, fun _ => ?_⟩
        have hyn : T y ≠ none := ch_nn hT hxn hy
        obtain ⟨v2, hv2⟩ := Option.ne_none_iff_exists'.mp hyn
        have hi2 := (hK y v2 hv2).1
        simp only [nI_clamp (show ι y < 2 ^ 31 by omega), vp_in_i (show ι y < 2 ^ 31 by omega), hi2, true_and, MKS_in hinj j1.2.2.1 j1.2.1 hyn hi2, Classical.not_not]
        refine ⟨fun hin => second V St0 μ1 j1 (fun z hz => hz) hst (fun q hq => by rw [u1 q hq]; exact hin) (fun q hq => by rw [u2 q hq]; exact hin) (Nat.le_refl _), fun hin => ⟨Or.inr rfl, ?_⟩⟩
        have hpu := mkI_push j1 hin hyn (hchr y hy hin)
        have hVl2 := okV_len hK hinj hpu.2.2.1
        rw [List.length_append, List.length_singleton] at hVl2
        have hh := second (V ++ [y]) (St0 ++ [y]) _ hpu (fun z hz => List.mem_append_left _ hz) (fun z hz h1 h2 w hw' => ?_) (fun q hq => by rw [u1 q hq]; simp) (fun q hq => by rw [u2 q hq]; simp) (by simp only [List.length_append, List.length_singleton]; omega)
        · rw [List.length_append, List.length_singleton] at hh
          exact hh
        · rcases List.mem_append.mp hz with hz | hz
          · exact List.mem_append_left _ (hst z hz (fun w => h1 (List.mem_append_left _ w)) h2 w hw')
          · exact absurd (List.mem_append_right _ hz) h1
      rcases vx with t | q | q
      · have hr : μ.2 0 (ι x) = nI 1 := hrk
        rw [hr]
        refine ⟨fun _ => second V St0 μ1 j1 (fun z hz => hz) hst (fun q hq => by rw [hvx] at hq; cases hq) (fun q hq => by rw [hvx] at hq; cases hq) (Nat.le_refl _), fun z => absurd rfl z⟩
      · obtain ⟨hr, hr1, hr2⟩ := hrk
        have := first q.1 (by rw [ch_join hvx]; simp) hr1 (fun q' hq => by rw [hvx] at hq; cases hq; rfl) (fun q' hq => by rw [hvx] at hq; cases hq) (by rw [hr]; decide)
        rw [hr1]
        exact this
      · obtain ⟨hr, hr1, hr2⟩ := hrk
        have := first q.1 (by rw [ch_slice hvx]; simp) hr1 (fun q' hq => by rw [hvx] at hq; cases hq) (fun q' hq => by rw [hvx] at hq; cases hq; rfl) (by rw [hr]; decide)
        rw [hr1]
        exact this
  simp only [r_mark_0, r_mark_1, r_mark_2, r_mark_3, r_mark_4, r_mark_5, r_mark_8, r_mark_9, r_mark_10, r_mark_13, r_mark_14, r_mark_17, r_mark_18, r_mark_19, r_mark_20, r_mark_21, r_mark_24, r_mark_25, r_mark_26, r_mark_27, r_mark_28, r_mark_30, r_mark_33, r_mark_36, r_mark_37, r_mark_40, r_mark_41, r_mark_42, r_mark_44, r_mark_47, r_mark_48, r_mark_51, r_mark_53, r_mark_54, r_mark_55, r_mark_58, r_mark_59, r_mark_62, r_mark_63, r_mark_66, r_mark_68, r_mark_69, r_mark_70, r_mark_73, r_mark_74, r_mark_77, r_mark_78, r_mark_81, r_mark_83, r_mark_84, r_mark_85, r_mark_86, r_mark_87, r_mark_90, r_mark_91, r_mark_92, r_mark_95, r_mark_97, r_mark_98, r_mark_99, r_mark_103, r_mark_106, r_mark_108, r_mark_109, r_mark_110, r_mark_113, r_mark_114, r_mark_117, r_mark_118, r_mark_121, r_mark_123, r_mark_124, r_mark_125, r_mark_128, r_mark_129, r_mark_132, r_mark_133, r_mark_136, r_mark_138, r_mark_139, r_mark_140, r_mark_141, r_mark_142, r_mark_145, r_mark_146, r_mark_147, r_mark_150, r_mark_152, r_mark_153, r_mark_154, r_mark_157, r_mark_160, r_mark_161]
  simp only [nI_clamp (show ι c < 2 ^ 31 by omega), vp_in_i (show ι c < 2 ^ 31 by omega), hic, true_and, MKS_in hinj hV hM hcn hic, Classical.not_not, nI_0, sb_cl0, show vp_in (0 : Int32) 20480 from by rw [← nI_0]; exact vp_in_nI (by decide) (by decide)]
  have hI0 : mkI T ι μ V0 c V0 [] 0 μ := ⟨CH_rf _ _, hM, hV, AP_nil _, fun x hx => by simp at hx, by simp, fun x hx => Or.inl hx, fun x hx => hx⟩
  refine ⟨fun hin => ?_, fun hin => ⟨Or.inr rfl, ?_⟩⟩
  · have hh := key (V0, [], 0, μ, none) ⟨hI0, fun z hz _ y hy => hcl z hz y hy, hin⟩
    exact hh
  · have hh := key (V0 ++ [c], [c], 0, _, none) ⟨mkI_push hI0 hin hcn (rl_self 13 c), fun z hz hzs y hy => ?_, by simp⟩
    · exact hh
    · dsimp only at hz hzs ⊢
      rcases List.mem_append.mp hz with hz | hz
      · exact List.mem_append_left _ (hcl z hz y hy)
      · exact absurd hz hzs
