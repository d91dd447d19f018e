/-! ===== the reference: makeRoom ===== -/
theorem nI_mul (a b : Nat) : nI a * nI b = nI (a * b) := (Int32.ofNat_mul a b).symm
theorem rts_len {ι : Nat → Nat} {μ : rf_M} {sl : List Nat} {im : Nat → Option (List Nat)} {en : List Nat} (h : RO ι μ sl im en) : (rts sl im en).length ≤ 48 := by
  obtain ⟨⟨a1, a2⟩, b, c1, -, -⟩ := h
  have hk : ∀ k, k < 2 → ((im k).getD []).length ≤ 8 := fun k hk => by
    rcases b k hk with ⟨h, -⟩ | ⟨l, h, -, hl, -⟩
    · rw [h]; simp
    · rw [h]; simp [hl]
  have h0 := hk 0 (by omega)
  have h1 := hk 1 (by omega)
  simp only [rts, List.length_append]
  omega
theorem rts_im {sl : List Nat} {im : Nat → Option (List Nat)} {en : List Nat} {k x : Nat} {l : List Nat} (hk : k < 2) (h : im k = some l) (hx : x ∈ l) : x ∈ rts sl im en := by
  have : k = 0 ∨ k = 1 := by omega
  simp only [rts, List.mem_append]
  rcases this with rfl | rfl
  · exact Or.inr (Or.inl (by rw [h]; exact hx))
  · exact Or.inr (Or.inr (Or.inl (by rw [h]; exact hx)))
set_option maxHeartbeats 8000000 in
theorem k_makeRoom {T : sT} {ι : Nat → Nat} {μ : rf_M} {B sp e : Nat} (h : RR T ι μ B sp e) {sl : List Nat} {im : Nat → Option (List Nat)} {en : List Nat} (hO : RO ι μ sl im en) (hR : ∀ r ∈ rts sl im en, T r ≠ none) : P_makeRoom [.inr (some 39)] μ 0 0 (mN (fun μ' => ∃ T2 sp2 e2, (∀ c v, T2 c = some v → T c = some v) ∧ (∀ r ∈ rts sl im en, T2 r ≠ none) ∧ RR T2 ι μ' B sp2 e2 ∧ 3200 ≤ sp2 ∧ e2 ≤ 76720 ∧ CH [0, 1, 4, 5, 7, 8, 22] μ μ')) := by
  refine e_makeRoom μ _ ?_
  generalize hret : (mN (fun μ' => ∃ T2 sp2 e2, (∀ c v, T2 c = some v → T c = some v) ∧ (∀ r ∈ rts sl im en, T2 r ≠ none) ∧ RR T2 ι μ' B sp2 e2 ∧ 3200 ≤ sp2 ∧ e2 ≤ 76720 ∧ CH [0, 1, 4, 5, 7, 8, 22] μ μ')) = ret
  obtain ⟨a1, a2, a3, a4, a5, a6, a7, a8, a9, bs, b1, b2⟩ := id h
  have hsp : sp ≤ 20480 := by rw [a7]; exact FZ_le 20480
  generalize hRR : rts sl im en = R at hR hret
  -- the last part: cells that are not marked go
  have last : ∀ (V : List Nat) (μ1 : rf_M) (l1 l2 : Option mV), GI T ι μ R V μ1 → (∀ r ∈ R, r ∈ V) → W_makeRoom ret (114, [some (.inr (some 39)), l1, l2], [], μ1, 0, 0) := by
    intro V μ1 l1 l2 hG hin
    obtain ⟨g1, g2, g3, g4, g5⟩ := hG
    have kn : ∀ j, j < 20480 → (μ1.2 4 j = 0 ∨ μ1.2 4 j = 1) ∧ (μ1.2 4 j = 1 → ¬ μ.2 0 j = 0) := fun j hj => ⟨(g2 j hj).1, fun h1 => by
      obtain ⟨x, hx, rfl⟩ := (g2 j hj).2.mp h1
      exact RK_busy a1 (g1.2 x hx)⟩
    have key : ∀ y : Nat × rf_M, (y.1 ≤ 20480 ∧ CH [0, 5] μ1 y.2 ∧ y.2.1 5 = nI (FZ (y.2.2 0) y.1) ∧ (∀ j, j < 20480 → y.2.2 0 j = if j < y.1 ∧ μ1.2 4 j = 0 then 0 else μ.2 0 j)) → W_makeRoom ret (121, [some (.inr (some 39)), some (.inl (nI y.1)), l2], [], y.2, 0, 0) := by
      refine mm_loop _ _ (fun y => 20480 - y.1) ?_
      rintro ⟨i, μ2⟩ ⟨j0, j1, j2, j3⟩ ih
      dsimp only at j0 j1 j2 j3 ⊢
      have m4 : μ2.2 4 = μ1.2 4 := (j1 4 (by decide)).2
      rw [r_makeRoom_121]
      simp only [r_makeRoom_0, r_makeRoom_1, r_makeRoom_4, r_makeRoom_7, r_makeRoom_10, r_makeRoom_11, r_makeRoom_14, r_makeRoom_16, r_makeRoom_19, r_makeRoom_20, r_makeRoom_21, r_makeRoom_24, r_makeRoom_25, r_makeRoom_27, r_makeRoom_29, r_makeRoom_32, r_makeRoom_33, r_makeRoom_34, r_makeRoom_37, r_makeRoom_38, r_makeRoom_39, r_makeRoom_42, r_makeRoom_43, r_makeRoom_44, r_makeRoom_46, r_makeRoom_47, r_makeRoom_50, r_makeRoom_51, r_makeRoom_54, r_makeRoom_55, r_makeRoom_56, r_makeRoom_59, r_makeRoom_60, r_makeRoom_61, r_makeRoom_64, r_makeRoom_66, r_makeRoom_67, r_makeRoom_68, r_makeRoom_69, r_makeRoom_70, r_makeRoom_71, r_makeRoom_74, r_makeRoom_75, r_makeRoom_78, r_makeRoom_81, r_makeRoom_84, r_makeRoom_87, r_makeRoom_88, r_makeRoom_90, r_makeRoom_91, r_makeRoom_94, r_makeRoom_97, r_makeRoom_98, r_makeRoom_99, r_makeRoom_102, r_makeRoom_103, r_makeRoom_104, r_makeRoom_107, r_makeRoom_108, r_makeRoom_111, r_makeRoom_114, r_makeRoom_115, r_makeRoom_116, r_makeRoom_119, r_makeRoom_120, r_makeRoom_122, r_makeRoom_125, r_makeRoom_128, r_makeRoom_129, r_makeRoom_132, r_makeRoom_133, r_makeRoom_134, r_makeRoom_137, r_makeRoom_138, r_makeRoom_139, r_makeRoom_142, r_makeRoom_143, r_makeRoom_146, r_makeRoom_147, r_makeRoom_148, r_makeRoom_151, r_makeRoom_152, r_makeRoom_153, r_makeRoom_154, r_makeRoom_155, r_makeRoom_158, r_makeRoom_159, r_makeRoom_162, r_makeRoom_163, r_makeRoom_164, r_makeRoom_167, r_makeRoom_168, r_makeRoom_171, r_makeRoom_172, r_makeRoom_173, r_makeRoom_176, r_makeRoom_179, r_makeRoom_182, r_makeRoom_183, r_makeRoom_186, nI_leI (show 20480 < 2 ^ 31 by omega) (show i < 2 ^ 31 by omega)]
      refine ⟨fun hle => ?_, fun hle => ?_⟩
      · have : i = 20480 := by omega
        subst this
        have hrs : ∀ x, res T V x ≠ none → x ∈ V ∧ T x ≠ none := fun x hx => by
          by_cases hc : x ∈ V
          · exact ⟨hc, g1.2 x hc⟩
          · exact absurd (res_no hc) hx
        have hwr : ∀ x, res T V x ≠ none → wf (res T V) 13 x := fun x hx => (res_wf g3 13 x (a3 x (hrs x hx).2) (hrs x hx).1).1
        have hm1 : ∀ x, x ∈ V → ¬ μ1.2 4 (ι x) = 0 := fun x hx hz => by
          obtain ⟨v, hv⟩ := Option.ne_none_iff_exists'.mp (g1.2 x hx)
          have := (g2 (ι x) (a1 x v hv).1).2.mpr ⟨x, hx, rfl⟩
          rw [hz] at this
          exact absurd this (by decide)
        have hkd : ∀ x v, res T V x = some v → μ2.2 0 (ι x) = μ.2 0 (ι x) := fun x v hx => by
          have hxV := (hrs x (by rw [hx]; exact fun z => by cases z)).1
          rw [j3 _ (a1 x v (res_ext x v hx)).1, if_neg (fun z => hm1 x hxV z.2)]
        have hRR2 : RR (res T V) ι μ2 B (FZ (μ2.2 0) 20480) e := by
          refine ⟨fun x v hx => ?_, fun a b ha hb => a2 a b (hrs a ha).2 (hrs b hb).2, hwr, fun x hx => ?_, ?_, j2, rfl, ?_, a9, bs, ?_, fun x t hx => ?_⟩
          · obtain ⟨c1, c2, c3⟩ := a1 x v (res_ext x v hx)
            have e1 : μ2.2 1 = μ.2 1 := by rw [(j1 1 (by decide)).2, (g5 1 (by decide)).2]
            have e2 : μ2.2 2 = μ.2 2 := by rw [(j1 2 (by decide)).2, (g5 2 (by decide)).2]
            have e3 : μ2.2 3 = μ.2 3 := by rw [(j1 3 (by decide)).2, (g5 3 (by decide)).2]
            refine ⟨c1, ?_, ?_⟩
            · rcases v with t | q | q
              · show μ2.2 0 (ι x) = _
                rw [hkd x _ hx]; exact c2
              · show μ2.2 0 (ι x) = _ ∧ μ2.2 1 (ι x) = _ ∧ μ2.2 2 (ι x) = _
                rw [hkd x _ hx, e1, e2]; exact c2
              · show μ2.2 0 (ι x) = _ ∧ μ2.2 1 (ι x) = _ ∧ μ2.2 2 (ι x) = _
                rw [hkd x _ hx, e1, e2]; exact c2
            · rw [e3, c3, (ext_wf res_ext 13 x (hwr x (by rw [hx]; exact fun z => by cases z))).2.1]
          · cases hv : res T V x with
            | none => rfl
            | some v => have := res_ext x v hv; rw [a4 x hx] at this; cases this
          · obtain ⟨la, l1, l2⟩ := a5
            exact ⟨la, by rw [(j1 6 (by decide)).1, (g5 6 (by decide)).1]; exact l1, l2⟩
          · rw [(j1 8 (by decide)).1, (g5 8 (by decide)).1]; exact a8
          · rw [(j1 7 (by decide)).2, (g5 7 (by decide)).2]; exact b1
          · rw [(j1 7 (by decide)).2, (g5 7 (by decide)).2, (j1 1 (by decide)).2, (g5 1 (by decide)).2]
            exact b2 x t (res_ext x _ hx)
        refine ⟨_, k_moveUp hRR2 (fun j hj hk => ?_), ?_⟩
        · rw [j3 j hj] at hk
          by_cases hz : μ1.2 4 j = 0
          · rw [if_pos ⟨hj, hz⟩] at hk
            exact absurd hk (by decide)
          · rcases (g2 j hj).1 with hz' | hz'
            · exact absurd hz' hz
            · obtain ⟨x, hx, rfl⟩ := (g2 j hj).2.mp hz'
              exact ⟨x, by rw [res_in hx]; exact g1.2 x hx, rfl⟩
        · rintro s' ⟨cs, c1, c2, c3, c4⟩
          subst hret
          rw [mN_e]
          have hLlen : ∀ x ∈ V, x ∈ R.flatMap (rl T 13) := fun x hx => by
            obtain ⟨r, hr, hxr⟩ := g4 x hx
            exact List.mem_flatMap.mpr ⟨r, hr, hxr⟩
          have hR48 : R.length ≤ 48 := by rw [← hRR]; exact rts_len hO
          refine ⟨res T V, _, _, res_ext, fun r hr => ?_, c4, ?_, ?_, ?_⟩
          · rw [res_in (hin r hr)]; exact hR r hr
          · have f1 := FZ_low (f := μ2.2 0) 20480 (V.map ι) (fun j hj hz => by
              rw [j3 j hj] at hz
              rcases (g2 j hj).1 with hz' | hz'
              · rw [if_pos ⟨hj, hz'⟩] at hz; exact absurd rfl hz
              · obtain ⟨x, hx, rfl⟩ := (g2 j hj).2.mp hz'
                exact List.mem_map.mpr ⟨x, hx, rfl⟩)
            rw [List.length_map] at f1
            have f2 := ns_sum (fun _ => 1) V (R.flatMap (rl T 13)) g1.1 hLlen
            have f3 := fm_sum (fun _ => 1) (rl T 13) 359 R (fun x hx => by
              rw [sum_one]
              have := rl_len 13 x (a3 x (hR x hx))
              have := pcs_120 (a3 x (hR x hx))
              omega)
            rw [sum_one] at f2
            have f4 : R.length * 359 ≤ 48 * 359 := Nat.mul_le_mul_right _ hR48
            omega
          · have f2 := ns_sum (wl T) cs (R.flatMap (rl T 13)) c1 (fun x hx => by
              obtain ⟨t, ht⟩ := c2 x hx
              exact hLlen x (hrs x (by rw [ht]; exact fun z => by cases z)).1)
            have f3 := fm_sum (wl T) (rl T 13) 1200 R (fun x hx => by
              have h1 := rl_wl 13 x (a3 x (hR x hx))
              have h2 := (wf_okt 13 x (a3 x (hR x hx))).1
              have h3 := pcs_120 (a3 x (hR x hx))
              omega)
            have f4 : R.length * 1200 ≤ 48 * 1200 := Nat.mul_le_mul_right _ hR48
            have f5 : cs.map (fun c => 2 + (lfT (res T V) c).length) = cs.map (wl T) := List.map_congr_left (fun x hx => by
              obtain ⟨t, ht⟩ := c2 x hx
              rw [wl_leaf (res_ext x _ ht)]
              simp only [lfT, ht])
            rw [f5]
            omega
          · exact CH_tr (CH_tr g5 j1 (l := [0, 4, 5, 22]) (by decide) (by decide)) c3 (by decide) (by decide)
      · simp only [nI_clamp (show i < 2 ^ 31 by omega), vp_in_i (show i < 2 ^ 31 by omega), show i < 20480 by omega, true_and, m4, j2, rf_up_n (show (4 : Nat) ≠ 0 by decide), nI_add]
        have hi : i < 20480 := by omega
        have hFle := FZ_le (f := μ2.2 0) i
        refine ⟨fun hz => ⟨fun _ => ?_, fun hn => absurd hz hn⟩, fun hz => ⟨fun h0 => absurd h0 hz, fun _ => ?_⟩⟩
        · refine ih (i + 1, (upd μ2.1 5 (nI (FZ (μ2.2 0) i + 1)), rf_up μ2.2 0 i (nI 0))) ⟨by dsimp only; omega, CH_i2 (CH_a2 j1 (by decide)) (by decide), ?_, fun j hj => ?_⟩ (by dsimp only; omega)
          · show upd μ2.1 5 (nI (FZ (μ2.2 0) i + 1)) 5 = _
            rw [pk_us]
            show _ = nI (FZ (rf_up μ2.2 0 i (nI 0) 0) (i + 1))
            rw [rf_up_s, FZ, FZ_ne i (Nat.le_refl _), pk_us, if_pos nI_0]
          · show rf_up μ2.2 0 i (nI 0) 0 j = _
            rw [rf_up_s]
            by_cases hji : j = i
            · subst hji
              rw [pk_us, if_pos ⟨Nat.lt_succ_self _, hz⟩, nI_0]
            · rw [pk_un hji, j3 j hj]
              by_cases hc : j < i ∧ μ1.2 4 j = 0
              · rw [if_pos hc, if_pos ⟨by have := hc.1; dsimp only; omega, hc.2⟩]
              · rw [if_neg hc, if_neg (fun z => hc ⟨by have := z.1; dsimp only at this; omega, z.2⟩)]
        · have hb := (kn i hi).2 ((kn i hi).1.resolve_left hz)
          have hk : μ2.2 0 i = μ.2 0 i := by rw [j3 i hi, if_neg (fun z => hz z.2)]
          refine ih (i + 1, (upd μ2.1 5 (nI (FZ (μ2.2 0) i + 0)), rf_up μ2.2 0 i (μ2.2 0 i))) ⟨by dsimp only; omega, CH_i2 (CH_a2 j1 (by decide)) (by decide), ?_, fun j hj => ?_⟩ (by dsimp only; omega)
          · show upd μ2.1 5 (nI (FZ (μ2.2 0) i + 0)) 5 = _
            rw [pk_us]
            show _ = nI (FZ (rf_up μ2.2 0 i (μ2.2 0 i) 0) (i + 1))
            rw [rf_up_s, FZ, FZ_ne i (Nat.le_refl _), pk_us, hk, if_neg hb]
          · show rf_up μ2.2 0 i (μ2.2 0 i) 0 j = _
            rw [rf_up_s, upd_id rfl, j3 j hj]
            by_cases hc : j < i ∧ μ1.2 4 j = 0
            · rw [if_pos hc, if_pos ⟨by have := hc.1; dsimp only; omega, hc.2⟩]
            · rw [if_neg hc]
              by_cases hji : j = i
              · subst hji; rw [if_neg (fun z => hz z.2)]
              · rw [if_neg (fun z => hc ⟨by have := z.1; dsimp only at this; omega, z.2⟩)]
    simp only [r_makeRoom_0, r_makeRoom_1, r_makeRoom_4, r_makeRoom_7, r_makeRoom_10, r_makeRoom_11, r_makeRoom_14, r_makeRoom_16, r_makeRoom_19, r_makeRoom_20, r_makeRoom_21, r_makeRoom_24, r_makeRoom_25, r_makeRoom_27, r_makeRoom_29, r_makeRoom_32, r_makeRoom_33, r_makeRoom_34, r_makeRoom_37, r_makeRoom_38, r_makeRoom_39, r_makeRoom_42, r_makeRoom_43, r_makeRoom_44, r_makeRoom_46, r_makeRoom_47, r_makeRoom_50, r_makeRoom_51, r_makeRoom_54, r_makeRoom_55, r_makeRoom_56, r_makeRoom_59, r_makeRoom_60, r_makeRoom_61, r_makeRoom_64, r_makeRoom_66, r_makeRoom_67, r_makeRoom_68, r_makeRoom_69, r_makeRoom_70, r_makeRoom_71, r_makeRoom_74, r_makeRoom_75, r_makeRoom_78, r_makeRoom_81, r_makeRoom_84, r_makeRoom_87, r_makeRoom_88, r_makeRoom_90, r_makeRoom_91, r_makeRoom_94, r_makeRoom_97, r_makeRoom_98, r_makeRoom_99, r_makeRoom_102, r_makeRoom_103, r_makeRoom_104, r_makeRoom_107, r_makeRoom_108, r_makeRoom_111, r_makeRoom_114, r_makeRoom_115, r_makeRoom_116, r_makeRoom_119, r_makeRoom_120, r_makeRoom_122, r_makeRoom_125, r_makeRoom_128, r_makeRoom_129, r_makeRoom_132, r_makeRoom_133, r_makeRoom_134, r_makeRoom_137, r_makeRoom_138, r_makeRoom_139, r_makeRoom_142, r_makeRoom_143, r_makeRoom_146, r_makeRoom_147, r_makeRoom_148, r_makeRoom_151, r_makeRoom_152, r_makeRoom_153, r_makeRoom_154, r_makeRoom_155, r_makeRoom_158, r_makeRoom_159, r_makeRoom_162, r_makeRoom_163, r_makeRoom_164, r_makeRoom_167, r_makeRoom_168, r_makeRoom_171, r_makeRoom_172, r_makeRoom_173, r_makeRoom_176, r_makeRoom_179, r_makeRoom_182, r_makeRoom_183, r_makeRoom_186]
    refine key (0, (upd μ1.1 5 (nI 0), μ1.2)) ⟨Nat.zero_le _, CH_i (CH_rf _ _) (by decide), ?_, fun j hj => ?_⟩
    · show upd μ1.1 5 (nI 0) 5 = _
      rw [pk_us]; rfl
    · show μ1.2 0 j = _
      rw [if_neg (fun z => by have := z.1; dsimp only at this; omega), (g5 0 (by decide)).2]
  -- entries
  have mid : ∀ (V : List Nat) (μ1 : rf_M) (l1 l2 : Option mV), GI T ι μ R V μ1 → (∀ r ∈ R, r ∉ en → r ∈ V) → W_makeRoom ret (87, [some (.inr (some 39)), l1, l2], [], μ1, 0, 0) := by
    intro V0 μ0 l1 l2 hG0 hin0
    have key : ∀ y : Nat × List Nat × rf_M, (y.1 ≤ en.length ∧ GI T ι μ R y.2.1 y.2.2 ∧ (∀ r ∈ R, r ∉ en → r ∈ y.2.1) ∧ ∀ j x, j < y.1 → en[j]? = some x → x ∈ y.2.1) → W_makeRoom ret (89, [some (.inr (some 39)), some (.inl (nI y.1)), l2], [], y.2.2, 0, 0) := by
      refine mm_loop _ _ (fun y => en.length - y.1) ?_
      rintro ⟨i, V, μ1⟩ ⟨j0, j1, j2, j3⟩ ih
      dsimp only at j0 j1 j2 j3 ⊢
      obtain ⟨-, -, o1, o2, o3⟩ := RO_ch hO j1.2.2.2.2 (by decide)
      rw [r_makeRoom_89]
      simp only [r_makeRoom_0, r_makeRoom_1, r_makeRoom_4, r_makeRoom_7, r_makeRoom_10, r_makeRoom_11, r_makeRoom_14, r_makeRoom_16, r_makeRoom_19, r_makeRoom_20, r_makeRoom_21, r_makeRoom_24, r_makeRoom_25, r_makeRoom_27, r_makeRoom_29, r_makeRoom_32, r_makeRoom_33, r_makeRoom_34, r_makeRoom_37, r_makeRoom_38, r_makeRoom_39, r_makeRoom_42, r_makeRoom_43, r_makeRoom_44, r_makeRoom_46, r_makeRoom_47, r_makeRoom_50, r_makeRoom_51, r_makeRoom_54, r_makeRoom_55, r_makeRoom_56, r_makeRoom_59, r_makeRoom_60, r_makeRoom_61, r_makeRoom_64, r_makeRoom_66, r_makeRoom_67, r_makeRoom_68, r_makeRoom_69, r_makeRoom_70, r_makeRoom_71, r_makeRoom_74, r_makeRoom_75, r_makeRoom_78, r_makeRoom_81, r_makeRoom_84, r_makeRoom_87, r_makeRoom_88, r_makeRoom_90, r_makeRoom_91, r_makeRoom_94, r_makeRoom_97, r_makeRoom_98, r_makeRoom_99, r_makeRoom_102, r_makeRoom_103, r_makeRoom_104, r_makeRoom_107, r_makeRoom_108, r_makeRoom_111, r_makeRoom_115, r_makeRoom_116, r_makeRoom_119, r_makeRoom_120, r_makeRoom_122, r_makeRoom_125, r_makeRoom_128, r_makeRoom_129, r_makeRoom_132, r_makeRoom_133, r_makeRoom_134, r_makeRoom_137, r_makeRoom_138, r_makeRoom_139, r_makeRoom_142, r_makeRoom_143, r_makeRoom_146, r_makeRoom_147, r_makeRoom_148, r_makeRoom_151, r_makeRoom_152, r_makeRoom_153, r_makeRoom_154, r_makeRoom_155, r_makeRoom_158, r_makeRoom_159, r_makeRoom_162, r_makeRoom_163, r_makeRoom_164, r_makeRoom_167, r_makeRoom_168, r_makeRoom_171, r_makeRoom_172, r_makeRoom_173, r_makeRoom_176, r_makeRoom_179, r_makeRoom_182, r_makeRoom_183, r_makeRoom_186, o2, nI_leI (show en.length < 2 ^ 31 by omega) (show i < 2 ^ 31 by omega)]
      refine ⟨fun hle => last V μ1 _ _ j1 (fun r hr => ?_), fun hle => ?_⟩
      · by_cases hre : r ∈ en
        · obtain ⟨j, hj, hjr⟩ := List.getElem_of_mem hre
          exact j3 j r (by omega) (by rw [← hjr]; exact List.getElem?_eq_getElem hj)
        · exact j2 r hr hre
      · obtain ⟨x, hx⟩ : ∃ x, en[i]? = some x := ⟨_, List.getElem?_eq_getElem (show i < en.length by omega)⟩
        have hxe : x ∈ en := List.mem_of_getElem? hx
        have hxR : x ∈ R := by rw [← hRR]; simp [rts, hxe]
        have e12 : μ1.2 12 i = nI (ι x) := o3 i _ (by rw [List.getElem?_map, hx]; rfl)
        simp only [nI_clamp (show i < 2 ^ 31 by omega), vp_in_i (show i < 2 ^ 31 by omega), show i < 24 by omega, true_and, e12, nI_add]
        refine ⟨_, GI_mark a1 a2 a3 j1 hxR (hR x hxR), ?_⟩
        rintro r s' ⟨V', v1, v2, v3, -, -, -⟩
        refine ih (i + 1, V', s') ⟨by dsimp only; omega, v1, fun r hr hn => v3 r (j2 r hr hn), fun j z hj hz => ?_⟩ (by dsimp only; omega)
        by_cases hji : j = i
        · subst hji; rw [hx] at hz; cases hz; exact v2
        · exact v3 z (j3 j z (by dsimp only at hj; omega) hz)
    simp only [r_makeRoom_0, r_makeRoom_1, r_makeRoom_4, r_makeRoom_7, r_makeRoom_10, r_makeRoom_11, r_makeRoom_14, r_makeRoom_16, r_makeRoom_19, r_makeRoom_20, r_makeRoom_21, r_makeRoom_24, r_makeRoom_25, r_makeRoom_27, r_makeRoom_29, r_makeRoom_32, r_makeRoom_33, r_makeRoom_34, r_makeRoom_37, r_makeRoom_38, r_makeRoom_39, r_makeRoom_42, r_makeRoom_43, r_makeRoom_44, r_makeRoom_46, r_makeRoom_47, r_makeRoom_50, r_makeRoom_51, r_makeRoom_54, r_makeRoom_55, r_makeRoom_56, r_makeRoom_59, r_makeRoom_60, r_makeRoom_61, r_makeRoom_64, r_makeRoom_66, r_makeRoom_67, r_makeRoom_68, r_makeRoom_69, r_makeRoom_70, r_makeRoom_71, r_makeRoom_74, r_makeRoom_75, r_makeRoom_78, r_makeRoom_81, r_makeRoom_84, r_makeRoom_87, r_makeRoom_88, r_makeRoom_90, r_makeRoom_91, r_makeRoom_94, r_makeRoom_97, r_makeRoom_98, r_makeRoom_99, r_makeRoom_102, r_makeRoom_103, r_makeRoom_104, r_makeRoom_107, r_makeRoom_108, r_makeRoom_111, r_makeRoom_115, r_makeRoom_116, r_makeRoom_119, r_makeRoom_120, r_makeRoom_122, r_makeRoom_125, r_makeRoom_128, r_makeRoom_129, r_makeRoom_132, r_makeRoom_133, r_makeRoom_134, r_makeRoom_137, r_makeRoom_138, r_makeRoom_139, r_makeRoom_142, r_makeRoom_143, r_makeRoom_146, r_makeRoom_147, r_makeRoom_148, r_makeRoom_151, r_makeRoom_152, r_makeRoom_153, r_makeRoom_154, r_makeRoom_155, r_makeRoom_158, r_makeRoom_159, r_makeRoom_162, r_makeRoom_163, r_makeRoom_164, r_makeRoom_167, r_makeRoom_168, r_makeRoom_171, r_makeRoom_172, r_makeRoom_173, r_makeRoom_176, r_makeRoom_179, r_makeRoom_182, r_makeRoom_183, r_makeRoom_186]
    exact key (0, V0, μ0) ⟨Nat.zero_le _, hG0, hin0, fun j x hj => absurd hj (by simp)⟩
  -- slots and images
  have first : ∀ y : Nat × List Nat × rf_M × Option mV, (y.1 ≤ 8 ∧ GI T ι μ R y.2.1 y.2.2.1 ∧ (∀ j x, j < y.1 → sl[j]? = some x → x ∈ y.2.1) ∧ (∀ k l, k < 2 → im k = some l → ∀ j x, j < y.1 → l[j]? = some x → x ∈ y.2.1)) → W_makeRoom ret (26, [some (.inr (some 39)), some (.inl (nI y.1)), y.2.2.2], [], y.2.2.1, 0, 0) := by
    refine mm_loop _ _ (fun y => 8 - y.1) ?_
    rintro ⟨i, V, μ1, l2⟩ ⟨j0, j1, j2, j3⟩ ih
    dsimp only at j0 j1 j2 j3 ⊢
    obtain ⟨⟨o1, o2⟩, o3, -⟩ := RO_ch hO j1.2.2.2.2 (by decide)
    rw [r_makeRoom_26]
    simp only [r_makeRoom_0, r_makeRoom_1, r_makeRoom_4, r_makeRoom_7, r_makeRoom_10, r_makeRoom_11, r_makeRoom_14, r_makeRoom_16, r_makeRoom_19, r_makeRoom_20, r_makeRoom_21, r_makeRoom_24, r_makeRoom_25, r_makeRoom_27, r_makeRoom_29, r_makeRoom_32, r_makeRoom_33, r_makeRoom_34, r_makeRoom_37, r_makeRoom_38, r_makeRoom_39, r_makeRoom_42, r_makeRoom_43, r_makeRoom_44, r_makeRoom_46, r_makeRoom_47, r_makeRoom_50, r_makeRoom_51, r_makeRoom_54, r_makeRoom_55, r_makeRoom_56, r_makeRoom_59, r_makeRoom_60, r_makeRoom_61, r_makeRoom_64, r_makeRoom_66, r_makeRoom_67, r_makeRoom_68, r_makeRoom_69, r_makeRoom_70, r_makeRoom_71, r_makeRoom_74, r_makeRoom_75, r_makeRoom_78, r_makeRoom_81, r_makeRoom_84, r_makeRoom_88, r_makeRoom_89, r_makeRoom_90, r_makeRoom_91, r_makeRoom_94, r_makeRoom_97, r_makeRoom_98, r_makeRoom_99, r_makeRoom_102, r_makeRoom_103, r_makeRoom_104, r_makeRoom_107, r_makeRoom_108, r_makeRoom_111, r_makeRoom_114, r_makeRoom_115, r_makeRoom_116, r_makeRoom_119, r_makeRoom_120, r_makeRoom_122, r_makeRoom_125, r_makeRoom_128, r_makeRoom_129, r_makeRoom_132, r_makeRoom_133, r_makeRoom_134, r_makeRoom_137, r_makeRoom_138, r_makeRoom_139, r_makeRoom_142, r_makeRoom_143, r_makeRoom_146, r_makeRoom_147, r_makeRoom_148, r_makeRoom_151, r_makeRoom_152, r_makeRoom_153, r_makeRoom_154, r_makeRoom_155, r_makeRoom_158, r_makeRoom_159, r_makeRoom_162, r_makeRoom_163, r_makeRoom_164, r_makeRoom_167, r_makeRoom_168, r_makeRoom_171, r_makeRoom_172, r_makeRoom_173, r_makeRoom_176, r_makeRoom_179, r_makeRoom_182, r_makeRoom_183, r_makeRoom_186, nI_leI (show 8 < 2 ^ 31 by omega) (show i < 2 ^ 31 by omega)]
    refine ⟨fun hle => mid V μ1 _ _ j1 (fun r hr hne => ?_), fun hle => ?_⟩
    · have hi : i = 8 := by omega
      subst hi
      rw [← hRR] at hr
      simp only [rts, List.mem_append] at hr
      have him : ∀ k, k < 2 → r ∈ (im k).getD [] → r ∈ V := fun k hk hr => by
        rcases o3 k hk with ⟨h, -⟩ | ⟨l, h, -, hl, -⟩
        · rw [h] at hr; simp at hr
        · rw [h] at hr
          obtain ⟨j, hj, hjr⟩ := List.getElem_of_mem (show r ∈ l from hr)
          exact j3 k l hk h j r (by omega) (by rw [← hjr]; exact List.getElem?_eq_getElem hj)
      rcases hr with hr | hr | hr | hr
      · obtain ⟨j, hj, hjr⟩ := List.getElem_of_mem hr
        exact j2 j r (by omega) (by rw [← hjr]; exact List.getElem?_eq_getElem hj)
      · exact him 0 (by omega) hr
      · exact him 1 (by omega) hr
      · exact absurd hr hne
    · obtain ⟨x, hx⟩ : ∃ x, sl[i]? = some x := ⟨_, List.getElem?_eq_getElem (show i < sl.length by omega)⟩
      have hxR : x ∈ R := by rw [← hRR]; simp [rts, List.mem_of_getElem? hx]
      have e9 : μ1.2 9 i = nI (ι x) := o2 i _ (by rw [List.getElem?_map, hx]; rfl)
      simp only [nI_clamp (show i < 2 ^ 31 by omega), vp_in_i (show i < 2 ^ 31 by omega), show i < 8 by omega, true_and, e9]
      refine ⟨_, GI_mark a1 a2 a3 j1 hxR (hR x hxR), ?_⟩
      rintro r s' ⟨V', v1, v2, v3, -, -, -⟩
      have inner : ∀ z : Nat × List Nat × rf_M, (z.1 ≤ 2 ∧ GI T ι μ R z.2.1 z.2.2 ∧ (∀ y ∈ V', y ∈ z.2.1) ∧ (∀ k l, k < z.1 → im k = some l → ∀ y, l[i]? = some y → y ∈ z.2.1)) → W_makeRoom ret (45, [some (.inr (some 39)), some (.inl (nI i)), some (.inl (nI z.1))], [], z.2.2, 0, 0) := by
        refine mm_loop _ _ (fun z => 2 - z.1) ?_
        rintro ⟨k, V2, μ2⟩ ⟨g0, g1, g2, g3⟩ ih2
        dsimp only at g0 g1 g2 g3 ⊢
        obtain ⟨-, p3, -⟩ := RO_ch hO g1.2.2.2.2 (by decide)
        rw [r_makeRoom_45]
        simp only [r_makeRoom_0, r_makeRoom_1, r_makeRoom_4, r_makeRoom_7, r_makeRoom_10, r_makeRoom_11, r_makeRoom_14, r_makeRoom_16, r_makeRoom_19, r_makeRoom_20, r_makeRoom_21, r_makeRoom_24, r_makeRoom_25, r_makeRoom_27, r_makeRoom_29, r_makeRoom_32, r_makeRoom_33, r_makeRoom_34, r_makeRoom_37, r_makeRoom_38, r_makeRoom_39, r_makeRoom_42, r_makeRoom_43, r_makeRoom_44, r_makeRoom_46, r_makeRoom_47, r_makeRoom_50, r_makeRoom_51, r_makeRoom_54, r_makeRoom_55, r_makeRoom_56, r_makeRoom_59, r_makeRoom_60, r_makeRoom_61, r_makeRoom_64, r_makeRoom_66, r_makeRoom_67, r_makeRoom_68, r_makeRoom_69, r_makeRoom_70, r_makeRoom_71, r_makeRoom_74, r_makeRoom_75, r_makeRoom_78, r_makeRoom_81, r_makeRoom_84, r_makeRoom_88, r_makeRoom_89, r_makeRoom_90, r_makeRoom_91, r_makeRoom_94, r_makeRoom_97, r_makeRoom_98, r_makeRoom_99, r_makeRoom_102, r_makeRoom_103, r_makeRoom_104, r_makeRoom_107, r_makeRoom_108, r_makeRoom_111, r_makeRoom_114, r_makeRoom_115, r_makeRoom_116, r_makeRoom_119, r_makeRoom_120, r_makeRoom_122, r_makeRoom_125, r_makeRoom_128, r_makeRoom_129, r_makeRoom_132, r_makeRoom_133, r_makeRoom_134, r_makeRoom_137, r_makeRoom_138, r_makeRoom_139, r_makeRoom_142, r_makeRoom_143, r_makeRoom_146, r_makeRoom_147, r_makeRoom_148, r_makeRoom_151, r_makeRoom_152, r_makeRoom_153, r_makeRoom_154, r_makeRoom_155, r_makeRoom_158, r_makeRoom_159, r_makeRoom_162, r_makeRoom_163, r_makeRoom_164, r_makeRoom_167, r_makeRoom_168, r_makeRoom_171, r_makeRoom_172, r_makeRoom_173, r_makeRoom_176, r_makeRoom_179, r_makeRoom_182, r_makeRoom_183, r_makeRoom_186, nI_leI (show 2 < 2 ^ 31 by omega) (show k < 2 ^ 31 by omega), nI_add]
        refine ⟨fun hle => ?_, fun hle => ?_⟩
        · have hk : k = 2 := by omega
          subst hk
          refine ih (i + 1, V2, μ2, some (.inl (nI 2))) ⟨by dsimp only; omega, g1, fun j y hj hy => ?_, fun k l hk hl j y hj hy => ?_⟩ (by dsimp only; omega)
          · by_cases hji : j = i
            · subst hji; rw [hx] at hy; cases hy; exact g2 x v2
            · exact g2 y (v3 y (j2 j y (by dsimp only at hj; omega) hy))
          · by_cases hji : j = i
            · subst hji; exact g3 k l hk hl y hy
            · exact g2 y (v3 y (j3 k l hk hl j y (by dsimp only at hj; omega) hy))
        · simp only [nI_clamp (show k < 2 ^ 31 by omega), vp_in_i (show k < 2 ^ 31 by omega), show k < 2 by omega, true_and]
          rcases p3 k (by omega) with ⟨q1, q2⟩ | ⟨l, q1, q2, q3, q4⟩
          · rw [q2]
            refine ⟨fun _ => ih2 (k + 1, V2, μ2) ⟨by dsimp only; omega, g1, g2, fun k' l hk' hl y hy => ?_⟩ (by dsimp only; omega), fun z => absurd rfl z⟩
            by_cases hkk : k' = k
            · subst hkk; rw [q1] at hl; cases hl
            · exact g3 k' l (by dsimp only at hk'; omega) hl y hy
          · rw [q2]
            refine ⟨fun z => absurd z (by decide), fun _ => ?_⟩
            obtain ⟨w, hw⟩ : ∃ w, l[i]? = some w := ⟨_, List.getElem?_eq_getElem (show i < l.length by omega)⟩
            have hwR : w ∈ R := by rw [← hRR]; exact rts_im (by omega) q1 (List.mem_of_getElem? hw)
            have e10 := q4 i w hw
            have e8 : nI 8 * nI k + nI i = nI (8 * k + i) := by rw [nI_mul, nI_add]
            simp only [nI_mul, nI_add, nI_clamp (show 8 * k + i < 2 ^ 31 by omega), vp_in_i (show 8 * k + i < 2 ^ 31 by omega), show 8 * k + i < 16 by omega, true_and, e10]
            refine ⟨_, GI_mark a1 a2 a3 g1 hwR (hR w hwR), ?_⟩
            rintro r2 s2 ⟨V3, w1, w2, w3, -, -, -⟩
            refine ih2 (k + 1, V3, s2) ⟨by dsimp only; omega, w1, fun y hy => w3 y (g2 y hy), fun k' l' hk' hl y hy => ?_⟩ (by dsimp only; omega)
            by_cases hkk : k' = k
            · subst hkk; rw [q1] at hl; cases hl; rw [hw] at hy; cases hy; exact w2
            · exact w3 y (g3 k' l' (by dsimp only at hk'; omega) hl y hy)
      exact inner (0, V', s') ⟨by dsimp only; omega, v1, fun y hy => hy, fun k l hk => absurd hk (by simp)⟩
  simp only [r_makeRoom_0, r_makeRoom_1, r_makeRoom_4, r_makeRoom_7, r_makeRoom_10, r_makeRoom_11, r_makeRoom_14, r_makeRoom_16, r_makeRoom_19, r_makeRoom_20, r_makeRoom_21, r_makeRoom_24, r_makeRoom_25, r_makeRoom_27, r_makeRoom_29, r_makeRoom_32, r_makeRoom_33, r_makeRoom_34, r_makeRoom_37, r_makeRoom_38, r_makeRoom_39, r_makeRoom_42, r_makeRoom_43, r_makeRoom_44, r_makeRoom_46, r_makeRoom_47, r_makeRoom_50, r_makeRoom_51, r_makeRoom_54, r_makeRoom_55, r_makeRoom_56, r_makeRoom_59, r_makeRoom_60, r_makeRoom_61, r_makeRoom_64, r_makeRoom_66, r_makeRoom_67, r_makeRoom_68, r_makeRoom_69, r_makeRoom_70, r_makeRoom_71, r_makeRoom_74, r_makeRoom_75, r_makeRoom_78, r_makeRoom_81, r_makeRoom_84, r_makeRoom_88, r_makeRoom_89, r_makeRoom_90, r_makeRoom_91, r_makeRoom_94, r_makeRoom_97, r_makeRoom_98, r_makeRoom_99, r_makeRoom_102, r_makeRoom_103, r_makeRoom_104, r_makeRoom_107, r_makeRoom_108, r_makeRoom_111, r_makeRoom_114, r_makeRoom_115, r_makeRoom_116, r_makeRoom_119, r_makeRoom_120, r_makeRoom_122, r_makeRoom_125, r_makeRoom_128, r_makeRoom_129, r_makeRoom_132, r_makeRoom_133, r_makeRoom_134, r_makeRoom_137, r_makeRoom_138, r_makeRoom_139, r_makeRoom_142, r_makeRoom_143, r_makeRoom_146, r_makeRoom_147, r_makeRoom_148, r_makeRoom_151, r_makeRoom_152, r_makeRoom_153, r_makeRoom_154, r_makeRoom_155, r_makeRoom_158, r_makeRoom_159, r_makeRoom_162, r_makeRoom_163, r_makeRoom_164, r_makeRoom_167, r_makeRoom_168, r_makeRoom_171, r_makeRoom_172, r_makeRoom_173, r_makeRoom_176, r_makeRoom_179, r_makeRoom_182, r_makeRoom_183, r_makeRoom_186, a6, a8, nI_ltI (show sp < 2 ^ 31 by omega) (show 3200 < 2 ^ 31 by omega), nI_ltI (show 76720 < 2 ^ 31 by omega) (show e < 2 ^ 31 by omega)]
  have go : ∃ Q0 : rf_M → Prop, P_clearMarks [.inr (some 39)] μ 0 0 (mN Q0) ∧ ∀ s', Q0 s' → W_makeRoom ret (26, [some (.inr (some 39)), some (.inl (nI 0)), none], [], s', 0, 0) := by
    refine ⟨_, k_clearMarks μ, ?_⟩
    rintro s' ⟨h1, h2⟩
    exact first (0, [], s', none) ⟨Nat.zero_le _, ⟨⟨List.nodup_nil, fun x hx => by simp at hx⟩, MKS_0 h2, fun x hx => by simp at hx, fun x hx => by simp at hx, CH_w h1 (by decide)⟩, fun j x hj => absurd hj (by simp), fun k l hk hl j x hj => absurd hj (by simp)⟩
  refine ⟨fun _ => go, fun h1 => ⟨fun _ => go, fun h2 => ?_⟩⟩
  subst hret
  rw [mN_e]
  exact ⟨T, sp, e, fun c v hc => hc, hR, h, by omega, by omega, CH_rf _ _⟩
