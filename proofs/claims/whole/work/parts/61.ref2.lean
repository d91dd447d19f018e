/-! ===== the reference: what changes, cells, pieces ===== -/
/-- only these fields change -/
def CH (l : List Nat) (μ μ' : rf_M) : Prop := ∀ k, k ∉ l → μ'.1 k = μ.1 k ∧ μ'.2 k = μ.2 k
theorem CH_rf (l : List Nat) (μ : rf_M) : CH l μ μ := fun _ _ => ⟨rfl, rfl⟩
theorem CH_tr {l1 l2 l : List Nat} {μ μ1 μ2 : rf_M} (h1 : CH l1 μ μ1) (h2 : CH l2 μ1 μ2) (hs1 : ∀ k ∈ l1, k ∈ l) (hs2 : ∀ k ∈ l2, k ∈ l) : CH l μ μ2 := fun k hk => by
  have a := h1 k (fun z => hk (hs1 k z))
  have b := h2 k (fun z => hk (hs2 k z))
  exact ⟨b.1.trans a.1, b.2.trans a.2⟩
theorem CH_w {l1 l : List Nat} {μ μ1 : rf_M} (h1 : CH l1 μ μ1) (hs1 : ∀ k ∈ l1, k ∈ l) : CH l μ μ1 := fun k hk => h1 k (fun z => hk (hs1 k z))
theorem CH_i {l : List Nat} {μ μ1 : rf_M} {f : Nat} {v : Int32} (h : CH l μ μ1) (hf : f ∈ l) : CH l μ (upd μ1.1 f v, μ1.2) := fun k hk => by
  have hk' : k ≠ f := fun z => hk (z ▸ hf)
  exact ⟨(pk_un hk').trans (h k hk).1, (h k hk).2⟩
theorem CH_a {l : List Nat} {μ μ1 : rf_M} {f i : Nat} {v : Int32} (h : CH l μ μ1) (hf : f ∈ l) : CH l μ (μ1.1, rf_up μ1.2 f i v) := fun k hk => by
  have hk' : k ≠ f := fun z => hk (z ▸ hf)
  exact ⟨(h k hk).1, (rf_up_n hk').trans (h k hk).2⟩
theorem CH_a2 {l : List Nat} {μ : rf_M} {a : Nat → Int32} {g : Nat → Nat → Int32} {f i : Nat} {v : Int32} (h : CH l μ (a, g)) (hf : f ∈ l) : CH l μ (a, rf_up g f i v) := CH_a h hf
theorem CH_i2 {l : List Nat} {μ : rf_M} {a : Nat → Int32} {g : Nat → Nat → Int32} {f : Nat} {v : Int32} (h : CH l μ (a, g)) (hf : f ∈ l) : CH l μ (upd a f v, g) := CH_i h hf
theorem CH_s2 {l : List Nat} {μ : rf_M} {a : Nat → Int32} {g : Nat → Nat → Int32} {f : Nat} {v : Nat → Int32} (h : CH l μ (a, g)) (hf : f ∈ l) : CH l μ (a, rf_set g f v) := fun k hk => by
  have hk' : k ≠ f := fun z => hk (z ▸ hf)
  exact ⟨(h k hk).1, (rf_set_n hk').trans (h k hk).2⟩
theorem nI_m1 (n : Nat) : nI (n + 1) + Int32.ofInt (-1) = nI n := pk_m1 n
theorem lst {α : Type} : ∀ l : List α, l = [] ∨ ∃ l0 x, l = l0 ++ [x]
  | [] => Or.inl rfl
  | a :: l => by
    rcases lst l with h | ⟨l0, x, h⟩
    · exact Or.inr ⟨[], a, by rw [h]; rfl⟩
    · exact Or.inr ⟨a :: l0, x, by rw [h]; rfl⟩
/-- how a cell lies in the reference's rows -/
def rck (ι : Nat → Nat) (μ : rf_M) (c : Nat) (v : cV) : Prop := match v with
  | .inl _ => μ.2 0 (ι c) = nI 1
  | .inr (.inl q) => μ.2 0 (ι c) = nI 2 ∧ μ.2 1 (ι c) = nI (ι q.1) ∧ μ.2 2 (ι c) = nI (ι q.2)
  | .inr (.inr q) => μ.2 0 (ι c) = nI 3 ∧ μ.2 1 (ι c) = nI (ι q.1) ∧ μ.2 2 (ι c) = nI q.2.1
def RK (T : sT) (ι : Nat → Nat) (μ : rf_M) : Prop := ∀ c v, T c = some v → ι c < 20480 ∧ rck ι μ c v ∧ μ.2 3 (ι c) = nI (tx T 13 c).length
theorem RK_keep {T : sT} {ι : Nat → Nat} {μ μ' : rf_M} (h : RK T ι μ) (h0 : μ'.2 0 = μ.2 0) (h1 : μ'.2 1 = μ.2 1) (h2 : μ'.2 2 = μ.2 2) (h3 : μ'.2 3 = μ.2 3) : RK T ι μ' := fun c v hc => by
  obtain ⟨a, b, d⟩ := h c v hc
  refine ⟨a, ?_, by rw [h3]; exact d⟩
  rcases v with t | q | q
  · show μ'.2 0 _ = _
    rw [h0]; exact b
  · show μ'.2 0 _ = _ ∧ μ'.2 1 _ = _ ∧ μ'.2 2 _ = _
    rw [h0, h1, h2]; exact b
  · show μ'.2 0 _ = _ ∧ μ'.2 1 _ = _ ∧ μ'.2 2 _ = _
    rw [h0, h1, h2]; exact b
/-- the pieces that cells still to be looked at have, the last first -/
def lpS (T : sT) (sb : List (Nat × Nat)) : List Nat := sb.reverse.flatMap (fun q => pcs T (13 - q.2) q.1)
def lpD (T : sT) : List (Nat × Nat) → Nat
  | [] => 0
  | q :: r => max (q.2 + dep T (13 - q.2) q.1) (lpD T r)
theorem lpS_push (T : sT) (sb : List (Nat × Nat)) (q : Nat × Nat) : lpS T (sb ++ [q]) = pcs T (13 - q.2) q.1 ++ lpS T sb := by simp [lpS]
theorem lpD_app (T : sT) : ∀ (sb : List (Nat × Nat)) (q : Nat × Nat), lpD T (sb ++ [q]) = max (lpD T sb) (q.2 + dep T (13 - q.2) q.1)
  | [], q => by simp [lpD]
  | a :: sb, q => by
    have h := lpD_app T sb q
    simp only [List.cons_append, lpD, h]
    omega
theorem lpS_len (T : sT) : ∀ (sb : List (Nat × Nat)), sb.length ≤ (lpS T sb).length := by
  intro sb
  have key : ∀ l : List (Nat × Nat), l.length ≤ (l.flatMap (fun q => pcs T (13 - q.2) q.1)).length := by
    intro l
    induction l with
    | nil => simp
    | cons q l ih =>
      rw [List.flatMap_cons, List.length_append, List.length_cons]
      have := pcs_pos (T := T) (13 - q.2) q.1
      omega
  have := key sb.reverse
  rw [List.length_reverse] at this
  exact this
def lpInv (T : sT) (ι : Nat → Nat) (μ : rf_M) (c : Nat) (x : List (Nat × Nat) × List Nat × Nat × rf_M × Option mV × Option mV) : Prop :=
  CH [23, 24, 25, 26] μ x.2.2.2.1 ∧ x.2.2.2.1.1 24 = nI x.2.1.length ∧ AP (x.2.2.2.1.2 23) (x.2.1.map (fun p => nI (ι p))) ∧ AP (x.2.2.2.1.2 25) (x.1.map (fun q => nI (ι q.1))) ∧ AP (x.2.2.2.1.2 26) (x.1.map (fun q => nI q.2)) ∧
  (∀ q ∈ x.1, q.2 ≤ 13 ∧ wf T (13 - q.2) q.1) ∧ x.2.1 ++ lpS T x.1 = pcs T 13 c ∧ max x.2.2.1 (lpD T x.1) = dep T 13 c
set_option maxHeartbeats 4000000 in
theorem k_layPieces {T : sT} {ι : Nat → Nat} {μ : rf_M} (hK : RK T ι μ) {c : Nat} (hw : wf T 13 c) : P_layPieces [.inr (some 39), .inl (nI (ι c))] μ 0 0 (mI (fun r μ' => r = nI (dep T 13 c) ∧ CH [23, 24, 25, 26] μ μ' ∧ μ'.1 24 = nI (pcs T 13 c).length ∧ AP (μ'.2 23) ((pcs T 13 c).map (fun p => nI (ι p))))) := by
  refine e_layPieces (nI (ι c)) μ _ ?_
  have h120 := pcs_120 hw
  generalize hret : (mI (fun r μ' => r = nI (dep T 13 c) ∧ CH [23, 24, 25, 26] μ μ' ∧ μ'.1 24 = nI (pcs T 13 c).length ∧ AP (μ'.2 23) ((pcs T 13 c).map (fun p => nI (ι p))))) = ret
  have key : ∀ x, lpInv T ι μ c x → W_layPieces ret (23, [some (.inr (some 39)), some (.inl (nI (ι c))), some (.inl (nI x.2.2.1)), some (.inl (nI x.1.length)), x.2.2.2.2.1, x.2.2.2.2.2], [], x.2.2.2.1, 0, 0) := by
    refine mm_loop _ _ (fun x => 2 * (lpS T x.1).length - x.1.length) ?_
    rintro ⟨sb, P, d, μ1, l4, l5⟩ ⟨i1, i2, i3, i4, i5, i6, i7, i8⟩ ih
    dsimp only at i1 i2 i3 i4 i5 i6 i7 i8 ⊢
    have hsb := lpS_len T sb
    have hPS : P.length + (lpS T sb).length = (pcs T 13 c).length := by rw [← i7, List.length_append]
    have hd12 : d ≤ 13 := by have := wf_dep (T := T) 13 c; omega
    rw [r_layPieces_23]
    simp only [r_layPieces_0, r_layPieces_1, r_layPieces_2, r_layPieces_5, r_layPieces_6, r_layPieces_7, r_layPieces_8, r_layPieces_9, r_layPieces_10, r_layPieces_13, r_layPieces_14, r_layPieces_15, r_layPieces_16, r_layPieces_17, r_layPieces_20, r_layPieces_21, r_layPieces_22, r_layPieces_24, r_layPieces_27, r_layPieces_30, r_layPieces_31, r_layPieces_34, r_layPieces_35, r_layPieces_36, r_layPieces_38, r_layPieces_39, r_layPieces_42, r_layPieces_43, r_layPieces_44, r_layPieces_46, r_layPieces_48, r_layPieces_49, r_layPieces_52, r_layPieces_54, r_layPieces_57, r_layPieces_58, r_layPieces_59, r_layPieces_60, r_layPieces_63, r_layPieces_65, r_layPieces_66, r_layPieces_67, r_layPieces_70, r_layPieces_71, r_layPieces_74, r_layPieces_75, r_layPieces_76, r_layPieces_79, r_layPieces_81, r_layPieces_82, r_layPieces_83, r_layPieces_84, r_layPieces_87, r_layPieces_88, r_layPieces_90, r_layPieces_91, r_layPieces_92, r_layPieces_93, r_layPieces_94, r_layPieces_97, r_layPieces_98, r_layPieces_99, r_layPieces_100, r_layPieces_101, r_layPieces_104, r_layPieces_106, r_layPieces_107, r_layPieces_108, r_layPieces_109, r_layPieces_112, r_layPieces_113, r_layPieces_114, r_layPieces_115, r_layPieces_117, r_layPieces_118, r_layPieces_119, r_layPieces_120, r_layPieces_123, r_layPieces_126, r_layPieces_127, r_layPieces_130, r_layPieces_131, r_layPieces_134, r_layPieces_136, r_layPieces_137, r_layPieces_138, r_layPieces_139, r_layPieces_142, r_layPieces_143, r_layPieces_144, r_layPieces_147, r_layPieces_150, r_layPieces_151]
    rcases lst sb with rfl | ⟨sb0, ⟨x, lv⟩, rfl⟩
    · refine ⟨fun _ => ?_, fun h => absurd (by decide) h⟩
      subst hret
      rw [mI_e]
      simp only [lpS, lpD, List.reverse_nil, List.flatMap_nil, List.append_nil, Nat.max_zero, Nat.zero_le, Nat.max_eq_left] at i7 i8
      rw [← i7, ← i8]
      exact ⟨rfl, i1, i2, i3⟩
    · have hlen : (sb0 ++ [(x, lv)]).length = sb0.length + 1 := by simp
      rw [hlen] at hsb ⊢
      refine ⟨fun h => ?_, fun _ => ?_⟩
      · rw [nI_zle _ (by omega)] at h; omega
      have hk : sb0.length < 512 := by omega
      have e25 : μ1.2 25 sb0.length = nI (ι x) := by
        have := AP_last (l := sb0.map (fun q => nI (ι q.1))) (x := nI (ι x)) (by simpa using i4)
        simpa using this
      have e26 : μ1.2 26 sb0.length = nI lv := by
        have := AP_last (l := sb0.map (fun q => nI q.2)) (x := nI lv) (by simpa using i5)
        simpa using this
      obtain ⟨hlv, hwx⟩ := i6 (x, lv) (by simp)
      dsimp only at hlv hwx
      have k0 : μ1.2 0 = μ.2 0 := (i1 0 (by decide)).2
      have k1 : μ1.2 1 = μ.2 1 := (i1 1 (by decide)).2
      have k2 : μ1.2 2 = μ.2 2 := (i1 2 (by decide)).2
      have hcx : ∃ v, T x = some v := by
        cases hv : T x with
        | none => exact absurd hwx (by cases hq : 13 - lv <;> simp [wf, hv])
        | some v => exact ⟨v, rfl⟩
      obtain ⟨v, hv⟩ := hcx
      obtain ⟨hix, hrk, -⟩ := hK x v hv
      rw [lpS_push] at i7 hPS
      rw [List.length_append] at hPS
      rw [lpD_app] at i8
      have hpp := pcs_pos (T := T) (13 - lv) x
      have hb2 := lpS_len T sb0
      dsimp only at i7 i8 hPS
      simp only [nI_m1, nI_clamp (show sb0.length < 2 ^ 31 by omega), vp_in_i (show sb0.length < 2 ^ 31 by omega), hk, true_and, e25, e26, nI_leI (show lv < 2 ^ 31 by omega) (show d < 2 ^ 31 by omega), nI_clamp (show ι x < 2 ^ 31 by omega), vp_in_i (show ι x < 2 ^ 31 by omega), hix, k0, k1, k2, i2, nI_add, nI_clamp (show P.length < 2 ^ 31 by omega), vp_in_i (show P.length < 2 ^ 31 by omega), nI_clamp (show sb0.length + 1 < 2 ^ 31 by omega), vp_in_i (show sb0.length + 1 < 2 ^ 31 by omega), show sb0.length + 1 < 512 by omega, show P.length < 240 by omega, rf_up_n (show (26 : Nat) ≠ 25 by decide), rf_up_n (show (1 : Nat) ≠ 25 by decide), rf_up_n (show (1 : Nat) ≠ 26 by decide)]
      have nxt : ∀ d', d' = max d lv → (¬ μ.2 0 (ι x) = nI 2 → W_layPieces ret (23, [some (.inr (some 39)), some (.inl (nI (ι c))), some (.inl (nI d')), some (.inl (nI sb0.length)), some (.inl (nI (ι x))), some (.inl (nI lv))], [], (upd μ1.1 24 (nI (P.length + 1)), rf_up μ1.2 23 P.length (nI (ι x))), 0, 0)) ∧
          (μ.2 0 (ι x) = nI 2 → W_layPieces ret (23, [some (.inr (some 39)), some (.inl (nI (ι c))), some (.inl (nI d')), some (.inl (nI (sb0.length + 2))), some (.inl (nI (ι x))), some (.inl (nI lv))], [], (μ1.1, rf_up (rf_up (rf_up (rf_up μ1.2 25 sb0.length (μ.2 2 (ι x))) 26 sb0.length (nI (lv + 1))) 25 (sb0.length + 1) (μ.2 1 (ι x))) 26 (sb0.length + 1) (nI (lv + 1))), 0, 0)) := by
        intro d' hd'
        rcases wf_cases hwx with ⟨t, hc, ht⟩ | ⟨q, hc, hq⟩ | ⟨k, q, hk', hc, h1, h2, h3, h4, h5⟩
        · rw [hv] at hc; cases hc
          have hr : μ.2 0 (ι x) = nI 1 := hrk
          refine ⟨fun _ => ?_, fun z => absurd (hr.symm.trans z) (by decide)⟩
          rw [pcs_leaf hv] at i7 hPS
          rw [dep_leaf hv] at i8
          refine ih (sb0, P ++ [x], d', (upd μ1.1 24 (nI (P.length + 1)), rf_up μ1.2 23 P.length (nI (ι x))), some (.inl (nI (ι x))), some (.inl (nI lv))) ⟨?_, ?_, ?_, ?_, ?_, ?_, ?_, ?_⟩ ?_
          · exact CH_i (μ1 := (μ1.1, rf_up μ1.2 23 P.length (nI (ι x)))) (CH_a i1 (by decide)) (by decide)
          · show upd μ1.1 24 _ 24 = _
            rw [pk_us, List.length_append]; rfl
          · show AP (rf_up μ1.2 23 P.length (nI (ι x)) 23) _
            rw [rf_up_s, List.map_append]
            have := AP_push i3 (nI (ι x))
            rw [List.length_map] at this
            exact this
          · rw [List.map_append] at i4; exact AP_pre i4
          · rw [List.map_append] at i5; exact AP_pre i5
          · exact fun q hq => i6 q (List.mem_append_left _ hq)
          · show (P ++ [x]) ++ lpS T sb0 = _
            rw [← i7]; simp
          · show max d' (lpD T sb0) = _
            rw [← i8, hd']; omega
          · show 2 * (lpS T sb0).length - sb0.length < 2 * (lpS T (sb0 ++ [(x, lv)])).length - (sb0 ++ [(x, lv)]).length
            rw [lpS_push, hlen, List.length_append, pcs_leaf hv, List.length_singleton]; omega
        · rw [hv] at hc; cases hc
          have hr : μ.2 0 (ι x) = nI 3 := hrk.1
          refine ⟨fun _ => ?_, fun z => absurd (hr.symm.trans z) (by decide)⟩
          rw [pcs_slice hv] at i7 hPS
          rw [dep_slice hv] at i8
          refine ih (sb0, P ++ [x], d', (upd μ1.1 24 (nI (P.length + 1)), rf_up μ1.2 23 P.length (nI (ι x))), some (.inl (nI (ι x))), some (.inl (nI lv))) ⟨?_, ?_, ?_, ?_, ?_, ?_, ?_, ?_⟩ ?_
          · exact CH_i (μ1 := (μ1.1, rf_up μ1.2 23 P.length (nI (ι x)))) (CH_a i1 (by decide)) (by decide)
          · show upd μ1.1 24 _ 24 = _
            rw [pk_us, List.length_append]; rfl
          · show AP (rf_up μ1.2 23 P.length (nI (ι x)) 23) _
            rw [rf_up_s, List.map_append]
            have := AP_push i3 (nI (ι x))
            rw [List.length_map] at this
            exact this
          · rw [List.map_append] at i4; exact AP_pre i4
          · rw [List.map_append] at i5; exact AP_pre i5
          · exact fun q hq => i6 q (List.mem_append_left _ hq)
          · show (P ++ [x]) ++ lpS T sb0 = _
            rw [← i7]; simp
          · show max d' (lpD T sb0) = _
            rw [← i8, hd']; omega
          · show 2 * (lpS T sb0).length - sb0.length < 2 * (lpS T (sb0 ++ [(x, lv)])).length - (sb0 ++ [(x, lv)]).length
            rw [lpS_push, hlen, List.length_append, pcs_slice hv, List.length_singleton]; omega
        · rw [hv] at hc; cases hc
          obtain ⟨hr, hr1, hr2⟩ := hrk
          refine ⟨fun z => absurd hr z, fun _ => ?_⟩
          have hkk : 13 - lv = k + 1 := hk'
          have hk2 : 13 - (lv + 1) = k := by omega
          rw [hkk, pcs_join hv] at i7 hPS
          rw [hkk, dep_join hv] at i8
          have hq1 := pcs_pos (T := T) k q.1
          have hq2 := pcs_pos (T := T) k q.2
          refine ih (sb0 ++ [(q.2, lv + 1), (q.1, lv + 1)], P, d', (μ1.1, rf_up (rf_up (rf_up (rf_up μ1.2 25 sb0.length (μ.2 2 (ι x))) 26 sb0.length (nI (lv + 1))) 25 (sb0.length + 1) (μ.2 1 (ι x))) 26 (sb0.length + 1) (nI (lv + 1))), some (.inl (nI (ι x))), some (.inl (nI lv))) ⟨?_, ?_, ?_, ?_, ?_, ?_, ?_, ?_⟩ ?_ |> fun z => by simpa using z
          · exact CH_a2 (CH_a2 (CH_a2 (CH_a2 i1 (by decide)) (by decide)) (by decide)) (by decide)
          · exact i2
          · exact i3
          · rw [List.map_append] at i4
            have a1 := AP_push (AP_pre i4) (nI (ι q.2))
            have a2 := AP_push a1 (nI (ι q.1))
            rw [List.length_append, List.length_map, List.length_singleton] at a2
            show AP (rf_up (rf_up (rf_up (rf_up μ1.2 25 sb0.length (μ.2 2 (ι x))) 26 sb0.length (nI (lv + 1))) 25 (sb0.length + 1) (μ.2 1 (ι x))) 26 (sb0.length + 1) (nI (lv + 1)) 25) _
            rw [rf_up_n (show (25 : Nat) ≠ 26 by decide), rf_up_s, rf_up_n (show (25 : Nat) ≠ 26 by decide), rf_up_s, hr1, hr2]
            simpa using a2
          · rw [List.map_append] at i5
            have a1 := AP_push (AP_pre i5) (nI (lv + 1))
            have a2 := AP_push a1 (nI (lv + 1))
            rw [List.length_append, List.length_map, List.length_singleton] at a2
            show AP (rf_up (rf_up (rf_up (rf_up μ1.2 25 sb0.length (μ.2 2 (ι x))) 26 sb0.length (nI (lv + 1))) 25 (sb0.length + 1) (μ.2 1 (ι x))) 26 (sb0.length + 1) (nI (lv + 1)) 26) _
            rw [rf_up_s, rf_up_n (show (26 : Nat) ≠ 25 by decide), rf_up_s, rf_up_n (show (26 : Nat) ≠ 25 by decide)]
            simpa using a2
          · intro p hp
            rcases List.mem_append.mp hp with h | h
            · exact i6 p (List.mem_append_left _ h)
            · simp only [List.mem_cons, List.not_mem_nil, or_false] at h
              rcases h with rfl | rfl
              · exact ⟨by dsimp only; omega, by dsimp only; rw [hk2]; exact h2⟩
              · exact ⟨by dsimp only; omega, by dsimp only; rw [hk2]; exact h1⟩
          · show P ++ lpS T (sb0 ++ [(q.2, lv + 1), (q.1, lv + 1)]) = _
            rw [show sb0 ++ [(q.2, lv + 1), (q.1, lv + 1)] = (sb0 ++ [(q.2, lv + 1)]) ++ [(q.1, lv + 1)] by simp, lpS_push, lpS_push, hk2, ← i7]
            simp
          · show max d' (lpD T (sb0 ++ [(q.2, lv + 1), (q.1, lv + 1)])) = _
            rw [show sb0 ++ [(q.2, lv + 1), (q.1, lv + 1)] = (sb0 ++ [(q.2, lv + 1)]) ++ [(q.1, lv + 1)] by simp, lpD_app, lpD_app, hk2, ← i8, hd']
            dsimp only
            omega
          · show 2 * (lpS T (sb0 ++ [(q.2, lv + 1), (q.1, lv + 1)])).length - (sb0 ++ [(q.2, lv + 1), (q.1, lv + 1)]).length < 2 * (lpS T (sb0 ++ [(x, lv)])).length - (sb0 ++ [(x, lv)]).length
            rw [show sb0 ++ [(q.2, lv + 1), (q.1, lv + 1)] = (sb0 ++ [(q.2, lv + 1)]) ++ [(q.1, lv + 1)] by simp, lpS_push, lpS_push, lpS_push, hk2, hkk, pcs_join hv]
            simp only [List.length_append, List.length_singleton]
            omega
      refine ⟨fun hle => ?_, fun hle => ?_⟩
      · obtain ⟨n1, n2⟩ := nxt d (by omega)
        exact ⟨n1, fun h => n2 (Classical.not_not.mp h)⟩
      · obtain ⟨n1, n2⟩ := nxt lv (by omega)
        exact ⟨n1, fun h => n2 (Classical.not_not.mp h)⟩
  simp only [r_layPieces_0, r_layPieces_1, r_layPieces_2, r_layPieces_5, r_layPieces_6, r_layPieces_7, r_layPieces_8, r_layPieces_9, r_layPieces_10, r_layPieces_13, r_layPieces_14, r_layPieces_15, r_layPieces_16, r_layPieces_17, r_layPieces_20, r_layPieces_21, r_layPieces_22, r_layPieces_24, r_layPieces_27, r_layPieces_30, r_layPieces_31, r_layPieces_34, r_layPieces_35, r_layPieces_36, r_layPieces_38, r_layPieces_39, r_layPieces_42, r_layPieces_43, r_layPieces_44, r_layPieces_46, r_layPieces_48, r_layPieces_49, r_layPieces_52, r_layPieces_54, r_layPieces_57, r_layPieces_58, r_layPieces_59, r_layPieces_60, r_layPieces_63, r_layPieces_65, r_layPieces_66, r_layPieces_67, r_layPieces_70, r_layPieces_71, r_layPieces_74, r_layPieces_75, r_layPieces_76, r_layPieces_79, r_layPieces_81, r_layPieces_82, r_layPieces_83, r_layPieces_84, r_layPieces_87, r_layPieces_88, r_layPieces_90, r_layPieces_91, r_layPieces_92, r_layPieces_93, r_layPieces_94, r_layPieces_97, r_layPieces_98, r_layPieces_99, r_layPieces_100, r_layPieces_101, r_layPieces_104, r_layPieces_106, r_layPieces_107, r_layPieces_108, r_layPieces_109, r_layPieces_112, r_layPieces_113, r_layPieces_114, r_layPieces_115, r_layPieces_117, r_layPieces_118, r_layPieces_119, r_layPieces_120, r_layPieces_123, r_layPieces_126, r_layPieces_127, r_layPieces_130, r_layPieces_131, r_layPieces_134, r_layPieces_136, r_layPieces_137, r_layPieces_138, r_layPieces_139, r_layPieces_142, r_layPieces_143, r_layPieces_144, r_layPieces_147, r_layPieces_150, r_layPieces_151]
  simp only [nI_0, sb_cl0, show vp_in (0 : Int32) 512 from by rw [← nI_0]; exact vp_in_nI (by decide) (by decide), true_and]
  have hh := key ([(c, 0)], [], 0, (upd μ.1 24 0, rf_up (rf_up μ.2 25 0 (nI (ι c))) 26 0 0), none, none) ⟨?_, ?_, ?_, ?_, ?_, ?_, ?_, ?_⟩
  · exact hh
  · exact CH_i2 (CH_a2 (CH_a2 (CH_rf _ μ) (by decide)) (by decide)) (by decide)
  · show upd μ.1 24 0 24 = nI 0
    rw [pk_us, nI_0]
  · exact AP_nil _
  · show AP (rf_up (rf_up μ.2 25 0 (nI (ι c))) 26 0 0 25) _
    rw [rf_up_n (show (25 : Nat) ≠ 26 by decide), rf_up_s]
    exact AP_push (AP_nil _) (nI (ι c))
  · show AP (rf_up (rf_up μ.2 25 0 (nI (ι c))) 26 0 0 26) _
    rw [rf_up_s, rf_up_n (show (26 : Nat) ≠ 25 by decide)]
    exact AP_push (AP_nil _) (nI 0)
  · intro q hq
    cases List.mem_singleton.mp hq
    exact ⟨Nat.zero_le _, hw⟩
  · simp [lpS]
  · simp [lpD]
