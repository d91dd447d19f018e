/-! ===== the reference: entry, count, rule, say, copy ===== -/
def A_rule (sm dp lo : Nat) (w n r : Int32) (sm' dp' lo' : Nat) : Prop :=
  (∃ k, w = nI 0 ∧ n = nI k ∧ k ≤ 32 ∧ r = nI sm ∧ sm' = k ∧ dp' = dp ∧ lo' = lo) ∨ (∃ k, w = nI 1 ∧ n = nI k ∧ 1 ≤ k ∧ k ≤ 12 ∧ r = nI dp ∧ sm' = sm ∧ dp' = k ∧ lo' = lo) ∨ (∃ k, w = nI 2 ∧ n = nI k ∧ 1 ≤ k ∧ k ≤ 8 ∧ r = nI lo ∧ sm' = sm ∧ dp' = dp ∧ lo' = k) ∨
  (¬ ((w = nI 0 ∧ nI 0 ≤ n ∧ n ≤ nI 32) ∨ (w = nI 1 ∧ nI 1 ≤ n ∧ n ≤ nI 12) ∨ (w = nI 2 ∧ nI 1 ≤ n ∧ n ≤ nI 8)) ∧ r = Int32.ofInt (-2) ∧ sm' = sm ∧ dp' = dp ∧ lo' = lo)
def A_say (dr : List Int32) (x r : Int32) (dr' : List Int32) : Prop := (¬ (nI 1 ≤ x ∧ x ≤ nI 9999) → r = Int32.ofInt (-2) ∧ dr' = dr) ∧ ((nI 1 ≤ x ∧ x ≤ nI 9999) → (dr.length = 40 → r = Int32.ofInt (-4) ∧ dr' = dr) ∧ (dr.length ≠ 40 → r = nI (dr.length + 1) ∧ dr' = dr ++ [x]))
def A_copy (T : sT) (sl : List Nat) (t f r : Int32) (sl' : List Nat) : Prop := ((ix sl t = none ∨ ix sl f = none) → r = Int32.ofInt (-1) ∧ sl' = sl) ∧ ∀ c, ix sl t ≠ none → ix sl f = some c → r = nI (tx T 13 c).length ∧ sl' = sl.set t.toNatClampNeg c
theorem AP_set {f : Nat → Int32} {l : List Int32} (h : AP f l) {j : Nat} (hj : j < l.length) (v : Int32) : AP (upd f j v) (l.set j v) := by
  intro i x hi
  rw [List.getElem?_set] at hi
  by_cases hij : j = i
  · subst hij
    rw [if_pos rfl, if_pos hj] at hi
    cases hi
    exact pk_us
  · rw [if_neg hij] at hi
    rw [pk_un (fun z => hij z.symm)]
    exact h i x hi
section
variable {T : sT} {ι : Nat → Nat} {μ : rf_M} {B sp e : Nat} {sl : List Nat} {im : Nat → Option (List Nat)} {en nu : List Nat} {ev : Nat} {dr : List Int32} {sm dp lo : Nat}
/-- a slot gets a cell -/
theorem MS_slot (h : MS T ι μ B sp e sl im en nu ev dr sm dp lo) {j c : Nat} (hj : j < 8) (hc : wf T 12 c) : MS T ι (μ.1, rf_up μ.2 9 j (nI (ι c))) B sp e (sl.set j c) im en nu ev dr sm dp lo := by
  obtain ⟨h1, ⟨⟨o1, o2⟩, o3, o4⟩, h3, h4, h5, h6, h7, h8, h9⟩ := h
  have hch : CH [9] μ (μ.1, rf_up μ.2 9 j (nI (ι c))) := CH_a (CH_rf _ _) (by decide)
  refine ⟨RR_ch h1 hch (by decide), ⟨⟨by rw [List.length_set]; exact o1, ?_⟩, ?_, o4⟩, fun r hr => ?_, h4, h5, h6, h7, h8, h9⟩
  · show AP (rf_up μ.2 9 j (nI (ι c)) 9) _
    rw [rf_up_s, List.map_set]
    exact AP_set o2 (by rw [List.length_map]; omega) _
  · intro k hk
    exact o3 k hk
  · simp only [rts, List.mem_append] at hr
    rcases hr with hr | hr
    · rcases List.mem_or_eq_of_mem_set hr with hr | rfl
      · exact h3 r (by simp [rts, hr])
      · exact hc
    · exact h3 r (by simp only [rts, List.mem_append]; exact Or.inr hr)
theorem cnt_succ {l : List Nat} {i x c : Nat} (h : l[i]? = some x) : cnt (l.take (i + 1)) c = cnt (l.take i) c + (if x = c then 1 else 0) := by
  rw [List.take_add_one, h]
  simp only [cnt, List.filter_append, List.length_append, Option.toList_some]
  by_cases hx : x = c
  · simp [hx]
  · simp [hx]
theorem k_entry (h : MS T ι μ B sp e sl im en nu ev dr sm dp lo) (i w : Int32) : P_entry [.inr (some 39), .inl i, .inl w] μ 0 0 (mI (fun r μ' => CH scr μ μ' ∧ A_entry T sl en nu i w r)) := by
  refine e_entry i w μ _ ?_
  simp only [r_entry_0, r_entry_1, r_entry_2, r_entry_3, r_entry_6, r_entry_9, r_entry_11, r_entry_12, r_entry_13, r_entry_14, r_entry_15, r_entry_18, r_entry_19, r_entry_20, r_entry_23, r_entry_26, r_entry_28, r_entry_29, r_entry_30, r_entry_31, r_entry_32, r_entry_36, r_entry_38, r_entry_41, r_entry_42, r_entry_43, r_entry_46, r_entry_48, r_entry_49, r_entry_50, r_entry_53, r_entry_54, r_entry_55, r_entry_58, r_entry_59, r_entry_62, r_entry_63, r_entry_64, r_entry_65, r_entry_68, r_entry_71, r_entry_72, r_entry_75, r_entry_76, r_entry_79, r_entry_80, r_entry_81, r_entry_84, r_entry_85, r_entry_86, r_entry_89, r_entry_90, r_entry_93, r_entry_94, r_entry_97, r_entry_98, r_entry_99, r_entry_100, r_entry_103, r_entry_104]
  refine ⟨_, k_in μ w _ _, ?_⟩
  rintro r s1 ⟨hs, hr⟩
  subst hs
  subst hr
  by_cases hwn : ¬ (nI 0 ≤ w ∧ w ≤ nI 2)
  · rw [if_neg hwn]
    simp only [mI_e]
    exact ⟨fun z => absurd (by decide) z, fun _ => ⟨CH_rf _ _, ⟨fun _ => rfl, fun z => absurd z hwn⟩⟩⟩
  have hw := Classical.not_not.mp hwn
  rw [if_pos hw]
  refine ⟨fun _ => ?_, fun z => absurd (by decide) z⟩
  obtain ⟨⟨o1, o2⟩, o3, c1, c2, c3⟩ := id h.2.1
  simp only [c2]
  refine ⟨_, k_in s1 i _ _, ?_⟩
  rintro r s2 ⟨hs, hr⟩
  subst hs
  subst hr
  rcases in_len en (by omega) i with ⟨p1, p2⟩ | ⟨k, c, rfl, hk, hc, p1, p2⟩
  · rw [if_neg p2]
    simp only [mI_e]
    exact ⟨fun z => absurd (by decide) z, fun _ => ⟨CH_rf _ _, ⟨fun z => absurd hw z, fun _ => ⟨fun _ => rfl, fun c hc => by rw [p1] at hc; cases hc⟩⟩⟩⟩
  rw [if_pos p2]
  refine ⟨fun _ => ?_, fun z => absurd (by decide) z⟩
  have hcR : c ∈ rts sl im en := by simp [rts, List.mem_of_getElem? hc]
  have hcw := h.2.2.1 c hcR
  obtain ⟨v, hv⟩ := Option.ne_none_iff_exists'.mp (wf_nn hcw)
  obtain ⟨k1, -, k3⟩ := h.1.1 c v hv
  have e12 : s2.2 12 k = nI (ι c) := c3 k _ (by rw [List.getElem?_map, hc]; rfl)
  obtain ⟨m, hm⟩ : ∃ m, nu[k]? = some m := ⟨_, List.getElem?_eq_getElem (by rw [h.2.2.2.1]; exact hk)⟩
  have e13 : s2.2 13 k = nI m := h.2.2.2.2.1 k _ (by rw [List.getElem?_map, hm]; rfl)
  generalize hret : mI (fun r μ' => CH scr s2 μ' ∧ A_entry T sl en nu (nI k) w r) = ret
  have key : ∀ x : Nat, x ≤ 8 → W_entry ret (34, [some (.inr (some 39)), some (.inl (nI k)), some (.inl w), some (.inl (nI (cnt (sl.take x) c))), some (.inl (nI x))], [], s2, 0, 0) := by
    refine mm_loop _ _ (fun x => 8 - x) ?_
    intro x hx ih
    rw [r_entry_34]
    simp only [r_entry_0, r_entry_1, r_entry_2, r_entry_3, r_entry_6, r_entry_9, r_entry_11, r_entry_12, r_entry_13, r_entry_14, r_entry_15, r_entry_18, r_entry_19, r_entry_20, r_entry_23, r_entry_26, r_entry_28, r_entry_29, r_entry_30, r_entry_31, r_entry_32, r_entry_36, r_entry_38, r_entry_41, r_entry_42, r_entry_43, r_entry_46, r_entry_48, r_entry_49, r_entry_50, r_entry_53, r_entry_54, r_entry_55, r_entry_58, r_entry_59, r_entry_62, r_entry_63, r_entry_64, r_entry_65, r_entry_68, r_entry_71, r_entry_72, r_entry_75, r_entry_76, r_entry_79, r_entry_80, r_entry_81, r_entry_84, r_entry_85, r_entry_86, r_entry_89, r_entry_90, r_entry_93, r_entry_94, r_entry_97, r_entry_98, r_entry_99, r_entry_100, r_entry_103, r_entry_104, nI_leI (show 8 < 2 ^ 31 by omega) (show x < 2 ^ 31 by omega), nI_clamp (show x < 2 ^ 31 by omega), vp_in_i (show x < 2 ^ 31 by omega), nI_clamp (show k < 2 ^ 31 by omega), vp_in_i (show k < 2 ^ 31 by omega), show k < 24 by omega, true_and, e12, e13, nI_clamp (show ι c < 2 ^ 31 by omega), vp_in_i (show ι c < 2 ^ 31 by omega), k1, k3, nI_add, ← nI_0]
    refine ⟨fun hle => ?_, fun hle => ?_⟩
    · have : x = 8 := by omega
      subst this
      rw [List.take_of_length_le (by omega)]
      subst hret
      simp only [mI_e]
      have hB : ∀ {r : Int32}, ((w = nI 0 → r = nI m) ∧ (w = nI 1 → r = nI (tx T 13 c).length) ∧ (w = nI 2 → r = nI (cnt sl c))) → CH scr s2 s2 ∧ A_entry T sl en nu (nI k) w r := fun hr => ⟨CH_rf _ _, ⟨fun z => absurd hw z, fun _ => ⟨fun z => (by rw [p1] at z; cases z), fun c' hc' => by rw [p1] at hc'; cases hc'; exact ⟨fun z => ⟨m, by rw [ix_nI (by omega)]; exact hm, hr.1 z⟩, hr.2⟩⟩⟩⟩
      have hw3 : w = nI 0 ∨ w = nI 1 ∨ w = nI 2 := by
        rcases nI_03 ⟨hw.1, by
          have a := Int32.le_iff_toInt_le.mp hw.2
          rw [Int32.le_iff_toInt_le]
          rw [nI_toInt (by omega)] at a ⊢
          omega⟩ with z | z | z | z
        · exact Or.inl z
        · exact Or.inr (Or.inl z)
        · exact Or.inr (Or.inr z)
        · rw [z] at hw; exact absurd hw.2 (by decide)
      rcases hw3 with rfl | rfl | rfl
      · exact ⟨fun z => absurd rfl z, fun _ => hB ⟨fun _ => rfl, fun z => absurd z (by decide), fun z => absurd z (by decide)⟩⟩
      · exact ⟨fun _ => ⟨fun z => absurd rfl z, fun _ => hB ⟨fun z => absurd z (by decide), fun _ => rfl, fun z => absurd z (by decide)⟩⟩, fun z => absurd (by decide) z⟩
      · exact ⟨fun _ => ⟨fun _ => hB ⟨fun z => absurd z (by decide), fun z => absurd z (by decide), fun _ => rfl⟩, fun z => absurd (by decide) z⟩, fun z => absurd (by decide) z⟩
    · obtain ⟨y, hy⟩ : ∃ y, sl[x]? = some y := ⟨_, List.getElem?_eq_getElem (show x < sl.length by omega)⟩
      have hh := ih (x + 1) (by omega) (by omega)
      rw [cnt_succ hy] at hh
      obtain ⟨y1, y2, y3, y4, y5, y6, y7⟩ := MS_sl h hy
      rw [y5, pc_i h.1 y3 (wf_nn hcw)]
      refine ⟨by omega, fun hne => ?_, fun he => ?_⟩
      · rw [if_neg hne] at hh; exact hh
      · rw [if_pos (Classical.not_not.mp he)] at hh; exact hh
  exact key 0 (by omega)
theorem k_count (h : MS T ι μ B sp e sl im en nu ev dr sm dp lo) (w : Int32) : P_count [.inr (some 39), .inl w] μ 0 0 (mI (fun r μ' => CH scr μ μ' ∧ A_count T sl im en ev dr sm dp lo w r)) := by
  refine e_count w μ _ ?_
  simp only [r_count_0, r_count_1, r_count_68, r_count_69, r_count_72, r_count_73, r_count_74, r_count_77, r_count_78, r_count_79, r_count_82, r_count_83, r_count_84, r_count_87, r_count_88, r_count_89, r_count_92, r_count_93, r_count_94, r_count_97, r_count_98, r_count_99, r_count_102, r_count_103, r_count_104, r_count_107, r_count_108, r_count_111, r_count_112, r_count_113, r_count_116, r_count_117, r_count_118, r_count_121, r_count_122, r_count_125, r_count_126, r_count_127, r_count_128, r_count_129, r_count_132, r_count_133, r_count_134, r_count_137, r_count_138, r_count_139, r_count_142, r_count_143, r_count_145]
  obtain ⟨⟨o1, o2⟩, o3, c1, c2, c3⟩ := id h.2.1
  obtain ⟨-, -, -, -, -, q6, ⟨-, q8, -, -⟩, ⟨q11, q12, q13⟩, -⟩ := id h
  have hsl : ∀ r ∈ sl, T r ≠ none := fun r hr => wf_nn (h.2.2.1 r (by simp [rts, hr]))
  have i0 : vp_in (nI 0) 2 := vp_in_nI (by decide) (by decide)
  have i1 : vp_in (nI 1) 2 := vp_in_nI (by decide) (by decide)
  simp only [c2, q6, q8, q11, q12, q13, mI_e, i0, i1, true_and, nI_clamp (show 0 < 2 ^ 31 by omega), nI_clamp (show 1 < 2 ^ 31 by omega), nI_add]
  have no : ∀ {P : Prop} {a b : Int}, w.toInt = a → w.toInt = b → a ≠ b → P := fun h1 h2 h3 => absurd (h1.symm.trans h2) h3
  have noR : ∀ {P : Prop} {a : Int}, w.toInt = a → (w.toInt < 0 ∨ 12 < w.toInt ∨ (5 < w.toInt ∧ w.toInt < 10)) → (0 ≤ a ∧ a ≤ 5) ∨ (10 ≤ a ∧ a ≤ 12) → P := fun h1 h2 h3 => by omega
  have bad : (w.toInt < 0 ∨ 12 < w.toInt ∨ (5 < w.toInt ∧ w.toInt < 10)) → CH scr μ μ ∧ A_count T sl im en ev dr sm dp lo w (Int32.ofInt (-2)) := fun hw => ⟨CH_rf _ _, ⟨fun _ => rfl, fun z => noR z hw (by decide), fun z => noR z hw (by decide), fun z => noR z hw (by decide), fun z => noR z hw (by decide), fun z => noR z hw (by decide), fun z => noR z hw (by decide), fun z => noR z hw (by decide), fun z => noR z hw (by decide), fun z => noR z hw (by decide)⟩⟩
  refine ⟨fun hw => bad (by omega), fun hw => ?_, fun hw => ?_, fun hw => ?_, fun hw => ?_, fun hw => ?_, fun hw => ?_, fun hw => bad (by omega), fun hw => bad (by omega), fun hw => bad (by omega), fun hw => bad (by omega), fun hw => ?_, fun hw => ?_, fun hw => ?_, trivial⟩
  · refine ⟨_, k_markHeld h.1.1 h.1.2.1 h.1.2.2.1 o1 o2 hsl, ?_⟩
    rintro r s1 ⟨V, v1, v2, v3, rfl, v5⟩
    refine ⟨CH_w v5 (by decide), ⟨fun z => noR hw z (by decide), fun _ => ?_, fun z => no hw z (by decide), fun z => no hw z (by decide), fun z => no hw z (by decide), fun z => no hw z (by decide), fun z => no hw z (by decide), fun z => no hw z (by decide), fun z => no hw z (by decide), fun z => no hw z (by decide)⟩⟩
    rw [nd_len (dd_nodup _) v1.1 (fun x => by rw [dd_mem, v3])]
  · refine ⟨_, k_markHeld h.1.1 h.1.2.1 h.1.2.2.1 o1 o2 hsl, ?_⟩
    rintro r s1 ⟨V, v1, v2, v3, rfl, v5⟩
    refine ⟨_, k_roomOfMarked (RK_ch h.1.1 v5 (by decide) (by decide) (by decide) (by decide)) (RX_ch h.1.x v5 (by decide) (by decide)) h.1.2.1 h.1.2.2.1 v1 v2, ?_⟩
    rintro r s2 ⟨rfl, rfl⟩
    refine ⟨CH_w v5 (by decide), ⟨fun z => noR hw z (by decide), fun z => no hw z (by decide), fun _ => ?_, fun z => no hw z (by decide), fun z => no hw z (by decide), fun z => no hw z (by decide), fun z => no hw z (by decide), fun z => no hw z (by decide), fun z => no hw z (by decide), fun z => no hw z (by decide)⟩⟩
    rw [nd_sum (rm T) (dd_nodup _) v1.1 (fun x => by rw [dd_mem, v3])]
  · exact ⟨CH_rf _ _, ⟨fun z => noR hw z (by decide), fun z => no hw z (by decide), fun z => no hw z (by decide), fun _ => rfl, fun z => no hw z (by decide), fun z => no hw z (by decide), fun z => no hw z (by decide), fun z => no hw z (by decide), fun z => no hw z (by decide), fun z => no hw z (by decide)⟩⟩
  · exact ⟨CH_rf _ _, ⟨fun z => noR hw z (by decide), fun z => no hw z (by decide), fun z => no hw z (by decide), fun z => no hw z (by decide), fun _ => rfl, fun z => no hw z (by decide), fun z => no hw z (by decide), fun z => no hw z (by decide), fun z => no hw z (by decide), fun z => no hw z (by decide)⟩⟩
  · exact ⟨CH_rf _ _, ⟨fun z => noR hw z (by decide), fun z => no hw z (by decide), fun z => no hw z (by decide), fun z => no hw z (by decide), fun z => no hw z (by decide), fun _ => rfl, fun z => no hw z (by decide), fun z => no hw z (by decide), fun z => no hw z (by decide), fun z => no hw z (by decide)⟩⟩
  · have fin : ∀ {n : Nat}, n = (if im 0 = none then 0 else 1) + (if im 1 = none then 0 else 2) → CH scr μ μ ∧ A_count T sl im en ev dr sm dp lo w (nI n) := fun hn => ⟨CH_rf _ _, ⟨fun z => noR hw z (by decide), fun z => no hw z (by decide), fun z => no hw z (by decide), fun z => no hw z (by decide), fun z => no hw z (by decide), fun z => no hw z (by decide), fun _ => by rw [hn], fun z => no hw z (by decide), fun z => no hw z (by decide), fun z => no hw z (by decide)⟩⟩
    rcases o3 0 (by omega) with ⟨a1, a2⟩ | ⟨l0, a1, a2, -, -⟩ <;> rcases o3 1 (by omega) with ⟨b1, b2⟩ | ⟨l1, b1, b2, -, -⟩ <;> rw [a2, b2] <;> refine ⟨fun z => ?_, fun z => ?_⟩ <;> first
      | exact absurd z (by decide)
      | exact absurd rfl z
      | (refine ⟨fun y => ?_, fun y => ?_⟩ <;> first
          | exact absurd y (by decide)
          | exact absurd rfl y
          | exact fin (by rw [a1, b1]; rfl))
  · exact ⟨CH_rf _ _, ⟨fun z => noR hw z (by decide), fun z => no hw z (by decide), fun z => no hw z (by decide), fun z => no hw z (by decide), fun z => no hw z (by decide), fun z => no hw z (by decide), fun z => no hw z (by decide), fun _ => rfl, fun z => no hw z (by decide), fun z => no hw z (by decide)⟩⟩
  · exact ⟨CH_rf _ _, ⟨fun z => noR hw z (by decide), fun z => no hw z (by decide), fun z => no hw z (by decide), fun z => no hw z (by decide), fun z => no hw z (by decide), fun z => no hw z (by decide), fun z => no hw z (by decide), fun z => no hw z (by decide), fun _ => rfl, fun z => no hw z (by decide)⟩⟩
  · exact ⟨CH_rf _ _, ⟨fun z => noR hw z (by decide), fun z => no hw z (by decide), fun z => no hw z (by decide), fun z => no hw z (by decide), fun z => no hw z (by decide), fun z => no hw z (by decide), fun z => no hw z (by decide), fun z => no hw z (by decide), fun z => no hw z (by decide), fun _ => rfl⟩⟩
end
