/-! ===== the reference: cuts ===== -/
theorem k_toCut (μ : rf_M) (c f n : Int32) (k : Nat) (h35 : μ.1 35 = nI k) (hk : k < 512) : P_toCut [.inr (some 39), .inl c, .inl f, .inl n] μ 0 0 (mN (fun μ' => μ' = (upd μ.1 35 (nI (k + 1)), rf_up (rf_up (rf_up μ.2 32 k c) 33 k f) 34 k n))) := by
  refine e_toCut _ _ _ μ _ ?_
  simp only [r_toCut_0, r_toCut_1, r_toCut_4, r_toCut_5, r_toCut_8, r_toCut_9, r_toCut_10, r_toCut_11, r_toCut_14, r_toCut_15, r_toCut_18, r_toCut_19, r_toCut_20, r_toCut_21, r_toCut_24, r_toCut_25, r_toCut_28, r_toCut_29, r_toCut_30, r_toCut_31, r_toCut_32, r_toCut_35, r_toCut_36, r_toCut_37, r_toCut_40, h35, nI_clamp (show k < 2 ^ 31 by omega), vp_in_i (show k < 2 ^ 31 by omega), hk, true_and, mN_e, nI_add]
/-- how a part lies behind a step: store, map, room, root, new cells -/
def rPart (T1 : sT) (ι1 : Nat → Nat) (B1 : Nat) (t : tT) (T2 : sT) (ι2 : Nat → Nat) (B2 k : Nat) (F : List Nat) : Prop := BX T1 ι1 T2 ι2 ∧ B1 ≤ B2 ∧ rT T2 t k F ∧ F.Nodup ∧ (∀ x ∈ F, B1 ≤ x ∧ x < B2) ∧ T2 k ≠ none
set_option maxHeartbeats 4000000 in
theorem k_cutLeaf {T0 T1 : sT} {ι1 : Nat → Nat} {μ : rf_M} {B1 sp e lo : Nat} (hext : ∀ c v, T0 c = some v → T1 c = some v) (h : RR T1 ι1 μ B1 sp e) (h20 : μ.1 20 = nI lo) (hlo : 1 ≤ lo ∧ lo ≤ 8) {b f m : Nat} {t : List Int32} (hb : T0 b = some (.inl t)) (ht : okt t) (hm : 0 < m) (hfm : f + m ≤ t.length) (hsp : 1 ≤ sp) (he : e + 122 ≤ 81920) :
    P_cutLeaf [.inr (some 39), .inl (nI (ι1 b)), .inl (nI f), .inl (nI m)] μ 0 0 (mI (fun r μ' => ∃ (T2 : sT) (ι2 : Nat → Nat) (B2 sp2 e2 k : Nat) (F : List Nat), r = nI (ι2 k) ∧ rPart T1 ι1 B1 (cutL t lo b f m) T2 ι2 B2 k F ∧ RR T2 ι2 μ' B2 sp2 e2 ∧ sp ≤ sp2 + 1 ∧ e2 ≤ e + 122 ∧ CH joinF μ μ')) := by
  have hb1 := hext b _ hb
  have ht120 := ht.1
  obtain ⟨gb, -, sb⟩ := h.1 b _ hb1
  rw [tx_leaf hb1] at sb
  have hTB : T1 B1 = none := h.2.2.2.1 B1 (Nat.le_refl _)
  have hml : m * lo ≤ 120 * 8 := Nat.mul_le_mul (by omega) hlo.2
  refine e_cutLeaf _ _ _ μ _ ?_
  generalize hret : (mI (fun r μ' => ∃ (T2 : sT) (ι2 : Nat → Nat) (B2 sp2 e2 k : Nat) (F : List Nat), r = nI (ι2 k) ∧ rPart T1 ι1 B1 (cutL t lo b f m) T2 ι2 B2 k F ∧ RR T2 ι2 μ' B2 sp2 e2 ∧ sp ≤ sp2 + 1 ∧ e2 ≤ e + 122 ∧ CH joinF μ μ')) = ret
  simp only [r_cutLeaf_0, r_cutLeaf_1, r_cutLeaf_2, r_cutLeaf_5, r_cutLeaf_6, r_cutLeaf_7, r_cutLeaf_10, r_cutLeaf_11, r_cutLeaf_12, r_cutLeaf_15, r_cutLeaf_16, r_cutLeaf_17, r_cutLeaf_18, r_cutLeaf_19, r_cutLeaf_20, r_cutLeaf_23, r_cutLeaf_24, r_cutLeaf_25, r_cutLeaf_29, r_cutLeaf_30, r_cutLeaf_33, r_cutLeaf_34, r_cutLeaf_37, r_cutLeaf_39, r_cutLeaf_40, r_cutLeaf_43, r_cutLeaf_44, r_cutLeaf_47, r_cutLeaf_48, r_cutLeaf_49, r_cutLeaf_50, r_cutLeaf_51, r_cutLeaf_53, r_cutLeaf_54, r_cutLeaf_55, r_cutLeaf_56, r_cutLeaf_59, r_cutLeaf_62, r_cutLeaf_63, r_cutLeaf_64, r_cutLeaf_67, h20, pk_mul, nI_clamp (show ι1 b < 2 ^ 31 by omega), vp_in_i (show ι1 b < 2 ^ 31 by omega), gb, true_and, sb, nI_ltI (show m * lo < 2 ^ 31 by omega) (show t.length < 2 ^ 31 by omega)]
  refine ⟨fun hlt => ?_, fun hge => ?_⟩
  · obtain ⟨p, p1, p2, p3⟩ := h.x b t hb1
    have key : ∀ y : Nat × rf_M, (y.1 ≤ m ∧ CH [21] μ y.2 ∧ AP (y.2.2 21) (((t.drop f).take m).take y.1)) → W_cutLeaf ret (27, [some (.inr (some 39)), some (.inl (nI (ι1 b))), some (.inl (nI f)), some (.inl (nI m)), some (.inl (nI y.1))], [], y.2, 0, 0) := by
      refine mm_loop _ _ (fun y => m - y.1) ?_
      rintro ⟨i, μ2⟩ ⟨j0, j1, j2⟩ ih
      dsimp only at j0 j1 j2 ⊢
      have e1 : μ2.2 1 (ι1 b) = nI p := by rw [(j1 1 (by decide)).2]; exact p1
      rw [r_cutLeaf_27]
      simp only [r_cutLeaf_0, r_cutLeaf_1, r_cutLeaf_2, r_cutLeaf_5, r_cutLeaf_6, r_cutLeaf_7, r_cutLeaf_10, r_cutLeaf_11, r_cutLeaf_12, r_cutLeaf_15, r_cutLeaf_16, r_cutLeaf_17, r_cutLeaf_18, r_cutLeaf_19, r_cutLeaf_20, r_cutLeaf_23, r_cutLeaf_24, r_cutLeaf_25, r_cutLeaf_29, r_cutLeaf_30, r_cutLeaf_33, r_cutLeaf_34, r_cutLeaf_37, r_cutLeaf_39, r_cutLeaf_40, r_cutLeaf_43, r_cutLeaf_44, r_cutLeaf_47, r_cutLeaf_48, r_cutLeaf_49, r_cutLeaf_50, r_cutLeaf_51, r_cutLeaf_53, r_cutLeaf_54, r_cutLeaf_55, r_cutLeaf_56, r_cutLeaf_59, r_cutLeaf_62, r_cutLeaf_63, r_cutLeaf_64, r_cutLeaf_67, e1, nI_clamp (show ι1 b < 2 ^ 31 by omega), vp_in_i (show ι1 b < 2 ^ 31 by omega), gb, true_and, nI_add, nI_leI (show m < 2 ^ 31 by omega) (show i < 2 ^ 31 by omega)]
      refine ⟨fun hz => ?_, fun hz => ?_⟩
      · have : i = m := by omega
        subst this
        have hlm : ((t.drop f).take i).length = i := by rw [List.length_take, List.length_drop]; omega
        rw [List.take_take, Nat.min_self] at j2
        have hR2 : RR T1 ι1 μ2 B1 sp e := RR_ch h j1 (by decide)
        have hok : okt ((t.drop f).take i) := ⟨by omega, fun x hx => ht.2 x (List.mem_of_mem_drop (List.mem_of_mem_take hx))⟩
        have hk := k_newLeaf hR2 hsp hok j2 (by omega)
        rw [hlm] at hk
        refine ⟨_, hk, ?_⟩
        rintro r s3 ⟨i3, rfl, hi3, hc3, hR3⟩
        subst hret
        rw [mI_e]
        refine ⟨_, _, B1 + 1, sp - 1, _, B1, [B1], by rw [va_up_self], ⟨BX_up hTB, by omega, ?_, by simp, ?_, by rw [va_up_self]; exact fun z => by cases z⟩, hR3, by omega, by omega, CH_tr j1 hc3 (by decide) (by decide)⟩
        · unfold cutL
          rw [if_pos hlt]
          exact ⟨va_up_self _ _ _, rfl⟩
        · intro x hx
          cases List.mem_singleton.mp hx
          omega
      · obtain ⟨w, hw⟩ : ∃ w, t[f + i]? = some w := ⟨_, List.getElem?_eq_getElem (by omega)⟩
        have e7 : μ2.2 7 (p + f + i) = w := by
          rw [(j1 7 (by decide)).2]
          have := p3 _ w hw
          rwa [← Nat.add_assoc] at this
        simp only [nI_clamp (show p + f + i < 2 ^ 31 by omega), vp_in_i (show p + f + i < 2 ^ 31 by omega), nI_clamp (show i < 2 ^ 31 by omega), vp_in_i (show i < 2 ^ 31 by omega), e7]
        refine ⟨by omega, by omega, ?_⟩
        have hh := ih (i + 1, (μ2.1, rf_up μ2.2 21 i w)) ⟨by dsimp only; omega, CH_a2 j1 (by decide), ?_⟩ (by dsimp only; omega)
        · exact hh
        · dsimp only
          rw [rf_up_s]
          have hl2 : (((t.drop f).take m).take i).length = i := by rw [List.length_take, List.length_take, List.length_drop]; omega
          have a1 := AP_push j2 w
          rw [hl2] at a1
          have hg : ((t.drop f).take m)[i]? = some w := by rw [List.getElem?_take, if_pos (by omega), List.getElem?_drop]; exact hw
          rw [List.take_add_one, hg]
          exact a1
    have hh := key (0, μ) ⟨Nat.zero_le _, CH_rf _ _, by simpa using AP_nil _⟩
    exact hh
  · have hoks : oks T1 (b, f, m) := by
      refine ⟨t, hb1, ht, hfm, hm, ?_⟩
      show t.length ≤ 8 * m
      have : m * lo ≤ m * 8 := Nat.mul_le_mul_left m hlo.2
      omega
    refine ⟨_, k_newSlice (q := (b, f, m)) h hsp hoks, ?_⟩
    rintro r s3 ⟨i3, rfl, hi3, hc3, hR3⟩
    subst hret
    rw [mI_e]
    refine ⟨_, _, B1 + 1, sp - 1, e, B1, [B1], by rw [va_up_self], ⟨BX_up hTB, by omega, ?_, by simp, ?_, by rw [va_up_self]; exact fun z => by cases z⟩, hR3, by omega, by omega, CH_w hc3 (by decide)⟩
    · unfold cutL
      rw [if_neg hge]
      exact ⟨va_up_self _ _ _, rfl⟩
    · intro x hx
      cases List.mem_singleton.mp hx
      omega
/-- how many joins a cut makes at most -/
def jn (T : sT) : Nat → Nat → Nat → Nat → Nat
  | 0, _, _, _ => 0
  | n + 1, c, f, m => if m = 0 then 0 else if m = (tx T (n + 1) c).length then 0 else
    (match T c with
    | some (.inr (.inl q)) => if f + m ≤ (tx T n q.1).length then jn T n q.1 f m
      else if (tx T n q.1).length ≤ f then jn T n q.2 (f - (tx T n q.1).length) m
      else 1 + jn T n q.1 f ((tx T n q.1).length - f) + jn T n q.2 0 (f + m - (tx T n q.1).length)
    | _ => 0)
theorem jn_all {T : sT} : ∀ (n c f : Nat), jn T n c f (tx T n c).length = 0 := by
  intro n c f
  cases n with
  | zero => rfl
  | succ n =>
    simp only [jn]
    split
    · rfl
    · rfl
theorem jn_suf {T : sT} : ∀ (n c f m : Nat), f + m = (tx T n c).length → jn T n c f m ≤ n := by
  intro n
  induction n with
  | zero => intro c f m _; exact Nat.le_refl _
  | succ n ih =>
    intro c f m h
    simp only [jn]
    split
    · omega
    · split
      · omega
      · split
        · rename_i q hc
          rw [tx_join hc, List.length_append] at h
          split
          · rename_i h1
            have := ih q.1 f m (by omega)
            omega
          · split
            · rename_i h1 h2
              have := ih q.2 (f - (tx T n q.1).length) m (by omega)
              omega
            · rename_i h1 h2
              have a := ih q.1 f ((tx T n q.1).length - f) (by omega)
              have e : f + m - (tx T n q.1).length = (tx T n q.2).length := by omega
              rw [e, jn_all]
              omega
        · omega
theorem jn_pre {T : sT} : ∀ (n c m : Nat), m ≤ (tx T n c).length → jn T n c 0 m ≤ n := by
  intro n
  induction n with
  | zero => intro c m _; exact Nat.le_refl _
  | succ n ih =>
    intro c m h
    simp only [jn]
    split
    · omega
    · split
      · omega
      · split
        · rename_i q hc
          rw [tx_join hc, List.length_append] at h
          split
          · rename_i h1
            have := ih q.1 m (by omega)
            omega
          · split
            · rename_i h1 h2
              have := ih q.2 m (by omega)
              rw [Nat.zero_sub]
              omega
            · rename_i h1 h2
              have a := ih q.2 (0 + m - (tx T n q.1).length) (by omega)
              rw [Nat.sub_zero, jn_all]
              omega
        · omega
theorem jn_le {T : sT} : ∀ (n c f m : Nat), f + m ≤ (tx T n c).length → jn T n c f m ≤ 2 * n := by
  intro n
  induction n with
  | zero => intro c f m _; exact Nat.le_refl _
  | succ n ih =>
    intro c f m h
    simp only [jn]
    split
    · omega
    · split
      · omega
      · split
        · rename_i q hc
          rw [tx_join hc, List.length_append] at h
          split
          · rename_i h1
            have := ih q.1 f m (by omega)
            omega
          · split
            · rename_i h1 h2
              have := ih q.2 (f - (tx T n q.1).length) m (by omega)
              omega
            · rename_i h1 h2
              have a := jn_suf (T := T) n q.1 f ((tx T n q.1).length - f) (by omega)
              have b := jn_pre (T := T) n q.2 (f + m - (tx T n q.1).length) (by omega)
              omega
        · omega
