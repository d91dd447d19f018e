/-! ===== the class: pieces; what is read of texts ===== -/
theorem sD {A : Type} {p : A} {P : A → Prop} : (∀ q, some p = some q → P q) = P p := propext ⟨fun h => h p rfl, fun h q e => by cases e; exact h⟩
theorem AP_pushV {α : Type} {f : Nat → α} {l : List α} (h : AP f l) (v : α) : AP (va_up f l.length v) (l ++ [v]) := by
  intro j x hj
  by_cases hl : j < l.length
  · rw [List.getElem?_append_left hl] at hj
    rw [va_up_ne _ _ (by omega)]
    exact h j x hj
  · rw [List.getElem?_append_right (by omega)] at hj
    have hz : j - l.length < 1 := (List.getElem?_eq_some_iff.mp hj).1
    have : j = l.length := by omega
    subst this
    rw [Nat.sub_self] at hj
    cases hj
    exact va_up_self _ _ _
/-- Pieces, with their row behind them -/
def PCS (σ : xS) (t : Nat) (P : List Nat) : Prop := ∃ fi fr g, σ.1 t = some (1, fi, fr) ∧ fr 0 = some (t + 1) ∧ fi 1 = nI P.length ∧ σ.2.1 (t + 1) = none ∧ σ.2.2 (t + 1) = some (120, g) ∧ AP g (P.map some) ∧ P.length ≤ 120
theorem PCS_f {σ σ' : xS} {t : Nat} {P : List Nat} {lo lg lr : List Nat} (h : PCS σ t P) (hf : XF lo lg lr σ σ') (ht : t + 1 < 24) (h1 : t ∉ lo) (h2 : t + 1 ∉ lr) : PCS σ' t P := by
  obtain ⟨fi, fr, g, a1, a2, a3, a4, a5, a6⟩ := h
  exact ⟨fi, fr, g, hf.1 t _ h1 a1, a2, a3, hf.2.2.2 _ ht a4, hf.2.2.1 _ _ h2 a5, a6⟩
theorem isPc_kind {σ : xS} {T : sT} (hC : XC σ T) {c : Nat} (hp : isPc T c) : ∃ o, σ.1 c = some o ∧ o.1 = 0 ∧ ¬ o.2.1 0 = nI 1 ∧ 24 ≤ c := by
  obtain ⟨v, hv⟩ := Option.ne_none_iff_exists'.mp (isPc_nn hp)
  obtain ⟨h24, o, o1, o2, o3, o4⟩ := hC c v hv
  refine ⟨o, o1, o2, ?_, h24⟩
  rcases hp with ⟨tt, h, -⟩ | ⟨q, h, -⟩
  · rw [hv] at h; cases h; rw [o4.1]; decide
  · rw [hv] at h; cases h; rw [o4.1]; decide
theorem q_addPiece {t : Nat} (ht : t + 1 < 22) {T : sT} {σ : xS} {P : List Nat} (d c lv : Nat) (hC : XC σ T) (hp : isPc T c) (hx : PCS σ t P) (hl : P.length < 120) (hlv : lv ≤ 40) : P_X1_addPieces (d + 1) [.inr (some t), .inr (some c), .inl (nI lv)] σ 0 0 (mN (fun σ' => XF [t] [] [t + 1] σ σ' ∧ PCS σ' t (P ++ [c]))) := by
  obtain ⟨fi, fr, g, a1, a2, a3, a4, a5, a6, a7⟩ := id hx
  refine e_X1_addPieces d (nI lv) (some c) t σ 0 0 _ _ a1 rfl ?_
  obtain ⟨o, o1, o2, hk, h24⟩ := isPc_kind hC hp
  simp only [r_X1_addPieces_0, r_X1_addPieces_1, r_X1_addPieces_4, r_X1_addPieces_5, r_X1_addPieces_7, r_X1_addPieces_10, r_X1_addPieces_11, r_X1_addPieces_12, r_X1_addPieces_15, r_X1_addPieces_16, r_X1_addPieces_44, r_X1_addPieces_45, r_X1_addPieces_48, r_X1_addPieces_51, r_X1_addPieces_52, r_X1_addPieces_55, r_X1_addPieces_56, r_X1_addPieces_59, r_X1_addPieces_60, r_X1_addPieces_63, r_X1_addPieces_64, r_X1_addPieces_67, r_X1_addPieces_68, r_X1_addPieces_71, r_X1_addPieces_72, r_X1_addPieces_73, r_X1_addPieces_74, r_X1_addPieces_75, r_X1_addPieces_78, r_X1_addPieces_79, r_X1_addPieces_80, r_X1_addPieces_83, sN, sD, true_and, nI_leI (show lv < 2 ^ 31 by omega) (show 40 < 2 ^ 31 by omega), xo o1, o2, xo a1, a2, a3, xl (x_lenR a4 a5), xr a5, nI_clamp (show P.length < 2 ^ 31 by omega), vp_in_i (show P.length < 2 ^ 31 by omega), nI_add, mN_e, nI_leI (show 120 < 2 ^ 31 by omega) (show P.length < 2 ^ 31 by omega)]
  refine ⟨fun _ => ⟨fun _ => ?_, fun z => absurd hk z⟩, fun z => absurd hlv z⟩
  refine ⟨fun z => absurd z (nI_pos (by omega)), fun _ => ⟨fun z => by omega, fun _ => ⟨by omega, by omega, hl, ?_⟩⟩⟩
  refine ⟨XF_o (XF_r (XF_rf _ _ _ _) (Or.inl (by simp))) (Or.inl (by simp)), upd fi 1 (nI (P.length + 1)), fr, va_up g P.length (some c), va_up_self _ _ _, a2, ?_, a4, va_up_self _ _ _, ?_, ?_⟩
  · rw [pk_us, List.length_append, List.length_singleton]
  · have := AP_pushV a6 (some c)
    rw [List.length_map] at this
    rw [List.map_append]
    exact this
  · rw [List.length_append, List.length_singleton]; omega
theorem XF_p {t : Nat} {σ σ' : xS} {T : sT} (ht : t < 24) (hC : XC σ T) (hf : XF [t] [] [t + 1] σ σ') : XC σ' T := XC_f hC hf (fun k hk => by simp at hk; subst hk; exact XC_24 hC ht) (fun k hk => by simp at hk)
theorem q_addPieces {t : Nat} (ht : t + 1 < 22) {T : sT} : ∀ (n d c lv : Nat) (σ : xS) (P : List Nat), n ≤ d → n ≤ 13 → XC σ T → wf T n c → PCS σ t P → P.length + (pcs T n c).length ≤ 120 → lv + n ≤ 40 → P_X1_addPieces (d + 1) [.inr (some t), .inr (some c), .inl (nI lv)] σ 0 0 (mN (fun σ' => XF [t] [] [t + 1] σ σ' ∧ PCS σ' t (P ++ pcs T n c))) := by
  intro n
  induction n with
  | zero =>
    intro d c lv σ P hnd hn hC hw hx hl hlv
    have hp : isPc T c := by
      rcases wf_cases hw with h | h | ⟨k, q, hk, -⟩
      · exact Or.inl h
      · exact Or.inr h
      · cases hk
    simp only [pcs, List.length_singleton] at hl ⊢
    exact q_addPiece ht d c lv hC hp hx (by omega) (by omega)
  | succ n ih =>
    intro d c lv σ P hnd hn hC hw hx hl hlv
    rcases wf_cases hw with ⟨tt, h, htt⟩ | ⟨q, h, hq⟩ | ⟨k, q, hk, h, h1, h2, h3, h4, h5⟩
    · rw [pcs_leaf h] at hl ⊢
      exact q_addPiece ht d c lv hC (Or.inl ⟨tt, h, htt⟩) hx (by simp at hl; omega) (by omega)
    · rw [pcs_slice h] at hl ⊢
      exact q_addPiece ht d c lv hC (Or.inr ⟨q, h, hq⟩) hx (by simp at hl; omega) (by omega)
    · cases hk
      obtain ⟨fi, fr, g, a1, a2, a3, a4, a5, a6, a7⟩ := id hx
      refine e_X1_addPieces d (nI lv) (some c) t σ 0 0 _ _ a1 rfl ?_
      obtain ⟨h24, o, o1, o2, o3, k1, k2, k3, k4⟩ := hC c _ h
      simp only [r_X1_addPieces_0, r_X1_addPieces_1, r_X1_addPieces_4, r_X1_addPieces_5, r_X1_addPieces_7, r_X1_addPieces_10, r_X1_addPieces_11, r_X1_addPieces_12, r_X1_addPieces_15, r_X1_addPieces_16, r_X1_addPieces_19, r_X1_addPieces_20, r_X1_addPieces_21, r_X1_addPieces_24, r_X1_addPieces_25, r_X1_addPieces_26, r_X1_addPieces_27, r_X1_addPieces_31, r_X1_addPieces_32, r_X1_addPieces_35, r_X1_addPieces_36, r_X1_addPieces_37, r_X1_addPieces_38, r_X1_addPieces_41, r_X1_addPieces_45, r_X1_addPieces_48, r_X1_addPieces_51, r_X1_addPieces_52, r_X1_addPieces_55, r_X1_addPieces_56, r_X1_addPieces_59, r_X1_addPieces_60, r_X1_addPieces_63, r_X1_addPieces_64, r_X1_addPieces_67, r_X1_addPieces_68, r_X1_addPieces_71, r_X1_addPieces_72, r_X1_addPieces_73, r_X1_addPieces_74, r_X1_addPieces_75, r_X1_addPieces_78, r_X1_addPieces_79, r_X1_addPieces_80, r_X1_addPieces_83, sN, sS, true_and, nI_leI (show lv < 2 ^ 31 by omega) (show 40 < 2 ^ 31 by omega), xo o1, o2, k1, k2, nI_add, mN_e]
      refine ⟨fun _ => ⟨fun z => absurd trivial z, fun _ => ?_⟩, fun z => absurd (by omega) z⟩
      rw [pcs_join h, List.length_append] at hl
      cases d with
      | zero => omega
      | succ d =>
        refine ⟨_, ih d q.1 (lv + 1) σ P (by omega) (by omega) hC h1 hx (by omega) (by omega), ?_⟩
        rintro s1 ⟨g1, g2⟩
        have hC1 := XF_p (by omega) hC g1
        obtain ⟨-, o', p1, p2, p3, m1, m2, m3, m4⟩ := hC1 c _ h
        rw [r_X1_addPieces_30]
        simp only [r_X1_addPieces_0, r_X1_addPieces_1, r_X1_addPieces_4, r_X1_addPieces_5, r_X1_addPieces_7, r_X1_addPieces_10, r_X1_addPieces_11, r_X1_addPieces_12, r_X1_addPieces_15, r_X1_addPieces_16, r_X1_addPieces_19, r_X1_addPieces_20, r_X1_addPieces_21, r_X1_addPieces_24, r_X1_addPieces_25, r_X1_addPieces_26, r_X1_addPieces_27, r_X1_addPieces_31, r_X1_addPieces_32, r_X1_addPieces_35, r_X1_addPieces_36, r_X1_addPieces_37, r_X1_addPieces_38, r_X1_addPieces_41, r_X1_addPieces_45, r_X1_addPieces_48, r_X1_addPieces_51, r_X1_addPieces_52, r_X1_addPieces_55, r_X1_addPieces_56, r_X1_addPieces_59, r_X1_addPieces_60, r_X1_addPieces_63, r_X1_addPieces_64, r_X1_addPieces_67, r_X1_addPieces_68, r_X1_addPieces_71, r_X1_addPieces_72, r_X1_addPieces_73, r_X1_addPieces_74, r_X1_addPieces_75, r_X1_addPieces_78, r_X1_addPieces_79, r_X1_addPieces_80, r_X1_addPieces_83, xo p1, p2, true_and, m3, nI_add, mN_e]
        refine ⟨_, ih d q.2 (lv + 1) s1 (P ++ pcs T n q.1) (by omega) (by omega) hC1 h2 g2 (by rw [List.length_append]; omega) (by omega), ?_⟩
        rintro s2 ⟨f1, f2⟩
        refine ⟨XF_same g1 f1, ?_⟩
        rw [pcs_join h, ← List.append_assoc]
        exact f2
theorem q_piecesRead {t : Nat} (ht : t + 1 < 22) {T : sT} {c : Nat} {σ : xS} {P : List Nat} (hC : XC σ T) (hw : wf T 13 c) (hx : PCS σ t P) : P_X1_read [.inr (some t), .inr (some c)] σ 0 0 (mN (fun σ' => XF [t] [] [t + 1] σ σ' ∧ PCS σ' t (pcs T 13 c))) := by
  obtain ⟨fi, fr, g, a1, a2, a3, a4, a5, a6, a7⟩ := id hx
  refine e_X1_read (some c) t σ 0 0 _ _ a1 rfl ?_
  simp only [r_X1_read_0, r_X1_read_1, r_X1_read_2, r_X1_read_5, r_X1_read_6, r_X1_read_7, r_X1_read_8, r_X1_read_11, xo a1, true_and, mN_e]
  have hX : XF [t] [] [t + 1] σ (va_up σ.1 t (some (1, upd fi 1 (nI 0), fr)), σ.2) := XF_o (XF_rf _ _ _ _) (Or.inl (by simp))
  refine ⟨_, q_addPieces ht 13 15 c 0 _ [] (by omega) (by omega) (XF_p (by omega) hC hX) hw ⟨upd fi 1 (nI 0), fr, g, va_up_self _ _ _, a2, pk_us, a4, a5, AP_nil _, by simp⟩ (by have := pcs_120 hw; simpa using this) (by omega), ?_⟩
  rintro s' ⟨h1, h2⟩
  exact ⟨XF_same hX h1, by simpa using h2⟩
theorem q_piecesReadBoth {t : Nat} (ht : t + 1 < 22) {T : sT} {c d : Nat} {σ : xS} {P : List Nat} (hC : XC σ T) (hw : wf T 13 c) (hw2 : wf T 13 d) (hl : (pcs T 13 c).length + (pcs T 13 d).length ≤ 120) (hx : PCS σ t P) : P_X1_readBoth [.inr (some t), .inr (some c), .inr (some d)] σ 0 0 (mN (fun σ' => XF [t] [] [t + 1] σ σ' ∧ PCS σ' t (pcs T 13 c ++ pcs T 13 d))) := by
  obtain ⟨fi, fr, g, a1, a2, a3, a4, a5, a6, a7⟩ := id hx
  refine e_X1_readBoth (some c) (some d) t σ 0 0 _ _ a1 rfl ?_
  simp only [r_X1_readBoth_0, r_X1_readBoth_1, r_X1_readBoth_2, r_X1_readBoth_5, r_X1_readBoth_6, r_X1_readBoth_7, r_X1_readBoth_8, r_X1_readBoth_11, mN_e]
  refine ⟨_, q_piecesRead ht hC hw hx, ?_⟩
  rintro s' ⟨h1, h2⟩
  refine ⟨_, q_addPieces ht 13 15 d 0 _ _ (by omega) (by omega) (XF_p (by omega) hC h1) hw2 h2 hl (by omega), ?_⟩
  rintro s2 ⟨g1, g2⟩
  exact ⟨XF_same h1 g1, g2⟩
theorem q_at {t : Nat} {σ : xS} {P : List Nat} (h : PCS σ t P) (i : Int32) : P_X1_at [.inr (some t), .inl i] σ 0 0 (mR (fun r σ' => σ' = σ ∧ r = ix P i)) := by
  obtain ⟨fi, fr, g, a1, a2, a3, a4, a5, a6, a7⟩ := h
  refine e_X1_at i t σ 0 0 _ _ a1 rfl ?_
  simp only [r_X1_at_0, r_X1_at_1, r_X1_at_4, r_X1_at_5, r_X1_at_6, r_X1_at_9, r_X1_at_12, r_X1_at_13, r_X1_at_14, r_X1_at_17, r_X1_at_18, r_X1_at_21, r_X1_at_22, r_X1_at_25, r_X1_at_26, r_X1_at_27, r_X1_at_30, r_X1_at_31, xo a1, true_and, a2, a3, xl (x_lenR a4 a5), xr a5, mR_e]
  rcases ix_cases P (by omega) i with ⟨h1, h2⟩ | ⟨j, x, rfl, hj, hx, h1⟩
  · rw [h1]
    refine ⟨fun _ => rfl, fun hn => ⟨fun _ => rfl, fun hl => ?_⟩⟩
    rcases h2 with h2 | h2
    · exact absurd h2 hn
    · exact absurd h2 hl
  · rw [h1]
    refine ⟨fun z => absurd z (nI_pos (by omega)), fun _ => ⟨fun z => ?_, fun _ => ⟨fun z => ?_, fun _ => ?_⟩⟩⟩
    · rw [nI_leI (by omega) (by omega)] at z; omega
    · rw [nI_leI (by omega) (by omega)] at z; omega
    · rw [nI_clamp (by omega), vp_in_i (by omega)]
      exact ⟨by omega, a6 j _ (by rw [List.getElem?_map, hx]; rfl)⟩
theorem q_firstPlaceOf {t : Nat} {σ : xS} {P : List Nat} (h : PCS σ t P) (h24 : ∀ x ∈ P, 24 ≤ x) {c n : Nat} (hc : P[n]? = some c) : P_X1_firstPlaceOf [.inr (some t), .inr (some c)] σ 0 0 (mI (fun r σ' => σ' = σ ∧ r = nI (fi P c))) := by
  obtain ⟨ti, tr, g, a1, a2, a3, a4, a5, a6, a7⟩ := id h
  refine e_X1_firstPlaceOf (some c) t σ 0 0 _ _ a1 rfl ?_
  generalize hret : (mI (fun r σ' => σ' = σ ∧ r = nI (fi P c))) = ret
  have hnl := (List.getElem?_eq_some_iff.mp hc).1
  have key : ∀ i : Nat, (i ≤ n ∧ ∀ j x, j < i → P[j]? = some x → x ≠ c) → W_X1_firstPlaceOf ret (2, [some (.inr (some t)), some (.inr (some c)), some (.inl (nI i))], [], σ, 0, 0) := by
    refine mm_loop _ _ (fun i => n - i) ?_
    rintro i ⟨i0, i1⟩ ih
    rw [r_X1_firstPlaceOf_2]
    simp only [r_X1_firstPlaceOf_0, r_X1_firstPlaceOf_1, r_X1_firstPlaceOf_3, r_X1_firstPlaceOf_4, r_X1_firstPlaceOf_7, r_X1_firstPlaceOf_10, r_X1_firstPlaceOf_11, r_X1_firstPlaceOf_12, r_X1_firstPlaceOf_15, r_X1_firstPlaceOf_16, r_X1_firstPlaceOf_19, r_X1_firstPlaceOf_20, r_X1_firstPlaceOf_21, r_X1_firstPlaceOf_24, r_X1_firstPlaceOf_27, r_X1_firstPlaceOf_29, xo a1, true_and, a3, nI_leI (show P.length < 2 ^ 31 by omega) (show i < 2 ^ 31 by omega), nI_add]
    refine ⟨fun hle => by omega, fun _ => ⟨_, q_at h (nI i), ?_⟩⟩
    rintro r s' ⟨rfl, rfl⟩
    obtain ⟨x, hx⟩ : ∃ x, P[i]? = some x := ⟨_, List.getElem?_eq_getElem (show i < P.length by omega)⟩
    rw [ix_nI (by omega), hx]
    simp only [sD]
    refine ⟨h24 x (List.mem_of_getElem? hx), h24 c (List.mem_of_getElem? hc), fun hne => ?_, fun he => ?_⟩
    · have hne : x ≠ c := fun z => hne (by rw [z])
      refine ih (i + 1) ⟨?_, fun j y hj hy => ?_⟩ ?_
      · rcases Nat.lt_or_ge i n with hl | hl
        · omega
        · have : i = n := by omega
          subst this
          rw [hc] at hx; cases hx; exact absurd rfl hne
      · by_cases hji : j = i
        · subst hji; rw [hx] at hy; cases hy; exact hne
        · exact i1 j y (by omega) hy
      · rcases Nat.lt_or_ge i n with hl | hl
        · omega
        · have : i = n := by omega
          subst this
          rw [hc] at hx; cases hx; exact absurd rfl hne
    · cases he
      subst hret
      rw [mI_e, fi_u P c i hx i1]
      exact ⟨rfl, rfl⟩
  simp only [r_X1_firstPlaceOf_0, r_X1_firstPlaceOf_1, r_X1_firstPlaceOf_3, r_X1_firstPlaceOf_4, r_X1_firstPlaceOf_7, r_X1_firstPlaceOf_10, r_X1_firstPlaceOf_11, r_X1_firstPlaceOf_12, r_X1_firstPlaceOf_15, r_X1_firstPlaceOf_16, r_X1_firstPlaceOf_19, r_X1_firstPlaceOf_20, r_X1_firstPlaceOf_21, r_X1_firstPlaceOf_24, r_X1_firstPlaceOf_27, r_X1_firstPlaceOf_29]
  exact key 0 ⟨Nat.zero_le _, fun j x hj => by omega⟩
/-! texts -/
theorem q_signAtS {σ : xS} {t : Nat} {L : List Int32} (h : TXT σ t L) {i : Nat} {x : Int32} (hx : L[i]? = some x) (hi : i < 2 ^ 31) : P_X3_signAt [.inr (some t), .inl (nI i)] σ 0 0 (mI (fun r σ' => σ' = σ ∧ r = x)) := by
  have := q_signAt h (nI i)
  rw [ix_nI hi, hx] at this
  exact this
theorem wd_nil : wd [] = false := rfl
theorem q_isWide {σ : xS} {t : Nat} {L : List Int32} (h : TXT σ t L) : P_X3_isWide [.inr (some t)] σ 0 0 (mI (fun r σ' => σ' = σ ∧ r = if wd L then 1 else 0)) := by
  obtain ⟨ti, tr, g, a1, a2, a3, a4, a5, a6⟩ := id h
  refine e_X3_isWide t σ 0 0 _ _ a1 rfl ?_
  generalize hret : (mI (fun r σ' => σ' = σ ∧ r = if wd L then 1 else 0)) = ret
  have key : ∀ i : Nat, (i ≤ L.length ∧ wd (L.take i) = false) → W_X3_isWide ret (2, [some (.inr (some t)), some (.inl (nI i))], [], σ, 0, 0) := by
    refine mm_loop _ _ (fun i => L.length - i) ?_
    rintro i ⟨i0, i1⟩ ih
    rw [r_X3_isWide_2]
    simp only [r_X3_isWide_0, r_X3_isWide_1, r_X3_isWide_3, r_X3_isWide_4, r_X3_isWide_7, r_X3_isWide_10, r_X3_isWide_11, r_X3_isWide_12, r_X3_isWide_15, r_X3_isWide_18, r_X3_isWide_21, r_X3_isWide_22, r_X3_isWide_23, r_X3_isWide_26, r_X3_isWide_29, r_X3_isWide_30, xo a1, true_and, a3, nI_leI (show L.length < 2 ^ 31 by omega) (show i < 2 ^ 31 by omega), nI_add]
    refine ⟨fun hle => ⟨Or.inl nI_0, ?_⟩, fun hle => ?_⟩
    · have : i = L.length := by omega
      subst this
      rw [List.take_length] at i1
      subst hret
      rw [mI_e, i1]
      exact ⟨rfl, nI_0⟩
    · obtain ⟨x, hx⟩ : ∃ x, L[i]? = some x := ⟨_, List.getElem?_eq_getElem (show i < L.length by omega)⟩
      refine ⟨_, q_signAtS h hx (by omega), ?_⟩
      rintro r s' ⟨rfl, rfl⟩
      refine ⟨fun hle => ih (i + 1) ⟨by omega, ?_⟩ (by omega), fun hle => ⟨Or.inr rfl, ?_⟩⟩
      · rw [wd_succ hx, i1, decide_eq_false (fun z => (Int32_lt_not _ _).mp z hle)]; rfl
      · have : wd L = true := by
          simp only [wd, List.any_eq_true]
          exact ⟨r, List.mem_of_getElem? hx, decide_eq_true ((Int32_lt_not _ _).mpr hle)⟩
        subst hret
        rw [mI_e, this]
        exact ⟨rfl, rfl⟩
  simp only [r_X3_isWide_0, r_X3_isWide_1, r_X3_isWide_3, r_X3_isWide_4, r_X3_isWide_7, r_X3_isWide_10, r_X3_isWide_11, r_X3_isWide_12, r_X3_isWide_15, r_X3_isWide_18, r_X3_isWide_21, r_X3_isWide_22, r_X3_isWide_23, r_X3_isWide_26, r_X3_isWide_29, r_X3_isWide_30]
  exact key 0 ⟨Nat.zero_le _, by simp [wd]⟩
theorem q_hashed {σ : xS} {t : Nat} {L : List Int32} (h : TXT σ t L) : P_X3_hashed [.inr (some t)] σ 0 0 (mI (fun r σ' => σ' = σ ∧ r = hsh L)) := by
  obtain ⟨ti, tr, g, a1, a2, a3, a4, a5, a6⟩ := id h
  refine e_X3_hashed t σ 0 0 _ _ a1 rfl ?_
  generalize hret : (mI (fun r σ' => σ' = σ ∧ r = hsh L)) = ret
  have key : ∀ i : Nat, i ≤ L.length → W_X3_hashed ret (4, [some (.inr (some t)), some (.inl (hsh (L.take i))), some (.inl (nI i))], [], σ, 0, 0) := by
    refine mm_loop _ _ (fun i => L.length - i) ?_
    intro i i0 ih
    rw [r_X3_hashed_4]
    simp only [r_X3_hashed_0, r_X3_hashed_1, r_X3_hashed_2, r_X3_hashed_3, r_X3_hashed_5, r_X3_hashed_6, r_X3_hashed_9, r_X3_hashed_12, r_X3_hashed_14, r_X3_hashed_15, r_X3_hashed_16, r_X3_hashed_17, r_X3_hashed_18, r_X3_hashed_21, r_X3_hashed_22, r_X3_hashed_23, r_X3_hashed_26, r_X3_hashed_29, r_X3_hashed_30, xo a1, true_and, a3, nI_leI (show L.length < 2 ^ 31 by omega) (show i < 2 ^ 31 by omega), nI_add]
    refine ⟨fun hle => ?_, fun hle => ?_⟩
    · have : i = L.length := by omega
      subst this
      rw [List.take_length]
      subst hret
      rw [mI_e]
      exact ⟨rfl, rfl⟩
    · obtain ⟨x, hx⟩ : ∃ x, L[i]? = some x := ⟨_, List.getElem?_eq_getElem (show i < L.length by omega)⟩
      refine ⟨_, q_signAtS h hx (by omega), ?_⟩
      rintro r s' ⟨rfl, rfl⟩
      have hh := ih (i + 1) (by omega) (by omega)
      have e : hsh (L.take (i + 1)) = nI 31 * hsh (L.take i) + r := by
        rw [List.take_add_one, hx]
        simp [hsh, List.foldl_append]
      rw [e] at hh
      exact hh
  simp only [r_X3_hashed_0, r_X3_hashed_1, r_X3_hashed_2, r_X3_hashed_3, r_X3_hashed_5, r_X3_hashed_6, r_X3_hashed_9, r_X3_hashed_12, r_X3_hashed_14, r_X3_hashed_15, r_X3_hashed_16, r_X3_hashed_17, r_X3_hashed_18, r_X3_hashed_21, r_X3_hashed_22, r_X3_hashed_23, r_X3_hashed_26, r_X3_hashed_29, r_X3_hashed_30]
  have := key 0 (Nat.zero_le _)
  exact this
theorem q_samePlaces {σ : xS} {t u : Nat} {L M : List Int32} (h : TXT σ t L) (h' : TXT σ u M) : P_X3_samePlaces [.inr (some t), .inr (some u)] σ 0 0 (mI (fun r σ' => σ' = σ ∧ r = nI (lcp L M))) := by
  obtain ⟨ti, tr, g, a1, a2, a3, a4, a5, a6⟩ := id h
  obtain ⟨ui, ur, g', b1, b2, b3, b4, b5, b6⟩ := id h'
  refine e_X3_samePlaces (some u) t σ 0 0 _ _ a1 rfl ?_
  generalize hret : (mI (fun r σ' => σ' = σ ∧ r = nI (lcp L M))) = ret
  have key : ∀ n : Nat, (∀ j, j < n → ∃ x, L[j]? = some x ∧ M[j]? = some x) → W_X3_samePlaces ret (14, [some (.inr (some t)), some (.inr (some u)), some (.inl (nI (min L.length M.length))), some (.inl (nI n))], [], σ, 0, 0) := by
    refine mm_loop _ _ (fun n => 121 - n) ?_
    intro n hn ih
    have hnt : n ≤ L.length ∧ n ≤ M.length := by
      rcases Nat.eq_zero_or_pos n with hz | hz
      · omega
      · obtain ⟨x, a, b⟩ := hn (n - 1) (by omega)
        have := (List.getElem?_eq_some_iff.mp a).1
        have := (List.getElem?_eq_some_iff.mp b).1
        omega
    have fin : (L.length ≤ n ∨ M.length ≤ n ∨ ∃ x y, L[n]? = some x ∧ M[n]? = some y ∧ x ≠ y) → ret (some (.inl (nI n))) σ := fun hf => by
      subst hret
      rw [mI_e, lcp_u n L M hn hf]
      exact ⟨rfl, rfl⟩
    rw [r_X3_samePlaces_14]
    simp only [r_X3_samePlaces_0, r_X3_samePlaces_1, r_X3_samePlaces_4, r_X3_samePlaces_5, r_X3_samePlaces_8, r_X3_samePlaces_11, r_X3_samePlaces_12, r_X3_samePlaces_13, r_X3_samePlaces_15, r_X3_samePlaces_16, r_X3_samePlaces_19, r_X3_samePlaces_20, r_X3_samePlaces_21, r_X3_samePlaces_24, r_X3_samePlaces_25, r_X3_samePlaces_26, r_X3_samePlaces_29, r_X3_samePlaces_32, r_X3_samePlaces_33, r_X3_samePlaces_34, r_X3_samePlaces_37, r_X3_samePlaces_40, r_X3_samePlaces_41, nI_leI (show min L.length M.length < 2 ^ 31 by omega) (show n < 2 ^ 31 by omega), nI_add]
    refine ⟨fun hl => ?_, fun hl => ?_⟩
    · have e : min L.length M.length = n := by omega
      rw [e]
      exact fin (by omega)
    · obtain ⟨x, hx⟩ : ∃ x, L[n]? = some x := ⟨_, List.getElem?_eq_getElem (show n < L.length by omega)⟩
      obtain ⟨y, hy⟩ : ∃ y, M[n]? = some y := ⟨_, List.getElem?_eq_getElem (show n < M.length by omega)⟩
      refine ⟨_, q_signAtS h hx (by omega), ?_⟩
      rintro r s' ⟨rfl, rfl⟩
      refine ⟨_, q_signAtS h' hy (by omega), ?_⟩
      rintro r' s2 ⟨rfl, rfl⟩
      refine ⟨fun he => ?_, fun hne => fin (Or.inr (Or.inr ⟨r, r', hx, hy, hne⟩))⟩
      subst he
      refine ih (n + 1) (fun j hj => ?_) (by omega)
      by_cases hjn : j = n
      · subst hjn; exact ⟨r, hx, hy⟩
      · exact hn j (by omega)
  simp only [r_X3_samePlaces_0, r_X3_samePlaces_1, r_X3_samePlaces_4, r_X3_samePlaces_5, r_X3_samePlaces_8, r_X3_samePlaces_11, r_X3_samePlaces_12, r_X3_samePlaces_13, r_X3_samePlaces_15, r_X3_samePlaces_16, r_X3_samePlaces_19, r_X3_samePlaces_20, r_X3_samePlaces_21, r_X3_samePlaces_24, r_X3_samePlaces_25, r_X3_samePlaces_26, r_X3_samePlaces_29, r_X3_samePlaces_32, r_X3_samePlaces_33, r_X3_samePlaces_34, r_X3_samePlaces_37, r_X3_samePlaces_40, r_X3_samePlaces_41, xo a1, xo b1, true_and, a3, b3]
  refine ⟨fun r σ' => σ' = σ ∧ r = nI (min L.length M.length), ⟨rfl, rfl, _, _, rfl, _, rfl, rfl, ?_⟩, ?_⟩
  · by_cases hlt : nI M.length < nI L.length
    · rw [if_pos hlt]
      rw [nI_ltI (by omega) (by omega)] at hlt
      congr 1; omega
    · rw [if_neg hlt]
      rw [nI_ltI (by omega) (by omega)] at hlt
      congr 1; omega
  · rintro r s3 ⟨rfl, rfl⟩
    exact key 0 (fun j hj => by omega)
theorem q_isSameAs {σ : xS} {t u : Nat} {L M : List Int32} (h : TXT σ t L) (h' : TXT σ u M) : P_X3_isSameAs [.inr (some t), .inr (some u)] σ 0 0 (mI (fun r σ' => σ' = σ ∧ r = if L = M then 1 else 0)) := by
  obtain ⟨ti, tr, g, a1, a2, a3, a4, a5, a6⟩ := id h
  obtain ⟨ui, ur, g', b1, b2, b3, b4, b5, b6⟩ := id h'
  refine e_X3_isSameAs (some u) t σ 0 0 _ _ a1 rfl ?_
  simp only [r_X3_isSameAs_0, r_X3_isSameAs_1, r_X3_isSameAs_4, r_X3_isSameAs_5, r_X3_isSameAs_8, r_X3_isSameAs_11, r_X3_isSameAs_12, r_X3_isSameAs_13, r_X3_isSameAs_16, r_X3_isSameAs_17, r_X3_isSameAs_20, r_X3_isSameAs_23, r_X3_isSameAs_24, r_X3_isSameAs_27, r_X3_isSameAs_28, xo a1, xo b1, true_and, a3, b3, mI_e, nI_eq (show L.length < 2 ^ 31 by omega) (show M.length < 2 ^ 31 by omega)]
  refine ⟨fun hne => ⟨Or.inl nI_0, ?_⟩, fun he => ?_⟩
  · rw [if_neg (fun z => hne (by rw [z])), nI_0]
  · have he := Classical.not_not.mp he
    refine ⟨_, q_samePlaces h h', ?_⟩
    rintro r s2 ⟨rfl, rfl⟩
    have := (lcp_le L M).1
    simp only [xo a1, true_and, a3, nI_eq (show lcp L M < 2 ^ 31 by omega) (show L.length < 2 ^ 31 by omega)]
    refine ⟨fun hne => ⟨Or.inl nI_0, ?_⟩, fun hee => ⟨Or.inr rfl, ?_⟩⟩
    · rw [if_neg (fun z => hne (lcp_eq.mp z).2), nI_0]
    · rw [if_pos (lcp_eq.mpr ⟨he, Classical.not_not.mp hee⟩)]; rfl
theorem ixD {L : List Int32} {i : Nat} (hi : i < 2 ^ 31) : (ix L (nI i)).getD 0 = L.getD i 0 := by rw [ix_nI hi, List.getD_eq_getElem?_getD]
theorem q_comesBefore {σ : xS} {t u : Nat} {L M : List Int32} (h : TXT σ t L) (h' : TXT σ u M) : P_X3_comesBefore [.inr (some t), .inr (some u)] σ 0 0 (mI (fun r σ' => σ' = σ ∧ ((cfs L M ∧ r = 1) ∨ (¬ cfs L M ∧ r = 0)))) := by
  obtain ⟨ti, tr, g, a1, a2, a3, a4, a5, a6⟩ := id h
  refine e_X3_comesBefore (some u) t σ 0 0 _ _ a1 rfl ?_
  have hl := (lcp_le L M).1
  simp only [r_X3_comesBefore_0, r_X3_comesBefore_1, r_X3_comesBefore_2, r_X3_comesBefore_5, r_X3_comesBefore_6, r_X3_comesBefore_7, r_X3_comesBefore_8, r_X3_comesBefore_11, r_X3_comesBefore_12, r_X3_comesBefore_13, r_X3_comesBefore_16, r_X3_comesBefore_19, r_X3_comesBefore_20, r_X3_comesBefore_23, r_X3_comesBefore_24]
  refine ⟨_, q_samePlaces h h', ?_⟩
  rintro r s2 ⟨rfl, rfl⟩
  refine ⟨_, q_signAt h (nI (lcp L M)), ?_⟩
  rintro r s3 ⟨rfl, rfl⟩
  refine ⟨_, q_signAt h' (nI (lcp L M)), ?_⟩
  rintro r s4 ⟨rfl, rfl⟩
  rw [ixD (by omega), ixD (by omega)]
  simp only [mI_e]
  refine ⟨fun hle => ⟨Or.inl nI_0, trivial, Or.inr ⟨fun z => (Int32_lt_not _ _).mp z hle, nI_0⟩⟩, fun hle => ⟨Or.inr rfl, trivial, Or.inl ⟨(Int32_lt_not _ _).mpr hle, rfl⟩⟩⟩
theorem q_hasAt {σ : xS} {t u : Nat} {L M : List Int32} (h : TXT σ t L) (h' : TXT σ u M) {f : Nat} (hf : f + M.length ≤ L.length) : P_X3_hasAt [.inr (some t), .inl (nI f), .inr (some u)] σ 0 0 (mI (fun r σ' => σ' = σ ∧ ((hasP L M f ∧ r = 1) ∨ (¬ hasP L M f ∧ r = 0)))) := by
  obtain ⟨ti, tr, g, a1, a2, a3, a4, a5, a6⟩ := id h
  obtain ⟨ui, ur, g', b1, b2, b3, b4, b5, b6⟩ := id h'
  refine e_X3_hasAt (nI f) (some u) t σ 0 0 _ _ a1 rfl ?_
  generalize hret : (mI (fun r σ' => σ' = σ ∧ ((hasP L M f ∧ r = 1) ∨ (¬ hasP L M f ∧ r = 0)))) = ret
  have key : ∀ n : Nat, (n ≤ M.length ∧ ∀ j x, j < n → M[j]? = some x → L[f + j]? = some x) → W_X3_hasAt ret (2, [some (.inr (some t)), some (.inl (nI f)), some (.inr (some u)), some (.inl (nI n))], [], σ, 0, 0) := by
    refine mm_loop _ _ (fun n => M.length - n) ?_
    rintro n ⟨n0, n1⟩ ih
    rw [r_X3_hasAt_2]
    simp only [r_X3_hasAt_0, r_X3_hasAt_1, r_X3_hasAt_3, r_X3_hasAt_4, r_X3_hasAt_7, r_X3_hasAt_10, r_X3_hasAt_11, r_X3_hasAt_12, r_X3_hasAt_13, r_X3_hasAt_14, r_X3_hasAt_17, r_X3_hasAt_18, r_X3_hasAt_19, r_X3_hasAt_22, r_X3_hasAt_25, r_X3_hasAt_26, r_X3_hasAt_27, r_X3_hasAt_30, r_X3_hasAt_33, r_X3_hasAt_34, xo b1, true_and, b3, nI_leI (show M.length < 2 ^ 31 by omega) (show n < 2 ^ 31 by omega), nI_add]
    refine ⟨fun hle => ⟨Or.inr rfl, ?_⟩, fun hle => ?_⟩
    · subst hret
      rw [mI_e]
      exact ⟨rfl, Or.inl ⟨⟨hf, fun j x hj => n1 j x (by have := (List.getElem?_eq_some_iff.mp hj).1; omega) hj⟩, rfl⟩⟩
    · obtain ⟨y, hy⟩ : ∃ y, M[n]? = some y := ⟨_, List.getElem?_eq_getElem (show n < M.length by omega)⟩
      obtain ⟨x, hx⟩ : ∃ x, L[f + n]? = some x := ⟨_, List.getElem?_eq_getElem (show f + n < L.length by omega)⟩
      refine ⟨_, q_signAtS h hx (by omega), ?_⟩
      rintro r s' ⟨rfl, rfl⟩
      refine ⟨_, q_signAtS h' hy (by omega), ?_⟩
      rintro r' s2 ⟨rfl, rfl⟩
      refine ⟨fun he => ?_, fun hne => ⟨Or.inl nI_0, ?_⟩⟩
      · subst he
        refine ih (n + 1) ⟨by omega, fun j z hj hz => ?_⟩ (by omega)
        by_cases hjn : j = n
        · subst hjn; rw [hy] at hz; cases hz; exact hx
        · exact n1 j z (by omega) hz
      · subst hret
        rw [mI_e]
        refine ⟨rfl, Or.inr ⟨fun hp => ?_, nI_0⟩⟩
        have := hp.2 n r' hy
        rw [hx] at this
        cases this
        exact hne rfl
  simp only [r_X3_hasAt_0, r_X3_hasAt_1, r_X3_hasAt_3, r_X3_hasAt_4, r_X3_hasAt_7, r_X3_hasAt_10, r_X3_hasAt_11, r_X3_hasAt_12, r_X3_hasAt_13, r_X3_hasAt_14, r_X3_hasAt_17, r_X3_hasAt_18, r_X3_hasAt_19, r_X3_hasAt_22, r_X3_hasAt_25, r_X3_hasAt_26, r_X3_hasAt_27, r_X3_hasAt_30, r_X3_hasAt_33, r_X3_hasAt_34]
  exact key 0 ⟨Nat.zero_le _, fun j x hj => by omega⟩
theorem q_placeOf {σ : xS} {t u : Nat} {L M : List Int32} (h : TXT σ t L) (h' : TXT σ u M) : P_X3_placeOf [.inr (some t), .inr (some u)] σ 0 0 (mI (fun r σ' => σ' = σ ∧ isPlc L M r)) := by
  obtain ⟨ti, tr, g, a1, a2, a3, a4, a5, a6⟩ := id h
  obtain ⟨ui, ur, g', b1, b2, b3, b4, b5, b6⟩ := id h'
  refine e_X3_placeOf (some u) t σ 0 0 _ _ a1 rfl ?_
  generalize hret : (mI (fun r σ' => σ' = σ ∧ isPlc L M r)) = ret
  have hlt : ∀ f : Nat, f ≤ 121 → (nI L.length - nI M.length < nI f ↔ L.length < f + M.length) := fun f hf => by
    rw [Int32.lt_iff_toInt_lt, pk_sub_toInt (by omega) (by omega), nI_toInt (by omega)]
    omega
  have key : ∀ f : Nat, (f ≤ 121 ∧ ∀ g, g < f → ¬ hasP L M g) → W_X3_placeOf ret (2, [some (.inr (some t)), some (.inr (some u)), some (.inl (nI f))], [], σ, 0, 0) := by
    refine mm_loop _ _ (fun f => 122 - f) ?_
    rintro f ⟨f0, f1⟩ ih
    rw [r_X3_placeOf_2]
    simp only [r_X3_placeOf_0, r_X3_placeOf_1, r_X3_placeOf_3, r_X3_placeOf_4, r_X3_placeOf_7, r_X3_placeOf_8, r_X3_placeOf_11, r_X3_placeOf_12, r_X3_placeOf_15, r_X3_placeOf_16, r_X3_placeOf_17, r_X3_placeOf_18, r_X3_placeOf_21, r_X3_placeOf_24, r_X3_placeOf_25, r_X3_placeOf_26, r_X3_placeOf_29, r_X3_placeOf_32, r_X3_placeOf_34, xo a1, xo b1, true_and, a3, b3, hlt f f0, nI_add]
    refine ⟨fun hl => ?_, fun hl => ?_⟩
    · subst hret
      rw [mI_e]
      refine ⟨rfl, Or.inr ⟨rfl, fun g hg => ?_⟩⟩
      rcases Nat.lt_or_ge g f with hgf | hgf
      · exact f1 g hgf hg
      · have := hg.1; omega
    · refine ⟨_, q_hasAt h h' (by omega), ?_⟩
      rintro r s' ⟨rfl, hr⟩
      refine ⟨fun hz => ih (f + 1) ⟨by omega, fun g hg => ?_⟩ (by omega), fun hz => ?_⟩
      · by_cases hgf : g = f
        · subst hgf
          rcases hr with ⟨-, hr⟩ | ⟨hr, -⟩
          · rw [hr] at hz; exact absurd hz (by decide)
          · exact hr
        · exact f1 g (by omega)
      · rcases hr with ⟨hr, -⟩ | ⟨-, hr⟩
        · subst hret
          rw [mI_e]
          exact ⟨rfl, Or.inl ⟨f, rfl, hr, f1⟩⟩
        · exact absurd hr hz
  simp only [r_X3_placeOf_0, r_X3_placeOf_1, r_X3_placeOf_3, r_X3_placeOf_4, r_X3_placeOf_7, r_X3_placeOf_8, r_X3_placeOf_11, r_X3_placeOf_12, r_X3_placeOf_15, r_X3_placeOf_16, r_X3_placeOf_17, r_X3_placeOf_18, r_X3_placeOf_21, r_X3_placeOf_24, r_X3_placeOf_25, r_X3_placeOf_26, r_X3_placeOf_29, r_X3_placeOf_32, r_X3_placeOf_34]
  exact key 0 ⟨by omega, fun g hg => by omega⟩
