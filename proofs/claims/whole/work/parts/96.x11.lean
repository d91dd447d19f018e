/-! ===== the class: walks over slots; calls that read ===== -/
theorem SPC_m {σ σ' : xS} {st st' : Nat} (hs : st ≤ st') : ∀ (l : List Nat) (h : Option Nat), SPC σ st l h → (∀ k o, k ∈ l → σ.1 k = some o → σ'.1 k = some o) → SPC σ' st' l h
  | [], _, h, _ => h
  | c :: l, _, ⟨h1, h24, o, h2, h3, h4, ⟨s, h5, h5'⟩, h6⟩, hk => ⟨h1, h24, o, hk c o List.mem_cons_self h2, h3, h4, ⟨s, Nat.le_trans h5 hs, h5'⟩, SPC_m hs l _ h6 (fun k o' hk' => hk k o' (List.mem_cons_of_mem _ hk'))⟩
section
variable {σ : xS} {T : sT} {sl : List Nat} {im : Nat → Option (List Nat)} {en nu : List Nat} {ev : Nat} {dr : List Int32} {sm dp lo tn st : Nat} {sp : List Nat}
theorem VI_XS (h : XS σ T sl im en nu ev dr sm dp lo tn st sp) {σ2 : xS} {V : List Nat} (hV : VI σ T (st + 1) σ2 V) : XS σ2 T sl im en nu ev dr sm dp lo tn (st + 1) sp := by
  obtain ⟨⟨hC, hT, ⟨fi, fr, w1, w2, w3, w4, w5, w6⟩, ⟨g, r1, r2⟩, ⟨P, hP⟩, ⟨L, hL⟩, hM, hnd, hsp⟩, ⟨a1, a2, a3, a4, a5, a6, ⟨Q, a7⟩, a8, ⟨A, a9⟩, ⟨B, a10⟩, a11⟩, h3, h4, h5⟩ := h
  obtain ⟨v1, v2, v3, ⟨vi, vr, v4, v5, -⟩, v6⟩ := hV
  have hz := ZF_v hC v2
  have h24 := SPC_24 _ _ w6
  refine ⟨⟨v1, hT, ⟨fi, fr, hz.1 11 _ (by omega) (by simp) w1, w2, w3, w4, w5, SPC_m (Nat.le_succ _) sp _ w6 (fun k o hk ho => by rw [v2.2.1 k (hsp k hk) (by have := h24 k hk; omega)]; exact ho)⟩, ⟨g, by rw [v2.1]; exact r1, r2⟩, ⟨P, PCS_z hP hz (by omega) (by simp) (by simp)⟩, ⟨L, TXT_z hL hz (by omega) (by simp) (by simp)⟩, fun c o hc ho => ⟨?_, (v6 c o hc ho).2⟩, hnd, hsp⟩, ⟨SH_z a1 hz (by simp), IR_z a2 hz (by omega) (by simp), IR_z a3 hz (by omega) (by simp), IR_z a4 hz (by omega) (by simp), TXT_z a5 hz (by omega) (by simp) (by simp), TB_z a6 hz (by simp) (by simp) (by simp), ⟨Q, PCS_z a7 hz (by omega) (by simp) (by simp)⟩, ⟨vi, vr, v4, v5⟩, ⟨A, TXT_z a9 hz (by omega) (by simp) (by simp)⟩, ⟨B, TXT_z a10 hz (by omega) (by simp) (by simp)⟩, STc_z a11 hz (by simp) (by simp)⟩, h3, h4, h5⟩
  obtain ⟨h24, o0, p1, -⟩ := XC_nn hC hc
  obtain ⟨o', q1, q2, q3, q4⟩ := v2.2.2 c o0 p1 (by omega)
  rw [q1] at ho
  cases ho
  rw [q4 7 (by decide)]
  exact (hM c o0 hc p1).1
theorem q_begin (h : XS σ T sl im en nu ev dr sm dp lo tn st sp) (hst : st + 1 < 2 ^ 31) : P_X4_begin [.inr (some 17)] σ 0 0 (mN (fun σ' => VI σ T (st + 1) σ' [])) := by
  obtain ⟨wi, wr, w1, w2⟩ := h.2.1.2.2.2.2.2.2.2.1
  obtain ⟨hC, -, -, -, -, -, hM, -⟩ := id h.1
  refine e_X4_begin 17 σ 0 0 _ _ w1 rfl ?_
  simp only [r_X4_begin_0, r_X4_begin_1, r_X4_begin_2, r_X4_begin_5, r_X4_begin_6, r_X4_begin_7, r_X4_begin_10, r_X4_begin_11, r_X4_begin_12, r_X4_begin_15, r_X4_begin_16, r_X4_begin_17, r_X4_begin_20, xo w1, true_and, w2, nI_add, xu, va_up_up, mN_e]
  have m1 : WFr T σ (va_up σ.1 17 (some (4, upd (upd (upd wi 0 (nI (st + 1))) 1 (nI 0)) 2 (nI 0), wr)), σ.2) := WFr_17 _
  refine ⟨WFr_C hC m1, m1, ⟨List.nodup_nil, fun x hx => by simp at hx⟩, ⟨upd (upd (upd wi 0 (nI (st + 1))) 1 (nI 0)) 2 (nI 0), wr, by simp only [va_up_self], ?_, ?_, ?_⟩, fun c o hc ho => ?_⟩
  · rw [pk_un (by decide), pk_un (by decide), pk_us]
  · rw [pk_un (by decide), pk_us]; rfl
  · rw [pk_us]; rfl
  · have h24 := (XC_nn hC hc).1
    have ho : va_up σ.1 17 (some (4, upd (upd (upd wi 0 (nI (st + 1))) 1 (nI 0)) 2 (nI 0), wr)) c = some o := ho
    rw [va_up_ne _ _ (by omega)] at ho
    obtain ⟨s, s1, s2⟩ := (hM c o hc ho).2
    refine ⟨⟨fun z => ?_, fun z => by simp at z⟩, s, by omega, s2⟩
    rw [s2, nI_eq (by omega) hst] at z
    omega
/-- what a walk leaves -/
def WD (σ : xS) (T : sT) (st : Nat) (R : List Nat) (σ2 : xS) : Prop := ∃ V, VI σ T (st + 1) σ2 V ∧ ∀ x, x ∈ V ↔ x ∈ R
theorem WD_n {R : List Nat} {σ2 : xS} (h : WD σ T st R σ2) : ∃ fi fr, σ2.1 17 = some (4, fi, fr) ∧ fi 1 = nI (dd R).length ∧ fi 2 = nI ((dd R).map (rm T)).sum := by
  obtain ⟨V, ⟨v1, v2, v3, ⟨vi, vr, v4, v5, v6, v7⟩, v8⟩, hV⟩ := h
  have hm : ∀ x, x ∈ V ↔ x ∈ dd R := fun x => by rw [dd_mem]; exact hV x
  exact ⟨vi, vr, v4, by rw [v6, nd_len v3.1 (dd_nodup R) hm], by rw [v7, nd_sum (rm T) v3.1 (dd_nodup R) hm]⟩
theorem vpost_WD {σ1 : xS} {V : List Nat} {c : Nat} {σ2 : xS} (hT : ∀ c, T c ≠ none → wf T 13 c) (hw : wf T 13 c) (h : vpost σ T (st + 1) V [] c (rl T 13 c) σ2) : ∃ V', VI σ T (st + 1) σ2 V' ∧ mkC T V' [] ∧ ∀ x, x ∈ V' ↔ x ∈ V ∨ x ∈ rl T 13 c := by
  obtain ⟨V', h1, h2, h3, h4, h5⟩ := h
  refine ⟨V', h1, h4, fun x => ⟨h5 x, fun z => z.elim (h2 x) (fun z => ?_)⟩⟩
  exact rl_in (fun a ha b hb => h4 a ha (by simp) b hb) 13 c hw h3 x z
theorem q_overCell (h : XS σ T sl im en nu ev dr sm dp lo tn st sp) (hst : st + 1 < 2 ^ 31) {c : Nat} (hw : wf T 13 c) : P_X4_overCell [.inr (some 17), .inr (some c)] σ 0 0 (mN (fun σ' => WD σ T st (rl T 13 c) σ')) := by
  obtain ⟨wi, wr, w1, w2⟩ := h.2.1.2.2.2.2.2.2.2.1
  refine e_X4_overCell (some c) 17 σ 0 0 _ _ w1 rfl ?_
  simp only [r_X4_overCell_0, r_X4_overCell_1]
  refine ⟨_, q_begin h hst, ?_⟩
  intro s1 h1
  simp only [r_X4_overCell_4, r_X4_overCell_5, r_X4_overCell_6, r_X4_overCell_7]
  refine ⟨_, q_visit h.1.2.1 13 17 c 0 s1 [] [] (by omega) (by omega) hw (by omega) h1 (fun z hz => by simp at hz), ?_⟩
  intro s2 h2
  obtain ⟨V', g1, -, g3⟩ := vpost_WD (σ1 := σ) h.1.2.1 hw h2
  rw [r_X4_overCell_10, mN_e]
  exact ⟨V', g1, fun x => by rw [g3]; simp⟩
theorem q_overAll (h : XS σ T sl im en nu ev dr sm dp lo tn st sp) (hst : st + 1 < 2 ^ 31) : P_X4_overAll [.inr (some 17), .inr (some 1)] σ 0 0 (mN (fun σ' => WD σ T st (sl.flatMap (rl T 13)) σ')) := by
  obtain ⟨wi, wr, w1, w2⟩ := h.2.1.2.2.2.2.2.2.2.1
  obtain ⟨g, b1, b2, b3⟩ := id h.2.1.2.1
  obtain ⟨b3, b4⟩ := b3 sl rfl
  refine e_X4_overAll (some 1) 17 σ 0 0 _ _ w1 rfl ?_
  generalize hret : (mN (fun σ' => WD σ T st (sl.flatMap (rl T 13)) σ')) = ret
  have key : ∀ y : Nat × List Nat × xS, (y.1 ≤ 8 ∧ VI σ T (st + 1) y.2.2 y.2.1 ∧ mkC T y.2.1 [] ∧ ∀ x, x ∈ y.2.1 ↔ x ∈ (sl.take y.1).flatMap (rl T 13)) → W_X4_overAll ret (6, [some (.inr (some 17)), some (.inr (some 1)), some (.inl (nI y.1))], [], y.2.2, 0, 0) := by
    refine mm_loop _ _ (fun y => 8 - y.1) ?_
    rintro ⟨i, V, s1⟩ ⟨j0, j1, j2, j3⟩ ih
    dsimp only at j0 j1 j2 j3 ⊢
    have e1 : s1.2.2 1 = some (8, g) := by rw [j1.2.1.1]; exact b1
    have e2 : s1.2.1 1 = none := by rw [j1.2.1.1]; exact b2
    rw [r_X4_overAll_6]
    simp only [r_X4_overAll_0, r_X4_overAll_1, r_X4_overAll_4, r_X4_overAll_5, r_X4_overAll_7, r_X4_overAll_8, r_X4_overAll_9, r_X4_overAll_12, r_X4_overAll_13, r_X4_overAll_14, r_X4_overAll_15, r_X4_overAll_16, r_X4_overAll_17, r_X4_overAll_23, r_X4_overAll_26, xl (x_lenR e2 e1), xr e1, nI_leI (show 8 < 2 ^ 31 by omega) (show i < 2 ^ 31 by omega), nI_clamp (show i < 2 ^ 31 by omega), vp_in_i (show i < 2 ^ 31 by omega)]
    refine ⟨fun hle => ?_, fun hle => ?_⟩
    · have : i = 8 := by omega
      subst this
      rw [List.take_of_length_le (by omega)] at j3
      subst hret
      rw [mN_e]
      exact ⟨V, j1, j3⟩
    · obtain ⟨x, hx⟩ : ∃ x, sl[i]? = some x := ⟨_, List.getElem?_eq_getElem (show i < sl.length by omega)⟩
      have hxm := List.mem_of_getElem? hx
      have hw : wf T 13 x := (wf_up 12 x (h.2.2.1 x (by simp [rts, hxm]))).1
      have e9 : g i = some x := b3 i _ (by rw [List.getElem?_map, hx]; rfl)
      rw [e9]
      refine ⟨by omega, _, q_visit h.1.2.1 13 17 x 0 s1 V [] (by omega) (by omega) hw (by omega) j1 j2, ?_⟩
      intro s2 h2
      obtain ⟨V', v1, v2, v3⟩ := vpost_WD (σ1 := σ) h.1.2.1 hw h2
      rw [r_X4_overAll_20]
      simp only [r_X4_overAll_23, nI_add]
      refine ih (i + 1, V', s2) ⟨by dsimp only; omega, v1, v2, fun z => ?_⟩ (by dsimp only; omega)
      dsimp only
      rw [v3, j3, fm_take_succ (rl T 13) sl hx, List.mem_append]
  simp only [r_X4_overAll_0, r_X4_overAll_1]
  refine ⟨_, q_begin h hst, ?_⟩
  intro s1 h1
  simp only [r_X4_overAll_4, r_X4_overAll_5]
  exact key (0, [], s1) ⟨by dsimp only; omega, h1, fun z hz => by simp at hz, fun x => by simp⟩
theorem XS_c (h : XS σ T sl im en nu ev dr sm dp lo tn st sp) {c : Nat} (hc : c ∈ rts sl im en) : wf T 12 c ∧ wf T 13 c ∧ T c ≠ none ∧ tx T 13 c = tx T 12 c ∧ (tx T 13 c).length ≤ 120 ∧ 24 ≤ c ∧ ∃ o, σ.1 c = some o ∧ o.1 = 0 ∧ o.2.1 1 = nI (tx T 13 c).length ∧ o.2.1 0 = nI (kd T c) := by
  have w := h.2.2.1 c hc
  obtain ⟨u1, u2, -⟩ := wf_up 12 c w
  obtain ⟨v, hv⟩ := Option.ne_none_iff_exists'.mp (wf_nn w)
  obtain ⟨h24, o, o1, o2, o3, o4⟩ := h.1.1 c v hv
  refine ⟨w, u1, wf_nn w, u2, (wf_okt 13 c u1).1, h24, o, o1, o2, o3, ?_⟩
  rcases v with t | q | q
  · simp only [kd, hv]; exact o4.1
  · simp only [kd, hv]; exact o4.1
  · simp only [kd, hv]; exact o4.1
theorem XS_sl8 (h : XS σ T sl im en nu ev dr sm dp lo tn st sp) : sl.length = 8 := by
  obtain ⟨g, b1, b2, b3⟩ := h.2.1.2.1
  exact (b3 sl rfl).2
theorem XS_ix (h : XS σ T sl im en nu ev dr sm dp lo tn st sp) {s : Int32} {c : Nat} (hc : ix sl s = some c) : c ∈ rts sl im en := by
  rcases ix_8 (XS_sl8 h) s with ⟨h1, -⟩ | ⟨j, x, -, -, hx, h1, -⟩
  · rw [h1] at hc; cases hc
  · rw [h1] at hc; cases hc
    exact List.mem_append_left _ (List.mem_of_getElem? hx)
/-- a text read into the first row -/
theorem XS_18 (h : XS σ T sl im en nu ev dr sm dp lo tn st sp) {σ' : xS} {L : List Int32} (hf : XF [18] [19] [] σ σ') (hL : TXT σ' 18 L) : XS σ' T sl im en nu ev dr sm dp lo tn st sp := ⟨WS_k h.1 hf (by simp) (by simp) (by simp), XO_18 h.2.1 hf hL, h.2.2⟩
theorem XS_20 (h : XS σ T sl im en nu ev dr sm dp lo tn st sp) {σ' : xS} {L : List Int32} (hf : XF [20] [21] [] σ σ') (hL : TXT σ' 20 L) : XS σ' T sl im en nu ev dr sm dp lo tn st sp := ⟨WS_k h.1 hf (by simp) (by simp) (by simp), XO_20 h.2.1 hf hL, h.2.2⟩
theorem XS_9 (h : XS σ T sl im en nu ev dr sm dp lo tn st sp) {σ' : xS} {P : List Nat} (hf : XF [9] [] [10] σ σ') (hL : PCS σ' 9 P) : XS σ' T sl im en nu ev dr sm dp lo tn st sp := ⟨WS_k h.1 hf (by simp) (by simp) (by simp), XO_9 h.2.1 hf hL, h.2.2⟩
theorem sNN {P : Prop} : ((none : Option Nat) = none → P) = P := propext ⟨fun h => h rfl, fun h _ => h⟩
theorem sNS {P : Prop} : (∀ q : Nat, (none : Option Nat) = some q → P) = True := propext ⟨fun _ => trivial, fun _ q z => by cases z⟩
theorem p_sign (h : XS σ T sl im en nu ev dr sm dp lo tn st sp) (s i : Int32) : P_X6_sign [.inr (some 0), .inl s, .inl i] σ 0 0 (mI (fun r σ' => A_sign T sl s i r ∧ XS σ' T sl im en nu ev dr sm dp lo tn st sp)) := by
  obtain ⟨⟨fi, fr, a1, a2, a3, a4, a5, a6, a7, a8, a9, a10, a11, a12⟩, -⟩ := id h.2.1
  refine e_X6_sign s i 0 σ 0 0 _ _ a1 rfl ?_
  simp only [r_X6_sign_0, r_X6_sign_1, r_X6_sign_2]
  refine ⟨_, XO_cellOf h.2.1 s, ?_⟩
  rintro r s' ⟨hs, hr⟩
  subst hs
  subst hr
  cases hc : ix sl s with
  | none =>
    simp only [r_X6_sign_5, r_X6_sign_6, r_X6_sign_7, r_X6_sign_10, r_X6_sign_11, r_X6_sign_13, r_X6_sign_16, r_X6_sign_17, r_X6_sign_18, r_X6_sign_21, r_X6_sign_24, r_X6_sign_26, r_X6_sign_27, r_X6_sign_28, r_X6_sign_31, r_X6_sign_32, r_X6_sign_35, r_X6_sign_36, r_X6_sign_39, r_X6_sign_40, r_X6_sign_43, sNS, true_and, mI_e]
    exact fun _ => ⟨⟨fun _ => rfl, fun c z => by rw [hc] at z; cases z⟩, h⟩
  | some c =>
    obtain ⟨w1, w2, w3, w4, w5, w6, o, o1, o2, o3, o4⟩ := XS_c h (XS_ix h hc)
    simp only [r_X6_sign_5, r_X6_sign_6, r_X6_sign_7, r_X6_sign_10, r_X6_sign_11, r_X6_sign_12, r_X6_sign_13, r_X6_sign_16, r_X6_sign_17, r_X6_sign_18, r_X6_sign_21, r_X6_sign_24, r_X6_sign_26, r_X6_sign_27, r_X6_sign_28, r_X6_sign_31, r_X6_sign_32, r_X6_sign_36, r_X6_sign_39, r_X6_sign_40, r_X6_sign_43, sN, sS, and_true, xo o1, o2, o3, true_and, xo a1, a10, mI_e]
    have hA : ∀ {r}, r = (ix (tx T 13 c) i).getD (Int32.ofInt (-6)) → A_sign T sl s i r := fun hr => ⟨fun z => (by rw [hc] at z; cases z), fun c' z => by rw [hc] at z; cases z; exact hr⟩
    rcases ix_cases (tx T 13 c) (by omega) i with ⟨h1, h2⟩ | ⟨j, x, rfl, hj, hx, h1⟩
    · rw [h1] at hA
      refine ⟨fun _ => ⟨hA rfl, h⟩, fun hn => ⟨fun z => ?_, fun _ => ⟨hA rfl, h⟩⟩⟩
      rcases h2 with h2 | h2
      · exact absurd h2 hn
      · exact absurd z (fun z => (Int32_lt_not _ _).mp z h2)
    · refine ⟨fun z => absurd z (nI_pos (by omega)), fun _ => ⟨fun _ => ?_, fun z => absurd ((nI_ltI (by omega) (by omega)).mpr hj) z⟩⟩
      obtain ⟨L, hL⟩ := h.2.1.2.2.2.2.2.2.2.2.1
      refine ⟨_, q_read (t := 18) (by omega) h.1.1 w2 hL, ?_⟩
      rintro s1 ⟨f1, t1⟩
      have hS := XS_18 h f1 t1
      obtain ⟨⟨fi', fr', b1, -, -, -, -, -, -, -, -, b10, -⟩, -⟩ := id hS.2.1
      rw [r_X6_sign_35]
      simp only [r_X6_sign_36, r_X6_sign_39, r_X6_sign_40, xo b1, b10, true_and]
      refine ⟨_, q_signAtS t1 hx (by omega), ?_⟩
      rintro r s2 ⟨hs, hr⟩
      subst hs
      subst hr
      rw [r_X6_sign_43, mI_e]
      exact ⟨hA (by rw [h1]; rfl), hS⟩
theorem p_hash (h : XS σ T sl im en nu ev dr sm dp lo tn st sp) (s : Int32) : P_X6_hash [.inr (some 0), .inl s] σ 0 0 (mI (fun r σ' => A_hash T sl s r ∧ XS σ' T sl im en nu ev dr sm dp lo tn st sp)) := by
  obtain ⟨⟨fi, fr, a1, a2, a3, a4, a5, a6, a7, a8, a9, a10, a11, a12⟩, -⟩ := id h.2.1
  refine e_X6_hash s 0 σ 0 0 _ _ a1 rfl ?_
  simp only [r_X6_hash_0, r_X6_hash_1, r_X6_hash_2]
  refine ⟨_, XO_cellOf h.2.1 s, ?_⟩
  rintro r s' ⟨hs, hr⟩
  subst hs
  subst hr
  cases hc : ix sl s with
  | none =>
    simp only [r_X6_hash_5, r_X6_hash_6, r_X6_hash_7, r_X6_hash_10, r_X6_hash_11, r_X6_hash_13, r_X6_hash_16, r_X6_hash_17, r_X6_hash_20, r_X6_hash_21, r_X6_hash_24, r_X6_hash_27, sNS, true_and, mI_e]
    exact fun _ => ⟨⟨fun _ => nI_0, fun c z => by rw [hc] at z; cases z⟩, h⟩
  | some c =>
    obtain ⟨w1, w2, w3, w4, w5, w6, o, o1, o2, o3, o4⟩ := XS_c h (XS_ix h hc)
    simp only [r_X6_hash_5, r_X6_hash_6, r_X6_hash_7, r_X6_hash_10, r_X6_hash_11, r_X6_hash_12, r_X6_hash_13, r_X6_hash_16, r_X6_hash_17, r_X6_hash_21, r_X6_hash_24, r_X6_hash_27, sN, sS, and_true, true_and, xo a1, a10]
    obtain ⟨L, hL⟩ := h.2.1.2.2.2.2.2.2.2.2.1
    refine ⟨_, q_read (t := 18) (by omega) h.1.1 w2 hL, ?_⟩
    rintro s1 ⟨f1, t1⟩
    have hS := XS_18 h f1 t1
    obtain ⟨⟨fi', fr', b1, -, -, -, -, -, -, -, -, b10, -⟩, -⟩ := id hS.2.1
    rw [r_X6_hash_20]
    simp only [r_X6_hash_21, r_X6_hash_24, xo b1, b10, true_and]
    refine ⟨_, q_hashed t1, ?_⟩
    rintro r s2 ⟨hs, hr⟩
    subst hs
    subst hr
    rw [r_X6_hash_27, mI_e]
    exact ⟨⟨fun z => (by rw [hc] at z; cases z), fun c' z => by rw [hc] at z; cases z; rfl⟩, hS⟩
theorem p_told (h : XS σ T sl im en nu ev dr sm dp lo tn st sp) (hst : st + 1 < 2 ^ 31) (s w : Int32) : P_X6_told [.inr (some 0), .inl s, .inl w] σ 0 0 (mI (fun r σ' => A_told T sl s w r ∧ ∃ st', st' ≤ st + 1 ∧ XS σ' T sl im en nu ev dr sm dp lo tn st' sp)) := by
  obtain ⟨⟨fi, fr, a1, a2, a3, a4, a5, a6, a7, a8, a9, a10, a11, a12⟩, -⟩ := id h.2.1
  refine e_X6_told s w 0 σ 0 0 _ _ a1 rfl ?_
  simp only [r_X6_told_0, r_X6_told_1, r_X6_told_2]
  refine ⟨_, XO_cellOf h.2.1 s, ?_⟩
  rintro r s' ⟨hs, hr⟩
  subst hs
  subst hr
  have hX : ∃ st', st' ≤ st + 1 ∧ XS s' T sl im en nu ev dr sm dp lo tn st' sp := ⟨st, by omega, h⟩
  cases hc : ix sl s with
  | none =>
    simp only [r_X6_told_5, r_X6_told_6, r_X6_told_7, r_X6_told_10, r_X6_told_11, sNS, true_and, mI_e]
    exact fun _ => ⟨⟨fun _ => rfl, fun c z => by rw [hc] at z; cases z⟩, hX⟩
  | some c =>
    obtain ⟨w1, w2, w3, w4, w5, w6, o, o1, o2, o3, o4⟩ := XS_c h (XS_ix h hc)
    have hA : ∀ {r : Int32}, (((w.toInt < 0 ∨ 6 < w.toInt) → r = Int32.ofInt (-2)) ∧ (w.toInt = 0 → r = nI (tx T 13 c).length) ∧ (w.toInt = 1 → r = nI (kd T c)) ∧ (w.toInt = 2 → r = nI (dep T 13 c)) ∧ (w.toInt = 3 → r = nI (pcs T 13 c).length) ∧ (w.toInt = 4 → r = nI (dd (rl T 13 c)).length) ∧ (w.toInt = 5 → r = nI ((dd (rl T 13 c)).map (rm T)).sum) ∧ (w.toInt = 6 → r = if wd (tx T 13 c) then 1 else 0)) → A_told T sl s w r := fun hr => ⟨fun z => (by rw [hc] at z; cases z), fun c' hc' => by rw [hc] at hc'; cases hc'; exact hr⟩
    simp only [r_X6_told_5, r_X6_told_6, r_X6_told_7, r_X6_told_11, r_X6_told_12, r_X6_told_13, r_X6_told_56, r_X6_told_57, r_X6_told_60, r_X6_told_61, r_X6_told_62, r_X6_told_65, r_X6_told_66, r_X6_told_67, r_X6_told_70, r_X6_told_71, r_X6_told_72, r_X6_told_75, r_X6_told_76, r_X6_told_80, r_X6_told_83, r_X6_told_86, r_X6_told_87, r_X6_told_88, r_X6_told_91, r_X6_told_92, r_X6_told_96, r_X6_told_99, r_X6_told_102, r_X6_told_103, r_X6_told_104, r_X6_told_107, r_X6_told_108, r_X6_told_112, r_X6_told_115, r_X6_told_118, r_X6_told_119, r_X6_told_120, r_X6_told_123, r_X6_told_124, r_X6_told_128, r_X6_told_131, r_X6_told_134, r_X6_told_137, r_X6_told_138, r_X6_told_140, sN, sS, and_true, xo o1, o2, o3, o4, true_and, xo a1, a7, a9, a10, mI_e]
    refine ⟨fun hw => ⟨hA ⟨fun _ => rfl, fun z => by omega, fun z => by omega, fun z => by omega, fun z => by omega, fun z => by omega, fun z => by omega, fun z => by omega⟩, hX⟩, fun hw => ⟨hA ⟨fun z => by omega, fun _ => rfl, fun z => by omega, fun z => by omega, fun z => by omega, fun z => by omega, fun z => by omega, fun z => by omega⟩, hX⟩, fun hw => ⟨hA ⟨fun z => by omega, fun z => by omega, fun _ => rfl, fun z => by omega, fun z => by omega, fun z => by omega, fun z => by omega, fun z => by omega⟩, hX⟩, fun hw => ?_, fun hw => ?_, fun hw => ?_, fun hw => ?_, fun hw => ?_⟩
    · refine ⟨_, q_depth h.1.1 w2, ?_⟩
      rintro r s2 ⟨hs, hr⟩
      subst hs
      subst hr
      exact ⟨hA ⟨fun z => by omega, fun z => by omega, fun z => by omega, fun _ => rfl, fun z => by omega, fun z => by omega, fun z => by omega, fun z => by omega⟩, hX⟩
    · obtain ⟨P, hP⟩ := h.2.1.2.2.2.2.2.2.1
      refine ⟨_, q_piecesRead (t := 9) (by omega) h.1.1 w2 hP, ?_⟩
      rintro s1 ⟨f1, t1⟩
      have hS := XS_9 h f1 t1
      obtain ⟨⟨fi', fr', b1, -, -, -, -, -, b7, -⟩, -⟩ := id hS.2.1
      obtain ⟨pi, pr, pg, p1, p2, p3, -⟩ := id t1
      rw [r_X6_told_79]
      simp only [r_X6_told_80, r_X6_told_83, r_X6_told_86, xo b1, b7, xo p1, p3, true_and, mI_e]
      exact ⟨hA ⟨fun z => by omega, fun z => by omega, fun z => by omega, fun z => by omega, fun _ => rfl, fun z => by omega, fun z => by omega, fun z => by omega⟩, st, by omega, hS⟩
    · refine ⟨_, q_overCell h hst w2, ?_⟩
      intro s1 h1
      obtain ⟨wi, wr, k1, k2, k3⟩ := WD_n h1
      obtain ⟨V, hV, -⟩ := h1
      have hS := VI_XS h hV
      obtain ⟨⟨fi', fr', b1, -, -, -, -, -, -, -, b9, -⟩, -⟩ := id hS.2.1
      rw [r_X6_told_95]
      simp only [r_X6_told_96, r_X6_told_99, r_X6_told_102, xo b1, b9, xo k1, k2, true_and, mI_e]
      exact ⟨hA ⟨fun z => by omega, fun z => by omega, fun z => by omega, fun z => by omega, fun z => by omega, fun _ => rfl, fun z => by omega, fun z => by omega⟩, st + 1, by omega, hS⟩
    · refine ⟨_, q_overCell h hst w2, ?_⟩
      intro s1 h1
      obtain ⟨wi, wr, k1, k2, k3⟩ := WD_n h1
      obtain ⟨V, hV, -⟩ := h1
      have hS := VI_XS h hV
      obtain ⟨⟨fi', fr', b1, -, -, -, -, -, -, -, b9, -⟩, -⟩ := id hS.2.1
      rw [r_X6_told_111]
      simp only [r_X6_told_112, r_X6_told_115, r_X6_told_118, xo b1, b9, xo k1, k3, true_and, mI_e]
      exact ⟨hA ⟨fun z => by omega, fun z => by omega, fun z => by omega, fun z => by omega, fun z => by omega, fun z => by omega, fun _ => rfl, fun z => by omega⟩, st + 1, by omega, hS⟩
    · obtain ⟨L, hL⟩ := h.2.1.2.2.2.2.2.2.2.2.1
      refine ⟨_, q_read (t := 18) (by omega) h.1.1 w2 hL, ?_⟩
      rintro s1 ⟨f1, t1⟩
      have hS := XS_18 h f1 t1
      obtain ⟨⟨fi', fr', b1, -, -, -, -, -, -, -, -, b10, -⟩, -⟩ := id hS.2.1
      rw [r_X6_told_127]
      simp only [r_X6_told_128, r_X6_told_131, xo b1, b10, true_and]
      refine ⟨_, q_isWide t1, ?_⟩
      rintro r s2 ⟨hs, hr⟩
      subst hs
      subst hr
      rw [r_X6_told_134]
      refine ⟨_, p_asNumber s2 _ (by split <;> simp), ?_⟩
      rintro r s3 ⟨hs, hr⟩
      subst hs
      subst hr
      rw [r_X6_told_137, mI_e]
      exact ⟨hA ⟨fun z => by omega, fun z => by omega, fun z => by omega, fun z => by omega, fun z => by omega, fun z => by omega, fun z => by omega, fun _ => rfl⟩, st, by omega, hS⟩
end
