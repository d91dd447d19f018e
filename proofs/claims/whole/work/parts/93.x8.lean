/-! ===== the class: joined ===== -/
theorem WS_x {σ σ' : xS} {T : sT} {sm dp lo tn st : Nat} {sp : List Nat} (h : WS σ T sm dp lo tn st sp) {ko kg kr : List Nat} (hf : XF ko kg kr σ σ') (hlo : ∀ k ∈ ko, k = 13 ∨ k = 15) (hlg : ∀ k ∈ kg, k = 16) (hP : ∃ P, PCS σ' 13 P) (hL : ∃ L, TXT σ' 15 L) : WS σ' T sm dp lo tn st sp := by
  obtain ⟨hC, hT, ⟨fi, fr, w1, w2, w3, w4, w5, w6⟩, ⟨g, r1, r2⟩, -, -, hM, hnd, hsp⟩ := h
  have h24 := SPC_24 _ _ w6
  have hn : ∀ k ∈ ko, T k = none := fun k hk => XC_24 hC (by rcases hlo k hk with z | z <;> omega)
  refine ⟨XC_f hC hf hn (fun k hk => by have := hlg k hk; omega), hT, ⟨fi, fr, hf.1 11 _ (fun z => by rcases hlo 11 z with z | z <;> omega) w1, w2, w3, w4, w5, SPC_f sp _ w6 (fun k o hk ho => hf.1 k o (fun z => by have := h24 k hk; rcases hlo k z with z | z <;> omega) ho)⟩, ⟨g, hf.2.1 12 _ (fun z => by have := hlg 12 z; omega) r1, r2⟩, hP, hL, fun c o hc ho => ?_, hnd, hsp⟩
  obtain ⟨-, o', p1, -⟩ := XC_nn hC hc
  have := KP_x hf hn c o' hc p1
  rw [this] at ho
  cases ho
  exact hM c _ hc p1
theorem WS_sub {σ : xS} {T T2 : sT} {sm dp lo tn st : Nat} {sp : List Nat} (h : WS σ T sm dp lo tn st sp) (hs : ∀ c v, T2 c = some v → T c = some v) (hw : ∀ c, T2 c ≠ none → wf T2 13 c) : WS σ T2 sm dp lo tn st sp := by
  obtain ⟨hC, hT, a1, a2, a3, a4, hM, hnd, hsp⟩ := h
  refine ⟨XC_sub hC hs hw, hw, a1, a2, a3, a4, fun c o hc => hM c o (ext_nn hs hc), hnd, fun c hc => ?_⟩
  cases hv : T2 c with
  | none => rfl
  | some v => have := hsp c hc; rw [hs c v hv] at this; cases this
/-- what a join or a cut leaves -/
def JP (T1 : sT) (sm dp lo tn st : Nat) (σ : xS) (t : tT) (r : Option Nat) (σ' : xS) : Prop := ∃ k T' sp' F, r = some k ∧ (∀ c v, T1 c = some v → T' c = some v) ∧ WS σ' T' sm dp lo tn st sp' ∧ KP T1 σ σ' ∧ YF σ σ' ∧ rT T' t k F ∧ F.Nodup ∧ (∀ z ∈ F, T1 z = none) ∧ MN σ' T' tn F
section
variable {sm dp lo tn st : Nat} {sp : List Nat} {σ : xS}
theorem leaf_in {T : sT} (h : WS σ T sm dp lo tn st sp) {L : List Int32} (hL : okt L) {r : Option Nat} {σ' : xS} (hp : ∃ c q g fi fr, r = some c ∧ frs σ c ∧ frs σ q ∧ σ' = (va_up σ.1 c (some (0, fi, fr)), va_up σ.2.1 q (some (L.length, g)), σ.2.2) ∧ AP g L ∧ fi 0 = nI 0 ∧ fi 1 = nI L.length ∧ fi 6 = nI 0 ∧ fi 7 = 0 ∧ fi 8 = 0 ∧ fr 2 = some q ∧ fr 3 = none ∧ fr 4 = none ∧ fr 5 = none) :
    ∃ c, r = some c ∧ T c = none ∧ WS σ' (va_up T c (some (.inl L))) sm dp lo tn st sp ∧ XF [] [] [] σ σ' := by
  obtain ⟨hC, hT, ⟨wi, wr, w1, w2, w3, w4, w5, w6⟩, ⟨g0, r1, r2⟩, ⟨P0, hP⟩, ⟨L0, hL0⟩, hM, hnd, hsp⟩ := h
  obtain ⟨c, q, g, fi, fr, rfl, hc, hq, rfl, h1, h2, h3, h4, h5, h6, h7, h8, h9, h10⟩ := hp
  have hX : XF [] [] [] σ (va_up σ.1 c (some (0, fi, fr)), va_up σ.2.1 q (some (L.length, g)), σ.2.2) := XF_o (XF_g (XF_rf _ _ _ _) (Or.inr ⟨hq.1, hq.2.2.1⟩)) (Or.inr hc.2.1)
  have hcc : va_up T c (some (.inl L)) c = some (.inl L) := va_up_self _ _ _
  obtain ⟨x1, x2⟩ := XC_new hC hT hX hc (v := .inl L) (o := (0, fi, fr)) (va_up_self _ _ _) rfl (by rw [tx_leaf hcc]; exact h3) ⟨h2, h4, h8, h9, h10, q, g, h7, hq.1, va_up_self _ _ _, h1⟩
  have hcs : ∀ k ∈ sp, k ≠ c := fun k hk z => by
    subst z
    have : ∀ (l : List Nat) (hd : Option Nat), SPC σ st l hd → k ∈ l → σ.1 k ≠ none := by
      intro l
      induction l with
      | nil => intro hd _ hk; simp at hk
      | cons a l ih =>
        rintro hd ⟨-, -, o, o1, -, -, -, o2⟩ hk
        rcases List.mem_cons.mp hk with rfl | hk
        · rw [o1]; exact fun z => by cases z
        · exact ih _ o2 hk
    exact this sp _ w6 hk hc.2.1
  refine ⟨c, rfl, x2, ⟨x1, wf_new hT x2 ((wf_leaf hcc).mpr hL), ⟨wi, wr, hX.1 11 _ (by simp) w1, w2, w3, w4, w5, SPC_f sp _ w6 (fun k o hk ho => hX.1 k o (by simp) ho)⟩, ⟨g0, hX.2.1 12 _ (by simp) r1, r2⟩, ⟨P0, PCS_f hP hX (by omega) (by simp) (by simp)⟩, ⟨L0, TXT_f hL0 hX (by simp) (by simp)⟩, fun k o hk ho => ?_, hnd, fun k hk => by rw [va_up_ne _ _ (hcs k hk)]; exact hsp k hk⟩, hX⟩
  by_cases hkc : k = c
  · subst hkc
    have ho : va_up σ.1 k (some (0, fi, fr)) k = some o := ho
    rw [va_up_self] at ho
    cases ho
    exact ⟨⟨0, Nat.zero_le _, h5⟩, 0, Nat.zero_le _, h6⟩
  · rw [va_up_ne _ _ hkc] at hk
    have ho : va_up σ.1 c (some (0, fi, fr)) k = some o := ho
    rw [va_up_ne _ _ hkc] at ho
    exact hM k o hk ho
theorem slice_in {T : sT} (h : WS σ T sm dp lo tn st sp) {b f m : Nat} (hq : oks T (b, f, m)) {r : Option Nat} {σ' : xS} (hp : ∃ c fi fr, r = some c ∧ frs σ c ∧ σ' = (va_up σ.1 c (some (0, fi, fr)), σ.2) ∧ fi 0 = nI 2 ∧ fi 1 = nI m ∧ fi 6 = nI f ∧ fi 7 = 0 ∧ fi 8 = 0 ∧ fr 3 = none ∧ fr 4 = none ∧ fr 5 = some b) :
    ∃ c, r = some c ∧ T c = none ∧ WS σ' (va_up T c (some (.inr (.inr (b, f, m))))) sm dp lo tn st sp ∧ XF [] [] [] σ σ' := by
  obtain ⟨hC, hT, ⟨wi, wr, w1, w2, w3, w4, w5, w6⟩, ⟨g0, r1, r2⟩, ⟨P0, hP⟩, ⟨L0, hL0⟩, hM, hnd, hsp⟩ := h
  obtain ⟨c, fi, fr, rfl, hc, rfl, h2, h3, h4, h5, h6, h8, h9, h10⟩ := hp
  have hX : XF [] [] [] σ (va_up σ.1 c (some (0, fi, fr)), σ.2) := XF_o (XF_rf _ _ _ _) (Or.inr hc.2.1)
  have hTc := XC_free hC hc.2.1
  have hcc : va_up T c (some (.inr (.inr (b, f, m)))) c = some (.inr (.inr (b, f, m))) := va_up_self _ _ _
  obtain ⟨q1, q2⟩ := ext_oks (ext_up hTc (.inr (.inr (b, f, m)))) hq
  obtain ⟨x1, x2⟩ := XC_new hC hT hX hc (v := .inr (.inr (b, f, m))) (o := (0, fi, fr)) (va_up_self _ _ _) rfl (by rw [tx_slice hcc, oks_len q1]; exact h3) ⟨h2, h4, h8, h9, h10⟩
  have hcs : ∀ k ∈ sp, k ≠ c := fun k hk z => by
    subst z
    have : ∀ (l : List Nat) (hd : Option Nat), SPC σ st l hd → k ∈ l → σ.1 k ≠ none := by
      intro l
      induction l with
      | nil => intro hd _ hk; simp at hk
      | cons a l ih =>
        rintro hd ⟨-, -, o, o1, -, -, -, o2⟩ hk
        rcases List.mem_cons.mp hk with rfl | hk
        · rw [o1]; exact fun z => by cases z
        · exact ih _ o2 hk
    exact this sp _ w6 hk hc.2.1
  refine ⟨c, rfl, x2, ⟨x1, wf_new hT x2 ((wf_slice hcc).mpr q1), ⟨wi, wr, hX.1 11 _ (by simp) w1, w2, w3, w4, w5, SPC_f sp _ w6 (fun k o hk ho => hX.1 k o (by simp) ho)⟩, ⟨g0, hX.2.1 12 _ (by simp) r1, r2⟩, ⟨P0, PCS_f hP hX (by omega) (by simp) (by simp)⟩, ⟨L0, TXT_f hL0 hX (by simp) (by simp)⟩, fun k o hk ho => ?_, hnd, fun k hk => by rw [va_up_ne _ _ (hcs k hk)]; exact hsp k hk⟩, hX⟩
  by_cases hkc : k = c
  · subst hkc
    have ho : va_up σ.1 k (some (0, fi, fr)) k = some o := ho
    rw [va_up_self] at ho
    cases ho
    exact ⟨⟨0, Nat.zero_le _, h5⟩, 0, Nat.zero_le _, h6⟩
  · rw [va_up_ne _ _ hkc] at hk
    have ho : va_up σ.1 c (some (0, fi, fr)) k = some o := ho
    rw [va_up_ne _ _ hkc] at ho
    exact hM k o hk ho
theorem HFr_of {T0 T : sT} {F : List Nat} (h : WS σ T sm dp lo tn st sp) (hO : MO σ T0 tn) (hN : MN σ T tn F) : HFr σ T0 T tn st F := fun x v hv _ => by
  obtain ⟨hC, -, -, -, -, -, hM, -⟩ := h
  obtain ⟨h24, o, o1, o2, o3, o4⟩ := hC x v hv
  refine ⟨h24, o, o1, o2, o4, (hM x o (by rw [hv]; exact fun z => by cases z) o1).2, fun hx q hq => ?_, fun h0 => ?_⟩
  · subst hq
    obtain ⟨o', p1, p2⟩ := hN x hx ⟨q, hv⟩
    rw [o1] at p1; cases p1; exact p2
  · obtain ⟨o', m, p1, p2, p3⟩ := hO x h0
    rw [o1] at p1; cases p1; exact ⟨m, p2, p3⟩
end
/-- joins of this turn let go -/
def drp (T T1 : sT) (F : List Nat) : sT := fun c => if c ∈ F then (match T c with
  | some (.inr (.inl _)) => none
  | v => v) else T1 c
theorem drp_J {T T1 : sT} {F : List Nat} {c : Nat} (h : c ∈ F) (hj : isJn T c) : drp T T1 F c = none := by
  obtain ⟨q, hq⟩ := hj
  simp only [drp, if_pos h, hq]
theorem drp_N {T T1 : sT} {F : List Nat} {c : Nat} (h : c ∈ F) (hj : ¬ isJn T c) : drp T T1 F c = T c := by
  simp only [drp, if_pos h]
  split
  · rename_i q hq
    exact absurd ⟨q, hq⟩ hj
  · rfl
theorem drp_1 {T T1 : sT} {F : List Nat} {c : Nat} (h : c ∉ F) : drp T T1 F c = T1 c := by simp only [drp, if_neg h]
theorem drp_T {T T1 : sT} {F : List Nat} (h1 : ∀ c v, T1 c = some v → T c = some v) : ∀ c v, drp T T1 F c = some v → T c = some v := fun c v h => by
  by_cases hc : c ∈ F
  · by_cases hj : isJn T c
    · rw [drp_J hc hj] at h; cases h
    · rwa [drp_N hc hj] at h
  · rw [drp_1 hc] at h; exact h1 c v h
theorem drp_x {T T1 : sT} {F : List Nat} (hF : ∀ c ∈ F, T1 c = none) : ∀ c v, T1 c = some v → drp T T1 F c = some v := fun c v h => by
  rw [drp_1 (fun z => by have := hF c z; rw [h] at this; cases this)]; exact h
/-- new slices of a tree are of leaves that were there -/
theorem rT_slice {T : sT} (T0 : sT) (h : ∀ c v, T0 c = some v → T c = some v) : ∀ (t : tT) (n r : Nat) (F : List Nat), tw T0 n t → rT T t r F → ∀ x ∈ F, ∀ q, T x = some (.inr (.inr q)) → oks T0 q
  | .leaf, n, _, _, hw, _ => by cases n <;> exact hw.elim
  | .inner 0 x _ _ _, n, r, F, hw, hr => by
    have hw : lbw T0 n x := by cases n <;> exact hw
    obtain ⟨h1, h2⟩ := hr
    subst h2
    intro y hy q hq
    rcases x with c | t | q'
    · simp [nwL] at hy
    · simp [nwL] at hy
      subst hy
      have h1 : T y = some (.inl t) := h1
      rw [h1] at hq; cases hq
    · simp [nwL] at hy
      subst hy
      have h1 : T y = some (.inr (.inr q')) := h1
      rw [h1] at hq; cases hq
      exact hw
  | .inner (_ + 1) _ _ l s, 0, r, F, hw, hr => hw.elim
  | .inner (_ + 1) _ _ l s, n + 1, r, F, hw, hr => by
    obtain ⟨a, b, Fa, Fb, h1, h2, h3, h4⟩ := hr
    have i1 := rT_slice T0 h l n a Fa hw.1 h2
    have i2 := rT_slice T0 h s n b Fb hw.2.1 h3
    intro y hy q hq
    rw [h4] at hy
    rcases List.mem_cons.mp hy with rfl | hy
    · rw [h1] at hq; cases hq
    · rcases List.mem_append.mp hy with hy | hy
      · exact i1 y hy q hq
      · exact i2 y hy q hq
theorem drp_wf {T0 T T1 : sT} {F : List Nat} (h01 : ∀ c v, T0 c = some v → T1 c = some v) (hF : ∀ c ∈ F, T1 c = none) (hT : ∀ c, T c ≠ none → wf T 13 c) (hT1 : ∀ c, T1 c ≠ none → wf T1 13 c) (hs : ∀ x ∈ F, ∀ q, T x = some (.inr (.inr q)) → oks T0 q) : ∀ c, drp T T1 F c ≠ none → wf (drp T T1 F) 13 c := fun c hc => by
  by_cases hcF : c ∈ F
  · by_cases hj : isJn T c
    · rw [drp_J hcF hj] at hc; exact absurd rfl hc
    · have e := drp_N (T1 := T1) hcF hj
      rw [e] at hc
      obtain ⟨v, hv⟩ := Option.ne_none_iff_exists'.mp hc
      rw [hv] at e
      have hw := hT c hc
      rcases v with t | q | q
      · exact (wf_leaf e).mpr ((wf_leaf hv).mp hw)
      · exact absurd ⟨q, hv⟩ hj
      · exact (wf_slice e).mpr (ext_oks (fun x v z => drp_x hF x v (h01 x v z)) (hs c hcF q hv)).1
  · rw [drp_1 hcF] at hc
    exact (ext_wf (drp_x hF) 13 c (hT1 c hc)).1
section
variable {sm dp lo tn st : Nat} {sp : List Nat} {σ : xS}
set_option maxHeartbeats 4000000 in
theorem q_joined {T0 T1 T : sT} (h01 : ∀ c v, T0 c = some v → T1 c = some v) (h1T : ∀ c v, T1 c = some v → T c = some v) (hT1 : ∀ c, T1 c ≠ none → wf T1 13 c) (h : WS σ T sm dp lo tn st sp) (hO : MO σ T0 tn) (hsm : sm ≤ 32) (hdp : dp ≤ 12) (htn : tn < 2 ^ 31) {ta tb : tT} {x y : Nat} {Fa Fb : List Nat} (wa : tw T0 12 ta) (wb : tw T0 12 tb) (ra : rT T ta x Fa) (rb : rT T tb y Fb) (nd : (Fa ++ Fb).Nodup) (hout : ∀ z ∈ Fa ++ Fb, T1 z = none) (hN : MN σ T tn (Fa ++ Fb)) (hl : (ttx T0 ta).length + (ttx T0 tb).length ≤ 120) (a b : Nat) (ha : (tps T0 ta).length + (tps T0 tb).length + 1 ≤ a) (hb : 9 * ((tps T0 ta).length + (tps T0 tb).length) + 41 ≤ b) :
    P_X5_joined [.inr (some 11), .inr (some x), .inr (some y)] σ a b (mR (JP T1 sm dp lo tn st σ (joinT T0 sm dp ta tb))) := by
  have hext : ∀ c v, T0 c = some v → T c = some v := fun c v z => h1T c v (h01 c v z)
  obtain ⟨hC, hT, ⟨fi, fr, w1, w2, w3, w4, w5, w6⟩, ⟨g, r1, r2, r3, r4⟩, ⟨P0, hP⟩, ⟨L0, hL0⟩, hM, hsnd, hsp⟩ := id h
  obtain ⟨wa1, wa2, wa3, wa4⟩ := rT_ok hext ta 12 x Fa (Nat.le_refl _) wa ra
  obtain ⟨wb1, wb2, wb3, wb4⟩ := rT_ok hext tb 12 y Fb (Nat.le_refl _) wb rb
  obtain ⟨ua1, ua2, ua3, ua4, -⟩ := wf_up 12 x wa1
  obtain ⟨ub1, ub2, ub3, ub4, -⟩ := wf_up 12 y wb1
  obtain ⟨va, hva⟩ := Option.ne_none_iff_exists'.mp (wf_nn wa1)
  obtain ⟨vb, hvb⟩ := Option.ne_none_iff_exists'.mp (wf_nn wb1)
  obtain ⟨x24, ox, x1, x2, x3, -⟩ := hC x va hva
  obtain ⟨y24, oy, y1, y2, y3, -⟩ := hC y vb hvb
  rw [ua2, wa2] at x3
  rw [ub2, wb2] at y3
  obtain ⟨nda, ndb, ndab⟩ := List.nodup_append.mp nd
  have hNa : MN σ T tn Fa := fun z hz => hN z (List.mem_append_left _ hz)
  have hNb : MN σ T tn Fb := fun z hz => hN z (List.mem_append_right _ hz)
  have nna := (rT_nn T0 hext ta 12 x Fa wa ra).2
  have nnb := (rT_nn T0 hext tb 12 y Fb wb rb).2
  refine e_X5_joined (some x) (some y) 11 σ a b _ _ w1 rfl ?_
  have c0 : (nI 0 : Int32).toNatClampNeg = 0 := nI_clamp (by omega)
  have c1 : (nI 1 : Int32).toNatClampNeg = 1 := nI_clamp (by omega)
  have v0 : vp_in (nI 0) 3 := (vp_in_i (by omega)).mpr (by omega)
  have v1 : vp_in (nI 1) 3 := (vp_in_i (by omega)).mpr (by omega)
  simp only [r_X5_joined_0, r_X5_joined_1, r_X5_joined_4, r_X5_joined_5, r_X5_joined_8, r_X5_joined_11, r_X5_joined_12, r_X5_joined_13, r_X5_joined_14, r_X5_joined_17, r_X5_joined_18, r_X5_joined_21, r_X5_joined_24, r_X5_joined_25, r_X5_joined_26, r_X5_joined_27, r_X5_joined_30, r_X5_joined_31, r_X5_joined_34, r_X5_joined_35, r_X5_joined_36, r_X5_joined_39, r_X5_joined_40, r_X5_joined_41, r_X5_joined_48, r_X5_joined_49, r_X5_joined_50, r_X5_joined_53, r_X5_joined_54, r_X5_joined_57, r_X5_joined_60, r_X5_joined_66, r_X5_joined_67, r_X5_joined_70, r_X5_joined_73, r_X5_joined_74, r_X5_joined_75, r_X5_joined_78, r_X5_joined_79, r_X5_joined_80, r_X5_joined_83, r_X5_joined_84, r_X5_joined_85, r_X5_joined_86, r_X5_joined_89, r_X5_joined_90, r_X5_joined_91, r_X5_joined_94, r_X5_joined_95, r_X5_joined_96, r_X5_joined_99, r_X5_joined_100, r_X5_joined_101, r_X5_joined_102, r_X5_joined_105, r_X5_joined_106, r_X5_joined_107, r_X5_joined_108, r_X5_joined_111, r_X5_joined_112, r_X5_joined_113, r_X5_joined_114, r_X5_joined_117, r_X5_joined_120, r_X5_joined_121, r_X5_joined_124, sN, sS, true_and, xo x1, x2, x3, xo y1, y2, y3, xo w1, w2, xg r1, v0, c0, r2, nI_add, nI_z (show (ttx T0 tb).length < 2 ^ 31 by omega), nI_z (show (ttx T0 ta).length < 2 ^ 31 by omega), nI_ltI (show sm < 2 ^ 31 by omega) (show (ttx T0 ta).length + (ttx T0 tb).length < 2 ^ 31 by omega), mR_e]
  by_cases hb0 : ttx T0 tb = []
  · have hz : (ttx T0 tb).length = 0 := by rw [hb0]; rfl
    refine ⟨fun hne => absurd hz hne, fun _ => ?_⟩
    refine ⟨x, T, sp, Fa, rfl, h1T, h, KP_rf _ _, YF_rf _, ?_, nda, fun z hz => hout z (List.mem_append_left _ hz), hNa⟩
    unfold joinT
    rw [if_pos hb0]
    exact ra
  have hbl : ¬ (ttx T0 tb).length = 0 := fun z => hb0 (List.length_eq_zero_iff.mp z)
  refine ⟨fun _ => ?_, fun hne => absurd hbl hne⟩
  by_cases ha0 : ttx T0 ta = []
  · have hz : (ttx T0 ta).length = 0 := by rw [ha0]; rfl
    refine ⟨fun hne => absurd hz hne, fun _ => ?_⟩
    refine ⟨y, T, sp, Fb, rfl, h1T, h, KP_rf _ _, YF_rf _, ?_, ndb, fun z hz => hout z (List.mem_append_right _ hz), hNb⟩
    unfold joinT
    rw [if_neg hb0, if_pos ha0]
    exact rb
  have hal : ¬ (ttx T0 ta).length = 0 := fun z => ha0 (List.length_eq_zero_iff.mp z)
  refine ⟨fun _ => ?_, fun hne => absurd hal hne⟩
  obtain ⟨pa1, pa2, pa3⟩ := tps_okL ta 12 (Nat.le_refl _) wa ha0
  obtain ⟨pb1, pb2, pb3⟩ := tps_okL tb 12 (Nat.le_refl _) wb hb0
  refine ⟨fun hgt => ?_, fun hle => ?_⟩
  · rw [r_X5_joined_61]
    simp only [r_X5_joined_62, r_X5_joined_63]
    refine ⟨_, q_depth hC ua1, ?_⟩
    rintro r s1 ⟨hs, hr⟩
    subst hs
    subst hr
    simp only [r_X5_joined_66, r_X5_joined_67]
    refine ⟨_, q_depth hC ub1, ?_⟩
    rintro r s2 ⟨hs, hr⟩
    subst hs
    subst hr
    rw [ua4, ub4, wa3, wb3]
    have da : tdp T0 ta ≤ 12 := tw_tdp ta 12 (Nat.le_refl _) wa
    have db : tdp T0 tb ≤ 12 := tw_tdp tb 12 (Nat.le_refl _) wb
    simp only [r_X5_joined_70]
    refine ⟨fun r σ' => σ' = s2 ∧ r = nI (max (tdp T0 ta) (tdp T0 tb)), ⟨rfl, rfl, _, _, rfl, _, rfl, rfl, ?_⟩, ?_⟩
    · by_cases hlt : nI (tdp T0 ta) < nI (tdp T0 tb)
      · rw [if_pos hlt]
        rw [nI_ltI (by omega) (by omega)] at hlt
        congr 1; omega
      · rw [if_neg hlt]
        rw [nI_ltI (by omega) (by omega)] at hlt
        congr 1; omega
    rintro r s3 ⟨hs, hr⟩
    subst hs
    subst hr
    simp only [r_X5_joined_73, r_X5_joined_74, r_X5_joined_75, r_X5_joined_78, r_X5_joined_79, r_X5_joined_80, xo w1, w2, true_and, xg r1, v1, c1, r3, nI_add, nI_ltI (show dp < 2 ^ 31 by omega) (show 1 + max (tdp T0 ta) (tdp T0 tb) < 2 ^ 31 by omega)]
    refine ⟨fun hd => ?_, fun hd => ?_⟩
    · -- pieces balanced
      simp only [r_X5_joined_90, r_X5_joined_91, r_X5_joined_94, r_X5_joined_95, r_X5_joined_96, xo w1, w3, true_and]
      have hf : (tps T0 ta ++ tps T0 tb).flatMap (lbt T0) = ttx T0 ta ++ ttx T0 tb := by rw [List.flatMap_append, pa2, pb2]
      have hok : ∀ z ∈ tps T0 ta ++ tps T0 tb, okL T0 z := fun z hz => (List.mem_append.mp hz).elim (pa1 z) (pb1 z)
      have h120 : ((tps T0 ta ++ tps T0 tb).flatMap (lbt T0)).length ≤ 120 := by rw [hf, List.length_append]; exact hl
      have hn := fm_len (T := T0) (tps T0 ta ++ tps T0 tb) (fun z hz => (hok z hz).2)
      have hLR : LbR T (tps T0 ta ++ tps T0 tb) (pcs T 12 x ++ pcs T 12 y) := LbR_app wa4 wb4
      have hsl : (nwP (tps T0 ta ++ tps T0 tb) (pcs T 12 x ++ pcs T 12 y)).Sublist (Fa ++ Fb) := by
        rw [nwP_app wa4.1]
        exact List.Sublist.append (nwP_sub hext ta 12 x Fa (Nat.le_refl _) wa ra) (nwP_sub hext tb 12 y Fb (Nat.le_refl _) wb rb)
      have hlen : (pcs T 12 x).length + (pcs T 12 y).length = (tps T0 ta).length + (tps T0 tb).length := by rw [← wa4.1, ← wb4.1]
      rw [List.length_append] at hn
      refine ⟨_, q_piecesReadBoth (t := 13) (by omega) hC ua1 ub1 (by rw [ua3, ub3]; omega) hP, ?_⟩
      rintro s4 ⟨f4, p4⟩
      rw [ua3, ub3] at p4
      have hW4 : WS s4 T sm dp lo tn st sp := WS_x h f4 (fun k hk => by simp at hk; omega) (fun k hk => by simp at hk) ⟨_, p4⟩ ⟨L0, TXT_f hL0 f4 (by simp) (by simp)⟩
      have kp4 : KP T s3 s4 := KP_x f4 (fun k hk => by simp at hk; subst hk; exact XC_24 hC (by omega))
      have yf4 : YF s3 s4 := YF_x f4 (fun k hk _ => by simp at hk; omega) (fun k hk => by simp at hk) (fun k hk _ => by simp at hk; omega)
      have hO4 : MO s4 T0 tn := MO_ext hO (KP_w kp4 hext)
      have hN4 : MN s4 T tn (Fa ++ Fb) := MN_ext hN (fun z hz => (List.mem_append.mp hz).elim (nna z) (nnb z)) (fun _ _ z => z) kp4
      obtain ⟨hC4, -, ⟨fi', fr', w1', w2', w3', w4', w5', w6'⟩, -, -, ⟨L4, hL4⟩, hM4, -, -⟩ := id hW4
      have hH4 := HFr_of hW4 hO4 hN4
      simp only [r_X5_joined_99, r_X5_joined_100, r_X5_joined_101, r_X5_joined_102]
      have hF0 : ∀ z ∈ Fa ++ Fb, T0 z = none := fun z hz => by
        cases hv : T0 z with
        | none => rfl
        | some v => have := hout z hz; rw [h01 z v hv] at this; cases this
      have hspF : ∀ z ∈ sp, z ∉ Fa ++ Fb := fun z hz hzF => by
        have := hsp z hz
        exact (List.mem_append.mp hzF).elim (fun q => nna z q this) (fun q => nnb z q this)
      refine ⟨_, q_release hext htn ta 12 x Fa 15 0 s4 sp fi' fr' wa ra nda (fun z hz => hF0 z (List.mem_append_left _ hz)) (HFr_f hH4 (fun z hz => List.mem_append_left _ hz) (XF_rf [] _ _ _) (fun k hk => by simp at hk)) w1' w5' w6' (fun z hz q => hspF z hz (List.mem_append_left _ q)) (by omega) (by omega), ?_⟩
      rintro s5 ⟨J1, fr5, j1, j2, j3, j4, j5, j6⟩
      simp only [r_X5_joined_105, r_X5_joined_106, r_X5_joined_107, r_X5_joined_108]
      have T11 : T 11 = none := XC_24 hC (by omega)
      have n11 : 11 ∉ Fa ++ Fb := fun z => (List.mem_append.mp z).elim (fun q => nna 11 q T11) (fun q => nnb 11 q T11)
      refine ⟨_, q_release hext htn tb 12 y Fb 15 0 s5 (J1 ++ sp) fi' fr5 wb rb ndb (fun z hz => hF0 z (List.mem_append_right _ hz)) (HFr_f hH4 (fun z hz => List.mem_append_right _ hz) j1 (fun k hk => ?_)) j2 w5' j4 (fun z hz q => ?_) (by omega) (by omega), ?_⟩
      · rcases List.mem_cons.mp hk with rfl | hk
        · refine ⟨fun z => n11 (List.mem_append_right _ z), ?_⟩
          cases hv : T0 11 with
          | none => rfl
          | some v => rw [hext 11 v hv] at T11; cases T11
        · exact ⟨fun z => ndab k (j6 k hk).1 k z rfl, hF0 k (List.mem_append_left _ (j6 k hk).1)⟩
      · rcases List.mem_append.mp hz with hz | hz
        · exact ndab z (j6 z hz).1 z q rfl
        · exact hspF z hz (List.mem_append_right _ q)
      rintro s6 ⟨J2, fr6, l1, l2, l3, l4, l5, l6⟩
      have hJ : ∀ z ∈ J2 ++ J1, z ∈ Fa ++ Fb ∧ isJn T z := fun z hz => (List.mem_append.mp hz).elim (fun q => ⟨List.mem_append_right _ (l6 z q).1, (l6 z q).2⟩) (fun q => ⟨List.mem_append_left _ (j6 z q).1, (j6 z q).2⟩)
      have hXJ : XF (11 :: (J2 ++ J1)) [] [] s4 s6 := XF_tr j1 l1 (fun k hk => by
        rcases List.mem_cons.mp hk with rfl | hk
        · exact List.mem_cons_self
        · exact List.mem_cons_of_mem _ (List.mem_append_right _ hk)) (fun k hk => by
        rcases List.mem_cons.mp hk with rfl | hk
        · exact List.mem_cons_self
        · exact List.mem_cons_of_mem _ (List.mem_append_left _ hk)) (fun _ z => z) (fun _ z => z) (fun _ z => z) (fun _ z => z)
      have J24 : ∀ z ∈ J2 ++ J1, 24 ≤ z := fun z hz => by
        obtain ⟨q, hq⟩ := (hJ z hz).2
        exact (hC z _ hq).1
      have hsl2 : ∀ z ∈ Fa ++ Fb, ∀ q, T z = some (.inr (.inr q)) → oks T0 q := fun z hz q hq => (List.mem_append.mp hz).elim (fun w => rT_slice T0 hext ta 12 x Fa wa ra z w q hq) (fun w => rT_slice T0 hext tb 12 y Fb wb rb z w q hq)
      have hDT := drp_T (F := Fa ++ Fb) h1T
      have hDx := drp_x (T := T) hout
      have hDw := drp_wf h01 hout hT hT1 hsl2
      have hDn : ∀ k ∈ 11 :: (J2 ++ J1), drp T T1 (Fa ++ Fb) k = none := fun k hk => by
        rcases List.mem_cons.mp hk with rfl | hk
        · cases hv : drp T T1 (Fa ++ Fb) 11 with
          | none => rfl
          | some v => rw [hDT 11 v hv] at T11; cases T11
        · exact drp_J (hJ k hk).1 (hJ k hk).2
      have p6 : PCS s6 13 (pcs T 12 x ++ pcs T 12 y) := PCS_f p4 hXJ (by omega) (fun z => by
        rcases List.mem_cons.mp z with z | z
        · omega
        · have := J24 13 z; omega) (by simp)
      have hW6 : WS s6 (drp T T1 (Fa ++ Fb)) sm dp lo tn st (J2 ++ (J1 ++ sp)) := by
        refine ⟨XC_f (XC_sub hC4 hDT hDw) hXJ hDn (fun k hk => by simp at hk), hDw, ⟨fi', fr6, l2, by rw [l3 0 (by decide), j3 0 (by decide)]; exact w2', by rw [l3 1 (by decide), j3 1 (by decide)]; exact w3', by rw [l3 2 (by decide), j3 2 (by decide)]; exact w4', w5', l4⟩, ?_, ⟨_, p6⟩, ⟨L4, TXT_f hL4 hXJ (fun z => by
          rcases List.mem_cons.mp z with z | z
          · omega
          · have := J24 15 z; omega) (by simp)⟩, fun c o hc ho => ?_, ?_, fun c hc => ?_⟩
        · obtain ⟨-, -, -, ⟨g', q1, q2⟩, -⟩ := hW4
          exact ⟨g', hXJ.2.1 12 _ (by simp) q1, q2⟩
        · have hcT : T c ≠ none := ext_nn hDT hc
          obtain ⟨-, o', q1, -⟩ := XC_nn hC4 hcT
          have := hXJ.1 c o' (fun z => hc (hDn c z)) q1
          rw [this] at ho
          cases ho
          exact hM4 c _ hcT q1
        · refine List.nodup_append.mpr ⟨l5, List.nodup_append.mpr ⟨j5, hsnd, fun z hz w hw hzw => ?_⟩, fun z hz w hw hzw => ?_⟩
          · subst hzw
            exact hspF z hw (List.mem_append_left _ (j6 z hz).1)
          · subst hzw
            rcases List.mem_append.mp hw with hw | hw
            · exact ndab z (j6 z hw).1 z (l6 z hz).1 rfl
            · exact hspF z hw (List.mem_append_right _ (l6 z hz).1)
        · rcases List.mem_append.mp hc with hc | hc
          · exact hDn c (List.mem_cons_of_mem _ (List.mem_append_left _ hc))
          · rcases List.mem_append.mp hc with hc | hc
            · exact hDn c (List.mem_cons_of_mem _ (List.mem_append_right _ hc))
            · cases hv : drp T T1 (Fa ++ Fb) c with
              | none => rfl
              | some v => have := hsp c hc; rw [hDT c v hv] at this; cases this
      have hPz : ∀ (L : List tL) (P : List Nat), LbR T L P → (∀ z ∈ nwP L P, z ∈ Fa ++ Fb) → (∀ (j : Nat) (u : tL) (i : Nat), L[j]? = some u → P[j]? = some i → (∃ c, u = .inl c) ∨ i ∈ nwP L P) → LbR (drp T T1 (Fa ++ Fb)) L P := fun L P hLP hin hnew => by
        refine ⟨hLP.1, fun j u i hu hi => ?_⟩
        have hr := hLP.2 j u i hu hi
        rcases u with c | t | q
        · exact hr
        · have hr : T i = some (.inl t) := hr
          show drp T T1 (Fa ++ Fb) i = some (.inl t)
          rcases hnew j _ i hu hi with ⟨c, hc⟩ | hz
          · cases hc
          · rw [drp_N (hin i hz) (fun ⟨q, hq⟩ => by rw [hr] at hq; cases hq)]; exact hr
        · have hr : T i = some (.inr (.inr q)) := hr
          show drp T T1 (Fa ++ Fb) i = some (.inr (.inr q))
          rcases hnew j _ i hu hi with ⟨c, hc⟩ | hz
          · cases hc
          · rw [drp_N (hin i hz) (fun ⟨q, hq⟩ => by rw [hr] at hq; cases hq)]; exact hr
      have hnewP : ∀ (L : List tL) (P : List Nat) (j : Nat) (u : tL) (i : Nat), L[j]? = some u → P[j]? = some i → (∃ c, u = .inl c) ∨ i ∈ nwP L P := fun L P j u i hu hi => by
        rcases u with c | u
        · exact Or.inl ⟨c, rfl⟩
        · refine Or.inr ?_
          unfold nwP
          refine List.mem_flatMap.mpr ⟨(.inr u, i), ?_, by simp [nwL]⟩
          have : (L.zip P)[j]? = some (.inr u, i) := by rw [List.getElem?_zip_eq_some]; exact ⟨hu, hi⟩
          exact List.mem_of_getElem? this
      have hLR6 := hPz _ _ hLR (fun z hz => hsl.subset hz) (hnewP _ _)
      have hPn : ∀ z ∈ pcs T 12 x ++ pcs T 12 y, drp T T1 (Fa ++ Fb) z ≠ none := fun z hz => by
        have hpc : isPc T z := (List.mem_append.mp hz).elim (pcs_isPc 12 x wa1 z) (pcs_isPc 12 y wb1 z)
        obtain ⟨j, hj⟩ := List.mem_iff_getElem?.mp hz
        have hjl := (List.getElem?_eq_some_iff.mp hj).1
        obtain ⟨u, hu⟩ : ∃ u, (tps T0 ta ++ tps T0 tb)[j]? = some u := ⟨_, List.getElem?_eq_getElem (by rw [hLR.1]; exact hjl)⟩
        have hr := hLR6.2 j u z hu hj
        rcases u with c | t | q
        · have hr : z = c := hr
          subst hr
          have := hok _ (List.mem_of_getElem? hu)
          have h0 : isPc T0 z := this.1
          exact ext_nn hDx (ext_nn h01 (isPc_nn h0))
        · have hr : drp T T1 (Fa ++ Fb) z = some (.inl t) := hr
          rw [hr]; exact fun z => by cases z
        · have hr : drp T T1 (Fa ++ Fb) z = some (.inr (.inr q)) := hr
          rw [hr]; exact fun z => by cases z
      obtain ⟨pi, pr, pg, q1, q2, q3, -⟩ := id p6
      have m3 : fr6 1 = some 13 := by rw [l3 1 (by decide), j3 1 (by decide)]; exact w3'
      simp only [r_X5_joined_111, r_X5_joined_112, r_X5_joined_113, r_X5_joined_114, r_X5_joined_117, r_X5_joined_120, r_X5_joined_121, xo l2, m3, true_and, xo q1, q3]
      have hLl : (pcs T 12 x ++ pcs T 12 y).length = (tps T0 ta ++ tps T0 tb).length := hLR.1.symm
      have hLa : (tps T0 ta ++ tps T0 tb).length = (tps T0 ta).length + (tps T0 tb).length := List.length_append
      rw [hLl]
      have hsA : sub (tps T0 ta ++ tps T0 tb) 0 (0 + (tps T0 ta ++ tps T0 tb).length) = tps T0 ta ++ tps T0 tb := by rw [Nat.zero_add]; exact sub_all _
      have hsP : sub (pcs T 12 x ++ pcs T 12 y) 0 (0 + (tps T0 ta ++ tps T0 tb).length) = pcs T 12 x ++ pcs T 12 y := by rw [Nat.zero_add, ← hLl]; exact sub_all _
      have hb16 := q_balanced (sm := sm) (dp := dp) (lo := lo) (tn := tn) (st := st) (T0 := T0) (L := tps T0 ta ++ tps T0 tb) (P := pcs T 12 x ++ pcs T 12 y) hok h120
      have h1n : ∀ k ∈ 11 :: (J2 ++ J1), T1 k = none := fun k hk => by
        cases hv : T1 k with
        | none => rfl
        | some v => have := hDn k hk; rw [hDx k v hv] at this; cases this
      refine ⟨(tps T0 ta ++ tps T0 tb).length - 1, 9 * ((tps T0 ta ++ tps T0 tb).length - 1), _, by omega, by omega, hb16 15 (tps T0 ta ++ tps T0 tb).length 0 0 s6 (drp T T1 (Fa ++ Fb)) (J2 ++ (J1 ++ sp)) _ _ (by omega) (by omega) (by omega) (by omega) (by omega) (fun q v z => hDx q v (h01 q v z)) hW6 p6 hLR6 hPn (by rw [hsA, hsP]; exact hsl.nodup nd) (Nat.le_refl _) (Nat.le_refl _), ?_⟩
      rintro r s7 ⟨k, T', sp', F, rfl, b1, b2, b3, b4, b5, b6, b7, b8, b9⟩
      rw [hsA] at b6
      rw [hsA, hsP] at b8
      rw [r_X5_joined_124, mR_e]
      refine ⟨k, T', sp', F, rfl, fun q v z => b1 q v (hDx q v z), b2, KP_tr (KP_w kp4 h1T) (KP_tr (KP_x hXJ h1n) (KP_w b4 hDx)), YF_tr yf4 (YF_tr (YF_x hXJ (fun k hk h24 => ?_) (fun k hk => by simp at hk) (fun k hk => by simp at hk)) b5), ?_, b7, fun z hz => ?_, b9⟩
      · rcases List.mem_cons.mp hk with hk | hk
        · exact Or.inl hk
        · have := J24 k hk; omega
      · unfold joinT
        rw [if_neg hb0, if_neg ha0, if_neg (by omega), if_neg (by omega)]
        exact b6
      · rcases b8 z hz with hz | hz
        · exact hout z (hsl.subset hz)
        · cases hv : T1 z with
          | none => rfl
          | some v => rw [hDx z v hv] at hz; cases hz
    · -- a join
      simp only [r_X5_joined_83, r_X5_joined_84, r_X5_joined_85, r_X5_joined_86]
      refine ⟨1, 9, _, by omega, by omega, q_newJoin h wa1 wb1 (by rw [wa2]; exact ha0) (by rw [wb2]; exact hb0) (by rw [wa2, wb2]; exact hl) 1 9 (Nat.le_refl _) (Nat.le_refl _), ?_⟩
      rintro r s4 ⟨c, sp4, rfl, hTc, hW4, kp4, yf4, -, oc, oc1, oc2⟩
      rw [r_X5_joined_89, mR_e]
      have x4 := ext_up hTc (.inr (.inl (x, y)))
      refine ⟨c, _, sp4, c :: (Fa ++ Fb), rfl, fun q v z => x4 q v (h1T q v z), hW4, KP_w kp4 h1T, yf4, ?_, ?_, ?_, ?_⟩
      · unfold joinT
        rw [if_neg hb0, if_neg ha0, if_neg (by omega), if_pos (by omega)]
        exact ⟨x, y, Fa, Fb, va_up_self _ _ _, rT_ext x4 _ _ _ ra, rT_ext x4 _ _ _ rb, rfl⟩
      · refine List.nodup_cons.mpr ⟨fun hz => ?_, nd⟩
        exact (List.mem_append.mp hz).elim (fun q => nna c q hTc) (fun q => nnb c q hTc)
      · intro z hz
        rcases List.mem_cons.mp hz with rfl | hz
        · cases hv : T1 z with
          | none => rfl
          | some v => rw [h1T z v hv] at hTc; cases hTc
        · exact hout z hz
      · intro z hz hj
        rcases List.mem_cons.mp hz with rfl | hz
        · exact ⟨oc, oc1, oc2⟩
        · exact MN_ext hN (fun z hz => (List.mem_append.mp hz).elim (nna z) (nnb z)) x4 kp4 z hz hj
  · -- a new leaf
    rw [r_X5_joined_44]
    simp only [r_X5_joined_45, r_X5_joined_48, r_X5_joined_49, r_X5_joined_50, xo w1, w4, true_and]
    refine ⟨_, q_readBoth (t := 15) (by omega) hC ua1 ub1 (by rw [ua2, ub2, wa2, wb2]; exact hl) hL0, ?_⟩
    rintro s1 ⟨f1, t1⟩
    rw [ua2, ub2, wa2, wb2] at t1
    have hW1 : WS s1 T sm dp lo tn st sp := WS_x h f1 (fun k hk => by simp at hk; omega) (fun k hk => by simp at hk; omega) ⟨P0, PCS_f hP f1 (by omega) (by simp) (by simp)⟩ ⟨_, t1⟩
    have kp1 : KP T σ s1 := KP_x f1 (fun k hk => by simp at hk; subst hk; exact XC_24 hC (by omega))
    have yf1 : YF σ s1 := YF_x f1 (fun k hk _ => by simp at hk; omega) (fun k hk _ => by simp at hk; omega) (fun k hk => by simp at hk)
    obtain ⟨-, -, ⟨fi1, fr1, y1', y2', y3', y4', -⟩, -⟩ := id hW1
    simp only [r_X5_joined_53, r_X5_joined_54, r_X5_joined_57, xo y1', y4', true_and]
    have hokt : okt (ttx T0 ta ++ ttx T0 tb) := by
      refine ⟨by rw [List.length_append]; exact hl, fun z hz => ?_⟩
      rcases List.mem_append.mp hz with hz | hz
      · exact (tw_okt ta 12 (Nat.le_refl _) wa).2 z hz
      · exact (tw_okt tb 12 (Nat.le_refl _) wb).2 z hz
    refine ⟨2, 9 + (ttx T0 ta ++ ttx T0 tb).length, _, by omega, by rw [List.length_append]; omega, q_leaf t1 (by omega), ?_⟩
    intro r s2 hp
    obtain ⟨c, rfl, hTc, hW2, f2⟩ := leaf_in hW1 hokt hp
    rw [r_X5_joined_60, mR_e]
    have x2' := ext_up hTc (.inl (ttx T0 ta ++ ttx T0 tb))
    have hTc1 : T1 c = none := by
      cases hv : T1 c with
      | none => rfl
      | some v => rw [h1T c v hv] at hTc; cases hTc
    refine ⟨c, _, sp, [c], rfl, fun q v z => x2' q v (h1T q v z), hW2, KP_w (KP_tr kp1 (KP_x f2 (fun k hk => by simp at hk))) h1T, YF_tr yf1 (YF_x f2 (fun k hk => by simp at hk) (fun k hk => by simp at hk) (fun k hk => by simp at hk)), ?_, by simp, fun z hz => by simp at hz; rw [hz]; exact hTc1, ?_⟩
    · unfold joinT
      rw [if_neg hb0, if_neg ha0, if_pos (by omega)]
      exact ⟨va_up_self _ _ _, rfl⟩
    · exact MN_nw (y := .inr (.inl (ttx T0 ta ++ ttx T0 tb))) (x := c) (va_up_self _ _ _)
end
