/-! ===== the reference: balanced ===== -/
def sub {α : Type} (l : List α) (f t : Nat) : List α := (l.drop f).take (t - f)
theorem sub_len {α : Type} {l : List α} {f t : Nat} (h : t ≤ l.length) : (sub l f t).length = t - f := by simp only [sub, List.length_take, List.length_drop]; omega
theorem sub_split {α : Type} (l : List α) {f m t : Nat} (h1 : f ≤ m) (h2 : m ≤ t) : sub l f t = sub l f m ++ sub l m t := by
  simp only [sub]
  rw [show t - f = (m - f) + (t - m) by omega, List.take_add, List.drop_drop, show f + (m - f) = m by omega]
theorem sub_one {α : Type} {l : List α} {f : Nat} {x : α} (h : l[f]? = some x) : sub l f (f + 1) = [x] := by
  simp only [sub]
  rw [show f + 1 - f = 1 by omega, List.take_one, List.head?_drop, h]
  rfl
theorem sub_all {α : Type} (l : List α) : sub l 0 l.length = l := by simp [sub]
theorem sub_mem {α : Type} {l : List α} {f t : Nat} {x : α} (h : x ∈ sub l f t) : x ∈ l := List.mem_of_mem_drop (List.mem_of_mem_take h)
def nwP (L : List tL) (P : List Nat) : List Nat := (L.zip P).flatMap (fun q => nwL q.1 q.2)
theorem nwP_app {L1 L2 : List tL} {P1 P2 : List Nat} (h : L1.length = P1.length) : nwP (L1 ++ L2) (P1 ++ P2) = nwP L1 P1 ++ nwP L2 P2 := by
  simp only [nwP]
  rw [List.zip_append h, List.flatMap_append]
theorem nwP_olds : ∀ (l : List Nat), nwP (l.map Sum.inl) l = []
  | [] => rfl
  | a :: l => by
    have := nwP_olds l
    simp only [nwP, List.map_cons, List.zip_cons_cons, List.flatMap_cons, nwL, List.nil_append] at this ⊢
    exact this
theorem bal_2 (n : Nat) (L : List tL) (h : ¬ L.length < 2) : bal (n + 1) L = tj (bal n (L.take (L.length / 2))) (bal n (L.drop (L.length / 2))) := by
  show (if L.length < 2 then _ else _) = _
  rw [if_neg h]
theorem bal_1 (n : Nat) (L : List tL) (h : L.length < 2) : bal n L = bal 0 L := by
  cases n with
  | zero => rfl
  | succ n =>
    show (if L.length < 2 then _ else _) = _
    rw [if_pos h]
    rfl
theorem pk_usM {f : Nat → Int32} {g : Nat → Nat → Int32} {k : Nat} {v : Int32} : ((upd f k v, g) : rf_M).1 k = v := pk_us
theorem bal_fuel : ∀ (n : Nat) (L : List tL), L.length ≤ 2 ^ n → bal (n + 1) L = bal n L
  | 0, L, h => by
    have h : L.length ≤ 1 := h
    exact bal_1 1 L (by omega)
  | n + 1, L, h => by
    rw [Nat.pow_succ] at h
    by_cases h2 : L.length < 2
    · rw [bal_1 (n + 1 + 1) L h2, bal_1 (n + 1) L h2]
    · rw [bal_2 (n + 1) L h2, bal_2 n L h2, bal_fuel n _ (by rw [List.length_take]; omega), bal_fuel n _ (by rw [List.length_drop]; omega)]
theorem bal_sub {L : List tL} {f t : Nat} (h1 : 2 ≤ t - f) (h2 : t ≤ L.length) (h3 : L.length ≤ 120) : bal 7 (sub L f t) = tj (bal 7 (sub L f (f + (t - f) / 2))) (bal 7 (sub L (f + (t - f) / 2) t)) := by
  have hl : (sub L f t).length = t - f := sub_len h2
  have e1 : (sub L f t).take ((sub L f t).length / 2) = sub L f (f + (t - f) / 2) := by
    rw [hl]
    simp only [sub]
    rw [List.take_take]
    congr 1
    omega
  have e2 : (sub L f t).drop ((sub L f t).length / 2) = sub L (f + (t - f) / 2) t := by
    rw [hl]
    simp only [sub]
    rw [List.drop_take, List.drop_drop]
    congr 1
    omega
  have b7 : ∀ X : List tL, X.length ≤ 64 → bal 7 X = bal 6 X := fun X hX => bal_fuel 6 X hX
  rw [b7 (sub L f (f + (t - f) / 2)) (by rw [sub_len (by omega)]; omega), b7 (sub L (f + (t - f) / 2) t) (by rw [sub_len h2]; omega), ← e1, ← e2]
  exact bal_2 6 _ (by omega)
theorem bal_one {L : List tL} {f : Nat} {x : tL} (h : L[f]? = some x) : bal 7 (sub L f (f + 1)) = tl x := by
  rw [sub_one h]
  rfl
theorem k_push (μ : rf_M) (f t h : Int32) (k : Nat) (h31 : μ.1 31 = nI k) (hk : k < 512) (hh : h = 0 ∨ h = 1) : P_push [.inr (some 39), .inl f, .inl t, .inl h] μ 0 0 (mN (fun μ' => μ' = (upd μ.1 31 (nI (k + 1)), rf_up (rf_up (rf_up μ.2 27 k f) 28 k t) 29 k h))) := by
  refine e_push _ _ _ μ _ ?_
  simp only [r_push_0, r_push_1, r_push_4, r_push_5, r_push_8, r_push_9, r_push_10, r_push_11, r_push_14, r_push_15, r_push_18, r_push_19, r_push_20, r_push_21, r_push_24, r_push_25, r_push_28, r_push_29, r_push_30, r_push_31, r_push_32, r_push_35, r_push_36, r_push_37, r_push_40, h31, nI_clamp (show k < 2 ^ 31 by omega), vp_in_i (show k < 2 ^ 31 by omega), hk, true_and, hh, mN_e, nI_add]
/-- a store and its map grow -/
def BX (T1 : sT) (ι1 : Nat → Nat) (T2 : sT) (ι2 : Nat → Nat) : Prop := (∀ c v, T1 c = some v → T2 c = some v) ∧ ∀ c, T1 c ≠ none → ι2 c = ι1 c
theorem BX_rf (T : sT) (ι : Nat → Nat) : BX T ι T ι := ⟨fun _ _ h => h, fun _ _ => rfl⟩
theorem ext_nn {T1 T2 : sT} (h : ∀ c v, T1 c = some v → T2 c = some v) {c : Nat} (hc : T1 c ≠ none) : T2 c ≠ none := by
  obtain ⟨v, hv⟩ := Option.ne_none_iff_exists'.mp hc
  rw [h c v hv]
  exact fun z => by cases z
theorem BX_tr {T1 T2 T3 : sT} {ι1 ι2 ι3 : Nat → Nat} (h1 : BX T1 ι1 T2 ι2) (h2 : BX T2 ι2 T3 ι3) : BX T1 ι1 T3 ι3 := ⟨fun c v h => h2.1 c v (h1.1 c v h), fun c h => (h2.2 c (ext_nn h1.1 h)).trans (h1.2 c h)⟩
theorem BX_up {T : sT} {ι : Nat → Nat} {B i : Nat} {v : cV} (hB : T B = none) : BX T ι (va_up T B (some v)) (va_up ι B i) := ⟨ext_up hB v, fun c hc => va_up_ne _ _ (fun z => hc (by rw [z]; exact hB))⟩
theorem AP_ids {f : Nat → Int32} {ι1 ι2 : Nat → Nat} {l : List Nat} (h : AP f (l.map (fun p => nI (ι1 p)))) (he : ∀ x ∈ l, ι2 x = ι1 x) : AP f (l.map (fun p => nI (ι2 p))) := by
  rw [show l.map (fun p => nI (ι2 p)) = l.map (fun p => nI (ι1 p)) from List.map_congr_left (fun x hx => by rw [he x hx])]
  exact h
def balS (T0 T : sT) (ι : Nat → Nat) (μ : rf_M) (B sp e : Nat) (L : List tL) (P : List Nat) (sb : List (Nat × Nat × Nat)) (R : List Nat) : Prop :=
  (∀ c v, T0 c = some v → T c = some v) ∧ RR T ι μ B sp e ∧ LbR T L P ∧ μ.1 31 = nI sb.length ∧ AP (μ.2 27) (sb.map (fun q => nI q.1)) ∧ AP (μ.2 28) (sb.map (fun q => nI q.2.1)) ∧ AP (μ.2 29) (sb.map (fun q => nI q.2.2)) ∧ AP (μ.2 23) (P.map (fun p => nI (ι p))) ∧ AP (μ.2 30) (R.map (fun p => nI (ι p))) ∧ (∀ x ∈ R, T x ≠ none) ∧ (∀ x ∈ P, T x ≠ none)
def balF : List Nat := [0, 1, 2, 3, 5, 6, 27, 28, 29, 30, 31]
theorem balS_top {T0 T : sT} {ι : Nat → Nat} {μ : rf_M} {B sp e : Nat} {L : List tL} {P : List Nat} {sb : List (Nat × Nat × Nat)} {q : Nat × Nat × Nat} {R : List Nat} (h : balS T0 T ι μ B sp e L P (sb ++ [q]) R) : μ.1 31 = nI (sb.length + 1) ∧ μ.2 27 sb.length = nI q.1 ∧ μ.2 28 sb.length = nI q.2.1 ∧ μ.2 29 sb.length = nI q.2.2 := by
  obtain ⟨-, -, -, h1, h2, h3, h4, -⟩ := h
  refine ⟨by rw [h1]; simp, ?_, ?_, ?_⟩
  · rw [List.map_append] at h2
    have := AP_last (l := sb.map (fun q => nI q.1)) h2
    rwa [List.length_map] at this
  · rw [List.map_append] at h3
    have := AP_last (l := sb.map (fun q => nI q.2.1)) h3
    rwa [List.length_map] at this
  · rw [List.map_append] at h4
    have := AP_last (l := sb.map (fun q => nI q.2.2)) h4
    rwa [List.length_map] at this
/-- one off the rows of ranges -/
theorem balS_pop {T0 T : sT} {ι : Nat → Nat} {μ : rf_M} {B sp e : Nat} {L : List tL} {P : List Nat} {sb : List (Nat × Nat × Nat)} {q : Nat × Nat × Nat} {R : List Nat} (h : balS T0 T ι μ B sp e L P (sb ++ [q]) R) : balS T0 T ι (upd μ.1 31 (nI sb.length), μ.2) B sp e L P sb R := by
  obtain ⟨g1, g2, g3, h1, h2, h3, h4, g4⟩ := h
  rw [List.map_append] at h2 h3 h4
  exact ⟨g1, RR_ch g2 (CH_i2 (l := [31]) (CH_rf _ μ) (by decide)) (by decide), g3, show upd μ.1 31 (nI sb.length) 31 = _ from pk_us, AP_pre h2, AP_pre h3, AP_pre h4, g4⟩
/-- one more -/
theorem balS_push {T0 T : sT} {ι : Nat → Nat} {μ : rf_M} {B sp e : Nat} {L : List tL} {P : List Nat} {sb : List (Nat × Nat × Nat)} {f t h : Nat} {R : List Nat} (hS : balS T0 T ι μ B sp e L P sb R) : balS T0 T ι (upd μ.1 31 (nI (sb.length + 1)), rf_up (rf_up (rf_up μ.2 27 sb.length (nI f)) 28 sb.length (nI t)) 29 sb.length (nI h)) B sp e L P (sb ++ [(f, t, h)]) R := by
  obtain ⟨g1, g2, g3, h1, h2, h3, h4, g4, g5, g6⟩ := hS
  have hc : CH [27, 28, 29, 31] μ (upd μ.1 31 (nI (sb.length + 1)), rf_up (rf_up (rf_up μ.2 27 sb.length (nI f)) 28 sb.length (nI t)) 29 sb.length (nI h)) := CH_i2 (CH_a2 (CH_a2 (CH_a2 (CH_rf _ μ) (by decide)) (by decide)) (by decide)) (by decide)
  refine ⟨g1, RR_ch g2 hc (by decide), g3, ?_, ?_, ?_, ?_, ?_, ?_, g6⟩
  · show upd μ.1 31 (nI (sb.length + 1)) 31 = _
    rw [pk_us]; simp
  · show AP (rf_up (rf_up (rf_up μ.2 27 sb.length (nI f)) 28 sb.length (nI t)) 29 sb.length (nI h) 27) _
    rw [rf_up_n (by decide), rf_up_n (by decide), rf_up_s, List.map_append]
    have := AP_push h2 (nI f)
    rwa [List.length_map] at this
  · show AP (rf_up (rf_up (rf_up μ.2 27 sb.length (nI f)) 28 sb.length (nI t)) 29 sb.length (nI h) 28) _
    rw [rf_up_n (by decide), rf_up_s, rf_up_n (by decide), List.map_append]
    have := AP_push h3 (nI t)
    rwa [List.length_map] at this
  · show AP (rf_up (rf_up (rf_up μ.2 27 sb.length (nI f)) 28 sb.length (nI t)) 29 sb.length (nI h) 29) _
    rw [rf_up_s, rf_up_n (by decide), rf_up_n (by decide), List.map_append]
    have := AP_push h4 (nI h)
    rwa [List.length_map] at this
  · rw [(hc 23 (by decide)).2]; exact g4
  · rw [(hc 30 (by decide)).2]; exact g5
set_option maxHeartbeats 4000000 in
theorem bal_run {T0 : sT} {L : List tL} {P : List Nat} (hL : ∀ x ∈ L, okL T0 x) (h120 : (L.flatMap (lbt T0)).length ≤ 120) {e : Nat} {ret : Option mV → rf_M → Prop} : ∀ (s f t : Nat), t - f = s → f < t → t ≤ L.length → ∀ (T1 : sT) (ι1 : Nat → Nat) (μ1 : rf_M) (B1 sp1 : Nat) (sb : List (Nat × Nat × Nat)) (R : List Nat) (l2 l3 l4 : Option mV),
    balS T0 T1 ι1 μ1 B1 sp1 e L P (sb ++ [(f, t, 0)]) R → sb.length + 2 * s ≤ 500 → R.length + s ≤ 500 → s ≤ sp1 + 1 → (nwP (sub L f t) (sub P f t)).Nodup → (∀ x ∈ nwP (sub L f t) (sub P f t), x < B1) →
    (∀ (T2 : sT) (ι2 : Nat → Nat) (μ2 : rf_M) (B2 sp2 k : Nat) (F : List Nat) (l2 l3 l4 : Option mV), balS T0 T2 ι2 μ2 B2 sp2 e L P sb (R ++ [k]) → BX T1 ι1 T2 ι2 → B1 ≤ B2 → CH balF μ1 μ2 → sp1 + 1 = sp2 + s → rT T2 (bal 7 (sub L f t)) k F → F.Nodup → (∀ x ∈ F, x ∈ nwP (sub L f t) (sub P f t) ∨ (B1 ≤ x ∧ x < B2)) →
      W_balanced ret (17, [some (.inr (some 39)), some (.inl (nI (R.length + 1))), l2, l3, l4], [], μ2, 0, 0)) →
    W_balanced ret (17, [some (.inr (some 39)), some (.inl (nI R.length)), l2, l3, l4], [], μ1, 0, 0) := by
  have hl120 : L.length ≤ 120 := Nat.le_trans (fm_len L (fun x hx => (hL x hx).2)) h120
  intro s
  induction s using Nat.strongRecOn with
  | _ s ih =>
    intro f t hs hft htL T1 ι1 μ1 B1 sp1 sb R l2 l3 l4 hS hb1 hb2 hsp hnd hlt K
    obtain ⟨e31, e27, e28, e29⟩ := balS_top hS
    dsimp only at e27 e28 e29
    have hpop := balS_pop hS
    have hPL : L.length = P.length := hS.2.2.1.1
    rw [r_balanced_17]
    simp only [r_balanced_0, r_balanced_1, r_balanced_2, r_balanced_3, r_balanced_4, r_balanced_7, r_balanced_8, r_balanced_9, r_balanced_10, r_balanced_13, r_balanced_14, r_balanced_18, r_balanced_21, r_balanced_24, r_balanced_25, r_balanced_26, r_balanced_29, r_balanced_30, r_balanced_31, r_balanced_34, r_balanced_35, r_balanced_38, r_balanced_39, r_balanced_42, r_balanced_43, r_balanced_44, r_balanced_45, r_balanced_48, r_balanced_49, r_balanced_52, r_balanced_53, r_balanced_54, r_balanced_55, r_balanced_56, r_balanced_57, r_balanced_58, r_balanced_61, r_balanced_62, r_balanced_65, r_balanced_66, r_balanced_67, r_balanced_70, r_balanced_71, r_balanced_72, r_balanced_73, r_balanced_76, r_balanced_79, r_balanced_80, r_balanced_83, r_balanced_84, r_balanced_87, r_balanced_88, r_balanced_91, r_balanced_94, r_balanced_95, r_balanced_98, r_balanced_99, r_balanced_100, r_balanced_101, r_balanced_102, r_balanced_103, r_balanced_106, r_balanced_107, r_balanced_108, r_balanced_109, r_balanced_110, r_balanced_111, r_balanced_114, r_balanced_115, r_balanced_116, r_balanced_119, r_balanced_120, r_balanced_123, r_balanced_124, r_balanced_125, r_balanced_126, r_balanced_127, r_balanced_128, r_balanced_129, r_balanced_130, r_balanced_132, r_balanced_133, r_balanced_134, r_balanced_135, r_balanced_136, r_balanced_139, r_balanced_140, r_balanced_142, r_balanced_143, r_balanced_144, r_balanced_147, r_balanced_148, r_balanced_149, r_balanced_151, r_balanced_152, r_balanced_155, r_balanced_158, r_balanced_159, r_balanced_162, r_balanced_163, r_balanced_164, e31, pk_us, pk_sub (show 1 ≤ sb.length + 1 by omega), Nat.add_sub_cancel, nI_clamp (show sb.length < 2 ^ 31 by omega), vp_in_i (show sb.length < 2 ^ 31 by omega), show sb.length < 512 by omega, true_and, e27, e28, e29, pk_sub (show f ≤ t by omega), nI_eq (show t - f < 2 ^ 31 by omega) (show 1 < 2 ^ 31 by omega), nI_clamp (show f < 2 ^ 31 by omega), vp_in_i (show f < 2 ^ 31 by omega), nI_clamp (show R.length < 2 ^ 31 by omega), vp_in_i (show R.length < 2 ^ 31 by omega), show R.length < 512 by omega, show f < 240 by omega]
    refine ⟨fun h => absurd h (by rw [nI_zle _ (by omega)]; omega), fun _ => ⟨fun hne => ⟨fun _ => ?_, fun h => absurd (show nI 0 = 0 from nI_0) h⟩, fun h1 => ?_⟩⟩
    · -- two halves
      have hs2 : 2 ≤ t - f := by omega
      refine ⟨by rw [nI_z (by omega)]; omega, ?_⟩
      have hm1 : f < f + (t - f) / 2 := by omega
      have hm2 : f + (t - f) / 2 < t := by omega
      generalize hm : f + (t - f) / 2 = m at hm1 hm2
      have hme : nI f + nI (t - f) / nI 2 = nI m := by rw [pk_div (by omega) (by omega) (by omega), nI_add, hm]
      simp only [hme]
      have hp1 := balS_push (f := f) (t := t) (h := 1) hpop
      refine ⟨_, k_push _ _ _ _ sb.length pk_usM (by omega) (Or.inr (by rw [show (nI 1 : Int32) = 1 from rfl])), ?_⟩
      rintro s1 rfl
      have hp2 := balS_push (f := m) (t := t) (h := 0) hp1
      refine ⟨_, k_push _ _ _ _ (sb.length + 1) pk_usM (by omega) (Or.inl nI_0), ?_⟩
      rintro s2 rfl
      rw [List.length_append, List.length_singleton] at hp2
      have hp3 := balS_push (f := f) (t := m) (h := 0) hp2
      refine ⟨_, k_push _ _ _ _ (sb.length + 2) pk_usM (by omega) (Or.inl nI_0), ?_⟩
      rintro s3 rfl
      rw [List.length_append, List.length_append, List.length_singleton, List.length_singleton] at hp3
      have hsplitL := sub_split L (f := f) (m := m) (t := t) (by omega) (by omega)
      have hsplitP := sub_split P (f := f) (m := m) (t := t) (by omega) (by omega)
      have hnw : nwP (sub L f t) (sub P f t) = nwP (sub L f m) (sub P f m) ++ nwP (sub L m t) (sub P m t) := by
        rw [hsplitL, hsplitP, nwP_app (by rw [sub_len (by omega), sub_len (by omega)])]
      rw [hnw] at hnd hlt K
      obtain ⟨nd1, nd2, nd3⟩ := List.nodup_append.mp hnd
      refine ih (m - f) (by omega) f m rfl hm1 (by omega) T1 ι1 _ B1 sp1 ((sb ++ [(f, t, 1)]) ++ [(m, t, 0)]) R _ _ _ hp3 (by simp only [List.length_append, List.length_singleton]; omega) (by omega) (by omega) nd1 (fun x hx => hlt x (List.mem_append_left _ hx)) ?_
      intro T2 ι2 μ2 B2 sp2 k F m2 m3 m4 hS2 hx2 hB2 hc2 hsp2 hr2 hF2 hin2
      have e1 : R.length + 1 = (R ++ [k]).length := by simp
      rw [e1]
      refine ih (t - m) (by omega) m t rfl hm2 htL T2 ι2 μ2 B2 sp2 (sb ++ [(f, t, 1)]) (R ++ [k]) m2 m3 m4 hS2 (by simp only [List.length_append, List.length_singleton]; omega) (by simp only [List.length_append, List.length_singleton]; omega) (by omega) nd2 (fun x hx => Nat.lt_of_lt_of_le (hlt x (List.mem_append_right _ hx)) hB2) ?_
      intro T3 ι3 μ3 B3 sp3 k3 F3 n2 n3 n4 hS3 hx3 hB3 hc3 hsp3 hr3 hF3 hin3
      obtain ⟨f31, f27, f28, f29⟩ := balS_top hS3
      dsimp only at f27 f28 f29
      have hpop3 := balS_pop hS3
      -- the two results
      have hdone := hS3.2.2.2.2.2.2.2.2.1
      have d0 : μ3.2 30 R.length = nI (ι3 k) := hdone R.length _ (by simp)
      have d1 : μ3.2 30 (R.length + 1) = nI (ι3 k3) := hdone (R.length + 1) _ (by simp)
      have hext3 := hS3.1
      have okl : ∀ x ∈ sub L f m, okL T0 x := fun x hx => hL x (sub_mem hx)
      have okr : ∀ x ∈ sub L m t, okL T0 x := fun x hx => hL x (sub_mem hx)
      have hfl : ∀ a b, b ≤ L.length → ((sub L a b).flatMap (lbt T0)).length ≤ (L.flatMap (lbt T0)).length := by
        intro a b hab
        have h1 : L = L.take a ++ (sub L a b ++ (L.drop a).drop (b - a)) := by
          simp only [sub]
          rw [List.take_append_drop, List.take_append_drop]
        conv => rhs; rw [h1, List.flatMap_append, List.flatMap_append, List.length_append, List.length_append]
        omega
      have hsum : ((sub L f m).flatMap (lbt T0)).length + ((sub L m t).flatMap (lbt T0)).length ≤ 120 := by
        have := hfl f t htL
        rw [hsplitL, List.flatMap_append, List.length_append] at this
        omega
      obtain ⟨wl1, wl2, wl3⟩ := bal_ok (T := T0) 7 (sub L f m) (by rw [sub_len (by omega)]; omega) (by rw [sub_len (by omega)]; omega) okl (by omega)
      obtain ⟨wr1, wr2, wr3⟩ := bal_ok (T := T0) 7 (sub L m t) (by rw [sub_len (by omega)]; omega) (by rw [sub_len (by omega)]; omega) okr (by omega)
      have hr2' := rT_ext hx3.1 _ _ _ hr2
      obtain ⟨vl1, vl2, -, -⟩ := rT_ok hext3 _ 7 k F (by omega) wl1 hr2'
      obtain ⟨vr1, vr2, -, -⟩ := rT_ok hext3 _ 7 k3 F3 (by omega) wr1 hr3
      obtain ⟨ul1, ul2, -⟩ := wf_le (show 7 ≤ 12 by omega) vl1
      obtain ⟨ur1, ur2, -⟩ := wf_le (show 7 ≤ 12 by omega) vr1
      rw [r_balanced_17]
      have hlen1 : (R ++ [k]).length + 1 = R.length + 2 := by simp
      have hml : nI ((R ++ [k]).length + 1) + Int32.ofInt (-1) = nI (R.length + 1) := by rw [hlen1, nI_m1]
      have h10 : ¬ (nI 1 : Int32) = 0 := by decide
      simp only [r_balanced_0, r_balanced_1, r_balanced_2, r_balanced_3, r_balanced_4, r_balanced_7, r_balanced_8, r_balanced_9, r_balanced_10, r_balanced_13, r_balanced_14, r_balanced_18, r_balanced_21, r_balanced_24, r_balanced_25, r_balanced_26, r_balanced_29, r_balanced_30, r_balanced_31, r_balanced_34, r_balanced_35, r_balanced_38, r_balanced_39, r_balanced_42, r_balanced_43, r_balanced_44, r_balanced_45, r_balanced_48, r_balanced_49, r_balanced_52, r_balanced_53, r_balanced_54, r_balanced_55, r_balanced_56, r_balanced_57, r_balanced_58, r_balanced_61, r_balanced_62, r_balanced_65, r_balanced_66, r_balanced_67, r_balanced_70, r_balanced_71, r_balanced_72, r_balanced_73, r_balanced_76, r_balanced_79, r_balanced_80, r_balanced_83, r_balanced_84, r_balanced_87, r_balanced_88, r_balanced_91, r_balanced_94, r_balanced_95, r_balanced_98, r_balanced_99, r_balanced_100, r_balanced_101, r_balanced_102, r_balanced_103, r_balanced_106, r_balanced_107, r_balanced_108, r_balanced_109, r_balanced_110, r_balanced_111, r_balanced_114, r_balanced_115, r_balanced_116, r_balanced_119, r_balanced_120, r_balanced_123, r_balanced_124, r_balanced_125, r_balanced_126, r_balanced_127, r_balanced_128, r_balanced_129, r_balanced_130, r_balanced_132, r_balanced_133, r_balanced_134, r_balanced_135, r_balanced_136, r_balanced_139, r_balanced_140, r_balanced_142, r_balanced_143, r_balanced_144, r_balanced_147, r_balanced_148, r_balanced_149, r_balanced_151, r_balanced_152, r_balanced_155, r_balanced_158, r_balanced_159, r_balanced_162, r_balanced_163, r_balanced_164, f31, pk_us, pk_sub (show 1 ≤ sb.length + 1 by omega), Nat.add_sub_cancel, nI_clamp (show sb.length < 2 ^ 31 by omega), vp_in_i (show sb.length < 2 ^ 31 by omega), show sb.length < 512 by omega, true_and, f27, f28, f29, pk_sub (show f ≤ t by omega), nI_eq (show t - f < 2 ^ 31 by omega) (show 1 < 2 ^ 31 by omega), hml, pk_sub (show 1 ≤ R.length + 1 by omega), nI_clamp (show R.length < 2 ^ 31 by omega), vp_in_i (show R.length < 2 ^ 31 by omega), show R.length < 512 by omega, nI_clamp (show R.length + 1 < 2 ^ 31 by omega), vp_in_i (show R.length + 1 < 2 ^ 31 by omega), show R.length + 1 < 512 by omega, d0, d1, h10, hne, not_false_eq_true, forall_const, false_implies, and_true, not_true_eq_false]
      refine ⟨fun h => absurd h (by rw [nI_zle _ (by omega)]; omega), fun _ => ?_⟩
      refine ⟨_, k_newJoin hpop3.2.1 (by omega) ul1 ur1 (by rw [ul2, vl2]; exact wl3) (by rw [ur2, vr2]; exact wr3) (by rw [ul2, ur2, vl2, vr2, wl2, wr2]; exact hsum), ?_⟩
      rintro r s4 ⟨i, rfl, hi, hc4, hR4⟩
      have hTB : T3 B3 = none := hpop3.2.1.2.2.2.1 B3 (Nat.le_refl _)
      have hx4 : BX T3 ι3 (va_up T3 B3 (some (.inr (.inl (k, k3))))) (va_up ι3 B3 i) := BX_up hTB
      have hkn : T3 k ≠ none := hS3.2.2.2.2.2.2.2.2.2.1 k (by simp)
      have hk3n : T3 k3 ≠ none := hS3.2.2.2.2.2.2.2.2.2.1 k3 (by simp)
      have hRn : ∀ x ∈ R, T3 x ≠ none := fun x hx => hS3.2.2.2.2.2.2.2.2.2.1 x (by simp [hx])
      have hPn := hS3.2.2.2.2.2.2.2.2.2.2
      obtain ⟨q1, q2, q3, q4, q5, q6, q7, q8, q9, q10⟩ := hpop3
      have hfin := K (va_up T3 B3 (some (.inr (.inl (k, k3))))) (va_up ι3 B3 i) (s4.1, rf_up s4.2 30 R.length (nI i)) (B3 + 1) (sp3 - 1) B3 (B3 :: (F ++ F3)) (some (.inl (nI f))) (some (.inl (nI t))) n4 ?_ (BX_tr hx2 (BX_tr hx3 hx4)) (by omega) ?_ (by omega) ?_ ?_ ?_
      · exact hfin
      · refine ⟨fun c v h => hx4.1 c v (q1 c v h), RR_ch hR4 (CH_a2 (l := [30]) (CH_rf _ s4) (by decide)) (by decide), LbR_ext hx4.1 q3, ?_, ?_, ?_, ?_, ?_, ?_, ?_, ?_⟩
        · show s4.1 31 = _
          rw [(hc4 31 (by decide)).1]; exact q4
        · show AP (rf_up s4.2 30 R.length (nI i) 27) _
          rw [rf_up_n (by decide), (hc4 27 (by decide)).2]; exact q5
        · show AP (rf_up s4.2 30 R.length (nI i) 28) _
          rw [rf_up_n (by decide), (hc4 28 (by decide)).2]; exact q6
        · show AP (rf_up s4.2 30 R.length (nI i) 29) _
          rw [rf_up_n (by decide), (hc4 29 (by decide)).2]; exact q7
        · show AP (rf_up s4.2 30 R.length (nI i) 23) _
          rw [rf_up_n (by decide), (hc4 23 (by decide)).2]
          exact AP_ids q8 (fun x hx => hx4.2 x (hPn x hx))
        · show AP (rf_up s4.2 30 R.length (nI i) 30) _
          rw [rf_up_s, (hc4 30 (by decide)).2, List.map_append]
          have a1 : AP (μ3.2 30) (R.map (fun p => nI (ι3 p))) := by
            have := hdone
            rw [List.map_append, List.map_append] at this
            exact AP_pre (AP_pre this)
          have a2 := AP_push (AP_ids a1 (fun x hx => hx4.2 x (hRn x hx))) (nI i)
          rw [List.length_map] at a2
          simpa [va_up_self] using a2
        · intro x hx
          rcases List.mem_append.mp hx with h | h
          · exact ext_nn hx4.1 (hRn x h)
          · cases List.mem_singleton.mp h
            rw [va_up_self]; exact fun z => by cases z
        · exact fun x hx => ext_nn hx4.1 (hPn x hx)
      · have c1 : CH balF μ1 μ2 := CH_tr (CH_i2 (CH_a2 (CH_a2 (CH_a2 (CH_i2 (CH_a2 (CH_a2 (CH_a2 (CH_i2 (CH_a2 (CH_a2 (CH_a2 (CH_i2 (CH_rf balF μ1) (by decide)) (by decide)) (by decide)) (by decide)) (by decide)) (by decide)) (by decide)) (by decide)) (by decide)) (by decide)) (by decide)) (by decide)) (by decide)) hc2 (by decide) (by decide)
        have c2 : CH balF μ3 (s4.1, rf_up s4.2 30 R.length (nI i)) := CH_a2 (CH_tr (CH_i2 (l := balF) (CH_rf balF μ3) (by decide)) hc4 (by decide) (by decide)) (by decide)
        exact CH_tr (CH_tr c1 hc3 (fun _ h => h) (fun _ h => h)) c2 (fun _ h => h) (fun _ h => h)
      · rw [bal_sub hs2 htL hl120, hm]
        exact ⟨k, k3, F, F3, va_up_self _ _ _, rT_ext hx4.1 _ _ _ hr2', rT_ext hx4.1 _ _ _ hr3, rfl⟩
      · refine List.nodup_cons.mpr ⟨?_, List.nodup_append.mpr ⟨hF2, hF3, ?_⟩⟩
        · intro hz
          rcases List.mem_append.mp hz with h | h
          · rcases hin2 _ h with h | h
            · have := hlt _ (List.mem_append_left _ h); omega
            · omega
          · rcases hin3 _ h with h | h
            · have := hlt _ (List.mem_append_right _ h); omega
            · omega
        · intro x hx y hy hxy
          subst hxy
          rcases hin2 x hx with h | h <;> rcases hin3 x hy with g | g
          · exact nd3 x h x g rfl
          · have := hlt _ (List.mem_append_left _ h); omega
          · have := hlt _ (List.mem_append_right _ g); omega
          · omega
      · intro x hx
        rcases List.mem_cons.mp hx with h | h
        · exact Or.inr (by omega)
        · rcases List.mem_append.mp h with h | h
          · rcases hin2 x h with g | g
            · exact Or.inl (List.mem_append_left _ g)
            · exact Or.inr (by omega)
          · rcases hin3 x h with g | g
            · exact Or.inl (List.mem_append_right _ g)
            · exact Or.inr (by omega)
    · -- one piece
      have h1' : t - f = 1 := Classical.not_not.mp h1
      have ht1 : t = f + 1 := by omega
      subst ht1
      have hfP : f < P.length := by omega
      have hfL : f < L.length := by omega
      obtain ⟨x, hx⟩ : ∃ x, P[f]? = some x := ⟨_, List.getElem?_eq_getElem hfP⟩
      obtain ⟨y, hy⟩ : ∃ y, L[f]? = some y := ⟨_, List.getElem?_eq_getElem hfL⟩
      have e23 : μ1.2 23 f = nI (ι1 x) := hS.2.2.2.2.2.2.2.1 f _ (by rw [List.getElem?_map, hx]; rfl)
      simp only [e23]
      have hry := hS.2.2.1.2 f y x hy hx
      obtain ⟨q1, q2, q3, q4, q5, q6, q7, q8, q9, q10, q11⟩ := hpop
      have hxP : T1 x ≠ none := q11 x (List.mem_of_getElem? hx)
      have hsub : nwP (sub L f (f + 1)) (sub P f (f + 1)) = nwL y x := by rw [sub_one hy, sub_one hx]; simp [nwP]
      have hfin := K T1 ι1 (upd μ1.1 31 (nI sb.length), rf_up μ1.2 30 R.length (nI (ι1 x))) B1 sp1 x (nwL y x) (some (.inl (nI f))) (some (.inl (nI (f + 1)))) l4 ?_ (BX_rf _ _) (Nat.le_refl _) ?_ (by omega) ?_ ?_ ?_
      · rw [nI_add]; exact hfin
      · refine ⟨q1, RR_ch q2 (CH_a2 (l := [30]) (CH_rf _ (upd μ1.1 31 (nI sb.length), μ1.2)) (by decide)) (by decide), q3, q4, ?_, ?_, ?_, ?_, ?_, ?_, q11⟩
        · show AP (rf_up μ1.2 30 R.length (nI (ι1 x)) 27) _
          rw [rf_up_n (by decide)]; exact q5
        · show AP (rf_up μ1.2 30 R.length (nI (ι1 x)) 28) _
          rw [rf_up_n (by decide)]; exact q6
        · show AP (rf_up μ1.2 30 R.length (nI (ι1 x)) 29) _
          rw [rf_up_n (by decide)]; exact q7
        · show AP (rf_up μ1.2 30 R.length (nI (ι1 x)) 23) _
          rw [rf_up_n (by decide)]; exact q8
        · show AP (rf_up μ1.2 30 R.length (nI (ι1 x)) 30) _
          rw [rf_up_s, List.map_append]
          have a2 := AP_push q9 (nI (ι1 x))
          rwa [List.length_map] at a2
        · intro z hz
          rcases List.mem_append.mp hz with h | h
          · exact q10 z h
          · cases List.mem_singleton.mp h; exact hxP
      · exact CH_a2 (CH_i2 (CH_rf balF μ1) (by decide)) (by decide)
      · rw [bal_one hy]
        exact ⟨hry, rfl⟩
      · rw [hsub] at hnd; exact hnd
      · intro z hz; exact Or.inl (by rw [hsub]; exact hz)
