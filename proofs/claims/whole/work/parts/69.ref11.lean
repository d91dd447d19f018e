/-! ===== the reference: a cut, worked off ===== -/
def cutF : List Nat := [0, 1, 2, 3, 5, 6, 7, 8, 21, 23, 24, 25, 26, 27, 28, 29, 30, 31, 32, 33, 34, 35, 36]
def cutS (T0 T : sT) (ι : Nat → Nat) (μ : rf_M) (B sp e sm dp lo : Nat) (sb : List (Int32 × Int32 × Int32)) (R : List Nat) : Prop :=
  (∀ c v, T0 c = some v → T c = some v) ∧ RR T ι μ B sp e ∧ (μ.1 18 = nI sm ∧ μ.1 19 = nI dp ∧ μ.1 20 = nI lo) ∧ μ.1 35 = nI sb.length ∧ AP (μ.2 32) (sb.map (fun q => q.1)) ∧ AP (μ.2 33) (sb.map (fun q => q.2.1)) ∧ AP (μ.2 34) (sb.map (fun q => q.2.2)) ∧ AP (μ.2 36) (R.map (fun p => nI (ι p))) ∧ (∀ x ∈ R, T x ≠ none)
theorem cutS_top {T0 T : sT} {ι : Nat → Nat} {μ : rf_M} {B sp e sm dp lo : Nat} {sb : List (Int32 × Int32 × Int32)} {q : Int32 × Int32 × Int32} {R : List Nat} (h : cutS T0 T ι μ B sp e sm dp lo (sb ++ [q]) R) : μ.1 35 = nI (sb.length + 1) ∧ μ.2 32 sb.length = q.1 ∧ μ.2 33 sb.length = q.2.1 ∧ μ.2 34 sb.length = q.2.2 := by
  obtain ⟨-, -, -, h1, h2, h3, h4, -⟩ := h
  refine ⟨by rw [h1]; simp, ?_, ?_, ?_⟩
  · rw [List.map_append] at h2
    have := AP_last (l := sb.map (fun q => q.1)) h2
    rwa [List.length_map] at this
  · rw [List.map_append] at h3
    have := AP_last (l := sb.map (fun q => q.2.1)) h3
    rwa [List.length_map] at this
  · rw [List.map_append] at h4
    have := AP_last (l := sb.map (fun q => q.2.2)) h4
    rwa [List.length_map] at this
theorem cutS_pop {T0 T : sT} {ι : Nat → Nat} {μ : rf_M} {B sp e sm dp lo : Nat} {sb : List (Int32 × Int32 × Int32)} {q : Int32 × Int32 × Int32} {R : List Nat} (h : cutS T0 T ι μ B sp e sm dp lo (sb ++ [q]) R) : cutS T0 T ι (upd μ.1 35 (nI sb.length), μ.2) B sp e sm dp lo sb R := by
  obtain ⟨g1, g2, g3, h1, h2, h3, h4, g4⟩ := h
  rw [List.map_append] at h2 h3 h4
  refine ⟨g1, RR_ch g2 (CH_i2 (l := [35]) (CH_rf _ μ) (by decide)) (by decide), ?_, pk_usM, AP_pre h2, AP_pre h3, AP_pre h4, g4⟩
  have hc : CH [35] μ (upd μ.1 35 (nI sb.length), μ.2) := CH_i2 (CH_rf _ μ) (by decide)
  exact ⟨(hc 18 (by decide)).1.trans g3.1, (hc 19 (by decide)).1.trans g3.2.1, (hc 20 (by decide)).1.trans g3.2.2⟩
theorem cutS_push {T0 T : sT} {ι : Nat → Nat} {μ : rf_M} {B sp e sm dp lo : Nat} {sb : List (Int32 × Int32 × Int32)} {x y z : Int32} {R : List Nat} (hS : cutS T0 T ι μ B sp e sm dp lo sb R) : cutS T0 T ι (upd μ.1 35 (nI (sb.length + 1)), rf_up (rf_up (rf_up μ.2 32 sb.length x) 33 sb.length y) 34 sb.length z) B sp e sm dp lo (sb ++ [(x, y, z)]) R := by
  obtain ⟨g1, g2, g3, h1, h2, h3, h4, g4, g5⟩ := hS
  have hc : CH [32, 33, 34, 35] μ (upd μ.1 35 (nI (sb.length + 1)), rf_up (rf_up (rf_up μ.2 32 sb.length x) 33 sb.length y) 34 sb.length z) := CH_i2 (CH_a2 (CH_a2 (CH_a2 (CH_rf _ μ) (by decide)) (by decide)) (by decide)) (by decide)
  refine ⟨g1, RR_ch g2 hc (by decide), ⟨by rw [(hc 18 (by decide)).1]; exact g3.1, by rw [(hc 19 (by decide)).1]; exact g3.2.1, by rw [(hc 20 (by decide)).1]; exact g3.2.2⟩, ?_, ?_, ?_, ?_, ?_, g5⟩
  · rw [pk_usM]; simp
  · show AP (rf_up (rf_up (rf_up μ.2 32 sb.length x) 33 sb.length y) 34 sb.length z 32) _
    rw [rf_up_n (by decide), rf_up_n (by decide), rf_up_s, List.map_append]
    have := AP_push h2 x
    rwa [List.length_map] at this
  · show AP (rf_up (rf_up (rf_up μ.2 32 sb.length x) 33 sb.length y) 34 sb.length z 33) _
    rw [rf_up_n (by decide), rf_up_s, rf_up_n (by decide), List.map_append]
    have := AP_push h3 y
    rwa [List.length_map] at this
  · show AP (rf_up (rf_up (rf_up μ.2 32 sb.length x) 33 sb.length y) 34 sb.length z 34) _
    rw [rf_up_s, rf_up_n (by decide), rf_up_n (by decide), List.map_append]
    have := AP_push h4 z
    rwa [List.length_map] at this
  · rw [(hc 36 (by decide)).2]; exact g4
theorem CH_push {l : List Nat} {μ : rf_M} {a : Nat → Int32} {g : Nat → Nat → Int32} {k i : Nat} {x y z : Int32} (h : CH l μ (a, g)) (h1 : 32 ∈ l) (h2 : 33 ∈ l) (h3 : 34 ∈ l) (h4 : 35 ∈ l) : CH l μ (upd a 35 (nI i), rf_up (rf_up (rf_up g 32 k x) 33 k y) 34 k z) := CH_i2 (CH_a2 (CH_a2 (CH_a2 h h1) h2) h3) h4
set_option maxHeartbeats 4000000 in
theorem cut_run {T0 : sT} {sm dp lo : Nat} (hsm : sm ≤ 32) (hdp : dp ≤ 12) (hlo : 1 ≤ lo ∧ lo ≤ 8) {ret : Option mV → rf_M → Prop} {l1 l2 l3 : Option mV} : ∀ (n c f m : Nat), n ≤ 12 → wf T0 n c → f + m ≤ (tx T0 n c).length → ∀ (T1 : sT) (ι1 : Nat → Nat) (μ1 : rf_M) (B1 sp1 e1 : Nat) (sb : List (Int32 × Int32 × Int32)) (R : List Nat),
    cutS T0 T1 ι1 μ1 B1 sp1 e1 sm dp lo (sb ++ [(nI (ι1 c), nI f, nI m)]) R → sb.length + 2 * n ≤ 400 → R.length + n ≤ 400 → 122 * (jn T0 n c f m) + (jn T0 n c f m + 1) ≤ sp1 → e1 + 34 * (jn T0 n c f m) + 122 * (jn T0 n c f m + 1) ≤ 81920 →
    (∀ (T2 : sT) (ι2 : Nat → Nat) (μ2 : rf_M) (B2 sp2 e2 k : Nat) (F : List Nat), cutS T0 T2 ι2 μ2 B2 sp2 e2 sm dp lo sb (R ++ [k]) → rPart T1 ι1 B1 (cutT T0 sm dp lo n c f m) T2 ι2 B2 k F → CH cutF μ1 μ2 → sp1 ≤ sp2 + (122 * (jn T0 n c f m) + (jn T0 n c f m + 1)) → e2 ≤ e1 + 34 * (jn T0 n c f m) + 122 * (jn T0 n c f m + 1) →
      W_cutOut ret (15, [some (.inr (some 39)), l1, l2, l3, some (.inl (nI (R.length + 1)))], [], μ2, 0, 0)) →
    W_cutOut ret (15, [some (.inr (some 39)), l1, l2, l3, some (.inl (nI R.length))], [], μ1, 0, 0) := by
  -- what a part that is done at once does
  have base : ∀ (n c f m : Nat), n ≤ 12 → wf T0 n c → f + m ≤ (tx T0 n c).length → (m = 0 ∨ m = (tx T0 n c).length ∨ ¬ isJ T0 c) → jn T0 n c f m = 0 → ∀ (T1 : sT) (ι1 : Nat → Nat) (μ1 : rf_M) (B1 sp1 e1 : Nat) (sb : List (Int32 × Int32 × Int32)) (R : List Nat),
    cutS T0 T1 ι1 μ1 B1 sp1 e1 sm dp lo (sb ++ [(nI (ι1 c), nI f, nI m)]) R → sb.length ≤ 400 → R.length ≤ 400 → 1 ≤ sp1 → e1 + 122 ≤ 81920 →
    (∀ (T2 : sT) (ι2 : Nat → Nat) (μ2 : rf_M) (B2 sp2 e2 k : Nat) (F : List Nat), cutS T0 T2 ι2 μ2 B2 sp2 e2 sm dp lo sb (R ++ [k]) → rPart T1 ι1 B1 (cutT T0 sm dp lo n c f m) T2 ι2 B2 k F → CH cutF μ1 μ2 → sp1 ≤ sp2 + 1 → e2 ≤ e1 + 122 →
      W_cutOut ret (15, [some (.inr (some 39)), l1, l2, l3, some (.inl (nI (R.length + 1)))], [], μ2, 0, 0)) →
    W_cutOut ret (15, [some (.inr (some 39)), l1, l2, l3, some (.inl (nI R.length))], [], μ1, 0, 0) := by
    intro n c f m hn hw hfm hd hj T1 ι1 μ1 B1 sp1 e1 sb R hS hb1 hb2 hsp he K
    obtain ⟨e35, e32, e33, e34⟩ := cutS_top hS
    dsimp only at e32 e33 e34
    have hpop := cutS_pop hS
    have hl120 := (wf_okt n c hw).1
    obtain ⟨q1, q2, ⟨q18, q19, q20⟩, q4, q5, q6, q7, q8, q9⟩ := hpop
    rw [r_cutOut_15]
    simp only [r_cutOut_0, r_cutOut_1, r_cutOut_3, r_cutOut_4, r_cutOut_5, r_cutOut_8, r_cutOut_9, r_cutOut_10, r_cutOut_11, r_cutOut_12, r_cutOut_16, r_cutOut_19, r_cutOut_22, r_cutOut_23, r_cutOut_24, r_cutOut_27, r_cutOut_28, r_cutOut_29, r_cutOut_32, r_cutOut_33, r_cutOut_36, r_cutOut_37, r_cutOut_40, r_cutOut_41, r_cutOut_44, r_cutOut_47, r_cutOut_48, r_cutOut_51, r_cutOut_53, r_cutOut_54, r_cutOut_55, r_cutOut_56, r_cutOut_57, r_cutOut_60, r_cutOut_62, r_cutOut_63, r_cutOut_64, r_cutOut_65, r_cutOut_66, r_cutOut_69, r_cutOut_71, r_cutOut_72, r_cutOut_75, r_cutOut_76, r_cutOut_79, r_cutOut_80, r_cutOut_81, r_cutOut_84, r_cutOut_85, r_cutOut_88, r_cutOut_89, r_cutOut_90, r_cutOut_93, r_cutOut_94, r_cutOut_97, r_cutOut_98, r_cutOut_99, r_cutOut_102, r_cutOut_103, r_cutOut_106, r_cutOut_107, r_cutOut_109, r_cutOut_112, r_cutOut_114, r_cutOut_117, r_cutOut_118, r_cutOut_121, r_cutOut_122, r_cutOut_123, e35, pk_us, pk_sub (show 1 ≤ sb.length + 1 by omega), Nat.add_sub_cancel, nI_clamp (show sb.length < 2 ^ 31 by omega), vp_in_i (show sb.length < 2 ^ 31 by omega), show sb.length < 512 by omega, true_and, e32, e33, e34, nI_gez m (by omega)]
    refine ⟨fun h => absurd h (by rw [nI_zle _ (by omega)]; omega), fun _ => ⟨fun _ => ?_, fun h => absurd trivial h⟩⟩
    refine ⟨_, k_cutOneD (sm := sm) (dp := dp) (R := R.length) q1 q2 q20 hlo hn hw hfm (by omega) hd hsp he, ?_⟩
    rintro r s1 ⟨rfl, T2, ι2, B2, sp2, e2, k, F, hp, hR2, hs2, he2, hc2, h36⟩
    have hx := hp.1
    refine K T2 ι2 s1 B2 sp2 e2 k F ⟨fun c v h => hx.1 c v (q1 c v h), hR2, ⟨by rw [(hc2 18 (by decide)).1]; exact q18, by rw [(hc2 19 (by decide)).1]; exact q19, by rw [(hc2 20 (by decide)).1]; exact q20⟩, by rw [(hc2 35 (by decide)).1]; exact q4, by rw [(hc2 32 (by decide)).2]; exact q5, by rw [(hc2 33 (by decide)).2]; exact q6, by rw [(hc2 34 (by decide)).2]; exact q7, ?_, ?_⟩ hp (CH_tr (CH_i2 (l := cutF) (CH_rf _ μ1) (by decide)) hc2 (fun _ h => h) (by decide)) hs2 he2
    · rw [h36, List.map_append]
      have a1 := AP_push (AP_ids q8 (fun x hx' => hx.2 x (q9 x hx'))) (nI (ι2 k))
      rwa [List.length_map] at a1
    · intro x hx'
      rcases List.mem_append.mp hx' with h | h
      · exact ext_nn hx.1 (q9 x h)
      · cases List.mem_singleton.mp h; exact hp.2.2.2.2.2
  intro n
  induction n with
  | zero =>
    intro c f m hn hw hfm T1 ι1 μ1 B1 sp1 e1 sb R hS hb1 hb2 hsp he K
    refine base 0 c f m hn hw hfm ?_ rfl T1 ι1 μ1 B1 sp1 e1 sb R hS (by omega) (by omega) (by omega) (by simp only [jn] at he; omega) (fun T2 ι2 μ2 B2 sp2 e2 k F h1 h2 h3 h4 h5 => K T2 ι2 μ2 B2 sp2 e2 k F h1 h2 h3 (by simp only [jn]; omega) (by simp only [jn]; omega))
    refine Or.inr (Or.inr ?_)
    rintro ⟨q, hq⟩
    exact absurd hw (wf_join0 hq)
  | succ n ih =>
    intro c f m hn hw hfm T1 ι1 μ1 B1 sp1 e1 sb R hS hb1 hb2 hsp he K
    by_cases hd : m = 0 ∨ m = (tx T0 (n + 1) c).length ∨ ¬ isJ T0 c
    · have hj : jn T0 (n + 1) c f m = 0 := by
        rcases hd with hd | hd | hd
        · simp only [jn]; rw [if_pos hd]
        · rw [hd]; exact jn_all _ _ _
        · simp only [jn]
          split
          · rfl
          · split
            · rfl
            · split
              · rename_i q hq; exact absurd ⟨q, hq⟩ hd
              · rfl
      rw [hj] at hsp he K
      exact base (n + 1) c f m hn hw hfm hd hj T1 ι1 μ1 B1 sp1 e1 sb R hS (by omega) (by omega) (by omega) (by omega) (fun T2 ι2 μ2 B2 sp2 e2 k F h1 h2 h3 h4 h5 => K T2 ι2 μ2 B2 sp2 e2 k F h1 h2 h3 (by omega) (by omega))
    · have h0 : ¬ m = 0 := fun z => hd (Or.inl z)
      have h1 : ¬ m = (tx T0 (n + 1) c).length := fun z => hd (Or.inr (Or.inl z))
      obtain ⟨q, hc⟩ : isJ T0 c := Classical.byContradiction (fun z => hd (Or.inr (Or.inr z)))
      obtain ⟨w1, w2, w3, w4, w5⟩ := (wf_join hc).mp hw
      obtain ⟨e35, e32, e33, e34⟩ := cutS_top hS
      dsimp only at e32 e33 e34
      have hpop := cutS_pop hS
      have hl120 := (wf_okt _ c hw).1
      have hlen : (tx T0 (n + 1) c).length = (tx T0 n q.1).length + (tx T0 n q.2).length := by rw [tx_join hc, List.length_append]
      have hcj := cutT_join (sm := sm) (dp := dp) (lo := lo) (f := f) hc h0 h1
      have hjj := jn_join (f := f) hc h0 h1
      rw [r_cutOut_15]
      simp only [r_cutOut_0, r_cutOut_1, r_cutOut_3, r_cutOut_4, r_cutOut_5, r_cutOut_8, r_cutOut_9, r_cutOut_10, r_cutOut_11, r_cutOut_12, r_cutOut_16, r_cutOut_19, r_cutOut_22, r_cutOut_23, r_cutOut_24, r_cutOut_27, r_cutOut_28, r_cutOut_29, r_cutOut_32, r_cutOut_33, r_cutOut_36, r_cutOut_37, r_cutOut_40, r_cutOut_41, r_cutOut_44, r_cutOut_47, r_cutOut_48, r_cutOut_51, r_cutOut_53, r_cutOut_54, r_cutOut_55, r_cutOut_56, r_cutOut_57, r_cutOut_60, r_cutOut_62, r_cutOut_63, r_cutOut_64, r_cutOut_65, r_cutOut_66, r_cutOut_69, r_cutOut_71, r_cutOut_72, r_cutOut_75, r_cutOut_76, r_cutOut_79, r_cutOut_80, r_cutOut_81, r_cutOut_84, r_cutOut_85, r_cutOut_88, r_cutOut_89, r_cutOut_90, r_cutOut_93, r_cutOut_94, r_cutOut_97, r_cutOut_98, r_cutOut_99, r_cutOut_102, r_cutOut_103, r_cutOut_106, r_cutOut_107, r_cutOut_109, r_cutOut_112, r_cutOut_114, r_cutOut_117, r_cutOut_118, r_cutOut_121, r_cutOut_122, r_cutOut_123, e35, pk_us, pk_sub (show 1 ≤ sb.length + 1 by omega), Nat.add_sub_cancel, nI_clamp (show sb.length < 2 ^ 31 by omega), vp_in_i (show sb.length < 2 ^ 31 by omega), show sb.length < 512 by omega, true_and, e32, e33, e34, nI_gez m (by omega)]
      refine ⟨fun h => absurd h (by rw [nI_zle _ (by omega)]; omega), fun _ => ⟨fun _ => ?_, fun h => absurd trivial h⟩⟩
      refine ⟨_, k_cutOneJ (R := R.length) (cu := sb.length) hpop.1 hpop.2.1 hn hw hfm h0 h1 hc hpop.2.2.2.1 (by omega), ?_⟩
      rintro r s1 ⟨rfl, k1, k2, k3⟩
      have cpop : CH cutF μ1 (upd μ1.1 35 (nI sb.length), μ1.2) := CH_i2 (CH_rf _ μ1) (by decide)
      by_cases hA : f + m ≤ (tx T0 n q.1).length
      · rw [if_pos hA] at hcj hjj
        rw [hcj, hjj] at K
        rw [hjj] at hsp he
        rw [k1 hA]
        refine ih q.1 f m (by omega) w1 hA T1 ι1 _ B1 sp1 e1 sb R (cutS_push hpop) (by omega) (by omega) hsp he (fun T2 ι2 μ2 B2 sp2 e2 k F g1 g2 g3 g4 g5 => K T2 ι2 μ2 B2 sp2 e2 k F g1 g2 ?_ g4 g5)
        exact CH_tr (CH_push cpop (by decide) (by decide) (by decide) (by decide)) g3 (fun _ h => h) (fun _ h => h)
      · rw [if_neg hA] at hcj hjj
        by_cases hB : (tx T0 n q.1).length ≤ f
        · rw [if_pos hB] at hcj hjj
          rw [hcj, hjj] at K
          rw [hjj] at hsp he
          rw [k2 hA hB]
          refine ih q.2 (f - (tx T0 n q.1).length) m (by omega) w2 (by omega) T1 ι1 _ B1 sp1 e1 sb R (cutS_push hpop) (by omega) (by omega) hsp he (fun T2 ι2 μ2 B2 sp2 e2 k F g1 g2 g3 g4 g5 => K T2 ι2 μ2 B2 sp2 e2 k F g1 g2 ?_ g4 g5)
          exact CH_tr (CH_push cpop (by decide) (by decide) (by decide) (by decide)) g3 (fun _ h => h) (fun _ h => h)
        · rw [if_neg hB] at hcj hjj
          rw [hcj, hjj] at K
          rw [hjj] at hsp he
          obtain ⟨μa, μb, ea, eb, es⟩ := k3 hA hB
          have p1 : cutS T0 T1 ι1 μa B1 sp1 e1 sm dp lo (sb ++ [(Int32.ofInt (-6), nI 0, Int32.ofInt (-6))]) R := by rw [ea]; exact cutS_push hpop
          have p2 : cutS T0 T1 ι1 μb B1 sp1 e1 sm dp lo ((sb ++ [(Int32.ofInt (-6), nI 0, Int32.ofInt (-6))]) ++ [(nI (ι1 q.2), nI 0, nI (f + m - (tx T0 n q.1).length))]) R := by
            rw [eb]
            have := cutS_push (x := nI (ι1 q.2)) (y := nI 0) (z := nI (f + m - (tx T0 n q.1).length)) p1
            rw [List.length_append, List.length_singleton] at this
            exact this
          have p3 : cutS T0 T1 ι1 s1 B1 sp1 e1 sm dp lo (((sb ++ [(Int32.ofInt (-6), nI 0, Int32.ofInt (-6))]) ++ [(nI (ι1 q.2), nI 0, nI (f + m - (tx T0 n q.1).length))]) ++ [(nI (ι1 q.1), nI f, nI ((tx T0 n q.1).length - f))]) R := by
            rw [es]
            have := cutS_push (x := nI (ι1 q.1)) (y := nI f) (z := nI ((tx T0 n q.1).length - f)) p2
            rw [List.length_append, List.length_append, List.length_singleton, List.length_singleton] at this
            exact this
          have ca : CH cutF μ1 μa := by rw [ea]; exact CH_push cpop (by decide) (by decide) (by decide) (by decide)
          have cb : CH cutF μ1 μb := by rw [eb]; exact CH_push ca (by decide) (by decide) (by decide) (by decide)
          have cc' : CH cutF μ1 s1 := by rw [es]; exact CH_push cb (by decide) (by decide) (by decide) (by decide)
          generalize hja : jn T0 n q.1 f ((tx T0 n q.1).length - f) = ja at hsp he K
          generalize hjb : jn T0 n q.2 0 (f + m - (tx T0 n q.1).length) = jb at hsp he K
          refine ih q.1 f ((tx T0 n q.1).length - f) (by omega) w1 (by omega) T1 ι1 s1 B1 sp1 e1 _ R p3 (by simp only [List.length_append, List.length_singleton]; omega) (by omega) (by rw [hja]; omega) (by rw [hja]; omega) ?_
          intro T2 ι2 μ2 B2 sp2 e2 ka Fa gS gp gc gsp ge
          rw [hja] at gsp ge
          obtain ⟨gx, gB, gr, gnd, gin, gkn⟩ := gp
          have hq2 : ι2 q.2 = ι1 q.2 := gx.2 q.2 (ext_nn hpop.1 (wf_nn w2))
          rw [← hq2] at gS
          have e1' : R.length + 1 = (R ++ [ka]).length := by simp
          rw [e1']
          refine ih q.2 0 (f + m - (tx T0 n q.1).length) (by omega) w2 (by omega) T2 ι2 μ2 B2 sp2 e2 _ (R ++ [ka]) gS (by simp only [List.length_append, List.length_singleton]; omega) (by simp only [List.length_append, List.length_singleton]; omega) (by rw [hjb]; omega) (by rw [hjb]; omega) ?_
          intro T3 ι3 μ3 B3 sp3 e3 kb Fb iS ip ic isp ie
          rw [hjb] at isp ie
          obtain ⟨ix, iB, ir, ind, iin, ikn⟩ := ip
          -- both parts are there: joined
          obtain ⟨f35, f32, f33, f34⟩ := cutS_top iS
          dsimp only at f32 f33 f34
          have ipop := cutS_pop iS
          have hparts := iS.2.2.2.2.2.2.2.1
          have d0 : μ3.2 36 R.length = nI (ι3 ka) := hparts R.length _ (by simp)
          have d1 : μ3.2 36 (R.length + 1) = nI (ι3 kb) := hparts (R.length + 1) _ (by simp)
          have hneg : ¬ (0 : Int32) ≤ Int32.ofInt (-6) := by decide
          have hml : nI ((R ++ [ka]).length + 1) + Int32.ofInt (-1) = nI (R.length + 1) := by rw [show (R ++ [ka]).length + 1 = R.length + 2 by simp, nI_m1]
          obtain ⟨q1, q2, ⟨q18, q19, q20⟩, q4, q5, q6, q7, q8, q9⟩ := ipop
          rw [r_cutOut_15]
          simp only [r_cutOut_0, r_cutOut_1, r_cutOut_3, r_cutOut_4, r_cutOut_5, r_cutOut_8, r_cutOut_9, r_cutOut_10, r_cutOut_11, r_cutOut_12, r_cutOut_16, r_cutOut_19, r_cutOut_22, r_cutOut_23, r_cutOut_24, r_cutOut_27, r_cutOut_28, r_cutOut_29, r_cutOut_32, r_cutOut_33, r_cutOut_36, r_cutOut_37, r_cutOut_40, r_cutOut_41, r_cutOut_44, r_cutOut_47, r_cutOut_48, r_cutOut_51, r_cutOut_53, r_cutOut_54, r_cutOut_55, r_cutOut_56, r_cutOut_57, r_cutOut_60, r_cutOut_62, r_cutOut_63, r_cutOut_64, r_cutOut_65, r_cutOut_66, r_cutOut_69, r_cutOut_71, r_cutOut_72, r_cutOut_75, r_cutOut_76, r_cutOut_79, r_cutOut_80, r_cutOut_81, r_cutOut_84, r_cutOut_85, r_cutOut_88, r_cutOut_89, r_cutOut_90, r_cutOut_93, r_cutOut_94, r_cutOut_97, r_cutOut_98, r_cutOut_99, r_cutOut_102, r_cutOut_103, r_cutOut_106, r_cutOut_107, r_cutOut_109, r_cutOut_112, r_cutOut_114, r_cutOut_117, r_cutOut_118, r_cutOut_121, r_cutOut_122, r_cutOut_123, f35, pk_us, pk_sub (show 1 ≤ sb.length + 1 by omega), Nat.add_sub_cancel, nI_clamp (show sb.length < 2 ^ 31 by omega), vp_in_i (show sb.length < 2 ^ 31 by omega), show sb.length < 512 by omega, true_and, f32, f33, f34, hneg, hml, pk_sub (show 1 ≤ R.length + 1 by omega), nI_clamp (show R.length < 2 ^ 31 by omega), vp_in_i (show R.length < 2 ^ 31 by omega), show R.length < 512 by omega, nI_clamp (show R.length + 1 < 2 ^ 31 by omega), vp_in_i (show R.length + 1 < 2 ^ 31 by omega), show R.length + 1 < 512 by omega, d0, d1, not_false_eq_true, forall_const, false_implies, true_and]
          refine ⟨fun h => absurd h (by rw [nI_zle _ (by omega)]; omega), fun _ => ?_⟩
          obtain ⟨ta1, ta2⟩ := cutT_ok (sm := sm) hdp hlo n q.1 f ((tx T0 n q.1).length - f) (by omega) w1 (by omega)
          obtain ⟨tb1, tb2⟩ := cutT_ok (sm := sm) hdp hlo n q.2 0 (f + m - (tx T0 n q.1).length) (by omega) w2 (by omega)
          have gr' := rT_ext ix.1 _ _ _ gr
          have hnd : (Fa ++ Fb).Nodup := by
            refine List.nodup_append.mpr ⟨gnd, ind, fun x hx y hy hxy => ?_⟩
            subst hxy
            have := gin x hx
            have := iin x hy
            omega
          have hltF : ∀ x ∈ Fa ++ Fb, x < B3 := fun x hx => by
            rcases List.mem_append.mp hx with h | h
            · have := gin x h; omega
            · exact (iin x h).2
          refine ⟨_, k_joined q1 q2 q18 hsm q19 hdp ta1 tb1 gr' ir hnd hltF (by rw [ta2, tb2, List.length_take, List.length_take, List.length_drop, List.length_drop]; omega) (by omega) (by omega), ?_⟩
          rintro r s4 ⟨T4, ι4, B4, sp4, e4, k4, F4, rfl, jx, jR, jB, jsp, je, jc, jr, jnd, jin⟩
          have hkn4 : T4 k4 ≠ none := by
            obtain ⟨t1, -⟩ := joinT_ok (sm := sm) (dp := dp) ta1 tb1 hdp (by rw [ta2, tb2, List.length_take, List.length_take, List.length_drop, List.length_drop]; omega)
            exact wf_nn (rT_ok (fun c v h => jx.1 c v (q1 c v h)) _ 12 k4 F4 (Nat.le_refl _) t1 jr).1
          have hRn : ∀ x ∈ R, T3 x ≠ none := fun x hx => q9 x (by simp [hx])
          refine K T4 ι4 (s4.1, rf_up s4.2 36 R.length (nI (ι4 k4))) B4 sp4 e4 k4 F4 ⟨fun c v h => jx.1 c v (q1 c v h), RR_ch jR (CH_a2 (l := [36]) (CH_rf _ s4) (by decide)) (by decide), ⟨by rw [show ((s4.1, rf_up s4.2 36 R.length (nI (ι4 k4))) : rf_M).1 18 = s4.1 18 from rfl, (jc 18 (by decide)).1]; exact q18, by rw [show ((s4.1, rf_up s4.2 36 R.length (nI (ι4 k4))) : rf_M).1 19 = s4.1 19 from rfl, (jc 19 (by decide)).1]; exact q19, by rw [show ((s4.1, rf_up s4.2 36 R.length (nI (ι4 k4))) : rf_M).1 20 = s4.1 20 from rfl, (jc 20 (by decide)).1]; exact q20⟩, ?_, ?_, ?_, ?_, ?_, ?_⟩ ⟨BX_tr gx (BX_tr ix jx), by omega, jr, jnd, ?_, hkn4⟩ ?_ (by omega) (by omega)
          · show s4.1 35 = _
            rw [(jc 35 (by decide)).1]; exact q4
          · show AP (rf_up s4.2 36 R.length (nI (ι4 k4)) 32) _
            rw [rf_up_n (by decide), (jc 32 (by decide)).2]; exact q5
          · show AP (rf_up s4.2 36 R.length (nI (ι4 k4)) 33) _
            rw [rf_up_n (by decide), (jc 33 (by decide)).2]; exact q6
          · show AP (rf_up s4.2 36 R.length (nI (ι4 k4)) 34) _
            rw [rf_up_n (by decide), (jc 34 (by decide)).2]; exact q7
          · show AP (rf_up s4.2 36 R.length (nI (ι4 k4)) 36) _
            rw [rf_up_s, (jc 36 (by decide)).2, List.map_append]
            have a1 : AP (μ3.2 36) (R.map (fun p => nI (ι3 p))) := by
              have := hparts
              rw [List.map_append, List.map_append] at this
              exact AP_pre (AP_pre this)
            have a2 := AP_push (AP_ids a1 (fun x hx => jx.2 x (hRn x hx))) (nI (ι4 k4))
            rwa [List.length_map] at a2
          · intro x hx
            rcases List.mem_append.mp hx with h | h
            · exact ext_nn jx.1 (hRn x h)
            · cases List.mem_singleton.mp h; exact hkn4
          · intro x hx
            rcases jin x hx with h | h
            · rcases List.mem_append.mp h with h | h
              · have := gin x h; omega
              · have := iin x h; omega
            · omega
          · have c3 : CH cutF μ3 (s4.1, rf_up s4.2 36 R.length (nI (ι4 k4))) := CH_a2 (CH_tr (CH_i2 (l := cutF) (CH_rf cutF μ3) (by decide)) jc (fun _ h => h) (by decide)) (by decide)
            exact CH_tr (CH_tr (CH_tr cc' gc (fun _ h => h) (fun _ h => h)) ic (fun _ h => h) (fun _ h => h)) c3 (fun _ h => h) (fun _ h => h)
theorem k_cutOut {T0 : sT} {ι : Nat → Nat} {μ : rf_M} {B sp e sm dp lo : Nat} (h : RR T0 ι μ B sp e) (h18 : μ.1 18 = nI sm) (hsm : sm ≤ 32) (h19 : μ.1 19 = nI dp) (hdp : dp ≤ 12) (h20 : μ.1 20 = nI lo) (hlo : 1 ≤ lo ∧ lo ≤ 8) {c f m : Nat} (hw : wf T0 12 c) (hfm : f + m ≤ (tx T0 12 c).length) (hsp : 3200 ≤ sp) (he : e ≤ 76720) :
    P_cutOut [.inr (some 39), .inl (nI (ι c)), .inl (nI f), .inl (nI m)] μ 0 0 (mI (fun r μ' => ∃ (T2 : sT) (ι2 : Nat → Nat) (B2 sp2 e2 k : Nat) (F : List Nat), r = nI (ι2 k) ∧ rPart T0 ι B (cutT T0 sm dp lo 12 c f m) T2 ι2 B2 k F ∧ RR T2 ι2 μ' B2 sp2 e2 ∧ CH cutF μ μ')) := by
  have hj := jn_le (T := T0) 12 c f m hfm
  refine e_cutOut _ _ _ μ _ ?_
  generalize hret : (mI (fun r μ' => ∃ (T2 : sT) (ι2 : Nat → Nat) (B2 sp2 e2 k : Nat) (F : List Nat), r = nI (ι2 k) ∧ rPart T0 ι B (cutT T0 sm dp lo 12 c f m) T2 ι2 B2 k F ∧ RR T2 ι2 μ' B2 sp2 e2 ∧ CH cutF μ μ')) = ret
  simp only [r_cutOut_0, r_cutOut_1, r_cutOut_3, r_cutOut_4, r_cutOut_5, r_cutOut_8, r_cutOut_9, r_cutOut_10, r_cutOut_11, r_cutOut_12, r_cutOut_16, r_cutOut_19, r_cutOut_22, r_cutOut_23, r_cutOut_24, r_cutOut_27, r_cutOut_28, r_cutOut_29, r_cutOut_32, r_cutOut_33, r_cutOut_36, r_cutOut_37, r_cutOut_40, r_cutOut_41, r_cutOut_44, r_cutOut_47, r_cutOut_48, r_cutOut_51, r_cutOut_53, r_cutOut_54, r_cutOut_55, r_cutOut_56, r_cutOut_57, r_cutOut_60, r_cutOut_62, r_cutOut_63, r_cutOut_64, r_cutOut_65, r_cutOut_66, r_cutOut_69, r_cutOut_71, r_cutOut_72, r_cutOut_75, r_cutOut_76, r_cutOut_79, r_cutOut_80, r_cutOut_81, r_cutOut_84, r_cutOut_85, r_cutOut_88, r_cutOut_89, r_cutOut_90, r_cutOut_93, r_cutOut_94, r_cutOut_97, r_cutOut_98, r_cutOut_99, r_cutOut_102, r_cutOut_103, r_cutOut_106, r_cutOut_107, r_cutOut_109, r_cutOut_112, r_cutOut_114, r_cutOut_117, r_cutOut_118, r_cutOut_121, r_cutOut_122, r_cutOut_123]
  refine ⟨_, k_toCut _ _ _ _ 0 pk_usM (by decide), ?_⟩
  rintro s1 rfl
  have c0 : CH cutF μ (upd μ.1 35 (nI 0), μ.2) := CH_i2 (CH_rf _ μ) (by decide)
  have hS0 : cutS T0 T0 ι (upd μ.1 35 (nI 0), μ.2) B sp e sm dp lo [] [] := by
    refine ⟨fun _ _ h => h, RR_ch h (CH_i2 (l := [35]) (CH_rf _ μ) (by decide)) (by decide), ⟨?_, ?_, ?_⟩, pk_usM, AP_nil _, AP_nil _, AP_nil _, AP_nil _, fun x hx => by simp at hx⟩
    · show upd μ.1 35 (nI 0) 18 = _
      rw [pk_un (by decide)]; exact h18
    · show upd μ.1 35 (nI 0) 19 = _
      rw [pk_un (by decide)]; exact h19
    · show upd μ.1 35 (nI 0) 20 = _
      rw [pk_un (by decide)]; exact h20
  have hS1 := cutS_push (x := nI (ι c)) (y := nI f) (z := nI m) hS0
  have hrun := cut_run (ret := ret) (l1 := some (.inl (nI (ι c)))) (l2 := some (.inl (nI f))) (l3 := some (.inl (nI m))) hsm hdp hlo 12 c f m (Nat.le_refl _) hw hfm T0 ι _ B sp e [] [] hS1 (by simp) (by simp) (by omega) (by omega) ?_
  · exact hrun
  · intro T2 ι2 μ2 B2 sp2 e2 k F gS gp gc gsp ge
    obtain ⟨q1, q2, q3, q4, q5, q6, q7, q8, q9⟩ := gS
    have d0 : μ2.2 36 0 = nI (ι2 k) := q8 0 _ (by simp)
    have q4' : μ2.1 35 = nI 0 := q4
    rw [r_cutOut_15]
    simp only [r_cutOut_0, r_cutOut_1, r_cutOut_3, r_cutOut_4, r_cutOut_5, r_cutOut_8, r_cutOut_9, r_cutOut_10, r_cutOut_11, r_cutOut_12, r_cutOut_16, r_cutOut_19, r_cutOut_22, r_cutOut_23, r_cutOut_24, r_cutOut_27, r_cutOut_28, r_cutOut_29, r_cutOut_32, r_cutOut_33, r_cutOut_36, r_cutOut_37, r_cutOut_40, r_cutOut_41, r_cutOut_44, r_cutOut_47, r_cutOut_48, r_cutOut_51, r_cutOut_53, r_cutOut_54, r_cutOut_55, r_cutOut_56, r_cutOut_57, r_cutOut_60, r_cutOut_62, r_cutOut_63, r_cutOut_64, r_cutOut_65, r_cutOut_66, r_cutOut_69, r_cutOut_71, r_cutOut_72, r_cutOut_75, r_cutOut_76, r_cutOut_79, r_cutOut_80, r_cutOut_81, r_cutOut_84, r_cutOut_85, r_cutOut_88, r_cutOut_89, r_cutOut_90, r_cutOut_93, r_cutOut_94, r_cutOut_97, r_cutOut_98, r_cutOut_99, r_cutOut_102, r_cutOut_103, r_cutOut_106, r_cutOut_107, r_cutOut_109, r_cutOut_112, r_cutOut_114, r_cutOut_117, r_cutOut_118, r_cutOut_121, r_cutOut_122, r_cutOut_123, q4', nI_clamp (show (0 : Nat) < 2 ^ 31 by decide), vp_in_i (show (0 : Nat) < 2 ^ 31 by decide), d0]
    refine ⟨fun _ => ⟨by decide, ?_⟩, fun h => absurd (by decide) h⟩
    subst hret
    rw [mI_e]
    exact ⟨T2, ι2, B2, sp2, e2, k, F, rfl, gp, q2, CH_tr (CH_push c0 (by decide) (by decide) (by decide) (by decide)) gc (fun _ h => h) (fun _ h => h)⟩
