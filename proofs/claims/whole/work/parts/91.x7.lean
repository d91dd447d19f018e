/-! ===== the class: release, balanced ===== -/
def isJn (T : sT) (x : Nat) : Prop := ∃ q, T x = some (.inr (.inl q))
/-- joins among these were made in this turn -/
def MN (σ : xS) (T : sT) (tn : Nat) (F : List Nat) : Prop := ∀ x ∈ F, isJn T x → ∃ o, σ.1 x = some o ∧ o.2.1 7 = nI tn
/-- these were made in earlier turns -/
def MO (σ : xS) (T0 : sT) (tn : Nat) : Prop := ∀ x, T0 x ≠ none → ∃ o m, σ.1 x = some o ∧ m < tn ∧ o.2.1 7 = nI m
theorem rT_nn {T : sT} (T0 : sT) (h : ∀ c v, T0 c = some v → T c = some v) : ∀ (t : tT) (n r : Nat) (F : List Nat), tw T0 n t → rT T t r F → T r ≠ none ∧ ∀ x ∈ F, T x ≠ none
  | .leaf, n, _, _, hw, _ => by cases n <;> exact hw.elim
  | .inner 0 x _ _ _, n, r, F, hw, hr => by
    have hw : lbw T0 n x := by cases n <;> exact hw
    obtain ⟨h1, h2⟩ := hr
    subst h2
    rcases x with c | t | q
    · cases h1
      exact ⟨ext_nn h (wf_nn hw), fun x hx => by simp [nwL] at hx⟩
    · have h1 : T r = some (.inl t) := h1
      have hn : T r ≠ none := by rw [h1]; exact fun z => by cases z
      exact ⟨hn, fun x hx => by simp [nwL] at hx; rw [hx]; exact hn⟩
    · have h1 : T r = some (.inr (.inr q)) := h1
      have hn : T r ≠ none := by rw [h1]; exact fun z => by cases z
      exact ⟨hn, fun x hx => by simp [nwL] at hx; rw [hx]; exact hn⟩
  | .inner (_ + 1) _ _ l s, 0, r, F, hw, hr => hw.elim
  | .inner (_ + 1) _ _ l s, n + 1, r, F, hw, hr => by
    obtain ⟨a, b, Fa, Fb, h1, h2, h3, h4⟩ := hr
    have hn : T r ≠ none := by rw [h1]; exact fun z => by cases z
    have i1 := rT_nn T0 h l n a Fa hw.1 h2
    have i2 := rT_nn T0 h s n b Fb hw.2.1 h3
    refine ⟨hn, fun x hx => ?_⟩
    rw [h4] at hx
    rcases List.mem_cons.mp hx with rfl | hx
    · exact hn
    · rcases List.mem_append.mp hx with hx | hx
      · exact i1.2 x hx
      · exact i2.2 x hx
theorem MN_ext {σ σ' : xS} {T T' : sT} {tn : Nat} {F : List Nat} (h : MN σ T tn F) (hn : ∀ x ∈ F, T x ≠ none) (hx : ∀ c v, T c = some v → T' c = some v) (hk : KP T σ σ') : MN σ' T' tn F := fun x hF hj => by
  obtain ⟨v, hv⟩ := Option.ne_none_iff_exists'.mp (hn x hF)
  obtain ⟨q, hq⟩ := hj
  have := hx x v hv
  rw [hq] at this
  cases this
  obtain ⟨o, h1, h2⟩ := h x hF ⟨q, hv⟩
  exact ⟨o, hk x o (hn x hF) h1, h2⟩
theorem MO_ext {σ σ' : xS} {T0 : sT} {tn : Nat} (h : MO σ T0 tn) (hk : KP T0 σ σ') : MO σ' T0 tn := fun x hx => by
  obtain ⟨o, m, h1, h2, h3⟩ := h x hx
  exact ⟨o, m, hk x o hx h1, h2, h3⟩
def HFr (σ : xS) (T0 T : sT) (tn st : Nat) (F : List Nat) : Prop := ∀ x v, T x = some v → (x ∈ F ∨ T0 x ≠ none) → 24 ≤ x ∧ ∃ o : xO, σ.1 x = some o ∧ o.1 = 0 ∧ xck σ o v ∧ (∃ s, s ≤ st ∧ o.2.1 8 = nI s) ∧ (x ∈ F → ∀ q, v = .inr (.inl q) → o.2.1 7 = nI tn) ∧ (T0 x ≠ none → ∃ m, m < tn ∧ o.2.1 7 = nI m)
theorem HFr_f {σ σ' : xS} {T0 T : sT} {tn st : Nat} {F F' lo : List Nat} (h : HFr σ T0 T tn st F) (hF : ∀ x ∈ F', x ∈ F) (hf : XF lo [] [] σ σ') (hlo : ∀ k ∈ lo, k ∉ F' ∧ T0 k = none) : HFr σ' T0 T tn st F' := fun x v hv hx => by
  obtain ⟨h1, o, h2, h3, h4, h5, h6, h7⟩ := h x v hv (hx.elim (fun z => Or.inl (hF x z)) Or.inr)
  refine ⟨h1, o, hf.1 x o (fun z => ?_) h2, h3, xck_f h4 hf (fun k hk => by simp at hk), h5, fun z => h6 (hF x z), h7⟩
  obtain ⟨k1, k2⟩ := hlo x z
  exact hx.elim k1 (fun w => w k2)
theorem q_release {T0 T : sT} (hext : ∀ c v, T0 c = some v → T c = some v) {tn st : Nat} (htn : tn < 2 ^ 31) : ∀ (t : tT) (n r : Nat) (F : List Nat) (d lv : Nat) (σ : xS) (sp : List Nat) (fi : Nat → Int32) (fr : Nat → Option Nat), tw T0 n t → rT T t r F → F.Nodup → (∀ x ∈ F, T0 x = none) → HFr σ T0 T tn st F → σ.1 11 = some (5, fi, fr) → fi 3 = nI tn → SPC σ st sp (fr 4) → (∀ x ∈ sp, x ∉ F) → n ≤ d → lv + n ≤ 40 →
    P_X5_release (d + 1) [.inr (some 11), .inr (some r), .inl (nI lv)] σ 0 0 (mN (fun σ' => ∃ (J : List Nat) (fr' : Nat → Option Nat), XF (11 :: J) [] [] σ σ' ∧ σ'.1 11 = some (5, fi, fr') ∧ (∀ j, j ≠ 4 → fr' j = fr j) ∧ SPC σ' st (J ++ sp) (fr' 4) ∧ J.Nodup ∧ ∀ x ∈ J, x ∈ F ∧ isJn T x))
  | .leaf, n, _, _, _, _, _, _, _, _, hw, _, _, _, _, _, _, _, _, _, _ => by cases n <;> exact hw.elim
  | .inner 0 x _ _ _, n, r, F, d, lv, σ, sp, fi, fr, hw, hr, hnd, hF0, hH, w1, w2, w3, hsp, hd, hlv => by
    have hw : lbw T0 n x := by cases n <;> exact hw
    obtain ⟨h1, h2⟩ := hr
    have key : ∃ o, σ.1 r = some o ∧ o.1 = 0 ∧ (o.2.1 0 = nI 1 → ¬ o.2.1 7 = nI tn) := by
      rcases x with c | t | q
      · cases h1
        have hn := wf_nn hw
        obtain ⟨v, hv⟩ := Option.ne_none_iff_exists'.mp (ext_nn hext hn)
        obtain ⟨-, o, o1, o2, -, -, -, o7⟩ := hH r v hv (Or.inr hn)
        obtain ⟨m, m1, m2⟩ := o7 hn
        refine ⟨o, o1, o2, fun _ z => ?_⟩
        rw [m2, nI_eq (by omega) htn] at z
        omega
      · have h1 : T r = some (.inl t) := h1
        obtain ⟨-, o, o1, o2, o3, -⟩ := hH r _ h1 (Or.inl (by rw [h2]; simp [nwL]))
        exact ⟨o, o1, o2, fun z => absurd z (by rw [o3.1]; decide)⟩
      · have h1 : T r = some (.inr (.inr q)) := h1
        obtain ⟨-, o, o1, o2, o3, -⟩ := hH r _ h1 (Or.inl (by rw [h2]; simp [nwL]))
        exact ⟨o, o1, o2, fun z => absurd z (by rw [o3.1]; decide)⟩
    obtain ⟨o, o1, o2, o3⟩ := key
    have base : ∃ (J : List Nat) (fr' : Nat → Option Nat), XF (11 :: J) [] [] σ σ ∧ σ.1 11 = some (5, fi, fr') ∧ (∀ j, j ≠ 4 → fr' j = fr j) ∧ SPC σ st (J ++ sp) (fr' 4) ∧ J.Nodup ∧ ∀ x ∈ J, x ∈ F ∧ isJn T x := ⟨[], fr, XF_rf _ _ _ _, w1, fun _ _ => rfl, w3, List.nodup_nil, fun x hx => by simp at hx⟩
    refine e_X5_release d (nI lv) (some r) 11 σ 0 0 _ _ w1 rfl ?_
    simp only [r_X5_release_0, r_X5_release_1, r_X5_release_4, r_X5_release_5, r_X5_release_7, r_X5_release_10, r_X5_release_11, r_X5_release_14, r_X5_release_15, r_X5_release_18, r_X5_release_19, r_X5_release_22, r_X5_release_23, r_X5_release_26, r_X5_release_29, sN, sS, true_and, xo o1, o2, xo w1, w2, mN_e]
    exact ⟨fun _ => base, fun _ => ⟨fun _ => base, fun z => ⟨fun z2 => absurd z2 (o3 (Classical.not_not.mp z)), fun _ => base⟩⟩⟩
  | .inner (_ + 1) _ _ l s, 0, _, _, _, _, _, _, _, _, hw, _, _, _, _, _, _, _, _, _, _ => hw.elim
  | .inner (_ + 1) _ _ l s, n + 1, r, F, 0, lv, σ, sp, fi, fr, hw, hr, hnd, hF0, hH, w1, w2, w3, hsp, hd, hlv => by omega
  | .inner (_ + 1) _ _ l s, n + 1, r, F, d + 1, lv, σ, sp, fi, fr, hw, hr, hnd, hF0, hH, w1, w2, w3, hsp, hd, hlv => by
    obtain ⟨a, b, Fa, Fb, h1, h2, h3, h4⟩ := hr
    subst h4
    obtain ⟨hrF, hnd2⟩ := List.nodup_cons.mp hnd
    obtain ⟨nda, ndb, ndab⟩ := List.nodup_append.mp hnd2
    have ia : ∀ x ∈ Fa, x ∈ r :: (Fa ++ Fb) := fun x hx => List.mem_cons_of_mem _ (List.mem_append_left _ hx)
    have ib : ∀ x ∈ Fb, x ∈ r :: (Fa ++ Fb) := fun x hx => List.mem_cons_of_mem _ (List.mem_append_right _ hx)
    obtain ⟨r24, o, o1, o2, ⟨k1, k2, k3, k4⟩, o5, o6, -⟩ := hH r _ h1 (Or.inl List.mem_cons_self)
    have o7 := o6 List.mem_cons_self _ rfl
    refine e_X5_release (d + 1) (nI lv) (some r) 11 σ 0 0 _ _ w1 rfl ?_
    simp only [r_X5_release_0, r_X5_release_1, r_X5_release_4, r_X5_release_5, r_X5_release_7, r_X5_release_10, r_X5_release_11, r_X5_release_14, r_X5_release_15, r_X5_release_18, r_X5_release_19, r_X5_release_22, r_X5_release_23, r_X5_release_26, r_X5_release_29, r_X5_release_30, r_X5_release_31, r_X5_release_32, r_X5_release_35, r_X5_release_36, r_X5_release_37, r_X5_release_38, r_X5_release_42, r_X5_release_43, r_X5_release_46, r_X5_release_47, r_X5_release_48, r_X5_release_49, r_X5_release_52, r_X5_release_53, r_X5_release_54, r_X5_release_57, r_X5_release_60, r_X5_release_61, r_X5_release_62, r_X5_release_65, r_X5_release_66, r_X5_release_67, r_X5_release_70, sN, sS, true_and, xo o1, o2, k1, o7, xo w1, w2, k2, nI_add, nI_ltI (show 40 < 2 ^ 31 by omega) (show lv < 2 ^ 31 by omega)]
    refine ⟨fun z => by omega, fun _ => ⟨fun z => absurd trivial z, fun _ => ⟨fun _ => ?_, fun z => absurd trivial z⟩⟩⟩
    refine ⟨_, q_release hext htn l n a Fa d (lv + 1) σ sp fi fr hw.1 h2 nda (fun x hx => hF0 x (ia x hx)) (HFr_f hH ia (XF_rf [] _ _ _) (fun k hk => by simp at hk)) w1 w2 w3 (fun x hx z => hsp x hx (ia x z)) (by omega) (by omega), ?_⟩
    rintro σ1 ⟨J1, fr1, f1, f2, f3, f4, f5, f6⟩
    have r11 : r ≠ 11 := by omega
    have rJ1 : r ∉ 11 :: J1 := fun z => by
      rcases List.mem_cons.mp z with z | z
      · omega
      · exact hrF (List.mem_append_left _ (f6 r z).1)
    have o1' : σ1.1 r = some o := f1.1 r o rJ1 o1
    rw [r_X5_release_41]
    simp only [r_X5_release_42, r_X5_release_43, r_X5_release_46, r_X5_release_47, r_X5_release_48, r_X5_release_49, xo o1', o2, true_and, k3, nI_add]
    have T11 : T0 11 = none := by
      cases hv : T0 11 with
      | none => rfl
      | some v => have := (hH 11 v (hext 11 v hv) (Or.inr (by rw [hv]; exact fun z => by cases z))).1; omega
    have n11 : 11 ∉ Fb := fun z => by
      have hz := hF0 11 (ib 11 z)
      have := (rT_nn T0 hext s n b Fb hw.2.1 h3).2 11 z
      obtain ⟨v, hv⟩ := Option.ne_none_iff_exists'.mp this
      have := (hH 11 v hv (Or.inl (ib 11 z))).1
      omega
    refine ⟨_, q_release hext htn s n b Fb d (lv + 1) σ1 (J1 ++ sp) fi fr1 hw.2.1 h3 ndb (fun x hx => hF0 x (ib x hx)) (HFr_f hH ib f1 (fun k hk => ?_)) f2 w2 f4 (fun x hx z => ?_) (by omega) (by omega), ?_⟩
    · rcases List.mem_cons.mp hk with rfl | hk
      · exact ⟨n11, T11⟩
      · exact ⟨fun z => ndab k (f6 k hk).1 k z rfl, hF0 k (ia k (f6 k hk).1)⟩
    · rcases List.mem_append.mp hx with hx | hx
      · exact ndab x (f6 x hx).1 x z rfl
      · exact hsp x hx (ib x z)
    rintro σ2 ⟨J2, fr2, g1, g2, g3, g4, g5, g6⟩
    have rJ2 : r ∉ 11 :: J2 := fun z => by
      rcases List.mem_cons.mp z with z | z
      · omega
      · exact hrF (List.mem_append_right _ (g6 r z).1)
    have o1'' : σ2.1 r = some o := g1.1 r o rJ2 o1'
    have z11 : ∀ (v : Option xO) {P : xO → Prop}, (∃ q, va_up σ2.1 r v 11 = some q ∧ P q) = P (5, fi, fr2) := fun v P => xo (σ := (va_up σ2.1 r v, σ2.2)) (by show va_up σ2.1 r v 11 = _; rw [va_up_ne _ _ (fun z => r11 z.symm)]; exact g2)
    simp only [r_X5_release_52, r_X5_release_53, r_X5_release_54, r_X5_release_57, r_X5_release_60, r_X5_release_61, r_X5_release_62, r_X5_release_65, r_X5_release_66, r_X5_release_67, r_X5_release_70, xo g2, xo o1'', o2, true_and, xu, va_up_up, z11, mN_e]
    have h24 := SPC_24 _ _ g4
    have hchain : ∀ k ∈ J2 ++ (J1 ++ sp), k ≠ r ∧ k ≠ 11 := fun k hk => by
      refine ⟨fun z => ?_, by have := h24 k hk; omega⟩
      subst z
      rcases List.mem_append.mp hk with hk | hk
      · exact rJ2 (List.mem_cons_of_mem _ hk)
      · rcases List.mem_append.mp hk with hk | hk
        · exact rJ1 (List.mem_cons_of_mem _ hk)
        · exact hsp k hk List.mem_cons_self
    have hX12 : XF (11 :: r :: (J2 ++ J1)) [] [] σ σ2 := XF_tr f1 g1 (fun k hk => by
      rcases List.mem_cons.mp hk with rfl | hk
      · exact List.mem_cons_self
      · exact List.mem_cons_of_mem _ (List.mem_cons_of_mem _ (List.mem_append_right _ hk))) (fun k hk => by
      rcases List.mem_cons.mp hk with rfl | hk
      · exact List.mem_cons_self
      · exact List.mem_cons_of_mem _ (List.mem_cons_of_mem _ (List.mem_append_left _ hk))) (fun _ z => z) (fun _ z => z) (fun _ z => z) (fun _ z => z)
    refine ⟨r :: (J2 ++ J1), va_up fr2 4 (some r), XF_o (XF_o hX12 (Or.inl (by simp))) (Or.inl (by simp)), va_up_self _ _ _, fun j hj => by rw [va_up_ne _ _ hj, g3 j hj, f3 j hj], ?_, ?_, ?_⟩
    · rw [va_up_self, List.cons_append, List.append_assoc]
      refine ⟨rfl, r24, (0, o.2.1, va_up (va_up o.2.2 3 (fr2 4)) 4 none), ?_, rfl, ?_, o5, ?_⟩
      · show va_up (va_up σ2.1 r _) 11 _ r = _
        rw [va_up_ne _ _ r11, va_up_self]
      · show va_up (va_up o.2.2 3 (fr2 4)) 4 none 5 = none
        rw [va_up_ne _ _ (by decide), va_up_ne _ _ (by decide)]; exact k4
      · show SPC _ st (J2 ++ (J1 ++ sp)) (va_up (va_up o.2.2 3 (fr2 4)) 4 none 3)
        rw [va_up_ne _ _ (by decide), va_up_self]
        refine SPC_f _ _ g4 (fun k o' hk ho' => ?_)
        show va_up (va_up σ2.1 r _) 11 _ k = _
        rw [va_up_ne _ _ (hchain k hk).2, va_up_ne _ _ (hchain k hk).1]
        exact ho'
    · refine List.nodup_cons.mpr ⟨fun z => ?_, List.nodup_append.mpr ⟨g5, f5, fun x hx y hy hxy => ?_⟩⟩
      · rcases List.mem_append.mp z with z | z
        · exact rJ2 (List.mem_cons_of_mem _ z)
        · exact rJ1 (List.mem_cons_of_mem _ z)
      · subst hxy
        exact ndab x (f6 x hy).1 x (g6 x hx).1 rfl
    · intro x hx
      rcases List.mem_cons.mp hx with rfl | hx
      · exact ⟨List.mem_cons_self, _, h1⟩
      · rcases List.mem_append.mp hx with hx | hx
        · exact ⟨ib x (g6 x hx).1, (g6 x hx).2⟩
        · exact ⟨ia x (f6 x hx).1, (f6 x hx).2⟩
theorem nwP_mem {L : List tL} {P : List Nat} {x : Nat} (h : x ∈ nwP L P) : x ∈ P := by
  unfold nwP at h
  obtain ⟨⟨y, z⟩, h1, h2⟩ := List.mem_flatMap.mp h
  have := List.of_mem_zip h1
  rcases y with c | y
  · simp [nwL] at h2
  · simp [nwL] at h2
    rw [h2]; exact this.2
theorem sub_mem2 {α : Type} {l : List α} {f t : Nat} {x : α} (h : x ∈ sub l f t) : x ∈ l := sub_mem h
theorem MN_nw {σ : xS} {T : sT} {tn : Nat} {y : tL} {x : Nat} (h : rL T y x) : MN σ T tn (nwL y x) := fun z hz hj => by
  rcases y with c | t | q
  · simp [nwL] at hz
  · simp [nwL] at hz
    subst hz
    obtain ⟨q, hq⟩ := hj
    have h : T z = some (.inl t) := h
    rw [hq] at h; cases h
  · simp [nwL] at hz
    subst hz
    obtain ⟨q', hq⟩ := hj
    have h : T z = some (.inr (.inr q)) := h
    rw [hq] at h; cases h
theorem sub_fm {T : sT} {L : List tL} {f t : Nat} : ((sub L f t).flatMap (lbt T)).length ≤ (L.flatMap (lbt T)).length := by
  have h1 : L = L.take f ++ (sub L f t ++ (L.drop f).drop (t - f)) := by
    simp only [sub]
    rw [List.take_append_drop, List.take_append_drop]
  conv => rhs; rw [h1, List.flatMap_append, List.flatMap_append, List.length_append, List.length_append]
  omega
section
variable {sm dp lo tn st : Nat}
theorem q_balanced {T0 : sT} {L : List tL} {P : List Nat} (hL : ∀ x ∈ L, okL T0 x) (h120 : (L.flatMap (lbt T0)).length ≤ 120) : ∀ (d s f lv : Nat) (σ : xS) (T : sT) (sp : List Nat) (a b : Nat), 0 < s → f + s ≤ L.length → s ≤ 2 ^ d → d ≤ 30 → lv + d ≤ 40 → (∀ c v, T0 c = some v → T c = some v) → WS σ T sm dp lo tn st sp → PCS σ 13 P → LbR T L P → (∀ x ∈ P, T x ≠ none) → (nwP (sub L f (f + s)) (sub P f (f + s))).Nodup → s - 1 ≤ a → 9 * (s - 1) ≤ b →
    P_X5_balanced (d + 1) [.inr (some 11), .inl (nI f), .inl (nI s), .inl (nI lv)] σ a b (mR (fun r σ' => ∃ k T' sp' F, r = some k ∧ (∀ c v, T c = some v → T' c = some v) ∧ WS σ' T' sm dp lo tn st sp' ∧ PCS σ' 13 P ∧ KP T σ σ' ∧ YF σ σ' ∧ rT T' (bal 7 (sub L f (f + s))) k F ∧ F.Nodup ∧ (∀ x ∈ F, x ∈ nwP (sub L f (f + s)) (sub P f (f + s)) ∨ T x = none) ∧ MN σ' T' tn F)) := by
  have hl120 : L.length ≤ 120 := Nat.le_trans (fm_len L (fun x hx => (hL x hx).2)) h120
  intro d
  induction d with
  | zero =>
    intro s f lv σ T sp a b hs hfs hs2 hd hlv hext hW hP hR hPn hnd ha hb
    have hs1 : s = 1 := by simp at hs2; omega
    subst hs1
    have hPL : L.length = P.length := hR.1
    obtain ⟨-, -, ⟨fi, fr, w1, w2, w3, w4, w5, w6⟩, -⟩ := id hW
    refine e_X5_balanced 0 (nI f) (nI 1) (nI lv) 11 σ a b _ _ w1 rfl ?_
    obtain ⟨x, hx⟩ : ∃ x, P[f]? = some x := ⟨_, List.getElem?_eq_getElem (show f < P.length by omega)⟩
    obtain ⟨y, hy⟩ : ∃ y, L[f]? = some y := ⟨_, List.getElem?_eq_getElem (show f < L.length by omega)⟩
    simp only [r_X5_balanced_0, r_X5_balanced_1, r_X5_balanced_2, r_X5_balanced_11, r_X5_balanced_12, r_X5_balanced_15, r_X5_balanced_16, xo w1, true_and, w3]
    refine ⟨fun _ => ?_, fun z => absurd (by decide) z⟩
    refine ⟨_, q_at hP (nI f), ?_⟩
    rintro r s' ⟨rfl, rfl⟩
    rw [ix_nI (by omega), hx, r_X5_balanced_19, mR_e]
    have hry := hR.2 f y x hy hx
    have hsub : nwP (sub L f (f + 1)) (sub P f (f + 1)) = nwL y x := by rw [sub_one hy, sub_one hx]; simp [nwP]
    rw [hsub] at hnd ⊢
    refine ⟨x, T, sp, nwL y x, rfl, fun _ _ z => z, hW, hP, KP_rf _ _, YF_rf _, ?_, hnd, fun z hz => Or.inl hz, MN_nw hry⟩
    rw [bal_one hy]
    exact ⟨hry, rfl⟩
  | succ d ih =>
    intro s f lv σ T sp a b hs hfs hs2 hd hlv hext hW hP hR hPn hnd ha hb
    have hPL : L.length = P.length := hR.1
    obtain ⟨-, -, ⟨fi, fr, w1, w2, w3, w4, w5, w6⟩, -⟩ := id hW
    refine e_X5_balanced (d + 1) (nI f) (nI s) (nI lv) 11 σ a b _ _ w1 rfl ?_
    by_cases h1 : s < 2
    · have hs1 : s = 1 := by omega
      subst hs1
      obtain ⟨x, hx⟩ : ∃ x, P[f]? = some x := ⟨_, List.getElem?_eq_getElem (show f < P.length by omega)⟩
      obtain ⟨y, hy⟩ : ∃ y, L[f]? = some y := ⟨_, List.getElem?_eq_getElem (show f < L.length by omega)⟩
      simp only [r_X5_balanced_0, r_X5_balanced_1, r_X5_balanced_2, r_X5_balanced_11, r_X5_balanced_12, r_X5_balanced_15, r_X5_balanced_16, xo w1, true_and, w3]
      refine ⟨fun _ => ?_, fun z => absurd (by decide) z⟩
      refine ⟨_, q_at hP (nI f), ?_⟩
      rintro r s' ⟨rfl, rfl⟩
      rw [ix_nI (by omega), hx, r_X5_balanced_19, mR_e]
      have hry := hR.2 f y x hy hx
      have hsub : nwP (sub L f (f + 1)) (sub P f (f + 1)) = nwL y x := by rw [sub_one hy, sub_one hx]; simp [nwP]
      rw [hsub] at hnd ⊢
      refine ⟨x, T, sp, nwL y x, rfl, fun _ _ z => z, hW, hP, KP_rf _ _, YF_rf _, ?_, hnd, fun z hz => Or.inl hz, MN_nw hry⟩
      rw [bal_one hy]
      exact ⟨hry, rfl⟩
    · have hme : nI s / nI 2 = nI (s / 2) := pk_div (by omega) (by omega) (by omega)
      rw [Nat.pow_succ] at hs2
      simp only [r_X5_balanced_0, r_X5_balanced_1, r_X5_balanced_2, r_X5_balanced_5, r_X5_balanced_6, r_X5_balanced_8, r_X5_balanced_12, r_X5_balanced_15, r_X5_balanced_16, r_X5_balanced_19, r_X5_balanced_20, r_X5_balanced_21, r_X5_balanced_22, r_X5_balanced_23, r_X5_balanced_25, r_X5_balanced_26, r_X5_balanced_27, r_X5_balanced_28, r_X5_balanced_30, r_X5_balanced_31, r_X5_balanced_32, r_X5_balanced_33, r_X5_balanced_37, r_X5_balanced_38, r_X5_balanced_40, r_X5_balanced_41, r_X5_balanced_42, r_X5_balanced_44, r_X5_balanced_45, r_X5_balanced_46, r_X5_balanced_47, r_X5_balanced_48, r_X5_balanced_54, nI_ltI (show s < 2 ^ 31 by omega) (show 2 < 2 ^ 31 by omega), nI_leI (show lv < 2 ^ 31 by omega) (show 40 < 2 ^ 31 by omega), hme, nI_add]
      refine ⟨fun z => absurd z h1, fun _ => ⟨fun _ => ⟨by decide, ?_⟩, fun z => absurd (by omega) z⟩⟩
      generalize hm : s / 2 = m
      have hm1 : 0 < m := by omega
      have hm2 : m < s := by omega
      have hsplitL : sub L f (f + s) = sub L f (f + m) ++ sub L (f + m) (f + m + (s - m)) := by rw [show f + m + (s - m) = f + s by omega]; exact sub_split L (by omega) (by omega)
      have hsplitP : sub P f (f + s) = sub P f (f + m) ++ sub P (f + m) (f + m + (s - m)) := by rw [show f + m + (s - m) = f + s by omega]; exact sub_split P (by omega) (by omega)
      have hnw : nwP (sub L f (f + s)) (sub P f (f + s)) = nwP (sub L f (f + m)) (sub P f (f + m)) ++ nwP (sub L (f + m) (f + m + (s - m))) (sub P (f + m) (f + m + (s - m))) := by
        rw [hsplitL, hsplitP, nwP_app (by rw [sub_len (by omega), sub_len (by omega)])]
      rw [hnw] at hnd ⊢
      obtain ⟨nd1, nd2, nd3⟩ := List.nodup_append.mp hnd
      refine ⟨m - 1, 9 * (m - 1), _, by omega, by omega, ih m f (lv + 1) σ T sp (m - 1) (9 * (m - 1)) hm1 (by omega) (by omega) (by omega) (by omega) hext hW hP hR hPn nd1 (by omega) (by omega), ?_⟩
      rintro r1 σ1 ⟨k1, T1, sp1, F1, rfl, x1, hW1, hP1, kp1, yf1, rt1, fn1, fi1, mn1⟩
      rw [r_X5_balanced_36]
      simp only [r_X5_balanced_0, r_X5_balanced_1, r_X5_balanced_2, r_X5_balanced_5, r_X5_balanced_6, r_X5_balanced_8, r_X5_balanced_12, r_X5_balanced_15, r_X5_balanced_16, r_X5_balanced_19, r_X5_balanced_20, r_X5_balanced_21, r_X5_balanced_22, r_X5_balanced_23, r_X5_balanced_25, r_X5_balanced_26, r_X5_balanced_27, r_X5_balanced_28, r_X5_balanced_30, r_X5_balanced_31, r_X5_balanced_32, r_X5_balanced_33, r_X5_balanced_37, r_X5_balanced_38, r_X5_balanced_40, r_X5_balanced_41, r_X5_balanced_42, r_X5_balanced_44, r_X5_balanced_45, r_X5_balanced_46, r_X5_balanced_47, r_X5_balanced_48, r_X5_balanced_54, nI_add, pk_sub (show m ≤ s by omega)]
      have hext1 : ∀ c v, T0 c = some v → T1 c = some v := fun c v z => x1 c v (hext c v z)
      refine ⟨s - m - 1, 9 * (s - m - 1), _, by omega, by omega, ih (s - m) (f + m) (lv + 1) σ1 T1 sp1 (s - m - 1) (9 * (s - m - 1)) (by omega) (by omega) (by omega) (by omega) (by omega) hext1 hW1 hP1 (LbR_ext x1 hR) (fun x hx => ext_nn x1 (hPn x hx)) nd2 (by omega) (by omega), ?_⟩
      rintro r2 σ2 ⟨k2, T2, sp2, F2, rfl, x2, hW2, hP2, kp2, yf2, rt2, fn2, fi2, mn2⟩
      have hext2 : ∀ c v, T0 c = some v → T2 c = some v := fun c v z => x2 c v (hext1 c v z)
      have okl : ∀ x ∈ sub L f (f + m), okL T0 x := fun x hx => hL x (sub_mem hx)
      have okr : ∀ x ∈ sub L (f + m) (f + m + (s - m)), okL T0 x := fun x hx => hL x (sub_mem hx)
      have hsum : ((sub L f (f + m)).flatMap (lbt T0)).length + ((sub L (f + m) (f + m + (s - m))).flatMap (lbt T0)).length ≤ 120 := by
        have := sub_fm (T := T0) (L := L) (f := f) (t := f + s)
        rw [hsplitL, List.flatMap_append, List.length_append] at this
        omega
      obtain ⟨wl1, wl2, wl3⟩ := bal_ok (T := T0) 7 (sub L f (f + m)) (by rw [sub_len (by omega)]; omega) (by rw [sub_len (by omega)]; omega) okl (by omega)
      obtain ⟨wr1, wr2, wr3⟩ := bal_ok (T := T0) 7 (sub L (f + m) (f + m + (s - m))) (by rw [sub_len (by omega)]; omega) (by rw [sub_len (by omega)]; omega) okr (by omega)
      have rt1' := rT_ext x2 _ _ _ rt1
      obtain ⟨vl1, vl2, -, -⟩ := rT_ok hext2 _ 7 k1 F1 (by omega) wl1 rt1'
      obtain ⟨vr1, vr2, -, -⟩ := rT_ok hext2 _ 7 k2 F2 (by omega) wr1 rt2
      obtain ⟨ul1, ul2, -⟩ := wf_le (show 7 ≤ 12 by omega) vl1
      obtain ⟨ur1, ur2, -⟩ := wf_le (show 7 ≤ 12 by omega) vr1
      have nn1 := (rT_nn T0 hext1 _ 7 k1 F1 wl1 rt1).2
      have nn2 := (rT_nn T0 hext2 _ 7 k2 F2 wr1 rt2).2
      rw [r_X5_balanced_51]
      refine ⟨1, 9, _, by omega, by omega, q_newJoin hW2 ul1 ur1 (by rw [ul2, vl2]; exact wl3) (by rw [ur2, vr2]; exact wr3) (by rw [ul2, ur2, vl2, vr2, wl2, wr2]; exact hsum) 1 9 (Nat.le_refl _) (Nat.le_refl _), ?_⟩
      rintro r3 σ3 ⟨c, sp3, rfl, hTc, hW3, kp3, yf3, pc3, oc, oc1, oc2⟩
      rw [r_X5_balanced_54, mR_e]
      have x3 := ext_up hTc (.inr (.inl (k1, k2)))
      have cT1 : T1 c = none := by
        cases hv : T1 c with
        | none => rfl
        | some v => rw [x2 c v hv] at hTc; cases hTc
      have cT : T c = none := by
        cases hv : T c with
        | none => rfl
        | some v => rw [x1 c v hv] at cT1; cases cT1
      refine ⟨c, va_up T2 c (some (.inr (.inl (k1, k2)))), sp3, c :: (F1 ++ F2), rfl, fun q v z => x3 q v (x2 q v (x1 q v z)), hW3, pc3 P hP2, KP_tr kp1 (KP_tr (KP_w kp2 x1) (KP_w kp3 (fun q v z => x2 q v (x1 q v z)))), YF_tr yf1 (YF_tr yf2 yf3), ?_, ?_, ?_, ?_⟩
      · have hb := bal_sub (L := L) (f := f) (t := f + s) (by omega) hfs hl120
        rw [show f + s - f = s by omega, hm, show f + s = f + m + (s - m) by omega] at hb
        rw [show f + s = f + m + (s - m) by omega, hb]
        exact ⟨k1, k2, F1, F2, va_up_self _ _ _, rT_ext x3 _ _ _ rt1', rT_ext x3 _ _ _ rt2, rfl⟩
      · refine List.nodup_cons.mpr ⟨fun hz => ?_, List.nodup_append.mpr ⟨fn1, fn2, ?_⟩⟩
        · rcases List.mem_append.mp hz with h | h
          · exact nn1 c h cT1
          · exact nn2 c h hTc
        · intro x hx y hy hxy
          subst hxy
          rcases fi2 x hy with g | g
          · have hTx := hPn x (sub_mem (nwP_mem g))
            rcases fi1 x hx with h | h
            · exact nd3 x h x g rfl
            · exact hTx h
          · exact nn1 x hx g
      · intro x hx
        rcases List.mem_cons.mp hx with rfl | h
        · exact Or.inr cT
        · rcases List.mem_append.mp h with h | h
          · rcases fi1 x h with g | g
            · exact Or.inl (List.mem_append_left _ g)
            · exact Or.inr g
          · rcases fi2 x h with g | g
            · exact Or.inl (List.mem_append_right _ g)
            · refine Or.inr ?_
              cases hv : T x with
              | none => rfl
              | some v => rw [x1 x v hv] at g; cases g
      · intro x hx hj
        rcases List.mem_cons.mp hx with rfl | h
        · exact ⟨oc, oc1, oc2⟩
        · rcases List.mem_append.mp h with h | h
          · exact MN_ext mn1 nn1 (fun q v z => x3 q v (x2 q v z)) (KP_tr kp2 (KP_w kp3 x2)) x h hj
          · exact MN_ext mn2 nn2 x3 kp3 x h hj
end
