/-! ===== the class: new leaves and slices ===== -/
theorem va_up_up {A : Type} (f : Nat → A) (k : Nat) (v w : A) : va_up (va_up f k v) k w = va_up f k w := by
  funext j
  by_cases h : j = k
  · subst h; rw [va_up_self, va_up_self]
  · rw [va_up_ne _ _ h, va_up_ne _ _ h, va_up_ne _ _ h]
def frs (σ : xS) (q : Nat) : Prop := 24 ≤ q ∧ σ.1 q = none ∧ σ.2.1 q = none ∧ σ.2.2 q = none
theorem q_toRow {σ : xS} {t : Nat} {L : List Int32} (h : TXT σ t L) : P_X3_toRow [.inr (some t)] σ 1 L.length (mR (fun r σ' => ∃ q g, r = some q ∧ frs σ q ∧ σ' = (σ.1, va_up σ.2.1 q (some (L.length, g)), σ.2.2) ∧ AP g L)) := by
  obtain ⟨fi, fr, g, a1, a2, a3, a4, a5, a6⟩ := id h
  refine e_X3_toRow t σ 1 L.length _ _ a1 rfl ?_
  generalize hret : (mR (fun r σ' => ∃ q g, r = some q ∧ frs σ q ∧ σ' = (σ.1, va_up σ.2.1 q (some (L.length, g)), σ.2.2) ∧ AP g L)) = ret
  simp only [r_X3_toRow_0, r_X3_toRow_1, r_X3_toRow_4, r_X3_toRow_7, r_X3_toRow_8, r_X3_toRow_11, r_X3_toRow_12, r_X3_toRow_15, r_X3_toRow_17, r_X3_toRow_18, r_X3_toRow_19, r_X3_toRow_21, r_X3_toRow_22, r_X3_toRow_23, r_X3_toRow_26, r_X3_toRow_27, r_X3_toRow_28, r_X3_toRow_29, r_X3_toRow_30, r_X3_toRow_33, r_X3_toRow_34, r_X3_toRow_37, r_X3_toRow_40, r_X3_toRow_41, xo a1, true_and, a3]
  have fin : ¬ nI L.length < 0 ∧ 1 ≤ 1 ∧ (nI L.length).toNatClampNeg ≤ L.length ∧ (nI L.length).toNatClampNeg ≤ 100000 ∧ ∀ q, 24 ≤ q → σ.1 q = none → σ.2.1 q = none → σ.2.2 q = none → W_X3_toRow ret (20, [some (.inr (some t)), some (.inr (some q)), some (.inl (nI 0))], [], (σ.1, va_up σ.2.1 q (some ((nI L.length).toNatClampNeg, fun _ => 0)), σ.2.2), 1 - 1, L.length - (nI L.length).toNatClampNeg) := by
    rw [nI_clamp (by omega)]
    refine ⟨nI_pos (by omega), Nat.le_refl _, Nat.le_refl _, by omega, fun q h24 q1 q2 q3 => ?_⟩
    generalize 1 - 1 = a
    generalize L.length - L.length = b
    have key : ∀ y : Nat × (Nat → Int32), (y.1 ≤ L.length ∧ AP y.2 (L.take y.1)) → W_X3_toRow ret (20, [some (.inr (some t)), some (.inr (some q)), some (.inl (nI y.1))], [], (σ.1, va_up σ.2.1 q (some (L.length, y.2)), σ.2.2), a, b) := by
      refine mm_loop _ _ (fun y => L.length - y.1) ?_
      rintro ⟨i, f⟩ ⟨j0, j1⟩ ih
      dsimp only at j0 j1 ⊢
      have hq : (σ.1, va_up σ.2.1 q (some (L.length, f)), σ.2.2).2.1 q = some (L.length, f) := va_up_self _ _ _
      have hX : XF [] [] [] σ (σ.1, va_up σ.2.1 q (some (L.length, f)), σ.2.2) := XF_g (XF_rf _ _ _ _) (Or.inr ⟨h24, q2⟩)
      rw [r_X3_toRow_20]
      simp only [r_X3_toRow_0, r_X3_toRow_1, r_X3_toRow_4, r_X3_toRow_7, r_X3_toRow_8, r_X3_toRow_11, r_X3_toRow_12, r_X3_toRow_15, r_X3_toRow_17, r_X3_toRow_18, r_X3_toRow_19, r_X3_toRow_21, r_X3_toRow_22, r_X3_toRow_23, r_X3_toRow_26, r_X3_toRow_27, r_X3_toRow_28, r_X3_toRow_29, r_X3_toRow_30, r_X3_toRow_33, r_X3_toRow_34, r_X3_toRow_37, r_X3_toRow_40, r_X3_toRow_41, xl (x_lenG hq), nI_leI (show L.length < 2 ^ 31 by omega) (show i < 2 ^ 31 by omega)]
      refine ⟨fun hle => ?_, fun hle => ?_⟩
      · have : i = L.length := by omega
        subst this
        rw [List.take_length] at j1
        subst hret
        rw [mR_e]
        exact ⟨q, f, rfl, ⟨h24, q1, q2, q3⟩, rfl, j1⟩
      · refine ⟨_, q_signAt (TXT_f h hX (by simp) (by simp)) (nI i), ?_⟩
        rintro r s' ⟨hs, hr⟩
        subst hs
        obtain ⟨x, hx⟩ : ∃ x, L[i]? = some x := ⟨_, List.getElem?_eq_getElem (show i < L.length by omega)⟩
        rw [ix_nI (by omega), hx] at hr
        have hr : r = x := hr
        subst hr
        refine ⟨_, hq, by omega, by omega, ?_, ?_⟩
        · rw [vp_in_i (by omega)]; omega
        · rw [nI_clamp (by omega), nI_add]
          have hh := ih (i + 1, upd f i r) ⟨by dsimp only; omega, ?_⟩ (by dsimp only; omega)
          · dsimp only at hh ⊢
            rw [va_up_up]
            exact hh
          · dsimp only
            rw [List.take_add_one, hx]
            have := AP_push j1 r
            rw [List.length_take, Nat.min_eq_left (by omega)] at this
            exact this
    exact key (0, fun _ => 0) ⟨by dsimp only; omega, by simp only [List.take_zero]; exact AP_nil _⟩
  exact ⟨fun _ => fin, fun z => absurd (nI_pos' (by omega)) z⟩
theorem q_becomeLeaf {σ : xS} {t c : Nat} {L : List Int32} (h : TXT σ t L) {o : xO} (ho : σ.1 c = some o) (ho0 : o.1 = 0) (hct : c ≠ t) : P_X0_becomeLeaf [.inr (some c), .inr (some t)] σ 1 L.length (mN (fun σ' => ∃ q g fi fr, frs σ q ∧ σ' = (va_up σ.1 c (some (0, fi, fr)), va_up σ.2.1 q (some (L.length, g)), σ.2.2) ∧ AP g L ∧ fi 0 = nI 0 ∧ fi 6 = nI 0 ∧ (∀ j, j ≠ 0 → j ≠ 6 → fi j = o.2.1 j) ∧ fr 2 = some q ∧ fr 3 = none ∧ fr 4 = none ∧ fr 5 = none)) := by
  refine e_X0_becomeLeaf (some t) c σ 1 L.length _ o ho ho0 ?_
  simp only [r_X0_becomeLeaf_0, r_X0_becomeLeaf_1, r_X0_becomeLeaf_2, r_X0_becomeLeaf_5, r_X0_becomeLeaf_8, r_X0_becomeLeaf_9, r_X0_becomeLeaf_10, r_X0_becomeLeaf_13, r_X0_becomeLeaf_14, r_X0_becomeLeaf_15, r_X0_becomeLeaf_18, r_X0_becomeLeaf_19, r_X0_becomeLeaf_20, r_X0_becomeLeaf_23, r_X0_becomeLeaf_24, r_X0_becomeLeaf_25, r_X0_becomeLeaf_28, r_X0_becomeLeaf_29, r_X0_becomeLeaf_30, r_X0_becomeLeaf_33]
  refine ⟨1, L.length, _, Nat.le_refl _, Nat.le_refl _, q_toRow h, ?_⟩
  rintro r s' ⟨q, g, rfl, hq, rfl, hg⟩
  simp only [xo (σ := (σ.1, va_up σ.2.1 q (some (L.length, g)), σ.2.2)) ho, ho0, true_and, xu, mN_e, va_up_up]
  refine ⟨q, g, _, _, hq, rfl, hg, ?_, pk_us, fun j h0 h6 => ?_, ?_, ?_, ?_, va_up_self _ _ _⟩
  · rw [pk_un (by decide), pk_us]
  · rw [pk_un h6, pk_un h0]
  · rw [va_up_ne _ _ (by decide), va_up_ne _ _ (by decide), va_up_ne _ _ (by decide), va_up_self]
  · rw [va_up_ne _ _ (by decide), va_up_ne _ _ (by decide), va_up_self]
  · rw [va_up_ne _ _ (by decide), va_up_self]
theorem q_cellInit {σ : xS} {c : Nat} {o : xO} (ho : σ.1 c = some o) (ho0 : o.1 = 0) : P_X0_init [.inr (some c)] σ 0 0 (mN (fun σ' => σ' = σ)) := by
  refine e_X0_init c σ 0 0 _ o ho ho0 ?_
  simp only [r_X0_init_0, r_X0_init_1, r_X0_init_4]
  refine ⟨fun σ' => σ' = σ, ⟨rfl, rfl, ⟨c, rfl⟩, rfl, rfl⟩, ?_⟩
  rintro s' rfl
  rw [mN_e]
theorem q_leaf {σ : xS} {t : Nat} {L : List Int32} (h : TXT σ t L) (ht : t < 24) : P_X0_leaf [.inr (some t)] σ 2 (9 + L.length) (mR (fun r σ' => ∃ c q g fi fr, r = some c ∧ frs σ c ∧ frs σ q ∧ σ' = (va_up σ.1 c (some (0, fi, fr)), va_up σ.2.1 q (some (L.length, g)), σ.2.2) ∧ AP g L ∧ fi 0 = nI 0 ∧ fi 1 = nI L.length ∧ fi 6 = nI 0 ∧ fi 7 = 0 ∧ fi 8 = 0 ∧ fr 2 = some q ∧ fr 3 = none ∧ fr 4 = none ∧ fr 5 = none)) := by
  obtain ⟨ti, tr, tg, a1, a2, a3, a4, a5, a6⟩ := id h
  refine e_X0_leaf (some t) σ 2 (9 + L.length) _ ?_
  simp only [r_X0_leaf_0, r_X0_leaf_3, r_X0_leaf_4, r_X0_leaf_7, r_X0_leaf_8, r_X0_leaf_9, r_X0_leaf_10, r_X0_leaf_13, r_X0_leaf_16, r_X0_leaf_17, r_X0_leaf_18, r_X0_leaf_21, r_X0_leaf_22]
  refine ⟨by omega, by omega, fun c h24 c1 c2 c3 => ?_⟩
  have hn : (va_up σ.1 c (some (0, (fun _ => (0 : Int32)), (fun _ => (none : Option Nat)))), σ.2).1 c = some (0, (fun _ => (0 : Int32)), (fun _ => (none : Option Nat))) := va_up_self _ _ _
  refine ⟨_, q_cellInit hn rfl, ?_⟩
  intro s' hs
  subst hs
  have hct : t ≠ c := by omega
  have ht2 : va_up σ.1 c (some (0, (fun _ => (0 : Int32)), (fun _ => (none : Option Nat)))) t = some (3, ti, tr) := by rw [va_up_ne _ _ hct]; exact a1
  simp only [xo (σ := (va_up σ.1 c (some (0, (fun _ => (0 : Int32)), (fun _ => (none : Option Nat)))), σ.2)) ht2, true_and, a3, xu, va_up_up]
  have hX : XF [] [] [] σ (va_up σ.1 c (some (0, upd (fun _ => (0 : Int32)) 1 (nI L.length), fun _ => none)), σ.2) := XF_o (XF_rf _ _ _ _) (Or.inr c1)
  have ho : (va_up σ.1 c (some (0, upd (fun _ => (0 : Int32)) 1 (nI L.length), (fun _ => (none : Option Nat)))), σ.2).1 c = some (0, upd (fun _ => (0 : Int32)) 1 (nI L.length), fun _ => none) := va_up_self _ _ _
  refine ⟨1, L.length, _, by omega, by omega, q_becomeLeaf (TXT_f h hX (by simp) (by simp)) ho rfl (fun z => hct z.symm), ?_⟩
  rintro s' ⟨q, g, fi, fr, hq, rfl, b1, b2, b3, b4, b5, b6, b7, b8⟩
  rw [mR_e]
  have hqc : q ≠ c := fun z => by
    have := hq.2.1
    rw [z] at this
    rw [ho] at this; cases this
  refine ⟨c, q, g, fi, fr, rfl, ⟨h24, c1, c2, c3⟩, ⟨hq.1, ?_, hq.2.2.1, hq.2.2.2⟩, ?_, b1, b2, ?_, b3, ?_, ?_, b5, b6, b7, b8⟩
  · have := hq.2.1
    show σ.1 q = none
    have e : va_up σ.1 c (some (0, upd (fun _ => (0 : Int32)) 1 (nI L.length), (fun _ => (none : Option Nat)))) q = σ.1 q := va_up_ne _ _ hqc
    rw [← e]; exact this
  · rw [va_up_up]
  · rw [b4 1 (by decide) (by decide)]; dsimp only; rw [pk_us]
  · rw [b4 7 (by decide) (by decide)]; dsimp only; rw [pk_un (by decide)]
  · rw [b4 8 (by decide) (by decide)]; dsimp only; rw [pk_un (by decide)]
theorem q_emptyLeaf (σ : xS) : P_X0_emptyLeaf [] σ 2 9 (mR (fun r σ' => ∃ c q g fi fr, r = some c ∧ frs σ c ∧ frs σ q ∧ q ≠ c ∧ σ' = (va_up σ.1 c (some (0, fi, fr)), va_up σ.2.1 q (some (0, g)), σ.2.2) ∧ fi 0 = nI 0 ∧ fi 1 = nI 0 ∧ fi 6 = nI 0 ∧ fi 7 = 0 ∧ fi 8 = 0 ∧ fr 2 = some q ∧ fr 3 = none ∧ fr 4 = none ∧ fr 5 = none)) := by
  refine e_X0_emptyLeaf σ 2 9 _ ?_
  have c0 : (nI 0 : Int32).toNatClampNeg = 0 := nI_clamp (by omega)
  have z0 : (0 : Int32) = nI 0 := by decide
  simp only [r_X0_emptyLeaf_0, r_X0_emptyLeaf_3, r_X0_emptyLeaf_4, r_X0_emptyLeaf_7, r_X0_emptyLeaf_8, r_X0_emptyLeaf_9, r_X0_emptyLeaf_10, r_X0_emptyLeaf_13, r_X0_emptyLeaf_14, r_X0_emptyLeaf_15, r_X0_emptyLeaf_17, r_X0_emptyLeaf_20, r_X0_emptyLeaf_21]
  refine ⟨by omega, by omega, fun c h24 c1 c2 c3 => ?_⟩
  have hn : (va_up σ.1 c (some (0, (fun _ => (0 : Int32)), (fun _ => (none : Option Nat)))), σ.2).1 c = some (0, (fun _ => (0 : Int32)), (fun _ => (none : Option Nat))) := va_up_self _ _ _
  refine ⟨_, q_cellInit hn rfl, ?_⟩
  intro s' hs
  subst hs
  simp only [xu, true_and, va_up_up, c0]
  refine ⟨nI_pos (by omega), by omega, by omega, by omega, fun q q24 q1 q2 q3 => ?_⟩
  rw [mR_e]
  have hqc : q ≠ c := fun z => by
    rw [z, va_up_self] at q1; cases q1
  rw [va_up_ne _ _ hqc] at q1
  refine ⟨c, q, _, _, _, rfl, ⟨h24, c1, c2, c3⟩, ⟨q24, q1, q2, q3⟩, hqc, rfl, pk_us, ?_, ?_, ?_, ?_, va_up_self _ _ _, ?_, ?_, ?_⟩
  · rw [pk_un (by decide)]; exact z0
  · rw [pk_un (by decide)]; exact z0
  · rw [pk_un (by decide)]
  · rw [pk_un (by decide)]
  · rw [va_up_ne _ _ (by decide)]
  · rw [va_up_ne _ _ (by decide)]
  · rw [va_up_ne _ _ (by decide)]
theorem q_slice (σ : xS) (b f m : Nat) : P_X0_slice [.inr (some b), .inl (nI f), .inl (nI m)] σ 1 9 (mR (fun r σ' => ∃ c fi fr, r = some c ∧ frs σ c ∧ σ' = (va_up σ.1 c (some (0, fi, fr)), σ.2) ∧ fi 0 = nI 2 ∧ fi 1 = nI m ∧ fi 6 = nI f ∧ fi 7 = 0 ∧ fi 8 = 0 ∧ fr 3 = none ∧ fr 4 = none ∧ fr 5 = some b)) := by
  refine e_X0_slice (nI f) (nI m) (some b) σ 1 9 _ ?_
  simp only [r_X0_slice_0, r_X0_slice_3, r_X0_slice_4, r_X0_slice_7, r_X0_slice_8, r_X0_slice_9, r_X0_slice_10, r_X0_slice_13, r_X0_slice_14, r_X0_slice_15, r_X0_slice_18, r_X0_slice_19, r_X0_slice_20, r_X0_slice_23, r_X0_slice_24, r_X0_slice_25, r_X0_slice_28, r_X0_slice_29]
  refine ⟨by omega, by omega, fun c h24 c1 c2 c3 => ?_⟩
  have hn : (va_up σ.1 c (some (0, (fun _ => (0 : Int32)), (fun _ => (none : Option Nat)))), σ.2).1 c = some (0, (fun _ => (0 : Int32)), (fun _ => (none : Option Nat))) := va_up_self _ _ _
  refine ⟨_, q_cellInit hn rfl, ?_⟩
  intro s' hs
  subst hs
  simp only [xu, true_and, va_up_up, mR_e]
  refine ⟨c, _, _, rfl, ⟨h24, c1, c2, c3⟩, rfl, ?_, pk_us, ?_, ?_, ?_, ?_, ?_, va_up_self _ _ _⟩
  · rw [pk_un (by decide), pk_un (by decide), pk_us]
  · rw [pk_un (by decide), pk_us]
  · rw [pk_un (by decide), pk_un (by decide), pk_un (by decide)]
  · rw [pk_un (by decide), pk_un (by decide), pk_un (by decide)]
  · exact va_up_ne _ _ (by decide)
  · exact va_up_ne _ _ (by decide)
/-- one cell more -/
theorem XC_new {σ σ' : xS} {T : sT} (h : XC σ T) (hT : ∀ c, T c ≠ none → wf T 13 c) (hf : XF [] [] [] σ σ') {c : Nat} (hc : frs σ c) {v : cV} {o : xO} (h1 : σ'.1 c = some o) (h2 : o.1 = 0) (h3 : o.2.1 1 = nI (tx (va_up T c (some v)) 13 c).length) (h4 : xck σ' o v) : XC σ' (va_up T c (some v)) ∧ T c = none := by
  have hTc : T c = none := by
    cases hv : T c with
    | none => rfl
    | some v =>
      obtain ⟨-, o, ho, -⟩ := h c v hv
      rw [hc.2.1] at ho; cases ho
  refine ⟨fun x w hx => ?_, hTc⟩
  by_cases hxc : x = c
  · subst hxc
    rw [va_up_self] at hx
    cases hx
    exact ⟨hc.1, o, h1, h2, h3, h4⟩
  · rw [va_up_ne _ _ hxc] at hx
    obtain ⟨g1, o, g2, g3, g4, g5⟩ := h x w hx
    refine ⟨g1, o, hf.1 x o (by simp) g2, g3, ?_, xck_f g5 hf (fun k hk => by simp at hk)⟩
    rw [g4, (ext_wf (ext_up hTc v) 13 x (hT x (by rw [hx]; exact fun z => by cases z))).2.1]
