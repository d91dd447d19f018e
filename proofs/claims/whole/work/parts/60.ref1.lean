/-! ===== the reference: first contracts ===== -/
theorem rf_up_s {g : Nat → Nat → Int32} {f i : Nat} {v : Int32} : rf_up g f i v f = upd (g f) i v := by simp [rf_up]
theorem rf_up_n {g : Nat → Nat → Int32} {f i j : Nat} {v : Int32} (h : j ≠ f) : rf_up g f i v j = g j := by simp [rf_up, h]
/-- a weaker end -/
theorem mm_in_ret {S : Type} {rk : Nat} {hk : mH S} {sp : mQ S} {ret ret' : Option mV → S → Prop} (h : ∀ r s, ret r s → ret' r s) {ins : Instr} {len pc : Nat} {ls : List (Option mV)} {st : List mV} {s : S} {a b : Nat} {k : mX S → Prop} (h1 : mm_in rk hk sp ret ins len pc ls st s a b k) : mm_in rk hk sp ret' ins len pc ls st s a b k := by
  by_cases c1 : ins = .ireturn
  · subst c1
    simp only [mm_in] at h1 ⊢
    split at h1
    · split at h1
      · exact h _ _ h1
      · exact ⟨h1.1, h _ _ h1.2⟩
      · exact h1.elim
    · exact h1.elim
  by_cases c2 : ins = .areturn
  · subst c2
    simp only [mm_in] at h1 ⊢
    split at h1
    · split at h1
      · exact h _ _ h1
      · exact h1.elim
    · exact h1.elim
  by_cases c3 : ins = .return_
  · subst c3
    simp only [mm_in] at h1 ⊢
    split at h1
    · split at h1
      · exact h _ _ h1
      · exact h1.elim
    · exact h1.elim
  unfold mm_in at h1 ⊢
  split at h1 <;> first | exact h1 | exact absurd rfl c1 | exact absurd rfl c2 | exact absurd rfl c3
theorem mm_ret {S : Type} {rk : Nat} {cd : mC} {hk : mH S} {sp : mQ S} {ret ret' : Option mV → S → Prop} (h : ∀ r s, ret r s → ret' r s) {x : mX S} (h1 : mm_W rk cd hk sp ret x) : mm_W rk cd hk sp ret' x := by
  intro P hP
  refine h1 P (fun y hy => hP y ?_)
  unfold mm_st at hy ⊢
  split at hy
  · exact hy.elim
  · exact mm_in_ret h hy
/-- how many places below N hold 0 -/
def FZ (f : Nat → Int32) : Nat → Nat
  | 0 => 0
  | n + 1 => FZ f n + (if f n = 0 then 1 else 0)
theorem FZ_congr {f g : Nat → Int32} : ∀ (n : Nat), (∀ j, j < n → (f j = 0 ↔ g j = 0)) → FZ f n = FZ g n
  | 0, _ => rfl
  | n + 1, h => by
    have h1 := FZ_congr n (fun j hj => h j (by omega))
    have h2 := h n (by omega)
    simp only [FZ, h1]
    by_cases hf : f n = 0
    · rw [if_pos hf, if_pos (h2.mp hf)]
    · rw [if_neg hf, if_neg (fun z => hf (h2.mpr z))]
theorem FZ_ne {f : Nat → Int32} {c : Nat} {v : Int32} : ∀ (n : Nat), n ≤ c → FZ (upd f c v) n = FZ f n := fun n h => FZ_congr n (fun j hj => by rw [pk_un (by omega)])
/-- a place that held 0 holds something else -/
theorem FZ_take {f : Nat → Int32} {c : Nat} {v : Int32} (hc : f c = 0) (hv : ¬ v = 0) : ∀ (n : Nat), c < n → FZ (upd f c v) n + 1 = FZ f n
  | 0, h => by omega
  | n + 1, h => by
    simp only [FZ]
    by_cases hcn : c = n
    · subst hcn
      rw [pk_us, if_neg hv, if_pos hc, FZ_ne c (Nat.le_refl _)]
    · have h1 := FZ_take hc hv n (by omega)
      rw [pk_un (Ne.symm hcn)]
      omega
theorem FZ_ex {f : Nat → Int32} : ∀ (n : Nat), 0 < FZ f n → ∃ c, c < n ∧ f c = 0
  | 0, h => by simp [FZ] at h
  | n + 1, h => by
    by_cases hf : f n = 0
    · exact ⟨n, by omega, hf⟩
    · simp only [FZ, if_neg hf] at h
      obtain ⟨c, h1, h2⟩ := FZ_ex n (by omega)
      exact ⟨c, by omega, h2⟩
theorem FZ_le {f : Nat → Int32} : ∀ (n : Nat), FZ f n ≤ n
  | 0 => Nat.le_refl _
  | n + 1 => by have := FZ_le (f := f) n; simp only [FZ]; split <;> omega
theorem k_in (μ : rf_M) (v a b : Int32) : P_in [.inl v, .inl a, .inl b] μ 0 0 (mI (fun r μ' => μ' = μ ∧ r = if a ≤ v ∧ v ≤ b then 1 else 0)) := by
  refine e_in v a b μ _ ?_
  simp only [r_in_0, r_in_1, r_in_2, r_in_5, r_in_6, r_in_7, r_in_10, r_in_11, r_in_14, r_in_15, mI_e]
  refine ⟨fun h => ⟨Or.inl rfl, trivial, ?_⟩, fun h => ⟨fun h2 => ⟨Or.inl rfl, trivial, ?_⟩, fun h2 => ⟨Or.inr rfl, trivial, ?_⟩⟩⟩
  · rw [if_neg]; rfl
    intro z
    have z1 := Int32.le_iff_toInt_le.mp z.1
    have z2 := Int32.lt_iff_toInt_lt.mp h
    omega
  · rw [if_neg]; rfl
    intro z
    have z1 := Int32.le_iff_toInt_le.mp z.2
    have z2 := Int32.lt_iff_toInt_lt.mp h2
    omega
  · rw [if_pos]; rfl
    constructor
    · rw [Int32.le_iff_toInt_le]
      have := mt Int32.lt_iff_toInt_lt.mpr h
      omega
    · rw [Int32.le_iff_toInt_le]
      have := mt Int32.lt_iff_toInt_lt.mpr h2
      omega
/-- a new cell of the reference -/
def newc (μ : rf_M) (c : Nat) (w a b n : Int32) : rf_M := (upd (upd μ.1 6 (nI c)) 5 (μ.1 5 - nI 1), rf_up (rf_up (rf_up (rf_up μ.2 0 c w) 1 c a) 2 c b) 3 c n)
theorem upd_id {f : Nat → Int32} {k : Nat} {v : Int32} (h : f k = v) : upd f k v = f := by
  funext j
  by_cases hj : j = k
  · subst hj; rw [pk_us, h]
  · exact pk_un hj
theorem k_newCell (μ : rf_M) (w a b n : Int32) (la : Nat) (h6 : μ.1 6 = nI la) (hla : la < 20480) (hz : 0 < FZ (μ.2 0) 20480) : P_newCell [.inr (some 39), .inl w, .inl a, .inl b, .inl n] μ 0 0 (mI (fun r μ' => ∃ c, c < 20480 ∧ μ.2 0 c = 0 ∧ r = nI c ∧ μ' = newc μ c w a b n)) := by
  refine e_newCell w a b n μ _ ?_
  obtain ⟨d, hd, hd0⟩ := FZ_ex 20480 hz
  generalize hret : (mI (fun r μ' => ∃ c, c < 20480 ∧ μ.2 0 c = 0 ∧ r = nI c ∧ μ' = newc μ c w a b n)) = ret
  have key : ∀ x : Nat, x < 20480 → W_newCell ret (0, [some (.inr (some 39)), some (.inl w), some (.inl a), some (.inl b), some (.inl n)], [], (upd μ.1 6 (nI x), μ.2), 0, 0) := by
    refine mm_loop (fun x : Nat => W_newCell ret (0, [some (.inr (some 39)), some (.inl w), some (.inl a), some (.inl b), some (.inl n)], [], (upd μ.1 6 (nI x), μ.2), 0, 0)) (fun x => x < 20480) (fun x => if x ≤ d then d - x else d + 20480 - x) ?_
    intro x hx ih
    rw [r_newCell_0]
    simp only [r_newCell_1, r_newCell_4, r_newCell_5, r_newCell_8, r_newCell_9, r_newCell_12, r_newCell_13, r_newCell_14, r_newCell_17, r_newCell_18, r_newCell_19, r_newCell_22, r_newCell_23, r_newCell_26, r_newCell_29, r_newCell_30, r_newCell_33, r_newCell_34, r_newCell_37, r_newCell_38, r_newCell_39, r_newCell_40, r_newCell_43, r_newCell_44, r_newCell_47, r_newCell_48, r_newCell_49, r_newCell_50, r_newCell_53, r_newCell_54, r_newCell_57, r_newCell_58, r_newCell_59, r_newCell_60, r_newCell_63, r_newCell_64, r_newCell_67, r_newCell_69, r_newCell_70, r_newCell_71, r_newCell_72, r_newCell_75, r_newCell_76, r_newCell_77, r_newCell_80, r_newCell_81, r_newCell_84]
    have e6 : upd μ.1 6 (nI x) 6 = nI x := pk_us
    simp only [e6, nI_clamp (show x < 2 ^ 31 by omega), vp_in_i (show x < 2 ^ 31 by omega), hx, true_and]
    refine ⟨fun h0 => ?_, fun h0 => ⟨?_, ?_⟩⟩
    · subst hret
      rw [mI_e]
      exact ⟨x, hx, h0, rfl, rfl⟩
    · rw [nI_z (by omega)]; omega
    · have hxd : x ≠ d := fun z => h0 (by rw [z]; exact hd0)
      have e1 : nI x + nI 1 - (nI x + nI 1) / nI 20480 * nI 20480 = nI ((x + 1) % 20480) := by
        rw [nI_add, pk_rem (by omega) (by omega) (by omega)]
      have e2 : (upd (upd μ.1 6 (nI x)) 6 (nI x + nI 1 - (nI x + nI 1) / nI 20480 * nI 20480)) = upd μ.1 6 (nI ((x + 1) % 20480)) := by
        rw [e1]
        funext j
        by_cases hj : j = 6
        · subst hj; rw [pk_us, pk_us]
        · rw [pk_un hj, pk_un hj, pk_un hj]
      rw [e2]
      by_cases hw : x + 1 = 20480
      · rw [hw, Nat.mod_self]
        refine ih 0 (by omega) ?_
        rw [if_pos (Nat.zero_le d)]
        split <;> omega
      · rw [Nat.mod_eq_of_lt (by omega)]
        refine ih (x + 1) (by omega) ?_
        split <;> split <;> omega
  have hk := key la hla
  rw [upd_id h6] at hk
  exact hk
def rf_set (g : Nat → Nat → Int32) (f : Nat) (h : Nat → Int32) : Nat → Nat → Int32 := fun j => if j = f then h else g j
theorem rf_up_set {g : Nat → Nat → Int32} {f i : Nat} {v : Int32} : rf_up g f i v = rf_set g f (upd (g f) i v) := rfl
theorem rf_set_s {g : Nat → Nat → Int32} {f : Nat} {h : Nat → Int32} : rf_set g f h f = h := by simp [rf_set]
theorem rf_set_n {g : Nat → Nat → Int32} {f j : Nat} {h : Nat → Int32} (hj : j ≠ f) : rf_set g f h j = g j := by simp [rf_set, hj]
theorem rf_set_set {g : Nat → Nat → Int32} {f : Nat} {h h2 : Nat → Int32} : rf_set (rf_set g f h) f h2 = rf_set g f h2 := by
  funext j
  by_cases hj : j = f
  · subst hj; rw [rf_set_s, rf_set_s]
  · rw [rf_set_n hj, rf_set_n hj, rf_set_n hj]
/-- a text kept behind all others -/
def ktx (f : Nat → Int32) (e : Nat) (cell : Int32) (n : Nat) (t : Nat → Int32) (k : Nat) : Nat → Int32 := fun j => if j = e then cell else if j = e + 1 then nI n else if e + 2 ≤ j ∧ j < e + 2 + k then t (j - (e + 2)) else f j
theorem ktx_step (f : Nat → Int32) (e : Nat) (cell : Int32) (n : Nat) (t : Nat → Int32) (k : Nat) : upd (ktx f e cell n t k) (e + 2 + k) (t k) = ktx f e cell n t (k + 1) := by
  funext j
  by_cases hj : j = e + 2 + k
  · subst hj
    rw [pk_us]
    simp only [ktx]
    rw [if_neg (by omega), if_neg (by omega), if_pos (by omega)]
    congr 1
    omega
  · rw [pk_un hj]
    simp only [ktx]
    split
    · rfl
    · split
      · rfl
      · by_cases h : e + 2 ≤ j ∧ j < e + 2 + k
        · rw [if_pos h, if_pos (by omega)]
        · rw [if_neg h, if_neg (by omega)]
theorem ktx_0 (f : Nat → Int32) (e : Nat) (cell : Int32) (n : Nat) (t : Nat → Int32) : upd (upd f e cell) (e + 1) (nI n) = ktx f e cell n t 0 := by
  funext j
  simp only [ktx, upd]
  by_cases h1 : j = e + 1
  · rw [if_pos h1, if_neg (by omega), if_pos h1]
  · rw [if_neg h1]
    by_cases h2 : j = e
    · rw [if_pos h2, if_pos h2]
    · rw [if_neg h2, if_neg h2, if_neg h1, if_neg (by omega)]
def keptT (μ : rf_M) (e : Nat) (cell : Int32) (n : Nat) : rf_M := (upd μ.1 8 (nI (e + 2 + n)), rf_set μ.2 7 (ktx (μ.2 7) e cell n (μ.2 21) n))
theorem k_keepText (μ : rf_M) (cell : Int32) (n e : Nat) (h8 : μ.1 8 = nI e) (hn : n ≤ 240) (he : e + 2 + n ≤ 81920) : P_keepText [.inr (some 39), .inl cell, .inl (nI n)] μ 0 0 (mI (fun r μ' => r = nI (e + 2) ∧ μ' = keptT μ e cell n)) := by
  refine e_keepText cell (nI n) μ _ ?_
  generalize hret : (mI (fun r μ' => r = nI (e + 2) ∧ μ' = keptT μ e cell n)) = ret
  have key : ∀ k : Nat, k ≤ n → W_keepText ret (24, [some (.inr (some 39)), some (.inl cell), some (.inl (nI n)), some (.inl (nI k))], [], (μ.1, rf_set μ.2 7 (ktx (μ.2 7) e cell n (μ.2 21) k)), 0, 0) := by
    refine mm_loop (fun k : Nat => W_keepText ret (24, [some (.inr (some 39)), some (.inl cell), some (.inl (nI n)), some (.inl (nI k))], [], (μ.1, rf_set μ.2 7 (ktx (μ.2 7) e cell n (μ.2 21) k)), 0, 0)) (fun k => k ≤ n) (fun k => n - k) ?_
    intro k hk ih
    rw [r_keepText_24]
    simp only [r_keepText_0, r_keepText_1, r_keepText_4, r_keepText_5, r_keepText_8, r_keepText_9, r_keepText_10, r_keepText_11, r_keepText_14, r_keepText_15, r_keepText_18, r_keepText_19, r_keepText_20, r_keepText_21, r_keepText_22, r_keepText_23, r_keepText_25, r_keepText_26, r_keepText_29, r_keepText_30, r_keepText_33, r_keepText_34, r_keepText_37, r_keepText_38, r_keepText_39, r_keepText_40, r_keepText_41, r_keepText_42, r_keepText_45, r_keepText_46, r_keepText_47, r_keepText_48, r_keepText_51, r_keepText_54, r_keepText_55, r_keepText_58, r_keepText_59, r_keepText_60, r_keepText_61, r_keepText_62, r_keepText_63, r_keepText_66, r_keepText_67, r_keepText_68, r_keepText_69, r_keepText_70, r_keepText_73, r_keepText_74, h8]
    refine ⟨fun h => ?_, fun h => ?_⟩
    · rw [nI_leI (by omega) (by omega)] at h
      have hkn : k = n := by omega
      subst hkn
      subst hret
      rw [mI_e]
      refine ⟨nI_add _ _, ?_⟩
      simp only [keptT, nI_add]
      rw [show e + (k + 2) = e + 2 + k by omega]
    · rw [nI_leI (by omega) (by omega)] at h
      simp only [nI_add, nI_clamp (show k < 2 ^ 31 by omega), nI_clamp (show e + 2 + k < 2 ^ 31 by omega), vp_in_i (show k < 2 ^ 31 by omega), vp_in_i (show e + 2 + k < 2 ^ 31 by omega)]
      refine ⟨by omega, by omega, ?_⟩
      have hh := ih (k + 1) (by omega) (by omega)
      rw [rf_up_set, rf_set_s, rf_set_n (show (21 : Nat) ≠ 7 by decide), ktx_step, rf_set_set]
      exact hh
  simp only [r_keepText_0, r_keepText_1, r_keepText_4, r_keepText_5, r_keepText_8, r_keepText_9, r_keepText_10, r_keepText_11, r_keepText_14, r_keepText_15, r_keepText_18, r_keepText_19, r_keepText_20, r_keepText_21, r_keepText_22, r_keepText_23, r_keepText_25, r_keepText_26, r_keepText_29, r_keepText_30, r_keepText_33, r_keepText_34, r_keepText_37, r_keepText_38, r_keepText_39, r_keepText_40, r_keepText_41, r_keepText_42, r_keepText_45, r_keepText_46, r_keepText_47, r_keepText_48, r_keepText_51, r_keepText_54, r_keepText_55, r_keepText_58, r_keepText_59, r_keepText_60, r_keepText_61, r_keepText_62, r_keepText_63, r_keepText_66, r_keepText_67, r_keepText_68, r_keepText_69, r_keepText_70, r_keepText_73, r_keepText_74, h8]
  simp only [nI_add, nI_clamp (show e < 2 ^ 31 by omega), nI_clamp (show e + 1 < 2 ^ 31 by omega), vp_in_i (show e < 2 ^ 31 by omega), vp_in_i (show e + 1 < 2 ^ 31 by omega)]
  refine ⟨by omega, by omega, ?_⟩
  have hh := key 0 (Nat.zero_le n)
  rw [rf_up_set, rf_up_set, rf_set_s, rf_set_set, ktx_0 _ _ _ _ (μ.2 21)]
  exact hh
