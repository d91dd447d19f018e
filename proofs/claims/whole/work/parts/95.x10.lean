/-! ===== the class: its whole state ===== -/
def ZF (ko kg kr : List Nat) (σ σ' : xS) : Prop := (∀ k o, k < 24 → k ∉ ko → σ.1 k = some o → σ'.1 k = some o) ∧ (∀ k t, k < 24 → k ∉ kg → σ.2.1 k = some t → σ'.2.1 k = some t) ∧ (∀ k t, k < 24 → k ∉ kr → σ.2.2 k = some t → σ'.2.2 k = some t) ∧ ∀ k, k < 24 → σ.2.1 k = none → σ'.2.1 k = none
theorem ZF_x {ko kg kr : List Nat} {σ σ' : xS} (h : XF ko kg kr σ σ') : ZF ko kg kr σ σ' := ⟨fun k o _ b c => h.1 k o b c, fun k o _ b c => h.2.1 k o b c, fun k o _ b c => h.2.2.1 k o b c, h.2.2.2⟩
theorem ZF_y {σ σ' : xS} (h : YF σ σ') : ZF [11, 13, 15] [16] [14] σ σ' := ⟨fun k o a b c => h.1 k o a (fun z => b (by simp [z])) (fun z => b (by simp [z])) (fun z => b (by simp [z])) c, fun k t a b c => h.2.1 k t a (fun z => b (by simp [z])) c, fun k t a b c => h.2.2.1 k t a (fun z => b (by simp [z])) c, h.2.2.2⟩
theorem ZF_v {T : sT} {σ σ' : xS} (hC : XC σ T) (h : WFr T σ σ') : ZF [17] [] [] σ σ' := ⟨fun k o a b c => by rw [h.2.1 k (XC_24 hC a) (fun z => b (by simp [z]))]; exact c, fun k t _ _ c => by rw [h.1]; exact c, fun k t _ _ c => by rw [h.1]; exact c, fun k _ c => by rw [h.1]; exact c⟩
theorem ZF_tr {ko kg kr ko' kg' kr' mo mg mr : List Nat} {σ σ1 σ2 : xS} (h : ZF ko kg kr σ σ1) (h' : ZF ko' kg' kr' σ1 σ2) (a1 : ∀ k ∈ ko, k ∈ mo) (a2 : ∀ k ∈ ko', k ∈ mo) (b1 : ∀ k ∈ kg, k ∈ mg) (b2 : ∀ k ∈ kg', k ∈ mg) (c1 : ∀ k ∈ kr, k ∈ mr) (c2 : ∀ k ∈ kr', k ∈ mr) : ZF mo mg mr σ σ2 :=
  ⟨fun k o q hk ho => h'.1 k o q (fun z => hk (a2 k z)) (h.1 k o q (fun z => hk (a1 k z)) ho), fun k o q hk ho => h'.2.1 k o q (fun z => hk (b2 k z)) (h.2.1 k o q (fun z => hk (b1 k z)) ho), fun k o q hk ho => h'.2.2.1 k o q (fun z => hk (c2 k z)) (h.2.2.1 k o q (fun z => hk (c1 k z)) ho), fun k hk h0 => h'.2.2.2 k hk (h.2.2.2 k hk h0)⟩
theorem TXT_z {σ σ' : xS} {t : Nat} {L : List Int32} {ko kg kr : List Nat} (h : TXT σ t L) (hf : ZF ko kg kr σ σ') (ht : t + 1 < 24) (h1 : t ∉ ko) (h2 : t + 1 ∉ kg) : TXT σ' t L := by
  obtain ⟨fi, fr, g, a1, a2, a3, a4, a5⟩ := h
  exact ⟨fi, fr, g, hf.1 t _ (by omega) h1 a1, a2, a3, hf.2.1 _ _ ht h2 a4, a5⟩
theorem PCS_z {σ σ' : xS} {t : Nat} {P : List Nat} {ko kg kr : List Nat} (h : PCS σ t P) (hf : ZF ko kg kr σ σ') (ht : t + 1 < 24) (h1 : t ∉ ko) (h2 : t + 1 ∉ kr) : PCS σ' t P := by
  obtain ⟨fi, fr, g, a1, a2, a3, a4, a5, a6⟩ := h
  exact ⟨fi, fr, g, hf.1 t _ (by omega) h1 a1, a2, a3, hf.2.2.2 _ ht a4, hf.2.2.1 _ _ ht h2 a5, a6⟩
def SH (σ : xS) (mk : Nat) : Prop := ∃ fi fr, σ.1 0 = some (6, fi, fr) ∧ fr 0 = some 1 ∧ fr 1 = some 2 ∧ fr 2 = some 3 ∧ fr 4 = some 4 ∧ fr 5 = some 6 ∧ fr 6 = some 9 ∧ fr 7 = some 11 ∧ fr 8 = some 17 ∧ fr 9 = some 18 ∧ fr 10 = some 20 ∧ fi 3 = nI mk
theorem SH_z {σ σ' : xS} {mk : Nat} {ko kg kr : List Nat} (h : SH σ mk) (hf : ZF ko kg kr σ σ') (h1 : 0 ∉ ko) : SH σ' mk := by
  obtain ⟨fi, fr, a1, a2⟩ := h
  exact ⟨fi, fr, hf.1 0 _ (by omega) h1 a1, a2⟩
def IR (σ : xS) (k : Nat) (q : Option (List Nat)) : Prop := ∃ g, σ.2.2 k = some (8, g) ∧ σ.2.1 k = none ∧ ∀ l, q = some l → AP g (l.map some) ∧ l.length = 8
theorem IR_z {σ σ' : xS} {k : Nat} {q : Option (List Nat)} {ko kg kr : List Nat} (h : IR σ k q) (hf : ZF ko kg kr σ σ') (hk : k < 24) (h1 : k ∉ kr) : IR σ' k q := by
  obtain ⟨g, a1, a2, a3⟩ := h
  exact ⟨g, hf.2.2.1 k _ hk h1 a1, hf.2.2.2 k hk a2, a3⟩
def TB (σ : xS) (en nu : List Nat) (ev : Nat) : Prop := ∃ fi fr g h, σ.1 6 = some (2, fi, fr) ∧ fr 0 = some 7 ∧ fr 1 = some 8 ∧ fi 2 = nI en.length ∧ fi 3 = nI ev ∧ σ.2.1 7 = none ∧ σ.2.2 7 = some (24, g) ∧ AP g (en.map some) ∧ σ.2.1 8 = some (24, h) ∧ AP h (nu.map nI) ∧ nu.length = en.length ∧ en.length ≤ 24
theorem TB_z {σ σ' : xS} {en nu : List Nat} {ev : Nat} {ko kg kr : List Nat} (h : TB σ en nu ev) (hf : ZF ko kg kr σ σ') (h1 : 6 ∉ ko) (h2 : 8 ∉ kg) (h3 : 7 ∉ kr) : TB σ' en nu ev := by
  obtain ⟨fi, fr, g, h, a1, a2, a3, a4, a5, a6, a7, a8, a9, a10⟩ := h
  exact ⟨fi, fr, g, h, hf.1 6 _ (by omega) h1 a1, a2, a3, a4, a5, hf.2.2.2 7 (by omega) a6, hf.2.2.1 7 _ (by omega) h3 a7, a8, hf.2.1 8 _ (by omega) h2 a9, a10⟩
def WK (σ : xS) (st : Nat) : Prop := ∃ fi fr, σ.1 17 = some (4, fi, fr) ∧ fi 0 = nI st
theorem WK_z {σ σ' : xS} {st : Nat} {ko kg kr : List Nat} (h : WK σ st) (hf : ZF ko kg kr σ σ') (h1 : 17 ∉ ko) : WK σ' st := by
  obtain ⟨fi, fr, a1, a2⟩ := h
  exact ⟨fi, fr, hf.1 17 _ (by omega) h1 a1, a2⟩
def STc (σ : xS) : Prop := ∃ g h, σ.2.1 22 = some (3, g) ∧ g 0 = nI 0 ∧ g 1 = nI 1 ∧ g 2 = nI 1 ∧ σ.2.1 23 = some (3, h) ∧ h 0 = nI 32 ∧ h 1 = nI 12 ∧ h 2 = nI 8
theorem STc_z {σ σ' : xS} {ko kg kr : List Nat} (h : STc σ) (hf : ZF ko kg kr σ σ') (h1 : 22 ∉ kg) (h2 : 23 ∉ kg) : STc σ' := by
  obtain ⟨g, h, a1, a2, a3, a4, a5, a6⟩ := h
  exact ⟨g, h, hf.2.1 22 _ (by omega) h1 a1, a2, a3, a4, hf.2.1 23 _ (by omega) h2 a5, a6⟩
def mk (im : Nat → Option (List Nat)) : Nat := (if (im 0).isSome then 1 else 0) + (if (im 1).isSome then 2 else 0)
def XO (σ : xS) (sl : List Nat) (im : Nat → Option (List Nat)) (en nu : List Nat) (ev : Nat) (dr : List Int32) (st : Nat) : Prop :=
  SH σ (mk im) ∧ IR σ 1 (some sl) ∧ IR σ 2 (im 0) ∧ IR σ 3 (im 1) ∧ TXT σ 4 dr ∧ TB σ en nu ev ∧ (∃ P, PCS σ 9 P) ∧ WK σ st ∧ (∃ L, TXT σ 18 L) ∧ (∃ M, TXT σ 20 M) ∧ STc σ
def XS (σ : xS) (T : sT) (sl : List Nat) (im : Nat → Option (List Nat)) (en nu : List Nat) (ev : Nat) (dr : List Int32) (sm dp lo tn st : Nat) (sp : List Nat) : Prop :=
  WS σ T sm dp lo tn st sp ∧ XO σ sl im en nu ev dr st ∧ (∀ r ∈ rts sl im en, wf T 12 r) ∧ (dr.length ≤ 40 ∧ ∀ x ∈ dr, (0 : Int32) < x) ∧ (sm ≤ 32 ∧ 1 ≤ dp ∧ dp ≤ 12 ∧ 1 ≤ lo ∧ lo ≤ 8)
/-- what only readers and the weaver use -/
theorem XO_s {σ σ' : xS} {sl : List Nat} {im : Nat → Option (List Nat)} {en nu : List Nat} {ev : Nat} {dr : List Int32} {st : Nat} {ko kg kr : List Nat} (h : XO σ sl im en nu ev dr st) (hf : ZF ko kg kr σ σ') (h1 : ∀ k ∈ ko, k ∈ [9, 11, 13, 15, 18, 20]) (h2 : ∀ k ∈ kg, k ∈ [12, 16, 19, 21]) (h3 : ∀ k ∈ kr, k ∈ [10, 14]) (hP : ∃ P, PCS σ' 9 P) (hL : ∃ L, TXT σ' 18 L) (hM : ∃ M, TXT σ' 20 M) : XO σ' sl im en nu ev dr st := by
  obtain ⟨a1, a2, a3, a4, a5, a6, -, a8, -, -, a11⟩ := h
  exact ⟨SH_z a1 hf (fun z => by have := h1 _ z; simp at this), IR_z a2 hf (by omega) (fun z => by have := h3 _ z; simp at this), IR_z a3 hf (by omega) (fun z => by have := h3 _ z; simp at this), IR_z a4 hf (by omega) (fun z => by have := h3 _ z; simp at this), TXT_z a5 hf (by omega) (fun z => by have := h1 _ z; simp at this) (fun z => by have := h2 _ z; simp at this), TB_z a6 hf (fun z => by have := h1 _ z; simp at this) (fun z => by have := h2 _ z; simp at this) (fun z => by have := h3 _ z; simp at this), hP, WK_z a8 hf (fun z => by have := h1 _ z; simp at this), hL, hM, STc_z a11 hf (fun z => by have := h2 _ z; simp at this) (fun z => by have := h2 _ z; simp at this)⟩
theorem XO_18 {σ σ' : xS} {sl : List Nat} {im : Nat → Option (List Nat)} {en nu : List Nat} {ev : Nat} {dr L : List Int32} {st : Nat} (h : XO σ sl im en nu ev dr st) (hf : XF [18] [19] [] σ σ') (hL : TXT σ' 18 L) : XO σ' sl im en nu ev dr st := by
  obtain ⟨P, hP⟩ := h.2.2.2.2.2.2.1
  obtain ⟨M, hM⟩ := h.2.2.2.2.2.2.2.2.2.1
  exact XO_s h (ZF_x hf) (by simp) (by simp) (by simp) ⟨P, PCS_f hP hf (by omega) (by simp) (by simp)⟩ ⟨L, hL⟩ ⟨M, TXT_f hM hf (by simp) (by simp)⟩
theorem XO_20 {σ σ' : xS} {sl : List Nat} {im : Nat → Option (List Nat)} {en nu : List Nat} {ev : Nat} {dr L : List Int32} {st : Nat} (h : XO σ sl im en nu ev dr st) (hf : XF [20] [21] [] σ σ') (hL : TXT σ' 20 L) : XO σ' sl im en nu ev dr st := by
  obtain ⟨P, hP⟩ := h.2.2.2.2.2.2.1
  obtain ⟨M, hM⟩ := h.2.2.2.2.2.2.2.2.1
  exact XO_s h (ZF_x hf) (by simp) (by simp) (by simp) ⟨P, PCS_f hP hf (by omega) (by simp) (by simp)⟩ ⟨M, TXT_f hM hf (by simp) (by simp)⟩ ⟨L, hL⟩
theorem XO_9 {σ σ' : xS} {sl : List Nat} {im : Nat → Option (List Nat)} {en nu : List Nat} {ev : Nat} {dr : List Int32} {P : List Nat} {st : Nat} (h : XO σ sl im en nu ev dr st) (hf : XF [9] [] [10] σ σ') (hL : PCS σ' 9 P) : XO σ' sl im en nu ev dr st := by
  obtain ⟨L, hL'⟩ := h.2.2.2.2.2.2.2.2.1
  obtain ⟨M, hM⟩ := h.2.2.2.2.2.2.2.2.2.1
  exact XO_s h (ZF_x hf) (by simp) (by simp) (by simp) ⟨P, hL⟩ ⟨L, TXT_f hL' hf (by simp) (by simp)⟩ ⟨M, TXT_f hM hf (by simp) (by simp)⟩
theorem XO_y {σ σ' : xS} {sl : List Nat} {im : Nat → Option (List Nat)} {en nu : List Nat} {ev : Nat} {dr : List Int32} {st : Nat} (h : XO σ sl im en nu ev dr st) (hf : YF σ σ') : XO σ' sl im en nu ev dr st := by
  obtain ⟨P, hP⟩ := h.2.2.2.2.2.2.1
  obtain ⟨L, hL⟩ := h.2.2.2.2.2.2.2.2.1
  obtain ⟨M, hM⟩ := h.2.2.2.2.2.2.2.2.2.1
  have hz := ZF_y hf
  exact XO_s h hz (by simp) (by simp) (by simp) ⟨P, PCS_z hP hz (by omega) (by simp) (by simp)⟩ ⟨L, TXT_z hL hz (by omega) (by simp) (by simp)⟩ ⟨M, TXT_z hM hz (by omega) (by simp) (by simp)⟩
/-- the weaver, where others' things change -/
theorem WS_k {σ σ' : xS} {T : sT} {sm dp lo tn st : Nat} {sp : List Nat} (h : WS σ T sm dp lo tn st sp) {ko kg kr : List Nat} (hf : XF ko kg kr σ σ') (h1 : ∀ k ∈ ko, k < 24 ∧ k ≠ 11 ∧ k ≠ 13 ∧ k ≠ 15) (h2 : ∀ k ∈ kg, k < 24 ∧ k ≠ 12 ∧ k ≠ 16) (h3 : 14 ∉ kr) : WS σ' T sm dp lo tn st sp := by
  obtain ⟨hC, hT, ⟨fi, fr, w1, w2, w3, w4, w5, w6⟩, ⟨g, r1, r2⟩, ⟨P, hP⟩, ⟨L, hL⟩, hM, hnd, hsp⟩ := h
  have h24 := SPC_24 _ _ w6
  have hn : ∀ k ∈ ko, T k = none := fun k hk => XC_24 hC (h1 k hk).1
  refine ⟨XC_f hC hf hn (fun k hk => (h2 k hk).1), hT, ⟨fi, fr, hf.1 11 _ (fun z => (h1 11 z).2.1 rfl) w1, w2, w3, w4, w5, SPC_f sp _ w6 (fun k o hk ho => hf.1 k o (fun z => by have := h24 k hk; have := (h1 k z).1; omega) ho)⟩, ⟨g, hf.2.1 12 _ (fun z => (h2 12 z).2.1 rfl) r1, r2⟩, ⟨P, PCS_f hP hf (by omega) (fun z => (h1 13 z).2.2.1 rfl) h3⟩, ⟨L, TXT_f hL hf (fun z => (h1 15 z).2.2.2 rfl) (fun z => (h2 16 z).2.2 rfl)⟩, fun c o hc ho => ?_, hnd, hsp⟩
  obtain ⟨-, o', p1, -⟩ := XC_nn hC hc
  have := KP_x hf hn c o' hc p1
  rw [this] at ho
  cases ho
  exact hM c _ hc p1
section
variable {σ : xS} {T : sT} {sl : List Nat} {im : Nat → Option (List Nat)} {en nu : List Nat} {ev : Nat} {dr : List Int32} {sm dp lo tn st : Nat} {sp : List Nat}
/-! small ones -/
theorem i8 (s : Int32) : (nI 0 ≤ s ∧ s ≤ nI 7) ↔ (¬ s < 0 ∧ ¬ nI 8 ≤ s) := by
  rw [nI_0, Int32.lt_iff_toInt_lt, Int32.le_iff_toInt_le, Int32.le_iff_toInt_le, Int32.le_iff_toInt_le, nI_toInt (show 7 < 2 ^ 31 by omega), nI_toInt (show 8 < 2 ^ 31 by omega)]
  omega
theorem p_isSlot (σ : xS) (s : Int32) : P_X6_isSlot [.inl s] σ 0 0 (mI (fun r σ' => σ' = σ ∧ r = if nI 0 ≤ s ∧ s ≤ nI 7 then 1 else 0)) := by
  refine e_X6_isSlot s σ 0 0 _ ?_
  simp only [r_X6_isSlot_0, r_X6_isSlot_1, r_X6_isSlot_4, r_X6_isSlot_5, r_X6_isSlot_7, r_X6_isSlot_10, r_X6_isSlot_11, r_X6_isSlot_14, r_X6_isSlot_15, mI_e]
  refine ⟨fun h => ⟨Or.inl nI_0, trivial, ?_⟩, fun h => ⟨fun h2 => ⟨Or.inl nI_0, trivial, ?_⟩, fun h2 => ⟨Or.inr rfl, trivial, ?_⟩⟩⟩
  · rw [if_neg (fun z => ((i8 s).mp z).1 h)]; exact nI_0
  · rw [if_neg (fun z => ((i8 s).mp z).2 h2)]; exact nI_0
  · rw [if_pos ((i8 s).mpr ⟨h, h2⟩)]; rfl
theorem p_isRule (σ : xS) (s : Int32) : P_X6_isRule [.inl s] σ 0 0 (mI (fun r σ' => σ' = σ ∧ r = if nI 0 ≤ s ∧ s ≤ nI 2 then 1 else 0)) := by
  refine e_X6_isRule s σ 0 0 _ ?_
  have i2 : (nI 0 ≤ s ∧ s ≤ nI 2) ↔ (¬ s < 0 ∧ ¬ nI 2 < s) := by
    rw [nI_0, Int32.lt_iff_toInt_lt, Int32.lt_iff_toInt_lt, Int32.le_iff_toInt_le, Int32.le_iff_toInt_le]; omega
  simp only [r_X6_isRule_0, r_X6_isRule_1, r_X6_isRule_4, r_X6_isRule_5, r_X6_isRule_6, r_X6_isRule_9, r_X6_isRule_10, r_X6_isRule_13, r_X6_isRule_14, mI_e]
  refine ⟨fun h => ⟨Or.inl nI_0, trivial, ?_⟩, fun h => ⟨fun h2 => ⟨Or.inl nI_0, trivial, ?_⟩, fun h2 => ⟨Or.inr rfl, trivial, ?_⟩⟩⟩
  · rw [if_neg (fun z => (i2.mp z).1 h)]; exact nI_0
  · rw [if_neg (fun z => (i2.mp z).2 h2)]; exact nI_0
  · rw [if_pos (i2.mpr ⟨h, h2⟩)]; rfl
theorem p_isImage (σ : xS) (s : Int32) : P_X6_isImage [.inl s] σ 0 0 (mI (fun r σ' => σ' = σ ∧ r = if nI 0 ≤ s ∧ s ≤ nI 1 then 1 else 0)) := by
  refine e_X6_isImage s σ 0 0 _ ?_
  have i2 : (nI 0 ≤ s ∧ s ≤ nI 1) ↔ (¬ s < 0 ∧ ¬ nI 2 ≤ s) := by
    rw [nI_0, Int32.lt_iff_toInt_lt, Int32.le_iff_toInt_le, Int32.le_iff_toInt_le, Int32.le_iff_toInt_le, nI_toInt (show 1 < 2 ^ 31 by omega), nI_toInt (show 2 < 2 ^ 31 by omega)]; omega
  simp only [r_X6_isImage_0, r_X6_isImage_1, r_X6_isImage_4, r_X6_isImage_5, r_X6_isImage_6, r_X6_isImage_9, r_X6_isImage_10, r_X6_isImage_13, r_X6_isImage_14, mI_e]
  refine ⟨fun h => ⟨Or.inl nI_0, trivial, ?_⟩, fun h => ⟨fun h2 => ⟨Or.inl nI_0, trivial, ?_⟩, fun h2 => ⟨Or.inr rfl, trivial, ?_⟩⟩⟩
  · rw [if_neg (fun z => (i2.mp z).1 h)]; exact nI_0
  · rw [if_neg (fun z => (i2.mp z).2 h2)]; exact nI_0
  · rw [if_pos (i2.mpr ⟨h, h2⟩)]; rfl
theorem p_asNumber (σ : xS) (s : Int32) (hs : s = 0 ∨ s = 1) : P_X6_asNumber [.inl s] σ 0 0 (mI (fun r σ' => σ' = σ ∧ r = s)) := by
  refine e_X6_asNumber s σ 0 0 _ ?_
  simp only [r_X6_asNumber_0, r_X6_asNumber_1, r_X6_asNumber_4, r_X6_asNumber_5, r_X6_asNumber_8, r_X6_asNumber_9, mI_e]
  refine ⟨fun h => ⟨trivial, by rw [h, nI_0]⟩, fun h => ⟨trivial, ?_⟩⟩
  rcases hs with z | z
  · exact absurd z h
  · rw [z]; rfl
theorem XO_cellOf (h : XO σ sl im en nu ev dr st) (s : Int32) : P_X6_cellOf [.inr (some 0), .inl s] σ 0 0 (mR (fun r σ' => σ' = σ ∧ r = ix sl s)) := by
  obtain ⟨⟨fi, fr, a1, a2, -⟩, ⟨g, b1, b2, b3⟩, -⟩ := id h
  obtain ⟨b3, b4⟩ := b3 sl rfl
  refine e_X6_cellOf s 0 σ 0 0 _ _ a1 rfl ?_
  simp only [r_X6_cellOf_0, r_X6_cellOf_1]
  refine ⟨_, p_isSlot σ s, ?_⟩
  rintro r s' ⟨hs, hr⟩
  subst hs
  subst hr
  simp only [r_X6_cellOf_4, r_X6_cellOf_7, r_X6_cellOf_8, r_X6_cellOf_11, r_X6_cellOf_12, r_X6_cellOf_13, r_X6_cellOf_16, r_X6_cellOf_17, xo a1, a2, true_and, xr b1, mR_e]
  rcases ix_8 b4 s with ⟨h1, h2⟩ | ⟨j, c, rfl, hj, hc, h1, h2⟩
  · rw [if_neg h2, h1]
    exact ⟨fun _ => rfl, fun z => absurd rfl z⟩
  · rw [if_pos h2, h1]
    refine ⟨fun z => absurd z (by decide), fun _ => ⟨?_, ?_⟩⟩
    · rw [vp_in_i (by omega)]; exact hj
    · rw [nI_clamp (by omega)]; exact b3 j _ (by rw [List.getElem?_map, hc]; rfl)
/-- a slot holds a cell -/
theorem IR_set {σ : xS} {k j c : Nat} {l : List Nat} (h : IR σ k (some l)) (hj : j < 8) {g : Nat → Option Nat} (hg : σ.2.2 k = some (8, g)) : IR (σ.1, σ.2.1, va_up σ.2.2 k (some (8, va_up g j (some c)))) k (some (l.set j c)) := by
  obtain ⟨g', b1, b2, b3⟩ := h
  rw [hg] at b1
  cases b1
  obtain ⟨b3, b4⟩ := b3 l rfl
  refine ⟨va_up g j (some c), va_up_self _ _ _, b2, fun l' hl' => ?_⟩
  cases hl'
  refine ⟨fun i x hi => ?_, by rw [List.length_set]; exact b4⟩
  rw [List.getElem?_map, List.getElem?_set] at hi
  by_cases hij : j = i
  · subst hij
    rw [if_pos rfl, if_pos (by omega)] at hi
    cases hi
    exact va_up_self _ _ _
  · rw [if_neg hij] at hi
    rw [va_up_ne _ _ (fun z => hij z.symm)]
    exact b3 i x (by rw [List.getElem?_map]; exact hi)
theorem XO_slots {σ σ' : xS} {sl' : List Nat} (h : XO σ sl im en nu ev dr st) (hf : XF [] [] [1] σ σ') (h' : IR σ' 1 (some sl')) : XO σ' sl' im en nu ev dr st := by
  obtain ⟨a1, a2, a3, a4, a5, a6, ⟨P, a7⟩, a8, ⟨L, a9⟩, ⟨M, a10⟩, a11⟩ := h
  have hz := ZF_x hf
  exact ⟨SH_z a1 hz (by simp), h', IR_z a3 hz (by omega) (by simp), IR_z a4 hz (by omega) (by simp), TXT_f a5 hf (by simp) (by simp), TB_z a6 hz (by simp) (by simp) (by simp), ⟨P, PCS_f a7 hf (by omega) (by simp) (by simp)⟩, WK_z a8 hz (by simp), ⟨L, TXT_f a9 hf (by simp) (by simp)⟩, ⟨M, TXT_f a10 hf (by simp) (by simp)⟩, STc_z a11 hz (by simp) (by simp)⟩
theorem rts_set {sl : List Nat} {j c : Nat} {im : Nat → Option (List Nat)} {en : List Nat} {p : Nat → Prop} (h : ∀ r ∈ rts sl im en, p r) (hc : p c) : ∀ r ∈ rts (sl.set j c) im en, p r := fun r hr => by
  unfold rts at hr
  rcases List.mem_append.mp hr with hr | hr
  · rcases List.mem_or_eq_of_mem_set hr with hr | hr
    · exact h r (by simp [rts, hr])
    · rw [hr]; exact hc
  · exact h r (List.mem_append_right _ hr)
theorem XS_slot (h : XS σ T sl im en nu ev dr sm dp lo tn st sp) {j c : Nat} (hj : j < 8) (hc : wf T 12 c) : ∃ g, σ.2.2 1 = some (8, g) ∧ XS (σ.1, σ.2.1, va_up σ.2.2 1 (some (8, va_up g j (some c)))) T (sl.set j c) im en nu ev dr sm dp lo tn st sp := by
  obtain ⟨h1, h2, h3, h4, h5⟩ := h
  obtain ⟨g, b1, -⟩ := id h2.2.1
  have hX : XF [] [] [1] σ (σ.1, σ.2.1, va_up σ.2.2 1 (some (8, va_up g j (some c)))) := XF_r (XF_rf _ _ _ _) (Or.inl (by simp))
  exact ⟨g, b1, WS_k h1 hX (by simp) (by simp) (by simp), XO_slots h2 hX (IR_set h2.2.1 hj b1), rts_set h3 hc, h4, h5⟩
theorem q_hold (h : XS σ T sl im en nu ev dr sm dp lo tn st sp) {j c : Nat} (hj : j < 8) (hc : wf T 12 c) : P_X6_hold [.inr (some 0), .inl (nI j), .inr (some c)] σ 0 0 (mI (fun r σ' => r = nI (tx T 12 c).length ∧ XS σ' T (sl.set j c) im en nu ev dr sm dp lo tn st sp)) := by
  obtain ⟨g, hg, hS⟩ := XS_slot h hj hc
  obtain ⟨⟨fi, fr, a1, a2, -⟩, -⟩ := id h.2.1
  obtain ⟨v, o, -, -, h24, o1, o2, o3, -⟩ := XC_many (fun _ _ z => z) h.1.1 (Nat.le_refl 12) hc
  refine e_X6_hold (nI j) (some c) 0 σ 0 0 _ _ a1 rfl ?_
  simp only [r_X6_hold_0, r_X6_hold_1]
  refine ⟨_, p_isSlot σ _, ?_⟩
  rintro r s' ⟨hs, hr⟩
  subst hs
  subst hr
  rw [if_pos (nI_rng' (by omega) (by omega) (by omega))]
  simp only [r_X6_hold_4, r_X6_hold_7, r_X6_hold_8, r_X6_hold_12, r_X6_hold_13, r_X6_hold_14, r_X6_hold_17, r_X6_hold_18, r_X6_hold_19, r_X6_hold_20, r_X6_hold_21, r_X6_hold_24, sN, sD, and_true, xo a1, a2, true_and, xr hg, vp_in_i (show j < 2 ^ 31 by omega), nI_clamp (show j < 2 ^ 31 by omega), xo o1, o2, o3, mI_e]
  refine ⟨fun z => absurd z (by decide), fun _ => ⟨by omega, by omega, hj, hS⟩⟩
end
