/-! ===== the small machine, for any end of the caller ===== -/
section MMQ
variable {S : Type} {p : Program} {l : Launch} {e : Env} {R : Room} {s0 : State} {m : MethodId} {args : Array Value} {below : List Frame} {meth : Method} {c : Code} {cc : ByteArray} {nL : Nat} {Wd : S → Heap → Prop} {rho : Nat → Nat} {A : Nat → Prop} {hk : mH S} {sp : mQ S} {cd : mC} {rk : Nat} {ret : Option mV → S → Prop} {Q : State → Prop}
set_option maxHeartbeats 4000000 in
theorem mm_stepQ (hx : p.tables.exec = Jvm.exec) (hb : c.code = cc) (hcd : ∀ pc ins len, mm_lk cd pc = some (ins, len) → decode cc pc = .ok (ins, len)) (hln : ∀ pc ins len, mm_lk cd pc = some (ins, len) → mm_okl ins len = true) (hac : (∀ x y, 24 ≤ x → 24 ≤ y → rho x = rho y → x = y) ∨ ∀ pc d o len, mm_lk cd pc ≠ some (.if_acmp d o, len)) (h02 : rk = 0 ∨ rk = 2) (HRi : ∀ (pc : Nat) (v : Int32) (s : S), rk = 2 → ret (some (.inl v)) s → decode cc pc = .ok (.ireturn, 1) → ∀ (H : Heap) (locs : List Loc) (cells slots : Nat) (ls : Array Slot), Wd s H → va_S A s0.heap H locs → cells ≤ R.cells → slots ≤ R.slots → W p l e R s0 m args below meth c H locs cells slots Q (F0 m pc ls [.int v])) (HRv : ∀ (pc : Nat) (s : S), rk = 0 → ret none s → decode cc pc = .ok (.return_, 1) → ∀ (H : Heap) (locs : List Loc) (cells slots : Nat) (ls : Array Slot), Wd s H → va_S A s0.heap H locs → cells ≤ R.cells → slots ≤ R.slots → W p l e R s0 m args below meth c H locs cells slots Q (F0 m pc ls []))
    (HS : mm_HS p l e R s0 m args below meth c cc Wd rho A hk Q) (CS : ∀ q ∈ sp, mm_CS p l e R s0 m args below meth c cc nL Wd rho A q) (y : mX S)
    (hy : mm_st rk cd hk sp ret y (mm_R p l e R s0 m args below meth c nL Wd rho A Q)) : mm_R p l e R s0 m args below meth c nL Wd rho A Q y := by
  obtain ⟨pc, l0, st, s, a, b⟩ := y
  unfold mm_st at hy
  dsimp only at hy
  split at hy
  · exact hy.elim
  rename_i q hq
  obtain ⟨ins, len⟩ := q
  have hd := hcd pc ins len hq
  have hn := hln pc ins len hq
  dsimp only at hy
  unfold mm_in at hy
  split at hy
  -- iconst
  · obtain rfl : len = 1 := by simpa [mm_okl] using hn
    intro H locs cells slots ls hW hS hL hlen hc hs
    exact lv_iconst hx hb hd rfl (hy H locs cells slots ls hW hS hL hlen hc hs)
  -- bipush
  · obtain rfl : len = 2 := by simpa [mm_okl] using hn
    intro H locs cells slots ls hW hS hL hlen hc hs
    exact lv_bipush hx hb hd rfl (hy H locs cells slots ls hW hS hL hlen hc hs)
  -- sipush
  · obtain rfl : len = 3 := by simpa [mm_okl] using hn
    intro H locs cells slots ls hW hS hL hlen hc hs
    exact lv_sipush hx hb hd rfl (hy H locs cells slots ls hW hS hL hlen hc hs)
  -- aconst_null
  · obtain rfl : len = 1 := by simpa [mm_okl] using hn
    intro H locs cells slots ls hW hS hL hlen hc hs
    exact lv_null hx hb hd (hy H locs cells slots ls hW hS hL hlen hc hs)
  -- iload_n
  · obtain rfl : len = 1 := by simpa [mm_okl] using hn
    split at hy
    · rename_i v hv
      intro H locs cells slots ls hW hS hL hlen hc hs
      exact lv_iload_n hx hb hd rfl (hL.2.2 _ _ hv) (hy H locs cells slots ls hW hS hL hlen hc hs)
    · exact hy.elim
  -- iload
  · obtain rfl : len = 2 := by simpa [mm_okl] using hn
    split at hy
    · rename_i v hv
      intro H locs cells slots ls hW hS hL hlen hc hs
      exact lv_iload hx hb hd (hL.2.2 _ _ hv) (hy H locs cells slots ls hW hS hL hlen hc hs)
    · exact hy.elim
  -- aload_n
  · obtain rfl : len = 1 := by simpa [mm_okl] using hn
    split at hy
    · rename_i v hv
      intro H locs cells slots ls hW hS hL hlen hc hs
      rcases v with _ | v
      · exact lv_aload_nN hx hb hd rfl (hL.2.2 _ _ hv) (hy H locs cells slots ls hW hS hL hlen hc hs)
      · exact lv_aload_n hx hb hd rfl (hL.2.2 _ _ hv) (hy H locs cells slots ls hW hS hL hlen hc hs)
    · exact hy.elim
  -- aload
  · obtain rfl : len = 2 := by simpa [mm_okl] using hn
    split at hy
    · rename_i v hv
      intro H locs cells slots ls hW hS hL hlen hc hs
      rcases v with _ | v
      · exact lv_aloadN hx hb hd (hL.2.2 _ _ hv) (hy H locs cells slots ls hW hS hL hlen hc hs)
      · exact lv_aload hx hb hd (hL.2.2 _ _ hv) (hy H locs cells slots ls hW hS hL hlen hc hs)
    · exact hy.elim
  -- istore_n
  · obtain rfl : len = 1 := by simpa [mm_okl] using hn
    split at hy
    · split at hy
      · rename_i hi
        intro H locs cells slots ls hW hS hL hlen hc hs
        exact lv_istore_n hx hb hd rfl (mm_L_has hL) hi rfl (fun ls' hl' => hy H locs cells slots ls' hW hS (mm_L_set hi hl') (by dsimp only; rw [List.length_set]; exact hlen) hc hs)
      · exact hy.elim
    · exact hy.elim
  -- istore
  · obtain rfl : len = 2 := by simpa [mm_okl] using hn
    split at hy
    · split at hy
      · rename_i hi
        intro H locs cells slots ls hW hS hL hlen hc hs
        exact lv_istore hx hb hd (mm_L_has hL) hi rfl (fun ls' hl' => hy H locs cells slots ls' hW hS (mm_L_set hi hl') (by dsimp only; rw [List.length_set]; exact hlen) hc hs)
      · exact hy.elim
    · exact hy.elim
  -- astore_n
  · obtain rfl : len = 1 := by simpa [mm_okl] using hn
    split at hy
    · rename_i v st'
      split at hy
      · rename_i hi
        intro H locs cells slots ls hW hS hL hlen hc hs
        rcases v with _ | v
        · exact lv_astore_nN hx hb hd rfl (mm_L_has hL) hi rfl (fun ls' hl' => hy H locs cells slots ls' hW hS (mm_L_set (v := .inr none) hi hl') (by dsimp only; rw [List.length_set]; exact hlen) hc hs)
        · exact lv_astore_n hx hb hd rfl (mm_L_has hL) hi rfl (fun ls' hl' => hy H locs cells slots ls' hW hS (mm_L_set (v := .inr (some v)) hi hl') (by dsimp only; rw [List.length_set]; exact hlen) hc hs)
      · exact hy.elim
    · exact hy.elim
  -- astore
  · obtain rfl : len = 2 := by simpa [mm_okl] using hn
    split at hy
    · rename_i v st'
      split at hy
      · rename_i hi
        intro H locs cells slots ls hW hS hL hlen hc hs
        rcases v with _ | v
        · exact lv_astoreN hx hb hd (mm_L_has hL) hi rfl (fun ls' hl' => hy H locs cells slots ls' hW hS (mm_L_set (v := .inr none) hi hl') (by dsimp only; rw [List.length_set]; exact hlen) hc hs)
        · exact lv_astore hx hb hd (mm_L_has hL) hi rfl (fun ls' hl' => hy H locs cells slots ls' hW hS (mm_L_set (v := .inr (some v)) hi hl') (by dsimp only; rw [List.length_set]; exact hlen) hc hs)
      · exact hy.elim
    · exact hy.elim
  -- iinc
  · obtain rfl : len = 3 := by simpa [mm_okl] using hn
    split at hy
    · rename_i v hv
      intro H locs cells slots ls hW hS hL hlen hc hs
      have hi := (List.getElem?_eq_some_iff.mp hv).1
      obtain ⟨kk, hkk⟩ := List.getElem?_of_mem (mm_pairs_mem (rho := rho) hv)
      exact lv_iinc hx hb hd (mm_L_has hL) hkk rfl hi rfl (fun ls' hl' => hy H locs cells slots ls' hW hS (mm_L_set hi hl') (by dsimp only; rw [List.length_set]; exact hlen) hc hs)
    · exact hy.elim
  -- iadd
  · obtain rfl : len = 1 := by simpa [mm_okl] using hn
    split at hy
    · intro H locs cells slots ls hW hS hL hlen hc hs
      exact lv_iadd hx hb hd (hy H locs cells slots ls hW hS hL hlen hc hs)
    · exact hy.elim
  -- isub
  · obtain rfl : len = 1 := by simpa [mm_okl] using hn
    split at hy
    · intro H locs cells slots ls hW hS hL hlen hc hs
      exact lv_isub hx hb hd (hy H locs cells slots ls hW hS hL hlen hc hs)
    · exact hy.elim
  -- imul
  · obtain rfl : len = 1 := by simpa [mm_okl] using hn
    split at hy
    · intro H locs cells slots ls hW hS hL hlen hc hs
      exact lv_imul hx hb hd (hy H locs cells slots ls hW hS hL hlen hc hs)
    · exact hy.elim
  -- iand
  · obtain rfl : len = 1 := by simpa [mm_okl] using hn
    split at hy
    · intro H locs cells slots ls hW hS hL hlen hc hs
      exact lv_iand hx hb hd (hy H locs cells slots ls hW hS hL hlen hc hs)
    · exact hy.elim
  -- ior
  · obtain rfl : len = 1 := by simpa [mm_okl] using hn
    split at hy
    · intro H locs cells slots ls hW hS hL hlen hc hs
      exact lv_ior hx hb hd (hy H locs cells slots ls hW hS hL hlen hc hs)
    · exact hy.elim
  -- ishl
  · obtain rfl : len = 1 := by simpa [mm_okl] using hn
    split at hy
    · intro H locs cells slots ls hW hS hL hlen hc hs
      exact lv_ishl hx hb hd (hy H locs cells slots ls hW hS hL hlen hc hs)
    · exact hy.elim
  -- idiv
  · obtain rfl : len = 1 := by simpa [mm_okl] using hn
    split at hy
    · intro H locs cells slots ls hW hS hL hlen hc hs
      exact lv_idiv hx hb hd hy.1 (hy.2 H locs cells slots ls hW hS hL hlen hc hs)
    · exact hy.elim
  -- irem
  · obtain rfl : len = 1 := by simpa [mm_okl] using hn
    split at hy
    · intro H locs cells slots ls hW hS hL hlen hc hs
      exact lv_irem hx hb hd hy.1 (hy.2 H locs cells slots ls hW hS hL hlen hc hs)
    · exact hy.elim
  -- dup
  · obtain rfl : len = 1 := by simpa [mm_okl] using hn
    split at hy
    · intro H locs cells slots ls hW hS hL hlen hc hs
      exact lv_dup hx hb hd (mE_cat _ _) (hy H locs cells slots ls hW hS hL hlen hc hs)
    · exact hy.elim
  -- pop
  · obtain rfl : len = 1 := by simpa [mm_okl] using hn
    split at hy
    · intro H locs cells slots ls hW hS hL hlen hc hs
      exact lv_pop hx hb hd (mE_cat _ _) (hy H locs cells slots ls hW hS hL hlen hc hs)
    · exact hy.elim
  -- goto
  · obtain rfl : len = 3 := by simpa [mm_okl] using hn
    obtain ⟨t, ht, hy⟩ := mm_go_get hy
    intro H locs cells slots ls hW hS hL hlen hc hs
    exact lv_goto hx hb hd ht (hy H locs cells slots ls hW hS hL hlen hc hs)
  -- ifCond
  · rename_i d o
    obtain rfl : len = 3 := by simpa [mm_okl] using hn
    split at hy
    · obtain ⟨t, ht, h1, h2⟩ := mm_go_get hy
      intro H locs cells slots ls hW hS hL hlen hc hs
      cases d
      · exact lv_if_eq hx hb hd ht (fun q => h1 q H locs cells slots ls hW hS hL hlen hc hs) (fun q => h2 q H locs cells slots ls hW hS hL hlen hc hs)
      · exact lv_if_ne hx hb hd ht (fun q => h1 q H locs cells slots ls hW hS hL hlen hc hs) (fun q => h2 (fun z => z q) H locs cells slots ls hW hS hL hlen hc hs)
      · exact lv_if_lt hx hb hd ht (fun q => h1 q H locs cells slots ls hW hS hL hlen hc hs) (fun q => h2 q H locs cells slots ls hW hS hL hlen hc hs)
      · exact lv_if_ge hx hb hd ht (fun q => h1 q H locs cells slots ls hW hS hL hlen hc hs) (fun q => h2 q H locs cells slots ls hW hS hL hlen hc hs)
      · exact lv_if_gt hx hb hd ht (fun q => h1 q H locs cells slots ls hW hS hL hlen hc hs) (fun q => h2 q H locs cells slots ls hW hS hL hlen hc hs)
      · exact lv_if_le hx hb hd ht (fun q => h1 q H locs cells slots ls hW hS hL hlen hc hs) (fun q => h2 q H locs cells slots ls hW hS hL hlen hc hs)
    · exact hy.elim
  -- if_icmp
  · rename_i d o
    obtain rfl : len = 3 := by simpa [mm_okl] using hn
    split at hy
    · obtain ⟨t, ht, h1, h2⟩ := mm_go_get hy
      intro H locs cells slots ls hW hS hL hlen hc hs
      cases d
      · exact lv_icmp_eq hx hb hd ht (fun q => h1 q H locs cells slots ls hW hS hL hlen hc hs) (fun q => h2 q H locs cells slots ls hW hS hL hlen hc hs)
      · exact lv_icmp_ne hx hb hd ht (fun q => h1 q H locs cells slots ls hW hS hL hlen hc hs) (fun q => h2 (fun z => z q) H locs cells slots ls hW hS hL hlen hc hs)
      · exact lv_icmp_lt hx hb hd ht (fun q => h1 q H locs cells slots ls hW hS hL hlen hc hs) (fun q => h2 q H locs cells slots ls hW hS hL hlen hc hs)
      · exact lv_icmp_ge hx hb hd ht (fun q => h1 q H locs cells slots ls hW hS hL hlen hc hs) (fun q => h2 q H locs cells slots ls hW hS hL hlen hc hs)
      · exact lv_icmp_gt hx hb hd ht (fun q => h1 q H locs cells slots ls hW hS hL hlen hc hs) (fun q => h2 q H locs cells slots ls hW hS hL hlen hc hs)
      · exact lv_icmp_le hx hb hd ht (fun q => h1 q H locs cells slots ls hW hS hL hlen hc hs) (fun q => h2 q H locs cells slots ls hW hS hL hlen hc hs)
    · exact hy.elim
  -- ifnull
  · obtain rfl : len = 3 := by simpa [mm_okl] using hn
    split at hy
    · rename_i x st'
      obtain ⟨t, ht, h1, h2⟩ := mm_go_get hy
      intro H locs cells slots ls hW hS hL hlen hc hs
      rcases x with _ | x
      · exact lv_ifnullN hx hb hd ht (h1 rfl H locs cells slots ls hW hS hL hlen hc hs)
      · exact lv_ifnull hx hb hd (h2 x rfl H locs cells slots ls hW hS hL hlen hc hs)
    · exact hy.elim
  -- ifnonnull
  · obtain rfl : len = 3 := by simpa [mm_okl] using hn
    split at hy
    · rename_i x st'
      obtain ⟨t, ht, h1, h2⟩ := mm_go_get hy
      intro H locs cells slots ls hW hS hL hlen hc hs
      rcases x with _ | x
      · exact lv_ifnonnullN hx hb hd (h2 rfl H locs cells slots ls hW hS hL hlen hc hs)
      · exact lv_ifnonnull hx hb hd ht (h1 x rfl H locs cells slots ls hW hS hL hlen hc hs)
    · exact hy.elim
  -- if_acmp
  · rename_i d o
    obtain rfl : len = 3 := by simpa [mm_okl] using hn
    have hinj := hac.resolve_right (fun z => z _ _ _ _ hq)
    have hrf : ∀ x : Option Nat, mE rho (.inr x) = va_rf (x.map rho) := fun x => by cases x <;> rfl
    split at hy
    · rename_i y x st'
      obtain ⟨g1, g2, hy⟩ := hy
      have heq : x.map rho = y.map rho → x = y := fun h => by
        cases x <;> cases y
        · rfl
        · cases h
        · cases h
        · rw [hinj _ _ (g1 _ rfl) (g2 _ rfl) (Option.some.inj h)]
      split at hy
      · obtain ⟨t, ht, h1, h2⟩ := mm_go_get hy
        intro H locs cells slots ls hW hS hL hlen hc hs
        show W p l e R s0 m args below meth c H locs cells slots Q (F0 m pc ls (mE rho (.inr y) :: mE rho (.inr x) :: st'.map (mE rho)))
        rw [hrf, hrf]
        exact lv_acmp_eq hx hb hd ht (fun q => h1 (heq q) H locs cells slots ls hW hS hL hlen hc hs) (fun q => h2 (fun z => q (by rw [z])) H locs cells slots ls hW hS hL hlen hc hs)
      · obtain ⟨t, ht, h1, h2⟩ := mm_go_get hy
        intro H locs cells slots ls hW hS hL hlen hc hs
        show W p l e R s0 m args below meth c H locs cells slots Q (F0 m pc ls (mE rho (.inr y) :: mE rho (.inr x) :: st'.map (mE rho)))
        rw [hrf, hrf]
        exact lv_acmp_ne hx hb hd ht (fun q => h1 (fun z => q (by rw [z])) H locs cells slots ls hW hS hL hlen hc hs) (fun q => h2 (heq q) H locs cells slots ls hW hS hL hlen hc hs)
    · exact hy.elim
  -- tableswitch
  · rename_i d lo hi offs
    split at hy
    · rename_i x st'
      split at hy
      · rename_i hlo
        intro H locs cells slots ls hW hS hL hlen hc hs
        by_cases ho : x.toInt < lo ∨ hi < x.toInt
        · obtain ⟨t, ht, h1⟩ := mm_go_get (hy.1 ho)
          exact lv_tableOut hx hb hd ho ht (h1 H locs cells slots ls hW hS hL hlen hc hs)
        · obtain ⟨o, t, ho1, ht, h1⟩ := mm_tab_get _ _ hy.2 (x.toInt - lo).toNat (by rw [hlo]; omega) (by omega)
          exact lv_tableIn hx hb hd (fun z => ho (Or.inl z)) (fun z => ho (Or.inr z)) (by rw [← Array.getElem?_toList]; exact ho1) ht (h1 H locs cells slots ls hW hS hL hlen hc hs)
      · exact hy.elim
    · exact hy.elim
  -- lookupswitch
  · rename_i d ps
    split at hy
    · rename_i x st'
      split at hy
      · rename_i hso
        obtain ⟨o, t, ho1, ht, h1⟩ := mm_lks_get _ hy
        intro H locs cells slots ls hW hS hL hlen hc hs
        exact lv_lookup hx hb hd hso ho1 ht (h1 H locs cells slots ls hW hS hL hlen hc hs)
      · exact hy.elim
    · exact hy.elim
  -- ireturn
  · obtain rfl : len = 1 := by simpa [mm_okl] using hn
    split at hy
    · rename_i v
      split at hy
      · omega
      · obtain ⟨hv, hy⟩ := hy
        intro H locs cells slots ls hW hS hL hlen hc hs
        exact HRi pc v s rfl hy hd H locs cells slots ls hW hS (by dsimp only at hc; omega) (by dsimp only at hs; omega)
      · exact hy.elim
    · exact hy.elim
  -- areturn
  · split at hy
    · split at hy
      · omega
      · exact hy.elim
    · exact hy.elim
  -- return
  · obtain rfl : len = 1 := by simpa [mm_okl] using hn
    split at hy
    · split at hy
      · intro H locs cells slots ls hW hS hL hlen hc hs
        exact HRv pc s rfl hy hd H locs cells slots ls hW hS (by dsimp only at hc; omega) (by dsimp only at hs; omega)
      · exact hy.elim
    · exact hy.elim
  -- calls
  · obtain rfl : len = 3 := by simpa [mm_okl] using hn
    exact mm_call_sound (j := 0) hx CS hd hy
  · obtain rfl : len = 3 := by simpa [mm_okl] using hn
    exact mm_call_sound (j := 1) hx CS hd hy
  · obtain rfl : len = 3 := by simpa [mm_okl] using hn
    exact mm_call_sound (j := 2) hx CS hd hy
  -- the heap
  · intro H locs cells slots ls hW hS hL hlen hc hs
    exact HS _ _ _ _ _ _ _ _ hy hd hn H locs cells slots ls hW hS hc hs (fun st' s' a' b' H' locs' cells' slots' hk' hW' hS' hc' hs' => hk' H' locs' cells' slots' ls hW' hS' hL hlen hc' hs')
end MMQ
