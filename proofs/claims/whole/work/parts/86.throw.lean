/-! ===== a way that ends in a throw ===== -/
/-- words that the tables alone decide, and that stay as classes are used -/
def zot (w : Cond) : Bool := goodWord w || (w.onTables && w.keepsFace)
theorem zot_vx {w : Cond} (h : zot w = true) : vx_ot w = true := by
  simp only [zot, vx_ot, Bool.and_eq_true, Bool.or_eq_true] at h ⊢
  rcases h with h | h
  · exact Or.inr h
  · exact Or.inl h.1
theorem zot_mv {s U : State} {w : Cond} (hW : s.WarmedH U.vm) (hg : zot w = true) (h : w.before #[] s = true) : w.before #[] U = true := by
  simp only [zot, Bool.and_eq_true, Bool.or_eq_true] at hg
  rcases hg with h1 | h1
  · exact word_at hW (good_of_word h1) h
  · have h2 : w.before #[] (s.setVm U.vm) = true := Cond.before_shiftedFace (State.Shifted.of_warmed hW) _ h1.2 h
    exact va_tabs h1.1 (rfl : (s.setVm U.vm).vm = U.vm) h2
def zXW : List Cond := lw_tbl.filter zot
theorem zmemX {i : Nat} {x : Cond} (h : lw_tbl[i]? = some x) (hg : zot x = true) : x ∈ zXW := List.mem_filter.mpr ⟨List.mem_of_getElem? h, hg⟩
/-- what a throw stands on, of the entry -/
def zThF : zFc := fun l A s => l.stackTraces = false ∧ vx_Zq Bundle.tN "UNASSIGNED_STACK" Bundle.steD A s s.heap ∧ vx_Zq Bundle.tN "SUPPRESSED_SENTINEL" Bundle.listD A s s.heap ∧ ∀ w ∈ zXW, w.before #[] s = true
def zThS (own : String) (is : Nat) (text : String) (s : State) : Prop := ∃ sa : Nat, vk_R own is text sa s
def zXC (G : zG) (A : Nat → Prop) (ad0 : Nat → Nat) (E : String) (w : List zAC) : String → State → State → Prop := fun E' st t => E' = E ∧ va_P (zD G) zCl (zeW G.2.2 ad0 0 w) t.heap ∧ va_K (zD G) zCl (zTy G) t ∧ va_D A (zeW G.2.2 ad0 0 w) ∧ va_F A st t
def zFX (E : String) (mc ms : Nat) (w : List zAC) : zF := fun _ G A ad0 below args s => vx_MQ below (fun _ _ _ _ => False) (zXC G A ad0 E w) args s mc ms A
theorem zr_throw {M : zM} {d mc ms uc us pc ik is ic : Nat} {φ : zFc} {cls text : String} {names : List String} {L : List (Option zAV)} {st : List zAV} {w : List zAC}
    (hφ : ∀ l A s, φ l A s → zThF l A s ∧ zThS M.1.cls is text s) (hcls : Bundle.fit cls = true) (hnames : ∀ n ∈ names, Bundle.fit n = true)
    (hk : Cond.classLink M.1.cls ik cls ∈ zXW) (hini : Cond.initialized cls ∈ zXW) (hat : ∀ x ∈ vx_atS M.1.cls ic cls names, x ∈ zXW)
    (d0 : decode M.2.1 pc = .ok (.new ik, 3)) (d3 : decode M.2.1 (pc + 3) = .ok (.dup, 1)) (d4 : decode M.2.1 (pc + 4) = .ok (.ldc is, 2)) (d6 : decode M.2.1 (pc + 6) = .ok (.invokespecial ic, 3)) (d9 : decode M.2.1 (pc + 9) = .ok (.athrow, 1))
    (hnl : M.1.cls ≠ "InputrowConsoleLaw")
    (hd : names.length + 3 < d) (hrest : (st.map zcat).sum ≤ 8) (hl2 : 8 + (13 * (names.length + 1) + 43) ≤ 40 * d) (huc : uc + 1 ≤ mc) (hus : us + 6 ≤ ms) :
    zB M (zR d mc ms) (zFE φ (zFX cls mc ms w)) zall pc L st w uc us := by
  refine zr_with fun G p l e s m args below meth c A ad0 ad H locs ls hf hh => ?_
  obtain ⟨⟨hl, hU, hN, hX⟩, ⟨sa, hsa⟩⟩ := hφ l A s hf
  obtain ⟨⟨hx1, hb, hml, -, hlk, hown, hts, hmi, hK, hA⟩, hag, hLL, hSt, -, hv, hP, hD, hS⟩ := hh
  have ead : ad = ad0 := funext fun k => hag k trivial
  have hb4 : ∀ x ∈ zXW, x.before args s = true := fun x hx => vx_ot_at (State.WarmedH.refl s) rfl (zot_vx (List.mem_filter.mp hx).2) (hX x hx)
  refine zW_imp (Q := zFX cls mc ms w l G A ad0 below args s) (fun t y _ => y) ?_
  refine vx_throwS (Qc := fun _ _ _ _ => False) (XC := zXC G A ad0 cls w) (R := zR d mc ms) (mc := mc) (ms := ms) (own := M.1.cls) (cls := cls) (text := text) (names := names) (ik := ik) (is := is) (ic := ic) (sa := sa) (A := A) hx1 hb hl hown hcls hnames (hb4 _ hk) (hb4 _ hini) hsa (fun x hx => hb4 _ (hat x hx)) (fun x hx => ?_) hU hN hS ?_ d0 d3 d4 d6 d9 (fun x hx => absurd hx (hmi.2 hnl x)) hd ?_ huc hus hlk (fun t t1 t2 t3 => ?_) (fun z hz => hS.2.2 z hz) huc hus
  · rcases List.mem_cons.mp hx with rfl | hx
    · exact zot_vx (List.mem_filter.mp hk).2
    · rcases List.mem_cons.mp hx with rfl | hx
      · exact zot_vx (List.mem_filter.mp hini).2
      · exact zot_vx (List.mem_filter.mp (hat x hx)).2
  · exact hv.1.trans hml.symm
  · rw [zcat_sum]
    show _ + _ ≤ 40 * d
    omega
  · refine ⟨rfl, ?_, va_K.moved t1 hK, ?_, ⟨Nat.le_trans hS.1 t2, fun q h1 h2 => ?_⟩⟩
    · rw [← ead]
      refine va_P_zeW.mpr fun i x hi => ?_
      have h := va_P_zeW.mp hP i x hi
      exact h.kept (t3 _ h.lt)
    · rw [← ead]; exact hD
    · rw [t3 q (Nat.lt_of_lt_of_le h1 hS.1)]
      exact hS.2.1 q h1 h2
