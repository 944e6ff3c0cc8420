/-! ===== the ways of the public methods that end in a throw ===== -/
abbrev zEN : List String := ["java/lang/RuntimeException", "java/lang/Exception"]
def zEx (j : Int) : String := if j = 1 then "java/lang/IllegalArgumentException" else if j = 2 then "java/lang/IllegalStateException" else "java/lang/IndexOutOfBoundsException"
def zNp : List (String × String) := [("java/lang/IllegalStateException", "java/lang/IllegalArgumentException"), ("java/lang/IllegalArgumentException", "java/lang/IndexOutOfBoundsException")]
theorem zEx_1 : zEx 1 = "java/lang/IllegalArgumentException" := rfl
theorem zEx_2 : zEx 2 = "java/lang/IllegalStateException" := rfl
theorem zEx_3 : zEx 3 = "java/lang/IndexOutOfBoundsException" := rfl
/-- a method's way that throws E and changes nothing -/
def zSpecX (φ : zFc) (d mc ms : Nat) (M : zM) (av : List zAV) (w : List zAC) (E : String) : Prop :=
  (∀ v ∈ av, zokN v) → zokW w → ∀ (G : zG) (l : Launch) (ad : Nat → Nat) (sz : Nat), vx_Met l M.1 (zws M) (zR d mc ms) (va_Pc (av.map (zeV ad)) (fun U => zPre G ad w sz U ∧ φ l (va_A (zeW G.2.2 ad 0 w) sz) U)) (fun _ _ _ _ => False) (zXC G (va_A (zeW G.2.2 ad 0 w) sz) ad E w) mc ms (va_A (zeW G.2.2 ad 0 w) sz)
theorem zSpecX_of {φ : zFc} {d mc ms : Nat} {M : zM} {av : List zAV} {w : List zAC} {E : String} (hp : plainName M.1.cls = true) (hn : av.length ≤ M.2.2.1)
    (h : zB M (zR d mc ms) (zFE φ (zFX E mc ms w)) zall 0 (zaL M.2.2.1 av) [] w 0 0) : zSpecX φ d mc ms M av w E := by
  intro ho hw G l ad sz
  refine vx_ofW (cc := M.2.1) (maxL := M.2.2.1) (ret := M.2.2.2) (ws' := zGW) hp rfl ?_
  intro p e s m args below meth c s₁ B hml htab hv
  obtain ⟨rfl, ⟨hsz, hP, hK, hD0, hNk⟩, hφ⟩ := hv
  have hts := atoms_spec (ws := zws M) B.pre
  have hown : s.vm.findClass M.1.cls = some m.cls := findClass_of_methodNamed B.named
  subst hsz
  have hD := hD0.self (sz := s.heap.size)
  rw [lg_entry_eq]
  refine zW_imp (fun t k => k hφ) (h G p l e s m _ below meth c (va_A (zeW G.2.2 ad 0 w) s.heap.size) ad ad s.heap [] _ ⟨⟨B.exec, B.bytes, hml, B.returns, B.notSynchronized, hown, fun x hx => hts x (List.mem_cons_of_mem _ hx), ⟨fun hi => ((name_of_methodNamed B.named B.method).1).trans hi, fun _ => htab⟩, hK, fun q hq => Or.inr hq, hNk⟩, fun _ _ => rfl, fun v hv => ?_, zokS.nil, hw, zhas_entry ho hn, hP, hD, va_S.rf⟩)
  obtain ⟨k, hk⟩ := List.getElem?_of_mem hv
  exact ho v (List.mem_of_getElem? (zaL_at hk))

theorem xk_52 : Cond.classLink RX11 52 "java/lang/IllegalArgumentException" ∈ zXW := zmemX (i := 1326) (by decide +kernel) rfl
theorem xk_63 : Cond.classLink RX11 63 "java/lang/IllegalStateException" ∈ zXW := zmemX (i := 1337) (by decide +kernel) rfl
theorem xk_135 : Cond.classLink RX11 135 "java/lang/IndexOutOfBoundsException" ∈ zXW := zmemX (i := 1413) (by decide +kernel) rfl
theorem xi_1 : Cond.initialized "java/lang/IllegalArgumentException" ∈ zXW := zmemX (i := 144) (by decide +kernel) rfl
theorem xi_2 : Cond.initialized "java/lang/IllegalStateException" ∈ zXW := zmemX (i := 145) (by decide +kernel) rfl
theorem xi_3 : Cond.initialized "java/lang/IndexOutOfBoundsException" ∈ zXW := zmemX (i := 157) (by decide +kernel) rfl
set_option maxRecDepth 100000 in
set_option maxHeartbeats 4000000 in
theorem xa_56 : ∀ x ∈ vx_atS RX11 56 "java/lang/IllegalArgumentException" zEN, x ∈ zXW := by
  have h1 : ∀ x ∈ vx_atS RX11 56 "java/lang/IllegalArgumentException" zEN, x ∈ lw_tbl := by decide +kernel
  have h2 : ∀ x ∈ vx_atS RX11 56 "java/lang/IllegalArgumentException" zEN, zot x = true := by decide +kernel
  exact fun x hx => List.mem_filter.mpr ⟨h1 x hx, h2 x hx⟩
set_option maxRecDepth 100000 in
set_option maxHeartbeats 4000000 in
theorem xa_67 : ∀ x ∈ vx_atS RX11 67 "java/lang/IllegalStateException" zEN, x ∈ zXW := by
  have h1 : ∀ x ∈ vx_atS RX11 67 "java/lang/IllegalStateException" zEN, x ∈ lw_tbl := by decide +kernel
  have h2 : ∀ x ∈ vx_atS RX11 67 "java/lang/IllegalStateException" zEN, zot x = true := by decide +kernel
  exact fun x hx => List.mem_filter.mpr ⟨h1 x hx, h2 x hx⟩
set_option maxRecDepth 100000 in
set_option maxHeartbeats 4000000 in
theorem xa_139 : ∀ x ∈ vx_atS RX11 139 "java/lang/IndexOutOfBoundsException" zEN, x ∈ zXW := by
  have h1 : ∀ x ∈ vx_atS RX11 139 "java/lang/IndexOutOfBoundsException" zEN, x ∈ lw_tbl := by decide +kernel
  have h2 : ∀ x ∈ vx_atS RX11 139 "java/lang/IndexOutOfBoundsException" zEN, zot x = true := by decide +kernel
  exact fun x hx => List.mem_filter.mpr ⟨h1 x hx, h2 x hx⟩
/-- the texts of the throws -/
def zTx : List (Nat × String) := [(54, "no such byte"), (65, "stopped, and no room"), (81, "no such number"), (96, "no such key"), (98, "no such modifiers"), (120, "the draft is full"), (137, "no such cell"), (140, "no such button"), (152, "no such size"), (213, "no such row"), (228, "no such place"), (232, "nothing to tell")]
/-- all that calls stand on -/
def zLw : zFc := fun l A s => zThF l A s ∧ zKt A s ∧ (∀ q ∈ zTx, zThS RX11 q.1 q.2 s) ∧ ∀ q ∈ zNp, va_Nc q.1 q.2 s
/-- all that calls stand on goes on into calls -/
theorem zLw_go {l : Launch} {A A' : Nat → Prop} {s U : State} {H : Heap} {locs : List Loc} (h : zLw l A s) (hS : va_S A s.heap H locs) (hW : s.WarmedH U.vm) (hU : U.heap = H) (hA : ∀ q, A' q → A q) : zLw l A' U := by
  obtain ⟨⟨h1, h2, h3, h4⟩, ⟨t, hZ, hT⟩, h5, h6⟩ := h
  refine ⟨⟨h1, ?_, ?_, fun w hw => zot_mv hW (List.mem_filter.mp hw).2 (h4 w hw)⟩, ⟨t, ?_, ?_⟩, fun q hq => ?_, fun q hq => va_Nc.moved hW.alike (h6 q hq)⟩
  · rw [hU]; exact (vx_Zq.moved hW.alike (h2.kept hS.2.1)).narrow hA
  · rw [hU]; exact (vx_Zq.moved hW.alike (h3.kept hS.2.1)).narrow hA
  · rw [hU]; exact (va_Z.moved hW.alike (hZ.kept hS.2.1)).narrow hA
  · rw [hU]; exact (va_T.moved hW.alike (hT.kept hS.2.1)).narrow hA
  · obtain ⟨sa, hsa⟩ := h5 q hq
    exact ⟨sa, vk_R.warm hW hsa⟩
theorem hx_54 : ∀ l A s, zLw l A s → zThF l A s ∧ zThS RX11 54 "no such byte" s := fun l A s h => ⟨h.1, h.2.2.1 (54, "no such byte") (by simp [zTx])⟩
theorem hx_65 : ∀ l A s, zLw l A s → zThF l A s ∧ zThS RX11 65 "stopped, and no room" s := fun l A s h => ⟨h.1, h.2.2.1 (65, "stopped, and no room") (by simp [zTx])⟩
theorem hx_81 : ∀ l A s, zLw l A s → zThF l A s ∧ zThS RX11 81 "no such number" s := fun l A s h => ⟨h.1, h.2.2.1 (81, "no such number") (by simp [zTx])⟩
theorem hx_96 : ∀ l A s, zLw l A s → zThF l A s ∧ zThS RX11 96 "no such key" s := fun l A s h => ⟨h.1, h.2.2.1 (96, "no such key") (by simp [zTx])⟩
theorem hx_98 : ∀ l A s, zLw l A s → zThF l A s ∧ zThS RX11 98 "no such modifiers" s := fun l A s h => ⟨h.1, h.2.2.1 (98, "no such modifiers") (by simp [zTx])⟩
theorem hx_120 : ∀ l A s, zLw l A s → zThF l A s ∧ zThS RX11 120 "the draft is full" s := fun l A s h => ⟨h.1, h.2.2.1 (120, "the draft is full") (by simp [zTx])⟩
theorem hx_137 : ∀ l A s, zLw l A s → zThF l A s ∧ zThS RX11 137 "no such cell" s := fun l A s h => ⟨h.1, h.2.2.1 (137, "no such cell") (by simp [zTx])⟩
theorem hx_140 : ∀ l A s, zLw l A s → zThF l A s ∧ zThS RX11 140 "no such button" s := fun l A s h => ⟨h.1, h.2.2.1 (140, "no such button") (by simp [zTx])⟩
theorem hx_152 : ∀ l A s, zLw l A s → zThF l A s ∧ zThS RX11 152 "no such size" s := fun l A s h => ⟨h.1, h.2.2.1 (152, "no such size") (by simp [zTx])⟩
theorem hx_213 : ∀ l A s, zLw l A s → zThF l A s ∧ zThS RX11 213 "no such row" s := fun l A s h => ⟨h.1, h.2.2.1 (213, "no such row") (by simp [zTx])⟩
theorem hx_228 : ∀ l A s, zLw l A s → zThF l A s ∧ zThS RX11 228 "no such place" s := fun l A s h => ⟨h.1, h.2.2.1 (228, "no such place") (by simp [zTx])⟩
theorem hx_232 : ∀ l A s, zLw l A s → zThF l A s ∧ zThS RX11 232 "nothing to tell" s := fun l A s h => ⟨h.1, h.2.2.1 (232, "nothing to tell") (by simp [zTx])⟩
def e_Co_cell_ (a1 a2 : Int) (s : zSt) : Option Int :=
  (f_Sc_has a1 a2 (zsb (zsh 14) s)).bind fun x1 =>
  if ¬ x1 = 0 then
    none
  else
    some 3
set_option maxRecDepth 100000 in
set_option maxHeartbeats 4000000 in
theorem x_Co_cell {a1 a2 : Int} {s : zSt} {res : Int} (h : e_Co_cell_ a1 a2 s = some res) : zSpecX zLw 7 1 6 m_X11_cell [.inr (.inl (some 0)), .inl a1, .inl a2] (ziT s 0 TCo) (zEx res) := by
  refine zSpecX_of (by decide +kernel) (Nat.le_of_ble_eq_true rfl) ?_
  show zB m_X11_cell (zR 7 1 6) (zFE zLw (zFX (zEx res) 1 6 (ziT s 0 TCo))) zall 0 [some (.inr (.inl (some 0))), some (.inl a1), some (.inl a2)] [] (ziT s 0 TCo) 0 0
  unfold e_Co_cell_ at h
  refine zr_aload ⟨_, dX11_cell_0, rfl⟩ rfl ?_
  refine zt_getr dX11_cell_1 fl_X11_31 rfl rfl ?_
  refine zr_load ⟨_, dX11_cell_4, rfl⟩ rfl ?_
  refine zr_load ⟨_, dX11_cell_5, rfl⟩ rfl ?_
  obtain ⟨x1, hx1, h⟩ := zbind h
  refine zt_callis (t_Sc_has hx1) (zrun_V (rest := []) dX11_cell_6 ml_X11_131 rfl rfl (by decide) (by decide) rfl (Nat.le_of_ble_eq_true rfl)) rfl rfl sb_TCo_TSc_14 (Nat.zero_le _) (Nat.zero_le _) ?_
  refine zr_if_ne (tgt := 22) dX11_cell_9 (by decide) (fun hc2 => ?_) (fun hc2 => ?_)
  · replace h := zpos h hc2
    cases h
  · replace h := zneg h hc2
    obtain rfl := Option.some.inj h
    rw [zEx_3]
    exact zr_throw (cls := "java/lang/IndexOutOfBoundsException") (names := zEN) hx_137 (by decide +kernel) (by decide +kernel) xk_135 xi_3 xa_139 dX11_cell_12 dX11_cell_15 dX11_cell_16 dX11_cell_18 dX11_cell_21 (by decide +kernel) (by decide) (by decide) (by decide) (Nat.le_refl _) (Nat.le_refl _)
def e_Co_cellAnew_ (a1 a2 : Int) (s : zSt) : Option Int :=
  (f_Sc_has a1 a2 (zsb (zsh 14) s)).bind fun x1 =>
  if ¬ x1 = 0 then
    none
  else
    some 3
set_option maxRecDepth 100000 in
set_option maxHeartbeats 4000000 in
theorem x_Co_cellAnew {a1 a2 : Int} {s : zSt} {res : Int} (h : e_Co_cellAnew_ a1 a2 s = some res) : zSpecX zLw 10 1 6 m_X11_cellAnew [.inr (.inl (some 0)), .inl a1, .inl a2] (ziT s 0 TCo) (zEx res) := by
  refine zSpecX_of (by decide +kernel) (Nat.le_of_ble_eq_true rfl) ?_
  show zB m_X11_cellAnew (zR 10 1 6) (zFE zLw (zFX (zEx res) 1 6 (ziT s 0 TCo))) zall 0 [some (.inr (.inl (some 0))), some (.inl a1), some (.inl a2)] [] (ziT s 0 TCo) 0 0
  unfold e_Co_cellAnew_ at h
  refine zr_aload ⟨_, dX11_cellAnew_0, rfl⟩ rfl ?_
  refine zt_getr dX11_cellAnew_1 fl_X11_31 rfl rfl ?_
  refine zr_load ⟨_, dX11_cellAnew_4, rfl⟩ rfl ?_
  refine zr_load ⟨_, dX11_cellAnew_5, rfl⟩ rfl ?_
  obtain ⟨x1, hx1, h⟩ := zbind h
  refine zt_callis (t_Sc_has hx1) (zrun_V (rest := []) dX11_cellAnew_6 ml_X11_131 rfl rfl (by decide) (by decide) rfl (Nat.le_of_ble_eq_true rfl)) rfl rfl sb_TCo_TSc_14 (Nat.zero_le _) (Nat.zero_le _) ?_
  refine zr_if_ne (tgt := 22) dX11_cellAnew_9 (by decide) (fun hc2 => ?_) (fun hc2 => ?_)
  · replace h := zpos h hc2
    cases h
  · replace h := zneg h hc2
    obtain rfl := Option.some.inj h
    rw [zEx_3]
    exact zr_throw (cls := "java/lang/IndexOutOfBoundsException") (names := zEN) hx_137 (by decide +kernel) (by decide +kernel) xk_135 xi_3 xa_139 dX11_cellAnew_12 dX11_cellAnew_15 dX11_cellAnew_16 dX11_cellAnew_18 dX11_cellAnew_21 (by decide +kernel) (by decide) (by decide) (by decide) (Nat.le_refl _) (Nat.le_refl _)
def e_Co_code__j86 (v1 v2 v3 v4 k0 k1 : Int) (s : zSt) : Option Int :=
  (f_Li_hasRoomFor (w32 (k1 + k0)) (zsb (zsh 5) s)).bind fun x1 =>
  if ¬ x1 = 0 then
    none
  else
    some 2
set_option maxRecDepth 100000 in
set_option maxHeartbeats 4000000 in
theorem x_Co_code_j86 {v1 v2 v3 v4 k0 k1 : Int} {s : zSt} {res : Int} (h : e_Co_code__j86 v1 v2 v3 v4 k0 k1 s = some res) : zB m_X11_code (zR 10 1 6) (zFE zLw (zFX (zEx res) 1 6 (ziT s 0 TCo))) zall 86 [some (.inr (.inl (some 0))), some (.inl v1), some (.inl v2), some (.inl v3), some (.inl v4), none] [.inl k0, .inl k1] (ziT s 0 TCo) 0 0 := by
  unfold e_Co_code__j86 at h
  refine zr_iadd dX11_code_86 ?_
  refine zr_storew dX11_code_87 (by decide) rfl ?_
  refine zr_aload ⟨_, dX11_code_89, rfl⟩ rfl ?_
  refine zt_getr dX11_code_90 fl_X11_24 rfl rfl ?_
  refine zr_loadw dX11_code_93 rfl ?_
  obtain ⟨x1, hx1, h⟩ := zbind h
  refine zt_callis (t_Li_hasRoomFor hx1) (zrun_V (rest := []) dX11_code_95 ml_X11_59 rfl rfl (by decide) (by decide) rfl (Nat.le_of_ble_eq_true rfl)) rfl rfl sb_TCo_TLi_5 (Nat.zero_le _) (Nat.zero_le _) ?_
  refine zr_if_ne (tgt := 111) dX11_code_98 (by decide) (fun hc2 => ?_) (fun hc2 => ?_)
  · replace h := zpos h hc2
    cases h
  · replace h := zneg h hc2
    obtain rfl := Option.some.inj h
    rw [zEx_2]
    exact zr_throw (cls := "java/lang/IllegalStateException") (names := zEN) hx_65 (by decide +kernel) (by decide +kernel) xk_63 xi_2 xa_67 dX11_code_101 dX11_code_104 dX11_code_105 dX11_code_107 dX11_code_110 (by decide +kernel) (by decide) (by decide) (by decide) (Nat.le_refl _) (Nat.le_refl _)
def e_Co_code_ (a1 a2 a3 a4 : Int) (s : zSt) : Option Int :=
  if a2 < 0 then
    some 1
  else
    if 999 < a2 then
      some 1
    else
      if a3 < 0 then
        some 1
      else
        if a3 ≤ 999 then
          if a4 < 64 then
            some 1
          else
            if a4 ≤ 126 then
              (f_Co_digitsOf a2).bind fun x9 =>
                if ¬ a3 = 0 then
                  (f_Co_digitsOf a3).bind fun x11 =>
                  e_Co_code__j86 a1 a2 a3 a4 (w32 (1 + x11)) (w32 ((w32 (3 + (if a1 = 0 then 0 else 1))) + x9)) s
                else
                  e_Co_code__j86 a1 a2 a3 a4 0 (w32 ((w32 (3 + (if a1 = 0 then 0 else 1))) + x9)) s
            else
              some 1
        else
          some 1
set_option maxRecDepth 100000 in
set_option maxHeartbeats 4000000 in
theorem x_Co_code {a1 a2 a3 a4 : Int} {s : zSt} {res : Int} (h : e_Co_code_ a1 a2 a3 a4 s = some res) : zSpecX zLw 10 1 6 m_X11_code [.inr (.inl (some 0)), .inl a1, .inl a2, .inl a3, .inl a4] (ziT s 0 TCo) (zEx res) := by
  refine zSpecX_of (by decide +kernel) (Nat.le_of_ble_eq_true rfl) ?_
  show zB m_X11_code (zR 10 1 6) (zFE zLw (zFX (zEx res) 1 6 (ziT s 0 TCo))) zall 0 [some (.inr (.inl (some 0))), some (.inl a1), some (.inl a2), some (.inl a3), some (.inl a4), none] [] (ziT s 0 TCo) 0 0
  unfold e_Co_code_ at h
  refine zr_load ⟨_, dX11_code_0, rfl⟩ rfl ?_
  refine zr_if_lt (tgt := 22) dX11_code_1 (by decide) (fun hc1 => ?_) (fun hc1 => ?_)
  · replace h := zpos h hc1
    obtain rfl := Option.some.inj h
    rw [zEx_1]
    exact zr_throw (cls := "java/lang/IllegalArgumentException") (names := zEN) hx_81 (by decide +kernel) (by decide +kernel) xk_52 xi_1 xa_56 dX11_code_22 dX11_code_25 dX11_code_26 dX11_code_28 dX11_code_31 (by decide +kernel) (by decide) (by decide) (by decide) (Nat.le_refl _) (Nat.le_refl _)
  · replace h := zneg h hc1
    refine zr_load ⟨_, dX11_code_4, rfl⟩ rfl ?_
    refine zr_sipush dX11_code_5 (by decide) (by decide) ?_
    refine zr_ic_gt (tgt := 22) dX11_code_8 (by decide) (fun hc2 => ?_) (fun hc2 => ?_)
    · replace h := zpos h hc2
      obtain rfl := Option.some.inj h
      rw [zEx_1]
      exact zr_throw (cls := "java/lang/IllegalArgumentException") (names := zEN) hx_81 (by decide +kernel) (by decide +kernel) xk_52 xi_1 xa_56 dX11_code_22 dX11_code_25 dX11_code_26 dX11_code_28 dX11_code_31 (by decide +kernel) (by decide) (by decide) (by decide) (Nat.le_refl _) (Nat.le_refl _)
    · replace h := zneg h hc2
      refine zr_load ⟨_, dX11_code_11, rfl⟩ rfl ?_
      refine zr_if_lt (tgt := 22) dX11_code_12 (by decide) (fun hc3 => ?_) (fun hc3 => ?_)
      · replace h := zpos h hc3
        obtain rfl := Option.some.inj h
        rw [zEx_1]
        exact zr_throw (cls := "java/lang/IllegalArgumentException") (names := zEN) hx_81 (by decide +kernel) (by decide +kernel) xk_52 xi_1 xa_56 dX11_code_22 dX11_code_25 dX11_code_26 dX11_code_28 dX11_code_31 (by decide +kernel) (by decide) (by decide) (by decide) (Nat.le_refl _) (Nat.le_refl _)
      · replace h := zneg h hc3
        refine zr_load ⟨_, dX11_code_15, rfl⟩ rfl ?_
        refine zr_sipush dX11_code_16 (by decide) (by decide) ?_
        refine zr_ic_le (tgt := 32) dX11_code_19 (by decide) (fun hc4 => ?_) (fun hc4 => ?_)
        · replace h := zpos h hc4
          refine zr_loadw dX11_code_32 rfl ?_
          refine zr_bipush dX11_code_34 (by decide) (by decide) ?_
          refine zr_ic_lt (tgt := 46) dX11_code_36 (by decide) (fun hc5 => ?_) (fun hc5 => ?_)
          · replace h := zpos h hc5
            obtain rfl := Option.some.inj h
            rw [zEx_1]
            exact zr_throw (cls := "java/lang/IllegalArgumentException") (names := zEN) hx_54 (by decide +kernel) (by decide +kernel) xk_52 xi_1 xa_56 dX11_code_46 dX11_code_49 dX11_code_50 dX11_code_52 dX11_code_55 (by decide +kernel) (by decide) (by decide) (by decide) (Nat.le_refl _) (Nat.le_refl _)
          · replace h := zneg h hc5
            refine zr_loadw dX11_code_39 rfl ?_
            refine zr_bipush dX11_code_41 (by decide) (by decide) ?_
            refine zr_ic_le (tgt := 56) dX11_code_43 (by decide) (fun hc6 => ?_) (fun hc6 => ?_)
            · replace h := zpos h hc6
              refine zr_iconst dX11_code_56 (by decide) ?_
              refine zr_load ⟨_, dX11_code_57, rfl⟩ rfl ?_
              have hj7 : zB m_X11_code (zR 10 1 6) (zFE zLw (zFX (zEx res) 1 6 (ziT s 0 TCo))) zall 66 [some (.inr (.inl (some 0))), some (.inl a1), some (.inl a2), some (.inl a3), some (.inl a4), none] [.inl (if a1 = 0 then 0 else 1), .inl 3] (ziT s 0 TCo) 0 0 := by
                refine zr_iadd dX11_code_66 ?_
                refine zr_load ⟨_, dX11_code_67, rfl⟩ rfl ?_
                obtain ⟨x9, hx9, h⟩ := zbind h
                refine zt_call0 (t_Co_digitsOf hx9) (zrun_S (rest := [.inl (w32 (3 + (if a1 = 0 then 0 else 1)))]) dX11_code_68 ml_X11_83 rfl (by decide) (by decide) rfl (Nat.le_of_ble_eq_true rfl)) rfl rfl (Nat.zero_le _) (Nat.zero_le _) ?_
                refine zr_iadd dX11_code_71 ?_
                refine zr_load ⟨_, dX11_code_72, rfl⟩ rfl ?_
                refine zr_if_ne (tgt := 80) dX11_code_73 (by decide) (fun hc10 => ?_) (fun hc10 => ?_)
                · replace h := zpos h hc10
                  refine zr_iconst dX11_code_80 (by decide) ?_
                  refine zr_load ⟨_, dX11_code_81, rfl⟩ rfl ?_
                  obtain ⟨x11, hx11, h⟩ := zbind h
                  refine zt_call0 (t_Co_digitsOf hx11) (zrun_S (rest := [.inl 1, .inl (w32 ((w32 (3 + (if a1 = 0 then 0 else 1))) + x9))]) dX11_code_82 ml_X11_83 rfl (by decide) (by decide) rfl (Nat.le_of_ble_eq_true rfl)) rfl rfl (Nat.zero_le _) (Nat.zero_le _) ?_
                  refine zr_iadd dX11_code_85 ?_
                  exact x_Co_code_j86 h
                · replace h := zneg h hc10
                  refine zr_iconst dX11_code_76 (by decide) ?_
                  refine zr_goto (tgt := 86) dX11_code_77 (by decide) ?_
                  exact x_Co_code_j86 h
              refine zr_if_eq (tgt := 65) dX11_code_58 (by decide) (fun hc8 => ?_) (fun hc8 => ?_)
              · have hp12 := zif_t hj7 hc8
                refine zr_iconst dX11_code_65 (by decide) ?_
                exact hp12
              · have hp13 := zif_f hj7 hc8
                refine zr_iconst dX11_code_61 (by decide) ?_
                refine zr_goto (tgt := 66) dX11_code_62 (by decide) ?_
                exact hp13
            · replace h := zneg h hc6
              obtain rfl := Option.some.inj h
              rw [zEx_1]
              exact zr_throw (cls := "java/lang/IllegalArgumentException") (names := zEN) hx_54 (by decide +kernel) (by decide +kernel) xk_52 xi_1 xa_56 dX11_code_46 dX11_code_49 dX11_code_50 dX11_code_52 dX11_code_55 (by decide +kernel) (by decide) (by decide) (by decide) (Nat.le_refl _) (Nat.le_refl _)
        · replace h := zneg h hc4
          obtain rfl := Option.some.inj h
          rw [zEx_1]
          exact zr_throw (cls := "java/lang/IllegalArgumentException") (names := zEN) hx_81 (by decide +kernel) (by decide +kernel) xk_52 xi_1 xa_56 dX11_code_22 dX11_code_25 dX11_code_26 dX11_code_28 dX11_code_31 (by decide +kernel) (by decide) (by decide) (by decide) (Nat.le_refl _) (Nat.le_refl _)
def e_Co_draft_ (a1 : Int) (s : zSt) : Option Int :=
  if a1 < 1 then
    some 1
  else
    if a1 < 127 then
      (f_By_room (zsb (zsh 3) s)).bind fun x3 =>
      if 1 ≤ x3 then
        none
      else
        some 2
    else
      some 1
set_option maxRecDepth 100000 in
set_option maxHeartbeats 4000000 in
theorem x_Co_draft {a1 : Int} {s : zSt} {res : Int} (h : e_Co_draft_ a1 s = some res) : zSpecX zLw 7 1 6 m_X11_draft [.inr (.inl (some 0)), .inl a1] (ziT s 0 TCo) (zEx res) := by
  refine zSpecX_of (by decide +kernel) (Nat.le_of_ble_eq_true rfl) ?_
  show zB m_X11_draft (zR 7 1 6) (zFE zLw (zFX (zEx res) 1 6 (ziT s 0 TCo))) zall 0 [some (.inr (.inl (some 0))), some (.inl a1)] [] (ziT s 0 TCo) 0 0
  unfold e_Co_draft_ at h
  refine zr_load ⟨_, dX11_draft_0, rfl⟩ rfl ?_
  refine zr_iconst dX11_draft_1 (by decide) ?_
  refine zr_ic_lt (tgt := 11) dX11_draft_2 (by decide) (fun hc1 => ?_) (fun hc1 => ?_)
  · replace h := zpos h hc1
    obtain rfl := Option.some.inj h
    rw [zEx_1]
    exact zr_throw (cls := "java/lang/IllegalArgumentException") (names := zEN) hx_54 (by decide +kernel) (by decide +kernel) xk_52 xi_1 xa_56 dX11_draft_11 dX11_draft_14 dX11_draft_15 dX11_draft_17 dX11_draft_20 (by decide +kernel) (by decide) (by decide) (by decide) (Nat.le_refl _) (Nat.le_refl _)
  · replace h := zneg h hc1
    refine zr_load ⟨_, dX11_draft_5, rfl⟩ rfl ?_
    refine zr_bipush dX11_draft_6 (by decide) (by decide) ?_
    refine zr_ic_lt (tgt := 21) dX11_draft_8 (by decide) (fun hc2 => ?_) (fun hc2 => ?_)
    · replace h := zpos h hc2
      refine zr_aload ⟨_, dX11_draft_21, rfl⟩ rfl ?_
      refine zt_getr dX11_draft_22 fl_X11_18 rfl rfl ?_
      obtain ⟨x3, hx3, h⟩ := zbind h
      refine zt_callis (t_By_room hx3) (zrun_V (rest := []) dX11_draft_25 ml_X11_117 rfl rfl (by decide) (by decide) rfl (Nat.le_of_ble_eq_true rfl)) rfl rfl sb_TCo_TBy_3 (Nat.zero_le _) (Nat.zero_le _) ?_
      refine zr_iconst dX11_draft_28 (by decide) ?_
      refine zr_ic_ge (tgt := 42) dX11_draft_29 (by decide) (fun hc4 => ?_) (fun hc4 => ?_)
      · replace h := zpos h hc4
        cases h
      · replace h := zneg h hc4
        obtain rfl := Option.some.inj h
        rw [zEx_2]
        exact zr_throw (cls := "java/lang/IllegalStateException") (names := zEN) hx_120 (by decide +kernel) (by decide +kernel) xk_63 xi_2 xa_67 dX11_draft_32 dX11_draft_35 dX11_draft_36 dX11_draft_38 dX11_draft_41 (by decide +kernel) (by decide) (by decide) (by decide) (Nat.le_refl _) (Nat.le_refl _)
    · replace h := zneg h hc2
      obtain rfl := Option.some.inj h
      rw [zEx_1]
      exact zr_throw (cls := "java/lang/IllegalArgumentException") (names := zEN) hx_54 (by decide +kernel) (by decide +kernel) xk_52 xi_1 xa_56 dX11_draft_11 dX11_draft_14 dX11_draft_15 dX11_draft_17 dX11_draft_20 (by decide +kernel) (by decide) (by decide) (by decide) (Nat.le_refl _) (Nat.le_refl _)
def e_Co_goesOn_ (a1 : Int) (s : zSt) : Option Int :=
  (f_Hi_count (zsb (zsh 19) s)).bind fun x1 =>
  if a1 < (w32 (-x1)) then
    some 3
  else
    if a1 < (s.1 14 9) then
      none
    else
      some 3
set_option maxRecDepth 100000 in
set_option maxHeartbeats 4000000 in
theorem x_Co_goesOn {a1 : Int} {s : zSt} {res : Int} (h : e_Co_goesOn_ a1 s = some res) : zSpecX zLw 7 1 6 m_X11_goesOn [.inr (.inl (some 0)), .inl a1] (ziT s 0 TCo) (zEx res) := by
  refine zSpecX_of (by decide +kernel) (Nat.le_of_ble_eq_true rfl) ?_
  show zB m_X11_goesOn (zR 7 1 6) (zFE zLw (zFX (zEx res) 1 6 (ziT s 0 TCo))) zall 0 [some (.inr (.inl (some 0))), some (.inl a1), none] [] (ziT s 0 TCo) 0 0
  unfold e_Co_goesOn_ at h
  refine zr_aload ⟨_, dX11_goesOn_0, rfl⟩ rfl ?_
  refine zt_getr dX11_goesOn_1 fl_X11_31 rfl rfl ?_
  refine zt_getr dX11_goesOn_4 fl_X11_164 rfl rfl ?_
  refine zt_getr dX11_goesOn_7 fl_X11_168 rfl rfl ?_
  obtain ⟨x1, hx1, h⟩ := zbind h
  refine zt_callis (t_Hi_count hx1) (zrun_V (rest := []) dX11_goesOn_10 ml_X11_174 rfl rfl (by decide) (by decide) rfl (Nat.le_of_ble_eq_true rfl)) rfl rfl sb_TCo_THi_19 (Nat.zero_le _) (Nat.zero_le _) ?_
  refine zr_store ⟨_, dX11_goesOn_13, rfl⟩ (by decide) rfl ?_
  refine zr_load ⟨_, dX11_goesOn_14, rfl⟩ rfl ?_
  refine zr_load ⟨_, dX11_goesOn_15, rfl⟩ rfl ?_
  refine zr_ineg dX11_goesOn_16 ?_
  refine zr_ic_lt (tgt := 31) dX11_goesOn_17 (by decide) (fun hc2 => ?_) (fun hc2 => ?_)
  · replace h := zpos h hc2
    obtain rfl := Option.some.inj h
    rw [zEx_3]
    exact zr_throw (cls := "java/lang/IndexOutOfBoundsException") (names := zEN) hx_213 (by decide +kernel) (by decide +kernel) xk_135 xi_3 xa_139 dX11_goesOn_31 dX11_goesOn_34 dX11_goesOn_35 dX11_goesOn_37 dX11_goesOn_40 (by decide +kernel) (by decide) (by decide) (by decide) (Nat.le_refl _) (Nat.le_refl _)
  · replace h := zneg h hc2
    refine zr_load ⟨_, dX11_goesOn_20, rfl⟩ rfl ?_
    refine zr_aload ⟨_, dX11_goesOn_21, rfl⟩ rfl ?_
    refine zt_getr dX11_goesOn_22 fl_X11_31 rfl rfl ?_
    refine zt_get dX11_goesOn_25 fl_X11_211 rfl rfl ?_
    refine zr_ic_lt (tgt := 41) dX11_goesOn_28 (by decide) (fun hc3 => ?_) (fun hc3 => ?_)
    · replace h := zpos h hc3
      cases h
    · replace h := zneg h hc3
      obtain rfl := Option.some.inj h
      rw [zEx_3]
      exact zr_throw (cls := "java/lang/IndexOutOfBoundsException") (names := zEN) hx_213 (by decide +kernel) (by decide +kernel) xk_135 xi_3 xa_139 dX11_goesOn_31 dX11_goesOn_34 dX11_goesOn_35 dX11_goesOn_37 dX11_goesOn_40 (by decide +kernel) (by decide) (by decide) (by decide) (Nat.le_refl _) (Nat.le_refl _)
def e_Co_key_ (a1 a2 : Int) (s : zSt) : Option Int :=
  if a1 < 0 then
    some 1
  else
    if a1 ≤ 6 then
      if a2 < 0 then
        some 1
      else
        if a2 ≤ 7 then
          none
        else
          some 1
    else
      some 1
set_option maxRecDepth 100000 in
set_option maxHeartbeats 4000000 in
theorem x_Co_key {a1 a2 : Int} {s : zSt} {res : Int} (h : e_Co_key_ a1 a2 s = some res) : zSpecX zLw 10 1 6 m_X11_key [.inr (.inl (some 0)), .inl a1, .inl a2] (ziT s 0 TCo) (zEx res) := by
  refine zSpecX_of (by decide +kernel) (Nat.le_of_ble_eq_true rfl) ?_
  show zB m_X11_key (zR 10 1 6) (zFE zLw (zFX (zEx res) 1 6 (ziT s 0 TCo))) zall 0 [some (.inr (.inl (some 0))), some (.inl a1), some (.inl a2), none, none] [] (ziT s 0 TCo) 0 0
  unfold e_Co_key_ at h
  refine zr_load ⟨_, dX11_key_0, rfl⟩ rfl ?_
  refine zr_if_lt (tgt := 10) dX11_key_1 (by decide) (fun hc1 => ?_) (fun hc1 => ?_)
  · replace h := zpos h hc1
    obtain rfl := Option.some.inj h
    rw [zEx_1]
    exact zr_throw (cls := "java/lang/IllegalArgumentException") (names := zEN) hx_96 (by decide +kernel) (by decide +kernel) xk_52 xi_1 xa_56 dX11_key_10 dX11_key_13 dX11_key_14 dX11_key_16 dX11_key_19 (by decide +kernel) (by decide) (by decide) (by decide) (Nat.le_refl _) (Nat.le_refl _)
  · replace h := zneg h hc1
    refine zr_load ⟨_, dX11_key_4, rfl⟩ rfl ?_
    refine zr_bipush dX11_key_5 (by decide) (by decide) ?_
    refine zr_ic_le (tgt := 20) dX11_key_7 (by decide) (fun hc2 => ?_) (fun hc2 => ?_)
    · replace h := zpos h hc2
      refine zr_load ⟨_, dX11_key_20, rfl⟩ rfl ?_
      refine zr_if_lt (tgt := 30) dX11_key_21 (by decide) (fun hc3 => ?_) (fun hc3 => ?_)
      · replace h := zpos h hc3
        obtain rfl := Option.some.inj h
        rw [zEx_1]
        exact zr_throw (cls := "java/lang/IllegalArgumentException") (names := zEN) hx_98 (by decide +kernel) (by decide +kernel) xk_52 xi_1 xa_56 dX11_key_30 dX11_key_33 dX11_key_34 dX11_key_36 dX11_key_39 (by decide +kernel) (by decide) (by decide) (by decide) (Nat.le_refl _) (Nat.le_refl _)
      · replace h := zneg h hc3
        refine zr_load ⟨_, dX11_key_24, rfl⟩ rfl ?_
        refine zr_bipush dX11_key_25 (by decide) (by decide) ?_
        refine zr_ic_le (tgt := 40) dX11_key_27 (by decide) (fun hc4 => ?_) (fun hc4 => ?_)
        · replace h := zpos h hc4
          cases h
        · replace h := zneg h hc4
          obtain rfl := Option.some.inj h
          rw [zEx_1]
          exact zr_throw (cls := "java/lang/IllegalArgumentException") (names := zEN) hx_98 (by decide +kernel) (by decide +kernel) xk_52 xi_1 xa_56 dX11_key_30 dX11_key_33 dX11_key_34 dX11_key_36 dX11_key_39 (by decide +kernel) (by decide) (by decide) (by decide) (Nat.le_refl _) (Nat.le_refl _)
    · replace h := zneg h hc2
      obtain rfl := Option.some.inj h
      rw [zEx_1]
      exact zr_throw (cls := "java/lang/IllegalArgumentException") (names := zEN) hx_96 (by decide +kernel) (by decide +kernel) xk_52 xi_1 xa_56 dX11_key_10 dX11_key_13 dX11_key_14 dX11_key_16 dX11_key_19 (by decide +kernel) (by decide) (by decide) (by decide) (Nat.le_refl _) (Nat.le_refl _)
def e_Co_least_ (a1 : Int) (s : zSt) : Option Int :=
  if a1 < 0 then
    some 3
  else
    if a1 < (s.1 14 9) then
      none
    else
      some 3
set_option maxRecDepth 100000 in
set_option maxHeartbeats 4000000 in
theorem x_Co_least {a1 : Int} {s : zSt} {res : Int} (h : e_Co_least_ a1 s = some res) : zSpecX zLw 7 1 6 m_X11_least [.inr (.inl (some 0)), .inl a1] (ziT s 0 TCo) (zEx res) := by
  refine zSpecX_of (by decide +kernel) (Nat.le_of_ble_eq_true rfl) ?_
  show zB m_X11_least (zR 7 1 6) (zFE zLw (zFX (zEx res) 1 6 (ziT s 0 TCo))) zall 0 [some (.inr (.inl (some 0))), some (.inl a1)] [] (ziT s 0 TCo) 0 0
  unfold e_Co_least_ at h
  refine zr_load ⟨_, dX11_least_0, rfl⟩ rfl ?_
  refine zr_if_lt (tgt := 15) dX11_least_1 (by decide) (fun hc1 => ?_) (fun hc1 => ?_)
  · replace h := zpos h hc1
    obtain rfl := Option.some.inj h
    rw [zEx_3]
    exact zr_throw (cls := "java/lang/IndexOutOfBoundsException") (names := zEN) hx_213 (by decide +kernel) (by decide +kernel) xk_135 xi_3 xa_139 dX11_least_15 dX11_least_18 dX11_least_19 dX11_least_21 dX11_least_24 (by decide +kernel) (by decide) (by decide) (by decide) (Nat.le_refl _) (Nat.le_refl _)
  · replace h := zneg h hc1
    refine zr_load ⟨_, dX11_least_4, rfl⟩ rfl ?_
    refine zr_aload ⟨_, dX11_least_5, rfl⟩ rfl ?_
    refine zt_getr dX11_least_6 fl_X11_31 rfl rfl ?_
    refine zt_get dX11_least_9 fl_X11_211 rfl rfl ?_
    refine zr_ic_lt (tgt := 25) dX11_least_12 (by decide) (fun hc2 => ?_) (fun hc2 => ?_)
    · replace h := zpos h hc2
      cases h
    · replace h := zneg h hc2
      obtain rfl := Option.some.inj h
      rw [zEx_3]
      exact zr_throw (cls := "java/lang/IndexOutOfBoundsException") (names := zEN) hx_213 (by decide +kernel) (by decide +kernel) xk_135 xi_3 xa_139 dX11_least_15 dX11_least_18 dX11_least_19 dX11_least_21 dX11_least_24 (by decide +kernel) (by decide) (by decide) (by decide) (Nat.le_refl _) (Nat.le_refl _)
def e_Co_mouse_ (a1 a2 a3 : Int) (s : zSt) : Option Int :=
  (f_Sc_has a2 a3 (zsb (zsh 14) s)).bind fun x1 =>
  if ¬ x1 = 0 then
    if a1 < 0 then
      some 1
    else
      if a1 ≤ 2 then
        none
      else
        some 1
  else
    some 3
set_option maxRecDepth 100000 in
set_option maxHeartbeats 4000000 in
theorem x_Co_mouse {a1 a2 a3 : Int} {s : zSt} {res : Int} (h : e_Co_mouse_ a1 a2 a3 s = some res) : zSpecX zLw 10 1 6 m_X11_mouse [.inr (.inl (some 0)), .inl a1, .inl a2, .inl a3] (ziT s 0 TCo) (zEx res) := by
  refine zSpecX_of (by decide +kernel) (Nat.le_of_ble_eq_true rfl) ?_
  show zB m_X11_mouse (zR 10 1 6) (zFE zLw (zFX (zEx res) 1 6 (ziT s 0 TCo))) zall 0 [some (.inr (.inl (some 0))), some (.inl a1), some (.inl a2), some (.inl a3), none] [] (ziT s 0 TCo) 0 0
  unfold e_Co_mouse_ at h
  refine zr_aload ⟨_, dX11_mouse_0, rfl⟩ rfl ?_
  refine zt_getr dX11_mouse_1 fl_X11_31 rfl rfl ?_
  refine zr_load ⟨_, dX11_mouse_4, rfl⟩ rfl ?_
  refine zr_load ⟨_, dX11_mouse_5, rfl⟩ rfl ?_
  obtain ⟨x1, hx1, h⟩ := zbind h
  refine zt_callis (t_Sc_has hx1) (zrun_V (rest := []) dX11_mouse_6 ml_X11_131 rfl rfl (by decide) (by decide) rfl (Nat.le_of_ble_eq_true rfl)) rfl rfl sb_TCo_TSc_14 (Nat.zero_le _) (Nat.zero_le _) ?_
  refine zr_if_ne (tgt := 22) dX11_mouse_9 (by decide) (fun hc2 => ?_) (fun hc2 => ?_)
  · replace h := zpos h hc2
    refine zr_load ⟨_, dX11_mouse_22, rfl⟩ rfl ?_
    refine zr_if_lt (tgt := 31) dX11_mouse_23 (by decide) (fun hc3 => ?_) (fun hc3 => ?_)
    · replace h := zpos h hc3
      obtain rfl := Option.some.inj h
      rw [zEx_1]
      exact zr_throw (cls := "java/lang/IllegalArgumentException") (names := zEN) hx_140 (by decide +kernel) (by decide +kernel) xk_52 xi_1 xa_56 dX11_mouse_31 dX11_mouse_34 dX11_mouse_35 dX11_mouse_37 dX11_mouse_40 (by decide +kernel) (by decide) (by decide) (by decide) (Nat.le_refl _) (Nat.le_refl _)
    · replace h := zneg h hc3
      refine zr_load ⟨_, dX11_mouse_26, rfl⟩ rfl ?_
      refine zr_iconst dX11_mouse_27 (by decide) ?_
      refine zr_ic_le (tgt := 41) dX11_mouse_28 (by decide) (fun hc4 => ?_) (fun hc4 => ?_)
      · replace h := zpos h hc4
        cases h
      · replace h := zneg h hc4
        obtain rfl := Option.some.inj h
        rw [zEx_1]
        exact zr_throw (cls := "java/lang/IllegalArgumentException") (names := zEN) hx_140 (by decide +kernel) (by decide +kernel) xk_52 xi_1 xa_56 dX11_mouse_31 dX11_mouse_34 dX11_mouse_35 dX11_mouse_37 dX11_mouse_40 (by decide +kernel) (by decide) (by decide) (by decide) (Nat.le_refl _) (Nat.le_refl _)
  · replace h := zneg h hc2
    obtain rfl := Option.some.inj h
    rw [zEx_3]
    exact zr_throw (cls := "java/lang/IndexOutOfBoundsException") (names := zEN) hx_137 (by decide +kernel) (by decide +kernel) xk_135 xi_3 xa_139 dX11_mouse_12 dX11_mouse_15 dX11_mouse_16 dX11_mouse_18 dX11_mouse_21 (by decide +kernel) (by decide) (by decide) (by decide) (Nat.le_refl _) (Nat.le_refl _)
def e_Co_past_ (a1 a2 : Int) (s : zSt) : Option Int :=
  if a1 < 0 then
    some 3
  else
    (f_Hi_count (zsb (zsh 19) s)).bind fun x2 =>
    if x2 ≤ a1 then
      some 3
    else
      if a2 < 0 then
        some 3
      else
        if a2 < (s.1 14 10) then
          none
        else
          some 3
set_option maxRecDepth 100000 in
set_option maxHeartbeats 4000000 in
theorem x_Co_past {a1 a2 : Int} {s : zSt} {res : Int} (h : e_Co_past_ a1 a2 s = some res) : zSpecX zLw 7 1 6 m_X11_past [.inr (.inl (some 0)), .inl a1, .inl a2] (ziT s 0 TCo) (zEx res) := by
  refine zSpecX_of (by decide +kernel) (Nat.le_of_ble_eq_true rfl) ?_
  show zB m_X11_past (zR 7 1 6) (zFE zLw (zFX (zEx res) 1 6 (ziT s 0 TCo))) zall 0 [some (.inr (.inl (some 0))), some (.inl a1), some (.inl a2)] [] (ziT s 0 TCo) 0 0
  unfold e_Co_past_ at h
  refine zr_load ⟨_, dX11_past_0, rfl⟩ rfl ?_
  refine zr_if_lt (tgt := 36) dX11_past_1 (by decide) (fun hc1 => ?_) (fun hc1 => ?_)
  · replace h := zpos h hc1
    obtain rfl := Option.some.inj h
    rw [zEx_3]
    exact zr_throw (cls := "java/lang/IndexOutOfBoundsException") (names := zEN) hx_137 (by decide +kernel) (by decide +kernel) xk_135 xi_3 xa_139 dX11_past_36 dX11_past_39 dX11_past_40 dX11_past_42 dX11_past_45 (by decide +kernel) (by decide) (by decide) (by decide) (Nat.le_refl _) (Nat.le_refl _)
  · replace h := zneg h hc1
    refine zr_load ⟨_, dX11_past_4, rfl⟩ rfl ?_
    refine zr_aload ⟨_, dX11_past_5, rfl⟩ rfl ?_
    refine zt_getr dX11_past_6 fl_X11_31 rfl rfl ?_
    refine zt_getr dX11_past_9 fl_X11_164 rfl rfl ?_
    refine zt_getr dX11_past_12 fl_X11_168 rfl rfl ?_
    obtain ⟨x2, hx2, h⟩ := zbind h
    refine zt_callis (t_Hi_count hx2) (zrun_V (rest := [.inl a1]) dX11_past_15 ml_X11_174 rfl rfl (by decide) (by decide) rfl (Nat.le_of_ble_eq_true rfl)) rfl rfl sb_TCo_THi_19 (Nat.zero_le _) (Nat.zero_le _) ?_
    refine zr_ic_ge (tgt := 36) dX11_past_18 (by decide) (fun hc3 => ?_) (fun hc3 => ?_)
    · replace h := zpos h hc3
      obtain rfl := Option.some.inj h
      rw [zEx_3]
      exact zr_throw (cls := "java/lang/IndexOutOfBoundsException") (names := zEN) hx_137 (by decide +kernel) (by decide +kernel) xk_135 xi_3 xa_139 dX11_past_36 dX11_past_39 dX11_past_40 dX11_past_42 dX11_past_45 (by decide +kernel) (by decide) (by decide) (by decide) (Nat.le_refl _) (Nat.le_refl _)
    · replace h := zneg h hc3
      refine zr_load ⟨_, dX11_past_21, rfl⟩ rfl ?_
      refine zr_if_lt (tgt := 36) dX11_past_22 (by decide) (fun hc4 => ?_) (fun hc4 => ?_)
      · replace h := zpos h hc4
        obtain rfl := Option.some.inj h
        rw [zEx_3]
        exact zr_throw (cls := "java/lang/IndexOutOfBoundsException") (names := zEN) hx_137 (by decide +kernel) (by decide +kernel) xk_135 xi_3 xa_139 dX11_past_36 dX11_past_39 dX11_past_40 dX11_past_42 dX11_past_45 (by decide +kernel) (by decide) (by decide) (by decide) (Nat.le_refl _) (Nat.le_refl _)
      · replace h := zneg h hc4
        refine zr_load ⟨_, dX11_past_25, rfl⟩ rfl ?_
        refine zr_aload ⟨_, dX11_past_26, rfl⟩ rfl ?_
        refine zt_getr dX11_past_27 fl_X11_31 rfl rfl ?_
        refine zt_get dX11_past_30 fl_X11_206 rfl rfl ?_
        refine zr_ic_lt (tgt := 46) dX11_past_33 (by decide) (fun hc5 => ?_) (fun hc5 => ?_)
        · replace h := zpos h hc5
          cases h
        · replace h := zneg h hc5
          obtain rfl := Option.some.inj h
          rw [zEx_3]
          exact zr_throw (cls := "java/lang/IndexOutOfBoundsException") (names := zEN) hx_137 (by decide +kernel) (by decide +kernel) xk_135 xi_3 xa_139 dX11_past_36 dX11_past_39 dX11_past_40 dX11_past_42 dX11_past_45 (by decide +kernel) (by decide) (by decide) (by decide) (Nat.le_refl _) (Nat.le_refl _)
def e_Co_size_ (a1 a2 : Int) (s : zSt) : Option Int :=
  if a1 < 2 then
    some 1
  else
    if 12 < a1 then
      some 1
    else
      if a2 < 4 then
        some 1
      else
        if a2 ≤ 24 then
          none
        else
          some 1
set_option maxRecDepth 100000 in
set_option maxHeartbeats 4000000 in
theorem x_Co_size {a1 a2 : Int} {s : zSt} {res : Int} (h : e_Co_size_ a1 a2 s = some res) : zSpecX zLw 9 1 6 m_X11_size [.inr (.inl (some 0)), .inl a1, .inl a2] (ziT s 0 TCo) (zEx res) := by
  refine zSpecX_of (by decide +kernel) (Nat.le_of_ble_eq_true rfl) ?_
  show zB m_X11_size (zR 9 1 6) (zFE zLw (zFX (zEx res) 1 6 (ziT s 0 TCo))) zall 0 [some (.inr (.inl (some 0))), some (.inl a1), some (.inl a2)] [] (ziT s 0 TCo) 0 0
  unfold e_Co_size_ at h
  refine zr_load ⟨_, dX11_size_0, rfl⟩ rfl ?_
  refine zr_iconst dX11_size_1 (by decide) ?_
  refine zr_ic_lt (tgt := 22) dX11_size_2 (by decide) (fun hc1 => ?_) (fun hc1 => ?_)
  · replace h := zpos h hc1
    obtain rfl := Option.some.inj h
    rw [zEx_1]
    exact zr_throw (cls := "java/lang/IllegalArgumentException") (names := zEN) hx_152 (by decide +kernel) (by decide +kernel) xk_52 xi_1 xa_56 dX11_size_22 dX11_size_25 dX11_size_26 dX11_size_28 dX11_size_31 (by decide +kernel) (by decide) (by decide) (by decide) (Nat.le_refl _) (Nat.le_refl _)
  · replace h := zneg h hc1
    refine zr_load ⟨_, dX11_size_5, rfl⟩ rfl ?_
    refine zr_bipush dX11_size_6 (by decide) (by decide) ?_
    refine zr_ic_gt (tgt := 22) dX11_size_8 (by decide) (fun hc2 => ?_) (fun hc2 => ?_)
    · replace h := zpos h hc2
      obtain rfl := Option.some.inj h
      rw [zEx_1]
      exact zr_throw (cls := "java/lang/IllegalArgumentException") (names := zEN) hx_152 (by decide +kernel) (by decide +kernel) xk_52 xi_1 xa_56 dX11_size_22 dX11_size_25 dX11_size_26 dX11_size_28 dX11_size_31 (by decide +kernel) (by decide) (by decide) (by decide) (Nat.le_refl _) (Nat.le_refl _)
    · replace h := zneg h hc2
      refine zr_load ⟨_, dX11_size_11, rfl⟩ rfl ?_
      refine zr_iconst dX11_size_12 (by decide) ?_
      refine zr_ic_lt (tgt := 22) dX11_size_13 (by decide) (fun hc3 => ?_) (fun hc3 => ?_)
      · replace h := zpos h hc3
        obtain rfl := Option.some.inj h
        rw [zEx_1]
        exact zr_throw (cls := "java/lang/IllegalArgumentException") (names := zEN) hx_152 (by decide +kernel) (by decide +kernel) xk_52 xi_1 xa_56 dX11_size_22 dX11_size_25 dX11_size_26 dX11_size_28 dX11_size_31 (by decide +kernel) (by decide) (by decide) (by decide) (Nat.le_refl _) (Nat.le_refl _)
      · replace h := zneg h hc3
        refine zr_load ⟨_, dX11_size_16, rfl⟩ rfl ?_
        refine zr_bipush dX11_size_17 (by decide) (by decide) ?_
        refine zr_ic_le (tgt := 32) dX11_size_19 (by decide) (fun hc4 => ?_) (fun hc4 => ?_)
        · replace h := zpos h hc4
          cases h
        · replace h := zneg h hc4
          obtain rfl := Option.some.inj h
          rw [zEx_1]
          exact zr_throw (cls := "java/lang/IllegalArgumentException") (names := zEN) hx_152 (by decide +kernel) (by decide +kernel) xk_52 xi_1 xa_56 dX11_size_22 dX11_size_25 dX11_size_26 dX11_size_28 dX11_size_31 (by decide +kernel) (by decide) (by decide) (by decide) (Nat.le_refl _) (Nat.le_refl _)
def e_Co_title_ (a1 : Int) (s : zSt) : Option Int :=
  if a1 < 0 then
    some 3
  else
    (f_By_count (zsb (zsh 29) s)).bind fun x2 =>
    if a1 < x2 then
      none
    else
      some 3
set_option maxRecDepth 100000 in
set_option maxHeartbeats 4000000 in
theorem x_Co_title {a1 : Int} {s : zSt} {res : Int} (h : e_Co_title_ a1 s = some res) : zSpecX zLw 7 1 6 m_X11_title [.inr (.inl (some 0)), .inl a1] (ziT s 0 TCo) (zEx res) := by
  refine zSpecX_of (by decide +kernel) (Nat.le_of_ble_eq_true rfl) ?_
  show zB m_X11_title (zR 7 1 6) (zFE zLw (zFX (zEx res) 1 6 (ziT s 0 TCo))) zall 0 [some (.inr (.inl (some 0))), some (.inl a1)] [] (ziT s 0 TCo) 0 0
  unfold e_Co_title_ at h
  refine zr_load ⟨_, dX11_title_0, rfl⟩ rfl ?_
  refine zr_if_lt (tgt := 21) dX11_title_1 (by decide) (fun hc1 => ?_) (fun hc1 => ?_)
  · replace h := zpos h hc1
    obtain rfl := Option.some.inj h
    rw [zEx_3]
    exact zr_throw (cls := "java/lang/IndexOutOfBoundsException") (names := zEN) hx_228 (by decide +kernel) (by decide +kernel) xk_135 xi_3 xa_139 dX11_title_21 dX11_title_24 dX11_title_25 dX11_title_27 dX11_title_30 (by decide +kernel) (by decide) (by decide) (by decide) (Nat.le_refl _) (Nat.le_refl _)
  · replace h := zneg h hc1
    refine zr_load ⟨_, dX11_title_4, rfl⟩ rfl ?_
    refine zr_aload ⟨_, dX11_title_5, rfl⟩ rfl ?_
    refine zt_getr dX11_title_6 fl_X11_31 rfl rfl ?_
    refine zt_getr dX11_title_9 fl_X11_219 rfl rfl ?_
    refine zt_getr dX11_title_12 fl_X11_223 rfl rfl ?_
    obtain ⟨x2, hx2, h⟩ := zbind h
    refine zt_callis (t_By_count hx2) (zrun_V (rest := [.inl a1]) dX11_title_15 ml_X11_77 rfl rfl (by decide) (by decide) rfl (Nat.le_of_ble_eq_true rfl)) rfl rfl sb_TCo_TBy_29 (Nat.zero_le _) (Nat.zero_le _) ?_
    refine zr_ic_lt (tgt := 31) dX11_title_18 (by decide) (fun hc3 => ?_) (fun hc3 => ?_)
    · replace h := zpos h hc3
      cases h
    · replace h := zneg h hc3
      obtain rfl := Option.some.inj h
      rw [zEx_3]
      exact zr_throw (cls := "java/lang/IndexOutOfBoundsException") (names := zEN) hx_228 (by decide +kernel) (by decide +kernel) xk_135 xi_3 xa_139 dX11_title_21 dX11_title_24 dX11_title_25 dX11_title_27 dX11_title_30 (by decide +kernel) (by decide) (by decide) (by decide) (Nat.le_refl _) (Nat.le_refl _)
def e_Co_told_ (a1 : Int) (s : zSt) : Option Int :=
  if a1 < 0 then
    some 1
  else
    if a1 ≤ 20 then
      none
    else
      some 1
set_option maxRecDepth 100000 in
set_option maxHeartbeats 4000000 in
theorem x_Co_told {a1 : Int} {s : zSt} {res : Int} (h : e_Co_told_ a1 s = some res) : zSpecX zLw 7 1 6 m_X11_told [.inr (.inl (some 0)), .inl a1] (ziT s 0 TCo) (zEx res) := by
  refine zSpecX_of (by decide +kernel) (Nat.le_of_ble_eq_true rfl) ?_
  show zB m_X11_told (zR 7 1 6) (zFE zLw (zFX (zEx res) 1 6 (ziT s 0 TCo))) zall 0 [some (.inr (.inl (some 0))), some (.inl a1)] [] (ziT s 0 TCo) 0 0
  unfold e_Co_told_ at h
  refine zr_load ⟨_, dX11_told_0, rfl⟩ rfl ?_
  refine zr_if_lt (tgt := 10) dX11_told_1 (by decide) (fun hc1 => ?_) (fun hc1 => ?_)
  · replace h := zpos h hc1
    obtain rfl := Option.some.inj h
    rw [zEx_1]
    exact zr_throw (cls := "java/lang/IllegalArgumentException") (names := zEN) hx_232 (by decide +kernel) (by decide +kernel) xk_52 xi_1 xa_56 dX11_told_10 dX11_told_13 dX11_told_14 dX11_told_16 dX11_told_19 (by decide +kernel) (by decide) (by decide) (by decide) (Nat.le_refl _) (Nat.le_refl _)
  · replace h := zneg h hc1
    refine zr_load ⟨_, dX11_told_4, rfl⟩ rfl ?_
    refine zr_bipush dX11_told_5 (by decide) (by decide) ?_
    refine zr_ic_le (tgt := 20) dX11_told_7 (by decide) (fun hc2 => ?_) (fun hc2 => ?_)
    · replace h := zpos h hc2
      cases h
    · replace h := zneg h hc2
      obtain rfl := Option.some.inj h
      rw [zEx_1]
      exact zr_throw (cls := "java/lang/IllegalArgumentException") (names := zEN) hx_232 (by decide +kernel) (by decide +kernel) xk_52 xi_1 xa_56 dX11_told_10 dX11_told_13 dX11_told_14 dX11_told_16 dX11_told_19 (by decide +kernel) (by decide) (by decide) (by decide) (Nat.le_refl _) (Nat.le_refl _)
def e_Co_type_ (a1 : Int) (s : zSt) : Option Int :=
  if a1 < 0 then
    some 1
  else
    if a1 ≤ 127 then
      none
    else
      some 1
set_option maxRecDepth 100000 in
set_option maxHeartbeats 4000000 in
theorem x_Co_type {a1 : Int} {s : zSt} {res : Int} (h : e_Co_type_ a1 s = some res) : zSpecX zLw 10 1 6 m_X11_type [.inr (.inl (some 0)), .inl a1] (ziT s 0 TCo) (zEx res) := by
  refine zSpecX_of (by decide +kernel) (Nat.le_of_ble_eq_true rfl) ?_
  show zB m_X11_type (zR 10 1 6) (zFE zLw (zFX (zEx res) 1 6 (ziT s 0 TCo))) zall 0 [some (.inr (.inl (some 0))), some (.inl a1)] [] (ziT s 0 TCo) 0 0
  unfold e_Co_type_ at h
  refine zr_load ⟨_, dX11_type_0, rfl⟩ rfl ?_
  refine zr_if_lt (tgt := 10) dX11_type_1 (by decide) (fun hc1 => ?_) (fun hc1 => ?_)
  · replace h := zpos h hc1
    obtain rfl := Option.some.inj h
    rw [zEx_1]
    exact zr_throw (cls := "java/lang/IllegalArgumentException") (names := zEN) hx_54 (by decide +kernel) (by decide +kernel) xk_52 xi_1 xa_56 dX11_type_10 dX11_type_13 dX11_type_14 dX11_type_16 dX11_type_19 (by decide +kernel) (by decide) (by decide) (by decide) (Nat.le_refl _) (Nat.le_refl _)
  · replace h := zneg h hc1
    refine zr_load ⟨_, dX11_type_4, rfl⟩ rfl ?_
    refine zr_bipush dX11_type_5 (by decide) (by decide) ?_
    refine zr_ic_le (tgt := 20) dX11_type_7 (by decide) (fun hc2 => ?_) (fun hc2 => ?_)
    · replace h := zpos h hc2
      cases h
    · replace h := zneg h hc2
      obtain rfl := Option.some.inj h
      rw [zEx_1]
      exact zr_throw (cls := "java/lang/IllegalArgumentException") (names := zEN) hx_54 (by decide +kernel) (by decide +kernel) xk_52 xi_1 xa_56 dX11_type_10 dX11_type_13 dX11_type_14 dX11_type_16 dX11_type_19 (by decide +kernel) (by decide) (by decide) (by decide) (Nat.le_refl _) (Nat.le_refl _)
def e_Co_write_ (a1 : Int) (s : zSt) : Option Int :=
  if a1 < 0 then
    some 1
  else
    if a1 ≤ 127 then
      (f_Li_hasRoomFor 1 (zsb (zsh 5) s)).bind fun x3 =>
      if ¬ x3 = 0 then
        none
      else
        some 2
    else
      some 1
set_option maxRecDepth 100000 in
set_option maxHeartbeats 4000000 in
theorem x_Co_write {a1 : Int} {s : zSt} {res : Int} (h : e_Co_write_ a1 s = some res) : zSpecX zLw 10 1 6 m_X11_write [.inr (.inl (some 0)), .inl a1] (ziT s 0 TCo) (zEx res) := by
  refine zSpecX_of (by decide +kernel) (Nat.le_of_ble_eq_true rfl) ?_
  show zB m_X11_write (zR 10 1 6) (zFE zLw (zFX (zEx res) 1 6 (ziT s 0 TCo))) zall 0 [some (.inr (.inl (some 0))), some (.inl a1)] [] (ziT s 0 TCo) 0 0
  unfold e_Co_write_ at h
  refine zr_load ⟨_, dX11_write_0, rfl⟩ rfl ?_
  refine zr_if_lt (tgt := 10) dX11_write_1 (by decide) (fun hc1 => ?_) (fun hc1 => ?_)
  · replace h := zpos h hc1
    obtain rfl := Option.some.inj h
    rw [zEx_1]
    exact zr_throw (cls := "java/lang/IllegalArgumentException") (names := zEN) hx_54 (by decide +kernel) (by decide +kernel) xk_52 xi_1 xa_56 dX11_write_10 dX11_write_13 dX11_write_14 dX11_write_16 dX11_write_19 (by decide +kernel) (by decide) (by decide) (by decide) (Nat.le_refl _) (Nat.le_refl _)
  · replace h := zneg h hc1
    refine zr_load ⟨_, dX11_write_4, rfl⟩ rfl ?_
    refine zr_bipush dX11_write_5 (by decide) (by decide) ?_
    refine zr_ic_le (tgt := 20) dX11_write_7 (by decide) (fun hc2 => ?_) (fun hc2 => ?_)
    · replace h := zpos h hc2
      refine zr_aload ⟨_, dX11_write_20, rfl⟩ rfl ?_
      refine zt_getr dX11_write_21 fl_X11_24 rfl rfl ?_
      refine zr_iconst dX11_write_24 (by decide) ?_
      obtain ⟨x3, hx3, h⟩ := zbind h
      refine zt_callis (t_Li_hasRoomFor hx3) (zrun_V (rest := []) dX11_write_25 ml_X11_59 rfl rfl (by decide) (by decide) rfl (Nat.le_of_ble_eq_true rfl)) rfl rfl sb_TCo_TLi_5 (Nat.zero_le _) (Nat.zero_le _) ?_
      refine zr_if_ne (tgt := 41) dX11_write_28 (by decide) (fun hc4 => ?_) (fun hc4 => ?_)
      · replace h := zpos h hc4
        cases h
      · replace h := zneg h hc4
        obtain rfl := Option.some.inj h
        rw [zEx_2]
        exact zr_throw (cls := "java/lang/IllegalStateException") (names := zEN) hx_65 (by decide +kernel) (by decide +kernel) xk_63 xi_2 xa_67 dX11_write_31 dX11_write_34 dX11_write_35 dX11_write_37 dX11_write_40 (by decide +kernel) (by decide) (by decide) (by decide) (Nat.le_refl _) (Nat.le_refl _)
    · replace h := zneg h hc2
      obtain rfl := Option.some.inj h
      rw [zEx_1]
      exact zr_throw (cls := "java/lang/IllegalArgumentException") (names := zEN) hx_54 (by decide +kernel) (by decide +kernel) xk_52 xi_1 xa_56 dX11_write_10 dX11_write_13 dX11_write_14 dX11_write_16 dX11_write_19 (by decide +kernel) (by decide) (by decide) (by decide) (Nat.le_refl _) (Nat.le_refl _)
/-! what is printed here, and what the pictures' side says -/
theorem x_write (a : Int) (s : zSt) : e_Co_write_ a s = e_Co_write a s := rfl
theorem x_type (a : Int) (s : zSt) : e_Co_type_ a s = e_Co_type a := rfl
theorem x_draft (a : Int) (s : zSt) : e_Co_draft_ a s = e_Co_draft a s := rfl
theorem x_cell (a b : Int) (s : zSt) : e_Co_cell_ a b s = e_Co_cell a b s := rfl
theorem x_cellAnew (a b : Int) (s : zSt) : e_Co_cellAnew_ a b s = e_Co_cellAnew a b s := rfl
theorem x_past (a b : Int) (s : zSt) : e_Co_past_ a b s = e_Co_past a b s := rfl
theorem x_goesOn (a : Int) (s : zSt) : e_Co_goesOn_ a s = e_Co_goesOn a s := rfl
theorem x_title (a : Int) (s : zSt) : e_Co_title_ a s = e_Co_title a s := rfl
theorem x_told (a : Int) (s : zSt) : e_Co_told_ a s = e_Co_told a := rfl
theorem x_size (a b : Int) (s : zSt) : e_Co_size_ a b s = e_Co_size a b := rfl
theorem x_least (a : Int) (s : zSt) : e_Co_least_ a s = e_Co_least a s := rfl
theorem x_mouse (a b c : Int) (s : zSt) : e_Co_mouse_ a b c s = e_Co_mouse a b c s := rfl
theorem x_key (a b : Int) (s : zSt) : e_Co_key_ a b s = e_Co_key a b := by
  unfold e_Co_key_ e_Co_key
  by_cases h1 : a < 0
  · rw [if_pos h1, if_pos h1]
  · rw [if_neg h1, if_neg h1]
    by_cases h2 : 6 < a
    · rw [if_pos h2, if_neg (by omega)]
    · rw [if_neg h2, if_pos (by omega)]
theorem x_code (a b c d : Int) (s : zSt) : e_Co_code_ a b c d s = e_Co_code a b c d s := rfl

