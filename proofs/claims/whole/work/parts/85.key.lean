/-! ===== the method key ===== -/
/-- a method that stands on facts of its entry -/
def zSpecF (φ : zFc) (d : Nat) (P : Nat → Prop) (mc ms : Nat) (M : zM) (av : List zAV) (w : List zAC) (Q : zQ) : Prop :=
  (∀ v ∈ av, zokN v) → zokW w → ∀ (G : zG) (l : Launch) (ad : Nat → Nat) (sz : Nat), Met l M.1 (zws M) (zR d mc ms) (va_Pc (av.map (zeV ad)) (fun U => zPre G ad w sz U ∧ φ l (va_A (zeW G.2.2 ad 0 w) sz) U)) (zQc G (va_A (zeW G.2.2 ad 0 w) sz) ad P Q) mc ms (va_A (zeW G.2.2 ad 0 w) sz)
theorem zSpecF_of {φ : zFc} {d mc ms : Nat} {P : Nat → Prop} {M : zM} {av : List zAV} {w : List zAC} {Q : zQ} (hp : plainName M.1.cls = true) (hn : av.length ≤ M.2.2.1)
    (h : zB M (zR d mc ms) (zFE φ (zFq mc ms P Q)) P 0 (zaL M.2.2.1 av) [] w 0 0) : zSpecF φ d P mc ms M av w Q := by
  intro ho hw G l ad sz
  refine Met.ofW (cc := M.2.1) (maxL := M.2.2.1) (ret := M.2.2.2) (ws' := zGW) hp rfl ?_
  intro p e s m args below meth c s₁ B hml hv
  obtain ⟨rfl, ⟨hsz, hP, hK, hD0, hNk⟩, hφ⟩ := hv
  have hts := atoms_spec (ws := zws M) B.pre
  have hown : s.vm.findClass M.1.cls = some m.cls := findClass_of_methodNamed B.named
  have htab : ∀ x ∈ c.exceptionTable.toList, False := by
    obtain ⟨meth9, c9, h1, h2, -, -, -, -, h7, -⟩ := Cond.code_spec B.named (atoms_spec (ws := zws M) B.pre _ List.mem_cons_self)
    cases Option.some.inj (h1.symm.trans B.method)
    cases Option.some.inj (h2.symm.trans (Stand.of_body B).code)
    intro x hx
    rw [Array.isEmpty_iff.mp h7] at hx
    cases hx
  subst hsz
  have hD := hD0.self (sz := s.heap.size)
  rw [lg_entry_eq]
  refine zW_imp (fun t k => k hφ) (h G p l e s m _ below meth c (va_A (zeW G.2.2 ad 0 w) s.heap.size) ad ad s.heap [] _ ⟨⟨B.exec, B.bytes, hml, B.returns, B.notSynchronized, hown, fun x hx => hts x (List.mem_cons_of_mem _ hx), ⟨fun hi => ((name_of_methodNamed B.named B.method).1).trans hi, fun _ => htab⟩, hK, fun q hq => Or.inr hq, hNk⟩, fun _ _ => rfl, fun v hv => ?_, zokS.nil, hw, zhas_entry ho hn, hP, hD, va_S.rf⟩)
  obtain ⟨k, hk⟩ := List.getElem?_of_mem hv
  exact ho v (List.mem_of_getElem? (zaL_at hk))
def zSpecGF (φ : zFc) (d v : Nat) (M : zM) (av : List zAV) (T : List zTC) (s : zSt) (r : Option zAV) (s' : zSt) : Prop :=
  zSpecF φ d (fun k => k ≠ v) (zpot v s - zpot v s') (zpot v s - zpot v s') M av (ziT s 0 T) (fun r' w' => r' = r ∧ w' = ziT s' 0 T)
abbrev m_X11_key : zM := (yX11_key, cX11_key, 5, (some .int))
theorem fl_X11_108 : zFL RX11 108 5 0 "Z" false := ⟨RX5, TX5, 6, rfl, by decide, rfl, rfl, zmem (i := 355) (by decide +kernel) rfl⟩
theorem lk_KEY : Cond.fieldLink RX11 100 RX11 "KEY_LETTERS" "[C" ∈ zGW := zmem (i := 1389) (by decide +kernel) rfl
def f_Co_keyP_j182 (k0 : Int) (s : zSt) : Option (Int × zSt) :=
  (f_By_add k0 (zsb (zsh 1) s)).bind fun x1 =>
  (f_By_count (zsb (zsh 1) (zpb (zsh 1) 2 s x1.2))).bind fun x2 =>
  (f_Co_settle (zpb (zsh 1) 2 s x1.2)).bind fun x3 =>
  zmn 42 (zpb (zsh 1) 2 s x1.2) x3.2 (some (x2, x3.2))
set_option maxRecDepth 100000 in
set_option maxHeartbeats 4000000 in
theorem t_Co_keyP_j182 {φ : zFc} (hφ : ∀ l A s, φ l A s → zKt A s) {k0 : Int} {s : zSt} {res : Int × zSt} (h : f_Co_keyP_j182 k0 s = some res) (hm : zpot 42 res.2 ≤ zpot 42 s) {mc u : Nat} (hu : u + (zpot 42 s - zpot 42 res.2) ≤ mc) : zB m_X11_key (zR 10 mc mc) (zFE φ (zFq mc mc (fun k => k ≠ 42) (fun r1 w1 => r1 = (some (.inl res.1)) ∧ w1 = ziT res.2 0 TCo))) (fun k => k ≠ 42) 182 [some (.inr (.inl (some 0))), none, none, none, none] [.inl k0, .inr (.inl (some 1))] (ziT s 0 TCo) u u := by
  have hl : u ≤ mc := by omega
  unfold f_Co_keyP_j182 at h
  obtain ⟨x1, hx1, h⟩ := zbind h
  refine zt_calli (t_By_add hx1) (zrun_V (rest := []) dX11_key_182 ml_X11_90 rfl rfl (by decide) (by decide) rfl (Nat.le_of_ble_eq_true rfl)) rfl rfl sb_TCo_TBy_1 hl hl ?_
  refine zr_pop dX11_key_185 (Or.inr ⟨_, rfl⟩) ?_
  refine zr_aload ⟨_, dX11_key_186, rfl⟩ rfl ?_
  refine zt_getr dX11_key_187 fl_X11_14 rfl rfl ?_
  obtain ⟨x2, hx2, h⟩ := zbind h
  refine zt_callis (t_By_count hx2) (zrun_V (rest := []) dX11_key_190 ml_X11_77 rfl rfl (by decide) (by decide) rfl (Nat.le_of_ble_eq_true rfl)) rfl rfl sb_TCo_TBy_1 hl hl ?_
  refine zr_storew dX11_key_193 (by decide) rfl ?_
  refine zr_aload ⟨_, dX11_key_195, rfl⟩ rfl ?_
  obtain ⟨x3, hx3, h⟩ := zbind h
  obtain ⟨hq1, h, hq2⟩ := zmn_some h
  have hm0 : zpot 42 res.2 ≤ zpot 42 (zpb (zsh 1) 2 s x1.2) := hm
  have hu0 : u + (zpot 42 (zpb (zsh 1) 2 s x1.2) - zpot 42 res.2) ≤ mc := hu
  have hm : zpot 42 res.2 ≤ zpot 42 x3.2 := by omega
  have hcs := t_Co_settle hx3 hq1
  refine zg_calli (kc := zpot 42 (zpb (zsh 1) 2 s x1.2) - zpot 42 x3.2) (v := 42) (zrun_V (rest := []) dX11_key_196 ml_X11_71 rfl rfl (by decide) (by decide) rfl (Nat.le_of_ble_eq_true rfl)) hcs rfl rfl (fun k hk => hk) rfl rfl (fun x hx => by cases hx) (by decide +kernel) (by omega) (by omega) ?_
  obtain ⟨u4, eu4⟩ : ∃ z, z = u + (zpot 42 (zpb (zsh 1) 2 s x1.2) - zpot 42 x3.2) := ⟨_, rfl⟩
  rw [← eu4]
  have hu : u4 + (zpot 42 x3.2 - zpot 42 res.2) ≤ mc := by omega
  have hl : u4 ≤ mc := by omega
  refine zr_loadw dX11_key_199 rfl ?_
  obtain rfl := Option.some.inj h
  exact zB_fe (zr_iret dX11_key_201 rfl hl hl ⟨rfl, rfl⟩)
def f_Co_keyP_j160 (v1 : Int) (s : zSt) : Option (Int × zSt) :=
  if 6 ≤ v1 then
    f_Co_keyP_j182 126 s
  else
    if (0 : Int) ≤ v1 ∧ v1 < 6 then f_Co_keyP_j182 (zLet v1) s else none
set_option maxRecDepth 100000 in
set_option maxHeartbeats 4000000 in
theorem t_Co_keyP_j160 {φ : zFc} (hφ : ∀ l A s, φ l A s → zKt A s) {v1 : Int} {s : zSt} {res : Int × zSt} (h : f_Co_keyP_j160 v1 s = some res) (hm : zpot 42 res.2 ≤ zpot 42 s) {mc u : Nat} (hu : u + (zpot 42 s - zpot 42 res.2) ≤ mc) : zB m_X11_key (zR 10 mc mc) (zFE φ (zFq mc mc (fun k => k ≠ 42) (fun r1 w1 => r1 = (some (.inl res.1)) ∧ w1 = ziT res.2 0 TCo))) (fun k => k ≠ 42) 160 [some (.inr (.inl (some 0))), some (.inl v1), none, none, none] [] (ziT s 0 TCo) u u := by
  have hl : u ≤ mc := by omega
  unfold f_Co_keyP_j160 at h
  refine zr_aload ⟨_, dX11_key_160, rfl⟩ rfl ?_
  refine zt_getr dX11_key_161 fl_X11_14 rfl rfl ?_
  refine zr_load ⟨_, dX11_key_164, rfl⟩ rfl ?_
  refine zr_keyLen hφ lk_KEY dX11_key_165 dX11_key_168 ?_
  refine zr_ic_ge (tgt := 180) dX11_key_169 (by decide) (fun hc1 => ?_) (fun hc1 => ?_)
  · replace h := zpos h hc1
    refine zr_bipush dX11_key_180 (by decide) (by decide) ?_
    refine zr_mask [true, false, false, false, false] rfl ?_
    exact t_Co_keyP_j182 hφ h hm hu
  · replace h := zneg h hc1
    obtain ⟨hb2, h⟩ := zchk h
    refine zr_keyAt hφ lk_KEY dX11_key_172 ⟨_, dX11_key_175, rfl⟩ dX11_key_176 rfl hb2 ?_
    refine zr_goto (tgt := 182) dX11_key_177 (by decide) ?_
    refine zr_mask [true, false, false, false, false] rfl ?_
    exact t_Co_keyP_j182 hφ h hm hu
def f_Co_keyP (a1 a2 : Int) (s : zSt) : Option (Int × zSt) :=
  if a1 < 0 then
    none
  else
    if a1 ≤ 6 then
      if a2 < 0 then
        none
      else
        if a2 ≤ 7 then
          (f_By_add 27 (zsb (zsh 1) s)).bind fun x7 =>
            (f_By_add (if ((if 6 ≤ a1 then 0 else 1) : Int) = 0 then 91 else (if ¬ a2 = 0 then 91 else (if (s.1 27 0) = 0 then 91 else 79))) (zsb (zsh 1) (zpb (zsh 1) 2 s x7.2))).bind fun x10 =>
              if a2 = 0 then
                if ¬ ((if 6 ≤ a1 then 0 else 1) : Int) = 0 then
                  f_Co_keyP_j160 a1 (zpb (zsh 1) 2 (zpb (zsh 1) 2 s x7.2) x10.2)
                else
                  (f_By_add 51 (zsb (zsh 1) (zpb (zsh 1) 2 (zpb (zsh 1) 2 s x7.2) x10.2))).bind fun x13 =>
                  f_Co_keyP_j160 a1 (zpb (zsh 1) 2 (zpb (zsh 1) 2 (zpb (zsh 1) 2 s x7.2) x10.2) x13.2)
              else
                (f_By_add (if ((if 6 ≤ a1 then 0 else 1) : Int) = 0 then 51 else 49) (zsb (zsh 1) (zpb (zsh 1) 2 (zpb (zsh 1) 2 s x7.2) x10.2))).bind fun x16 =>
                  (f_By_add 59 (zsb (zsh 1) (zpb (zsh 1) 2 (zpb (zsh 1) 2 (zpb (zsh 1) 2 s x7.2) x10.2) x16.2))).bind fun x17 =>
                  (f_By_addNumber (w32 (a2 + 1)) (zsb (zsh 1) (zpb (zsh 1) 2 (zpb (zsh 1) 2 (zpb (zsh 1) 2 (zpb (zsh 1) 2 s x7.2) x10.2) x16.2) x17.2))).bind fun x18 =>
                  f_Co_keyP_j160 a1 (zpb (zsh 1) 2 (zpb (zsh 1) 2 (zpb (zsh 1) 2 (zpb (zsh 1) 2 (zpb (zsh 1) 2 s x7.2) x10.2) x16.2) x17.2) x18.2)
        else
          none
    else
      none
set_option maxRecDepth 100000 in
set_option maxHeartbeats 4000000 in
theorem t_Co_keyP {φ : zFc} (hφ : ∀ l A s, φ l A s → zKt A s) {a1 a2 : Int} {s : zSt} {res : Int × zSt} (h : f_Co_keyP a1 a2 s = some res) (hm : zpot 42 res.2 ≤ zpot 42 s) : zSpecGF φ 10 42 m_X11_key [.inr (.inl (some 0)), .inl a1, .inl a2] TCo s (some (.inl res.1)) res.2 := by
  have key : ∀ mc u : Nat, u + (zpot 42 s - zpot 42 res.2) ≤ mc → zB m_X11_key (zR 10 mc mc) (zFE φ (zFq mc mc (fun k => k ≠ 42) (fun r1 w1 => r1 = (some (.inl res.1)) ∧ w1 = ziT res.2 0 TCo))) (fun k => k ≠ 42) 0 [some (.inr (.inl (some 0))), some (.inl a1), some (.inl a2), none, none] [] (ziT s 0 TCo) u u := by
    intro mc u hu
    have hl : u ≤ mc := by omega
    unfold f_Co_keyP at h
    refine zr_load ⟨_, dX11_key_0, rfl⟩ rfl ?_
    refine zr_if_lt (tgt := 10) dX11_key_1 (by decide) (fun hc1 => ?_) (fun hc1 => ?_)
    · replace h := zpos h hc1
      cases h
    · replace h := zneg h hc1
      refine zr_load ⟨_, dX11_key_4, rfl⟩ rfl ?_
      refine zr_bipush dX11_key_5 (by decide) (by decide) ?_
      refine zr_ic_le (tgt := 20) dX11_key_7 (by decide) (fun hc2 => ?_) (fun hc2 => ?_)
      · replace h := zpos h hc2
        refine zr_load ⟨_, dX11_key_20, rfl⟩ rfl ?_
        refine zr_if_lt (tgt := 30) dX11_key_21 (by decide) (fun hc3 => ?_) (fun hc3 => ?_)
        · replace h := zpos h hc3
          cases h
        · replace h := zneg h hc3
          refine zr_load ⟨_, dX11_key_24, rfl⟩ rfl ?_
          refine zr_bipush dX11_key_25 (by decide) (by decide) ?_
          refine zr_ic_le (tgt := 40) dX11_key_27 (by decide) (fun hc4 => ?_) (fun hc4 => ?_)
          · replace h := zpos h hc4
            refine zr_load ⟨_, dX11_key_40, rfl⟩ rfl ?_
            refine zr_keyLen hφ lk_KEY dX11_key_41 dX11_key_44 ?_
            have hj5 : zB m_X11_key (zR 10 mc mc) (zFE φ (zFq mc mc (fun k => k ≠ 42) (fun r1 w1 => r1 = (some (.inl res.1)) ∧ w1 = ziT res.2 0 TCo))) (fun k => k ≠ 42) 53 [some (.inr (.inl (some 0))), some (.inl a1), some (.inl a2), none, none] [.inl (if 6 ≤ a1 then 0 else 1)] (ziT s 0 TCo) u u := by
              refine zr_store ⟨_, dX11_key_53, rfl⟩ (by decide) rfl ?_
              refine zr_aload ⟨_, dX11_key_54, rfl⟩ rfl ?_
              refine zt_getr dX11_key_55 fl_X11_14 rfl rfl ?_
              refine zr_bipush dX11_key_58 (by decide) (by decide) ?_
              obtain ⟨x7, hx7, h⟩ := zbind h
              refine zt_calli (t_By_add hx7) (zrun_V (rest := []) dX11_key_60 ml_X11_90 rfl rfl (by decide) (by decide) rfl (Nat.le_of_ble_eq_true rfl)) rfl rfl sb_TCo_TBy_1 hl hl ?_
              refine zr_pop dX11_key_63 (Or.inr ⟨_, rfl⟩) ?_
              refine zr_aload ⟨_, dX11_key_64, rfl⟩ rfl ?_
              refine zt_getr dX11_key_65 fl_X11_14 rfl rfl ?_
              refine zr_load ⟨_, dX11_key_68, rfl⟩ rfl ?_
              have hj8 : zB m_X11_key (zR 10 mc mc) (zFE φ (zFq mc mc (fun k => k ≠ 42) (fun r1 w1 => r1 = (some (.inl res.1)) ∧ w1 = ziT res.2 0 TCo))) (fun k => k ≠ 42) 96 [some (.inr (.inl (some 0))), some (.inl a1), some (.inl a2), some (.inl (if 6 ≤ a1 then 0 else 1)), none] [.inl (if ((if 6 ≤ a1 then 0 else 1) : Int) = 0 then 91 else (if ¬ a2 = 0 then 91 else (if (s.1 27 0) = 0 then 91 else 79))), .inr (.inl (some 1))] (ziT (zpb (zsh 1) 2 s x7.2) 0 TCo) u u := by
                obtain ⟨x10, hx10, h⟩ := zbind h
                refine zt_calli (t_By_add hx10) (zrun_V (rest := []) dX11_key_96 ml_X11_90 rfl rfl (by decide) (by decide) rfl (Nat.le_of_ble_eq_true rfl)) rfl rfl sb_TCo_TBy_1 hl hl ?_
                refine zr_pop dX11_key_99 (Or.inr ⟨_, rfl⟩) ?_
                refine zr_load ⟨_, dX11_key_100, rfl⟩ rfl ?_
                refine zr_if_eq (tgt := 146) dX11_key_101 (by decide) (fun hc11 => ?_) (fun hc11 => ?_)
                · replace h := zpos h hc11
                  refine zr_load ⟨_, dX11_key_146, rfl⟩ rfl ?_
                  refine zr_if_ne (tgt := 160) dX11_key_147 (by decide) (fun hc12 => ?_) (fun hc12 => ?_)
                  · replace h := zpos h hc12
                    refine zr_mask [true, true, false, false, false] rfl ?_
                    exact t_Co_keyP_j160 hφ h hm hu
                  · replace h := zneg h hc12
                    refine zr_aload ⟨_, dX11_key_150, rfl⟩ rfl ?_
                    refine zt_getr dX11_key_151 fl_X11_14 rfl rfl ?_
                    refine zr_bipush dX11_key_154 (by decide) (by decide) ?_
                    obtain ⟨x13, hx13, h⟩ := zbind h
                    refine zt_calli (t_By_add hx13) (zrun_V (rest := []) dX11_key_156 ml_X11_90 rfl rfl (by decide) (by decide) rfl (Nat.le_of_ble_eq_true rfl)) rfl rfl sb_TCo_TBy_1 hl hl ?_
                    refine zr_pop dX11_key_159 (Or.inr ⟨_, rfl⟩) ?_
                    refine zr_mask [true, true, false, false, false] rfl ?_
                    exact t_Co_keyP_j160 hφ h hm hu
                · replace h := zneg h hc11
                  refine zr_aload ⟨_, dX11_key_104, rfl⟩ rfl ?_
                  refine zt_getr dX11_key_105 fl_X11_14 rfl rfl ?_
                  refine zr_load ⟨_, dX11_key_108, rfl⟩ rfl ?_
                  have hj14 : zB m_X11_key (zR 10 mc mc) (zFE φ (zFq mc mc (fun k => k ≠ 42) (fun r1 w1 => r1 = (some (.inl res.1)) ∧ w1 = ziT res.2 0 TCo))) (fun k => k ≠ 42) 119 [some (.inr (.inl (some 0))), some (.inl a1), some (.inl a2), some (.inl (if 6 ≤ a1 then 0 else 1)), none] [.inl (if ((if 6 ≤ a1 then 0 else 1) : Int) = 0 then 51 else 49), .inr (.inl (some 1))] (ziT (zpb (zsh 1) 2 (zpb (zsh 1) 2 s x7.2) x10.2) 0 TCo) u u := by
                    obtain ⟨x16, hx16, h⟩ := zbind h
                    refine zt_calli (t_By_add hx16) (zrun_V (rest := []) dX11_key_119 ml_X11_90 rfl rfl (by decide) (by decide) rfl (Nat.le_of_ble_eq_true rfl)) rfl rfl sb_TCo_TBy_1 hl hl ?_
                    refine zr_pop dX11_key_122 (Or.inr ⟨_, rfl⟩) ?_
                    refine zr_aload ⟨_, dX11_key_123, rfl⟩ rfl ?_
                    refine zt_getr dX11_key_124 fl_X11_14 rfl rfl ?_
                    refine zr_bipush dX11_key_127 (by decide) (by decide) ?_
                    obtain ⟨x17, hx17, h⟩ := zbind h
                    refine zt_calli (t_By_add hx17) (zrun_V (rest := []) dX11_key_129 ml_X11_90 rfl rfl (by decide) (by decide) rfl (Nat.le_of_ble_eq_true rfl)) rfl rfl sb_TCo_TBy_1 hl hl ?_
                    refine zr_pop dX11_key_132 (Or.inr ⟨_, rfl⟩) ?_
                    refine zr_aload ⟨_, dX11_key_133, rfl⟩ rfl ?_
                    refine zt_getr dX11_key_134 fl_X11_14 rfl rfl ?_
                    refine zr_load ⟨_, dX11_key_137, rfl⟩ rfl ?_
                    refine zr_iconst dX11_key_138 (by decide) ?_
                    refine zr_iadd dX11_key_139 ?_
                    obtain ⟨x18, hx18, h⟩ := zbind h
                    refine zt_callv (t_By_addNumber hx18) (zrun_V (rest := []) dX11_key_140 ml_X11_114 rfl rfl (by decide) (by decide) rfl (Nat.le_of_ble_eq_true rfl)) rfl rfl sb_TCo_TBy_1 hl hl ?_
                    refine zr_goto (tgt := 160) dX11_key_143 (by decide) ?_
                    refine zr_mask [true, true, false, false, false] rfl ?_
                    exact t_Co_keyP_j160 hφ h hm hu
                  refine zr_if_eq (tgt := 117) dX11_key_109 (by decide) (fun hc15 => ?_) (fun hc15 => ?_)
                  · have hp19 := zif_t hj14 hc15
                    refine zr_bipush dX11_key_117 (by decide) (by decide) ?_
                    exact hp19
                  · have hp20 := zif_f hj14 hc15
                    refine zr_bipush dX11_key_112 (by decide) (by decide) ?_
                    refine zr_goto (tgt := 119) dX11_key_114 (by decide) ?_
                    exact hp20
              refine zr_if_eq (tgt := 94) dX11_key_69 (by decide) (fun hc9 => ?_) (fun hc9 => ?_)
              · have hp21 := zif_t hj8 hc9
                refine zr_bipush dX11_key_94 (by decide) (by decide) ?_
                exact hp21
              · have hp22 := zif_f hj8 hc9
                refine zr_load ⟨_, dX11_key_72, rfl⟩ rfl ?_
                refine zr_if_ne (tgt := 94) dX11_key_73 (by decide) (fun hc23 => ?_) (fun hc23 => ?_)
                · have hp24 := zif_t hp22 hc23
                  refine zr_bipush dX11_key_94 (by decide) (by decide) ?_
                  exact hp24
                · have hp25 := zif_f hp22 hc23
                  refine zr_aload ⟨_, dX11_key_76, rfl⟩ rfl ?_
                  refine zt_getr dX11_key_77 fl_X11_31 rfl rfl ?_
                  refine zt_getr dX11_key_80 fl_X11_104 rfl rfl ?_
                  refine zt_get dX11_key_83 fl_X11_108 rfl rfl ?_
                  refine zr_if_eq (tgt := 94) dX11_key_86 (by decide) (fun hc26 => ?_) (fun hc26 => ?_)
                  · have hp27 := zif_t hp25 hc26
                    refine zr_bipush dX11_key_94 (by decide) (by decide) ?_
                    exact hp27
                  · have hp28 := zif_f hp25 hc26
                    refine zr_bipush dX11_key_89 (by decide) (by decide) ?_
                    refine zr_goto (tgt := 96) dX11_key_91 (by decide) ?_
                    exact hp28
            refine zr_ic_ge (tgt := 52) dX11_key_45 (by decide) (fun hc6 => ?_) (fun hc6 => ?_)
            · have hp29 := zif_t hj5 hc6
              refine zr_iconst dX11_key_52 (by decide) ?_
              exact hp29
            · have hp30 := zif_f hj5 hc6
              refine zr_iconst dX11_key_48 (by decide) ?_
              refine zr_goto (tgt := 53) dX11_key_49 (by decide) ?_
              exact hp30
          · replace h := zneg h hc4
            cases h
      · replace h := zneg h hc2
        cases h
  exact zSpecF_of (by decide +kernel) (Nat.le_of_ble_eq_true rfl) (key _ 0 (by omega))
