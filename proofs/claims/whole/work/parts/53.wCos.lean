set_option maxRecDepth 100000 in
set_option maxHeartbeats 4000000 in
theorem t_Co_digitsOf {a0 : Int}  {res : Int} (h : f_Co_digitsOf a0 = some res) : ∀ s : zSt, zSpecT 1 m_X11_digitsOf [.inl a0] T0 s (some (.inl res)) s := by
  intro s
  refine zSpec_of (by decide +kernel) (Nat.le_of_ble_eq_true rfl) ?_
  show zBT 1 m_X11_digitsOf T0 (some (.inl res)) s 0 [some (.inl a0)] [] s
  unfold f_Co_digitsOf at h
  refine zr_load ⟨_, dX11_digitsOf_0, rfl⟩ rfl ?_
  refine zr_bipush dX11_digitsOf_1 (by decide) (by decide) ?_
  refine zr_ic_lt (tgt := 8) dX11_digitsOf_3 (by decide) (fun hc1 => ?_) (fun hc1 => ?_)
  · replace h := zpos h hc1
    refine zr_load ⟨_, dX11_digitsOf_8, rfl⟩ rfl ?_
    refine zr_bipush dX11_digitsOf_9 (by decide) (by decide) ?_
    have hj2 : zBT 1 m_X11_digitsOf T0 (some (.inl res)) s 19 [some (.inl a0)] [.inl (if a0 < 10 then 1 else 2)] s := by
      obtain rfl := Option.some.inj h
      exact zt_iret dX11_digitsOf_19 rfl
    refine zr_ic_lt (tgt := 18) dX11_digitsOf_11 (by decide) (fun hc3 => ?_) (fun hc3 => ?_)
    · have hp4 := zif_t hj2 hc3
      refine zr_iconst dX11_digitsOf_18 (by decide) ?_
      exact hp4
    · have hp5 := zif_f hj2 hc3
      refine zr_iconst dX11_digitsOf_14 (by decide) ?_
      refine zr_goto (tgt := 19) dX11_digitsOf_15 (by decide) ?_
      exact hp5
  · replace h := zneg h hc1
    refine zr_iconst dX11_digitsOf_6 (by decide) ?_
    obtain rfl := Option.some.inj h
    exact zt_iret dX11_digitsOf_7 rfl
set_option maxRecDepth 100000 in
set_option maxHeartbeats 4000000 in
theorem t_Co_isWide {a0 : Int}  {res : Int} (h : f_Co_isWide a0 = some res) : ∀ s : zSt, zSpecT 1 m_X11_isWide [.inl a0] T0 s (some (.inl res)) s := by
  intro s
  refine zSpec_of (by decide +kernel) (Nat.le_of_ble_eq_true rfl) ?_
  show zBT 1 m_X11_isWide T0 (some (.inl res)) s 0 [some (.inl a0), none] [] s
  unfold f_Co_isWide at h
  refine zr_load ⟨_, dX11_isWide_0, rfl⟩ rfl ?_
  refine zr_sipush dX11_isWide_1 (by decide) (by decide) ?_
  refine zr_irem dX11_isWide_4 (by decide) ?_
  refine zr_store ⟨_, dX11_isWide_5, rfl⟩ (by decide) rfl ?_
  refine zr_load ⟨_, dX11_isWide_6, rfl⟩ rfl ?_
  refine zr_bipush dX11_isWide_7 (by decide) (by decide) ?_
  have hj1 : zBT 1 m_X11_isWide T0 (some (.inl res)) s 23 [some (.inl a0), some (.inl (wRem a0 1000))] [.inl (if (wRem a0 1000) < 65 then 0 else (if 90 < (wRem a0 1000) then 0 else 1))] s := by
    obtain rfl := Option.some.inj h
    exact zt_zret dX11_isWide_23 rfl (z01i (Or.inl rfl) (z01i (Or.inl rfl) (Or.inr rfl)))
  refine zr_ic_lt (tgt := 22) dX11_isWide_9 (by decide) (fun hc2 => ?_) (fun hc2 => ?_)
  · have hp3 := zif_t hj1 hc2
    refine zr_iconst dX11_isWide_22 (by decide) ?_
    exact hp3
  · have hp4 := zif_f hj1 hc2
    refine zr_load ⟨_, dX11_isWide_12, rfl⟩ rfl ?_
    refine zr_bipush dX11_isWide_13 (by decide) (by decide) ?_
    refine zr_ic_gt (tgt := 22) dX11_isWide_15 (by decide) (fun hc5 => ?_) (fun hc5 => ?_)
    · have hp6 := zif_t hp4 hc5
      refine zr_iconst dX11_isWide_22 (by decide) ?_
      exact hp6
    · have hp7 := zif_f hp4 hc5
      refine zr_iconst dX11_isWide_18 (by decide) ?_
      refine zr_goto (tgt := 23) dX11_isWide_19 (by decide) ?_
      exact hp7
set_option maxRecDepth 100000 in
set_option maxHeartbeats 4000000 in
theorem t_Co_attributeOf {a0 : Int}  {res : Int} (h : f_Co_attributeOf a0 = some res) : ∀ s : zSt, zSpecT 1 m_X11_attributeOf [.inl a0] T0 s (some (.inl res)) s := by
  intro s
  refine zSpec_of (by decide +kernel) (Nat.le_of_ble_eq_true rfl) ?_
  show zBT 1 m_X11_attributeOf T0 (some (.inl res)) s 0 [some (.inl a0)] [] s
  unfold f_Co_attributeOf at h
  refine zr_load ⟨_, dX11_attributeOf_0, rfl⟩ rfl ?_
  have hj1 : zBT 1 m_X11_attributeOf T0 (some (.inl res)) s 17 [some (.inl a0)] [.inl (if a0 ≤ 0 then 0 else (wDiv (wRem a0 100000) 1000))] s := by
    obtain rfl := Option.some.inj h
    exact zt_iret dX11_attributeOf_17 rfl
  refine zr_if_le (tgt := 16) dX11_attributeOf_1 (by decide) (fun hc2 => ?_) (fun hc2 => ?_)
  · have hp3 := zif_t hj1 hc2
    refine zr_iconst dX11_attributeOf_16 (by decide) ?_
    exact hp3
  · have hp4 := zif_f hj1 hc2
    refine zr_load ⟨_, dX11_attributeOf_4, rfl⟩ rfl ?_
    refine zr_ldcw dX11_attributeOf_5 k_X11_278 (by decide) ?_
    refine zr_irem dX11_attributeOf_8 (by decide) ?_
    refine zr_sipush dX11_attributeOf_9 (by decide) (by decide) ?_
    refine zr_idiv dX11_attributeOf_12 (by decide) ?_
    refine zr_goto (tgt := 17) dX11_attributeOf_13 (by decide) ?_
    exact hp4
set_option maxRecDepth 100000 in
set_option maxHeartbeats 4000000 in
theorem t_Co_marksOf {a0 : Int}  {res : Int} (h : f_Co_marksOf a0 = some res) : ∀ s : zSt, zSpecT 1 m_X11_marksOf [.inl a0] T0 s (some (.inl res)) s := by
  intro s
  refine zSpec_of (by decide +kernel) (Nat.le_of_ble_eq_true rfl) ?_
  show zBT 1 m_X11_marksOf T0 (some (.inl res)) s 0 [some (.inl a0)] [] s
  unfold f_Co_marksOf at h
  refine zr_load ⟨_, dX11_marksOf_0, rfl⟩ rfl ?_
  have hj1 : zBT 1 m_X11_marksOf T0 (some (.inl res)) s 13 [some (.inl a0)] [.inl (if a0 ≤ 0 then 0 else (wDiv a0 100000))] s := by
    obtain rfl := Option.some.inj h
    exact zt_iret dX11_marksOf_13 rfl
  refine zr_if_le (tgt := 12) dX11_marksOf_1 (by decide) (fun hc2 => ?_) (fun hc2 => ?_)
  · have hp3 := zif_t hj1 hc2
    refine zr_iconst dX11_marksOf_12 (by decide) ?_
    exact hp3
  · have hp4 := zif_f hj1 hc2
    refine zr_load ⟨_, dX11_marksOf_4, rfl⟩ rfl ?_
    refine zr_ldcw dX11_marksOf_5 k_X11_278 (by decide) ?_
    refine zr_idiv dX11_marksOf_8 (by decide) ?_
    refine zr_goto (tgt := 13) dX11_marksOf_9 (by decide) ?_
    exact hp4
