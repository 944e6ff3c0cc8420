/-! ===== further rows ===== -/
section ZR2
variable {M : zM} {R : Room} {F : zF} {P : Nat → Prop} {pc uc us : Nat} {L : List (Option zAV)} {st : List zAV} {w : List zAC}
theorem zr_ldcw {n : Int} {index : Nat} (hdg : decode M.2.1 pc = .ok (.ldc_w index, 3)) (hm : Cond.constant M.1.cls index (Int32.ofInt n) ∈ zGW) (hn : zin n) (kk : zB M R F P (pc + 3) L (.inl n :: st) w uc us) : zB M R F P pc L st w uc us :=
  zr_push hn (fun G p l e s m args below meth c A ad0 ad H locs ls hh k => lv_ldcw hh.1.1 hh.1.2.1 hh.1.2.2.2.2.2.1 (hh.1.2.2.2.2.2.2.1 _ hm) hdg k) kk
end ZR2
