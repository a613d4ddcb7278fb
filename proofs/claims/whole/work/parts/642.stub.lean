def ab_hhT : List (Nat × Nat × Nat × Nat) := [(26, 30, 33, 264)]
def ab_hhE : List (Nat × Nat × Nat × Nat) := [(0, 9, 12, 13), (0, 9, 16, 15)]
theorem mf_X11_toss : ab_MFW mX11_toss ab_hhT 1 := sorry
theorem mf_L_element : ab_MFW mL_element ab_hhE 4 := sorry
theorem m_X11_toss {d : Nat} {t0 : Nat} {i1 : Int32} {h : ab_HP} {r : Int32 × ab_HP} (ht0 : (ab_shp t0).1 = 0) (hf : f_X11_toss t0 i1 h = some r) : ab_METW mX11_toss ab_hhT (d + 8) 8 64 [va_rf (some t0), .int i1] h (ab_Pi r.1 r.2) := sorry
theorem m_L_element {d : Nat} {i0 : Option Nat} {i1 i2 : Int32} {i3 : Option Nat} {h : ab_HP} {r : Int32 × ab_HP} (T_i0 : ∀ z, i0 = some z → (ab_shp z).1 = 0) (T_i3 : ∀ z, i3 = some z → (ab_shp z).1 = 7) (hf : f_L_element i0 i1 i2 i3 h = some r) : ab_METW mL_element ab_hhE (d + 8) 8 64 [va_rf i0, .int i1, .int i2, va_rf i3] h (ab_Pi r.1 r.2) := sorry
