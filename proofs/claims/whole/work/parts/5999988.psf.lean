section PSF
theorem let_e {A B : Type} (v : A) (f : A → B) : ab_let v f = f v := rfl
theorem i_gen {a0 a1 a2 a3 a4 a5 a6 a7 a8 : ab_HP} (e0 : a0.1 = 1) (h1 : ab_rp (tnw 1 a0) 0 0 (some 1) = a1) (h2 : ab_rp (tnw 3 a1) 0 1 (some 3) = a2) (h3 : ab_rp (tnw 5 a2) 0 2 (some 5) = a3) (h4 : ab_rp (ab_rp (nwl 10 (ab_rp (nwl 9 (ab_rp (nwl 8 (nwl 7 a3)) 7 0 (some 8))) 7 1 (some 9))) 7 2 (some 10)) 0 3 (some 7) = a4) (h5 : ab_rp (nwl 11 a4) 0 4 (some 11) = a5) (h6 : ab_rp (nwl 12 a5) 0 5 (some 12) = a6) (h7 : ab_rp (nwl 13 a6) 0 6 (some 13) = a7) (h8 : ab_rp (nwl 14 a7) 0 7 (some 14) = a8) : f_X11_init 0 a0 = f_X11_init_l84 0 9 0 a8 := by
  have e1 : a1.1 = 3 := by rw [← h1]; rfl
  have e2 : a2.1 = 5 := by rw [← h2]; rfl
  have e3 : a3.1 = 7 := by rw [← h3]; rfl
  have e4 : a4.1 = 11 := by rw [← h4]; rfl
  have e5 : a5.1 = 12 := by rw [← h5]; rfl
  have e6 : a6.1 = 13 := by rw [← h6]; rfl
  have e7 : a7.1 = 14 := by rw [← h7]; rfl
  unfold f_X11_init
  generalize f_X11_init_l84 0 9 = G
  rw [e0, if_pos (show (ab_shp 1).1 = 1 from rfl), let_e, x9_n e0 rfl, Option.bind_some, let_e]
  rw [h1]
  rw [e1, if_pos (show (ab_shp 3).1 = 1 from rfl), let_e, x9_n e1 rfl, Option.bind_some, let_e]
  rw [h2]
  rw [e2, if_pos (show (ab_shp 5).1 = 1 from rfl), let_e, x9_n e2 rfl, Option.bind_some, let_e]
  rw [h3]
  rw [e3, if_pos (show (ab_shp 7).1 = 2 from rfl), let_e, x10_n e3, Option.bind_some, let_e]
  rw [h4]
  rw [e4, if_pos (show ab_shp 11 = (9, 8) from rfl), let_e, let_e, nw_l e4]
  rw [h5]
  rw [e5, if_pos (show ab_shp 12 = (6, 5) from rfl), let_e, let_e, nw_l e5]
  rw [h6]
  rw [e6, if_pos (show ab_shp 13 = (6, 241) from rfl), let_e, let_e, nw_l e6]
  rw [h7]
  rw [e7, if_pos (show ab_shp 14 = (6, 241) from rfl), let_e, let_e, nw_l e7]
  rw [h8]
end PSF
