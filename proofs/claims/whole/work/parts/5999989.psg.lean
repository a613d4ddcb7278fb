section PSG
theorem i_gen2 {c0 c1 c2 c3 c4 c5 c6 c7 c8 c9 c10 c11 c12 c13 c14 c15 c16 c17 : ab_HP} (e0 : c0.1 = 32) (h1 : ab_rp (nwl 32 c0) 31 0 (some 32) = c1) (h2 : ab_rp (nwl 33 c1) 31 1 (some 33) = c2) (h3 : ab_rp (nwl 34 c2) 31 2 (some 34) = c3) (h4 : ab_rp (nwl 35 c3) 31 3 (some 35) = c4) (h5 : ab_rp (nwl 36 c4) 31 4 (some 36) = c5) (h6 : ab_rp (nwl 37 c5) 31 5 (some 37) = c6) (h7 : ab_rp (nwl 38 c6) 31 6 (some 38) = c7) (h8 : ab_rp (nwl 39 c7) 31 7 (some 39) = c8) (h9 : ab_rp (nwl 40 c8) 31 8 (some 40) = c9) (h10 : ab_rp (nwl 41 c9) 31 16 (some 41) = c10) (h11 : ab_rp (nwl 42 c10) 31 19 (some 42) = c11) (h12 : ab_rp (nwl 43 c11) 31 20 (some 43) = c12) (h13 : ab_rp (nwl 44 c12) 31 21 (some 44) = c13) (h14 : ab_rp (nwl 45 c13) 31 22 (some 45) = c14) (h15 : ab_rp (nwl 46 c14) 31 23 (some 46) = c15) (h16 : ab_rp (nwl 47 c15) 31 32 (some 47) = c16) (h17 : ab_rp (nwl 48 c16) 31 39 (some 48) = c17) (r0 : ab_r c17 31 0 = some 32) : f_X12_init 31 c0 = some (ab_ip (ab_ip c17 32 1 100) 32 4 10) := by
  have e1 : c1.1 = 33 := by rw [← h1]; rfl
  have e2 : c2.1 = 34 := by rw [← h2]; rfl
  have e3 : c3.1 = 35 := by rw [← h3]; rfl
  have e4 : c4.1 = 36 := by rw [← h4]; rfl
  have e5 : c5.1 = 37 := by rw [← h5]; rfl
  have e6 : c6.1 = 38 := by rw [← h6]; rfl
  have e7 : c7.1 = 39 := by rw [← h7]; rfl
  have e8 : c8.1 = 40 := by rw [← h8]; rfl
  have e9 : c9.1 = 41 := by rw [← h9]; rfl
  have e10 : c10.1 = 42 := by rw [← h10]; rfl
  have e11 : c11.1 = 43 := by rw [← h11]; rfl
  have e12 : c12.1 = 44 := by rw [← h12]; rfl
  have e13 : c13.1 = 45 := by rw [← h13]; rfl
  have e14 : c14.1 = 46 := by rw [← h14]; rfl
  have e15 : c15.1 = 47 := by rw [← h15]; rfl
  have e16 : c16.1 = 48 := by rw [← h16]; rfl
  unfold f_X12_init
  rw [e0, if_pos (show ab_shp 32 = (6, 47) from rfl), let_e, let_e, nw_l e0]
  rw [h1]
  rw [e1, if_pos (show ab_shp 33 = (6, 47) from rfl), let_e, let_e, nw_l e1]
  rw [h2]
  rw [e2, if_pos (show ab_shp 34 = (6, 47) from rfl), let_e, let_e, nw_l e2]
  rw [h3]
  rw [e3, if_pos (show ab_shp 35 = (6, 8) from rfl), let_e, let_e, nw_l e3]
  rw [h4]
  rw [e4, if_pos (show ab_shp 36 = (6, 8) from rfl), let_e, let_e, nw_l e4]
  rw [h5]
  rw [e5, if_pos (show ab_shp 37 = (6, 8) from rfl), let_e, let_e, nw_l e5]
  rw [h6]
  rw [e6, if_pos (show ab_shp 38 = (6, 800) from rfl), let_e, let_e, nw_l e6]
  rw [h7]
  rw [e7, if_pos (show ab_shp 39 = (6, 8) from rfl), let_e, let_e, nw_l e7]
  rw [h8]
  rw [e8, if_pos (show ab_shp 40 = (6, 8) from rfl), let_e, let_e, nw_l e8]
  rw [h9]
  rw [e9, if_pos (show ab_shp 41 = (6, 3) from rfl), let_e, let_e, nw_l e9]
  rw [h10]
  rw [e10, if_pos (show ab_shp 42 = (6, 16) from rfl), let_e, let_e, nw_l e10]
  rw [h11]
  rw [e11, if_pos (show ab_shp 43 = (6, 16) from rfl), let_e, let_e, nw_l e11]
  rw [h12]
  rw [e12, if_pos (show ab_shp 44 = (6, 16) from rfl), let_e, let_e, nw_l e12]
  rw [h13]
  rw [e13, if_pos (show ab_shp 45 = (6, 16) from rfl), let_e, let_e, nw_l e13]
  rw [h14]
  rw [e14, if_pos (show ab_shp 46 = (6, 16) from rfl), let_e, let_e, nw_l e14]
  rw [h15]
  rw [e15, if_pos (show ab_shp 47 = (6, 5) from rfl), let_e, let_e, nw_l e15]
  rw [h16]
  rw [e16, if_pos (show ab_shp 48 = (6, 16) from rfl), let_e, let_e, nw_l e16]
  rw [h17]
  rw [r0, Option.bind_some, shp_32, if_pos (show ab_in 1 47 = true from rfl), let_e, hr_ip, r0, Option.bind_some, shp_32, if_pos (show ab_in 4 47 = true from rfl), let_e, lit_c1, lit_c4]
theorem i_X11 : f_X11_init 0 zA0 = some zB8 := by
  have e := i_l84 0
  rw [show 0 + 9 = 9 from rfl, show nI 0 = (0 : Int32) from rfl] at e
  exact (i_gen (a0 := zA0) (a1 := zA1) (a2 := zA2) (a3 := zA3) (a4 := zA4) (a5 := zA5) (a6 := zA6) (a7 := zA7) (a8 := zA8) rfl rfl rfl rfl rfl rfl rfl rfl rfl).trans e
theorem rC17 : ab_r zC17 31 0 = some 32 := by
  unfold zC17 zC16 zC15 zC14 zC13 zC12 zC11 zC10 zC9 zC8 zC7 zC6 zC5 zC4 zC3 zC2 zC1
  simp only [hr_rp, hr_nwl, Nat.reduceEqDiff, and_false, and_true, if_false, if_true, true_and]
theorem i_X12 : f_X12_init 31 zC0 = some zD := i_gen2 (c0 := zC0) (c1 := zC1) (c2 := zC2) (c3 := zC3) (c4 := zC4) (c5 := zC5) (c6 := zC6) (c7 := zC7) (c8 := zC8) (c9 := zC9) (c10 := zC10) (c11 := zC11) (c12 := zC12) (c13 := zC13) (c14 := zC14) (c15 := zC15) (c16 := zC16) (c17 := zC17) rfl rfl rfl rfl rfl rfl rfl rfl rfl rfl rfl rfl rfl rfl rfl rfl rfl rfl rC17
end PSG
