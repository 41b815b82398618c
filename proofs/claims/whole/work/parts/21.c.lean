/-! ===== the law: its cases ===== -/
section LC
variable {x : Cx} {l : Launch} {G : GG} {Φ : AOut → Mem → Prop} {τ : Mem} {σ : Sg} {c i N : Nat} {f : Nat → Int32}
theorem g_pledge (hc0 : LCx x l G Φ f N) (hi : i + 4 ≤ N) (hcc : c ≤ 512) (hLI : LI c τ σ) (hk : ∀ τ' σ', LI (c + 1) τ' σ' → V x τ' (1000 * (c + 1)) 28 (LK (i + 4)) []) : V x τ (1000 * c) 268 (LK i) [] := by
  obtain ⟨hcw, hmw, hsi⟩ := hLI
  obtain ⟨n, hn, hV, hps, hsn, hZ, hb, hT, hln⟩ := hsi.get (by omega)
  obtain ⟨hB, hcE, hNc, hF, hN, hSl⟩ := id hc0
  have hg := hB.1
  obtain ⟨-, -, -, e3, -⟩ := id hB
  refine s_aload_n (f := 1) (i := 1) hg (by rw [e3]; exact (by decide +kernel : decode cL_law 268 = .ok (.aload_n 1, 1))) rfl rfl rfl ?_
  refine V_scr hB hF hN (k := 1) (kz := 1) (pc := 269) ⟨by decide +kernel, by decide +kernel, by decide +kernel, by decide +kernel, by decide +kernel⟩ (by decide) rfl rfl (by omega) ?_
  refine V_scr hB hF hN (k := 2) (kz := 2) (pc := 275) ⟨by decide +kernel, by decide +kernel, by decide +kernel, by decide +kernel, by decide +kernel⟩ (by decide) rfl rfl (by omega) ?_
  refine V_scr hB hF hN (k := 3) (kz := 3) (pc := 281) ⟨by decide +kernel, by decide +kernel, by decide +kernel, by decide +kernel, by decide +kernel⟩ (by decide) rfl rfl (by omega) ?_
  refine s_aload_n (f := 3) (i := 3) hg (by rw [e3]; exact (by decide +kernel : decode cL_law 287 = .ok (.aload_n 3, 1))) rfl rfl rfl ?_
  refine law_A hc0 (as := [aI (f (i + 1)), aI (f (i + 2)), aI (f (i + 3))]) (q1 := 288) (q2 := 312) (I := 143) (J := 148) (o := (2238)) (zL := iL_pledge) (hs := hL_pledge) (zM := iX11_pledge) (r := opS σ (sPl σ.1 (f (i + 1)) (f (i + 2)) (f (i + 3)))) (σ := σ) (w_pledge hcE hNc _ _ _ (x_pledge hcE.1 hcw hV (by omega) _ _ _) (opS_le (sPl_le _ _ _))) (fun τ1 c0 h => q_pledge hcE.1 h hV (by omega) _ _ _) (Nat.lt_of_le_of_lt (opS_le (sPl_le _ _ _)) (by decide))
    (by decide +kernel) (by decide +kernel) (by decide +kernel) (by decide +kernel) (by decide +kernel) ⟨by decide +kernel, by decide +kernel, by decide +kernel, by decide +kernel⟩ csxL_143 cvL_148 npL_pledge npX11_pledge ⟨by decide, by decide⟩ ⟨by decide, by decide⟩ rfl (by decide) hcc rfl hcw hmw (SI_pledge hsi _ _ _) (fun τ1 n1 al1 r1 h0 h5 kk => ?_) hk
  refine V_scr hB hF hN (k := 1) (kz := 1) (pc := 294) ⟨by decide +kernel, by decide +kernel, by decide +kernel, by decide +kernel, by decide +kernel⟩ (by decide) h0 h5 (by omega) ?_
  refine V_scr hB hF hN (k := 2) (kz := 2) (pc := 300) ⟨by decide +kernel, by decide +kernel, by decide +kernel, by decide +kernel, by decide +kernel⟩ (by decide) h0 h5 (by omega) ?_
  refine V_scr hB hF hN (k := 3) (kz := 3) (pc := 306) ⟨by decide +kernel, by decide +kernel, by decide +kernel, by decide +kernel, by decide +kernel⟩ (by decide) h0 h5 (by omega) ?_
  exact kk
theorem g_redeem (hc0 : LCx x l G Φ f N) (hi : i + 4 ≤ N) (hcc : c ≤ 512) (hLI : LI c τ σ) (hk : ∀ τ' σ', LI (c + 1) τ' σ' → V x τ' (1000 * (c + 1)) 28 (LK (i + 4)) []) : V x τ (1000 * c) 348 (LK i) [] := by
  obtain ⟨hcw, hmw, hsi⟩ := hLI
  obtain ⟨n, hn, hV, hps, hsn, hZ, hb, hT, hln⟩ := hsi.get (by omega)
  obtain ⟨hB, hcE, hNc, hF, hN, hSl⟩ := id hc0
  have hg := hB.1
  obtain ⟨-, -, -, e3, -⟩ := id hB
  refine s_aload_n (f := 1) (i := 1) hg (by rw [e3]; exact (by decide +kernel : decode cL_law 348 = .ok (.aload_n 1, 1))) rfl rfl rfl ?_
  refine V_scr hB hF hN (k := 1) (kz := 1) (pc := 349) ⟨by decide +kernel, by decide +kernel, by decide +kernel, by decide +kernel, by decide +kernel⟩ (by decide) rfl rfl (by omega) ?_
  refine s_aload_n (f := 3) (i := 3) hg (by rw [e3]; exact (by decide +kernel : decode cL_law 355 = .ok (.aload_n 3, 1))) rfl rfl rfl ?_
  refine law_A hc0 (as := [aI (f (i + 1))]) (q1 := 356) (q2 := 368) (I := 152) (J := 155) (o := (2182)) (zL := iL_redeem) (hs := hL_redeem) (zM := iX11_redeem) (r := opS σ (sRed σ.1 (findO σ.1 (f (i + 1)) false))) (σ := σ) (w_redeem hcE hNc _ (x_redeem hcE.1 hcw hV (by omega) _) (opS_le (sRed_le _))) (fun τ1 c0 h => q_redeem hcE.1 h hV (by omega) _) (Nat.lt_of_le_of_lt (opS_le (sRed_le _)) (by decide))
    (by decide +kernel) (by decide +kernel) (by decide +kernel) (by decide +kernel) (by decide +kernel) ⟨by decide +kernel, by decide +kernel, by decide +kernel, by decide +kernel⟩ csxL_152 cvL_155 npL_redeem npX11_redeem ⟨by decide, by decide⟩ ⟨by decide, by decide⟩ rfl (by decide) hcc rfl hcw hmw (SI_redeem hsi _) (fun τ1 n1 al1 r1 h0 h5 kk => ?_) hk
  refine V_scr hB hF hN (k := 1) (kz := 1) (pc := 362) ⟨by decide +kernel, by decide +kernel, by decide +kernel, by decide +kernel, by decide +kernel⟩ (by decide) h0 h5 (by omega) ?_
  exact kk
theorem g_extend (hc0 : LCx x l G Φ f N) (hi : i + 4 ≤ N) (hcc : c ≤ 512) (hLI : LI c τ σ) (hk : ∀ τ' σ', LI (c + 1) τ' σ' → V x τ' (1000 * (c + 1)) 28 (LK (i + 4)) []) : V x τ (1000 * c) 404 (LK i) [] := by
  obtain ⟨hcw, hmw, hsi⟩ := hLI
  obtain ⟨n, hn, hV, hps, hsn, hZ, hb, hT, hln⟩ := hsi.get (by omega)
  obtain ⟨hB, hcE, hNc, hF, hN, hSl⟩ := id hc0
  have hg := hB.1
  obtain ⟨-, -, -, e3, -⟩ := id hB
  refine s_aload_n (f := 1) (i := 1) hg (by rw [e3]; exact (by decide +kernel : decode cL_law 404 = .ok (.aload_n 1, 1))) rfl rfl rfl ?_
  refine V_scr hB hF hN (k := 1) (kz := 1) (pc := 405) ⟨by decide +kernel, by decide +kernel, by decide +kernel, by decide +kernel, by decide +kernel⟩ (by decide) rfl rfl (by omega) ?_
  refine V_scr hB hF hN (k := 2) (kz := 2) (pc := 411) ⟨by decide +kernel, by decide +kernel, by decide +kernel, by decide +kernel, by decide +kernel⟩ (by decide) rfl rfl (by omega) ?_
  refine s_aload_n (f := 3) (i := 3) hg (by rw [e3]; exact (by decide +kernel : decode cL_law 417 = .ok (.aload_n 3, 1))) rfl rfl rfl ?_
  refine law_A hc0 (as := [aI (f (i + 1)), aI (f (i + 2))]) (q1 := 418) (q2 := 436) (I := 156) (J := 159) (o := (2114)) (zL := iL_extend) (hs := hL_extend) (zM := iX11_extend) (r := opS σ (sExt σ.1 (findO σ.1 (f (i + 1)) false) (f (i + 2)))) (σ := σ) (w_extend hcE hNc _ _ (x_extend hcE.1 hcw hV (by omega) _ _) (opS_le (sExt_le _ _))) (fun τ1 c0 h => q_extend hcE.1 h hV (by omega) _ _) (Nat.lt_of_le_of_lt (opS_le (sExt_le _ _)) (by decide))
    (by decide +kernel) (by decide +kernel) (by decide +kernel) (by decide +kernel) (by decide +kernel) ⟨by decide +kernel, by decide +kernel, by decide +kernel, by decide +kernel⟩ csxL_156 cvL_159 npL_extend npX11_extend ⟨by decide, by decide⟩ ⟨by decide, by decide⟩ rfl (by decide) hcc rfl hcw hmw (SI_extend hsi _ _) (fun τ1 n1 al1 r1 h0 h5 kk => ?_) hk
  refine V_scr hB hF hN (k := 1) (kz := 1) (pc := 424) ⟨by decide +kernel, by decide +kernel, by decide +kernel, by decide +kernel, by decide +kernel⟩ (by decide) h0 h5 (by omega) ?_
  refine V_scr hB hF hN (k := 2) (kz := 2) (pc := 430) ⟨by decide +kernel, by decide +kernel, by decide +kernel, by decide +kernel, by decide +kernel⟩ (by decide) h0 h5 (by omega) ?_
  exact kk
theorem g_passDays (hc0 : LCx x l G Φ f N) (hi : i + 4 ≤ N) (hcc : c ≤ 512) (hLI : LI c τ σ) (hk : ∀ τ' σ', LI (c + 1) τ' σ' → V x τ' (1000 * (c + 1)) 28 (LK (i + 4)) []) : V x τ (1000 * c) 472 (LK i) [] := by
  obtain ⟨hcw, hmw, hsi⟩ := hLI
  obtain ⟨n, hn, hV, hps, hsn, hZ, hb, hT, hln⟩ := hsi.get (by omega)
  obtain ⟨hB, hcE, hNc, hF, hN, hSl⟩ := id hc0
  have hg := hB.1
  obtain ⟨-, -, -, e3, -⟩ := id hB
  refine s_aload_n (f := 1) (i := 1) hg (by rw [e3]; exact (by decide +kernel : decode cL_law 472 = .ok (.aload_n 1, 1))) rfl rfl rfl ?_
  refine V_scr hB hF hN (k := 1) (kz := 1) (pc := 473) ⟨by decide +kernel, by decide +kernel, by decide +kernel, by decide +kernel, by decide +kernel⟩ (by decide) rfl rfl (by omega) ?_
  refine s_aload_n (f := 3) (i := 3) hg (by rw [e3]; exact (by decide +kernel : decode cL_law 479 = .ok (.aload_n 3, 1))) rfl rfl rfl ?_
  refine law_A hc0 (as := [aI (f (i + 1))]) (q1 := 480) (q2 := 492) (I := 160) (J := 162) (o := (2058)) (zL := iL_passDays) (hs := hL_passDays) (zM := iX11_passDays) (r := opS σ (sPas σ.1 (f (i + 1)))) (σ := σ) (w_passDays hcE hNc _ (x_passDays hcE.1 hcw hV (by omega) _) (opS_le (sPas_le _))) (fun τ1 c0 h => q_passDays hcE.1 h hV (by omega) _) (Nat.lt_of_le_of_lt (opS_le (sPas_le _)) (by decide))
    (by decide +kernel) (by decide +kernel) (by decide +kernel) (by decide +kernel) (by decide +kernel) ⟨by decide +kernel, by decide +kernel, by decide +kernel, by decide +kernel⟩ csxL_160 cvL_162 npL_passDays npX11_passDays ⟨by decide, by decide⟩ ⟨by decide, by decide⟩ rfl (by decide) hcc rfl hcw hmw (SI_passDays hsi _) (fun τ1 n1 al1 r1 h0 h5 kk => ?_) hk
  refine V_scr hB hF hN (k := 1) (kz := 1) (pc := 486) ⟨by decide +kernel, by decide +kernel, by decide +kernel, by decide +kernel, by decide +kernel⟩ (by decide) h0 h5 (by omega) ?_
  exact kk
theorem g_setPrice (hc0 : LCx x l G Φ f N) (hi : i + 4 ≤ N) (hcc : c ≤ 512) (hLI : LI c τ σ) (hk : ∀ τ' σ', LI (c + 1) τ' σ' → V x τ' (1000 * (c + 1)) 28 (LK (i + 4)) []) : V x τ (1000 * c) 528 (LK i) [] := by
  obtain ⟨hcw, hmw, hsi⟩ := hLI
  obtain ⟨n, hn, hV, hps, hsn, hZ, hb, hT, hln⟩ := hsi.get (by omega)
  obtain ⟨hB, hcE, hNc, hF, hN, hSl⟩ := id hc0
  have hg := hB.1
  obtain ⟨-, -, -, e3, -⟩ := id hB
  refine s_aload_n (f := 1) (i := 1) hg (by rw [e3]; exact (by decide +kernel : decode cL_law 528 = .ok (.aload_n 1, 1))) rfl rfl rfl ?_
  refine V_scr hB hF hN (k := 1) (kz := 1) (pc := 529) ⟨by decide +kernel, by decide +kernel, by decide +kernel, by decide +kernel, by decide +kernel⟩ (by decide) rfl rfl (by omega) ?_
  refine s_aload_n (f := 3) (i := 3) hg (by rw [e3]; exact (by decide +kernel : decode cL_law 535 = .ok (.aload_n 3, 1))) rfl rfl rfl ?_
  refine law_A hc0 (as := [aI (f (i + 1))]) (q1 := 536) (q2 := 548) (I := 163) (J := 165) (o := (2002)) (zL := iL_setPrice) (hs := hL_setPrice) (zM := iX11_setPrice) (r := opS σ (sPri σ.1 (f (i + 1)))) (σ := σ) (w_setPrice hcE hNc _ (x_setPrice hcE.1 hcw hV (by omega) _) (opS_le (sPri_le _))) (fun τ1 c0 h => q_setPrice hcE.1 h hV (by omega) _) (Nat.lt_of_le_of_lt (opS_le (sPri_le _)) (by decide))
    (by decide +kernel) (by decide +kernel) (by decide +kernel) (by decide +kernel) (by decide +kernel) ⟨by decide +kernel, by decide +kernel, by decide +kernel, by decide +kernel⟩ csxL_163 cvL_165 npL_setPrice npX11_setPrice ⟨by decide, by decide⟩ ⟨by decide, by decide⟩ rfl (by decide) hcc rfl hcw hmw (SI_setPrice hsi _) (fun τ1 n1 al1 r1 h0 h5 kk => ?_) hk
  refine V_scr hB hF hN (k := 1) (kz := 1) (pc := 542) ⟨by decide +kernel, by decide +kernel, by decide +kernel, by decide +kernel, by decide +kernel⟩ (by decide) h0 h5 (by omega) ?_
  exact kk
theorem g_setRate (hc0 : LCx x l G Φ f N) (hi : i + 4 ≤ N) (hcc : c ≤ 512) (hLI : LI c τ σ) (hk : ∀ τ' σ', LI (c + 1) τ' σ' → V x τ' (1000 * (c + 1)) 28 (LK (i + 4)) []) : V x τ (1000 * c) 584 (LK i) [] := by
  obtain ⟨hcw, hmw, hsi⟩ := hLI
  obtain ⟨n, hn, hV, hps, hsn, hZ, hb, hT, hln⟩ := hsi.get (by omega)
  obtain ⟨hB, hcE, hNc, hF, hN, hSl⟩ := id hc0
  have hg := hB.1
  obtain ⟨-, -, -, e3, -⟩ := id hB
  refine s_aload_n (f := 1) (i := 1) hg (by rw [e3]; exact (by decide +kernel : decode cL_law 584 = .ok (.aload_n 1, 1))) rfl rfl rfl ?_
  refine V_scr hB hF hN (k := 1) (kz := 1) (pc := 585) ⟨by decide +kernel, by decide +kernel, by decide +kernel, by decide +kernel, by decide +kernel⟩ (by decide) rfl rfl (by omega) ?_
  refine V_scr hB hF hN (k := 2) (kz := 2) (pc := 591) ⟨by decide +kernel, by decide +kernel, by decide +kernel, by decide +kernel, by decide +kernel⟩ (by decide) rfl rfl (by omega) ?_
  refine s_aload_n (f := 3) (i := 3) hg (by rw [e3]; exact (by decide +kernel : decode cL_law 597 = .ok (.aload_n 3, 1))) rfl rfl rfl ?_
  refine law_A hc0 (as := [aI (f (i + 1)), aI (f (i + 2))]) (q1 := 598) (q2 := 616) (I := 166) (J := 168) (o := (1934)) (zL := iL_setRate) (hs := hL_setRate) (zM := iX11_setRate) (r := opS σ (sRat σ.1 (f (i + 1)) (f (i + 2)))) (σ := σ) (w_setRate hcE hNc _ _ (x_setRate hcE.1 hcw hV (by omega) _ _) (opS_le (sRat_le _ _))) (fun τ1 c0 h => q_setRate hcE.1 h hV (by omega) _ _) (Nat.lt_of_le_of_lt (opS_le (sRat_le _ _)) (by decide))
    (by decide +kernel) (by decide +kernel) (by decide +kernel) (by decide +kernel) (by decide +kernel) ⟨by decide +kernel, by decide +kernel, by decide +kernel, by decide +kernel⟩ csxL_166 cvL_168 npL_setRate npX11_setRate ⟨by decide, by decide⟩ ⟨by decide, by decide⟩ rfl (by decide) hcc rfl hcw hmw (SI_setRate hsi _ _) (fun τ1 n1 al1 r1 h0 h5 kk => ?_) hk
  refine V_scr hB hF hN (k := 1) (kz := 1) (pc := 604) ⟨by decide +kernel, by decide +kernel, by decide +kernel, by decide +kernel, by decide +kernel⟩ (by decide) h0 h5 (by omega) ?_
  refine V_scr hB hF hN (k := 2) (kz := 2) (pc := 610) ⟨by decide +kernel, by decide +kernel, by decide +kernel, by decide +kernel, by decide +kernel⟩ (by decide) h0 h5 (by omega) ?_
  exact kk
theorem g_day (hc0 : LCx x l G Φ f N) (hi : i + 4 ≤ N) (hcc : c ≤ 512) (hLI : LI c τ σ) (hk : ∀ τ' σ', LI (c + 1) τ' σ' → V x τ' (1000 * (c + 1)) 28 (LK (i + 4)) []) : V x τ (1000 * c) 652 (LK i) [] := by
  obtain ⟨hcw, hmw, hsi⟩ := hLI
  obtain ⟨n, hn, hV, hps, hsn, hZ, hb, hT, hln⟩ := hsi.get (by omega)
  obtain ⟨hB, hcE, hNc, hF, hN, hSl⟩ := id hc0
  have hg := hB.1
  obtain ⟨-, -, -, e3, -⟩ := id hB
  exact law_B hc0 (p := 652) (I := 169) (J := 172) (o := 1923) (zX := iX10_day) (zM := iX11_day) (σ := σ) (r := (0, σ.1 0, σ)) (y_day hcE.1 hcw hV (by omega)) (fun τ1 c0 h => q_day hcE.1 h) rfl
    (by decide +kernel) (by decide +kernel) (by decide +kernel) (by decide +kernel) (by decide +kernel) cvL_169 cvL_172 npX10_day npX11_day ⟨by decide, by decide⟩ ⟨by decide, by decide⟩ rfl (by decide) hcc rfl hmw (hsi.mono (by omega)) hk
theorem g_price (hc0 : LCx x l G Φ f N) (hi : i + 4 ≤ N) (hcc : c ≤ 512) (hLI : LI c τ σ) (hk : ∀ τ' σ', LI (c + 1) τ' σ' → V x τ' (1000 * (c + 1)) 28 (LK (i + 4)) []) : V x τ (1000 * c) 665 (LK i) [] := by
  obtain ⟨hcw, hmw, hsi⟩ := hLI
  obtain ⟨n, hn, hV, hps, hsn, hZ, hb, hT, hln⟩ := hsi.get (by omega)
  obtain ⟨hB, hcE, hNc, hF, hN, hSl⟩ := id hc0
  have hg := hB.1
  obtain ⟨-, -, -, e3, -⟩ := id hB
  exact law_B hc0 (p := 665) (I := 173) (J := 176) (o := 1910) (zX := iX10_price) (zM := iX11_price) (σ := σ) (r := (0, σ.1 1, σ)) (y_price hcE.1 hcw hV (by omega)) (fun τ1 c0 h => q_price hcE.1 h) rfl
    (by decide +kernel) (by decide +kernel) (by decide +kernel) (by decide +kernel) (by decide +kernel) cvL_173 cvL_176 npX10_price npX11_price ⟨by decide, by decide⟩ ⟨by decide, by decide⟩ rfl (by decide) hcc rfl hmw (hsi.mono (by omega)) hk
theorem g_rateOf (hc0 : LCx x l G Φ f N) (hi : i + 4 ≤ N) (hcc : c ≤ 512) (hLI : LI c τ σ) (hk : ∀ τ' σ', LI (c + 1) τ' σ' → V x τ' (1000 * (c + 1)) 28 (LK (i + 4)) []) : V x τ (1000 * c) 678 (LK i) [] := by
  obtain ⟨hcw, hmw, hsi⟩ := hLI
  obtain ⟨n, hn, hV, hps, hsn, hZ, hb, hT, hln⟩ := hsi.get (by omega)
  obtain ⟨hB, hcE, hNc, hF, hN, hSl⟩ := id hc0
  have hg := hB.1
  obtain ⟨-, -, -, e3, -⟩ := id hB
  refine s_aload_n (f := 1) (i := 1) hg (by rw [e3]; exact (by decide +kernel : decode cL_law 678 = .ok (.aload_n 1, 1))) rfl rfl rfl ?_
  refine V_scr hB hF hN (k := 1) (kz := 1) (pc := 679) ⟨by decide +kernel, by decide +kernel, by decide +kernel, by decide +kernel, by decide +kernel⟩ (by decide) rfl rfl (by omega) ?_
  refine s_aload_n (f := 3) (i := 3) hg (by rw [e3]; exact (by decide +kernel : decode cL_law 685 = .ok (.aload_n 3, 1))) rfl rfl rfl ?_
  refine law_A hc0 (as := [aI (f (i + 1))]) (q1 := 686) (q2 := 698) (I := 177) (J := 179) (o := (1852)) (zL := iL_rateOf) (hs := hL_rateOf) (zM := iX11_rateOf) (r := ((sRof σ.1 (f (i + 1))).1, (sRof σ.1 (f (i + 1))).2, σ)) (σ := σ) (w_rateOf hcE hNc _ (y_rateOf hcE.1 hcw hV (by omega) _) (sRof_le _)) (fun τ1 c0 h => q_rateOf hcE.1 h _) (Nat.lt_of_le_of_lt (sRof_le _) (by decide))
    (by decide +kernel) (by decide +kernel) (by decide +kernel) (by decide +kernel) (by decide +kernel) ⟨by decide +kernel, by decide +kernel, by decide +kernel, by decide +kernel⟩ csxL_177 cvL_179 npL_rateOf npX11_rateOf ⟨by decide, by decide⟩ ⟨by decide, by decide⟩ rfl (by decide) hcc rfl hcw hmw (hsi.mono (by omega)) (fun τ1 n1 al1 r1 h0 h5 kk => ?_) hk
  refine V_scr hB hF hN (k := 1) (kz := 1) (pc := 692) ⟨by decide +kernel, by decide +kernel, by decide +kernel, by decide +kernel, by decide +kernel⟩ (by decide) h0 h5 (by omega) ?_
  exact kk
theorem g_coins (hc0 : LCx x l G Φ f N) (hi : i + 4 ≤ N) (hcc : c ≤ 512) (hLI : LI c τ σ) (hk : ∀ τ' σ', LI (c + 1) τ' σ' → V x τ' (1000 * (c + 1)) 28 (LK (i + 4)) []) : V x τ (1000 * c) 734 (LK i) [] := by
  obtain ⟨hcw, hmw, hsi⟩ := hLI
  obtain ⟨n, hn, hV, hps, hsn, hZ, hb, hT, hln⟩ := hsi.get (by omega)
  obtain ⟨hB, hcE, hNc, hF, hN, hSl⟩ := id hc0
  have hg := hB.1
  obtain ⟨-, -, -, e3, -⟩ := id hB
  exact law_B hc0 (p := 734) (I := 180) (J := 183) (o := 1841) (zX := iX10_coins) (zM := iX11_coins) (σ := σ) (r := (0, σ.1 2, σ)) (y_coins hcE.1 hcw hV (by omega)) (fun τ1 c0 h => q_coins hcE.1 h) rfl
    (by decide +kernel) (by decide +kernel) (by decide +kernel) (by decide +kernel) (by decide +kernel) cvL_180 cvL_183 npX10_coins npX11_coins ⟨by decide, by decide⟩ ⟨by decide, by decide⟩ rfl (by decide) hcc rfl hmw (hsi.mono (by omega)) hk
theorem g_coinsByAccounts (hc0 : LCx x l G Φ f N) (hi : i + 4 ≤ N) (hcc : c ≤ 512) (hLI : LI c τ σ) (hk : ∀ τ' σ', LI (c + 1) τ' σ' → V x τ' (1000 * (c + 1)) 28 (LK (i + 4)) []) : V x τ (1000 * c) 747 (LK i) [] := by
  obtain ⟨hcw, hmw, hsi⟩ := hLI
  obtain ⟨n, hn, hV, hps, hsn, hZ, hb, hT, hln⟩ := hsi.get (by omega)
  obtain ⟨hB, hcE, hNc, hF, hN, hSl⟩ := id hc0
  have hg := hB.1
  obtain ⟨-, -, -, e3, -⟩ := id hB
  exact law_B hc0 (p := 747) (I := 184) (J := 187) (o := 1828) (zX := iX10_coinsByAccounts) (zM := iX11_coinsByAccounts) (σ := σ) (r := (0, σ.1 2, σ)) (y_coinsByAccounts hcE.1 hcw hV (by omega)) (fun τ1 c0 h => q_coinsByAccounts hcE.1 h) rfl
    (by decide +kernel) (by decide +kernel) (by decide +kernel) (by decide +kernel) (by decide +kernel) cvL_184 cvL_187 npX10_coinsByAccounts npX11_coinsByAccounts ⟨by decide, by decide⟩ ⟨by decide, by decide⟩ rfl (by decide) hcc rfl hmw (hsi.mono (by omega)) hk
theorem g_pledgeCount (hc0 : LCx x l G Φ f N) (hi : i + 4 ≤ N) (hcc : c ≤ 512) (hLI : LI c τ σ) (hk : ∀ τ' σ', LI (c + 1) τ' σ' → V x τ' (1000 * (c + 1)) 28 (LK (i + 4)) []) : V x τ (1000 * c) 760 (LK i) [] := by
  obtain ⟨hcw, hmw, hsi⟩ := hLI
  obtain ⟨n, hn, hV, hps, hsn, hZ, hb, hT, hln⟩ := hsi.get (by omega)
  obtain ⟨hB, hcE, hNc, hF, hN, hSl⟩ := id hc0
  have hg := hB.1
  obtain ⟨-, -, -, e3, -⟩ := id hB
  exact law_B hc0 (p := 760) (I := 188) (J := 191) (o := 1815) (zX := iX10_pledgeCount) (zM := iX11_pledgeCount) (σ := σ) (r := (0, cntU σ.1 false (σ.1 4), σ)) (y_pledgeCount hcE.1 hcw hV (by omega)) (fun τ1 c0 h => q_pledgeCount hcE.1 h hV (by omega)) rfl
    (by decide +kernel) (by decide +kernel) (by decide +kernel) (by decide +kernel) (by decide +kernel) cvL_188 cvL_191 npX10_pledgeCount npX11_pledgeCount ⟨by decide, by decide⟩ ⟨by decide, by decide⟩ rfl (by decide) hcc rfl hmw (hsi.mono (by omega)) hk
theorem g_pledgeAt (hc0 : LCx x l G Φ f N) (hi : i + 4 ≤ N) (hcc : c ≤ 512) (hLI : LI c τ σ) (hk : ∀ τ' σ', LI (c + 1) τ' σ' → V x τ' (1000 * (c + 1)) 28 (LK (i + 4)) []) : V x τ (1000 * c) 773 (LK i) [] := by
  obtain ⟨hcw, hmw, hsi⟩ := hLI
  obtain ⟨n, hn, hV, hps, hsn, hZ, hb, hT, hln⟩ := hsi.get (by omega)
  obtain ⟨hB, hcE, hNc, hF, hN, hSl⟩ := id hc0
  have hg := hB.1
  obtain ⟨-, -, -, e3, -⟩ := id hB
  refine s_aload_n (f := 1) (i := 1) hg (by rw [e3]; exact (by decide +kernel : decode cL_law 773 = .ok (.aload_n 1, 1))) rfl rfl rfl ?_
  refine V_scr hB hF hN (k := 1) (kz := 1) (pc := 774) ⟨by decide +kernel, by decide +kernel, by decide +kernel, by decide +kernel, by decide +kernel⟩ (by decide) rfl rfl (by omega) ?_
  refine s_aload_n (f := 3) (i := 3) hg (by rw [e3]; exact (by decide +kernel : decode cL_law 780 = .ok (.aload_n 3, 1))) rfl rfl rfl ?_
  refine law_A hc0 (as := [aI (f (i + 1))]) (q1 := 781) (q2 := 793) (I := 192) (J := 194) (o := (1757)) (zL := iL_pledgeAt) (hs := hL_pledgeAt) (zM := iX11_pledgeAt) (r := ((sPlc σ.1 (f (i + 1)) false).1, (sPlc σ.1 (f (i + 1)) false).2, σ)) (σ := σ) (w_pledgeAt hcE hNc _ (y_pledgeAt hcE.1 hcw hV (by omega) _) (sPlc_le _ _)) (fun τ1 c0 h => q_pledgeAt hcE.1 h hV (by omega) _) (Nat.lt_of_le_of_lt (sPlc_le _ _) (by decide))
    (by decide +kernel) (by decide +kernel) (by decide +kernel) (by decide +kernel) (by decide +kernel) ⟨by decide +kernel, by decide +kernel, by decide +kernel, by decide +kernel⟩ csxL_192 cvL_194 npL_pledgeAt npX11_pledgeAt ⟨by decide, by decide⟩ ⟨by decide, by decide⟩ rfl (by decide) hcc rfl hcw hmw (hsi.mono (by omega)) (fun τ1 n1 al1 r1 h0 h5 kk => ?_) hk
  refine V_scr hB hF hN (k := 1) (kz := 1) (pc := 787) ⟨by decide +kernel, by decide +kernel, by decide +kernel, by decide +kernel, by decide +kernel⟩ (by decide) h0 h5 (by omega) ?_
  exact kk
theorem g_customerOf (hc0 : LCx x l G Φ f N) (hi : i + 4 ≤ N) (hcc : c ≤ 512) (hLI : LI c τ σ) (hk : ∀ τ' σ', LI (c + 1) τ' σ' → V x τ' (1000 * (c + 1)) 28 (LK (i + 4)) []) : V x τ (1000 * c) 829 (LK i) [] := by
  obtain ⟨hcw, hmw, hsi⟩ := hLI
  obtain ⟨n, hn, hV, hps, hsn, hZ, hb, hT, hln⟩ := hsi.get (by omega)
  obtain ⟨hB, hcE, hNc, hF, hN, hSl⟩ := id hc0
  have hg := hB.1
  obtain ⟨-, -, -, e3, -⟩ := id hB
  refine s_aload_n (f := 1) (i := 1) hg (by rw [e3]; exact (by decide +kernel : decode cL_law 829 = .ok (.aload_n 1, 1))) rfl rfl rfl ?_
  refine V_scr hB hF hN (k := 1) (kz := 1) (pc := 830) ⟨by decide +kernel, by decide +kernel, by decide +kernel, by decide +kernel, by decide +kernel⟩ (by decide) rfl rfl (by omega) ?_
  refine s_aload_n (f := 3) (i := 3) hg (by rw [e3]; exact (by decide +kernel : decode cL_law 836 = .ok (.aload_n 3, 1))) rfl rfl rfl ?_
  refine law_A hc0 (as := [aI (f (i + 1))]) (q1 := 837) (q2 := 849) (I := 195) (J := 197) (o := (1701)) (zL := iL_customerOf) (hs := hL_customerOf) (zM := iX11_customerOf) (r := ((sTel σ.1 (findO σ.1 (f (i + 1)) false) 2).1, (sTel σ.1 (findO σ.1 (f (i + 1)) false) 2).2, σ)) (σ := σ) (w_customerOf hcE hNc _ (y_customerOf hcE.1 hcw hV (by omega) _) (sTel_le _ _)) (fun τ1 c0 h => q_customerOf hcE.1 h hV (by omega) _) (Nat.lt_of_le_of_lt (sTel_le _ _) (by decide))
    (by decide +kernel) (by decide +kernel) (by decide +kernel) (by decide +kernel) (by decide +kernel) ⟨by decide +kernel, by decide +kernel, by decide +kernel, by decide +kernel⟩ csxL_195 cvL_197 npL_customerOf npX11_customerOf ⟨by decide, by decide⟩ ⟨by decide, by decide⟩ rfl (by decide) hcc rfl hcw hmw (hsi.mono (by omega)) (fun τ1 n1 al1 r1 h0 h5 kk => ?_) hk
  refine V_scr hB hF hN (k := 1) (kz := 1) (pc := 843) ⟨by decide +kernel, by decide +kernel, by decide +kernel, by decide +kernel, by decide +kernel⟩ (by decide) h0 h5 (by omega) ?_
  exact kk
theorem g_minutesOf (hc0 : LCx x l G Φ f N) (hi : i + 4 ≤ N) (hcc : c ≤ 512) (hLI : LI c τ σ) (hk : ∀ τ' σ', LI (c + 1) τ' σ' → V x τ' (1000 * (c + 1)) 28 (LK (i + 4)) []) : V x τ (1000 * c) 885 (LK i) [] := by
  obtain ⟨hcw, hmw, hsi⟩ := hLI
  obtain ⟨n, hn, hV, hps, hsn, hZ, hb, hT, hln⟩ := hsi.get (by omega)
  obtain ⟨hB, hcE, hNc, hF, hN, hSl⟩ := id hc0
  have hg := hB.1
  obtain ⟨-, -, -, e3, -⟩ := id hB
  refine s_aload_n (f := 1) (i := 1) hg (by rw [e3]; exact (by decide +kernel : decode cL_law 885 = .ok (.aload_n 1, 1))) rfl rfl rfl ?_
  refine V_scr hB hF hN (k := 1) (kz := 1) (pc := 886) ⟨by decide +kernel, by decide +kernel, by decide +kernel, by decide +kernel, by decide +kernel⟩ (by decide) rfl rfl (by omega) ?_
  refine s_aload_n (f := 3) (i := 3) hg (by rw [e3]; exact (by decide +kernel : decode cL_law 892 = .ok (.aload_n 3, 1))) rfl rfl rfl ?_
  refine law_A hc0 (as := [aI (f (i + 1))]) (q1 := 893) (q2 := 905) (I := 198) (J := 200) (o := (1645)) (zL := iL_minutesOf) (hs := hL_minutesOf) (zM := iX11_minutesOf) (r := ((sTel σ.1 (find σ.1 (f (i + 1))) 3).1, (sTel σ.1 (find σ.1 (f (i + 1))) 3).2, σ)) (σ := σ) (w_minutesOf hcE hNc _ (y_minutesOf hcE.1 hcw hV (by omega) _) (sTel_le _ _)) (fun τ1 c0 h => q_minutesOf hcE.1 h hV (by omega) _) (Nat.lt_of_le_of_lt (sTel_le _ _) (by decide))
    (by decide +kernel) (by decide +kernel) (by decide +kernel) (by decide +kernel) (by decide +kernel) ⟨by decide +kernel, by decide +kernel, by decide +kernel, by decide +kernel⟩ csxL_198 cvL_200 npL_minutesOf npX11_minutesOf ⟨by decide, by decide⟩ ⟨by decide, by decide⟩ rfl (by decide) hcc rfl hcw hmw (hsi.mono (by omega)) (fun τ1 n1 al1 r1 h0 h5 kk => ?_) hk
  refine V_scr hB hF hN (k := 1) (kz := 1) (pc := 899) ⟨by decide +kernel, by decide +kernel, by decide +kernel, by decide +kernel, by decide +kernel⟩ (by decide) h0 h5 (by omega) ?_
  exact kk
theorem g_loanOf (hc0 : LCx x l G Φ f N) (hi : i + 4 ≤ N) (hcc : c ≤ 512) (hLI : LI c τ σ) (hk : ∀ τ' σ', LI (c + 1) τ' σ' → V x τ' (1000 * (c + 1)) 28 (LK (i + 4)) []) : V x τ (1000 * c) 941 (LK i) [] := by
  obtain ⟨hcw, hmw, hsi⟩ := hLI
  obtain ⟨n, hn, hV, hps, hsn, hZ, hb, hT, hln⟩ := hsi.get (by omega)
  obtain ⟨hB, hcE, hNc, hF, hN, hSl⟩ := id hc0
  have hg := hB.1
  obtain ⟨-, -, -, e3, -⟩ := id hB
  refine s_aload_n (f := 1) (i := 1) hg (by rw [e3]; exact (by decide +kernel : decode cL_law 941 = .ok (.aload_n 1, 1))) rfl rfl rfl ?_
  refine V_scr hB hF hN (k := 1) (kz := 1) (pc := 942) ⟨by decide +kernel, by decide +kernel, by decide +kernel, by decide +kernel, by decide +kernel⟩ (by decide) rfl rfl (by omega) ?_
  refine s_aload_n (f := 3) (i := 3) hg (by rw [e3]; exact (by decide +kernel : decode cL_law 948 = .ok (.aload_n 3, 1))) rfl rfl rfl ?_
  refine law_A hc0 (as := [aI (f (i + 1))]) (q1 := 949) (q2 := 961) (I := 201) (J := 203) (o := (1589)) (zL := iL_loanOf) (hs := hL_loanOf) (zM := iX11_loanOf) (r := ((sTel σ.1 (find σ.1 (f (i + 1))) 4).1, (sTel σ.1 (find σ.1 (f (i + 1))) 4).2, σ)) (σ := σ) (w_loanOf hcE hNc _ (y_loanOf hcE.1 hcw hV (by omega) _) (sTel_le _ _)) (fun τ1 c0 h => q_loanOf hcE.1 h hV (by omega) _) (Nat.lt_of_le_of_lt (sTel_le _ _) (by decide))
    (by decide +kernel) (by decide +kernel) (by decide +kernel) (by decide +kernel) (by decide +kernel) ⟨by decide +kernel, by decide +kernel, by decide +kernel, by decide +kernel⟩ csxL_201 cvL_203 npL_loanOf npX11_loanOf ⟨by decide, by decide⟩ ⟨by decide, by decide⟩ rfl (by decide) hcc rfl hcw hmw (hsi.mono (by omega)) (fun τ1 n1 al1 r1 h0 h5 kk => ?_) hk
  refine V_scr hB hF hN (k := 1) (kz := 1) (pc := 955) ⟨by decide +kernel, by decide +kernel, by decide +kernel, by decide +kernel, by decide +kernel⟩ (by decide) h0 h5 (by omega) ?_
  exact kk
theorem g_dueDayOf (hc0 : LCx x l G Φ f N) (hi : i + 4 ≤ N) (hcc : c ≤ 512) (hLI : LI c τ σ) (hk : ∀ τ' σ', LI (c + 1) τ' σ' → V x τ' (1000 * (c + 1)) 28 (LK (i + 4)) []) : V x τ (1000 * c) 997 (LK i) [] := by
  obtain ⟨hcw, hmw, hsi⟩ := hLI
  obtain ⟨n, hn, hV, hps, hsn, hZ, hb, hT, hln⟩ := hsi.get (by omega)
  obtain ⟨hB, hcE, hNc, hF, hN, hSl⟩ := id hc0
  have hg := hB.1
  obtain ⟨-, -, -, e3, -⟩ := id hB
  refine s_aload_n (f := 1) (i := 1) hg (by rw [e3]; exact (by decide +kernel : decode cL_law 997 = .ok (.aload_n 1, 1))) rfl rfl rfl ?_
  refine V_scr hB hF hN (k := 1) (kz := 1) (pc := 998) ⟨by decide +kernel, by decide +kernel, by decide +kernel, by decide +kernel, by decide +kernel⟩ (by decide) rfl rfl (by omega) ?_
  refine s_aload_n (f := 3) (i := 3) hg (by rw [e3]; exact (by decide +kernel : decode cL_law 1004 = .ok (.aload_n 3, 1))) rfl rfl rfl ?_
  refine law_A hc0 (as := [aI (f (i + 1))]) (q1 := 1005) (q2 := 1017) (I := 204) (J := 206) (o := (1533)) (zL := iL_dueDayOf) (hs := hL_dueDayOf) (zM := iX11_dueDayOf) (r := ((sTel σ.1 (findO σ.1 (f (i + 1)) false) 6).1, (sTel σ.1 (findO σ.1 (f (i + 1)) false) 6).2, σ)) (σ := σ) (w_dueDayOf hcE hNc _ (y_dueDayOf hcE.1 hcw hV (by omega) _) (sTel_le _ _)) (fun τ1 c0 h => q_dueDayOf hcE.1 h hV (by omega) _) (Nat.lt_of_le_of_lt (sTel_le _ _) (by decide))
    (by decide +kernel) (by decide +kernel) (by decide +kernel) (by decide +kernel) (by decide +kernel) ⟨by decide +kernel, by decide +kernel, by decide +kernel, by decide +kernel⟩ csxL_204 cvL_206 npL_dueDayOf npX11_dueDayOf ⟨by decide, by decide⟩ ⟨by decide, by decide⟩ rfl (by decide) hcc rfl hcw hmw (hsi.mono (by omega)) (fun τ1 n1 al1 r1 h0 h5 kk => ?_) hk
  refine V_scr hB hF hN (k := 1) (kz := 1) (pc := 1011) ⟨by decide +kernel, by decide +kernel, by decide +kernel, by decide +kernel, by decide +kernel⟩ (by decide) h0 h5 (by omega) ?_
  exact kk
theorem g_pledgeByDueDay (hc0 : LCx x l G Φ f N) (hi : i + 4 ≤ N) (hcc : c ≤ 512) (hLI : LI c τ σ) (hk : ∀ τ' σ', LI (c + 1) τ' σ' → V x τ' (1000 * (c + 1)) 28 (LK (i + 4)) []) : V x τ (1000 * c) 1053 (LK i) [] := by
  obtain ⟨hcw, hmw, hsi⟩ := hLI
  obtain ⟨n, hn, hV, hps, hsn, hZ, hb, hT, hln⟩ := hsi.get (by omega)
  obtain ⟨hB, hcE, hNc, hF, hN, hSl⟩ := id hc0
  have hg := hB.1
  obtain ⟨-, -, -, e3, -⟩ := id hB
  refine s_aload_n (f := 1) (i := 1) hg (by rw [e3]; exact (by decide +kernel : decode cL_law 1053 = .ok (.aload_n 1, 1))) rfl rfl rfl ?_
  refine V_scr hB hF hN (k := 1) (kz := 1) (pc := 1054) ⟨by decide +kernel, by decide +kernel, by decide +kernel, by decide +kernel, by decide +kernel⟩ (by decide) rfl rfl (by omega) ?_
  refine s_aload_n (f := 3) (i := 3) hg (by rw [e3]; exact (by decide +kernel : decode cL_law 1060 = .ok (.aload_n 3, 1))) rfl rfl rfl ?_
  refine law_A hc0 (as := [aI (f (i + 1))]) (q1 := 1061) (q2 := 1073) (I := 207) (J := 209) (o := (1477)) (zL := iL_pledgeByDueDay) (hs := hL_pledgeByDueDay) (zM := iX11_pledgeByDueDay) (r := ((sByD σ.1 (f (i + 1))).1, (sByD σ.1 (f (i + 1))).2, σ)) (σ := σ) (w_pledgeByDueDay hcE hNc _ (y_pledgeByDueDay hcE.1 hcw hV (by omega) _) (sByD_le _)) (fun τ1 c0 h => q_pledgeByDueDay hcE.1 h hV (by omega) _) (Nat.lt_of_le_of_lt (sByD_le _) (by decide))
    (by decide +kernel) (by decide +kernel) (by decide +kernel) (by decide +kernel) (by decide +kernel) ⟨by decide +kernel, by decide +kernel, by decide +kernel, by decide +kernel⟩ csxL_207 cvL_209 npL_pledgeByDueDay npX11_pledgeByDueDay ⟨by decide, by decide⟩ ⟨by decide, by decide⟩ rfl (by decide) hcc rfl hcw hmw (hsi.mono (by omega)) (fun τ1 n1 al1 r1 h0 h5 kk => ?_) hk
  refine V_scr hB hF hN (k := 1) (kz := 1) (pc := 1067) ⟨by decide +kernel, by decide +kernel, by decide +kernel, by decide +kernel, by decide +kernel⟩ (by decide) h0 h5 (by omega) ?_
  exact kk
theorem g_interestOf (hc0 : LCx x l G Φ f N) (hi : i + 4 ≤ N) (hcc : c ≤ 512) (hLI : LI c τ σ) (hk : ∀ τ' σ', LI (c + 1) τ' σ' → V x τ' (1000 * (c + 1)) 28 (LK (i + 4)) []) : V x τ (1000 * c) 1109 (LK i) [] := by
  obtain ⟨hcw, hmw, hsi⟩ := hLI
  obtain ⟨n, hn, hV, hps, hsn, hZ, hb, hT, hln⟩ := hsi.get (by omega)
  obtain ⟨hB, hcE, hNc, hF, hN, hSl⟩ := id hc0
  have hg := hB.1
  obtain ⟨-, -, -, e3, -⟩ := id hB
  refine s_aload_n (f := 1) (i := 1) hg (by rw [e3]; exact (by decide +kernel : decode cL_law 1109 = .ok (.aload_n 1, 1))) rfl rfl rfl ?_
  refine V_scr hB hF hN (k := 1) (kz := 1) (pc := 1110) ⟨by decide +kernel, by decide +kernel, by decide +kernel, by decide +kernel, by decide +kernel⟩ (by decide) rfl rfl (by omega) ?_
  refine s_aload_n (f := 3) (i := 3) hg (by rw [e3]; exact (by decide +kernel : decode cL_law 1116 = .ok (.aload_n 3, 1))) rfl rfl rfl ?_
  refine law_A hc0 (as := [aI (f (i + 1))]) (q1 := 1117) (q2 := 1129) (I := 210) (J := 212) (o := (1421)) (zL := iL_interestOf) (hs := hL_interestOf) (zM := iX11_interestOf) (r := ((sInt σ.1 (findO σ.1 (f (i + 1)) false)).1, (sInt σ.1 (findO σ.1 (f (i + 1)) false)).2, σ)) (σ := σ) (w_interestOf hcE hNc _ (y_interestOf hcE.1 hcw hV (by omega) _) (sInt_le _)) (fun τ1 c0 h => q_interestOf hcE.1 h hV (by omega) _) (Nat.lt_of_le_of_lt (sInt_le _) (by decide))
    (by decide +kernel) (by decide +kernel) (by decide +kernel) (by decide +kernel) (by decide +kernel) ⟨by decide +kernel, by decide +kernel, by decide +kernel, by decide +kernel⟩ csxL_210 cvL_212 npL_interestOf npX11_interestOf ⟨by decide, by decide⟩ ⟨by decide, by decide⟩ rfl (by decide) hcc rfl hcw hmw (hsi.mono (by omega)) (fun τ1 n1 al1 r1 h0 h5 kk => ?_) hk
  refine V_scr hB hF hN (k := 1) (kz := 1) (pc := 1123) ⟨by decide +kernel, by decide +kernel, by decide +kernel, by decide +kernel, by decide +kernel⟩ (by decide) h0 h5 (by omega) ?_
  exact kk
theorem g_interestByWeeks (hc0 : LCx x l G Φ f N) (hi : i + 4 ≤ N) (hcc : c ≤ 512) (hLI : LI c τ σ) (hk : ∀ τ' σ', LI (c + 1) τ' σ' → V x τ' (1000 * (c + 1)) 28 (LK (i + 4)) []) : V x τ (1000 * c) 1165 (LK i) [] := by
  obtain ⟨hcw, hmw, hsi⟩ := hLI
  obtain ⟨n, hn, hV, hps, hsn, hZ, hb, hT, hln⟩ := hsi.get (by omega)
  obtain ⟨hB, hcE, hNc, hF, hN, hSl⟩ := id hc0
  have hg := hB.1
  obtain ⟨-, -, -, e3, -⟩ := id hB
  refine s_aload_n (f := 1) (i := 1) hg (by rw [e3]; exact (by decide +kernel : decode cL_law 1165 = .ok (.aload_n 1, 1))) rfl rfl rfl ?_
  refine V_scr hB hF hN (k := 1) (kz := 1) (pc := 1166) ⟨by decide +kernel, by decide +kernel, by decide +kernel, by decide +kernel, by decide +kernel⟩ (by decide) rfl rfl (by omega) ?_
  refine s_aload_n (f := 3) (i := 3) hg (by rw [e3]; exact (by decide +kernel : decode cL_law 1172 = .ok (.aload_n 3, 1))) rfl rfl rfl ?_
  refine law_A hc0 (as := [aI (f (i + 1))]) (q1 := 1173) (q2 := 1185) (I := 213) (J := 215) (o := (1365)) (zL := iL_interestByWeeks) (hs := hL_interestByWeeks) (zM := iX11_interestByWeeks) (r := ((sInt σ.1 (findO σ.1 (f (i + 1)) false)).1, (sInt σ.1 (findO σ.1 (f (i + 1)) false)).2, σ)) (σ := σ) (w_interestByWeeks hcE hNc _ (y_interestByWeeks hcE.1 hcw hV (by omega) _) (sInt_le _)) (fun τ1 c0 h => q_interestByWeeks hcE.1 h hV (by omega) _) (Nat.lt_of_le_of_lt (sInt_le _) (by decide))
    (by decide +kernel) (by decide +kernel) (by decide +kernel) (by decide +kernel) (by decide +kernel) ⟨by decide +kernel, by decide +kernel, by decide +kernel, by decide +kernel⟩ csxL_213 cvL_215 npL_interestByWeeks npX11_interestByWeeks ⟨by decide, by decide⟩ ⟨by decide, by decide⟩ rfl (by decide) hcc rfl hcw hmw (hsi.mono (by omega)) (fun τ1 n1 al1 r1 h0 h5 kk => ?_) hk
  refine V_scr hB hF hN (k := 1) (kz := 1) (pc := 1179) ⟨by decide +kernel, by decide +kernel, by decide +kernel, by decide +kernel, by decide +kernel⟩ (by decide) h0 h5 (by omega) ?_
  exact kk
theorem g_debtAfter (hc0 : LCx x l G Φ f N) (hi : i + 4 ≤ N) (hcc : c ≤ 512) (hLI : LI c τ σ) (hk : ∀ τ' σ', LI (c + 1) τ' σ' → V x τ' (1000 * (c + 1)) 28 (LK (i + 4)) []) : V x τ (1000 * c) 1221 (LK i) [] := by
  obtain ⟨hcw, hmw, hsi⟩ := hLI
  obtain ⟨n, hn, hV, hps, hsn, hZ, hb, hT, hln⟩ := hsi.get (by omega)
  obtain ⟨hB, hcE, hNc, hF, hN, hSl⟩ := id hc0
  have hg := hB.1
  obtain ⟨-, -, -, e3, -⟩ := id hB
  refine s_aload_n (f := 1) (i := 1) hg (by rw [e3]; exact (by decide +kernel : decode cL_law 1221 = .ok (.aload_n 1, 1))) rfl rfl rfl ?_
  refine V_scr hB hF hN (k := 1) (kz := 1) (pc := 1222) ⟨by decide +kernel, by decide +kernel, by decide +kernel, by decide +kernel, by decide +kernel⟩ (by decide) rfl rfl (by omega) ?_
  refine V_scr hB hF hN (k := 2) (kz := 2) (pc := 1228) ⟨by decide +kernel, by decide +kernel, by decide +kernel, by decide +kernel, by decide +kernel⟩ (by decide) rfl rfl (by omega) ?_
  refine s_aload_n (f := 3) (i := 3) hg (by rw [e3]; exact (by decide +kernel : decode cL_law 1234 = .ok (.aload_n 3, 1))) rfl rfl rfl ?_
  refine law_A hc0 (as := [aI (f (i + 1)), aI (f (i + 2))]) (q1 := 1235) (q2 := 1253) (I := 216) (J := 218) (o := (1297)) (zL := iL_debtAfter) (hs := hL_debtAfter) (zM := iX11_debtAfter) (r := ((sDbA σ.1 (findO σ.1 (f (i + 1)) false) (f (i + 2))).1, (sDbA σ.1 (findO σ.1 (f (i + 1)) false) (f (i + 2))).2, σ)) (σ := σ) (w_debtAfter hcE hNc _ _ (y_debtAfter hcE.1 hcw hV (by omega) _ _) (sDbA_le _ _)) (fun τ1 c0 h => q_debtAfter hcE.1 h hV (by omega) _ _) (Nat.lt_of_le_of_lt (sDbA_le _ _) (by decide))
    (by decide +kernel) (by decide +kernel) (by decide +kernel) (by decide +kernel) (by decide +kernel) ⟨by decide +kernel, by decide +kernel, by decide +kernel, by decide +kernel⟩ csxL_216 cvL_218 npL_debtAfter npX11_debtAfter ⟨by decide, by decide⟩ ⟨by decide, by decide⟩ rfl (by decide) hcc rfl hcw hmw (hsi.mono (by omega)) (fun τ1 n1 al1 r1 h0 h5 kk => ?_) hk
  refine V_scr hB hF hN (k := 1) (kz := 1) (pc := 1241) ⟨by decide +kernel, by decide +kernel, by decide +kernel, by decide +kernel, by decide +kernel⟩ (by decide) h0 h5 (by omega) ?_
  refine V_scr hB hF hN (k := 2) (kz := 2) (pc := 1247) ⟨by decide +kernel, by decide +kernel, by decide +kernel, by decide +kernel, by decide +kernel⟩ (by decide) h0 h5 (by omega) ?_
  exact kk
theorem g_cheapestWeekday (hc0 : LCx x l G Φ f N) (hi : i + 4 ≤ N) (hcc : c ≤ 512) (hLI : LI c τ σ) (hk : ∀ τ' σ', LI (c + 1) τ' σ' → V x τ' (1000 * (c + 1)) 28 (LK (i + 4)) []) : V x τ (1000 * c) 1289 (LK i) [] := by
  obtain ⟨hcw, hmw, hsi⟩ := hLI
  obtain ⟨n, hn, hV, hps, hsn, hZ, hb, hT, hln⟩ := hsi.get (by omega)
  obtain ⟨hB, hcE, hNc, hF, hN, hSl⟩ := id hc0
  have hg := hB.1
  obtain ⟨-, -, -, e3, -⟩ := id hB
  exact law_B hc0 (p := 1289) (I := 219) (J := 222) (o := 1286) (zX := iX10_cheapestWeekday) (zM := iX11_cheapestWeekday) (σ := σ) (r := (0, chU σ.1 6, σ)) (y_cheapestWeekday hcE.1 hcw hV (by omega)) (fun τ1 c0 h => q_cheapestWeekday hcE.1 h hV (by omega)) rfl
    (by decide +kernel) (by decide +kernel) (by decide +kernel) (by decide +kernel) (by decide +kernel) cvL_219 cvL_222 npX10_cheapestWeekday npX11_cheapestWeekday ⟨by decide, by decide⟩ ⟨by decide, by decide⟩ rfl (by decide) hcc rfl hmw (hsi.mono (by omega)) hk
theorem g_mostMinutes (hc0 : LCx x l G Φ f N) (hi : i + 4 ≤ N) (hcc : c ≤ 512) (hLI : LI c τ σ) (hk : ∀ τ' σ', LI (c + 1) τ' σ' → V x τ' (1000 * (c + 1)) 28 (LK (i + 4)) []) : V x τ (1000 * c) 1302 (LK i) [] := by
  obtain ⟨hcw, hmw, hsi⟩ := hLI
  obtain ⟨n, hn, hV, hps, hsn, hZ, hb, hT, hln⟩ := hsi.get (by omega)
  obtain ⟨hB, hcE, hNc, hF, hN, hSl⟩ := id hc0
  have hg := hB.1
  obtain ⟨-, -, -, e3, -⟩ := id hB
  refine s_aload_n (f := 1) (i := 1) hg (by rw [e3]; exact (by decide +kernel : decode cL_law 1302 = .ok (.aload_n 1, 1))) rfl rfl rfl ?_
  refine V_scr hB hF hN (k := 1) (kz := 1) (pc := 1303) ⟨by decide +kernel, by decide +kernel, by decide +kernel, by decide +kernel, by decide +kernel⟩ (by decide) rfl rfl (by omega) ?_
  refine V_scr hB hF hN (k := 2) (kz := 2) (pc := 1309) ⟨by decide +kernel, by decide +kernel, by decide +kernel, by decide +kernel, by decide +kernel⟩ (by decide) rfl rfl (by omega) ?_
  refine s_aload_n (f := 3) (i := 3) hg (by rw [e3]; exact (by decide +kernel : decode cL_law 1315 = .ok (.aload_n 3, 1))) rfl rfl rfl ?_
  refine law_A hc0 (as := [aI (f (i + 1)), aI (f (i + 2))]) (q1 := 1316) (q2 := 1334) (I := 223) (J := 225) (o := (1216)) (zL := iL_mostMinutes) (hs := hL_mostMinutes) (zM := iX11_mostMinutes) (r := ((sMos σ.1 (f (i + 1)) (f (i + 2))).1, (sMos σ.1 (f (i + 1)) (f (i + 2))).2, σ)) (σ := σ) (w_mostMinutes hcE hNc _ _ (y_mostMinutes hcE.1 hcw hV (by omega) _ _) (sMos_le _ _)) (fun τ1 c0 h => q_mostMinutes hcE.1 h hV (by omega) _ _) (Nat.lt_of_le_of_lt (sMos_le _ _) (by decide))
    (by decide +kernel) (by decide +kernel) (by decide +kernel) (by decide +kernel) (by decide +kernel) ⟨by decide +kernel, by decide +kernel, by decide +kernel, by decide +kernel⟩ csxL_223 cvL_225 npL_mostMinutes npX11_mostMinutes ⟨by decide, by decide⟩ ⟨by decide, by decide⟩ rfl (by decide) hcc rfl hcw hmw (hsi.mono (by omega)) (fun τ1 n1 al1 r1 h0 h5 kk => ?_) hk
  refine V_scr hB hF hN (k := 1) (kz := 1) (pc := 1322) ⟨by decide +kernel, by decide +kernel, by decide +kernel, by decide +kernel, by decide +kernel⟩ (by decide) h0 h5 (by omega) ?_
  refine V_scr hB hF hN (k := 2) (kz := 2) (pc := 1328) ⟨by decide +kernel, by decide +kernel, by decide +kernel, by decide +kernel, by decide +kernel⟩ (by decide) h0 h5 (by omega) ?_
  exact kk
theorem g_mostMinutesByTable (hc0 : LCx x l G Φ f N) (hi : i + 4 ≤ N) (hcc : c ≤ 512) (hLI : LI c τ σ) (hk : ∀ τ' σ', LI (c + 1) τ' σ' → V x τ' (1000 * (c + 1)) 28 (LK (i + 4)) []) : V x τ (1000 * c) 1370 (LK i) [] := by
  obtain ⟨hcw, hmw, hsi⟩ := hLI
  obtain ⟨n, hn, hV, hps, hsn, hZ, hb, hT, hln⟩ := hsi.get (by omega)
  obtain ⟨hB, hcE, hNc, hF, hN, hSl⟩ := id hc0
  have hg := hB.1
  obtain ⟨-, -, -, e3, -⟩ := id hB
  refine s_aload_n (f := 1) (i := 1) hg (by rw [e3]; exact (by decide +kernel : decode cL_law 1370 = .ok (.aload_n 1, 1))) rfl rfl rfl ?_
  refine V_scr hB hF hN (k := 1) (kz := 1) (pc := 1371) ⟨by decide +kernel, by decide +kernel, by decide +kernel, by decide +kernel, by decide +kernel⟩ (by decide) rfl rfl (by omega) ?_
  refine V_scr hB hF hN (k := 2) (kz := 2) (pc := 1377) ⟨by decide +kernel, by decide +kernel, by decide +kernel, by decide +kernel, by decide +kernel⟩ (by decide) rfl rfl (by omega) ?_
  refine s_aload_n (f := 3) (i := 3) hg (by rw [e3]; exact (by decide +kernel : decode cL_law 1383 = .ok (.aload_n 3, 1))) rfl rfl rfl ?_
  refine law_A hc0 (as := [aI (f (i + 1)), aI (f (i + 2))]) (q1 := 1384) (q2 := 1402) (I := 226) (J := 228) (o := (1148)) (zL := iL_mostMinutesByTable) (hs := hL_mostMinutesByTable) (zM := iX11_mostMinutesByTable) (r := ((sMos σ.1 (f (i + 1)) (f (i + 2))).1, (sMos σ.1 (f (i + 1)) (f (i + 2))).2, σ)) (σ := σ) (w_mostMinutesByTable hcE hNc _ _ (y_mostMinutesByTable hcE.1 hcw hV (by omega) _ _) (sMos_le _ _)) (fun τ1 c0 h => q_mostMinutesByTable hcE.1 h hV (by omega) _ _) (Nat.lt_of_le_of_lt (sMos_le _ _) (by decide))
    (by decide +kernel) (by decide +kernel) (by decide +kernel) (by decide +kernel) (by decide +kernel) ⟨by decide +kernel, by decide +kernel, by decide +kernel, by decide +kernel⟩ csxL_226 cvL_228 npL_mostMinutesByTable npX11_mostMinutesByTable ⟨by decide, by decide⟩ ⟨by decide, by decide⟩ rfl (by decide) hcc rfl hcw hmw (hsi.mono (by omega)) (fun τ1 n1 al1 r1 h0 h5 kk => ?_) hk
  refine V_scr hB hF hN (k := 1) (kz := 1) (pc := 1390) ⟨by decide +kernel, by decide +kernel, by decide +kernel, by decide +kernel, by decide +kernel⟩ (by decide) h0 h5 (by omega) ?_
  refine V_scr hB hF hN (k := 2) (kz := 2) (pc := 1396) ⟨by decide +kernel, by decide +kernel, by decide +kernel, by decide +kernel, by decide +kernel⟩ (by decide) h0 h5 (by omega) ?_
  exact kk
theorem g_debtOf (hc0 : LCx x l G Φ f N) (hi : i + 4 ≤ N) (hcc : c ≤ 512) (hLI : LI c τ σ) (hk : ∀ τ' σ', LI (c + 1) τ' σ' → V x τ' (1000 * (c + 1)) 28 (LK (i + 4)) []) : V x τ (1000 * c) 1438 (LK i) [] := by
  obtain ⟨hcw, hmw, hsi⟩ := hLI
  obtain ⟨n, hn, hV, hps, hsn, hZ, hb, hT, hln⟩ := hsi.get (by omega)
  obtain ⟨hB, hcE, hNc, hF, hN, hSl⟩ := id hc0
  have hg := hB.1
  obtain ⟨-, -, -, e3, -⟩ := id hB
  refine s_aload_n (f := 1) (i := 1) hg (by rw [e3]; exact (by decide +kernel : decode cL_law 1438 = .ok (.aload_n 1, 1))) rfl rfl rfl ?_
  refine V_scr hB hF hN (k := 1) (kz := 1) (pc := 1439) ⟨by decide +kernel, by decide +kernel, by decide +kernel, by decide +kernel, by decide +kernel⟩ (by decide) rfl rfl (by omega) ?_
  refine s_aload_n (f := 3) (i := 3) hg (by rw [e3]; exact (by decide +kernel : decode cL_law 1445 = .ok (.aload_n 3, 1))) rfl rfl rfl ?_
  refine law_A hc0 (as := [aI (f (i + 1))]) (q1 := 1446) (q2 := 1458) (I := 229) (J := 231) (o := (1092)) (zL := iL_debtOf) (hs := hL_debtOf) (zM := iX11_debtOf) (r := ((sDOf σ.1 (f (i + 1))).1, (sDOf σ.1 (f (i + 1))).2, σ)) (σ := σ) (w_debtOf hcE hNc _ (y_debtOf hcE.1 hcw hV (by omega) _) (sDOf_le (a := σ.1) _)) (fun τ1 c0 h => q_debtOf hcE.1 h hV (by omega) _) (Nat.lt_of_le_of_lt (sDOf_le (a := σ.1) _) (by decide))
    (by decide +kernel) (by decide +kernel) (by decide +kernel) (by decide +kernel) (by decide +kernel) ⟨by decide +kernel, by decide +kernel, by decide +kernel, by decide +kernel⟩ csxL_229 cvL_231 npL_debtOf npX11_debtOf ⟨by decide, by decide⟩ ⟨by decide, by decide⟩ rfl (by decide) hcc rfl hcw hmw (hsi.mono (by omega)) (fun τ1 n1 al1 r1 h0 h5 kk => ?_) hk
  refine V_scr hB hF hN (k := 1) (kz := 1) (pc := 1452) ⟨by decide +kernel, by decide +kernel, by decide +kernel, by decide +kernel, by decide +kernel⟩ (by decide) h0 h5 (by omega) ?_
  exact kk
theorem g_daysToForfeit (hc0 : LCx x l G Φ f N) (hi : i + 4 ≤ N) (hcc : c ≤ 512) (hLI : LI c τ σ) (hk : ∀ τ' σ', LI (c + 1) τ' σ' → V x τ' (1000 * (c + 1)) 28 (LK (i + 4)) []) : V x τ (1000 * c) 1494 (LK i) [] := by
  obtain ⟨hcw, hmw, hsi⟩ := hLI
  obtain ⟨n, hn, hV, hps, hsn, hZ, hb, hT, hln⟩ := hsi.get (by omega)
  obtain ⟨hB, hcE, hNc, hF, hN, hSl⟩ := id hc0
  have hg := hB.1
  obtain ⟨-, -, -, e3, -⟩ := id hB
  refine s_aload_n (f := 1) (i := 1) hg (by rw [e3]; exact (by decide +kernel : decode cL_law 1494 = .ok (.aload_n 1, 1))) rfl rfl rfl ?_
  refine s_aload_n (f := 3) (i := 3) hg (by rw [e3]; exact (by decide +kernel : decode cL_law 1495 = .ok (.aload_n 3, 1))) rfl rfl rfl ?_
  refine law_A hc0 (as := []) (q1 := 1496) (q2 := 1502) (I := 232) (J := 235) (o := (1048)) (zL := iL_daysToForfeit) (hs := hL_daysToForfeit) (zM := iX11_daysToForfeit) (r := ((sDtF σ.1).1, (sDtF σ.1).2, σ)) (σ := σ) (w_daysToForfeit hcE hNc  (y_daysToForfeit hcE.1 hcw hV (by omega) ) (sDtF_le)) (fun τ1 c0 h => q_daysToForfeit hcE.1 h hV (by omega) ) (Nat.lt_of_le_of_lt (sDtF_le) (by decide))
    (by decide +kernel) (by decide +kernel) (by decide +kernel) (by decide +kernel) (by decide +kernel) ⟨by decide +kernel, by decide +kernel, by decide +kernel, by decide +kernel⟩ csxL_232 cvL_235 npL_daysToForfeit npX11_daysToForfeit ⟨by decide, by decide⟩ ⟨by decide, by decide⟩ rfl (by decide) hcc rfl hcw hmw (hsi.mono (by omega)) (fun τ1 n1 al1 r1 h0 h5 kk => ?_) hk
  exact kk
theorem g_bid (hc0 : LCx x l G Φ f N) (hi : i + 4 ≤ N) (hcc : c ≤ 512) (hLI : LI c τ σ) (hk : ∀ τ' σ', LI (c + 1) τ' σ' → V x τ' (1000 * (c + 1)) 28 (LK (i + 4)) []) : V x τ (1000 * c) 1538 (LK i) [] := by
  obtain ⟨hcw, hmw, hsi⟩ := hLI
  obtain ⟨n, hn, hV, hps, hsn, hZ, hb, hT, hln⟩ := hsi.get (by omega)
  obtain ⟨hB, hcE, hNc, hF, hN, hSl⟩ := id hc0
  have hg := hB.1
  obtain ⟨-, -, -, e3, -⟩ := id hB
  refine s_aload_n (f := 1) (i := 1) hg (by rw [e3]; exact (by decide +kernel : decode cL_law 1538 = .ok (.aload_n 1, 1))) rfl rfl rfl ?_
  refine V_scr hB hF hN (k := 1) (kz := 1) (pc := 1539) ⟨by decide +kernel, by decide +kernel, by decide +kernel, by decide +kernel, by decide +kernel⟩ (by decide) rfl rfl (by omega) ?_
  refine V_scr hB hF hN (k := 2) (kz := 2) (pc := 1545) ⟨by decide +kernel, by decide +kernel, by decide +kernel, by decide +kernel, by decide +kernel⟩ (by decide) rfl rfl (by omega) ?_
  refine V_scr hB hF hN (k := 3) (kz := 3) (pc := 1551) ⟨by decide +kernel, by decide +kernel, by decide +kernel, by decide +kernel, by decide +kernel⟩ (by decide) rfl rfl (by omega) ?_
  refine s_aload_n (f := 3) (i := 3) hg (by rw [e3]; exact (by decide +kernel : decode cL_law 1557 = .ok (.aload_n 3, 1))) rfl rfl rfl ?_
  refine law_A hc0 (as := [aI (f (i + 1)), aI (f (i + 2)), aI (f (i + 3))]) (q1 := 1558) (q2 := 1582) (I := 236) (J := 238) (o := (968)) (zL := iL_bid) (hs := hL_bid) (zM := iX11_bid) (r := opS σ (sBid σ.1 (findO σ.1 (f (i + 1)) true) (f (i + 2)) (f (i + 3)))) (σ := σ) (w_bid hcE hNc _ _ _ (x_bid hcE.1 hcw hV (by omega) _ _ _) (opS_le (sBid_le _ _ _))) (fun τ1 c0 h => q_bid hcE.1 h hV (by omega) _ _ _) (Nat.lt_of_le_of_lt (opS_le (sBid_le _ _ _)) (by decide))
    (by decide +kernel) (by decide +kernel) (by decide +kernel) (by decide +kernel) (by decide +kernel) ⟨by decide +kernel, by decide +kernel, by decide +kernel, by decide +kernel⟩ csxL_236 cvL_238 npL_bid npX11_bid ⟨by decide, by decide⟩ ⟨by decide, by decide⟩ rfl (by decide) hcc rfl hcw hmw (SI_bid hsi _ _ _) (fun τ1 n1 al1 r1 h0 h5 kk => ?_) hk
  refine V_scr hB hF hN (k := 1) (kz := 1) (pc := 1564) ⟨by decide +kernel, by decide +kernel, by decide +kernel, by decide +kernel, by decide +kernel⟩ (by decide) h0 h5 (by omega) ?_
  refine V_scr hB hF hN (k := 2) (kz := 2) (pc := 1570) ⟨by decide +kernel, by decide +kernel, by decide +kernel, by decide +kernel, by decide +kernel⟩ (by decide) h0 h5 (by omega) ?_
  refine V_scr hB hF hN (k := 3) (kz := 3) (pc := 1576) ⟨by decide +kernel, by decide +kernel, by decide +kernel, by decide +kernel, by decide +kernel⟩ (by decide) h0 h5 (by omega) ?_
  exact kk
theorem g_sell (hc0 : LCx x l G Φ f N) (hi : i + 4 ≤ N) (hcc : c ≤ 512) (hLI : LI c τ σ) (hk : ∀ τ' σ', LI (c + 1) τ' σ' → V x τ' (1000 * (c + 1)) 28 (LK (i + 4)) []) : V x τ (1000 * c) 1618 (LK i) [] := by
  obtain ⟨hcw, hmw, hsi⟩ := hLI
  obtain ⟨n, hn, hV, hps, hsn, hZ, hb, hT, hln⟩ := hsi.get (by omega)
  obtain ⟨hB, hcE, hNc, hF, hN, hSl⟩ := id hc0
  have hg := hB.1
  obtain ⟨-, -, -, e3, -⟩ := id hB
  refine s_aload_n (f := 1) (i := 1) hg (by rw [e3]; exact (by decide +kernel : decode cL_law 1618 = .ok (.aload_n 1, 1))) rfl rfl rfl ?_
  refine V_scr hB hF hN (k := 1) (kz := 1) (pc := 1619) ⟨by decide +kernel, by decide +kernel, by decide +kernel, by decide +kernel, by decide +kernel⟩ (by decide) rfl rfl (by omega) ?_
  refine s_aload_n (f := 3) (i := 3) hg (by rw [e3]; exact (by decide +kernel : decode cL_law 1625 = .ok (.aload_n 3, 1))) rfl rfl rfl ?_
  refine law_A hc0 (as := [aI (f (i + 1))]) (q1 := 1626) (q2 := 1638) (I := 239) (J := 241) (o := (912)) (zL := iL_sell) (hs := hL_sell) (zM := iX11_sell) (r := opS σ (sSel σ.1 (findO σ.1 (f (i + 1)) true))) (σ := σ) (w_sell hcE hNc _ (x_sell hcE.1 hcw hV (by omega) _) (opS_le (sSel_le _))) (fun τ1 c0 h => q_sell hcE.1 h hV (by omega) _) (Nat.lt_of_le_of_lt (opS_le (sSel_le _)) (by decide))
    (by decide +kernel) (by decide +kernel) (by decide +kernel) (by decide +kernel) (by decide +kernel) ⟨by decide +kernel, by decide +kernel, by decide +kernel, by decide +kernel⟩ csxL_239 cvL_241 npL_sell npX11_sell ⟨by decide, by decide⟩ ⟨by decide, by decide⟩ rfl (by decide) hcc rfl hcw hmw (SI_sell hsi _) (fun τ1 n1 al1 r1 h0 h5 kk => ?_) hk
  refine V_scr hB hF hN (k := 1) (kz := 1) (pc := 1632) ⟨by decide +kernel, by decide +kernel, by decide +kernel, by decide +kernel, by decide +kernel⟩ (by decide) h0 h5 (by omega) ?_
  exact kk
theorem g_sellEvening (hc0 : LCx x l G Φ f N) (hi : i + 4 ≤ N) (hcc : c ≤ 512) (hLI : LI c τ σ) (hk : ∀ τ' σ', LI (c + 1) τ' σ' → V x τ' (1000 * (c + 1)) 28 (LK (i + 4)) []) : V x τ (1000 * c) 1674 (LK i) [] := by
  obtain ⟨hcw, hmw, hsi⟩ := hLI
  obtain ⟨n, hn, hV, hps, hsn, hZ, hb, hT, hln⟩ := hsi.get (by omega)
  obtain ⟨hB, hcE, hNc, hF, hN, hSl⟩ := id hc0
  have hg := hB.1
  obtain ⟨-, -, -, e3, -⟩ := id hB
  refine s_aload_n (f := 1) (i := 1) hg (by rw [e3]; exact (by decide +kernel : decode cL_law 1674 = .ok (.aload_n 1, 1))) rfl rfl rfl ?_
  refine s_aload_n (f := 3) (i := 3) hg (by rw [e3]; exact (by decide +kernel : decode cL_law 1675 = .ok (.aload_n 3, 1))) rfl rfl rfl ?_
  refine law_A hc0 (as := []) (q1 := 1676) (q2 := 1682) (I := 242) (J := 244) (o := (868)) (zL := iL_sellEvening) (hs := hL_sellEvening) (zM := iX11_sellEvening) (r := opS σ (sEve σ.1)) (σ := σ) (w_sellEvening hcE hNc  (x_sellEvening hcE.1 hcw hV (by omega) ) (opS_le sEve_le)) (fun τ1 c0 h => q_sellEvening hcE.1 h hV (by omega) ) (Nat.lt_of_le_of_lt (opS_le sEve_le) (by decide))
    (by decide +kernel) (by decide +kernel) (by decide +kernel) (by decide +kernel) (by decide +kernel) ⟨by decide +kernel, by decide +kernel, by decide +kernel, by decide +kernel⟩ csxL_242 cvL_244 npL_sellEvening npX11_sellEvening ⟨by decide, by decide⟩ ⟨by decide, by decide⟩ rfl (by decide) hcc rfl hcw hmw (SI_sellEvening hsi (by omega) ) (fun τ1 n1 al1 r1 h0 h5 kk => ?_) hk
  exact kk
theorem g_lotCount (hc0 : LCx x l G Φ f N) (hi : i + 4 ≤ N) (hcc : c ≤ 512) (hLI : LI c τ σ) (hk : ∀ τ' σ', LI (c + 1) τ' σ' → V x τ' (1000 * (c + 1)) 28 (LK (i + 4)) []) : V x τ (1000 * c) 1718 (LK i) [] := by
  obtain ⟨hcw, hmw, hsi⟩ := hLI
  obtain ⟨n, hn, hV, hps, hsn, hZ, hb, hT, hln⟩ := hsi.get (by omega)
  obtain ⟨hB, hcE, hNc, hF, hN, hSl⟩ := id hc0
  have hg := hB.1
  obtain ⟨-, -, -, e3, -⟩ := id hB
  exact law_B hc0 (p := 1718) (I := 245) (J := 248) (o := 857) (zX := iX10_lotCount) (zM := iX11_lotCount) (σ := σ) (r := (0, cntU σ.1 true (σ.1 4), σ)) (y_lotCount hcE.1 hcw hV (by omega)) (fun τ1 c0 h => q_lotCount hcE.1 h hV (by omega)) rfl
    (by decide +kernel) (by decide +kernel) (by decide +kernel) (by decide +kernel) (by decide +kernel) cvL_245 cvL_248 npX10_lotCount npX11_lotCount ⟨by decide, by decide⟩ ⟨by decide, by decide⟩ rfl (by decide) hcc rfl hmw (hsi.mono (by omega)) hk
theorem g_lotAt (hc0 : LCx x l G Φ f N) (hi : i + 4 ≤ N) (hcc : c ≤ 512) (hLI : LI c τ σ) (hk : ∀ τ' σ', LI (c + 1) τ' σ' → V x τ' (1000 * (c + 1)) 28 (LK (i + 4)) []) : V x τ (1000 * c) 1731 (LK i) [] := by
  obtain ⟨hcw, hmw, hsi⟩ := hLI
  obtain ⟨n, hn, hV, hps, hsn, hZ, hb, hT, hln⟩ := hsi.get (by omega)
  obtain ⟨hB, hcE, hNc, hF, hN, hSl⟩ := id hc0
  have hg := hB.1
  obtain ⟨-, -, -, e3, -⟩ := id hB
  refine s_aload_n (f := 1) (i := 1) hg (by rw [e3]; exact (by decide +kernel : decode cL_law 1731 = .ok (.aload_n 1, 1))) rfl rfl rfl ?_
  refine V_scr hB hF hN (k := 1) (kz := 1) (pc := 1732) ⟨by decide +kernel, by decide +kernel, by decide +kernel, by decide +kernel, by decide +kernel⟩ (by decide) rfl rfl (by omega) ?_
  refine s_aload_n (f := 3) (i := 3) hg (by rw [e3]; exact (by decide +kernel : decode cL_law 1738 = .ok (.aload_n 3, 1))) rfl rfl rfl ?_
  refine law_A hc0 (as := [aI (f (i + 1))]) (q1 := 1739) (q2 := 1751) (I := 249) (J := 251) (o := (799)) (zL := iL_lotAt) (hs := hL_lotAt) (zM := iX11_lotAt) (r := ((sPlc σ.1 (f (i + 1)) true).1, (sPlc σ.1 (f (i + 1)) true).2, σ)) (σ := σ) (w_lotAt hcE hNc _ (y_lotAt hcE.1 hcw hV (by omega) _) (sPlc_le _ _)) (fun τ1 c0 h => q_lotAt hcE.1 h hV (by omega) _) (Nat.lt_of_le_of_lt (sPlc_le _ _) (by decide))
    (by decide +kernel) (by decide +kernel) (by decide +kernel) (by decide +kernel) (by decide +kernel) ⟨by decide +kernel, by decide +kernel, by decide +kernel, by decide +kernel⟩ csxL_249 cvL_251 npL_lotAt npX11_lotAt ⟨by decide, by decide⟩ ⟨by decide, by decide⟩ rfl (by decide) hcc rfl hcw hmw (hsi.mono (by omega)) (fun τ1 n1 al1 r1 h0 h5 kk => ?_) hk
  refine V_scr hB hF hN (k := 1) (kz := 1) (pc := 1745) ⟨by decide +kernel, by decide +kernel, by decide +kernel, by decide +kernel, by decide +kernel⟩ (by decide) h0 h5 (by omega) ?_
  exact kk
theorem g_bidOf (hc0 : LCx x l G Φ f N) (hi : i + 4 ≤ N) (hcc : c ≤ 512) (hLI : LI c τ σ) (hk : ∀ τ' σ', LI (c + 1) τ' σ' → V x τ' (1000 * (c + 1)) 28 (LK (i + 4)) []) : V x τ (1000 * c) 1787 (LK i) [] := by
  obtain ⟨hcw, hmw, hsi⟩ := hLI
  obtain ⟨n, hn, hV, hps, hsn, hZ, hb, hT, hln⟩ := hsi.get (by omega)
  obtain ⟨hB, hcE, hNc, hF, hN, hSl⟩ := id hc0
  have hg := hB.1
  obtain ⟨-, -, -, e3, -⟩ := id hB
  refine s_aload_n (f := 1) (i := 1) hg (by rw [e3]; exact (by decide +kernel : decode cL_law 1787 = .ok (.aload_n 1, 1))) rfl rfl rfl ?_
  refine V_scr hB hF hN (k := 1) (kz := 1) (pc := 1788) ⟨by decide +kernel, by decide +kernel, by decide +kernel, by decide +kernel, by decide +kernel⟩ (by decide) rfl rfl (by omega) ?_
  refine V_scr hB hF hN (k := 2) (kz := 2) (pc := 1794) ⟨by decide +kernel, by decide +kernel, by decide +kernel, by decide +kernel, by decide +kernel⟩ (by decide) rfl rfl (by omega) ?_
  refine s_aload_n (f := 3) (i := 3) hg (by rw [e3]; exact (by decide +kernel : decode cL_law 1800 = .ok (.aload_n 3, 1))) rfl rfl rfl ?_
  refine law_A hc0 (as := [aI (f (i + 1)), aI (f (i + 2))]) (q1 := 1801) (q2 := 1819) (I := 252) (J := 254) (o := (731)) (zL := iL_bidOf) (hs := hL_bidOf) (zM := iX11_bidOf) (r := ((sBof σ.1 (findO σ.1 (f (i + 1)) true) (f (i + 2))).1, (sBof σ.1 (findO σ.1 (f (i + 1)) true) (f (i + 2))).2, σ)) (σ := σ) (w_bidOf hcE hNc _ _ (y_bidOf hcE.1 hcw hV (by omega) _ _) (sBof_le _ _)) (fun τ1 c0 h => q_bidOf hcE.1 h hV (by omega) _ _) (Nat.lt_of_le_of_lt (sBof_le _ _) (by decide))
    (by decide +kernel) (by decide +kernel) (by decide +kernel) (by decide +kernel) (by decide +kernel) ⟨by decide +kernel, by decide +kernel, by decide +kernel, by decide +kernel⟩ csxL_252 cvL_254 npL_bidOf npX11_bidOf ⟨by decide, by decide⟩ ⟨by decide, by decide⟩ rfl (by decide) hcc rfl hcw hmw (hsi.mono (by omega)) (fun τ1 n1 al1 r1 h0 h5 kk => ?_) hk
  refine V_scr hB hF hN (k := 1) (kz := 1) (pc := 1807) ⟨by decide +kernel, by decide +kernel, by decide +kernel, by decide +kernel, by decide +kernel⟩ (by decide) h0 h5 (by omega) ?_
  refine V_scr hB hF hN (k := 2) (kz := 2) (pc := 1813) ⟨by decide +kernel, by decide +kernel, by decide +kernel, by decide +kernel, by decide +kernel⟩ (by decide) h0 h5 (by omega) ?_
  exact kk
theorem g_buyerOf (hc0 : LCx x l G Φ f N) (hi : i + 4 ≤ N) (hcc : c ≤ 512) (hLI : LI c τ σ) (hk : ∀ τ' σ', LI (c + 1) τ' σ' → V x τ' (1000 * (c + 1)) 28 (LK (i + 4)) []) : V x τ (1000 * c) 1855 (LK i) [] := by
  obtain ⟨hcw, hmw, hsi⟩ := hLI
  obtain ⟨n, hn, hV, hps, hsn, hZ, hb, hT, hln⟩ := hsi.get (by omega)
  obtain ⟨hB, hcE, hNc, hF, hN, hSl⟩ := id hc0
  have hg := hB.1
  obtain ⟨-, -, -, e3, -⟩ := id hB
  refine s_aload_n (f := 1) (i := 1) hg (by rw [e3]; exact (by decide +kernel : decode cL_law 1855 = .ok (.aload_n 1, 1))) rfl rfl rfl ?_
  refine V_scr hB hF hN (k := 1) (kz := 1) (pc := 1856) ⟨by decide +kernel, by decide +kernel, by decide +kernel, by decide +kernel, by decide +kernel⟩ (by decide) rfl rfl (by omega) ?_
  refine s_aload_n (f := 3) (i := 3) hg (by rw [e3]; exact (by decide +kernel : decode cL_law 1862 = .ok (.aload_n 3, 1))) rfl rfl rfl ?_
  refine law_A hc0 (as := [aI (f (i + 1))]) (q1 := 1863) (q2 := 1875) (I := 255) (J := 257) (o := (675)) (zL := iL_buyerOf) (hs := hL_buyerOf) (zM := iX11_buyerOf) (r := ((sByr σ.1 (findO σ.1 (f (i + 1)) true)).1, (sByr σ.1 (findO σ.1 (f (i + 1)) true)).2, σ)) (σ := σ) (w_buyerOf hcE hNc _ (y_buyerOf hcE.1 hcw hV (by omega) _) (sByr_le _)) (fun τ1 c0 h => q_buyerOf hcE.1 h hV (by omega) _) (Nat.lt_of_le_of_lt (sByr_le _) (by decide))
    (by decide +kernel) (by decide +kernel) (by decide +kernel) (by decide +kernel) (by decide +kernel) ⟨by decide +kernel, by decide +kernel, by decide +kernel, by decide +kernel⟩ csxL_255 cvL_257 npL_buyerOf npX11_buyerOf ⟨by decide, by decide⟩ ⟨by decide, by decide⟩ rfl (by decide) hcc rfl hcw hmw (hsi.mono (by omega)) (fun τ1 n1 al1 r1 h0 h5 kk => ?_) hk
  refine V_scr hB hF hN (k := 1) (kz := 1) (pc := 1869) ⟨by decide +kernel, by decide +kernel, by decide +kernel, by decide +kernel, by decide +kernel⟩ (by decide) h0 h5 (by omega) ?_
  exact kk
theorem g_priceOf (hc0 : LCx x l G Φ f N) (hi : i + 4 ≤ N) (hcc : c ≤ 512) (hLI : LI c τ σ) (hk : ∀ τ' σ', LI (c + 1) τ' σ' → V x τ' (1000 * (c + 1)) 28 (LK (i + 4)) []) : V x τ (1000 * c) 1911 (LK i) [] := by
  obtain ⟨hcw, hmw, hsi⟩ := hLI
  obtain ⟨n, hn, hV, hps, hsn, hZ, hb, hT, hln⟩ := hsi.get (by omega)
  obtain ⟨hB, hcE, hNc, hF, hN, hSl⟩ := id hc0
  have hg := hB.1
  obtain ⟨-, -, -, e3, -⟩ := id hB
  refine s_aload_n (f := 1) (i := 1) hg (by rw [e3]; exact (by decide +kernel : decode cL_law 1911 = .ok (.aload_n 1, 1))) rfl rfl rfl ?_
  refine V_scr hB hF hN (k := 1) (kz := 1) (pc := 1912) ⟨by decide +kernel, by decide +kernel, by decide +kernel, by decide +kernel, by decide +kernel⟩ (by decide) rfl rfl (by omega) ?_
  refine s_aload_n (f := 3) (i := 3) hg (by rw [e3]; exact (by decide +kernel : decode cL_law 1918 = .ok (.aload_n 3, 1))) rfl rfl rfl ?_
  refine law_A hc0 (as := [aI (f (i + 1))]) (q1 := 1919) (q2 := 1931) (I := 258) (J := 260) (o := (619)) (zL := iL_priceOf) (hs := hL_priceOf) (zM := iX11_priceOf) (r := ((sPrc σ.1 (findO σ.1 (f (i + 1)) true)).1, (sPrc σ.1 (findO σ.1 (f (i + 1)) true)).2, σ)) (σ := σ) (w_priceOf hcE hNc _ (y_priceOf hcE.1 hcw hV (by omega) _) (sPrc_le _)) (fun τ1 c0 h => q_priceOf hcE.1 h hV (by omega) _) (Nat.lt_of_le_of_lt (sPrc_le _) (by decide))
    (by decide +kernel) (by decide +kernel) (by decide +kernel) (by decide +kernel) (by decide +kernel) ⟨by decide +kernel, by decide +kernel, by decide +kernel, by decide +kernel⟩ csxL_258 cvL_260 npL_priceOf npX11_priceOf ⟨by decide, by decide⟩ ⟨by decide, by decide⟩ rfl (by decide) hcc rfl hcw hmw (hsi.mono (by omega)) (fun τ1 n1 al1 r1 h0 h5 kk => ?_) hk
  refine V_scr hB hF hN (k := 1) (kz := 1) (pc := 1925) ⟨by decide +kernel, by decide +kernel, by decide +kernel, by decide +kernel, by decide +kernel⟩ (by decide) h0 h5 (by omega) ?_
  exact kk
theorem g_bestEvening (hc0 : LCx x l G Φ f N) (hi : i + 4 ≤ N) (hcc : c ≤ 512) (hLI : LI c τ σ) (hk : ∀ τ' σ', LI (c + 1) τ' σ' → V x τ' (1000 * (c + 1)) 28 (LK (i + 4)) []) : V x τ (1000 * c) 1967 (LK i) [] := by
  obtain ⟨hcw, hmw, hsi⟩ := hLI
  obtain ⟨n, hn, hV, hps, hsn, hZ, hb, hT, hln⟩ := hsi.get (by omega)
  obtain ⟨hB, hcE, hNc, hF, hN, hSl⟩ := id hc0
  have hg := hB.1
  obtain ⟨-, -, -, e3, -⟩ := id hB
  exact law_B hc0 (p := 1967) (I := 261) (J := 264) (o := 608) (zX := iX10_bestEvening) (zM := iX11_bestEvening) (σ := σ) (r := (0, bR σ.1 (σ.1 4) 0, σ)) (y_bestEvening hcE.1 hcw hV (by omega)) (fun τ1 c0 h => q_bestEvening hcE.1 h hV (by omega)) rfl
    (by decide +kernel) (by decide +kernel) (by decide +kernel) (by decide +kernel) (by decide +kernel) cvL_261 cvL_264 npX10_bestEvening npX11_bestEvening ⟨by decide, by decide⟩ ⟨by decide, by decide⟩ rfl (by decide) hcc rfl hmw (hsi.mono (by omega)) hk
theorem g_bestEveningByTrying (hc0 : LCx x l G Φ f N) (hi : i + 4 ≤ N) (hcc : c ≤ 512) (hLI : LI c τ σ) (hk : ∀ τ' σ', LI (c + 1) τ' σ' → V x τ' (1000 * (c + 1)) 28 (LK (i + 4)) []) : V x τ (1000 * c) 1980 (LK i) [] := by
  obtain ⟨hcw, hmw, hsi⟩ := hLI
  obtain ⟨n, hn, hV, hps, hsn, hZ, hb, hT, hln⟩ := hsi.get (by omega)
  obtain ⟨hB, hcE, hNc, hF, hN, hSl⟩ := id hc0
  have hg := hB.1
  obtain ⟨-, -, -, e3, -⟩ := id hB
  exact law_B hc0 (p := 1980) (I := 265) (J := 268) (o := 595) (zX := iX10_bestEveningByTrying) (zM := iX11_bestEveningByTrying) (σ := σ) (r := (0, bR σ.1 (σ.1 4) 0, σ)) (y_bestEveningByTrying hcE.1 hcw hV (by omega)) (fun τ1 c0 h => q_bestEveningByTrying hcE.1 h hV (by omega)) rfl
    (by decide +kernel) (by decide +kernel) (by decide +kernel) (by decide +kernel) (by decide +kernel) cvL_265 cvL_268 npX10_bestEveningByTrying npX11_bestEveningByTrying ⟨by decide, by decide⟩ ⟨by decide, by decide⟩ rfl (by decide) hcc rfl hmw (hsi.mono (by omega)) hk
theorem g_eveningBuyerOf (hc0 : LCx x l G Φ f N) (hi : i + 4 ≤ N) (hcc : c ≤ 512) (hLI : LI c τ σ) (hk : ∀ τ' σ', LI (c + 1) τ' σ' → V x τ' (1000 * (c + 1)) 28 (LK (i + 4)) []) : V x τ (1000 * c) 1993 (LK i) [] := by
  obtain ⟨hcw, hmw, hsi⟩ := hLI
  obtain ⟨n, hn, hV, hps, hsn, hZ, hb, hT, hln⟩ := hsi.get (by omega)
  obtain ⟨hB, hcE, hNc, hF, hN, hSl⟩ := id hc0
  have hg := hB.1
  obtain ⟨-, -, -, e3, -⟩ := id hB
  refine s_aload_n (f := 1) (i := 1) hg (by rw [e3]; exact (by decide +kernel : decode cL_law 1993 = .ok (.aload_n 1, 1))) rfl rfl rfl ?_
  refine V_scr hB hF hN (k := 1) (kz := 1) (pc := 1994) ⟨by decide +kernel, by decide +kernel, by decide +kernel, by decide +kernel, by decide +kernel⟩ (by decide) rfl rfl (by omega) ?_
  refine s_aload_n (f := 3) (i := 3) hg (by rw [e3]; exact (by decide +kernel : decode cL_law 2000 = .ok (.aload_n 3, 1))) rfl rfl rfl ?_
  refine law_A hc0 (as := [aI (f (i + 1))]) (q1 := 2001) (q2 := 2013) (I := 269) (J := 271) (o := (537)) (zL := iL_eveningBuyerOf) (hs := hL_eveningBuyerOf) (zM := iX11_eveningBuyerOf) (r := ((sEvB σ.1 (findO σ.1 (f (i + 1)) true)).1, (sEvB σ.1 (findO σ.1 (f (i + 1)) true)).2, σ)) (σ := σ) (w_eveningBuyerOf hcE hNc _ (y_eveningBuyerOf hcE.1 hcw hV (by omega) _) (sEvB_le _)) (fun τ1 c0 h => q_eveningBuyerOf hcE.1 h hV (by omega) _) (Nat.lt_of_le_of_lt (sEvB_le _) (by decide))
    (by decide +kernel) (by decide +kernel) (by decide +kernel) (by decide +kernel) (by decide +kernel) ⟨by decide +kernel, by decide +kernel, by decide +kernel, by decide +kernel⟩ csxL_269 cvL_271 npL_eveningBuyerOf npX11_eveningBuyerOf ⟨by decide, by decide⟩ ⟨by decide, by decide⟩ rfl (by decide) hcc rfl hcw hmw (hsi.mono (by omega)) (fun τ1 n1 al1 r1 h0 h5 kk => ?_) hk
  refine V_scr hB hF hN (k := 1) (kz := 1) (pc := 2007) ⟨by decide +kernel, by decide +kernel, by decide +kernel, by decide +kernel, by decide +kernel⟩ (by decide) h0 h5 (by omega) ?_
  exact kk
theorem g_redeemedMinutes (hc0 : LCx x l G Φ f N) (hi : i + 4 ≤ N) (hcc : c ≤ 512) (hLI : LI c τ σ) (hk : ∀ τ' σ', LI (c + 1) τ' σ' → V x τ' (1000 * (c + 1)) 28 (LK (i + 4)) []) : V x τ (1000 * c) 2049 (LK i) [] := by
  obtain ⟨hcw, hmw, hsi⟩ := hLI
  obtain ⟨n, hn, hV, hps, hsn, hZ, hb, hT, hln⟩ := hsi.get (by omega)
  obtain ⟨hB, hcE, hNc, hF, hN, hSl⟩ := id hc0
  have hg := hB.1
  obtain ⟨-, -, -, e3, -⟩ := id hB
  exact law_B hc0 (p := 2049) (I := 272) (J := 275) (o := 526) (zX := iX10_redeemedMinutes) (zM := iX11_redeemedMinutes) (σ := σ) (r := (0, σ.1 5, σ)) (y_redeemedMinutes hcE.1 hcw hV (by omega)) (fun τ1 c0 h => q_redeemedMinutes hcE.1 h) rfl
    (by decide +kernel) (by decide +kernel) (by decide +kernel) (by decide +kernel) (by decide +kernel) cvL_272 cvL_275 npX10_redeemedMinutes npX11_redeemedMinutes ⟨by decide, by decide⟩ ⟨by decide, by decide⟩ rfl (by decide) hcc rfl hmw (hsi.mono (by omega)) hk
theorem g_forfeitedMinutes (hc0 : LCx x l G Φ f N) (hi : i + 4 ≤ N) (hcc : c ≤ 512) (hLI : LI c τ σ) (hk : ∀ τ' σ', LI (c + 1) τ' σ' → V x τ' (1000 * (c + 1)) 28 (LK (i + 4)) []) : V x τ (1000 * c) 2062 (LK i) [] := by
  obtain ⟨hcw, hmw, hsi⟩ := hLI
  obtain ⟨n, hn, hV, hps, hsn, hZ, hb, hT, hln⟩ := hsi.get (by omega)
  obtain ⟨hB, hcE, hNc, hF, hN, hSl⟩ := id hc0
  have hg := hB.1
  obtain ⟨-, -, -, e3, -⟩ := id hB
  exact law_B hc0 (p := 2062) (I := 276) (J := 279) (o := 513) (zX := iX10_forfeitedMinutes) (zM := iX11_forfeitedMinutes) (σ := σ) (r := (0, σ.1 6, σ)) (y_forfeitedMinutes hcE.1 hcw hV (by omega)) (fun τ1 c0 h => q_forfeitedMinutes hcE.1 h) rfl
    (by decide +kernel) (by decide +kernel) (by decide +kernel) (by decide +kernel) (by decide +kernel) cvL_276 cvL_279 npX10_forfeitedMinutes npX11_forfeitedMinutes ⟨by decide, by decide⟩ ⟨by decide, by decide⟩ rfl (by decide) hcc rfl hmw (hsi.mono (by omega)) hk
theorem g_soldMinutes (hc0 : LCx x l G Φ f N) (hi : i + 4 ≤ N) (hcc : c ≤ 512) (hLI : LI c τ σ) (hk : ∀ τ' σ', LI (c + 1) τ' σ' → V x τ' (1000 * (c + 1)) 28 (LK (i + 4)) []) : V x τ (1000 * c) 2075 (LK i) [] := by
  obtain ⟨hcw, hmw, hsi⟩ := hLI
  obtain ⟨n, hn, hV, hps, hsn, hZ, hb, hT, hln⟩ := hsi.get (by omega)
  obtain ⟨hB, hcE, hNc, hF, hN, hSl⟩ := id hc0
  have hg := hB.1
  obtain ⟨-, -, -, e3, -⟩ := id hB
  exact law_B hc0 (p := 2075) (I := 280) (J := 283) (o := 500) (zX := iX10_soldMinutes) (zM := iX11_soldMinutes) (σ := σ) (r := (0, σ.1 7, σ)) (y_soldMinutes hcE.1 hcw hV (by omega)) (fun τ1 c0 h => q_soldMinutes hcE.1 h) rfl
    (by decide +kernel) (by decide +kernel) (by decide +kernel) (by decide +kernel) (by decide +kernel) cvL_280 cvL_283 npX10_soldMinutes npX11_soldMinutes ⟨by decide, by decide⟩ ⟨by decide, by decide⟩ rfl (by decide) hcc rfl hmw (hsi.mono (by omega)) hk
theorem g_isConsistent (hc0 : LCx x l G Φ f N) (hi : i + 4 ≤ N) (hcc : c ≤ 512) (hLI : LI c τ σ) (hk : ∀ τ' σ', LI (c + 1) τ' σ' → V x τ' (1000 * (c + 1)) 28 (LK (i + 4)) []) : V x τ (1000 * c) 2167 (LK i) [] := by
  obtain ⟨hcw, hmw, hsi⟩ := hLI
  obtain ⟨n, hn, hV, hps, hsn, hZ, hb, hT, hln⟩ := hsi.get (by omega)
  obtain ⟨hB, hcE, hNc, hF, hN, hSl⟩ := id hc0
  have hg := hB.1
  obtain ⟨-, -, -, e3, -⟩ := id hB
  exact law_B hc0 (p := 2167) (I := 293) (J := 297) (o := 408) (zX := iX10_isConsistent) (zM := iX11_isConsistent) (σ := σ) (r := ((sCon σ.1).1, (sCon σ.1).2, σ)) (y_isConsistent hcE.1 hcw hV (by omega)) (fun τ1 c0 h => q_isConsistent hcE.1 h hV (by omega)) rfl
    (by decide +kernel) (by decide +kernel) (by decide +kernel) (by decide +kernel) (by decide +kernel) cvL_293 cvL_297 npX10_isConsistent npX11_isConsistent ⟨by decide, by decide⟩ ⟨by decide, by decide⟩ rfl (by decide) hcc rfl hmw (hsi.mono (by omega)) hk
theorem g_writeSlip (hc0 : LCx x l G Φ f N) (hi : i + 4 ≤ N) (hcc : c ≤ 512) (hLI : LI c τ σ) (hk : ∀ τ' σ', LI (c + 1) τ' σ' → V x τ' (1000 * (c + 1)) 28 (LK (i + 4)) []) : V x τ (1000 * c) 2180 (LK i) [] := by
  obtain ⟨hcw, hmw, hsi⟩ := hLI
  obtain ⟨n, hn, hV, hps, hsn, hZ, hb, hT, hln⟩ := hsi.get (by omega)
  obtain ⟨hB, hcE, hNc, hF, hN, hSl⟩ := id hc0
  have hg := hB.1
  obtain ⟨-, -, -, e3, -⟩ := id hB
  refine s_aload_n (f := 1) (i := 1) hg (by rw [e3]; exact (by decide +kernel : decode cL_law 2180 = .ok (.aload_n 1, 1))) rfl rfl rfl ?_
  refine V_scr hB hF hN (k := 1) (kz := 1) (pc := 2181) ⟨by decide +kernel, by decide +kernel, by decide +kernel, by decide +kernel, by decide +kernel⟩ (by decide) rfl rfl (by omega) ?_
  refine s_aload_n (f := 3) (i := 3) hg (by rw [e3]; exact (by decide +kernel : decode cL_law 2187 = .ok (.aload_n 3, 1))) rfl rfl rfl ?_
  refine law_A hc0 (as := [aI (f (i + 1))]) (q1 := 2188) (q2 := 2200) (I := 298) (J := 300) (o := (350)) (zL := iL_writeSlip) (hs := hL_writeSlip) (zM := iX11_writeSlip) (r := sSlp σ (f (i + 1))) (σ := σ) (w_writeSlip hcE hNc _ (hSl.1 τ σ n _ hcw hV (by omega)) (sSlp_le _)) (fun τ1 c0 h => q_writeSlip hcE.1 h hV (by omega) _) (Nat.lt_of_le_of_lt (sSlp_le _) (by decide))
    (by decide +kernel) (by decide +kernel) (by decide +kernel) (by decide +kernel) (by decide +kernel) ⟨by decide +kernel, by decide +kernel, by decide +kernel, by decide +kernel⟩ csxL_298 cvL_300 npL_writeSlip npX11_writeSlip ⟨by decide, by decide⟩ ⟨by decide, by decide⟩ rfl (by decide) hcc rfl hcw hmw (hsi.slp _) (fun τ1 n1 al1 r1 h0 h5 kk => ?_) hk
  refine V_scr hB hF hN (k := 1) (kz := 1) (pc := 2194) ⟨by decide +kernel, by decide +kernel, by decide +kernel, by decide +kernel, by decide +kernel⟩ (by decide) h0 h5 (by omega) ?_
  exact kk
theorem g_slipAt (hc0 : LCx x l G Φ f N) (hi : i + 4 ≤ N) (hcc : c ≤ 512) (hLI : LI c τ σ) (hk : ∀ τ' σ', LI (c + 1) τ' σ' → V x τ' (1000 * (c + 1)) 28 (LK (i + 4)) []) : V x τ (1000 * c) 2236 (LK i) [] := by
  obtain ⟨hcw, hmw, hsi⟩ := hLI
  obtain ⟨n, hn, hV, hps, hsn, hZ, hb, hT, hln⟩ := hsi.get (by omega)
  obtain ⟨hB, hcE, hNc, hF, hN, hSl⟩ := id hc0
  have hg := hB.1
  obtain ⟨-, -, -, e3, -⟩ := id hB
  refine s_aload_n (f := 1) (i := 1) hg (by rw [e3]; exact (by decide +kernel : decode cL_law 2236 = .ok (.aload_n 1, 1))) rfl rfl rfl ?_
  refine V_scr hB hF hN (k := 1) (kz := 1) (pc := 2237) ⟨by decide +kernel, by decide +kernel, by decide +kernel, by decide +kernel, by decide +kernel⟩ (by decide) rfl rfl (by omega) ?_
  refine s_aload_n (f := 3) (i := 3) hg (by rw [e3]; exact (by decide +kernel : decode cL_law 2243 = .ok (.aload_n 3, 1))) rfl rfl rfl ?_
  refine law_A hc0 (as := [aI (f (i + 1))]) (q1 := 2244) (q2 := 2256) (I := 301) (J := 303) (o := (294)) (zL := iL_slipAt) (hs := hL_slipAt) (zM := iX11_slipAt) (r := ((sSl σ.2.2.2.2.2 (f (i + 1))).1, (sSl σ.2.2.2.2.2 (f (i + 1))).2, σ)) (σ := σ) (w_slipAt hcE hNc _ (hSl.2 τ σ _ hcw hln) (sSl_le _ _)) (fun τ1 c0 h => q_slipAt hcE.1 h (fun c hc9 => Nat.lt_trans (hln c hc9) (by decide)) _) (Nat.lt_of_le_of_lt (sSl_le _ _) (by decide))
    (by decide +kernel) (by decide +kernel) (by decide +kernel) (by decide +kernel) (by decide +kernel) ⟨by decide +kernel, by decide +kernel, by decide +kernel, by decide +kernel⟩ csxL_301 cvL_303 npL_slipAt npX11_slipAt ⟨by decide, by decide⟩ ⟨by decide, by decide⟩ rfl (by decide) hcc rfl hcw hmw (hsi.mono (by omega)) (fun τ1 n1 al1 r1 h0 h5 kk => ?_) hk
  refine V_scr hB hF hN (k := 1) (kz := 1) (pc := 2250) ⟨by decide +kernel, by decide +kernel, by decide +kernel, by decide +kernel, by decide +kernel⟩ (by decide) h0 h5 (by omega) ?_
  exact kk
theorem g_type (hc0 : LCx x l G Φ f N) (hi : i + 4 ≤ N) (hcc : c ≤ 512) (hLI : LI c τ σ) (hk : ∀ τ' σ', LI (c + 1) τ' σ' → V x τ' (1000 * (c + 1)) 28 (LK (i + 4)) []) : V x τ (1000 * c) 2292 (LK i) [] := by
  obtain ⟨hcw, hmw, hsi⟩ := hLI
  obtain ⟨n, hn, hV, hps, hsn, hZ, hb, hT, hln⟩ := hsi.get (by omega)
  obtain ⟨hB, hcE, hNc, hF, hN, hSl⟩ := id hc0
  have hg := hB.1
  obtain ⟨-, -, -, e3, -⟩ := id hB
  refine s_aload_n (f := 1) (i := 1) hg (by rw [e3]; exact (by decide +kernel : decode cL_law 2292 = .ok (.aload_n 1, 1))) rfl rfl rfl ?_
  refine V_scr hB hF hN (k := 1) (kz := 1) (pc := 2293) ⟨by decide +kernel, by decide +kernel, by decide +kernel, by decide +kernel, by decide +kernel⟩ (by decide) rfl rfl (by omega) ?_
  refine s_i2c hg (by rw [e3]; exact (by decide +kernel : decode cL_law 2299 = .ok (.i2c, 1))) ?_
  rw [i2c_nI]
  refine s_aload_n (f := 3) (i := 3) hg (by rw [e3]; exact (by decide +kernel : decode cL_law 2300 = .ok (.aload_n 3, 1))) rfl rfl rfl ?_
  refine law_A hc0 (as := [aI (nI ((f (i + 1)).toUInt32.toNat % 65536))]) (q1 := 2301) (q2 := 2314) (I := 304) (J := 307) (o := (236)) (zL := iL_type) (hs := hL_type) (zM := iX11_type) (r := sTyp σ ((f (i + 1)).toUInt32.toNat % 65536)) (σ := σ) (w_type hcE hNc _ (x_type hcE.1 hcw hT.1 (Nat.mod_lt _ (by decide))) (sTyp_le _ _)) (fun τ1 c0 h => q_type hcE.1 h (Nat.mod_lt _ (by decide))) (Nat.lt_of_le_of_lt (sTyp_le _ _) (by decide))
    (by decide +kernel) (by decide +kernel) (by decide +kernel) (by decide +kernel) (by decide +kernel) ⟨by decide +kernel, by decide +kernel, by decide +kernel, by decide +kernel⟩ csxL_304 cvL_307 npL_type npX11_type ⟨by decide, by decide⟩ ⟨by decide, by decide⟩ rfl (by decide) hcc rfl hcw hmw (hsi.typ _) (fun τ1 n1 al1 r1 h0 h5 kk => ?_) hk
  refine V_scr hB hF hN (k := 1) (kz := 1) (pc := 2307) ⟨by decide +kernel, by decide +kernel, by decide +kernel, by decide +kernel, by decide +kernel⟩ (by decide) h0 h5 (by omega) ?_
  refine s_i2c hg (by rw [e3]; exact (by decide +kernel : decode cL_law 2313 = .ok (.i2c, 1))) ?_
  rw [i2c_nI]
  exact kk
theorem g_execute (hc0 : LCx x l G Φ f N) (hi : i + 4 ≤ N) (hcc : c ≤ 512) (hLI : LI c τ σ) (hk : ∀ τ' σ', LI (c + 1) τ' σ' → V x τ' (1000 * (c + 1)) 28 (LK (i + 4)) []) : V x τ (1000 * c) 2350 (LK i) [] := by
  obtain ⟨hcw, hmw, hsi⟩ := hLI
  obtain ⟨n, hn, hV, hps, hsn, hZ, hb, hT, hln⟩ := hsi.get (by omega)
  obtain ⟨hB, hcE, hNc, hF, hN, hSl⟩ := id hc0
  have hg := hB.1
  obtain ⟨-, -, -, e3, -⟩ := id hB
  refine s_aload_n (f := 1) (i := 1) hg (by rw [e3]; exact (by decide +kernel : decode cL_law 2350 = .ok (.aload_n 1, 1))) rfl rfl rfl ?_
  refine s_aload_n (f := 3) (i := 3) hg (by rw [e3]; exact (by decide +kernel : decode cL_law 2351 = .ok (.aload_n 3, 1))) rfl rfl rfl ?_
  refine law_A hc0 (as := []) (q1 := 2352) (q2 := 2358) (I := 308) (J := 310) (o := (192)) (zL := iL_execute) (hs := hL_execute) (zM := iX11_execute) (r := sExe σ) (σ := σ) (w_execute hcE hNc  (x_execute hcE (sucH hcE hNc (ordH hcE)) hcw hV hn hT.1 hT.2) (sExe_le _)) (fun τ1 c0 h => q_execute hcE.1 h hV hn hT.2) (Nat.lt_of_le_of_lt (sExe_le _) (by decide))
    (by decide +kernel) (by decide +kernel) (by decide +kernel) (by decide +kernel) (by decide +kernel) ⟨by decide +kernel, by decide +kernel, by decide +kernel, by decide +kernel⟩ csxL_308 cvL_310 npL_execute npX11_execute ⟨by decide, by decide⟩ ⟨by decide, by decide⟩ rfl (by decide) hcc rfl hcw hmw (hsi.exe (by omega)) (fun τ1 n1 al1 r1 h0 h5 kk => ?_) hk
  exact kk
theorem g_errorPosition (hc0 : LCx x l G Φ f N) (hi : i + 4 ≤ N) (hcc : c ≤ 512) (hLI : LI c τ σ) (hk : ∀ τ' σ', LI (c + 1) τ' σ' → V x τ' (1000 * (c + 1)) 28 (LK (i + 4)) []) : V x τ (1000 * c) 2394 (LK i) [] := by
  obtain ⟨hcw, hmw, hsi⟩ := hLI
  obtain ⟨n, hn, hV, hps, hsn, hZ, hb, hT, hln⟩ := hsi.get (by omega)
  obtain ⟨hB, hcE, hNc, hF, hN, hSl⟩ := id hc0
  have hg := hB.1
  obtain ⟨-, -, -, e3, -⟩ := id hB
  refine s_aload_n (f := 1) (i := 1) hg (by rw [e3]; exact (by decide +kernel : decode cL_law 2394 = .ok (.aload_n 1, 1))) rfl rfl rfl ?_
  refine s_aload_n (f := 3) (i := 3) hg (by rw [e3]; exact (by decide +kernel : decode cL_law 2395 = .ok (.aload_n 3, 1))) rfl rfl rfl ?_
  refine law_A hc0 (as := []) (q1 := 2396) (q2 := 2402) (I := 311) (J := 313) (o := (148)) (zL := iL_errorPosition) (hs := hL_errorPosition) (zM := iX11_errorPosition) (r := ((sEp σ.2.2.2.1.1).1, (sEp σ.2.2.2.1.1).2, σ)) (σ := σ) (w_errorPosition hcE hNc  (x_errorPosition hcE.1 hcw hb.1) (sEp_le _)) (fun τ1 c0 h => q_errorPosition hcE.1 h hb.1) (Nat.lt_of_le_of_lt (sEp_le _) (by decide))
    (by decide +kernel) (by decide +kernel) (by decide +kernel) (by decide +kernel) (by decide +kernel) ⟨by decide +kernel, by decide +kernel, by decide +kernel, by decide +kernel⟩ csxL_311 cvL_313 npL_errorPosition npX11_errorPosition ⟨by decide, by decide⟩ ⟨by decide, by decide⟩ rfl (by decide) hcc rfl hcw hmw (hsi.mono (by omega)) (fun τ1 n1 al1 r1 h0 h5 kk => ?_) hk
  exact kk
theorem g_failedCommand (hc0 : LCx x l G Φ f N) (hi : i + 4 ≤ N) (hcc : c ≤ 512) (hLI : LI c τ σ) (hk : ∀ τ' σ', LI (c + 1) τ' σ' → V x τ' (1000 * (c + 1)) 28 (LK (i + 4)) []) : V x τ (1000 * c) 2438 (LK i) [] := by
  obtain ⟨hcw, hmw, hsi⟩ := hLI
  obtain ⟨n, hn, hV, hps, hsn, hZ, hb, hT, hln⟩ := hsi.get (by omega)
  obtain ⟨hB, hcE, hNc, hF, hN, hSl⟩ := id hc0
  have hg := hB.1
  obtain ⟨-, -, -, e3, -⟩ := id hB
  refine s_aload_n (f := 1) (i := 1) hg (by rw [e3]; exact (by decide +kernel : decode cL_law 2438 = .ok (.aload_n 1, 1))) rfl rfl rfl ?_
  refine s_aload_n (f := 3) (i := 3) hg (by rw [e3]; exact (by decide +kernel : decode cL_law 2439 = .ok (.aload_n 3, 1))) rfl rfl rfl ?_
  refine law_A hc0 (as := []) (q1 := 2440) (q2 := 2446) (I := 314) (J := 316) (o := (104)) (zL := iL_failedCommand) (hs := hL_failedCommand) (zM := iX11_failedCommand) (r := ((sEp σ.2.2.2.1.2).1, (sEp σ.2.2.2.1.2).2, σ)) (σ := σ) (w_failedCommand hcE hNc  (x_failedCommand hcE.1 hcw hb.2) (sEp_le _)) (fun τ1 c0 h => q_failedCommand hcE.1 h hb.2) (Nat.lt_of_le_of_lt (sEp_le _) (by decide))
    (by decide +kernel) (by decide +kernel) (by decide +kernel) (by decide +kernel) (by decide +kernel) ⟨by decide +kernel, by decide +kernel, by decide +kernel, by decide +kernel⟩ csxL_314 cvL_316 npL_failedCommand npX11_failedCommand ⟨by decide, by decide⟩ ⟨by decide, by decide⟩ rfl (by decide) hcc rfl hcw hmw (hsi.mono (by omega)) (fun τ1 n1 al1 r1 h0 h5 kk => ?_) hk
  exact kk
theorem g_undo (hc0 : LCx x l G Φ f N) (hi : i + 4 ≤ N) (hcc : c ≤ 512) (hLI : LI c τ σ) (hk : ∀ τ' σ', LI (c + 1) τ' σ' → V x τ' (1000 * (c + 1)) 28 (LK (i + 4)) []) : V x τ (1000 * c) 2482 (LK i) [] := by
  obtain ⟨hcw, hmw, hsi⟩ := hLI
  obtain ⟨n, hn, hV, hps, hsn, hZ, hb, hT, hln⟩ := hsi.get (by omega)
  obtain ⟨hB, hcE, hNc, hF, hN, hSl⟩ := id hc0
  have hg := hB.1
  obtain ⟨-, -, -, e3, -⟩ := id hB
  refine s_aload_n (f := 1) (i := 1) hg (by rw [e3]; exact (by decide +kernel : decode cL_law 2482 = .ok (.aload_n 1, 1))) rfl rfl rfl ?_
  refine s_aload_n (f := 3) (i := 3) hg (by rw [e3]; exact (by decide +kernel : decode cL_law 2483 = .ok (.aload_n 3, 1))) rfl rfl rfl ?_
  refine law_A hc0 (as := []) (q1 := 2484) (q2 := 2490) (I := 317) (J := 319) (o := (60)) (zL := iL_undo) (hs := hL_undo) (zM := iX11_undo) (r := sUnd σ) (σ := σ) (w_undo hcE hNc  (x_undo hcE.1 hcw hps) (sUnd_le _)) (fun τ1 c0 h => q_undo hcE.1 h hZ.1 hZ.2.1) (Nat.lt_of_le_of_lt (sUnd_le _) (by decide))
    (by decide +kernel) (by decide +kernel) (by decide +kernel) (by decide +kernel) (by decide +kernel) ⟨by decide +kernel, by decide +kernel, by decide +kernel, by decide +kernel⟩ csxL_317 cvL_319 npL_undo npX11_undo ⟨by decide, by decide⟩ ⟨by decide, by decide⟩ rfl (by decide) hcc rfl hcw hmw (hsi.und) (fun τ1 n1 al1 r1 h0 h5 kk => ?_) hk
  exact kk
theorem g_save (hc0 : LCx x l G Φ f N) (hi : i + 4 ≤ N) (hcc : c ≤ 512) (hLI : LI c τ σ) (hk : ∀ τ' σ', LI (c + 1) τ' σ' → V x τ' (1000 * (c + 1)) 28 (LK (i + 4)) []) : V x τ (1000 * c) 2526 (LK i) [] := by
  obtain ⟨hcw, hmw, hsi⟩ := hLI
  obtain ⟨n, hn, hV, hps, hsn, hZ, hb, hT, hln⟩ := hsi.get (by omega)
  obtain ⟨hB, hcE, hNc, hF, hN, hSl⟩ := id hc0
  have hg := hB.1
  obtain ⟨-, -, -, e3, -⟩ := id hB
  exact law_B hc0 (p := 2526) (I := 320) (J := 323) (o := 49) (zX := iX10_save) (zM := iX11_save) (σ := σ) (r := sSav σ) (x_save hcE.1 hcw hV) (fun τ1 c0 h => q_save hcE.1 h) rfl
    (by decide +kernel) (by decide +kernel) (by decide +kernel) (by decide +kernel) (by decide +kernel) cvL_320 cvL_323 npX10_save npX11_save ⟨by decide, by decide⟩ ⟨by decide, by decide⟩ rfl (by decide) hcc rfl hmw (hsi.sav) hk
theorem g_restore (hc0 : LCx x l G Φ f N) (hi : i + 4 ≤ N) (hcc : c ≤ 512) (hLI : LI c τ σ) (hk : ∀ τ' σ', LI (c + 1) τ' σ' → V x τ' (1000 * (c + 1)) 28 (LK (i + 4)) []) : V x τ (1000 * c) 2539 (LK i) [] := by
  obtain ⟨hcw, hmw, hsi⟩ := hLI
  obtain ⟨n, hn, hV, hps, hsn, hZ, hb, hT, hln⟩ := hsi.get (by omega)
  obtain ⟨hB, hcE, hNc, hF, hN, hSl⟩ := id hc0
  have hg := hB.1
  obtain ⟨-, -, -, e3, -⟩ := id hB
  refine s_aload_n (f := 1) (i := 1) hg (by rw [e3]; exact (by decide +kernel : decode cL_law 2539 = .ok (.aload_n 1, 1))) rfl rfl rfl ?_
  refine s_aload_n (f := 3) (i := 3) hg (by rw [e3]; exact (by decide +kernel : decode cL_law 2540 = .ok (.aload_n 3, 1))) rfl rfl rfl ?_
  refine law_A hc0 (as := []) (q1 := 2541) (q2 := 2547) (I := 324) (J := 326) (o := (3)) (zL := iL_restore) (hs := hL_restore) (zM := iX11_restore) (r := sRes σ) (σ := σ) (w_restore hcE hNc  (x_restore hcE.1 hcw hsn) (sRes_le _)) (fun τ1 c0 h => q_restore hcE.1 h hZ.1 hZ.2.2) (Nat.lt_of_le_of_lt (sRes_le _) (by decide))
    (by decide +kernel) (by decide +kernel) (by decide +kernel) (by decide +kernel) (by decide +kernel) ⟨by decide +kernel, by decide +kernel, by decide +kernel, by decide +kernel⟩ csxL_324 cvL_326 npL_restore npX11_restore ⟨by decide, by decide⟩ ⟨by decide, by decide⟩ rfl (by decide) hcc rfl hcw hmw (hsi.res) (fun τ1 n1 al1 r1 h0 h5 kk => ?_) hk
  exact kk
end LC
