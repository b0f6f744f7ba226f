/-! the law, call by call -/
set_option maxHeartbeats 4000000 in
set_option maxRecDepth 100000 in
theorem law_1 {L n i : Nat} {xs : Nat → Int32} (hL : L ≤ 3072) (hi : 6 * i ≤ L) (nxt : 6 * i + 6 ≤ L → ∀ {images : Int32} {n_people : Int32} {n_taped : Int32} {n_waiting : Int32} {n_z : Int32} {n_kind : Nat → Int32} {n_em : Nat → Int32} {n_called : Nat → Int32} {n_day : Int32} {n_near : Nat → Int32} {n_shows : Nat → Int32} {n_tsize : Int32} {n_tsteps : Nat → Int32} {n_tstack : Nat → Int32} {n_gsize : Int32} {n_gsteps : Nat → Int32} {n_gstack : Nat → Int32} {n_tape : Nat → Int32} {n_waits : Nat → Int32} {k_people : Int32} {k_taped : Int32} {k_waiting : Int32} {k_z : Int32} {k_kind : Nat → Int32} {k_em : Nat → Int32} {k_called : Nat → Int32} {k_day : Int32} {k_near : Nat → Int32} {k_shows : Nat → Int32} {k_tsize : Int32} {k_tsteps : Nat → Int32} {k_gsize : Int32} {k_gsteps : Nat → Int32} {k_tape : Nat → Int32} {k_waits : Nat → Int32} {t_day : Int32} {t_near : Nat → Int32} {t_shows : Nat → Int32} {g_day : Int32} {g_near : Nat → Int32} {g_shows : Nat → Int32} {r_length : Int32} {r_place : Int32} {r_names : Nat} {r_rsize : Int32} {r_bytes : Nat → Int32} {r_rsteps : Nat → Int32} {v_traced : Int32} {v_parted : Int32} {v_yk : Int32} {v_ykind : Int32} {v_ym : Int32} {v_trace : Nat → Int32} {shb : Nat → Int32} {shs : Nat → Int32} {shn : Nat → Nat → Int32} {errs : Nat → Int32} {m_images : Int32} {m_at_ : Int32} {m_open_ : Int32} {m_steps : Int32} {m_use_ : Int32} {m_traced : Int32} {m_speaks : Int32} {m_isParted : Int32} {m_s : Nat → Int32} {m_kept : Nat → Int32} {m_laid : Nat → Int32} {m_errors : Nat → Int32} {m_step : Nat → Int32} {m_named : Nat → Int32} {m_pile : Nat → Int32} {m_nearThen : Nat → Int32} {m_shownThen : Nat → Int32} {m_trace : Nat → Int32} {m_bits : Nat → Int32} {m_sizes : Nat → Int32} {m_number : Nat → Int32} {m_aside : Nat → Int32}, IV images n_people n_taped n_waiting n_z n_kind n_em n_called n_day n_near n_shows n_tsize n_tsteps n_gsize n_gsteps n_tape n_waits k_people k_taped k_waiting k_z k_kind k_em k_called k_day k_near k_shows k_tsize k_tsteps k_gsize k_gsteps k_tape k_waits v_traced v_trace shb shs shn errs m_images m_traced m_s m_kept m_errors m_trace m_bits m_sizes m_number → j_L_law_1347 L xs 99 9 (fun x3' images' n_people' n_taped' n_waiting' n_z' n_kind' n_em' n_called' n_day' n_near' n_shows' n_tsize' n_tsteps' n_tstack' n_gsize' n_gsteps' n_gstack' n_tape' n_waits' k_people' k_taped' k_waiting' k_z' k_kind' k_em' k_called' k_day' k_near' k_shows' k_tsize' k_tsteps' k_gsize' k_gsteps' k_tape' k_waits' t_day' t_near' t_shows' g_day' g_near' g_shows' r_length' r_place' r_names' r_rsize' r_bytes' r_rsteps' v_traced' v_parted' v_yk' v_ykind' v_ym' v_trace' shb' shs' shn' errs' m_images' m_at_' m_open_' m_steps' m_use_' m_traced' m_speaks' m_isParted' m_s' m_kept' m_laid' m_errors' m_step' m_named' m_pile' m_nearThen' m_shownThen' m_trace' m_bits' m_sizes' m_number' m_aside' => l_L_law_18 L xs 99 9 True n x3' images' n_people' n_taped' n_waiting' n_z' n_kind' n_em' n_called' n_day' n_near' n_shows' n_tsize' n_tsteps' n_tstack' n_gsize' n_gsteps' n_gstack' n_tape' n_waits' k_people' k_taped' k_waiting' k_z' k_kind' k_em' k_called' k_day' k_near' k_shows' k_tsize' k_tsteps' k_gsize' k_gsteps' k_tape' k_waits' t_day' t_near' t_shows' g_day' g_near' g_shows' r_length' r_place' r_names' r_rsize' r_bytes' r_rsteps' v_traced' v_parted' v_yk' v_ykind' v_ym' v_trace' shb' shs' shn' errs' m_images' m_at_' m_open_' m_steps' m_use_' m_traced' m_speaks' m_isParted' m_s' m_kept' m_laid' m_errors' m_step' m_named' m_pile' m_nearThen' m_shownThen' m_trace' m_bits' m_sizes' m_number' m_aside') True (nI (6 * i)) images n_people n_taped n_waiting n_z n_kind n_em n_called n_day n_near n_shows n_tsize n_tsteps n_tstack n_gsize n_gsteps n_gstack n_tape n_waits k_people k_taped k_waiting k_z k_kind k_em k_called k_day k_near k_shows k_tsize k_tsteps k_gsize k_gsteps k_tape k_waits t_day t_near t_shows g_day g_near g_shows r_length r_place r_names r_rsize r_bytes r_rsteps v_traced v_parted v_yk v_ykind v_ym v_trace shb shs shn errs m_images m_at_ m_open_ m_steps m_use_ m_traced m_speaks m_isParted m_s m_kept m_laid m_errors m_step m_named m_pile m_nearThen m_shownThen m_trace m_bits m_sizes m_number m_aside) {images : Int32} {n_people : Int32} {n_taped : Int32} {n_waiting : Int32} {n_z : Int32} {n_kind : Nat → Int32} {n_em : Nat → Int32} {n_called : Nat → Int32} {n_day : Int32} {n_near : Nat → Int32} {n_shows : Nat → Int32} {n_tsize : Int32} {n_tsteps : Nat → Int32} {n_tstack : Nat → Int32} {n_gsize : Int32} {n_gsteps : Nat → Int32} {n_gstack : Nat → Int32} {n_tape : Nat → Int32} {n_waits : Nat → Int32} {k_people : Int32} {k_taped : Int32} {k_waiting : Int32} {k_z : Int32} {k_kind : Nat → Int32} {k_em : Nat → Int32} {k_called : Nat → Int32} {k_day : Int32} {k_near : Nat → Int32} {k_shows : Nat → Int32} {k_tsize : Int32} {k_tsteps : Nat → Int32} {k_gsize : Int32} {k_gsteps : Nat → Int32} {k_tape : Nat → Int32} {k_waits : Nat → Int32} {t_day : Int32} {t_near : Nat → Int32} {t_shows : Nat → Int32} {g_day : Int32} {g_near : Nat → Int32} {g_shows : Nat → Int32} {r_length : Int32} {r_place : Int32} {r_names : Nat} {r_rsize : Int32} {r_bytes : Nat → Int32} {r_rsteps : Nat → Int32} {v_traced : Int32} {v_parted : Int32} {v_yk : Int32} {v_ykind : Int32} {v_ym : Int32} {v_trace : Nat → Int32} {shb : Nat → Int32} {shs : Nat → Int32} {shn : Nat → Nat → Int32} {errs : Nat → Int32} {m_images : Int32} {m_at_ : Int32} {m_open_ : Int32} {m_steps : Int32} {m_use_ : Int32} {m_traced : Int32} {m_speaks : Int32} {m_isParted : Int32} {m_s : Nat → Int32} {m_kept : Nat → Int32} {m_laid : Nat → Int32} {m_errors : Nat → Int32} {m_step : Nat → Int32} {m_named : Nat → Int32} {m_pile : Nat → Int32} {m_nearThen : Nat → Int32} {m_shownThen : Nat → Int32} {m_trace : Nat → Int32} {m_bits : Nat → Int32} {m_sizes : Nat → Int32} {m_number : Nat → Int32} {m_aside : Nat → Int32} (hIV : IV images n_people n_taped n_waiting n_z n_kind n_em n_called n_day n_near n_shows n_tsize n_tsteps n_gsize n_gsteps n_tape n_waits k_people k_taped k_waiting k_z k_kind k_em k_called k_day k_near k_shows k_tsize k_tsteps k_gsize k_gsteps k_tape k_waits v_traced v_trace shb shs shn errs m_images m_traced m_s m_kept m_errors m_trace m_bits m_sizes m_number) : l_L_law_18 L xs 99 9 True (n + 1) (nI (6 * i)) images n_people n_taped n_waiting n_z n_kind n_em n_called n_day n_near n_shows n_tsize n_tsteps n_tstack n_gsize n_gsteps n_gstack n_tape n_waits k_people k_taped k_waiting k_z k_kind k_em k_called k_day k_near k_shows k_tsize k_tsteps k_gsize k_gsteps k_tape k_waits t_day t_near t_shows g_day g_near g_shows r_length r_place r_names r_rsize r_bytes r_rsteps v_traced v_parted v_yk v_ykind v_ym v_trace shb shs shn errs m_images m_at_ m_open_ m_steps m_use_ m_traced m_speaks m_isParted m_s m_kept m_laid m_errors m_step m_named m_pile m_nearThen m_shownThen m_trace m_bits m_sizes m_number m_aside := by
  obtain ⟨⟨N, T, W, D, tn, gn, rfl, rfl, rfl, rfl, rfl, rfl, hA⟩, hI, hF, rfl, hE, ⟨Q, hQ, rfl, rfl, hV⟩, hS⟩ := hIV
  obtain ⟨⟨hN, hT, hW, hD⟩, hp, hB, hd, hz, hX, hG, hR, hw⟩ := id hA
  rw [l_L_law_18]
  refine ⟨fun _ => trivial, fun c => ?_⟩
  have hb6 : 6 * i + 6 ≤ L := by
    rw [fa_lt] at c
    have e1 : (Int32.ofNat L - 6).toInt = (L : Int) - 6 := pk_sub_toInt (a := L) (b := 6) (by omega) (by decide)
    rw [e1, nI_toInt (by omega)] at c
    omega
  have next := @nxt hb6
  have vv : ∀ k : Nat, k < 6 → vp_in (nI (6 * i) + nI k) L = True := fun k hk => by
    rw [nI_add]
    exact eq_true (vp_in_nI (by omega) (by omega))
  have v1 : vp_in (nI (6 * i) + 1) L = True := vv 1 (by decide)
  have v2 : vp_in (nI (6 * i) + 2) L = True := vv 2 (by decide)
  have v3 : vp_in (nI (6 * i) + 3) L = True := vv 3 (by decide)
  have v4 : vp_in (nI (6 * i) + 4) L = True := vv 4 (by decide)
  have v5 : vp_in (nI (6 * i) + 5) L = True := vv 5 (by decide)
  have I0 := mkI hA hI hF hE hQ hV hS
  refine ⟨vp_in_nI (by omega) (by omega), ?_⟩
  refine ⟨fun _ => ?_, fun _ => ?_⟩
  · -- person
    (try simp only [v1, v2, v3, v4, v5, true_and])
    exact p_person hN hp hB hE (fun r a0 a1 a2 a3 a4 a5 a6 a7 a8 g1 g2 g3 g4 g5 => ⟨fun _ => next (mkI (RA_FP hA g1 g2 g3 g5) hI hF g4 hQ hV hS), fun w => absurd rfl w⟩)
  refine ⟨fun _ => ?_, fun _ => ?_⟩
  · -- personIs
    (try simp only [v1, v2, v3, v4, v5, true_and])
    exact p_personIs hN hp hE (fun r a1 a2 g1 => ⟨fun _ => next (mkI hA hI hF g1 hQ hV hS), fun w => absurd rfl w⟩)
  refine ⟨fun _ => ?_, fun _ => ?_⟩
  · -- become
    (try simp only [v1, v2, v3, v4, v5, true_and])
    exact p_become hN hp hB hE (fun r a1 a2 a3 a4 a5 g1 g2 g3 g4 => ⟨fun _ => next (mkI (RA_FP hA hN g1 g2 g4) hI hF g3 hQ hV hS), fun w => absurd rfl w⟩)
  refine ⟨fun _ => ?_, fun _ => ?_⟩
  · -- as
    (try simp only [v1, v2, v3, v4, v5, true_and])
    exact p_as hN hp hB hE (fun r a1 a2 g1 => ⟨fun _ => next (mkI hA hI hF g1 hQ hV hS), fun w => absurd rfl w⟩)
  refine ⟨fun _ => ?_, fun _ => ?_⟩
  · -- shows
    (try simp only [v1, v2, v3, v4, v5, true_and])
    exact p_shows hN hp hE (fun r a1 a2 a3 a4 g1 g2 g3 => ⟨fun _ => next (mkI (RA_FP hA hN g1 hB g3) hI hF g2 hQ hV hS), fun w => absurd rfl w⟩)
  refine ⟨fun _ => ?_, fun _ => ?_⟩
  · -- seems
    (try simp only [v1, v2, v3, v4, v5, true_and])
    exact p_seems hN hp hB hE (fun r a1 a2 a3 a4 g1 g2 g3 g4 => ⟨fun _ => next (mkI (RA_FP hA hN g1 g2 g4) hI hF g3 hQ hV hS), fun w => absurd rfl w⟩)
  refine ⟨fun _ => ?_, fun _ => ?_⟩
  · -- taken
    (try simp only [v1, v2, v3, v4, v5, true_and])
    exact p_taken hN hp hd hX hE (fun r a1 a2 a3 a4 a5 g1 => ⟨fun _ => next (mkI hA hI hF g1 hQ hV hS), fun w => absurd rfl w⟩)
  refine ⟨fun _ => ?_, fun _ => ?_⟩
  · -- call
    (try simp only [v1, v2, v3, v4, v5, true_and])
    exact p_call hN hp hB hE (fun r a1 a2 a3 a4 a5 g1 g2 g3 g4 => ⟨fun _ => next (mkI (RA_FP hA hN g1 g2 g4) hI hF g3 hQ hV hS), fun w => absurd rfl w⟩)
  refine ⟨fun _ => ?_, fun _ => ?_⟩
  · -- feed
    (try simp only [v1, v2, v3, v4, v5, true_and])
    exact p_feed hT hR hE (fun r a1 a2 a3 a4 a5 g1 g2 g3 g4 => ⟨fun _ => next (mkI (RA_feed hA g1 g2 g3) hI hF g4 hQ hV hS), fun w => absurd rfl w⟩)
  refine ⟨fun _ => ?_, fun _ => ?_⟩
  · -- text
    (try simp only [v1, v2, v3, v4, v5, true_and])
    exact p_text hT hR hX hG hE (fun r a1 a2 a3 a4 a5 a6 a7 a8 a9 b1 b2 b3 b4 b5 b6 b7 b8 b9 c1 g1 g2 g3 g4 g5 g6 => ⟨fun _ => next (mkI (RA_text hA g1 g2 g3 g4 g5) hI hF g6 hQ hV hS), fun w => absurd rfl w⟩)
  refine ⟨fun _ => ?_, fun _ => ?_⟩
  · -- untell
    (try simp only [v1, v2, v3, v4, v5, true_and])
    exact p_untell hX hG hE (fun r a1 a2 a3 a4 a5 g1 g2 g3 g4 => ⟨fun _ => next (mkI (RA_unt hA g1 g2 g3) hI hF g4 hQ hV hS), fun w => absurd rfl w⟩)
  refine ⟨fun _ => ?_, fun _ => ?_⟩
  · -- law
    (try simp only [v1, v2, v3, v4, v5, true_and])
    exact p_law hX hG hE (fun r a1 a2 a3 a4 a5 a6 g1 => ⟨fun _ => next (mkI hA hI hF g1 hQ hV hS), fun w => absurd rfl w⟩)
  refine ⟨fun _ => ?_, fun _ => ?_⟩
  · -- days
    (try simp only [v1, v2, v3, v4, v5, true_and])
    exact p_days hN hD hp hB hd hX hG hE (fun r a1 a2 a3 a4 a5 a6 a7 a8 a9 b1 b2 b3 g1 g2 g3 g4 g5 g6 => ⟨fun _ => next (mkI (RA_days hA g1 g2 g3 g4 g5) hI hF g6 hQ hV hS), fun w => absurd rfl w⟩)
  refine ⟨fun _ => ?_, fun _ => ?_⟩
  · -- loose
    (try simp only [v1, v2, v3, v4, v5, true_and])
    exact p_loose hN hD hp hB hz hd hX hG hE (fun r a1 a2 a3 a4 a5 a6 a7 a8 a9 b1 b2 b3 b4 b5 g1 g2 g3 g4 g5 g6 g7 => ⟨fun _ => next (mkI (RA_loose hA g1 g2 g3 g4 g5 g6) hI hF g7 hQ hV hS), fun w => absurd rfl w⟩)
  refine ⟨fun _ => ?_, fun _ => ?_⟩
  · -- seed
    (try simp only [v1, v2, v3, v4, v5, true_and])
    exact p_seed hz ⟨fun _ => next (mkI (RA_seed hA _) hI hF hE hQ hV hS), fun w => absurd rfl w⟩
  refine ⟨fun _ => ?_, fun _ => ?_⟩
  · -- nearest
    (try simp only [v1, v2, v3, v4, v5, true_and])
    exact p_nearest hN hp hd hX hG hE (fun r a1 a2 a3 a4 a5 a6 a7 a8 a9 b1 b2 b3 g1 => ⟨fun _ => next (mkI hA hI hF g1 hQ hV hS), fun w => absurd rfl w⟩)
  refine ⟨fun _ => ?_, fun _ => ?_⟩
  · -- then
    (try simp only [v1, v2, v3, v4, v5, true_and])
    exact p_then hN hp hd hX hG hE (fun r a1 a2 a3 a4 a5 a6 a7 a8 a9 b1 b2 b3 g1 => ⟨fun _ => next (mkI hA hI hF g1 hQ hV hS), fun w => absurd rfl w⟩)
  refine ⟨fun _ => ?_, fun _ => ?_⟩
  · -- settles
    (try simp only [v1, v2, v3, v4, v5, true_and])
    exact p_settles hN hp hd hX hG hE (fun r a1 a2 a3 a4 a5 a6 a7 a8 a9 b1 b2 b3 g1 => ⟨fun _ => next (mkI hA hI hF g1 hQ hV hS), fun w => absurd rfl w⟩)
  refine ⟨fun _ => ?_, fun _ => ?_⟩
  · -- rank
    (try simp only [v1, v2, v3, v4, v5, true_and])
    exact p_rank hN hp hE (fun r a1 a2 g1 => ⟨fun _ => next (mkI hA hI hF g1 hQ hV hS), fun w => absurd rfl w⟩)
  refine ⟨fun _ => ?_, fun _ => ?_⟩
  · -- signs
    (try simp only [v1, v2, v3, v4, v5, true_and])
    exact p_signs hN hp hd hX hG hE (fun r a1 a2 a3 a4 a5 a6 a7 a8 a9 b1 b2 b3 b4 b5 b6 g1 => ⟨fun _ => next (mkI hA hI hF g1 hQ hV hS), fun w => absurd rfl w⟩)
  refine ⟨fun _ => ?_, fun _ => ?_⟩
  · -- heard
    (try simp only [v1, v2, v3, v4, v5, true_and])
    exact p_heard hN hp hB hE (fun r a1 a2 g1 => ⟨fun _ => next (mkI hA hI hF g1 hQ hV hS), fun w => absurd rfl w⟩)
  refine ⟨fun _ => ?_, fun _ => ?_⟩
  · -- odds
    (try simp only [v1, v2, v3, v4, v5, true_and])
    exact p_odds hN hp hd hX hE (fun r a1 a2 a3 a4 a5 g1 => ⟨fun _ => next (mkI hA hI hF g1 hQ hV hS), fun w => absurd rfl w⟩)
  refine ⟨fun _ => ?_, fun _ => ?_⟩
  · -- began
    (try simp only [v1, v2, v3, v4, v5, true_and])
    exact p_began hN hp hB hd hX hG hS hE (fun r a1 a2 a3 a4 a5 a6 a7 a8 a9 b1 b2 b3 b4 b5 b6 g1 => ⟨fun _ => next (mkI hA hI hF g1 hQ hV hS), fun w => absurd rfl w⟩)
  refine ⟨fun _ => ?_, fun _ => ?_⟩
  · -- fits
    (try simp only [v1, v2, v3, v4, v5, true_and])
    exact p_fits hN hp hB hd hX hG hS hE (fun r a1 a2 a3 a4 a5 a6 a7 a8 a9 b1 b2 b3 g1 => ⟨fun _ => next (mkI hA hI hF g1 hQ hV hS), fun w => absurd rfl w⟩)
  refine ⟨fun _ => ?_, fun _ => ?_⟩
  · -- voice
    (try simp only [v1, v2, v3, v4, v5, true_and])
    exact p_voice hN hp hB hQ hV hE (fun r a1 a2 a3 a4 a5 a6 a7 a8 a9 b1 b2 g1 g2 g3 => ⟨fun _ => next (mkI hA hI hF g3 g1 g2 hS), fun w => absurd rfl w⟩)
  refine ⟨fun _ => ?_, fun _ => ?_⟩
  · -- body
    (try simp only [v1, v2, v3, v4, v5, true_and])
    exact p_body hQ hV hE (fun r a1 a2 g1 => ⟨fun _ => next (mkI hA hI hF g1 hQ hV hS), fun w => absurd rfl w⟩)
  refine ⟨fun _ => ?_, fun _ => ?_⟩
  · -- sheet
    (try simp only [v1, v2, v3, v4, v5, true_and])
    exact p_sheet hS hE (fun r a1 a2 a3 a4 a5 a6 a7 a8 g1 g2 => ⟨fun _ => next (mkI hA hI hF g2 hQ hV g1), fun w => absurd rfl w⟩)
  refine ⟨fun _ => ?_, fun _ => ?_⟩
  · -- put
    (try simp only [v1, v2, v3, v4, v5, true_and])
    exact p_put hS hE (fun r a1 a2 a3 a4 g1 g2 => ⟨fun _ => next (mkI hA hI hF g2 hQ hV g1), fun w => absurd rfl w⟩)
  refine ⟨fun _ => ?_, fun _ => ?_⟩
  · -- move
    (try simp only [v1, v2, v3, v4, v5, true_and])
    exact p_move hS hE (fun r a1 a2 a3 a4 a5 g1 g2 => ⟨fun _ => next (mkI hA hI hF g2 hQ hV g1), fun w => absurd rfl w⟩)
  refine ⟨fun _ => ?_, fun _ => ?_⟩
  · -- nears
    (try simp only [v1, v2, v3, v4, v5, true_and])
    exact p_nears hN hp hB hS hE (fun r a1 a2 a3 a4 g1 g2 g3 g4 => ⟨fun _ => next (mkI (RA_FP hA hN g1 g2 g3) hI hF g4 hQ hV hS), fun w => absurd rfl w⟩)
  refine ⟨fun _ => ?_, fun _ => ?_⟩
  · -- judge
    (try simp only [v1, v2, v3, v4, v5, true_and])
    exact p_judge hN hp hd hG hS hE (fun r a1 a2 a3 a4 a5 g1 => ⟨fun _ => next (mkI hA hI hF g1 hQ hV hS), fun w => absurd rfl w⟩)
  refine ⟨fun _ => ?_, fun _ => ?_⟩
  · -- image
    (try simp only [v1, v2, v3, v4, v5, true_and])
    exact p_image hA hF (fun a1 a2 a3 a4 a5 a6 a7 a8 a9 b1 g1 => ⟨fun _ => next (mkI hA (fun _ => ⟨N, T, W, D, tn, gn, rfl, rfl, rfl, rfl, rfl, rfl, g1⟩) g1.2.2.2.2.2.2.2.1.2.1 hE hQ hV hS), fun w => absurd rfl w⟩)
  refine ⟨fun _ => ?_, fun _ => ?_⟩
  · -- restore
    (try simp only [v1, v2, v3, v4, v5, true_and])
    exact p_restore hR.2.1 hE hI (fun r a1 a2 g1 => ⟨fun _ => next (mkI hA hI hF g1 hQ hV hS), fun w => absurd rfl w⟩) (fun N2 T2 W2 D2 tn2 gn2 z2 a1 a2 a3 a4 a5 a6 a7 a8 a9 b1 g1 => ⟨fun _ => next (mkI g1 hI hF hE hQ hV hS), fun w => absurd rfl w⟩)
  refine ⟨fun _ => ?_, fun _ => ?_⟩
  · -- tell
    (try simp only [v1, v2, v3, v4, v5, true_and])
    exact p_tell hW hw hE (fun r a1 a2 a3 a4 a5 g1 g2 g3 g4 => ⟨fun _ => next (mkI (RA_tell hA g1 g2 g4) hI hF g3 hQ hV hS), fun w => absurd rfl w⟩)
  refine ⟨fun _ => ?_, fun _ => ?_⟩
  · -- check
    (try simp only [v1, v2, v3, v4, v5, true_and])
    exact p_check hN hW hp hw (fun r => ⟨fun _ => next (mkI (RA_check hA) hI hF hE hQ hV hS), fun w => absurd rfl w⟩)
  refine ⟨fun _ => ?_, fun _ => ?_⟩
  · -- count
    (try simp only [v1, v2, v3, v4, v5, true_and])
    exact p_count hN hp hd hz hR.1 hw.1 hE (fun r a1 a2 g1 => ⟨fun _ => next (mkI hA hI hF g1 hQ hV hS), fun w => absurd rfl w⟩)
  refine ⟨fun _ => ?_, fun _ => ?_⟩
  · -- told
    (try simp only [v1, v2, v3, v4, v5, true_and])
    exact p_told hE (fun r a1 a2 g1 => ⟨fun _ => next (mkI hA hI hF g1 hQ hV hS), fun w => absurd rfl w⟩)
  exact next I0
set_option maxHeartbeats 4000000 in
set_option maxRecDepth 100000 in
theorem law_n {L : Nat} {xs : Nat → Int32} (hL : L ≤ 3072) : ∀ (n i : Nat), 6 * i ≤ L → L < 6 * (i + n) → ∀ (images : Int32) (n_people : Int32) (n_taped : Int32) (n_waiting : Int32) (n_z : Int32) (n_kind : Nat → Int32) (n_em : Nat → Int32) (n_called : Nat → Int32) (n_day : Int32) (n_near : Nat → Int32) (n_shows : Nat → Int32) (n_tsize : Int32) (n_tsteps : Nat → Int32) (n_tstack : Nat → Int32) (n_gsize : Int32) (n_gsteps : Nat → Int32) (n_gstack : Nat → Int32) (n_tape : Nat → Int32) (n_waits : Nat → Int32) (k_people : Int32) (k_taped : Int32) (k_waiting : Int32) (k_z : Int32) (k_kind : Nat → Int32) (k_em : Nat → Int32) (k_called : Nat → Int32) (k_day : Int32) (k_near : Nat → Int32) (k_shows : Nat → Int32) (k_tsize : Int32) (k_tsteps : Nat → Int32) (k_gsize : Int32) (k_gsteps : Nat → Int32) (k_tape : Nat → Int32) (k_waits : Nat → Int32) (t_day : Int32) (t_near : Nat → Int32) (t_shows : Nat → Int32) (g_day : Int32) (g_near : Nat → Int32) (g_shows : Nat → Int32) (r_length : Int32) (r_place : Int32) (r_names : Nat) (r_rsize : Int32) (r_bytes : Nat → Int32) (r_rsteps : Nat → Int32) (v_traced : Int32) (v_parted : Int32) (v_yk : Int32) (v_ykind : Int32) (v_ym : Int32) (v_trace : Nat → Int32) (shb : Nat → Int32) (shs : Nat → Int32) (shn : Nat → Nat → Int32) (errs : Nat → Int32) (m_images : Int32) (m_at_ : Int32) (m_open_ : Int32) (m_steps : Int32) (m_use_ : Int32) (m_traced : Int32) (m_speaks : Int32) (m_isParted : Int32) (m_s : Nat → Int32) (m_kept : Nat → Int32) (m_laid : Nat → Int32) (m_errors : Nat → Int32) (m_step : Nat → Int32) (m_named : Nat → Int32) (m_pile : Nat → Int32) (m_nearThen : Nat → Int32) (m_shownThen : Nat → Int32) (m_trace : Nat → Int32) (m_bits : Nat → Int32) (m_sizes : Nat → Int32) (m_number : Nat → Int32) (m_aside : Nat → Int32), IV images n_people n_taped n_waiting n_z n_kind n_em n_called n_day n_near n_shows n_tsize n_tsteps n_gsize n_gsteps n_tape n_waits k_people k_taped k_waiting k_z k_kind k_em k_called k_day k_near k_shows k_tsize k_tsteps k_gsize k_gsteps k_tape k_waits v_traced v_trace shb shs shn errs m_images m_traced m_s m_kept m_errors m_trace m_bits m_sizes m_number → l_L_law_18 L xs 99 9 True n (nI (6 * i)) images n_people n_taped n_waiting n_z n_kind n_em n_called n_day n_near n_shows n_tsize n_tsteps n_tstack n_gsize n_gsteps n_gstack n_tape n_waits k_people k_taped k_waiting k_z k_kind k_em k_called k_day k_near k_shows k_tsize k_tsteps k_gsize k_gsteps k_tape k_waits t_day t_near t_shows g_day g_near g_shows r_length r_place r_names r_rsize r_bytes r_rsteps v_traced v_parted v_yk v_ykind v_ym v_trace shb shs shn errs m_images m_at_ m_open_ m_steps m_use_ m_traced m_speaks m_isParted m_s m_kept m_laid m_errors m_step m_named m_pile m_nearThen m_shownThen m_trace m_bits m_sizes m_number m_aside := by
  intro n
  induction n with
  | zero => intro i h1 h2; omega
  | succ n ih =>
    intro i h1 h2
    intro images n_people n_taped n_waiting n_z n_kind n_em n_called n_day n_near n_shows n_tsize n_tsteps n_tstack n_gsize n_gsteps n_gstack n_tape n_waits k_people k_taped k_waiting k_z k_kind k_em k_called k_day k_near k_shows k_tsize k_tsteps k_gsize k_gsteps k_tape k_waits t_day t_near t_shows g_day g_near g_shows r_length r_place r_names r_rsize r_bytes r_rsteps v_traced v_parted v_yk v_ykind v_ym v_trace shb shs shn errs m_images m_at_ m_open_ m_steps m_use_ m_traced m_speaks m_isParted m_s m_kept m_laid m_errors m_step m_named m_pile m_nearThen m_shownThen m_trace m_bits m_sizes m_number m_aside hIV
    refine law_1 hL h1 ?_ hIV
    intro c images1 n_people1 n_taped1 n_waiting1 n_z1 n_kind1 n_em1 n_called1 n_day1 n_near1 n_shows1 n_tsize1 n_tsteps1 n_tstack1 n_gsize1 n_gsteps1 n_gstack1 n_tape1 n_waits1 k_people1 k_taped1 k_waiting1 k_z1 k_kind1 k_em1 k_called1 k_day1 k_near1 k_shows1 k_tsize1 k_tsteps1 k_gsize1 k_gsteps1 k_tape1 k_waits1 t_day1 t_near1 t_shows1 g_day1 g_near1 g_shows1 r_length1 r_place1 r_names1 r_rsize1 r_bytes1 r_rsteps1 v_traced1 v_parted1 v_yk1 v_ykind1 v_ym1 v_trace1 shb1 shs1 shn1 errs1 m_images1 m_at_1 m_open_1 m_steps1 m_use_1 m_traced1 m_speaks1 m_isParted1 m_s1 m_kept1 m_laid1 m_errors1 m_step1 m_named1 m_pile1 m_nearThen1 m_shownThen1 m_trace1 m_bits1 m_sizes1 m_number1 m_aside1 h
    unfold j_L_law_1347
    rw [show nI (6 * i) + 6 = nI (6 * (i + 1)) from by rw [show (6 : Int32) = nI 6 from rfl, nI_add, show 6 * i + 6 = 6 * (i + 1) by omega]]
    exact ih (i + 1) (by omega) (by omega) _ _ _ _ _ _ _ _ _ _ _ _ _ _ _ _ _ _ _ _ _ _ _ _ _ _ _ _ _ _ _ _ _ _ _ _ _ _ _ _ _ _ _ _ _ _ _ _ _ _ _ _ _ _ _ _ _ _ _ _ _ _ _ _ _ _ _ _ _ _ _ _ _ _ _ _ _ _ _ h
