/-! a state's values behind a change -/
theorem gs_hour_hour (σ : SV) (v : Int32) : g_hour (s_hour σ v) = v := rfl
theorem gs_hour_crowd (σ : SV) (v : Int32) : g_hour (s_crowd σ v) = g_hour σ := rfl
theorem gs_hour_buskers (σ : SV) (v : Int32) : g_hour (s_buskers σ v) = g_hour σ := rfl
theorem gs_hour_answered (σ : SV) (v : Int32) : g_hour (s_answered σ v) = g_hour σ := rfl
theorem gs_hour_draws (σ : SV) (v : Int32) : g_hour (s_draws σ v) = g_hour σ := rfl
theorem gs_hour_lim (σ : SV) (v : Nat → UInt32) : g_hour (s_lim σ v) = g_hour σ := rfl
theorem gs_hour_cmp (σ : SV) (v : Nat → Int32) : g_hour (s_cmp σ v) = g_hour σ := rfl
theorem gs_hour_sof (σ : SV) (v : Nat → Int32) : g_hour (s_sof σ v) = g_hour σ := rfl
theorem gs_hour_kin (σ : SV) (v : Nat → Int32) : g_hour (s_kin σ v) = g_hour σ := rfl
theorem gs_hour_lou (σ : SV) (v : Nat → Int32) : g_hour (s_lou σ v) = g_hour σ := rfl
theorem gs_hour_pit (σ : SV) (v : Nat → Int32) : g_hour (s_pit σ v) = g_hour σ := rfl
theorem gs_hour_pla (σ : SV) (v : Nat → Int32) : g_hour (s_pla σ v) = g_hour σ := rfl
theorem gs_hour_cas (σ : SV) (v : Nat → Int32) : g_hour (s_cas σ v) = g_hour σ := rfl
theorem gs_hour_hrs (σ : SV) (v : Nat → Int32) : g_hour (s_hrs σ v) = g_hour σ := rfl
theorem gs_hour_nws (σ : SV) (v : Nat → Int32) : g_hour (s_nws σ v) = g_hour σ := rfl
theorem gs_hour_hat (σ : SV) (v : Nat → UInt32) : g_hour (s_hat σ v) = g_hour σ := rfl
theorem gs_hour_wea (σ : SV) (v : Nat → UInt32) : g_hour (s_wea σ v) = g_hour σ := rfl
theorem gs_hour_row (σ : SV) (v : Nat → UInt32) : g_hour (s_row σ v) = g_hour σ := rfl
theorem gs_crowd_hour (σ : SV) (v : Int32) : g_crowd (s_hour σ v) = g_crowd σ := rfl
theorem gs_crowd_crowd (σ : SV) (v : Int32) : g_crowd (s_crowd σ v) = v := rfl
theorem gs_crowd_buskers (σ : SV) (v : Int32) : g_crowd (s_buskers σ v) = g_crowd σ := rfl
theorem gs_crowd_answered (σ : SV) (v : Int32) : g_crowd (s_answered σ v) = g_crowd σ := rfl
theorem gs_crowd_draws (σ : SV) (v : Int32) : g_crowd (s_draws σ v) = g_crowd σ := rfl
theorem gs_crowd_lim (σ : SV) (v : Nat → UInt32) : g_crowd (s_lim σ v) = g_crowd σ := rfl
theorem gs_crowd_cmp (σ : SV) (v : Nat → Int32) : g_crowd (s_cmp σ v) = g_crowd σ := rfl
theorem gs_crowd_sof (σ : SV) (v : Nat → Int32) : g_crowd (s_sof σ v) = g_crowd σ := rfl
theorem gs_crowd_kin (σ : SV) (v : Nat → Int32) : g_crowd (s_kin σ v) = g_crowd σ := rfl
theorem gs_crowd_lou (σ : SV) (v : Nat → Int32) : g_crowd (s_lou σ v) = g_crowd σ := rfl
theorem gs_crowd_pit (σ : SV) (v : Nat → Int32) : g_crowd (s_pit σ v) = g_crowd σ := rfl
theorem gs_crowd_pla (σ : SV) (v : Nat → Int32) : g_crowd (s_pla σ v) = g_crowd σ := rfl
theorem gs_crowd_cas (σ : SV) (v : Nat → Int32) : g_crowd (s_cas σ v) = g_crowd σ := rfl
theorem gs_crowd_hrs (σ : SV) (v : Nat → Int32) : g_crowd (s_hrs σ v) = g_crowd σ := rfl
theorem gs_crowd_nws (σ : SV) (v : Nat → Int32) : g_crowd (s_nws σ v) = g_crowd σ := rfl
theorem gs_crowd_hat (σ : SV) (v : Nat → UInt32) : g_crowd (s_hat σ v) = g_crowd σ := rfl
theorem gs_crowd_wea (σ : SV) (v : Nat → UInt32) : g_crowd (s_wea σ v) = g_crowd σ := rfl
theorem gs_crowd_row (σ : SV) (v : Nat → UInt32) : g_crowd (s_row σ v) = g_crowd σ := rfl
theorem gs_buskers_hour (σ : SV) (v : Int32) : g_buskers (s_hour σ v) = g_buskers σ := rfl
theorem gs_buskers_crowd (σ : SV) (v : Int32) : g_buskers (s_crowd σ v) = g_buskers σ := rfl
theorem gs_buskers_buskers (σ : SV) (v : Int32) : g_buskers (s_buskers σ v) = v := rfl
theorem gs_buskers_answered (σ : SV) (v : Int32) : g_buskers (s_answered σ v) = g_buskers σ := rfl
theorem gs_buskers_draws (σ : SV) (v : Int32) : g_buskers (s_draws σ v) = g_buskers σ := rfl
theorem gs_buskers_lim (σ : SV) (v : Nat → UInt32) : g_buskers (s_lim σ v) = g_buskers σ := rfl
theorem gs_buskers_cmp (σ : SV) (v : Nat → Int32) : g_buskers (s_cmp σ v) = g_buskers σ := rfl
theorem gs_buskers_sof (σ : SV) (v : Nat → Int32) : g_buskers (s_sof σ v) = g_buskers σ := rfl
theorem gs_buskers_kin (σ : SV) (v : Nat → Int32) : g_buskers (s_kin σ v) = g_buskers σ := rfl
theorem gs_buskers_lou (σ : SV) (v : Nat → Int32) : g_buskers (s_lou σ v) = g_buskers σ := rfl
theorem gs_buskers_pit (σ : SV) (v : Nat → Int32) : g_buskers (s_pit σ v) = g_buskers σ := rfl
theorem gs_buskers_pla (σ : SV) (v : Nat → Int32) : g_buskers (s_pla σ v) = g_buskers σ := rfl
theorem gs_buskers_cas (σ : SV) (v : Nat → Int32) : g_buskers (s_cas σ v) = g_buskers σ := rfl
theorem gs_buskers_hrs (σ : SV) (v : Nat → Int32) : g_buskers (s_hrs σ v) = g_buskers σ := rfl
theorem gs_buskers_nws (σ : SV) (v : Nat → Int32) : g_buskers (s_nws σ v) = g_buskers σ := rfl
theorem gs_buskers_hat (σ : SV) (v : Nat → UInt32) : g_buskers (s_hat σ v) = g_buskers σ := rfl
theorem gs_buskers_wea (σ : SV) (v : Nat → UInt32) : g_buskers (s_wea σ v) = g_buskers σ := rfl
theorem gs_buskers_row (σ : SV) (v : Nat → UInt32) : g_buskers (s_row σ v) = g_buskers σ := rfl
theorem gs_answered_hour (σ : SV) (v : Int32) : g_answered (s_hour σ v) = g_answered σ := rfl
theorem gs_answered_crowd (σ : SV) (v : Int32) : g_answered (s_crowd σ v) = g_answered σ := rfl
theorem gs_answered_buskers (σ : SV) (v : Int32) : g_answered (s_buskers σ v) = g_answered σ := rfl
theorem gs_answered_answered (σ : SV) (v : Int32) : g_answered (s_answered σ v) = v := rfl
theorem gs_answered_draws (σ : SV) (v : Int32) : g_answered (s_draws σ v) = g_answered σ := rfl
theorem gs_answered_lim (σ : SV) (v : Nat → UInt32) : g_answered (s_lim σ v) = g_answered σ := rfl
theorem gs_answered_cmp (σ : SV) (v : Nat → Int32) : g_answered (s_cmp σ v) = g_answered σ := rfl
theorem gs_answered_sof (σ : SV) (v : Nat → Int32) : g_answered (s_sof σ v) = g_answered σ := rfl
theorem gs_answered_kin (σ : SV) (v : Nat → Int32) : g_answered (s_kin σ v) = g_answered σ := rfl
theorem gs_answered_lou (σ : SV) (v : Nat → Int32) : g_answered (s_lou σ v) = g_answered σ := rfl
theorem gs_answered_pit (σ : SV) (v : Nat → Int32) : g_answered (s_pit σ v) = g_answered σ := rfl
theorem gs_answered_pla (σ : SV) (v : Nat → Int32) : g_answered (s_pla σ v) = g_answered σ := rfl
theorem gs_answered_cas (σ : SV) (v : Nat → Int32) : g_answered (s_cas σ v) = g_answered σ := rfl
theorem gs_answered_hrs (σ : SV) (v : Nat → Int32) : g_answered (s_hrs σ v) = g_answered σ := rfl
theorem gs_answered_nws (σ : SV) (v : Nat → Int32) : g_answered (s_nws σ v) = g_answered σ := rfl
theorem gs_answered_hat (σ : SV) (v : Nat → UInt32) : g_answered (s_hat σ v) = g_answered σ := rfl
theorem gs_answered_wea (σ : SV) (v : Nat → UInt32) : g_answered (s_wea σ v) = g_answered σ := rfl
theorem gs_answered_row (σ : SV) (v : Nat → UInt32) : g_answered (s_row σ v) = g_answered σ := rfl
theorem gs_draws_hour (σ : SV) (v : Int32) : g_draws (s_hour σ v) = g_draws σ := rfl
theorem gs_draws_crowd (σ : SV) (v : Int32) : g_draws (s_crowd σ v) = g_draws σ := rfl
theorem gs_draws_buskers (σ : SV) (v : Int32) : g_draws (s_buskers σ v) = g_draws σ := rfl
theorem gs_draws_answered (σ : SV) (v : Int32) : g_draws (s_answered σ v) = g_draws σ := rfl
theorem gs_draws_draws (σ : SV) (v : Int32) : g_draws (s_draws σ v) = v := rfl
theorem gs_draws_lim (σ : SV) (v : Nat → UInt32) : g_draws (s_lim σ v) = g_draws σ := rfl
theorem gs_draws_cmp (σ : SV) (v : Nat → Int32) : g_draws (s_cmp σ v) = g_draws σ := rfl
theorem gs_draws_sof (σ : SV) (v : Nat → Int32) : g_draws (s_sof σ v) = g_draws σ := rfl
theorem gs_draws_kin (σ : SV) (v : Nat → Int32) : g_draws (s_kin σ v) = g_draws σ := rfl
theorem gs_draws_lou (σ : SV) (v : Nat → Int32) : g_draws (s_lou σ v) = g_draws σ := rfl
theorem gs_draws_pit (σ : SV) (v : Nat → Int32) : g_draws (s_pit σ v) = g_draws σ := rfl
theorem gs_draws_pla (σ : SV) (v : Nat → Int32) : g_draws (s_pla σ v) = g_draws σ := rfl
theorem gs_draws_cas (σ : SV) (v : Nat → Int32) : g_draws (s_cas σ v) = g_draws σ := rfl
theorem gs_draws_hrs (σ : SV) (v : Nat → Int32) : g_draws (s_hrs σ v) = g_draws σ := rfl
theorem gs_draws_nws (σ : SV) (v : Nat → Int32) : g_draws (s_nws σ v) = g_draws σ := rfl
theorem gs_draws_hat (σ : SV) (v : Nat → UInt32) : g_draws (s_hat σ v) = g_draws σ := rfl
theorem gs_draws_wea (σ : SV) (v : Nat → UInt32) : g_draws (s_wea σ v) = g_draws σ := rfl
theorem gs_draws_row (σ : SV) (v : Nat → UInt32) : g_draws (s_row σ v) = g_draws σ := rfl
theorem gs_lim_hour (σ : SV) (v : Int32) : g_lim (s_hour σ v) = g_lim σ := rfl
theorem gs_lim_crowd (σ : SV) (v : Int32) : g_lim (s_crowd σ v) = g_lim σ := rfl
theorem gs_lim_buskers (σ : SV) (v : Int32) : g_lim (s_buskers σ v) = g_lim σ := rfl
theorem gs_lim_answered (σ : SV) (v : Int32) : g_lim (s_answered σ v) = g_lim σ := rfl
theorem gs_lim_draws (σ : SV) (v : Int32) : g_lim (s_draws σ v) = g_lim σ := rfl
theorem gs_lim_lim (σ : SV) (v : Nat → UInt32) : g_lim (s_lim σ v) = v := rfl
theorem gs_lim_cmp (σ : SV) (v : Nat → Int32) : g_lim (s_cmp σ v) = g_lim σ := rfl
theorem gs_lim_sof (σ : SV) (v : Nat → Int32) : g_lim (s_sof σ v) = g_lim σ := rfl
theorem gs_lim_kin (σ : SV) (v : Nat → Int32) : g_lim (s_kin σ v) = g_lim σ := rfl
theorem gs_lim_lou (σ : SV) (v : Nat → Int32) : g_lim (s_lou σ v) = g_lim σ := rfl
theorem gs_lim_pit (σ : SV) (v : Nat → Int32) : g_lim (s_pit σ v) = g_lim σ := rfl
theorem gs_lim_pla (σ : SV) (v : Nat → Int32) : g_lim (s_pla σ v) = g_lim σ := rfl
theorem gs_lim_cas (σ : SV) (v : Nat → Int32) : g_lim (s_cas σ v) = g_lim σ := rfl
theorem gs_lim_hrs (σ : SV) (v : Nat → Int32) : g_lim (s_hrs σ v) = g_lim σ := rfl
theorem gs_lim_nws (σ : SV) (v : Nat → Int32) : g_lim (s_nws σ v) = g_lim σ := rfl
theorem gs_lim_hat (σ : SV) (v : Nat → UInt32) : g_lim (s_hat σ v) = g_lim σ := rfl
theorem gs_lim_wea (σ : SV) (v : Nat → UInt32) : g_lim (s_wea σ v) = g_lim σ := rfl
theorem gs_lim_row (σ : SV) (v : Nat → UInt32) : g_lim (s_row σ v) = g_lim σ := rfl
theorem gs_cmp_hour (σ : SV) (v : Int32) : g_cmp (s_hour σ v) = g_cmp σ := rfl
theorem gs_cmp_crowd (σ : SV) (v : Int32) : g_cmp (s_crowd σ v) = g_cmp σ := rfl
theorem gs_cmp_buskers (σ : SV) (v : Int32) : g_cmp (s_buskers σ v) = g_cmp σ := rfl
theorem gs_cmp_answered (σ : SV) (v : Int32) : g_cmp (s_answered σ v) = g_cmp σ := rfl
theorem gs_cmp_draws (σ : SV) (v : Int32) : g_cmp (s_draws σ v) = g_cmp σ := rfl
theorem gs_cmp_lim (σ : SV) (v : Nat → UInt32) : g_cmp (s_lim σ v) = g_cmp σ := rfl
theorem gs_cmp_cmp (σ : SV) (v : Nat → Int32) : g_cmp (s_cmp σ v) = v := rfl
theorem gs_cmp_sof (σ : SV) (v : Nat → Int32) : g_cmp (s_sof σ v) = g_cmp σ := rfl
theorem gs_cmp_kin (σ : SV) (v : Nat → Int32) : g_cmp (s_kin σ v) = g_cmp σ := rfl
theorem gs_cmp_lou (σ : SV) (v : Nat → Int32) : g_cmp (s_lou σ v) = g_cmp σ := rfl
theorem gs_cmp_pit (σ : SV) (v : Nat → Int32) : g_cmp (s_pit σ v) = g_cmp σ := rfl
theorem gs_cmp_pla (σ : SV) (v : Nat → Int32) : g_cmp (s_pla σ v) = g_cmp σ := rfl
theorem gs_cmp_cas (σ : SV) (v : Nat → Int32) : g_cmp (s_cas σ v) = g_cmp σ := rfl
theorem gs_cmp_hrs (σ : SV) (v : Nat → Int32) : g_cmp (s_hrs σ v) = g_cmp σ := rfl
theorem gs_cmp_nws (σ : SV) (v : Nat → Int32) : g_cmp (s_nws σ v) = g_cmp σ := rfl
theorem gs_cmp_hat (σ : SV) (v : Nat → UInt32) : g_cmp (s_hat σ v) = g_cmp σ := rfl
theorem gs_cmp_wea (σ : SV) (v : Nat → UInt32) : g_cmp (s_wea σ v) = g_cmp σ := rfl
theorem gs_cmp_row (σ : SV) (v : Nat → UInt32) : g_cmp (s_row σ v) = g_cmp σ := rfl
theorem gs_sof_hour (σ : SV) (v : Int32) : g_sof (s_hour σ v) = g_sof σ := rfl
theorem gs_sof_crowd (σ : SV) (v : Int32) : g_sof (s_crowd σ v) = g_sof σ := rfl
theorem gs_sof_buskers (σ : SV) (v : Int32) : g_sof (s_buskers σ v) = g_sof σ := rfl
theorem gs_sof_answered (σ : SV) (v : Int32) : g_sof (s_answered σ v) = g_sof σ := rfl
theorem gs_sof_draws (σ : SV) (v : Int32) : g_sof (s_draws σ v) = g_sof σ := rfl
theorem gs_sof_lim (σ : SV) (v : Nat → UInt32) : g_sof (s_lim σ v) = g_sof σ := rfl
theorem gs_sof_cmp (σ : SV) (v : Nat → Int32) : g_sof (s_cmp σ v) = g_sof σ := rfl
theorem gs_sof_sof (σ : SV) (v : Nat → Int32) : g_sof (s_sof σ v) = v := rfl
theorem gs_sof_kin (σ : SV) (v : Nat → Int32) : g_sof (s_kin σ v) = g_sof σ := rfl
theorem gs_sof_lou (σ : SV) (v : Nat → Int32) : g_sof (s_lou σ v) = g_sof σ := rfl
theorem gs_sof_pit (σ : SV) (v : Nat → Int32) : g_sof (s_pit σ v) = g_sof σ := rfl
theorem gs_sof_pla (σ : SV) (v : Nat → Int32) : g_sof (s_pla σ v) = g_sof σ := rfl
theorem gs_sof_cas (σ : SV) (v : Nat → Int32) : g_sof (s_cas σ v) = g_sof σ := rfl
theorem gs_sof_hrs (σ : SV) (v : Nat → Int32) : g_sof (s_hrs σ v) = g_sof σ := rfl
theorem gs_sof_nws (σ : SV) (v : Nat → Int32) : g_sof (s_nws σ v) = g_sof σ := rfl
theorem gs_sof_hat (σ : SV) (v : Nat → UInt32) : g_sof (s_hat σ v) = g_sof σ := rfl
theorem gs_sof_wea (σ : SV) (v : Nat → UInt32) : g_sof (s_wea σ v) = g_sof σ := rfl
theorem gs_sof_row (σ : SV) (v : Nat → UInt32) : g_sof (s_row σ v) = g_sof σ := rfl
theorem gs_kin_hour (σ : SV) (v : Int32) : g_kin (s_hour σ v) = g_kin σ := rfl
theorem gs_kin_crowd (σ : SV) (v : Int32) : g_kin (s_crowd σ v) = g_kin σ := rfl
theorem gs_kin_buskers (σ : SV) (v : Int32) : g_kin (s_buskers σ v) = g_kin σ := rfl
theorem gs_kin_answered (σ : SV) (v : Int32) : g_kin (s_answered σ v) = g_kin σ := rfl
theorem gs_kin_draws (σ : SV) (v : Int32) : g_kin (s_draws σ v) = g_kin σ := rfl
theorem gs_kin_lim (σ : SV) (v : Nat → UInt32) : g_kin (s_lim σ v) = g_kin σ := rfl
theorem gs_kin_cmp (σ : SV) (v : Nat → Int32) : g_kin (s_cmp σ v) = g_kin σ := rfl
theorem gs_kin_sof (σ : SV) (v : Nat → Int32) : g_kin (s_sof σ v) = g_kin σ := rfl
theorem gs_kin_kin (σ : SV) (v : Nat → Int32) : g_kin (s_kin σ v) = v := rfl
theorem gs_kin_lou (σ : SV) (v : Nat → Int32) : g_kin (s_lou σ v) = g_kin σ := rfl
theorem gs_kin_pit (σ : SV) (v : Nat → Int32) : g_kin (s_pit σ v) = g_kin σ := rfl
theorem gs_kin_pla (σ : SV) (v : Nat → Int32) : g_kin (s_pla σ v) = g_kin σ := rfl
theorem gs_kin_cas (σ : SV) (v : Nat → Int32) : g_kin (s_cas σ v) = g_kin σ := rfl
theorem gs_kin_hrs (σ : SV) (v : Nat → Int32) : g_kin (s_hrs σ v) = g_kin σ := rfl
theorem gs_kin_nws (σ : SV) (v : Nat → Int32) : g_kin (s_nws σ v) = g_kin σ := rfl
theorem gs_kin_hat (σ : SV) (v : Nat → UInt32) : g_kin (s_hat σ v) = g_kin σ := rfl
theorem gs_kin_wea (σ : SV) (v : Nat → UInt32) : g_kin (s_wea σ v) = g_kin σ := rfl
theorem gs_kin_row (σ : SV) (v : Nat → UInt32) : g_kin (s_row σ v) = g_kin σ := rfl
theorem gs_lou_hour (σ : SV) (v : Int32) : g_lou (s_hour σ v) = g_lou σ := rfl
theorem gs_lou_crowd (σ : SV) (v : Int32) : g_lou (s_crowd σ v) = g_lou σ := rfl
theorem gs_lou_buskers (σ : SV) (v : Int32) : g_lou (s_buskers σ v) = g_lou σ := rfl
theorem gs_lou_answered (σ : SV) (v : Int32) : g_lou (s_answered σ v) = g_lou σ := rfl
theorem gs_lou_draws (σ : SV) (v : Int32) : g_lou (s_draws σ v) = g_lou σ := rfl
theorem gs_lou_lim (σ : SV) (v : Nat → UInt32) : g_lou (s_lim σ v) = g_lou σ := rfl
theorem gs_lou_cmp (σ : SV) (v : Nat → Int32) : g_lou (s_cmp σ v) = g_lou σ := rfl
theorem gs_lou_sof (σ : SV) (v : Nat → Int32) : g_lou (s_sof σ v) = g_lou σ := rfl
theorem gs_lou_kin (σ : SV) (v : Nat → Int32) : g_lou (s_kin σ v) = g_lou σ := rfl
theorem gs_lou_lou (σ : SV) (v : Nat → Int32) : g_lou (s_lou σ v) = v := rfl
theorem gs_lou_pit (σ : SV) (v : Nat → Int32) : g_lou (s_pit σ v) = g_lou σ := rfl
theorem gs_lou_pla (σ : SV) (v : Nat → Int32) : g_lou (s_pla σ v) = g_lou σ := rfl
theorem gs_lou_cas (σ : SV) (v : Nat → Int32) : g_lou (s_cas σ v) = g_lou σ := rfl
theorem gs_lou_hrs (σ : SV) (v : Nat → Int32) : g_lou (s_hrs σ v) = g_lou σ := rfl
theorem gs_lou_nws (σ : SV) (v : Nat → Int32) : g_lou (s_nws σ v) = g_lou σ := rfl
theorem gs_lou_hat (σ : SV) (v : Nat → UInt32) : g_lou (s_hat σ v) = g_lou σ := rfl
theorem gs_lou_wea (σ : SV) (v : Nat → UInt32) : g_lou (s_wea σ v) = g_lou σ := rfl
theorem gs_lou_row (σ : SV) (v : Nat → UInt32) : g_lou (s_row σ v) = g_lou σ := rfl
theorem gs_pit_hour (σ : SV) (v : Int32) : g_pit (s_hour σ v) = g_pit σ := rfl
theorem gs_pit_crowd (σ : SV) (v : Int32) : g_pit (s_crowd σ v) = g_pit σ := rfl
theorem gs_pit_buskers (σ : SV) (v : Int32) : g_pit (s_buskers σ v) = g_pit σ := rfl
theorem gs_pit_answered (σ : SV) (v : Int32) : g_pit (s_answered σ v) = g_pit σ := rfl
theorem gs_pit_draws (σ : SV) (v : Int32) : g_pit (s_draws σ v) = g_pit σ := rfl
theorem gs_pit_lim (σ : SV) (v : Nat → UInt32) : g_pit (s_lim σ v) = g_pit σ := rfl
theorem gs_pit_cmp (σ : SV) (v : Nat → Int32) : g_pit (s_cmp σ v) = g_pit σ := rfl
theorem gs_pit_sof (σ : SV) (v : Nat → Int32) : g_pit (s_sof σ v) = g_pit σ := rfl
theorem gs_pit_kin (σ : SV) (v : Nat → Int32) : g_pit (s_kin σ v) = g_pit σ := rfl
theorem gs_pit_lou (σ : SV) (v : Nat → Int32) : g_pit (s_lou σ v) = g_pit σ := rfl
theorem gs_pit_pit (σ : SV) (v : Nat → Int32) : g_pit (s_pit σ v) = v := rfl
theorem gs_pit_pla (σ : SV) (v : Nat → Int32) : g_pit (s_pla σ v) = g_pit σ := rfl
theorem gs_pit_cas (σ : SV) (v : Nat → Int32) : g_pit (s_cas σ v) = g_pit σ := rfl
theorem gs_pit_hrs (σ : SV) (v : Nat → Int32) : g_pit (s_hrs σ v) = g_pit σ := rfl
theorem gs_pit_nws (σ : SV) (v : Nat → Int32) : g_pit (s_nws σ v) = g_pit σ := rfl
theorem gs_pit_hat (σ : SV) (v : Nat → UInt32) : g_pit (s_hat σ v) = g_pit σ := rfl
theorem gs_pit_wea (σ : SV) (v : Nat → UInt32) : g_pit (s_wea σ v) = g_pit σ := rfl
theorem gs_pit_row (σ : SV) (v : Nat → UInt32) : g_pit (s_row σ v) = g_pit σ := rfl
theorem gs_pla_hour (σ : SV) (v : Int32) : g_pla (s_hour σ v) = g_pla σ := rfl
theorem gs_pla_crowd (σ : SV) (v : Int32) : g_pla (s_crowd σ v) = g_pla σ := rfl
theorem gs_pla_buskers (σ : SV) (v : Int32) : g_pla (s_buskers σ v) = g_pla σ := rfl
theorem gs_pla_answered (σ : SV) (v : Int32) : g_pla (s_answered σ v) = g_pla σ := rfl
theorem gs_pla_draws (σ : SV) (v : Int32) : g_pla (s_draws σ v) = g_pla σ := rfl
theorem gs_pla_lim (σ : SV) (v : Nat → UInt32) : g_pla (s_lim σ v) = g_pla σ := rfl
theorem gs_pla_cmp (σ : SV) (v : Nat → Int32) : g_pla (s_cmp σ v) = g_pla σ := rfl
theorem gs_pla_sof (σ : SV) (v : Nat → Int32) : g_pla (s_sof σ v) = g_pla σ := rfl
theorem gs_pla_kin (σ : SV) (v : Nat → Int32) : g_pla (s_kin σ v) = g_pla σ := rfl
theorem gs_pla_lou (σ : SV) (v : Nat → Int32) : g_pla (s_lou σ v) = g_pla σ := rfl
theorem gs_pla_pit (σ : SV) (v : Nat → Int32) : g_pla (s_pit σ v) = g_pla σ := rfl
theorem gs_pla_pla (σ : SV) (v : Nat → Int32) : g_pla (s_pla σ v) = v := rfl
theorem gs_pla_cas (σ : SV) (v : Nat → Int32) : g_pla (s_cas σ v) = g_pla σ := rfl
theorem gs_pla_hrs (σ : SV) (v : Nat → Int32) : g_pla (s_hrs σ v) = g_pla σ := rfl
theorem gs_pla_nws (σ : SV) (v : Nat → Int32) : g_pla (s_nws σ v) = g_pla σ := rfl
theorem gs_pla_hat (σ : SV) (v : Nat → UInt32) : g_pla (s_hat σ v) = g_pla σ := rfl
theorem gs_pla_wea (σ : SV) (v : Nat → UInt32) : g_pla (s_wea σ v) = g_pla σ := rfl
theorem gs_pla_row (σ : SV) (v : Nat → UInt32) : g_pla (s_row σ v) = g_pla σ := rfl
theorem gs_cas_hour (σ : SV) (v : Int32) : g_cas (s_hour σ v) = g_cas σ := rfl
theorem gs_cas_crowd (σ : SV) (v : Int32) : g_cas (s_crowd σ v) = g_cas σ := rfl
theorem gs_cas_buskers (σ : SV) (v : Int32) : g_cas (s_buskers σ v) = g_cas σ := rfl
theorem gs_cas_answered (σ : SV) (v : Int32) : g_cas (s_answered σ v) = g_cas σ := rfl
theorem gs_cas_draws (σ : SV) (v : Int32) : g_cas (s_draws σ v) = g_cas σ := rfl
theorem gs_cas_lim (σ : SV) (v : Nat → UInt32) : g_cas (s_lim σ v) = g_cas σ := rfl
theorem gs_cas_cmp (σ : SV) (v : Nat → Int32) : g_cas (s_cmp σ v) = g_cas σ := rfl
theorem gs_cas_sof (σ : SV) (v : Nat → Int32) : g_cas (s_sof σ v) = g_cas σ := rfl
theorem gs_cas_kin (σ : SV) (v : Nat → Int32) : g_cas (s_kin σ v) = g_cas σ := rfl
theorem gs_cas_lou (σ : SV) (v : Nat → Int32) : g_cas (s_lou σ v) = g_cas σ := rfl
theorem gs_cas_pit (σ : SV) (v : Nat → Int32) : g_cas (s_pit σ v) = g_cas σ := rfl
theorem gs_cas_pla (σ : SV) (v : Nat → Int32) : g_cas (s_pla σ v) = g_cas σ := rfl
theorem gs_cas_cas (σ : SV) (v : Nat → Int32) : g_cas (s_cas σ v) = v := rfl
theorem gs_cas_hrs (σ : SV) (v : Nat → Int32) : g_cas (s_hrs σ v) = g_cas σ := rfl
theorem gs_cas_nws (σ : SV) (v : Nat → Int32) : g_cas (s_nws σ v) = g_cas σ := rfl
theorem gs_cas_hat (σ : SV) (v : Nat → UInt32) : g_cas (s_hat σ v) = g_cas σ := rfl
theorem gs_cas_wea (σ : SV) (v : Nat → UInt32) : g_cas (s_wea σ v) = g_cas σ := rfl
theorem gs_cas_row (σ : SV) (v : Nat → UInt32) : g_cas (s_row σ v) = g_cas σ := rfl
theorem gs_hrs_hour (σ : SV) (v : Int32) : g_hrs (s_hour σ v) = g_hrs σ := rfl
theorem gs_hrs_crowd (σ : SV) (v : Int32) : g_hrs (s_crowd σ v) = g_hrs σ := rfl
theorem gs_hrs_buskers (σ : SV) (v : Int32) : g_hrs (s_buskers σ v) = g_hrs σ := rfl
theorem gs_hrs_answered (σ : SV) (v : Int32) : g_hrs (s_answered σ v) = g_hrs σ := rfl
theorem gs_hrs_draws (σ : SV) (v : Int32) : g_hrs (s_draws σ v) = g_hrs σ := rfl
theorem gs_hrs_lim (σ : SV) (v : Nat → UInt32) : g_hrs (s_lim σ v) = g_hrs σ := rfl
theorem gs_hrs_cmp (σ : SV) (v : Nat → Int32) : g_hrs (s_cmp σ v) = g_hrs σ := rfl
theorem gs_hrs_sof (σ : SV) (v : Nat → Int32) : g_hrs (s_sof σ v) = g_hrs σ := rfl
theorem gs_hrs_kin (σ : SV) (v : Nat → Int32) : g_hrs (s_kin σ v) = g_hrs σ := rfl
theorem gs_hrs_lou (σ : SV) (v : Nat → Int32) : g_hrs (s_lou σ v) = g_hrs σ := rfl
theorem gs_hrs_pit (σ : SV) (v : Nat → Int32) : g_hrs (s_pit σ v) = g_hrs σ := rfl
theorem gs_hrs_pla (σ : SV) (v : Nat → Int32) : g_hrs (s_pla σ v) = g_hrs σ := rfl
theorem gs_hrs_cas (σ : SV) (v : Nat → Int32) : g_hrs (s_cas σ v) = g_hrs σ := rfl
theorem gs_hrs_hrs (σ : SV) (v : Nat → Int32) : g_hrs (s_hrs σ v) = v := rfl
theorem gs_hrs_nws (σ : SV) (v : Nat → Int32) : g_hrs (s_nws σ v) = g_hrs σ := rfl
theorem gs_hrs_hat (σ : SV) (v : Nat → UInt32) : g_hrs (s_hat σ v) = g_hrs σ := rfl
theorem gs_hrs_wea (σ : SV) (v : Nat → UInt32) : g_hrs (s_wea σ v) = g_hrs σ := rfl
theorem gs_hrs_row (σ : SV) (v : Nat → UInt32) : g_hrs (s_row σ v) = g_hrs σ := rfl
theorem gs_nws_hour (σ : SV) (v : Int32) : g_nws (s_hour σ v) = g_nws σ := rfl
theorem gs_nws_crowd (σ : SV) (v : Int32) : g_nws (s_crowd σ v) = g_nws σ := rfl
theorem gs_nws_buskers (σ : SV) (v : Int32) : g_nws (s_buskers σ v) = g_nws σ := rfl
theorem gs_nws_answered (σ : SV) (v : Int32) : g_nws (s_answered σ v) = g_nws σ := rfl
theorem gs_nws_draws (σ : SV) (v : Int32) : g_nws (s_draws σ v) = g_nws σ := rfl
theorem gs_nws_lim (σ : SV) (v : Nat → UInt32) : g_nws (s_lim σ v) = g_nws σ := rfl
theorem gs_nws_cmp (σ : SV) (v : Nat → Int32) : g_nws (s_cmp σ v) = g_nws σ := rfl
theorem gs_nws_sof (σ : SV) (v : Nat → Int32) : g_nws (s_sof σ v) = g_nws σ := rfl
theorem gs_nws_kin (σ : SV) (v : Nat → Int32) : g_nws (s_kin σ v) = g_nws σ := rfl
theorem gs_nws_lou (σ : SV) (v : Nat → Int32) : g_nws (s_lou σ v) = g_nws σ := rfl
theorem gs_nws_pit (σ : SV) (v : Nat → Int32) : g_nws (s_pit σ v) = g_nws σ := rfl
theorem gs_nws_pla (σ : SV) (v : Nat → Int32) : g_nws (s_pla σ v) = g_nws σ := rfl
theorem gs_nws_cas (σ : SV) (v : Nat → Int32) : g_nws (s_cas σ v) = g_nws σ := rfl
theorem gs_nws_hrs (σ : SV) (v : Nat → Int32) : g_nws (s_hrs σ v) = g_nws σ := rfl
theorem gs_nws_nws (σ : SV) (v : Nat → Int32) : g_nws (s_nws σ v) = v := rfl
theorem gs_nws_hat (σ : SV) (v : Nat → UInt32) : g_nws (s_hat σ v) = g_nws σ := rfl
theorem gs_nws_wea (σ : SV) (v : Nat → UInt32) : g_nws (s_wea σ v) = g_nws σ := rfl
theorem gs_nws_row (σ : SV) (v : Nat → UInt32) : g_nws (s_row σ v) = g_nws σ := rfl
theorem gs_hat_hour (σ : SV) (v : Int32) : g_hat (s_hour σ v) = g_hat σ := rfl
theorem gs_hat_crowd (σ : SV) (v : Int32) : g_hat (s_crowd σ v) = g_hat σ := rfl
theorem gs_hat_buskers (σ : SV) (v : Int32) : g_hat (s_buskers σ v) = g_hat σ := rfl
theorem gs_hat_answered (σ : SV) (v : Int32) : g_hat (s_answered σ v) = g_hat σ := rfl
theorem gs_hat_draws (σ : SV) (v : Int32) : g_hat (s_draws σ v) = g_hat σ := rfl
theorem gs_hat_lim (σ : SV) (v : Nat → UInt32) : g_hat (s_lim σ v) = g_hat σ := rfl
theorem gs_hat_cmp (σ : SV) (v : Nat → Int32) : g_hat (s_cmp σ v) = g_hat σ := rfl
theorem gs_hat_sof (σ : SV) (v : Nat → Int32) : g_hat (s_sof σ v) = g_hat σ := rfl
theorem gs_hat_kin (σ : SV) (v : Nat → Int32) : g_hat (s_kin σ v) = g_hat σ := rfl
theorem gs_hat_lou (σ : SV) (v : Nat → Int32) : g_hat (s_lou σ v) = g_hat σ := rfl
theorem gs_hat_pit (σ : SV) (v : Nat → Int32) : g_hat (s_pit σ v) = g_hat σ := rfl
theorem gs_hat_pla (σ : SV) (v : Nat → Int32) : g_hat (s_pla σ v) = g_hat σ := rfl
theorem gs_hat_cas (σ : SV) (v : Nat → Int32) : g_hat (s_cas σ v) = g_hat σ := rfl
theorem gs_hat_hrs (σ : SV) (v : Nat → Int32) : g_hat (s_hrs σ v) = g_hat σ := rfl
theorem gs_hat_nws (σ : SV) (v : Nat → Int32) : g_hat (s_nws σ v) = g_hat σ := rfl
theorem gs_hat_hat (σ : SV) (v : Nat → UInt32) : g_hat (s_hat σ v) = v := rfl
theorem gs_hat_wea (σ : SV) (v : Nat → UInt32) : g_hat (s_wea σ v) = g_hat σ := rfl
theorem gs_hat_row (σ : SV) (v : Nat → UInt32) : g_hat (s_row σ v) = g_hat σ := rfl
theorem gs_wea_hour (σ : SV) (v : Int32) : g_wea (s_hour σ v) = g_wea σ := rfl
theorem gs_wea_crowd (σ : SV) (v : Int32) : g_wea (s_crowd σ v) = g_wea σ := rfl
theorem gs_wea_buskers (σ : SV) (v : Int32) : g_wea (s_buskers σ v) = g_wea σ := rfl
theorem gs_wea_answered (σ : SV) (v : Int32) : g_wea (s_answered σ v) = g_wea σ := rfl
theorem gs_wea_draws (σ : SV) (v : Int32) : g_wea (s_draws σ v) = g_wea σ := rfl
theorem gs_wea_lim (σ : SV) (v : Nat → UInt32) : g_wea (s_lim σ v) = g_wea σ := rfl
theorem gs_wea_cmp (σ : SV) (v : Nat → Int32) : g_wea (s_cmp σ v) = g_wea σ := rfl
theorem gs_wea_sof (σ : SV) (v : Nat → Int32) : g_wea (s_sof σ v) = g_wea σ := rfl
theorem gs_wea_kin (σ : SV) (v : Nat → Int32) : g_wea (s_kin σ v) = g_wea σ := rfl
theorem gs_wea_lou (σ : SV) (v : Nat → Int32) : g_wea (s_lou σ v) = g_wea σ := rfl
theorem gs_wea_pit (σ : SV) (v : Nat → Int32) : g_wea (s_pit σ v) = g_wea σ := rfl
theorem gs_wea_pla (σ : SV) (v : Nat → Int32) : g_wea (s_pla σ v) = g_wea σ := rfl
theorem gs_wea_cas (σ : SV) (v : Nat → Int32) : g_wea (s_cas σ v) = g_wea σ := rfl
theorem gs_wea_hrs (σ : SV) (v : Nat → Int32) : g_wea (s_hrs σ v) = g_wea σ := rfl
theorem gs_wea_nws (σ : SV) (v : Nat → Int32) : g_wea (s_nws σ v) = g_wea σ := rfl
theorem gs_wea_hat (σ : SV) (v : Nat → UInt32) : g_wea (s_hat σ v) = g_wea σ := rfl
theorem gs_wea_wea (σ : SV) (v : Nat → UInt32) : g_wea (s_wea σ v) = v := rfl
theorem gs_wea_row (σ : SV) (v : Nat → UInt32) : g_wea (s_row σ v) = g_wea σ := rfl
theorem gs_row_hour (σ : SV) (v : Int32) : g_row (s_hour σ v) = g_row σ := rfl
theorem gs_row_crowd (σ : SV) (v : Int32) : g_row (s_crowd σ v) = g_row σ := rfl
theorem gs_row_buskers (σ : SV) (v : Int32) : g_row (s_buskers σ v) = g_row σ := rfl
theorem gs_row_answered (σ : SV) (v : Int32) : g_row (s_answered σ v) = g_row σ := rfl
theorem gs_row_draws (σ : SV) (v : Int32) : g_row (s_draws σ v) = g_row σ := rfl
theorem gs_row_lim (σ : SV) (v : Nat → UInt32) : g_row (s_lim σ v) = g_row σ := rfl
theorem gs_row_cmp (σ : SV) (v : Nat → Int32) : g_row (s_cmp σ v) = g_row σ := rfl
theorem gs_row_sof (σ : SV) (v : Nat → Int32) : g_row (s_sof σ v) = g_row σ := rfl
theorem gs_row_kin (σ : SV) (v : Nat → Int32) : g_row (s_kin σ v) = g_row σ := rfl
theorem gs_row_lou (σ : SV) (v : Nat → Int32) : g_row (s_lou σ v) = g_row σ := rfl
theorem gs_row_pit (σ : SV) (v : Nat → Int32) : g_row (s_pit σ v) = g_row σ := rfl
theorem gs_row_pla (σ : SV) (v : Nat → Int32) : g_row (s_pla σ v) = g_row σ := rfl
theorem gs_row_cas (σ : SV) (v : Nat → Int32) : g_row (s_cas σ v) = g_row σ := rfl
theorem gs_row_hrs (σ : SV) (v : Nat → Int32) : g_row (s_hrs σ v) = g_row σ := rfl
theorem gs_row_nws (σ : SV) (v : Nat → Int32) : g_row (s_nws σ v) = g_row σ := rfl
theorem gs_row_hat (σ : SV) (v : Nat → UInt32) : g_row (s_hat σ v) = g_row σ := rfl
theorem gs_row_wea (σ : SV) (v : Nat → UInt32) : g_row (s_wea σ v) = g_row σ := rfl
theorem gs_row_row (σ : SV) (v : Nat → UInt32) : g_row (s_row σ v) = v := rfl
