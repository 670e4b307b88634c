/-! the sixty methods over the machine, and all of them together -/
theorem km_row (a1 : Int32) (a2 : Int32) (a3 : Int32) : kl_simI kv_Inv T_X4_row T_X5_row [.int a1, .int a2, .int a3] := by
  intro Mx Mm h
  obtain ⟨r, Mx', Mm', p, q, h'⟩ := kv_s_row h a1 a2 a3
  exact ⟨r, Mx', Mm', c_X4_row (d := 58) a1 a2 a3 Mx r Mx' p, c_X5_row (d := 58) a1 a2 a3 Mm r Mm' q, h'⟩
theorem km_set (a1 : Int32) (a2 : Int32) (a3 : Int64) : kl_simI kv_Inv T_X4_set T_X5_set [.int a1, .int a2, .long a3] := by
  intro Mx Mm h
  obtain ⟨r, Mx', Mm', p, q, h'⟩ := kv_s_set h a1 a2 a3
  exact ⟨r, Mx', Mm', c_X4_set (d := 57) a1 a2 a3 Mx r Mx' p, c_X5_set (d := 58) a1 a2 a3 Mm r Mm' q, h'⟩
theorem km_copy (a1 : Int32) (a2 : Int32) (a3 : Int32) (a4 : Int32) (a5 : Int32) : kl_simI kv_Inv T_X4_copy T_X5_copy [.int a1, .int a2, .int a3, .int a4, .int a5] := by
  intro Mx Mm h
  obtain ⟨r, Mx', Mm', p, q, h'⟩ := kv_s_copy h a1 a2 a3 a4 a5
  exact ⟨r, Mx', Mm', c_X4_copy (d := 57) a1 a2 a3 a4 a5 Mx r Mx' p, c_X5_copy (d := 58) a1 a2 a3 a4 a5 Mm r Mm' q, h'⟩
theorem km_element (a1 : Int32) (a2 : Int32) : kl_simL kv_Inv T_X4_element T_X5_element [.int a1, .int a2] := by
  intro Mx Mm h
  obtain ⟨r, p, q⟩ := kv_s_element h a1 a2
  exact ⟨r, Mx, Mm, c_X4_element (d := 58) a1 a2 Mx r p, c_X5_element (d := 58) a1 a2 Mm r q, h⟩
theorem km_holds (a1 : Int32) : kl_simI kv_Inv T_X4_holds T_X5_holds [.int a1] := by
  intro Mx Mm h
  obtain ⟨r, p, q⟩ := kv_s_holds h a1
  exact ⟨r, Mx, Mm, c_X4_holds (d := 58) a1 Mx r p, c_X5_holds (d := 58) a1 Mm r q, h⟩
theorem km_show (a1 : Int32) (a2 : Int32) : kl_simI kv_Inv T_X4_show T_X5_show [.int a1, .int a2] := by
  intro Mx Mm h
  obtain ⟨r, Mx', Mm', p, q, h'⟩ := kv_s_show h a1 a2
  exact ⟨r, Mx', Mm', c_X4_show (d := 58) a1 a2 Mx r Mx' p, c_X5_show (d := 58) a1 a2 Mm r Mm' q, h'⟩
theorem km_says (a1 : Int32) (a2 : Int32) : kl_simI kv_Inv T_X4_says T_X5_says [.int a1, .int a2] := by
  intro Mx Mm h
  obtain ⟨r, Mx', Mm', p, q, h'⟩ := kv_s_says h a1 a2
  exact ⟨r, Mx', Mm', c_X4_says (d := 57) a1 a2 Mx r Mx' p, c_X5_says (d := 57) a1 a2 Mm r Mm' q, h'⟩
theorem km_paves (a1 : Int32) : kl_simI kv_Inv T_X4_paves T_X5_paves [.int a1] := by
  intro Mx Mm h
  obtain ⟨r, Mx', Mm', p, q, h'⟩ := kv_s_paves h a1
  exact ⟨r, Mx', Mm', c_X4_paves (d := 57) a1 Mx r Mx' p, c_X5_paves (d := 59) a1 Mm r Mm' q, h'⟩
theorem km_visitor (a1 : Int32) (a2 : Int32) (a3 : Int32) : kl_simI kv_Inv T_X4_visitor T_X5_visitor [.int a1, .int a2, .int a3] := by
  intro Mx Mm h
  obtain ⟨r, Mx', Mm', p, q, h'⟩ := kv_s_visitor h a1 a2 a3
  exact ⟨r, Mx', Mm', c_X4_visitor (d := 58) a1 a2 a3 Mx r Mx' p, c_X5_visitor (d := 59) a1 a2 a3 Mm r Mm' q, h'⟩
theorem km_wants (a1 : Int32) (a2 : Int32) : kl_simI kv_Inv T_X4_wants T_X5_wants [.int a1, .int a2] := by
  intro Mx Mm h
  obtain ⟨r, Mx', Mm', p, q, h'⟩ := kv_s_wants h a1 a2
  exact ⟨r, Mx', Mm', c_X4_wants (d := 58) a1 a2 Mx r Mx' p, c_X5_wants (d := 58) a1 a2 Mm r Mm' q, h'⟩
theorem km_mark (a1 : Int32) (a2 : Int32) (a3 : Int32) : kl_simI kv_Inv T_X4_mark T_X5_mark [.int a1, .int a2, .int a3] := by
  intro Mx Mm h
  obtain ⟨r, Mx', Mm', p, q, h'⟩ := kv_s_mark h a1 a2 a3
  exact ⟨r, Mx', Mm', c_X4_mark (d := 57) a1 a2 a3 Mx r Mx' p, c_X5_mark (d := 58) a1 a2 a3 Mm r Mm' q, h'⟩
theorem km_tell (a1 : Int32) (a2 : Int32) : kl_simI kv_Inv T_X4_tell T_X5_tell [.int a1, .int a2] := by
  intro Mx Mm h
  obtain ⟨r, Mx', Mm', p, q, h'⟩ := kv_s_tell h a1 a2
  exact ⟨r, Mx', Mm', c_X4_tell (d := 58) a1 a2 Mx r Mx' p, c_X5_tell (d := 59) a1 a2 Mm r Mm' q, h'⟩
theorem km_feed (a1 : Int32) : kl_simI kv_Inv T_X4_feed T_X5_feed [.int a1] := by
  intro Mx Mm h
  obtain ⟨r, Mx', Mm', p, q, h'⟩ := kv_s_feed h a1
  exact ⟨r, Mx', Mm', c_X4_feed (d := 58) a1 Mx r Mx' p, c_X5_feed (d := 59) a1 Mm r Mm' q, h'⟩
theorem km_wipe : kl_simI kv_Inv T_X4_wipe T_X5_wipe [] := by
  intro Mx Mm h
  obtain ⟨r, Mx', Mm', p, q, h'⟩ := kv_s_wipe h
  exact ⟨r, Mx', Mm', c_X4_wipe (d := 60) Mx r Mx' p, c_X5_wipe (d := 60) Mm r Mm' q, h'⟩
theorem km_view : kl_simI kv_Inv T_X4_view T_X5_view [] := by
  intro Mx Mm h
  obtain ⟨r, Mx', Mm', p, q, h'⟩ := kv_s_view h
  exact ⟨r, Mx', Mm', c_X4_view (d := 53) Mx r Mx' p, c_X5_view (d := 54) Mm r Mm' q, h'⟩
theorem km_visitorOf (a1 : Int32) (a2 : Int32) : kl_simI kv_Inv T_X4_visitorOf T_X5_visitorOf [.int a1, .int a2] := by
  intro Mx Mm h
  obtain ⟨r, Mx', Mm', p, q, h'⟩ := kv_s_visitorOf h a1 a2
  exact ⟨r, Mx', Mm', c_X4_visitorOf (d := 58) a1 a2 Mx r Mx' p, c_X5_visitorOf (d := 58) a1 a2 Mm r Mm' q, h'⟩
theorem km_cellOf (a1 : Int32) (a2 : Int32) : kl_simI kv_Inv T_X4_cellOf T_X5_cellOf [.int a1, .int a2] := by
  intro Mx Mm h
  obtain ⟨r, Mx', Mm', p, q, h'⟩ := kv_s_cellOf h a1 a2
  exact ⟨r, Mx', Mm', c_X4_cellOf (d := 58) a1 a2 Mx r Mx' p, c_X5_cellOf (d := 58) a1 a2 Mm r Mm' q, h'⟩
theorem km_open (a1 : Int32) (a2 : Int32) : kl_simI kv_Inv T_X4_open T_X5_open [.int a1, .int a2] := by
  intro Mx Mm h
  obtain ⟨r, Mx', Mm', p, q, h'⟩ := kv_s_open h a1 a2
  exact ⟨r, Mx', Mm', c_X4_open (d := 57) a1 a2 Mx r Mx' p, c_X5_open (d := 57) a1 a2 Mm r Mm' q, h'⟩
theorem km_shown (a1 : Int32) (a2 : Int32) : kl_simI kv_Inv T_X4_shown T_X5_shown [.int a1, .int a2] := by
  intro Mx Mm h
  obtain ⟨r, Mx', Mm', p, q, h'⟩ := kv_s_shown h a1 a2
  exact ⟨r, Mx', Mm', c_X4_shown (d := 56) a1 a2 Mx r Mx' p, c_X5_shown (d := 56) a1 a2 Mm r Mm' q, h'⟩
theorem km_known (a1 : Int32) : kl_simI kv_Inv T_X4_known T_X5_known [.int a1] := by
  intro Mx Mm h
  obtain ⟨r, Mx', Mm', p, q, h'⟩ := kv_s_known h a1
  exact ⟨r, Mx', Mm', c_X4_known (d := 58) a1 Mx r Mx' p, c_X5_known (d := 58) a1 Mm r Mm' q, h'⟩
theorem km_fresh (a1 : Int32) : kl_simI kv_Inv T_X4_fresh T_X5_fresh [.int a1] := by
  intro Mx Mm h
  obtain ⟨r, Mx', Mm', p, q, h'⟩ := kv_s_fresh h a1
  exact ⟨r, Mx', Mm', c_X4_fresh (d := 54) a1 Mx r Mx' p, c_X5_fresh (d := 54) a1 Mm r Mm' q, h'⟩
theorem km_veilThen (a1 : Int32) : kl_simI kv_Inv T_X4_veilThen T_X5_veilThen [.int a1] := by
  intro Mx Mm h
  obtain ⟨r, Mx', Mm', p, q, h'⟩ := kv_s_veilThen h a1
  exact ⟨r, Mx', Mm', c_X4_veilThen (d := 57) a1 Mx r Mx' p, c_X5_veilThen (d := 57) a1 Mm r Mm' q, h'⟩
theorem km_send (a1 : Int32) : kl_simI kv_Inv T_X4_send T_X5_send [.int a1] := by
  intro Mx Mm h
  obtain ⟨r, Mx', Mm', p, q, h'⟩ := kv_s_send h a1
  exact ⟨r, Mx', Mm', c_X4_send (d := 54) a1 Mx r Mx' p, c_X5_send (d := 54) a1 Mm r Mm' q, h'⟩
theorem km_fewest (a1 : Int32) : kl_simI kv_Inv T_X4_fewest T_X5_fewest [.int a1] := by
  intro Mx Mm h
  obtain ⟨r, Mx', Mm', p, q, h'⟩ := kv_s_fewest h a1
  exact ⟨r, Mx', Mm', c_X4_fewest (d := 55) a1 Mx r Mx' p, c_X5_fewest (d := 55) a1 Mm r Mm' q, h'⟩
theorem km_order (a1 : Int32) (a2 : Int32) : kl_simI kv_Inv T_X4_order T_X5_order [.int a1, .int a2] := by
  intro Mx Mm h
  obtain ⟨r, Mx', Mm', p, q, h'⟩ := kv_s_order h a1 a2
  exact ⟨r, Mx', Mm', c_X4_order (d := 46) a1 a2 Mx r Mx' p, c_X5_order (d := 47) a1 a2 Mm r Mm' q, h'⟩
theorem km_how (a1 : Int32) (a2 : Int32) : kl_simI kv_Inv T_X4_how T_X5_how [.int a1, .int a2] := by
  intro Mx Mm h
  obtain ⟨r, Mx', Mm', p, q, h'⟩ := kv_s_how h a1 a2
  exact ⟨r, Mx', Mm', c_X4_how (d := 56) a1 a2 Mx r Mx' p, c_X5_how (d := 55) a1 a2 Mm r Mm' q, h'⟩
theorem km_lifted (a1 : Int32) (a2 : Int32) (a3 : Int32) : kl_simI kv_Inv T_X4_lifted T_X5_lifted [.int a1, .int a2, .int a3] := by
  intro Mx Mm h
  obtain ⟨r, Mx', Mm', p, q, h'⟩ := kv_s_lifted h a1 a2 a3
  exact ⟨r, Mx', Mm', c_X4_lifted (d := 55) a1 a2 a3 Mx r Mx' p, c_X5_lifted (d := 55) a1 a2 a3 Mm r Mm' q, h'⟩
theorem km_register (a1 : Int32) (a2 : Int32) (a3 : Int32) (a4 : Int32) : kl_simI kv_Inv T_X4_register T_X5_register [.int a1, .int a2, .int a3, .int a4] := by
  intro Mx Mm h
  obtain ⟨r, Mx', Mm', p, q, h'⟩ := kv_s_register h a1 a2 a3 a4
  exact ⟨r, Mx', Mm', c_X4_register (d := 57) a1 a2 a3 a4 Mx r Mx' p, c_X5_register (d := 54) a1 a2 a3 a4 Mm r Mm' q, h'⟩
theorem km_fits (a1 : Int32) (a2 : Int32) (a3 : Int32) (a4 : Int32) : kl_simI kv_Inv T_X4_fits T_X5_fits [.int a1, .int a2, .int a3, .int a4] := by
  intro Mx Mm h
  obtain ⟨r, Mx', Mm', p, q, h'⟩ := kv_s_fits h a1 a2 a3 a4
  exact ⟨r, Mx', Mm', c_X4_fits (d := 55) a1 a2 a3 a4 Mx r Mx' p, c_X5_fits (d := 54) a1 a2 a3 a4 Mm r Mm' q, h'⟩
theorem km_together : kl_simI kv_Inv T_X4_together T_X5_together [] := by
  intro Mx Mm h
  obtain ⟨r, p, q⟩ := kv_s_together h
  exact ⟨r, Mx, Mm, c_X4_together (d := 58) Mx r p, c_X5_together (d := 57) Mm r q, h⟩
theorem km_needed : kl_simI kv_Inv T_X4_needed T_X5_needed [] := by
  intro Mx Mm h
  obtain ⟨r, p, q⟩ := kv_s_needed h
  exact ⟨r, Mx, Mm, c_X4_needed (d := 58) Mx r p, c_X5_needed (d := 58) Mm r q, h⟩
theorem km_picture (a1 : Int32) (a2 : Int32) (a3 : Int32) : kl_simI kv_Inv T_X4_picture T_X5_picture [.int a1, .int a2, .int a3] := by
  intro Mx Mm h
  obtain ⟨r, Mx', Mm', p, q, h'⟩ := kv_s_picture h a1 a2 a3
  exact ⟨r, Mx', Mm', c_X4_picture (d := 57) a1 a2 a3 Mx r Mx' p, c_X5_picture (d := 57) a1 a2 a3 Mm r Mm' q, h'⟩
theorem km_lift (a1 : Int32) (a2 : Int32) : kl_simI kv_Inv T_X4_lift T_X5_lift [.int a1, .int a2] := by
  intro Mx Mm h
  obtain ⟨r, Mx', Mm', p, q, h'⟩ := kv_s_lift h a1 a2
  exact ⟨r, Mx', Mm', c_X4_lift (d := 49) a1 a2 Mx r Mx' p, c_X5_lift (d := 49) a1 a2 Mm r Mm' q, h'⟩
theorem km_chance (a1 : Int32) (a2 : Int32) : kl_simI kv_Inv T_X4_chance T_X5_chance [.int a1, .int a2] := by
  intro Mx Mm h
  obtain ⟨r, Mx', Mm', p, q, h'⟩ := kv_s_chance h a1 a2
  exact ⟨r, Mx', Mm', c_X4_chance (d := 56) a1 a2 Mx r Mx' p, c_X5_chance (d := 55) a1 a2 Mm r Mm' q, h'⟩
theorem km_mean (a1 : Int32) : kl_simI kv_Inv T_X4_mean T_X5_mean [.int a1] := by
  intro Mx Mm h
  obtain ⟨r, Mx', Mm', p, q, h'⟩ := kv_s_mean h a1
  exact ⟨r, Mx', Mm', c_X4_mean (d := 56) a1 Mx r Mx' p, c_X5_mean (d := 55) a1 Mm r Mm' q, h'⟩
theorem km_hidden : kl_simI kv_Inv T_X4_hidden T_X5_hidden [] := by
  intro Mx Mm h
  obtain ⟨r, p, q⟩ := kv_s_hidden h
  exact ⟨r, Mx, Mm, c_X4_hidden (d := 55) Mx r p, c_X5_hidden (d := 55) Mm r q, h⟩
theorem km_best (a1 : Int32) : kl_simI kv_Inv T_X4_best T_X5_best [.int a1] := by
  intro Mx Mm h
  obtain ⟨r, Mx', Mm', p, q, h'⟩ := kv_s_best h a1
  exact ⟨r, Mx', Mm', c_X4_best (d := 55) a1 Mx r Mx' p, c_X5_best (d := 55) a1 Mm r Mm' q, h'⟩
theorem km_mate (a1 : Int32) : kl_simI kv_Inv T_X4_mate T_X5_mate [.int a1] := by
  intro Mx Mm h
  obtain ⟨r, Mx', Mm', p, q, h'⟩ := kv_s_mate h a1
  exact ⟨r, Mx', Mm', c_X4_mate (d := 56) a1 Mx r Mx' p, c_X5_mate (d := 56) a1 Mm r Mm' q, h'⟩
theorem km_rarest (a1 : Int32) : kl_simI kv_Inv T_X4_rarest T_X5_rarest [.int a1] := by
  intro Mx Mm h
  obtain ⟨r, Mx', Mm', p, q, h'⟩ := kv_s_rarest h a1
  exact ⟨r, Mx', Mm', c_X4_rarest (d := 58) a1 Mx r Mx' p, c_X5_rarest (d := 58) a1 Mm r Mm' q, h'⟩
theorem km_both (a1 : Int32) (a2 : Int32) : kl_simI kv_Inv T_X4_both T_X5_both [.int a1, .int a2] := by
  intro Mx Mm h
  obtain ⟨r, Mx', Mm', p, q, h'⟩ := kv_s_both h a1 a2
  exact ⟨r, Mx', Mm', c_X4_both (d := 58) a1 a2 Mx r Mx' p, c_X5_both (d := 58) a1 a2 Mm r Mm' q, h'⟩
theorem km_visitsTill (a1 : Int32) (a2 : Int32) : kl_simI kv_Inv T_X4_visitsTill T_X5_visitsTill [.int a1, .int a2] := by
  intro Mx Mm h
  obtain ⟨r, Mx', Mm', p, q, h'⟩ := kv_s_visitsTill h a1 a2
  exact ⟨r, Mx', Mm', c_X4_visitsTill (d := 55) a1 a2 Mx r Mx' p, c_X5_visitsTill (d := 55) a1 a2 Mm r Mm' q, h'⟩
theorem km_who (a1 : Int32) : kl_simI kv_Inv T_X4_who T_X5_who [.int a1] := by
  intro Mx Mm h
  obtain ⟨r, Mx', Mm', p, q, h'⟩ := kv_s_who h a1
  exact ⟨r, Mx', Mm', c_X4_who (d := 55) a1 Mx r Mx' p, c_X5_who (d := 55) a1 Mm r Mm' q, h'⟩
theorem km_company (a1 : Int32) : kl_simI kv_Inv T_X4_company T_X5_company [.int a1] := by
  intro Mx Mm h
  obtain ⟨r, Mx', Mm', p, q, h'⟩ := kv_s_company h a1
  exact ⟨r, Mx', Mm', c_X4_company (d := 56) a1 Mx r Mx' p, c_X5_company (d := 56) a1 Mm r Mm' q, h'⟩
theorem km_spoiler (a1 : Int32) : kl_simI kv_Inv T_X4_spoiler T_X5_spoiler [.int a1] := by
  intro Mx Mm h
  obtain ⟨r, Mx', Mm', p, q, h'⟩ := kv_s_spoiler h a1
  exact ⟨r, Mx', Mm', c_X4_spoiler (d := 55) a1 Mx r Mx' p, c_X5_spoiler (d := 55) a1 Mm r Mm' q, h'⟩
theorem km_split (a1 : Int32) (a2 : Int32) : kl_simI kv_Inv T_X4_split T_X5_split [.int a1, .int a2] := by
  intro Mx Mm h
  obtain ⟨r, Mx', Mm', p, q, h'⟩ := kv_s_split h a1 a2
  exact ⟨r, Mx', Mm', c_X4_split (d := 54) a1 a2 Mx r Mx' p, c_X5_split (d := 55) a1 a2 Mm r Mm' q, h'⟩
theorem km_couple : kl_simI kv_Inv T_X4_couple T_X5_couple [] := by
  intro Mx Mm h
  obtain ⟨r, p, q⟩ := kv_s_couple h
  exact ⟨r, Mx, Mm, c_X4_couple (d := 59) Mx r p, c_X5_couple (d := 59) Mm r q, h⟩
theorem km_secret (a1 : Int32) : kl_simI kv_Inv T_X4_secret T_X5_secret [.int a1] := by
  intro Mx Mm h
  obtain ⟨r, Mx', Mm', p, q, h'⟩ := kv_s_secret h a1
  exact ⟨r, Mx', Mm', c_X4_secret (d := 58) a1 Mx r Mx' p, c_X5_secret (d := 58) a1 Mm r Mm' q, h'⟩
theorem km_rank (a1 : Int32) : kl_simI kv_Inv T_X4_rank T_X5_rank [.int a1] := by
  intro Mx Mm h
  obtain ⟨r, Mx', Mm', p, q, h'⟩ := kv_s_rank h a1
  exact ⟨r, Mx', Mm', c_X4_rank (d := 58) a1 Mx r Mx' p, c_X5_rank (d := 58) a1 Mm r Mm' q, h'⟩
theorem km_blind (a1 : Int32) : kl_simI kv_Inv T_X4_blind T_X5_blind [.int a1] := by
  intro Mx Mm h
  obtain ⟨r, Mx', Mm', p, q, h'⟩ := kv_s_blind h a1
  exact ⟨r, Mx', Mm', c_X4_blind (d := 55) a1 Mx r Mx' p, c_X5_blind (d := 55) a1 Mm r Mm' q, h'⟩
theorem km_shyest (a1 : Int32) : kl_simI kv_Inv T_X4_shyest T_X5_shyest [.int a1] := by
  intro Mx Mm h
  obtain ⟨r, Mx', Mm', p, q, h'⟩ := kv_s_shyest h a1
  exact ⟨r, Mx', Mm', c_X4_shyest (d := 58) a1 Mx r Mx' p, c_X5_shyest (d := 58) a1 Mm r Mm' q, h'⟩
theorem km_alike (a1 : Int32) (a2 : Int32) : kl_simI kv_Inv T_X4_alike T_X5_alike [.int a1, .int a2] := by
  intro Mx Mm h
  obtain ⟨r, Mx', Mm', p, q, h'⟩ := kv_s_alike h a1 a2
  exact ⟨r, Mx', Mm', c_X4_alike (d := 55) a1 a2 Mx r Mx' p, c_X5_alike (d := 55) a1 a2 Mm r Mm' q, h'⟩
theorem km_ofKind (a1 : Int32) : kl_simI kv_Inv T_X4_ofKind T_X5_ofKind [.int a1] := by
  intro Mx Mm h
  obtain ⟨r, Mx', Mm', p, q, h'⟩ := kv_s_ofKind h a1
  exact ⟨r, Mx', Mm', c_X4_ofKind (d := 58) a1 Mx r Mx' p, c_X5_ofKind (d := 59) a1 Mm r Mm' q, h'⟩
theorem km_judge (a1 : Int32) (a2 : Int32) : kl_simI kv_Inv T_X4_judge T_X5_judge [.int a1, .int a2] := by
  intro Mx Mm h
  obtain ⟨r, Mx', Mm', p, q, h'⟩ := kv_s_judge h a1 a2
  exact ⟨r, Mx', Mm', c_X4_judge (d := 57) a1 a2 Mx r Mx' p, c_X5_judge (d := 57) a1 a2 Mm r Mm' q, h'⟩
theorem km_behind (a1 : Int32) (a2 : Int32) (a3 : Int32) : kl_simI kv_Inv T_X4_behind T_X5_behind [.int a1, .int a2, .int a3] := by
  intro Mx Mm h
  obtain ⟨r, Mx', Mm', p, q, h'⟩ := kv_s_behind h a1 a2 a3
  exact ⟨r, Mx', Mm', c_X4_behind (d := 55) a1 a2 a3 Mx r Mx' p, c_X5_behind (d := 55) a1 a2 a3 Mm r Mm' q, h'⟩
theorem km_visit (a1 : Int32) : kl_simI kv_Inv T_X4_visit T_X5_visit [.int a1] := by
  intro Mx Mm h
  obtain ⟨r, Mx', Mm', p, q, h'⟩ := kv_s_visit h a1
  exact ⟨r, Mx', Mm', c_X4_visit (d := 54) a1 Mx r Mx' p, c_X5_visit (d := 54) a1 Mm r Mm' q, h'⟩
theorem km_days (a1 : Int32) : kl_simI kv_Inv T_X4_days T_X5_days [.int a1] := by
  intro Mx Mm h
  obtain ⟨r, Mx', Mm', p, q, h'⟩ := kv_s_days h a1
  exact ⟨r, Mx', Mm', c_X4_days (d := 53) a1 Mx r Mx' p, c_X5_days (d := 54) a1 Mm r Mm' q, h'⟩
theorem km_seed (a1 : Int32) : kl_simI kv_Inv T_X4_seed T_X5_seed [.int a1] := by
  intro Mx Mm h
  obtain ⟨r, Mx', Mm', p, q, h'⟩ := kv_s_seed h a1
  exact ⟨r, Mx', Mm', c_X4_seed (d := 60) a1 Mx r Mx' p, c_X5_seed (d := 60) a1 Mm r Mm' q, h'⟩
theorem km_image : kl_simI kv_Inv T_X4_image T_X5_image [] := by
  intro Mx Mm h
  obtain ⟨r, Mx', Mm', p, q, h'⟩ := kv_s_image h
  exact ⟨r, Mx', Mm', c_X4_image (d := 58) Mx r Mx' p, c_X5_image (d := 59) Mm r Mm' q, h'⟩
theorem km_back : kl_simI kv_Inv T_X4_back T_X5_back [] := by
  intro Mx Mm h
  obtain ⟨r, Mx', Mm', p, q, h'⟩ := kv_s_back h
  exact ⟨r, Mx', Mm', c_X4_back (d := 58) Mx r Mx' p, c_X5_back (d := 59) Mm r Mm' q, h'⟩
theorem km_status (a1 : Int32) : kl_simI kv_Inv T_X4_status T_X5_status [.int a1] := by
  intro Mx Mm h
  obtain ⟨r, p, q⟩ := kv_s_status h a1
  exact ⟨r, Mx, Mm, c_X4_status (d := 58) a1 Mx r p, c_X5_status (d := 58) a1 Mm r q, h⟩
theorem km_all : kl_All kv_Inv := ⟨km_row, km_set, km_copy, km_element, km_holds, km_show, km_says, km_paves, km_visitor, km_wants, km_mark, km_tell, km_feed, km_wipe, km_view, km_visitorOf, km_cellOf, km_open, km_shown, km_known, km_fresh, km_veilThen, km_send, km_fewest, km_order, km_how, km_lifted, km_register, km_fits, km_together, km_needed, km_picture, km_lift, km_chance, km_mean, km_hidden, km_best, km_mate, km_rarest, km_both, km_visitsTill, km_who, km_company, km_spoiler, km_split, km_couple, km_secret, km_rank, km_blind, km_shyest, km_alike, km_ofKind, km_judge, km_behind, km_visit, km_days, km_seed, km_image, km_back, km_status⟩
