/-! what the class leaves alone of the reference, and the other way round -/
theorem fz_begin (I : tq_I) (W H t : Int32) (w h o c L : Nat) {cz : Nat} (hc : 117 ≤ cz) (j : Nat) : I_X11_begin I W H t w h o c L cz j = I cz j := by
  unfold I_X11_begin
  (repeat' split) <;> first | with_reducible rfl | simp (disch := omega) only [fr_X8_startMap, fr_rec, fr_X8_changeCorner, fr_cb1, fr_cb2, fr_X8_changeBlock, fr_fl1, fr_X5_gather, fr_X5_forget, fr_ra1, fr_ra2, fr_X8_changePath, fr_X6_moveTo, fr_X11_touchAllIf, fr_X10_choose, fr_X7_draw, fr_X11_staleAt, fr_st1, fr_st2, fr_X11_renew, fr_pa1, fr_pa2, fr_X9_take, fr_append111, fr_X4_faultOf, tq_u_cell, tq_cp_cell, tq_res, tq_cpSt_cell, fr_X11_regions, fr_X11_write]
theorem fz_setCorner (I : tq_I) (x y t : Int32) (w h o c L : Nat) {cz : Nat} (hc : 117 ≤ cz) (j : Nat) : I_X11_setCorner I x y t w h o c L cz j = I cz j := by
  unfold I_X11_setCorner
  (repeat' split) <;> first | with_reducible rfl | simp (disch := omega) only [fr_X8_startMap, fr_rec, fr_X8_changeCorner, fr_cb1, fr_cb2, fr_X8_changeBlock, fr_fl1, fr_X5_gather, fr_X5_forget, fr_ra1, fr_ra2, fr_X8_changePath, fr_X6_moveTo, fr_X11_touchAllIf, fr_X10_choose, fr_X7_draw, fr_X11_staleAt, fr_st1, fr_st2, fr_X11_renew, fr_pa1, fr_pa2, fr_X9_take, fr_append111, fr_X4_faultOf, tq_u_cell, tq_cp_cell, tq_res, tq_cpSt_cell, fr_X11_regions, fr_X11_write]
theorem fz_fill (I : tq_I) (x y u v t : Int32) (w h o c L : Nat) {cz : Nat} (hc : 117 ≤ cz) (j : Nat) : I_X11_fill I x y u v t w h o c L cz j = I cz j := by
  unfold I_X11_fill
  (repeat' split) <;> first | with_reducible rfl | simp (disch := omega) only [fr_X8_startMap, fr_rec, fr_X8_changeCorner, fr_cb1, fr_cb2, fr_X8_changeBlock, fr_fl1, fr_X5_gather, fr_X5_forget, fr_ra1, fr_ra2, fr_X8_changePath, fr_X6_moveTo, fr_X11_touchAllIf, fr_X10_choose, fr_X7_draw, fr_X11_staleAt, fr_st1, fr_st2, fr_X11_renew, fr_pa1, fr_pa2, fr_X9_take, fr_append111, fr_X4_faultOf, tq_u_cell, tq_cp_cell, tq_res, tq_cpSt_cell, fr_X11_regions, fr_X11_write]
theorem fz_flood (I : tq_I) (x y t : Int32) (w h o c L : Nat) {cz : Nat} (hc : 117 ≤ cz) (j : Nat) : I_X11_flood I x y t w h o c L cz j = I cz j := by
  unfold I_X11_flood
  (repeat' split) <;> first | with_reducible rfl | simp (disch := omega) only [fr_X8_startMap, fr_rec, fr_X8_changeCorner, fr_cb1, fr_cb2, fr_X8_changeBlock, fr_fl1, fr_X5_gather, fr_X5_forget, fr_ra1, fr_ra2, fr_X8_changePath, fr_X6_moveTo, fr_X11_touchAllIf, fr_X10_choose, fr_X7_draw, fr_X11_staleAt, fr_st1, fr_st2, fr_X11_renew, fr_pa1, fr_pa2, fr_X9_take, fr_append111, fr_X4_faultOf, tq_u_cell, tq_cp_cell, tq_res, tq_cpSt_cell, fr_X11_regions, fr_X11_write]
theorem fz_raise (I : tq_I) (x y t : Int32) (w h o c L : Nat) {cz : Nat} (hc : 117 ≤ cz) (j : Nat) : I_X11_raise I x y t w h o c L cz j = I cz j := by
  unfold I_X11_raise
  (repeat' split) <;> first | with_reducible rfl | simp (disch := omega) only [fr_X8_startMap, fr_rec, fr_X8_changeCorner, fr_cb1, fr_cb2, fr_X8_changeBlock, fr_fl1, fr_X5_gather, fr_X5_forget, fr_ra1, fr_ra2, fr_X8_changePath, fr_X6_moveTo, fr_X11_touchAllIf, fr_X10_choose, fr_X7_draw, fr_X11_staleAt, fr_st1, fr_st2, fr_X11_renew, fr_pa1, fr_pa2, fr_X9_take, fr_append111, fr_X4_faultOf, tq_u_cell, tq_cp_cell, tq_res, tq_cpSt_cell, fr_X11_regions, fr_X11_write]
theorem fz_setPath (I : tq_I) (x y b : Int32) (w h o c L : Nat) {cz : Nat} (hc : 117 ≤ cz) (j : Nat) : I_X11_setPath I x y b w h o c L cz j = I cz j := by
  unfold I_X11_setPath
  (repeat' split) <;> first | with_reducible rfl | simp (disch := omega) only [fr_X8_startMap, fr_rec, fr_X8_changeCorner, fr_cb1, fr_cb2, fr_X8_changeBlock, fr_fl1, fr_X5_gather, fr_X5_forget, fr_ra1, fr_ra2, fr_X8_changePath, fr_X6_moveTo, fr_X11_touchAllIf, fr_X10_choose, fr_X7_draw, fr_X11_staleAt, fr_st1, fr_st2, fr_X11_renew, fr_pa1, fr_pa2, fr_X9_take, fr_append111, fr_X4_faultOf, tq_u_cell, tq_cp_cell, tq_res, tq_cpSt_cell, fr_X11_regions, fr_X11_write]
theorem fz_setRank (I : tq_I) (t r : Int32) (w h o c L : Nat) {cz : Nat} (hc : 117 ≤ cz) (j : Nat) : I_X11_setRank I t r w h o c L cz j = I cz j := by
  unfold I_X11_setRank
  (repeat' split) <;> first | with_reducible rfl | simp (disch := omega) only [fr_X8_startMap, fr_rec, fr_X8_changeCorner, fr_cb1, fr_cb2, fr_X8_changeBlock, fr_fl1, fr_X5_gather, fr_X5_forget, fr_ra1, fr_ra2, fr_X8_changePath, fr_X6_moveTo, fr_X11_touchAllIf, fr_X10_choose, fr_X7_draw, fr_X11_staleAt, fr_st1, fr_st2, fr_X11_renew, fr_pa1, fr_pa2, fr_X9_take, fr_append111, fr_X4_faultOf, tq_u_cell, tq_cp_cell, tq_res, tq_cpSt_cell, fr_X11_regions, fr_X11_write]
theorem fz_setTiles (I : tq_I) (t s : Int32) (w h o c L : Nat) {cz : Nat} (hc : 117 ≤ cz) (j : Nat) : I_X11_setTiles I t s w h o c L cz j = I cz j := by
  unfold I_X11_setTiles
  (repeat' split) <;> first | with_reducible rfl | simp (disch := omega) only [fr_X8_startMap, fr_rec, fr_X8_changeCorner, fr_cb1, fr_cb2, fr_X8_changeBlock, fr_fl1, fr_X5_gather, fr_X5_forget, fr_ra1, fr_ra2, fr_X8_changePath, fr_X6_moveTo, fr_X11_touchAllIf, fr_X10_choose, fr_X7_draw, fr_X11_staleAt, fr_st1, fr_st2, fr_X11_renew, fr_pa1, fr_pa2, fr_X9_take, fr_append111, fr_X4_faultOf, tq_u_cell, tq_cp_cell, tq_res, tq_cpSt_cell, fr_X11_regions, fr_X11_write]
theorem fz_setVariants (I : tq_I) (t v : Int32) (w h o c L : Nat) {cz : Nat} (hc : 117 ≤ cz) (j : Nat) : I_X11_setVariants I t v w h o c L cz j = I cz j := by
  unfold I_X11_setVariants
  (repeat' split) <;> first | with_reducible rfl | simp (disch := omega) only [fr_X8_startMap, fr_rec, fr_X8_changeCorner, fr_cb1, fr_cb2, fr_X8_changeBlock, fr_fl1, fr_X5_gather, fr_X5_forget, fr_ra1, fr_ra2, fr_X8_changePath, fr_X6_moveTo, fr_X11_touchAllIf, fr_X10_choose, fr_X7_draw, fr_X11_staleAt, fr_st1, fr_st2, fr_X11_renew, fr_pa1, fr_pa2, fr_X9_take, fr_append111, fr_X4_faultOf, tq_u_cell, tq_cp_cell, tq_res, tq_cpSt_cell, fr_X11_regions, fr_X11_write]
theorem fz_setSeed (I : tq_I) (s : Int32) (w h o c L : Nat) {cz : Nat} (hc : 117 ≤ cz) (j : Nat) : I_X11_setSeed I s w h o c L cz j = I cz j := by
  unfold I_X11_setSeed
  (repeat' split) <;> first | with_reducible rfl | simp (disch := omega) only [fr_X8_startMap, fr_rec, fr_X8_changeCorner, fr_cb1, fr_cb2, fr_X8_changeBlock, fr_fl1, fr_X5_gather, fr_X5_forget, fr_ra1, fr_ra2, fr_X8_changePath, fr_X6_moveTo, fr_X11_touchAllIf, fr_X10_choose, fr_X7_draw, fr_X11_staleAt, fr_st1, fr_st2, fr_X11_renew, fr_pa1, fr_pa2, fr_X9_take, fr_append111, fr_X4_faultOf, tq_u_cell, tq_cp_cell, tq_res, tq_cpSt_cell, fr_X11_regions, fr_X11_write]
theorem fz_setBorder (I : tq_I) (b : Int32) (w h o c L : Nat) {cz : Nat} (hc : 117 ≤ cz) (j : Nat) : I_X11_setBorder I b w h o c L cz j = I cz j := by
  unfold I_X11_setBorder
  (repeat' split) <;> first | with_reducible rfl | simp (disch := omega) only [fr_X8_startMap, fr_rec, fr_X8_changeCorner, fr_cb1, fr_cb2, fr_X8_changeBlock, fr_fl1, fr_X5_gather, fr_X5_forget, fr_ra1, fr_ra2, fr_X8_changePath, fr_X6_moveTo, fr_X11_touchAllIf, fr_X10_choose, fr_X7_draw, fr_X11_staleAt, fr_st1, fr_st2, fr_X11_renew, fr_pa1, fr_pa2, fr_X9_take, fr_append111, fr_X4_faultOf, tq_u_cell, tq_cp_cell, tq_res, tq_cpSt_cell, fr_X11_regions, fr_X11_write]
theorem fz_layers (I : tq_I) (x y : Int32) (w h o c L : Nat) {cz : Nat} (hc : 117 ≤ cz) (j : Nat) : I_X11_layers I x y w h o c L cz j = I cz j := by
  unfold I_X11_layers
  (repeat' split) <;> first | with_reducible rfl | simp (disch := omega) only [fr_X8_startMap, fr_rec, fr_X8_changeCorner, fr_cb1, fr_cb2, fr_X8_changeBlock, fr_fl1, fr_X5_gather, fr_X5_forget, fr_ra1, fr_ra2, fr_X8_changePath, fr_X6_moveTo, fr_X11_touchAllIf, fr_X10_choose, fr_X7_draw, fr_X11_staleAt, fr_st1, fr_st2, fr_X11_renew, fr_pa1, fr_pa2, fr_X9_take, fr_append111, fr_X4_faultOf, tq_u_cell, tq_cp_cell, tq_res, tq_cpSt_cell, fr_X11_regions, fr_X11_write]
theorem fz_layer (I : tq_I) (x y ly q : Int32) (w h o c L : Nat) {cz : Nat} (hc : 117 ≤ cz) (j : Nat) : I_X11_layer I x y ly q w h o c L cz j = I cz j := by
  unfold I_X11_layer
  (repeat' split) <;> first | with_reducible rfl | simp (disch := omega) only [fr_X8_startMap, fr_rec, fr_X8_changeCorner, fr_cb1, fr_cb2, fr_X8_changeBlock, fr_fl1, fr_X5_gather, fr_X5_forget, fr_ra1, fr_ra2, fr_X8_changePath, fr_X6_moveTo, fr_X11_touchAllIf, fr_X10_choose, fr_X7_draw, fr_X11_staleAt, fr_st1, fr_st2, fr_X11_renew, fr_pa1, fr_pa2, fr_X9_take, fr_append111, fr_X4_faultOf, tq_u_cell, tq_cp_cell, tq_res, tq_cpSt_cell, fr_X11_regions, fr_X11_write]
theorem fz_pieces (I : tq_I) (x y : Int32) (w h o c L : Nat) {cz : Nat} (hc : 117 ≤ cz) (j : Nat) : I_X11_pieces I x y w h o c L cz j = I cz j := by
  unfold I_X11_pieces
  (repeat' split) <;> first | with_reducible rfl | simp (disch := omega) only [fr_X8_startMap, fr_rec, fr_X8_changeCorner, fr_cb1, fr_cb2, fr_X8_changeBlock, fr_fl1, fr_X5_gather, fr_X5_forget, fr_ra1, fr_ra2, fr_X8_changePath, fr_X6_moveTo, fr_X11_touchAllIf, fr_X10_choose, fr_X7_draw, fr_X11_staleAt, fr_st1, fr_st2, fr_X11_renew, fr_pa1, fr_pa2, fr_X9_take, fr_append111, fr_X4_faultOf, tq_u_cell, tq_cp_cell, tq_res, tq_cpSt_cell, fr_X11_regions, fr_X11_write]
theorem fz_piece (I : tq_I) (x y ly q : Int32) (w h o c L : Nat) {cz : Nat} (hc : 117 ≤ cz) (j : Nat) : I_X11_piece I x y ly q w h o c L cz j = I cz j := by
  unfold I_X11_piece
  (repeat' split) <;> first | with_reducible rfl | simp (disch := omega) only [fr_X8_startMap, fr_rec, fr_X8_changeCorner, fr_cb1, fr_cb2, fr_X8_changeBlock, fr_fl1, fr_X5_gather, fr_X5_forget, fr_ra1, fr_ra2, fr_X8_changePath, fr_X6_moveTo, fr_X11_touchAllIf, fr_X10_choose, fr_X7_draw, fr_X11_staleAt, fr_st1, fr_st2, fr_X11_renew, fr_pa1, fr_pa2, fr_X9_take, fr_append111, fr_X4_faultOf, tq_u_cell, tq_cp_cell, tq_res, tq_cpSt_cell, fr_X11_regions, fr_X11_write]
theorem fz_isStale (I : tq_I) (x y : Int32) (w h o c L : Nat) {cz : Nat} (hc : 117 ≤ cz) (j : Nat) : I_X11_isStale I x y w h o c L cz j = I cz j := by
  unfold I_X11_isStale
  (repeat' split) <;> first | with_reducible rfl | simp (disch := omega) only [fr_X8_startMap, fr_rec, fr_X8_changeCorner, fr_cb1, fr_cb2, fr_X8_changeBlock, fr_fl1, fr_X5_gather, fr_X5_forget, fr_ra1, fr_ra2, fr_X8_changePath, fr_X6_moveTo, fr_X11_touchAllIf, fr_X10_choose, fr_X7_draw, fr_X11_staleAt, fr_st1, fr_st2, fr_X11_renew, fr_pa1, fr_pa2, fr_X9_take, fr_append111, fr_X4_faultOf, tq_u_cell, tq_cp_cell, tq_res, tq_cpSt_cell, fr_X11_regions, fr_X11_write]
theorem fz_stale (I : tq_I) (w h o c L : Nat) {cz : Nat} (hc : 117 ≤ cz) (j : Nat) : I_X11_stale I w h o c L cz j = I cz j := by
  unfold I_X11_stale
  (repeat' split) <;> first | with_reducible rfl | simp (disch := omega) only [fr_X8_startMap, fr_rec, fr_X8_changeCorner, fr_cb1, fr_cb2, fr_X8_changeBlock, fr_fl1, fr_X5_gather, fr_X5_forget, fr_ra1, fr_ra2, fr_X8_changePath, fr_X6_moveTo, fr_X11_touchAllIf, fr_X10_choose, fr_X7_draw, fr_X11_staleAt, fr_st1, fr_st2, fr_X11_renew, fr_pa1, fr_pa2, fr_X9_take, fr_append111, fr_X4_faultOf, tq_u_cell, tq_cp_cell, tq_res, tq_cpSt_cell, fr_X11_regions, fr_X11_write]
theorem fz_paint (I : tq_I) (w h o c L : Nat) {cz : Nat} (hc : 117 ≤ cz) (j : Nat) : I_X11_paint I w h o c L cz j = I cz j := by
  unfold I_X11_paint
  (repeat' split) <;> first | with_reducible rfl | simp (disch := omega) only [fr_X8_startMap, fr_rec, fr_X8_changeCorner, fr_cb1, fr_cb2, fr_X8_changeBlock, fr_fl1, fr_X5_gather, fr_X5_forget, fr_ra1, fr_ra2, fr_X8_changePath, fr_X6_moveTo, fr_X11_touchAllIf, fr_X10_choose, fr_X7_draw, fr_X11_staleAt, fr_st1, fr_st2, fr_X11_renew, fr_pa1, fr_pa2, fr_X9_take, fr_append111, fr_X4_faultOf, tq_u_cell, tq_cp_cell, tq_res, tq_cpSt_cell, fr_X11_regions, fr_X11_write]
theorem fz_paintCell (I : tq_I) (x y : Int32) (w h o c L : Nat) {cz : Nat} (hc : 117 ≤ cz) (j : Nat) : I_X11_paintCell I x y w h o c L cz j = I cz j := by
  unfold I_X11_paintCell
  (repeat' split) <;> first | with_reducible rfl | simp (disch := omega) only [fr_X8_startMap, fr_rec, fr_X8_changeCorner, fr_cb1, fr_cb2, fr_X8_changeBlock, fr_fl1, fr_X5_gather, fr_X5_forget, fr_ra1, fr_ra2, fr_X8_changePath, fr_X6_moveTo, fr_X11_touchAllIf, fr_X10_choose, fr_X7_draw, fr_X11_staleAt, fr_st1, fr_st2, fr_X11_renew, fr_pa1, fr_pa2, fr_X9_take, fr_append111, fr_X4_faultOf, tq_u_cell, tq_cp_cell, tq_res, tq_cpSt_cell, fr_X11_regions, fr_X11_write]
theorem fz_kinds (I : tq_I) (w h o c L : Nat) {cz : Nat} (hc : 117 ≤ cz) (j : Nat) : I_X11_kinds I w h o c L cz j = I cz j := by
  unfold I_X11_kinds
  (repeat' split) <;> first | with_reducible rfl | simp (disch := omega) only [fr_X8_startMap, fr_rec, fr_X8_changeCorner, fr_cb1, fr_cb2, fr_X8_changeBlock, fr_fl1, fr_X5_gather, fr_X5_forget, fr_ra1, fr_ra2, fr_X8_changePath, fr_X6_moveTo, fr_X11_touchAllIf, fr_X10_choose, fr_X7_draw, fr_X11_staleAt, fr_st1, fr_st2, fr_X11_renew, fr_pa1, fr_pa2, fr_X9_take, fr_append111, fr_X4_faultOf, tq_u_cell, tq_cp_cell, tq_res, tq_cpSt_cell, fr_X11_regions, fr_X11_write]
theorem fz_kind (I : tq_I) (ly q : Int32) (w h o c L : Nat) {cz : Nat} (hc : 117 ≤ cz) (j : Nat) : I_X11_kind I ly q w h o c L cz j = I cz j := by
  unfold I_X11_kind
  (repeat' split) <;> first | with_reducible rfl | simp (disch := omega) only [fr_X8_startMap, fr_rec, fr_X8_changeCorner, fr_cb1, fr_cb2, fr_X8_changeBlock, fr_fl1, fr_X5_gather, fr_X5_forget, fr_ra1, fr_ra2, fr_X8_changePath, fr_X6_moveTo, fr_X11_touchAllIf, fr_X10_choose, fr_X7_draw, fr_X11_staleAt, fr_st1, fr_st2, fr_X11_renew, fr_pa1, fr_pa2, fr_X9_take, fr_append111, fr_X4_faultOf, tq_u_cell, tq_cp_cell, tq_res, tq_cpSt_cell, fr_X11_regions, fr_X11_write]
theorem fz_undo (I : tq_I) (w h o c L : Nat) {cz : Nat} (hc : 117 ≤ cz) (j : Nat) : I_X11_undo I w h o c L cz j = I cz j := by
  unfold I_X11_undo
  (repeat' split) <;> first | with_reducible rfl | simp (disch := omega) only [fr_X8_startMap, fr_rec, fr_X8_changeCorner, fr_cb1, fr_cb2, fr_X8_changeBlock, fr_fl1, fr_X5_gather, fr_X5_forget, fr_ra1, fr_ra2, fr_X8_changePath, fr_X6_moveTo, fr_X11_touchAllIf, fr_X10_choose, fr_X7_draw, fr_X11_staleAt, fr_st1, fr_st2, fr_X11_renew, fr_pa1, fr_pa2, fr_X9_take, fr_append111, fr_X4_faultOf, tq_u_cell, tq_cp_cell, tq_res, tq_cpSt_cell, fr_X11_regions, fr_X11_write]
theorem fz_type (I : tq_I) (v : Int32) (w h o c L : Nat) {cz : Nat} (hc : 117 ≤ cz) (j : Nat) : I_X11_type I v w h o c L cz j = I cz j := by
  unfold I_X11_type
  (repeat' split) <;> first | with_reducible rfl | simp (disch := omega) only [fr_X8_startMap, fr_rec, fr_X8_changeCorner, fr_cb1, fr_cb2, fr_X8_changeBlock, fr_fl1, fr_X5_gather, fr_X5_forget, fr_ra1, fr_ra2, fr_X8_changePath, fr_X6_moveTo, fr_X11_touchAllIf, fr_X10_choose, fr_X7_draw, fr_X11_staleAt, fr_st1, fr_st2, fr_X11_renew, fr_pa1, fr_pa2, fr_X9_take, fr_append111, fr_X4_faultOf, tq_u_cell, tq_cp_cell, tq_res, tq_cpSt_cell, fr_X11_regions, fr_X11_write]
theorem fz_clearText (I : tq_I) (w h o c L : Nat) {cz : Nat} (hc : 117 ≤ cz) (j : Nat) : I_X11_clearText I w h o c L cz j = I cz j := by
  unfold I_X11_clearText
  (repeat' split) <;> first | with_reducible rfl | simp (disch := omega) only [fr_X8_startMap, fr_rec, fr_X8_changeCorner, fr_cb1, fr_cb2, fr_X8_changeBlock, fr_fl1, fr_X5_gather, fr_X5_forget, fr_ra1, fr_ra2, fr_X8_changePath, fr_X6_moveTo, fr_X11_touchAllIf, fr_X10_choose, fr_X7_draw, fr_X11_staleAt, fr_st1, fr_st2, fr_X11_renew, fr_pa1, fr_pa2, fr_X9_take, fr_append111, fr_X4_faultOf, tq_u_cell, tq_cp_cell, tq_res, tq_cpSt_cell, fr_X11_regions, fr_X11_write]
theorem fz_textFault (I : tq_I) (w h o c L : Nat) {cz : Nat} (hc : 117 ≤ cz) (j : Nat) : I_X11_textFault I w h o c L cz j = I cz j := by
  unfold I_X11_textFault
  (repeat' split) <;> first | with_reducible rfl | simp (disch := omega) only [fr_X8_startMap, fr_rec, fr_X8_changeCorner, fr_cb1, fr_cb2, fr_X8_changeBlock, fr_fl1, fr_X5_gather, fr_X5_forget, fr_ra1, fr_ra2, fr_X8_changePath, fr_X6_moveTo, fr_X11_touchAllIf, fr_X10_choose, fr_X7_draw, fr_X11_staleAt, fr_st1, fr_st2, fr_X11_renew, fr_pa1, fr_pa2, fr_X9_take, fr_append111, fr_X4_faultOf, tq_u_cell, tq_cp_cell, tq_res, tq_cpSt_cell, fr_X11_regions, fr_X11_write]
theorem fz_load (I : tq_I) (w h o c L : Nat) {cz : Nat} (hc : 117 ≤ cz) (j : Nat) : I_X11_load I w h o c L cz j = I cz j := by
  unfold I_X11_load
  (repeat' split) <;> first | with_reducible rfl | simp (disch := omega) only [fr_X8_startMap, fr_rec, fr_X8_changeCorner, fr_cb1, fr_cb2, fr_X8_changeBlock, fr_fl1, fr_X5_gather, fr_X5_forget, fr_ra1, fr_ra2, fr_X8_changePath, fr_X6_moveTo, fr_X11_touchAllIf, fr_X10_choose, fr_X7_draw, fr_X11_staleAt, fr_st1, fr_st2, fr_X11_renew, fr_pa1, fr_pa2, fr_X9_take, fr_append111, fr_X4_faultOf, tq_u_cell, tq_cp_cell, tq_res, tq_cpSt_cell, fr_X11_regions, fr_X11_write]
theorem fz_regions (I : tq_I) (t : Int32) (w h o c L : Nat) {cz : Nat} (hc : 117 ≤ cz) (j : Nat) : I_X11_regions I t w h o c L cz j = I cz j := fr_X11_regions I t w h o c L (by omega) j
theorem fz_write (I : tq_I) (w h o c L : Nat) {cz : Nat} (hc : 117 ≤ cz) (j : Nat) : I_X11_write I w h o c L cz j = I cz j := fr_X11_write I w h o c L (by omega) j
theorem fz_digest (I : tq_I) (w h o c L : Nat) {cz : Nat} (hc : 117 ≤ cz) (j : Nat) : I_X11_digest I w h o c L cz j = I cz j := by
  unfold I_X11_digest
  refine tq_itF2 (f := f_dg4 w h o c L) (fun i a j => ?_) h 0 _ j
  unfold f_dg4
  dsimp only
  refine tq_itF2 (f := f_dg3 i w h o c L) (fun i a j => ?_) w 0 _ j
  unfold f_dg3 I_X11_mixCell
  dsimp only
  rw [ite_self, fr_X7_draw _ _ _ (by omega)]
theorem fy_digest (I : tq_I) (J : Int64) (w h : Nat) {cz : Nat} (hc : cz < 117) (j : Nat) : I_X12_digest I J w h cz j = I cz j := by
  unfold I_X12_digest
  generalize tq_it (f_mdg2 I w h) (h + 1) 0 (((31 : Int64) * (((31 : Int64) * (17 : Int64)) + ((I 118 0)).toInt64)) + ((I 118 1)).toInt64) = s
  refine tq_itP (f := f_mdg4 w h) (fun (b : tq_I × Int64) => b.1 cz j = I cz j) (fun i a ha => ?_) h 0 (I, s) rfl
  unfold f_mdg4
  dsimp only
  refine tq_itP (f := f_mdg3 i w h) (fun (b : tq_I × Int64) => b.1 cz j = I cz j) (fun i a ha => ?_) w 0 _ ha
  unfold f_mdg3
  dsimp only
  rw [fr_X12_noteCell _ _ _ _ _ _ (by omega)]
  exact ha
theorem tw_partsI {A B : tq_I} {w h o c L : Nat} (k : tw_inv A B w h o c L) (t q : Int32) : tw_inv A (I_X12_parts B t q) w h o c L := by
  have f7 : ∀ j, j ≠ 10 → I_X12_parts B t q 117 j = B 117 j := fun j hj => by
    unfold I_X12_parts
    (repeat' split) <;> first | rfl | exact fs_finds _ _ _ _ hj
  refine k.scr (fun _ _ _ => rfl) (fun cz hz j => fr_X12_parts _ _ _ (by omega) j) ⟨f7 _ (by decide), f7 _ (by decide), f7 _ (by decide)⟩ (k.mi.cong (fun _ _ _ => rfl) ⟨f7 _ (by decide), f7 _ (by decide)⟩ (fun cz hz j => fr_X12_parts _ _ _ (by omega) j))
theorem lw_cmp0 (u : Int64) : lg_cmp u u = 0 := by
  unfold lg_cmp
  simp
