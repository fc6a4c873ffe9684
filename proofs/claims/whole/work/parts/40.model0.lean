/-! The reference's state -/
abbrev md_S : Type := Int32 × Bool × (Nat → Bool) × (Nat → Bool) × (Nat → Bool) × (Nat → Bool) × (Nat → Bool) × (Nat → Int32) × (Nat → Bool) × (Nat → Int32) × (Nat → Int32) × (Nat → Bool) × (Nat → Bool) × (Nat → Bool)
def mdt (M : md_S) : Int32 := M.1
def mdl (M : md_S) : Bool := M.2.1
def mdu (M : md_S) : Nat → Bool := M.2.2.1
def mdr (M : md_S) : Nat → Bool := M.2.2.2.1
def mda (M : md_S) : Nat → Bool := M.2.2.2.2.1
def mdg (M : md_S) : Nat → Bool := M.2.2.2.2.2.1
def mdi (M : md_S) : Nat → Bool := M.2.2.2.2.2.2.1
def mdo (M : md_S) : Nat → Int32 := M.2.2.2.2.2.2.2.1
def mdv (M : md_S) : Nat → Bool := M.2.2.2.2.2.2.2.2.1
def mdk (M : md_S) : Nat → Int32 := M.2.2.2.2.2.2.2.2.2.1
def mdn (M : md_S) : Nat → Int32 := M.2.2.2.2.2.2.2.2.2.2.1
def mdm (M : md_S) : Nat → Bool := M.2.2.2.2.2.2.2.2.2.2.2.1
def mds (M : md_S) : Nat → Bool := M.2.2.2.2.2.2.2.2.2.2.2.2.1
def mdd (M : md_S) : Nat → Bool := M.2.2.2.2.2.2.2.2.2.2.2.2.2
def mdT (M : md_S) (x : Int32) : md_S := (x, mdl M, mdu M, mdr M, mda M, mdg M, mdi M, mdo M, mdv M, mdk M, mdn M, mdm M, mds M, mdd M)
def mdU (M : md_S) (x : Nat → Bool) : md_S := (mdt M, mdl M, x, mdr M, mda M, mdg M, mdi M, mdo M, mdv M, mdk M, mdn M, mdm M, mds M, mdd M)
def mdR (M : md_S) (x : Nat → Bool) : md_S := (mdt M, mdl M, mdu M, x, mda M, mdg M, mdi M, mdo M, mdv M, mdk M, mdn M, mdm M, mds M, mdd M)
def mdA (M : md_S) (x : Nat → Bool) : md_S := (mdt M, mdl M, mdu M, mdr M, x, mdg M, mdi M, mdo M, mdv M, mdk M, mdn M, mdm M, mds M, mdd M)
def mdG (M : md_S) (x : Nat → Bool) : md_S := (mdt M, mdl M, mdu M, mdr M, mda M, x, mdi M, mdo M, mdv M, mdk M, mdn M, mdm M, mds M, mdd M)
def mdI (M : md_S) (x : Nat → Bool) : md_S := (mdt M, mdl M, mdu M, mdr M, mda M, mdg M, x, mdo M, mdv M, mdk M, mdn M, mdm M, mds M, mdd M)
def mdO (M : md_S) (x : Nat → Int32) : md_S := (mdt M, mdl M, mdu M, mdr M, mda M, mdg M, mdi M, x, mdv M, mdk M, mdn M, mdm M, mds M, mdd M)
def mdV (M : md_S) (x : Nat → Bool) : md_S := (mdt M, mdl M, mdu M, mdr M, mda M, mdg M, mdi M, mdo M, x, mdk M, mdn M, mdm M, mds M, mdd M)
def mdK (M : md_S) (x : Nat → Int32) : md_S := (mdt M, mdl M, mdu M, mdr M, mda M, mdg M, mdi M, mdo M, mdv M, x, mdn M, mdm M, mds M, mdd M)
def mdN (M : md_S) (x : Nat → Int32) : md_S := (mdt M, mdl M, mdu M, mdr M, mda M, mdg M, mdi M, mdo M, mdv M, mdk M, x, mdm M, mds M, mdd M)
def mdM (M : md_S) (x : Nat → Bool) : md_S := (mdt M, mdl M, mdu M, mdr M, mda M, mdg M, mdi M, mdo M, mdv M, mdk M, mdn M, x, mds M, mdd M)
def mdS (M : md_S) (x : Nat → Bool) : md_S := (mdt M, mdl M, mdu M, mdr M, mda M, mdg M, mdi M, mdo M, mdv M, mdk M, mdn M, mdm M, x, mdd M)
def mdD (M : md_S) (x : Nat → Bool) : md_S := (mdt M, mdl M, mdu M, mdr M, mda M, mdg M, mdi M, mdo M, mdv M, mdk M, mdn M, mdm M, mds M, x)
def md_W (M : md_S) (r : ri_W) : ri_W := .inr (1, [.int (mdt M), .int (rb_i (mdl M)), .ref 11, .ref 12, .ref 13, .ref 14, .ref 15, .ref 16, .ref 17, .ref 18, .ref 19, .ref 20, .ref 21, .ref 22]) ::
  .inl (2, 6, .inl (fun j => rb_i (mdu M j))) :: .inl (2, 10, .inl (fun j => rb_i (mdr M j))) :: .inl (2, 60, .inl (fun j => rb_i (mda M j))) :: .inl (2, 160, .inl (fun j => rb_i (mdg M j))) :: .inl (2, 100, .inl (fun j => rb_i (mdi M j))) :: .inl (0, 6, .inl (mdo M)) :: .inl (2, 60, .inl (fun j => rb_i (mdv M j))) :: .inl (0, 4, .inl (mdk M)) :: .inl (0, 4, .inl (mdn M)) :: .inl (2, 40, .inl (fun j => rb_i (mdm M j))) :: .inl (2, 100, .inl (fun j => rb_i (mds M j))) :: .inl (2, 10, .inl (fun j => rb_i (mdd M j))) :: r
section M40
variable {C : rd_S} {M : md_S} {r : ri_W}
theorem md_WU (f : Nat → Bool) : (rd_W C (md_W M r)).set 10 (.inl (2, 6, .inl (fun j => rb_i (f j)))) = rd_W C (md_W (mdU M f) r) := rfl
theorem md_WR (f : Nat → Bool) : (rd_W C (md_W M r)).set 11 (.inl (2, 10, .inl (fun j => rb_i (f j)))) = rd_W C (md_W (mdR M f) r) := rfl
theorem md_WA (f : Nat → Bool) : (rd_W C (md_W M r)).set 12 (.inl (2, 60, .inl (fun j => rb_i (f j)))) = rd_W C (md_W (mdA M f) r) := rfl
theorem md_WG (f : Nat → Bool) : (rd_W C (md_W M r)).set 13 (.inl (2, 160, .inl (fun j => rb_i (f j)))) = rd_W C (md_W (mdG M f) r) := rfl
theorem md_WI (f : Nat → Bool) : (rd_W C (md_W M r)).set 14 (.inl (2, 100, .inl (fun j => rb_i (f j)))) = rd_W C (md_W (mdI M f) r) := rfl
theorem md_WO (f : Nat → Int32) : (rd_W C (md_W M r)).set 15 (.inl (0, 6, .inl f)) = rd_W C (md_W (mdO M f) r) := rfl
theorem md_WV (f : Nat → Bool) : (rd_W C (md_W M r)).set 16 (.inl (2, 60, .inl (fun j => rb_i (f j)))) = rd_W C (md_W (mdV M f) r) := rfl
theorem md_WK (f : Nat → Int32) : (rd_W C (md_W M r)).set 17 (.inl (0, 4, .inl f)) = rd_W C (md_W (mdK M f) r) := rfl
theorem md_WN (f : Nat → Int32) : (rd_W C (md_W M r)).set 18 (.inl (0, 4, .inl f)) = rd_W C (md_W (mdN M f) r) := rfl
theorem md_WM (f : Nat → Bool) : (rd_W C (md_W M r)).set 19 (.inl (2, 40, .inl (fun j => rb_i (f j)))) = rd_W C (md_W (mdM M f) r) := rfl
theorem md_WS (f : Nat → Bool) : (rd_W C (md_W M r)).set 20 (.inl (2, 100, .inl (fun j => rb_i (f j)))) = rd_W C (md_W (mdS M f) r) := rfl
theorem md_WD (f : Nat → Bool) : (rd_W C (md_W M r)).set 21 (.inl (2, 10, .inl (fun j => rb_i (f j)))) = rd_W C (md_W (mdD M f) r) := rfl
theorem md_WT (x : Int32) : (rd_W C (md_W M r)).set 9 (.inr (1, ([.int (mdt M), .int (rb_i (mdl M)), .ref 11, .ref 12, .ref 13, .ref 14, .ref 15, .ref 16, .ref 17, .ref 18, .ref 19, .ref 20, .ref 21, .ref 22] : List Value).set 0 (.int x))) = rd_W C (md_W (mdT M x) r) := rfl
theorem mdTT (a b : Int32) : mdT (mdT M a) b = mdT M b := rfl
theorem mdUU (a b : Nat → Bool) : mdU (mdU M a) b = mdU M b := rfl
theorem mdRR (a b : Nat → Bool) : mdR (mdR M a) b = mdR M b := rfl
theorem mdAA (a b : Nat → Bool) : mdA (mdA M a) b = mdA M b := rfl
theorem mdGG (a b : Nat → Bool) : mdG (mdG M a) b = mdG M b := rfl
theorem mdII (a b : Nat → Bool) : mdI (mdI M a) b = mdI M b := rfl
theorem mdOO (a b : Nat → Int32) : mdO (mdO M a) b = mdO M b := rfl
theorem mdVV (a b : Nat → Bool) : mdV (mdV M a) b = mdV M b := rfl
theorem mdKK (a b : Nat → Int32) : mdK (mdK M a) b = mdK M b := rfl
theorem mdNN (a b : Nat → Int32) : mdN (mdN M a) b = mdN M b := rfl
theorem mdMM (a b : Nat → Bool) : mdM (mdM M a) b = mdM M b := rfl
theorem mdSS (a b : Nat → Bool) : mdS (mdS M a) b = mdS M b := rfl
theorem mdDD (a b : Nat → Bool) : mdD (mdD M a) b = mdD M b := rfl
theorem mdt_T (x : Int32) : mdt (mdT M x) = x := rfl
theorem mdl_T (x : Int32) : mdl (mdT M x) = mdl M := rfl
theorem mdu_T (x : Int32) : mdu (mdT M x) = mdu M := rfl
theorem mdr_T (x : Int32) : mdr (mdT M x) = mdr M := rfl
theorem mda_T (x : Int32) : mda (mdT M x) = mda M := rfl
theorem mdg_T (x : Int32) : mdg (mdT M x) = mdg M := rfl
theorem mdi_T (x : Int32) : mdi (mdT M x) = mdi M := rfl
theorem mdo_T (x : Int32) : mdo (mdT M x) = mdo M := rfl
theorem mdv_T (x : Int32) : mdv (mdT M x) = mdv M := rfl
theorem mdk_T (x : Int32) : mdk (mdT M x) = mdk M := rfl
theorem mdn_T (x : Int32) : mdn (mdT M x) = mdn M := rfl
theorem mdm_T (x : Int32) : mdm (mdT M x) = mdm M := rfl
theorem mds_T (x : Int32) : mds (mdT M x) = mds M := rfl
theorem mdd_T (x : Int32) : mdd (mdT M x) = mdd M := rfl
theorem mdt_U (x : Nat → Bool) : mdt (mdU M x) = mdt M := rfl
theorem mdl_U (x : Nat → Bool) : mdl (mdU M x) = mdl M := rfl
theorem mdu_U (x : Nat → Bool) : mdu (mdU M x) = x := rfl
theorem mdr_U (x : Nat → Bool) : mdr (mdU M x) = mdr M := rfl
theorem mda_U (x : Nat → Bool) : mda (mdU M x) = mda M := rfl
theorem mdg_U (x : Nat → Bool) : mdg (mdU M x) = mdg M := rfl
theorem mdi_U (x : Nat → Bool) : mdi (mdU M x) = mdi M := rfl
theorem mdo_U (x : Nat → Bool) : mdo (mdU M x) = mdo M := rfl
theorem mdv_U (x : Nat → Bool) : mdv (mdU M x) = mdv M := rfl
theorem mdk_U (x : Nat → Bool) : mdk (mdU M x) = mdk M := rfl
theorem mdn_U (x : Nat → Bool) : mdn (mdU M x) = mdn M := rfl
theorem mdm_U (x : Nat → Bool) : mdm (mdU M x) = mdm M := rfl
theorem mds_U (x : Nat → Bool) : mds (mdU M x) = mds M := rfl
theorem mdd_U (x : Nat → Bool) : mdd (mdU M x) = mdd M := rfl
theorem mdt_R (x : Nat → Bool) : mdt (mdR M x) = mdt M := rfl
theorem mdl_R (x : Nat → Bool) : mdl (mdR M x) = mdl M := rfl
theorem mdu_R (x : Nat → Bool) : mdu (mdR M x) = mdu M := rfl
theorem mdr_R (x : Nat → Bool) : mdr (mdR M x) = x := rfl
theorem mda_R (x : Nat → Bool) : mda (mdR M x) = mda M := rfl
theorem mdg_R (x : Nat → Bool) : mdg (mdR M x) = mdg M := rfl
theorem mdi_R (x : Nat → Bool) : mdi (mdR M x) = mdi M := rfl
theorem mdo_R (x : Nat → Bool) : mdo (mdR M x) = mdo M := rfl
theorem mdv_R (x : Nat → Bool) : mdv (mdR M x) = mdv M := rfl
theorem mdk_R (x : Nat → Bool) : mdk (mdR M x) = mdk M := rfl
theorem mdn_R (x : Nat → Bool) : mdn (mdR M x) = mdn M := rfl
theorem mdm_R (x : Nat → Bool) : mdm (mdR M x) = mdm M := rfl
theorem mds_R (x : Nat → Bool) : mds (mdR M x) = mds M := rfl
theorem mdd_R (x : Nat → Bool) : mdd (mdR M x) = mdd M := rfl
theorem mdt_A (x : Nat → Bool) : mdt (mdA M x) = mdt M := rfl
theorem mdl_A (x : Nat → Bool) : mdl (mdA M x) = mdl M := rfl
theorem mdu_A (x : Nat → Bool) : mdu (mdA M x) = mdu M := rfl
theorem mdr_A (x : Nat → Bool) : mdr (mdA M x) = mdr M := rfl
theorem mda_A (x : Nat → Bool) : mda (mdA M x) = x := rfl
theorem mdg_A (x : Nat → Bool) : mdg (mdA M x) = mdg M := rfl
theorem mdi_A (x : Nat → Bool) : mdi (mdA M x) = mdi M := rfl
theorem mdo_A (x : Nat → Bool) : mdo (mdA M x) = mdo M := rfl
theorem mdv_A (x : Nat → Bool) : mdv (mdA M x) = mdv M := rfl
theorem mdk_A (x : Nat → Bool) : mdk (mdA M x) = mdk M := rfl
theorem mdn_A (x : Nat → Bool) : mdn (mdA M x) = mdn M := rfl
theorem mdm_A (x : Nat → Bool) : mdm (mdA M x) = mdm M := rfl
theorem mds_A (x : Nat → Bool) : mds (mdA M x) = mds M := rfl
theorem mdd_A (x : Nat → Bool) : mdd (mdA M x) = mdd M := rfl
theorem mdt_G (x : Nat → Bool) : mdt (mdG M x) = mdt M := rfl
theorem mdl_G (x : Nat → Bool) : mdl (mdG M x) = mdl M := rfl
theorem mdu_G (x : Nat → Bool) : mdu (mdG M x) = mdu M := rfl
theorem mdr_G (x : Nat → Bool) : mdr (mdG M x) = mdr M := rfl
theorem mda_G (x : Nat → Bool) : mda (mdG M x) = mda M := rfl
theorem mdg_G (x : Nat → Bool) : mdg (mdG M x) = x := rfl
theorem mdi_G (x : Nat → Bool) : mdi (mdG M x) = mdi M := rfl
theorem mdo_G (x : Nat → Bool) : mdo (mdG M x) = mdo M := rfl
theorem mdv_G (x : Nat → Bool) : mdv (mdG M x) = mdv M := rfl
theorem mdk_G (x : Nat → Bool) : mdk (mdG M x) = mdk M := rfl
theorem mdn_G (x : Nat → Bool) : mdn (mdG M x) = mdn M := rfl
theorem mdm_G (x : Nat → Bool) : mdm (mdG M x) = mdm M := rfl
theorem mds_G (x : Nat → Bool) : mds (mdG M x) = mds M := rfl
theorem mdd_G (x : Nat → Bool) : mdd (mdG M x) = mdd M := rfl
theorem mdt_I (x : Nat → Bool) : mdt (mdI M x) = mdt M := rfl
theorem mdl_I (x : Nat → Bool) : mdl (mdI M x) = mdl M := rfl
theorem mdu_I (x : Nat → Bool) : mdu (mdI M x) = mdu M := rfl
theorem mdr_I (x : Nat → Bool) : mdr (mdI M x) = mdr M := rfl
theorem mda_I (x : Nat → Bool) : mda (mdI M x) = mda M := rfl
theorem mdg_I (x : Nat → Bool) : mdg (mdI M x) = mdg M := rfl
theorem mdi_I (x : Nat → Bool) : mdi (mdI M x) = x := rfl
theorem mdo_I (x : Nat → Bool) : mdo (mdI M x) = mdo M := rfl
theorem mdv_I (x : Nat → Bool) : mdv (mdI M x) = mdv M := rfl
theorem mdk_I (x : Nat → Bool) : mdk (mdI M x) = mdk M := rfl
theorem mdn_I (x : Nat → Bool) : mdn (mdI M x) = mdn M := rfl
theorem mdm_I (x : Nat → Bool) : mdm (mdI M x) = mdm M := rfl
theorem mds_I (x : Nat → Bool) : mds (mdI M x) = mds M := rfl
theorem mdd_I (x : Nat → Bool) : mdd (mdI M x) = mdd M := rfl
theorem mdt_O (x : Nat → Int32) : mdt (mdO M x) = mdt M := rfl
theorem mdl_O (x : Nat → Int32) : mdl (mdO M x) = mdl M := rfl
theorem mdu_O (x : Nat → Int32) : mdu (mdO M x) = mdu M := rfl
theorem mdr_O (x : Nat → Int32) : mdr (mdO M x) = mdr M := rfl
theorem mda_O (x : Nat → Int32) : mda (mdO M x) = mda M := rfl
theorem mdg_O (x : Nat → Int32) : mdg (mdO M x) = mdg M := rfl
theorem mdi_O (x : Nat → Int32) : mdi (mdO M x) = mdi M := rfl
theorem mdo_O (x : Nat → Int32) : mdo (mdO M x) = x := rfl
theorem mdv_O (x : Nat → Int32) : mdv (mdO M x) = mdv M := rfl
theorem mdk_O (x : Nat → Int32) : mdk (mdO M x) = mdk M := rfl
theorem mdn_O (x : Nat → Int32) : mdn (mdO M x) = mdn M := rfl
theorem mdm_O (x : Nat → Int32) : mdm (mdO M x) = mdm M := rfl
theorem mds_O (x : Nat → Int32) : mds (mdO M x) = mds M := rfl
theorem mdd_O (x : Nat → Int32) : mdd (mdO M x) = mdd M := rfl
theorem mdt_V (x : Nat → Bool) : mdt (mdV M x) = mdt M := rfl
theorem mdl_V (x : Nat → Bool) : mdl (mdV M x) = mdl M := rfl
theorem mdu_V (x : Nat → Bool) : mdu (mdV M x) = mdu M := rfl
theorem mdr_V (x : Nat → Bool) : mdr (mdV M x) = mdr M := rfl
theorem mda_V (x : Nat → Bool) : mda (mdV M x) = mda M := rfl
theorem mdg_V (x : Nat → Bool) : mdg (mdV M x) = mdg M := rfl
theorem mdi_V (x : Nat → Bool) : mdi (mdV M x) = mdi M := rfl
theorem mdo_V (x : Nat → Bool) : mdo (mdV M x) = mdo M := rfl
theorem mdv_V (x : Nat → Bool) : mdv (mdV M x) = x := rfl
theorem mdk_V (x : Nat → Bool) : mdk (mdV M x) = mdk M := rfl
theorem mdn_V (x : Nat → Bool) : mdn (mdV M x) = mdn M := rfl
theorem mdm_V (x : Nat → Bool) : mdm (mdV M x) = mdm M := rfl
theorem mds_V (x : Nat → Bool) : mds (mdV M x) = mds M := rfl
theorem mdd_V (x : Nat → Bool) : mdd (mdV M x) = mdd M := rfl
theorem mdt_K (x : Nat → Int32) : mdt (mdK M x) = mdt M := rfl
theorem mdl_K (x : Nat → Int32) : mdl (mdK M x) = mdl M := rfl
theorem mdu_K (x : Nat → Int32) : mdu (mdK M x) = mdu M := rfl
theorem mdr_K (x : Nat → Int32) : mdr (mdK M x) = mdr M := rfl
theorem mda_K (x : Nat → Int32) : mda (mdK M x) = mda M := rfl
theorem mdg_K (x : Nat → Int32) : mdg (mdK M x) = mdg M := rfl
theorem mdi_K (x : Nat → Int32) : mdi (mdK M x) = mdi M := rfl
theorem mdo_K (x : Nat → Int32) : mdo (mdK M x) = mdo M := rfl
theorem mdv_K (x : Nat → Int32) : mdv (mdK M x) = mdv M := rfl
theorem mdk_K (x : Nat → Int32) : mdk (mdK M x) = x := rfl
theorem mdn_K (x : Nat → Int32) : mdn (mdK M x) = mdn M := rfl
theorem mdm_K (x : Nat → Int32) : mdm (mdK M x) = mdm M := rfl
theorem mds_K (x : Nat → Int32) : mds (mdK M x) = mds M := rfl
theorem mdd_K (x : Nat → Int32) : mdd (mdK M x) = mdd M := rfl
theorem mdt_N (x : Nat → Int32) : mdt (mdN M x) = mdt M := rfl
theorem mdl_N (x : Nat → Int32) : mdl (mdN M x) = mdl M := rfl
theorem mdu_N (x : Nat → Int32) : mdu (mdN M x) = mdu M := rfl
theorem mdr_N (x : Nat → Int32) : mdr (mdN M x) = mdr M := rfl
theorem mda_N (x : Nat → Int32) : mda (mdN M x) = mda M := rfl
theorem mdg_N (x : Nat → Int32) : mdg (mdN M x) = mdg M := rfl
theorem mdi_N (x : Nat → Int32) : mdi (mdN M x) = mdi M := rfl
theorem mdo_N (x : Nat → Int32) : mdo (mdN M x) = mdo M := rfl
theorem mdv_N (x : Nat → Int32) : mdv (mdN M x) = mdv M := rfl
theorem mdk_N (x : Nat → Int32) : mdk (mdN M x) = mdk M := rfl
theorem mdn_N (x : Nat → Int32) : mdn (mdN M x) = x := rfl
theorem mdm_N (x : Nat → Int32) : mdm (mdN M x) = mdm M := rfl
theorem mds_N (x : Nat → Int32) : mds (mdN M x) = mds M := rfl
theorem mdd_N (x : Nat → Int32) : mdd (mdN M x) = mdd M := rfl
theorem mdt_M (x : Nat → Bool) : mdt (mdM M x) = mdt M := rfl
theorem mdl_M (x : Nat → Bool) : mdl (mdM M x) = mdl M := rfl
theorem mdu_M (x : Nat → Bool) : mdu (mdM M x) = mdu M := rfl
theorem mdr_M (x : Nat → Bool) : mdr (mdM M x) = mdr M := rfl
theorem mda_M (x : Nat → Bool) : mda (mdM M x) = mda M := rfl
theorem mdg_M (x : Nat → Bool) : mdg (mdM M x) = mdg M := rfl
theorem mdi_M (x : Nat → Bool) : mdi (mdM M x) = mdi M := rfl
theorem mdo_M (x : Nat → Bool) : mdo (mdM M x) = mdo M := rfl
theorem mdv_M (x : Nat → Bool) : mdv (mdM M x) = mdv M := rfl
theorem mdk_M (x : Nat → Bool) : mdk (mdM M x) = mdk M := rfl
theorem mdn_M (x : Nat → Bool) : mdn (mdM M x) = mdn M := rfl
theorem mdm_M (x : Nat → Bool) : mdm (mdM M x) = x := rfl
theorem mds_M (x : Nat → Bool) : mds (mdM M x) = mds M := rfl
theorem mdd_M (x : Nat → Bool) : mdd (mdM M x) = mdd M := rfl
theorem mdt_S (x : Nat → Bool) : mdt (mdS M x) = mdt M := rfl
theorem mdl_S (x : Nat → Bool) : mdl (mdS M x) = mdl M := rfl
theorem mdu_S (x : Nat → Bool) : mdu (mdS M x) = mdu M := rfl
theorem mdr_S (x : Nat → Bool) : mdr (mdS M x) = mdr M := rfl
theorem mda_S (x : Nat → Bool) : mda (mdS M x) = mda M := rfl
theorem mdg_S (x : Nat → Bool) : mdg (mdS M x) = mdg M := rfl
theorem mdi_S (x : Nat → Bool) : mdi (mdS M x) = mdi M := rfl
theorem mdo_S (x : Nat → Bool) : mdo (mdS M x) = mdo M := rfl
theorem mdv_S (x : Nat → Bool) : mdv (mdS M x) = mdv M := rfl
theorem mdk_S (x : Nat → Bool) : mdk (mdS M x) = mdk M := rfl
theorem mdn_S (x : Nat → Bool) : mdn (mdS M x) = mdn M := rfl
theorem mdm_S (x : Nat → Bool) : mdm (mdS M x) = mdm M := rfl
theorem mds_S (x : Nat → Bool) : mds (mdS M x) = x := rfl
theorem mdd_S (x : Nat → Bool) : mdd (mdS M x) = mdd M := rfl
theorem mdt_D (x : Nat → Bool) : mdt (mdD M x) = mdt M := rfl
theorem mdl_D (x : Nat → Bool) : mdl (mdD M x) = mdl M := rfl
theorem mdu_D (x : Nat → Bool) : mdu (mdD M x) = mdu M := rfl
theorem mdr_D (x : Nat → Bool) : mdr (mdD M x) = mdr M := rfl
theorem mda_D (x : Nat → Bool) : mda (mdD M x) = mda M := rfl
theorem mdg_D (x : Nat → Bool) : mdg (mdD M x) = mdg M := rfl
theorem mdi_D (x : Nat → Bool) : mdi (mdD M x) = mdi M := rfl
theorem mdo_D (x : Nat → Bool) : mdo (mdD M x) = mdo M := rfl
theorem mdv_D (x : Nat → Bool) : mdv (mdD M x) = mdv M := rfl
theorem mdk_D (x : Nat → Bool) : mdk (mdD M x) = mdk M := rfl
theorem mdn_D (x : Nat → Bool) : mdn (mdD M x) = mdn M := rfl
theorem mdm_D (x : Nat → Bool) : mdm (mdD M x) = mdm M := rfl
theorem mds_D (x : Nat → Bool) : mds (mdD M x) = mds M := rfl
theorem mdd_D (x : Nat → Bool) : mdd (mdD M x) = x := rfl
end M40
theorem nJ_add (a b : Nat) : nI a + nI b = nI (a + b) := (Int32.ofNat_add a b).symm
theorem nJ_mul (a b : Nat) : nI a * nI b = nI (a * b) := (Int32.ofNat_mul a b).symm
theorem nJ_m10 (a b : Nat) : (10 : Int32) * nI a + nI b = nI (10 * a + b) := by
  rw [show (10 : Int32) = nI 10 from rfl, nJ_mul, nJ_add]
theorem nJ_m16 (a b : Nat) : (16 : Int32) * nI a + nI b = nI (16 * a + b) := by
  rw [show (16 : Int32) = nI 16 from rfl, nJ_mul, nJ_add]
theorem rb_nat2 {n : Int32} {m : Nat} (hm : m + 1 < 2 ^ 31) (h0 : ¬ n < 0) (h1 : ¬ nI m < n) : ∃ k, k < m + 1 ∧ n = nI k := by
  refine rb_nat hm h0 ?_
  rw [Int32.lt_iff_toInt_lt, nI_toInt (by omega)] at h1
  rw [Int32.le_iff_toInt_le, nI_toInt hm]
  omega
section M40X
variable {sl : Nat} {sx : Nat → Int32} {mi : Nat} {o : ri_O} {pc : Nat} {L : List (Option Value)} {r : List Value} {w : ri_W}
theorem ri_X.zldx {a n k : Nat} {B : Nat → Bool} {x : Int32} (hx : x = nI k) (ha : ri_at mi pc = some .baload) (hw : w[a]? = some (.inl (2, n, .inl (fun j => rb_i (B j))))) (hk : k < n) (hn : Nat.blt n 2147483648 = true) (kk : ri_X sl sx mi (pc + 1, L, .int (rb_i (B k)) :: r, w) o) : ri_X sl sx mi (pc, L, .int x :: .ref (a + 1) :: r, w) o := by
  subst hx
  exact ri_X.zld ha hw hk hn kk
theorem ri_X.zstx {a n k : Nat} {B : Nat → Bool} (b : Bool) {x : Int32} (hx : x = nI k) (ha : ri_at mi pc = some .bastore) (hp : ri_pu mi = false) (hw : w[a]? = some (.inl (2, n, .inl (fun j => rb_i (B j))))) (hk : k < n) (hn : Nat.blt n 2147483648 = true) (kk : ri_X sl sx mi (pc + 1, L, r, w.set a (.inl (2, n, .inl (fun j => rb_i (rb_u B k b j))))) o) : ri_X sl sx mi (pc, L, .int (rb_i b) :: .int x :: .ref (a + 1) :: r, w) o := by
  subst hx
  exact ri_X.zst b ha hp hw hk hn kk
end M40X
