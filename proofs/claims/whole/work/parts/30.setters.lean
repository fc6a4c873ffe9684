/-! Stores in the class's cells, as setters -/
section C31A
variable {r : ri_W} {C : rd_S}
theorem rd_WA (f : Nat → Int32) : (rd_W C r).set 1 (.inl (0, 6, .inl f)) = rd_W (rdA C f) r := rfl
theorem rd_WG (f : Nat → Int32) : (rd_W C r).set 2 (.inl (0, 10, .inl f)) = rd_W (rdG C f) r := rfl
theorem rd_WI (f : Nat → Int32) : (rd_W C r).set 3 (.inl (0, 10, .inl f)) = rd_W (rdI C f) r := rfl
theorem rd_WO (f : Nat → Int32) : (rd_W C r).set 4 (.inl (0, 6, .inl f)) = rd_W (rdO C f) r := rfl
theorem rd_WV (f : Nat → Int32) : (rd_W C r).set 5 (.inl (0, 6, .inl f)) = rd_W (rdV C f) r := rfl
theorem rd_WN (f : Nat → Int32) : (rd_W C r).set 6 (.inl (0, 4, .inl f)) = rd_W (rdN C f) r := rfl
theorem rd_WM (f : Nat → Int32) : (rd_W C r).set 7 (.inl (0, 4, .inl f)) = rd_W (rdM C f) r := rfl
theorem rd_WB (f : Nat → Int32) : (rd_W C r).set 8 (.inl (0, 4, .inl f)) = rd_W (rdB C f) r := rfl
theorem rd_WU (x : Int32) : (rd_W C r).set 0 (.inr (0, ([.int (rb_i (rdl C)), .int (rdu C), .int (rdr C), .int (rds C), .int (rdk C), .ref 2, .ref 3, .ref 4, .ref 5, .ref 6, .ref 7, .ref 8, .ref 9] : List Value).set 1 (.int x))) = rd_W (rdU C x) r := rfl
theorem rd_WR (x : Int32) : (rd_W C r).set 0 (.inr (0, ([.int (rb_i (rdl C)), .int (rdu C), .int (rdr C), .int (rds C), .int (rdk C), .ref 2, .ref 3, .ref 4, .ref 5, .ref 6, .ref 7, .ref 8, .ref 9] : List Value).set 2 (.int x))) = rd_W (rdR C x) r := rfl
theorem rd_WS (x : Int32) : (rd_W C r).set 0 (.inr (0, ([.int (rb_i (rdl C)), .int (rdu C), .int (rdr C), .int (rds C), .int (rdk C), .ref 2, .ref 3, .ref 4, .ref 5, .ref 6, .ref 7, .ref 8, .ref 9] : List Value).set 3 (.int x))) = rd_W (rdS C x) r := rfl
theorem rd_WK (x : Int32) : (rd_W C r).set 0 (.inr (0, ([.int (rb_i (rdl C)), .int (rdu C), .int (rdr C), .int (rds C), .int (rdk C), .ref 2, .ref 3, .ref 4, .ref 5, .ref 6, .ref 7, .ref 8, .ref 9] : List Value).set 4 (.int x))) = rd_W (rdK C x) r := rfl
theorem rdAA (a b : Nat → Int32) : rdA (rdA C a) b = rdA C b := rfl
theorem rdGG (a b : Nat → Int32) : rdG (rdG C a) b = rdG C b := rfl
theorem rdII (a b : Nat → Int32) : rdI (rdI C a) b = rdI C b := rfl
theorem rdOO (a b : Nat → Int32) : rdO (rdO C a) b = rdO C b := rfl
theorem rdVV (a b : Nat → Int32) : rdV (rdV C a) b = rdV C b := rfl
theorem rdNN (a b : Nat → Int32) : rdN (rdN C a) b = rdN C b := rfl
theorem rdMM (a b : Nat → Int32) : rdM (rdM C a) b = rdM C b := rfl
theorem rdBB (a b : Nat → Int32) : rdB (rdB C a) b = rdB C b := rfl
theorem rdUU (a b : Int32) : rdU (rdU C a) b = rdU C b := rfl
theorem rdRR (a b : Int32) : rdR (rdR C a) b = rdR C b := rfl
theorem rdSS (a b : Int32) : rdS (rdS C a) b = rdS C b := rfl
theorem rdKK (a b : Int32) : rdK (rdK C a) b = rdK C b := rfl
theorem rdu_A (x : Nat → Int32) : rdu (rdA C x) = rdu C := rfl
theorem rdr_A (x : Nat → Int32) : rdr (rdA C x) = rdr C := rfl
theorem rds_A (x : Nat → Int32) : rds (rdA C x) = rds C := rfl
theorem rdk_A (x : Nat → Int32) : rdk (rdA C x) = rdk C := rfl
theorem rda_A (x : Nat → Int32) : rda (rdA C x) = x := rfl
theorem rdg_A (x : Nat → Int32) : rdg (rdA C x) = rdg C := rfl
theorem rdi_A (x : Nat → Int32) : rdi (rdA C x) = rdi C := rfl
theorem rdo_A (x : Nat → Int32) : rdo (rdA C x) = rdo C := rfl
theorem rdv_A (x : Nat → Int32) : rdv (rdA C x) = rdv C := rfl
theorem rdn_A (x : Nat → Int32) : rdn (rdA C x) = rdn C := rfl
theorem rdm_A (x : Nat → Int32) : rdm (rdA C x) = rdm C := rfl
theorem rdb_A (x : Nat → Int32) : rdb (rdA C x) = rdb C := rfl
theorem rdl_A (x : Nat → Int32) : rdl (rdA C x) = rdl C := rfl
theorem rdu_G (x : Nat → Int32) : rdu (rdG C x) = rdu C := rfl
theorem rdr_G (x : Nat → Int32) : rdr (rdG C x) = rdr C := rfl
theorem rds_G (x : Nat → Int32) : rds (rdG C x) = rds C := rfl
theorem rdk_G (x : Nat → Int32) : rdk (rdG C x) = rdk C := rfl
theorem rda_G (x : Nat → Int32) : rda (rdG C x) = rda C := rfl
theorem rdg_G (x : Nat → Int32) : rdg (rdG C x) = x := rfl
theorem rdi_G (x : Nat → Int32) : rdi (rdG C x) = rdi C := rfl
theorem rdo_G (x : Nat → Int32) : rdo (rdG C x) = rdo C := rfl
theorem rdv_G (x : Nat → Int32) : rdv (rdG C x) = rdv C := rfl
theorem rdn_G (x : Nat → Int32) : rdn (rdG C x) = rdn C := rfl
theorem rdm_G (x : Nat → Int32) : rdm (rdG C x) = rdm C := rfl
theorem rdb_G (x : Nat → Int32) : rdb (rdG C x) = rdb C := rfl
theorem rdl_G (x : Nat → Int32) : rdl (rdG C x) = rdl C := rfl
theorem rdu_I (x : Nat → Int32) : rdu (rdI C x) = rdu C := rfl
theorem rdr_I (x : Nat → Int32) : rdr (rdI C x) = rdr C := rfl
theorem rds_I (x : Nat → Int32) : rds (rdI C x) = rds C := rfl
theorem rdk_I (x : Nat → Int32) : rdk (rdI C x) = rdk C := rfl
theorem rda_I (x : Nat → Int32) : rda (rdI C x) = rda C := rfl
theorem rdg_I (x : Nat → Int32) : rdg (rdI C x) = rdg C := rfl
theorem rdi_I (x : Nat → Int32) : rdi (rdI C x) = x := rfl
theorem rdo_I (x : Nat → Int32) : rdo (rdI C x) = rdo C := rfl
theorem rdv_I (x : Nat → Int32) : rdv (rdI C x) = rdv C := rfl
theorem rdn_I (x : Nat → Int32) : rdn (rdI C x) = rdn C := rfl
theorem rdm_I (x : Nat → Int32) : rdm (rdI C x) = rdm C := rfl
theorem rdb_I (x : Nat → Int32) : rdb (rdI C x) = rdb C := rfl
theorem rdl_I (x : Nat → Int32) : rdl (rdI C x) = rdl C := rfl
theorem rdu_O (x : Nat → Int32) : rdu (rdO C x) = rdu C := rfl
theorem rdr_O (x : Nat → Int32) : rdr (rdO C x) = rdr C := rfl
theorem rds_O (x : Nat → Int32) : rds (rdO C x) = rds C := rfl
theorem rdk_O (x : Nat → Int32) : rdk (rdO C x) = rdk C := rfl
theorem rda_O (x : Nat → Int32) : rda (rdO C x) = rda C := rfl
theorem rdg_O (x : Nat → Int32) : rdg (rdO C x) = rdg C := rfl
theorem rdi_O (x : Nat → Int32) : rdi (rdO C x) = rdi C := rfl
theorem rdo_O (x : Nat → Int32) : rdo (rdO C x) = x := rfl
theorem rdv_O (x : Nat → Int32) : rdv (rdO C x) = rdv C := rfl
theorem rdn_O (x : Nat → Int32) : rdn (rdO C x) = rdn C := rfl
theorem rdm_O (x : Nat → Int32) : rdm (rdO C x) = rdm C := rfl
theorem rdb_O (x : Nat → Int32) : rdb (rdO C x) = rdb C := rfl
theorem rdl_O (x : Nat → Int32) : rdl (rdO C x) = rdl C := rfl
theorem rdu_V (x : Nat → Int32) : rdu (rdV C x) = rdu C := rfl
theorem rdr_V (x : Nat → Int32) : rdr (rdV C x) = rdr C := rfl
theorem rds_V (x : Nat → Int32) : rds (rdV C x) = rds C := rfl
theorem rdk_V (x : Nat → Int32) : rdk (rdV C x) = rdk C := rfl
theorem rda_V (x : Nat → Int32) : rda (rdV C x) = rda C := rfl
theorem rdg_V (x : Nat → Int32) : rdg (rdV C x) = rdg C := rfl
theorem rdi_V (x : Nat → Int32) : rdi (rdV C x) = rdi C := rfl
theorem rdo_V (x : Nat → Int32) : rdo (rdV C x) = rdo C := rfl
theorem rdv_V (x : Nat → Int32) : rdv (rdV C x) = x := rfl
theorem rdn_V (x : Nat → Int32) : rdn (rdV C x) = rdn C := rfl
theorem rdm_V (x : Nat → Int32) : rdm (rdV C x) = rdm C := rfl
theorem rdb_V (x : Nat → Int32) : rdb (rdV C x) = rdb C := rfl
theorem rdl_V (x : Nat → Int32) : rdl (rdV C x) = rdl C := rfl
theorem rdu_N (x : Nat → Int32) : rdu (rdN C x) = rdu C := rfl
theorem rdr_N (x : Nat → Int32) : rdr (rdN C x) = rdr C := rfl
theorem rds_N (x : Nat → Int32) : rds (rdN C x) = rds C := rfl
theorem rdk_N (x : Nat → Int32) : rdk (rdN C x) = rdk C := rfl
theorem rda_N (x : Nat → Int32) : rda (rdN C x) = rda C := rfl
theorem rdg_N (x : Nat → Int32) : rdg (rdN C x) = rdg C := rfl
theorem rdi_N (x : Nat → Int32) : rdi (rdN C x) = rdi C := rfl
theorem rdo_N (x : Nat → Int32) : rdo (rdN C x) = rdo C := rfl
theorem rdv_N (x : Nat → Int32) : rdv (rdN C x) = rdv C := rfl
theorem rdn_N (x : Nat → Int32) : rdn (rdN C x) = x := rfl
theorem rdm_N (x : Nat → Int32) : rdm (rdN C x) = rdm C := rfl
theorem rdb_N (x : Nat → Int32) : rdb (rdN C x) = rdb C := rfl
theorem rdl_N (x : Nat → Int32) : rdl (rdN C x) = rdl C := rfl
theorem rdu_M (x : Nat → Int32) : rdu (rdM C x) = rdu C := rfl
theorem rdr_M (x : Nat → Int32) : rdr (rdM C x) = rdr C := rfl
theorem rds_M (x : Nat → Int32) : rds (rdM C x) = rds C := rfl
theorem rdk_M (x : Nat → Int32) : rdk (rdM C x) = rdk C := rfl
theorem rda_M (x : Nat → Int32) : rda (rdM C x) = rda C := rfl
theorem rdg_M (x : Nat → Int32) : rdg (rdM C x) = rdg C := rfl
theorem rdi_M (x : Nat → Int32) : rdi (rdM C x) = rdi C := rfl
theorem rdo_M (x : Nat → Int32) : rdo (rdM C x) = rdo C := rfl
theorem rdv_M (x : Nat → Int32) : rdv (rdM C x) = rdv C := rfl
theorem rdn_M (x : Nat → Int32) : rdn (rdM C x) = rdn C := rfl
theorem rdm_M (x : Nat → Int32) : rdm (rdM C x) = x := rfl
theorem rdb_M (x : Nat → Int32) : rdb (rdM C x) = rdb C := rfl
theorem rdl_M (x : Nat → Int32) : rdl (rdM C x) = rdl C := rfl
theorem rdu_B (x : Nat → Int32) : rdu (rdB C x) = rdu C := rfl
theorem rdr_B (x : Nat → Int32) : rdr (rdB C x) = rdr C := rfl
theorem rds_B (x : Nat → Int32) : rds (rdB C x) = rds C := rfl
theorem rdk_B (x : Nat → Int32) : rdk (rdB C x) = rdk C := rfl
theorem rda_B (x : Nat → Int32) : rda (rdB C x) = rda C := rfl
theorem rdg_B (x : Nat → Int32) : rdg (rdB C x) = rdg C := rfl
theorem rdi_B (x : Nat → Int32) : rdi (rdB C x) = rdi C := rfl
theorem rdo_B (x : Nat → Int32) : rdo (rdB C x) = rdo C := rfl
theorem rdv_B (x : Nat → Int32) : rdv (rdB C x) = rdv C := rfl
theorem rdn_B (x : Nat → Int32) : rdn (rdB C x) = rdn C := rfl
theorem rdm_B (x : Nat → Int32) : rdm (rdB C x) = rdm C := rfl
theorem rdb_B (x : Nat → Int32) : rdb (rdB C x) = x := rfl
theorem rdl_B (x : Nat → Int32) : rdl (rdB C x) = rdl C := rfl
theorem rdu_U (x : Int32) : rdu (rdU C x) = x := rfl
theorem rdr_U (x : Int32) : rdr (rdU C x) = rdr C := rfl
theorem rds_U (x : Int32) : rds (rdU C x) = rds C := rfl
theorem rdk_U (x : Int32) : rdk (rdU C x) = rdk C := rfl
theorem rda_U (x : Int32) : rda (rdU C x) = rda C := rfl
theorem rdg_U (x : Int32) : rdg (rdU C x) = rdg C := rfl
theorem rdi_U (x : Int32) : rdi (rdU C x) = rdi C := rfl
theorem rdo_U (x : Int32) : rdo (rdU C x) = rdo C := rfl
theorem rdv_U (x : Int32) : rdv (rdU C x) = rdv C := rfl
theorem rdn_U (x : Int32) : rdn (rdU C x) = rdn C := rfl
theorem rdm_U (x : Int32) : rdm (rdU C x) = rdm C := rfl
theorem rdb_U (x : Int32) : rdb (rdU C x) = rdb C := rfl
theorem rdl_U (x : Int32) : rdl (rdU C x) = rdl C := rfl
theorem rdu_R (x : Int32) : rdu (rdR C x) = rdu C := rfl
theorem rdr_R (x : Int32) : rdr (rdR C x) = x := rfl
theorem rds_R (x : Int32) : rds (rdR C x) = rds C := rfl
theorem rdk_R (x : Int32) : rdk (rdR C x) = rdk C := rfl
theorem rda_R (x : Int32) : rda (rdR C x) = rda C := rfl
theorem rdg_R (x : Int32) : rdg (rdR C x) = rdg C := rfl
theorem rdi_R (x : Int32) : rdi (rdR C x) = rdi C := rfl
theorem rdo_R (x : Int32) : rdo (rdR C x) = rdo C := rfl
theorem rdv_R (x : Int32) : rdv (rdR C x) = rdv C := rfl
theorem rdn_R (x : Int32) : rdn (rdR C x) = rdn C := rfl
theorem rdm_R (x : Int32) : rdm (rdR C x) = rdm C := rfl
theorem rdb_R (x : Int32) : rdb (rdR C x) = rdb C := rfl
theorem rdl_R (x : Int32) : rdl (rdR C x) = rdl C := rfl
theorem rdu_S (x : Int32) : rdu (rdS C x) = rdu C := rfl
theorem rdr_S (x : Int32) : rdr (rdS C x) = rdr C := rfl
theorem rds_S (x : Int32) : rds (rdS C x) = x := rfl
theorem rdk_S (x : Int32) : rdk (rdS C x) = rdk C := rfl
theorem rda_S (x : Int32) : rda (rdS C x) = rda C := rfl
theorem rdg_S (x : Int32) : rdg (rdS C x) = rdg C := rfl
theorem rdi_S (x : Int32) : rdi (rdS C x) = rdi C := rfl
theorem rdo_S (x : Int32) : rdo (rdS C x) = rdo C := rfl
theorem rdv_S (x : Int32) : rdv (rdS C x) = rdv C := rfl
theorem rdn_S (x : Int32) : rdn (rdS C x) = rdn C := rfl
theorem rdm_S (x : Int32) : rdm (rdS C x) = rdm C := rfl
theorem rdb_S (x : Int32) : rdb (rdS C x) = rdb C := rfl
theorem rdl_S (x : Int32) : rdl (rdS C x) = rdl C := rfl
theorem rdu_K (x : Int32) : rdu (rdK C x) = rdu C := rfl
theorem rdr_K (x : Int32) : rdr (rdK C x) = rdr C := rfl
theorem rds_K (x : Int32) : rds (rdK C x) = rds C := rfl
theorem rdk_K (x : Int32) : rdk (rdK C x) = x := rfl
theorem rda_K (x : Int32) : rda (rdK C x) = rda C := rfl
theorem rdg_K (x : Int32) : rdg (rdK C x) = rdg C := rfl
theorem rdi_K (x : Int32) : rdi (rdK C x) = rdi C := rfl
theorem rdo_K (x : Int32) : rdo (rdK C x) = rdo C := rfl
theorem rdv_K (x : Int32) : rdv (rdK C x) = rdv C := rfl
theorem rdn_K (x : Int32) : rdn (rdK C x) = rdn C := rfl
theorem rdm_K (x : Int32) : rdm (rdK C x) = rdm C := rfl
theorem rdb_K (x : Int32) : rdb (rdK C x) = rdb C := rfl
theorem rdl_K (x : Int32) : rdl (rdK C x) = rdl C := rfl
theorem rdUR (x : Int32) (y : Int32) : rdU (rdR C x) y = rdR (rdU C y) x := rfl
theorem rdUS (x : Int32) (y : Int32) : rdU (rdS C x) y = rdS (rdU C y) x := rfl
theorem rdRS (x : Int32) (y : Int32) : rdR (rdS C x) y = rdS (rdR C y) x := rfl
theorem rdUK (x : Int32) (y : Int32) : rdU (rdK C x) y = rdK (rdU C y) x := rfl
theorem rdRK (x : Int32) (y : Int32) : rdR (rdK C x) y = rdK (rdR C y) x := rfl
theorem rdSK (x : Int32) (y : Int32) : rdS (rdK C x) y = rdK (rdS C y) x := rfl
theorem rdUA (x : Nat → Int32) (y : Int32) : rdU (rdA C x) y = rdA (rdU C y) x := rfl
theorem rdRA (x : Nat → Int32) (y : Int32) : rdR (rdA C x) y = rdA (rdR C y) x := rfl
theorem rdSA (x : Nat → Int32) (y : Int32) : rdS (rdA C x) y = rdA (rdS C y) x := rfl
theorem rdKA (x : Nat → Int32) (y : Int32) : rdK (rdA C x) y = rdA (rdK C y) x := rfl
theorem rdUG (x : Nat → Int32) (y : Int32) : rdU (rdG C x) y = rdG (rdU C y) x := rfl
theorem rdRG (x : Nat → Int32) (y : Int32) : rdR (rdG C x) y = rdG (rdR C y) x := rfl
theorem rdSG (x : Nat → Int32) (y : Int32) : rdS (rdG C x) y = rdG (rdS C y) x := rfl
theorem rdKG (x : Nat → Int32) (y : Int32) : rdK (rdG C x) y = rdG (rdK C y) x := rfl
theorem rdAG (x : Nat → Int32) (y : Nat → Int32) : rdA (rdG C x) y = rdG (rdA C y) x := rfl
theorem rdUI (x : Nat → Int32) (y : Int32) : rdU (rdI C x) y = rdI (rdU C y) x := rfl
theorem rdRI (x : Nat → Int32) (y : Int32) : rdR (rdI C x) y = rdI (rdR C y) x := rfl
theorem rdSI (x : Nat → Int32) (y : Int32) : rdS (rdI C x) y = rdI (rdS C y) x := rfl
theorem rdKI (x : Nat → Int32) (y : Int32) : rdK (rdI C x) y = rdI (rdK C y) x := rfl
theorem rdAI (x : Nat → Int32) (y : Nat → Int32) : rdA (rdI C x) y = rdI (rdA C y) x := rfl
theorem rdGI (x : Nat → Int32) (y : Nat → Int32) : rdG (rdI C x) y = rdI (rdG C y) x := rfl
theorem rdUO (x : Nat → Int32) (y : Int32) : rdU (rdO C x) y = rdO (rdU C y) x := rfl
theorem rdRO (x : Nat → Int32) (y : Int32) : rdR (rdO C x) y = rdO (rdR C y) x := rfl
theorem rdSO (x : Nat → Int32) (y : Int32) : rdS (rdO C x) y = rdO (rdS C y) x := rfl
theorem rdKO (x : Nat → Int32) (y : Int32) : rdK (rdO C x) y = rdO (rdK C y) x := rfl
theorem rdAO (x : Nat → Int32) (y : Nat → Int32) : rdA (rdO C x) y = rdO (rdA C y) x := rfl
theorem rdGO (x : Nat → Int32) (y : Nat → Int32) : rdG (rdO C x) y = rdO (rdG C y) x := rfl
theorem rdIO (x : Nat → Int32) (y : Nat → Int32) : rdI (rdO C x) y = rdO (rdI C y) x := rfl
theorem rdUV (x : Nat → Int32) (y : Int32) : rdU (rdV C x) y = rdV (rdU C y) x := rfl
theorem rdRV (x : Nat → Int32) (y : Int32) : rdR (rdV C x) y = rdV (rdR C y) x := rfl
theorem rdSV (x : Nat → Int32) (y : Int32) : rdS (rdV C x) y = rdV (rdS C y) x := rfl
theorem rdKV (x : Nat → Int32) (y : Int32) : rdK (rdV C x) y = rdV (rdK C y) x := rfl
theorem rdAV (x : Nat → Int32) (y : Nat → Int32) : rdA (rdV C x) y = rdV (rdA C y) x := rfl
theorem rdGV (x : Nat → Int32) (y : Nat → Int32) : rdG (rdV C x) y = rdV (rdG C y) x := rfl
theorem rdIV (x : Nat → Int32) (y : Nat → Int32) : rdI (rdV C x) y = rdV (rdI C y) x := rfl
theorem rdOV (x : Nat → Int32) (y : Nat → Int32) : rdO (rdV C x) y = rdV (rdO C y) x := rfl
theorem rdUN (x : Nat → Int32) (y : Int32) : rdU (rdN C x) y = rdN (rdU C y) x := rfl
theorem rdRN (x : Nat → Int32) (y : Int32) : rdR (rdN C x) y = rdN (rdR C y) x := rfl
theorem rdSN (x : Nat → Int32) (y : Int32) : rdS (rdN C x) y = rdN (rdS C y) x := rfl
theorem rdKN (x : Nat → Int32) (y : Int32) : rdK (rdN C x) y = rdN (rdK C y) x := rfl
theorem rdAN (x : Nat → Int32) (y : Nat → Int32) : rdA (rdN C x) y = rdN (rdA C y) x := rfl
theorem rdGN (x : Nat → Int32) (y : Nat → Int32) : rdG (rdN C x) y = rdN (rdG C y) x := rfl
theorem rdIN (x : Nat → Int32) (y : Nat → Int32) : rdI (rdN C x) y = rdN (rdI C y) x := rfl
theorem rdON (x : Nat → Int32) (y : Nat → Int32) : rdO (rdN C x) y = rdN (rdO C y) x := rfl
theorem rdVN (x : Nat → Int32) (y : Nat → Int32) : rdV (rdN C x) y = rdN (rdV C y) x := rfl
theorem rdUM (x : Nat → Int32) (y : Int32) : rdU (rdM C x) y = rdM (rdU C y) x := rfl
theorem rdRM (x : Nat → Int32) (y : Int32) : rdR (rdM C x) y = rdM (rdR C y) x := rfl
theorem rdSM (x : Nat → Int32) (y : Int32) : rdS (rdM C x) y = rdM (rdS C y) x := rfl
theorem rdKM (x : Nat → Int32) (y : Int32) : rdK (rdM C x) y = rdM (rdK C y) x := rfl
theorem rdAM (x : Nat → Int32) (y : Nat → Int32) : rdA (rdM C x) y = rdM (rdA C y) x := rfl
theorem rdGM (x : Nat → Int32) (y : Nat → Int32) : rdG (rdM C x) y = rdM (rdG C y) x := rfl
theorem rdIM (x : Nat → Int32) (y : Nat → Int32) : rdI (rdM C x) y = rdM (rdI C y) x := rfl
theorem rdOM (x : Nat → Int32) (y : Nat → Int32) : rdO (rdM C x) y = rdM (rdO C y) x := rfl
theorem rdVM (x : Nat → Int32) (y : Nat → Int32) : rdV (rdM C x) y = rdM (rdV C y) x := rfl
theorem rdNM (x : Nat → Int32) (y : Nat → Int32) : rdN (rdM C x) y = rdM (rdN C y) x := rfl
theorem rdUB (x : Nat → Int32) (y : Int32) : rdU (rdB C x) y = rdB (rdU C y) x := rfl
theorem rdRB (x : Nat → Int32) (y : Int32) : rdR (rdB C x) y = rdB (rdR C y) x := rfl
theorem rdSB (x : Nat → Int32) (y : Int32) : rdS (rdB C x) y = rdB (rdS C y) x := rfl
theorem rdKB (x : Nat → Int32) (y : Int32) : rdK (rdB C x) y = rdB (rdK C y) x := rfl
theorem rdAB (x : Nat → Int32) (y : Nat → Int32) : rdA (rdB C x) y = rdB (rdA C y) x := rfl
theorem rdGB (x : Nat → Int32) (y : Nat → Int32) : rdG (rdB C x) y = rdB (rdG C y) x := rfl
theorem rdIB (x : Nat → Int32) (y : Nat → Int32) : rdI (rdB C x) y = rdB (rdI C y) x := rfl
theorem rdOB (x : Nat → Int32) (y : Nat → Int32) : rdO (rdB C x) y = rdB (rdO C y) x := rfl
theorem rdVB (x : Nat → Int32) (y : Nat → Int32) : rdV (rdB C x) y = rdB (rdV C y) x := rfl
theorem rdNB (x : Nat → Int32) (y : Nat → Int32) : rdN (rdB C x) y = rdB (rdN C y) x := rfl
theorem rdMB (x : Nat → Int32) (y : Nat → Int32) : rdM (rdB C x) y = rdB (rdM C y) x := rfl
end C31A
