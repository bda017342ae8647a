/-! A statement, the model's side in steps. -/
def hz_one1 (m : Md) (i a b : Int32) (z : Nat) : Md := mA (fX7_number (fX7_once m i) a b).2 ((fX7_once m i).2.2) (upd ((fX7_number (fX7_once m i) a b).2.2.1 ((fX7_once m i).2.2)) z (fX7_number (fX7_once m i) a b).1)
def hz_tol (m : Md) : Md := mA (fX7_number (hz_one1 m 0 0 500 0) 0 255).2 ((hz_one1 m 0 0 500 0).2.2) (upd ((fX7_number (hz_one1 m 0 0 500 0) 0 255).2.2.1 ((hz_one1 m 0 0 500 0).2.2)) 1 (fX7_number (hz_one1 m 0 0 500 0) 0 255).1)
theorem hz_pSt (m : Md) : fX7_parseStatement m = (if (fX7_isText m mq21) = 0 then (if (fX7_isText m mq22) = 0 then (if (fX7_isText m mq23) = 0 then (if (fX7_isText m mq24) = 0 then (if (fX7_isText m mq25) = 0 then (if (fX7_isText m mq26) = 0 then (if (fX7_isText m mq27) = 0 then hz_fin (fX7_fail m 1) else hz_fin (fX7_parsePiece m)) else hz_fin (fX7_parseSize m)) else hz_fin (fX7_parseShape m)) else hz_fin (fX7_parseYarn m)) else hz_fin (hz_one1 m 2 1 6 3)) else hz_fin (hz_one1 m 1 0 100 2)) else hz_fin (hz_tol m)) := by
  unfold fX7_parseStatement hz_tol hz_one1 hz_fin
  simp only [hz_bid]
  simp only [hz_bnd]
