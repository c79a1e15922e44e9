def c_X8_goesThrough_16_48 (M : Mm) (a1 : Int32) (a2 : Int32) (y3 : Int32) (y4 : Int32) : Prop := True
noncomputable def s_X8_goesThrough_16_48 (M : Mm) (a1 : Int32) (a2 : Int32) (y3 : Int32) (y4 : Int32) : Mm × Int32 := if ((wi (wi (wi (w_X8_turns M y4) 617 (Int32.toNatClampNeg y4) (r_X8_turns M y4)) 616 (Int32.toNatClampNeg y4) ((wi (w_X8_turns M y4) 617 (Int32.toNatClampNeg y4) (r_X8_turns M y4)).1 607 (Int32.toNatClampNeg (((wi (w_X8_turns M y4) 617 (Int32.toNatClampNeg y4) (r_X8_turns M y4)).1 600 10) + 21)))) 600 31 (((wi (wi (w_X8_turns M y4) 617 (Int32.toNatClampNeg y4) (r_X8_turns M y4)) 616 (Int32.toNatClampNeg y4) ((wi (w_X8_turns M y4) 617 (Int32.toNatClampNeg y4) (r_X8_turns M y4)).1 607 (Int32.toNatClampNeg (((wi (w_X8_turns M y4) 617 (Int32.toNatClampNeg y4) (r_X8_turns M y4)).1 600 10) + 21)))).1 600 31) + ((wi (wi (w_X8_turns M y4) 617 (Int32.toNatClampNeg y4) (r_X8_turns M y4)) 616 (Int32.toNatClampNeg y4) ((wi (w_X8_turns M y4) 617 (Int32.toNatClampNeg y4) (r_X8_turns M y4)).1 607 (Int32.toNatClampNeg (((wi (w_X8_turns M y4) 617 (Int32.toNatClampNeg y4) (r_X8_turns M y4)).1 600 10) + 21)))).1 617 (Int32.toNatClampNeg y4)))).1 607 (Int32.toNatClampNeg ((((wi (wi (wi (w_X8_turns M y4) 617 (Int32.toNatClampNeg y4) (r_X8_turns M y4)) 616 (Int32.toNatClampNeg y4) ((wi (w_X8_turns M y4) 617 (Int32.toNatClampNeg y4) (r_X8_turns M y4)).1 607 (Int32.toNatClampNeg (((wi (w_X8_turns M y4) 617 (Int32.toNatClampNeg y4) (r_X8_turns M y4)).1 600 10) + 21)))) 600 31 (((wi (wi (w_X8_turns M y4) 617 (Int32.toNatClampNeg y4) (r_X8_turns M y4)) 616 (Int32.toNatClampNeg y4) ((wi (w_X8_turns M y4) 617 (Int32.toNatClampNeg y4) (r_X8_turns M y4)).1 607 (Int32.toNatClampNeg (((wi (w_X8_turns M y4) 617 (Int32.toNatClampNeg y4) (r_X8_turns M y4)).1 600 10) + 21)))).1 600 31) + ((wi (wi (w_X8_turns M y4) 617 (Int32.toNatClampNeg y4) (r_X8_turns M y4)) 616 (Int32.toNatClampNeg y4) ((wi (w_X8_turns M y4) 617 (Int32.toNatClampNeg y4) (r_X8_turns M y4)).1 607 (Int32.toNatClampNeg (((wi (w_X8_turns M y4) 617 (Int32.toNatClampNeg y4) (r_X8_turns M y4)).1 600 10) + 21)))).1 617 (Int32.toNatClampNeg y4)))).1 600 10) + 9) + y4))) = (2 : Int32) then ((wi (wi (wi (wi (w_X8_turns M y4) 617 (Int32.toNatClampNeg y4) (r_X8_turns M y4)) 616 (Int32.toNatClampNeg y4) ((wi (w_X8_turns M y4) 617 (Int32.toNatClampNeg y4) (r_X8_turns M y4)).1 607 (Int32.toNatClampNeg (((wi (w_X8_turns M y4) 617 (Int32.toNatClampNeg y4) (r_X8_turns M y4)).1 600 10) + 21)))) 600 31 (((wi (wi (w_X8_turns M y4) 617 (Int32.toNatClampNeg y4) (r_X8_turns M y4)) 616 (Int32.toNatClampNeg y4) ((wi (w_X8_turns M y4) 617 (Int32.toNatClampNeg y4) (r_X8_turns M y4)).1 607 (Int32.toNatClampNeg (((wi (w_X8_turns M y4) 617 (Int32.toNatClampNeg y4) (r_X8_turns M y4)).1 600 10) + 21)))).1 600 31) + ((wi (wi (w_X8_turns M y4) 617 (Int32.toNatClampNeg y4) (r_X8_turns M y4)) 616 (Int32.toNatClampNeg y4) ((wi (w_X8_turns M y4) 617 (Int32.toNatClampNeg y4) (r_X8_turns M y4)).1 607 (Int32.toNatClampNeg (((wi (w_X8_turns M y4) 617 (Int32.toNatClampNeg y4) (r_X8_turns M y4)).1 600 10) + 21)))).1 617 (Int32.toNatClampNeg y4)))) 600 32 (((wi (wi (wi (w_X8_turns M y4) 617 (Int32.toNatClampNeg y4) (r_X8_turns M y4)) 616 (Int32.toNatClampNeg y4) ((wi (w_X8_turns M y4) 617 (Int32.toNatClampNeg y4) (r_X8_turns M y4)).1 607 (Int32.toNatClampNeg (((wi (w_X8_turns M y4) 617 (Int32.toNatClampNeg y4) (r_X8_turns M y4)).1 600 10) + 21)))) 600 31 (((wi (wi (w_X8_turns M y4) 617 (Int32.toNatClampNeg y4) (r_X8_turns M y4)) 616 (Int32.toNatClampNeg y4) ((wi (w_X8_turns M y4) 617 (Int32.toNatClampNeg y4) (r_X8_turns M y4)).1 607 (Int32.toNatClampNeg (((wi (w_X8_turns M y4) 617 (Int32.toNatClampNeg y4) (r_X8_turns M y4)).1 600 10) + 21)))).1 600 31) + ((wi (wi (w_X8_turns M y4) 617 (Int32.toNatClampNeg y4) (r_X8_turns M y4)) 616 (Int32.toNatClampNeg y4) ((wi (w_X8_turns M y4) 617 (Int32.toNatClampNeg y4) (r_X8_turns M y4)).1 607 (Int32.toNatClampNeg (((wi (w_X8_turns M y4) 617 (Int32.toNatClampNeg y4) (r_X8_turns M y4)).1 600 10) + 21)))).1 617 (Int32.toNatClampNeg y4)))).1 600 32) + 1)), y3 + 1) else if ((wi (wi (wi (w_X8_turns M y4) 617 (Int32.toNatClampNeg y4) (r_X8_turns M y4)) 616 (Int32.toNatClampNeg y4) ((wi (w_X8_turns M y4) 617 (Int32.toNatClampNeg y4) (r_X8_turns M y4)).1 607 (Int32.toNatClampNeg (((wi (w_X8_turns M y4) 617 (Int32.toNatClampNeg y4) (r_X8_turns M y4)).1 600 10) + 21)))) 600 31 (((wi (wi (w_X8_turns M y4) 617 (Int32.toNatClampNeg y4) (r_X8_turns M y4)) 616 (Int32.toNatClampNeg y4) ((wi (w_X8_turns M y4) 617 (Int32.toNatClampNeg y4) (r_X8_turns M y4)).1 607 (Int32.toNatClampNeg (((wi (w_X8_turns M y4) 617 (Int32.toNatClampNeg y4) (r_X8_turns M y4)).1 600 10) + 21)))).1 600 31) + ((wi (wi (w_X8_turns M y4) 617 (Int32.toNatClampNeg y4) (r_X8_turns M y4)) 616 (Int32.toNatClampNeg y4) ((wi (w_X8_turns M y4) 617 (Int32.toNatClampNeg y4) (r_X8_turns M y4)).1 607 (Int32.toNatClampNeg (((wi (w_X8_turns M y4) 617 (Int32.toNatClampNeg y4) (r_X8_turns M y4)).1 600 10) + 21)))).1 617 (Int32.toNatClampNeg y4)))).1 607 (Int32.toNatClampNeg (((wi (wi (wi (w_X8_turns M y4) 617 (Int32.toNatClampNeg y4) (r_X8_turns M y4)) 616 (Int32.toNatClampNeg y4) ((wi (w_X8_turns M y4) 617 (Int32.toNatClampNeg y4) (r_X8_turns M y4)).1 607 (Int32.toNatClampNeg (((wi (w_X8_turns M y4) 617 (Int32.toNatClampNeg y4) (r_X8_turns M y4)).1 600 10) + 21)))) 600 31 (((wi (wi (w_X8_turns M y4) 617 (Int32.toNatClampNeg y4) (r_X8_turns M y4)) 616 (Int32.toNatClampNeg y4) ((wi (w_X8_turns M y4) 617 (Int32.toNatClampNeg y4) (r_X8_turns M y4)).1 607 (Int32.toNatClampNeg (((wi (w_X8_turns M y4) 617 (Int32.toNatClampNeg y4) (r_X8_turns M y4)).1 600 10) + 21)))).1 600 31) + ((wi (wi (w_X8_turns M y4) 617 (Int32.toNatClampNeg y4) (r_X8_turns M y4)) 616 (Int32.toNatClampNeg y4) ((wi (w_X8_turns M y4) 617 (Int32.toNatClampNeg y4) (r_X8_turns M y4)).1 607 (Int32.toNatClampNeg (((wi (w_X8_turns M y4) 617 (Int32.toNatClampNeg y4) (r_X8_turns M y4)).1 600 10) + 21)))).1 617 (Int32.toNatClampNeg y4)))).1 600 10) + 21))) ≤ ((wi (wi (wi (w_X8_turns M y4) 617 (Int32.toNatClampNeg y4) (r_X8_turns M y4)) 616 (Int32.toNatClampNeg y4) ((wi (w_X8_turns M y4) 617 (Int32.toNatClampNeg y4) (r_X8_turns M y4)).1 607 (Int32.toNatClampNeg (((wi (w_X8_turns M y4) 617 (Int32.toNatClampNeg y4) (r_X8_turns M y4)).1 600 10) + 21)))) 600 31 (((wi (wi (w_X8_turns M y4) 617 (Int32.toNatClampNeg y4) (r_X8_turns M y4)) 616 (Int32.toNatClampNeg y4) ((wi (w_X8_turns M y4) 617 (Int32.toNatClampNeg y4) (r_X8_turns M y4)).1 607 (Int32.toNatClampNeg (((wi (w_X8_turns M y4) 617 (Int32.toNatClampNeg y4) (r_X8_turns M y4)).1 600 10) + 21)))).1 600 31) + ((wi (wi (w_X8_turns M y4) 617 (Int32.toNatClampNeg y4) (r_X8_turns M y4)) 616 (Int32.toNatClampNeg y4) ((wi (w_X8_turns M y4) 617 (Int32.toNatClampNeg y4) (r_X8_turns M y4)).1 607 (Int32.toNatClampNeg (((wi (w_X8_turns M y4) 617 (Int32.toNatClampNeg y4) (r_X8_turns M y4)).1 600 10) + 21)))).1 617 (Int32.toNatClampNeg y4)))).1 603 (Int32.toNatClampNeg (8 * y4 + (4 : Int32)))) then ((wi (wi (wi (wi (w_X8_turns M y4) 617 (Int32.toNatClampNeg y4) (r_X8_turns M y4)) 616 (Int32.toNatClampNeg y4) ((wi (w_X8_turns M y4) 617 (Int32.toNatClampNeg y4) (r_X8_turns M y4)).1 607 (Int32.toNatClampNeg (((wi (w_X8_turns M y4) 617 (Int32.toNatClampNeg y4) (r_X8_turns M y4)).1 600 10) + 21)))) 600 31 (((wi (wi (w_X8_turns M y4) 617 (Int32.toNatClampNeg y4) (r_X8_turns M y4)) 616 (Int32.toNatClampNeg y4) ((wi (w_X8_turns M y4) 617 (Int32.toNatClampNeg y4) (r_X8_turns M y4)).1 607 (Int32.toNatClampNeg (((wi (w_X8_turns M y4) 617 (Int32.toNatClampNeg y4) (r_X8_turns M y4)).1 600 10) + 21)))).1 600 31) + ((wi (wi (w_X8_turns M y4) 617 (Int32.toNatClampNeg y4) (r_X8_turns M y4)) 616 (Int32.toNatClampNeg y4) ((wi (w_X8_turns M y4) 617 (Int32.toNatClampNeg y4) (r_X8_turns M y4)).1 607 (Int32.toNatClampNeg (((wi (w_X8_turns M y4) 617 (Int32.toNatClampNeg y4) (r_X8_turns M y4)).1 600 10) + 21)))).1 617 (Int32.toNatClampNeg y4)))) 600 32 (((wi (wi (wi (w_X8_turns M y4) 617 (Int32.toNatClampNeg y4) (r_X8_turns M y4)) 616 (Int32.toNatClampNeg y4) ((wi (w_X8_turns M y4) 617 (Int32.toNatClampNeg y4) (r_X8_turns M y4)).1 607 (Int32.toNatClampNeg (((wi (w_X8_turns M y4) 617 (Int32.toNatClampNeg y4) (r_X8_turns M y4)).1 600 10) + 21)))) 600 31 (((wi (wi (w_X8_turns M y4) 617 (Int32.toNatClampNeg y4) (r_X8_turns M y4)) 616 (Int32.toNatClampNeg y4) ((wi (w_X8_turns M y4) 617 (Int32.toNatClampNeg y4) (r_X8_turns M y4)).1 607 (Int32.toNatClampNeg (((wi (w_X8_turns M y4) 617 (Int32.toNatClampNeg y4) (r_X8_turns M y4)).1 600 10) + 21)))).1 600 31) + ((wi (wi (w_X8_turns M y4) 617 (Int32.toNatClampNeg y4) (r_X8_turns M y4)) 616 (Int32.toNatClampNeg y4) ((wi (w_X8_turns M y4) 617 (Int32.toNatClampNeg y4) (r_X8_turns M y4)).1 607 (Int32.toNatClampNeg (((wi (w_X8_turns M y4) 617 (Int32.toNatClampNeg y4) (r_X8_turns M y4)).1 600 10) + 21)))).1 617 (Int32.toNatClampNeg y4)))).1 600 32) + 0)), y3 + 1) else ((wi (wi (wi (wi (w_X8_turns M y4) 617 (Int32.toNatClampNeg y4) (r_X8_turns M y4)) 616 (Int32.toNatClampNeg y4) ((wi (w_X8_turns M y4) 617 (Int32.toNatClampNeg y4) (r_X8_turns M y4)).1 607 (Int32.toNatClampNeg (((wi (w_X8_turns M y4) 617 (Int32.toNatClampNeg y4) (r_X8_turns M y4)).1 600 10) + 21)))) 600 31 (((wi (wi (w_X8_turns M y4) 617 (Int32.toNatClampNeg y4) (r_X8_turns M y4)) 616 (Int32.toNatClampNeg y4) ((wi (w_X8_turns M y4) 617 (Int32.toNatClampNeg y4) (r_X8_turns M y4)).1 607 (Int32.toNatClampNeg (((wi (w_X8_turns M y4) 617 (Int32.toNatClampNeg y4) (r_X8_turns M y4)).1 600 10) + 21)))).1 600 31) + ((wi (wi (w_X8_turns M y4) 617 (Int32.toNatClampNeg y4) (r_X8_turns M y4)) 616 (Int32.toNatClampNeg y4) ((wi (w_X8_turns M y4) 617 (Int32.toNatClampNeg y4) (r_X8_turns M y4)).1 607 (Int32.toNatClampNeg (((wi (w_X8_turns M y4) 617 (Int32.toNatClampNeg y4) (r_X8_turns M y4)).1 600 10) + 21)))).1 617 (Int32.toNatClampNeg y4)))) 600 32 (((wi (wi (wi (w_X8_turns M y4) 617 (Int32.toNatClampNeg y4) (r_X8_turns M y4)) 616 (Int32.toNatClampNeg y4) ((wi (w_X8_turns M y4) 617 (Int32.toNatClampNeg y4) (r_X8_turns M y4)).1 607 (Int32.toNatClampNeg (((wi (w_X8_turns M y4) 617 (Int32.toNatClampNeg y4) (r_X8_turns M y4)).1 600 10) + 21)))) 600 31 (((wi (wi (w_X8_turns M y4) 617 (Int32.toNatClampNeg y4) (r_X8_turns M y4)) 616 (Int32.toNatClampNeg y4) ((wi (w_X8_turns M y4) 617 (Int32.toNatClampNeg y4) (r_X8_turns M y4)).1 607 (Int32.toNatClampNeg (((wi (w_X8_turns M y4) 617 (Int32.toNatClampNeg y4) (r_X8_turns M y4)).1 600 10) + 21)))).1 600 31) + ((wi (wi (w_X8_turns M y4) 617 (Int32.toNatClampNeg y4) (r_X8_turns M y4)) 616 (Int32.toNatClampNeg y4) ((wi (w_X8_turns M y4) 617 (Int32.toNatClampNeg y4) (r_X8_turns M y4)).1 607 (Int32.toNatClampNeg (((wi (w_X8_turns M y4) 617 (Int32.toNatClampNeg y4) (r_X8_turns M y4)).1 600 10) + 21)))).1 617 (Int32.toNatClampNeg y4)))).1 600 32) + 1)), y3 + 1)
def q_X8_goesThrough_16_48 (M : Mm) (a1 : Int32) (a2 : Int32) (y3 : Int32) (y4 : Int32) : Prop := (p_X8_turns M y4) ∧ (vp_in y4 6) ∧ (vp_in (((wi (w_X8_turns M y4) 617 (Int32.toNatClampNeg y4) (r_X8_turns M y4)).1 600 10) + 21) 44) ∧ (vp_in y4 6) ∧ (vp_in y4 6) ∧ (vp_in ((((wi (wi (wi (w_X8_turns M y4) 617 (Int32.toNatClampNeg y4) (r_X8_turns M y4)) 616 (Int32.toNatClampNeg y4) ((wi (w_X8_turns M y4) 617 (Int32.toNatClampNeg y4) (r_X8_turns M y4)).1 607 (Int32.toNatClampNeg (((wi (w_X8_turns M y4) 617 (Int32.toNatClampNeg y4) (r_X8_turns M y4)).1 600 10) + 21)))) 600 31 (((wi (wi (w_X8_turns M y4) 617 (Int32.toNatClampNeg y4) (r_X8_turns M y4)) 616 (Int32.toNatClampNeg y4) ((wi (w_X8_turns M y4) 617 (Int32.toNatClampNeg y4) (r_X8_turns M y4)).1 607 (Int32.toNatClampNeg (((wi (w_X8_turns M y4) 617 (Int32.toNatClampNeg y4) (r_X8_turns M y4)).1 600 10) + 21)))).1 600 31) + ((wi (wi (w_X8_turns M y4) 617 (Int32.toNatClampNeg y4) (r_X8_turns M y4)) 616 (Int32.toNatClampNeg y4) ((wi (w_X8_turns M y4) 617 (Int32.toNatClampNeg y4) (r_X8_turns M y4)).1 607 (Int32.toNatClampNeg (((wi (w_X8_turns M y4) 617 (Int32.toNatClampNeg y4) (r_X8_turns M y4)).1 600 10) + 21)))).1 617 (Int32.toNatClampNeg y4)))).1 600 10) + 9) + y4) 44) ∧ (if ((wi (wi (wi (w_X8_turns M y4) 617 (Int32.toNatClampNeg y4) (r_X8_turns M y4)) 616 (Int32.toNatClampNeg y4) ((wi (w_X8_turns M y4) 617 (Int32.toNatClampNeg y4) (r_X8_turns M y4)).1 607 (Int32.toNatClampNeg (((wi (w_X8_turns M y4) 617 (Int32.toNatClampNeg y4) (r_X8_turns M y4)).1 600 10) + 21)))) 600 31 (((wi (wi (w_X8_turns M y4) 617 (Int32.toNatClampNeg y4) (r_X8_turns M y4)) 616 (Int32.toNatClampNeg y4) ((wi (w_X8_turns M y4) 617 (Int32.toNatClampNeg y4) (r_X8_turns M y4)).1 607 (Int32.toNatClampNeg (((wi (w_X8_turns M y4) 617 (Int32.toNatClampNeg y4) (r_X8_turns M y4)).1 600 10) + 21)))).1 600 31) + ((wi (wi (w_X8_turns M y4) 617 (Int32.toNatClampNeg y4) (r_X8_turns M y4)) 616 (Int32.toNatClampNeg y4) ((wi (w_X8_turns M y4) 617 (Int32.toNatClampNeg y4) (r_X8_turns M y4)).1 607 (Int32.toNatClampNeg (((wi (w_X8_turns M y4) 617 (Int32.toNatClampNeg y4) (r_X8_turns M y4)).1 600 10) + 21)))).1 617 (Int32.toNatClampNeg y4)))).1 607 (Int32.toNatClampNeg ((((wi (wi (wi (w_X8_turns M y4) 617 (Int32.toNatClampNeg y4) (r_X8_turns M y4)) 616 (Int32.toNatClampNeg y4) ((wi (w_X8_turns M y4) 617 (Int32.toNatClampNeg y4) (r_X8_turns M y4)).1 607 (Int32.toNatClampNeg (((wi (w_X8_turns M y4) 617 (Int32.toNatClampNeg y4) (r_X8_turns M y4)).1 600 10) + 21)))) 600 31 (((wi (wi (w_X8_turns M y4) 617 (Int32.toNatClampNeg y4) (r_X8_turns M y4)) 616 (Int32.toNatClampNeg y4) ((wi (w_X8_turns M y4) 617 (Int32.toNatClampNeg y4) (r_X8_turns M y4)).1 607 (Int32.toNatClampNeg (((wi (w_X8_turns M y4) 617 (Int32.toNatClampNeg y4) (r_X8_turns M y4)).1 600 10) + 21)))).1 600 31) + ((wi (wi (w_X8_turns M y4) 617 (Int32.toNatClampNeg y4) (r_X8_turns M y4)) 616 (Int32.toNatClampNeg y4) ((wi (w_X8_turns M y4) 617 (Int32.toNatClampNeg y4) (r_X8_turns M y4)).1 607 (Int32.toNatClampNeg (((wi (w_X8_turns M y4) 617 (Int32.toNatClampNeg y4) (r_X8_turns M y4)).1 600 10) + 21)))).1 617 (Int32.toNatClampNeg y4)))).1 600 10) + 9) + y4))) = (2 : Int32) then True else (vp_in (((wi (wi (wi (w_X8_turns M y4) 617 (Int32.toNatClampNeg y4) (r_X8_turns M y4)) 616 (Int32.toNatClampNeg y4) ((wi (w_X8_turns M y4) 617 (Int32.toNatClampNeg y4) (r_X8_turns M y4)).1 607 (Int32.toNatClampNeg (((wi (w_X8_turns M y4) 617 (Int32.toNatClampNeg y4) (r_X8_turns M y4)).1 600 10) + 21)))) 600 31 (((wi (wi (w_X8_turns M y4) 617 (Int32.toNatClampNeg y4) (r_X8_turns M y4)) 616 (Int32.toNatClampNeg y4) ((wi (w_X8_turns M y4) 617 (Int32.toNatClampNeg y4) (r_X8_turns M y4)).1 607 (Int32.toNatClampNeg (((wi (w_X8_turns M y4) 617 (Int32.toNatClampNeg y4) (r_X8_turns M y4)).1 600 10) + 21)))).1 600 31) + ((wi (wi (w_X8_turns M y4) 617 (Int32.toNatClampNeg y4) (r_X8_turns M y4)) 616 (Int32.toNatClampNeg y4) ((wi (w_X8_turns M y4) 617 (Int32.toNatClampNeg y4) (r_X8_turns M y4)).1 607 (Int32.toNatClampNeg (((wi (w_X8_turns M y4) 617 (Int32.toNatClampNeg y4) (r_X8_turns M y4)).1 600 10) + 21)))).1 617 (Int32.toNatClampNeg y4)))).1 600 10) + 21) 44) ∧ (vp_in (8 * y4 + (4 : Int32)) 48) ∧ (if ((wi (wi (wi (w_X8_turns M y4) 617 (Int32.toNatClampNeg y4) (r_X8_turns M y4)) 616 (Int32.toNatClampNeg y4) ((wi (w_X8_turns M y4) 617 (Int32.toNatClampNeg y4) (r_X8_turns M y4)).1 607 (Int32.toNatClampNeg (((wi (w_X8_turns M y4) 617 (Int32.toNatClampNeg y4) (r_X8_turns M y4)).1 600 10) + 21)))) 600 31 (((wi (wi (w_X8_turns M y4) 617 (Int32.toNatClampNeg y4) (r_X8_turns M y4)) 616 (Int32.toNatClampNeg y4) ((wi (w_X8_turns M y4) 617 (Int32.toNatClampNeg y4) (r_X8_turns M y4)).1 607 (Int32.toNatClampNeg (((wi (w_X8_turns M y4) 617 (Int32.toNatClampNeg y4) (r_X8_turns M y4)).1 600 10) + 21)))).1 600 31) + ((wi (wi (w_X8_turns M y4) 617 (Int32.toNatClampNeg y4) (r_X8_turns M y4)) 616 (Int32.toNatClampNeg y4) ((wi (w_X8_turns M y4) 617 (Int32.toNatClampNeg y4) (r_X8_turns M y4)).1 607 (Int32.toNatClampNeg (((wi (w_X8_turns M y4) 617 (Int32.toNatClampNeg y4) (r_X8_turns M y4)).1 600 10) + 21)))).1 617 (Int32.toNatClampNeg y4)))).1 607 (Int32.toNatClampNeg (((wi (wi (wi (w_X8_turns M y4) 617 (Int32.toNatClampNeg y4) (r_X8_turns M y4)) 616 (Int32.toNatClampNeg y4) ((wi (w_X8_turns M y4) 617 (Int32.toNatClampNeg y4) (r_X8_turns M y4)).1 607 (Int32.toNatClampNeg (((wi (w_X8_turns M y4) 617 (Int32.toNatClampNeg y4) (r_X8_turns M y4)).1 600 10) + 21)))) 600 31 (((wi (wi (w_X8_turns M y4) 617 (Int32.toNatClampNeg y4) (r_X8_turns M y4)) 616 (Int32.toNatClampNeg y4) ((wi (w_X8_turns M y4) 617 (Int32.toNatClampNeg y4) (r_X8_turns M y4)).1 607 (Int32.toNatClampNeg (((wi (w_X8_turns M y4) 617 (Int32.toNatClampNeg y4) (r_X8_turns M y4)).1 600 10) + 21)))).1 600 31) + ((wi (wi (w_X8_turns M y4) 617 (Int32.toNatClampNeg y4) (r_X8_turns M y4)) 616 (Int32.toNatClampNeg y4) ((wi (w_X8_turns M y4) 617 (Int32.toNatClampNeg y4) (r_X8_turns M y4)).1 607 (Int32.toNatClampNeg (((wi (w_X8_turns M y4) 617 (Int32.toNatClampNeg y4) (r_X8_turns M y4)).1 600 10) + 21)))).1 617 (Int32.toNatClampNeg y4)))).1 600 10) + 21))) ≤ ((wi (wi (wi (w_X8_turns M y4) 617 (Int32.toNatClampNeg y4) (r_X8_turns M y4)) 616 (Int32.toNatClampNeg y4) ((wi (w_X8_turns M y4) 617 (Int32.toNatClampNeg y4) (r_X8_turns M y4)).1 607 (Int32.toNatClampNeg (((wi (w_X8_turns M y4) 617 (Int32.toNatClampNeg y4) (r_X8_turns M y4)).1 600 10) + 21)))) 600 31 (((wi (wi (w_X8_turns M y4) 617 (Int32.toNatClampNeg y4) (r_X8_turns M y4)) 616 (Int32.toNatClampNeg y4) ((wi (w_X8_turns M y4) 617 (Int32.toNatClampNeg y4) (r_X8_turns M y4)).1 607 (Int32.toNatClampNeg (((wi (w_X8_turns M y4) 617 (Int32.toNatClampNeg y4) (r_X8_turns M y4)).1 600 10) + 21)))).1 600 31) + ((wi (wi (w_X8_turns M y4) 617 (Int32.toNatClampNeg y4) (r_X8_turns M y4)) 616 (Int32.toNatClampNeg y4) ((wi (w_X8_turns M y4) 617 (Int32.toNatClampNeg y4) (r_X8_turns M y4)).1 607 (Int32.toNatClampNeg (((wi (w_X8_turns M y4) 617 (Int32.toNatClampNeg y4) (r_X8_turns M y4)).1 600 10) + 21)))).1 617 (Int32.toNatClampNeg y4)))).1 603 (Int32.toNatClampNeg (8 * y4 + (4 : Int32)))) then True else True))
def c_X8_goesThrough_16 (a1 : Int32) (a2 : Int32) (σ : Mm × Int32) : Prop := if a1 ≤ σ.2 then False else True
theorem ci_X8_goesThrough_16 {a1 : Int32} {a2 : Int32}  {σ : Mm × Int32} : c_X8_goesThrough_16 a1 a2 σ ↔ (if a1 ≤ σ.2 then False else True) := Iff.rfl
noncomputable def s_X8_goesThrough_16 (a1 : Int32) (a2 : Int32) (σ : Mm × Int32) : Mm × Int32 := if a1 ≤ σ.2 then σ else if ¬ ((a2 >>> (σ.2 &&& 31)) &&& 1) = (1 : Int32) then s_X8_goesThrough_16_48 σ.1 a1 a2 σ.2 (σ.1.1 614 (Int32.toNatClampNeg σ.2)) else s_X8_goesThrough_16_48 (w_X8_passes σ.1 (σ.1.1 604 2)) a1 a2 σ.2 (σ.1.1 614 (Int32.toNatClampNeg σ.2))
def q_X8_goesThrough_16 (a1 : Int32) (a2 : Int32) (σ : Mm × Int32) : Prop := (if a1 ≤ σ.2 then True else (vp_in σ.2 6) ∧ (if ¬ ((a2 >>> (σ.2 &&& 31)) &&& 1) = (1 : Int32) then q_X8_goesThrough_16_48 σ.1 a1 a2 σ.2 (σ.1.1 614 (Int32.toNatClampNeg σ.2)) else (p_X8_passes σ.1 (σ.1.1 604 2)) ∧ q_X8_goesThrough_16_48 (w_X8_passes σ.1 (σ.1.1 604 2)) a1 a2 σ.2 (σ.1.1 614 (Int32.toNatClampNeg σ.2))))
noncomputable def l_X8_goesThrough_16 (a1 : Int32) (a2 : Int32) (σ0 : Mm × Int32) : Nat → Mm × Int32 := itN (fun _ σ => s_X8_goesThrough_16 a1 a2 σ) σ0
theorem pj_X8_goesThrough_16_48 {d : Nat} {J : Nat → Lc → List Value → Mm → Prop} {M : Mm} {a1 : Int32} {a2 : Int32}  {y3 : Int32} {y4 : Int32}  (g : Good mX8_goesThrough.1 mX8_goesThrough.2.2.1 mX8_goesThrough.2.2.2.1 (d + 6) J) (hc : c_X8_goesThrough_16_48 M a1 a2 y3 y4) (hp : q_X8_goesThrough_16_48 M a1 a2 y3 y4) (k : ∀ (j4 : Option Value), J 16 [some (.ref 600), some (.int a1), some (.int a2), some (.int ((s_X8_goesThrough_16_48 M a1 a2 y3 y4).2)), j4] [] ((s_X8_goesThrough_16_48 M a1 a2 y3 y4).1)) : J 48 [some (.ref 600), some (.int a1), some (.int a2), some (.int y3), some (.int y4)] [] M := by
  unfold c_X8_goesThrough_16_48 at hc
  unfold q_X8_goesThrough_16_48 at hp
  unfold s_X8_goesThrough_16_48 at k
  refine j_aload_n g (i := 0) (by decide +kernel) rfl ?_
  refine j_gA g (b := 617) f8_58 (by decide +kernel) (by decide +kernel) (by decide +kernel) (by decide +kernel) ?_
  refine j_iload g (i := 4) (by decide +kernel) rfl ?_
  refine j_aload_n g (i := 0) (by decide +kernel) rfl ?_
  refine j_iload g (i := 4) (by decide +kernel) rfl ?_
  obtain ⟨h0, hp⟩ := hp
  refine j_cV1r g v8_301 ⟨rfl, by decide⟩ (by decide +kernel) (by decide +kernel) (Nat.le_of_ble_eq_true rfl) (rnX8_turns h0) ?_
  obtain ⟨h0, hp⟩ := hp
  refine j_is g 6 (by decide +kernel) (by decide +kernel) (by decide +kernel) h0 ?_
  refine j_aload_n g (i := 0) (by decide +kernel) rfl ?_
  refine j_gA g (b := 616) f8_55 (by decide +kernel) (by decide +kernel) (by decide +kernel) (by decide +kernel) ?_
  refine j_iload g (i := 4) (by decide +kernel) rfl ?_
  refine j_aload_n g (i := 0) (by decide +kernel) rfl ?_
  refine j_gA g (b := 607) f8_28 (by decide +kernel) (by decide +kernel) (by decide +kernel) (by decide +kernel) ?_
  refine j_aload_n g (i := 0) (by decide +kernel) rfl ?_
  refine j_gI g f8_240 (by decide +kernel) (by decide +kernel) (by decide +kernel) ?_
  refine j_bipush g (n := 21) (21) (by decide +kernel) (by decide +kernel) ?_
  refine j_iadd g (by decide +kernel) ?_
  obtain ⟨h0, hp⟩ := hp
  refine j_ia g 44 (by decide +kernel) (by decide +kernel) (by decide +kernel) h0 ?_
  obtain ⟨h0, hp⟩ := hp
  refine j_is g 6 (by decide +kernel) (by decide +kernel) (by decide +kernel) h0 ?_
  refine j_aload_n g (i := 0) (by decide +kernel) rfl ?_
  refine j_dup g (by decide +kernel) rfl ?_
  refine j_gI g f8_313 (by decide +kernel) (by decide +kernel) (by decide +kernel) ?_
  refine j_aload_n g (i := 0) (by decide +kernel) rfl ?_
  refine j_gA g (b := 617) f8_58 (by decide +kernel) (by decide +kernel) (by decide +kernel) (by decide +kernel) ?_
  refine j_iload g (i := 4) (by decide +kernel) rfl ?_
  obtain ⟨h0, hp⟩ := hp
  refine j_ia g 6 (by decide +kernel) (by decide +kernel) (by decide +kernel) h0 ?_
  refine j_iadd g (by decide +kernel) ?_
  refine j_pI g f8_313 (fun q h => by cases h; rfl) (by decide +kernel) (by decide +kernel) (by decide +kernel) ?_
  refine j_aload_n g (i := 0) (by decide +kernel) rfl ?_
  refine j_dup g (by decide +kernel) rfl ?_
  refine j_gI g f8_316 (by decide +kernel) (by decide +kernel) (by decide +kernel) ?_
  refine j_aload_n g (i := 0) (by decide +kernel) rfl ?_
  refine j_gA g (b := 607) f8_28 (by decide +kernel) (by decide +kernel) (by decide +kernel) (by decide +kernel) ?_
  refine j_aload_n g (i := 0) (by decide +kernel) rfl ?_
  refine j_gI g f8_240 (by decide +kernel) (by decide +kernel) (by decide +kernel) ?_
  refine j_bipush g (n := 9) (9) (by decide +kernel) (by decide +kernel) ?_
  refine j_iadd g (by decide +kernel) ?_
  refine j_iload g (i := 4) (by decide +kernel) rfl ?_
  refine j_iadd g (by decide +kernel) ?_
  obtain ⟨h0, hp⟩ := hp
  refine j_ia g 44 (by decide +kernel) (by decide +kernel) (by decide +kernel) h0 ?_
  refine j_iconst g (n := 2) (2) (by decide +kernel) rfl ?_
  refine j_icmp_eq g (off := 25) (tgt := 142) (by decide +kernel) (by decide) (fun c117 => ?_) (fun c117 => ?_)
  · (try rw [if_pos (show ((wi (wi (wi (w_X8_turns M y4) 617 (Int32.toNatClampNeg y4) (r_X8_turns M y4)) 616 (Int32.toNatClampNeg y4) ((wi (w_X8_turns M y4) 617 (Int32.toNatClampNeg y4) (r_X8_turns M y4)).1 607 (Int32.toNatClampNeg (((wi (w_X8_turns M y4) 617 (Int32.toNatClampNeg y4) (r_X8_turns M y4)).1 600 10) + 21)))) 600 31 (((wi (wi (w_X8_turns M y4) 617 (Int32.toNatClampNeg y4) (r_X8_turns M y4)) 616 (Int32.toNatClampNeg y4) ((wi (w_X8_turns M y4) 617 (Int32.toNatClampNeg y4) (r_X8_turns M y4)).1 607 (Int32.toNatClampNeg (((wi (w_X8_turns M y4) 617 (Int32.toNatClampNeg y4) (r_X8_turns M y4)).1 600 10) + 21)))).1 600 31) + ((wi (wi (w_X8_turns M y4) 617 (Int32.toNatClampNeg y4) (r_X8_turns M y4)) 616 (Int32.toNatClampNeg y4) ((wi (w_X8_turns M y4) 617 (Int32.toNatClampNeg y4) (r_X8_turns M y4)).1 607 (Int32.toNatClampNeg (((wi (w_X8_turns M y4) 617 (Int32.toNatClampNeg y4) (r_X8_turns M y4)).1 600 10) + 21)))).1 617 (Int32.toNatClampNeg y4)))).1 607 (Int32.toNatClampNeg ((((wi (wi (wi (w_X8_turns M y4) 617 (Int32.toNatClampNeg y4) (r_X8_turns M y4)) 616 (Int32.toNatClampNeg y4) ((wi (w_X8_turns M y4) 617 (Int32.toNatClampNeg y4) (r_X8_turns M y4)).1 607 (Int32.toNatClampNeg (((wi (w_X8_turns M y4) 617 (Int32.toNatClampNeg y4) (r_X8_turns M y4)).1 600 10) + 21)))) 600 31 (((wi (wi (w_X8_turns M y4) 617 (Int32.toNatClampNeg y4) (r_X8_turns M y4)) 616 (Int32.toNatClampNeg y4) ((wi (w_X8_turns M y4) 617 (Int32.toNatClampNeg y4) (r_X8_turns M y4)).1 607 (Int32.toNatClampNeg (((wi (w_X8_turns M y4) 617 (Int32.toNatClampNeg y4) (r_X8_turns M y4)).1 600 10) + 21)))).1 600 31) + ((wi (wi (w_X8_turns M y4) 617 (Int32.toNatClampNeg y4) (r_X8_turns M y4)) 616 (Int32.toNatClampNeg y4) ((wi (w_X8_turns M y4) 617 (Int32.toNatClampNeg y4) (r_X8_turns M y4)).1 607 (Int32.toNatClampNeg (((wi (w_X8_turns M y4) 617 (Int32.toNatClampNeg y4) (r_X8_turns M y4)).1 600 10) + 21)))).1 617 (Int32.toNatClampNeg y4)))).1 600 10) + 9) + y4))) = (2 : Int32) from c117)] at hc); (rw [if_pos (show ((wi (wi (wi (w_X8_turns M y4) 617 (Int32.toNatClampNeg y4) (r_X8_turns M y4)) 616 (Int32.toNatClampNeg y4) ((wi (w_X8_turns M y4) 617 (Int32.toNatClampNeg y4) (r_X8_turns M y4)).1 607 (Int32.toNatClampNeg (((wi (w_X8_turns M y4) 617 (Int32.toNatClampNeg y4) (r_X8_turns M y4)).1 600 10) + 21)))) 600 31 (((wi (wi (w_X8_turns M y4) 617 (Int32.toNatClampNeg y4) (r_X8_turns M y4)) 616 (Int32.toNatClampNeg y4) ((wi (w_X8_turns M y4) 617 (Int32.toNatClampNeg y4) (r_X8_turns M y4)).1 607 (Int32.toNatClampNeg (((wi (w_X8_turns M y4) 617 (Int32.toNatClampNeg y4) (r_X8_turns M y4)).1 600 10) + 21)))).1 600 31) + ((wi (wi (w_X8_turns M y4) 617 (Int32.toNatClampNeg y4) (r_X8_turns M y4)) 616 (Int32.toNatClampNeg y4) ((wi (w_X8_turns M y4) 617 (Int32.toNatClampNeg y4) (r_X8_turns M y4)).1 607 (Int32.toNatClampNeg (((wi (w_X8_turns M y4) 617 (Int32.toNatClampNeg y4) (r_X8_turns M y4)).1 600 10) + 21)))).1 617 (Int32.toNatClampNeg y4)))).1 607 (Int32.toNatClampNeg ((((wi (wi (wi (w_X8_turns M y4) 617 (Int32.toNatClampNeg y4) (r_X8_turns M y4)) 616 (Int32.toNatClampNeg y4) ((wi (w_X8_turns M y4) 617 (Int32.toNatClampNeg y4) (r_X8_turns M y4)).1 607 (Int32.toNatClampNeg (((wi (w_X8_turns M y4) 617 (Int32.toNatClampNeg y4) (r_X8_turns M y4)).1 600 10) + 21)))) 600 31 (((wi (wi (w_X8_turns M y4) 617 (Int32.toNatClampNeg y4) (r_X8_turns M y4)) 616 (Int32.toNatClampNeg y4) ((wi (w_X8_turns M y4) 617 (Int32.toNatClampNeg y4) (r_X8_turns M y4)).1 607 (Int32.toNatClampNeg (((wi (w_X8_turns M y4) 617 (Int32.toNatClampNeg y4) (r_X8_turns M y4)).1 600 10) + 21)))).1 600 31) + ((wi (wi (w_X8_turns M y4) 617 (Int32.toNatClampNeg y4) (r_X8_turns M y4)) 616 (Int32.toNatClampNeg y4) ((wi (w_X8_turns M y4) 617 (Int32.toNatClampNeg y4) (r_X8_turns M y4)).1 607 (Int32.toNatClampNeg (((wi (w_X8_turns M y4) 617 (Int32.toNatClampNeg y4) (r_X8_turns M y4)).1 600 10) + 21)))).1 617 (Int32.toNatClampNeg y4)))).1 600 10) + 9) + y4))) = (2 : Int32) from c117)] at hp); (try simp only [if_pos (show ((wi (wi (wi (w_X8_turns M y4) 617 (Int32.toNatClampNeg y4) (r_X8_turns M y4)) 616 (Int32.toNatClampNeg y4) ((wi (w_X8_turns M y4) 617 (Int32.toNatClampNeg y4) (r_X8_turns M y4)).1 607 (Int32.toNatClampNeg (((wi (w_X8_turns M y4) 617 (Int32.toNatClampNeg y4) (r_X8_turns M y4)).1 600 10) + 21)))) 600 31 (((wi (wi (w_X8_turns M y4) 617 (Int32.toNatClampNeg y4) (r_X8_turns M y4)) 616 (Int32.toNatClampNeg y4) ((wi (w_X8_turns M y4) 617 (Int32.toNatClampNeg y4) (r_X8_turns M y4)).1 607 (Int32.toNatClampNeg (((wi (w_X8_turns M y4) 617 (Int32.toNatClampNeg y4) (r_X8_turns M y4)).1 600 10) + 21)))).1 600 31) + ((wi (wi (w_X8_turns M y4) 617 (Int32.toNatClampNeg y4) (r_X8_turns M y4)) 616 (Int32.toNatClampNeg y4) ((wi (w_X8_turns M y4) 617 (Int32.toNatClampNeg y4) (r_X8_turns M y4)).1 607 (Int32.toNatClampNeg (((wi (w_X8_turns M y4) 617 (Int32.toNatClampNeg y4) (r_X8_turns M y4)).1 600 10) + 21)))).1 617 (Int32.toNatClampNeg y4)))).1 607 (Int32.toNatClampNeg ((((wi (wi (wi (w_X8_turns M y4) 617 (Int32.toNatClampNeg y4) (r_X8_turns M y4)) 616 (Int32.toNatClampNeg y4) ((wi (w_X8_turns M y4) 617 (Int32.toNatClampNeg y4) (r_X8_turns M y4)).1 607 (Int32.toNatClampNeg (((wi (w_X8_turns M y4) 617 (Int32.toNatClampNeg y4) (r_X8_turns M y4)).1 600 10) + 21)))) 600 31 (((wi (wi (w_X8_turns M y4) 617 (Int32.toNatClampNeg y4) (r_X8_turns M y4)) 616 (Int32.toNatClampNeg y4) ((wi (w_X8_turns M y4) 617 (Int32.toNatClampNeg y4) (r_X8_turns M y4)).1 607 (Int32.toNatClampNeg (((wi (w_X8_turns M y4) 617 (Int32.toNatClampNeg y4) (r_X8_turns M y4)).1 600 10) + 21)))).1 600 31) + ((wi (wi (w_X8_turns M y4) 617 (Int32.toNatClampNeg y4) (r_X8_turns M y4)) 616 (Int32.toNatClampNeg y4) ((wi (w_X8_turns M y4) 617 (Int32.toNatClampNeg y4) (r_X8_turns M y4)).1 607 (Int32.toNatClampNeg (((wi (w_X8_turns M y4) 617 (Int32.toNatClampNeg y4) (r_X8_turns M y4)).1 600 10) + 21)))).1 617 (Int32.toNatClampNeg y4)))).1 600 10) + 9) + y4))) = (2 : Int32) from c117)] at k)
    refine j_iconst g (n := 1) (1) (by decide +kernel) rfl ?_
    refine j_goto g (off := 4) (tgt := 147) (by decide +kernel) (by decide) ?_
    refine j_iadd g (by decide +kernel) ?_
    refine j_pI g f8_316 (fun q h => by cases h; rfl) (by decide +kernel) (by decide +kernel) (by decide +kernel) ?_
    refine j_iinc g (i := 3) (n := 1) (1) (by decide +kernel) rfl (by decide) rfl ?_
    dsimp only [stL, clL, hdL]
    refine j_goto g (off := -138) (tgt := 16) (by decide +kernel) (by decide) ?_
    exact k _
  · (try rw [if_neg (show ¬ (((wi (wi (wi (w_X8_turns M y4) 617 (Int32.toNatClampNeg y4) (r_X8_turns M y4)) 616 (Int32.toNatClampNeg y4) ((wi (w_X8_turns M y4) 617 (Int32.toNatClampNeg y4) (r_X8_turns M y4)).1 607 (Int32.toNatClampNeg (((wi (w_X8_turns M y4) 617 (Int32.toNatClampNeg y4) (r_X8_turns M y4)).1 600 10) + 21)))) 600 31 (((wi (wi (w_X8_turns M y4) 617 (Int32.toNatClampNeg y4) (r_X8_turns M y4)) 616 (Int32.toNatClampNeg y4) ((wi (w_X8_turns M y4) 617 (Int32.toNatClampNeg y4) (r_X8_turns M y4)).1 607 (Int32.toNatClampNeg (((wi (w_X8_turns M y4) 617 (Int32.toNatClampNeg y4) (r_X8_turns M y4)).1 600 10) + 21)))).1 600 31) + ((wi (wi (w_X8_turns M y4) 617 (Int32.toNatClampNeg y4) (r_X8_turns M y4)) 616 (Int32.toNatClampNeg y4) ((wi (w_X8_turns M y4) 617 (Int32.toNatClampNeg y4) (r_X8_turns M y4)).1 607 (Int32.toNatClampNeg (((wi (w_X8_turns M y4) 617 (Int32.toNatClampNeg y4) (r_X8_turns M y4)).1 600 10) + 21)))).1 617 (Int32.toNatClampNeg y4)))).1 607 (Int32.toNatClampNeg ((((wi (wi (wi (w_X8_turns M y4) 617 (Int32.toNatClampNeg y4) (r_X8_turns M y4)) 616 (Int32.toNatClampNeg y4) ((wi (w_X8_turns M y4) 617 (Int32.toNatClampNeg y4) (r_X8_turns M y4)).1 607 (Int32.toNatClampNeg (((wi (w_X8_turns M y4) 617 (Int32.toNatClampNeg y4) (r_X8_turns M y4)).1 600 10) + 21)))) 600 31 (((wi (wi (w_X8_turns M y4) 617 (Int32.toNatClampNeg y4) (r_X8_turns M y4)) 616 (Int32.toNatClampNeg y4) ((wi (w_X8_turns M y4) 617 (Int32.toNatClampNeg y4) (r_X8_turns M y4)).1 607 (Int32.toNatClampNeg (((wi (w_X8_turns M y4) 617 (Int32.toNatClampNeg y4) (r_X8_turns M y4)).1 600 10) + 21)))).1 600 31) + ((wi (wi (w_X8_turns M y4) 617 (Int32.toNatClampNeg y4) (r_X8_turns M y4)) 616 (Int32.toNatClampNeg y4) ((wi (w_X8_turns M y4) 617 (Int32.toNatClampNeg y4) (r_X8_turns M y4)).1 607 (Int32.toNatClampNeg (((wi (w_X8_turns M y4) 617 (Int32.toNatClampNeg y4) (r_X8_turns M y4)).1 600 10) + 21)))).1 617 (Int32.toNatClampNeg y4)))).1 600 10) + 9) + y4))) = (2 : Int32)) from c117)] at hc); (rw [if_neg (show ¬ (((wi (wi (wi (w_X8_turns M y4) 617 (Int32.toNatClampNeg y4) (r_X8_turns M y4)) 616 (Int32.toNatClampNeg y4) ((wi (w_X8_turns M y4) 617 (Int32.toNatClampNeg y4) (r_X8_turns M y4)).1 607 (Int32.toNatClampNeg (((wi (w_X8_turns M y4) 617 (Int32.toNatClampNeg y4) (r_X8_turns M y4)).1 600 10) + 21)))) 600 31 (((wi (wi (w_X8_turns M y4) 617 (Int32.toNatClampNeg y4) (r_X8_turns M y4)) 616 (Int32.toNatClampNeg y4) ((wi (w_X8_turns M y4) 617 (Int32.toNatClampNeg y4) (r_X8_turns M y4)).1 607 (Int32.toNatClampNeg (((wi (w_X8_turns M y4) 617 (Int32.toNatClampNeg y4) (r_X8_turns M y4)).1 600 10) + 21)))).1 600 31) + ((wi (wi (w_X8_turns M y4) 617 (Int32.toNatClampNeg y4) (r_X8_turns M y4)) 616 (Int32.toNatClampNeg y4) ((wi (w_X8_turns M y4) 617 (Int32.toNatClampNeg y4) (r_X8_turns M y4)).1 607 (Int32.toNatClampNeg (((wi (w_X8_turns M y4) 617 (Int32.toNatClampNeg y4) (r_X8_turns M y4)).1 600 10) + 21)))).1 617 (Int32.toNatClampNeg y4)))).1 607 (Int32.toNatClampNeg ((((wi (wi (wi (w_X8_turns M y4) 617 (Int32.toNatClampNeg y4) (r_X8_turns M y4)) 616 (Int32.toNatClampNeg y4) ((wi (w_X8_turns M y4) 617 (Int32.toNatClampNeg y4) (r_X8_turns M y4)).1 607 (Int32.toNatClampNeg (((wi (w_X8_turns M y4) 617 (Int32.toNatClampNeg y4) (r_X8_turns M y4)).1 600 10) + 21)))) 600 31 (((wi (wi (w_X8_turns M y4) 617 (Int32.toNatClampNeg y4) (r_X8_turns M y4)) 616 (Int32.toNatClampNeg y4) ((wi (w_X8_turns M y4) 617 (Int32.toNatClampNeg y4) (r_X8_turns M y4)).1 607 (Int32.toNatClampNeg (((wi (w_X8_turns M y4) 617 (Int32.toNatClampNeg y4) (r_X8_turns M y4)).1 600 10) + 21)))).1 600 31) + ((wi (wi (w_X8_turns M y4) 617 (Int32.toNatClampNeg y4) (r_X8_turns M y4)) 616 (Int32.toNatClampNeg y4) ((wi (w_X8_turns M y4) 617 (Int32.toNatClampNeg y4) (r_X8_turns M y4)).1 607 (Int32.toNatClampNeg (((wi (w_X8_turns M y4) 617 (Int32.toNatClampNeg y4) (r_X8_turns M y4)).1 600 10) + 21)))).1 617 (Int32.toNatClampNeg y4)))).1 600 10) + 9) + y4))) = (2 : Int32)) from c117)] at hp); (try simp only [if_neg (show ¬ (((wi (wi (wi (w_X8_turns M y4) 617 (Int32.toNatClampNeg y4) (r_X8_turns M y4)) 616 (Int32.toNatClampNeg y4) ((wi (w_X8_turns M y4) 617 (Int32.toNatClampNeg y4) (r_X8_turns M y4)).1 607 (Int32.toNatClampNeg (((wi (w_X8_turns M y4) 617 (Int32.toNatClampNeg y4) (r_X8_turns M y4)).1 600 10) + 21)))) 600 31 (((wi (wi (w_X8_turns M y4) 617 (Int32.toNatClampNeg y4) (r_X8_turns M y4)) 616 (Int32.toNatClampNeg y4) ((wi (w_X8_turns M y4) 617 (Int32.toNatClampNeg y4) (r_X8_turns M y4)).1 607 (Int32.toNatClampNeg (((wi (w_X8_turns M y4) 617 (Int32.toNatClampNeg y4) (r_X8_turns M y4)).1 600 10) + 21)))).1 600 31) + ((wi (wi (w_X8_turns M y4) 617 (Int32.toNatClampNeg y4) (r_X8_turns M y4)) 616 (Int32.toNatClampNeg y4) ((wi (w_X8_turns M y4) 617 (Int32.toNatClampNeg y4) (r_X8_turns M y4)).1 607 (Int32.toNatClampNeg (((wi (w_X8_turns M y4) 617 (Int32.toNatClampNeg y4) (r_X8_turns M y4)).1 600 10) + 21)))).1 617 (Int32.toNatClampNeg y4)))).1 607 (Int32.toNatClampNeg ((((wi (wi (wi (w_X8_turns M y4) 617 (Int32.toNatClampNeg y4) (r_X8_turns M y4)) 616 (Int32.toNatClampNeg y4) ((wi (w_X8_turns M y4) 617 (Int32.toNatClampNeg y4) (r_X8_turns M y4)).1 607 (Int32.toNatClampNeg (((wi (w_X8_turns M y4) 617 (Int32.toNatClampNeg y4) (r_X8_turns M y4)).1 600 10) + 21)))) 600 31 (((wi (wi (w_X8_turns M y4) 617 (Int32.toNatClampNeg y4) (r_X8_turns M y4)) 616 (Int32.toNatClampNeg y4) ((wi (w_X8_turns M y4) 617 (Int32.toNatClampNeg y4) (r_X8_turns M y4)).1 607 (Int32.toNatClampNeg (((wi (w_X8_turns M y4) 617 (Int32.toNatClampNeg y4) (r_X8_turns M y4)).1 600 10) + 21)))).1 600 31) + ((wi (wi (w_X8_turns M y4) 617 (Int32.toNatClampNeg y4) (r_X8_turns M y4)) 616 (Int32.toNatClampNeg y4) ((wi (w_X8_turns M y4) 617 (Int32.toNatClampNeg y4) (r_X8_turns M y4)).1 607 (Int32.toNatClampNeg (((wi (w_X8_turns M y4) 617 (Int32.toNatClampNeg y4) (r_X8_turns M y4)).1 600 10) + 21)))).1 617 (Int32.toNatClampNeg y4)))).1 600 10) + 9) + y4))) = (2 : Int32)) from c117)] at k)
    refine j_aload_n g (i := 0) (by decide +kernel) rfl ?_
    refine j_gA g (b := 607) f8_28 (by decide +kernel) (by decide +kernel) (by decide +kernel) (by decide +kernel) ?_
    refine j_aload_n g (i := 0) (by decide +kernel) rfl ?_
    refine j_gI g f8_240 (by decide +kernel) (by decide +kernel) (by decide +kernel) ?_
    refine j_bipush g (n := 21) (21) (by decide +kernel) (by decide +kernel) ?_
    refine j_iadd g (by decide +kernel) ?_
    obtain ⟨h0, hp⟩ := hp
    refine j_ia g 44 (by decide +kernel) (by decide +kernel) (by decide +kernel) h0 ?_
    refine j_aload_n g (i := 0) (by decide +kernel) rfl ?_
    refine j_iload g (i := 4) (by decide +kernel) rfl ?_
    refine j_iconst g (n := 4) (4) (by decide +kernel) rfl ?_
    obtain ⟨h0, hp⟩ := hp
    refine j_cV2r g v8_249 ⟨rfl, by decide⟩ (by decide +kernel) (by decide +kernel) (Nat.le_of_ble_eq_true rfl) (rnX8_its h0) ?_
    refine j_icmp_le g (off := 7) (tgt := 146) (by decide +kernel) (by decide) (fun c139 => ?_) (fun c139 => ?_)
    · (try rw [if_pos (show ((wi (wi (wi (w_X8_turns M y4) 617 (Int32.toNatClampNeg y4) (r_X8_turns M y4)) 616 (Int32.toNatClampNeg y4) ((wi (w_X8_turns M y4) 617 (Int32.toNatClampNeg y4) (r_X8_turns M y4)).1 607 (Int32.toNatClampNeg (((wi (w_X8_turns M y4) 617 (Int32.toNatClampNeg y4) (r_X8_turns M y4)).1 600 10) + 21)))) 600 31 (((wi (wi (w_X8_turns M y4) 617 (Int32.toNatClampNeg y4) (r_X8_turns M y4)) 616 (Int32.toNatClampNeg y4) ((wi (w_X8_turns M y4) 617 (Int32.toNatClampNeg y4) (r_X8_turns M y4)).1 607 (Int32.toNatClampNeg (((wi (w_X8_turns M y4) 617 (Int32.toNatClampNeg y4) (r_X8_turns M y4)).1 600 10) + 21)))).1 600 31) + ((wi (wi (w_X8_turns M y4) 617 (Int32.toNatClampNeg y4) (r_X8_turns M y4)) 616 (Int32.toNatClampNeg y4) ((wi (w_X8_turns M y4) 617 (Int32.toNatClampNeg y4) (r_X8_turns M y4)).1 607 (Int32.toNatClampNeg (((wi (w_X8_turns M y4) 617 (Int32.toNatClampNeg y4) (r_X8_turns M y4)).1 600 10) + 21)))).1 617 (Int32.toNatClampNeg y4)))).1 607 (Int32.toNatClampNeg (((wi (wi (wi (w_X8_turns M y4) 617 (Int32.toNatClampNeg y4) (r_X8_turns M y4)) 616 (Int32.toNatClampNeg y4) ((wi (w_X8_turns M y4) 617 (Int32.toNatClampNeg y4) (r_X8_turns M y4)).1 607 (Int32.toNatClampNeg (((wi (w_X8_turns M y4) 617 (Int32.toNatClampNeg y4) (r_X8_turns M y4)).1 600 10) + 21)))) 600 31 (((wi (wi (w_X8_turns M y4) 617 (Int32.toNatClampNeg y4) (r_X8_turns M y4)) 616 (Int32.toNatClampNeg y4) ((wi (w_X8_turns M y4) 617 (Int32.toNatClampNeg y4) (r_X8_turns M y4)).1 607 (Int32.toNatClampNeg (((wi (w_X8_turns M y4) 617 (Int32.toNatClampNeg y4) (r_X8_turns M y4)).1 600 10) + 21)))).1 600 31) + ((wi (wi (w_X8_turns M y4) 617 (Int32.toNatClampNeg y4) (r_X8_turns M y4)) 616 (Int32.toNatClampNeg y4) ((wi (w_X8_turns M y4) 617 (Int32.toNatClampNeg y4) (r_X8_turns M y4)).1 607 (Int32.toNatClampNeg (((wi (w_X8_turns M y4) 617 (Int32.toNatClampNeg y4) (r_X8_turns M y4)).1 600 10) + 21)))).1 617 (Int32.toNatClampNeg y4)))).1 600 10) + 21))) ≤ ((wi (wi (wi (w_X8_turns M y4) 617 (Int32.toNatClampNeg y4) (r_X8_turns M y4)) 616 (Int32.toNatClampNeg y4) ((wi (w_X8_turns M y4) 617 (Int32.toNatClampNeg y4) (r_X8_turns M y4)).1 607 (Int32.toNatClampNeg (((wi (w_X8_turns M y4) 617 (Int32.toNatClampNeg y4) (r_X8_turns M y4)).1 600 10) + 21)))) 600 31 (((wi (wi (w_X8_turns M y4) 617 (Int32.toNatClampNeg y4) (r_X8_turns M y4)) 616 (Int32.toNatClampNeg y4) ((wi (w_X8_turns M y4) 617 (Int32.toNatClampNeg y4) (r_X8_turns M y4)).1 607 (Int32.toNatClampNeg (((wi (w_X8_turns M y4) 617 (Int32.toNatClampNeg y4) (r_X8_turns M y4)).1 600 10) + 21)))).1 600 31) + ((wi (wi (w_X8_turns M y4) 617 (Int32.toNatClampNeg y4) (r_X8_turns M y4)) 616 (Int32.toNatClampNeg y4) ((wi (w_X8_turns M y4) 617 (Int32.toNatClampNeg y4) (r_X8_turns M y4)).1 607 (Int32.toNatClampNeg (((wi (w_X8_turns M y4) 617 (Int32.toNatClampNeg y4) (r_X8_turns M y4)).1 600 10) + 21)))).1 617 (Int32.toNatClampNeg y4)))).1 603 (Int32.toNatClampNeg (8 * y4 + (4 : Int32)))) from c139)] at hc); (rw [if_pos (show ((wi (wi (wi (w_X8_turns M y4) 617 (Int32.toNatClampNeg y4) (r_X8_turns M y4)) 616 (Int32.toNatClampNeg y4) ((wi (w_X8_turns M y4) 617 (Int32.toNatClampNeg y4) (r_X8_turns M y4)).1 607 (Int32.toNatClampNeg (((wi (w_X8_turns M y4) 617 (Int32.toNatClampNeg y4) (r_X8_turns M y4)).1 600 10) + 21)))) 600 31 (((wi (wi (w_X8_turns M y4) 617 (Int32.toNatClampNeg y4) (r_X8_turns M y4)) 616 (Int32.toNatClampNeg y4) ((wi (w_X8_turns M y4) 617 (Int32.toNatClampNeg y4) (r_X8_turns M y4)).1 607 (Int32.toNatClampNeg (((wi (w_X8_turns M y4) 617 (Int32.toNatClampNeg y4) (r_X8_turns M y4)).1 600 10) + 21)))).1 600 31) + ((wi (wi (w_X8_turns M y4) 617 (Int32.toNatClampNeg y4) (r_X8_turns M y4)) 616 (Int32.toNatClampNeg y4) ((wi (w_X8_turns M y4) 617 (Int32.toNatClampNeg y4) (r_X8_turns M y4)).1 607 (Int32.toNatClampNeg (((wi (w_X8_turns M y4) 617 (Int32.toNatClampNeg y4) (r_X8_turns M y4)).1 600 10) + 21)))).1 617 (Int32.toNatClampNeg y4)))).1 607 (Int32.toNatClampNeg (((wi (wi (wi (w_X8_turns M y4) 617 (Int32.toNatClampNeg y4) (r_X8_turns M y4)) 616 (Int32.toNatClampNeg y4) ((wi (w_X8_turns M y4) 617 (Int32.toNatClampNeg y4) (r_X8_turns M y4)).1 607 (Int32.toNatClampNeg (((wi (w_X8_turns M y4) 617 (Int32.toNatClampNeg y4) (r_X8_turns M y4)).1 600 10) + 21)))) 600 31 (((wi (wi (w_X8_turns M y4) 617 (Int32.toNatClampNeg y4) (r_X8_turns M y4)) 616 (Int32.toNatClampNeg y4) ((wi (w_X8_turns M y4) 617 (Int32.toNatClampNeg y4) (r_X8_turns M y4)).1 607 (Int32.toNatClampNeg (((wi (w_X8_turns M y4) 617 (Int32.toNatClampNeg y4) (r_X8_turns M y4)).1 600 10) + 21)))).1 600 31) + ((wi (wi (w_X8_turns M y4) 617 (Int32.toNatClampNeg y4) (r_X8_turns M y4)) 616 (Int32.toNatClampNeg y4) ((wi (w_X8_turns M y4) 617 (Int32.toNatClampNeg y4) (r_X8_turns M y4)).1 607 (Int32.toNatClampNeg (((wi (w_X8_turns M y4) 617 (Int32.toNatClampNeg y4) (r_X8_turns M y4)).1 600 10) + 21)))).1 617 (Int32.toNatClampNeg y4)))).1 600 10) + 21))) ≤ ((wi (wi (wi (w_X8_turns M y4) 617 (Int32.toNatClampNeg y4) (r_X8_turns M y4)) 616 (Int32.toNatClampNeg y4) ((wi (w_X8_turns M y4) 617 (Int32.toNatClampNeg y4) (r_X8_turns M y4)).1 607 (Int32.toNatClampNeg (((wi (w_X8_turns M y4) 617 (Int32.toNatClampNeg y4) (r_X8_turns M y4)).1 600 10) + 21)))) 600 31 (((wi (wi (w_X8_turns M y4) 617 (Int32.toNatClampNeg y4) (r_X8_turns M y4)) 616 (Int32.toNatClampNeg y4) ((wi (w_X8_turns M y4) 617 (Int32.toNatClampNeg y4) (r_X8_turns M y4)).1 607 (Int32.toNatClampNeg (((wi (w_X8_turns M y4) 617 (Int32.toNatClampNeg y4) (r_X8_turns M y4)).1 600 10) + 21)))).1 600 31) + ((wi (wi (w_X8_turns M y4) 617 (Int32.toNatClampNeg y4) (r_X8_turns M y4)) 616 (Int32.toNatClampNeg y4) ((wi (w_X8_turns M y4) 617 (Int32.toNatClampNeg y4) (r_X8_turns M y4)).1 607 (Int32.toNatClampNeg (((wi (w_X8_turns M y4) 617 (Int32.toNatClampNeg y4) (r_X8_turns M y4)).1 600 10) + 21)))).1 617 (Int32.toNatClampNeg y4)))).1 603 (Int32.toNatClampNeg (8 * y4 + (4 : Int32)))) from c139)] at hp); (try simp only [if_pos (show ((wi (wi (wi (w_X8_turns M y4) 617 (Int32.toNatClampNeg y4) (r_X8_turns M y4)) 616 (Int32.toNatClampNeg y4) ((wi (w_X8_turns M y4) 617 (Int32.toNatClampNeg y4) (r_X8_turns M y4)).1 607 (Int32.toNatClampNeg (((wi (w_X8_turns M y4) 617 (Int32.toNatClampNeg y4) (r_X8_turns M y4)).1 600 10) + 21)))) 600 31 (((wi (wi (w_X8_turns M y4) 617 (Int32.toNatClampNeg y4) (r_X8_turns M y4)) 616 (Int32.toNatClampNeg y4) ((wi (w_X8_turns M y4) 617 (Int32.toNatClampNeg y4) (r_X8_turns M y4)).1 607 (Int32.toNatClampNeg (((wi (w_X8_turns M y4) 617 (Int32.toNatClampNeg y4) (r_X8_turns M y4)).1 600 10) + 21)))).1 600 31) + ((wi (wi (w_X8_turns M y4) 617 (Int32.toNatClampNeg y4) (r_X8_turns M y4)) 616 (Int32.toNatClampNeg y4) ((wi (w_X8_turns M y4) 617 (Int32.toNatClampNeg y4) (r_X8_turns M y4)).1 607 (Int32.toNatClampNeg (((wi (w_X8_turns M y4) 617 (Int32.toNatClampNeg y4) (r_X8_turns M y4)).1 600 10) + 21)))).1 617 (Int32.toNatClampNeg y4)))).1 607 (Int32.toNatClampNeg (((wi (wi (wi (w_X8_turns M y4) 617 (Int32.toNatClampNeg y4) (r_X8_turns M y4)) 616 (Int32.toNatClampNeg y4) ((wi (w_X8_turns M y4) 617 (Int32.toNatClampNeg y4) (r_X8_turns M y4)).1 607 (Int32.toNatClampNeg (((wi (w_X8_turns M y4) 617 (Int32.toNatClampNeg y4) (r_X8_turns M y4)).1 600 10) + 21)))) 600 31 (((wi (wi (w_X8_turns M y4) 617 (Int32.toNatClampNeg y4) (r_X8_turns M y4)) 616 (Int32.toNatClampNeg y4) ((wi (w_X8_turns M y4) 617 (Int32.toNatClampNeg y4) (r_X8_turns M y4)).1 607 (Int32.toNatClampNeg (((wi (w_X8_turns M y4) 617 (Int32.toNatClampNeg y4) (r_X8_turns M y4)).1 600 10) + 21)))).1 600 31) + ((wi (wi (w_X8_turns M y4) 617 (Int32.toNatClampNeg y4) (r_X8_turns M y4)) 616 (Int32.toNatClampNeg y4) ((wi (w_X8_turns M y4) 617 (Int32.toNatClampNeg y4) (r_X8_turns M y4)).1 607 (Int32.toNatClampNeg (((wi (w_X8_turns M y4) 617 (Int32.toNatClampNeg y4) (r_X8_turns M y4)).1 600 10) + 21)))).1 617 (Int32.toNatClampNeg y4)))).1 600 10) + 21))) ≤ ((wi (wi (wi (w_X8_turns M y4) 617 (Int32.toNatClampNeg y4) (r_X8_turns M y4)) 616 (Int32.toNatClampNeg y4) ((wi (w_X8_turns M y4) 617 (Int32.toNatClampNeg y4) (r_X8_turns M y4)).1 607 (Int32.toNatClampNeg (((wi (w_X8_turns M y4) 617 (Int32.toNatClampNeg y4) (r_X8_turns M y4)).1 600 10) + 21)))) 600 31 (((wi (wi (w_X8_turns M y4) 617 (Int32.toNatClampNeg y4) (r_X8_turns M y4)) 616 (Int32.toNatClampNeg y4) ((wi (w_X8_turns M y4) 617 (Int32.toNatClampNeg y4) (r_X8_turns M y4)).1 607 (Int32.toNatClampNeg (((wi (w_X8_turns M y4) 617 (Int32.toNatClampNeg y4) (r_X8_turns M y4)).1 600 10) + 21)))).1 600 31) + ((wi (wi (w_X8_turns M y4) 617 (Int32.toNatClampNeg y4) (r_X8_turns M y4)) 616 (Int32.toNatClampNeg y4) ((wi (w_X8_turns M y4) 617 (Int32.toNatClampNeg y4) (r_X8_turns M y4)).1 607 (Int32.toNatClampNeg (((wi (w_X8_turns M y4) 617 (Int32.toNatClampNeg y4) (r_X8_turns M y4)).1 600 10) + 21)))).1 617 (Int32.toNatClampNeg y4)))).1 603 (Int32.toNatClampNeg (8 * y4 + (4 : Int32)))) from c139)] at k)
      refine j_iconst g (n := 0) (0) (by decide +kernel) rfl ?_
      refine j_iadd g (by decide +kernel) ?_
      refine j_pI g f8_316 (fun q h => by cases h; rfl) (by decide +kernel) (by decide +kernel) (by decide +kernel) ?_
      refine j_iinc g (i := 3) (n := 1) (1) (by decide +kernel) rfl (by decide) rfl ?_
      dsimp only [stL, clL, hdL]
      refine j_goto g (off := -138) (tgt := 16) (by decide +kernel) (by decide) ?_
      exact k _
    · (try rw [if_neg (show ¬ (((wi (wi (wi (w_X8_turns M y4) 617 (Int32.toNatClampNeg y4) (r_X8_turns M y4)) 616 (Int32.toNatClampNeg y4) ((wi (w_X8_turns M y4) 617 (Int32.toNatClampNeg y4) (r_X8_turns M y4)).1 607 (Int32.toNatClampNeg (((wi (w_X8_turns M y4) 617 (Int32.toNatClampNeg y4) (r_X8_turns M y4)).1 600 10) + 21)))) 600 31 (((wi (wi (w_X8_turns M y4) 617 (Int32.toNatClampNeg y4) (r_X8_turns M y4)) 616 (Int32.toNatClampNeg y4) ((wi (w_X8_turns M y4) 617 (Int32.toNatClampNeg y4) (r_X8_turns M y4)).1 607 (Int32.toNatClampNeg (((wi (w_X8_turns M y4) 617 (Int32.toNatClampNeg y4) (r_X8_turns M y4)).1 600 10) + 21)))).1 600 31) + ((wi (wi (w_X8_turns M y4) 617 (Int32.toNatClampNeg y4) (r_X8_turns M y4)) 616 (Int32.toNatClampNeg y4) ((wi (w_X8_turns M y4) 617 (Int32.toNatClampNeg y4) (r_X8_turns M y4)).1 607 (Int32.toNatClampNeg (((wi (w_X8_turns M y4) 617 (Int32.toNatClampNeg y4) (r_X8_turns M y4)).1 600 10) + 21)))).1 617 (Int32.toNatClampNeg y4)))).1 607 (Int32.toNatClampNeg (((wi (wi (wi (w_X8_turns M y4) 617 (Int32.toNatClampNeg y4) (r_X8_turns M y4)) 616 (Int32.toNatClampNeg y4) ((wi (w_X8_turns M y4) 617 (Int32.toNatClampNeg y4) (r_X8_turns M y4)).1 607 (Int32.toNatClampNeg (((wi (w_X8_turns M y4) 617 (Int32.toNatClampNeg y4) (r_X8_turns M y4)).1 600 10) + 21)))) 600 31 (((wi (wi (w_X8_turns M y4) 617 (Int32.toNatClampNeg y4) (r_X8_turns M y4)) 616 (Int32.toNatClampNeg y4) ((wi (w_X8_turns M y4) 617 (Int32.toNatClampNeg y4) (r_X8_turns M y4)).1 607 (Int32.toNatClampNeg (((wi (w_X8_turns M y4) 617 (Int32.toNatClampNeg y4) (r_X8_turns M y4)).1 600 10) + 21)))).1 600 31) + ((wi (wi (w_X8_turns M y4) 617 (Int32.toNatClampNeg y4) (r_X8_turns M y4)) 616 (Int32.toNatClampNeg y4) ((wi (w_X8_turns M y4) 617 (Int32.toNatClampNeg y4) (r_X8_turns M y4)).1 607 (Int32.toNatClampNeg (((wi (w_X8_turns M y4) 617 (Int32.toNatClampNeg y4) (r_X8_turns M y4)).1 600 10) + 21)))).1 617 (Int32.toNatClampNeg y4)))).1 600 10) + 21))) ≤ ((wi (wi (wi (w_X8_turns M y4) 617 (Int32.toNatClampNeg y4) (r_X8_turns M y4)) 616 (Int32.toNatClampNeg y4) ((wi (w_X8_turns M y4) 617 (Int32.toNatClampNeg y4) (r_X8_turns M y4)).1 607 (Int32.toNatClampNeg (((wi (w_X8_turns M y4) 617 (Int32.toNatClampNeg y4) (r_X8_turns M y4)).1 600 10) + 21)))) 600 31 (((wi (wi (w_X8_turns M y4) 617 (Int32.toNatClampNeg y4) (r_X8_turns M y4)) 616 (Int32.toNatClampNeg y4) ((wi (w_X8_turns M y4) 617 (Int32.toNatClampNeg y4) (r_X8_turns M y4)).1 607 (Int32.toNatClampNeg (((wi (w_X8_turns M y4) 617 (Int32.toNatClampNeg y4) (r_X8_turns M y4)).1 600 10) + 21)))).1 600 31) + ((wi (wi (w_X8_turns M y4) 617 (Int32.toNatClampNeg y4) (r_X8_turns M y4)) 616 (Int32.toNatClampNeg y4) ((wi (w_X8_turns M y4) 617 (Int32.toNatClampNeg y4) (r_X8_turns M y4)).1 607 (Int32.toNatClampNeg (((wi (w_X8_turns M y4) 617 (Int32.toNatClampNeg y4) (r_X8_turns M y4)).1 600 10) + 21)))).1 617 (Int32.toNatClampNeg y4)))).1 603 (Int32.toNatClampNeg (8 * y4 + (4 : Int32))))) from c139)] at hc); (rw [if_neg (show ¬ (((wi (wi (wi (w_X8_turns M y4) 617 (Int32.toNatClampNeg y4) (r_X8_turns M y4)) 616 (Int32.toNatClampNeg y4) ((wi (w_X8_turns M y4) 617 (Int32.toNatClampNeg y4) (r_X8_turns M y4)).1 607 (Int32.toNatClampNeg (((wi (w_X8_turns M y4) 617 (Int32.toNatClampNeg y4) (r_X8_turns M y4)).1 600 10) + 21)))) 600 31 (((wi (wi (w_X8_turns M y4) 617 (Int32.toNatClampNeg y4) (r_X8_turns M y4)) 616 (Int32.toNatClampNeg y4) ((wi (w_X8_turns M y4) 617 (Int32.toNatClampNeg y4) (r_X8_turns M y4)).1 607 (Int32.toNatClampNeg (((wi (w_X8_turns M y4) 617 (Int32.toNatClampNeg y4) (r_X8_turns M y4)).1 600 10) + 21)))).1 600 31) + ((wi (wi (w_X8_turns M y4) 617 (Int32.toNatClampNeg y4) (r_X8_turns M y4)) 616 (Int32.toNatClampNeg y4) ((wi (w_X8_turns M y4) 617 (Int32.toNatClampNeg y4) (r_X8_turns M y4)).1 607 (Int32.toNatClampNeg (((wi (w_X8_turns M y4) 617 (Int32.toNatClampNeg y4) (r_X8_turns M y4)).1 600 10) + 21)))).1 617 (Int32.toNatClampNeg y4)))).1 607 (Int32.toNatClampNeg (((wi (wi (wi (w_X8_turns M y4) 617 (Int32.toNatClampNeg y4) (r_X8_turns M y4)) 616 (Int32.toNatClampNeg y4) ((wi (w_X8_turns M y4) 617 (Int32.toNatClampNeg y4) (r_X8_turns M y4)).1 607 (Int32.toNatClampNeg (((wi (w_X8_turns M y4) 617 (Int32.toNatClampNeg y4) (r_X8_turns M y4)).1 600 10) + 21)))) 600 31 (((wi (wi (w_X8_turns M y4) 617 (Int32.toNatClampNeg y4) (r_X8_turns M y4)) 616 (Int32.toNatClampNeg y4) ((wi (w_X8_turns M y4) 617 (Int32.toNatClampNeg y4) (r_X8_turns M y4)).1 607 (Int32.toNatClampNeg (((wi (w_X8_turns M y4) 617 (Int32.toNatClampNeg y4) (r_X8_turns M y4)).1 600 10) + 21)))).1 600 31) + ((wi (wi (w_X8_turns M y4) 617 (Int32.toNatClampNeg y4) (r_X8_turns M y4)) 616 (Int32.toNatClampNeg y4) ((wi (w_X8_turns M y4) 617 (Int32.toNatClampNeg y4) (r_X8_turns M y4)).1 607 (Int32.toNatClampNeg (((wi (w_X8_turns M y4) 617 (Int32.toNatClampNeg y4) (r_X8_turns M y4)).1 600 10) + 21)))).1 617 (Int32.toNatClampNeg y4)))).1 600 10) + 21))) ≤ ((wi (wi (wi (w_X8_turns M y4) 617 (Int32.toNatClampNeg y4) (r_X8_turns M y4)) 616 (Int32.toNatClampNeg y4) ((wi (w_X8_turns M y4) 617 (Int32.toNatClampNeg y4) (r_X8_turns M y4)).1 607 (Int32.toNatClampNeg (((wi (w_X8_turns M y4) 617 (Int32.toNatClampNeg y4) (r_X8_turns M y4)).1 600 10) + 21)))) 600 31 (((wi (wi (w_X8_turns M y4) 617 (Int32.toNatClampNeg y4) (r_X8_turns M y4)) 616 (Int32.toNatClampNeg y4) ((wi (w_X8_turns M y4) 617 (Int32.toNatClampNeg y4) (r_X8_turns M y4)).1 607 (Int32.toNatClampNeg (((wi (w_X8_turns M y4) 617 (Int32.toNatClampNeg y4) (r_X8_turns M y4)).1 600 10) + 21)))).1 600 31) + ((wi (wi (w_X8_turns M y4) 617 (Int32.toNatClampNeg y4) (r_X8_turns M y4)) 616 (Int32.toNatClampNeg y4) ((wi (w_X8_turns M y4) 617 (Int32.toNatClampNeg y4) (r_X8_turns M y4)).1 607 (Int32.toNatClampNeg (((wi (w_X8_turns M y4) 617 (Int32.toNatClampNeg y4) (r_X8_turns M y4)).1 600 10) + 21)))).1 617 (Int32.toNatClampNeg y4)))).1 603 (Int32.toNatClampNeg (8 * y4 + (4 : Int32))))) from c139)] at hp); (try simp only [if_neg (show ¬ (((wi (wi (wi (w_X8_turns M y4) 617 (Int32.toNatClampNeg y4) (r_X8_turns M y4)) 616 (Int32.toNatClampNeg y4) ((wi (w_X8_turns M y4) 617 (Int32.toNatClampNeg y4) (r_X8_turns M y4)).1 607 (Int32.toNatClampNeg (((wi (w_X8_turns M y4) 617 (Int32.toNatClampNeg y4) (r_X8_turns M y4)).1 600 10) + 21)))) 600 31 (((wi (wi (w_X8_turns M y4) 617 (Int32.toNatClampNeg y4) (r_X8_turns M y4)) 616 (Int32.toNatClampNeg y4) ((wi (w_X8_turns M y4) 617 (Int32.toNatClampNeg y4) (r_X8_turns M y4)).1 607 (Int32.toNatClampNeg (((wi (w_X8_turns M y4) 617 (Int32.toNatClampNeg y4) (r_X8_turns M y4)).1 600 10) + 21)))).1 600 31) + ((wi (wi (w_X8_turns M y4) 617 (Int32.toNatClampNeg y4) (r_X8_turns M y4)) 616 (Int32.toNatClampNeg y4) ((wi (w_X8_turns M y4) 617 (Int32.toNatClampNeg y4) (r_X8_turns M y4)).1 607 (Int32.toNatClampNeg (((wi (w_X8_turns M y4) 617 (Int32.toNatClampNeg y4) (r_X8_turns M y4)).1 600 10) + 21)))).1 617 (Int32.toNatClampNeg y4)))).1 607 (Int32.toNatClampNeg (((wi (wi (wi (w_X8_turns M y4) 617 (Int32.toNatClampNeg y4) (r_X8_turns M y4)) 616 (Int32.toNatClampNeg y4) ((wi (w_X8_turns M y4) 617 (Int32.toNatClampNeg y4) (r_X8_turns M y4)).1 607 (Int32.toNatClampNeg (((wi (w_X8_turns M y4) 617 (Int32.toNatClampNeg y4) (r_X8_turns M y4)).1 600 10) + 21)))) 600 31 (((wi (wi (w_X8_turns M y4) 617 (Int32.toNatClampNeg y4) (r_X8_turns M y4)) 616 (Int32.toNatClampNeg y4) ((wi (w_X8_turns M y4) 617 (Int32.toNatClampNeg y4) (r_X8_turns M y4)).1 607 (Int32.toNatClampNeg (((wi (w_X8_turns M y4) 617 (Int32.toNatClampNeg y4) (r_X8_turns M y4)).1 600 10) + 21)))).1 600 31) + ((wi (wi (w_X8_turns M y4) 617 (Int32.toNatClampNeg y4) (r_X8_turns M y4)) 616 (Int32.toNatClampNeg y4) ((wi (w_X8_turns M y4) 617 (Int32.toNatClampNeg y4) (r_X8_turns M y4)).1 607 (Int32.toNatClampNeg (((wi (w_X8_turns M y4) 617 (Int32.toNatClampNeg y4) (r_X8_turns M y4)).1 600 10) + 21)))).1 617 (Int32.toNatClampNeg y4)))).1 600 10) + 21))) ≤ ((wi (wi (wi (w_X8_turns M y4) 617 (Int32.toNatClampNeg y4) (r_X8_turns M y4)) 616 (Int32.toNatClampNeg y4) ((wi (w_X8_turns M y4) 617 (Int32.toNatClampNeg y4) (r_X8_turns M y4)).1 607 (Int32.toNatClampNeg (((wi (w_X8_turns M y4) 617 (Int32.toNatClampNeg y4) (r_X8_turns M y4)).1 600 10) + 21)))) 600 31 (((wi (wi (w_X8_turns M y4) 617 (Int32.toNatClampNeg y4) (r_X8_turns M y4)) 616 (Int32.toNatClampNeg y4) ((wi (w_X8_turns M y4) 617 (Int32.toNatClampNeg y4) (r_X8_turns M y4)).1 607 (Int32.toNatClampNeg (((wi (w_X8_turns M y4) 617 (Int32.toNatClampNeg y4) (r_X8_turns M y4)).1 600 10) + 21)))).1 600 31) + ((wi (wi (w_X8_turns M y4) 617 (Int32.toNatClampNeg y4) (r_X8_turns M y4)) 616 (Int32.toNatClampNeg y4) ((wi (w_X8_turns M y4) 617 (Int32.toNatClampNeg y4) (r_X8_turns M y4)).1 607 (Int32.toNatClampNeg (((wi (w_X8_turns M y4) 617 (Int32.toNatClampNeg y4) (r_X8_turns M y4)).1 600 10) + 21)))).1 617 (Int32.toNatClampNeg y4)))).1 603 (Int32.toNatClampNeg (8 * y4 + (4 : Int32))))) from c139)] at k)
      refine j_iconst g (n := 1) (1) (by decide +kernel) rfl ?_
      refine j_goto g (off := 4) (tgt := 147) (by decide +kernel) (by decide) ?_
      refine j_iadd g (by decide +kernel) ?_
      refine j_pI g f8_316 (fun q h => by cases h; rfl) (by decide +kernel) (by decide +kernel) (by decide +kernel) ?_
      refine j_iinc g (i := 3) (n := 1) (1) (by decide +kernel) rfl (by decide) rfl ?_
      dsimp only [stL, clL, hdL]
      refine j_goto g (off := -138) (tgt := 16) (by decide +kernel) (by decide) ?_
      exact k _
theorem ps_X8_goesThrough_16 {d : Nat} {J : Nat → Lc → List Value → Mm → Prop} {a1 : Int32} {a2 : Int32}  {σ : Mm × Int32}  (g : Good mX8_goesThrough.1 mX8_goesThrough.2.2.1 mX8_goesThrough.2.2.2.1 (d + 6) J) (hc : c_X8_goesThrough_16 a1 a2 σ) (hp : q_X8_goesThrough_16 a1 a2 σ) (k : ∀ (j4 : Option Value), J 16 [some (.ref 600), some (.int a1), some (.int a2), some (.int ((s_X8_goesThrough_16 a1 a2 σ).2)), j4] [] ((s_X8_goesThrough_16 a1 a2 σ).1)) : ∀ (j4 : Option Value), J 16 [some (.ref 600), some (.int a1), some (.int a2), some (.int σ.2), j4] [] σ.1 := by
  intro j4
  unfold c_X8_goesThrough_16 at hc
  unfold q_X8_goesThrough_16 at hp
  unfold s_X8_goesThrough_16 at k
  refine j_iload_n g (i := 3) (by decide +kernel) rfl ?_
  refine j_iload_n g (i := 1) (by decide +kernel) rfl ?_
  refine j_icmp_ge g (off := 139) (tgt := 157) (by decide +kernel) (by decide) (fun c18 => ?_) (fun c18 => ?_)
  · (try rw [if_pos (show a1 ≤ σ.2 from c18)] at hc); (rw [if_pos (show a1 ≤ σ.2 from c18)] at hp); (try simp only [if_pos (show a1 ≤ σ.2 from c18)] at k)
    exact hc.elim
  · (try rw [if_neg (show ¬ (a1 ≤ σ.2) from c18)] at hc); (rw [if_neg (show ¬ (a1 ≤ σ.2) from c18)] at hp); (try simp only [if_neg (show ¬ (a1 ≤ σ.2) from c18)] at k)
    refine j_aload_n g (i := 0) (by decide +kernel) rfl ?_
    refine j_gA g (b := 614) f8_49 (by decide +kernel) (by decide +kernel) (by decide +kernel) (by decide +kernel) ?_
    refine j_iload_n g (i := 3) (by decide +kernel) rfl ?_
    obtain ⟨h0, hp⟩ := hp
    refine j_ia g 6 (by decide +kernel) (by decide +kernel) (by decide +kernel) h0 ?_
    refine j_istore g (i := 4) (by decide +kernel) (by decide) ?_
    dsimp only [stL, clL, hdL]
    refine j_iload_n g (i := 2) (by decide +kernel) rfl ?_
    refine j_iload_n g (i := 3) (by decide +kernel) rfl ?_
    refine j_ishr g (by decide +kernel) ?_
    refine j_iconst g (n := 1) (1) (by decide +kernel) rfl ?_
    refine j_iand g (by decide +kernel) ?_
    refine j_iconst g (n := 1) (1) (by decide +kernel) rfl ?_
    refine j_icmp_ne g (off := 13) (tgt := 48) (by decide +kernel) (by decide) (fun c35 => ?_) (fun c35 => ?_)
    · (try rw [if_pos (show ¬ ((a2 >>> (σ.2 &&& 31)) &&& 1) = (1 : Int32) from c35)] at hc); (rw [if_pos (show ¬ ((a2 >>> (σ.2 &&& 31)) &&& 1) = (1 : Int32) from c35)] at hp); (try simp only [if_pos (show ¬ ((a2 >>> (σ.2 &&& 31)) &&& 1) = (1 : Int32) from c35)] at k)
      exact pj_X8_goesThrough_16_48  g trivial hp k 
    · (try rw [if_neg (show ¬ (¬ ((a2 >>> (σ.2 &&& 31)) &&& 1) = (1 : Int32)) from c35)] at hc); (rw [if_neg (show ¬ (¬ ((a2 >>> (σ.2 &&& 31)) &&& 1) = (1 : Int32)) from c35)] at hp); (try simp only [if_neg (show ¬ (¬ ((a2 >>> (σ.2 &&& 31)) &&& 1) = (1 : Int32)) from c35)] at k)
      refine j_aload_n g (i := 0) (by decide +kernel) rfl ?_
      refine j_aload_n g (i := 0) (by decide +kernel) rfl ?_
      refine j_gA g (b := 604) f8_19 (by decide +kernel) (by decide +kernel) (by decide +kernel) (by decide +kernel) ?_
      refine j_iconst g (n := 2) (2) (by decide +kernel) rfl ?_
      refine j_ia g 4 (by decide +kernel) (by decide +kernel) (by decide +kernel) (vin_b (by decide +kernel)) ?_
      obtain ⟨h0, hp⟩ := hp
      refine j_cV1v g v8_286 ⟨rfl, by decide⟩ (by decide +kernel) (by decide +kernel) (Nat.le_of_ble_eq_true rfl) (rnX8_passes h0) ?_
      exact pj_X8_goesThrough_16_48  g trivial hp k 
theorem sh_X8_goesThrough_16 {d : Nat} {J : Nat → Lc → List Value → Mm → Prop} {a1 : Int32} {a2 : Int32}  {σ0 : Mm × Int32}  (g : Good mX8_goesThrough.1 mX8_goesThrough.2.2.1 mX8_goesThrough.2.2.2.1 (d + 6) J) : ∀ (N : Nat), (∀ k, k < N → c_X8_goesThrough_16 a1 a2 (l_X8_goesThrough_16 a1 a2 σ0 k)) → (∀ k, k < N → q_X8_goesThrough_16 a1 a2 (l_X8_goesThrough_16 a1 a2 σ0 k)) → (∀ (j4 : Option Value), J 16 [some (.ref 600), some (.int a1), some (.int a2), some (.int ((l_X8_goesThrough_16 a1 a2 σ0 N).2)), j4] [] ((l_X8_goesThrough_16 a1 a2 σ0 N).1)) → ∀ (j4 : Option Value), J 16 [some (.ref 600), some (.int a1), some (.int a2), some (.int σ0.2), j4] [] σ0.1
  | 0, _, _, k => k
  | N + 1, hc, hp, k => sh_X8_goesThrough_16  g N (fun i hi => hc i (Nat.lt_succ_of_lt hi)) (fun i hi => hp i (Nat.lt_succ_of_lt hi)) (ps_X8_goesThrough_16  g (hc N (Nat.lt_succ_self N)) (hp N (Nat.lt_succ_self N)) k)
noncomputable def w_X8_goesThrough (M : Mm) (a1 : Int32) (a2 : Int32) : Mm := if a1 ≤ ((l_X8_goesThrough_16 a1 a2 ((wi (wi (w_X8_lends M) 600 31 0) 600 32 0), 0) (Int32.toNatClampNeg (a1))).2) then (l_X8_goesThrough_16 a1 a2 ((wi (wi (w_X8_lends M) 600 31 0) 600 32 0), 0) (Int32.toNatClampNeg (a1))).1 else M
def p_X8_goesThrough (M : Mm) (a1 : Int32) (a2 : Int32) : Prop := (p_X8_lends M ) ∧ (∀ k, k < (Int32.toNatClampNeg (a1)) → c_X8_goesThrough_16 a1 a2 (l_X8_goesThrough_16 a1 a2 ((wi (wi (w_X8_lends M) 600 31 0) 600 32 0), 0) k)) ∧ (∀ k, k < (Int32.toNatClampNeg (a1)) → q_X8_goesThrough_16 a1 a2 (l_X8_goesThrough_16 a1 a2 ((wi (wi (w_X8_lends M) 600 31 0) 600 32 0), 0) k)) ∧ (¬ c_X8_goesThrough_16 a1 a2 (l_X8_goesThrough_16 a1 a2 ((wi (wi (w_X8_lends M) 600 31 0) 600 32 0), 0) (Int32.toNatClampNeg (a1)))) ∧ (if a1 ≤ ((l_X8_goesThrough_16 a1 a2 ((wi (wi (w_X8_lends M) 600 31 0) 600 32 0), 0) (Int32.toNatClampNeg (a1))).2) then True else True)
set_option maxRecDepth 20000 in
theorem rnX8_goesThrough {d : Nat} {M : Mm} {a1 : Int32} {a2 : Int32}  (hp : p_X8_goesThrough M a1 a2) : Rn (d + 6) mX8_goesThrough [.ref 600, .int a1, .int a2] M none (w_X8_goesThrough M a1 a2) := by
  refine Rn.of [some (.ref 600), some (.int a1), some (.int a2), none, none] (by decide +kernel) rfl (Nat.le_of_ble_eq_true rfl) rfl (fun J g hr => ?_)
  unfold p_X8_goesThrough at hp
  refine j_aload_n g (i := 0) (by decide +kernel) rfl ?_
  obtain ⟨h0, hp⟩ := hp
  refine j_cV0v g v8_310 ⟨rfl, by decide⟩ (by decide +kernel) (by decide +kernel) (Nat.le_of_ble_eq_true rfl) (rnX8_lends h0) ?_
  refine j_aload_n g (i := 0) (by decide +kernel) rfl ?_
  refine j_iconst g (n := 0) (0) (by decide +kernel) rfl ?_
  refine j_pI g f8_313 (fun q h => by cases h; rfl) (by decide +kernel) (by decide +kernel) (by decide +kernel) ?_
  refine j_aload_n g (i := 0) (by decide +kernel) rfl ?_
  refine j_iconst g (n := 0) (0) (by decide +kernel) rfl ?_
  refine j_pI g f8_316 (fun q h => by cases h; rfl) (by decide +kernel) (by decide +kernel) (by decide +kernel) ?_
  refine j_iconst g (n := 0) (0) (by decide +kernel) rfl ?_
  refine j_istore_n g (i := 3) (by decide +kernel) (by decide) ?_
  dsimp only [stL, clL, hdL]
  obtain ⟨h0, hp⟩ := hp
  have hc_16_1 := h0
  obtain ⟨h0, hp⟩ := hp
  have hq_16_1 := h0
  obtain ⟨h0, hp⟩ := hp
  have hx_16_1 := h0
  refine sh_X8_goesThrough_16   g (σ0 := ((wi (wi (w_X8_lends M) 600 31 0) 600 32 0), 0)) (Int32.toNatClampNeg (a1)) hc_16_1 hq_16_1 ?_ _
  intro j4_1
  refine j_iload_n g (i := 3) (by decide +kernel) rfl ?_
  refine j_iload_n g (i := 1) (by decide +kernel) rfl ?_
  refine j_icmp_ge g (off := 139) (tgt := 157) (by decide +kernel) (by decide) (fun c18 => ?_) (fun c18 => ?_)
  · rw [if_pos (show a1 ≤ ((l_X8_goesThrough_16 a1 a2 ((wi (wi (w_X8_lends M) 600 31 0) 600 32 0), 0) (Int32.toNatClampNeg (a1))).2) from c18)] at hp
    refine hr.2.2.2 _ _ _ (by decide +kernel) rfl rfl ?_
    · unfold w_X8_goesThrough; first | (simp only [if_pos (show a1 ≤ ((l_X8_goesThrough_16 a1 a2 ((wi (wi (w_X8_lends M) 600 31 0) 600 32 0), 0) (Int32.toNatClampNeg (a1))).2) from c18)]; done) | (simp only [if_pos (show a1 ≤ ((l_X8_goesThrough_16 a1 a2 ((wi (wi (w_X8_lends M) 600 31 0) 600 32 0), 0) (Int32.toNatClampNeg (a1))).2) from c18)]; rfl) | rfl
  · rw [if_neg (show ¬ (a1 ≤ ((l_X8_goesThrough_16 a1 a2 ((wi (wi (w_X8_lends M) 600 31 0) 600 32 0), 0) (Int32.toNatClampNeg (a1))).2)) from c18)] at hp
    refine absurd (ci_X8_goesThrough_16.mpr ?_) hx_16_1
    simp only [if_neg (show ¬ (a1 ≤ ((l_X8_goesThrough_16 a1 a2 ((wi (wi (w_X8_lends M) 600 31 0) 600 32 0), 0) (Int32.toNatClampNeg (a1))).2)) from c18)]
noncomputable def r_X8_worth (M : Mm) (a1 : Int32) : Int32 := if (r_X8_takesOrder M a1) = 0 then (wi (w_X8_goesThrough (w_X8_takesOrder M a1) (r_X8_openMany (w_X8_takesOrder M a1)) (0 : Int32)) 600 10 0).1 600 31 else r_X8_takesOrder M a1
noncomputable def w_X8_worth (M : Mm) (a1 : Int32) : Mm := if (r_X8_takesOrder M a1) = 0 then (wi (w_X8_goesThrough (w_X8_takesOrder M a1) (r_X8_openMany (w_X8_takesOrder M a1)) (0 : Int32)) 600 10 0) else (w_X8_takesOrder M a1)
def p_X8_worth (M : Mm) (a1 : Int32) : Prop := (p_X8_takesOrder M a1) ∧ (if (r_X8_takesOrder M a1) = 0 then (p_X8_openMany (w_X8_takesOrder M a1) ) ∧ (p_X8_goesThrough (w_X8_takesOrder M a1) (r_X8_openMany (w_X8_takesOrder M a1)) (0 : Int32)) ∧ True else True)
set_option maxRecDepth 20000 in
theorem rnX8_worth {d : Nat} {M : Mm} {a1 : Int32}  (hp : p_X8_worth M a1) : Rn (d + 7) mX8_worth [.ref 600, .int a1] M (some (.int (r_X8_worth M a1))) (w_X8_worth M a1) := by
  refine Rn.of [some (.ref 600), some (.int a1), none] (by decide +kernel) rfl (Nat.le_of_ble_eq_true rfl) rfl (fun J g hr => ?_)
  unfold p_X8_worth at hp
  refine j_aload_n g (i := 0) (by decide +kernel) rfl ?_
  refine j_iload_n g (i := 1) (by decide +kernel) rfl ?_
  obtain ⟨h0, hp⟩ := hp
  refine j_cV1r g v8_323 ⟨rfl, by decide⟩ (by decide +kernel) (by decide +kernel) (Nat.le_of_ble_eq_true rfl) (rnX8_takesOrder h0) ?_
  refine j_istore_n g (i := 2) (by decide +kernel) (by decide) ?_
  dsimp only [stL, clL, hdL]
  refine j_iload_n g (i := 2) (by decide +kernel) rfl ?_
  refine j_if_eq g (off := 5) (tgt := 12) (by decide +kernel) (by decide) (fun c7 => ?_) (fun c7 => ?_)
  · rw [if_pos (show (r_X8_takesOrder M a1) = 0 from c7)] at hp
    refine j_aload_n g (i := 0) (by decide +kernel) rfl ?_
    refine j_aload_n g (i := 0) (by decide +kernel) rfl ?_
    obtain ⟨h0, hp⟩ := hp
    refine j_cV0r g v8_304 ⟨rfl, by decide⟩ (by decide +kernel) (by decide +kernel) (Nat.le_of_ble_eq_true rfl) (rnX8_openMany h0) ?_
    refine j_iconst g (n := 0) (0) (by decide +kernel) rfl ?_
    obtain ⟨h0, hp⟩ := hp
    refine j_cV2v g v8_326 ⟨rfl, by decide⟩ (by decide +kernel) (by decide +kernel) (Nat.le_of_ble_eq_true rfl) (rnX8_goesThrough h0) ?_
    refine j_aload_n g (i := 0) (by decide +kernel) rfl ?_
    refine j_iconst g (n := 0) (0) (by decide +kernel) rfl ?_
    refine j_pI g f8_240 (fun q h => by cases h; rfl) (by decide +kernel) (by decide +kernel) (by decide +kernel) ?_
    refine j_aload_n g (i := 0) (by decide +kernel) rfl ?_
    refine j_gI g f8_313 (by decide +kernel) (by decide +kernel) (by decide +kernel) ?_
    refine hr.1 _ _ _ _ (by decide +kernel) ⟨_, rfl, by first | rfl | exact b2i_nar | decide +kernel⟩ ?_ ?_
    · unfold r_X8_worth; first | (simp only [if_pos (show (r_X8_takesOrder M a1) = 0 from c7)]; done) | (simp only [if_pos (show (r_X8_takesOrder M a1) = 0 from c7)]; rfl) | rfl
    · unfold w_X8_worth; first | (simp only [if_pos (show (r_X8_takesOrder M a1) = 0 from c7)]; done) | (simp only [if_pos (show (r_X8_takesOrder M a1) = 0 from c7)]; rfl) | rfl
  · rw [if_neg (show ¬ ((r_X8_takesOrder M a1) = 0) from c7)] at hp
    refine j_iload_n g (i := 2) (by decide +kernel) rfl ?_
    refine hr.1 _ _ _ _ (by decide +kernel) ⟨_, rfl, by first | rfl | exact b2i_nar | decide +kernel⟩ ?_ ?_
    · unfold r_X8_worth; first | (simp only [if_neg (show ¬ ((r_X8_takesOrder M a1) = 0) from c7)]; done) | (simp only [if_neg (show ¬ ((r_X8_takesOrder M a1) = 0) from c7)]; rfl) | rfl
    · unfold w_X8_worth; first | (simp only [if_neg (show ¬ ((r_X8_takesOrder M a1) = 0) from c7)]; done) | (simp only [if_neg (show ¬ ((r_X8_takesOrder M a1) = 0) from c7)]; rfl) | rfl
def c_X8_digitsOf_614_4 (M : Mm) (a2 : Int32) (σ : Int32 × Int32) : Prop := if a2 ≤ σ.2 then False else True
theorem ci_X8_digitsOf_614_4 {M : Mm} {a2 : Int32}  {σ : Int32 × Int32} : c_X8_digitsOf_614_4 M a2 σ ↔ (if a2 ≤ σ.2 then False else True) := Iff.rfl
noncomputable def s_X8_digitsOf_614_4 (M : Mm) (a2 : Int32) (σ : Int32 × Int32) : Int32 × Int32 := if a2 ≤ σ.2 then σ else (σ.1 ||| ((M.1 614 (Int32.toNatClampNeg σ.2)) <<< (((3 : Int32) * σ.2) &&& 31)), σ.2 + 1)
def q_X8_digitsOf_614_4 (M : Mm) (a2 : Int32) (σ : Int32 × Int32) : Prop := (if a2 ≤ σ.2 then True else (vp_in σ.2 6) ∧ True)
noncomputable def l_X8_digitsOf_614_4 (M : Mm) (a2 : Int32) (σ0 : Int32 × Int32) : Nat → Int32 × Int32 := itN (fun _ σ => s_X8_digitsOf_614_4 M a2 σ) σ0
theorem ps_X8_digitsOf_614_4 {d : Nat} {J : Nat → Lc → List Value → Mm → Prop} {M : Mm} {a2 : Int32}  {σ : Int32 × Int32}  (g : Good mX8_digitsOf.1 mX8_digitsOf.2.2.1 mX8_digitsOf.2.2.2.1 (d + 0) J) (hc : c_X8_digitsOf_614_4 M a2 σ) (hp : q_X8_digitsOf_614_4 M a2 σ) (k : J 4 [some (.ref 614), some (.int a2), some (.int ((s_X8_digitsOf_614_4 M a2 σ).1)), some (.int ((s_X8_digitsOf_614_4 M a2 σ).2))] [] M) : J 4 [some (.ref 614), some (.int a2), some (.int σ.1), some (.int σ.2)] [] M := by
  unfold c_X8_digitsOf_614_4 at hc
  unfold q_X8_digitsOf_614_4 at hp
  unfold s_X8_digitsOf_614_4 at k
  refine j_iload_n g (i := 3) (by decide +kernel) rfl ?_
  refine j_iload_n g (i := 1) (by decide +kernel) rfl ?_
  refine j_icmp_ge g (off := 19) (tgt := 25) (by decide +kernel) (by decide) (fun c6 => ?_) (fun c6 => ?_)
  · (try rw [if_pos (show a2 ≤ σ.2 from c6)] at hc); (rw [if_pos (show a2 ≤ σ.2 from c6)] at hp); (try simp only [if_pos (show a2 ≤ σ.2 from c6)] at k)
    exact hc.elim
  · (try rw [if_neg (show ¬ (a2 ≤ σ.2) from c6)] at hc); (rw [if_neg (show ¬ (a2 ≤ σ.2) from c6)] at hp); (try simp only [if_neg (show ¬ (a2 ≤ σ.2) from c6)] at k)
    refine j_iload_n g (i := 2) (by decide +kernel) rfl ?_
    refine j_aload_n g (i := 0) (by decide +kernel) rfl ?_
    refine j_iload_n g (i := 3) (by decide +kernel) rfl ?_
    obtain ⟨h0, hp⟩ := hp
    refine j_ia g 6 (by decide +kernel) (by decide +kernel) (by decide +kernel) h0 ?_
    refine j_iconst g (n := 3) (3) (by decide +kernel) rfl ?_
    refine j_iload_n g (i := 3) (by decide +kernel) rfl ?_
    refine j_imul g (by decide +kernel) ?_
    refine j_ishl g (by decide +kernel) ?_
    refine j_ior g (by decide +kernel) ?_
    refine j_istore_n g (i := 2) (by decide +kernel) (by decide) ?_
    dsimp only [stL, clL, hdL]
    refine j_iinc g (i := 3) (n := 1) (1) (by decide +kernel) rfl (by decide) rfl ?_
    dsimp only [stL, clL, hdL]
    refine j_goto g (off := -18) (tgt := 4) (by decide +kernel) (by decide) ?_
    exact k 
theorem sh_X8_digitsOf_614_4 {d : Nat} {J : Nat → Lc → List Value → Mm → Prop} {M : Mm} {a2 : Int32}  {σ0 : Int32 × Int32}  (g : Good mX8_digitsOf.1 mX8_digitsOf.2.2.1 mX8_digitsOf.2.2.2.1 (d + 0) J) : ∀ (N : Nat), (∀ k, k < N → c_X8_digitsOf_614_4 M a2 (l_X8_digitsOf_614_4 M a2 σ0 k)) → (∀ k, k < N → q_X8_digitsOf_614_4 M a2 (l_X8_digitsOf_614_4 M a2 σ0 k)) → (J 4 [some (.ref 614), some (.int a2), some (.int ((l_X8_digitsOf_614_4 M a2 σ0 N).1)), some (.int ((l_X8_digitsOf_614_4 M a2 σ0 N).2))] [] M) → J 4 [some (.ref 614), some (.int a2), some (.int σ0.1), some (.int σ0.2)] [] M
  | 0, _, _, k => k
  | N + 1, hc, hp, k => sh_X8_digitsOf_614_4  g N (fun i hi => hc i (Nat.lt_succ_of_lt hi)) (fun i hi => hp i (Nat.lt_succ_of_lt hi)) (ps_X8_digitsOf_614_4  g (hc N (Nat.lt_succ_self N)) (hp N (Nat.lt_succ_self N)) k)
noncomputable def r_X8_digitsOf_614 (M : Mm) (a2 : Int32) : Int32 := if a2 ≤ ((l_X8_digitsOf_614_4 M a2 (0, 0) (Int32.toNatClampNeg (a2))).2) then (l_X8_digitsOf_614_4 M a2 (0, 0) (Int32.toNatClampNeg (a2))).1 else 0
def p_X8_digitsOf_614 (M : Mm) (a2 : Int32) : Prop := (∀ k, k < (Int32.toNatClampNeg (a2)) → c_X8_digitsOf_614_4 M a2 (l_X8_digitsOf_614_4 M a2 (0, 0) k)) ∧ (∀ k, k < (Int32.toNatClampNeg (a2)) → q_X8_digitsOf_614_4 M a2 (l_X8_digitsOf_614_4 M a2 (0, 0) k)) ∧ (¬ c_X8_digitsOf_614_4 M a2 (l_X8_digitsOf_614_4 M a2 (0, 0) (Int32.toNatClampNeg (a2)))) ∧ (if a2 ≤ ((l_X8_digitsOf_614_4 M a2 (0, 0) (Int32.toNatClampNeg (a2))).2) then True else True)
set_option maxRecDepth 20000 in
theorem rnX8_digitsOf_614 {d : Nat} {M : Mm} {a2 : Int32}  (hp : p_X8_digitsOf_614 M a2) : Rn (d + 0) mX8_digitsOf [.ref 614, .int a2] M (some (.int (r_X8_digitsOf_614 M a2))) M := by
  refine Rn.of [some (.ref 614), some (.int a2), none, none] (by decide +kernel) rfl (Nat.le_of_ble_eq_true rfl) rfl (fun J g hr => ?_)
  unfold p_X8_digitsOf_614 at hp
  refine j_iconst g (n := 0) (0) (by decide +kernel) rfl ?_
  refine j_istore_n g (i := 2) (by decide +kernel) (by decide) ?_
  dsimp only [stL, clL, hdL]
  refine j_iconst g (n := 0) (0) (by decide +kernel) rfl ?_
  refine j_istore_n g (i := 3) (by decide +kernel) (by decide) ?_
  dsimp only [stL, clL, hdL]
  obtain ⟨h0, hp⟩ := hp
  have hc_4_1 := h0
  obtain ⟨h0, hp⟩ := hp
  have hq_4_1 := h0
  obtain ⟨h0, hp⟩ := hp
  have hx_4_1 := h0
  refine sh_X8_digitsOf_614_4   g (σ0 := (0, 0)) (Int32.toNatClampNeg (a2)) hc_4_1 hq_4_1 ?_ 
  refine j_iload_n g (i := 3) (by decide +kernel) rfl ?_
  refine j_iload_n g (i := 1) (by decide +kernel) rfl ?_
  refine j_icmp_ge g (off := 19) (tgt := 25) (by decide +kernel) (by decide) (fun c6 => ?_) (fun c6 => ?_)
  · rw [if_pos (show a2 ≤ ((l_X8_digitsOf_614_4 M a2 (0, 0) (Int32.toNatClampNeg (a2))).2) from c6)] at hp
    refine j_iload_n g (i := 2) (by decide +kernel) rfl ?_
    refine hr.1 _ _ _ _ (by decide +kernel) ⟨_, rfl, by first | rfl | exact b2i_nar | decide +kernel⟩ ?_ ?_
    · unfold r_X8_digitsOf_614; first | (simp only [if_pos (show a2 ≤ ((l_X8_digitsOf_614_4 M a2 (0, 0) (Int32.toNatClampNeg (a2))).2) from c6)]; done) | (simp only [if_pos (show a2 ≤ ((l_X8_digitsOf_614_4 M a2 (0, 0) (Int32.toNatClampNeg (a2))).2) from c6)]; rfl) | rfl
    · rfl
  · rw [if_neg (show ¬ (a2 ≤ ((l_X8_digitsOf_614_4 M a2 (0, 0) (Int32.toNatClampNeg (a2))).2)) from c6)] at hp
    refine absurd (ci_X8_digitsOf_614_4.mpr ?_) hx_4_1
    simp only [if_neg (show ¬ (a2 ≤ ((l_X8_digitsOf_614_4 M a2 (0, 0) (Int32.toNatClampNeg (a2))).2)) from c6)]
def c_X8_digitsOf_615_4 (M : Mm) (a2 : Int32) (σ : Int32 × Int32) : Prop := if a2 ≤ σ.2 then False else True
theorem ci_X8_digitsOf_615_4 {M : Mm} {a2 : Int32}  {σ : Int32 × Int32} : c_X8_digitsOf_615_4 M a2 σ ↔ (if a2 ≤ σ.2 then False else True) := Iff.rfl
noncomputable def s_X8_digitsOf_615_4 (M : Mm) (a2 : Int32) (σ : Int32 × Int32) : Int32 × Int32 := if a2 ≤ σ.2 then σ else (σ.1 ||| ((M.1 615 (Int32.toNatClampNeg σ.2)) <<< (((3 : Int32) * σ.2) &&& 31)), σ.2 + 1)
def q_X8_digitsOf_615_4 (M : Mm) (a2 : Int32) (σ : Int32 × Int32) : Prop := (if a2 ≤ σ.2 then True else (vp_in σ.2 6) ∧ True)
noncomputable def l_X8_digitsOf_615_4 (M : Mm) (a2 : Int32) (σ0 : Int32 × Int32) : Nat → Int32 × Int32 := itN (fun _ σ => s_X8_digitsOf_615_4 M a2 σ) σ0
theorem ps_X8_digitsOf_615_4 {d : Nat} {J : Nat → Lc → List Value → Mm → Prop} {M : Mm} {a2 : Int32}  {σ : Int32 × Int32}  (g : Good mX8_digitsOf.1 mX8_digitsOf.2.2.1 mX8_digitsOf.2.2.2.1 (d + 0) J) (hc : c_X8_digitsOf_615_4 M a2 σ) (hp : q_X8_digitsOf_615_4 M a2 σ) (k : J 4 [some (.ref 615), some (.int a2), some (.int ((s_X8_digitsOf_615_4 M a2 σ).1)), some (.int ((s_X8_digitsOf_615_4 M a2 σ).2))] [] M) : J 4 [some (.ref 615), some (.int a2), some (.int σ.1), some (.int σ.2)] [] M := by
  unfold c_X8_digitsOf_615_4 at hc
  unfold q_X8_digitsOf_615_4 at hp
  unfold s_X8_digitsOf_615_4 at k
  refine j_iload_n g (i := 3) (by decide +kernel) rfl ?_
  refine j_iload_n g (i := 1) (by decide +kernel) rfl ?_
  refine j_icmp_ge g (off := 19) (tgt := 25) (by decide +kernel) (by decide) (fun c6 => ?_) (fun c6 => ?_)
  · (try rw [if_pos (show a2 ≤ σ.2 from c6)] at hc); (rw [if_pos (show a2 ≤ σ.2 from c6)] at hp); (try simp only [if_pos (show a2 ≤ σ.2 from c6)] at k)
    exact hc.elim
  · (try rw [if_neg (show ¬ (a2 ≤ σ.2) from c6)] at hc); (rw [if_neg (show ¬ (a2 ≤ σ.2) from c6)] at hp); (try simp only [if_neg (show ¬ (a2 ≤ σ.2) from c6)] at k)
    refine j_iload_n g (i := 2) (by decide +kernel) rfl ?_
    refine j_aload_n g (i := 0) (by decide +kernel) rfl ?_
    refine j_iload_n g (i := 3) (by decide +kernel) rfl ?_
    obtain ⟨h0, hp⟩ := hp
    refine j_ia g 6 (by decide +kernel) (by decide +kernel) (by decide +kernel) h0 ?_
    refine j_iconst g (n := 3) (3) (by decide +kernel) rfl ?_
    refine j_iload_n g (i := 3) (by decide +kernel) rfl ?_
    refine j_imul g (by decide +kernel) ?_
    refine j_ishl g (by decide +kernel) ?_
    refine j_ior g (by decide +kernel) ?_
    refine j_istore_n g (i := 2) (by decide +kernel) (by decide) ?_
    dsimp only [stL, clL, hdL]
    refine j_iinc g (i := 3) (n := 1) (1) (by decide +kernel) rfl (by decide) rfl ?_
    dsimp only [stL, clL, hdL]
    refine j_goto g (off := -18) (tgt := 4) (by decide +kernel) (by decide) ?_
    exact k 
theorem sh_X8_digitsOf_615_4 {d : Nat} {J : Nat → Lc → List Value → Mm → Prop} {M : Mm} {a2 : Int32}  {σ0 : Int32 × Int32}  (g : Good mX8_digitsOf.1 mX8_digitsOf.2.2.1 mX8_digitsOf.2.2.2.1 (d + 0) J) : ∀ (N : Nat), (∀ k, k < N → c_X8_digitsOf_615_4 M a2 (l_X8_digitsOf_615_4 M a2 σ0 k)) → (∀ k, k < N → q_X8_digitsOf_615_4 M a2 (l_X8_digitsOf_615_4 M a2 σ0 k)) → (J 4 [some (.ref 615), some (.int a2), some (.int ((l_X8_digitsOf_615_4 M a2 σ0 N).1)), some (.int ((l_X8_digitsOf_615_4 M a2 σ0 N).2))] [] M) → J 4 [some (.ref 615), some (.int a2), some (.int σ0.1), some (.int σ0.2)] [] M
  | 0, _, _, k => k
  | N + 1, hc, hp, k => sh_X8_digitsOf_615_4  g N (fun i hi => hc i (Nat.lt_succ_of_lt hi)) (fun i hi => hp i (Nat.lt_succ_of_lt hi)) (ps_X8_digitsOf_615_4  g (hc N (Nat.lt_succ_self N)) (hp N (Nat.lt_succ_self N)) k)
noncomputable def r_X8_digitsOf_615 (M : Mm) (a2 : Int32) : Int32 := if a2 ≤ ((l_X8_digitsOf_615_4 M a2 (0, 0) (Int32.toNatClampNeg (a2))).2) then (l_X8_digitsOf_615_4 M a2 (0, 0) (Int32.toNatClampNeg (a2))).1 else 0
def p_X8_digitsOf_615 (M : Mm) (a2 : Int32) : Prop := (∀ k, k < (Int32.toNatClampNeg (a2)) → c_X8_digitsOf_615_4 M a2 (l_X8_digitsOf_615_4 M a2 (0, 0) k)) ∧ (∀ k, k < (Int32.toNatClampNeg (a2)) → q_X8_digitsOf_615_4 M a2 (l_X8_digitsOf_615_4 M a2 (0, 0) k)) ∧ (¬ c_X8_digitsOf_615_4 M a2 (l_X8_digitsOf_615_4 M a2 (0, 0) (Int32.toNatClampNeg (a2)))) ∧ (if a2 ≤ ((l_X8_digitsOf_615_4 M a2 (0, 0) (Int32.toNatClampNeg (a2))).2) then True else True)
set_option maxRecDepth 20000 in
theorem rnX8_digitsOf_615 {d : Nat} {M : Mm} {a2 : Int32}  (hp : p_X8_digitsOf_615 M a2) : Rn (d + 0) mX8_digitsOf [.ref 615, .int a2] M (some (.int (r_X8_digitsOf_615 M a2))) M := by
  refine Rn.of [some (.ref 615), some (.int a2), none, none] (by decide +kernel) rfl (Nat.le_of_ble_eq_true rfl) rfl (fun J g hr => ?_)
  unfold p_X8_digitsOf_615 at hp
  refine j_iconst g (n := 0) (0) (by decide +kernel) rfl ?_
  refine j_istore_n g (i := 2) (by decide +kernel) (by decide) ?_
  dsimp only [stL, clL, hdL]
  refine j_iconst g (n := 0) (0) (by decide +kernel) rfl ?_
  refine j_istore_n g (i := 3) (by decide +kernel) (by decide) ?_
  dsimp only [stL, clL, hdL]
  obtain ⟨h0, hp⟩ := hp
  have hc_4_1 := h0
  obtain ⟨h0, hp⟩ := hp
  have hq_4_1 := h0
  obtain ⟨h0, hp⟩ := hp
  have hx_4_1 := h0
  refine sh_X8_digitsOf_615_4   g (σ0 := (0, 0)) (Int32.toNatClampNeg (a2)) hc_4_1 hq_4_1 ?_ 
  refine j_iload_n g (i := 3) (by decide +kernel) rfl ?_
  refine j_iload_n g (i := 1) (by decide +kernel) rfl ?_
  refine j_icmp_ge g (off := 19) (tgt := 25) (by decide +kernel) (by decide) (fun c6 => ?_) (fun c6 => ?_)
  · rw [if_pos (show a2 ≤ ((l_X8_digitsOf_615_4 M a2 (0, 0) (Int32.toNatClampNeg (a2))).2) from c6)] at hp
    refine j_iload_n g (i := 2) (by decide +kernel) rfl ?_
    refine hr.1 _ _ _ _ (by decide +kernel) ⟨_, rfl, by first | rfl | exact b2i_nar | decide +kernel⟩ ?_ ?_
    · unfold r_X8_digitsOf_615; first | (simp only [if_pos (show a2 ≤ ((l_X8_digitsOf_615_4 M a2 (0, 0) (Int32.toNatClampNeg (a2))).2) from c6)]; done) | (simp only [if_pos (show a2 ≤ ((l_X8_digitsOf_615_4 M a2 (0, 0) (Int32.toNatClampNeg (a2))).2) from c6)]; rfl) | rfl
    · rfl
  · rw [if_neg (show ¬ (a2 ≤ ((l_X8_digitsOf_615_4 M a2 (0, 0) (Int32.toNatClampNeg (a2))).2)) from c6)] at hp
    refine absurd (ci_X8_digitsOf_615_4.mpr ?_) hx_4_1
    simp only [if_neg (show ¬ (a2 ≤ ((l_X8_digitsOf_615_4 M a2 (0, 0) (Int32.toNatClampNeg (a2))).2)) from c6)]
def c_X8_nextOrder_4 (M : Mm) (a1 : Int32) (σ : Int32) : Prop := if σ < 0 then False else if (M.1 614 (Int32.toNatClampNeg σ)) ≤ (M.1 614 (Int32.toNatClampNeg (σ + 1))) then False else True
theorem ci_X8_nextOrder_4 {M : Mm} {a1 : Int32}  {σ : Int32} : c_X8_nextOrder_4 M a1 σ ↔ (if σ < 0 then False else if (M.1 614 (Int32.toNatClampNeg σ)) ≤ (M.1 614 (Int32.toNatClampNeg (σ + 1))) then False else True) := Iff.rfl
noncomputable def s_X8_nextOrder_4 (M : Mm) (a1 : Int32) (σ : Int32) : Int32 := if σ < 0 then σ else if (M.1 614 (Int32.toNatClampNeg σ)) ≤ (M.1 614 (Int32.toNatClampNeg (σ + 1))) then σ else (σ + (-1))
def q_X8_nextOrder_4 (M : Mm) (a1 : Int32) (σ : Int32) : Prop := (if σ < 0 then True else (vp_in σ 6) ∧ (vp_in (σ + 1) 6) ∧ (if (M.1 614 (Int32.toNatClampNeg σ)) ≤ (M.1 614 (Int32.toNatClampNeg (σ + 1))) then True else True))
noncomputable def l_X8_nextOrder_4 (M : Mm) (a1 : Int32) (σ0 : Int32) : Nat → Int32 := itN (fun _ σ => s_X8_nextOrder_4 M a1 σ) σ0
theorem ps_X8_nextOrder_4 {d : Nat} {J : Nat → Lc → List Value → Mm → Prop} {M : Mm} {a1 : Int32}  {σ : Int32}  (g : Good mX8_nextOrder.1 mX8_nextOrder.2.2.1 mX8_nextOrder.2.2.2.1 (d + 1) J) (hc : c_X8_nextOrder_4 M a1 σ) (hp : q_X8_nextOrder_4 M a1 σ) (k : J 4 [some (.ref 600), some (.int a1), some (.int (s_X8_nextOrder_4 M a1 σ)), none, none] [] M) : J 4 [some (.ref 600), some (.int a1), some (.int σ), none, none] [] M := by
  unfold c_X8_nextOrder_4 at hc
  unfold q_X8_nextOrder_4 at hp
  unfold s_X8_nextOrder_4 at k
  refine j_iload_n g (i := 2) (by decide +kernel) rfl ?_
  refine j_if_lt g (off := 26) (tgt := 31) (by decide +kernel) (by decide) (fun c5 => ?_) (fun c5 => ?_)
  · (try rw [if_pos (show σ < 0 from c5)] at hc); (rw [if_pos (show σ < 0 from c5)] at hp); (try simp only [if_pos (show σ < 0 from c5)] at k)
    exact hc.elim
  · (try rw [if_neg (show ¬ (σ < 0) from c5)] at hc); (rw [if_neg (show ¬ (σ < 0) from c5)] at hp); (try simp only [if_neg (show ¬ (σ < 0) from c5)] at k)
    refine j_aload_n g (i := 0) (by decide +kernel) rfl ?_
    refine j_gA g (b := 614) f8_49 (by decide +kernel) (by decide +kernel) (by decide +kernel) (by decide +kernel) ?_
    refine j_iload_n g (i := 2) (by decide +kernel) rfl ?_
    obtain ⟨h0, hp⟩ := hp
    refine j_ia g 6 (by decide +kernel) (by decide +kernel) (by decide +kernel) h0 ?_
    refine j_aload_n g (i := 0) (by decide +kernel) rfl ?_
    refine j_gA g (b := 614) f8_49 (by decide +kernel) (by decide +kernel) (by decide +kernel) (by decide +kernel) ?_
    refine j_iload_n g (i := 2) (by decide +kernel) rfl ?_
    refine j_iconst g (n := 1) (1) (by decide +kernel) rfl ?_
    refine j_iadd g (by decide +kernel) ?_
    obtain ⟨h0, hp⟩ := hp
    refine j_ia g 6 (by decide +kernel) (by decide +kernel) (by decide +kernel) h0 ?_
    refine j_icmp_le g (off := 9) (tgt := 31) (by decide +kernel) (by decide) (fun c22 => ?_) (fun c22 => ?_)
    · (try rw [if_pos (show (M.1 614 (Int32.toNatClampNeg σ)) ≤ (M.1 614 (Int32.toNatClampNeg (σ + 1))) from c22)] at hc); (rw [if_pos (show (M.1 614 (Int32.toNatClampNeg σ)) ≤ (M.1 614 (Int32.toNatClampNeg (σ + 1))) from c22)] at hp); (try simp only [if_pos (show (M.1 614 (Int32.toNatClampNeg σ)) ≤ (M.1 614 (Int32.toNatClampNeg (σ + 1))) from c22)] at k)
      exact hc.elim
    · (try rw [if_neg (show ¬ ((M.1 614 (Int32.toNatClampNeg σ)) ≤ (M.1 614 (Int32.toNatClampNeg (σ + 1)))) from c22)] at hc); (rw [if_neg (show ¬ ((M.1 614 (Int32.toNatClampNeg σ)) ≤ (M.1 614 (Int32.toNatClampNeg (σ + 1)))) from c22)] at hp); (try simp only [if_neg (show ¬ ((M.1 614 (Int32.toNatClampNeg σ)) ≤ (M.1 614 (Int32.toNatClampNeg (σ + 1)))) from c22)] at k)
      refine j_iinc g (i := 2) (n := -1) (-1) (by decide +kernel) rfl (by decide) rfl ?_
      dsimp only [stL, clL, hdL]
      refine j_goto g (off := -24) (tgt := 4) (by decide +kernel) (by decide) ?_
      exact k 
theorem sh_X8_nextOrder_4 {d : Nat} {J : Nat → Lc → List Value → Mm → Prop} {M : Mm} {a1 : Int32}  {σ0 : Int32}  (g : Good mX8_nextOrder.1 mX8_nextOrder.2.2.1 mX8_nextOrder.2.2.2.1 (d + 1) J) : ∀ (N : Nat), (∀ k, k < N → c_X8_nextOrder_4 M a1 (l_X8_nextOrder_4 M a1 σ0 k)) → (∀ k, k < N → q_X8_nextOrder_4 M a1 (l_X8_nextOrder_4 M a1 σ0 k)) → (J 4 [some (.ref 600), some (.int a1), some (.int (l_X8_nextOrder_4 M a1 σ0 N)), none, none] [] M) → J 4 [some (.ref 600), some (.int a1), some (.int σ0), none, none] [] M
  | 0, _, _, k => k
  | N + 1, hc, hp, k => sh_X8_nextOrder_4  g N (fun i hi => hc i (Nat.lt_succ_of_lt hi)) (fun i hi => hp i (Nat.lt_succ_of_lt hi)) (ps_X8_nextOrder_4  g (hc N (Nat.lt_succ_self N)) (hp N (Nat.lt_succ_self N)) k)
def c_X8_nextOrder_41 (M : Mm) (a1 : Int32) (x2 : Int32) (σ : Int32) : Prop := if (M.1 614 (Int32.toNatClampNeg x2)) ≤ (M.1 614 (Int32.toNatClampNeg σ)) then False else True
theorem ci_X8_nextOrder_41 {M : Mm} {a1 : Int32} {x2 : Int32} {σ : Int32} : c_X8_nextOrder_41 M a1 x2 σ ↔ (if (M.1 614 (Int32.toNatClampNeg x2)) ≤ (M.1 614 (Int32.toNatClampNeg σ)) then False else True) := Iff.rfl
noncomputable def s_X8_nextOrder_41 (M : Mm) (a1 : Int32) (x2 : Int32) (σ : Int32) : Int32 := if (M.1 614 (Int32.toNatClampNeg x2)) ≤ (M.1 614 (Int32.toNatClampNeg σ)) then σ else (σ + (-1))
def q_X8_nextOrder_41 (M : Mm) (a1 : Int32) (x2 : Int32) (σ : Int32) : Prop := (vp_in σ 6) ∧ (vp_in x2 6) ∧ (if (M.1 614 (Int32.toNatClampNeg x2)) ≤ (M.1 614 (Int32.toNatClampNeg σ)) then True else True)
noncomputable def l_X8_nextOrder_41 (M : Mm) (a1 : Int32) (x2 : Int32) (σ0 : Int32) : Nat → Int32 := itN (fun _ σ => s_X8_nextOrder_41 M a1 x2 σ) σ0
theorem ps_X8_nextOrder_41 {d : Nat} {J : Nat → Lc → List Value → Mm → Prop} {M : Mm} {a1 : Int32} {x2 : Int32} {σ : Int32}  (g : Good mX8_nextOrder.1 mX8_nextOrder.2.2.1 mX8_nextOrder.2.2.2.1 (d + 1) J) (hc : c_X8_nextOrder_41 M a1 x2 σ) (hp : q_X8_nextOrder_41 M a1 x2 σ) (k : J 41 [some (.ref 600), some (.int a1), some (.int x2), some (.int (s_X8_nextOrder_41 M a1 x2 σ)), none] [] M) : J 41 [some (.ref 600), some (.int a1), some (.int x2), some (.int σ), none] [] M := by
  unfold c_X8_nextOrder_41 at hc
  unfold q_X8_nextOrder_41 at hp
  unfold s_X8_nextOrder_41 at k
  refine j_aload_n g (i := 0) (by decide +kernel) rfl ?_
  refine j_gA g (b := 614) f8_49 (by decide +kernel) (by decide +kernel) (by decide +kernel) (by decide +kernel) ?_
  refine j_iload_n g (i := 3) (by decide +kernel) rfl ?_
  obtain ⟨h0, hp⟩ := hp
  refine j_ia g 6 (by decide +kernel) (by decide +kernel) (by decide +kernel) h0 ?_
  refine j_aload_n g (i := 0) (by decide +kernel) rfl ?_
  refine j_gA g (b := 614) f8_49 (by decide +kernel) (by decide +kernel) (by decide +kernel) (by decide +kernel) ?_
  refine j_iload_n g (i := 2) (by decide +kernel) rfl ?_
  obtain ⟨h0, hp⟩ := hp
  refine j_ia g 6 (by decide +kernel) (by decide +kernel) (by decide +kernel) h0 ?_
  refine j_icmp_ge g (off := 9) (tgt := 62) (by decide +kernel) (by decide) (fun c53 => ?_) (fun c53 => ?_)
  · (try rw [if_pos (show (M.1 614 (Int32.toNatClampNeg x2)) ≤ (M.1 614 (Int32.toNatClampNeg σ)) from c53)] at hc); (rw [if_pos (show (M.1 614 (Int32.toNatClampNeg x2)) ≤ (M.1 614 (Int32.toNatClampNeg σ)) from c53)] at hp); (try simp only [if_pos (show (M.1 614 (Int32.toNatClampNeg x2)) ≤ (M.1 614 (Int32.toNatClampNeg σ)) from c53)] at k)
    exact hc.elim
  · (try rw [if_neg (show ¬ ((M.1 614 (Int32.toNatClampNeg x2)) ≤ (M.1 614 (Int32.toNatClampNeg σ))) from c53)] at hc); (rw [if_neg (show ¬ ((M.1 614 (Int32.toNatClampNeg x2)) ≤ (M.1 614 (Int32.toNatClampNeg σ))) from c53)] at hp); (try simp only [if_neg (show ¬ ((M.1 614 (Int32.toNatClampNeg x2)) ≤ (M.1 614 (Int32.toNatClampNeg σ))) from c53)] at k)
    refine j_iinc g (i := 3) (n := -1) (-1) (by decide +kernel) rfl (by decide) rfl ?_
    dsimp only [stL, clL, hdL]
    refine j_goto g (off := -18) (tgt := 41) (by decide +kernel) (by decide) ?_
    exact k 
theorem sh_X8_nextOrder_41 {d : Nat} {J : Nat → Lc → List Value → Mm → Prop} {M : Mm} {a1 : Int32} {x2 : Int32} {σ0 : Int32}  (g : Good mX8_nextOrder.1 mX8_nextOrder.2.2.1 mX8_nextOrder.2.2.2.1 (d + 1) J) : ∀ (N : Nat), (∀ k, k < N → c_X8_nextOrder_41 M a1 x2 (l_X8_nextOrder_41 M a1 x2 σ0 k)) → (∀ k, k < N → q_X8_nextOrder_41 M a1 x2 (l_X8_nextOrder_41 M a1 x2 σ0 k)) → (J 41 [some (.ref 600), some (.int a1), some (.int x2), some (.int (l_X8_nextOrder_41 M a1 x2 σ0 N)), none] [] M) → J 41 [some (.ref 600), some (.int a1), some (.int x2), some (.int σ0), none] [] M
  | 0, _, _, k => k
  | N + 1, hc, hp, k => sh_X8_nextOrder_41  g N (fun i hi => hc i (Nat.lt_succ_of_lt hi)) (fun i hi => hp i (Nat.lt_succ_of_lt hi)) (ps_X8_nextOrder_41  g (hc N (Nat.lt_succ_self N)) (hp N (Nat.lt_succ_self N)) k)
def c_X8_nextOrder_73 (a1 : Int32) (x3 : Int32) (σ : Mm × Int32 × Int32) : Prop := if σ.2.2 ≤ (σ.2.1 + 1) then False else True
theorem ci_X8_nextOrder_73 {a1 : Int32} {x3 : Int32} {σ : Mm × Int32 × Int32} : c_X8_nextOrder_73 a1 x3 σ ↔ (if σ.2.2 ≤ (σ.2.1 + 1) then False else True) := Iff.rfl
noncomputable def s_X8_nextOrder_73 (a1 : Int32) (x3 : Int32) (σ : Mm × Int32 × Int32) : Mm × Int32 × Int32 := if σ.2.2 ≤ (σ.2.1 + 1) then σ else ((w_X8_swaps σ.1 (σ.2.1 + 1) σ.2.2), σ.2.1 + 1, σ.2.2 + (-1))
def q_X8_nextOrder_73 (a1 : Int32) (x3 : Int32) (σ : Mm × Int32 × Int32) : Prop := (if σ.2.2 ≤ (σ.2.1 + 1) then True else (p_X8_swaps σ.1 (σ.2.1 + 1) σ.2.2) ∧ True)
noncomputable def l_X8_nextOrder_73 (a1 : Int32) (x3 : Int32) (σ0 : Mm × Int32 × Int32) : Nat → Mm × Int32 × Int32 := itN (fun _ σ => s_X8_nextOrder_73 a1 x3 σ) σ0
theorem ps_X8_nextOrder_73 {d : Nat} {J : Nat → Lc → List Value → Mm → Prop} {a1 : Int32} {x3 : Int32} {σ : Mm × Int32 × Int32}  (g : Good mX8_nextOrder.1 mX8_nextOrder.2.2.1 mX8_nextOrder.2.2.2.1 (d + 1) J) (hc : c_X8_nextOrder_73 a1 x3 σ) (hp : q_X8_nextOrder_73 a1 x3 σ) (k : J 73 [some (.ref 600), some (.int a1), some (.int ((s_X8_nextOrder_73 a1 x3 σ).2.1)), some (.int x3), some (.int ((s_X8_nextOrder_73 a1 x3 σ).2.2))] [] ((s_X8_nextOrder_73 a1 x3 σ).1)) : J 73 [some (.ref 600), some (.int a1), some (.int σ.2.1), some (.int x3), some (.int σ.2.2)] [] σ.1 := by
  unfold c_X8_nextOrder_73 at hc
  unfold q_X8_nextOrder_73 at hp
  unfold s_X8_nextOrder_73 at k
  refine j_iload g (i := 4) (by decide +kernel) rfl ?_
  refine j_iload_n g (i := 2) (by decide +kernel) rfl ?_
  refine j_iconst g (n := 1) (1) (by decide +kernel) rfl ?_
  refine j_iadd g (by decide +kernel) ?_
  refine j_icmp_le g (off := 19) (tgt := 97) (by decide +kernel) (by decide) (fun c78 => ?_) (fun c78 => ?_)
  · (try rw [if_pos (show σ.2.2 ≤ (σ.2.1 + 1) from c78)] at hc); (rw [if_pos (show σ.2.2 ≤ (σ.2.1 + 1) from c78)] at hp); (try simp only [if_pos (show σ.2.2 ≤ (σ.2.1 + 1) from c78)] at k)
    exact hc.elim
  · (try rw [if_neg (show ¬ (σ.2.2 ≤ (σ.2.1 + 1)) from c78)] at hc); (rw [if_neg (show ¬ (σ.2.2 ≤ (σ.2.1 + 1)) from c78)] at hp); (try simp only [if_neg (show ¬ (σ.2.2 ≤ (σ.2.1 + 1)) from c78)] at k)
    refine j_iinc g (i := 2) (n := 1) (1) (by decide +kernel) rfl (by decide) rfl ?_
    dsimp only [stL, clL, hdL]
    refine j_aload_n g (i := 0) (by decide +kernel) rfl ?_
    refine j_iload_n g (i := 2) (by decide +kernel) rfl ?_
    refine j_iload g (i := 4) (by decide +kernel) rfl ?_
    obtain ⟨h0, hp⟩ := hp
    refine j_cV2v g v8_319 ⟨rfl, by decide⟩ (by decide +kernel) (by decide +kernel) (Nat.le_of_ble_eq_true rfl) (rnX8_swaps h0) ?_
    refine j_iinc g (i := 4) (n := -1) (-1) (by decide +kernel) rfl (by decide) rfl ?_
    dsimp only [stL, clL, hdL]
    refine j_goto g (off := -21) (tgt := 73) (by decide +kernel) (by decide) ?_
    exact k 
theorem sh_X8_nextOrder_73 {d : Nat} {J : Nat → Lc → List Value → Mm → Prop} {a1 : Int32} {x3 : Int32} {σ0 : Mm × Int32 × Int32}  (g : Good mX8_nextOrder.1 mX8_nextOrder.2.2.1 mX8_nextOrder.2.2.2.1 (d + 1) J) : ∀ (N : Nat), (∀ k, k < N → c_X8_nextOrder_73 a1 x3 (l_X8_nextOrder_73 a1 x3 σ0 k)) → (∀ k, k < N → q_X8_nextOrder_73 a1 x3 (l_X8_nextOrder_73 a1 x3 σ0 k)) → (J 73 [some (.ref 600), some (.int a1), some (.int ((l_X8_nextOrder_73 a1 x3 σ0 N).2.1)), some (.int x3), some (.int ((l_X8_nextOrder_73 a1 x3 σ0 N).2.2))] [] ((l_X8_nextOrder_73 a1 x3 σ0 N).1)) → J 73 [some (.ref 600), some (.int a1), some (.int σ0.2.1), some (.int x3), some (.int σ0.2.2)] [] σ0.1
  | 0, _, _, k => k
  | N + 1, hc, hp, k => sh_X8_nextOrder_73  g N (fun i hi => hc i (Nat.lt_succ_of_lt hi)) (fun i hi => hp i (Nat.lt_succ_of_lt hi)) (ps_X8_nextOrder_73  g (hc N (Nat.lt_succ_self N)) (hp N (Nat.lt_succ_self N)) k)
noncomputable def r_X8_nextOrder_68 (M : Mm) (a1 : Int32) (x2 : Int32) (x3 : Int32) : Int32 := if ((l_X8_nextOrder_73 a1 x3 (M, x2, a1 - 1) (cntN (fun k => c_X8_nextOrder_73 a1 x3 (l_X8_nextOrder_73 a1 x3 (M, x2, a1 - 1) k)) 7)).2.2) ≤ (((l_X8_nextOrder_73 a1 x3 (M, x2, a1 - 1) (cntN (fun k => c_X8_nextOrder_73 a1 x3 (l_X8_nextOrder_73 a1 x3 (M, x2, a1 - 1) k)) 7)).2.1) + 1) then 1 else 0
noncomputable def w_X8_nextOrder_68 (M : Mm) (a1 : Int32) (x2 : Int32) (x3 : Int32) : Mm := if ((l_X8_nextOrder_73 a1 x3 (M, x2, a1 - 1) (cntN (fun k => c_X8_nextOrder_73 a1 x3 (l_X8_nextOrder_73 a1 x3 (M, x2, a1 - 1) k)) 7)).2.2) ≤ (((l_X8_nextOrder_73 a1 x3 (M, x2, a1 - 1) (cntN (fun k => c_X8_nextOrder_73 a1 x3 (l_X8_nextOrder_73 a1 x3 (M, x2, a1 - 1) k)) 7)).2.1) + 1) then (l_X8_nextOrder_73 a1 x3 (M, x2, a1 - 1) (cntN (fun k => c_X8_nextOrder_73 a1 x3 (l_X8_nextOrder_73 a1 x3 (M, x2, a1 - 1) k)) 7)).1 else M
def p_X8_nextOrder_68 (M : Mm) (a1 : Int32) (x2 : Int32) (x3 : Int32) : Prop := (∀ k, k < (cntN (fun k => c_X8_nextOrder_73 a1 x3 (l_X8_nextOrder_73 a1 x3 (M, x2, a1 - 1) k)) 7) → c_X8_nextOrder_73 a1 x3 (l_X8_nextOrder_73 a1 x3 (M, x2, a1 - 1) k)) ∧ (∀ k, k < (cntN (fun k => c_X8_nextOrder_73 a1 x3 (l_X8_nextOrder_73 a1 x3 (M, x2, a1 - 1) k)) 7) → q_X8_nextOrder_73 a1 x3 (l_X8_nextOrder_73 a1 x3 (M, x2, a1 - 1) k)) ∧ (¬ c_X8_nextOrder_73 a1 x3 (l_X8_nextOrder_73 a1 x3 (M, x2, a1 - 1) (cntN (fun k => c_X8_nextOrder_73 a1 x3 (l_X8_nextOrder_73 a1 x3 (M, x2, a1 - 1) k)) 7))) ∧ (if ((l_X8_nextOrder_73 a1 x3 (M, x2, a1 - 1) (cntN (fun k => c_X8_nextOrder_73 a1 x3 (l_X8_nextOrder_73 a1 x3 (M, x2, a1 - 1) k)) 7)).2.2) ≤ (((l_X8_nextOrder_73 a1 x3 (M, x2, a1 - 1) (cntN (fun k => c_X8_nextOrder_73 a1 x3 (l_X8_nextOrder_73 a1 x3 (M, x2, a1 - 1) k)) 7)).2.1) + 1) then True else True)
theorem jn_X8_nextOrder_68 {d : Nat} {J : Nat → Lc → List Value → Mm → Prop} {M : Mm} {a1 : Int32} {x2 : Int32} {x3 : Int32}  (g : Good mX8_nextOrder.1 mX8_nextOrder.2.2.1 mX8_nextOrder.2.2.2.1 (d + 1) J) {rv : Option Value} {M1 : Mm} (hr : Ret mX8_nextOrder.2.2.1 mX8_nextOrder.2.2.2.2 rv M1 J) (hp : p_X8_nextOrder_68 M a1 x2 x3) (hrv : rv = some (.int (r_X8_nextOrder_68 M a1 x2 x3))) (hmm : M1 = w_X8_nextOrder_68 M a1 x2 x3) : J 68 [some (.ref 600), some (.int a1), some (.int x2), some (.int x3), none] [] M := by
  unfold p_X8_nextOrder_68 at hp
  refine j_iload_n g (i := 1) (by decide +kernel) rfl ?_
  refine j_iconst g (n := 1) (1) (by decide +kernel) rfl ?_
  refine j_isub g (by decide +kernel) ?_
  refine j_istore g (i := 4) (by decide +kernel) (by decide) ?_
  dsimp only [stL, clL, hdL]
  obtain ⟨h0, hp⟩ := hp
  have hc_73_3 := h0
  obtain ⟨h0, hp⟩ := hp
  have hq_73_3 := h0
  obtain ⟨h0, hp⟩ := hp
  have hx_73_3 := h0
  refine sh_X8_nextOrder_73 (x3 := x3)  g (σ0 := (M, x2, a1 - 1)) (cntN (fun k => c_X8_nextOrder_73 a1 x3 (l_X8_nextOrder_73 a1 x3 (M, x2, a1 - 1) k)) 7) hc_73_3 hq_73_3 ?_ 
  refine j_iload g (i := 4) (by decide +kernel) rfl ?_
  refine j_iload_n g (i := 2) (by decide +kernel) rfl ?_
  refine j_iconst g (n := 1) (1) (by decide +kernel) rfl ?_
  refine j_iadd g (by decide +kernel) ?_
  refine j_icmp_le g (off := 19) (tgt := 97) (by decide +kernel) (by decide) (fun c78 => ?_) (fun c78 => ?_)
  · rw [if_pos (show ((l_X8_nextOrder_73 a1 x3 (M, x2, a1 - 1) (cntN (fun k => c_X8_nextOrder_73 a1 x3 (l_X8_nextOrder_73 a1 x3 (M, x2, a1 - 1) k)) 7)).2.2) ≤ (((l_X8_nextOrder_73 a1 x3 (M, x2, a1 - 1) (cntN (fun k => c_X8_nextOrder_73 a1 x3 (l_X8_nextOrder_73 a1 x3 (M, x2, a1 - 1) k)) 7)).2.1) + 1) from c78)] at hp
    refine j_iconst g (n := 1) (1) (by decide +kernel) rfl ?_
    refine hr.1 _ _ _ _ (by decide +kernel) ⟨_, rfl, by first | rfl | exact b2i_nar | decide +kernel⟩ ?_ ?_
    · rw [hrv]; unfold r_X8_nextOrder_68; first | (simp only [if_pos (show ((l_X8_nextOrder_73 a1 x3 (M, x2, a1 - 1) (cntN (fun k => c_X8_nextOrder_73 a1 x3 (l_X8_nextOrder_73 a1 x3 (M, x2, a1 - 1) k)) 7)).2.2) ≤ (((l_X8_nextOrder_73 a1 x3 (M, x2, a1 - 1) (cntN (fun k => c_X8_nextOrder_73 a1 x3 (l_X8_nextOrder_73 a1 x3 (M, x2, a1 - 1) k)) 7)).2.1) + 1) from c78)]; done) | (simp only [if_pos (show ((l_X8_nextOrder_73 a1 x3 (M, x2, a1 - 1) (cntN (fun k => c_X8_nextOrder_73 a1 x3 (l_X8_nextOrder_73 a1 x3 (M, x2, a1 - 1) k)) 7)).2.2) ≤ (((l_X8_nextOrder_73 a1 x3 (M, x2, a1 - 1) (cntN (fun k => c_X8_nextOrder_73 a1 x3 (l_X8_nextOrder_73 a1 x3 (M, x2, a1 - 1) k)) 7)).2.1) + 1) from c78)]; rfl) | rfl
    · rw [hmm]; unfold w_X8_nextOrder_68; first | (simp only [if_pos (show ((l_X8_nextOrder_73 a1 x3 (M, x2, a1 - 1) (cntN (fun k => c_X8_nextOrder_73 a1 x3 (l_X8_nextOrder_73 a1 x3 (M, x2, a1 - 1) k)) 7)).2.2) ≤ (((l_X8_nextOrder_73 a1 x3 (M, x2, a1 - 1) (cntN (fun k => c_X8_nextOrder_73 a1 x3 (l_X8_nextOrder_73 a1 x3 (M, x2, a1 - 1) k)) 7)).2.1) + 1) from c78)]; done) | (simp only [if_pos (show ((l_X8_nextOrder_73 a1 x3 (M, x2, a1 - 1) (cntN (fun k => c_X8_nextOrder_73 a1 x3 (l_X8_nextOrder_73 a1 x3 (M, x2, a1 - 1) k)) 7)).2.2) ≤ (((l_X8_nextOrder_73 a1 x3 (M, x2, a1 - 1) (cntN (fun k => c_X8_nextOrder_73 a1 x3 (l_X8_nextOrder_73 a1 x3 (M, x2, a1 - 1) k)) 7)).2.1) + 1) from c78)]; rfl) | rfl
  · rw [if_neg (show ¬ (((l_X8_nextOrder_73 a1 x3 (M, x2, a1 - 1) (cntN (fun k => c_X8_nextOrder_73 a1 x3 (l_X8_nextOrder_73 a1 x3 (M, x2, a1 - 1) k)) 7)).2.2) ≤ (((l_X8_nextOrder_73 a1 x3 (M, x2, a1 - 1) (cntN (fun k => c_X8_nextOrder_73 a1 x3 (l_X8_nextOrder_73 a1 x3 (M, x2, a1 - 1) k)) 7)).2.1) + 1)) from c78)] at hp
    refine absurd (ci_X8_nextOrder_73.mpr ?_) hx_73_3
    simp only [if_neg (show ¬ (((l_X8_nextOrder_73 a1 x3 (M, x2, a1 - 1) (cntN (fun k => c_X8_nextOrder_73 a1 x3 (l_X8_nextOrder_73 a1 x3 (M, x2, a1 - 1) k)) 7)).2.2) ≤ (((l_X8_nextOrder_73 a1 x3 (M, x2, a1 - 1) (cntN (fun k => c_X8_nextOrder_73 a1 x3 (l_X8_nextOrder_73 a1 x3 (M, x2, a1 - 1) k)) 7)).2.1) + 1)) from c78)]
noncomputable def r_X8_nextOrder_62 (M : Mm) (a1 : Int32) (x2 : Int32) (x3 : Int32) : Int32 := r_X8_nextOrder_68 (w_X8_swaps M x2 x3) a1 x2 x3
noncomputable def w_X8_nextOrder_62 (M : Mm) (a1 : Int32) (x2 : Int32) (x3 : Int32) : Mm := w_X8_nextOrder_68 (w_X8_swaps M x2 x3) a1 x2 x3
def p_X8_nextOrder_62 (M : Mm) (a1 : Int32) (x2 : Int32) (x3 : Int32) : Prop := (p_X8_swaps M x2 x3) ∧ p_X8_nextOrder_68 (w_X8_swaps M x2 x3) a1 x2 x3
theorem jn_X8_nextOrder_62 {d : Nat} {J : Nat → Lc → List Value → Mm → Prop} {M : Mm} {a1 : Int32} {x2 : Int32} {x3 : Int32}  (g : Good mX8_nextOrder.1 mX8_nextOrder.2.2.1 mX8_nextOrder.2.2.2.1 (d + 1) J) {rv : Option Value} {M1 : Mm} (hr : Ret mX8_nextOrder.2.2.1 mX8_nextOrder.2.2.2.2 rv M1 J) (hp : p_X8_nextOrder_62 M a1 x2 x3) (hrv : rv = some (.int (r_X8_nextOrder_62 M a1 x2 x3))) (hmm : M1 = w_X8_nextOrder_62 M a1 x2 x3) : J 62 [some (.ref 600), some (.int a1), some (.int x2), some (.int x3), none] [] M := by
  unfold p_X8_nextOrder_62 at hp
  refine j_aload_n g (i := 0) (by decide +kernel) rfl ?_
  refine j_iload_n g (i := 2) (by decide +kernel) rfl ?_
  refine j_iload_n g (i := 3) (by decide +kernel) rfl ?_
  obtain ⟨h0, hp⟩ := hp
  refine j_cV2v g v8_319 ⟨rfl, by decide⟩ (by decide +kernel) (by decide +kernel) (Nat.le_of_ble_eq_true rfl) (rnX8_swaps h0) ?_
  refine jn_X8_nextOrder_68  g hr hp ?_ ?_ 
  · rw [hrv]; unfold r_X8_nextOrder_62; rfl
  · rw [hmm]; unfold w_X8_nextOrder_62; rfl
noncomputable def r_X8_nextOrder_37 (M : Mm) (a1 : Int32) (x2 : Int32) : Int32 := if (M.1 614 (Int32.toNatClampNeg x2)) ≤ (M.1 614 (Int32.toNatClampNeg (l_X8_nextOrder_41 M a1 x2 (a1 - 1) (cntN (fun k => c_X8_nextOrder_41 M a1 x2 (l_X8_nextOrder_41 M a1 x2 (a1 - 1) k)) 7)))) then r_X8_nextOrder_62 M a1 x2 (l_X8_nextOrder_41 M a1 x2 (a1 - 1) (cntN (fun k => c_X8_nextOrder_41 M a1 x2 (l_X8_nextOrder_41 M a1 x2 (a1 - 1) k)) 7)) else 0
noncomputable def w_X8_nextOrder_37 (M : Mm) (a1 : Int32) (x2 : Int32) : Mm := if (M.1 614 (Int32.toNatClampNeg x2)) ≤ (M.1 614 (Int32.toNatClampNeg (l_X8_nextOrder_41 M a1 x2 (a1 - 1) (cntN (fun k => c_X8_nextOrder_41 M a1 x2 (l_X8_nextOrder_41 M a1 x2 (a1 - 1) k)) 7)))) then w_X8_nextOrder_62 M a1 x2 (l_X8_nextOrder_41 M a1 x2 (a1 - 1) (cntN (fun k => c_X8_nextOrder_41 M a1 x2 (l_X8_nextOrder_41 M a1 x2 (a1 - 1) k)) 7)) else M
def p_X8_nextOrder_37 (M : Mm) (a1 : Int32) (x2 : Int32) : Prop := (∀ k, k < (cntN (fun k => c_X8_nextOrder_41 M a1 x2 (l_X8_nextOrder_41 M a1 x2 (a1 - 1) k)) 7) → c_X8_nextOrder_41 M a1 x2 (l_X8_nextOrder_41 M a1 x2 (a1 - 1) k)) ∧ (∀ k, k < (cntN (fun k => c_X8_nextOrder_41 M a1 x2 (l_X8_nextOrder_41 M a1 x2 (a1 - 1) k)) 7) → q_X8_nextOrder_41 M a1 x2 (l_X8_nextOrder_41 M a1 x2 (a1 - 1) k)) ∧ (¬ c_X8_nextOrder_41 M a1 x2 (l_X8_nextOrder_41 M a1 x2 (a1 - 1) (cntN (fun k => c_X8_nextOrder_41 M a1 x2 (l_X8_nextOrder_41 M a1 x2 (a1 - 1) k)) 7))) ∧ (vp_in (l_X8_nextOrder_41 M a1 x2 (a1 - 1) (cntN (fun k => c_X8_nextOrder_41 M a1 x2 (l_X8_nextOrder_41 M a1 x2 (a1 - 1) k)) 7)) 6) ∧ (vp_in x2 6) ∧ (if (M.1 614 (Int32.toNatClampNeg x2)) ≤ (M.1 614 (Int32.toNatClampNeg (l_X8_nextOrder_41 M a1 x2 (a1 - 1) (cntN (fun k => c_X8_nextOrder_41 M a1 x2 (l_X8_nextOrder_41 M a1 x2 (a1 - 1) k)) 7)))) then p_X8_nextOrder_62 M a1 x2 (l_X8_nextOrder_41 M a1 x2 (a1 - 1) (cntN (fun k => c_X8_nextOrder_41 M a1 x2 (l_X8_nextOrder_41 M a1 x2 (a1 - 1) k)) 7)) else True)
theorem jn_X8_nextOrder_37 {d : Nat} {J : Nat → Lc → List Value → Mm → Prop} {M : Mm} {a1 : Int32} {x2 : Int32}  (g : Good mX8_nextOrder.1 mX8_nextOrder.2.2.1 mX8_nextOrder.2.2.2.1 (d + 1) J) {rv : Option Value} {M1 : Mm} (hr : Ret mX8_nextOrder.2.2.1 mX8_nextOrder.2.2.2.2 rv M1 J) (hp : p_X8_nextOrder_37 M a1 x2) (hrv : rv = some (.int (r_X8_nextOrder_37 M a1 x2))) (hmm : M1 = w_X8_nextOrder_37 M a1 x2) : J 37 [some (.ref 600), some (.int a1), some (.int x2), none, none] [] M := by
  unfold p_X8_nextOrder_37 at hp
  refine j_iload_n g (i := 1) (by decide +kernel) rfl ?_
  refine j_iconst g (n := 1) (1) (by decide +kernel) rfl ?_
  refine j_isub g (by decide +kernel) ?_
  refine j_istore_n g (i := 3) (by decide +kernel) (by decide) ?_
  dsimp only [stL, clL, hdL]
  obtain ⟨h0, hp⟩ := hp
  have hc_41_2 := h0
  obtain ⟨h0, hp⟩ := hp
  have hq_41_2 := h0
  obtain ⟨h0, hp⟩ := hp
  have hx_41_2 := h0
  refine sh_X8_nextOrder_41 (x2 := x2)  g (σ0 := (a1 - 1)) (cntN (fun k => c_X8_nextOrder_41 M a1 x2 (l_X8_nextOrder_41 M a1 x2 (a1 - 1) k)) 7) hc_41_2 hq_41_2 ?_ 
  refine j_aload_n g (i := 0) (by decide +kernel) rfl ?_
  refine j_gA g (b := 614) f8_49 (by decide +kernel) (by decide +kernel) (by decide +kernel) (by decide +kernel) ?_
  refine j_iload_n g (i := 3) (by decide +kernel) rfl ?_
  obtain ⟨h0, hp⟩ := hp
  refine j_ia g 6 (by decide +kernel) (by decide +kernel) (by decide +kernel) h0 ?_
  refine j_aload_n g (i := 0) (by decide +kernel) rfl ?_
  refine j_gA g (b := 614) f8_49 (by decide +kernel) (by decide +kernel) (by decide +kernel) (by decide +kernel) ?_
  refine j_iload_n g (i := 2) (by decide +kernel) rfl ?_
  obtain ⟨h0, hp⟩ := hp
  refine j_ia g 6 (by decide +kernel) (by decide +kernel) (by decide +kernel) h0 ?_
  refine j_icmp_ge g (off := 9) (tgt := 62) (by decide +kernel) (by decide) (fun c53 => ?_) (fun c53 => ?_)
  · rw [if_pos (show (M.1 614 (Int32.toNatClampNeg x2)) ≤ (M.1 614 (Int32.toNatClampNeg (l_X8_nextOrder_41 M a1 x2 (a1 - 1) (cntN (fun k => c_X8_nextOrder_41 M a1 x2 (l_X8_nextOrder_41 M a1 x2 (a1 - 1) k)) 7)))) from c53)] at hp
    refine jn_X8_nextOrder_62  g hr hp ?_ ?_ 
    · rw [hrv]; unfold r_X8_nextOrder_37; first | (simp only [if_pos (show (M.1 614 (Int32.toNatClampNeg x2)) ≤ (M.1 614 (Int32.toNatClampNeg (l_X8_nextOrder_41 M a1 x2 (a1 - 1) (cntN (fun k => c_X8_nextOrder_41 M a1 x2 (l_X8_nextOrder_41 M a1 x2 (a1 - 1) k)) 7)))) from c53)]; done) | (simp only [if_pos (show (M.1 614 (Int32.toNatClampNeg x2)) ≤ (M.1 614 (Int32.toNatClampNeg (l_X8_nextOrder_41 M a1 x2 (a1 - 1) (cntN (fun k => c_X8_nextOrder_41 M a1 x2 (l_X8_nextOrder_41 M a1 x2 (a1 - 1) k)) 7)))) from c53)]; rfl) | rfl
    · rw [hmm]; unfold w_X8_nextOrder_37; first | (simp only [if_pos (show (M.1 614 (Int32.toNatClampNeg x2)) ≤ (M.1 614 (Int32.toNatClampNeg (l_X8_nextOrder_41 M a1 x2 (a1 - 1) (cntN (fun k => c_X8_nextOrder_41 M a1 x2 (l_X8_nextOrder_41 M a1 x2 (a1 - 1) k)) 7)))) from c53)]; done) | (simp only [if_pos (show (M.1 614 (Int32.toNatClampNeg x2)) ≤ (M.1 614 (Int32.toNatClampNeg (l_X8_nextOrder_41 M a1 x2 (a1 - 1) (cntN (fun k => c_X8_nextOrder_41 M a1 x2 (l_X8_nextOrder_41 M a1 x2 (a1 - 1) k)) 7)))) from c53)]; rfl) | rfl
  · rw [if_neg (show ¬ ((M.1 614 (Int32.toNatClampNeg x2)) ≤ (M.1 614 (Int32.toNatClampNeg (l_X8_nextOrder_41 M a1 x2 (a1 - 1) (cntN (fun k => c_X8_nextOrder_41 M a1 x2 (l_X8_nextOrder_41 M a1 x2 (a1 - 1) k)) 7))))) from c53)] at hp
    refine absurd (ci_X8_nextOrder_41.mpr ?_) hx_41_2
    simp only [if_neg (show ¬ ((M.1 614 (Int32.toNatClampNeg x2)) ≤ (M.1 614 (Int32.toNatClampNeg (l_X8_nextOrder_41 M a1 x2 (a1 - 1) (cntN (fun k => c_X8_nextOrder_41 M a1 x2 (l_X8_nextOrder_41 M a1 x2 (a1 - 1) k)) 7))))) from c53)]
noncomputable def r_X8_nextOrder_31 (M : Mm) (a1 : Int32) (x2 : Int32) : Int32 := if 0 ≤ x2 then r_X8_nextOrder_37 M a1 x2 else 0
noncomputable def w_X8_nextOrder_31 (M : Mm) (a1 : Int32) (x2 : Int32) : Mm := if 0 ≤ x2 then w_X8_nextOrder_37 M a1 x2 else M
def p_X8_nextOrder_31 (M : Mm) (a1 : Int32) (x2 : Int32) : Prop := (if 0 ≤ x2 then p_X8_nextOrder_37 M a1 x2 else True)
theorem jn_X8_nextOrder_31 {d : Nat} {J : Nat → Lc → List Value → Mm → Prop} {M : Mm} {a1 : Int32} {x2 : Int32}  (g : Good mX8_nextOrder.1 mX8_nextOrder.2.2.1 mX8_nextOrder.2.2.2.1 (d + 1) J) {rv : Option Value} {M1 : Mm} (hr : Ret mX8_nextOrder.2.2.1 mX8_nextOrder.2.2.2.2 rv M1 J) (hp : p_X8_nextOrder_31 M a1 x2) (hrv : rv = some (.int (r_X8_nextOrder_31 M a1 x2))) (hmm : M1 = w_X8_nextOrder_31 M a1 x2) : J 31 [some (.ref 600), some (.int a1), some (.int x2), none, none] [] M := by
  unfold p_X8_nextOrder_31 at hp
  refine j_iload_n g (i := 2) (by decide +kernel) rfl ?_
  refine j_if_ge g (off := 5) (tgt := 37) (by decide +kernel) (by decide) (fun c32 => ?_) (fun c32 => ?_)
  · rw [if_pos (show 0 ≤ x2 from c32)] at hp
    refine jn_X8_nextOrder_37  g hr hp ?_ ?_ 
    · rw [hrv]; unfold r_X8_nextOrder_31; first | (simp only [if_pos (show 0 ≤ x2 from c32)]; done) | (simp only [if_pos (show 0 ≤ x2 from c32)]; rfl) | rfl
    · rw [hmm]; unfold w_X8_nextOrder_31; first | (simp only [if_pos (show 0 ≤ x2 from c32)]; done) | (simp only [if_pos (show 0 ≤ x2 from c32)]; rfl) | rfl
  · rw [if_neg (show ¬ (0 ≤ x2) from c32)] at hp
    refine j_iconst g (n := 0) (0) (by decide +kernel) rfl ?_
    refine hr.1 _ _ _ _ (by decide +kernel) ⟨_, rfl, by first | rfl | exact b2i_nar | decide +kernel⟩ ?_ ?_
    · rw [hrv]; unfold r_X8_nextOrder_31; first | (simp only [if_neg (show ¬ (0 ≤ x2) from c32)]; done) | (simp only [if_neg (show ¬ (0 ≤ x2) from c32)]; rfl) | rfl
    · rw [hmm]; unfold w_X8_nextOrder_31; first | (simp only [if_neg (show ¬ (0 ≤ x2) from c32)]; done) | (simp only [if_neg (show ¬ (0 ≤ x2) from c32)]; rfl) | rfl
noncomputable def r_X8_nextOrder (M : Mm) (a1 : Int32) : Int32 := if (l_X8_nextOrder_4 M a1 (a1 - 2) (cntN (fun k => c_X8_nextOrder_4 M a1 (l_X8_nextOrder_4 M a1 (a1 - 2) k)) 7)) < 0 then r_X8_nextOrder_31 M a1 (l_X8_nextOrder_4 M a1 (a1 - 2) (cntN (fun k => c_X8_nextOrder_4 M a1 (l_X8_nextOrder_4 M a1 (a1 - 2) k)) 7)) else if (M.1 614 (Int32.toNatClampNeg (l_X8_nextOrder_4 M a1 (a1 - 2) (cntN (fun k => c_X8_nextOrder_4 M a1 (l_X8_nextOrder_4 M a1 (a1 - 2) k)) 7)))) ≤ (M.1 614 (Int32.toNatClampNeg ((l_X8_nextOrder_4 M a1 (a1 - 2) (cntN (fun k => c_X8_nextOrder_4 M a1 (l_X8_nextOrder_4 M a1 (a1 - 2) k)) 7)) + 1))) then r_X8_nextOrder_31 M a1 (l_X8_nextOrder_4 M a1 (a1 - 2) (cntN (fun k => c_X8_nextOrder_4 M a1 (l_X8_nextOrder_4 M a1 (a1 - 2) k)) 7)) else 0
noncomputable def w_X8_nextOrder (M : Mm) (a1 : Int32) : Mm := if (l_X8_nextOrder_4 M a1 (a1 - 2) (cntN (fun k => c_X8_nextOrder_4 M a1 (l_X8_nextOrder_4 M a1 (a1 - 2) k)) 7)) < 0 then w_X8_nextOrder_31 M a1 (l_X8_nextOrder_4 M a1 (a1 - 2) (cntN (fun k => c_X8_nextOrder_4 M a1 (l_X8_nextOrder_4 M a1 (a1 - 2) k)) 7)) else if (M.1 614 (Int32.toNatClampNeg (l_X8_nextOrder_4 M a1 (a1 - 2) (cntN (fun k => c_X8_nextOrder_4 M a1 (l_X8_nextOrder_4 M a1 (a1 - 2) k)) 7)))) ≤ (M.1 614 (Int32.toNatClampNeg ((l_X8_nextOrder_4 M a1 (a1 - 2) (cntN (fun k => c_X8_nextOrder_4 M a1 (l_X8_nextOrder_4 M a1 (a1 - 2) k)) 7)) + 1))) then w_X8_nextOrder_31 M a1 (l_X8_nextOrder_4 M a1 (a1 - 2) (cntN (fun k => c_X8_nextOrder_4 M a1 (l_X8_nextOrder_4 M a1 (a1 - 2) k)) 7)) else M
def p_X8_nextOrder (M : Mm) (a1 : Int32) : Prop := (∀ k, k < (cntN (fun k => c_X8_nextOrder_4 M a1 (l_X8_nextOrder_4 M a1 (a1 - 2) k)) 7) → c_X8_nextOrder_4 M a1 (l_X8_nextOrder_4 M a1 (a1 - 2) k)) ∧ (∀ k, k < (cntN (fun k => c_X8_nextOrder_4 M a1 (l_X8_nextOrder_4 M a1 (a1 - 2) k)) 7) → q_X8_nextOrder_4 M a1 (l_X8_nextOrder_4 M a1 (a1 - 2) k)) ∧ (¬ c_X8_nextOrder_4 M a1 (l_X8_nextOrder_4 M a1 (a1 - 2) (cntN (fun k => c_X8_nextOrder_4 M a1 (l_X8_nextOrder_4 M a1 (a1 - 2) k)) 7))) ∧ (if (l_X8_nextOrder_4 M a1 (a1 - 2) (cntN (fun k => c_X8_nextOrder_4 M a1 (l_X8_nextOrder_4 M a1 (a1 - 2) k)) 7)) < 0 then p_X8_nextOrder_31 M a1 (l_X8_nextOrder_4 M a1 (a1 - 2) (cntN (fun k => c_X8_nextOrder_4 M a1 (l_X8_nextOrder_4 M a1 (a1 - 2) k)) 7)) else (vp_in (l_X8_nextOrder_4 M a1 (a1 - 2) (cntN (fun k => c_X8_nextOrder_4 M a1 (l_X8_nextOrder_4 M a1 (a1 - 2) k)) 7)) 6) ∧ (vp_in ((l_X8_nextOrder_4 M a1 (a1 - 2) (cntN (fun k => c_X8_nextOrder_4 M a1 (l_X8_nextOrder_4 M a1 (a1 - 2) k)) 7)) + 1) 6) ∧ (if (M.1 614 (Int32.toNatClampNeg (l_X8_nextOrder_4 M a1 (a1 - 2) (cntN (fun k => c_X8_nextOrder_4 M a1 (l_X8_nextOrder_4 M a1 (a1 - 2) k)) 7)))) ≤ (M.1 614 (Int32.toNatClampNeg ((l_X8_nextOrder_4 M a1 (a1 - 2) (cntN (fun k => c_X8_nextOrder_4 M a1 (l_X8_nextOrder_4 M a1 (a1 - 2) k)) 7)) + 1))) then p_X8_nextOrder_31 M a1 (l_X8_nextOrder_4 M a1 (a1 - 2) (cntN (fun k => c_X8_nextOrder_4 M a1 (l_X8_nextOrder_4 M a1 (a1 - 2) k)) 7)) else True))
set_option maxRecDepth 20000 in
theorem rnX8_nextOrder {d : Nat} {M : Mm} {a1 : Int32}  (hp : p_X8_nextOrder M a1) : Rn (d + 1) mX8_nextOrder [.ref 600, .int a1] M (some (.int (r_X8_nextOrder M a1))) (w_X8_nextOrder M a1) := by
  refine Rn.of [some (.ref 600), some (.int a1), none, none, none] (by decide +kernel) rfl (Nat.le_of_ble_eq_true rfl) rfl (fun J g hr => ?_)
  unfold p_X8_nextOrder at hp
  refine j_iload_n g (i := 1) (by decide +kernel) rfl ?_
  refine j_iconst g (n := 2) (2) (by decide +kernel) rfl ?_
  refine j_isub g (by decide +kernel) ?_
  refine j_istore_n g (i := 2) (by decide +kernel) (by decide) ?_
  dsimp only [stL, clL, hdL]
  obtain ⟨h0, hp⟩ := hp
  have hc_4_1 := h0
  obtain ⟨h0, hp⟩ := hp
  have hq_4_1 := h0
  obtain ⟨h0, hp⟩ := hp
  have hx_4_1 := h0
  refine sh_X8_nextOrder_4   g (σ0 := (a1 - 2)) (cntN (fun k => c_X8_nextOrder_4 M a1 (l_X8_nextOrder_4 M a1 (a1 - 2) k)) 7) hc_4_1 hq_4_1 ?_ 
  refine j_iload_n g (i := 2) (by decide +kernel) rfl ?_
  refine j_if_lt g (off := 26) (tgt := 31) (by decide +kernel) (by decide) (fun c5 => ?_) (fun c5 => ?_)
  · rw [if_pos (show (l_X8_nextOrder_4 M a1 (a1 - 2) (cntN (fun k => c_X8_nextOrder_4 M a1 (l_X8_nextOrder_4 M a1 (a1 - 2) k)) 7)) < 0 from c5)] at hp
    refine jn_X8_nextOrder_31  g hr hp ?_ ?_ 
    · unfold r_X8_nextOrder; first | (simp only [if_pos (show (l_X8_nextOrder_4 M a1 (a1 - 2) (cntN (fun k => c_X8_nextOrder_4 M a1 (l_X8_nextOrder_4 M a1 (a1 - 2) k)) 7)) < 0 from c5)]; done) | (simp only [if_pos (show (l_X8_nextOrder_4 M a1 (a1 - 2) (cntN (fun k => c_X8_nextOrder_4 M a1 (l_X8_nextOrder_4 M a1 (a1 - 2) k)) 7)) < 0 from c5)]; rfl) | rfl
    · unfold w_X8_nextOrder; first | (simp only [if_pos (show (l_X8_nextOrder_4 M a1 (a1 - 2) (cntN (fun k => c_X8_nextOrder_4 M a1 (l_X8_nextOrder_4 M a1 (a1 - 2) k)) 7)) < 0 from c5)]; done) | (simp only [if_pos (show (l_X8_nextOrder_4 M a1 (a1 - 2) (cntN (fun k => c_X8_nextOrder_4 M a1 (l_X8_nextOrder_4 M a1 (a1 - 2) k)) 7)) < 0 from c5)]; rfl) | rfl
  · rw [if_neg (show ¬ ((l_X8_nextOrder_4 M a1 (a1 - 2) (cntN (fun k => c_X8_nextOrder_4 M a1 (l_X8_nextOrder_4 M a1 (a1 - 2) k)) 7)) < 0) from c5)] at hp
    refine j_aload_n g (i := 0) (by decide +kernel) rfl ?_
    refine j_gA g (b := 614) f8_49 (by decide +kernel) (by decide +kernel) (by decide +kernel) (by decide +kernel) ?_
    refine j_iload_n g (i := 2) (by decide +kernel) rfl ?_
    obtain ⟨h0, hp⟩ := hp
    refine j_ia g 6 (by decide +kernel) (by decide +kernel) (by decide +kernel) h0 ?_
    refine j_aload_n g (i := 0) (by decide +kernel) rfl ?_
    refine j_gA g (b := 614) f8_49 (by decide +kernel) (by decide +kernel) (by decide +kernel) (by decide +kernel) ?_
    refine j_iload_n g (i := 2) (by decide +kernel) rfl ?_
    refine j_iconst g (n := 1) (1) (by decide +kernel) rfl ?_
    refine j_iadd g (by decide +kernel) ?_
    obtain ⟨h0, hp⟩ := hp
    refine j_ia g 6 (by decide +kernel) (by decide +kernel) (by decide +kernel) h0 ?_
    refine j_icmp_le g (off := 9) (tgt := 31) (by decide +kernel) (by decide) (fun c22 => ?_) (fun c22 => ?_)
    · rw [if_pos (show (M.1 614 (Int32.toNatClampNeg (l_X8_nextOrder_4 M a1 (a1 - 2) (cntN (fun k => c_X8_nextOrder_4 M a1 (l_X8_nextOrder_4 M a1 (a1 - 2) k)) 7)))) ≤ (M.1 614 (Int32.toNatClampNeg ((l_X8_nextOrder_4 M a1 (a1 - 2) (cntN (fun k => c_X8_nextOrder_4 M a1 (l_X8_nextOrder_4 M a1 (a1 - 2) k)) 7)) + 1))) from c22)] at hp
      refine jn_X8_nextOrder_31  g hr hp ?_ ?_ 
      · unfold r_X8_nextOrder; first | (simp only [if_neg (show ¬ ((l_X8_nextOrder_4 M a1 (a1 - 2) (cntN (fun k => c_X8_nextOrder_4 M a1 (l_X8_nextOrder_4 M a1 (a1 - 2) k)) 7)) < 0) from c5), if_pos (show (M.1 614 (Int32.toNatClampNeg (l_X8_nextOrder_4 M a1 (a1 - 2) (cntN (fun k => c_X8_nextOrder_4 M a1 (l_X8_nextOrder_4 M a1 (a1 - 2) k)) 7)))) ≤ (M.1 614 (Int32.toNatClampNeg ((l_X8_nextOrder_4 M a1 (a1 - 2) (cntN (fun k => c_X8_nextOrder_4 M a1 (l_X8_nextOrder_4 M a1 (a1 - 2) k)) 7)) + 1))) from c22)]; done) | (simp only [if_neg (show ¬ ((l_X8_nextOrder_4 M a1 (a1 - 2) (cntN (fun k => c_X8_nextOrder_4 M a1 (l_X8_nextOrder_4 M a1 (a1 - 2) k)) 7)) < 0) from c5), if_pos (show (M.1 614 (Int32.toNatClampNeg (l_X8_nextOrder_4 M a1 (a1 - 2) (cntN (fun k => c_X8_nextOrder_4 M a1 (l_X8_nextOrder_4 M a1 (a1 - 2) k)) 7)))) ≤ (M.1 614 (Int32.toNatClampNeg ((l_X8_nextOrder_4 M a1 (a1 - 2) (cntN (fun k => c_X8_nextOrder_4 M a1 (l_X8_nextOrder_4 M a1 (a1 - 2) k)) 7)) + 1))) from c22)]; rfl) | rfl
      · unfold w_X8_nextOrder; first | (simp only [if_neg (show ¬ ((l_X8_nextOrder_4 M a1 (a1 - 2) (cntN (fun k => c_X8_nextOrder_4 M a1 (l_X8_nextOrder_4 M a1 (a1 - 2) k)) 7)) < 0) from c5), if_pos (show (M.1 614 (Int32.toNatClampNeg (l_X8_nextOrder_4 M a1 (a1 - 2) (cntN (fun k => c_X8_nextOrder_4 M a1 (l_X8_nextOrder_4 M a1 (a1 - 2) k)) 7)))) ≤ (M.1 614 (Int32.toNatClampNeg ((l_X8_nextOrder_4 M a1 (a1 - 2) (cntN (fun k => c_X8_nextOrder_4 M a1 (l_X8_nextOrder_4 M a1 (a1 - 2) k)) 7)) + 1))) from c22)]; done) | (simp only [if_neg (show ¬ ((l_X8_nextOrder_4 M a1 (a1 - 2) (cntN (fun k => c_X8_nextOrder_4 M a1 (l_X8_nextOrder_4 M a1 (a1 - 2) k)) 7)) < 0) from c5), if_pos (show (M.1 614 (Int32.toNatClampNeg (l_X8_nextOrder_4 M a1 (a1 - 2) (cntN (fun k => c_X8_nextOrder_4 M a1 (l_X8_nextOrder_4 M a1 (a1 - 2) k)) 7)))) ≤ (M.1 614 (Int32.toNatClampNeg ((l_X8_nextOrder_4 M a1 (a1 - 2) (cntN (fun k => c_X8_nextOrder_4 M a1 (l_X8_nextOrder_4 M a1 (a1 - 2) k)) 7)) + 1))) from c22)]; rfl) | rfl
    · rw [if_neg (show ¬ ((M.1 614 (Int32.toNatClampNeg (l_X8_nextOrder_4 M a1 (a1 - 2) (cntN (fun k => c_X8_nextOrder_4 M a1 (l_X8_nextOrder_4 M a1 (a1 - 2) k)) 7)))) ≤ (M.1 614 (Int32.toNatClampNeg ((l_X8_nextOrder_4 M a1 (a1 - 2) (cntN (fun k => c_X8_nextOrder_4 M a1 (l_X8_nextOrder_4 M a1 (a1 - 2) k)) 7)) + 1)))) from c22)] at hp
      refine absurd (ci_X8_nextOrder_4.mpr ?_) hx_4_1
      simp only [if_neg (show ¬ ((l_X8_nextOrder_4 M a1 (a1 - 2) (cntN (fun k => c_X8_nextOrder_4 M a1 (l_X8_nextOrder_4 M a1 (a1 - 2) k)) 7)) < 0) from c5), if_neg (show ¬ ((M.1 614 (Int32.toNatClampNeg (l_X8_nextOrder_4 M a1 (a1 - 2) (cntN (fun k => c_X8_nextOrder_4 M a1 (l_X8_nextOrder_4 M a1 (a1 - 2) k)) 7)))) ≤ (M.1 614 (Int32.toNatClampNeg ((l_X8_nextOrder_4 M a1 (a1 - 2) (cntN (fun k => c_X8_nextOrder_4 M a1 (l_X8_nextOrder_4 M a1 (a1 - 2) k)) 7)) + 1)))) from c22)]
def c_X8_orderOf_21 (a1 : Int32) (x2 : Int32) (σ : Mm × Int32) : Prop := if x2 ≤ σ.2 then False else True
theorem ci_X8_orderOf_21 {a1 : Int32} {x2 : Int32} {σ : Mm × Int32} : c_X8_orderOf_21 a1 x2 σ ↔ (if x2 ≤ σ.2 then False else True) := Iff.rfl
noncomputable def s_X8_orderOf_21 (a1 : Int32) (x2 : Int32) (σ : Mm × Int32) : Mm × Int32 := if x2 ≤ σ.2 then σ else ((w_X8_turns (wi (w_X8_takesOf σ.1 a1 (r_X8_maySet σ.1)) 614 (Int32.toNatClampNeg σ.2) (r_X8_takesOf σ.1 a1 (r_X8_maySet σ.1))) ((wi (w_X8_takesOf σ.1 a1 (r_X8_maySet σ.1)) 614 (Int32.toNatClampNeg σ.2) (r_X8_takesOf σ.1 a1 (r_X8_maySet σ.1))).1 614 (Int32.toNatClampNeg σ.2))), σ.2 + 1)
def q_X8_orderOf_21 (a1 : Int32) (x2 : Int32) (σ : Mm × Int32) : Prop := (if x2 ≤ σ.2 then True else (p_X8_maySet σ.1 ) ∧ (p_X8_takesOf σ.1 a1 (r_X8_maySet σ.1)) ∧ (vp_in σ.2 6) ∧ (vp_in σ.2 6) ∧ (p_X8_turns (wi (w_X8_takesOf σ.1 a1 (r_X8_maySet σ.1)) 614 (Int32.toNatClampNeg σ.2) (r_X8_takesOf σ.1 a1 (r_X8_maySet σ.1))) ((wi (w_X8_takesOf σ.1 a1 (r_X8_maySet σ.1)) 614 (Int32.toNatClampNeg σ.2) (r_X8_takesOf σ.1 a1 (r_X8_maySet σ.1))).1 614 (Int32.toNatClampNeg σ.2))) ∧ True)
noncomputable def l_X8_orderOf_21 (a1 : Int32) (x2 : Int32) (σ0 : Mm × Int32) : Nat → Mm × Int32 := itN (fun _ σ => s_X8_orderOf_21 a1 x2 σ) σ0
theorem ps_X8_orderOf_21 {d : Nat} {J : Nat → Lc → List Value → Mm → Prop} {a1 : Int32} {x2 : Int32} {σ : Mm × Int32}  (g : Good mX8_orderOf.1 mX8_orderOf.2.2.1 mX8_orderOf.2.2.2.1 (d + 7) J) (hc : c_X8_orderOf_21 a1 x2 σ) (hp : q_X8_orderOf_21 a1 x2 σ) (k : J 21 [some (.ref 600), some (.int a1), some (.int x2), some (.int ((s_X8_orderOf_21 a1 x2 σ).2))] [] ((s_X8_orderOf_21 a1 x2 σ).1)) : J 21 [some (.ref 600), some (.int a1), some (.int x2), some (.int σ.2)] [] σ.1 := by
  unfold c_X8_orderOf_21 at hc
  unfold q_X8_orderOf_21 at hp
  unfold s_X8_orderOf_21 at k
  refine j_iload_n g (i := 3) (by decide +kernel) rfl ?_
  refine j_iload_n g (i := 2) (by decide +kernel) rfl ?_
  refine j_icmp_ge g (off := 35) (tgt := 58) (by decide +kernel) (by decide) (fun c23 => ?_) (fun c23 => ?_)
  · (try rw [if_pos (show x2 ≤ σ.2 from c23)] at hc); (rw [if_pos (show x2 ≤ σ.2 from c23)] at hp); (try simp only [if_pos (show x2 ≤ σ.2 from c23)] at k)
    exact hc.elim
  · (try rw [if_neg (show ¬ (x2 ≤ σ.2) from c23)] at hc); (rw [if_neg (show ¬ (x2 ≤ σ.2) from c23)] at hp); (try simp only [if_neg (show ¬ (x2 ≤ σ.2) from c23)] at k)
    refine j_aload_n g (i := 0) (by decide +kernel) rfl ?_
    refine j_gA g (b := 614) f8_49 (by decide +kernel) (by decide +kernel) (by decide +kernel) (by decide +kernel) ?_
    refine j_iload_n g (i := 3) (by decide +kernel) rfl ?_
    refine j_aload_n g (i := 0) (by decide +kernel) rfl ?_
    refine j_iload_n g (i := 1) (by decide +kernel) rfl ?_
    refine j_aload_n g (i := 0) (by decide +kernel) rfl ?_
    obtain ⟨h0, hp⟩ := hp
    refine j_cV0r g v8_298 ⟨rfl, by decide⟩ (by decide +kernel) (by decide +kernel) (Nat.le_of_ble_eq_true rfl) (rnX8_maySet h0) ?_
    obtain ⟨h0, hp⟩ := hp
    refine j_cV2r g v8_392 ⟨rfl, by decide⟩ (by decide +kernel) (by decide +kernel) (Nat.le_of_ble_eq_true rfl) (rnX8_takesOf h0) ?_
    obtain ⟨h0, hp⟩ := hp
    refine j_is g 6 (by decide +kernel) (by decide +kernel) (by decide +kernel) h0 ?_
    refine j_aload_n g (i := 0) (by decide +kernel) rfl ?_
    refine j_aload_n g (i := 0) (by decide +kernel) rfl ?_
    refine j_gA g (b := 614) f8_49 (by decide +kernel) (by decide +kernel) (by decide +kernel) (by decide +kernel) ?_
    refine j_iload_n g (i := 3) (by decide +kernel) rfl ?_
    obtain ⟨h0, hp⟩ := hp
    refine j_ia g 6 (by decide +kernel) (by decide +kernel) (by decide +kernel) h0 ?_
    obtain ⟨h0, hp⟩ := hp
    refine j_cV1r g v8_301 ⟨rfl, by decide⟩ (by decide +kernel) (by decide +kernel) (Nat.le_of_ble_eq_true rfl) (rnX8_turns h0) ?_
    refine j_pop g (by decide +kernel) rfl ?_
    refine j_iinc g (i := 3) (n := 1) (1) (by decide +kernel) rfl (by decide) rfl ?_
    dsimp only [stL, clL, hdL]
    refine j_goto g (off := -34) (tgt := 21) (by decide +kernel) (by decide) ?_
    exact k 
theorem sh_X8_orderOf_21 {d : Nat} {J : Nat → Lc → List Value → Mm → Prop} {a1 : Int32} {x2 : Int32} {σ0 : Mm × Int32}  (g : Good mX8_orderOf.1 mX8_orderOf.2.2.1 mX8_orderOf.2.2.2.1 (d + 7) J) : ∀ (N : Nat), (∀ k, k < N → c_X8_orderOf_21 a1 x2 (l_X8_orderOf_21 a1 x2 σ0 k)) → (∀ k, k < N → q_X8_orderOf_21 a1 x2 (l_X8_orderOf_21 a1 x2 σ0 k)) → (J 21 [some (.ref 600), some (.int a1), some (.int x2), some (.int ((l_X8_orderOf_21 a1 x2 σ0 N).2))] [] ((l_X8_orderOf_21 a1 x2 σ0 N).1)) → J 21 [some (.ref 600), some (.int a1), some (.int x2), some (.int σ0.2)] [] σ0.1
  | 0, _, _, k => k
  | N + 1, hc, hp, k => sh_X8_orderOf_21  g N (fun i hi => hc i (Nat.lt_succ_of_lt hi)) (fun i hi => hp i (Nat.lt_succ_of_lt hi)) (ps_X8_orderOf_21  g (hc N (Nat.lt_succ_self N)) (hp N (Nat.lt_succ_self N)) k)
noncomputable def r_X8_orderOf (M : Mm) (a1 : Int32) : Int32 := if ¬ (b2i (0 ≤ a1 ∧ a1 ≤ M.1 600 12 - 1)) = 0 then (if (r_X8_openMany M) ≤ ((l_X8_orderOf_21 a1 (r_X8_openMany M) ((w_X8_lends M), 0) (Int32.toNatClampNeg ((r_X8_openMany M)))).2) then r_X8_digitsOf_614 (wi (l_X8_orderOf_21 a1 (r_X8_openMany M) ((w_X8_lends M), 0) (Int32.toNatClampNeg ((r_X8_openMany M)))).1 600 10 0) (r_X8_openMany M) else 0) else (-1)
noncomputable def w_X8_orderOf (M : Mm) (a1 : Int32) : Mm := if ¬ (b2i (0 ≤ a1 ∧ a1 ≤ M.1 600 12 - 1)) = 0 then (if (r_X8_openMany M) ≤ ((l_X8_orderOf_21 a1 (r_X8_openMany M) ((w_X8_lends M), 0) (Int32.toNatClampNeg ((r_X8_openMany M)))).2) then (wi (l_X8_orderOf_21 a1 (r_X8_openMany M) ((w_X8_lends M), 0) (Int32.toNatClampNeg ((r_X8_openMany M)))).1 600 10 0) else M) else M
def p_X8_orderOf (M : Mm) (a1 : Int32) : Prop := (if ¬ (b2i (0 ≤ a1 ∧ a1 ≤ M.1 600 12 - 1)) = 0 then (p_X8_openMany M ) ∧ (p_X8_lends M ) ∧ (∀ k, k < (Int32.toNatClampNeg ((r_X8_openMany M))) → c_X8_orderOf_21 a1 (r_X8_openMany M) (l_X8_orderOf_21 a1 (r_X8_openMany M) ((w_X8_lends M), 0) k)) ∧ (∀ k, k < (Int32.toNatClampNeg ((r_X8_openMany M))) → q_X8_orderOf_21 a1 (r_X8_openMany M) (l_X8_orderOf_21 a1 (r_X8_openMany M) ((w_X8_lends M), 0) k)) ∧ (¬ c_X8_orderOf_21 a1 (r_X8_openMany M) (l_X8_orderOf_21 a1 (r_X8_openMany M) ((w_X8_lends M), 0) (Int32.toNatClampNeg ((r_X8_openMany M))))) ∧ (if (r_X8_openMany M) ≤ ((l_X8_orderOf_21 a1 (r_X8_openMany M) ((w_X8_lends M), 0) (Int32.toNatClampNeg ((r_X8_openMany M)))).2) then (p_X8_digitsOf_614 (wi (l_X8_orderOf_21 a1 (r_X8_openMany M) ((w_X8_lends M), 0) (Int32.toNatClampNeg ((r_X8_openMany M)))).1 600 10 0) (r_X8_openMany M)) ∧ True else True) else True)
set_option maxRecDepth 20000 in
theorem rnX8_orderOf {d : Nat} {M : Mm} {a1 : Int32}  (hp : p_X8_orderOf M a1) : Rn (d + 7) mX8_orderOf [.ref 600, .int a1] M (some (.int (r_X8_orderOf M a1))) (w_X8_orderOf M a1) := by
  refine Rn.of [some (.ref 600), some (.int a1), none, none] (by decide +kernel) rfl (Nat.le_of_ble_eq_true rfl) rfl (fun J g hr => ?_)
  unfold p_X8_orderOf at hp
  refine j_aload_n g (i := 0) (by decide +kernel) rfl ?_
  refine j_iload_n g (i := 1) (by decide +kernel) rfl ?_
  refine j_cV1r g v8_371 ⟨rfl, by decide⟩ (by decide +kernel) (by decide +kernel) (Nat.le_of_ble_eq_true rfl) (rnX8_isRule) ?_
  refine j_if_ne g (off := 5) (tgt := 10) (by decide +kernel) (by decide) (fun c5 => ?_) (fun c5 => ?_)
  · rw [if_pos (show ¬ (b2i (0 ≤ a1 ∧ a1 ≤ M.1 600 12 - 1)) = 0 from c5)] at hp
    refine j_aload_n g (i := 0) (by decide +kernel) rfl ?_
    obtain ⟨h0, hp⟩ := hp
    refine j_cV0r g v8_304 ⟨rfl, by decide⟩ (by decide +kernel) (by decide +kernel) (Nat.le_of_ble_eq_true rfl) (rnX8_openMany h0) ?_
    refine j_istore_n g (i := 2) (by decide +kernel) (by decide) ?_
    dsimp only [stL, clL, hdL]
    refine j_aload_n g (i := 0) (by decide +kernel) rfl ?_
    obtain ⟨h0, hp⟩ := hp
    refine j_cV0v g v8_310 ⟨rfl, by decide⟩ (by decide +kernel) (by decide +kernel) (Nat.le_of_ble_eq_true rfl) (rnX8_lends h0) ?_
    refine j_iconst g (n := 0) (0) (by decide +kernel) rfl ?_
    refine j_istore_n g (i := 3) (by decide +kernel) (by decide) ?_
    dsimp only [stL, clL, hdL]
    obtain ⟨h0, hp⟩ := hp
    have hc_21_1 := h0
    obtain ⟨h0, hp⟩ := hp
    have hq_21_1 := h0
    obtain ⟨h0, hp⟩ := hp
    have hx_21_1 := h0
    refine sh_X8_orderOf_21 (x2 := (r_X8_openMany M))  g (σ0 := ((w_X8_lends M), 0)) (Int32.toNatClampNeg ((r_X8_openMany M))) hc_21_1 hq_21_1 ?_ 
    refine j_iload_n g (i := 3) (by decide +kernel) rfl ?_
    refine j_iload_n g (i := 2) (by decide +kernel) rfl ?_
    refine j_icmp_ge g (off := 35) (tgt := 58) (by decide +kernel) (by decide) (fun c23 => ?_) (fun c23 => ?_)
    · rw [if_pos (show (r_X8_openMany M) ≤ ((l_X8_orderOf_21 a1 (r_X8_openMany M) ((w_X8_lends M), 0) (Int32.toNatClampNeg ((r_X8_openMany M)))).2) from c23)] at hp
      refine j_aload_n g (i := 0) (by decide +kernel) rfl ?_
      refine j_iconst g (n := 0) (0) (by decide +kernel) rfl ?_
      refine j_pI g f8_240 (fun q h => by cases h; rfl) (by decide +kernel) (by decide +kernel) (by decide +kernel) ?_
      refine j_aload_n g (i := 0) (by decide +kernel) rfl ?_
      refine j_gA g (b := 614) f8_49 (by decide +kernel) (by decide +kernel) (by decide +kernel) (by decide +kernel) ?_
      refine j_iload_n g (i := 2) (by decide +kernel) rfl ?_
      obtain ⟨h0, hp⟩ := hp
      refine j_cS2r g s8_350 (by decide +kernel) (Nat.le_of_ble_eq_true rfl) (rnX8_digitsOf_614 h0) ?_
      refine hr.1 _ _ _ _ (by decide +kernel) ⟨_, rfl, by first | rfl | exact b2i_nar | decide +kernel⟩ ?_ ?_
      · unfold r_X8_orderOf; first | (simp only [if_pos (show ¬ (b2i (0 ≤ a1 ∧ a1 ≤ M.1 600 12 - 1)) = 0 from c5), if_pos (show (r_X8_openMany M) ≤ ((l_X8_orderOf_21 a1 (r_X8_openMany M) ((w_X8_lends M), 0) (Int32.toNatClampNeg ((r_X8_openMany M)))).2) from c23)]; done) | (simp only [if_pos (show ¬ (b2i (0 ≤ a1 ∧ a1 ≤ M.1 600 12 - 1)) = 0 from c5), if_pos (show (r_X8_openMany M) ≤ ((l_X8_orderOf_21 a1 (r_X8_openMany M) ((w_X8_lends M), 0) (Int32.toNatClampNeg ((r_X8_openMany M)))).2) from c23)]; rfl) | rfl
      · unfold w_X8_orderOf; first | (simp only [if_pos (show ¬ (b2i (0 ≤ a1 ∧ a1 ≤ M.1 600 12 - 1)) = 0 from c5), if_pos (show (r_X8_openMany M) ≤ ((l_X8_orderOf_21 a1 (r_X8_openMany M) ((w_X8_lends M), 0) (Int32.toNatClampNeg ((r_X8_openMany M)))).2) from c23)]; done) | (simp only [if_pos (show ¬ (b2i (0 ≤ a1 ∧ a1 ≤ M.1 600 12 - 1)) = 0 from c5), if_pos (show (r_X8_openMany M) ≤ ((l_X8_orderOf_21 a1 (r_X8_openMany M) ((w_X8_lends M), 0) (Int32.toNatClampNeg ((r_X8_openMany M)))).2) from c23)]; rfl) | rfl
    · rw [if_neg (show ¬ ((r_X8_openMany M) ≤ ((l_X8_orderOf_21 a1 (r_X8_openMany M) ((w_X8_lends M), 0) (Int32.toNatClampNeg ((r_X8_openMany M)))).2)) from c23)] at hp
      refine absurd (ci_X8_orderOf_21.mpr ?_) hx_21_1
      simp only [if_pos (show ¬ (b2i (0 ≤ a1 ∧ a1 ≤ M.1 600 12 - 1)) = 0 from c5), if_neg (show ¬ ((r_X8_openMany M) ≤ ((l_X8_orderOf_21 a1 (r_X8_openMany M) ((w_X8_lends M), 0) (Int32.toNatClampNeg ((r_X8_openMany M)))).2)) from c23)]
  · rw [if_neg (show ¬ (¬ (b2i (0 ≤ a1 ∧ a1 ≤ M.1 600 12 - 1)) = 0) from c5)] at hp
    refine j_iconst g (n := -1) (-1) (by decide +kernel) rfl ?_
    refine hr.1 _ _ _ _ (by decide +kernel) ⟨_, rfl, by first | rfl | exact b2i_nar | decide +kernel⟩ ?_ ?_
    · unfold r_X8_orderOf; first | (simp only [if_neg (show ¬ (¬ (b2i (0 ≤ a1 ∧ a1 ≤ M.1 600 12 - 1)) = 0) from c5)]; done) | (simp only [if_neg (show ¬ (¬ (b2i (0 ≤ a1 ∧ a1 ≤ M.1 600 12 - 1)) = 0) from c5)]; rfl) | rfl
    · unfold w_X8_orderOf; first | (simp only [if_neg (show ¬ (¬ (b2i (0 ≤ a1 ∧ a1 ≤ M.1 600 12 - 1)) = 0) from c5)]; done) | (simp only [if_neg (show ¬ (¬ (b2i (0 ≤ a1 ∧ a1 ≤ M.1 600 12 - 1)) = 0) from c5)]; rfl) | rfl
def c_X8_rightMany_2  (σ : Mm × Int32) : Prop := if (σ.1.1 600 42) ≤ σ.2 then False else if (b2i (0 ≤ (σ.1.1 619 (Int32.toNatClampNeg ((3 : Int32) * σ.2))) ∧ (σ.1.1 619 (Int32.toNatClampNeg ((3 : Int32) * σ.2))) ≤ σ.1.1 600 2 - 1)) = 0 then False else if ¬ (r_X8_isFree σ.1 (σ.1.1 619 (Int32.toNatClampNeg ((3 : Int32) * σ.2)))) = 0 then (if ¬ ((w_X8_turns σ.1 (σ.1.1 619 (Int32.toNatClampNeg ((3 : Int32) * σ.2)))).1 619 (Int32.toNatClampNeg (((3 : Int32) * σ.2) + 1))) = ((w_X8_turns σ.1 (σ.1.1 619 (Int32.toNatClampNeg ((3 : Int32) * σ.2)))).1 607 (Int32.toNatClampNeg (((w_X8_turns σ.1 (σ.1.1 619 (Int32.toNatClampNeg ((3 : Int32) * σ.2)))).1 600 10) + 21))) then False else if ((w_X8_turns σ.1 (σ.1.1 619 (Int32.toNatClampNeg ((3 : Int32) * σ.2)))).1 619 (Int32.toNatClampNeg (((3 : Int32) * σ.2) + 2))) = (r_X8_turns σ.1 (σ.1.1 619 (Int32.toNatClampNeg ((3 : Int32) * σ.2)))) then True else False) else False
theorem ci_X8_rightMany_2   {σ : Mm × Int32} : c_X8_rightMany_2  σ ↔ (if (σ.1.1 600 42) ≤ σ.2 then False else if (b2i (0 ≤ (σ.1.1 619 (Int32.toNatClampNeg ((3 : Int32) * σ.2))) ∧ (σ.1.1 619 (Int32.toNatClampNeg ((3 : Int32) * σ.2))) ≤ σ.1.1 600 2 - 1)) = 0 then False else if ¬ (r_X8_isFree σ.1 (σ.1.1 619 (Int32.toNatClampNeg ((3 : Int32) * σ.2)))) = 0 then (if ¬ ((w_X8_turns σ.1 (σ.1.1 619 (Int32.toNatClampNeg ((3 : Int32) * σ.2)))).1 619 (Int32.toNatClampNeg (((3 : Int32) * σ.2) + 1))) = ((w_X8_turns σ.1 (σ.1.1 619 (Int32.toNatClampNeg ((3 : Int32) * σ.2)))).1 607 (Int32.toNatClampNeg (((w_X8_turns σ.1 (σ.1.1 619 (Int32.toNatClampNeg ((3 : Int32) * σ.2)))).1 600 10) + 21))) then False else if ((w_X8_turns σ.1 (σ.1.1 619 (Int32.toNatClampNeg ((3 : Int32) * σ.2)))).1 619 (Int32.toNatClampNeg (((3 : Int32) * σ.2) + 2))) = (r_X8_turns σ.1 (σ.1.1 619 (Int32.toNatClampNeg ((3 : Int32) * σ.2)))) then True else False) else False) := Iff.rfl
noncomputable def s_X8_rightMany_2  (σ : Mm × Int32) : Mm × Int32 := if (σ.1.1 600 42) ≤ σ.2 then σ else if (b2i (0 ≤ (σ.1.1 619 (Int32.toNatClampNeg ((3 : Int32) * σ.2))) ∧ (σ.1.1 619 (Int32.toNatClampNeg ((3 : Int32) * σ.2))) ≤ σ.1.1 600 2 - 1)) = 0 then σ else if ¬ (r_X8_isFree σ.1 (σ.1.1 619 (Int32.toNatClampNeg ((3 : Int32) * σ.2)))) = 0 then (if ¬ ((w_X8_turns σ.1 (σ.1.1 619 (Int32.toNatClampNeg ((3 : Int32) * σ.2)))).1 619 (Int32.toNatClampNeg (((3 : Int32) * σ.2) + 1))) = ((w_X8_turns σ.1 (σ.1.1 619 (Int32.toNatClampNeg ((3 : Int32) * σ.2)))).1 607 (Int32.toNatClampNeg (((w_X8_turns σ.1 (σ.1.1 619 (Int32.toNatClampNeg ((3 : Int32) * σ.2)))).1 600 10) + 21))) then σ else if ((w_X8_turns σ.1 (σ.1.1 619 (Int32.toNatClampNeg ((3 : Int32) * σ.2)))).1 619 (Int32.toNatClampNeg (((3 : Int32) * σ.2) + 2))) = (r_X8_turns σ.1 (σ.1.1 619 (Int32.toNatClampNeg ((3 : Int32) * σ.2)))) then ((w_X8_turns σ.1 (σ.1.1 619 (Int32.toNatClampNeg ((3 : Int32) * σ.2)))), σ.2 + 1) else σ) else σ
def q_X8_rightMany_2  (σ : Mm × Int32) : Prop := (if (σ.1.1 600 42) ≤ σ.2 then True else (vp_in ((3 : Int32) * σ.2) 18) ∧ (if (b2i (0 ≤ (σ.1.1 619 (Int32.toNatClampNeg ((3 : Int32) * σ.2))) ∧ (σ.1.1 619 (Int32.toNatClampNeg ((3 : Int32) * σ.2))) ≤ σ.1.1 600 2 - 1)) = 0 then True else (p_X8_isFree σ.1 (σ.1.1 619 (Int32.toNatClampNeg ((3 : Int32) * σ.2)))) ∧ (if ¬ (r_X8_isFree σ.1 (σ.1.1 619 (Int32.toNatClampNeg ((3 : Int32) * σ.2)))) = 0 then (p_X8_turns σ.1 (σ.1.1 619 (Int32.toNatClampNeg ((3 : Int32) * σ.2)))) ∧ (vp_in (((3 : Int32) * σ.2) + 1) 18) ∧ (vp_in (((w_X8_turns σ.1 (σ.1.1 619 (Int32.toNatClampNeg ((3 : Int32) * σ.2)))).1 600 10) + 21) 44) ∧ (if ¬ ((w_X8_turns σ.1 (σ.1.1 619 (Int32.toNatClampNeg ((3 : Int32) * σ.2)))).1 619 (Int32.toNatClampNeg (((3 : Int32) * σ.2) + 1))) = ((w_X8_turns σ.1 (σ.1.1 619 (Int32.toNatClampNeg ((3 : Int32) * σ.2)))).1 607 (Int32.toNatClampNeg (((w_X8_turns σ.1 (σ.1.1 619 (Int32.toNatClampNeg ((3 : Int32) * σ.2)))).1 600 10) + 21))) then True else (vp_in (((3 : Int32) * σ.2) + 2) 18) ∧ (if ((w_X8_turns σ.1 (σ.1.1 619 (Int32.toNatClampNeg ((3 : Int32) * σ.2)))).1 619 (Int32.toNatClampNeg (((3 : Int32) * σ.2) + 2))) = (r_X8_turns σ.1 (σ.1.1 619 (Int32.toNatClampNeg ((3 : Int32) * σ.2)))) then True else True)) else True)))
noncomputable def l_X8_rightMany_2  (σ0 : Mm × Int32) : Nat → Mm × Int32 := itN (fun _ σ => s_X8_rightMany_2  σ) σ0
theorem ps_X8_rightMany_2 {d : Nat} {J : Nat → Lc → List Value → Mm → Prop}   {σ : Mm × Int32}  (g : Good mX8_rightMany.1 mX8_rightMany.2.2.1 mX8_rightMany.2.2.2.1 (d + 6) J) (hc : c_X8_rightMany_2  σ) (hp : q_X8_rightMany_2  σ) (k : ∀ (j2 j3 : Option Value), J 2 [some (.ref 600), some (.int ((s_X8_rightMany_2  σ).2)), j2, j3] [] ((s_X8_rightMany_2  σ).1)) : ∀ (j2 j3 : Option Value), J 2 [some (.ref 600), some (.int σ.2), j2, j3] [] σ.1 := by
  intro j2 j3
  unfold c_X8_rightMany_2 at hc
  unfold q_X8_rightMany_2 at hp
  unfold s_X8_rightMany_2 at k
  refine j_iload_n g (i := 1) (by decide +kernel) rfl ?_
  refine j_aload_n g (i := 0) (by decide +kernel) rfl ?_
  refine j_gI g f8_234 (by decide +kernel) (by decide +kernel) (by decide +kernel) ?_
  refine j_icmp_ge g (off := 83) (tgt := 90) (by decide +kernel) (by decide) (fun c7 => ?_) (fun c7 => ?_)
  · (try rw [if_pos (show (σ.1.1 600 42) ≤ σ.2 from c7)] at hc); (rw [if_pos (show (σ.1.1 600 42) ≤ σ.2 from c7)] at hp); (try simp only [if_pos (show (σ.1.1 600 42) ≤ σ.2 from c7)] at k)
    exact hc.elim
  · (try rw [if_neg (show ¬ ((σ.1.1 600 42) ≤ σ.2) from c7)] at hc); (rw [if_neg (show ¬ ((σ.1.1 600 42) ≤ σ.2) from c7)] at hp); (try simp only [if_neg (show ¬ ((σ.1.1 600 42) ≤ σ.2) from c7)] at k)
    refine j_aload_n g (i := 0) (by decide +kernel) rfl ?_
    refine j_gA g (b := 619) f8_64 (by decide +kernel) (by decide +kernel) (by decide +kernel) (by decide +kernel) ?_
    refine j_iconst g (n := 3) (3) (by decide +kernel) rfl ?_
    refine j_iload_n g (i := 1) (by decide +kernel) rfl ?_
    refine j_imul g (by decide +kernel) ?_
    obtain ⟨h0, hp⟩ := hp
    refine j_ia g 18 (by decide +kernel) (by decide +kernel) (by decide +kernel) h0 ?_
    refine j_istore_n g (i := 2) (by decide +kernel) (by decide) ?_
    dsimp only [stL, clL, hdL]
    refine j_aload_n g (i := 0) (by decide +kernel) rfl ?_
    refine j_iload_n g (i := 2) (by decide +kernel) rfl ?_
    refine j_cV1r g v8_243 ⟨rfl, by decide⟩ (by decide +kernel) (by decide +kernel) (Nat.le_of_ble_eq_true rfl) (rnX8_isWork) ?_
    refine j_if_eq g (off := 11) (tgt := 35) (by decide +kernel) (by decide) (fun c24 => ?_) (fun c24 => ?_)
    · (try rw [if_pos (show (b2i (0 ≤ (σ.1.1 619 (Int32.toNatClampNeg ((3 : Int32) * σ.2))) ∧ (σ.1.1 619 (Int32.toNatClampNeg ((3 : Int32) * σ.2))) ≤ σ.1.1 600 2 - 1)) = 0 from c24)] at hc); (rw [if_pos (show (b2i (0 ≤ (σ.1.1 619 (Int32.toNatClampNeg ((3 : Int32) * σ.2))) ∧ (σ.1.1 619 (Int32.toNatClampNeg ((3 : Int32) * σ.2))) ≤ σ.1.1 600 2 - 1)) = 0 from c24)] at hp); (try simp only [if_pos (show (b2i (0 ≤ (σ.1.1 619 (Int32.toNatClampNeg ((3 : Int32) * σ.2))) ∧ (σ.1.1 619 (Int32.toNatClampNeg ((3 : Int32) * σ.2))) ≤ σ.1.1 600 2 - 1)) = 0 from c24)] at k)
      exact hc.elim
    · (try rw [if_neg (show ¬ ((b2i (0 ≤ (σ.1.1 619 (Int32.toNatClampNeg ((3 : Int32) * σ.2))) ∧ (σ.1.1 619 (Int32.toNatClampNeg ((3 : Int32) * σ.2))) ≤ σ.1.1 600 2 - 1)) = 0) from c24)] at hc); (rw [if_neg (show ¬ ((b2i (0 ≤ (σ.1.1 619 (Int32.toNatClampNeg ((3 : Int32) * σ.2))) ∧ (σ.1.1 619 (Int32.toNatClampNeg ((3 : Int32) * σ.2))) ≤ σ.1.1 600 2 - 1)) = 0) from c24)] at hp); (try simp only [if_neg (show ¬ ((b2i (0 ≤ (σ.1.1 619 (Int32.toNatClampNeg ((3 : Int32) * σ.2))) ∧ (σ.1.1 619 (Int32.toNatClampNeg ((3 : Int32) * σ.2))) ≤ σ.1.1 600 2 - 1)) = 0) from c24)] at k)
      refine j_aload_n g (i := 0) (by decide +kernel) rfl ?_
      refine j_iload_n g (i := 2) (by decide +kernel) rfl ?_
      obtain ⟨h0, hp⟩ := hp
      refine j_cV1r g v8_295 ⟨rfl, by decide⟩ (by decide +kernel) (by decide +kernel) (Nat.le_of_ble_eq_true rfl) (rnX8_isFree h0) ?_
      refine j_if_ne g (off := 5) (tgt := 37) (by decide +kernel) (by decide) (fun c32 => ?_) (fun c32 => ?_)
      · (try rw [if_pos (show ¬ (r_X8_isFree σ.1 (σ.1.1 619 (Int32.toNatClampNeg ((3 : Int32) * σ.2)))) = 0 from c32)] at hc); (rw [if_pos (show ¬ (r_X8_isFree σ.1 (σ.1.1 619 (Int32.toNatClampNeg ((3 : Int32) * σ.2)))) = 0 from c32)] at hp); (try simp only [if_pos (show ¬ (r_X8_isFree σ.1 (σ.1.1 619 (Int32.toNatClampNeg ((3 : Int32) * σ.2)))) = 0 from c32)] at k)
        refine j_aload_n g (i := 0) (by decide +kernel) rfl ?_
        refine j_iload_n g (i := 2) (by decide +kernel) rfl ?_
        obtain ⟨h0, hp⟩ := hp
        refine j_cV1r g v8_301 ⟨rfl, by decide⟩ (by decide +kernel) (by decide +kernel) (Nat.le_of_ble_eq_true rfl) (rnX8_turns h0) ?_
        refine j_istore_n g (i := 3) (by decide +kernel) (by decide) ?_
        dsimp only [stL, clL, hdL]
        refine j_aload_n g (i := 0) (by decide +kernel) rfl ?_
        refine j_gA g (b := 619) f8_64 (by decide +kernel) (by decide +kernel) (by decide +kernel) (by decide +kernel) ?_
        refine j_iconst g (n := 3) (3) (by decide +kernel) rfl ?_
        refine j_iload_n g (i := 1) (by decide +kernel) rfl ?_
        refine j_imul g (by decide +kernel) ?_
        refine j_iconst g (n := 1) (1) (by decide +kernel) rfl ?_
        refine j_iadd g (by decide +kernel) ?_
        obtain ⟨h0, hp⟩ := hp
        refine j_ia g 18 (by decide +kernel) (by decide +kernel) (by decide +kernel) h0 ?_
        refine j_aload_n g (i := 0) (by decide +kernel) rfl ?_
        refine j_gA g (b := 607) f8_28 (by decide +kernel) (by decide +kernel) (by decide +kernel) (by decide +kernel) ?_
        refine j_aload_n g (i := 0) (by decide +kernel) rfl ?_
        refine j_gI g f8_240 (by decide +kernel) (by decide +kernel) (by decide +kernel) ?_
        refine j_bipush g (n := 21) (21) (by decide +kernel) (by decide +kernel) ?_
        refine j_iadd g (by decide +kernel) ?_
        obtain ⟨h0, hp⟩ := hp
        refine j_ia g 44 (by decide +kernel) (by decide +kernel) (by decide +kernel) h0 ?_
        refine j_icmp_ne g (off := 17) (tgt := 82) (by decide +kernel) (by decide) (fun c65 => ?_) (fun c65 => ?_)
        · (try rw [if_pos (show ¬ ((w_X8_turns σ.1 (σ.1.1 619 (Int32.toNatClampNeg ((3 : Int32) * σ.2)))).1 619 (Int32.toNatClampNeg (((3 : Int32) * σ.2) + 1))) = ((w_X8_turns σ.1 (σ.1.1 619 (Int32.toNatClampNeg ((3 : Int32) * σ.2)))).1 607 (Int32.toNatClampNeg (((w_X8_turns σ.1 (σ.1.1 619 (Int32.toNatClampNeg ((3 : Int32) * σ.2)))).1 600 10) + 21))) from c65)] at hc); (rw [if_pos (show ¬ ((w_X8_turns σ.1 (σ.1.1 619 (Int32.toNatClampNeg ((3 : Int32) * σ.2)))).1 619 (Int32.toNatClampNeg (((3 : Int32) * σ.2) + 1))) = ((w_X8_turns σ.1 (σ.1.1 619 (Int32.toNatClampNeg ((3 : Int32) * σ.2)))).1 607 (Int32.toNatClampNeg (((w_X8_turns σ.1 (σ.1.1 619 (Int32.toNatClampNeg ((3 : Int32) * σ.2)))).1 600 10) + 21))) from c65)] at hp); (try simp only [if_pos (show ¬ ((w_X8_turns σ.1 (σ.1.1 619 (Int32.toNatClampNeg ((3 : Int32) * σ.2)))).1 619 (Int32.toNatClampNeg (((3 : Int32) * σ.2) + 1))) = ((w_X8_turns σ.1 (σ.1.1 619 (Int32.toNatClampNeg ((3 : Int32) * σ.2)))).1 607 (Int32.toNatClampNeg (((w_X8_turns σ.1 (σ.1.1 619 (Int32.toNatClampNeg ((3 : Int32) * σ.2)))).1 600 10) + 21))) from c65)] at k)
          exact hc.elim
        · (try rw [if_neg (show ¬ (¬ ((w_X8_turns σ.1 (σ.1.1 619 (Int32.toNatClampNeg ((3 : Int32) * σ.2)))).1 619 (Int32.toNatClampNeg (((3 : Int32) * σ.2) + 1))) = ((w_X8_turns σ.1 (σ.1.1 619 (Int32.toNatClampNeg ((3 : Int32) * σ.2)))).1 607 (Int32.toNatClampNeg (((w_X8_turns σ.1 (σ.1.1 619 (Int32.toNatClampNeg ((3 : Int32) * σ.2)))).1 600 10) + 21)))) from c65)] at hc); (rw [if_neg (show ¬ (¬ ((w_X8_turns σ.1 (σ.1.1 619 (Int32.toNatClampNeg ((3 : Int32) * σ.2)))).1 619 (Int32.toNatClampNeg (((3 : Int32) * σ.2) + 1))) = ((w_X8_turns σ.1 (σ.1.1 619 (Int32.toNatClampNeg ((3 : Int32) * σ.2)))).1 607 (Int32.toNatClampNeg (((w_X8_turns σ.1 (σ.1.1 619 (Int32.toNatClampNeg ((3 : Int32) * σ.2)))).1 600 10) + 21)))) from c65)] at hp); (try simp only [if_neg (show ¬ (¬ ((w_X8_turns σ.1 (σ.1.1 619 (Int32.toNatClampNeg ((3 : Int32) * σ.2)))).1 619 (Int32.toNatClampNeg (((3 : Int32) * σ.2) + 1))) = ((w_X8_turns σ.1 (σ.1.1 619 (Int32.toNatClampNeg ((3 : Int32) * σ.2)))).1 607 (Int32.toNatClampNeg (((w_X8_turns σ.1 (σ.1.1 619 (Int32.toNatClampNeg ((3 : Int32) * σ.2)))).1 600 10) + 21)))) from c65)] at k)
          refine j_aload_n g (i := 0) (by decide +kernel) rfl ?_
          refine j_gA g (b := 619) f8_64 (by decide +kernel) (by decide +kernel) (by decide +kernel) (by decide +kernel) ?_
          refine j_iconst g (n := 3) (3) (by decide +kernel) rfl ?_
          refine j_iload_n g (i := 1) (by decide +kernel) rfl ?_
          refine j_imul g (by decide +kernel) ?_
          refine j_iconst g (n := 2) (2) (by decide +kernel) rfl ?_
          refine j_iadd g (by decide +kernel) ?_
          obtain ⟨h0, hp⟩ := hp
          refine j_ia g 18 (by decide +kernel) (by decide +kernel) (by decide +kernel) h0 ?_
          refine j_iload_n g (i := 3) (by decide +kernel) rfl ?_
          refine j_icmp_eq g (off := 5) (tgt := 84) (by decide +kernel) (by decide) (fun c79 => ?_) (fun c79 => ?_)
          · (try rw [if_pos (show ((w_X8_turns σ.1 (σ.1.1 619 (Int32.toNatClampNeg ((3 : Int32) * σ.2)))).1 619 (Int32.toNatClampNeg (((3 : Int32) * σ.2) + 2))) = (r_X8_turns σ.1 (σ.1.1 619 (Int32.toNatClampNeg ((3 : Int32) * σ.2)))) from c79)] at hc); (rw [if_pos (show ((w_X8_turns σ.1 (σ.1.1 619 (Int32.toNatClampNeg ((3 : Int32) * σ.2)))).1 619 (Int32.toNatClampNeg (((3 : Int32) * σ.2) + 2))) = (r_X8_turns σ.1 (σ.1.1 619 (Int32.toNatClampNeg ((3 : Int32) * σ.2)))) from c79)] at hp); (try simp only [if_pos (show ((w_X8_turns σ.1 (σ.1.1 619 (Int32.toNatClampNeg ((3 : Int32) * σ.2)))).1 619 (Int32.toNatClampNeg (((3 : Int32) * σ.2) + 2))) = (r_X8_turns σ.1 (σ.1.1 619 (Int32.toNatClampNeg ((3 : Int32) * σ.2)))) from c79)] at k)
            refine j_iinc g (i := 1) (n := 1) (1) (by decide +kernel) rfl (by decide) rfl ?_
            dsimp only [stL, clL, hdL]
            refine j_goto g (off := -85) (tgt := 2) (by decide +kernel) (by decide) ?_
            exact k _ _
          · (try rw [if_neg (show ¬ (((w_X8_turns σ.1 (σ.1.1 619 (Int32.toNatClampNeg ((3 : Int32) * σ.2)))).1 619 (Int32.toNatClampNeg (((3 : Int32) * σ.2) + 2))) = (r_X8_turns σ.1 (σ.1.1 619 (Int32.toNatClampNeg ((3 : Int32) * σ.2))))) from c79)] at hc); (rw [if_neg (show ¬ (((w_X8_turns σ.1 (σ.1.1 619 (Int32.toNatClampNeg ((3 : Int32) * σ.2)))).1 619 (Int32.toNatClampNeg (((3 : Int32) * σ.2) + 2))) = (r_X8_turns σ.1 (σ.1.1 619 (Int32.toNatClampNeg ((3 : Int32) * σ.2))))) from c79)] at hp); (try simp only [if_neg (show ¬ (((w_X8_turns σ.1 (σ.1.1 619 (Int32.toNatClampNeg ((3 : Int32) * σ.2)))).1 619 (Int32.toNatClampNeg (((3 : Int32) * σ.2) + 2))) = (r_X8_turns σ.1 (σ.1.1 619 (Int32.toNatClampNeg ((3 : Int32) * σ.2))))) from c79)] at k)
            exact hc.elim
      · (try rw [if_neg (show ¬ (¬ (r_X8_isFree σ.1 (σ.1.1 619 (Int32.toNatClampNeg ((3 : Int32) * σ.2)))) = 0) from c32)] at hc); (rw [if_neg (show ¬ (¬ (r_X8_isFree σ.1 (σ.1.1 619 (Int32.toNatClampNeg ((3 : Int32) * σ.2)))) = 0) from c32)] at hp); (try simp only [if_neg (show ¬ (¬ (r_X8_isFree σ.1 (σ.1.1 619 (Int32.toNatClampNeg ((3 : Int32) * σ.2)))) = 0) from c32)] at k)
        exact hc.elim
theorem sh_X8_rightMany_2 {d : Nat} {J : Nat → Lc → List Value → Mm → Prop}   {σ0 : Mm × Int32}  (g : Good mX8_rightMany.1 mX8_rightMany.2.2.1 mX8_rightMany.2.2.2.1 (d + 6) J) : ∀ (N : Nat), (∀ k, k < N → c_X8_rightMany_2  (l_X8_rightMany_2  σ0 k)) → (∀ k, k < N → q_X8_rightMany_2  (l_X8_rightMany_2  σ0 k)) → (∀ (j2 j3 : Option Value), J 2 [some (.ref 600), some (.int ((l_X8_rightMany_2  σ0 N).2)), j2, j3] [] ((l_X8_rightMany_2  σ0 N).1)) → ∀ (j2 j3 : Option Value), J 2 [some (.ref 600), some (.int σ0.2), j2, j3] [] σ0.1
  | 0, _, _, k => k
  | N + 1, hc, hp, k => sh_X8_rightMany_2  g N (fun i hi => hc i (Nat.lt_succ_of_lt hi)) (fun i hi => hp i (Nat.lt_succ_of_lt hi)) (ps_X8_rightMany_2  g (hc N (Nat.lt_succ_self N)) (hp N (Nat.lt_succ_self N)) k)
noncomputable def r_X8_rightMany (M : Mm)  : Int32 := if ((l_X8_rightMany_2  (M, 0) (cntN (fun k => c_X8_rightMany_2  (l_X8_rightMany_2  (M, 0) k)) 7)).1.1 600 42) ≤ ((l_X8_rightMany_2  (M, 0) (cntN (fun k => c_X8_rightMany_2  (l_X8_rightMany_2  (M, 0) k)) 7)).2) then (l_X8_rightMany_2  (M, 0) (cntN (fun k => c_X8_rightMany_2  (l_X8_rightMany_2  (M, 0) k)) 7)).1.1 600 42 else if (b2i (0 ≤ ((l_X8_rightMany_2  (M, 0) (cntN (fun k => c_X8_rightMany_2  (l_X8_rightMany_2  (M, 0) k)) 7)).1.1 619 (Int32.toNatClampNeg ((3 : Int32) * ((l_X8_rightMany_2  (M, 0) (cntN (fun k => c_X8_rightMany_2  (l_X8_rightMany_2  (M, 0) k)) 7)).2)))) ∧ ((l_X8_rightMany_2  (M, 0) (cntN (fun k => c_X8_rightMany_2  (l_X8_rightMany_2  (M, 0) k)) 7)).1.1 619 (Int32.toNatClampNeg ((3 : Int32) * ((l_X8_rightMany_2  (M, 0) (cntN (fun k => c_X8_rightMany_2  (l_X8_rightMany_2  (M, 0) k)) 7)).2)))) ≤ (l_X8_rightMany_2  (M, 0) (cntN (fun k => c_X8_rightMany_2  (l_X8_rightMany_2  (M, 0) k)) 7)).1.1 600 2 - 1)) = 0 then (l_X8_rightMany_2  (M, 0) (cntN (fun k => c_X8_rightMany_2  (l_X8_rightMany_2  (M, 0) k)) 7)).2 else if ¬ (r_X8_isFree (l_X8_rightMany_2  (M, 0) (cntN (fun k => c_X8_rightMany_2  (l_X8_rightMany_2  (M, 0) k)) 7)).1 ((l_X8_rightMany_2  (M, 0) (cntN (fun k => c_X8_rightMany_2  (l_X8_rightMany_2  (M, 0) k)) 7)).1.1 619 (Int32.toNatClampNeg ((3 : Int32) * ((l_X8_rightMany_2  (M, 0) (cntN (fun k => c_X8_rightMany_2  (l_X8_rightMany_2  (M, 0) k)) 7)).2))))) = 0 then (if ¬ ((w_X8_turns (l_X8_rightMany_2  (M, 0) (cntN (fun k => c_X8_rightMany_2  (l_X8_rightMany_2  (M, 0) k)) 7)).1 ((l_X8_rightMany_2  (M, 0) (cntN (fun k => c_X8_rightMany_2  (l_X8_rightMany_2  (M, 0) k)) 7)).1.1 619 (Int32.toNatClampNeg ((3 : Int32) * ((l_X8_rightMany_2  (M, 0) (cntN (fun k => c_X8_rightMany_2  (l_X8_rightMany_2  (M, 0) k)) 7)).2))))).1 619 (Int32.toNatClampNeg (((3 : Int32) * ((l_X8_rightMany_2  (M, 0) (cntN (fun k => c_X8_rightMany_2  (l_X8_rightMany_2  (M, 0) k)) 7)).2)) + 1))) = ((w_X8_turns (l_X8_rightMany_2  (M, 0) (cntN (fun k => c_X8_rightMany_2  (l_X8_rightMany_2  (M, 0) k)) 7)).1 ((l_X8_rightMany_2  (M, 0) (cntN (fun k => c_X8_rightMany_2  (l_X8_rightMany_2  (M, 0) k)) 7)).1.1 619 (Int32.toNatClampNeg ((3 : Int32) * ((l_X8_rightMany_2  (M, 0) (cntN (fun k => c_X8_rightMany_2  (l_X8_rightMany_2  (M, 0) k)) 7)).2))))).1 607 (Int32.toNatClampNeg (((w_X8_turns (l_X8_rightMany_2  (M, 0) (cntN (fun k => c_X8_rightMany_2  (l_X8_rightMany_2  (M, 0) k)) 7)).1 ((l_X8_rightMany_2  (M, 0) (cntN (fun k => c_X8_rightMany_2  (l_X8_rightMany_2  (M, 0) k)) 7)).1.1 619 (Int32.toNatClampNeg ((3 : Int32) * ((l_X8_rightMany_2  (M, 0) (cntN (fun k => c_X8_rightMany_2  (l_X8_rightMany_2  (M, 0) k)) 7)).2))))).1 600 10) + 21))) then (l_X8_rightMany_2  (M, 0) (cntN (fun k => c_X8_rightMany_2  (l_X8_rightMany_2  (M, 0) k)) 7)).2 else if ((w_X8_turns (l_X8_rightMany_2  (M, 0) (cntN (fun k => c_X8_rightMany_2  (l_X8_rightMany_2  (M, 0) k)) 7)).1 ((l_X8_rightMany_2  (M, 0) (cntN (fun k => c_X8_rightMany_2  (l_X8_rightMany_2  (M, 0) k)) 7)).1.1 619 (Int32.toNatClampNeg ((3 : Int32) * ((l_X8_rightMany_2  (M, 0) (cntN (fun k => c_X8_rightMany_2  (l_X8_rightMany_2  (M, 0) k)) 7)).2))))).1 619 (Int32.toNatClampNeg (((3 : Int32) * ((l_X8_rightMany_2  (M, 0) (cntN (fun k => c_X8_rightMany_2  (l_X8_rightMany_2  (M, 0) k)) 7)).2)) + 2))) = (r_X8_turns (l_X8_rightMany_2  (M, 0) (cntN (fun k => c_X8_rightMany_2  (l_X8_rightMany_2  (M, 0) k)) 7)).1 ((l_X8_rightMany_2  (M, 0) (cntN (fun k => c_X8_rightMany_2  (l_X8_rightMany_2  (M, 0) k)) 7)).1.1 619 (Int32.toNatClampNeg ((3 : Int32) * ((l_X8_rightMany_2  (M, 0) (cntN (fun k => c_X8_rightMany_2  (l_X8_rightMany_2  (M, 0) k)) 7)).2))))) then 0 else (l_X8_rightMany_2  (M, 0) (cntN (fun k => c_X8_rightMany_2  (l_X8_rightMany_2  (M, 0) k)) 7)).2) else (l_X8_rightMany_2  (M, 0) (cntN (fun k => c_X8_rightMany_2  (l_X8_rightMany_2  (M, 0) k)) 7)).2
noncomputable def w_X8_rightMany (M : Mm)  : Mm := if ((l_X8_rightMany_2  (M, 0) (cntN (fun k => c_X8_rightMany_2  (l_X8_rightMany_2  (M, 0) k)) 7)).1.1 600 42) ≤ ((l_X8_rightMany_2  (M, 0) (cntN (fun k => c_X8_rightMany_2  (l_X8_rightMany_2  (M, 0) k)) 7)).2) then (l_X8_rightMany_2  (M, 0) (cntN (fun k => c_X8_rightMany_2  (l_X8_rightMany_2  (M, 0) k)) 7)).1 else if (b2i (0 ≤ ((l_X8_rightMany_2  (M, 0) (cntN (fun k => c_X8_rightMany_2  (l_X8_rightMany_2  (M, 0) k)) 7)).1.1 619 (Int32.toNatClampNeg ((3 : Int32) * ((l_X8_rightMany_2  (M, 0) (cntN (fun k => c_X8_rightMany_2  (l_X8_rightMany_2  (M, 0) k)) 7)).2)))) ∧ ((l_X8_rightMany_2  (M, 0) (cntN (fun k => c_X8_rightMany_2  (l_X8_rightMany_2  (M, 0) k)) 7)).1.1 619 (Int32.toNatClampNeg ((3 : Int32) * ((l_X8_rightMany_2  (M, 0) (cntN (fun k => c_X8_rightMany_2  (l_X8_rightMany_2  (M, 0) k)) 7)).2)))) ≤ (l_X8_rightMany_2  (M, 0) (cntN (fun k => c_X8_rightMany_2  (l_X8_rightMany_2  (M, 0) k)) 7)).1.1 600 2 - 1)) = 0 then (l_X8_rightMany_2  (M, 0) (cntN (fun k => c_X8_rightMany_2  (l_X8_rightMany_2  (M, 0) k)) 7)).1 else if ¬ (r_X8_isFree (l_X8_rightMany_2  (M, 0) (cntN (fun k => c_X8_rightMany_2  (l_X8_rightMany_2  (M, 0) k)) 7)).1 ((l_X8_rightMany_2  (M, 0) (cntN (fun k => c_X8_rightMany_2  (l_X8_rightMany_2  (M, 0) k)) 7)).1.1 619 (Int32.toNatClampNeg ((3 : Int32) * ((l_X8_rightMany_2  (M, 0) (cntN (fun k => c_X8_rightMany_2  (l_X8_rightMany_2  (M, 0) k)) 7)).2))))) = 0 then (if ¬ ((w_X8_turns (l_X8_rightMany_2  (M, 0) (cntN (fun k => c_X8_rightMany_2  (l_X8_rightMany_2  (M, 0) k)) 7)).1 ((l_X8_rightMany_2  (M, 0) (cntN (fun k => c_X8_rightMany_2  (l_X8_rightMany_2  (M, 0) k)) 7)).1.1 619 (Int32.toNatClampNeg ((3 : Int32) * ((l_X8_rightMany_2  (M, 0) (cntN (fun k => c_X8_rightMany_2  (l_X8_rightMany_2  (M, 0) k)) 7)).2))))).1 619 (Int32.toNatClampNeg (((3 : Int32) * ((l_X8_rightMany_2  (M, 0) (cntN (fun k => c_X8_rightMany_2  (l_X8_rightMany_2  (M, 0) k)) 7)).2)) + 1))) = ((w_X8_turns (l_X8_rightMany_2  (M, 0) (cntN (fun k => c_X8_rightMany_2  (l_X8_rightMany_2  (M, 0) k)) 7)).1 ((l_X8_rightMany_2  (M, 0) (cntN (fun k => c_X8_rightMany_2  (l_X8_rightMany_2  (M, 0) k)) 7)).1.1 619 (Int32.toNatClampNeg ((3 : Int32) * ((l_X8_rightMany_2  (M, 0) (cntN (fun k => c_X8_rightMany_2  (l_X8_rightMany_2  (M, 0) k)) 7)).2))))).1 607 (Int32.toNatClampNeg (((w_X8_turns (l_X8_rightMany_2  (M, 0) (cntN (fun k => c_X8_rightMany_2  (l_X8_rightMany_2  (M, 0) k)) 7)).1 ((l_X8_rightMany_2  (M, 0) (cntN (fun k => c_X8_rightMany_2  (l_X8_rightMany_2  (M, 0) k)) 7)).1.1 619 (Int32.toNatClampNeg ((3 : Int32) * ((l_X8_rightMany_2  (M, 0) (cntN (fun k => c_X8_rightMany_2  (l_X8_rightMany_2  (M, 0) k)) 7)).2))))).1 600 10) + 21))) then (w_X8_turns (l_X8_rightMany_2  (M, 0) (cntN (fun k => c_X8_rightMany_2  (l_X8_rightMany_2  (M, 0) k)) 7)).1 ((l_X8_rightMany_2  (M, 0) (cntN (fun k => c_X8_rightMany_2  (l_X8_rightMany_2  (M, 0) k)) 7)).1.1 619 (Int32.toNatClampNeg ((3 : Int32) * ((l_X8_rightMany_2  (M, 0) (cntN (fun k => c_X8_rightMany_2  (l_X8_rightMany_2  (M, 0) k)) 7)).2))))) else if ((w_X8_turns (l_X8_rightMany_2  (M, 0) (cntN (fun k => c_X8_rightMany_2  (l_X8_rightMany_2  (M, 0) k)) 7)).1 ((l_X8_rightMany_2  (M, 0) (cntN (fun k => c_X8_rightMany_2  (l_X8_rightMany_2  (M, 0) k)) 7)).1.1 619 (Int32.toNatClampNeg ((3 : Int32) * ((l_X8_rightMany_2  (M, 0) (cntN (fun k => c_X8_rightMany_2  (l_X8_rightMany_2  (M, 0) k)) 7)).2))))).1 619 (Int32.toNatClampNeg (((3 : Int32) * ((l_X8_rightMany_2  (M, 0) (cntN (fun k => c_X8_rightMany_2  (l_X8_rightMany_2  (M, 0) k)) 7)).2)) + 2))) = (r_X8_turns (l_X8_rightMany_2  (M, 0) (cntN (fun k => c_X8_rightMany_2  (l_X8_rightMany_2  (M, 0) k)) 7)).1 ((l_X8_rightMany_2  (M, 0) (cntN (fun k => c_X8_rightMany_2  (l_X8_rightMany_2  (M, 0) k)) 7)).1.1 619 (Int32.toNatClampNeg ((3 : Int32) * ((l_X8_rightMany_2  (M, 0) (cntN (fun k => c_X8_rightMany_2  (l_X8_rightMany_2  (M, 0) k)) 7)).2))))) then M else (w_X8_turns (l_X8_rightMany_2  (M, 0) (cntN (fun k => c_X8_rightMany_2  (l_X8_rightMany_2  (M, 0) k)) 7)).1 ((l_X8_rightMany_2  (M, 0) (cntN (fun k => c_X8_rightMany_2  (l_X8_rightMany_2  (M, 0) k)) 7)).1.1 619 (Int32.toNatClampNeg ((3 : Int32) * ((l_X8_rightMany_2  (M, 0) (cntN (fun k => c_X8_rightMany_2  (l_X8_rightMany_2  (M, 0) k)) 7)).2)))))) else (l_X8_rightMany_2  (M, 0) (cntN (fun k => c_X8_rightMany_2  (l_X8_rightMany_2  (M, 0) k)) 7)).1
def p_X8_rightMany (M : Mm)  : Prop := (∀ k, k < (cntN (fun k => c_X8_rightMany_2  (l_X8_rightMany_2  (M, 0) k)) 7) → c_X8_rightMany_2  (l_X8_rightMany_2  (M, 0) k)) ∧ (∀ k, k < (cntN (fun k => c_X8_rightMany_2  (l_X8_rightMany_2  (M, 0) k)) 7) → q_X8_rightMany_2  (l_X8_rightMany_2  (M, 0) k)) ∧ (¬ c_X8_rightMany_2  (l_X8_rightMany_2  (M, 0) (cntN (fun k => c_X8_rightMany_2  (l_X8_rightMany_2  (M, 0) k)) 7))) ∧ (if ((l_X8_rightMany_2  (M, 0) (cntN (fun k => c_X8_rightMany_2  (l_X8_rightMany_2  (M, 0) k)) 7)).1.1 600 42) ≤ ((l_X8_rightMany_2  (M, 0) (cntN (fun k => c_X8_rightMany_2  (l_X8_rightMany_2  (M, 0) k)) 7)).2) then True else (vp_in ((3 : Int32) * ((l_X8_rightMany_2  (M, 0) (cntN (fun k => c_X8_rightMany_2  (l_X8_rightMany_2  (M, 0) k)) 7)).2)) 18) ∧ (if (b2i (0 ≤ ((l_X8_rightMany_2  (M, 0) (cntN (fun k => c_X8_rightMany_2  (l_X8_rightMany_2  (M, 0) k)) 7)).1.1 619 (Int32.toNatClampNeg ((3 : Int32) * ((l_X8_rightMany_2  (M, 0) (cntN (fun k => c_X8_rightMany_2  (l_X8_rightMany_2  (M, 0) k)) 7)).2)))) ∧ ((l_X8_rightMany_2  (M, 0) (cntN (fun k => c_X8_rightMany_2  (l_X8_rightMany_2  (M, 0) k)) 7)).1.1 619 (Int32.toNatClampNeg ((3 : Int32) * ((l_X8_rightMany_2  (M, 0) (cntN (fun k => c_X8_rightMany_2  (l_X8_rightMany_2  (M, 0) k)) 7)).2)))) ≤ (l_X8_rightMany_2  (M, 0) (cntN (fun k => c_X8_rightMany_2  (l_X8_rightMany_2  (M, 0) k)) 7)).1.1 600 2 - 1)) = 0 then True else (p_X8_isFree (l_X8_rightMany_2  (M, 0) (cntN (fun k => c_X8_rightMany_2  (l_X8_rightMany_2  (M, 0) k)) 7)).1 ((l_X8_rightMany_2  (M, 0) (cntN (fun k => c_X8_rightMany_2  (l_X8_rightMany_2  (M, 0) k)) 7)).1.1 619 (Int32.toNatClampNeg ((3 : Int32) * ((l_X8_rightMany_2  (M, 0) (cntN (fun k => c_X8_rightMany_2  (l_X8_rightMany_2  (M, 0) k)) 7)).2))))) ∧ (if ¬ (r_X8_isFree (l_X8_rightMany_2  (M, 0) (cntN (fun k => c_X8_rightMany_2  (l_X8_rightMany_2  (M, 0) k)) 7)).1 ((l_X8_rightMany_2  (M, 0) (cntN (fun k => c_X8_rightMany_2  (l_X8_rightMany_2  (M, 0) k)) 7)).1.1 619 (Int32.toNatClampNeg ((3 : Int32) * ((l_X8_rightMany_2  (M, 0) (cntN (fun k => c_X8_rightMany_2  (l_X8_rightMany_2  (M, 0) k)) 7)).2))))) = 0 then (p_X8_turns (l_X8_rightMany_2  (M, 0) (cntN (fun k => c_X8_rightMany_2  (l_X8_rightMany_2  (M, 0) k)) 7)).1 ((l_X8_rightMany_2  (M, 0) (cntN (fun k => c_X8_rightMany_2  (l_X8_rightMany_2  (M, 0) k)) 7)).1.1 619 (Int32.toNatClampNeg ((3 : Int32) * ((l_X8_rightMany_2  (M, 0) (cntN (fun k => c_X8_rightMany_2  (l_X8_rightMany_2  (M, 0) k)) 7)).2))))) ∧ (vp_in (((3 : Int32) * ((l_X8_rightMany_2  (M, 0) (cntN (fun k => c_X8_rightMany_2  (l_X8_rightMany_2  (M, 0) k)) 7)).2)) + 1) 18) ∧ (vp_in (((w_X8_turns (l_X8_rightMany_2  (M, 0) (cntN (fun k => c_X8_rightMany_2  (l_X8_rightMany_2  (M, 0) k)) 7)).1 ((l_X8_rightMany_2  (M, 0) (cntN (fun k => c_X8_rightMany_2  (l_X8_rightMany_2  (M, 0) k)) 7)).1.1 619 (Int32.toNatClampNeg ((3 : Int32) * ((l_X8_rightMany_2  (M, 0) (cntN (fun k => c_X8_rightMany_2  (l_X8_rightMany_2  (M, 0) k)) 7)).2))))).1 600 10) + 21) 44) ∧ (if ¬ ((w_X8_turns (l_X8_rightMany_2  (M, 0) (cntN (fun k => c_X8_rightMany_2  (l_X8_rightMany_2  (M, 0) k)) 7)).1 ((l_X8_rightMany_2  (M, 0) (cntN (fun k => c_X8_rightMany_2  (l_X8_rightMany_2  (M, 0) k)) 7)).1.1 619 (Int32.toNatClampNeg ((3 : Int32) * ((l_X8_rightMany_2  (M, 0) (cntN (fun k => c_X8_rightMany_2  (l_X8_rightMany_2  (M, 0) k)) 7)).2))))).1 619 (Int32.toNatClampNeg (((3 : Int32) * ((l_X8_rightMany_2  (M, 0) (cntN (fun k => c_X8_rightMany_2  (l_X8_rightMany_2  (M, 0) k)) 7)).2)) + 1))) = ((w_X8_turns (l_X8_rightMany_2  (M, 0) (cntN (fun k => c_X8_rightMany_2  (l_X8_rightMany_2  (M, 0) k)) 7)).1 ((l_X8_rightMany_2  (M, 0) (cntN (fun k => c_X8_rightMany_2  (l_X8_rightMany_2  (M, 0) k)) 7)).1.1 619 (Int32.toNatClampNeg ((3 : Int32) * ((l_X8_rightMany_2  (M, 0) (cntN (fun k => c_X8_rightMany_2  (l_X8_rightMany_2  (M, 0) k)) 7)).2))))).1 607 (Int32.toNatClampNeg (((w_X8_turns (l_X8_rightMany_2  (M, 0) (cntN (fun k => c_X8_rightMany_2  (l_X8_rightMany_2  (M, 0) k)) 7)).1 ((l_X8_rightMany_2  (M, 0) (cntN (fun k => c_X8_rightMany_2  (l_X8_rightMany_2  (M, 0) k)) 7)).1.1 619 (Int32.toNatClampNeg ((3 : Int32) * ((l_X8_rightMany_2  (M, 0) (cntN (fun k => c_X8_rightMany_2  (l_X8_rightMany_2  (M, 0) k)) 7)).2))))).1 600 10) + 21))) then True else (vp_in (((3 : Int32) * ((l_X8_rightMany_2  (M, 0) (cntN (fun k => c_X8_rightMany_2  (l_X8_rightMany_2  (M, 0) k)) 7)).2)) + 2) 18) ∧ (if ((w_X8_turns (l_X8_rightMany_2  (M, 0) (cntN (fun k => c_X8_rightMany_2  (l_X8_rightMany_2  (M, 0) k)) 7)).1 ((l_X8_rightMany_2  (M, 0) (cntN (fun k => c_X8_rightMany_2  (l_X8_rightMany_2  (M, 0) k)) 7)).1.1 619 (Int32.toNatClampNeg ((3 : Int32) * ((l_X8_rightMany_2  (M, 0) (cntN (fun k => c_X8_rightMany_2  (l_X8_rightMany_2  (M, 0) k)) 7)).2))))).1 619 (Int32.toNatClampNeg (((3 : Int32) * ((l_X8_rightMany_2  (M, 0) (cntN (fun k => c_X8_rightMany_2  (l_X8_rightMany_2  (M, 0) k)) 7)).2)) + 2))) = (r_X8_turns (l_X8_rightMany_2  (M, 0) (cntN (fun k => c_X8_rightMany_2  (l_X8_rightMany_2  (M, 0) k)) 7)).1 ((l_X8_rightMany_2  (M, 0) (cntN (fun k => c_X8_rightMany_2  (l_X8_rightMany_2  (M, 0) k)) 7)).1.1 619 (Int32.toNatClampNeg ((3 : Int32) * ((l_X8_rightMany_2  (M, 0) (cntN (fun k => c_X8_rightMany_2  (l_X8_rightMany_2  (M, 0) k)) 7)).2))))) then True else True)) else True)))
set_option maxRecDepth 20000 in
theorem rnX8_rightMany {d : Nat} {M : Mm}   (hp : p_X8_rightMany M ) : Rn (d + 6) mX8_rightMany [.ref 600] M (some (.int (r_X8_rightMany M ))) (w_X8_rightMany M ) := by
  refine Rn.of [some (.ref 600), none, none, none] (by decide +kernel) rfl (Nat.le_of_ble_eq_true rfl) rfl (fun J g hr => ?_)
  unfold p_X8_rightMany at hp
  refine j_iconst g (n := 0) (0) (by decide +kernel) rfl ?_
  refine j_istore_n g (i := 1) (by decide +kernel) (by decide) ?_
  dsimp only [stL, clL, hdL]
  obtain ⟨h0, hp⟩ := hp
  have hc_2_1 := h0
  obtain ⟨h0, hp⟩ := hp
  have hq_2_1 := h0
  obtain ⟨h0, hp⟩ := hp
  have hx_2_1 := h0
  refine sh_X8_rightMany_2   g (σ0 := (M, 0)) (cntN (fun k => c_X8_rightMany_2  (l_X8_rightMany_2  (M, 0) k)) 7) hc_2_1 hq_2_1 ?_ _ _
  intro j2_1 j3_1
  refine j_iload_n g (i := 1) (by decide +kernel) rfl ?_
  refine j_aload_n g (i := 0) (by decide +kernel) rfl ?_
  refine j_gI g f8_234 (by decide +kernel) (by decide +kernel) (by decide +kernel) ?_
  refine j_icmp_ge g (off := 83) (tgt := 90) (by decide +kernel) (by decide) (fun c7 => ?_) (fun c7 => ?_)
  · rw [if_pos (show ((l_X8_rightMany_2  (M, 0) (cntN (fun k => c_X8_rightMany_2  (l_X8_rightMany_2  (M, 0) k)) 7)).1.1 600 42) ≤ ((l_X8_rightMany_2  (M, 0) (cntN (fun k => c_X8_rightMany_2  (l_X8_rightMany_2  (M, 0) k)) 7)).2) from c7)] at hp
    refine j_aload_n g (i := 0) (by decide +kernel) rfl ?_
    refine j_gI g f8_234 (by decide +kernel) (by decide +kernel) (by decide +kernel) ?_
    refine hr.1 _ _ _ _ (by decide +kernel) ⟨_, rfl, by first | rfl | exact b2i_nar | decide +kernel⟩ ?_ ?_
    · unfold r_X8_rightMany; first | (simp only [if_pos (show ((l_X8_rightMany_2  (M, 0) (cntN (fun k => c_X8_rightMany_2  (l_X8_rightMany_2  (M, 0) k)) 7)).1.1 600 42) ≤ ((l_X8_rightMany_2  (M, 0) (cntN (fun k => c_X8_rightMany_2  (l_X8_rightMany_2  (M, 0) k)) 7)).2) from c7)]; done) | (simp only [if_pos (show ((l_X8_rightMany_2  (M, 0) (cntN (fun k => c_X8_rightMany_2  (l_X8_rightMany_2  (M, 0) k)) 7)).1.1 600 42) ≤ ((l_X8_rightMany_2  (M, 0) (cntN (fun k => c_X8_rightMany_2  (l_X8_rightMany_2  (M, 0) k)) 7)).2) from c7)]; rfl) | rfl
    · unfold w_X8_rightMany; first | (simp only [if_pos (show ((l_X8_rightMany_2  (M, 0) (cntN (fun k => c_X8_rightMany_2  (l_X8_rightMany_2  (M, 0) k)) 7)).1.1 600 42) ≤ ((l_X8_rightMany_2  (M, 0) (cntN (fun k => c_X8_rightMany_2  (l_X8_rightMany_2  (M, 0) k)) 7)).2) from c7)]; done) | (simp only [if_pos (show ((l_X8_rightMany_2  (M, 0) (cntN (fun k => c_X8_rightMany_2  (l_X8_rightMany_2  (M, 0) k)) 7)).1.1 600 42) ≤ ((l_X8_rightMany_2  (M, 0) (cntN (fun k => c_X8_rightMany_2  (l_X8_rightMany_2  (M, 0) k)) 7)).2) from c7)]; rfl) | rfl
  · rw [if_neg (show ¬ (((l_X8_rightMany_2  (M, 0) (cntN (fun k => c_X8_rightMany_2  (l_X8_rightMany_2  (M, 0) k)) 7)).1.1 600 42) ≤ ((l_X8_rightMany_2  (M, 0) (cntN (fun k => c_X8_rightMany_2  (l_X8_rightMany_2  (M, 0) k)) 7)).2)) from c7)] at hp
    refine j_aload_n g (i := 0) (by decide +kernel) rfl ?_
    refine j_gA g (b := 619) f8_64 (by decide +kernel) (by decide +kernel) (by decide +kernel) (by decide +kernel) ?_
    refine j_iconst g (n := 3) (3) (by decide +kernel) rfl ?_
    refine j_iload_n g (i := 1) (by decide +kernel) rfl ?_
    refine j_imul g (by decide +kernel) ?_
    obtain ⟨h0, hp⟩ := hp
    refine j_ia g 18 (by decide +kernel) (by decide +kernel) (by decide +kernel) h0 ?_
    refine j_istore_n g (i := 2) (by decide +kernel) (by decide) ?_
    dsimp only [stL, clL, hdL]
    refine j_aload_n g (i := 0) (by decide +kernel) rfl ?_
    refine j_iload_n g (i := 2) (by decide +kernel) rfl ?_
    refine j_cV1r g v8_243 ⟨rfl, by decide⟩ (by decide +kernel) (by decide +kernel) (Nat.le_of_ble_eq_true rfl) (rnX8_isWork) ?_
    refine j_if_eq g (off := 11) (tgt := 35) (by decide +kernel) (by decide) (fun c24 => ?_) (fun c24 => ?_)
    · rw [if_pos (show (b2i (0 ≤ ((l_X8_rightMany_2  (M, 0) (cntN (fun k => c_X8_rightMany_2  (l_X8_rightMany_2  (M, 0) k)) 7)).1.1 619 (Int32.toNatClampNeg ((3 : Int32) * ((l_X8_rightMany_2  (M, 0) (cntN (fun k => c_X8_rightMany_2  (l_X8_rightMany_2  (M, 0) k)) 7)).2)))) ∧ ((l_X8_rightMany_2  (M, 0) (cntN (fun k => c_X8_rightMany_2  (l_X8_rightMany_2  (M, 0) k)) 7)).1.1 619 (Int32.toNatClampNeg ((3 : Int32) * ((l_X8_rightMany_2  (M, 0) (cntN (fun k => c_X8_rightMany_2  (l_X8_rightMany_2  (M, 0) k)) 7)).2)))) ≤ (l_X8_rightMany_2  (M, 0) (cntN (fun k => c_X8_rightMany_2  (l_X8_rightMany_2  (M, 0) k)) 7)).1.1 600 2 - 1)) = 0 from c24)] at hp
      refine j_iload_n g (i := 1) (by decide +kernel) rfl ?_
      refine hr.1 _ _ _ _ (by decide +kernel) ⟨_, rfl, by first | rfl | exact b2i_nar | decide +kernel⟩ ?_ ?_
      · unfold r_X8_rightMany; first | (simp only [if_neg (show ¬ (((l_X8_rightMany_2  (M, 0) (cntN (fun k => c_X8_rightMany_2  (l_X8_rightMany_2  (M, 0) k)) 7)).1.1 600 42) ≤ ((l_X8_rightMany_2  (M, 0) (cntN (fun k => c_X8_rightMany_2  (l_X8_rightMany_2  (M, 0) k)) 7)).2)) from c7), if_pos (show (b2i (0 ≤ ((l_X8_rightMany_2  (M, 0) (cntN (fun k => c_X8_rightMany_2  (l_X8_rightMany_2  (M, 0) k)) 7)).1.1 619 (Int32.toNatClampNeg ((3 : Int32) * ((l_X8_rightMany_2  (M, 0) (cntN (fun k => c_X8_rightMany_2  (l_X8_rightMany_2  (M, 0) k)) 7)).2)))) ∧ ((l_X8_rightMany_2  (M, 0) (cntN (fun k => c_X8_rightMany_2  (l_X8_rightMany_2  (M, 0) k)) 7)).1.1 619 (Int32.toNatClampNeg ((3 : Int32) * ((l_X8_rightMany_2  (M, 0) (cntN (fun k => c_X8_rightMany_2  (l_X8_rightMany_2  (M, 0) k)) 7)).2)))) ≤ (l_X8_rightMany_2  (M, 0) (cntN (fun k => c_X8_rightMany_2  (l_X8_rightMany_2  (M, 0) k)) 7)).1.1 600 2 - 1)) = 0 from c24)]; done) | (simp only [if_neg (show ¬ (((l_X8_rightMany_2  (M, 0) (cntN (fun k => c_X8_rightMany_2  (l_X8_rightMany_2  (M, 0) k)) 7)).1.1 600 42) ≤ ((l_X8_rightMany_2  (M, 0) (cntN (fun k => c_X8_rightMany_2  (l_X8_rightMany_2  (M, 0) k)) 7)).2)) from c7), if_pos (show (b2i (0 ≤ ((l_X8_rightMany_2  (M, 0) (cntN (fun k => c_X8_rightMany_2  (l_X8_rightMany_2  (M, 0) k)) 7)).1.1 619 (Int32.toNatClampNeg ((3 : Int32) * ((l_X8_rightMany_2  (M, 0) (cntN (fun k => c_X8_rightMany_2  (l_X8_rightMany_2  (M, 0) k)) 7)).2)))) ∧ ((l_X8_rightMany_2  (M, 0) (cntN (fun k => c_X8_rightMany_2  (l_X8_rightMany_2  (M, 0) k)) 7)).1.1 619 (Int32.toNatClampNeg ((3 : Int32) * ((l_X8_rightMany_2  (M, 0) (cntN (fun k => c_X8_rightMany_2  (l_X8_rightMany_2  (M, 0) k)) 7)).2)))) ≤ (l_X8_rightMany_2  (M, 0) (cntN (fun k => c_X8_rightMany_2  (l_X8_rightMany_2  (M, 0) k)) 7)).1.1 600 2 - 1)) = 0 from c24)]; rfl) | rfl
      · unfold w_X8_rightMany; first | (simp only [if_neg (show ¬ (((l_X8_rightMany_2  (M, 0) (cntN (fun k => c_X8_rightMany_2  (l_X8_rightMany_2  (M, 0) k)) 7)).1.1 600 42) ≤ ((l_X8_rightMany_2  (M, 0) (cntN (fun k => c_X8_rightMany_2  (l_X8_rightMany_2  (M, 0) k)) 7)).2)) from c7), if_pos (show (b2i (0 ≤ ((l_X8_rightMany_2  (M, 0) (cntN (fun k => c_X8_rightMany_2  (l_X8_rightMany_2  (M, 0) k)) 7)).1.1 619 (Int32.toNatClampNeg ((3 : Int32) * ((l_X8_rightMany_2  (M, 0) (cntN (fun k => c_X8_rightMany_2  (l_X8_rightMany_2  (M, 0) k)) 7)).2)))) ∧ ((l_X8_rightMany_2  (M, 0) (cntN (fun k => c_X8_rightMany_2  (l_X8_rightMany_2  (M, 0) k)) 7)).1.1 619 (Int32.toNatClampNeg ((3 : Int32) * ((l_X8_rightMany_2  (M, 0) (cntN (fun k => c_X8_rightMany_2  (l_X8_rightMany_2  (M, 0) k)) 7)).2)))) ≤ (l_X8_rightMany_2  (M, 0) (cntN (fun k => c_X8_rightMany_2  (l_X8_rightMany_2  (M, 0) k)) 7)).1.1 600 2 - 1)) = 0 from c24)]; done) | (simp only [if_neg (show ¬ (((l_X8_rightMany_2  (M, 0) (cntN (fun k => c_X8_rightMany_2  (l_X8_rightMany_2  (M, 0) k)) 7)).1.1 600 42) ≤ ((l_X8_rightMany_2  (M, 0) (cntN (fun k => c_X8_rightMany_2  (l_X8_rightMany_2  (M, 0) k)) 7)).2)) from c7), if_pos (show (b2i (0 ≤ ((l_X8_rightMany_2  (M, 0) (cntN (fun k => c_X8_rightMany_2  (l_X8_rightMany_2  (M, 0) k)) 7)).1.1 619 (Int32.toNatClampNeg ((3 : Int32) * ((l_X8_rightMany_2  (M, 0) (cntN (fun k => c_X8_rightMany_2  (l_X8_rightMany_2  (M, 0) k)) 7)).2)))) ∧ ((l_X8_rightMany_2  (M, 0) (cntN (fun k => c_X8_rightMany_2  (l_X8_rightMany_2  (M, 0) k)) 7)).1.1 619 (Int32.toNatClampNeg ((3 : Int32) * ((l_X8_rightMany_2  (M, 0) (cntN (fun k => c_X8_rightMany_2  (l_X8_rightMany_2  (M, 0) k)) 7)).2)))) ≤ (l_X8_rightMany_2  (M, 0) (cntN (fun k => c_X8_rightMany_2  (l_X8_rightMany_2  (M, 0) k)) 7)).1.1 600 2 - 1)) = 0 from c24)]; rfl) | rfl
    · rw [if_neg (show ¬ ((b2i (0 ≤ ((l_X8_rightMany_2  (M, 0) (cntN (fun k => c_X8_rightMany_2  (l_X8_rightMany_2  (M, 0) k)) 7)).1.1 619 (Int32.toNatClampNeg ((3 : Int32) * ((l_X8_rightMany_2  (M, 0) (cntN (fun k => c_X8_rightMany_2  (l_X8_rightMany_2  (M, 0) k)) 7)).2)))) ∧ ((l_X8_rightMany_2  (M, 0) (cntN (fun k => c_X8_rightMany_2  (l_X8_rightMany_2  (M, 0) k)) 7)).1.1 619 (Int32.toNatClampNeg ((3 : Int32) * ((l_X8_rightMany_2  (M, 0) (cntN (fun k => c_X8_rightMany_2  (l_X8_rightMany_2  (M, 0) k)) 7)).2)))) ≤ (l_X8_rightMany_2  (M, 0) (cntN (fun k => c_X8_rightMany_2  (l_X8_rightMany_2  (M, 0) k)) 7)).1.1 600 2 - 1)) = 0) from c24)] at hp
      refine j_aload_n g (i := 0) (by decide +kernel) rfl ?_
      refine j_iload_n g (i := 2) (by decide +kernel) rfl ?_
      obtain ⟨h0, hp⟩ := hp
      refine j_cV1r g v8_295 ⟨rfl, by decide⟩ (by decide +kernel) (by decide +kernel) (Nat.le_of_ble_eq_true rfl) (rnX8_isFree h0) ?_
      refine j_if_ne g (off := 5) (tgt := 37) (by decide +kernel) (by decide) (fun c32 => ?_) (fun c32 => ?_)
      · rw [if_pos (show ¬ (r_X8_isFree (l_X8_rightMany_2  (M, 0) (cntN (fun k => c_X8_rightMany_2  (l_X8_rightMany_2  (M, 0) k)) 7)).1 ((l_X8_rightMany_2  (M, 0) (cntN (fun k => c_X8_rightMany_2  (l_X8_rightMany_2  (M, 0) k)) 7)).1.1 619 (Int32.toNatClampNeg ((3 : Int32) * ((l_X8_rightMany_2  (M, 0) (cntN (fun k => c_X8_rightMany_2  (l_X8_rightMany_2  (M, 0) k)) 7)).2))))) = 0 from c32)] at hp
        refine j_aload_n g (i := 0) (by decide +kernel) rfl ?_
        refine j_iload_n g (i := 2) (by decide +kernel) rfl ?_
        obtain ⟨h0, hp⟩ := hp
        refine j_cV1r g v8_301 ⟨rfl, by decide⟩ (by decide +kernel) (by decide +kernel) (Nat.le_of_ble_eq_true rfl) (rnX8_turns h0) ?_
        refine j_istore_n g (i := 3) (by decide +kernel) (by decide) ?_
        dsimp only [stL, clL, hdL]
        refine j_aload_n g (i := 0) (by decide +kernel) rfl ?_
        refine j_gA g (b := 619) f8_64 (by decide +kernel) (by decide +kernel) (by decide +kernel) (by decide +kernel) ?_
        refine j_iconst g (n := 3) (3) (by decide +kernel) rfl ?_
        refine j_iload_n g (i := 1) (by decide +kernel) rfl ?_
        refine j_imul g (by decide +kernel) ?_
        refine j_iconst g (n := 1) (1) (by decide +kernel) rfl ?_
        refine j_iadd g (by decide +kernel) ?_
        obtain ⟨h0, hp⟩ := hp
        refine j_ia g 18 (by decide +kernel) (by decide +kernel) (by decide +kernel) h0 ?_
        refine j_aload_n g (i := 0) (by decide +kernel) rfl ?_
        refine j_gA g (b := 607) f8_28 (by decide +kernel) (by decide +kernel) (by decide +kernel) (by decide +kernel) ?_
        refine j_aload_n g (i := 0) (by decide +kernel) rfl ?_
        refine j_gI g f8_240 (by decide +kernel) (by decide +kernel) (by decide +kernel) ?_
        refine j_bipush g (n := 21) (21) (by decide +kernel) (by decide +kernel) ?_
        refine j_iadd g (by decide +kernel) ?_
        obtain ⟨h0, hp⟩ := hp
        refine j_ia g 44 (by decide +kernel) (by decide +kernel) (by decide +kernel) h0 ?_
        refine j_icmp_ne g (off := 17) (tgt := 82) (by decide +kernel) (by decide) (fun c65 => ?_) (fun c65 => ?_)
        · rw [if_pos (show ¬ ((w_X8_turns (l_X8_rightMany_2  (M, 0) (cntN (fun k => c_X8_rightMany_2  (l_X8_rightMany_2  (M, 0) k)) 7)).1 ((l_X8_rightMany_2  (M, 0) (cntN (fun k => c_X8_rightMany_2  (l_X8_rightMany_2  (M, 0) k)) 7)).1.1 619 (Int32.toNatClampNeg ((3 : Int32) * ((l_X8_rightMany_2  (M, 0) (cntN (fun k => c_X8_rightMany_2  (l_X8_rightMany_2  (M, 0) k)) 7)).2))))).1 619 (Int32.toNatClampNeg (((3 : Int32) * ((l_X8_rightMany_2  (M, 0) (cntN (fun k => c_X8_rightMany_2  (l_X8_rightMany_2  (M, 0) k)) 7)).2)) + 1))) = ((w_X8_turns (l_X8_rightMany_2  (M, 0) (cntN (fun k => c_X8_rightMany_2  (l_X8_rightMany_2  (M, 0) k)) 7)).1 ((l_X8_rightMany_2  (M, 0) (cntN (fun k => c_X8_rightMany_2  (l_X8_rightMany_2  (M, 0) k)) 7)).1.1 619 (Int32.toNatClampNeg ((3 : Int32) * ((l_X8_rightMany_2  (M, 0) (cntN (fun k => c_X8_rightMany_2  (l_X8_rightMany_2  (M, 0) k)) 7)).2))))).1 607 (Int32.toNatClampNeg (((w_X8_turns (l_X8_rightMany_2  (M, 0) (cntN (fun k => c_X8_rightMany_2  (l_X8_rightMany_2  (M, 0) k)) 7)).1 ((l_X8_rightMany_2  (M, 0) (cntN (fun k => c_X8_rightMany_2  (l_X8_rightMany_2  (M, 0) k)) 7)).1.1 619 (Int32.toNatClampNeg ((3 : Int32) * ((l_X8_rightMany_2  (M, 0) (cntN (fun k => c_X8_rightMany_2  (l_X8_rightMany_2  (M, 0) k)) 7)).2))))).1 600 10) + 21))) from c65)] at hp
          refine j_iload_n g (i := 1) (by decide +kernel) rfl ?_
          refine hr.1 _ _ _ _ (by decide +kernel) ⟨_, rfl, by first | rfl | exact b2i_nar | decide +kernel⟩ ?_ ?_
          · unfold r_X8_rightMany; first | (simp only [if_neg (show ¬ (((l_X8_rightMany_2  (M, 0) (cntN (fun k => c_X8_rightMany_2  (l_X8_rightMany_2  (M, 0) k)) 7)).1.1 600 42) ≤ ((l_X8_rightMany_2  (M, 0) (cntN (fun k => c_X8_rightMany_2  (l_X8_rightMany_2  (M, 0) k)) 7)).2)) from c7), if_neg (show ¬ ((b2i (0 ≤ ((l_X8_rightMany_2  (M, 0) (cntN (fun k => c_X8_rightMany_2  (l_X8_rightMany_2  (M, 0) k)) 7)).1.1 619 (Int32.toNatClampNeg ((3 : Int32) * ((l_X8_rightMany_2  (M, 0) (cntN (fun k => c_X8_rightMany_2  (l_X8_rightMany_2  (M, 0) k)) 7)).2)))) ∧ ((l_X8_rightMany_2  (M, 0) (cntN (fun k => c_X8_rightMany_2  (l_X8_rightMany_2  (M, 0) k)) 7)).1.1 619 (Int32.toNatClampNeg ((3 : Int32) * ((l_X8_rightMany_2  (M, 0) (cntN (fun k => c_X8_rightMany_2  (l_X8_rightMany_2  (M, 0) k)) 7)).2)))) ≤ (l_X8_rightMany_2  (M, 0) (cntN (fun k => c_X8_rightMany_2  (l_X8_rightMany_2  (M, 0) k)) 7)).1.1 600 2 - 1)) = 0) from c24), if_pos (show ¬ (r_X8_isFree (l_X8_rightMany_2  (M, 0) (cntN (fun k => c_X8_rightMany_2  (l_X8_rightMany_2  (M, 0) k)) 7)).1 ((l_X8_rightMany_2  (M, 0) (cntN (fun k => c_X8_rightMany_2  (l_X8_rightMany_2  (M, 0) k)) 7)).1.1 619 (Int32.toNatClampNeg ((3 : Int32) * ((l_X8_rightMany_2  (M, 0) (cntN (fun k => c_X8_rightMany_2  (l_X8_rightMany_2  (M, 0) k)) 7)).2))))) = 0 from c32), if_pos (show ¬ ((w_X8_turns (l_X8_rightMany_2  (M, 0) (cntN (fun k => c_X8_rightMany_2  (l_X8_rightMany_2  (M, 0) k)) 7)).1 ((l_X8_rightMany_2  (M, 0) (cntN (fun k => c_X8_rightMany_2  (l_X8_rightMany_2  (M, 0) k)) 7)).1.1 619 (Int32.toNatClampNeg ((3 : Int32) * ((l_X8_rightMany_2  (M, 0) (cntN (fun k => c_X8_rightMany_2  (l_X8_rightMany_2  (M, 0) k)) 7)).2))))).1 619 (Int32.toNatClampNeg (((3 : Int32) * ((l_X8_rightMany_2  (M, 0) (cntN (fun k => c_X8_rightMany_2  (l_X8_rightMany_2  (M, 0) k)) 7)).2)) + 1))) = ((w_X8_turns (l_X8_rightMany_2  (M, 0) (cntN (fun k => c_X8_rightMany_2  (l_X8_rightMany_2  (M, 0) k)) 7)).1 ((l_X8_rightMany_2  (M, 0) (cntN (fun k => c_X8_rightMany_2  (l_X8_rightMany_2  (M, 0) k)) 7)).1.1 619 (Int32.toNatClampNeg ((3 : Int32) * ((l_X8_rightMany_2  (M, 0) (cntN (fun k => c_X8_rightMany_2  (l_X8_rightMany_2  (M, 0) k)) 7)).2))))).1 607 (Int32.toNatClampNeg (((w_X8_turns (l_X8_rightMany_2  (M, 0) (cntN (fun k => c_X8_rightMany_2  (l_X8_rightMany_2  (M, 0) k)) 7)).1 ((l_X8_rightMany_2  (M, 0) (cntN (fun k => c_X8_rightMany_2  (l_X8_rightMany_2  (M, 0) k)) 7)).1.1 619 (Int32.toNatClampNeg ((3 : Int32) * ((l_X8_rightMany_2  (M, 0) (cntN (fun k => c_X8_rightMany_2  (l_X8_rightMany_2  (M, 0) k)) 7)).2))))).1 600 10) + 21))) from c65)]; done) | (simp only [if_neg (show ¬ (((l_X8_rightMany_2  (M, 0) (cntN (fun k => c_X8_rightMany_2  (l_X8_rightMany_2  (M, 0) k)) 7)).1.1 600 42) ≤ ((l_X8_rightMany_2  (M, 0) (cntN (fun k => c_X8_rightMany_2  (l_X8_rightMany_2  (M, 0) k)) 7)).2)) from c7), if_neg (show ¬ ((b2i (0 ≤ ((l_X8_rightMany_2  (M, 0) (cntN (fun k => c_X8_rightMany_2  (l_X8_rightMany_2  (M, 0) k)) 7)).1.1 619 (Int32.toNatClampNeg ((3 : Int32) * ((l_X8_rightMany_2  (M, 0) (cntN (fun k => c_X8_rightMany_2  (l_X8_rightMany_2  (M, 0) k)) 7)).2)))) ∧ ((l_X8_rightMany_2  (M, 0) (cntN (fun k => c_X8_rightMany_2  (l_X8_rightMany_2  (M, 0) k)) 7)).1.1 619 (Int32.toNatClampNeg ((3 : Int32) * ((l_X8_rightMany_2  (M, 0) (cntN (fun k => c_X8_rightMany_2  (l_X8_rightMany_2  (M, 0) k)) 7)).2)))) ≤ (l_X8_rightMany_2  (M, 0) (cntN (fun k => c_X8_rightMany_2  (l_X8_rightMany_2  (M, 0) k)) 7)).1.1 600 2 - 1)) = 0) from c24), if_pos (show ¬ (r_X8_isFree (l_X8_rightMany_2  (M, 0) (cntN (fun k => c_X8_rightMany_2  (l_X8_rightMany_2  (M, 0) k)) 7)).1 ((l_X8_rightMany_2  (M, 0) (cntN (fun k => c_X8_rightMany_2  (l_X8_rightMany_2  (M, 0) k)) 7)).1.1 619 (Int32.toNatClampNeg ((3 : Int32) * ((l_X8_rightMany_2  (M, 0) (cntN (fun k => c_X8_rightMany_2  (l_X8_rightMany_2  (M, 0) k)) 7)).2))))) = 0 from c32), if_pos (show ¬ ((w_X8_turns (l_X8_rightMany_2  (M, 0) (cntN (fun k => c_X8_rightMany_2  (l_X8_rightMany_2  (M, 0) k)) 7)).1 ((l_X8_rightMany_2  (M, 0) (cntN (fun k => c_X8_rightMany_2  (l_X8_rightMany_2  (M, 0) k)) 7)).1.1 619 (Int32.toNatClampNeg ((3 : Int32) * ((l_X8_rightMany_2  (M, 0) (cntN (fun k => c_X8_rightMany_2  (l_X8_rightMany_2  (M, 0) k)) 7)).2))))).1 619 (Int32.toNatClampNeg (((3 : Int32) * ((l_X8_rightMany_2  (M, 0) (cntN (fun k => c_X8_rightMany_2  (l_X8_rightMany_2  (M, 0) k)) 7)).2)) + 1))) = ((w_X8_turns (l_X8_rightMany_2  (M, 0) (cntN (fun k => c_X8_rightMany_2  (l_X8_rightMany_2  (M, 0) k)) 7)).1 ((l_X8_rightMany_2  (M, 0) (cntN (fun k => c_X8_rightMany_2  (l_X8_rightMany_2  (M, 0) k)) 7)).1.1 619 (Int32.toNatClampNeg ((3 : Int32) * ((l_X8_rightMany_2  (M, 0) (cntN (fun k => c_X8_rightMany_2  (l_X8_rightMany_2  (M, 0) k)) 7)).2))))).1 607 (Int32.toNatClampNeg (((w_X8_turns (l_X8_rightMany_2  (M, 0) (cntN (fun k => c_X8_rightMany_2  (l_X8_rightMany_2  (M, 0) k)) 7)).1 ((l_X8_rightMany_2  (M, 0) (cntN (fun k => c_X8_rightMany_2  (l_X8_rightMany_2  (M, 0) k)) 7)).1.1 619 (Int32.toNatClampNeg ((3 : Int32) * ((l_X8_rightMany_2  (M, 0) (cntN (fun k => c_X8_rightMany_2  (l_X8_rightMany_2  (M, 0) k)) 7)).2))))).1 600 10) + 21))) from c65)]; rfl) | rfl
          · unfold w_X8_rightMany; first | (simp only [if_neg (show ¬ (((l_X8_rightMany_2  (M, 0) (cntN (fun k => c_X8_rightMany_2  (l_X8_rightMany_2  (M, 0) k)) 7)).1.1 600 42) ≤ ((l_X8_rightMany_2  (M, 0) (cntN (fun k => c_X8_rightMany_2  (l_X8_rightMany_2  (M, 0) k)) 7)).2)) from c7), if_neg (show ¬ ((b2i (0 ≤ ((l_X8_rightMany_2  (M, 0) (cntN (fun k => c_X8_rightMany_2  (l_X8_rightMany_2  (M, 0) k)) 7)).1.1 619 (Int32.toNatClampNeg ((3 : Int32) * ((l_X8_rightMany_2  (M, 0) (cntN (fun k => c_X8_rightMany_2  (l_X8_rightMany_2  (M, 0) k)) 7)).2)))) ∧ ((l_X8_rightMany_2  (M, 0) (cntN (fun k => c_X8_rightMany_2  (l_X8_rightMany_2  (M, 0) k)) 7)).1.1 619 (Int32.toNatClampNeg ((3 : Int32) * ((l_X8_rightMany_2  (M, 0) (cntN (fun k => c_X8_rightMany_2  (l_X8_rightMany_2  (M, 0) k)) 7)).2)))) ≤ (l_X8_rightMany_2  (M, 0) (cntN (fun k => c_X8_rightMany_2  (l_X8_rightMany_2  (M, 0) k)) 7)).1.1 600 2 - 1)) = 0) from c24), if_pos (show ¬ (r_X8_isFree (l_X8_rightMany_2  (M, 0) (cntN (fun k => c_X8_rightMany_2  (l_X8_rightMany_2  (M, 0) k)) 7)).1 ((l_X8_rightMany_2  (M, 0) (cntN (fun k => c_X8_rightMany_2  (l_X8_rightMany_2  (M, 0) k)) 7)).1.1 619 (Int32.toNatClampNeg ((3 : Int32) * ((l_X8_rightMany_2  (M, 0) (cntN (fun k => c_X8_rightMany_2  (l_X8_rightMany_2  (M, 0) k)) 7)).2))))) = 0 from c32), if_pos (show ¬ ((w_X8_turns (l_X8_rightMany_2  (M, 0) (cntN (fun k => c_X8_rightMany_2  (l_X8_rightMany_2  (M, 0) k)) 7)).1 ((l_X8_rightMany_2  (M, 0) (cntN (fun k => c_X8_rightMany_2  (l_X8_rightMany_2  (M, 0) k)) 7)).1.1 619 (Int32.toNatClampNeg ((3 : Int32) * ((l_X8_rightMany_2  (M, 0) (cntN (fun k => c_X8_rightMany_2  (l_X8_rightMany_2  (M, 0) k)) 7)).2))))).1 619 (Int32.toNatClampNeg (((3 : Int32) * ((l_X8_rightMany_2  (M, 0) (cntN (fun k => c_X8_rightMany_2  (l_X8_rightMany_2  (M, 0) k)) 7)).2)) + 1))) = ((w_X8_turns (l_X8_rightMany_2  (M, 0) (cntN (fun k => c_X8_rightMany_2  (l_X8_rightMany_2  (M, 0) k)) 7)).1 ((l_X8_rightMany_2  (M, 0) (cntN (fun k => c_X8_rightMany_2  (l_X8_rightMany_2  (M, 0) k)) 7)).1.1 619 (Int32.toNatClampNeg ((3 : Int32) * ((l_X8_rightMany_2  (M, 0) (cntN (fun k => c_X8_rightMany_2  (l_X8_rightMany_2  (M, 0) k)) 7)).2))))).1 607 (Int32.toNatClampNeg (((w_X8_turns (l_X8_rightMany_2  (M, 0) (cntN (fun k => c_X8_rightMany_2  (l_X8_rightMany_2  (M, 0) k)) 7)).1 ((l_X8_rightMany_2  (M, 0) (cntN (fun k => c_X8_rightMany_2  (l_X8_rightMany_2  (M, 0) k)) 7)).1.1 619 (Int32.toNatClampNeg ((3 : Int32) * ((l_X8_rightMany_2  (M, 0) (cntN (fun k => c_X8_rightMany_2  (l_X8_rightMany_2  (M, 0) k)) 7)).2))))).1 600 10) + 21))) from c65)]; done) | (simp only [if_neg (show ¬ (((l_X8_rightMany_2  (M, 0) (cntN (fun k => c_X8_rightMany_2  (l_X8_rightMany_2  (M, 0) k)) 7)).1.1 600 42) ≤ ((l_X8_rightMany_2  (M, 0) (cntN (fun k => c_X8_rightMany_2  (l_X8_rightMany_2  (M, 0) k)) 7)).2)) from c7), if_neg (show ¬ ((b2i (0 ≤ ((l_X8_rightMany_2  (M, 0) (cntN (fun k => c_X8_rightMany_2  (l_X8_rightMany_2  (M, 0) k)) 7)).1.1 619 (Int32.toNatClampNeg ((3 : Int32) * ((l_X8_rightMany_2  (M, 0) (cntN (fun k => c_X8_rightMany_2  (l_X8_rightMany_2  (M, 0) k)) 7)).2)))) ∧ ((l_X8_rightMany_2  (M, 0) (cntN (fun k => c_X8_rightMany_2  (l_X8_rightMany_2  (M, 0) k)) 7)).1.1 619 (Int32.toNatClampNeg ((3 : Int32) * ((l_X8_rightMany_2  (M, 0) (cntN (fun k => c_X8_rightMany_2  (l_X8_rightMany_2  (M, 0) k)) 7)).2)))) ≤ (l_X8_rightMany_2  (M, 0) (cntN (fun k => c_X8_rightMany_2  (l_X8_rightMany_2  (M, 0) k)) 7)).1.1 600 2 - 1)) = 0) from c24), if_pos (show ¬ (r_X8_isFree (l_X8_rightMany_2  (M, 0) (cntN (fun k => c_X8_rightMany_2  (l_X8_rightMany_2  (M, 0) k)) 7)).1 ((l_X8_rightMany_2  (M, 0) (cntN (fun k => c_X8_rightMany_2  (l_X8_rightMany_2  (M, 0) k)) 7)).1.1 619 (Int32.toNatClampNeg ((3 : Int32) * ((l_X8_rightMany_2  (M, 0) (cntN (fun k => c_X8_rightMany_2  (l_X8_rightMany_2  (M, 0) k)) 7)).2))))) = 0 from c32), if_pos (show ¬ ((w_X8_turns (l_X8_rightMany_2  (M, 0) (cntN (fun k => c_X8_rightMany_2  (l_X8_rightMany_2  (M, 0) k)) 7)).1 ((l_X8_rightMany_2  (M, 0) (cntN (fun k => c_X8_rightMany_2  (l_X8_rightMany_2  (M, 0) k)) 7)).1.1 619 (Int32.toNatClampNeg ((3 : Int32) * ((l_X8_rightMany_2  (M, 0) (cntN (fun k => c_X8_rightMany_2  (l_X8_rightMany_2  (M, 0) k)) 7)).2))))).1 619 (Int32.toNatClampNeg (((3 : Int32) * ((l_X8_rightMany_2  (M, 0) (cntN (fun k => c_X8_rightMany_2  (l_X8_rightMany_2  (M, 0) k)) 7)).2)) + 1))) = ((w_X8_turns (l_X8_rightMany_2  (M, 0) (cntN (fun k => c_X8_rightMany_2  (l_X8_rightMany_2  (M, 0) k)) 7)).1 ((l_X8_rightMany_2  (M, 0) (cntN (fun k => c_X8_rightMany_2  (l_X8_rightMany_2  (M, 0) k)) 7)).1.1 619 (Int32.toNatClampNeg ((3 : Int32) * ((l_X8_rightMany_2  (M, 0) (cntN (fun k => c_X8_rightMany_2  (l_X8_rightMany_2  (M, 0) k)) 7)).2))))).1 607 (Int32.toNatClampNeg (((w_X8_turns (l_X8_rightMany_2  (M, 0) (cntN (fun k => c_X8_rightMany_2  (l_X8_rightMany_2  (M, 0) k)) 7)).1 ((l_X8_rightMany_2  (M, 0) (cntN (fun k => c_X8_rightMany_2  (l_X8_rightMany_2  (M, 0) k)) 7)).1.1 619 (Int32.toNatClampNeg ((3 : Int32) * ((l_X8_rightMany_2  (M, 0) (cntN (fun k => c_X8_rightMany_2  (l_X8_rightMany_2  (M, 0) k)) 7)).2))))).1 600 10) + 21))) from c65)]; rfl) | rfl
        · rw [if_neg (show ¬ (¬ ((w_X8_turns (l_X8_rightMany_2  (M, 0) (cntN (fun k => c_X8_rightMany_2  (l_X8_rightMany_2  (M, 0) k)) 7)).1 ((l_X8_rightMany_2  (M, 0) (cntN (fun k => c_X8_rightMany_2  (l_X8_rightMany_2  (M, 0) k)) 7)).1.1 619 (Int32.toNatClampNeg ((3 : Int32) * ((l_X8_rightMany_2  (M, 0) (cntN (fun k => c_X8_rightMany_2  (l_X8_rightMany_2  (M, 0) k)) 7)).2))))).1 619 (Int32.toNatClampNeg (((3 : Int32) * ((l_X8_rightMany_2  (M, 0) (cntN (fun k => c_X8_rightMany_2  (l_X8_rightMany_2  (M, 0) k)) 7)).2)) + 1))) = ((w_X8_turns (l_X8_rightMany_2  (M, 0) (cntN (fun k => c_X8_rightMany_2  (l_X8_rightMany_2  (M, 0) k)) 7)).1 ((l_X8_rightMany_2  (M, 0) (cntN (fun k => c_X8_rightMany_2  (l_X8_rightMany_2  (M, 0) k)) 7)).1.1 619 (Int32.toNatClampNeg ((3 : Int32) * ((l_X8_rightMany_2  (M, 0) (cntN (fun k => c_X8_rightMany_2  (l_X8_rightMany_2  (M, 0) k)) 7)).2))))).1 607 (Int32.toNatClampNeg (((w_X8_turns (l_X8_rightMany_2  (M, 0) (cntN (fun k => c_X8_rightMany_2  (l_X8_rightMany_2  (M, 0) k)) 7)).1 ((l_X8_rightMany_2  (M, 0) (cntN (fun k => c_X8_rightMany_2  (l_X8_rightMany_2  (M, 0) k)) 7)).1.1 619 (Int32.toNatClampNeg ((3 : Int32) * ((l_X8_rightMany_2  (M, 0) (cntN (fun k => c_X8_rightMany_2  (l_X8_rightMany_2  (M, 0) k)) 7)).2))))).1 600 10) + 21)))) from c65)] at hp
          refine j_aload_n g (i := 0) (by decide +kernel) rfl ?_
          refine j_gA g (b := 619) f8_64 (by decide +kernel) (by decide +kernel) (by decide +kernel) (by decide +kernel) ?_
          refine j_iconst g (n := 3) (3) (by decide +kernel) rfl ?_
          refine j_iload_n g (i := 1) (by decide +kernel) rfl ?_
          refine j_imul g (by decide +kernel) ?_
          refine j_iconst g (n := 2) (2) (by decide +kernel) rfl ?_
          refine j_iadd g (by decide +kernel) ?_
          obtain ⟨h0, hp⟩ := hp
          refine j_ia g 18 (by decide +kernel) (by decide +kernel) (by decide +kernel) h0 ?_
          refine j_iload_n g (i := 3) (by decide +kernel) rfl ?_
          refine j_icmp_eq g (off := 5) (tgt := 84) (by decide +kernel) (by decide) (fun c79 => ?_) (fun c79 => ?_)
          · rw [if_pos (show ((w_X8_turns (l_X8_rightMany_2  (M, 0) (cntN (fun k => c_X8_rightMany_2  (l_X8_rightMany_2  (M, 0) k)) 7)).1 ((l_X8_rightMany_2  (M, 0) (cntN (fun k => c_X8_rightMany_2  (l_X8_rightMany_2  (M, 0) k)) 7)).1.1 619 (Int32.toNatClampNeg ((3 : Int32) * ((l_X8_rightMany_2  (M, 0) (cntN (fun k => c_X8_rightMany_2  (l_X8_rightMany_2  (M, 0) k)) 7)).2))))).1 619 (Int32.toNatClampNeg (((3 : Int32) * ((l_X8_rightMany_2  (M, 0) (cntN (fun k => c_X8_rightMany_2  (l_X8_rightMany_2  (M, 0) k)) 7)).2)) + 2))) = (r_X8_turns (l_X8_rightMany_2  (M, 0) (cntN (fun k => c_X8_rightMany_2  (l_X8_rightMany_2  (M, 0) k)) 7)).1 ((l_X8_rightMany_2  (M, 0) (cntN (fun k => c_X8_rightMany_2  (l_X8_rightMany_2  (M, 0) k)) 7)).1.1 619 (Int32.toNatClampNeg ((3 : Int32) * ((l_X8_rightMany_2  (M, 0) (cntN (fun k => c_X8_rightMany_2  (l_X8_rightMany_2  (M, 0) k)) 7)).2))))) from c79)] at hp
            refine absurd (ci_X8_rightMany_2.mpr ?_) hx_2_1
            simp only [if_neg (show ¬ (((l_X8_rightMany_2  (M, 0) (cntN (fun k => c_X8_rightMany_2  (l_X8_rightMany_2  (M, 0) k)) 7)).1.1 600 42) ≤ ((l_X8_rightMany_2  (M, 0) (cntN (fun k => c_X8_rightMany_2  (l_X8_rightMany_2  (M, 0) k)) 7)).2)) from c7), if_neg (show ¬ ((b2i (0 ≤ ((l_X8_rightMany_2  (M, 0) (cntN (fun k => c_X8_rightMany_2  (l_X8_rightMany_2  (M, 0) k)) 7)).1.1 619 (Int32.toNatClampNeg ((3 : Int32) * ((l_X8_rightMany_2  (M, 0) (cntN (fun k => c_X8_rightMany_2  (l_X8_rightMany_2  (M, 0) k)) 7)).2)))) ∧ ((l_X8_rightMany_2  (M, 0) (cntN (fun k => c_X8_rightMany_2  (l_X8_rightMany_2  (M, 0) k)) 7)).1.1 619 (Int32.toNatClampNeg ((3 : Int32) * ((l_X8_rightMany_2  (M, 0) (cntN (fun k => c_X8_rightMany_2  (l_X8_rightMany_2  (M, 0) k)) 7)).2)))) ≤ (l_X8_rightMany_2  (M, 0) (cntN (fun k => c_X8_rightMany_2  (l_X8_rightMany_2  (M, 0) k)) 7)).1.1 600 2 - 1)) = 0) from c24), if_pos (show ¬ (r_X8_isFree (l_X8_rightMany_2  (M, 0) (cntN (fun k => c_X8_rightMany_2  (l_X8_rightMany_2  (M, 0) k)) 7)).1 ((l_X8_rightMany_2  (M, 0) (cntN (fun k => c_X8_rightMany_2  (l_X8_rightMany_2  (M, 0) k)) 7)).1.1 619 (Int32.toNatClampNeg ((3 : Int32) * ((l_X8_rightMany_2  (M, 0) (cntN (fun k => c_X8_rightMany_2  (l_X8_rightMany_2  (M, 0) k)) 7)).2))))) = 0 from c32), if_neg (show ¬ (¬ ((w_X8_turns (l_X8_rightMany_2  (M, 0) (cntN (fun k => c_X8_rightMany_2  (l_X8_rightMany_2  (M, 0) k)) 7)).1 ((l_X8_rightMany_2  (M, 0) (cntN (fun k => c_X8_rightMany_2  (l_X8_rightMany_2  (M, 0) k)) 7)).1.1 619 (Int32.toNatClampNeg ((3 : Int32) * ((l_X8_rightMany_2  (M, 0) (cntN (fun k => c_X8_rightMany_2  (l_X8_rightMany_2  (M, 0) k)) 7)).2))))).1 619 (Int32.toNatClampNeg (((3 : Int32) * ((l_X8_rightMany_2  (M, 0) (cntN (fun k => c_X8_rightMany_2  (l_X8_rightMany_2  (M, 0) k)) 7)).2)) + 1))) = ((w_X8_turns (l_X8_rightMany_2  (M, 0) (cntN (fun k => c_X8_rightMany_2  (l_X8_rightMany_2  (M, 0) k)) 7)).1 ((l_X8_rightMany_2  (M, 0) (cntN (fun k => c_X8_rightMany_2  (l_X8_rightMany_2  (M, 0) k)) 7)).1.1 619 (Int32.toNatClampNeg ((3 : Int32) * ((l_X8_rightMany_2  (M, 0) (cntN (fun k => c_X8_rightMany_2  (l_X8_rightMany_2  (M, 0) k)) 7)).2))))).1 607 (Int32.toNatClampNeg (((w_X8_turns (l_X8_rightMany_2  (M, 0) (cntN (fun k => c_X8_rightMany_2  (l_X8_rightMany_2  (M, 0) k)) 7)).1 ((l_X8_rightMany_2  (M, 0) (cntN (fun k => c_X8_rightMany_2  (l_X8_rightMany_2  (M, 0) k)) 7)).1.1 619 (Int32.toNatClampNeg ((3 : Int32) * ((l_X8_rightMany_2  (M, 0) (cntN (fun k => c_X8_rightMany_2  (l_X8_rightMany_2  (M, 0) k)) 7)).2))))).1 600 10) + 21)))) from c65), if_pos (show ((w_X8_turns (l_X8_rightMany_2  (M, 0) (cntN (fun k => c_X8_rightMany_2  (l_X8_rightMany_2  (M, 0) k)) 7)).1 ((l_X8_rightMany_2  (M, 0) (cntN (fun k => c_X8_rightMany_2  (l_X8_rightMany_2  (M, 0) k)) 7)).1.1 619 (Int32.toNatClampNeg ((3 : Int32) * ((l_X8_rightMany_2  (M, 0) (cntN (fun k => c_X8_rightMany_2  (l_X8_rightMany_2  (M, 0) k)) 7)).2))))).1 619 (Int32.toNatClampNeg (((3 : Int32) * ((l_X8_rightMany_2  (M, 0) (cntN (fun k => c_X8_rightMany_2  (l_X8_rightMany_2  (M, 0) k)) 7)).2)) + 2))) = (r_X8_turns (l_X8_rightMany_2  (M, 0) (cntN (fun k => c_X8_rightMany_2  (l_X8_rightMany_2  (M, 0) k)) 7)).1 ((l_X8_rightMany_2  (M, 0) (cntN (fun k => c_X8_rightMany_2  (l_X8_rightMany_2  (M, 0) k)) 7)).1.1 619 (Int32.toNatClampNeg ((3 : Int32) * ((l_X8_rightMany_2  (M, 0) (cntN (fun k => c_X8_rightMany_2  (l_X8_rightMany_2  (M, 0) k)) 7)).2))))) from c79)]
          · rw [if_neg (show ¬ (((w_X8_turns (l_X8_rightMany_2  (M, 0) (cntN (fun k => c_X8_rightMany_2  (l_X8_rightMany_2  (M, 0) k)) 7)).1 ((l_X8_rightMany_2  (M, 0) (cntN (fun k => c_X8_rightMany_2  (l_X8_rightMany_2  (M, 0) k)) 7)).1.1 619 (Int32.toNatClampNeg ((3 : Int32) * ((l_X8_rightMany_2  (M, 0) (cntN (fun k => c_X8_rightMany_2  (l_X8_rightMany_2  (M, 0) k)) 7)).2))))).1 619 (Int32.toNatClampNeg (((3 : Int32) * ((l_X8_rightMany_2  (M, 0) (cntN (fun k => c_X8_rightMany_2  (l_X8_rightMany_2  (M, 0) k)) 7)).2)) + 2))) = (r_X8_turns (l_X8_rightMany_2  (M, 0) (cntN (fun k => c_X8_rightMany_2  (l_X8_rightMany_2  (M, 0) k)) 7)).1 ((l_X8_rightMany_2  (M, 0) (cntN (fun k => c_X8_rightMany_2  (l_X8_rightMany_2  (M, 0) k)) 7)).1.1 619 (Int32.toNatClampNeg ((3 : Int32) * ((l_X8_rightMany_2  (M, 0) (cntN (fun k => c_X8_rightMany_2  (l_X8_rightMany_2  (M, 0) k)) 7)).2)))))) from c79)] at hp
            refine j_iload_n g (i := 1) (by decide +kernel) rfl ?_
            refine hr.1 _ _ _ _ (by decide +kernel) ⟨_, rfl, by first | rfl | exact b2i_nar | decide +kernel⟩ ?_ ?_
            · unfold r_X8_rightMany; first | (simp only [if_neg (show ¬ (((l_X8_rightMany_2  (M, 0) (cntN (fun k => c_X8_rightMany_2  (l_X8_rightMany_2  (M, 0) k)) 7)).1.1 600 42) ≤ ((l_X8_rightMany_2  (M, 0) (cntN (fun k => c_X8_rightMany_2  (l_X8_rightMany_2  (M, 0) k)) 7)).2)) from c7), if_neg (show ¬ ((b2i (0 ≤ ((l_X8_rightMany_2  (M, 0) (cntN (fun k => c_X8_rightMany_2  (l_X8_rightMany_2  (M, 0) k)) 7)).1.1 619 (Int32.toNatClampNeg ((3 : Int32) * ((l_X8_rightMany_2  (M, 0) (cntN (fun k => c_X8_rightMany_2  (l_X8_rightMany_2  (M, 0) k)) 7)).2)))) ∧ ((l_X8_rightMany_2  (M, 0) (cntN (fun k => c_X8_rightMany_2  (l_X8_rightMany_2  (M, 0) k)) 7)).1.1 619 (Int32.toNatClampNeg ((3 : Int32) * ((l_X8_rightMany_2  (M, 0) (cntN (fun k => c_X8_rightMany_2  (l_X8_rightMany_2  (M, 0) k)) 7)).2)))) ≤ (l_X8_rightMany_2  (M, 0) (cntN (fun k => c_X8_rightMany_2  (l_X8_rightMany_2  (M, 0) k)) 7)).1.1 600 2 - 1)) = 0) from c24), if_pos (show ¬ (r_X8_isFree (l_X8_rightMany_2  (M, 0) (cntN (fun k => c_X8_rightMany_2  (l_X8_rightMany_2  (M, 0) k)) 7)).1 ((l_X8_rightMany_2  (M, 0) (cntN (fun k => c_X8_rightMany_2  (l_X8_rightMany_2  (M, 0) k)) 7)).1.1 619 (Int32.toNatClampNeg ((3 : Int32) * ((l_X8_rightMany_2  (M, 0) (cntN (fun k => c_X8_rightMany_2  (l_X8_rightMany_2  (M, 0) k)) 7)).2))))) = 0 from c32), if_neg (show ¬ (¬ ((w_X8_turns (l_X8_rightMany_2  (M, 0) (cntN (fun k => c_X8_rightMany_2  (l_X8_rightMany_2  (M, 0) k)) 7)).1 ((l_X8_rightMany_2  (M, 0) (cntN (fun k => c_X8_rightMany_2  (l_X8_rightMany_2  (M, 0) k)) 7)).1.1 619 (Int32.toNatClampNeg ((3 : Int32) * ((l_X8_rightMany_2  (M, 0) (cntN (fun k => c_X8_rightMany_2  (l_X8_rightMany_2  (M, 0) k)) 7)).2))))).1 619 (Int32.toNatClampNeg (((3 : Int32) * ((l_X8_rightMany_2  (M, 0) (cntN (fun k => c_X8_rightMany_2  (l_X8_rightMany_2  (M, 0) k)) 7)).2)) + 1))) = ((w_X8_turns (l_X8_rightMany_2  (M, 0) (cntN (fun k => c_X8_rightMany_2  (l_X8_rightMany_2  (M, 0) k)) 7)).1 ((l_X8_rightMany_2  (M, 0) (cntN (fun k => c_X8_rightMany_2  (l_X8_rightMany_2  (M, 0) k)) 7)).1.1 619 (Int32.toNatClampNeg ((3 : Int32) * ((l_X8_rightMany_2  (M, 0) (cntN (fun k => c_X8_rightMany_2  (l_X8_rightMany_2  (M, 0) k)) 7)).2))))).1 607 (Int32.toNatClampNeg (((w_X8_turns (l_X8_rightMany_2  (M, 0) (cntN (fun k => c_X8_rightMany_2  (l_X8_rightMany_2  (M, 0) k)) 7)).1 ((l_X8_rightMany_2  (M, 0) (cntN (fun k => c_X8_rightMany_2  (l_X8_rightMany_2  (M, 0) k)) 7)).1.1 619 (Int32.toNatClampNeg ((3 : Int32) * ((l_X8_rightMany_2  (M, 0) (cntN (fun k => c_X8_rightMany_2  (l_X8_rightMany_2  (M, 0) k)) 7)).2))))).1 600 10) + 21)))) from c65), if_neg (show ¬ (((w_X8_turns (l_X8_rightMany_2  (M, 0) (cntN (fun k => c_X8_rightMany_2  (l_X8_rightMany_2  (M, 0) k)) 7)).1 ((l_X8_rightMany_2  (M, 0) (cntN (fun k => c_X8_rightMany_2  (l_X8_rightMany_2  (M, 0) k)) 7)).1.1 619 (Int32.toNatClampNeg ((3 : Int32) * ((l_X8_rightMany_2  (M, 0) (cntN (fun k => c_X8_rightMany_2  (l_X8_rightMany_2  (M, 0) k)) 7)).2))))).1 619 (Int32.toNatClampNeg (((3 : Int32) * ((l_X8_rightMany_2  (M, 0) (cntN (fun k => c_X8_rightMany_2  (l_X8_rightMany_2  (M, 0) k)) 7)).2)) + 2))) = (r_X8_turns (l_X8_rightMany_2  (M, 0) (cntN (fun k => c_X8_rightMany_2  (l_X8_rightMany_2  (M, 0) k)) 7)).1 ((l_X8_rightMany_2  (M, 0) (cntN (fun k => c_X8_rightMany_2  (l_X8_rightMany_2  (M, 0) k)) 7)).1.1 619 (Int32.toNatClampNeg ((3 : Int32) * ((l_X8_rightMany_2  (M, 0) (cntN (fun k => c_X8_rightMany_2  (l_X8_rightMany_2  (M, 0) k)) 7)).2)))))) from c79)]; done) | (simp only [if_neg (show ¬ (((l_X8_rightMany_2  (M, 0) (cntN (fun k => c_X8_rightMany_2  (l_X8_rightMany_2  (M, 0) k)) 7)).1.1 600 42) ≤ ((l_X8_rightMany_2  (M, 0) (cntN (fun k => c_X8_rightMany_2  (l_X8_rightMany_2  (M, 0) k)) 7)).2)) from c7), if_neg (show ¬ ((b2i (0 ≤ ((l_X8_rightMany_2  (M, 0) (cntN (fun k => c_X8_rightMany_2  (l_X8_rightMany_2  (M, 0) k)) 7)).1.1 619 (Int32.toNatClampNeg ((3 : Int32) * ((l_X8_rightMany_2  (M, 0) (cntN (fun k => c_X8_rightMany_2  (l_X8_rightMany_2  (M, 0) k)) 7)).2)))) ∧ ((l_X8_rightMany_2  (M, 0) (cntN (fun k => c_X8_rightMany_2  (l_X8_rightMany_2  (M, 0) k)) 7)).1.1 619 (Int32.toNatClampNeg ((3 : Int32) * ((l_X8_rightMany_2  (M, 0) (cntN (fun k => c_X8_rightMany_2  (l_X8_rightMany_2  (M, 0) k)) 7)).2)))) ≤ (l_X8_rightMany_2  (M, 0) (cntN (fun k => c_X8_rightMany_2  (l_X8_rightMany_2  (M, 0) k)) 7)).1.1 600 2 - 1)) = 0) from c24), if_pos (show ¬ (r_X8_isFree (l_X8_rightMany_2  (M, 0) (cntN (fun k => c_X8_rightMany_2  (l_X8_rightMany_2  (M, 0) k)) 7)).1 ((l_X8_rightMany_2  (M, 0) (cntN (fun k => c_X8_rightMany_2  (l_X8_rightMany_2  (M, 0) k)) 7)).1.1 619 (Int32.toNatClampNeg ((3 : Int32) * ((l_X8_rightMany_2  (M, 0) (cntN (fun k => c_X8_rightMany_2  (l_X8_rightMany_2  (M, 0) k)) 7)).2))))) = 0 from c32), if_neg (show ¬ (¬ ((w_X8_turns (l_X8_rightMany_2  (M, 0) (cntN (fun k => c_X8_rightMany_2  (l_X8_rightMany_2  (M, 0) k)) 7)).1 ((l_X8_rightMany_2  (M, 0) (cntN (fun k => c_X8_rightMany_2  (l_X8_rightMany_2  (M, 0) k)) 7)).1.1 619 (Int32.toNatClampNeg ((3 : Int32) * ((l_X8_rightMany_2  (M, 0) (cntN (fun k => c_X8_rightMany_2  (l_X8_rightMany_2  (M, 0) k)) 7)).2))))).1 619 (Int32.toNatClampNeg (((3 : Int32) * ((l_X8_rightMany_2  (M, 0) (cntN (fun k => c_X8_rightMany_2  (l_X8_rightMany_2  (M, 0) k)) 7)).2)) + 1))) = ((w_X8_turns (l_X8_rightMany_2  (M, 0) (cntN (fun k => c_X8_rightMany_2  (l_X8_rightMany_2  (M, 0) k)) 7)).1 ((l_X8_rightMany_2  (M, 0) (cntN (fun k => c_X8_rightMany_2  (l_X8_rightMany_2  (M, 0) k)) 7)).1.1 619 (Int32.toNatClampNeg ((3 : Int32) * ((l_X8_rightMany_2  (M, 0) (cntN (fun k => c_X8_rightMany_2  (l_X8_rightMany_2  (M, 0) k)) 7)).2))))).1 607 (Int32.toNatClampNeg (((w_X8_turns (l_X8_rightMany_2  (M, 0) (cntN (fun k => c_X8_rightMany_2  (l_X8_rightMany_2  (M, 0) k)) 7)).1 ((l_X8_rightMany_2  (M, 0) (cntN (fun k => c_X8_rightMany_2  (l_X8_rightMany_2  (M, 0) k)) 7)).1.1 619 (Int32.toNatClampNeg ((3 : Int32) * ((l_X8_rightMany_2  (M, 0) (cntN (fun k => c_X8_rightMany_2  (l_X8_rightMany_2  (M, 0) k)) 7)).2))))).1 600 10) + 21)))) from c65), if_neg (show ¬ (((w_X8_turns (l_X8_rightMany_2  (M, 0) (cntN (fun k => c_X8_rightMany_2  (l_X8_rightMany_2  (M, 0) k)) 7)).1 ((l_X8_rightMany_2  (M, 0) (cntN (fun k => c_X8_rightMany_2  (l_X8_rightMany_2  (M, 0) k)) 7)).1.1 619 (Int32.toNatClampNeg ((3 : Int32) * ((l_X8_rightMany_2  (M, 0) (cntN (fun k => c_X8_rightMany_2  (l_X8_rightMany_2  (M, 0) k)) 7)).2))))).1 619 (Int32.toNatClampNeg (((3 : Int32) * ((l_X8_rightMany_2  (M, 0) (cntN (fun k => c_X8_rightMany_2  (l_X8_rightMany_2  (M, 0) k)) 7)).2)) + 2))) = (r_X8_turns (l_X8_rightMany_2  (M, 0) (cntN (fun k => c_X8_rightMany_2  (l_X8_rightMany_2  (M, 0) k)) 7)).1 ((l_X8_rightMany_2  (M, 0) (cntN (fun k => c_X8_rightMany_2  (l_X8_rightMany_2  (M, 0) k)) 7)).1.1 619 (Int32.toNatClampNeg ((3 : Int32) * ((l_X8_rightMany_2  (M, 0) (cntN (fun k => c_X8_rightMany_2  (l_X8_rightMany_2  (M, 0) k)) 7)).2)))))) from c79)]; rfl) | rfl
            · unfold w_X8_rightMany; first | (simp only [if_neg (show ¬ (((l_X8_rightMany_2  (M, 0) (cntN (fun k => c_X8_rightMany_2  (l_X8_rightMany_2  (M, 0) k)) 7)).1.1 600 42) ≤ ((l_X8_rightMany_2  (M, 0) (cntN (fun k => c_X8_rightMany_2  (l_X8_rightMany_2  (M, 0) k)) 7)).2)) from c7), if_neg (show ¬ ((b2i (0 ≤ ((l_X8_rightMany_2  (M, 0) (cntN (fun k => c_X8_rightMany_2  (l_X8_rightMany_2  (M, 0) k)) 7)).1.1 619 (Int32.toNatClampNeg ((3 : Int32) * ((l_X8_rightMany_2  (M, 0) (cntN (fun k => c_X8_rightMany_2  (l_X8_rightMany_2  (M, 0) k)) 7)).2)))) ∧ ((l_X8_rightMany_2  (M, 0) (cntN (fun k => c_X8_rightMany_2  (l_X8_rightMany_2  (M, 0) k)) 7)).1.1 619 (Int32.toNatClampNeg ((3 : Int32) * ((l_X8_rightMany_2  (M, 0) (cntN (fun k => c_X8_rightMany_2  (l_X8_rightMany_2  (M, 0) k)) 7)).2)))) ≤ (l_X8_rightMany_2  (M, 0) (cntN (fun k => c_X8_rightMany_2  (l_X8_rightMany_2  (M, 0) k)) 7)).1.1 600 2 - 1)) = 0) from c24), if_pos (show ¬ (r_X8_isFree (l_X8_rightMany_2  (M, 0) (cntN (fun k => c_X8_rightMany_2  (l_X8_rightMany_2  (M, 0) k)) 7)).1 ((l_X8_rightMany_2  (M, 0) (cntN (fun k => c_X8_rightMany_2  (l_X8_rightMany_2  (M, 0) k)) 7)).1.1 619 (Int32.toNatClampNeg ((3 : Int32) * ((l_X8_rightMany_2  (M, 0) (cntN (fun k => c_X8_rightMany_2  (l_X8_rightMany_2  (M, 0) k)) 7)).2))))) = 0 from c32), if_neg (show ¬ (¬ ((w_X8_turns (l_X8_rightMany_2  (M, 0) (cntN (fun k => c_X8_rightMany_2  (l_X8_rightMany_2  (M, 0) k)) 7)).1 ((l_X8_rightMany_2  (M, 0) (cntN (fun k => c_X8_rightMany_2  (l_X8_rightMany_2  (M, 0) k)) 7)).1.1 619 (Int32.toNatClampNeg ((3 : Int32) * ((l_X8_rightMany_2  (M, 0) (cntN (fun k => c_X8_rightMany_2  (l_X8_rightMany_2  (M, 0) k)) 7)).2))))).1 619 (Int32.toNatClampNeg (((3 : Int32) * ((l_X8_rightMany_2  (M, 0) (cntN (fun k => c_X8_rightMany_2  (l_X8_rightMany_2  (M, 0) k)) 7)).2)) + 1))) = ((w_X8_turns (l_X8_rightMany_2  (M, 0) (cntN (fun k => c_X8_rightMany_2  (l_X8_rightMany_2  (M, 0) k)) 7)).1 ((l_X8_rightMany_2  (M, 0) (cntN (fun k => c_X8_rightMany_2  (l_X8_rightMany_2  (M, 0) k)) 7)).1.1 619 (Int32.toNatClampNeg ((3 : Int32) * ((l_X8_rightMany_2  (M, 0) (cntN (fun k => c_X8_rightMany_2  (l_X8_rightMany_2  (M, 0) k)) 7)).2))))).1 607 (Int32.toNatClampNeg (((w_X8_turns (l_X8_rightMany_2  (M, 0) (cntN (fun k => c_X8_rightMany_2  (l_X8_rightMany_2  (M, 0) k)) 7)).1 ((l_X8_rightMany_2  (M, 0) (cntN (fun k => c_X8_rightMany_2  (l_X8_rightMany_2  (M, 0) k)) 7)).1.1 619 (Int32.toNatClampNeg ((3 : Int32) * ((l_X8_rightMany_2  (M, 0) (cntN (fun k => c_X8_rightMany_2  (l_X8_rightMany_2  (M, 0) k)) 7)).2))))).1 600 10) + 21)))) from c65), if_neg (show ¬ (((w_X8_turns (l_X8_rightMany_2  (M, 0) (cntN (fun k => c_X8_rightMany_2  (l_X8_rightMany_2  (M, 0) k)) 7)).1 ((l_X8_rightMany_2  (M, 0) (cntN (fun k => c_X8_rightMany_2  (l_X8_rightMany_2  (M, 0) k)) 7)).1.1 619 (Int32.toNatClampNeg ((3 : Int32) * ((l_X8_rightMany_2  (M, 0) (cntN (fun k => c_X8_rightMany_2  (l_X8_rightMany_2  (M, 0) k)) 7)).2))))).1 619 (Int32.toNatClampNeg (((3 : Int32) * ((l_X8_rightMany_2  (M, 0) (cntN (fun k => c_X8_rightMany_2  (l_X8_rightMany_2  (M, 0) k)) 7)).2)) + 2))) = (r_X8_turns (l_X8_rightMany_2  (M, 0) (cntN (fun k => c_X8_rightMany_2  (l_X8_rightMany_2  (M, 0) k)) 7)).1 ((l_X8_rightMany_2  (M, 0) (cntN (fun k => c_X8_rightMany_2  (l_X8_rightMany_2  (M, 0) k)) 7)).1.1 619 (Int32.toNatClampNeg ((3 : Int32) * ((l_X8_rightMany_2  (M, 0) (cntN (fun k => c_X8_rightMany_2  (l_X8_rightMany_2  (M, 0) k)) 7)).2)))))) from c79)]; done) | (simp only [if_neg (show ¬ (((l_X8_rightMany_2  (M, 0) (cntN (fun k => c_X8_rightMany_2  (l_X8_rightMany_2  (M, 0) k)) 7)).1.1 600 42) ≤ ((l_X8_rightMany_2  (M, 0) (cntN (fun k => c_X8_rightMany_2  (l_X8_rightMany_2  (M, 0) k)) 7)).2)) from c7), if_neg (show ¬ ((b2i (0 ≤ ((l_X8_rightMany_2  (M, 0) (cntN (fun k => c_X8_rightMany_2  (l_X8_rightMany_2  (M, 0) k)) 7)).1.1 619 (Int32.toNatClampNeg ((3 : Int32) * ((l_X8_rightMany_2  (M, 0) (cntN (fun k => c_X8_rightMany_2  (l_X8_rightMany_2  (M, 0) k)) 7)).2)))) ∧ ((l_X8_rightMany_2  (M, 0) (cntN (fun k => c_X8_rightMany_2  (l_X8_rightMany_2  (M, 0) k)) 7)).1.1 619 (Int32.toNatClampNeg ((3 : Int32) * ((l_X8_rightMany_2  (M, 0) (cntN (fun k => c_X8_rightMany_2  (l_X8_rightMany_2  (M, 0) k)) 7)).2)))) ≤ (l_X8_rightMany_2  (M, 0) (cntN (fun k => c_X8_rightMany_2  (l_X8_rightMany_2  (M, 0) k)) 7)).1.1 600 2 - 1)) = 0) from c24), if_pos (show ¬ (r_X8_isFree (l_X8_rightMany_2  (M, 0) (cntN (fun k => c_X8_rightMany_2  (l_X8_rightMany_2  (M, 0) k)) 7)).1 ((l_X8_rightMany_2  (M, 0) (cntN (fun k => c_X8_rightMany_2  (l_X8_rightMany_2  (M, 0) k)) 7)).1.1 619 (Int32.toNatClampNeg ((3 : Int32) * ((l_X8_rightMany_2  (M, 0) (cntN (fun k => c_X8_rightMany_2  (l_X8_rightMany_2  (M, 0) k)) 7)).2))))) = 0 from c32), if_neg (show ¬ (¬ ((w_X8_turns (l_X8_rightMany_2  (M, 0) (cntN (fun k => c_X8_rightMany_2  (l_X8_rightMany_2  (M, 0) k)) 7)).1 ((l_X8_rightMany_2  (M, 0) (cntN (fun k => c_X8_rightMany_2  (l_X8_rightMany_2  (M, 0) k)) 7)).1.1 619 (Int32.toNatClampNeg ((3 : Int32) * ((l_X8_rightMany_2  (M, 0) (cntN (fun k => c_X8_rightMany_2  (l_X8_rightMany_2  (M, 0) k)) 7)).2))))).1 619 (Int32.toNatClampNeg (((3 : Int32) * ((l_X8_rightMany_2  (M, 0) (cntN (fun k => c_X8_rightMany_2  (l_X8_rightMany_2  (M, 0) k)) 7)).2)) + 1))) = ((w_X8_turns (l_X8_rightMany_2  (M, 0) (cntN (fun k => c_X8_rightMany_2  (l_X8_rightMany_2  (M, 0) k)) 7)).1 ((l_X8_rightMany_2  (M, 0) (cntN (fun k => c_X8_rightMany_2  (l_X8_rightMany_2  (M, 0) k)) 7)).1.1 619 (Int32.toNatClampNeg ((3 : Int32) * ((l_X8_rightMany_2  (M, 0) (cntN (fun k => c_X8_rightMany_2  (l_X8_rightMany_2  (M, 0) k)) 7)).2))))).1 607 (Int32.toNatClampNeg (((w_X8_turns (l_X8_rightMany_2  (M, 0) (cntN (fun k => c_X8_rightMany_2  (l_X8_rightMany_2  (M, 0) k)) 7)).1 ((l_X8_rightMany_2  (M, 0) (cntN (fun k => c_X8_rightMany_2  (l_X8_rightMany_2  (M, 0) k)) 7)).1.1 619 (Int32.toNatClampNeg ((3 : Int32) * ((l_X8_rightMany_2  (M, 0) (cntN (fun k => c_X8_rightMany_2  (l_X8_rightMany_2  (M, 0) k)) 7)).2))))).1 600 10) + 21)))) from c65), if_neg (show ¬ (((w_X8_turns (l_X8_rightMany_2  (M, 0) (cntN (fun k => c_X8_rightMany_2  (l_X8_rightMany_2  (M, 0) k)) 7)).1 ((l_X8_rightMany_2  (M, 0) (cntN (fun k => c_X8_rightMany_2  (l_X8_rightMany_2  (M, 0) k)) 7)).1.1 619 (Int32.toNatClampNeg ((3 : Int32) * ((l_X8_rightMany_2  (M, 0) (cntN (fun k => c_X8_rightMany_2  (l_X8_rightMany_2  (M, 0) k)) 7)).2))))).1 619 (Int32.toNatClampNeg (((3 : Int32) * ((l_X8_rightMany_2  (M, 0) (cntN (fun k => c_X8_rightMany_2  (l_X8_rightMany_2  (M, 0) k)) 7)).2)) + 2))) = (r_X8_turns (l_X8_rightMany_2  (M, 0) (cntN (fun k => c_X8_rightMany_2  (l_X8_rightMany_2  (M, 0) k)) 7)).1 ((l_X8_rightMany_2  (M, 0) (cntN (fun k => c_X8_rightMany_2  (l_X8_rightMany_2  (M, 0) k)) 7)).1.1 619 (Int32.toNatClampNeg ((3 : Int32) * ((l_X8_rightMany_2  (M, 0) (cntN (fun k => c_X8_rightMany_2  (l_X8_rightMany_2  (M, 0) k)) 7)).2)))))) from c79)]; rfl) | rfl
      · rw [if_neg (show ¬ (¬ (r_X8_isFree (l_X8_rightMany_2  (M, 0) (cntN (fun k => c_X8_rightMany_2  (l_X8_rightMany_2  (M, 0) k)) 7)).1 ((l_X8_rightMany_2  (M, 0) (cntN (fun k => c_X8_rightMany_2  (l_X8_rightMany_2  (M, 0) k)) 7)).1.1 619 (Int32.toNatClampNeg ((3 : Int32) * ((l_X8_rightMany_2  (M, 0) (cntN (fun k => c_X8_rightMany_2  (l_X8_rightMany_2  (M, 0) k)) 7)).2))))) = 0) from c32)] at hp
        refine j_iload_n g (i := 1) (by decide +kernel) rfl ?_
        refine hr.1 _ _ _ _ (by decide +kernel) ⟨_, rfl, by first | rfl | exact b2i_nar | decide +kernel⟩ ?_ ?_
        · unfold r_X8_rightMany; first | (simp only [if_neg (show ¬ (((l_X8_rightMany_2  (M, 0) (cntN (fun k => c_X8_rightMany_2  (l_X8_rightMany_2  (M, 0) k)) 7)).1.1 600 42) ≤ ((l_X8_rightMany_2  (M, 0) (cntN (fun k => c_X8_rightMany_2  (l_X8_rightMany_2  (M, 0) k)) 7)).2)) from c7), if_neg (show ¬ ((b2i (0 ≤ ((l_X8_rightMany_2  (M, 0) (cntN (fun k => c_X8_rightMany_2  (l_X8_rightMany_2  (M, 0) k)) 7)).1.1 619 (Int32.toNatClampNeg ((3 : Int32) * ((l_X8_rightMany_2  (M, 0) (cntN (fun k => c_X8_rightMany_2  (l_X8_rightMany_2  (M, 0) k)) 7)).2)))) ∧ ((l_X8_rightMany_2  (M, 0) (cntN (fun k => c_X8_rightMany_2  (l_X8_rightMany_2  (M, 0) k)) 7)).1.1 619 (Int32.toNatClampNeg ((3 : Int32) * ((l_X8_rightMany_2  (M, 0) (cntN (fun k => c_X8_rightMany_2  (l_X8_rightMany_2  (M, 0) k)) 7)).2)))) ≤ (l_X8_rightMany_2  (M, 0) (cntN (fun k => c_X8_rightMany_2  (l_X8_rightMany_2  (M, 0) k)) 7)).1.1 600 2 - 1)) = 0) from c24), if_neg (show ¬ (¬ (r_X8_isFree (l_X8_rightMany_2  (M, 0) (cntN (fun k => c_X8_rightMany_2  (l_X8_rightMany_2  (M, 0) k)) 7)).1 ((l_X8_rightMany_2  (M, 0) (cntN (fun k => c_X8_rightMany_2  (l_X8_rightMany_2  (M, 0) k)) 7)).1.1 619 (Int32.toNatClampNeg ((3 : Int32) * ((l_X8_rightMany_2  (M, 0) (cntN (fun k => c_X8_rightMany_2  (l_X8_rightMany_2  (M, 0) k)) 7)).2))))) = 0) from c32)]; done) | (simp only [if_neg (show ¬ (((l_X8_rightMany_2  (M, 0) (cntN (fun k => c_X8_rightMany_2  (l_X8_rightMany_2  (M, 0) k)) 7)).1.1 600 42) ≤ ((l_X8_rightMany_2  (M, 0) (cntN (fun k => c_X8_rightMany_2  (l_X8_rightMany_2  (M, 0) k)) 7)).2)) from c7), if_neg (show ¬ ((b2i (0 ≤ ((l_X8_rightMany_2  (M, 0) (cntN (fun k => c_X8_rightMany_2  (l_X8_rightMany_2  (M, 0) k)) 7)).1.1 619 (Int32.toNatClampNeg ((3 : Int32) * ((l_X8_rightMany_2  (M, 0) (cntN (fun k => c_X8_rightMany_2  (l_X8_rightMany_2  (M, 0) k)) 7)).2)))) ∧ ((l_X8_rightMany_2  (M, 0) (cntN (fun k => c_X8_rightMany_2  (l_X8_rightMany_2  (M, 0) k)) 7)).1.1 619 (Int32.toNatClampNeg ((3 : Int32) * ((l_X8_rightMany_2  (M, 0) (cntN (fun k => c_X8_rightMany_2  (l_X8_rightMany_2  (M, 0) k)) 7)).2)))) ≤ (l_X8_rightMany_2  (M, 0) (cntN (fun k => c_X8_rightMany_2  (l_X8_rightMany_2  (M, 0) k)) 7)).1.1 600 2 - 1)) = 0) from c24), if_neg (show ¬ (¬ (r_X8_isFree (l_X8_rightMany_2  (M, 0) (cntN (fun k => c_X8_rightMany_2  (l_X8_rightMany_2  (M, 0) k)) 7)).1 ((l_X8_rightMany_2  (M, 0) (cntN (fun k => c_X8_rightMany_2  (l_X8_rightMany_2  (M, 0) k)) 7)).1.1 619 (Int32.toNatClampNeg ((3 : Int32) * ((l_X8_rightMany_2  (M, 0) (cntN (fun k => c_X8_rightMany_2  (l_X8_rightMany_2  (M, 0) k)) 7)).2))))) = 0) from c32)]; rfl) | rfl
        · unfold w_X8_rightMany; first | (simp only [if_neg (show ¬ (((l_X8_rightMany_2  (M, 0) (cntN (fun k => c_X8_rightMany_2  (l_X8_rightMany_2  (M, 0) k)) 7)).1.1 600 42) ≤ ((l_X8_rightMany_2  (M, 0) (cntN (fun k => c_X8_rightMany_2  (l_X8_rightMany_2  (M, 0) k)) 7)).2)) from c7), if_neg (show ¬ ((b2i (0 ≤ ((l_X8_rightMany_2  (M, 0) (cntN (fun k => c_X8_rightMany_2  (l_X8_rightMany_2  (M, 0) k)) 7)).1.1 619 (Int32.toNatClampNeg ((3 : Int32) * ((l_X8_rightMany_2  (M, 0) (cntN (fun k => c_X8_rightMany_2  (l_X8_rightMany_2  (M, 0) k)) 7)).2)))) ∧ ((l_X8_rightMany_2  (M, 0) (cntN (fun k => c_X8_rightMany_2  (l_X8_rightMany_2  (M, 0) k)) 7)).1.1 619 (Int32.toNatClampNeg ((3 : Int32) * ((l_X8_rightMany_2  (M, 0) (cntN (fun k => c_X8_rightMany_2  (l_X8_rightMany_2  (M, 0) k)) 7)).2)))) ≤ (l_X8_rightMany_2  (M, 0) (cntN (fun k => c_X8_rightMany_2  (l_X8_rightMany_2  (M, 0) k)) 7)).1.1 600 2 - 1)) = 0) from c24), if_neg (show ¬ (¬ (r_X8_isFree (l_X8_rightMany_2  (M, 0) (cntN (fun k => c_X8_rightMany_2  (l_X8_rightMany_2  (M, 0) k)) 7)).1 ((l_X8_rightMany_2  (M, 0) (cntN (fun k => c_X8_rightMany_2  (l_X8_rightMany_2  (M, 0) k)) 7)).1.1 619 (Int32.toNatClampNeg ((3 : Int32) * ((l_X8_rightMany_2  (M, 0) (cntN (fun k => c_X8_rightMany_2  (l_X8_rightMany_2  (M, 0) k)) 7)).2))))) = 0) from c32)]; done) | (simp only [if_neg (show ¬ (((l_X8_rightMany_2  (M, 0) (cntN (fun k => c_X8_rightMany_2  (l_X8_rightMany_2  (M, 0) k)) 7)).1.1 600 42) ≤ ((l_X8_rightMany_2  (M, 0) (cntN (fun k => c_X8_rightMany_2  (l_X8_rightMany_2  (M, 0) k)) 7)).2)) from c7), if_neg (show ¬ ((b2i (0 ≤ ((l_X8_rightMany_2  (M, 0) (cntN (fun k => c_X8_rightMany_2  (l_X8_rightMany_2  (M, 0) k)) 7)).1.1 619 (Int32.toNatClampNeg ((3 : Int32) * ((l_X8_rightMany_2  (M, 0) (cntN (fun k => c_X8_rightMany_2  (l_X8_rightMany_2  (M, 0) k)) 7)).2)))) ∧ ((l_X8_rightMany_2  (M, 0) (cntN (fun k => c_X8_rightMany_2  (l_X8_rightMany_2  (M, 0) k)) 7)).1.1 619 (Int32.toNatClampNeg ((3 : Int32) * ((l_X8_rightMany_2  (M, 0) (cntN (fun k => c_X8_rightMany_2  (l_X8_rightMany_2  (M, 0) k)) 7)).2)))) ≤ (l_X8_rightMany_2  (M, 0) (cntN (fun k => c_X8_rightMany_2  (l_X8_rightMany_2  (M, 0) k)) 7)).1.1 600 2 - 1)) = 0) from c24), if_neg (show ¬ (¬ (r_X8_isFree (l_X8_rightMany_2  (M, 0) (cntN (fun k => c_X8_rightMany_2  (l_X8_rightMany_2  (M, 0) k)) 7)).1 ((l_X8_rightMany_2  (M, 0) (cntN (fun k => c_X8_rightMany_2  (l_X8_rightMany_2  (M, 0) k)) 7)).1.1 619 (Int32.toNatClampNeg ((3 : Int32) * ((l_X8_rightMany_2  (M, 0) (cntN (fun k => c_X8_rightMany_2  (l_X8_rightMany_2  (M, 0) k)) 7)).2))))) = 0) from c32)]; rfl) | rfl
noncomputable def r_X8_judge (M : Mm)  : Int32 := if ((wi (w_X8_rightMany (w_X8_lends M)) 600 10 0).1 600 42) ≤ (r_X8_rightMany (w_X8_lends M)) then (if (r_X8_openMany (w_X8_rightMany (w_X8_lends M))) ≤ 0 then 0 else 222) else (r_X8_rightMany (w_X8_lends M)) + 1
noncomputable def w_X8_judge (M : Mm)  : Mm := (wi (w_X8_rightMany (w_X8_lends M)) 600 10 0)
def p_X8_judge (M : Mm)  : Prop := (p_X8_lends M ) ∧ (p_X8_rightMany (w_X8_lends M) ) ∧ (p_X8_openMany (w_X8_rightMany (w_X8_lends M)) ) ∧ (if ((wi (w_X8_rightMany (w_X8_lends M)) 600 10 0).1 600 42) ≤ (r_X8_rightMany (w_X8_lends M)) then (if (r_X8_openMany (w_X8_rightMany (w_X8_lends M))) ≤ 0 then True else True) else True)
set_option maxRecDepth 20000 in
theorem rnX8_judge {d : Nat} {M : Mm}   (hp : p_X8_judge M ) : Rn (d + 7) mX8_judge [.ref 600] M (some (.int (r_X8_judge M ))) (w_X8_judge M ) := by
  refine Rn.of [some (.ref 600), none, none] (by decide +kernel) rfl (Nat.le_of_ble_eq_true rfl) rfl (fun J g hr => ?_)
  unfold p_X8_judge at hp
  refine j_aload_n g (i := 0) (by decide +kernel) rfl ?_
  obtain ⟨h0, hp⟩ := hp
  refine j_cV0v g v8_310 ⟨rfl, by decide⟩ (by decide +kernel) (by decide +kernel) (Nat.le_of_ble_eq_true rfl) (rnX8_lends h0) ?_
  refine j_aload_n g (i := 0) (by decide +kernel) rfl ?_
  obtain ⟨h0, hp⟩ := hp
  refine j_cV0r g v8_398 ⟨rfl, by decide⟩ (by decide +kernel) (by decide +kernel) (Nat.le_of_ble_eq_true rfl) (rnX8_rightMany h0) ?_
  refine j_istore_n g (i := 1) (by decide +kernel) (by decide) ?_
  dsimp only [stL, clL, hdL]
  refine j_aload_n g (i := 0) (by decide +kernel) rfl ?_
  obtain ⟨h0, hp⟩ := hp
  refine j_cV0r g v8_304 ⟨rfl, by decide⟩ (by decide +kernel) (by decide +kernel) (Nat.le_of_ble_eq_true rfl) (rnX8_openMany h0) ?_
  refine j_istore_n g (i := 2) (by decide +kernel) (by decide) ?_
  dsimp only [stL, clL, hdL]
  refine j_aload_n g (i := 0) (by decide +kernel) rfl ?_
  refine j_iconst g (n := 0) (0) (by decide +kernel) rfl ?_
  refine j_pI g f8_240 (fun q h => by cases h; rfl) (by decide +kernel) (by decide +kernel) (by decide +kernel) ?_
  refine j_iload_n g (i := 1) (by decide +kernel) rfl ?_
  refine j_aload_n g (i := 0) (by decide +kernel) rfl ?_
  refine j_gI g f8_234 (by decide +kernel) (by decide +kernel) (by decide +kernel) ?_
  refine j_icmp_ge g (off := 9) (tgt := 33) (by decide +kernel) (by decide) (fun c24 => ?_) (fun c24 => ?_)
  · rw [if_pos (show ((wi (w_X8_rightMany (w_X8_lends M)) 600 10 0).1 600 42) ≤ (r_X8_rightMany (w_X8_lends M)) from c24)] at hp
    refine j_iload_n g (i := 2) (by decide +kernel) rfl ?_
    refine j_if_le g (off := 9) (tgt := 43) (by decide +kernel) (by decide) (fun c34 => ?_) (fun c34 => ?_)
    · rw [if_pos (show (r_X8_openMany (w_X8_rightMany (w_X8_lends M))) ≤ 0 from c34)] at hp
      refine j_iconst g (n := 0) (0) (by decide +kernel) rfl ?_
      refine hr.1 _ _ _ _ (by decide +kernel) ⟨_, rfl, by first | rfl | exact b2i_nar | decide +kernel⟩ ?_ ?_
      · unfold r_X8_judge; first | (simp only [if_pos (show ((wi (w_X8_rightMany (w_X8_lends M)) 600 10 0).1 600 42) ≤ (r_X8_rightMany (w_X8_lends M)) from c24), if_pos (show (r_X8_openMany (w_X8_rightMany (w_X8_lends M))) ≤ 0 from c34)]; done) | (simp only [if_pos (show ((wi (w_X8_rightMany (w_X8_lends M)) 600 10 0).1 600 42) ≤ (r_X8_rightMany (w_X8_lends M)) from c24), if_pos (show (r_X8_openMany (w_X8_rightMany (w_X8_lends M))) ≤ 0 from c34)]; rfl) | rfl
      · unfold w_X8_judge; first | (simp only [if_pos (show ((wi (w_X8_rightMany (w_X8_lends M)) 600 10 0).1 600 42) ≤ (r_X8_rightMany (w_X8_lends M)) from c24), if_pos (show (r_X8_openMany (w_X8_rightMany (w_X8_lends M))) ≤ 0 from c34)]; done) | (simp only [if_pos (show ((wi (w_X8_rightMany (w_X8_lends M)) 600 10 0).1 600 42) ≤ (r_X8_rightMany (w_X8_lends M)) from c24), if_pos (show (r_X8_openMany (w_X8_rightMany (w_X8_lends M))) ≤ 0 from c34)]; rfl) | rfl
    · rw [if_neg (show ¬ ((r_X8_openMany (w_X8_rightMany (w_X8_lends M))) ≤ 0) from c34)] at hp
      refine j_sipush g (n := 222) (222) (by decide +kernel) (by decide +kernel) ?_
      refine j_goto g (off := 4) (tgt := 44) (by decide +kernel) (by decide) ?_
      refine hr.1 _ _ _ _ (by decide +kernel) ⟨_, rfl, by first | rfl | exact b2i_nar | decide +kernel⟩ ?_ ?_
      · unfold r_X8_judge; first | (simp only [if_pos (show ((wi (w_X8_rightMany (w_X8_lends M)) 600 10 0).1 600 42) ≤ (r_X8_rightMany (w_X8_lends M)) from c24), if_neg (show ¬ ((r_X8_openMany (w_X8_rightMany (w_X8_lends M))) ≤ 0) from c34)]; done) | (simp only [if_pos (show ((wi (w_X8_rightMany (w_X8_lends M)) 600 10 0).1 600 42) ≤ (r_X8_rightMany (w_X8_lends M)) from c24), if_neg (show ¬ ((r_X8_openMany (w_X8_rightMany (w_X8_lends M))) ≤ 0) from c34)]; rfl) | rfl
      · unfold w_X8_judge; first | (simp only [if_pos (show ((wi (w_X8_rightMany (w_X8_lends M)) 600 10 0).1 600 42) ≤ (r_X8_rightMany (w_X8_lends M)) from c24), if_neg (show ¬ ((r_X8_openMany (w_X8_rightMany (w_X8_lends M))) ≤ 0) from c34)]; done) | (simp only [if_pos (show ((wi (w_X8_rightMany (w_X8_lends M)) 600 10 0).1 600 42) ≤ (r_X8_rightMany (w_X8_lends M)) from c24), if_neg (show ¬ ((r_X8_openMany (w_X8_rightMany (w_X8_lends M))) ≤ 0) from c34)]; rfl) | rfl
  · rw [if_neg (show ¬ (((wi (w_X8_rightMany (w_X8_lends M)) 600 10 0).1 600 42) ≤ (r_X8_rightMany (w_X8_lends M))) from c24)] at hp
    refine j_iload_n g (i := 1) (by decide +kernel) rfl ?_
    refine j_iconst g (n := 1) (1) (by decide +kernel) rfl ?_
    refine j_iadd g (by decide +kernel) ?_
    refine j_goto g (off := 14) (tgt := 44) (by decide +kernel) (by decide) ?_
    refine hr.1 _ _ _ _ (by decide +kernel) ⟨_, rfl, by first | rfl | exact b2i_nar | decide +kernel⟩ ?_ ?_
    · unfold r_X8_judge; first | (simp only [if_neg (show ¬ (((wi (w_X8_rightMany (w_X8_lends M)) 600 10 0).1 600 42) ≤ (r_X8_rightMany (w_X8_lends M))) from c24)]; done) | (simp only [if_neg (show ¬ (((wi (w_X8_rightMany (w_X8_lends M)) 600 10 0).1 600 42) ≤ (r_X8_rightMany (w_X8_lends M))) from c24)]; rfl) | rfl
    · unfold w_X8_judge; first | (simp only [if_neg (show ¬ (((wi (w_X8_rightMany (w_X8_lends M)) 600 10 0).1 600 42) ≤ (r_X8_rightMany (w_X8_lends M))) from c24)]; done) | (simp only [if_neg (show ¬ (((wi (w_X8_rightMany (w_X8_lends M)) 600 10 0).1 600 42) ≤ (r_X8_rightMany (w_X8_lends M))) from c24)]; rfl) | rfl
def c_X2_readDigits_42_137 (M : Mm) (a1 : Int32) (y2 : Int32) (y3 : Int32) (y4 : Int32) (y5 : Int32) (y6 : Int32) : Prop := True
noncomputable def s_X2_readDigits_42_137 (M : Mm) (a1 : Int32) (y2 : Int32) (y3 : Int32) (y4 : Int32) (y5 : Int32) (y6 : Int32) : Mm × Int32 × Int32 × Int32 := ((wi M 512 (Int32.toNatClampNeg y4) y5), y2 ||| ((1 : Int32) <<< (y5 &&& 31)), y3, y4 + 1)
def q_X2_readDigits_42_137 (M : Mm) (a1 : Int32) (y2 : Int32) (y3 : Int32) (y4 : Int32) (y5 : Int32) (y6 : Int32) : Prop := (vp_in y4 6) ∧ True
def c_X2_readDigits_42 (a1 : Int32) (σ : Mm × Int32 × Int32 × Int32) : Prop := if (σ.1.1 510 4) ≤ σ.2.2.2 then False else if (b2i (cOpen σ.1 1000 ((a1 >>> (((3 : Int32) * σ.2.2.2) &&& 31)) &&& 7))) = 0 then False else if (b2i (¬ (σ.2.1 >>> (((a1 >>> (((3 : Int32) * σ.2.2.2) &&& 31)) &&& 7) &&& 31)) &&& 1 = 0)) = 0 then True else False
theorem ci_X2_readDigits_42 {a1 : Int32}  {σ : Mm × Int32 × Int32 × Int32} : c_X2_readDigits_42 a1 σ ↔ (if (σ.1.1 510 4) ≤ σ.2.2.2 then False else if (b2i (cOpen σ.1 1000 ((a1 >>> (((3 : Int32) * σ.2.2.2) &&& 31)) &&& 7))) = 0 then False else if (b2i (¬ (σ.2.1 >>> (((a1 >>> (((3 : Int32) * σ.2.2.2) &&& 31)) &&& 7) &&& 31)) &&& 1 = 0)) = 0 then True else False) := Iff.rfl
noncomputable def s_X2_readDigits_42 (a1 : Int32) (σ : Mm × Int32 × Int32 × Int32) : Mm × Int32 × Int32 × Int32 := if (σ.1.1 510 4) ≤ σ.2.2.2 then σ else if (b2i (cOpen σ.1 1000 ((a1 >>> (((3 : Int32) * σ.2.2.2) &&& 31)) &&& 7))) = 0 then σ else if (b2i (¬ (σ.2.1 >>> (((a1 >>> (((3 : Int32) * σ.2.2.2) &&& 31)) &&& 7) &&& 31)) &&& 1 = 0)) = 0 then (if (b2i (cOpen σ.1 1000 (σ.1.1 (110 + Int32.toNatClampNeg ((a1 >>> (((3 : Int32) * σ.2.2.2) &&& 31)) &&& 7)) 6))) = 0 then s_X2_readDigits_42_137 σ.1 a1 σ.2.1 σ.2.2.1 σ.2.2.2 ((a1 >>> (((3 : Int32) * σ.2.2.2) &&& 31)) &&& 7) (σ.1.1 (110 + Int32.toNatClampNeg ((a1 >>> (((3 : Int32) * σ.2.2.2) &&& 31)) &&& 7)) 6) else if ¬ (b2i (¬ (σ.2.1 >>> ((σ.1.1 (110 + Int32.toNatClampNeg ((a1 >>> (((3 : Int32) * σ.2.2.2) &&& 31)) &&& 7)) 6) &&& 31)) &&& 1 = 0)) = 0 then s_X2_readDigits_42_137 σ.1 a1 σ.2.1 σ.2.2.1 σ.2.2.2 ((a1 >>> (((3 : Int32) * σ.2.2.2) &&& 31)) &&& 7) (σ.1.1 (110 + Int32.toNatClampNeg ((a1 >>> (((3 : Int32) * σ.2.2.2) &&& 31)) &&& 7)) 6) else s_X2_readDigits_42_137 σ.1 a1 σ.2.1 0 σ.2.2.2 ((a1 >>> (((3 : Int32) * σ.2.2.2) &&& 31)) &&& 7) (σ.1.1 (110 + Int32.toNatClampNeg ((a1 >>> (((3 : Int32) * σ.2.2.2) &&& 31)) &&& 7)) 6)) else σ
def q_X2_readDigits_42 (a1 : Int32) (σ : Mm × Int32 × Int32 × Int32) : Prop := (if (σ.1.1 510 4) ≤ σ.2.2.2 then True else ((σ.1.1 100 2).toInt ≤ 6) ∧ (if (b2i (cOpen σ.1 1000 ((a1 >>> (((3 : Int32) * σ.2.2.2) &&& 31)) &&& 7))) = 0 then True else (if (b2i (¬ (σ.2.1 >>> (((a1 >>> (((3 : Int32) * σ.2.2.2) &&& 31)) &&& 7) &&& 31)) &&& 1 = 0)) = 0 then (vp_in ((a1 >>> (((3 : Int32) * σ.2.2.2) &&& 31)) &&& 7) 6) ∧ ((σ.1.1 100 2).toInt ≤ 6) ∧ (if (b2i (cOpen σ.1 1000 (σ.1.1 (110 + Int32.toNatClampNeg ((a1 >>> (((3 : Int32) * σ.2.2.2) &&& 31)) &&& 7)) 6))) = 0 then q_X2_readDigits_42_137 σ.1 a1 σ.2.1 σ.2.2.1 σ.2.2.2 ((a1 >>> (((3 : Int32) * σ.2.2.2) &&& 31)) &&& 7) (σ.1.1 (110 + Int32.toNatClampNeg ((a1 >>> (((3 : Int32) * σ.2.2.2) &&& 31)) &&& 7)) 6) else (if ¬ (b2i (¬ (σ.2.1 >>> ((σ.1.1 (110 + Int32.toNatClampNeg ((a1 >>> (((3 : Int32) * σ.2.2.2) &&& 31)) &&& 7)) 6) &&& 31)) &&& 1 = 0)) = 0 then q_X2_readDigits_42_137 σ.1 a1 σ.2.1 σ.2.2.1 σ.2.2.2 ((a1 >>> (((3 : Int32) * σ.2.2.2) &&& 31)) &&& 7) (σ.1.1 (110 + Int32.toNatClampNeg ((a1 >>> (((3 : Int32) * σ.2.2.2) &&& 31)) &&& 7)) 6) else q_X2_readDigits_42_137 σ.1 a1 σ.2.1 0 σ.2.2.2 ((a1 >>> (((3 : Int32) * σ.2.2.2) &&& 31)) &&& 7) (σ.1.1 (110 + Int32.toNatClampNeg ((a1 >>> (((3 : Int32) * σ.2.2.2) &&& 31)) &&& 7)) 6))) else True)))
noncomputable def l_X2_readDigits_42 (a1 : Int32) (σ0 : Mm × Int32 × Int32 × Int32) : Nat → Mm × Int32 × Int32 × Int32 := itN (fun _ σ => s_X2_readDigits_42 a1 σ) σ0
theorem pj_X2_readDigits_42_137 {d : Nat} {J : Nat → Lc → List Value → Mm → Prop} {M : Mm} {a1 : Int32}  {y2 : Int32} {y3 : Int32} {y4 : Int32} {y5 : Int32} {y6 : Int32}  (g : Good mX2_readDigits.1 mX2_readDigits.2.2.1 mX2_readDigits.2.2.2.1 (d + 3) J) (hc : c_X2_readDigits_42_137 M a1 y2 y3 y4 y5 y6) (hp : q_X2_readDigits_42_137 M a1 y2 y3 y4 y5 y6) (k : ∀ (j5 j6 : Option Value), J 42 [some (.ref 510), some (.int a1), some (.int ((s_X2_readDigits_42_137 M a1 y2 y3 y4 y5 y6).2.1)), some (.int ((s_X2_readDigits_42_137 M a1 y2 y3 y4 y5 y6).2.2.1)), some (.int ((s_X2_readDigits_42_137 M a1 y2 y3 y4 y5 y6).2.2.2)), j5, j6] [] ((s_X2_readDigits_42_137 M a1 y2 y3 y4 y5 y6).1)) : J 137 [some (.ref 510), some (.int a1), some (.int y2), some (.int y3), some (.int y4), some (.int y5), some (.int y6)] [] M := by
  unfold c_X2_readDigits_42_137 at hc
  unfold q_X2_readDigits_42_137 at hp
  unfold s_X2_readDigits_42_137 at k
  refine j_iload_n g (i := 2) (by decide +kernel) rfl ?_
  refine j_iconst g (n := 1) (1) (by decide +kernel) rfl ?_
  refine j_iload g (i := 5) (by decide +kernel) rfl ?_
  refine j_ishl g (by decide +kernel) ?_
  refine j_ior g (by decide +kernel) ?_
  refine j_istore_n g (i := 2) (by decide +kernel) (by decide) ?_
  dsimp only [stL, clL, hdL]
  refine j_aload_n g (i := 0) (by decide +kernel) rfl ?_
  refine j_gA g (b := 512) f2_24 (by decide +kernel) (by decide +kernel) (by decide +kernel) (by decide +kernel) ?_
  refine j_iload g (i := 4) (by decide +kernel) rfl ?_
  refine j_iload g (i := 5) (by decide +kernel) rfl ?_
  obtain ⟨h0, hp⟩ := hp
  refine j_is g 6 (by decide +kernel) (by decide +kernel) (by decide +kernel) h0 ?_
  refine j_iinc g (i := 4) (n := 1) (1) (by decide +kernel) rfl (by decide) rfl ?_
  dsimp only [stL, clL, hdL]
  refine j_goto g (off := -114) (tgt := 42) (by decide +kernel) (by decide) ?_
  exact k _ _
theorem ps_X2_readDigits_42 {d : Nat} {J : Nat → Lc → List Value → Mm → Prop} {a1 : Int32}  {σ : Mm × Int32 × Int32 × Int32}  (g : Good mX2_readDigits.1 mX2_readDigits.2.2.1 mX2_readDigits.2.2.2.1 (d + 3) J) (hc : c_X2_readDigits_42 a1 σ) (hp : q_X2_readDigits_42 a1 σ) (k : ∀ (j5 j6 : Option Value), J 42 [some (.ref 510), some (.int a1), some (.int ((s_X2_readDigits_42 a1 σ).2.1)), some (.int ((s_X2_readDigits_42 a1 σ).2.2.1)), some (.int ((s_X2_readDigits_42 a1 σ).2.2.2)), j5, j6] [] ((s_X2_readDigits_42 a1 σ).1)) : ∀ (j5 j6 : Option Value), J 42 [some (.ref 510), some (.int a1), some (.int σ.2.1), some (.int σ.2.2.1), some (.int σ.2.2.2), j5, j6] [] σ.1 := by
  intro j5 j6
  unfold c_X2_readDigits_42 at hc
  unfold q_X2_readDigits_42 at hp
  unfold s_X2_readDigits_42 at k
  refine j_iload g (i := 4) (by decide +kernel) rfl ?_
  refine j_aload_n g (i := 0) (by decide +kernel) rfl ?_
  refine j_gI g f2_31 (by decide +kernel) (by decide +kernel) (by decide +kernel) ?_
  refine j_icmp_ge g (off := 111) (tgt := 159) (by decide +kernel) (by decide) (fun c48 => ?_) (fun c48 => ?_)
  · (try rw [if_pos (show (σ.1.1 510 4) ≤ σ.2.2.2 from c48)] at hc); (rw [if_pos (show (σ.1.1 510 4) ≤ σ.2.2.2 from c48)] at hp); (try simp only [if_pos (show (σ.1.1 510 4) ≤ σ.2.2.2 from c48)] at k)
    exact hc.elim
  · (try rw [if_neg (show ¬ ((σ.1.1 510 4) ≤ σ.2.2.2) from c48)] at hc); (rw [if_neg (show ¬ ((σ.1.1 510 4) ≤ σ.2.2.2) from c48)] at hp); (try simp only [if_neg (show ¬ ((σ.1.1 510 4) ≤ σ.2.2.2) from c48)] at k)
    refine j_iload_n g (i := 1) (by decide +kernel) rfl ?_
    refine j_iconst g (n := 3) (3) (by decide +kernel) rfl ?_
    refine j_iload g (i := 4) (by decide +kernel) rfl ?_
    refine j_imul g (by decide +kernel) ?_
    refine j_ishr g (by decide +kernel) ?_
    refine j_bipush g (n := 7) (7) (by decide +kernel) (by decide +kernel) ?_
    refine j_iand g (by decide +kernel) ?_
    refine j_istore g (i := 5) (by decide +kernel) (by decide) ?_
    dsimp only [stL, clL, hdL]
    refine j_aload_n g (i := 0) (by decide +kernel) rfl ?_
    refine j_gA g (b := 100) f2_12 (by decide +kernel) (by decide +kernel) (by decide +kernel) (by decide +kernel) ?_
    refine j_aload_n g (i := 0) (by decide +kernel) rfl ?_
    refine j_gA g (b := 100) f2_12 (by decide +kernel) (by decide +kernel) (by decide +kernel) (by decide +kernel) ?_
    refine j_gA g (b := 1000) f2_59 (by decide +kernel) (by decide +kernel) (by decide +kernel) (by decide +kernel) ?_
    refine j_iload g (i := 5) (by decide +kernel) rfl ?_
    obtain ⟨h0, hp⟩ := hp
    refine j_cV2r g v2_67 ⟨rfl, by decide⟩ (by decide +kernel) (by decide +kernel) (Nat.le_of_ble_eq_true rfl) (rnX5_isOpen h0 (by simp [isS])) ?_
    refine j_if_eq g (off := 12) (tgt := 90) (by decide +kernel) (by decide) (fun c78 => ?_) (fun c78 => ?_)
    · (try rw [if_pos (show (b2i (cOpen σ.1 1000 ((a1 >>> (((3 : Int32) * σ.2.2.2) &&& 31)) &&& 7))) = 0 from c78)] at hc); (rw [if_pos (show (b2i (cOpen σ.1 1000 ((a1 >>> (((3 : Int32) * σ.2.2.2) &&& 31)) &&& 7))) = 0 from c78)] at hp); (try simp only [if_pos (show (b2i (cOpen σ.1 1000 ((a1 >>> (((3 : Int32) * σ.2.2.2) &&& 31)) &&& 7))) = 0 from c78)] at k)
      exact hc.elim
    · (try rw [if_neg (show ¬ ((b2i (cOpen σ.1 1000 ((a1 >>> (((3 : Int32) * σ.2.2.2) &&& 31)) &&& 7))) = 0) from c78)] at hc); (rw [if_neg (show ¬ ((b2i (cOpen σ.1 1000 ((a1 >>> (((3 : Int32) * σ.2.2.2) &&& 31)) &&& 7))) = 0) from c78)] at hp); (try simp only [if_neg (show ¬ ((b2i (cOpen σ.1 1000 ((a1 >>> (((3 : Int32) * σ.2.2.2) &&& 31)) &&& 7))) = 0) from c78)] at k)
      refine j_iload_n g (i := 2) (by decide +kernel) rfl ?_
      refine j_iload g (i := 5) (by decide +kernel) rfl ?_
      refine j_cS2r g s2_71 (by decide +kernel) (Nat.le_of_ble_eq_true rfl) (rnX2_isIn) ?_
      refine j_if_eq g (off := 5) (tgt := 92) (by decide +kernel) (by decide) (fun c87 => ?_) (fun c87 => ?_)
      · (try rw [if_pos (show (b2i (¬ (σ.2.1 >>> (((a1 >>> (((3 : Int32) * σ.2.2.2) &&& 31)) &&& 7) &&& 31)) &&& 1 = 0)) = 0 from c87)] at hc); (rw [if_pos (show (b2i (¬ (σ.2.1 >>> (((a1 >>> (((3 : Int32) * σ.2.2.2) &&& 31)) &&& 7) &&& 31)) &&& 1 = 0)) = 0 from c87)] at hp); (try simp only [if_pos (show (b2i (¬ (σ.2.1 >>> (((a1 >>> (((3 : Int32) * σ.2.2.2) &&& 31)) &&& 7) &&& 31)) &&& 1 = 0)) = 0 from c87)] at k)
        refine j_aload_n g (i := 0) (by decide +kernel) rfl ?_
        refine j_gA g (b := 100) f2_12 (by decide +kernel) (by decide +kernel) (by decide +kernel) (by decide +kernel) ?_
        refine j_gA g (b := 103) f2_75 (by decide +kernel) (by decide +kernel) (by decide +kernel) (by decide +kernel) ?_
        refine j_iload g (i := 5) (by decide +kernel) rfl ?_
        obtain ⟨h0, hp⟩ := hp
        refine j_aW g 6 (by decide +kernel) (by decide +kernel) (by decide +kernel) h0 (rfW103 h0) ?_
        have hw101 := h0
        refine j_gI g f2_79 (by decide +kernel) (by decide +kernel) (gkW103 hw101) ?_
        refine j_istore g (i := 6) (by decide +kernel) (by decide) ?_
        dsimp only [stL, clL, hdL]
        refine j_aload_n g (i := 0) (by decide +kernel) rfl ?_
        refine j_gA g (b := 100) f2_12 (by decide +kernel) (by decide +kernel) (by decide +kernel) (by decide +kernel) ?_
        refine j_aload_n g (i := 0) (by decide +kernel) rfl ?_
        refine j_gA g (b := 100) f2_12 (by decide +kernel) (by decide +kernel) (by decide +kernel) (by decide +kernel) ?_
        refine j_gA g (b := 1000) f2_59 (by decide +kernel) (by decide +kernel) (by decide +kernel) (by decide +kernel) ?_
        refine j_iload g (i := 6) (by decide +kernel) rfl ?_
        obtain ⟨h0, hp⟩ := hp
        refine j_cV2r g v2_67 ⟨rfl, by decide⟩ (by decide +kernel) (by decide +kernel) (Nat.le_of_ble_eq_true rfl) (rnX5_isOpen h0 (by simp [isS])) ?_
        refine j_if_eq g (off := 14) (tgt := 137) (by decide +kernel) (by decide) (fun c123 => ?_) (fun c123 => ?_)
        · (try rw [if_pos (show (b2i (cOpen σ.1 1000 (σ.1.1 (110 + Int32.toNatClampNeg ((a1 >>> (((3 : Int32) * σ.2.2.2) &&& 31)) &&& 7)) 6))) = 0 from c123)] at hc); (rw [if_pos (show (b2i (cOpen σ.1 1000 (σ.1.1 (110 + Int32.toNatClampNeg ((a1 >>> (((3 : Int32) * σ.2.2.2) &&& 31)) &&& 7)) 6))) = 0 from c123)] at hp); (try simp only [if_pos (show (b2i (cOpen σ.1 1000 (σ.1.1 (110 + Int32.toNatClampNeg ((a1 >>> (((3 : Int32) * σ.2.2.2) &&& 31)) &&& 7)) 6))) = 0 from c123)] at k)
          exact pj_X2_readDigits_42_137  g trivial hp k 
        · (try rw [if_neg (show ¬ ((b2i (cOpen σ.1 1000 (σ.1.1 (110 + Int32.toNatClampNeg ((a1 >>> (((3 : Int32) * σ.2.2.2) &&& 31)) &&& 7)) 6))) = 0) from c123)] at hc); (rw [if_neg (show ¬ ((b2i (cOpen σ.1 1000 (σ.1.1 (110 + Int32.toNatClampNeg ((a1 >>> (((3 : Int32) * σ.2.2.2) &&& 31)) &&& 7)) 6))) = 0) from c123)] at hp); (try simp only [if_neg (show ¬ ((b2i (cOpen σ.1 1000 (σ.1.1 (110 + Int32.toNatClampNeg ((a1 >>> (((3 : Int32) * σ.2.2.2) &&& 31)) &&& 7)) 6))) = 0) from c123)] at k)
          refine j_iload_n g (i := 2) (by decide +kernel) rfl ?_
          refine j_iload g (i := 6) (by decide +kernel) rfl ?_
          refine j_cS2r g s2_71 (by decide +kernel) (Nat.le_of_ble_eq_true rfl) (rnX2_isIn) ?_
          refine j_if_ne g (off := 5) (tgt := 137) (by decide +kernel) (by decide) (fun c132 => ?_) (fun c132 => ?_)
          · (try rw [if_pos (show ¬ (b2i (¬ (σ.2.1 >>> ((σ.1.1 (110 + Int32.toNatClampNeg ((a1 >>> (((3 : Int32) * σ.2.2.2) &&& 31)) &&& 7)) 6) &&& 31)) &&& 1 = 0)) = 0 from c132)] at hc); (rw [if_pos (show ¬ (b2i (¬ (σ.2.1 >>> ((σ.1.1 (110 + Int32.toNatClampNeg ((a1 >>> (((3 : Int32) * σ.2.2.2) &&& 31)) &&& 7)) 6) &&& 31)) &&& 1 = 0)) = 0 from c132)] at hp); (try simp only [if_pos (show ¬ (b2i (¬ (σ.2.1 >>> ((σ.1.1 (110 + Int32.toNatClampNeg ((a1 >>> (((3 : Int32) * σ.2.2.2) &&& 31)) &&& 7)) 6) &&& 31)) &&& 1 = 0)) = 0 from c132)] at k)
            exact pj_X2_readDigits_42_137  g trivial hp k 
          · (try rw [if_neg (show ¬ (¬ (b2i (¬ (σ.2.1 >>> ((σ.1.1 (110 + Int32.toNatClampNeg ((a1 >>> (((3 : Int32) * σ.2.2.2) &&& 31)) &&& 7)) 6) &&& 31)) &&& 1 = 0)) = 0) from c132)] at hc); (rw [if_neg (show ¬ (¬ (b2i (¬ (σ.2.1 >>> ((σ.1.1 (110 + Int32.toNatClampNeg ((a1 >>> (((3 : Int32) * σ.2.2.2) &&& 31)) &&& 7)) 6) &&& 31)) &&& 1 = 0)) = 0) from c132)] at hp); (try simp only [if_neg (show ¬ (¬ (b2i (¬ (σ.2.1 >>> ((σ.1.1 (110 + Int32.toNatClampNeg ((a1 >>> (((3 : Int32) * σ.2.2.2) &&& 31)) &&& 7)) 6) &&& 31)) &&& 1 = 0)) = 0) from c132)] at k)
            refine j_iconst g (n := 0) (0) (by decide +kernel) rfl ?_
            refine j_istore_n g (i := 3) (by decide +kernel) (by decide) ?_
            dsimp only [stL, clL, hdL]
            exact pj_X2_readDigits_42_137  g trivial hp k 
      · (try rw [if_neg (show ¬ ((b2i (¬ (σ.2.1 >>> (((a1 >>> (((3 : Int32) * σ.2.2.2) &&& 31)) &&& 7) &&& 31)) &&& 1 = 0)) = 0) from c87)] at hc); (rw [if_neg (show ¬ ((b2i (¬ (σ.2.1 >>> (((a1 >>> (((3 : Int32) * σ.2.2.2) &&& 31)) &&& 7) &&& 31)) &&& 1 = 0)) = 0) from c87)] at hp); (try simp only [if_neg (show ¬ ((b2i (¬ (σ.2.1 >>> (((a1 >>> (((3 : Int32) * σ.2.2.2) &&& 31)) &&& 7) &&& 31)) &&& 1 = 0)) = 0) from c87)] at k)
        exact hc.elim
theorem sh_X2_readDigits_42 {d : Nat} {J : Nat → Lc → List Value → Mm → Prop} {a1 : Int32}  {σ0 : Mm × Int32 × Int32 × Int32}  (g : Good mX2_readDigits.1 mX2_readDigits.2.2.1 mX2_readDigits.2.2.2.1 (d + 3) J) : ∀ (N : Nat), (∀ k, k < N → c_X2_readDigits_42 a1 (l_X2_readDigits_42 a1 σ0 k)) → (∀ k, k < N → q_X2_readDigits_42 a1 (l_X2_readDigits_42 a1 σ0 k)) → (∀ (j5 j6 : Option Value), J 42 [some (.ref 510), some (.int a1), some (.int ((l_X2_readDigits_42 a1 σ0 N).2.1)), some (.int ((l_X2_readDigits_42 a1 σ0 N).2.2.1)), some (.int ((l_X2_readDigits_42 a1 σ0 N).2.2.2)), j5, j6] [] ((l_X2_readDigits_42 a1 σ0 N).1)) → ∀ (j5 j6 : Option Value), J 42 [some (.ref 510), some (.int a1), some (.int σ0.2.1), some (.int σ0.2.2.1), some (.int σ0.2.2.2), j5, j6] [] σ0.1
  | 0, _, _, k => k
  | N + 1, hc, hp, k => sh_X2_readDigits_42  g N (fun i hi => hc i (Nat.lt_succ_of_lt hi)) (fun i hi => hp i (Nat.lt_succ_of_lt hi)) (ps_X2_readDigits_42  g (hc N (Nat.lt_succ_self N)) (hp N (Nat.lt_succ_self N)) k)
noncomputable def r_X2_readDigits (M : Mm) (a1 : Int32) : Int32 := if a1 < 0 then (-1) else if (a1 >>> (((3 : Int32) * (r_X5_openOnes M 1000)) &&& 31)) = 0 then (if ((l_X2_readDigits_42 a1 ((wi M 510 4 (r_X5_openOnes M 1000)), 0, 1, 0) (cntN (fun k => c_X2_readDigits_42 a1 (l_X2_readDigits_42 a1 ((wi M 510 4 (r_X5_openOnes M 1000)), 0, 1, 0) k)) 7)).1.1 510 4) ≤ ((l_X2_readDigits_42 a1 ((wi M 510 4 (r_X5_openOnes M 1000)), 0, 1, 0) (cntN (fun k => c_X2_readDigits_42 a1 (l_X2_readDigits_42 a1 ((wi M 510 4 (r_X5_openOnes M 1000)), 0, 1, 0) k)) 7)).2.2.2) then (if ((l_X2_readDigits_42 a1 ((wi M 510 4 (r_X5_openOnes M 1000)), 0, 1, 0) (cntN (fun k => c_X2_readDigits_42 a1 (l_X2_readDigits_42 a1 ((wi M 510 4 (r_X5_openOnes M 1000)), 0, 1, 0) k)) 7)).2.2.1) = 0 then (-4) else 0) else if (b2i (cOpen (l_X2_readDigits_42 a1 ((wi M 510 4 (r_X5_openOnes M 1000)), 0, 1, 0) (cntN (fun k => c_X2_readDigits_42 a1 (l_X2_readDigits_42 a1 ((wi M 510 4 (r_X5_openOnes M 1000)), 0, 1, 0) k)) 7)).1 1000 ((a1 >>> (((3 : Int32) * ((l_X2_readDigits_42 a1 ((wi M 510 4 (r_X5_openOnes M 1000)), 0, 1, 0) (cntN (fun k => c_X2_readDigits_42 a1 (l_X2_readDigits_42 a1 ((wi M 510 4 (r_X5_openOnes M 1000)), 0, 1, 0) k)) 7)).2.2.2)) &&& 31)) &&& 7))) = 0 then (-1) else if (b2i (¬ (((l_X2_readDigits_42 a1 ((wi M 510 4 (r_X5_openOnes M 1000)), 0, 1, 0) (cntN (fun k => c_X2_readDigits_42 a1 (l_X2_readDigits_42 a1 ((wi M 510 4 (r_X5_openOnes M 1000)), 0, 1, 0) k)) 7)).2.1) >>> (((a1 >>> (((3 : Int32) * ((l_X2_readDigits_42 a1 ((wi M 510 4 (r_X5_openOnes M 1000)), 0, 1, 0) (cntN (fun k => c_X2_readDigits_42 a1 (l_X2_readDigits_42 a1 ((wi M 510 4 (r_X5_openOnes M 1000)), 0, 1, 0) k)) 7)).2.2.2)) &&& 31)) &&& 7) &&& 31)) &&& 1 = 0)) = 0 then 0 else (-1)) else (-1)
noncomputable def w_X2_readDigits (M : Mm) (a1 : Int32) : Mm := if a1 < 0 then (wi M 510 4 (r_X5_openOnes M 1000)) else if (a1 >>> (((3 : Int32) * (r_X5_openOnes M 1000)) &&& 31)) = 0 then (if ((l_X2_readDigits_42 a1 ((wi M 510 4 (r_X5_openOnes M 1000)), 0, 1, 0) (cntN (fun k => c_X2_readDigits_42 a1 (l_X2_readDigits_42 a1 ((wi M 510 4 (r_X5_openOnes M 1000)), 0, 1, 0) k)) 7)).1.1 510 4) ≤ ((l_X2_readDigits_42 a1 ((wi M 510 4 (r_X5_openOnes M 1000)), 0, 1, 0) (cntN (fun k => c_X2_readDigits_42 a1 (l_X2_readDigits_42 a1 ((wi M 510 4 (r_X5_openOnes M 1000)), 0, 1, 0) k)) 7)).2.2.2) then (l_X2_readDigits_42 a1 ((wi M 510 4 (r_X5_openOnes M 1000)), 0, 1, 0) (cntN (fun k => c_X2_readDigits_42 a1 (l_X2_readDigits_42 a1 ((wi M 510 4 (r_X5_openOnes M 1000)), 0, 1, 0) k)) 7)).1 else if (b2i (cOpen (l_X2_readDigits_42 a1 ((wi M 510 4 (r_X5_openOnes M 1000)), 0, 1, 0) (cntN (fun k => c_X2_readDigits_42 a1 (l_X2_readDigits_42 a1 ((wi M 510 4 (r_X5_openOnes M 1000)), 0, 1, 0) k)) 7)).1 1000 ((a1 >>> (((3 : Int32) * ((l_X2_readDigits_42 a1 ((wi M 510 4 (r_X5_openOnes M 1000)), 0, 1, 0) (cntN (fun k => c_X2_readDigits_42 a1 (l_X2_readDigits_42 a1 ((wi M 510 4 (r_X5_openOnes M 1000)), 0, 1, 0) k)) 7)).2.2.2)) &&& 31)) &&& 7))) = 0 then (l_X2_readDigits_42 a1 ((wi M 510 4 (r_X5_openOnes M 1000)), 0, 1, 0) (cntN (fun k => c_X2_readDigits_42 a1 (l_X2_readDigits_42 a1 ((wi M 510 4 (r_X5_openOnes M 1000)), 0, 1, 0) k)) 7)).1 else if (b2i (¬ (((l_X2_readDigits_42 a1 ((wi M 510 4 (r_X5_openOnes M 1000)), 0, 1, 0) (cntN (fun k => c_X2_readDigits_42 a1 (l_X2_readDigits_42 a1 ((wi M 510 4 (r_X5_openOnes M 1000)), 0, 1, 0) k)) 7)).2.1) >>> (((a1 >>> (((3 : Int32) * ((l_X2_readDigits_42 a1 ((wi M 510 4 (r_X5_openOnes M 1000)), 0, 1, 0) (cntN (fun k => c_X2_readDigits_42 a1 (l_X2_readDigits_42 a1 ((wi M 510 4 (r_X5_openOnes M 1000)), 0, 1, 0) k)) 7)).2.2.2)) &&& 31)) &&& 7) &&& 31)) &&& 1 = 0)) = 0 then M else (l_X2_readDigits_42 a1 ((wi M 510 4 (r_X5_openOnes M 1000)), 0, 1, 0) (cntN (fun k => c_X2_readDigits_42 a1 (l_X2_readDigits_42 a1 ((wi M 510 4 (r_X5_openOnes M 1000)), 0, 1, 0) k)) 7)).1) else (wi M 510 4 (r_X5_openOnes M 1000))
def p_X2_readDigits (M : Mm) (a1 : Int32) : Prop := (p_X5_openOnes M 1000) ∧ (if a1 < 0 then True else (if (a1 >>> (((3 : Int32) * (r_X5_openOnes M 1000)) &&& 31)) = 0 then (∀ k, k < (cntN (fun k => c_X2_readDigits_42 a1 (l_X2_readDigits_42 a1 ((wi M 510 4 (r_X5_openOnes M 1000)), 0, 1, 0) k)) 7) → c_X2_readDigits_42 a1 (l_X2_readDigits_42 a1 ((wi M 510 4 (r_X5_openOnes M 1000)), 0, 1, 0) k)) ∧ (∀ k, k < (cntN (fun k => c_X2_readDigits_42 a1 (l_X2_readDigits_42 a1 ((wi M 510 4 (r_X5_openOnes M 1000)), 0, 1, 0) k)) 7) → q_X2_readDigits_42 a1 (l_X2_readDigits_42 a1 ((wi M 510 4 (r_X5_openOnes M 1000)), 0, 1, 0) k)) ∧ (¬ c_X2_readDigits_42 a1 (l_X2_readDigits_42 a1 ((wi M 510 4 (r_X5_openOnes M 1000)), 0, 1, 0) (cntN (fun k => c_X2_readDigits_42 a1 (l_X2_readDigits_42 a1 ((wi M 510 4 (r_X5_openOnes M 1000)), 0, 1, 0) k)) 7))) ∧ (if ((l_X2_readDigits_42 a1 ((wi M 510 4 (r_X5_openOnes M 1000)), 0, 1, 0) (cntN (fun k => c_X2_readDigits_42 a1 (l_X2_readDigits_42 a1 ((wi M 510 4 (r_X5_openOnes M 1000)), 0, 1, 0) k)) 7)).1.1 510 4) ≤ ((l_X2_readDigits_42 a1 ((wi M 510 4 (r_X5_openOnes M 1000)), 0, 1, 0) (cntN (fun k => c_X2_readDigits_42 a1 (l_X2_readDigits_42 a1 ((wi M 510 4 (r_X5_openOnes M 1000)), 0, 1, 0) k)) 7)).2.2.2) then (if ((l_X2_readDigits_42 a1 ((wi M 510 4 (r_X5_openOnes M 1000)), 0, 1, 0) (cntN (fun k => c_X2_readDigits_42 a1 (l_X2_readDigits_42 a1 ((wi M 510 4 (r_X5_openOnes M 1000)), 0, 1, 0) k)) 7)).2.2.1) = 0 then True else True) else (((l_X2_readDigits_42 a1 ((wi M 510 4 (r_X5_openOnes M 1000)), 0, 1, 0) (cntN (fun k => c_X2_readDigits_42 a1 (l_X2_readDigits_42 a1 ((wi M 510 4 (r_X5_openOnes M 1000)), 0, 1, 0) k)) 7)).1.1 100 2).toInt ≤ 6) ∧ (if (b2i (cOpen (l_X2_readDigits_42 a1 ((wi M 510 4 (r_X5_openOnes M 1000)), 0, 1, 0) (cntN (fun k => c_X2_readDigits_42 a1 (l_X2_readDigits_42 a1 ((wi M 510 4 (r_X5_openOnes M 1000)), 0, 1, 0) k)) 7)).1 1000 ((a1 >>> (((3 : Int32) * ((l_X2_readDigits_42 a1 ((wi M 510 4 (r_X5_openOnes M 1000)), 0, 1, 0) (cntN (fun k => c_X2_readDigits_42 a1 (l_X2_readDigits_42 a1 ((wi M 510 4 (r_X5_openOnes M 1000)), 0, 1, 0) k)) 7)).2.2.2)) &&& 31)) &&& 7))) = 0 then True else (if (b2i (¬ (((l_X2_readDigits_42 a1 ((wi M 510 4 (r_X5_openOnes M 1000)), 0, 1, 0) (cntN (fun k => c_X2_readDigits_42 a1 (l_X2_readDigits_42 a1 ((wi M 510 4 (r_X5_openOnes M 1000)), 0, 1, 0) k)) 7)).2.1) >>> (((a1 >>> (((3 : Int32) * ((l_X2_readDigits_42 a1 ((wi M 510 4 (r_X5_openOnes M 1000)), 0, 1, 0) (cntN (fun k => c_X2_readDigits_42 a1 (l_X2_readDigits_42 a1 ((wi M 510 4 (r_X5_openOnes M 1000)), 0, 1, 0) k)) 7)).2.2.2)) &&& 31)) &&& 7) &&& 31)) &&& 1 = 0)) = 0 then True else True))) else True))
set_option maxRecDepth 20000 in
theorem rnX2_readDigits {d : Nat} {M : Mm} {a1 : Int32}  (hp : p_X2_readDigits M a1) : Rn (d + 3) mX2_readDigits [.ref 510, .int a1] M (some (.int (r_X2_readDigits M a1))) (w_X2_readDigits M a1) := by
  refine Rn.of [some (.ref 510), some (.int a1), none, none, none, none, none] (by decide +kernel) rfl (Nat.le_of_ble_eq_true rfl) rfl (fun J g hr => ?_)
  unfold p_X2_readDigits at hp
  refine j_aload_n g (i := 0) (by decide +kernel) rfl ?_
  refine j_aload_n g (i := 0) (by decide +kernel) rfl ?_
  refine j_gA g (b := 100) f2_12 (by decide +kernel) (by decide +kernel) (by decide +kernel) (by decide +kernel) ?_
  refine j_aload_n g (i := 0) (by decide +kernel) rfl ?_
  refine j_gA g (b := 100) f2_12 (by decide +kernel) (by decide +kernel) (by decide +kernel) (by decide +kernel) ?_
  refine j_gA g (b := 1000) f2_59 (by decide +kernel) (by decide +kernel) (by decide +kernel) (by decide +kernel) ?_
  obtain ⟨h0, hp⟩ := hp
  refine j_cV1r g v2_63 ⟨rfl, by decide⟩ (by decide +kernel) (by decide +kernel) (Nat.le_of_ble_eq_true rfl) (rnX5_openOnes (by simp [isS]) h0) ?_
  refine j_pI g f2_31 (fun q h => by cases h; rfl) (by decide +kernel) (by decide +kernel) (by decide +kernel) ?_
  refine j_iload_n g (i := 1) (by decide +kernel) rfl ?_
  refine j_if_lt g (off := 14) (tgt := 33) (by decide +kernel) (by decide) (fun c19 => ?_) (fun c19 => ?_)
  · rw [if_pos (show a1 < 0 from c19)] at hp
    refine j_iconst g (n := -1) (-1) (by decide +kernel) rfl ?_
    refine hr.1 _ _ _ _ (by decide +kernel) ⟨_, rfl, by first | rfl | exact b2i_nar | decide +kernel⟩ ?_ ?_
    · unfold r_X2_readDigits; first | (simp only [if_pos (show a1 < 0 from c19)]; done) | (simp only [if_pos (show a1 < 0 from c19)]; rfl) | rfl
    · unfold w_X2_readDigits; first | (simp only [if_pos (show a1 < 0 from c19)]; done) | (simp only [if_pos (show a1 < 0 from c19)]; rfl) | rfl
  · rw [if_neg (show ¬ (a1 < 0) from c19)] at hp
    refine j_iload_n g (i := 1) (by decide +kernel) rfl ?_
    refine j_iconst g (n := 3) (3) (by decide +kernel) rfl ?_
    refine j_aload_n g (i := 0) (by decide +kernel) rfl ?_
    refine j_gI g f2_31 (by decide +kernel) (by decide +kernel) (by decide +kernel) ?_
    refine j_imul g (by decide +kernel) ?_
    refine j_ishr g (by decide +kernel) ?_
    refine j_if_eq g (off := 5) (tgt := 35) (by decide +kernel) (by decide) (fun c30 => ?_) (fun c30 => ?_)
    · rw [if_pos (show (a1 >>> (((3 : Int32) * (r_X5_openOnes M 1000)) &&& 31)) = 0 from c30)] at hp
      refine j_iconst g (n := 0) (0) (by decide +kernel) rfl ?_
      refine j_istore_n g (i := 2) (by decide +kernel) (by decide) ?_
      dsimp only [stL, clL, hdL]
      refine j_iconst g (n := 1) (1) (by decide +kernel) rfl ?_
      refine j_istore_n g (i := 3) (by decide +kernel) (by decide) ?_
      dsimp only [stL, clL, hdL]
      refine j_iconst g (n := 0) (0) (by decide +kernel) rfl ?_
      refine j_istore g (i := 4) (by decide +kernel) (by decide) ?_
      dsimp only [stL, clL, hdL]
      obtain ⟨h0, hp⟩ := hp
      have hc_42_1 := h0
      obtain ⟨h0, hp⟩ := hp
      have hq_42_1 := h0
      obtain ⟨h0, hp⟩ := hp
      have hx_42_1 := h0
      refine sh_X2_readDigits_42   g (σ0 := ((wi M 510 4 (r_X5_openOnes M 1000)), 0, 1, 0)) (cntN (fun k => c_X2_readDigits_42 a1 (l_X2_readDigits_42 a1 ((wi M 510 4 (r_X5_openOnes M 1000)), 0, 1, 0) k)) 7) hc_42_1 hq_42_1 ?_ _ _
      intro j5_1 j6_1
      refine j_iload g (i := 4) (by decide +kernel) rfl ?_
      refine j_aload_n g (i := 0) (by decide +kernel) rfl ?_
      refine j_gI g f2_31 (by decide +kernel) (by decide +kernel) (by decide +kernel) ?_
      refine j_icmp_ge g (off := 111) (tgt := 159) (by decide +kernel) (by decide) (fun c48 => ?_) (fun c48 => ?_)
      · rw [if_pos (show ((l_X2_readDigits_42 a1 ((wi M 510 4 (r_X5_openOnes M 1000)), 0, 1, 0) (cntN (fun k => c_X2_readDigits_42 a1 (l_X2_readDigits_42 a1 ((wi M 510 4 (r_X5_openOnes M 1000)), 0, 1, 0) k)) 7)).1.1 510 4) ≤ ((l_X2_readDigits_42 a1 ((wi M 510 4 (r_X5_openOnes M 1000)), 0, 1, 0) (cntN (fun k => c_X2_readDigits_42 a1 (l_X2_readDigits_42 a1 ((wi M 510 4 (r_X5_openOnes M 1000)), 0, 1, 0) k)) 7)).2.2.2) from c48)] at hp
        refine j_iload_n g (i := 3) (by decide +kernel) rfl ?_
        refine j_if_eq g (off := 7) (tgt := 167) (by decide +kernel) (by decide) (fun c160 => ?_) (fun c160 => ?_)
        · rw [if_pos (show ((l_X2_readDigits_42 a1 ((wi M 510 4 (r_X5_openOnes M 1000)), 0, 1, 0) (cntN (fun k => c_X2_readDigits_42 a1 (l_X2_readDigits_42 a1 ((wi M 510 4 (r_X5_openOnes M 1000)), 0, 1, 0) k)) 7)).2.2.1) = 0 from c160)] at hp
          refine j_bipush g (n := -4) (-4) (by decide +kernel) (by decide +kernel) ?_
          refine hr.1 _ _ _ _ (by decide +kernel) ⟨_, rfl, by first | rfl | exact b2i_nar | decide +kernel⟩ ?_ ?_
          · unfold r_X2_readDigits; first | (simp only [if_neg (show ¬ (a1 < 0) from c19), if_pos (show (a1 >>> (((3 : Int32) * (r_X5_openOnes M 1000)) &&& 31)) = 0 from c30), if_pos (show ((l_X2_readDigits_42 a1 ((wi M 510 4 (r_X5_openOnes M 1000)), 0, 1, 0) (cntN (fun k => c_X2_readDigits_42 a1 (l_X2_readDigits_42 a1 ((wi M 510 4 (r_X5_openOnes M 1000)), 0, 1, 0) k)) 7)).1.1 510 4) ≤ ((l_X2_readDigits_42 a1 ((wi M 510 4 (r_X5_openOnes M 1000)), 0, 1, 0) (cntN (fun k => c_X2_readDigits_42 a1 (l_X2_readDigits_42 a1 ((wi M 510 4 (r_X5_openOnes M 1000)), 0, 1, 0) k)) 7)).2.2.2) from c48), if_pos (show ((l_X2_readDigits_42 a1 ((wi M 510 4 (r_X5_openOnes M 1000)), 0, 1, 0) (cntN (fun k => c_X2_readDigits_42 a1 (l_X2_readDigits_42 a1 ((wi M 510 4 (r_X5_openOnes M 1000)), 0, 1, 0) k)) 7)).2.2.1) = 0 from c160)]; done) | (simp only [if_neg (show ¬ (a1 < 0) from c19), if_pos (show (a1 >>> (((3 : Int32) * (r_X5_openOnes M 1000)) &&& 31)) = 0 from c30), if_pos (show ((l_X2_readDigits_42 a1 ((wi M 510 4 (r_X5_openOnes M 1000)), 0, 1, 0) (cntN (fun k => c_X2_readDigits_42 a1 (l_X2_readDigits_42 a1 ((wi M 510 4 (r_X5_openOnes M 1000)), 0, 1, 0) k)) 7)).1.1 510 4) ≤ ((l_X2_readDigits_42 a1 ((wi M 510 4 (r_X5_openOnes M 1000)), 0, 1, 0) (cntN (fun k => c_X2_readDigits_42 a1 (l_X2_readDigits_42 a1 ((wi M 510 4 (r_X5_openOnes M 1000)), 0, 1, 0) k)) 7)).2.2.2) from c48), if_pos (show ((l_X2_readDigits_42 a1 ((wi M 510 4 (r_X5_openOnes M 1000)), 0, 1, 0) (cntN (fun k => c_X2_readDigits_42 a1 (l_X2_readDigits_42 a1 ((wi M 510 4 (r_X5_openOnes M 1000)), 0, 1, 0) k)) 7)).2.2.1) = 0 from c160)]; rfl) | rfl
          · unfold w_X2_readDigits; first | (simp only [if_neg (show ¬ (a1 < 0) from c19), if_pos (show (a1 >>> (((3 : Int32) * (r_X5_openOnes M 1000)) &&& 31)) = 0 from c30), if_pos (show ((l_X2_readDigits_42 a1 ((wi M 510 4 (r_X5_openOnes M 1000)), 0, 1, 0) (cntN (fun k => c_X2_readDigits_42 a1 (l_X2_readDigits_42 a1 ((wi M 510 4 (r_X5_openOnes M 1000)), 0, 1, 0) k)) 7)).1.1 510 4) ≤ ((l_X2_readDigits_42 a1 ((wi M 510 4 (r_X5_openOnes M 1000)), 0, 1, 0) (cntN (fun k => c_X2_readDigits_42 a1 (l_X2_readDigits_42 a1 ((wi M 510 4 (r_X5_openOnes M 1000)), 0, 1, 0) k)) 7)).2.2.2) from c48), if_pos (show ((l_X2_readDigits_42 a1 ((wi M 510 4 (r_X5_openOnes M 1000)), 0, 1, 0) (cntN (fun k => c_X2_readDigits_42 a1 (l_X2_readDigits_42 a1 ((wi M 510 4 (r_X5_openOnes M 1000)), 0, 1, 0) k)) 7)).2.2.1) = 0 from c160)]; done) | (simp only [if_neg (show ¬ (a1 < 0) from c19), if_pos (show (a1 >>> (((3 : Int32) * (r_X5_openOnes M 1000)) &&& 31)) = 0 from c30), if_pos (show ((l_X2_readDigits_42 a1 ((wi M 510 4 (r_X5_openOnes M 1000)), 0, 1, 0) (cntN (fun k => c_X2_readDigits_42 a1 (l_X2_readDigits_42 a1 ((wi M 510 4 (r_X5_openOnes M 1000)), 0, 1, 0) k)) 7)).1.1 510 4) ≤ ((l_X2_readDigits_42 a1 ((wi M 510 4 (r_X5_openOnes M 1000)), 0, 1, 0) (cntN (fun k => c_X2_readDigits_42 a1 (l_X2_readDigits_42 a1 ((wi M 510 4 (r_X5_openOnes M 1000)), 0, 1, 0) k)) 7)).2.2.2) from c48), if_pos (show ((l_X2_readDigits_42 a1 ((wi M 510 4 (r_X5_openOnes M 1000)), 0, 1, 0) (cntN (fun k => c_X2_readDigits_42 a1 (l_X2_readDigits_42 a1 ((wi M 510 4 (r_X5_openOnes M 1000)), 0, 1, 0) k)) 7)).2.2.1) = 0 from c160)]; rfl) | rfl
        · rw [if_neg (show ¬ (((l_X2_readDigits_42 a1 ((wi M 510 4 (r_X5_openOnes M 1000)), 0, 1, 0) (cntN (fun k => c_X2_readDigits_42 a1 (l_X2_readDigits_42 a1 ((wi M 510 4 (r_X5_openOnes M 1000)), 0, 1, 0) k)) 7)).2.2.1) = 0) from c160)] at hp
          refine j_iconst g (n := 0) (0) (by decide +kernel) rfl ?_
          refine j_goto g (off := 5) (tgt := 169) (by decide +kernel) (by decide) ?_
          refine hr.1 _ _ _ _ (by decide +kernel) ⟨_, rfl, by first | rfl | exact b2i_nar | decide +kernel⟩ ?_ ?_
          · unfold r_X2_readDigits; first | (simp only [if_neg (show ¬ (a1 < 0) from c19), if_pos (show (a1 >>> (((3 : Int32) * (r_X5_openOnes M 1000)) &&& 31)) = 0 from c30), if_pos (show ((l_X2_readDigits_42 a1 ((wi M 510 4 (r_X5_openOnes M 1000)), 0, 1, 0) (cntN (fun k => c_X2_readDigits_42 a1 (l_X2_readDigits_42 a1 ((wi M 510 4 (r_X5_openOnes M 1000)), 0, 1, 0) k)) 7)).1.1 510 4) ≤ ((l_X2_readDigits_42 a1 ((wi M 510 4 (r_X5_openOnes M 1000)), 0, 1, 0) (cntN (fun k => c_X2_readDigits_42 a1 (l_X2_readDigits_42 a1 ((wi M 510 4 (r_X5_openOnes M 1000)), 0, 1, 0) k)) 7)).2.2.2) from c48), if_neg (show ¬ (((l_X2_readDigits_42 a1 ((wi M 510 4 (r_X5_openOnes M 1000)), 0, 1, 0) (cntN (fun k => c_X2_readDigits_42 a1 (l_X2_readDigits_42 a1 ((wi M 510 4 (r_X5_openOnes M 1000)), 0, 1, 0) k)) 7)).2.2.1) = 0) from c160)]; done) | (simp only [if_neg (show ¬ (a1 < 0) from c19), if_pos (show (a1 >>> (((3 : Int32) * (r_X5_openOnes M 1000)) &&& 31)) = 0 from c30), if_pos (show ((l_X2_readDigits_42 a1 ((wi M 510 4 (r_X5_openOnes M 1000)), 0, 1, 0) (cntN (fun k => c_X2_readDigits_42 a1 (l_X2_readDigits_42 a1 ((wi M 510 4 (r_X5_openOnes M 1000)), 0, 1, 0) k)) 7)).1.1 510 4) ≤ ((l_X2_readDigits_42 a1 ((wi M 510 4 (r_X5_openOnes M 1000)), 0, 1, 0) (cntN (fun k => c_X2_readDigits_42 a1 (l_X2_readDigits_42 a1 ((wi M 510 4 (r_X5_openOnes M 1000)), 0, 1, 0) k)) 7)).2.2.2) from c48), if_neg (show ¬ (((l_X2_readDigits_42 a1 ((wi M 510 4 (r_X5_openOnes M 1000)), 0, 1, 0) (cntN (fun k => c_X2_readDigits_42 a1 (l_X2_readDigits_42 a1 ((wi M 510 4 (r_X5_openOnes M 1000)), 0, 1, 0) k)) 7)).2.2.1) = 0) from c160)]; rfl) | rfl
          · unfold w_X2_readDigits; first | (simp only [if_neg (show ¬ (a1 < 0) from c19), if_pos (show (a1 >>> (((3 : Int32) * (r_X5_openOnes M 1000)) &&& 31)) = 0 from c30), if_pos (show ((l_X2_readDigits_42 a1 ((wi M 510 4 (r_X5_openOnes M 1000)), 0, 1, 0) (cntN (fun k => c_X2_readDigits_42 a1 (l_X2_readDigits_42 a1 ((wi M 510 4 (r_X5_openOnes M 1000)), 0, 1, 0) k)) 7)).1.1 510 4) ≤ ((l_X2_readDigits_42 a1 ((wi M 510 4 (r_X5_openOnes M 1000)), 0, 1, 0) (cntN (fun k => c_X2_readDigits_42 a1 (l_X2_readDigits_42 a1 ((wi M 510 4 (r_X5_openOnes M 1000)), 0, 1, 0) k)) 7)).2.2.2) from c48), if_neg (show ¬ (((l_X2_readDigits_42 a1 ((wi M 510 4 (r_X5_openOnes M 1000)), 0, 1, 0) (cntN (fun k => c_X2_readDigits_42 a1 (l_X2_readDigits_42 a1 ((wi M 510 4 (r_X5_openOnes M 1000)), 0, 1, 0) k)) 7)).2.2.1) = 0) from c160)]; done) | (simp only [if_neg (show ¬ (a1 < 0) from c19), if_pos (show (a1 >>> (((3 : Int32) * (r_X5_openOnes M 1000)) &&& 31)) = 0 from c30), if_pos (show ((l_X2_readDigits_42 a1 ((wi M 510 4 (r_X5_openOnes M 1000)), 0, 1, 0) (cntN (fun k => c_X2_readDigits_42 a1 (l_X2_readDigits_42 a1 ((wi M 510 4 (r_X5_openOnes M 1000)), 0, 1, 0) k)) 7)).1.1 510 4) ≤ ((l_X2_readDigits_42 a1 ((wi M 510 4 (r_X5_openOnes M 1000)), 0, 1, 0) (cntN (fun k => c_X2_readDigits_42 a1 (l_X2_readDigits_42 a1 ((wi M 510 4 (r_X5_openOnes M 1000)), 0, 1, 0) k)) 7)).2.2.2) from c48), if_neg (show ¬ (((l_X2_readDigits_42 a1 ((wi M 510 4 (r_X5_openOnes M 1000)), 0, 1, 0) (cntN (fun k => c_X2_readDigits_42 a1 (l_X2_readDigits_42 a1 ((wi M 510 4 (r_X5_openOnes M 1000)), 0, 1, 0) k)) 7)).2.2.1) = 0) from c160)]; rfl) | rfl
      · rw [if_neg (show ¬ (((l_X2_readDigits_42 a1 ((wi M 510 4 (r_X5_openOnes M 1000)), 0, 1, 0) (cntN (fun k => c_X2_readDigits_42 a1 (l_X2_readDigits_42 a1 ((wi M 510 4 (r_X5_openOnes M 1000)), 0, 1, 0) k)) 7)).1.1 510 4) ≤ ((l_X2_readDigits_42 a1 ((wi M 510 4 (r_X5_openOnes M 1000)), 0, 1, 0) (cntN (fun k => c_X2_readDigits_42 a1 (l_X2_readDigits_42 a1 ((wi M 510 4 (r_X5_openOnes M 1000)), 0, 1, 0) k)) 7)).2.2.2)) from c48)] at hp
        refine j_iload_n g (i := 1) (by decide +kernel) rfl ?_
        refine j_iconst g (n := 3) (3) (by decide +kernel) rfl ?_
        refine j_iload g (i := 4) (by decide +kernel) rfl ?_
        refine j_imul g (by decide +kernel) ?_
        refine j_ishr g (by decide +kernel) ?_
        refine j_bipush g (n := 7) (7) (by decide +kernel) (by decide +kernel) ?_
        refine j_iand g (by decide +kernel) ?_
        refine j_istore g (i := 5) (by decide +kernel) (by decide) ?_
        dsimp only [stL, clL, hdL]
        refine j_aload_n g (i := 0) (by decide +kernel) rfl ?_
        refine j_gA g (b := 100) f2_12 (by decide +kernel) (by decide +kernel) (by decide +kernel) (by decide +kernel) ?_
        refine j_aload_n g (i := 0) (by decide +kernel) rfl ?_
        refine j_gA g (b := 100) f2_12 (by decide +kernel) (by decide +kernel) (by decide +kernel) (by decide +kernel) ?_
        refine j_gA g (b := 1000) f2_59 (by decide +kernel) (by decide +kernel) (by decide +kernel) (by decide +kernel) ?_
        refine j_iload g (i := 5) (by decide +kernel) rfl ?_
        obtain ⟨h0, hp⟩ := hp
        refine j_cV2r g v2_67 ⟨rfl, by decide⟩ (by decide +kernel) (by decide +kernel) (Nat.le_of_ble_eq_true rfl) (rnX5_isOpen h0 (by simp [isS])) ?_
        refine j_if_eq g (off := 12) (tgt := 90) (by decide +kernel) (by decide) (fun c78 => ?_) (fun c78 => ?_)
        · rw [if_pos (show (b2i (cOpen (l_X2_readDigits_42 a1 ((wi M 510 4 (r_X5_openOnes M 1000)), 0, 1, 0) (cntN (fun k => c_X2_readDigits_42 a1 (l_X2_readDigits_42 a1 ((wi M 510 4 (r_X5_openOnes M 1000)), 0, 1, 0) k)) 7)).1 1000 ((a1 >>> (((3 : Int32) * ((l_X2_readDigits_42 a1 ((wi M 510 4 (r_X5_openOnes M 1000)), 0, 1, 0) (cntN (fun k => c_X2_readDigits_42 a1 (l_X2_readDigits_42 a1 ((wi M 510 4 (r_X5_openOnes M 1000)), 0, 1, 0) k)) 7)).2.2.2)) &&& 31)) &&& 7))) = 0 from c78)] at hp
          refine j_iconst g (n := -1) (-1) (by decide +kernel) rfl ?_
          refine hr.1 _ _ _ _ (by decide +kernel) ⟨_, rfl, by first | rfl | exact b2i_nar | decide +kernel⟩ ?_ ?_
          · unfold r_X2_readDigits; first | (simp only [if_neg (show ¬ (a1 < 0) from c19), if_pos (show (a1 >>> (((3 : Int32) * (r_X5_openOnes M 1000)) &&& 31)) = 0 from c30), if_neg (show ¬ (((l_X2_readDigits_42 a1 ((wi M 510 4 (r_X5_openOnes M 1000)), 0, 1, 0) (cntN (fun k => c_X2_readDigits_42 a1 (l_X2_readDigits_42 a1 ((wi M 510 4 (r_X5_openOnes M 1000)), 0, 1, 0) k)) 7)).1.1 510 4) ≤ ((l_X2_readDigits_42 a1 ((wi M 510 4 (r_X5_openOnes M 1000)), 0, 1, 0) (cntN (fun k => c_X2_readDigits_42 a1 (l_X2_readDigits_42 a1 ((wi M 510 4 (r_X5_openOnes M 1000)), 0, 1, 0) k)) 7)).2.2.2)) from c48), if_pos (show (b2i (cOpen (l_X2_readDigits_42 a1 ((wi M 510 4 (r_X5_openOnes M 1000)), 0, 1, 0) (cntN (fun k => c_X2_readDigits_42 a1 (l_X2_readDigits_42 a1 ((wi M 510 4 (r_X5_openOnes M 1000)), 0, 1, 0) k)) 7)).1 1000 ((a1 >>> (((3 : Int32) * ((l_X2_readDigits_42 a1 ((wi M 510 4 (r_X5_openOnes M 1000)), 0, 1, 0) (cntN (fun k => c_X2_readDigits_42 a1 (l_X2_readDigits_42 a1 ((wi M 510 4 (r_X5_openOnes M 1000)), 0, 1, 0) k)) 7)).2.2.2)) &&& 31)) &&& 7))) = 0 from c78)]; done) | (simp only [if_neg (show ¬ (a1 < 0) from c19), if_pos (show (a1 >>> (((3 : Int32) * (r_X5_openOnes M 1000)) &&& 31)) = 0 from c30), if_neg (show ¬ (((l_X2_readDigits_42 a1 ((wi M 510 4 (r_X5_openOnes M 1000)), 0, 1, 0) (cntN (fun k => c_X2_readDigits_42 a1 (l_X2_readDigits_42 a1 ((wi M 510 4 (r_X5_openOnes M 1000)), 0, 1, 0) k)) 7)).1.1 510 4) ≤ ((l_X2_readDigits_42 a1 ((wi M 510 4 (r_X5_openOnes M 1000)), 0, 1, 0) (cntN (fun k => c_X2_readDigits_42 a1 (l_X2_readDigits_42 a1 ((wi M 510 4 (r_X5_openOnes M 1000)), 0, 1, 0) k)) 7)).2.2.2)) from c48), if_pos (show (b2i (cOpen (l_X2_readDigits_42 a1 ((wi M 510 4 (r_X5_openOnes M 1000)), 0, 1, 0) (cntN (fun k => c_X2_readDigits_42 a1 (l_X2_readDigits_42 a1 ((wi M 510 4 (r_X5_openOnes M 1000)), 0, 1, 0) k)) 7)).1 1000 ((a1 >>> (((3 : Int32) * ((l_X2_readDigits_42 a1 ((wi M 510 4 (r_X5_openOnes M 1000)), 0, 1, 0) (cntN (fun k => c_X2_readDigits_42 a1 (l_X2_readDigits_42 a1 ((wi M 510 4 (r_X5_openOnes M 1000)), 0, 1, 0) k)) 7)).2.2.2)) &&& 31)) &&& 7))) = 0 from c78)]; rfl) | rfl
          · unfold w_X2_readDigits; first | (simp only [if_neg (show ¬ (a1 < 0) from c19), if_pos (show (a1 >>> (((3 : Int32) * (r_X5_openOnes M 1000)) &&& 31)) = 0 from c30), if_neg (show ¬ (((l_X2_readDigits_42 a1 ((wi M 510 4 (r_X5_openOnes M 1000)), 0, 1, 0) (cntN (fun k => c_X2_readDigits_42 a1 (l_X2_readDigits_42 a1 ((wi M 510 4 (r_X5_openOnes M 1000)), 0, 1, 0) k)) 7)).1.1 510 4) ≤ ((l_X2_readDigits_42 a1 ((wi M 510 4 (r_X5_openOnes M 1000)), 0, 1, 0) (cntN (fun k => c_X2_readDigits_42 a1 (l_X2_readDigits_42 a1 ((wi M 510 4 (r_X5_openOnes M 1000)), 0, 1, 0) k)) 7)).2.2.2)) from c48), if_pos (show (b2i (cOpen (l_X2_readDigits_42 a1 ((wi M 510 4 (r_X5_openOnes M 1000)), 0, 1, 0) (cntN (fun k => c_X2_readDigits_42 a1 (l_X2_readDigits_42 a1 ((wi M 510 4 (r_X5_openOnes M 1000)), 0, 1, 0) k)) 7)).1 1000 ((a1 >>> (((3 : Int32) * ((l_X2_readDigits_42 a1 ((wi M 510 4 (r_X5_openOnes M 1000)), 0, 1, 0) (cntN (fun k => c_X2_readDigits_42 a1 (l_X2_readDigits_42 a1 ((wi M 510 4 (r_X5_openOnes M 1000)), 0, 1, 0) k)) 7)).2.2.2)) &&& 31)) &&& 7))) = 0 from c78)]; done) | (simp only [if_neg (show ¬ (a1 < 0) from c19), if_pos (show (a1 >>> (((3 : Int32) * (r_X5_openOnes M 1000)) &&& 31)) = 0 from c30), if_neg (show ¬ (((l_X2_readDigits_42 a1 ((wi M 510 4 (r_X5_openOnes M 1000)), 0, 1, 0) (cntN (fun k => c_X2_readDigits_42 a1 (l_X2_readDigits_42 a1 ((wi M 510 4 (r_X5_openOnes M 1000)), 0, 1, 0) k)) 7)).1.1 510 4) ≤ ((l_X2_readDigits_42 a1 ((wi M 510 4 (r_X5_openOnes M 1000)), 0, 1, 0) (cntN (fun k => c_X2_readDigits_42 a1 (l_X2_readDigits_42 a1 ((wi M 510 4 (r_X5_openOnes M 1000)), 0, 1, 0) k)) 7)).2.2.2)) from c48), if_pos (show (b2i (cOpen (l_X2_readDigits_42 a1 ((wi M 510 4 (r_X5_openOnes M 1000)), 0, 1, 0) (cntN (fun k => c_X2_readDigits_42 a1 (l_X2_readDigits_42 a1 ((wi M 510 4 (r_X5_openOnes M 1000)), 0, 1, 0) k)) 7)).1 1000 ((a1 >>> (((3 : Int32) * ((l_X2_readDigits_42 a1 ((wi M 510 4 (r_X5_openOnes M 1000)), 0, 1, 0) (cntN (fun k => c_X2_readDigits_42 a1 (l_X2_readDigits_42 a1 ((wi M 510 4 (r_X5_openOnes M 1000)), 0, 1, 0) k)) 7)).2.2.2)) &&& 31)) &&& 7))) = 0 from c78)]; rfl) | rfl
        · rw [if_neg (show ¬ ((b2i (cOpen (l_X2_readDigits_42 a1 ((wi M 510 4 (r_X5_openOnes M 1000)), 0, 1, 0) (cntN (fun k => c_X2_readDigits_42 a1 (l_X2_readDigits_42 a1 ((wi M 510 4 (r_X5_openOnes M 1000)), 0, 1, 0) k)) 7)).1 1000 ((a1 >>> (((3 : Int32) * ((l_X2_readDigits_42 a1 ((wi M 510 4 (r_X5_openOnes M 1000)), 0, 1, 0) (cntN (fun k => c_X2_readDigits_42 a1 (l_X2_readDigits_42 a1 ((wi M 510 4 (r_X5_openOnes M 1000)), 0, 1, 0) k)) 7)).2.2.2)) &&& 31)) &&& 7))) = 0) from c78)] at hp
          refine j_iload_n g (i := 2) (by decide +kernel) rfl ?_
          refine j_iload g (i := 5) (by decide +kernel) rfl ?_
          refine j_cS2r g s2_71 (by decide +kernel) (Nat.le_of_ble_eq_true rfl) (rnX2_isIn) ?_
          refine j_if_eq g (off := 5) (tgt := 92) (by decide +kernel) (by decide) (fun c87 => ?_) (fun c87 => ?_)
          · rw [if_pos (show (b2i (¬ (((l_X2_readDigits_42 a1 ((wi M 510 4 (r_X5_openOnes M 1000)), 0, 1, 0) (cntN (fun k => c_X2_readDigits_42 a1 (l_X2_readDigits_42 a1 ((wi M 510 4 (r_X5_openOnes M 1000)), 0, 1, 0) k)) 7)).2.1) >>> (((a1 >>> (((3 : Int32) * ((l_X2_readDigits_42 a1 ((wi M 510 4 (r_X5_openOnes M 1000)), 0, 1, 0) (cntN (fun k => c_X2_readDigits_42 a1 (l_X2_readDigits_42 a1 ((wi M 510 4 (r_X5_openOnes M 1000)), 0, 1, 0) k)) 7)).2.2.2)) &&& 31)) &&& 7) &&& 31)) &&& 1 = 0)) = 0 from c87)] at hp
            refine absurd (ci_X2_readDigits_42.mpr ?_) hx_42_1
            simp only [if_neg (show ¬ (a1 < 0) from c19), if_pos (show (a1 >>> (((3 : Int32) * (r_X5_openOnes M 1000)) &&& 31)) = 0 from c30), if_neg (show ¬ (((l_X2_readDigits_42 a1 ((wi M 510 4 (r_X5_openOnes M 1000)), 0, 1, 0) (cntN (fun k => c_X2_readDigits_42 a1 (l_X2_readDigits_42 a1 ((wi M 510 4 (r_X5_openOnes M 1000)), 0, 1, 0) k)) 7)).1.1 510 4) ≤ ((l_X2_readDigits_42 a1 ((wi M 510 4 (r_X5_openOnes M 1000)), 0, 1, 0) (cntN (fun k => c_X2_readDigits_42 a1 (l_X2_readDigits_42 a1 ((wi M 510 4 (r_X5_openOnes M 1000)), 0, 1, 0) k)) 7)).2.2.2)) from c48), if_neg (show ¬ ((b2i (cOpen (l_X2_readDigits_42 a1 ((wi M 510 4 (r_X5_openOnes M 1000)), 0, 1, 0) (cntN (fun k => c_X2_readDigits_42 a1 (l_X2_readDigits_42 a1 ((wi M 510 4 (r_X5_openOnes M 1000)), 0, 1, 0) k)) 7)).1 1000 ((a1 >>> (((3 : Int32) * ((l_X2_readDigits_42 a1 ((wi M 510 4 (r_X5_openOnes M 1000)), 0, 1, 0) (cntN (fun k => c_X2_readDigits_42 a1 (l_X2_readDigits_42 a1 ((wi M 510 4 (r_X5_openOnes M 1000)), 0, 1, 0) k)) 7)).2.2.2)) &&& 31)) &&& 7))) = 0) from c78), if_pos (show (b2i (¬ (((l_X2_readDigits_42 a1 ((wi M 510 4 (r_X5_openOnes M 1000)), 0, 1, 0) (cntN (fun k => c_X2_readDigits_42 a1 (l_X2_readDigits_42 a1 ((wi M 510 4 (r_X5_openOnes M 1000)), 0, 1, 0) k)) 7)).2.1) >>> (((a1 >>> (((3 : Int32) * ((l_X2_readDigits_42 a1 ((wi M 510 4 (r_X5_openOnes M 1000)), 0, 1, 0) (cntN (fun k => c_X2_readDigits_42 a1 (l_X2_readDigits_42 a1 ((wi M 510 4 (r_X5_openOnes M 1000)), 0, 1, 0) k)) 7)).2.2.2)) &&& 31)) &&& 7) &&& 31)) &&& 1 = 0)) = 0 from c87)]
          · rw [if_neg (show ¬ ((b2i (¬ (((l_X2_readDigits_42 a1 ((wi M 510 4 (r_X5_openOnes M 1000)), 0, 1, 0) (cntN (fun k => c_X2_readDigits_42 a1 (l_X2_readDigits_42 a1 ((wi M 510 4 (r_X5_openOnes M 1000)), 0, 1, 0) k)) 7)).2.1) >>> (((a1 >>> (((3 : Int32) * ((l_X2_readDigits_42 a1 ((wi M 510 4 (r_X5_openOnes M 1000)), 0, 1, 0) (cntN (fun k => c_X2_readDigits_42 a1 (l_X2_readDigits_42 a1 ((wi M 510 4 (r_X5_openOnes M 1000)), 0, 1, 0) k)) 7)).2.2.2)) &&& 31)) &&& 7) &&& 31)) &&& 1 = 0)) = 0) from c87)] at hp
            refine j_iconst g (n := -1) (-1) (by decide +kernel) rfl ?_
            refine hr.1 _ _ _ _ (by decide +kernel) ⟨_, rfl, by first | rfl | exact b2i_nar | decide +kernel⟩ ?_ ?_
            · unfold r_X2_readDigits; first | (simp only [if_neg (show ¬ (a1 < 0) from c19), if_pos (show (a1 >>> (((3 : Int32) * (r_X5_openOnes M 1000)) &&& 31)) = 0 from c30), if_neg (show ¬ (((l_X2_readDigits_42 a1 ((wi M 510 4 (r_X5_openOnes M 1000)), 0, 1, 0) (cntN (fun k => c_X2_readDigits_42 a1 (l_X2_readDigits_42 a1 ((wi M 510 4 (r_X5_openOnes M 1000)), 0, 1, 0) k)) 7)).1.1 510 4) ≤ ((l_X2_readDigits_42 a1 ((wi M 510 4 (r_X5_openOnes M 1000)), 0, 1, 0) (cntN (fun k => c_X2_readDigits_42 a1 (l_X2_readDigits_42 a1 ((wi M 510 4 (r_X5_openOnes M 1000)), 0, 1, 0) k)) 7)).2.2.2)) from c48), if_neg (show ¬ ((b2i (cOpen (l_X2_readDigits_42 a1 ((wi M 510 4 (r_X5_openOnes M 1000)), 0, 1, 0) (cntN (fun k => c_X2_readDigits_42 a1 (l_X2_readDigits_42 a1 ((wi M 510 4 (r_X5_openOnes M 1000)), 0, 1, 0) k)) 7)).1 1000 ((a1 >>> (((3 : Int32) * ((l_X2_readDigits_42 a1 ((wi M 510 4 (r_X5_openOnes M 1000)), 0, 1, 0) (cntN (fun k => c_X2_readDigits_42 a1 (l_X2_readDigits_42 a1 ((wi M 510 4 (r_X5_openOnes M 1000)), 0, 1, 0) k)) 7)).2.2.2)) &&& 31)) &&& 7))) = 0) from c78), if_neg (show ¬ ((b2i (¬ (((l_X2_readDigits_42 a1 ((wi M 510 4 (r_X5_openOnes M 1000)), 0, 1, 0) (cntN (fun k => c_X2_readDigits_42 a1 (l_X2_readDigits_42 a1 ((wi M 510 4 (r_X5_openOnes M 1000)), 0, 1, 0) k)) 7)).2.1) >>> (((a1 >>> (((3 : Int32) * ((l_X2_readDigits_42 a1 ((wi M 510 4 (r_X5_openOnes M 1000)), 0, 1, 0) (cntN (fun k => c_X2_readDigits_42 a1 (l_X2_readDigits_42 a1 ((wi M 510 4 (r_X5_openOnes M 1000)), 0, 1, 0) k)) 7)).2.2.2)) &&& 31)) &&& 7) &&& 31)) &&& 1 = 0)) = 0) from c87)]; done) | (simp only [if_neg (show ¬ (a1 < 0) from c19), if_pos (show (a1 >>> (((3 : Int32) * (r_X5_openOnes M 1000)) &&& 31)) = 0 from c30), if_neg (show ¬ (((l_X2_readDigits_42 a1 ((wi M 510 4 (r_X5_openOnes M 1000)), 0, 1, 0) (cntN (fun k => c_X2_readDigits_42 a1 (l_X2_readDigits_42 a1 ((wi M 510 4 (r_X5_openOnes M 1000)), 0, 1, 0) k)) 7)).1.1 510 4) ≤ ((l_X2_readDigits_42 a1 ((wi M 510 4 (r_X5_openOnes M 1000)), 0, 1, 0) (cntN (fun k => c_X2_readDigits_42 a1 (l_X2_readDigits_42 a1 ((wi M 510 4 (r_X5_openOnes M 1000)), 0, 1, 0) k)) 7)).2.2.2)) from c48), if_neg (show ¬ ((b2i (cOpen (l_X2_readDigits_42 a1 ((wi M 510 4 (r_X5_openOnes M 1000)), 0, 1, 0) (cntN (fun k => c_X2_readDigits_42 a1 (l_X2_readDigits_42 a1 ((wi M 510 4 (r_X5_openOnes M 1000)), 0, 1, 0) k)) 7)).1 1000 ((a1 >>> (((3 : Int32) * ((l_X2_readDigits_42 a1 ((wi M 510 4 (r_X5_openOnes M 1000)), 0, 1, 0) (cntN (fun k => c_X2_readDigits_42 a1 (l_X2_readDigits_42 a1 ((wi M 510 4 (r_X5_openOnes M 1000)), 0, 1, 0) k)) 7)).2.2.2)) &&& 31)) &&& 7))) = 0) from c78), if_neg (show ¬ ((b2i (¬ (((l_X2_readDigits_42 a1 ((wi M 510 4 (r_X5_openOnes M 1000)), 0, 1, 0) (cntN (fun k => c_X2_readDigits_42 a1 (l_X2_readDigits_42 a1 ((wi M 510 4 (r_X5_openOnes M 1000)), 0, 1, 0) k)) 7)).2.1) >>> (((a1 >>> (((3 : Int32) * ((l_X2_readDigits_42 a1 ((wi M 510 4 (r_X5_openOnes M 1000)), 0, 1, 0) (cntN (fun k => c_X2_readDigits_42 a1 (l_X2_readDigits_42 a1 ((wi M 510 4 (r_X5_openOnes M 1000)), 0, 1, 0) k)) 7)).2.2.2)) &&& 31)) &&& 7) &&& 31)) &&& 1 = 0)) = 0) from c87)]; rfl) | rfl
            · unfold w_X2_readDigits; first | (simp only [if_neg (show ¬ (a1 < 0) from c19), if_pos (show (a1 >>> (((3 : Int32) * (r_X5_openOnes M 1000)) &&& 31)) = 0 from c30), if_neg (show ¬ (((l_X2_readDigits_42 a1 ((wi M 510 4 (r_X5_openOnes M 1000)), 0, 1, 0) (cntN (fun k => c_X2_readDigits_42 a1 (l_X2_readDigits_42 a1 ((wi M 510 4 (r_X5_openOnes M 1000)), 0, 1, 0) k)) 7)).1.1 510 4) ≤ ((l_X2_readDigits_42 a1 ((wi M 510 4 (r_X5_openOnes M 1000)), 0, 1, 0) (cntN (fun k => c_X2_readDigits_42 a1 (l_X2_readDigits_42 a1 ((wi M 510 4 (r_X5_openOnes M 1000)), 0, 1, 0) k)) 7)).2.2.2)) from c48), if_neg (show ¬ ((b2i (cOpen (l_X2_readDigits_42 a1 ((wi M 510 4 (r_X5_openOnes M 1000)), 0, 1, 0) (cntN (fun k => c_X2_readDigits_42 a1 (l_X2_readDigits_42 a1 ((wi M 510 4 (r_X5_openOnes M 1000)), 0, 1, 0) k)) 7)).1 1000 ((a1 >>> (((3 : Int32) * ((l_X2_readDigits_42 a1 ((wi M 510 4 (r_X5_openOnes M 1000)), 0, 1, 0) (cntN (fun k => c_X2_readDigits_42 a1 (l_X2_readDigits_42 a1 ((wi M 510 4 (r_X5_openOnes M 1000)), 0, 1, 0) k)) 7)).2.2.2)) &&& 31)) &&& 7))) = 0) from c78), if_neg (show ¬ ((b2i (¬ (((l_X2_readDigits_42 a1 ((wi M 510 4 (r_X5_openOnes M 1000)), 0, 1, 0) (cntN (fun k => c_X2_readDigits_42 a1 (l_X2_readDigits_42 a1 ((wi M 510 4 (r_X5_openOnes M 1000)), 0, 1, 0) k)) 7)).2.1) >>> (((a1 >>> (((3 : Int32) * ((l_X2_readDigits_42 a1 ((wi M 510 4 (r_X5_openOnes M 1000)), 0, 1, 0) (cntN (fun k => c_X2_readDigits_42 a1 (l_X2_readDigits_42 a1 ((wi M 510 4 (r_X5_openOnes M 1000)), 0, 1, 0) k)) 7)).2.2.2)) &&& 31)) &&& 7) &&& 31)) &&& 1 = 0)) = 0) from c87)]; done) | (simp only [if_neg (show ¬ (a1 < 0) from c19), if_pos (show (a1 >>> (((3 : Int32) * (r_X5_openOnes M 1000)) &&& 31)) = 0 from c30), if_neg (show ¬ (((l_X2_readDigits_42 a1 ((wi M 510 4 (r_X5_openOnes M 1000)), 0, 1, 0) (cntN (fun k => c_X2_readDigits_42 a1 (l_X2_readDigits_42 a1 ((wi M 510 4 (r_X5_openOnes M 1000)), 0, 1, 0) k)) 7)).1.1 510 4) ≤ ((l_X2_readDigits_42 a1 ((wi M 510 4 (r_X5_openOnes M 1000)), 0, 1, 0) (cntN (fun k => c_X2_readDigits_42 a1 (l_X2_readDigits_42 a1 ((wi M 510 4 (r_X5_openOnes M 1000)), 0, 1, 0) k)) 7)).2.2.2)) from c48), if_neg (show ¬ ((b2i (cOpen (l_X2_readDigits_42 a1 ((wi M 510 4 (r_X5_openOnes M 1000)), 0, 1, 0) (cntN (fun k => c_X2_readDigits_42 a1 (l_X2_readDigits_42 a1 ((wi M 510 4 (r_X5_openOnes M 1000)), 0, 1, 0) k)) 7)).1 1000 ((a1 >>> (((3 : Int32) * ((l_X2_readDigits_42 a1 ((wi M 510 4 (r_X5_openOnes M 1000)), 0, 1, 0) (cntN (fun k => c_X2_readDigits_42 a1 (l_X2_readDigits_42 a1 ((wi M 510 4 (r_X5_openOnes M 1000)), 0, 1, 0) k)) 7)).2.2.2)) &&& 31)) &&& 7))) = 0) from c78), if_neg (show ¬ ((b2i (¬ (((l_X2_readDigits_42 a1 ((wi M 510 4 (r_X5_openOnes M 1000)), 0, 1, 0) (cntN (fun k => c_X2_readDigits_42 a1 (l_X2_readDigits_42 a1 ((wi M 510 4 (r_X5_openOnes M 1000)), 0, 1, 0) k)) 7)).2.1) >>> (((a1 >>> (((3 : Int32) * ((l_X2_readDigits_42 a1 ((wi M 510 4 (r_X5_openOnes M 1000)), 0, 1, 0) (cntN (fun k => c_X2_readDigits_42 a1 (l_X2_readDigits_42 a1 ((wi M 510 4 (r_X5_openOnes M 1000)), 0, 1, 0) k)) 7)).2.2.2)) &&& 31)) &&& 7) &&& 31)) &&& 1 = 0)) = 0) from c87)]; rfl) | rfl
    · rw [if_neg (show ¬ ((a1 >>> (((3 : Int32) * (r_X5_openOnes M 1000)) &&& 31)) = 0) from c30)] at hp
      refine j_iconst g (n := -1) (-1) (by decide +kernel) rfl ?_
      refine hr.1 _ _ _ _ (by decide +kernel) ⟨_, rfl, by first | rfl | exact b2i_nar | decide +kernel⟩ ?_ ?_
      · unfold r_X2_readDigits; first | (simp only [if_neg (show ¬ (a1 < 0) from c19), if_neg (show ¬ ((a1 >>> (((3 : Int32) * (r_X5_openOnes M 1000)) &&& 31)) = 0) from c30)]; done) | (simp only [if_neg (show ¬ (a1 < 0) from c19), if_neg (show ¬ ((a1 >>> (((3 : Int32) * (r_X5_openOnes M 1000)) &&& 31)) = 0) from c30)]; rfl) | rfl
      · unfold w_X2_readDigits; first | (simp only [if_neg (show ¬ (a1 < 0) from c19), if_neg (show ¬ ((a1 >>> (((3 : Int32) * (r_X5_openOnes M 1000)) &&& 31)) = 0) from c30)]; done) | (simp only [if_neg (show ¬ (a1 < 0) from c19), if_neg (show ¬ ((a1 >>> (((3 : Int32) * (r_X5_openOnes M 1000)) &&& 31)) = 0) from c30)]; rfl) | rfl
def c_X2_runCalled_20_60 (M : Mm) (a1 : Int32) (y3 : Int32) : Prop := True
noncomputable def s_X2_runCalled_20_60 (M : Mm) (a1 : Int32) (y3 : Int32) : Mm × Int32 := ((w_X5_carryOut M 1030 (M.1 512 (Int32.toNatClampNeg y3))), y3 + 1)
def q_X2_runCalled_20_60 (M : Mm) (a1 : Int32) (y3 : Int32) : Prop := (vp_in y3 6) ∧ (p_X5_carryOut M 1030 (M.1 512 (Int32.toNatClampNeg y3))) ∧ True
def c_X2_runCalled_20 (a1 : Int32) (σ : Mm × Int32) : Prop := if (σ.1.1 510 4) ≤ σ.2 then False else True
theorem ci_X2_runCalled_20 {a1 : Int32}  {σ : Mm × Int32} : c_X2_runCalled_20 a1 σ ↔ (if (σ.1.1 510 4) ≤ σ.2 then False else True) := Iff.rfl
noncomputable def s_X2_runCalled_20 (a1 : Int32) (σ : Mm × Int32) : Mm × Int32 := if (σ.1.1 510 4) ≤ σ.2 then σ else if (b2i (¬ (a1 >>> (σ.2 &&& 31)) &&& 1 = 0)) = 0 then s_X2_runCalled_20_60 σ.1 a1 σ.2 else s_X2_runCalled_20_60 (wi σ.1 1030 4 (r_X5_after σ.1 (σ.1.1 1030 4) (σ.1.1 104 2))) a1 σ.2
def q_X2_runCalled_20 (a1 : Int32) (σ : Mm × Int32) : Prop := (if (σ.1.1 510 4) ≤ σ.2 then True else (if (b2i (¬ (a1 >>> (σ.2 &&& 31)) &&& 1 = 0)) = 0 then q_X2_runCalled_20_60 σ.1 a1 σ.2 else (p_X5_after σ.1 (σ.1.1 1030 4) (σ.1.1 104 2)) ∧ q_X2_runCalled_20_60 (wi σ.1 1030 4 (r_X5_after σ.1 (σ.1.1 1030 4) (σ.1.1 104 2))) a1 σ.2))
noncomputable def l_X2_runCalled_20 (a1 : Int32) (σ0 : Mm × Int32) : Nat → Mm × Int32 := itN (fun _ σ => s_X2_runCalled_20 a1 σ) σ0
theorem pj_X2_runCalled_20_60 {d : Nat} {J : Nat → Lc → List Value → Mm → Prop} {M : Mm} {a1 : Int32}  {y3 : Int32}  (g : Good mX2_runCalled.1 mX2_runCalled.2.2.1 mX2_runCalled.2.2.2.1 (d + 3) J) (hc : c_X2_runCalled_20_60 M a1 y3) (hp : q_X2_runCalled_20_60 M a1 y3) (k : J 20 [some (.ref 510), some (.int a1), some (.ref 1030), some (.int ((s_X2_runCalled_20_60 M a1 y3).2))] [] ((s_X2_runCalled_20_60 M a1 y3).1)) : J 60 [some (.ref 510), some (.int a1), some (.ref 1030), some (.int y3)] [] M := by
  unfold c_X2_runCalled_20_60 at hc
  unfold q_X2_runCalled_20_60 at hp
  unfold s_X2_runCalled_20_60 at k
  refine j_aload_n g (i := 0) (by decide +kernel) rfl ?_
  refine j_gA g (b := 100) f2_12 (by decide +kernel) (by decide +kernel) (by decide +kernel) (by decide +kernel) ?_
  refine j_aload_n g (i := 2) (by decide +kernel) rfl ?_
  refine j_aload_n g (i := 0) (by decide +kernel) rfl ?_
  refine j_gA g (b := 512) f2_24 (by decide +kernel) (by decide +kernel) (by decide +kernel) (by decide +kernel) ?_
  refine j_iload_n g (i := 3) (by decide +kernel) rfl ?_
  obtain ⟨h0, hp⟩ := hp
  refine j_ia g 6 (by decide +kernel) (by decide +kernel) (by decide +kernel) h0 ?_
  obtain ⟨h0, hp⟩ := hp
  refine j_cV2r g v2_98 ⟨rfl, by decide⟩ (by decide +kernel) (by decide +kernel) (Nat.le_of_ble_eq_true rfl) (rnX5_carryOut (by simp [isS]) h0) ?_
  refine j_pop g (by decide +kernel) rfl ?_
  refine j_iinc g (i := 3) (n := 1) (1) (by decide +kernel) rfl (by decide) rfl ?_
  dsimp only [stL, clL, hdL]
  refine j_goto g (off := -58) (tgt := 20) (by decide +kernel) (by decide) ?_
  exact k 
theorem ps_X2_runCalled_20 {d : Nat} {J : Nat → Lc → List Value → Mm → Prop} {a1 : Int32}  {σ : Mm × Int32}  (g : Good mX2_runCalled.1 mX2_runCalled.2.2.1 mX2_runCalled.2.2.2.1 (d + 3) J) (hc : c_X2_runCalled_20 a1 σ) (hp : q_X2_runCalled_20 a1 σ) (k : J 20 [some (.ref 510), some (.int a1), some (.ref 1030), some (.int ((s_X2_runCalled_20 a1 σ).2))] [] ((s_X2_runCalled_20 a1 σ).1)) : J 20 [some (.ref 510), some (.int a1), some (.ref 1030), some (.int σ.2)] [] σ.1 := by
  unfold c_X2_runCalled_20 at hc
  unfold q_X2_runCalled_20 at hp
  unfold s_X2_runCalled_20 at k
  refine j_iload_n g (i := 3) (by decide +kernel) rfl ?_
  refine j_aload_n g (i := 0) (by decide +kernel) rfl ?_
  refine j_gI g f2_31 (by decide +kernel) (by decide +kernel) (by decide +kernel) ?_
  refine j_icmp_ge g (off := 56) (tgt := 81) (by decide +kernel) (by decide) (fun c25 => ?_) (fun c25 => ?_)
  · (try rw [if_pos (show (σ.1.1 510 4) ≤ σ.2 from c25)] at hc); (rw [if_pos (show (σ.1.1 510 4) ≤ σ.2 from c25)] at hp); (try simp only [if_pos (show (σ.1.1 510 4) ≤ σ.2 from c25)] at k)
    exact hc.elim
  · (try rw [if_neg (show ¬ ((σ.1.1 510 4) ≤ σ.2) from c25)] at hc); (rw [if_neg (show ¬ ((σ.1.1 510 4) ≤ σ.2) from c25)] at hp); (try simp only [if_neg (show ¬ ((σ.1.1 510 4) ≤ σ.2) from c25)] at k)
    refine j_iload_n g (i := 1) (by decide +kernel) rfl ?_
    refine j_iload_n g (i := 3) (by decide +kernel) rfl ?_
    refine j_cS2r g s2_71 (by decide +kernel) (Nat.le_of_ble_eq_true rfl) (rnX2_isIn) ?_
    refine j_if_eq g (off := 27) (tgt := 60) (by decide +kernel) (by decide) (fun c33 => ?_) (fun c33 => ?_)
    · (try rw [if_pos (show (b2i (¬ (a1 >>> (σ.2 &&& 31)) &&& 1 = 0)) = 0 from c33)] at hc); (rw [if_pos (show (b2i (¬ (a1 >>> (σ.2 &&& 31)) &&& 1 = 0)) = 0 from c33)] at hp); (try simp only [if_pos (show (b2i (¬ (a1 >>> (σ.2 &&& 31)) &&& 1 = 0)) = 0 from c33)] at k)
      exact pj_X2_runCalled_20_60  g trivial hp k 
    · (try rw [if_neg (show ¬ ((b2i (¬ (a1 >>> (σ.2 &&& 31)) &&& 1 = 0)) = 0) from c33)] at hc); (rw [if_neg (show ¬ ((b2i (¬ (a1 >>> (σ.2 &&& 31)) &&& 1 = 0)) = 0) from c33)] at hp); (try simp only [if_neg (show ¬ ((b2i (¬ (a1 >>> (σ.2 &&& 31)) &&& 1 = 0)) = 0) from c33)] at k)
      refine j_aload_n g (i := 2) (by decide +kernel) rfl ?_
      refine j_aload_n g (i := 0) (by decide +kernel) rfl ?_
      refine j_gA g (b := 100) f2_12 (by decide +kernel) (by decide +kernel) (by decide +kernel) (by decide +kernel) ?_
      refine j_aload_n g (i := 2) (by decide +kernel) rfl ?_
      refine j_gI g f2_88 (by decide +kernel) (by decide +kernel) (by decide +kernel) ?_
      refine j_aload_n g (i := 0) (by decide +kernel) rfl ?_
      refine j_gA g (b := 100) f2_12 (by decide +kernel) (by decide +kernel) (by decide +kernel) (by decide +kernel) ?_
      refine j_gA g (b := 104) f2_91 (by decide +kernel) (by decide +kernel) (by decide +kernel) (by decide +kernel) ?_
      refine j_iconst g (n := 2) (2) (by decide +kernel) rfl ?_
      refine j_ia g 4 (by decide +kernel) (by decide +kernel) (by decide +kernel) (vin_b (by decide +kernel)) ?_
      obtain ⟨h0, hp⟩ := hp
      refine j_cV2r g v2_94 ⟨rfl, by decide⟩ (by decide +kernel) (by decide +kernel) (Nat.le_of_ble_eq_true rfl) (rnX5_after h0) ?_
      refine j_pI g f2_88 (fun q h => by cases h; rfl) (by decide +kernel) (by decide +kernel) (by decide +kernel) ?_
      exact pj_X2_runCalled_20_60  g trivial hp k 
theorem sh_X2_runCalled_20 {d : Nat} {J : Nat → Lc → List Value → Mm → Prop} {a1 : Int32}  {σ0 : Mm × Int32}  (g : Good mX2_runCalled.1 mX2_runCalled.2.2.1 mX2_runCalled.2.2.2.1 (d + 3) J) : ∀ (N : Nat), (∀ k, k < N → c_X2_runCalled_20 a1 (l_X2_runCalled_20 a1 σ0 k)) → (∀ k, k < N → q_X2_runCalled_20 a1 (l_X2_runCalled_20 a1 σ0 k)) → (J 20 [some (.ref 510), some (.int a1), some (.ref 1030), some (.int ((l_X2_runCalled_20 a1 σ0 N).2))] [] ((l_X2_runCalled_20 a1 σ0 N).1)) → J 20 [some (.ref 510), some (.int a1), some (.ref 1030), some (.int σ0.2)] [] σ0.1
  | 0, _, _, k => k
  | N + 1, hc, hp, k => sh_X2_runCalled_20  g N (fun i hi => hc i (Nat.lt_succ_of_lt hi)) (fun i hi => hp i (Nat.lt_succ_of_lt hi)) (ps_X2_runCalled_20  g (hc N (Nat.lt_succ_self N)) (hp N (Nat.lt_succ_self N)) k)
noncomputable def w_X2_runCalled (M : Mm) (a1 : Int32) : Mm := if ((l_X2_runCalled_20 a1 ((w_X3_beginFrom M 1030 1000), 0) (Int32.toNatClampNeg ((w_X3_beginFrom M 1030 1000).1 510 4))).1.1 510 4) ≤ ((l_X2_runCalled_20 a1 ((w_X3_beginFrom M 1030 1000), 0) (Int32.toNatClampNeg ((w_X3_beginFrom M 1030 1000).1 510 4))).2) then (l_X2_runCalled_20 a1 ((w_X3_beginFrom M 1030 1000), 0) (Int32.toNatClampNeg ((w_X3_beginFrom M 1030 1000).1 510 4))).1 else M
def p_X2_runCalled (M : Mm) (a1 : Int32) : Prop := (∀ k, k < (Int32.toNatClampNeg ((w_X3_beginFrom M 1030 1000).1 510 4)) → c_X2_runCalled_20 a1 (l_X2_runCalled_20 a1 ((w_X3_beginFrom M 1030 1000), 0) k)) ∧ (∀ k, k < (Int32.toNatClampNeg ((w_X3_beginFrom M 1030 1000).1 510 4)) → q_X2_runCalled_20 a1 (l_X2_runCalled_20 a1 ((w_X3_beginFrom M 1030 1000), 0) k)) ∧ (¬ c_X2_runCalled_20 a1 (l_X2_runCalled_20 a1 ((w_X3_beginFrom M 1030 1000), 0) (Int32.toNatClampNeg ((w_X3_beginFrom M 1030 1000).1 510 4)))) ∧ (if ((l_X2_runCalled_20 a1 ((w_X3_beginFrom M 1030 1000), 0) (Int32.toNatClampNeg ((w_X3_beginFrom M 1030 1000).1 510 4))).1.1 510 4) ≤ ((l_X2_runCalled_20 a1 ((w_X3_beginFrom M 1030 1000), 0) (Int32.toNatClampNeg ((w_X3_beginFrom M 1030 1000).1 510 4))).2) then True else True)
set_option maxRecDepth 20000 in
theorem rnX2_runCalled {d : Nat} {M : Mm} {a1 : Int32}  (hp : p_X2_runCalled M a1) : Rn (d + 3) mX2_runCalled [.ref 510, .int a1] M (some (.ref (1030))) (w_X2_runCalled M a1) := by
  refine Rn.of [some (.ref 510), some (.int a1), none, none] (by decide +kernel) rfl (Nat.le_of_ble_eq_true rfl) rfl (fun J g hr => ?_)
  unfold p_X2_runCalled at hp
  refine j_aload_n g (i := 0) (by decide +kernel) rfl ?_
  refine j_gA g (b := 511) f2_20 (by decide +kernel) (by decide +kernel) (by decide +kernel) (by decide +kernel) ?_
  refine j_iconst g (n := 0) (0) (by decide +kernel) rfl ?_
  refine j_aS g (b := 1030) 7 (by decide +kernel) (by decide +kernel) (by decide +kernel) (vin_b (by decide +kernel)) (by decide +kernel) ?_
  refine j_astore_n g (i := 2) (by decide +kernel) (by decide) ?_
  dsimp only [stL, clL, hdL]
  refine j_aload_n g (i := 2) (by decide +kernel) rfl ?_
  refine j_aload_n g (i := 0) (by decide +kernel) rfl ?_
  refine j_gA g (b := 100) f2_12 (by decide +kernel) (by decide +kernel) (by decide +kernel) (by decide +kernel) ?_
  refine j_gA g (b := 1000) f2_59 (by decide +kernel) (by decide +kernel) (by decide +kernel) (by decide +kernel) ?_
  refine j_cV1v g v2_84 ⟨rfl, by decide⟩ (by decide +kernel) (by decide +kernel) (Nat.le_of_ble_eq_true rfl) (rnX3_beginFrom (by simp [isS]) (by simp [isS])) ?_
  refine j_iconst g (n := 0) (0) (by decide +kernel) rfl ?_
  refine j_istore_n g (i := 3) (by decide +kernel) (by decide) ?_
  dsimp only [stL, clL, hdL]
  obtain ⟨h0, hp⟩ := hp
  have hc_20_1 := h0
  obtain ⟨h0, hp⟩ := hp
  have hq_20_1 := h0
  obtain ⟨h0, hp⟩ := hp
  have hx_20_1 := h0
  refine sh_X2_runCalled_20   g (σ0 := ((w_X3_beginFrom M 1030 1000), 0)) (Int32.toNatClampNeg ((w_X3_beginFrom M 1030 1000).1 510 4)) hc_20_1 hq_20_1 ?_ 
  refine j_iload_n g (i := 3) (by decide +kernel) rfl ?_
  refine j_aload_n g (i := 0) (by decide +kernel) rfl ?_
  refine j_gI g f2_31 (by decide +kernel) (by decide +kernel) (by decide +kernel) ?_
  refine j_icmp_ge g (off := 56) (tgt := 81) (by decide +kernel) (by decide) (fun c25 => ?_) (fun c25 => ?_)
  · rw [if_pos (show ((l_X2_runCalled_20 a1 ((w_X3_beginFrom M 1030 1000), 0) (Int32.toNatClampNeg ((w_X3_beginFrom M 1030 1000).1 510 4))).1.1 510 4) ≤ ((l_X2_runCalled_20 a1 ((w_X3_beginFrom M 1030 1000), 0) (Int32.toNatClampNeg ((w_X3_beginFrom M 1030 1000).1 510 4))).2) from c25)] at hp
    refine j_aload_n g (i := 2) (by decide +kernel) rfl ?_
    refine hr.2.2.1 _ _ _ _ (by decide +kernel) ⟨_, rfl, by first | exact Or.inl ⟨_, rfl⟩ | exact Or.inr ⟨_, rfl⟩⟩ ?_ ?_
    · rfl
    · unfold w_X2_runCalled; first | (simp only [if_pos (show ((l_X2_runCalled_20 a1 ((w_X3_beginFrom M 1030 1000), 0) (Int32.toNatClampNeg ((w_X3_beginFrom M 1030 1000).1 510 4))).1.1 510 4) ≤ ((l_X2_runCalled_20 a1 ((w_X3_beginFrom M 1030 1000), 0) (Int32.toNatClampNeg ((w_X3_beginFrom M 1030 1000).1 510 4))).2) from c25)]; done) | (simp only [if_pos (show ((l_X2_runCalled_20 a1 ((w_X3_beginFrom M 1030 1000), 0) (Int32.toNatClampNeg ((w_X3_beginFrom M 1030 1000).1 510 4))).1.1 510 4) ≤ ((l_X2_runCalled_20 a1 ((w_X3_beginFrom M 1030 1000), 0) (Int32.toNatClampNeg ((w_X3_beginFrom M 1030 1000).1 510 4))).2) from c25)]; rfl) | rfl
  · rw [if_neg (show ¬ (((l_X2_runCalled_20 a1 ((w_X3_beginFrom M 1030 1000), 0) (Int32.toNatClampNeg ((w_X3_beginFrom M 1030 1000).1 510 4))).1.1 510 4) ≤ ((l_X2_runCalled_20 a1 ((w_X3_beginFrom M 1030 1000), 0) (Int32.toNatClampNeg ((w_X3_beginFrom M 1030 1000).1 510 4))).2)) from c25)] at hp
    refine absurd (ci_X2_runCalled_20.mpr ?_) hx_20_1
    simp only [if_neg (show ¬ (((l_X2_runCalled_20 a1 ((w_X3_beginFrom M 1030 1000), 0) (Int32.toNatClampNeg ((w_X3_beginFrom M 1030 1000).1 510 4))).1.1 510 4) ≤ ((l_X2_runCalled_20 a1 ((w_X3_beginFrom M 1030 1000), 0) (Int32.toNatClampNeg ((w_X3_beginFrom M 1030 1000).1 510 4))).2)) from c25)]
noncomputable def w_X2_compare_64 (M : Mm) (s : Nat) (a2 : Int32)  : Mm := if (M.1 510 5) = 0 then (wi (wi M 510 9 (M.1 s 4)) 510 5 1) else (wi (wi M 510 9 (if (M.1 s 4) < (M.1 510 9) then (M.1 s 4) else (M.1 510 9))) 510 5 1)
theorem jn_X2_compare_64 {d : Nat} {J : Nat → Lc → List Value → Mm → Prop} {M : Mm} {s : Nat} {a2 : Int32}  (hs : isS s) (g : Good mX2_compare.1 mX2_compare.2.2.1 mX2_compare.2.2.2.1 (d + 1) J) {rv : Option Value} {M1 : Mm} (hr : Ret mX2_compare.2.2.1 mX2_compare.2.2.2.2 rv M1 J) (hrv : rv = none) (hmm : M1 = w_X2_compare_64 M s a2 ) : J 64 [some (.ref 510), some (.ref s), some (.int a2)] [] M := by
  refine j_aload_n g (i := 0) (by decide +kernel) rfl ?_
  refine j_aload_n g (i := 0) (by decide +kernel) rfl ?_
  refine j_gI g f2_35 (by decide +kernel) (by decide +kernel) (by decide +kernel) ?_
  refine j_if_eq g (off := 17) (tgt := 86) (by decide +kernel) (by decide) (fun c69 => ?_) (fun c69 => ?_)
  · skip
    refine j_aload_n g (i := 1) (by decide +kernel) rfl ?_
    refine j_gI g f2_88 (by decide +kernel) (by decide +kernel) (isS_F hs).1.1 ?_
    refine j_pI g f2_48 (fun q h => by cases h; rfl) (by decide +kernel) (by decide +kernel) (by decide +kernel) ?_
    refine j_aload_n g (i := 0) (by decide +kernel) rfl ?_
    refine j_iconst g (n := 1) (1) (by decide +kernel) rfl ?_
    refine j_pZ g f2_35 (fun q h => by cases h; rfl) (by decide +kernel) (by decide +kernel) (by decide +kernel) (by decide) ?_
    refine hr.2.2.2 _ _ _ (by decide +kernel) rfl hrv ?_
    · rw [hmm]; unfold w_X2_compare_64; first | (simp only [if_pos (show (M.1 510 5) = 0 from c69)]; done) | (simp only [if_pos (show (M.1 510 5) = 0 from c69)]; rfl) | rfl
  · skip
    refine j_aload_n g (i := 0) (by decide +kernel) rfl ?_
    refine j_gI g f2_48 (by decide +kernel) (by decide +kernel) (by decide +kernel) ?_
    refine j_aload_n g (i := 1) (by decide +kernel) rfl ?_
    refine j_gI g f2_88 (by decide +kernel) (by decide +kernel) (isS_F hs).1.1 ?_
    refine j_mmin g (by omega) (Nat.le_of_ble_eq_true rfl) t2_139 (by decide +kernel) ?_
    refine j_goto g (off := 7) (tgt := 90) (by decide +kernel) (by decide) ?_
    refine j_pI g f2_48 (fun q h => by cases h; rfl) (by decide +kernel) (by decide +kernel) (by decide +kernel) ?_
    refine j_aload_n g (i := 0) (by decide +kernel) rfl ?_
    refine j_iconst g (n := 1) (1) (by decide +kernel) rfl ?_
    refine j_pZ g f2_35 (fun q h => by cases h; rfl) (by decide +kernel) (by decide +kernel) (by decide +kernel) (by decide) ?_
    refine hr.2.2.2 _ _ _ (by decide +kernel) rfl hrv ?_
    · rw [hmm]; unfold w_X2_compare_64; first | (simp only [if_neg (show ¬ ((M.1 510 5) = 0) from c69)]; done) | (simp only [if_neg (show ¬ ((M.1 510 5) = 0) from c69)]; rfl) | rfl
noncomputable def w_X2_compare_35 (M : Mm) (s : Nat) (a2 : Int32)  : Mm := if (M.1 510 5) = 0 then w_X2_compare_64 (wi M 510 8 (M.1 s 6)) s a2 else w_X2_compare_64 (wi M 510 8 (if (M.1 s 6) < (M.1 510 8) then (M.1 s 6) else (M.1 510 8))) s a2
theorem jn_X2_compare_35 {d : Nat} {J : Nat → Lc → List Value → Mm → Prop} {M : Mm} {s : Nat} {a2 : Int32}  (hs : isS s) (g : Good mX2_compare.1 mX2_compare.2.2.1 mX2_compare.2.2.2.1 (d + 1) J) {rv : Option Value} {M1 : Mm} (hr : Ret mX2_compare.2.2.1 mX2_compare.2.2.2.2 rv M1 J) (hrv : rv = none) (hmm : M1 = w_X2_compare_35 M s a2 ) : J 35 [some (.ref 510), some (.ref s), some (.int a2)] [] M := by
  refine j_aload_n g (i := 0) (by decide +kernel) rfl ?_
  refine j_aload_n g (i := 0) (by decide +kernel) rfl ?_
  refine j_gI g f2_35 (by decide +kernel) (by decide +kernel) (by decide +kernel) ?_
  refine j_if_eq g (off := 17) (tgt := 57) (by decide +kernel) (by decide) (fun c40 => ?_) (fun c40 => ?_)
  · skip
    refine j_aload_n g (i := 1) (by decide +kernel) rfl ?_
    refine j_gI g f2_110 (by decide +kernel) (by decide +kernel) (isS_F hs).1.1 ?_
    refine j_pI g f2_45 (fun q h => by cases h; rfl) (by decide +kernel) (by decide +kernel) (by decide +kernel) ?_
    refine jn_X2_compare_64 hs g hr  ?_ ?_ 
    · exact hrv
    · rw [hmm]; unfold w_X2_compare_35; first | (simp only [if_pos (show (M.1 510 5) = 0 from c40)]; done) | (simp only [if_pos (show (M.1 510 5) = 0 from c40)]; rfl) | rfl
  · skip
    refine j_aload_n g (i := 0) (by decide +kernel) rfl ?_
    refine j_gI g f2_45 (by decide +kernel) (by decide +kernel) (by decide +kernel) ?_
    refine j_aload_n g (i := 1) (by decide +kernel) rfl ?_
    refine j_gI g f2_110 (by decide +kernel) (by decide +kernel) (isS_F hs).1.1 ?_
    refine j_mmin g (by omega) (Nat.le_of_ble_eq_true rfl) t2_139 (by decide +kernel) ?_
    refine j_goto g (off := 7) (tgt := 61) (by decide +kernel) (by decide) ?_
    refine j_pI g f2_45 (fun q h => by cases h; rfl) (by decide +kernel) (by decide +kernel) (by decide +kernel) ?_
    refine jn_X2_compare_64 hs g hr  ?_ ?_ 
    · exact hrv
    · rw [hmm]; unfold w_X2_compare_35; first | (simp only [if_neg (show ¬ ((M.1 510 5) = 0) from c40)]; done) | (simp only [if_neg (show ¬ ((M.1 510 5) = 0) from c40)]; rfl) | rfl
noncomputable def w_X2_compare (M : Mm) (s : Nat) (a2 : Int32) : Mm := if (M.1 510 5) = 0 then w_X2_compare_35 (wi (wi M 510 6 (M.1 s 5)) 510 7 (r_X2_digitsOf (wi M 510 6 (M.1 s 5)) a2)) s a2 else if (M.1 s 5) ≤ (M.1 510 6) then w_X2_compare_35 M s a2 else w_X2_compare_35 (wi (wi M 510 6 (M.1 s 5)) 510 7 (r_X2_digitsOf (wi M 510 6 (M.1 s 5)) a2)) s a2
def p_X2_compare (M : Mm) (s : Nat) (a2 : Int32) : Prop := (if (M.1 510 5) = 0 then (p_X2_digitsOf (wi M 510 6 (M.1 s 5)) a2) ∧ True else (if (M.1 s 5) ≤ (M.1 510 6) then True else (p_X2_digitsOf (wi M 510 6 (M.1 s 5)) a2) ∧ True))
set_option maxRecDepth 20000 in
theorem rnX2_compare {d : Nat} {M : Mm} {s : Nat} {a2 : Int32} (hs : isS s) (hp : p_X2_compare M s a2) : Rn (d + 1) mX2_compare [.ref 510, .ref s, .int a2] M none (w_X2_compare M s a2) := by
  refine Rn.of [some (.ref 510), some (.ref s), some (.int a2)] (by decide +kernel) rfl (Nat.le_of_ble_eq_true rfl) rfl (fun J g hr => ?_)
  unfold p_X2_compare at hp
  refine j_aload_n g (i := 0) (by decide +kernel) rfl ?_
  refine j_gI g f2_35 (by decide +kernel) (by decide +kernel) (by decide +kernel) ?_
  refine j_if_eq g (off := 14) (tgt := 18) (by decide +kernel) (by decide) (fun c4 => ?_) (fun c4 => ?_)
  · rw [if_pos (show (M.1 510 5) = 0 from c4)] at hp
    refine j_aload_n g (i := 0) (by decide +kernel) rfl ?_
    refine j_aload_n g (i := 1) (by decide +kernel) rfl ?_
    refine j_gI g f2_113 (by decide +kernel) (by decide +kernel) (isS_F hs).1.1 ?_
    refine j_pI g f2_39 (fun q h => by cases h; rfl) (by decide +kernel) (by decide +kernel) (by decide +kernel) ?_
    refine j_aload_n g (i := 0) (by decide +kernel) rfl ?_
    refine j_aload_n g (i := 0) (by decide +kernel) rfl ?_
    refine j_iload_n g (i := 2) (by decide +kernel) rfl ?_
    obtain ⟨h0, hp⟩ := hp
    refine j_cV1r g v2_135 ⟨rfl, by decide⟩ (by decide +kernel) (by decide +kernel) (Nat.le_of_ble_eq_true rfl) (rnX2_digitsOf h0) ?_
    refine j_pI g f2_42 (fun q h => by cases h; rfl) (by decide +kernel) (by decide +kernel) (by decide +kernel) ?_
    refine jn_X2_compare_35 hs g hr  ?_ ?_ 
    · rfl
    · unfold w_X2_compare; first | (simp only [if_pos (show (M.1 510 5) = 0 from c4)]; done) | (simp only [if_pos (show (M.1 510 5) = 0 from c4)]; rfl) | rfl
  · rw [if_neg (show ¬ ((M.1 510 5) = 0) from c4)] at hp
    refine j_aload_n g (i := 1) (by decide +kernel) rfl ?_
    refine j_gI g f2_113 (by decide +kernel) (by decide +kernel) (isS_F hs).1.1 ?_
    refine j_aload_n g (i := 0) (by decide +kernel) rfl ?_
    refine j_gI g f2_39 (by decide +kernel) (by decide +kernel) (by decide +kernel) ?_
    refine j_icmp_le g (off := 20) (tgt := 35) (by decide +kernel) (by decide) (fun c15 => ?_) (fun c15 => ?_)
    · rw [if_pos (show (M.1 s 5) ≤ (M.1 510 6) from c15)] at hp
      refine jn_X2_compare_35 hs g hr  ?_ ?_ 
      · rfl
      · unfold w_X2_compare; first | (simp only [if_neg (show ¬ ((M.1 510 5) = 0) from c4), if_pos (show (M.1 s 5) ≤ (M.1 510 6) from c15)]; done) | (simp only [if_neg (show ¬ ((M.1 510 5) = 0) from c4), if_pos (show (M.1 s 5) ≤ (M.1 510 6) from c15)]; rfl) | rfl
    · rw [if_neg (show ¬ ((M.1 s 5) ≤ (M.1 510 6)) from c15)] at hp
      refine j_aload_n g (i := 0) (by decide +kernel) rfl ?_
      refine j_aload_n g (i := 1) (by decide +kernel) rfl ?_
      refine j_gI g f2_113 (by decide +kernel) (by decide +kernel) (isS_F hs).1.1 ?_
      refine j_pI g f2_39 (fun q h => by cases h; rfl) (by decide +kernel) (by decide +kernel) (by decide +kernel) ?_
      refine j_aload_n g (i := 0) (by decide +kernel) rfl ?_
      refine j_aload_n g (i := 0) (by decide +kernel) rfl ?_
      refine j_iload_n g (i := 2) (by decide +kernel) rfl ?_
      obtain ⟨h0, hp⟩ := hp
      refine j_cV1r g v2_135 ⟨rfl, by decide⟩ (by decide +kernel) (by decide +kernel) (Nat.le_of_ble_eq_true rfl) (rnX2_digitsOf h0) ?_
      refine j_pI g f2_42 (fun q h => by cases h; rfl) (by decide +kernel) (by decide +kernel) (by decide +kernel) ?_
      refine jn_X2_compare_35 hs g hr  ?_ ?_ 
      · rfl
      · unfold w_X2_compare; first | (simp only [if_neg (show ¬ ((M.1 510 5) = 0) from c4), if_neg (show ¬ ((M.1 s 5) ≤ (M.1 510 6)) from c15)]; done) | (simp only [if_neg (show ¬ ((M.1 510 5) = 0) from c4), if_neg (show ¬ ((M.1 s 5) ≤ (M.1 510 6)) from c15)]; rfl) | rfl
def c_X2_average_19 (a1 : Int32) (σ : Mm × Int32) : Prop := if ((1 : Int32) <<< ((σ.1.1 510 4) &&& 31)) ≤ σ.2 then False else True
theorem ci_X2_average_19 {a1 : Int32}  {σ : Mm × Int32} : c_X2_average_19 a1 σ ↔ (if ((1 : Int32) <<< ((σ.1.1 510 4) &&& 31)) ≤ σ.2 then False else True) := Iff.rfl
noncomputable def s_X2_average_19 (a1 : Int32) (σ : Mm × Int32) : Mm × Int32 := if ((1 : Int32) <<< ((σ.1.1 510 4) &&& 31)) ≤ σ.2 then σ else if (lg_cmp (r_X2_weightOf σ.1 σ.2) 0) = 0 then (σ.1, σ.2 + 1) else if ¬ ((w_X2_runCalled σ.1 σ.2).1 1030 6) = 0 then (if a1 = 0 then ((wl (w_X2_runCalled σ.1 σ.2) 510 10 (((w_X2_runCalled σ.1 σ.2).2 510 10) + ((r_X2_weightOf σ.1 σ.2) * (Int32.toInt64 ((w_X2_runCalled σ.1 σ.2).1 1030 5))))), σ.2 + 1) else ((wl (w_X2_runCalled σ.1 σ.2) 510 10 (((w_X2_runCalled σ.1 σ.2).2 510 10) + ((r_X2_weightOf σ.1 σ.2) * (Int32.toInt64 0)))), σ.2 + 1)) else if a1 = 0 then ((wl (w_X2_runCalled σ.1 σ.2) 510 10 (((w_X2_runCalled σ.1 σ.2).2 510 10) + ((r_X2_weightOf σ.1 σ.2) * (Int32.toInt64 ((w_X2_runCalled σ.1 σ.2).1 1030 5))))), σ.2 + 1) else ((wl (w_X2_runCalled σ.1 σ.2) 510 10 (((w_X2_runCalled σ.1 σ.2).2 510 10) + ((r_X2_weightOf σ.1 σ.2) * (Int32.toInt64 1)))), σ.2 + 1)
def q_X2_average_19 (a1 : Int32) (σ : Mm × Int32) : Prop := (if ((1 : Int32) <<< ((σ.1.1 510 4) &&& 31)) ≤ σ.2 then True else (p_X2_weightOf σ.1 σ.2) ∧ (if (lg_cmp (r_X2_weightOf σ.1 σ.2) 0) = 0 then True else (p_X2_runCalled σ.1 σ.2) ∧ (if ¬ ((w_X2_runCalled σ.1 σ.2).1 1030 6) = 0 then (if a1 = 0 then True else True) else (if a1 = 0 then True else True))))
noncomputable def l_X2_average_19 (a1 : Int32) (σ0 : Mm × Int32) : Nat → Mm × Int32 := itN (fun _ σ => s_X2_average_19 a1 σ) σ0
theorem ps_X2_average_19 {d : Nat} {J : Nat → Lc → List Value → Mm → Prop} {a1 : Int32}  {σ : Mm × Int32}  (g : Good mX2_average.1 mX2_average.2.2.1 mX2_average.2.2.2.1 (d + 4) J) (hc : c_X2_average_19 a1 σ) (hp : q_X2_average_19 a1 σ) (k : ∀ (j3 j5 j6 : Option Value), J 19 [some (.ref 510), some (.int a1), some (.int ((s_X2_average_19 a1 σ).2)), j3, none, j5, j6] [] ((s_X2_average_19 a1 σ).1)) : ∀ (j3 j5 j6 : Option Value), J 19 [some (.ref 510), some (.int a1), some (.int σ.2), j3, none, j5, j6] [] σ.1 := by
  intro j3 j5 j6
  unfold c_X2_average_19 at hc
  unfold q_X2_average_19 at hp
  unfold s_X2_average_19 at k
  refine j_iload_n g (i := 2) (by decide +kernel) rfl ?_
  refine j_iconst g (n := 1) (1) (by decide +kernel) rfl ?_
  refine j_aload_n g (i := 0) (by decide +kernel) rfl ?_
  refine j_gI g f2_31 (by decide +kernel) (by decide +kernel) (by decide +kernel) ?_
  refine j_ishl g (by decide +kernel) ?_
  refine j_icmp_ge g (off := 69) (tgt := 95) (by decide +kernel) (by decide) (fun c26 => ?_) (fun c26 => ?_)
  · (try rw [if_pos (show ((1 : Int32) <<< ((σ.1.1 510 4) &&& 31)) ≤ σ.2 from c26)] at hc); (rw [if_pos (show ((1 : Int32) <<< ((σ.1.1 510 4) &&& 31)) ≤ σ.2 from c26)] at hp); (try simp only [if_pos (show ((1 : Int32) <<< ((σ.1.1 510 4) &&& 31)) ≤ σ.2 from c26)] at k)
    exact hc.elim
  · (try rw [if_neg (show ¬ (((1 : Int32) <<< ((σ.1.1 510 4) &&& 31)) ≤ σ.2) from c26)] at hc); (rw [if_neg (show ¬ (((1 : Int32) <<< ((σ.1.1 510 4) &&& 31)) ≤ σ.2) from c26)] at hp); (try simp only [if_neg (show ¬ (((1 : Int32) <<< ((σ.1.1 510 4) &&& 31)) ≤ σ.2) from c26)] at k)
    refine j_aload_n g (i := 0) (by decide +kernel) rfl ?_
    refine j_iload_n g (i := 2) (by decide +kernel) rfl ?_
    obtain ⟨h0, hp⟩ := hp
    refine j_cV1r g v2_102 ⟨rfl, by decide⟩ (by decide +kernel) (by decide +kernel) (Nat.le_of_ble_eq_true rfl) (rnX2_weightOf h0) ?_
    refine j_lstore_n g (i := 3) (by decide +kernel) (by decide) ?_
    dsimp only [stL, clL, hdL]
    refine j_lload_n g (i := 3) (by decide +kernel) rfl ?_
    refine j_lconst g (n := 0) (0) (by decide +kernel) rfl ?_
    refine j_lcmp g (by decide +kernel) ?_
    refine j_if_eq g (off := 51) (tgt := 89) (by decide +kernel) (by decide) (fun c38 => ?_) (fun c38 => ?_)
    · (try rw [if_pos (show (lg_cmp (r_X2_weightOf σ.1 σ.2) 0) = 0 from c38)] at hc); (rw [if_pos (show (lg_cmp (r_X2_weightOf σ.1 σ.2) 0) = 0 from c38)] at hp); (try simp only [if_pos (show (lg_cmp (r_X2_weightOf σ.1 σ.2) 0) = 0 from c38)] at k)
      refine j_iinc g (i := 2) (n := 1) (1) (by decide +kernel) rfl (by decide) rfl ?_
      dsimp only [stL, clL, hdL]
      refine j_goto g (off := -73) (tgt := 19) (by decide +kernel) (by decide) ?_
      exact k _ _ _
    · (try rw [if_neg (show ¬ ((lg_cmp (r_X2_weightOf σ.1 σ.2) 0) = 0) from c38)] at hc); (rw [if_neg (show ¬ ((lg_cmp (r_X2_weightOf σ.1 σ.2) 0) = 0) from c38)] at hp); (try simp only [if_neg (show ¬ ((lg_cmp (r_X2_weightOf σ.1 σ.2) 0) = 0) from c38)] at k)
      refine j_aload_n g (i := 0) (by decide +kernel) rfl ?_
      refine j_iload_n g (i := 2) (by decide +kernel) rfl ?_
      obtain ⟨h0, hp⟩ := hp
      refine j_cV1r g v2_106 ⟨rfl, by decide⟩ (by decide +kernel) (by decide +kernel) (Nat.le_of_ble_eq_true rfl) (rnX2_runCalled h0) ?_
      refine j_astore g (i := 5) (by decide +kernel) (by decide) ?_
      dsimp only [stL, clL, hdL]
      refine j_aload g (i := 5) (by decide +kernel) rfl ?_
      refine j_gI g f2_110 (by decide +kernel) (by decide +kernel) (by decide +kernel) ?_
      refine j_if_ne g (off := 7) (tgt := 60) (by decide +kernel) (by decide) (fun c53 => ?_) (fun c53 => ?_)
      · (try rw [if_pos (show ¬ ((w_X2_runCalled σ.1 σ.2).1 1030 6) = 0 from c53)] at hc); (rw [if_pos (show ¬ ((w_X2_runCalled σ.1 σ.2).1 1030 6) = 0 from c53)] at hp); (try simp only [if_pos (show ¬ ((w_X2_runCalled σ.1 σ.2).1 1030 6) = 0 from c53)] at k)
        refine j_iconst g (n := 0) (0) (by decide +kernel) rfl ?_
        refine j_istore g (i := 6) (by decide +kernel) (by decide) ?_
        dsimp only [stL, clL, hdL]
        refine j_aload_n g (i := 0) (by decide +kernel) rfl ?_
        refine j_dup g (by decide +kernel) rfl ?_
        refine j_gJ g f2_51 (by decide +kernel) (by decide +kernel) (by decide +kernel) ?_
        refine j_lload_n g (i := 3) (by decide +kernel) rfl ?_
        refine j_iload_n g (i := 1) (by decide +kernel) rfl ?_
        refine j_if_eq g (off := 8) (tgt := 78) (by decide +kernel) (by decide) (fun c70 => ?_) (fun c70 => ?_)
        · (try rw [if_pos (show a1 = 0 from c70)] at hc); (rw [if_pos (show a1 = 0 from c70)] at hp); (try simp only [if_pos (show a1 = 0 from c70)] at k)
          refine j_aload g (i := 5) (by decide +kernel) rfl ?_
          refine j_gI g f2_113 (by decide +kernel) (by decide +kernel) (by decide +kernel) ?_
          refine j_i2l g (by decide +kernel) ?_
          refine j_lmul g (by decide +kernel) ?_
          refine j_ladd g (by decide +kernel) ?_
          refine j_pJ g f2_51 (fun q h => by cases h; rfl) (by decide +kernel) (by decide +kernel) (by decide +kernel) ?_
          refine j_iinc g (i := 2) (n := 1) (1) (by decide +kernel) rfl (by decide) rfl ?_
          dsimp only [stL, clL, hdL]
          refine j_goto g (off := -73) (tgt := 19) (by decide +kernel) (by decide) ?_
          exact k _ _ _
        · (try rw [if_neg (show ¬ (a1 = 0) from c70)] at hc); (rw [if_neg (show ¬ (a1 = 0) from c70)] at hp); (try simp only [if_neg (show ¬ (a1 = 0) from c70)] at k)
          refine j_iload g (i := 6) (by decide +kernel) rfl ?_
          refine j_goto g (off := 8) (tgt := 83) (by decide +kernel) (by decide) ?_
          refine j_i2l g (by decide +kernel) ?_
          refine j_lmul g (by decide +kernel) ?_
          refine j_ladd g (by decide +kernel) ?_
          refine j_pJ g f2_51 (fun q h => by cases h; rfl) (by decide +kernel) (by decide +kernel) (by decide +kernel) ?_
          refine j_iinc g (i := 2) (n := 1) (1) (by decide +kernel) rfl (by decide) rfl ?_
          dsimp only [stL, clL, hdL]
          refine j_goto g (off := -73) (tgt := 19) (by decide +kernel) (by decide) ?_
          exact k _ _ _
      · (try rw [if_neg (show ¬ (¬ ((w_X2_runCalled σ.1 σ.2).1 1030 6) = 0) from c53)] at hc); (rw [if_neg (show ¬ (¬ ((w_X2_runCalled σ.1 σ.2).1 1030 6) = 0) from c53)] at hp); (try simp only [if_neg (show ¬ (¬ ((w_X2_runCalled σ.1 σ.2).1 1030 6) = 0) from c53)] at k)
        refine j_iconst g (n := 1) (1) (by decide +kernel) rfl ?_
        refine j_goto g (off := 4) (tgt := 61) (by decide +kernel) (by decide) ?_
        refine j_istore g (i := 6) (by decide +kernel) (by decide) ?_
        dsimp only [stL, clL, hdL]
        refine j_aload_n g (i := 0) (by decide +kernel) rfl ?_
        refine j_dup g (by decide +kernel) rfl ?_
        refine j_gJ g f2_51 (by decide +kernel) (by decide +kernel) (by decide +kernel) ?_
        refine j_lload_n g (i := 3) (by decide +kernel) rfl ?_
        refine j_iload_n g (i := 1) (by decide +kernel) rfl ?_
        refine j_if_eq g (off := 8) (tgt := 78) (by decide +kernel) (by decide) (fun c70 => ?_) (fun c70 => ?_)
        · (try rw [if_pos (show a1 = 0 from c70)] at hc); (rw [if_pos (show a1 = 0 from c70)] at hp); (try simp only [if_pos (show a1 = 0 from c70)] at k)
          refine j_aload g (i := 5) (by decide +kernel) rfl ?_
          refine j_gI g f2_113 (by decide +kernel) (by decide +kernel) (by decide +kernel) ?_
          refine j_i2l g (by decide +kernel) ?_
          refine j_lmul g (by decide +kernel) ?_
          refine j_ladd g (by decide +kernel) ?_
          refine j_pJ g f2_51 (fun q h => by cases h; rfl) (by decide +kernel) (by decide +kernel) (by decide +kernel) ?_
          refine j_iinc g (i := 2) (n := 1) (1) (by decide +kernel) rfl (by decide) rfl ?_
          dsimp only [stL, clL, hdL]
          refine j_goto g (off := -73) (tgt := 19) (by decide +kernel) (by decide) ?_
          exact k _ _ _
        · (try rw [if_neg (show ¬ (a1 = 0) from c70)] at hc); (rw [if_neg (show ¬ (a1 = 0) from c70)] at hp); (try simp only [if_neg (show ¬ (a1 = 0) from c70)] at k)
          refine j_iload g (i := 6) (by decide +kernel) rfl ?_
          refine j_goto g (off := 8) (tgt := 83) (by decide +kernel) (by decide) ?_
          refine j_i2l g (by decide +kernel) ?_
          refine j_lmul g (by decide +kernel) ?_
          refine j_ladd g (by decide +kernel) ?_
          refine j_pJ g f2_51 (fun q h => by cases h; rfl) (by decide +kernel) (by decide +kernel) (by decide +kernel) ?_
          refine j_iinc g (i := 2) (n := 1) (1) (by decide +kernel) rfl (by decide) rfl ?_
          dsimp only [stL, clL, hdL]
          refine j_goto g (off := -73) (tgt := 19) (by decide +kernel) (by decide) ?_
          exact k _ _ _
theorem sh_X2_average_19 {d : Nat} {J : Nat → Lc → List Value → Mm → Prop} {a1 : Int32}  {σ0 : Mm × Int32}  (g : Good mX2_average.1 mX2_average.2.2.1 mX2_average.2.2.2.1 (d + 4) J) : ∀ (N : Nat), (∀ k, k < N → c_X2_average_19 a1 (l_X2_average_19 a1 σ0 k)) → (∀ k, k < N → q_X2_average_19 a1 (l_X2_average_19 a1 σ0 k)) → (∀ (j3 j5 j6 : Option Value), J 19 [some (.ref 510), some (.int a1), some (.int ((l_X2_average_19 a1 σ0 N).2)), j3, none, j5, j6] [] ((l_X2_average_19 a1 σ0 N).1)) → ∀ (j3 j5 j6 : Option Value), J 19 [some (.ref 510), some (.int a1), some (.int σ0.2), j3, none, j5, j6] [] σ0.1
  | 0, _, _, k => k
  | N + 1, hc, hp, k => sh_X2_average_19  g N (fun i hi => hc i (Nat.lt_succ_of_lt hi)) (fun i hi => hp i (Nat.lt_succ_of_lt hi)) (ps_X2_average_19  g (hc N (Nat.lt_succ_self N)) (hp N (Nat.lt_succ_self N)) k)
def c_X2_average_97 (a1 : Int32) (σ : Mm × Int32) : Prop := if (18 : Int32) ≤ σ.2 then False else if (lg_cmp (σ.1.2 510 11) 1) ≤ 0 then False else if ¬ (lg_cmp ((σ.1.2 510 10) - (σ.1.2 510 10) / 2 * 2) 0) = 0 then False else True
theorem ci_X2_average_97 {a1 : Int32}  {σ : Mm × Int32} : c_X2_average_97 a1 σ ↔ (if (18 : Int32) ≤ σ.2 then False else if (lg_cmp (σ.1.2 510 11) 1) ≤ 0 then False else if ¬ (lg_cmp ((σ.1.2 510 10) - (σ.1.2 510 10) / 2 * 2) 0) = 0 then False else True) := Iff.rfl
noncomputable def s_X2_average_97 (a1 : Int32) (σ : Mm × Int32) : Mm × Int32 := if (18 : Int32) ≤ σ.2 then σ else if (lg_cmp (σ.1.2 510 11) 1) ≤ 0 then σ else if ¬ (lg_cmp ((σ.1.2 510 10) - (σ.1.2 510 10) / 2 * 2) 0) = 0 then σ else ((wl (wl σ.1 510 10 ((σ.1.2 510 10) / 2)) 510 11 ((σ.1.2 510 11) / 2)), σ.2 + 1)
noncomputable def l_X2_average_97 (a1 : Int32) (σ0 : Mm × Int32) : Nat → Mm × Int32 := itN (fun _ σ => s_X2_average_97 a1 σ) σ0
theorem ps_X2_average_97 {d : Nat} {J : Nat → Lc → List Value → Mm → Prop} {a1 : Int32}  {σ : Mm × Int32}  (g : Good mX2_average.1 mX2_average.2.2.1 mX2_average.2.2.2.1 (d + 4) J) (hc : c_X2_average_97 a1 σ) (k : ∀ (j3 j5 j6 : Option Value), J 97 [some (.ref 510), some (.int a1), some (.int ((s_X2_average_97 a1 σ).2)), j3, none, j5, j6] [] ((s_X2_average_97 a1 σ).1)) : ∀ (j3 j5 j6 : Option Value), J 97 [some (.ref 510), some (.int a1), some (.int σ.2), j3, none, j5, j6] [] σ.1 := by
  intro j3 j5 j6
  unfold c_X2_average_97 at hc
  unfold s_X2_average_97 at k
  refine j_iload_n g (i := 2) (by decide +kernel) rfl ?_
  refine j_bipush g (n := 18) (18) (by decide +kernel) (by decide +kernel) ?_
  refine j_icmp_ge g (off := 55) (tgt := 155) (by decide +kernel) (by decide) (fun c100 => ?_) (fun c100 => ?_)
  · (try rw [if_pos (show (18 : Int32) ≤ σ.2 from c100)] at hc); (try simp only [if_pos (show (18 : Int32) ≤ σ.2 from c100)] at k)
    exact hc.elim
  · (try rw [if_neg (show ¬ ((18 : Int32) ≤ σ.2) from c100)] at hc); (try simp only [if_neg (show ¬ ((18 : Int32) ≤ σ.2) from c100)] at k)
    refine j_aload_n g (i := 0) (by decide +kernel) rfl ?_
    refine j_gJ g f2_55 (by decide +kernel) (by decide +kernel) (by decide +kernel) ?_
    refine j_lconst g (n := 1) (1) (by decide +kernel) rfl ?_
    refine j_lcmp g (by decide +kernel) ?_
    refine j_if_le g (off := 46) (tgt := 155) (by decide +kernel) (by decide) (fun c109 => ?_) (fun c109 => ?_)
    · (try rw [if_pos (show (lg_cmp (σ.1.2 510 11) 1) ≤ 0 from c109)] at hc); (try simp only [if_pos (show (lg_cmp (σ.1.2 510 11) 1) ≤ 0 from c109)] at k)
      exact hc.elim
    · (try rw [if_neg (show ¬ ((lg_cmp (σ.1.2 510 11) 1) ≤ 0) from c109)] at hc); (try simp only [if_neg (show ¬ ((lg_cmp (σ.1.2 510 11) 1) ≤ 0) from c109)] at k)
      refine j_aload_n g (i := 0) (by decide +kernel) rfl ?_
      refine j_gJ g f2_51 (by decide +kernel) (by decide +kernel) (by decide +kernel) ?_
      refine j_ldc2 g (n := 116) (2) (by decide +kernel) k2_116 ?_
      refine j_lrem g (by decide +kernel) (by decide) ?_
      refine j_lconst g (n := 0) (0) (by decide +kernel) rfl ?_
      refine j_lcmp g (by decide +kernel) ?_
      refine j_if_ne g (off := 33) (tgt := 155) (by decide +kernel) (by decide) (fun c122 => ?_) (fun c122 => ?_)
      · (try rw [if_pos (show ¬ (lg_cmp ((σ.1.2 510 10) - (σ.1.2 510 10) / 2 * 2) 0) = 0 from c122)] at hc); (try simp only [if_pos (show ¬ (lg_cmp ((σ.1.2 510 10) - (σ.1.2 510 10) / 2 * 2) 0) = 0 from c122)] at k)
        exact hc.elim
      · (try rw [if_neg (show ¬ (¬ (lg_cmp ((σ.1.2 510 10) - (σ.1.2 510 10) / 2 * 2) 0) = 0) from c122)] at hc); (try simp only [if_neg (show ¬ (¬ (lg_cmp ((σ.1.2 510 10) - (σ.1.2 510 10) / 2 * 2) 0) = 0) from c122)] at k)
        refine j_aload_n g (i := 0) (by decide +kernel) rfl ?_
        refine j_dup g (by decide +kernel) rfl ?_
        refine j_gJ g f2_51 (by decide +kernel) (by decide +kernel) (by decide +kernel) ?_
        refine j_ldc2 g (n := 116) (2) (by decide +kernel) k2_116 ?_
        refine j_ldiv g (by decide +kernel) (by decide) ?_
        refine j_pJ g f2_51 (fun q h => by cases h; rfl) (by decide +kernel) (by decide +kernel) (by decide +kernel) ?_
        refine j_aload_n g (i := 0) (by decide +kernel) rfl ?_
        refine j_dup g (by decide +kernel) rfl ?_
        refine j_gJ g f2_55 (by decide +kernel) (by decide +kernel) (by decide +kernel) ?_
        refine j_ldc2 g (n := 116) (2) (by decide +kernel) k2_116 ?_
        refine j_ldiv g (by decide +kernel) (by decide) ?_
        refine j_pJ g f2_55 (fun q h => by cases h; rfl) (by decide +kernel) (by decide +kernel) (by decide +kernel) ?_
        refine j_iinc g (i := 2) (n := 1) (1) (by decide +kernel) rfl (by decide) rfl ?_
        dsimp only [stL, clL, hdL]
        refine j_goto g (off := -55) (tgt := 97) (by decide +kernel) (by decide) ?_
        exact k _ _ _
theorem sh_X2_average_97 {d : Nat} {J : Nat → Lc → List Value → Mm → Prop} {a1 : Int32}  {σ0 : Mm × Int32}  (g : Good mX2_average.1 mX2_average.2.2.1 mX2_average.2.2.2.1 (d + 4) J) : ∀ (N : Nat), (∀ k, k < N → c_X2_average_97 a1 (l_X2_average_97 a1 σ0 k)) → (∀ (j3 j5 j6 : Option Value), J 97 [some (.ref 510), some (.int a1), some (.int ((l_X2_average_97 a1 σ0 N).2)), j3, none, j5, j6] [] ((l_X2_average_97 a1 σ0 N).1)) → ∀ (j3 j5 j6 : Option Value), J 97 [some (.ref 510), some (.int a1), some (.int σ0.2), j3, none, j5, j6] [] σ0.1
  | 0, _, k => k
  | N + 1, hc, k => sh_X2_average_97  g N (fun i hi => hc i (Nat.lt_succ_of_lt hi)) (ps_X2_average_97  g (hc N (Nat.lt_succ_self N)) k)
noncomputable def w_X2_average (M : Mm) (a1 : Int32) : Mm := if ((1 : Int32) <<< (((l_X2_average_19 a1 ((wl (wl M 510 10 0) 510 11 (1 <<< (Int32.toInt64 ((3 : Int32) * (M.1 510 4)) &&& 63))), 0) (Int32.toNatClampNeg ((1 : Int32) <<< ((wl (wl M 510 10 0) 510 11 (1 <<< (Int32.toInt64 ((3 : Int32) * (M.1 510 4)) &&& 63))).1 510 4 &&& 31)))).1.1 510 4) &&& 31)) ≤ ((l_X2_average_19 a1 ((wl (wl M 510 10 0) 510 11 (1 <<< (Int32.toInt64 ((3 : Int32) * (M.1 510 4)) &&& 63))), 0) (Int32.toNatClampNeg ((1 : Int32) <<< ((wl (wl M 510 10 0) 510 11 (1 <<< (Int32.toInt64 ((3 : Int32) * (M.1 510 4)) &&& 63))).1 510 4 &&& 31)))).2) then (if (18 : Int32) ≤ ((l_X2_average_97 a1 ((l_X2_average_19 a1 ((wl (wl M 510 10 0) 510 11 (1 <<< (Int32.toInt64 ((3 : Int32) * (M.1 510 4)) &&& 63))), 0) (Int32.toNatClampNeg ((1 : Int32) <<< ((wl (wl M 510 10 0) 510 11 (1 <<< (Int32.toInt64 ((3 : Int32) * (M.1 510 4)) &&& 63))).1 510 4 &&& 31)))).1, 0) (cntN (fun k => c_X2_average_97 a1 (l_X2_average_97 a1 ((l_X2_average_19 a1 ((wl (wl M 510 10 0) 510 11 (1 <<< (Int32.toInt64 ((3 : Int32) * (M.1 510 4)) &&& 63))), 0) (Int32.toNatClampNeg ((1 : Int32) <<< ((wl (wl M 510 10 0) 510 11 (1 <<< (Int32.toInt64 ((3 : Int32) * (M.1 510 4)) &&& 63))).1 510 4 &&& 31)))).1, 0) k)) 19)).2) then (l_X2_average_97 a1 ((l_X2_average_19 a1 ((wl (wl M 510 10 0) 510 11 (1 <<< (Int32.toInt64 ((3 : Int32) * (M.1 510 4)) &&& 63))), 0) (Int32.toNatClampNeg ((1 : Int32) <<< ((wl (wl M 510 10 0) 510 11 (1 <<< (Int32.toInt64 ((3 : Int32) * (M.1 510 4)) &&& 63))).1 510 4 &&& 31)))).1, 0) (cntN (fun k => c_X2_average_97 a1 (l_X2_average_97 a1 ((l_X2_average_19 a1 ((wl (wl M 510 10 0) 510 11 (1 <<< (Int32.toInt64 ((3 : Int32) * (M.1 510 4)) &&& 63))), 0) (Int32.toNatClampNeg ((1 : Int32) <<< ((wl (wl M 510 10 0) 510 11 (1 <<< (Int32.toInt64 ((3 : Int32) * (M.1 510 4)) &&& 63))).1 510 4 &&& 31)))).1, 0) k)) 19)).1 else if (lg_cmp ((l_X2_average_97 a1 ((l_X2_average_19 a1 ((wl (wl M 510 10 0) 510 11 (1 <<< (Int32.toInt64 ((3 : Int32) * (M.1 510 4)) &&& 63))), 0) (Int32.toNatClampNeg ((1 : Int32) <<< ((wl (wl M 510 10 0) 510 11 (1 <<< (Int32.toInt64 ((3 : Int32) * (M.1 510 4)) &&& 63))).1 510 4 &&& 31)))).1, 0) (cntN (fun k => c_X2_average_97 a1 (l_X2_average_97 a1 ((l_X2_average_19 a1 ((wl (wl M 510 10 0) 510 11 (1 <<< (Int32.toInt64 ((3 : Int32) * (M.1 510 4)) &&& 63))), 0) (Int32.toNatClampNeg ((1 : Int32) <<< ((wl (wl M 510 10 0) 510 11 (1 <<< (Int32.toInt64 ((3 : Int32) * (M.1 510 4)) &&& 63))).1 510 4 &&& 31)))).1, 0) k)) 19)).1.2 510 11) 1) ≤ 0 then (l_X2_average_97 a1 ((l_X2_average_19 a1 ((wl (wl M 510 10 0) 510 11 (1 <<< (Int32.toInt64 ((3 : Int32) * (M.1 510 4)) &&& 63))), 0) (Int32.toNatClampNeg ((1 : Int32) <<< ((wl (wl M 510 10 0) 510 11 (1 <<< (Int32.toInt64 ((3 : Int32) * (M.1 510 4)) &&& 63))).1 510 4 &&& 31)))).1, 0) (cntN (fun k => c_X2_average_97 a1 (l_X2_average_97 a1 ((l_X2_average_19 a1 ((wl (wl M 510 10 0) 510 11 (1 <<< (Int32.toInt64 ((3 : Int32) * (M.1 510 4)) &&& 63))), 0) (Int32.toNatClampNeg ((1 : Int32) <<< ((wl (wl M 510 10 0) 510 11 (1 <<< (Int32.toInt64 ((3 : Int32) * (M.1 510 4)) &&& 63))).1 510 4 &&& 31)))).1, 0) k)) 19)).1 else if ¬ (lg_cmp (((l_X2_average_97 a1 ((l_X2_average_19 a1 ((wl (wl M 510 10 0) 510 11 (1 <<< (Int32.toInt64 ((3 : Int32) * (M.1 510 4)) &&& 63))), 0) (Int32.toNatClampNeg ((1 : Int32) <<< ((wl (wl M 510 10 0) 510 11 (1 <<< (Int32.toInt64 ((3 : Int32) * (M.1 510 4)) &&& 63))).1 510 4 &&& 31)))).1, 0) (cntN (fun k => c_X2_average_97 a1 (l_X2_average_97 a1 ((l_X2_average_19 a1 ((wl (wl M 510 10 0) 510 11 (1 <<< (Int32.toInt64 ((3 : Int32) * (M.1 510 4)) &&& 63))), 0) (Int32.toNatClampNeg ((1 : Int32) <<< ((wl (wl M 510 10 0) 510 11 (1 <<< (Int32.toInt64 ((3 : Int32) * (M.1 510 4)) &&& 63))).1 510 4 &&& 31)))).1, 0) k)) 19)).1.2 510 10) - ((l_X2_average_97 a1 ((l_X2_average_19 a1 ((wl (wl M 510 10 0) 510 11 (1 <<< (Int32.toInt64 ((3 : Int32) * (M.1 510 4)) &&& 63))), 0) (Int32.toNatClampNeg ((1 : Int32) <<< ((wl (wl M 510 10 0) 510 11 (1 <<< (Int32.toInt64 ((3 : Int32) * (M.1 510 4)) &&& 63))).1 510 4 &&& 31)))).1, 0) (cntN (fun k => c_X2_average_97 a1 (l_X2_average_97 a1 ((l_X2_average_19 a1 ((wl (wl M 510 10 0) 510 11 (1 <<< (Int32.toInt64 ((3 : Int32) * (M.1 510 4)) &&& 63))), 0) (Int32.toNatClampNeg ((1 : Int32) <<< ((wl (wl M 510 10 0) 510 11 (1 <<< (Int32.toInt64 ((3 : Int32) * (M.1 510 4)) &&& 63))).1 510 4 &&& 31)))).1, 0) k)) 19)).1.2 510 10) / 2 * 2) 0) = 0 then (l_X2_average_97 a1 ((l_X2_average_19 a1 ((wl (wl M 510 10 0) 510 11 (1 <<< (Int32.toInt64 ((3 : Int32) * (M.1 510 4)) &&& 63))), 0) (Int32.toNatClampNeg ((1 : Int32) <<< ((wl (wl M 510 10 0) 510 11 (1 <<< (Int32.toInt64 ((3 : Int32) * (M.1 510 4)) &&& 63))).1 510 4 &&& 31)))).1, 0) (cntN (fun k => c_X2_average_97 a1 (l_X2_average_97 a1 ((l_X2_average_19 a1 ((wl (wl M 510 10 0) 510 11 (1 <<< (Int32.toInt64 ((3 : Int32) * (M.1 510 4)) &&& 63))), 0) (Int32.toNatClampNeg ((1 : Int32) <<< ((wl (wl M 510 10 0) 510 11 (1 <<< (Int32.toInt64 ((3 : Int32) * (M.1 510 4)) &&& 63))).1 510 4 &&& 31)))).1, 0) k)) 19)).1 else M) else M
def p_X2_average (M : Mm) (a1 : Int32) : Prop := (∀ k, k < (Int32.toNatClampNeg ((1 : Int32) <<< ((wl (wl M 510 10 0) 510 11 (1 <<< (Int32.toInt64 ((3 : Int32) * (M.1 510 4)) &&& 63))).1 510 4 &&& 31))) → c_X2_average_19 a1 (l_X2_average_19 a1 ((wl (wl M 510 10 0) 510 11 (1 <<< (Int32.toInt64 ((3 : Int32) * (M.1 510 4)) &&& 63))), 0) k)) ∧ (∀ k, k < (Int32.toNatClampNeg ((1 : Int32) <<< ((wl (wl M 510 10 0) 510 11 (1 <<< (Int32.toInt64 ((3 : Int32) * (M.1 510 4)) &&& 63))).1 510 4 &&& 31))) → q_X2_average_19 a1 (l_X2_average_19 a1 ((wl (wl M 510 10 0) 510 11 (1 <<< (Int32.toInt64 ((3 : Int32) * (M.1 510 4)) &&& 63))), 0) k)) ∧ (¬ c_X2_average_19 a1 (l_X2_average_19 a1 ((wl (wl M 510 10 0) 510 11 (1 <<< (Int32.toInt64 ((3 : Int32) * (M.1 510 4)) &&& 63))), 0) (Int32.toNatClampNeg ((1 : Int32) <<< ((wl (wl M 510 10 0) 510 11 (1 <<< (Int32.toInt64 ((3 : Int32) * (M.1 510 4)) &&& 63))).1 510 4 &&& 31))))) ∧ (if ((1 : Int32) <<< (((l_X2_average_19 a1 ((wl (wl M 510 10 0) 510 11 (1 <<< (Int32.toInt64 ((3 : Int32) * (M.1 510 4)) &&& 63))), 0) (Int32.toNatClampNeg ((1 : Int32) <<< ((wl (wl M 510 10 0) 510 11 (1 <<< (Int32.toInt64 ((3 : Int32) * (M.1 510 4)) &&& 63))).1 510 4 &&& 31)))).1.1 510 4) &&& 31)) ≤ ((l_X2_average_19 a1 ((wl (wl M 510 10 0) 510 11 (1 <<< (Int32.toInt64 ((3 : Int32) * (M.1 510 4)) &&& 63))), 0) (Int32.toNatClampNeg ((1 : Int32) <<< ((wl (wl M 510 10 0) 510 11 (1 <<< (Int32.toInt64 ((3 : Int32) * (M.1 510 4)) &&& 63))).1 510 4 &&& 31)))).2) then (∀ k, k < (cntN (fun k => c_X2_average_97 a1 (l_X2_average_97 a1 ((l_X2_average_19 a1 ((wl (wl M 510 10 0) 510 11 (1 <<< (Int32.toInt64 ((3 : Int32) * (M.1 510 4)) &&& 63))), 0) (Int32.toNatClampNeg ((1 : Int32) <<< ((wl (wl M 510 10 0) 510 11 (1 <<< (Int32.toInt64 ((3 : Int32) * (M.1 510 4)) &&& 63))).1 510 4 &&& 31)))).1, 0) k)) 19) → c_X2_average_97 a1 (l_X2_average_97 a1 ((l_X2_average_19 a1 ((wl (wl M 510 10 0) 510 11 (1 <<< (Int32.toInt64 ((3 : Int32) * (M.1 510 4)) &&& 63))), 0) (Int32.toNatClampNeg ((1 : Int32) <<< ((wl (wl M 510 10 0) 510 11 (1 <<< (Int32.toInt64 ((3 : Int32) * (M.1 510 4)) &&& 63))).1 510 4 &&& 31)))).1, 0) k)) ∧ (¬ c_X2_average_97 a1 (l_X2_average_97 a1 ((l_X2_average_19 a1 ((wl (wl M 510 10 0) 510 11 (1 <<< (Int32.toInt64 ((3 : Int32) * (M.1 510 4)) &&& 63))), 0) (Int32.toNatClampNeg ((1 : Int32) <<< ((wl (wl M 510 10 0) 510 11 (1 <<< (Int32.toInt64 ((3 : Int32) * (M.1 510 4)) &&& 63))).1 510 4 &&& 31)))).1, 0) (cntN (fun k => c_X2_average_97 a1 (l_X2_average_97 a1 ((l_X2_average_19 a1 ((wl (wl M 510 10 0) 510 11 (1 <<< (Int32.toInt64 ((3 : Int32) * (M.1 510 4)) &&& 63))), 0) (Int32.toNatClampNeg ((1 : Int32) <<< ((wl (wl M 510 10 0) 510 11 (1 <<< (Int32.toInt64 ((3 : Int32) * (M.1 510 4)) &&& 63))).1 510 4 &&& 31)))).1, 0) k)) 19))) ∧ (if (18 : Int32) ≤ ((l_X2_average_97 a1 ((l_X2_average_19 a1 ((wl (wl M 510 10 0) 510 11 (1 <<< (Int32.toInt64 ((3 : Int32) * (M.1 510 4)) &&& 63))), 0) (Int32.toNatClampNeg ((1 : Int32) <<< ((wl (wl M 510 10 0) 510 11 (1 <<< (Int32.toInt64 ((3 : Int32) * (M.1 510 4)) &&& 63))).1 510 4 &&& 31)))).1, 0) (cntN (fun k => c_X2_average_97 a1 (l_X2_average_97 a1 ((l_X2_average_19 a1 ((wl (wl M 510 10 0) 510 11 (1 <<< (Int32.toInt64 ((3 : Int32) * (M.1 510 4)) &&& 63))), 0) (Int32.toNatClampNeg ((1 : Int32) <<< ((wl (wl M 510 10 0) 510 11 (1 <<< (Int32.toInt64 ((3 : Int32) * (M.1 510 4)) &&& 63))).1 510 4 &&& 31)))).1, 0) k)) 19)).2) then True else (if (lg_cmp ((l_X2_average_97 a1 ((l_X2_average_19 a1 ((wl (wl M 510 10 0) 510 11 (1 <<< (Int32.toInt64 ((3 : Int32) * (M.1 510 4)) &&& 63))), 0) (Int32.toNatClampNeg ((1 : Int32) <<< ((wl (wl M 510 10 0) 510 11 (1 <<< (Int32.toInt64 ((3 : Int32) * (M.1 510 4)) &&& 63))).1 510 4 &&& 31)))).1, 0) (cntN (fun k => c_X2_average_97 a1 (l_X2_average_97 a1 ((l_X2_average_19 a1 ((wl (wl M 510 10 0) 510 11 (1 <<< (Int32.toInt64 ((3 : Int32) * (M.1 510 4)) &&& 63))), 0) (Int32.toNatClampNeg ((1 : Int32) <<< ((wl (wl M 510 10 0) 510 11 (1 <<< (Int32.toInt64 ((3 : Int32) * (M.1 510 4)) &&& 63))).1 510 4 &&& 31)))).1, 0) k)) 19)).1.2 510 11) 1) ≤ 0 then True else (if ¬ (lg_cmp (((l_X2_average_97 a1 ((l_X2_average_19 a1 ((wl (wl M 510 10 0) 510 11 (1 <<< (Int32.toInt64 ((3 : Int32) * (M.1 510 4)) &&& 63))), 0) (Int32.toNatClampNeg ((1 : Int32) <<< ((wl (wl M 510 10 0) 510 11 (1 <<< (Int32.toInt64 ((3 : Int32) * (M.1 510 4)) &&& 63))).1 510 4 &&& 31)))).1, 0) (cntN (fun k => c_X2_average_97 a1 (l_X2_average_97 a1 ((l_X2_average_19 a1 ((wl (wl M 510 10 0) 510 11 (1 <<< (Int32.toInt64 ((3 : Int32) * (M.1 510 4)) &&& 63))), 0) (Int32.toNatClampNeg ((1 : Int32) <<< ((wl (wl M 510 10 0) 510 11 (1 <<< (Int32.toInt64 ((3 : Int32) * (M.1 510 4)) &&& 63))).1 510 4 &&& 31)))).1, 0) k)) 19)).1.2 510 10) - ((l_X2_average_97 a1 ((l_X2_average_19 a1 ((wl (wl M 510 10 0) 510 11 (1 <<< (Int32.toInt64 ((3 : Int32) * (M.1 510 4)) &&& 63))), 0) (Int32.toNatClampNeg ((1 : Int32) <<< ((wl (wl M 510 10 0) 510 11 (1 <<< (Int32.toInt64 ((3 : Int32) * (M.1 510 4)) &&& 63))).1 510 4 &&& 31)))).1, 0) (cntN (fun k => c_X2_average_97 a1 (l_X2_average_97 a1 ((l_X2_average_19 a1 ((wl (wl M 510 10 0) 510 11 (1 <<< (Int32.toInt64 ((3 : Int32) * (M.1 510 4)) &&& 63))), 0) (Int32.toNatClampNeg ((1 : Int32) <<< ((wl (wl M 510 10 0) 510 11 (1 <<< (Int32.toInt64 ((3 : Int32) * (M.1 510 4)) &&& 63))).1 510 4 &&& 31)))).1, 0) k)) 19)).1.2 510 10) / 2 * 2) 0) = 0 then True else True))) else True)
set_option maxRecDepth 20000 in
theorem rnX2_average {d : Nat} {M : Mm} {a1 : Int32}  (hp : p_X2_average M a1) : Rn (d + 4) mX2_average [.ref 510, .int a1] M none (w_X2_average M a1) := by
  refine Rn.of [some (.ref 510), some (.int a1), none, none, none, none, none] (by decide +kernel) rfl (Nat.le_of_ble_eq_true rfl) rfl (fun J g hr => ?_)
  unfold p_X2_average at hp
  refine j_aload_n g (i := 0) (by decide +kernel) rfl ?_
  refine j_lconst g (n := 0) (0) (by decide +kernel) rfl ?_
  refine j_pJ g f2_51 (fun q h => by cases h; rfl) (by decide +kernel) (by decide +kernel) (by decide +kernel) ?_
  refine j_aload_n g (i := 0) (by decide +kernel) rfl ?_
  refine j_lconst g (n := 1) (1) (by decide +kernel) rfl ?_
  refine j_iconst g (n := 3) (3) (by decide +kernel) rfl ?_
  refine j_aload_n g (i := 0) (by decide +kernel) rfl ?_
  refine j_gI g f2_31 (by decide +kernel) (by decide +kernel) (by decide +kernel) ?_
  refine j_imul g (by decide +kernel) ?_
  refine j_lshl g (by decide +kernel) ?_
  refine j_pJ g f2_55 (fun q h => by cases h; rfl) (by decide +kernel) (by decide +kernel) (by decide +kernel) ?_
  refine j_iconst g (n := 0) (0) (by decide +kernel) rfl ?_
  refine j_istore_n g (i := 2) (by decide +kernel) (by decide) ?_
  dsimp only [stL, clL, hdL]
  obtain ⟨h0, hp⟩ := hp
  have hc_19_1 := h0
  obtain ⟨h0, hp⟩ := hp
  have hq_19_1 := h0
  obtain ⟨h0, hp⟩ := hp
  have hx_19_1 := h0
  refine sh_X2_average_19   g (σ0 := ((wl (wl M 510 10 0) 510 11 (1 <<< (Int32.toInt64 ((3 : Int32) * (M.1 510 4)) &&& 63))), 0)) (Int32.toNatClampNeg ((1 : Int32) <<< ((wl (wl M 510 10 0) 510 11 (1 <<< (Int32.toInt64 ((3 : Int32) * (M.1 510 4)) &&& 63))).1 510 4 &&& 31))) hc_19_1 hq_19_1 ?_ _ _ _
  intro j3_1 j5_1 j6_1
  refine j_iload_n g (i := 2) (by decide +kernel) rfl ?_
  refine j_iconst g (n := 1) (1) (by decide +kernel) rfl ?_
  refine j_aload_n g (i := 0) (by decide +kernel) rfl ?_
  refine j_gI g f2_31 (by decide +kernel) (by decide +kernel) (by decide +kernel) ?_
  refine j_ishl g (by decide +kernel) ?_
  refine j_icmp_ge g (off := 69) (tgt := 95) (by decide +kernel) (by decide) (fun c26 => ?_) (fun c26 => ?_)
  · rw [if_pos (show ((1 : Int32) <<< (((l_X2_average_19 a1 ((wl (wl M 510 10 0) 510 11 (1 <<< (Int32.toInt64 ((3 : Int32) * (M.1 510 4)) &&& 63))), 0) (Int32.toNatClampNeg ((1 : Int32) <<< ((wl (wl M 510 10 0) 510 11 (1 <<< (Int32.toInt64 ((3 : Int32) * (M.1 510 4)) &&& 63))).1 510 4 &&& 31)))).1.1 510 4) &&& 31)) ≤ ((l_X2_average_19 a1 ((wl (wl M 510 10 0) 510 11 (1 <<< (Int32.toInt64 ((3 : Int32) * (M.1 510 4)) &&& 63))), 0) (Int32.toNatClampNeg ((1 : Int32) <<< ((wl (wl M 510 10 0) 510 11 (1 <<< (Int32.toInt64 ((3 : Int32) * (M.1 510 4)) &&& 63))).1 510 4 &&& 31)))).2) from c26)] at hp
    refine j_iconst g (n := 0) (0) (by decide +kernel) rfl ?_
    refine j_istore_n g (i := 2) (by decide +kernel) (by decide) ?_
    dsimp only [stL, clL, hdL]
    obtain ⟨h0, hp⟩ := hp
    have hc_97_2 := h0
    obtain ⟨h0, hp⟩ := hp
    have hx_97_2 := h0
    refine sh_X2_average_97   g (σ0 := ((l_X2_average_19 a1 ((wl (wl M 510 10 0) 510 11 (1 <<< (Int32.toInt64 ((3 : Int32) * (M.1 510 4)) &&& 63))), 0) (Int32.toNatClampNeg ((1 : Int32) <<< ((wl (wl M 510 10 0) 510 11 (1 <<< (Int32.toInt64 ((3 : Int32) * (M.1 510 4)) &&& 63))).1 510 4 &&& 31)))).1, 0)) (cntN (fun k => c_X2_average_97 a1 (l_X2_average_97 a1 ((l_X2_average_19 a1 ((wl (wl M 510 10 0) 510 11 (1 <<< (Int32.toInt64 ((3 : Int32) * (M.1 510 4)) &&& 63))), 0) (Int32.toNatClampNeg ((1 : Int32) <<< ((wl (wl M 510 10 0) 510 11 (1 <<< (Int32.toInt64 ((3 : Int32) * (M.1 510 4)) &&& 63))).1 510 4 &&& 31)))).1, 0) k)) 19) hc_97_2  ?_ _ _ _
    intro j3_2 j5_2 j6_2
    refine j_iload_n g (i := 2) (by decide +kernel) rfl ?_
    refine j_bipush g (n := 18) (18) (by decide +kernel) (by decide +kernel) ?_
    refine j_icmp_ge g (off := 55) (tgt := 155) (by decide +kernel) (by decide) (fun c100 => ?_) (fun c100 => ?_)
    · rw [if_pos (show (18 : Int32) ≤ ((l_X2_average_97 a1 ((l_X2_average_19 a1 ((wl (wl M 510 10 0) 510 11 (1 <<< (Int32.toInt64 ((3 : Int32) * (M.1 510 4)) &&& 63))), 0) (Int32.toNatClampNeg ((1 : Int32) <<< ((wl (wl M 510 10 0) 510 11 (1 <<< (Int32.toInt64 ((3 : Int32) * (M.1 510 4)) &&& 63))).1 510 4 &&& 31)))).1, 0) (cntN (fun k => c_X2_average_97 a1 (l_X2_average_97 a1 ((l_X2_average_19 a1 ((wl (wl M 510 10 0) 510 11 (1 <<< (Int32.toInt64 ((3 : Int32) * (M.1 510 4)) &&& 63))), 0) (Int32.toNatClampNeg ((1 : Int32) <<< ((wl (wl M 510 10 0) 510 11 (1 <<< (Int32.toInt64 ((3 : Int32) * (M.1 510 4)) &&& 63))).1 510 4 &&& 31)))).1, 0) k)) 19)).2) from c100)] at hp
      refine hr.2.2.2 _ _ _ (by decide +kernel) rfl rfl ?_
      · unfold w_X2_average; first | (simp only [if_pos (show ((1 : Int32) <<< (((l_X2_average_19 a1 ((wl (wl M 510 10 0) 510 11 (1 <<< (Int32.toInt64 ((3 : Int32) * (M.1 510 4)) &&& 63))), 0) (Int32.toNatClampNeg ((1 : Int32) <<< ((wl (wl M 510 10 0) 510 11 (1 <<< (Int32.toInt64 ((3 : Int32) * (M.1 510 4)) &&& 63))).1 510 4 &&& 31)))).1.1 510 4) &&& 31)) ≤ ((l_X2_average_19 a1 ((wl (wl M 510 10 0) 510 11 (1 <<< (Int32.toInt64 ((3 : Int32) * (M.1 510 4)) &&& 63))), 0) (Int32.toNatClampNeg ((1 : Int32) <<< ((wl (wl M 510 10 0) 510 11 (1 <<< (Int32.toInt64 ((3 : Int32) * (M.1 510 4)) &&& 63))).1 510 4 &&& 31)))).2) from c26), if_pos (show (18 : Int32) ≤ ((l_X2_average_97 a1 ((l_X2_average_19 a1 ((wl (wl M 510 10 0) 510 11 (1 <<< (Int32.toInt64 ((3 : Int32) * (M.1 510 4)) &&& 63))), 0) (Int32.toNatClampNeg ((1 : Int32) <<< ((wl (wl M 510 10 0) 510 11 (1 <<< (Int32.toInt64 ((3 : Int32) * (M.1 510 4)) &&& 63))).1 510 4 &&& 31)))).1, 0) (cntN (fun k => c_X2_average_97 a1 (l_X2_average_97 a1 ((l_X2_average_19 a1 ((wl (wl M 510 10 0) 510 11 (1 <<< (Int32.toInt64 ((3 : Int32) * (M.1 510 4)) &&& 63))), 0) (Int32.toNatClampNeg ((1 : Int32) <<< ((wl (wl M 510 10 0) 510 11 (1 <<< (Int32.toInt64 ((3 : Int32) * (M.1 510 4)) &&& 63))).1 510 4 &&& 31)))).1, 0) k)) 19)).2) from c100)]; done) | (simp only [if_pos (show ((1 : Int32) <<< (((l_X2_average_19 a1 ((wl (wl M 510 10 0) 510 11 (1 <<< (Int32.toInt64 ((3 : Int32) * (M.1 510 4)) &&& 63))), 0) (Int32.toNatClampNeg ((1 : Int32) <<< ((wl (wl M 510 10 0) 510 11 (1 <<< (Int32.toInt64 ((3 : Int32) * (M.1 510 4)) &&& 63))).1 510 4 &&& 31)))).1.1 510 4) &&& 31)) ≤ ((l_X2_average_19 a1 ((wl (wl M 510 10 0) 510 11 (1 <<< (Int32.toInt64 ((3 : Int32) * (M.1 510 4)) &&& 63))), 0) (Int32.toNatClampNeg ((1 : Int32) <<< ((wl (wl M 510 10 0) 510 11 (1 <<< (Int32.toInt64 ((3 : Int32) * (M.1 510 4)) &&& 63))).1 510 4 &&& 31)))).2) from c26), if_pos (show (18 : Int32) ≤ ((l_X2_average_97 a1 ((l_X2_average_19 a1 ((wl (wl M 510 10 0) 510 11 (1 <<< (Int32.toInt64 ((3 : Int32) * (M.1 510 4)) &&& 63))), 0) (Int32.toNatClampNeg ((1 : Int32) <<< ((wl (wl M 510 10 0) 510 11 (1 <<< (Int32.toInt64 ((3 : Int32) * (M.1 510 4)) &&& 63))).1 510 4 &&& 31)))).1, 0) (cntN (fun k => c_X2_average_97 a1 (l_X2_average_97 a1 ((l_X2_average_19 a1 ((wl (wl M 510 10 0) 510 11 (1 <<< (Int32.toInt64 ((3 : Int32) * (M.1 510 4)) &&& 63))), 0) (Int32.toNatClampNeg ((1 : Int32) <<< ((wl (wl M 510 10 0) 510 11 (1 <<< (Int32.toInt64 ((3 : Int32) * (M.1 510 4)) &&& 63))).1 510 4 &&& 31)))).1, 0) k)) 19)).2) from c100)]; rfl) | rfl
    · rw [if_neg (show ¬ ((18 : Int32) ≤ ((l_X2_average_97 a1 ((l_X2_average_19 a1 ((wl (wl M 510 10 0) 510 11 (1 <<< (Int32.toInt64 ((3 : Int32) * (M.1 510 4)) &&& 63))), 0) (Int32.toNatClampNeg ((1 : Int32) <<< ((wl (wl M 510 10 0) 510 11 (1 <<< (Int32.toInt64 ((3 : Int32) * (M.1 510 4)) &&& 63))).1 510 4 &&& 31)))).1, 0) (cntN (fun k => c_X2_average_97 a1 (l_X2_average_97 a1 ((l_X2_average_19 a1 ((wl (wl M 510 10 0) 510 11 (1 <<< (Int32.toInt64 ((3 : Int32) * (M.1 510 4)) &&& 63))), 0) (Int32.toNatClampNeg ((1 : Int32) <<< ((wl (wl M 510 10 0) 510 11 (1 <<< (Int32.toInt64 ((3 : Int32) * (M.1 510 4)) &&& 63))).1 510 4 &&& 31)))).1, 0) k)) 19)).2)) from c100)] at hp
      refine j_aload_n g (i := 0) (by decide +kernel) rfl ?_
      refine j_gJ g f2_55 (by decide +kernel) (by decide +kernel) (by decide +kernel) ?_
      refine j_lconst g (n := 1) (1) (by decide +kernel) rfl ?_
      refine j_lcmp g (by decide +kernel) ?_
      refine j_if_le g (off := 46) (tgt := 155) (by decide +kernel) (by decide) (fun c109 => ?_) (fun c109 => ?_)
      · rw [if_pos (show (lg_cmp ((l_X2_average_97 a1 ((l_X2_average_19 a1 ((wl (wl M 510 10 0) 510 11 (1 <<< (Int32.toInt64 ((3 : Int32) * (M.1 510 4)) &&& 63))), 0) (Int32.toNatClampNeg ((1 : Int32) <<< ((wl (wl M 510 10 0) 510 11 (1 <<< (Int32.toInt64 ((3 : Int32) * (M.1 510 4)) &&& 63))).1 510 4 &&& 31)))).1, 0) (cntN (fun k => c_X2_average_97 a1 (l_X2_average_97 a1 ((l_X2_average_19 a1 ((wl (wl M 510 10 0) 510 11 (1 <<< (Int32.toInt64 ((3 : Int32) * (M.1 510 4)) &&& 63))), 0) (Int32.toNatClampNeg ((1 : Int32) <<< ((wl (wl M 510 10 0) 510 11 (1 <<< (Int32.toInt64 ((3 : Int32) * (M.1 510 4)) &&& 63))).1 510 4 &&& 31)))).1, 0) k)) 19)).1.2 510 11) 1) ≤ 0 from c109)] at hp
        refine hr.2.2.2 _ _ _ (by decide +kernel) rfl rfl ?_
        · unfold w_X2_average; first | (simp only [if_pos (show ((1 : Int32) <<< (((l_X2_average_19 a1 ((wl (wl M 510 10 0) 510 11 (1 <<< (Int32.toInt64 ((3 : Int32) * (M.1 510 4)) &&& 63))), 0) (Int32.toNatClampNeg ((1 : Int32) <<< ((wl (wl M 510 10 0) 510 11 (1 <<< (Int32.toInt64 ((3 : Int32) * (M.1 510 4)) &&& 63))).1 510 4 &&& 31)))).1.1 510 4) &&& 31)) ≤ ((l_X2_average_19 a1 ((wl (wl M 510 10 0) 510 11 (1 <<< (Int32.toInt64 ((3 : Int32) * (M.1 510 4)) &&& 63))), 0) (Int32.toNatClampNeg ((1 : Int32) <<< ((wl (wl M 510 10 0) 510 11 (1 <<< (Int32.toInt64 ((3 : Int32) * (M.1 510 4)) &&& 63))).1 510 4 &&& 31)))).2) from c26), if_neg (show ¬ ((18 : Int32) ≤ ((l_X2_average_97 a1 ((l_X2_average_19 a1 ((wl (wl M 510 10 0) 510 11 (1 <<< (Int32.toInt64 ((3 : Int32) * (M.1 510 4)) &&& 63))), 0) (Int32.toNatClampNeg ((1 : Int32) <<< ((wl (wl M 510 10 0) 510 11 (1 <<< (Int32.toInt64 ((3 : Int32) * (M.1 510 4)) &&& 63))).1 510 4 &&& 31)))).1, 0) (cntN (fun k => c_X2_average_97 a1 (l_X2_average_97 a1 ((l_X2_average_19 a1 ((wl (wl M 510 10 0) 510 11 (1 <<< (Int32.toInt64 ((3 : Int32) * (M.1 510 4)) &&& 63))), 0) (Int32.toNatClampNeg ((1 : Int32) <<< ((wl (wl M 510 10 0) 510 11 (1 <<< (Int32.toInt64 ((3 : Int32) * (M.1 510 4)) &&& 63))).1 510 4 &&& 31)))).1, 0) k)) 19)).2)) from c100), if_pos (show (lg_cmp ((l_X2_average_97 a1 ((l_X2_average_19 a1 ((wl (wl M 510 10 0) 510 11 (1 <<< (Int32.toInt64 ((3 : Int32) * (M.1 510 4)) &&& 63))), 0) (Int32.toNatClampNeg ((1 : Int32) <<< ((wl (wl M 510 10 0) 510 11 (1 <<< (Int32.toInt64 ((3 : Int32) * (M.1 510 4)) &&& 63))).1 510 4 &&& 31)))).1, 0) (cntN (fun k => c_X2_average_97 a1 (l_X2_average_97 a1 ((l_X2_average_19 a1 ((wl (wl M 510 10 0) 510 11 (1 <<< (Int32.toInt64 ((3 : Int32) * (M.1 510 4)) &&& 63))), 0) (Int32.toNatClampNeg ((1 : Int32) <<< ((wl (wl M 510 10 0) 510 11 (1 <<< (Int32.toInt64 ((3 : Int32) * (M.1 510 4)) &&& 63))).1 510 4 &&& 31)))).1, 0) k)) 19)).1.2 510 11) 1) ≤ 0 from c109)]; done) | (simp only [if_pos (show ((1 : Int32) <<< (((l_X2_average_19 a1 ((wl (wl M 510 10 0) 510 11 (1 <<< (Int32.toInt64 ((3 : Int32) * (M.1 510 4)) &&& 63))), 0) (Int32.toNatClampNeg ((1 : Int32) <<< ((wl (wl M 510 10 0) 510 11 (1 <<< (Int32.toInt64 ((3 : Int32) * (M.1 510 4)) &&& 63))).1 510 4 &&& 31)))).1.1 510 4) &&& 31)) ≤ ((l_X2_average_19 a1 ((wl (wl M 510 10 0) 510 11 (1 <<< (Int32.toInt64 ((3 : Int32) * (M.1 510 4)) &&& 63))), 0) (Int32.toNatClampNeg ((1 : Int32) <<< ((wl (wl M 510 10 0) 510 11 (1 <<< (Int32.toInt64 ((3 : Int32) * (M.1 510 4)) &&& 63))).1 510 4 &&& 31)))).2) from c26), if_neg (show ¬ ((18 : Int32) ≤ ((l_X2_average_97 a1 ((l_X2_average_19 a1 ((wl (wl M 510 10 0) 510 11 (1 <<< (Int32.toInt64 ((3 : Int32) * (M.1 510 4)) &&& 63))), 0) (Int32.toNatClampNeg ((1 : Int32) <<< ((wl (wl M 510 10 0) 510 11 (1 <<< (Int32.toInt64 ((3 : Int32) * (M.1 510 4)) &&& 63))).1 510 4 &&& 31)))).1, 0) (cntN (fun k => c_X2_average_97 a1 (l_X2_average_97 a1 ((l_X2_average_19 a1 ((wl (wl M 510 10 0) 510 11 (1 <<< (Int32.toInt64 ((3 : Int32) * (M.1 510 4)) &&& 63))), 0) (Int32.toNatClampNeg ((1 : Int32) <<< ((wl (wl M 510 10 0) 510 11 (1 <<< (Int32.toInt64 ((3 : Int32) * (M.1 510 4)) &&& 63))).1 510 4 &&& 31)))).1, 0) k)) 19)).2)) from c100), if_pos (show (lg_cmp ((l_X2_average_97 a1 ((l_X2_average_19 a1 ((wl (wl M 510 10 0) 510 11 (1 <<< (Int32.toInt64 ((3 : Int32) * (M.1 510 4)) &&& 63))), 0) (Int32.toNatClampNeg ((1 : Int32) <<< ((wl (wl M 510 10 0) 510 11 (1 <<< (Int32.toInt64 ((3 : Int32) * (M.1 510 4)) &&& 63))).1 510 4 &&& 31)))).1, 0) (cntN (fun k => c_X2_average_97 a1 (l_X2_average_97 a1 ((l_X2_average_19 a1 ((wl (wl M 510 10 0) 510 11 (1 <<< (Int32.toInt64 ((3 : Int32) * (M.1 510 4)) &&& 63))), 0) (Int32.toNatClampNeg ((1 : Int32) <<< ((wl (wl M 510 10 0) 510 11 (1 <<< (Int32.toInt64 ((3 : Int32) * (M.1 510 4)) &&& 63))).1 510 4 &&& 31)))).1, 0) k)) 19)).1.2 510 11) 1) ≤ 0 from c109)]; rfl) | rfl
      · rw [if_neg (show ¬ ((lg_cmp ((l_X2_average_97 a1 ((l_X2_average_19 a1 ((wl (wl M 510 10 0) 510 11 (1 <<< (Int32.toInt64 ((3 : Int32) * (M.1 510 4)) &&& 63))), 0) (Int32.toNatClampNeg ((1 : Int32) <<< ((wl (wl M 510 10 0) 510 11 (1 <<< (Int32.toInt64 ((3 : Int32) * (M.1 510 4)) &&& 63))).1 510 4 &&& 31)))).1, 0) (cntN (fun k => c_X2_average_97 a1 (l_X2_average_97 a1 ((l_X2_average_19 a1 ((wl (wl M 510 10 0) 510 11 (1 <<< (Int32.toInt64 ((3 : Int32) * (M.1 510 4)) &&& 63))), 0) (Int32.toNatClampNeg ((1 : Int32) <<< ((wl (wl M 510 10 0) 510 11 (1 <<< (Int32.toInt64 ((3 : Int32) * (M.1 510 4)) &&& 63))).1 510 4 &&& 31)))).1, 0) k)) 19)).1.2 510 11) 1) ≤ 0) from c109)] at hp
        refine j_aload_n g (i := 0) (by decide +kernel) rfl ?_
        refine j_gJ g f2_51 (by decide +kernel) (by decide +kernel) (by decide +kernel) ?_
        refine j_ldc2 g (n := 116) (2) (by decide +kernel) k2_116 ?_
        refine j_lrem g (by decide +kernel) (by decide) ?_
        refine j_lconst g (n := 0) (0) (by decide +kernel) rfl ?_
        refine j_lcmp g (by decide +kernel) ?_
        refine j_if_ne g (off := 33) (tgt := 155) (by decide +kernel) (by decide) (fun c122 => ?_) (fun c122 => ?_)
        · rw [if_pos (show ¬ (lg_cmp (((l_X2_average_97 a1 ((l_X2_average_19 a1 ((wl (wl M 510 10 0) 510 11 (1 <<< (Int32.toInt64 ((3 : Int32) * (M.1 510 4)) &&& 63))), 0) (Int32.toNatClampNeg ((1 : Int32) <<< ((wl (wl M 510 10 0) 510 11 (1 <<< (Int32.toInt64 ((3 : Int32) * (M.1 510 4)) &&& 63))).1 510 4 &&& 31)))).1, 0) (cntN (fun k => c_X2_average_97 a1 (l_X2_average_97 a1 ((l_X2_average_19 a1 ((wl (wl M 510 10 0) 510 11 (1 <<< (Int32.toInt64 ((3 : Int32) * (M.1 510 4)) &&& 63))), 0) (Int32.toNatClampNeg ((1 : Int32) <<< ((wl (wl M 510 10 0) 510 11 (1 <<< (Int32.toInt64 ((3 : Int32) * (M.1 510 4)) &&& 63))).1 510 4 &&& 31)))).1, 0) k)) 19)).1.2 510 10) - ((l_X2_average_97 a1 ((l_X2_average_19 a1 ((wl (wl M 510 10 0) 510 11 (1 <<< (Int32.toInt64 ((3 : Int32) * (M.1 510 4)) &&& 63))), 0) (Int32.toNatClampNeg ((1 : Int32) <<< ((wl (wl M 510 10 0) 510 11 (1 <<< (Int32.toInt64 ((3 : Int32) * (M.1 510 4)) &&& 63))).1 510 4 &&& 31)))).1, 0) (cntN (fun k => c_X2_average_97 a1 (l_X2_average_97 a1 ((l_X2_average_19 a1 ((wl (wl M 510 10 0) 510 11 (1 <<< (Int32.toInt64 ((3 : Int32) * (M.1 510 4)) &&& 63))), 0) (Int32.toNatClampNeg ((1 : Int32) <<< ((wl (wl M 510 10 0) 510 11 (1 <<< (Int32.toInt64 ((3 : Int32) * (M.1 510 4)) &&& 63))).1 510 4 &&& 31)))).1, 0) k)) 19)).1.2 510 10) / 2 * 2) 0) = 0 from c122)] at hp
          refine hr.2.2.2 _ _ _ (by decide +kernel) rfl rfl ?_
          · unfold w_X2_average; first | (simp only [if_pos (show ((1 : Int32) <<< (((l_X2_average_19 a1 ((wl (wl M 510 10 0) 510 11 (1 <<< (Int32.toInt64 ((3 : Int32) * (M.1 510 4)) &&& 63))), 0) (Int32.toNatClampNeg ((1 : Int32) <<< ((wl (wl M 510 10 0) 510 11 (1 <<< (Int32.toInt64 ((3 : Int32) * (M.1 510 4)) &&& 63))).1 510 4 &&& 31)))).1.1 510 4) &&& 31)) ≤ ((l_X2_average_19 a1 ((wl (wl M 510 10 0) 510 11 (1 <<< (Int32.toInt64 ((3 : Int32) * (M.1 510 4)) &&& 63))), 0) (Int32.toNatClampNeg ((1 : Int32) <<< ((wl (wl M 510 10 0) 510 11 (1 <<< (Int32.toInt64 ((3 : Int32) * (M.1 510 4)) &&& 63))).1 510 4 &&& 31)))).2) from c26), if_neg (show ¬ ((18 : Int32) ≤ ((l_X2_average_97 a1 ((l_X2_average_19 a1 ((wl (wl M 510 10 0) 510 11 (1 <<< (Int32.toInt64 ((3 : Int32) * (M.1 510 4)) &&& 63))), 0) (Int32.toNatClampNeg ((1 : Int32) <<< ((wl (wl M 510 10 0) 510 11 (1 <<< (Int32.toInt64 ((3 : Int32) * (M.1 510 4)) &&& 63))).1 510 4 &&& 31)))).1, 0) (cntN (fun k => c_X2_average_97 a1 (l_X2_average_97 a1 ((l_X2_average_19 a1 ((wl (wl M 510 10 0) 510 11 (1 <<< (Int32.toInt64 ((3 : Int32) * (M.1 510 4)) &&& 63))), 0) (Int32.toNatClampNeg ((1 : Int32) <<< ((wl (wl M 510 10 0) 510 11 (1 <<< (Int32.toInt64 ((3 : Int32) * (M.1 510 4)) &&& 63))).1 510 4 &&& 31)))).1, 0) k)) 19)).2)) from c100), if_neg (show ¬ ((lg_cmp ((l_X2_average_97 a1 ((l_X2_average_19 a1 ((wl (wl M 510 10 0) 510 11 (1 <<< (Int32.toInt64 ((3 : Int32) * (M.1 510 4)) &&& 63))), 0) (Int32.toNatClampNeg ((1 : Int32) <<< ((wl (wl M 510 10 0) 510 11 (1 <<< (Int32.toInt64 ((3 : Int32) * (M.1 510 4)) &&& 63))).1 510 4 &&& 31)))).1, 0) (cntN (fun k => c_X2_average_97 a1 (l_X2_average_97 a1 ((l_X2_average_19 a1 ((wl (wl M 510 10 0) 510 11 (1 <<< (Int32.toInt64 ((3 : Int32) * (M.1 510 4)) &&& 63))), 0) (Int32.toNatClampNeg ((1 : Int32) <<< ((wl (wl M 510 10 0) 510 11 (1 <<< (Int32.toInt64 ((3 : Int32) * (M.1 510 4)) &&& 63))).1 510 4 &&& 31)))).1, 0) k)) 19)).1.2 510 11) 1) ≤ 0) from c109), if_pos (show ¬ (lg_cmp (((l_X2_average_97 a1 ((l_X2_average_19 a1 ((wl (wl M 510 10 0) 510 11 (1 <<< (Int32.toInt64 ((3 : Int32) * (M.1 510 4)) &&& 63))), 0) (Int32.toNatClampNeg ((1 : Int32) <<< ((wl (wl M 510 10 0) 510 11 (1 <<< (Int32.toInt64 ((3 : Int32) * (M.1 510 4)) &&& 63))).1 510 4 &&& 31)))).1, 0) (cntN (fun k => c_X2_average_97 a1 (l_X2_average_97 a1 ((l_X2_average_19 a1 ((wl (wl M 510 10 0) 510 11 (1 <<< (Int32.toInt64 ((3 : Int32) * (M.1 510 4)) &&& 63))), 0) (Int32.toNatClampNeg ((1 : Int32) <<< ((wl (wl M 510 10 0) 510 11 (1 <<< (Int32.toInt64 ((3 : Int32) * (M.1 510 4)) &&& 63))).1 510 4 &&& 31)))).1, 0) k)) 19)).1.2 510 10) - ((l_X2_average_97 a1 ((l_X2_average_19 a1 ((wl (wl M 510 10 0) 510 11 (1 <<< (Int32.toInt64 ((3 : Int32) * (M.1 510 4)) &&& 63))), 0) (Int32.toNatClampNeg ((1 : Int32) <<< ((wl (wl M 510 10 0) 510 11 (1 <<< (Int32.toInt64 ((3 : Int32) * (M.1 510 4)) &&& 63))).1 510 4 &&& 31)))).1, 0) (cntN (fun k => c_X2_average_97 a1 (l_X2_average_97 a1 ((l_X2_average_19 a1 ((wl (wl M 510 10 0) 510 11 (1 <<< (Int32.toInt64 ((3 : Int32) * (M.1 510 4)) &&& 63))), 0) (Int32.toNatClampNeg ((1 : Int32) <<< ((wl (wl M 510 10 0) 510 11 (1 <<< (Int32.toInt64 ((3 : Int32) * (M.1 510 4)) &&& 63))).1 510 4 &&& 31)))).1, 0) k)) 19)).1.2 510 10) / 2 * 2) 0) = 0 from c122)]; done) | (simp only [if_pos (show ((1 : Int32) <<< (((l_X2_average_19 a1 ((wl (wl M 510 10 0) 510 11 (1 <<< (Int32.toInt64 ((3 : Int32) * (M.1 510 4)) &&& 63))), 0) (Int32.toNatClampNeg ((1 : Int32) <<< ((wl (wl M 510 10 0) 510 11 (1 <<< (Int32.toInt64 ((3 : Int32) * (M.1 510 4)) &&& 63))).1 510 4 &&& 31)))).1.1 510 4) &&& 31)) ≤ ((l_X2_average_19 a1 ((wl (wl M 510 10 0) 510 11 (1 <<< (Int32.toInt64 ((3 : Int32) * (M.1 510 4)) &&& 63))), 0) (Int32.toNatClampNeg ((1 : Int32) <<< ((wl (wl M 510 10 0) 510 11 (1 <<< (Int32.toInt64 ((3 : Int32) * (M.1 510 4)) &&& 63))).1 510 4 &&& 31)))).2) from c26), if_neg (show ¬ ((18 : Int32) ≤ ((l_X2_average_97 a1 ((l_X2_average_19 a1 ((wl (wl M 510 10 0) 510 11 (1 <<< (Int32.toInt64 ((3 : Int32) * (M.1 510 4)) &&& 63))), 0) (Int32.toNatClampNeg ((1 : Int32) <<< ((wl (wl M 510 10 0) 510 11 (1 <<< (Int32.toInt64 ((3 : Int32) * (M.1 510 4)) &&& 63))).1 510 4 &&& 31)))).1, 0) (cntN (fun k => c_X2_average_97 a1 (l_X2_average_97 a1 ((l_X2_average_19 a1 ((wl (wl M 510 10 0) 510 11 (1 <<< (Int32.toInt64 ((3 : Int32) * (M.1 510 4)) &&& 63))), 0) (Int32.toNatClampNeg ((1 : Int32) <<< ((wl (wl M 510 10 0) 510 11 (1 <<< (Int32.toInt64 ((3 : Int32) * (M.1 510 4)) &&& 63))).1 510 4 &&& 31)))).1, 0) k)) 19)).2)) from c100), if_neg (show ¬ ((lg_cmp ((l_X2_average_97 a1 ((l_X2_average_19 a1 ((wl (wl M 510 10 0) 510 11 (1 <<< (Int32.toInt64 ((3 : Int32) * (M.1 510 4)) &&& 63))), 0) (Int32.toNatClampNeg ((1 : Int32) <<< ((wl (wl M 510 10 0) 510 11 (1 <<< (Int32.toInt64 ((3 : Int32) * (M.1 510 4)) &&& 63))).1 510 4 &&& 31)))).1, 0) (cntN (fun k => c_X2_average_97 a1 (l_X2_average_97 a1 ((l_X2_average_19 a1 ((wl (wl M 510 10 0) 510 11 (1 <<< (Int32.toInt64 ((3 : Int32) * (M.1 510 4)) &&& 63))), 0) (Int32.toNatClampNeg ((1 : Int32) <<< ((wl (wl M 510 10 0) 510 11 (1 <<< (Int32.toInt64 ((3 : Int32) * (M.1 510 4)) &&& 63))).1 510 4 &&& 31)))).1, 0) k)) 19)).1.2 510 11) 1) ≤ 0) from c109), if_pos (show ¬ (lg_cmp (((l_X2_average_97 a1 ((l_X2_average_19 a1 ((wl (wl M 510 10 0) 510 11 (1 <<< (Int32.toInt64 ((3 : Int32) * (M.1 510 4)) &&& 63))), 0) (Int32.toNatClampNeg ((1 : Int32) <<< ((wl (wl M 510 10 0) 510 11 (1 <<< (Int32.toInt64 ((3 : Int32) * (M.1 510 4)) &&& 63))).1 510 4 &&& 31)))).1, 0) (cntN (fun k => c_X2_average_97 a1 (l_X2_average_97 a1 ((l_X2_average_19 a1 ((wl (wl M 510 10 0) 510 11 (1 <<< (Int32.toInt64 ((3 : Int32) * (M.1 510 4)) &&& 63))), 0) (Int32.toNatClampNeg ((1 : Int32) <<< ((wl (wl M 510 10 0) 510 11 (1 <<< (Int32.toInt64 ((3 : Int32) * (M.1 510 4)) &&& 63))).1 510 4 &&& 31)))).1, 0) k)) 19)).1.2 510 10) - ((l_X2_average_97 a1 ((l_X2_average_19 a1 ((wl (wl M 510 10 0) 510 11 (1 <<< (Int32.toInt64 ((3 : Int32) * (M.1 510 4)) &&& 63))), 0) (Int32.toNatClampNeg ((1 : Int32) <<< ((wl (wl M 510 10 0) 510 11 (1 <<< (Int32.toInt64 ((3 : Int32) * (M.1 510 4)) &&& 63))).1 510 4 &&& 31)))).1, 0) (cntN (fun k => c_X2_average_97 a1 (l_X2_average_97 a1 ((l_X2_average_19 a1 ((wl (wl M 510 10 0) 510 11 (1 <<< (Int32.toInt64 ((3 : Int32) * (M.1 510 4)) &&& 63))), 0) (Int32.toNatClampNeg ((1 : Int32) <<< ((wl (wl M 510 10 0) 510 11 (1 <<< (Int32.toInt64 ((3 : Int32) * (M.1 510 4)) &&& 63))).1 510 4 &&& 31)))).1, 0) k)) 19)).1.2 510 10) / 2 * 2) 0) = 0 from c122)]; rfl) | rfl
        · rw [if_neg (show ¬ (¬ (lg_cmp (((l_X2_average_97 a1 ((l_X2_average_19 a1 ((wl (wl M 510 10 0) 510 11 (1 <<< (Int32.toInt64 ((3 : Int32) * (M.1 510 4)) &&& 63))), 0) (Int32.toNatClampNeg ((1 : Int32) <<< ((wl (wl M 510 10 0) 510 11 (1 <<< (Int32.toInt64 ((3 : Int32) * (M.1 510 4)) &&& 63))).1 510 4 &&& 31)))).1, 0) (cntN (fun k => c_X2_average_97 a1 (l_X2_average_97 a1 ((l_X2_average_19 a1 ((wl (wl M 510 10 0) 510 11 (1 <<< (Int32.toInt64 ((3 : Int32) * (M.1 510 4)) &&& 63))), 0) (Int32.toNatClampNeg ((1 : Int32) <<< ((wl (wl M 510 10 0) 510 11 (1 <<< (Int32.toInt64 ((3 : Int32) * (M.1 510 4)) &&& 63))).1 510 4 &&& 31)))).1, 0) k)) 19)).1.2 510 10) - ((l_X2_average_97 a1 ((l_X2_average_19 a1 ((wl (wl M 510 10 0) 510 11 (1 <<< (Int32.toInt64 ((3 : Int32) * (M.1 510 4)) &&& 63))), 0) (Int32.toNatClampNeg ((1 : Int32) <<< ((wl (wl M 510 10 0) 510 11 (1 <<< (Int32.toInt64 ((3 : Int32) * (M.1 510 4)) &&& 63))).1 510 4 &&& 31)))).1, 0) (cntN (fun k => c_X2_average_97 a1 (l_X2_average_97 a1 ((l_X2_average_19 a1 ((wl (wl M 510 10 0) 510 11 (1 <<< (Int32.toInt64 ((3 : Int32) * (M.1 510 4)) &&& 63))), 0) (Int32.toNatClampNeg ((1 : Int32) <<< ((wl (wl M 510 10 0) 510 11 (1 <<< (Int32.toInt64 ((3 : Int32) * (M.1 510 4)) &&& 63))).1 510 4 &&& 31)))).1, 0) k)) 19)).1.2 510 10) / 2 * 2) 0) = 0) from c122)] at hp
          refine absurd (ci_X2_average_97.mpr ?_) hx_97_2
          simp only [if_pos (show ((1 : Int32) <<< (((l_X2_average_19 a1 ((wl (wl M 510 10 0) 510 11 (1 <<< (Int32.toInt64 ((3 : Int32) * (M.1 510 4)) &&& 63))), 0) (Int32.toNatClampNeg ((1 : Int32) <<< ((wl (wl M 510 10 0) 510 11 (1 <<< (Int32.toInt64 ((3 : Int32) * (M.1 510 4)) &&& 63))).1 510 4 &&& 31)))).1.1 510 4) &&& 31)) ≤ ((l_X2_average_19 a1 ((wl (wl M 510 10 0) 510 11 (1 <<< (Int32.toInt64 ((3 : Int32) * (M.1 510 4)) &&& 63))), 0) (Int32.toNatClampNeg ((1 : Int32) <<< ((wl (wl M 510 10 0) 510 11 (1 <<< (Int32.toInt64 ((3 : Int32) * (M.1 510 4)) &&& 63))).1 510 4 &&& 31)))).2) from c26), if_neg (show ¬ ((18 : Int32) ≤ ((l_X2_average_97 a1 ((l_X2_average_19 a1 ((wl (wl M 510 10 0) 510 11 (1 <<< (Int32.toInt64 ((3 : Int32) * (M.1 510 4)) &&& 63))), 0) (Int32.toNatClampNeg ((1 : Int32) <<< ((wl (wl M 510 10 0) 510 11 (1 <<< (Int32.toInt64 ((3 : Int32) * (M.1 510 4)) &&& 63))).1 510 4 &&& 31)))).1, 0) (cntN (fun k => c_X2_average_97 a1 (l_X2_average_97 a1 ((l_X2_average_19 a1 ((wl (wl M 510 10 0) 510 11 (1 <<< (Int32.toInt64 ((3 : Int32) * (M.1 510 4)) &&& 63))), 0) (Int32.toNatClampNeg ((1 : Int32) <<< ((wl (wl M 510 10 0) 510 11 (1 <<< (Int32.toInt64 ((3 : Int32) * (M.1 510 4)) &&& 63))).1 510 4 &&& 31)))).1, 0) k)) 19)).2)) from c100), if_neg (show ¬ ((lg_cmp ((l_X2_average_97 a1 ((l_X2_average_19 a1 ((wl (wl M 510 10 0) 510 11 (1 <<< (Int32.toInt64 ((3 : Int32) * (M.1 510 4)) &&& 63))), 0) (Int32.toNatClampNeg ((1 : Int32) <<< ((wl (wl M 510 10 0) 510 11 (1 <<< (Int32.toInt64 ((3 : Int32) * (M.1 510 4)) &&& 63))).1 510 4 &&& 31)))).1, 0) (cntN (fun k => c_X2_average_97 a1 (l_X2_average_97 a1 ((l_X2_average_19 a1 ((wl (wl M 510 10 0) 510 11 (1 <<< (Int32.toInt64 ((3 : Int32) * (M.1 510 4)) &&& 63))), 0) (Int32.toNatClampNeg ((1 : Int32) <<< ((wl (wl M 510 10 0) 510 11 (1 <<< (Int32.toInt64 ((3 : Int32) * (M.1 510 4)) &&& 63))).1 510 4 &&& 31)))).1, 0) k)) 19)).1.2 510 11) 1) ≤ 0) from c109), if_neg (show ¬ (¬ (lg_cmp (((l_X2_average_97 a1 ((l_X2_average_19 a1 ((wl (wl M 510 10 0) 510 11 (1 <<< (Int32.toInt64 ((3 : Int32) * (M.1 510 4)) &&& 63))), 0) (Int32.toNatClampNeg ((1 : Int32) <<< ((wl (wl M 510 10 0) 510 11 (1 <<< (Int32.toInt64 ((3 : Int32) * (M.1 510 4)) &&& 63))).1 510 4 &&& 31)))).1, 0) (cntN (fun k => c_X2_average_97 a1 (l_X2_average_97 a1 ((l_X2_average_19 a1 ((wl (wl M 510 10 0) 510 11 (1 <<< (Int32.toInt64 ((3 : Int32) * (M.1 510 4)) &&& 63))), 0) (Int32.toNatClampNeg ((1 : Int32) <<< ((wl (wl M 510 10 0) 510 11 (1 <<< (Int32.toInt64 ((3 : Int32) * (M.1 510 4)) &&& 63))).1 510 4 &&& 31)))).1, 0) k)) 19)).1.2 510 10) - ((l_X2_average_97 a1 ((l_X2_average_19 a1 ((wl (wl M 510 10 0) 510 11 (1 <<< (Int32.toInt64 ((3 : Int32) * (M.1 510 4)) &&& 63))), 0) (Int32.toNatClampNeg ((1 : Int32) <<< ((wl (wl M 510 10 0) 510 11 (1 <<< (Int32.toInt64 ((3 : Int32) * (M.1 510 4)) &&& 63))).1 510 4 &&& 31)))).1, 0) (cntN (fun k => c_X2_average_97 a1 (l_X2_average_97 a1 ((l_X2_average_19 a1 ((wl (wl M 510 10 0) 510 11 (1 <<< (Int32.toInt64 ((3 : Int32) * (M.1 510 4)) &&& 63))), 0) (Int32.toNatClampNeg ((1 : Int32) <<< ((wl (wl M 510 10 0) 510 11 (1 <<< (Int32.toInt64 ((3 : Int32) * (M.1 510 4)) &&& 63))).1 510 4 &&& 31)))).1, 0) k)) 19)).1.2 510 10) / 2 * 2) 0) = 0) from c122)]
  · rw [if_neg (show ¬ (((1 : Int32) <<< (((l_X2_average_19 a1 ((wl (wl M 510 10 0) 510 11 (1 <<< (Int32.toInt64 ((3 : Int32) * (M.1 510 4)) &&& 63))), 0) (Int32.toNatClampNeg ((1 : Int32) <<< ((wl (wl M 510 10 0) 510 11 (1 <<< (Int32.toInt64 ((3 : Int32) * (M.1 510 4)) &&& 63))).1 510 4 &&& 31)))).1.1 510 4) &&& 31)) ≤ ((l_X2_average_19 a1 ((wl (wl M 510 10 0) 510 11 (1 <<< (Int32.toInt64 ((3 : Int32) * (M.1 510 4)) &&& 63))), 0) (Int32.toNatClampNeg ((1 : Int32) <<< ((wl (wl M 510 10 0) 510 11 (1 <<< (Int32.toInt64 ((3 : Int32) * (M.1 510 4)) &&& 63))).1 510 4 &&& 31)))).2)) from c26)] at hp
    refine absurd (ci_X2_average_19.mpr ?_) hx_19_1
    simp only [if_neg (show ¬ (((1 : Int32) <<< (((l_X2_average_19 a1 ((wl (wl M 510 10 0) 510 11 (1 <<< (Int32.toInt64 ((3 : Int32) * (M.1 510 4)) &&& 63))), 0) (Int32.toNatClampNeg ((1 : Int32) <<< ((wl (wl M 510 10 0) 510 11 (1 <<< (Int32.toInt64 ((3 : Int32) * (M.1 510 4)) &&& 63))).1 510 4 &&& 31)))).1.1 510 4) &&& 31)) ≤ ((l_X2_average_19 a1 ((wl (wl M 510 10 0) 510 11 (1 <<< (Int32.toInt64 ((3 : Int32) * (M.1 510 4)) &&& 63))), 0) (Int32.toNatClampNeg ((1 : Int32) <<< ((wl (wl M 510 10 0) 510 11 (1 <<< (Int32.toInt64 ((3 : Int32) * (M.1 510 4)) &&& 63))).1 510 4 &&& 31)))).2)) from c26)]
def c_X2_endByTheBell_2 (a1 : Int32) (σ : Mm × Int32) : Prop := if (σ.1.1 100 2) ≤ σ.2 then False else True
theorem ci_X2_endByTheBell_2 {a1 : Int32}  {σ : Mm × Int32} : c_X2_endByTheBell_2 a1 σ ↔ (if (σ.1.1 100 2) ≤ σ.2 then False else True) := Iff.rfl
noncomputable def s_X2_endByTheBell_2 (a1 : Int32) (σ : Mm × Int32) : Mm × Int32 := if (σ.1.1 100 2) ≤ σ.2 then σ else ((wi (w_X5_minutesOf σ.1 1000 σ.2) 513 (Int32.toNatClampNeg σ.2) (r_X5_minutesOf σ.1 1000 σ.2)), σ.2 + 1)
def q_X2_endByTheBell_2 (a1 : Int32) (σ : Mm × Int32) : Prop := (if (σ.1.1 100 2) ≤ σ.2 then True else (p_X5_minutesOf σ.1 1000 σ.2) ∧ (vp_in σ.2 6) ∧ True)
noncomputable def l_X2_endByTheBell_2 (a1 : Int32) (σ0 : Mm × Int32) : Nat → Mm × Int32 := itN (fun _ σ => s_X2_endByTheBell_2 a1 σ) σ0
theorem ps_X2_endByTheBell_2 {d : Nat} {J : Nat → Lc → List Value → Mm → Prop} {a1 : Int32}  {σ : Mm × Int32}  (g : Good mX2_endByTheBell.1 mX2_endByTheBell.2.2.1 mX2_endByTheBell.2.2.2.1 (d + 3) J) (hc : c_X2_endByTheBell_2 a1 σ) (hp : q_X2_endByTheBell_2 a1 σ) (k : J 2 [some (.ref 510), some (.int a1), some (.int ((s_X2_endByTheBell_2 a1 σ).2)), none, none] [] ((s_X2_endByTheBell_2 a1 σ).1)) : J 2 [some (.ref 510), some (.int a1), some (.int σ.2), none, none] [] σ.1 := by
  unfold c_X2_endByTheBell_2 at hc
  unfold q_X2_endByTheBell_2 at hp
  unfold s_X2_endByTheBell_2 at k
  refine j_iload_n g (i := 2) (by decide +kernel) rfl ?_
  refine j_aload_n g (i := 0) (by decide +kernel) rfl ?_
  refine j_gA g (b := 100) f2_12 (by decide +kernel) (by decide +kernel) (by decide +kernel) (by decide +kernel) ?_
  refine j_gI g f2_129 (by decide +kernel) (by decide +kernel) (by decide +kernel) ?_
  refine j_icmp_ge g (off := 30) (tgt := 40) (by decide +kernel) (by decide) (fun c10 => ?_) (fun c10 => ?_)
  · (try rw [if_pos (show (σ.1.1 100 2) ≤ σ.2 from c10)] at hc); (rw [if_pos (show (σ.1.1 100 2) ≤ σ.2 from c10)] at hp); (try simp only [if_pos (show (σ.1.1 100 2) ≤ σ.2 from c10)] at k)
    exact hc.elim
  · (try rw [if_neg (show ¬ ((σ.1.1 100 2) ≤ σ.2) from c10)] at hc); (rw [if_neg (show ¬ ((σ.1.1 100 2) ≤ σ.2) from c10)] at hp); (try simp only [if_neg (show ¬ ((σ.1.1 100 2) ≤ σ.2) from c10)] at k)
    refine j_aload_n g (i := 0) (by decide +kernel) rfl ?_
    refine j_gA g (b := 513) f2_28 (by decide +kernel) (by decide +kernel) (by decide +kernel) (by decide +kernel) ?_
    refine j_iload_n g (i := 2) (by decide +kernel) rfl ?_
    refine j_aload_n g (i := 0) (by decide +kernel) rfl ?_
    refine j_gA g (b := 100) f2_12 (by decide +kernel) (by decide +kernel) (by decide +kernel) (by decide +kernel) ?_
    refine j_aload_n g (i := 0) (by decide +kernel) rfl ?_
    refine j_gA g (b := 100) f2_12 (by decide +kernel) (by decide +kernel) (by decide +kernel) (by decide +kernel) ?_
    refine j_gA g (b := 1000) f2_59 (by decide +kernel) (by decide +kernel) (by decide +kernel) (by decide +kernel) ?_
    refine j_iload_n g (i := 2) (by decide +kernel) rfl ?_
    obtain ⟨h0, hp⟩ := hp
    refine j_cV2r g v2_144 ⟨rfl, by decide⟩ (by decide +kernel) (by decide +kernel) (Nat.le_of_ble_eq_true rfl) (rnX5_minutesOf (by simp [isS]) h0) ?_
    obtain ⟨h0, hp⟩ := hp
    refine j_is g 6 (by decide +kernel) (by decide +kernel) (by decide +kernel) h0 ?_
    refine j_iinc g (i := 2) (n := 1) (1) (by decide +kernel) rfl (by decide) rfl ?_
    dsimp only [stL, clL, hdL]
    refine j_goto g (off := -35) (tgt := 2) (by decide +kernel) (by decide) ?_
    exact k 
theorem sh_X2_endByTheBell_2 {d : Nat} {J : Nat → Lc → List Value → Mm → Prop} {a1 : Int32}  {σ0 : Mm × Int32}  (g : Good mX2_endByTheBell.1 mX2_endByTheBell.2.2.1 mX2_endByTheBell.2.2.2.1 (d + 3) J) : ∀ (N : Nat), (∀ k, k < N → c_X2_endByTheBell_2 a1 (l_X2_endByTheBell_2 a1 σ0 k)) → (∀ k, k < N → q_X2_endByTheBell_2 a1 (l_X2_endByTheBell_2 a1 σ0 k)) → (J 2 [some (.ref 510), some (.int a1), some (.int ((l_X2_endByTheBell_2 a1 σ0 N).2)), none, none] [] ((l_X2_endByTheBell_2 a1 σ0 N).1)) → J 2 [some (.ref 510), some (.int a1), some (.int σ0.2), none, none] [] σ0.1
  | 0, _, _, k => k
  | N + 1, hc, hp, k => sh_X2_endByTheBell_2  g N (fun i hi => hc i (Nat.lt_succ_of_lt hi)) (fun i hi => hp i (Nat.lt_succ_of_lt hi)) (ps_X2_endByTheBell_2  g (hc N (Nat.lt_succ_self N)) (hp N (Nat.lt_succ_self N)) k)
def c_X2_endByTheBell_70 (a1 : Int32) (x3 : Int32) (σ : Mm × Int32) : Prop := if (σ.1.1 100 2) ≤ σ.2 then False else True
theorem ci_X2_endByTheBell_70 {a1 : Int32} {x3 : Int32} {σ : Mm × Int32} : c_X2_endByTheBell_70 a1 x3 σ ↔ (if (σ.1.1 100 2) ≤ σ.2 then False else True) := Iff.rfl
noncomputable def s_X2_endByTheBell_70 (a1 : Int32) (x3 : Int32) (σ : Mm × Int32) : Mm × Int32 := if (σ.1.1 100 2) ≤ σ.2 then σ else if (b2i (cFree σ.1 1030 σ.2)) = 0 then (σ.1, σ.2 + 1) else ((w_X2_ringFor σ.1 1030 σ.2), σ.2 + 1)
def q_X2_endByTheBell_70 (a1 : Int32) (x3 : Int32) (σ : Mm × Int32) : Prop := (if (σ.1.1 100 2) ≤ σ.2 then True else ((σ.1.1 100 2).toInt ≤ 6) ∧ (if (b2i (cFree σ.1 1030 σ.2)) = 0 then True else (p_X2_ringFor σ.1 1030 σ.2) ∧ True))
noncomputable def l_X2_endByTheBell_70 (a1 : Int32) (x3 : Int32) (σ0 : Mm × Int32) : Nat → Mm × Int32 := itN (fun _ σ => s_X2_endByTheBell_70 a1 x3 σ) σ0
theorem ps_X2_endByTheBell_70 {d : Nat} {J : Nat → Lc → List Value → Mm → Prop} {a1 : Int32} {x3 : Int32} {σ : Mm × Int32}  (g : Good mX2_endByTheBell.1 mX2_endByTheBell.2.2.1 mX2_endByTheBell.2.2.2.1 (d + 3) J) (hc : c_X2_endByTheBell_70 a1 x3 σ) (hp : q_X2_endByTheBell_70 a1 x3 σ) (k : J 70 [some (.ref 510), some (.int a1), some (.ref 1030), some (.int x3), some (.int ((s_X2_endByTheBell_70 a1 x3 σ).2))] [] ((s_X2_endByTheBell_70 a1 x3 σ).1)) : J 70 [some (.ref 510), some (.int a1), some (.ref 1030), some (.int x3), some (.int σ.2)] [] σ.1 := by
  unfold c_X2_endByTheBell_70 at hc
  unfold q_X2_endByTheBell_70 at hp
  unfold s_X2_endByTheBell_70 at k
  refine j_iload g (i := 4) (by decide +kernel) rfl ?_
  refine j_aload_n g (i := 0) (by decide +kernel) rfl ?_
  refine j_gA g (b := 100) f2_12 (by decide +kernel) (by decide +kernel) (by decide +kernel) (by decide +kernel) ?_
  refine j_gI g f2_129 (by decide +kernel) (by decide +kernel) (by decide +kernel) ?_
  refine j_icmp_ge g (off := 29) (tgt := 108) (by decide +kernel) (by decide) (fun c79 => ?_) (fun c79 => ?_)
  · (try rw [if_pos (show (σ.1.1 100 2) ≤ σ.2 from c79)] at hc); (rw [if_pos (show (σ.1.1 100 2) ≤ σ.2 from c79)] at hp); (try simp only [if_pos (show (σ.1.1 100 2) ≤ σ.2 from c79)] at k)
    exact hc.elim
  · (try rw [if_neg (show ¬ ((σ.1.1 100 2) ≤ σ.2) from c79)] at hc); (rw [if_neg (show ¬ ((σ.1.1 100 2) ≤ σ.2) from c79)] at hp); (try simp only [if_neg (show ¬ ((σ.1.1 100 2) ≤ σ.2) from c79)] at k)
    refine j_aload_n g (i := 0) (by decide +kernel) rfl ?_
    refine j_gA g (b := 100) f2_12 (by decide +kernel) (by decide +kernel) (by decide +kernel) (by decide +kernel) ?_
    refine j_aload_n g (i := 2) (by decide +kernel) rfl ?_
    refine j_iload g (i := 4) (by decide +kernel) rfl ?_
    obtain ⟨h0, hp⟩ := hp
    refine j_cV2r g v2_147 ⟨rfl, by decide⟩ (by decide +kernel) (by decide +kernel) (Nat.le_of_ble_eq_true rfl) (rnX5_isFree h0 (by simp [isS])) ?_
    refine j_if_eq g (off := 10) (tgt := 102) (by decide +kernel) (by decide) (fun c92 => ?_) (fun c92 => ?_)
    · (try rw [if_pos (show (b2i (cFree σ.1 1030 σ.2)) = 0 from c92)] at hc); (rw [if_pos (show (b2i (cFree σ.1 1030 σ.2)) = 0 from c92)] at hp); (try simp only [if_pos (show (b2i (cFree σ.1 1030 σ.2)) = 0 from c92)] at k)
      refine j_iinc g (i := 4) (n := 1) (1) (by decide +kernel) rfl (by decide) rfl ?_
      dsimp only [stL, clL, hdL]
      refine j_goto g (off := -35) (tgt := 70) (by decide +kernel) (by decide) ?_
      exact k 
    · (try rw [if_neg (show ¬ ((b2i (cFree σ.1 1030 σ.2)) = 0) from c92)] at hc); (rw [if_neg (show ¬ ((b2i (cFree σ.1 1030 σ.2)) = 0) from c92)] at hp); (try simp only [if_neg (show ¬ ((b2i (cFree σ.1 1030 σ.2)) = 0) from c92)] at k)
      refine j_aload_n g (i := 0) (by decide +kernel) rfl ?_
      refine j_aload_n g (i := 2) (by decide +kernel) rfl ?_
      refine j_iload g (i := 4) (by decide +kernel) rfl ?_
      obtain ⟨h0, hp⟩ := hp
      refine j_cV2v g v2_150 ⟨rfl, by decide⟩ (by decide +kernel) (by decide +kernel) (Nat.le_of_ble_eq_true rfl) (rnX2_ringFor (by simp [isS]) h0) ?_
      refine j_iinc g (i := 4) (n := 1) (1) (by decide +kernel) rfl (by decide) rfl ?_
      dsimp only [stL, clL, hdL]
      refine j_goto g (off := -35) (tgt := 70) (by decide +kernel) (by decide) ?_
      exact k 
theorem sh_X2_endByTheBell_70 {d : Nat} {J : Nat → Lc → List Value → Mm → Prop} {a1 : Int32} {x3 : Int32} {σ0 : Mm × Int32}  (g : Good mX2_endByTheBell.1 mX2_endByTheBell.2.2.1 mX2_endByTheBell.2.2.2.1 (d + 3) J) : ∀ (N : Nat), (∀ k, k < N → c_X2_endByTheBell_70 a1 x3 (l_X2_endByTheBell_70 a1 x3 σ0 k)) → (∀ k, k < N → q_X2_endByTheBell_70 a1 x3 (l_X2_endByTheBell_70 a1 x3 σ0 k)) → (J 70 [some (.ref 510), some (.int a1), some (.ref 1030), some (.int x3), some (.int ((l_X2_endByTheBell_70 a1 x3 σ0 N).2))] [] ((l_X2_endByTheBell_70 a1 x3 σ0 N).1)) → J 70 [some (.ref 510), some (.int a1), some (.ref 1030), some (.int x3), some (.int σ0.2)] [] σ0.1
  | 0, _, _, k => k
  | N + 1, hc, hp, k => sh_X2_endByTheBell_70  g N (fun i hi => hc i (Nat.lt_succ_of_lt hi)) (fun i hi => hp i (Nat.lt_succ_of_lt hi)) (ps_X2_endByTheBell_70  g (hc N (Nat.lt_succ_self N)) (hp N (Nat.lt_succ_self N)) k)
def c_X2_endByTheBell_60 (a1 : Int32) (σ : Mm × Int32) : Prop := if (2000 : Int32) ≤ σ.2 then False else if ((l_X2_endByTheBell_70 a1 σ.2 (σ.1, 0) (Int32.toNatClampNeg (σ.1.1 100 2))).1.1 100 2) ≤ ((l_X2_endByTheBell_70 a1 σ.2 (σ.1, 0) (Int32.toNatClampNeg (σ.1.1 100 2))).2) then (if ((l_X2_endByTheBell_70 a1 σ.2 (σ.1, 0) (Int32.toNatClampNeg (σ.1.1 100 2))).1.1 1033 (Int32.toNatClampNeg a1)) = 0 then True else False) else True
theorem ci_X2_endByTheBell_60 {a1 : Int32}  {σ : Mm × Int32} : c_X2_endByTheBell_60 a1 σ ↔ (if (2000 : Int32) ≤ σ.2 then False else if ((l_X2_endByTheBell_70 a1 σ.2 (σ.1, 0) (Int32.toNatClampNeg (σ.1.1 100 2))).1.1 100 2) ≤ ((l_X2_endByTheBell_70 a1 σ.2 (σ.1, 0) (Int32.toNatClampNeg (σ.1.1 100 2))).2) then (if ((l_X2_endByTheBell_70 a1 σ.2 (σ.1, 0) (Int32.toNatClampNeg (σ.1.1 100 2))).1.1 1033 (Int32.toNatClampNeg a1)) = 0 then True else False) else True) := Iff.rfl
noncomputable def s_X2_endByTheBell_60 (a1 : Int32) (σ : Mm × Int32) : Mm × Int32 := if (2000 : Int32) ≤ σ.2 then σ else if ((l_X2_endByTheBell_70 a1 σ.2 (σ.1, 0) (Int32.toNatClampNeg (σ.1.1 100 2))).1.1 100 2) ≤ ((l_X2_endByTheBell_70 a1 σ.2 (σ.1, 0) (Int32.toNatClampNeg (σ.1.1 100 2))).2) then (if ((l_X2_endByTheBell_70 a1 σ.2 (σ.1, 0) (Int32.toNatClampNeg (σ.1.1 100 2))).1.1 1033 (Int32.toNatClampNeg a1)) = 0 then ((l_X2_endByTheBell_70 a1 σ.2 (σ.1, 0) (Int32.toNatClampNeg (σ.1.1 100 2))).1, σ.2 + 1) else σ) else σ
def q_X2_endByTheBell_60 (a1 : Int32) (σ : Mm × Int32) : Prop := (if (2000 : Int32) ≤ σ.2 then True else (∀ k, k < (Int32.toNatClampNeg (σ.1.1 100 2)) → c_X2_endByTheBell_70 a1 σ.2 (l_X2_endByTheBell_70 a1 σ.2 (σ.1, 0) k)) ∧ (∀ k, k < (Int32.toNatClampNeg (σ.1.1 100 2)) → q_X2_endByTheBell_70 a1 σ.2 (l_X2_endByTheBell_70 a1 σ.2 (σ.1, 0) k)) ∧ (¬ c_X2_endByTheBell_70 a1 σ.2 (l_X2_endByTheBell_70 a1 σ.2 (σ.1, 0) (Int32.toNatClampNeg (σ.1.1 100 2)))) ∧ (if ((l_X2_endByTheBell_70 a1 σ.2 (σ.1, 0) (Int32.toNatClampNeg (σ.1.1 100 2))).1.1 100 2) ≤ ((l_X2_endByTheBell_70 a1 σ.2 (σ.1, 0) (Int32.toNatClampNeg (σ.1.1 100 2))).2) then (vp_in a1 6) ∧ (if ((l_X2_endByTheBell_70 a1 σ.2 (σ.1, 0) (Int32.toNatClampNeg (σ.1.1 100 2))).1.1 1033 (Int32.toNatClampNeg a1)) = 0 then True else True) else True))
noncomputable def l_X2_endByTheBell_60 (a1 : Int32) (σ0 : Mm × Int32) : Nat → Mm × Int32 := itN (fun _ σ => s_X2_endByTheBell_60 a1 σ) σ0
theorem ps_X2_endByTheBell_60 {d : Nat} {J : Nat → Lc → List Value → Mm → Prop} {a1 : Int32}  {σ : Mm × Int32}  (g : Good mX2_endByTheBell.1 mX2_endByTheBell.2.2.1 mX2_endByTheBell.2.2.2.1 (d + 3) J) (hc : c_X2_endByTheBell_60 a1 σ) (hp : q_X2_endByTheBell_60 a1 σ) (k : ∀ (j4 : Option Value), J 60 [some (.ref 510), some (.int a1), some (.ref 1030), some (.int ((s_X2_endByTheBell_60 a1 σ).2)), j4] [] ((s_X2_endByTheBell_60 a1 σ).1)) : ∀ (j4 : Option Value), J 60 [some (.ref 510), some (.int a1), some (.ref 1030), some (.int σ.2), j4] [] σ.1 := by
  intro j4
  unfold c_X2_endByTheBell_60 at hc
  unfold q_X2_endByTheBell_60 at hp
  unfold s_X2_endByTheBell_60 at k
  refine j_iload_n g (i := 3) (by decide +kernel) rfl ?_
  refine j_sipush g (n := 2000) (2000) (by decide +kernel) (by decide +kernel) ?_
  refine j_icmp_ge g (off := 66) (tgt := 130) (by decide +kernel) (by decide) (fun c64 => ?_) (fun c64 => ?_)
  · (try rw [if_pos (show (2000 : Int32) ≤ σ.2 from c64)] at hc); (rw [if_pos (show (2000 : Int32) ≤ σ.2 from c64)] at hp); (try simp only [if_pos (show (2000 : Int32) ≤ σ.2 from c64)] at k)
    exact hc.elim
  · (try rw [if_neg (show ¬ ((2000 : Int32) ≤ σ.2) from c64)] at hc); (rw [if_neg (show ¬ ((2000 : Int32) ≤ σ.2) from c64)] at hp); (try simp only [if_neg (show ¬ ((2000 : Int32) ≤ σ.2) from c64)] at k)
    refine j_iconst g (n := 0) (0) (by decide +kernel) rfl ?_
    refine j_istore g (i := 4) (by decide +kernel) (by decide) ?_
    dsimp only [stL, clL, hdL]
    obtain ⟨h0, hp⟩ := hp
    have hc_70_3 := h0
    obtain ⟨h0, hp⟩ := hp
    have hq_70_3 := h0
    obtain ⟨h0, hp⟩ := hp
    have hx_70_3 := h0
    refine sh_X2_endByTheBell_70 (x3 := σ.2)  g (σ0 := (σ.1, 0)) (Int32.toNatClampNeg (σ.1.1 100 2)) hc_70_3 hq_70_3 ?_ 
    refine j_iload g (i := 4) (by decide +kernel) rfl ?_
    refine j_aload_n g (i := 0) (by decide +kernel) rfl ?_
    refine j_gA g (b := 100) f2_12 (by decide +kernel) (by decide +kernel) (by decide +kernel) (by decide +kernel) ?_
    refine j_gI g f2_129 (by decide +kernel) (by decide +kernel) (by decide +kernel) ?_
    refine j_icmp_ge g (off := 29) (tgt := 108) (by decide +kernel) (by decide) (fun c79 => ?_) (fun c79 => ?_)
    · (try rw [if_pos (show ((l_X2_endByTheBell_70 a1 σ.2 (σ.1, 0) (Int32.toNatClampNeg (σ.1.1 100 2))).1.1 100 2) ≤ ((l_X2_endByTheBell_70 a1 σ.2 (σ.1, 0) (Int32.toNatClampNeg (σ.1.1 100 2))).2) from c79)] at hc); (rw [if_pos (show ((l_X2_endByTheBell_70 a1 σ.2 (σ.1, 0) (Int32.toNatClampNeg (σ.1.1 100 2))).1.1 100 2) ≤ ((l_X2_endByTheBell_70 a1 σ.2 (σ.1, 0) (Int32.toNatClampNeg (σ.1.1 100 2))).2) from c79)] at hp); (try simp only [if_pos (show ((l_X2_endByTheBell_70 a1 σ.2 (σ.1, 0) (Int32.toNatClampNeg (σ.1.1 100 2))).1.1 100 2) ≤ ((l_X2_endByTheBell_70 a1 σ.2 (σ.1, 0) (Int32.toNatClampNeg (σ.1.1 100 2))).2) from c79)] at k)
      refine j_aload_n g (i := 2) (by decide +kernel) rfl ?_
      refine j_gA g (b := 1033) f2_153 (by decide +kernel) (by decide +kernel) (by decide +kernel) (by decide +kernel) ?_
      refine j_iload_n g (i := 1) (by decide +kernel) rfl ?_
      obtain ⟨h0, hp⟩ := hp
      refine j_ia g 6 (by decide +kernel) (by decide +kernel) (by decide +kernel) h0 ?_
      refine j_if_eq g (off := 10) (tgt := 124) (by decide +kernel) (by decide) (fun c114 => ?_) (fun c114 => ?_)
      · (try rw [if_pos (show ((l_X2_endByTheBell_70 a1 σ.2 (σ.1, 0) (Int32.toNatClampNeg (σ.1.1 100 2))).1.1 1033 (Int32.toNatClampNeg a1)) = 0 from c114)] at hc); (rw [if_pos (show ((l_X2_endByTheBell_70 a1 σ.2 (σ.1, 0) (Int32.toNatClampNeg (σ.1.1 100 2))).1.1 1033 (Int32.toNatClampNeg a1)) = 0 from c114)] at hp); (try simp only [if_pos (show ((l_X2_endByTheBell_70 a1 σ.2 (σ.1, 0) (Int32.toNatClampNeg (σ.1.1 100 2))).1.1 1033 (Int32.toNatClampNeg a1)) = 0 from c114)] at k)
        refine j_iinc g (i := 3) (n := 1) (1) (by decide +kernel) rfl (by decide) rfl ?_
        dsimp only [stL, clL, hdL]
        refine j_goto g (off := -67) (tgt := 60) (by decide +kernel) (by decide) ?_
        exact k _
      · (try rw [if_neg (show ¬ (((l_X2_endByTheBell_70 a1 σ.2 (σ.1, 0) (Int32.toNatClampNeg (σ.1.1 100 2))).1.1 1033 (Int32.toNatClampNeg a1)) = 0) from c114)] at hc); (rw [if_neg (show ¬ (((l_X2_endByTheBell_70 a1 σ.2 (σ.1, 0) (Int32.toNatClampNeg (σ.1.1 100 2))).1.1 1033 (Int32.toNatClampNeg a1)) = 0) from c114)] at hp); (try simp only [if_neg (show ¬ (((l_X2_endByTheBell_70 a1 σ.2 (σ.1, 0) (Int32.toNatClampNeg (σ.1.1 100 2))).1.1 1033 (Int32.toNatClampNeg a1)) = 0) from c114)] at k)
        exact hc.elim
    · (try rw [if_neg (show ¬ (((l_X2_endByTheBell_70 a1 σ.2 (σ.1, 0) (Int32.toNatClampNeg (σ.1.1 100 2))).1.1 100 2) ≤ ((l_X2_endByTheBell_70 a1 σ.2 (σ.1, 0) (Int32.toNatClampNeg (σ.1.1 100 2))).2)) from c79)] at hc); (rw [if_neg (show ¬ (((l_X2_endByTheBell_70 a1 σ.2 (σ.1, 0) (Int32.toNatClampNeg (σ.1.1 100 2))).1.1 100 2) ≤ ((l_X2_endByTheBell_70 a1 σ.2 (σ.1, 0) (Int32.toNatClampNeg (σ.1.1 100 2))).2)) from c79)] at hp); (try simp only [if_neg (show ¬ (((l_X2_endByTheBell_70 a1 σ.2 (σ.1, 0) (Int32.toNatClampNeg (σ.1.1 100 2))).1.1 100 2) ≤ ((l_X2_endByTheBell_70 a1 σ.2 (σ.1, 0) (Int32.toNatClampNeg (σ.1.1 100 2))).2)) from c79)] at k)
      refine absurd (ci_X2_endByTheBell_70.mpr ?_) hx_70_3
      simp only [if_neg (show ¬ ((2000 : Int32) ≤ σ.2) from c64), if_neg (show ¬ (((l_X2_endByTheBell_70 a1 σ.2 (σ.1, 0) (Int32.toNatClampNeg (σ.1.1 100 2))).1.1 100 2) ≤ ((l_X2_endByTheBell_70 a1 σ.2 (σ.1, 0) (Int32.toNatClampNeg (σ.1.1 100 2))).2)) from c79)]
theorem sh_X2_endByTheBell_60 {d : Nat} {J : Nat → Lc → List Value → Mm → Prop} {a1 : Int32}  {σ0 : Mm × Int32}  (g : Good mX2_endByTheBell.1 mX2_endByTheBell.2.2.1 mX2_endByTheBell.2.2.2.1 (d + 3) J) : ∀ (N : Nat), (∀ k, k < N → c_X2_endByTheBell_60 a1 (l_X2_endByTheBell_60 a1 σ0 k)) → (∀ k, k < N → q_X2_endByTheBell_60 a1 (l_X2_endByTheBell_60 a1 σ0 k)) → (∀ (j4 : Option Value), J 60 [some (.ref 510), some (.int a1), some (.ref 1030), some (.int ((l_X2_endByTheBell_60 a1 σ0 N).2)), j4] [] ((l_X2_endByTheBell_60 a1 σ0 N).1)) → ∀ (j4 : Option Value), J 60 [some (.ref 510), some (.int a1), some (.ref 1030), some (.int σ0.2), j4] [] σ0.1
  | 0, _, _, k => k
  | N + 1, hc, hp, k => sh_X2_endByTheBell_60  g N (fun i hi => hc i (Nat.lt_succ_of_lt hi)) (fun i hi => hp i (Nat.lt_succ_of_lt hi)) (ps_X2_endByTheBell_60  g (hc N (Nat.lt_succ_self N)) (hp N (Nat.lt_succ_self N)) k)
noncomputable def r_X2_endByTheBell (M : Mm) (a1 : Int32) : Int32 := if ((l_X2_endByTheBell_2 a1 (M, 0) (Int32.toNatClampNeg (M.1 100 2))).1.1 100 2) ≤ ((l_X2_endByTheBell_2 a1 (M, 0) (Int32.toNatClampNeg (M.1 100 2))).2) then (if (2000 : Int32) ≤ ((l_X2_endByTheBell_60 a1 ((w_X3_beginFrom (l_X2_endByTheBell_2 a1 (M, 0) (Int32.toNatClampNeg (M.1 100 2))).1 1030 1000), 0) (cntN (fun k => c_X2_endByTheBell_60 a1 (l_X2_endByTheBell_60 a1 ((w_X3_beginFrom (l_X2_endByTheBell_2 a1 (M, 0) (Int32.toNatClampNeg (M.1 100 2))).1 1030 1000), 0) k)) 2001)).2) then (l_X2_endByTheBell_60 a1 ((w_X3_beginFrom (l_X2_endByTheBell_2 a1 (M, 0) (Int32.toNatClampNeg (M.1 100 2))).1 1030 1000), 0) (cntN (fun k => c_X2_endByTheBell_60 a1 (l_X2_endByTheBell_60 a1 ((w_X3_beginFrom (l_X2_endByTheBell_2 a1 (M, 0) (Int32.toNatClampNeg (M.1 100 2))).1 1030 1000), 0) k)) 2001)).1.1 1030 4 else if ((l_X2_endByTheBell_70 a1 ((l_X2_endByTheBell_60 a1 ((w_X3_beginFrom (l_X2_endByTheBell_2 a1 (M, 0) (Int32.toNatClampNeg (M.1 100 2))).1 1030 1000), 0) (cntN (fun k => c_X2_endByTheBell_60 a1 (l_X2_endByTheBell_60 a1 ((w_X3_beginFrom (l_X2_endByTheBell_2 a1 (M, 0) (Int32.toNatClampNeg (M.1 100 2))).1 1030 1000), 0) k)) 2001)).2) ((l_X2_endByTheBell_60 a1 ((w_X3_beginFrom (l_X2_endByTheBell_2 a1 (M, 0) (Int32.toNatClampNeg (M.1 100 2))).1 1030 1000), 0) (cntN (fun k => c_X2_endByTheBell_60 a1 (l_X2_endByTheBell_60 a1 ((w_X3_beginFrom (l_X2_endByTheBell_2 a1 (M, 0) (Int32.toNatClampNeg (M.1 100 2))).1 1030 1000), 0) k)) 2001)).1, 0) (Int32.toNatClampNeg ((l_X2_endByTheBell_60 a1 ((w_X3_beginFrom (l_X2_endByTheBell_2 a1 (M, 0) (Int32.toNatClampNeg (M.1 100 2))).1 1030 1000), 0) (cntN (fun k => c_X2_endByTheBell_60 a1 (l_X2_endByTheBell_60 a1 ((w_X3_beginFrom (l_X2_endByTheBell_2 a1 (M, 0) (Int32.toNatClampNeg (M.1 100 2))).1 1030 1000), 0) k)) 2001)).1.1 100 2))).1.1 100 2) ≤ ((l_X2_endByTheBell_70 a1 ((l_X2_endByTheBell_60 a1 ((w_X3_beginFrom (l_X2_endByTheBell_2 a1 (M, 0) (Int32.toNatClampNeg (M.1 100 2))).1 1030 1000), 0) (cntN (fun k => c_X2_endByTheBell_60 a1 (l_X2_endByTheBell_60 a1 ((w_X3_beginFrom (l_X2_endByTheBell_2 a1 (M, 0) (Int32.toNatClampNeg (M.1 100 2))).1 1030 1000), 0) k)) 2001)).2) ((l_X2_endByTheBell_60 a1 ((w_X3_beginFrom (l_X2_endByTheBell_2 a1 (M, 0) (Int32.toNatClampNeg (M.1 100 2))).1 1030 1000), 0) (cntN (fun k => c_X2_endByTheBell_60 a1 (l_X2_endByTheBell_60 a1 ((w_X3_beginFrom (l_X2_endByTheBell_2 a1 (M, 0) (Int32.toNatClampNeg (M.1 100 2))).1 1030 1000), 0) k)) 2001)).1, 0) (Int32.toNatClampNeg ((l_X2_endByTheBell_60 a1 ((w_X3_beginFrom (l_X2_endByTheBell_2 a1 (M, 0) (Int32.toNatClampNeg (M.1 100 2))).1 1030 1000), 0) (cntN (fun k => c_X2_endByTheBell_60 a1 (l_X2_endByTheBell_60 a1 ((w_X3_beginFrom (l_X2_endByTheBell_2 a1 (M, 0) (Int32.toNatClampNeg (M.1 100 2))).1 1030 1000), 0) k)) 2001)).1.1 100 2))).2) then (if ((l_X2_endByTheBell_70 a1 ((l_X2_endByTheBell_60 a1 ((w_X3_beginFrom (l_X2_endByTheBell_2 a1 (M, 0) (Int32.toNatClampNeg (M.1 100 2))).1 1030 1000), 0) (cntN (fun k => c_X2_endByTheBell_60 a1 (l_X2_endByTheBell_60 a1 ((w_X3_beginFrom (l_X2_endByTheBell_2 a1 (M, 0) (Int32.toNatClampNeg (M.1 100 2))).1 1030 1000), 0) k)) 2001)).2) ((l_X2_endByTheBell_60 a1 ((w_X3_beginFrom (l_X2_endByTheBell_2 a1 (M, 0) (Int32.toNatClampNeg (M.1 100 2))).1 1030 1000), 0) (cntN (fun k => c_X2_endByTheBell_60 a1 (l_X2_endByTheBell_60 a1 ((w_X3_beginFrom (l_X2_endByTheBell_2 a1 (M, 0) (Int32.toNatClampNeg (M.1 100 2))).1 1030 1000), 0) k)) 2001)).1, 0) (Int32.toNatClampNeg ((l_X2_endByTheBell_60 a1 ((w_X3_beginFrom (l_X2_endByTheBell_2 a1 (M, 0) (Int32.toNatClampNeg (M.1 100 2))).1 1030 1000), 0) (cntN (fun k => c_X2_endByTheBell_60 a1 (l_X2_endByTheBell_60 a1 ((w_X3_beginFrom (l_X2_endByTheBell_2 a1 (M, 0) (Int32.toNatClampNeg (M.1 100 2))).1 1030 1000), 0) k)) 2001)).1.1 100 2))).1.1 1033 (Int32.toNatClampNeg a1)) = 0 then 0 else (l_X2_endByTheBell_70 a1 ((l_X2_endByTheBell_60 a1 ((w_X3_beginFrom (l_X2_endByTheBell_2 a1 (M, 0) (Int32.toNatClampNeg (M.1 100 2))).1 1030 1000), 0) (cntN (fun k => c_X2_endByTheBell_60 a1 (l_X2_endByTheBell_60 a1 ((w_X3_beginFrom (l_X2_endByTheBell_2 a1 (M, 0) (Int32.toNatClampNeg (M.1 100 2))).1 1030 1000), 0) k)) 2001)).2) ((l_X2_endByTheBell_60 a1 ((w_X3_beginFrom (l_X2_endByTheBell_2 a1 (M, 0) (Int32.toNatClampNeg (M.1 100 2))).1 1030 1000), 0) (cntN (fun k => c_X2_endByTheBell_60 a1 (l_X2_endByTheBell_60 a1 ((w_X3_beginFrom (l_X2_endByTheBell_2 a1 (M, 0) (Int32.toNatClampNeg (M.1 100 2))).1 1030 1000), 0) k)) 2001)).1, 0) (Int32.toNatClampNeg ((l_X2_endByTheBell_60 a1 ((w_X3_beginFrom (l_X2_endByTheBell_2 a1 (M, 0) (Int32.toNatClampNeg (M.1 100 2))).1 1030 1000), 0) (cntN (fun k => c_X2_endByTheBell_60 a1 (l_X2_endByTheBell_60 a1 ((w_X3_beginFrom (l_X2_endByTheBell_2 a1 (M, 0) (Int32.toNatClampNeg (M.1 100 2))).1 1030 1000), 0) k)) 2001)).1.1 100 2))).1.1 1034 (Int32.toNatClampNeg a1)) else 0) else 0
noncomputable def w_X2_endByTheBell (M : Mm) (a1 : Int32) : Mm := if ((l_X2_endByTheBell_2 a1 (M, 0) (Int32.toNatClampNeg (M.1 100 2))).1.1 100 2) ≤ ((l_X2_endByTheBell_2 a1 (M, 0) (Int32.toNatClampNeg (M.1 100 2))).2) then (if (2000 : Int32) ≤ ((l_X2_endByTheBell_60 a1 ((w_X3_beginFrom (l_X2_endByTheBell_2 a1 (M, 0) (Int32.toNatClampNeg (M.1 100 2))).1 1030 1000), 0) (cntN (fun k => c_X2_endByTheBell_60 a1 (l_X2_endByTheBell_60 a1 ((w_X3_beginFrom (l_X2_endByTheBell_2 a1 (M, 0) (Int32.toNatClampNeg (M.1 100 2))).1 1030 1000), 0) k)) 2001)).2) then (l_X2_endByTheBell_60 a1 ((w_X3_beginFrom (l_X2_endByTheBell_2 a1 (M, 0) (Int32.toNatClampNeg (M.1 100 2))).1 1030 1000), 0) (cntN (fun k => c_X2_endByTheBell_60 a1 (l_X2_endByTheBell_60 a1 ((w_X3_beginFrom (l_X2_endByTheBell_2 a1 (M, 0) (Int32.toNatClampNeg (M.1 100 2))).1 1030 1000), 0) k)) 2001)).1 else if ((l_X2_endByTheBell_70 a1 ((l_X2_endByTheBell_60 a1 ((w_X3_beginFrom (l_X2_endByTheBell_2 a1 (M, 0) (Int32.toNatClampNeg (M.1 100 2))).1 1030 1000), 0) (cntN (fun k => c_X2_endByTheBell_60 a1 (l_X2_endByTheBell_60 a1 ((w_X3_beginFrom (l_X2_endByTheBell_2 a1 (M, 0) (Int32.toNatClampNeg (M.1 100 2))).1 1030 1000), 0) k)) 2001)).2) ((l_X2_endByTheBell_60 a1 ((w_X3_beginFrom (l_X2_endByTheBell_2 a1 (M, 0) (Int32.toNatClampNeg (M.1 100 2))).1 1030 1000), 0) (cntN (fun k => c_X2_endByTheBell_60 a1 (l_X2_endByTheBell_60 a1 ((w_X3_beginFrom (l_X2_endByTheBell_2 a1 (M, 0) (Int32.toNatClampNeg (M.1 100 2))).1 1030 1000), 0) k)) 2001)).1, 0) (Int32.toNatClampNeg ((l_X2_endByTheBell_60 a1 ((w_X3_beginFrom (l_X2_endByTheBell_2 a1 (M, 0) (Int32.toNatClampNeg (M.1 100 2))).1 1030 1000), 0) (cntN (fun k => c_X2_endByTheBell_60 a1 (l_X2_endByTheBell_60 a1 ((w_X3_beginFrom (l_X2_endByTheBell_2 a1 (M, 0) (Int32.toNatClampNeg (M.1 100 2))).1 1030 1000), 0) k)) 2001)).1.1 100 2))).1.1 100 2) ≤ ((l_X2_endByTheBell_70 a1 ((l_X2_endByTheBell_60 a1 ((w_X3_beginFrom (l_X2_endByTheBell_2 a1 (M, 0) (Int32.toNatClampNeg (M.1 100 2))).1 1030 1000), 0) (cntN (fun k => c_X2_endByTheBell_60 a1 (l_X2_endByTheBell_60 a1 ((w_X3_beginFrom (l_X2_endByTheBell_2 a1 (M, 0) (Int32.toNatClampNeg (M.1 100 2))).1 1030 1000), 0) k)) 2001)).2) ((l_X2_endByTheBell_60 a1 ((w_X3_beginFrom (l_X2_endByTheBell_2 a1 (M, 0) (Int32.toNatClampNeg (M.1 100 2))).1 1030 1000), 0) (cntN (fun k => c_X2_endByTheBell_60 a1 (l_X2_endByTheBell_60 a1 ((w_X3_beginFrom (l_X2_endByTheBell_2 a1 (M, 0) (Int32.toNatClampNeg (M.1 100 2))).1 1030 1000), 0) k)) 2001)).1, 0) (Int32.toNatClampNeg ((l_X2_endByTheBell_60 a1 ((w_X3_beginFrom (l_X2_endByTheBell_2 a1 (M, 0) (Int32.toNatClampNeg (M.1 100 2))).1 1030 1000), 0) (cntN (fun k => c_X2_endByTheBell_60 a1 (l_X2_endByTheBell_60 a1 ((w_X3_beginFrom (l_X2_endByTheBell_2 a1 (M, 0) (Int32.toNatClampNeg (M.1 100 2))).1 1030 1000), 0) k)) 2001)).1.1 100 2))).2) then (if ((l_X2_endByTheBell_70 a1 ((l_X2_endByTheBell_60 a1 ((w_X3_beginFrom (l_X2_endByTheBell_2 a1 (M, 0) (Int32.toNatClampNeg (M.1 100 2))).1 1030 1000), 0) (cntN (fun k => c_X2_endByTheBell_60 a1 (l_X2_endByTheBell_60 a1 ((w_X3_beginFrom (l_X2_endByTheBell_2 a1 (M, 0) (Int32.toNatClampNeg (M.1 100 2))).1 1030 1000), 0) k)) 2001)).2) ((l_X2_endByTheBell_60 a1 ((w_X3_beginFrom (l_X2_endByTheBell_2 a1 (M, 0) (Int32.toNatClampNeg (M.1 100 2))).1 1030 1000), 0) (cntN (fun k => c_X2_endByTheBell_60 a1 (l_X2_endByTheBell_60 a1 ((w_X3_beginFrom (l_X2_endByTheBell_2 a1 (M, 0) (Int32.toNatClampNeg (M.1 100 2))).1 1030 1000), 0) k)) 2001)).1, 0) (Int32.toNatClampNeg ((l_X2_endByTheBell_60 a1 ((w_X3_beginFrom (l_X2_endByTheBell_2 a1 (M, 0) (Int32.toNatClampNeg (M.1 100 2))).1 1030 1000), 0) (cntN (fun k => c_X2_endByTheBell_60 a1 (l_X2_endByTheBell_60 a1 ((w_X3_beginFrom (l_X2_endByTheBell_2 a1 (M, 0) (Int32.toNatClampNeg (M.1 100 2))).1 1030 1000), 0) k)) 2001)).1.1 100 2))).1.1 1033 (Int32.toNatClampNeg a1)) = 0 then M else (l_X2_endByTheBell_70 a1 ((l_X2_endByTheBell_60 a1 ((w_X3_beginFrom (l_X2_endByTheBell_2 a1 (M, 0) (Int32.toNatClampNeg (M.1 100 2))).1 1030 1000), 0) (cntN (fun k => c_X2_endByTheBell_60 a1 (l_X2_endByTheBell_60 a1 ((w_X3_beginFrom (l_X2_endByTheBell_2 a1 (M, 0) (Int32.toNatClampNeg (M.1 100 2))).1 1030 1000), 0) k)) 2001)).2) ((l_X2_endByTheBell_60 a1 ((w_X3_beginFrom (l_X2_endByTheBell_2 a1 (M, 0) (Int32.toNatClampNeg (M.1 100 2))).1 1030 1000), 0) (cntN (fun k => c_X2_endByTheBell_60 a1 (l_X2_endByTheBell_60 a1 ((w_X3_beginFrom (l_X2_endByTheBell_2 a1 (M, 0) (Int32.toNatClampNeg (M.1 100 2))).1 1030 1000), 0) k)) 2001)).1, 0) (Int32.toNatClampNeg ((l_X2_endByTheBell_60 a1 ((w_X3_beginFrom (l_X2_endByTheBell_2 a1 (M, 0) (Int32.toNatClampNeg (M.1 100 2))).1 1030 1000), 0) (cntN (fun k => c_X2_endByTheBell_60 a1 (l_X2_endByTheBell_60 a1 ((w_X3_beginFrom (l_X2_endByTheBell_2 a1 (M, 0) (Int32.toNatClampNeg (M.1 100 2))).1 1030 1000), 0) k)) 2001)).1.1 100 2))).1) else M) else M
def p_X2_endByTheBell (M : Mm) (a1 : Int32) : Prop := (∀ k, k < (Int32.toNatClampNeg (M.1 100 2)) → c_X2_endByTheBell_2 a1 (l_X2_endByTheBell_2 a1 (M, 0) k)) ∧ (∀ k, k < (Int32.toNatClampNeg (M.1 100 2)) → q_X2_endByTheBell_2 a1 (l_X2_endByTheBell_2 a1 (M, 0) k)) ∧ (¬ c_X2_endByTheBell_2 a1 (l_X2_endByTheBell_2 a1 (M, 0) (Int32.toNatClampNeg (M.1 100 2)))) ∧ (if ((l_X2_endByTheBell_2 a1 (M, 0) (Int32.toNatClampNeg (M.1 100 2))).1.1 100 2) ≤ ((l_X2_endByTheBell_2 a1 (M, 0) (Int32.toNatClampNeg (M.1 100 2))).2) then (∀ k, k < (cntN (fun k => c_X2_endByTheBell_60 a1 (l_X2_endByTheBell_60 a1 ((w_X3_beginFrom (l_X2_endByTheBell_2 a1 (M, 0) (Int32.toNatClampNeg (M.1 100 2))).1 1030 1000), 0) k)) 2001) → c_X2_endByTheBell_60 a1 (l_X2_endByTheBell_60 a1 ((w_X3_beginFrom (l_X2_endByTheBell_2 a1 (M, 0) (Int32.toNatClampNeg (M.1 100 2))).1 1030 1000), 0) k)) ∧ (∀ k, k < (cntN (fun k => c_X2_endByTheBell_60 a1 (l_X2_endByTheBell_60 a1 ((w_X3_beginFrom (l_X2_endByTheBell_2 a1 (M, 0) (Int32.toNatClampNeg (M.1 100 2))).1 1030 1000), 0) k)) 2001) → q_X2_endByTheBell_60 a1 (l_X2_endByTheBell_60 a1 ((w_X3_beginFrom (l_X2_endByTheBell_2 a1 (M, 0) (Int32.toNatClampNeg (M.1 100 2))).1 1030 1000), 0) k)) ∧ (¬ c_X2_endByTheBell_60 a1 (l_X2_endByTheBell_60 a1 ((w_X3_beginFrom (l_X2_endByTheBell_2 a1 (M, 0) (Int32.toNatClampNeg (M.1 100 2))).1 1030 1000), 0) (cntN (fun k => c_X2_endByTheBell_60 a1 (l_X2_endByTheBell_60 a1 ((w_X3_beginFrom (l_X2_endByTheBell_2 a1 (M, 0) (Int32.toNatClampNeg (M.1 100 2))).1 1030 1000), 0) k)) 2001))) ∧ (if (2000 : Int32) ≤ ((l_X2_endByTheBell_60 a1 ((w_X3_beginFrom (l_X2_endByTheBell_2 a1 (M, 0) (Int32.toNatClampNeg (M.1 100 2))).1 1030 1000), 0) (cntN (fun k => c_X2_endByTheBell_60 a1 (l_X2_endByTheBell_60 a1 ((w_X3_beginFrom (l_X2_endByTheBell_2 a1 (M, 0) (Int32.toNatClampNeg (M.1 100 2))).1 1030 1000), 0) k)) 2001)).2) then True else (∀ k, k < (Int32.toNatClampNeg ((l_X2_endByTheBell_60 a1 ((w_X3_beginFrom (l_X2_endByTheBell_2 a1 (M, 0) (Int32.toNatClampNeg (M.1 100 2))).1 1030 1000), 0) (cntN (fun k => c_X2_endByTheBell_60 a1 (l_X2_endByTheBell_60 a1 ((w_X3_beginFrom (l_X2_endByTheBell_2 a1 (M, 0) (Int32.toNatClampNeg (M.1 100 2))).1 1030 1000), 0) k)) 2001)).1.1 100 2)) → c_X2_endByTheBell_70 a1 ((l_X2_endByTheBell_60 a1 ((w_X3_beginFrom (l_X2_endByTheBell_2 a1 (M, 0) (Int32.toNatClampNeg (M.1 100 2))).1 1030 1000), 0) (cntN (fun k => c_X2_endByTheBell_60 a1 (l_X2_endByTheBell_60 a1 ((w_X3_beginFrom (l_X2_endByTheBell_2 a1 (M, 0) (Int32.toNatClampNeg (M.1 100 2))).1 1030 1000), 0) k)) 2001)).2) (l_X2_endByTheBell_70 a1 ((l_X2_endByTheBell_60 a1 ((w_X3_beginFrom (l_X2_endByTheBell_2 a1 (M, 0) (Int32.toNatClampNeg (M.1 100 2))).1 1030 1000), 0) (cntN (fun k => c_X2_endByTheBell_60 a1 (l_X2_endByTheBell_60 a1 ((w_X3_beginFrom (l_X2_endByTheBell_2 a1 (M, 0) (Int32.toNatClampNeg (M.1 100 2))).1 1030 1000), 0) k)) 2001)).2) ((l_X2_endByTheBell_60 a1 ((w_X3_beginFrom (l_X2_endByTheBell_2 a1 (M, 0) (Int32.toNatClampNeg (M.1 100 2))).1 1030 1000), 0) (cntN (fun k => c_X2_endByTheBell_60 a1 (l_X2_endByTheBell_60 a1 ((w_X3_beginFrom (l_X2_endByTheBell_2 a1 (M, 0) (Int32.toNatClampNeg (M.1 100 2))).1 1030 1000), 0) k)) 2001)).1, 0) k)) ∧ (∀ k, k < (Int32.toNatClampNeg ((l_X2_endByTheBell_60 a1 ((w_X3_beginFrom (l_X2_endByTheBell_2 a1 (M, 0) (Int32.toNatClampNeg (M.1 100 2))).1 1030 1000), 0) (cntN (fun k => c_X2_endByTheBell_60 a1 (l_X2_endByTheBell_60 a1 ((w_X3_beginFrom (l_X2_endByTheBell_2 a1 (M, 0) (Int32.toNatClampNeg (M.1 100 2))).1 1030 1000), 0) k)) 2001)).1.1 100 2)) → q_X2_endByTheBell_70 a1 ((l_X2_endByTheBell_60 a1 ((w_X3_beginFrom (l_X2_endByTheBell_2 a1 (M, 0) (Int32.toNatClampNeg (M.1 100 2))).1 1030 1000), 0) (cntN (fun k => c_X2_endByTheBell_60 a1 (l_X2_endByTheBell_60 a1 ((w_X3_beginFrom (l_X2_endByTheBell_2 a1 (M, 0) (Int32.toNatClampNeg (M.1 100 2))).1 1030 1000), 0) k)) 2001)).2) (l_X2_endByTheBell_70 a1 ((l_X2_endByTheBell_60 a1 ((w_X3_beginFrom (l_X2_endByTheBell_2 a1 (M, 0) (Int32.toNatClampNeg (M.1 100 2))).1 1030 1000), 0) (cntN (fun k => c_X2_endByTheBell_60 a1 (l_X2_endByTheBell_60 a1 ((w_X3_beginFrom (l_X2_endByTheBell_2 a1 (M, 0) (Int32.toNatClampNeg (M.1 100 2))).1 1030 1000), 0) k)) 2001)).2) ((l_X2_endByTheBell_60 a1 ((w_X3_beginFrom (l_X2_endByTheBell_2 a1 (M, 0) (Int32.toNatClampNeg (M.1 100 2))).1 1030 1000), 0) (cntN (fun k => c_X2_endByTheBell_60 a1 (l_X2_endByTheBell_60 a1 ((w_X3_beginFrom (l_X2_endByTheBell_2 a1 (M, 0) (Int32.toNatClampNeg (M.1 100 2))).1 1030 1000), 0) k)) 2001)).1, 0) k)) ∧ (¬ c_X2_endByTheBell_70 a1 ((l_X2_endByTheBell_60 a1 ((w_X3_beginFrom (l_X2_endByTheBell_2 a1 (M, 0) (Int32.toNatClampNeg (M.1 100 2))).1 1030 1000), 0) (cntN (fun k => c_X2_endByTheBell_60 a1 (l_X2_endByTheBell_60 a1 ((w_X3_beginFrom (l_X2_endByTheBell_2 a1 (M, 0) (Int32.toNatClampNeg (M.1 100 2))).1 1030 1000), 0) k)) 2001)).2) (l_X2_endByTheBell_70 a1 ((l_X2_endByTheBell_60 a1 ((w_X3_beginFrom (l_X2_endByTheBell_2 a1 (M, 0) (Int32.toNatClampNeg (M.1 100 2))).1 1030 1000), 0) (cntN (fun k => c_X2_endByTheBell_60 a1 (l_X2_endByTheBell_60 a1 ((w_X3_beginFrom (l_X2_endByTheBell_2 a1 (M, 0) (Int32.toNatClampNeg (M.1 100 2))).1 1030 1000), 0) k)) 2001)).2) ((l_X2_endByTheBell_60 a1 ((w_X3_beginFrom (l_X2_endByTheBell_2 a1 (M, 0) (Int32.toNatClampNeg (M.1 100 2))).1 1030 1000), 0) (cntN (fun k => c_X2_endByTheBell_60 a1 (l_X2_endByTheBell_60 a1 ((w_X3_beginFrom (l_X2_endByTheBell_2 a1 (M, 0) (Int32.toNatClampNeg (M.1 100 2))).1 1030 1000), 0) k)) 2001)).1, 0) (Int32.toNatClampNeg ((l_X2_endByTheBell_60 a1 ((w_X3_beginFrom (l_X2_endByTheBell_2 a1 (M, 0) (Int32.toNatClampNeg (M.1 100 2))).1 1030 1000), 0) (cntN (fun k => c_X2_endByTheBell_60 a1 (l_X2_endByTheBell_60 a1 ((w_X3_beginFrom (l_X2_endByTheBell_2 a1 (M, 0) (Int32.toNatClampNeg (M.1 100 2))).1 1030 1000), 0) k)) 2001)).1.1 100 2)))) ∧ (if ((l_X2_endByTheBell_70 a1 ((l_X2_endByTheBell_60 a1 ((w_X3_beginFrom (l_X2_endByTheBell_2 a1 (M, 0) (Int32.toNatClampNeg (M.1 100 2))).1 1030 1000), 0) (cntN (fun k => c_X2_endByTheBell_60 a1 (l_X2_endByTheBell_60 a1 ((w_X3_beginFrom (l_X2_endByTheBell_2 a1 (M, 0) (Int32.toNatClampNeg (M.1 100 2))).1 1030 1000), 0) k)) 2001)).2) ((l_X2_endByTheBell_60 a1 ((w_X3_beginFrom (l_X2_endByTheBell_2 a1 (M, 0) (Int32.toNatClampNeg (M.1 100 2))).1 1030 1000), 0) (cntN (fun k => c_X2_endByTheBell_60 a1 (l_X2_endByTheBell_60 a1 ((w_X3_beginFrom (l_X2_endByTheBell_2 a1 (M, 0) (Int32.toNatClampNeg (M.1 100 2))).1 1030 1000), 0) k)) 2001)).1, 0) (Int32.toNatClampNeg ((l_X2_endByTheBell_60 a1 ((w_X3_beginFrom (l_X2_endByTheBell_2 a1 (M, 0) (Int32.toNatClampNeg (M.1 100 2))).1 1030 1000), 0) (cntN (fun k => c_X2_endByTheBell_60 a1 (l_X2_endByTheBell_60 a1 ((w_X3_beginFrom (l_X2_endByTheBell_2 a1 (M, 0) (Int32.toNatClampNeg (M.1 100 2))).1 1030 1000), 0) k)) 2001)).1.1 100 2))).1.1 100 2) ≤ ((l_X2_endByTheBell_70 a1 ((l_X2_endByTheBell_60 a1 ((w_X3_beginFrom (l_X2_endByTheBell_2 a1 (M, 0) (Int32.toNatClampNeg (M.1 100 2))).1 1030 1000), 0) (cntN (fun k => c_X2_endByTheBell_60 a1 (l_X2_endByTheBell_60 a1 ((w_X3_beginFrom (l_X2_endByTheBell_2 a1 (M, 0) (Int32.toNatClampNeg (M.1 100 2))).1 1030 1000), 0) k)) 2001)).2) ((l_X2_endByTheBell_60 a1 ((w_X3_beginFrom (l_X2_endByTheBell_2 a1 (M, 0) (Int32.toNatClampNeg (M.1 100 2))).1 1030 1000), 0) (cntN (fun k => c_X2_endByTheBell_60 a1 (l_X2_endByTheBell_60 a1 ((w_X3_beginFrom (l_X2_endByTheBell_2 a1 (M, 0) (Int32.toNatClampNeg (M.1 100 2))).1 1030 1000), 0) k)) 2001)).1, 0) (Int32.toNatClampNeg ((l_X2_endByTheBell_60 a1 ((w_X3_beginFrom (l_X2_endByTheBell_2 a1 (M, 0) (Int32.toNatClampNeg (M.1 100 2))).1 1030 1000), 0) (cntN (fun k => c_X2_endByTheBell_60 a1 (l_X2_endByTheBell_60 a1 ((w_X3_beginFrom (l_X2_endByTheBell_2 a1 (M, 0) (Int32.toNatClampNeg (M.1 100 2))).1 1030 1000), 0) k)) 2001)).1.1 100 2))).2) then (vp_in a1 6) ∧ (if ((l_X2_endByTheBell_70 a1 ((l_X2_endByTheBell_60 a1 ((w_X3_beginFrom (l_X2_endByTheBell_2 a1 (M, 0) (Int32.toNatClampNeg (M.1 100 2))).1 1030 1000), 0) (cntN (fun k => c_X2_endByTheBell_60 a1 (l_X2_endByTheBell_60 a1 ((w_X3_beginFrom (l_X2_endByTheBell_2 a1 (M, 0) (Int32.toNatClampNeg (M.1 100 2))).1 1030 1000), 0) k)) 2001)).2) ((l_X2_endByTheBell_60 a1 ((w_X3_beginFrom (l_X2_endByTheBell_2 a1 (M, 0) (Int32.toNatClampNeg (M.1 100 2))).1 1030 1000), 0) (cntN (fun k => c_X2_endByTheBell_60 a1 (l_X2_endByTheBell_60 a1 ((w_X3_beginFrom (l_X2_endByTheBell_2 a1 (M, 0) (Int32.toNatClampNeg (M.1 100 2))).1 1030 1000), 0) k)) 2001)).1, 0) (Int32.toNatClampNeg ((l_X2_endByTheBell_60 a1 ((w_X3_beginFrom (l_X2_endByTheBell_2 a1 (M, 0) (Int32.toNatClampNeg (M.1 100 2))).1 1030 1000), 0) (cntN (fun k => c_X2_endByTheBell_60 a1 (l_X2_endByTheBell_60 a1 ((w_X3_beginFrom (l_X2_endByTheBell_2 a1 (M, 0) (Int32.toNatClampNeg (M.1 100 2))).1 1030 1000), 0) k)) 2001)).1.1 100 2))).1.1 1033 (Int32.toNatClampNeg a1)) = 0 then True else (vp_in a1 6) ∧ True) else True)) else True)
set_option maxRecDepth 20000 in
theorem rnX2_endByTheBell {d : Nat} {M : Mm} {a1 : Int32}  (hp : p_X2_endByTheBell M a1) : Rn (d + 3) mX2_endByTheBell [.ref 510, .int a1] M (some (.int (r_X2_endByTheBell M a1))) (w_X2_endByTheBell M a1) := by
  refine Rn.of [some (.ref 510), some (.int a1), none, none, none] (by decide +kernel) rfl (Nat.le_of_ble_eq_true rfl) rfl (fun J g hr => ?_)
  unfold p_X2_endByTheBell at hp
  refine j_iconst g (n := 0) (0) (by decide +kernel) rfl ?_
  refine j_istore_n g (i := 2) (by decide +kernel) (by decide) ?_
  dsimp only [stL, clL, hdL]
  obtain ⟨h0, hp⟩ := hp
  have hc_2_1 := h0
  obtain ⟨h0, hp⟩ := hp
  have hq_2_1 := h0
  obtain ⟨h0, hp⟩ := hp
  have hx_2_1 := h0
  refine sh_X2_endByTheBell_2   g (σ0 := (M, 0)) (Int32.toNatClampNeg (M.1 100 2)) hc_2_1 hq_2_1 ?_ 
  refine j_iload_n g (i := 2) (by decide +kernel) rfl ?_
  refine j_aload_n g (i := 0) (by decide +kernel) rfl ?_
  refine j_gA g (b := 100) f2_12 (by decide +kernel) (by decide +kernel) (by decide +kernel) (by decide +kernel) ?_
  refine j_gI g f2_129 (by decide +kernel) (by decide +kernel) (by decide +kernel) ?_
  refine j_icmp_ge g (off := 30) (tgt := 40) (by decide +kernel) (by decide) (fun c10 => ?_) (fun c10 => ?_)
  · rw [if_pos (show ((l_X2_endByTheBell_2 a1 (M, 0) (Int32.toNatClampNeg (M.1 100 2))).1.1 100 2) ≤ ((l_X2_endByTheBell_2 a1 (M, 0) (Int32.toNatClampNeg (M.1 100 2))).2) from c10)] at hp
    refine j_aload_n g (i := 0) (by decide +kernel) rfl ?_
    refine j_gA g (b := 511) f2_20 (by decide +kernel) (by decide +kernel) (by decide +kernel) (by decide +kernel) ?_
    refine j_iconst g (n := 0) (0) (by decide +kernel) rfl ?_
    refine j_aS g (b := 1030) 7 (by decide +kernel) (by decide +kernel) (by decide +kernel) (vin_b (by decide +kernel)) (by decide +kernel) ?_
    refine j_astore_n g (i := 2) (by decide +kernel) (by decide) ?_
    dsimp only [stL, clL, hdL]
    refine j_aload_n g (i := 2) (by decide +kernel) rfl ?_
    refine j_aload_n g (i := 0) (by decide +kernel) rfl ?_
    refine j_gA g (b := 100) f2_12 (by decide +kernel) (by decide +kernel) (by decide +kernel) (by decide +kernel) ?_
    refine j_gA g (b := 1000) f2_59 (by decide +kernel) (by decide +kernel) (by decide +kernel) (by decide +kernel) ?_
    refine j_cV1v g v2_84 ⟨rfl, by decide⟩ (by decide +kernel) (by decide +kernel) (Nat.le_of_ble_eq_true rfl) (rnX3_beginFrom (by simp [isS]) (by simp [isS])) ?_
    refine j_iconst g (n := 0) (0) (by decide +kernel) rfl ?_
    refine j_istore_n g (i := 3) (by decide +kernel) (by decide) ?_
    dsimp only [stL, clL, hdL]
    obtain ⟨h0, hp⟩ := hp
    have hc_60_4 := h0
    obtain ⟨h0, hp⟩ := hp
    have hq_60_4 := h0
    obtain ⟨h0, hp⟩ := hp
    have hx_60_4 := h0
    refine sh_X2_endByTheBell_60   g (σ0 := ((w_X3_beginFrom (l_X2_endByTheBell_2 a1 (M, 0) (Int32.toNatClampNeg (M.1 100 2))).1 1030 1000), 0)) (cntN (fun k => c_X2_endByTheBell_60 a1 (l_X2_endByTheBell_60 a1 ((w_X3_beginFrom (l_X2_endByTheBell_2 a1 (M, 0) (Int32.toNatClampNeg (M.1 100 2))).1 1030 1000), 0) k)) 2001) hc_60_4 hq_60_4 ?_ _
    intro j4_4
    refine j_iload_n g (i := 3) (by decide +kernel) rfl ?_
    refine j_sipush g (n := 2000) (2000) (by decide +kernel) (by decide +kernel) ?_
    refine j_icmp_ge g (off := 66) (tgt := 130) (by decide +kernel) (by decide) (fun c64 => ?_) (fun c64 => ?_)
    · rw [if_pos (show (2000 : Int32) ≤ ((l_X2_endByTheBell_60 a1 ((w_X3_beginFrom (l_X2_endByTheBell_2 a1 (M, 0) (Int32.toNatClampNeg (M.1 100 2))).1 1030 1000), 0) (cntN (fun k => c_X2_endByTheBell_60 a1 (l_X2_endByTheBell_60 a1 ((w_X3_beginFrom (l_X2_endByTheBell_2 a1 (M, 0) (Int32.toNatClampNeg (M.1 100 2))).1 1030 1000), 0) k)) 2001)).2) from c64)] at hp
      refine j_aload_n g (i := 2) (by decide +kernel) rfl ?_
      refine j_gI g f2_88 (by decide +kernel) (by decide +kernel) (by decide +kernel) ?_
      refine hr.1 _ _ _ _ (by decide +kernel) ⟨_, rfl, by first | rfl | exact b2i_nar | decide +kernel⟩ ?_ ?_
      · unfold r_X2_endByTheBell; first | (simp only [if_pos (show ((l_X2_endByTheBell_2 a1 (M, 0) (Int32.toNatClampNeg (M.1 100 2))).1.1 100 2) ≤ ((l_X2_endByTheBell_2 a1 (M, 0) (Int32.toNatClampNeg (M.1 100 2))).2) from c10), if_pos (show (2000 : Int32) ≤ ((l_X2_endByTheBell_60 a1 ((w_X3_beginFrom (l_X2_endByTheBell_2 a1 (M, 0) (Int32.toNatClampNeg (M.1 100 2))).1 1030 1000), 0) (cntN (fun k => c_X2_endByTheBell_60 a1 (l_X2_endByTheBell_60 a1 ((w_X3_beginFrom (l_X2_endByTheBell_2 a1 (M, 0) (Int32.toNatClampNeg (M.1 100 2))).1 1030 1000), 0) k)) 2001)).2) from c64)]; done) | (simp only [if_pos (show ((l_X2_endByTheBell_2 a1 (M, 0) (Int32.toNatClampNeg (M.1 100 2))).1.1 100 2) ≤ ((l_X2_endByTheBell_2 a1 (M, 0) (Int32.toNatClampNeg (M.1 100 2))).2) from c10), if_pos (show (2000 : Int32) ≤ ((l_X2_endByTheBell_60 a1 ((w_X3_beginFrom (l_X2_endByTheBell_2 a1 (M, 0) (Int32.toNatClampNeg (M.1 100 2))).1 1030 1000), 0) (cntN (fun k => c_X2_endByTheBell_60 a1 (l_X2_endByTheBell_60 a1 ((w_X3_beginFrom (l_X2_endByTheBell_2 a1 (M, 0) (Int32.toNatClampNeg (M.1 100 2))).1 1030 1000), 0) k)) 2001)).2) from c64)]; rfl) | rfl
      · unfold w_X2_endByTheBell; first | (simp only [if_pos (show ((l_X2_endByTheBell_2 a1 (M, 0) (Int32.toNatClampNeg (M.1 100 2))).1.1 100 2) ≤ ((l_X2_endByTheBell_2 a1 (M, 0) (Int32.toNatClampNeg (M.1 100 2))).2) from c10), if_pos (show (2000 : Int32) ≤ ((l_X2_endByTheBell_60 a1 ((w_X3_beginFrom (l_X2_endByTheBell_2 a1 (M, 0) (Int32.toNatClampNeg (M.1 100 2))).1 1030 1000), 0) (cntN (fun k => c_X2_endByTheBell_60 a1 (l_X2_endByTheBell_60 a1 ((w_X3_beginFrom (l_X2_endByTheBell_2 a1 (M, 0) (Int32.toNatClampNeg (M.1 100 2))).1 1030 1000), 0) k)) 2001)).2) from c64)]; done) | (simp only [if_pos (show ((l_X2_endByTheBell_2 a1 (M, 0) (Int32.toNatClampNeg (M.1 100 2))).1.1 100 2) ≤ ((l_X2_endByTheBell_2 a1 (M, 0) (Int32.toNatClampNeg (M.1 100 2))).2) from c10), if_pos (show (2000 : Int32) ≤ ((l_X2_endByTheBell_60 a1 ((w_X3_beginFrom (l_X2_endByTheBell_2 a1 (M, 0) (Int32.toNatClampNeg (M.1 100 2))).1 1030 1000), 0) (cntN (fun k => c_X2_endByTheBell_60 a1 (l_X2_endByTheBell_60 a1 ((w_X3_beginFrom (l_X2_endByTheBell_2 a1 (M, 0) (Int32.toNatClampNeg (M.1 100 2))).1 1030 1000), 0) k)) 2001)).2) from c64)]; rfl) | rfl
    · rw [if_neg (show ¬ ((2000 : Int32) ≤ ((l_X2_endByTheBell_60 a1 ((w_X3_beginFrom (l_X2_endByTheBell_2 a1 (M, 0) (Int32.toNatClampNeg (M.1 100 2))).1 1030 1000), 0) (cntN (fun k => c_X2_endByTheBell_60 a1 (l_X2_endByTheBell_60 a1 ((w_X3_beginFrom (l_X2_endByTheBell_2 a1 (M, 0) (Int32.toNatClampNeg (M.1 100 2))).1 1030 1000), 0) k)) 2001)).2)) from c64)] at hp
      refine j_iconst g (n := 0) (0) (by decide +kernel) rfl ?_
      refine j_istore g (i := 4) (by decide +kernel) (by decide) ?_
      dsimp only [stL, clL, hdL]
      obtain ⟨h0, hp⟩ := hp
      have hc_70_5 := h0
      obtain ⟨h0, hp⟩ := hp
      have hq_70_5 := h0
      obtain ⟨h0, hp⟩ := hp
      have hx_70_5 := h0
      refine sh_X2_endByTheBell_70 (x3 := ((l_X2_endByTheBell_60 a1 ((w_X3_beginFrom (l_X2_endByTheBell_2 a1 (M, 0) (Int32.toNatClampNeg (M.1 100 2))).1 1030 1000), 0) (cntN (fun k => c_X2_endByTheBell_60 a1 (l_X2_endByTheBell_60 a1 ((w_X3_beginFrom (l_X2_endByTheBell_2 a1 (M, 0) (Int32.toNatClampNeg (M.1 100 2))).1 1030 1000), 0) k)) 2001)).2))  g (σ0 := ((l_X2_endByTheBell_60 a1 ((w_X3_beginFrom (l_X2_endByTheBell_2 a1 (M, 0) (Int32.toNatClampNeg (M.1 100 2))).1 1030 1000), 0) (cntN (fun k => c_X2_endByTheBell_60 a1 (l_X2_endByTheBell_60 a1 ((w_X3_beginFrom (l_X2_endByTheBell_2 a1 (M, 0) (Int32.toNatClampNeg (M.1 100 2))).1 1030 1000), 0) k)) 2001)).1, 0)) (Int32.toNatClampNeg ((l_X2_endByTheBell_60 a1 ((w_X3_beginFrom (l_X2_endByTheBell_2 a1 (M, 0) (Int32.toNatClampNeg (M.1 100 2))).1 1030 1000), 0) (cntN (fun k => c_X2_endByTheBell_60 a1 (l_X2_endByTheBell_60 a1 ((w_X3_beginFrom (l_X2_endByTheBell_2 a1 (M, 0) (Int32.toNatClampNeg (M.1 100 2))).1 1030 1000), 0) k)) 2001)).1.1 100 2)) hc_70_5 hq_70_5 ?_ 
      refine j_iload g (i := 4) (by decide +kernel) rfl ?_
      refine j_aload_n g (i := 0) (by decide +kernel) rfl ?_
      refine j_gA g (b := 100) f2_12 (by decide +kernel) (by decide +kernel) (by decide +kernel) (by decide +kernel) ?_
      refine j_gI g f2_129 (by decide +kernel) (by decide +kernel) (by decide +kernel) ?_
      refine j_icmp_ge g (off := 29) (tgt := 108) (by decide +kernel) (by decide) (fun c79 => ?_) (fun c79 => ?_)
      · rw [if_pos (show ((l_X2_endByTheBell_70 a1 ((l_X2_endByTheBell_60 a1 ((w_X3_beginFrom (l_X2_endByTheBell_2 a1 (M, 0) (Int32.toNatClampNeg (M.1 100 2))).1 1030 1000), 0) (cntN (fun k => c_X2_endByTheBell_60 a1 (l_X2_endByTheBell_60 a1 ((w_X3_beginFrom (l_X2_endByTheBell_2 a1 (M, 0) (Int32.toNatClampNeg (M.1 100 2))).1 1030 1000), 0) k)) 2001)).2) ((l_X2_endByTheBell_60 a1 ((w_X3_beginFrom (l_X2_endByTheBell_2 a1 (M, 0) (Int32.toNatClampNeg (M.1 100 2))).1 1030 1000), 0) (cntN (fun k => c_X2_endByTheBell_60 a1 (l_X2_endByTheBell_60 a1 ((w_X3_beginFrom (l_X2_endByTheBell_2 a1 (M, 0) (Int32.toNatClampNeg (M.1 100 2))).1 1030 1000), 0) k)) 2001)).1, 0) (Int32.toNatClampNeg ((l_X2_endByTheBell_60 a1 ((w_X3_beginFrom (l_X2_endByTheBell_2 a1 (M, 0) (Int32.toNatClampNeg (M.1 100 2))).1 1030 1000), 0) (cntN (fun k => c_X2_endByTheBell_60 a1 (l_X2_endByTheBell_60 a1 ((w_X3_beginFrom (l_X2_endByTheBell_2 a1 (M, 0) (Int32.toNatClampNeg (M.1 100 2))).1 1030 1000), 0) k)) 2001)).1.1 100 2))).1.1 100 2) ≤ ((l_X2_endByTheBell_70 a1 ((l_X2_endByTheBell_60 a1 ((w_X3_beginFrom (l_X2_endByTheBell_2 a1 (M, 0) (Int32.toNatClampNeg (M.1 100 2))).1 1030 1000), 0) (cntN (fun k => c_X2_endByTheBell_60 a1 (l_X2_endByTheBell_60 a1 ((w_X3_beginFrom (l_X2_endByTheBell_2 a1 (M, 0) (Int32.toNatClampNeg (M.1 100 2))).1 1030 1000), 0) k)) 2001)).2) ((l_X2_endByTheBell_60 a1 ((w_X3_beginFrom (l_X2_endByTheBell_2 a1 (M, 0) (Int32.toNatClampNeg (M.1 100 2))).1 1030 1000), 0) (cntN (fun k => c_X2_endByTheBell_60 a1 (l_X2_endByTheBell_60 a1 ((w_X3_beginFrom (l_X2_endByTheBell_2 a1 (M, 0) (Int32.toNatClampNeg (M.1 100 2))).1 1030 1000), 0) k)) 2001)).1, 0) (Int32.toNatClampNeg ((l_X2_endByTheBell_60 a1 ((w_X3_beginFrom (l_X2_endByTheBell_2 a1 (M, 0) (Int32.toNatClampNeg (M.1 100 2))).1 1030 1000), 0) (cntN (fun k => c_X2_endByTheBell_60 a1 (l_X2_endByTheBell_60 a1 ((w_X3_beginFrom (l_X2_endByTheBell_2 a1 (M, 0) (Int32.toNatClampNeg (M.1 100 2))).1 1030 1000), 0) k)) 2001)).1.1 100 2))).2) from c79)] at hp
        refine j_aload_n g (i := 2) (by decide +kernel) rfl ?_
        refine j_gA g (b := 1033) f2_153 (by decide +kernel) (by decide +kernel) (by decide +kernel) (by decide +kernel) ?_
        refine j_iload_n g (i := 1) (by decide +kernel) rfl ?_
        obtain ⟨h0, hp⟩ := hp
        refine j_ia g 6 (by decide +kernel) (by decide +kernel) (by decide +kernel) h0 ?_
        refine j_if_eq g (off := 10) (tgt := 124) (by decide +kernel) (by decide) (fun c114 => ?_) (fun c114 => ?_)
        · rw [if_pos (show ((l_X2_endByTheBell_70 a1 ((l_X2_endByTheBell_60 a1 ((w_X3_beginFrom (l_X2_endByTheBell_2 a1 (M, 0) (Int32.toNatClampNeg (M.1 100 2))).1 1030 1000), 0) (cntN (fun k => c_X2_endByTheBell_60 a1 (l_X2_endByTheBell_60 a1 ((w_X3_beginFrom (l_X2_endByTheBell_2 a1 (M, 0) (Int32.toNatClampNeg (M.1 100 2))).1 1030 1000), 0) k)) 2001)).2) ((l_X2_endByTheBell_60 a1 ((w_X3_beginFrom (l_X2_endByTheBell_2 a1 (M, 0) (Int32.toNatClampNeg (M.1 100 2))).1 1030 1000), 0) (cntN (fun k => c_X2_endByTheBell_60 a1 (l_X2_endByTheBell_60 a1 ((w_X3_beginFrom (l_X2_endByTheBell_2 a1 (M, 0) (Int32.toNatClampNeg (M.1 100 2))).1 1030 1000), 0) k)) 2001)).1, 0) (Int32.toNatClampNeg ((l_X2_endByTheBell_60 a1 ((w_X3_beginFrom (l_X2_endByTheBell_2 a1 (M, 0) (Int32.toNatClampNeg (M.1 100 2))).1 1030 1000), 0) (cntN (fun k => c_X2_endByTheBell_60 a1 (l_X2_endByTheBell_60 a1 ((w_X3_beginFrom (l_X2_endByTheBell_2 a1 (M, 0) (Int32.toNatClampNeg (M.1 100 2))).1 1030 1000), 0) k)) 2001)).1.1 100 2))).1.1 1033 (Int32.toNatClampNeg a1)) = 0 from c114)] at hp
          refine absurd (ci_X2_endByTheBell_60.mpr ?_) hx_60_4
          simp only [if_pos (show ((l_X2_endByTheBell_2 a1 (M, 0) (Int32.toNatClampNeg (M.1 100 2))).1.1 100 2) ≤ ((l_X2_endByTheBell_2 a1 (M, 0) (Int32.toNatClampNeg (M.1 100 2))).2) from c10), if_neg (show ¬ ((2000 : Int32) ≤ ((l_X2_endByTheBell_60 a1 ((w_X3_beginFrom (l_X2_endByTheBell_2 a1 (M, 0) (Int32.toNatClampNeg (M.1 100 2))).1 1030 1000), 0) (cntN (fun k => c_X2_endByTheBell_60 a1 (l_X2_endByTheBell_60 a1 ((w_X3_beginFrom (l_X2_endByTheBell_2 a1 (M, 0) (Int32.toNatClampNeg (M.1 100 2))).1 1030 1000), 0) k)) 2001)).2)) from c64), if_pos (show ((l_X2_endByTheBell_70 a1 ((l_X2_endByTheBell_60 a1 ((w_X3_beginFrom (l_X2_endByTheBell_2 a1 (M, 0) (Int32.toNatClampNeg (M.1 100 2))).1 1030 1000), 0) (cntN (fun k => c_X2_endByTheBell_60 a1 (l_X2_endByTheBell_60 a1 ((w_X3_beginFrom (l_X2_endByTheBell_2 a1 (M, 0) (Int32.toNatClampNeg (M.1 100 2))).1 1030 1000), 0) k)) 2001)).2) ((l_X2_endByTheBell_60 a1 ((w_X3_beginFrom (l_X2_endByTheBell_2 a1 (M, 0) (Int32.toNatClampNeg (M.1 100 2))).1 1030 1000), 0) (cntN (fun k => c_X2_endByTheBell_60 a1 (l_X2_endByTheBell_60 a1 ((w_X3_beginFrom (l_X2_endByTheBell_2 a1 (M, 0) (Int32.toNatClampNeg (M.1 100 2))).1 1030 1000), 0) k)) 2001)).1, 0) (Int32.toNatClampNeg ((l_X2_endByTheBell_60 a1 ((w_X3_beginFrom (l_X2_endByTheBell_2 a1 (M, 0) (Int32.toNatClampNeg (M.1 100 2))).1 1030 1000), 0) (cntN (fun k => c_X2_endByTheBell_60 a1 (l_X2_endByTheBell_60 a1 ((w_X3_beginFrom (l_X2_endByTheBell_2 a1 (M, 0) (Int32.toNatClampNeg (M.1 100 2))).1 1030 1000), 0) k)) 2001)).1.1 100 2))).1.1 100 2) ≤ ((l_X2_endByTheBell_70 a1 ((l_X2_endByTheBell_60 a1 ((w_X3_beginFrom (l_X2_endByTheBell_2 a1 (M, 0) (Int32.toNatClampNeg (M.1 100 2))).1 1030 1000), 0) (cntN (fun k => c_X2_endByTheBell_60 a1 (l_X2_endByTheBell_60 a1 ((w_X3_beginFrom (l_X2_endByTheBell_2 a1 (M, 0) (Int32.toNatClampNeg (M.1 100 2))).1 1030 1000), 0) k)) 2001)).2) ((l_X2_endByTheBell_60 a1 ((w_X3_beginFrom (l_X2_endByTheBell_2 a1 (M, 0) (Int32.toNatClampNeg (M.1 100 2))).1 1030 1000), 0) (cntN (fun k => c_X2_endByTheBell_60 a1 (l_X2_endByTheBell_60 a1 ((w_X3_beginFrom (l_X2_endByTheBell_2 a1 (M, 0) (Int32.toNatClampNeg (M.1 100 2))).1 1030 1000), 0) k)) 2001)).1, 0) (Int32.toNatClampNeg ((l_X2_endByTheBell_60 a1 ((w_X3_beginFrom (l_X2_endByTheBell_2 a1 (M, 0) (Int32.toNatClampNeg (M.1 100 2))).1 1030 1000), 0) (cntN (fun k => c_X2_endByTheBell_60 a1 (l_X2_endByTheBell_60 a1 ((w_X3_beginFrom (l_X2_endByTheBell_2 a1 (M, 0) (Int32.toNatClampNeg (M.1 100 2))).1 1030 1000), 0) k)) 2001)).1.1 100 2))).2) from c79), if_pos (show ((l_X2_endByTheBell_70 a1 ((l_X2_endByTheBell_60 a1 ((w_X3_beginFrom (l_X2_endByTheBell_2 a1 (M, 0) (Int32.toNatClampNeg (M.1 100 2))).1 1030 1000), 0) (cntN (fun k => c_X2_endByTheBell_60 a1 (l_X2_endByTheBell_60 a1 ((w_X3_beginFrom (l_X2_endByTheBell_2 a1 (M, 0) (Int32.toNatClampNeg (M.1 100 2))).1 1030 1000), 0) k)) 2001)).2) ((l_X2_endByTheBell_60 a1 ((w_X3_beginFrom (l_X2_endByTheBell_2 a1 (M, 0) (Int32.toNatClampNeg (M.1 100 2))).1 1030 1000), 0) (cntN (fun k => c_X2_endByTheBell_60 a1 (l_X2_endByTheBell_60 a1 ((w_X3_beginFrom (l_X2_endByTheBell_2 a1 (M, 0) (Int32.toNatClampNeg (M.1 100 2))).1 1030 1000), 0) k)) 2001)).1, 0) (Int32.toNatClampNeg ((l_X2_endByTheBell_60 a1 ((w_X3_beginFrom (l_X2_endByTheBell_2 a1 (M, 0) (Int32.toNatClampNeg (M.1 100 2))).1 1030 1000), 0) (cntN (fun k => c_X2_endByTheBell_60 a1 (l_X2_endByTheBell_60 a1 ((w_X3_beginFrom (l_X2_endByTheBell_2 a1 (M, 0) (Int32.toNatClampNeg (M.1 100 2))).1 1030 1000), 0) k)) 2001)).1.1 100 2))).1.1 1033 (Int32.toNatClampNeg a1)) = 0 from c114)]
        · rw [if_neg (show ¬ (((l_X2_endByTheBell_70 a1 ((l_X2_endByTheBell_60 a1 ((w_X3_beginFrom (l_X2_endByTheBell_2 a1 (M, 0) (Int32.toNatClampNeg (M.1 100 2))).1 1030 1000), 0) (cntN (fun k => c_X2_endByTheBell_60 a1 (l_X2_endByTheBell_60 a1 ((w_X3_beginFrom (l_X2_endByTheBell_2 a1 (M, 0) (Int32.toNatClampNeg (M.1 100 2))).1 1030 1000), 0) k)) 2001)).2) ((l_X2_endByTheBell_60 a1 ((w_X3_beginFrom (l_X2_endByTheBell_2 a1 (M, 0) (Int32.toNatClampNeg (M.1 100 2))).1 1030 1000), 0) (cntN (fun k => c_X2_endByTheBell_60 a1 (l_X2_endByTheBell_60 a1 ((w_X3_beginFrom (l_X2_endByTheBell_2 a1 (M, 0) (Int32.toNatClampNeg (M.1 100 2))).1 1030 1000), 0) k)) 2001)).1, 0) (Int32.toNatClampNeg ((l_X2_endByTheBell_60 a1 ((w_X3_beginFrom (l_X2_endByTheBell_2 a1 (M, 0) (Int32.toNatClampNeg (M.1 100 2))).1 1030 1000), 0) (cntN (fun k => c_X2_endByTheBell_60 a1 (l_X2_endByTheBell_60 a1 ((w_X3_beginFrom (l_X2_endByTheBell_2 a1 (M, 0) (Int32.toNatClampNeg (M.1 100 2))).1 1030 1000), 0) k)) 2001)).1.1 100 2))).1.1 1033 (Int32.toNatClampNeg a1)) = 0) from c114)] at hp
          refine j_aload_n g (i := 2) (by decide +kernel) rfl ?_
          refine j_gA g (b := 1034) f2_156 (by decide +kernel) (by decide +kernel) (by decide +kernel) (by decide +kernel) ?_
          refine j_iload_n g (i := 1) (by decide +kernel) rfl ?_
          obtain ⟨h0, hp⟩ := hp
          refine j_ia g 6 (by decide +kernel) (by decide +kernel) (by decide +kernel) h0 ?_
          refine hr.1 _ _ _ _ (by decide +kernel) ⟨_, rfl, by first | rfl | exact b2i_nar | decide +kernel⟩ ?_ ?_
          · unfold r_X2_endByTheBell; first | (simp only [if_pos (show ((l_X2_endByTheBell_2 a1 (M, 0) (Int32.toNatClampNeg (M.1 100 2))).1.1 100 2) ≤ ((l_X2_endByTheBell_2 a1 (M, 0) (Int32.toNatClampNeg (M.1 100 2))).2) from c10), if_neg (show ¬ ((2000 : Int32) ≤ ((l_X2_endByTheBell_60 a1 ((w_X3_beginFrom (l_X2_endByTheBell_2 a1 (M, 0) (Int32.toNatClampNeg (M.1 100 2))).1 1030 1000), 0) (cntN (fun k => c_X2_endByTheBell_60 a1 (l_X2_endByTheBell_60 a1 ((w_X3_beginFrom (l_X2_endByTheBell_2 a1 (M, 0) (Int32.toNatClampNeg (M.1 100 2))).1 1030 1000), 0) k)) 2001)).2)) from c64), if_pos (show ((l_X2_endByTheBell_70 a1 ((l_X2_endByTheBell_60 a1 ((w_X3_beginFrom (l_X2_endByTheBell_2 a1 (M, 0) (Int32.toNatClampNeg (M.1 100 2))).1 1030 1000), 0) (cntN (fun k => c_X2_endByTheBell_60 a1 (l_X2_endByTheBell_60 a1 ((w_X3_beginFrom (l_X2_endByTheBell_2 a1 (M, 0) (Int32.toNatClampNeg (M.1 100 2))).1 1030 1000), 0) k)) 2001)).2) ((l_X2_endByTheBell_60 a1 ((w_X3_beginFrom (l_X2_endByTheBell_2 a1 (M, 0) (Int32.toNatClampNeg (M.1 100 2))).1 1030 1000), 0) (cntN (fun k => c_X2_endByTheBell_60 a1 (l_X2_endByTheBell_60 a1 ((w_X3_beginFrom (l_X2_endByTheBell_2 a1 (M, 0) (Int32.toNatClampNeg (M.1 100 2))).1 1030 1000), 0) k)) 2001)).1, 0) (Int32.toNatClampNeg ((l_X2_endByTheBell_60 a1 ((w_X3_beginFrom (l_X2_endByTheBell_2 a1 (M, 0) (Int32.toNatClampNeg (M.1 100 2))).1 1030 1000), 0) (cntN (fun k => c_X2_endByTheBell_60 a1 (l_X2_endByTheBell_60 a1 ((w_X3_beginFrom (l_X2_endByTheBell_2 a1 (M, 0) (Int32.toNatClampNeg (M.1 100 2))).1 1030 1000), 0) k)) 2001)).1.1 100 2))).1.1 100 2) ≤ ((l_X2_endByTheBell_70 a1 ((l_X2_endByTheBell_60 a1 ((w_X3_beginFrom (l_X2_endByTheBell_2 a1 (M, 0) (Int32.toNatClampNeg (M.1 100 2))).1 1030 1000), 0) (cntN (fun k => c_X2_endByTheBell_60 a1 (l_X2_endByTheBell_60 a1 ((w_X3_beginFrom (l_X2_endByTheBell_2 a1 (M, 0) (Int32.toNatClampNeg (M.1 100 2))).1 1030 1000), 0) k)) 2001)).2) ((l_X2_endByTheBell_60 a1 ((w_X3_beginFrom (l_X2_endByTheBell_2 a1 (M, 0) (Int32.toNatClampNeg (M.1 100 2))).1 1030 1000), 0) (cntN (fun k => c_X2_endByTheBell_60 a1 (l_X2_endByTheBell_60 a1 ((w_X3_beginFrom (l_X2_endByTheBell_2 a1 (M, 0) (Int32.toNatClampNeg (M.1 100 2))).1 1030 1000), 0) k)) 2001)).1, 0) (Int32.toNatClampNeg ((l_X2_endByTheBell_60 a1 ((w_X3_beginFrom (l_X2_endByTheBell_2 a1 (M, 0) (Int32.toNatClampNeg (M.1 100 2))).1 1030 1000), 0) (cntN (fun k => c_X2_endByTheBell_60 a1 (l_X2_endByTheBell_60 a1 ((w_X3_beginFrom (l_X2_endByTheBell_2 a1 (M, 0) (Int32.toNatClampNeg (M.1 100 2))).1 1030 1000), 0) k)) 2001)).1.1 100 2))).2) from c79), if_neg (show ¬ (((l_X2_endByTheBell_70 a1 ((l_X2_endByTheBell_60 a1 ((w_X3_beginFrom (l_X2_endByTheBell_2 a1 (M, 0) (Int32.toNatClampNeg (M.1 100 2))).1 1030 1000), 0) (cntN (fun k => c_X2_endByTheBell_60 a1 (l_X2_endByTheBell_60 a1 ((w_X3_beginFrom (l_X2_endByTheBell_2 a1 (M, 0) (Int32.toNatClampNeg (M.1 100 2))).1 1030 1000), 0) k)) 2001)).2) ((l_X2_endByTheBell_60 a1 ((w_X3_beginFrom (l_X2_endByTheBell_2 a1 (M, 0) (Int32.toNatClampNeg (M.1 100 2))).1 1030 1000), 0) (cntN (fun k => c_X2_endByTheBell_60 a1 (l_X2_endByTheBell_60 a1 ((w_X3_beginFrom (l_X2_endByTheBell_2 a1 (M, 0) (Int32.toNatClampNeg (M.1 100 2))).1 1030 1000), 0) k)) 2001)).1, 0) (Int32.toNatClampNeg ((l_X2_endByTheBell_60 a1 ((w_X3_beginFrom (l_X2_endByTheBell_2 a1 (M, 0) (Int32.toNatClampNeg (M.1 100 2))).1 1030 1000), 0) (cntN (fun k => c_X2_endByTheBell_60 a1 (l_X2_endByTheBell_60 a1 ((w_X3_beginFrom (l_X2_endByTheBell_2 a1 (M, 0) (Int32.toNatClampNeg (M.1 100 2))).1 1030 1000), 0) k)) 2001)).1.1 100 2))).1.1 1033 (Int32.toNatClampNeg a1)) = 0) from c114)]; done) | (simp only [if_pos (show ((l_X2_endByTheBell_2 a1 (M, 0) (Int32.toNatClampNeg (M.1 100 2))).1.1 100 2) ≤ ((l_X2_endByTheBell_2 a1 (M, 0) (Int32.toNatClampNeg (M.1 100 2))).2) from c10), if_neg (show ¬ ((2000 : Int32) ≤ ((l_X2_endByTheBell_60 a1 ((w_X3_beginFrom (l_X2_endByTheBell_2 a1 (M, 0) (Int32.toNatClampNeg (M.1 100 2))).1 1030 1000), 0) (cntN (fun k => c_X2_endByTheBell_60 a1 (l_X2_endByTheBell_60 a1 ((w_X3_beginFrom (l_X2_endByTheBell_2 a1 (M, 0) (Int32.toNatClampNeg (M.1 100 2))).1 1030 1000), 0) k)) 2001)).2)) from c64), if_pos (show ((l_X2_endByTheBell_70 a1 ((l_X2_endByTheBell_60 a1 ((w_X3_beginFrom (l_X2_endByTheBell_2 a1 (M, 0) (Int32.toNatClampNeg (M.1 100 2))).1 1030 1000), 0) (cntN (fun k => c_X2_endByTheBell_60 a1 (l_X2_endByTheBell_60 a1 ((w_X3_beginFrom (l_X2_endByTheBell_2 a1 (M, 0) (Int32.toNatClampNeg (M.1 100 2))).1 1030 1000), 0) k)) 2001)).2) ((l_X2_endByTheBell_60 a1 ((w_X3_beginFrom (l_X2_endByTheBell_2 a1 (M, 0) (Int32.toNatClampNeg (M.1 100 2))).1 1030 1000), 0) (cntN (fun k => c_X2_endByTheBell_60 a1 (l_X2_endByTheBell_60 a1 ((w_X3_beginFrom (l_X2_endByTheBell_2 a1 (M, 0) (Int32.toNatClampNeg (M.1 100 2))).1 1030 1000), 0) k)) 2001)).1, 0) (Int32.toNatClampNeg ((l_X2_endByTheBell_60 a1 ((w_X3_beginFrom (l_X2_endByTheBell_2 a1 (M, 0) (Int32.toNatClampNeg (M.1 100 2))).1 1030 1000), 0) (cntN (fun k => c_X2_endByTheBell_60 a1 (l_X2_endByTheBell_60 a1 ((w_X3_beginFrom (l_X2_endByTheBell_2 a1 (M, 0) (Int32.toNatClampNeg (M.1 100 2))).1 1030 1000), 0) k)) 2001)).1.1 100 2))).1.1 100 2) ≤ ((l_X2_endByTheBell_70 a1 ((l_X2_endByTheBell_60 a1 ((w_X3_beginFrom (l_X2_endByTheBell_2 a1 (M, 0) (Int32.toNatClampNeg (M.1 100 2))).1 1030 1000), 0) (cntN (fun k => c_X2_endByTheBell_60 a1 (l_X2_endByTheBell_60 a1 ((w_X3_beginFrom (l_X2_endByTheBell_2 a1 (M, 0) (Int32.toNatClampNeg (M.1 100 2))).1 1030 1000), 0) k)) 2001)).2) ((l_X2_endByTheBell_60 a1 ((w_X3_beginFrom (l_X2_endByTheBell_2 a1 (M, 0) (Int32.toNatClampNeg (M.1 100 2))).1 1030 1000), 0) (cntN (fun k => c_X2_endByTheBell_60 a1 (l_X2_endByTheBell_60 a1 ((w_X3_beginFrom (l_X2_endByTheBell_2 a1 (M, 0) (Int32.toNatClampNeg (M.1 100 2))).1 1030 1000), 0) k)) 2001)).1, 0) (Int32.toNatClampNeg ((l_X2_endByTheBell_60 a1 ((w_X3_beginFrom (l_X2_endByTheBell_2 a1 (M, 0) (Int32.toNatClampNeg (M.1 100 2))).1 1030 1000), 0) (cntN (fun k => c_X2_endByTheBell_60 a1 (l_X2_endByTheBell_60 a1 ((w_X3_beginFrom (l_X2_endByTheBell_2 a1 (M, 0) (Int32.toNatClampNeg (M.1 100 2))).1 1030 1000), 0) k)) 2001)).1.1 100 2))).2) from c79), if_neg (show ¬ (((l_X2_endByTheBell_70 a1 ((l_X2_endByTheBell_60 a1 ((w_X3_beginFrom (l_X2_endByTheBell_2 a1 (M, 0) (Int32.toNatClampNeg (M.1 100 2))).1 1030 1000), 0) (cntN (fun k => c_X2_endByTheBell_60 a1 (l_X2_endByTheBell_60 a1 ((w_X3_beginFrom (l_X2_endByTheBell_2 a1 (M, 0) (Int32.toNatClampNeg (M.1 100 2))).1 1030 1000), 0) k)) 2001)).2) ((l_X2_endByTheBell_60 a1 ((w_X3_beginFrom (l_X2_endByTheBell_2 a1 (M, 0) (Int32.toNatClampNeg (M.1 100 2))).1 1030 1000), 0) (cntN (fun k => c_X2_endByTheBell_60 a1 (l_X2_endByTheBell_60 a1 ((w_X3_beginFrom (l_X2_endByTheBell_2 a1 (M, 0) (Int32.toNatClampNeg (M.1 100 2))).1 1030 1000), 0) k)) 2001)).1, 0) (Int32.toNatClampNeg ((l_X2_endByTheBell_60 a1 ((w_X3_beginFrom (l_X2_endByTheBell_2 a1 (M, 0) (Int32.toNatClampNeg (M.1 100 2))).1 1030 1000), 0) (cntN (fun k => c_X2_endByTheBell_60 a1 (l_X2_endByTheBell_60 a1 ((w_X3_beginFrom (l_X2_endByTheBell_2 a1 (M, 0) (Int32.toNatClampNeg (M.1 100 2))).1 1030 1000), 0) k)) 2001)).1.1 100 2))).1.1 1033 (Int32.toNatClampNeg a1)) = 0) from c114)]; rfl) | rfl
          · unfold w_X2_endByTheBell; first | (simp only [if_pos (show ((l_X2_endByTheBell_2 a1 (M, 0) (Int32.toNatClampNeg (M.1 100 2))).1.1 100 2) ≤ ((l_X2_endByTheBell_2 a1 (M, 0) (Int32.toNatClampNeg (M.1 100 2))).2) from c10), if_neg (show ¬ ((2000 : Int32) ≤ ((l_X2_endByTheBell_60 a1 ((w_X3_beginFrom (l_X2_endByTheBell_2 a1 (M, 0) (Int32.toNatClampNeg (M.1 100 2))).1 1030 1000), 0) (cntN (fun k => c_X2_endByTheBell_60 a1 (l_X2_endByTheBell_60 a1 ((w_X3_beginFrom (l_X2_endByTheBell_2 a1 (M, 0) (Int32.toNatClampNeg (M.1 100 2))).1 1030 1000), 0) k)) 2001)).2)) from c64), if_pos (show ((l_X2_endByTheBell_70 a1 ((l_X2_endByTheBell_60 a1 ((w_X3_beginFrom (l_X2_endByTheBell_2 a1 (M, 0) (Int32.toNatClampNeg (M.1 100 2))).1 1030 1000), 0) (cntN (fun k => c_X2_endByTheBell_60 a1 (l_X2_endByTheBell_60 a1 ((w_X3_beginFrom (l_X2_endByTheBell_2 a1 (M, 0) (Int32.toNatClampNeg (M.1 100 2))).1 1030 1000), 0) k)) 2001)).2) ((l_X2_endByTheBell_60 a1 ((w_X3_beginFrom (l_X2_endByTheBell_2 a1 (M, 0) (Int32.toNatClampNeg (M.1 100 2))).1 1030 1000), 0) (cntN (fun k => c_X2_endByTheBell_60 a1 (l_X2_endByTheBell_60 a1 ((w_X3_beginFrom (l_X2_endByTheBell_2 a1 (M, 0) (Int32.toNatClampNeg (M.1 100 2))).1 1030 1000), 0) k)) 2001)).1, 0) (Int32.toNatClampNeg ((l_X2_endByTheBell_60 a1 ((w_X3_beginFrom (l_X2_endByTheBell_2 a1 (M, 0) (Int32.toNatClampNeg (M.1 100 2))).1 1030 1000), 0) (cntN (fun k => c_X2_endByTheBell_60 a1 (l_X2_endByTheBell_60 a1 ((w_X3_beginFrom (l_X2_endByTheBell_2 a1 (M, 0) (Int32.toNatClampNeg (M.1 100 2))).1 1030 1000), 0) k)) 2001)).1.1 100 2))).1.1 100 2) ≤ ((l_X2_endByTheBell_70 a1 ((l_X2_endByTheBell_60 a1 ((w_X3_beginFrom (l_X2_endByTheBell_2 a1 (M, 0) (Int32.toNatClampNeg (M.1 100 2))).1 1030 1000), 0) (cntN (fun k => c_X2_endByTheBell_60 a1 (l_X2_endByTheBell_60 a1 ((w_X3_beginFrom (l_X2_endByTheBell_2 a1 (M, 0) (Int32.toNatClampNeg (M.1 100 2))).1 1030 1000), 0) k)) 2001)).2) ((l_X2_endByTheBell_60 a1 ((w_X3_beginFrom (l_X2_endByTheBell_2 a1 (M, 0) (Int32.toNatClampNeg (M.1 100 2))).1 1030 1000), 0) (cntN (fun k => c_X2_endByTheBell_60 a1 (l_X2_endByTheBell_60 a1 ((w_X3_beginFrom (l_X2_endByTheBell_2 a1 (M, 0) (Int32.toNatClampNeg (M.1 100 2))).1 1030 1000), 0) k)) 2001)).1, 0) (Int32.toNatClampNeg ((l_X2_endByTheBell_60 a1 ((w_X3_beginFrom (l_X2_endByTheBell_2 a1 (M, 0) (Int32.toNatClampNeg (M.1 100 2))).1 1030 1000), 0) (cntN (fun k => c_X2_endByTheBell_60 a1 (l_X2_endByTheBell_60 a1 ((w_X3_beginFrom (l_X2_endByTheBell_2 a1 (M, 0) (Int32.toNatClampNeg (M.1 100 2))).1 1030 1000), 0) k)) 2001)).1.1 100 2))).2) from c79), if_neg (show ¬ (((l_X2_endByTheBell_70 a1 ((l_X2_endByTheBell_60 a1 ((w_X3_beginFrom (l_X2_endByTheBell_2 a1 (M, 0) (Int32.toNatClampNeg (M.1 100 2))).1 1030 1000), 0) (cntN (fun k => c_X2_endByTheBell_60 a1 (l_X2_endByTheBell_60 a1 ((w_X3_beginFrom (l_X2_endByTheBell_2 a1 (M, 0) (Int32.toNatClampNeg (M.1 100 2))).1 1030 1000), 0) k)) 2001)).2) ((l_X2_endByTheBell_60 a1 ((w_X3_beginFrom (l_X2_endByTheBell_2 a1 (M, 0) (Int32.toNatClampNeg (M.1 100 2))).1 1030 1000), 0) (cntN (fun k => c_X2_endByTheBell_60 a1 (l_X2_endByTheBell_60 a1 ((w_X3_beginFrom (l_X2_endByTheBell_2 a1 (M, 0) (Int32.toNatClampNeg (M.1 100 2))).1 1030 1000), 0) k)) 2001)).1, 0) (Int32.toNatClampNeg ((l_X2_endByTheBell_60 a1 ((w_X3_beginFrom (l_X2_endByTheBell_2 a1 (M, 0) (Int32.toNatClampNeg (M.1 100 2))).1 1030 1000), 0) (cntN (fun k => c_X2_endByTheBell_60 a1 (l_X2_endByTheBell_60 a1 ((w_X3_beginFrom (l_X2_endByTheBell_2 a1 (M, 0) (Int32.toNatClampNeg (M.1 100 2))).1 1030 1000), 0) k)) 2001)).1.1 100 2))).1.1 1033 (Int32.toNatClampNeg a1)) = 0) from c114)]; done) | (simp only [if_pos (show ((l_X2_endByTheBell_2 a1 (M, 0) (Int32.toNatClampNeg (M.1 100 2))).1.1 100 2) ≤ ((l_X2_endByTheBell_2 a1 (M, 0) (Int32.toNatClampNeg (M.1 100 2))).2) from c10), if_neg (show ¬ ((2000 : Int32) ≤ ((l_X2_endByTheBell_60 a1 ((w_X3_beginFrom (l_X2_endByTheBell_2 a1 (M, 0) (Int32.toNatClampNeg (M.1 100 2))).1 1030 1000), 0) (cntN (fun k => c_X2_endByTheBell_60 a1 (l_X2_endByTheBell_60 a1 ((w_X3_beginFrom (l_X2_endByTheBell_2 a1 (M, 0) (Int32.toNatClampNeg (M.1 100 2))).1 1030 1000), 0) k)) 2001)).2)) from c64), if_pos (show ((l_X2_endByTheBell_70 a1 ((l_X2_endByTheBell_60 a1 ((w_X3_beginFrom (l_X2_endByTheBell_2 a1 (M, 0) (Int32.toNatClampNeg (M.1 100 2))).1 1030 1000), 0) (cntN (fun k => c_X2_endByTheBell_60 a1 (l_X2_endByTheBell_60 a1 ((w_X3_beginFrom (l_X2_endByTheBell_2 a1 (M, 0) (Int32.toNatClampNeg (M.1 100 2))).1 1030 1000), 0) k)) 2001)).2) ((l_X2_endByTheBell_60 a1 ((w_X3_beginFrom (l_X2_endByTheBell_2 a1 (M, 0) (Int32.toNatClampNeg (M.1 100 2))).1 1030 1000), 0) (cntN (fun k => c_X2_endByTheBell_60 a1 (l_X2_endByTheBell_60 a1 ((w_X3_beginFrom (l_X2_endByTheBell_2 a1 (M, 0) (Int32.toNatClampNeg (M.1 100 2))).1 1030 1000), 0) k)) 2001)).1, 0) (Int32.toNatClampNeg ((l_X2_endByTheBell_60 a1 ((w_X3_beginFrom (l_X2_endByTheBell_2 a1 (M, 0) (Int32.toNatClampNeg (M.1 100 2))).1 1030 1000), 0) (cntN (fun k => c_X2_endByTheBell_60 a1 (l_X2_endByTheBell_60 a1 ((w_X3_beginFrom (l_X2_endByTheBell_2 a1 (M, 0) (Int32.toNatClampNeg (M.1 100 2))).1 1030 1000), 0) k)) 2001)).1.1 100 2))).1.1 100 2) ≤ ((l_X2_endByTheBell_70 a1 ((l_X2_endByTheBell_60 a1 ((w_X3_beginFrom (l_X2_endByTheBell_2 a1 (M, 0) (Int32.toNatClampNeg (M.1 100 2))).1 1030 1000), 0) (cntN (fun k => c_X2_endByTheBell_60 a1 (l_X2_endByTheBell_60 a1 ((w_X3_beginFrom (l_X2_endByTheBell_2 a1 (M, 0) (Int32.toNatClampNeg (M.1 100 2))).1 1030 1000), 0) k)) 2001)).2) ((l_X2_endByTheBell_60 a1 ((w_X3_beginFrom (l_X2_endByTheBell_2 a1 (M, 0) (Int32.toNatClampNeg (M.1 100 2))).1 1030 1000), 0) (cntN (fun k => c_X2_endByTheBell_60 a1 (l_X2_endByTheBell_60 a1 ((w_X3_beginFrom (l_X2_endByTheBell_2 a1 (M, 0) (Int32.toNatClampNeg (M.1 100 2))).1 1030 1000), 0) k)) 2001)).1, 0) (Int32.toNatClampNeg ((l_X2_endByTheBell_60 a1 ((w_X3_beginFrom (l_X2_endByTheBell_2 a1 (M, 0) (Int32.toNatClampNeg (M.1 100 2))).1 1030 1000), 0) (cntN (fun k => c_X2_endByTheBell_60 a1 (l_X2_endByTheBell_60 a1 ((w_X3_beginFrom (l_X2_endByTheBell_2 a1 (M, 0) (Int32.toNatClampNeg (M.1 100 2))).1 1030 1000), 0) k)) 2001)).1.1 100 2))).2) from c79), if_neg (show ¬ (((l_X2_endByTheBell_70 a1 ((l_X2_endByTheBell_60 a1 ((w_X3_beginFrom (l_X2_endByTheBell_2 a1 (M, 0) (Int32.toNatClampNeg (M.1 100 2))).1 1030 1000), 0) (cntN (fun k => c_X2_endByTheBell_60 a1 (l_X2_endByTheBell_60 a1 ((w_X3_beginFrom (l_X2_endByTheBell_2 a1 (M, 0) (Int32.toNatClampNeg (M.1 100 2))).1 1030 1000), 0) k)) 2001)).2) ((l_X2_endByTheBell_60 a1 ((w_X3_beginFrom (l_X2_endByTheBell_2 a1 (M, 0) (Int32.toNatClampNeg (M.1 100 2))).1 1030 1000), 0) (cntN (fun k => c_X2_endByTheBell_60 a1 (l_X2_endByTheBell_60 a1 ((w_X3_beginFrom (l_X2_endByTheBell_2 a1 (M, 0) (Int32.toNatClampNeg (M.1 100 2))).1 1030 1000), 0) k)) 2001)).1, 0) (Int32.toNatClampNeg ((l_X2_endByTheBell_60 a1 ((w_X3_beginFrom (l_X2_endByTheBell_2 a1 (M, 0) (Int32.toNatClampNeg (M.1 100 2))).1 1030 1000), 0) (cntN (fun k => c_X2_endByTheBell_60 a1 (l_X2_endByTheBell_60 a1 ((w_X3_beginFrom (l_X2_endByTheBell_2 a1 (M, 0) (Int32.toNatClampNeg (M.1 100 2))).1 1030 1000), 0) k)) 2001)).1.1 100 2))).1.1 1033 (Int32.toNatClampNeg a1)) = 0) from c114)]; rfl) | rfl
      · rw [if_neg (show ¬ (((l_X2_endByTheBell_70 a1 ((l_X2_endByTheBell_60 a1 ((w_X3_beginFrom (l_X2_endByTheBell_2 a1 (M, 0) (Int32.toNatClampNeg (M.1 100 2))).1 1030 1000), 0) (cntN (fun k => c_X2_endByTheBell_60 a1 (l_X2_endByTheBell_60 a1 ((w_X3_beginFrom (l_X2_endByTheBell_2 a1 (M, 0) (Int32.toNatClampNeg (M.1 100 2))).1 1030 1000), 0) k)) 2001)).2) ((l_X2_endByTheBell_60 a1 ((w_X3_beginFrom (l_X2_endByTheBell_2 a1 (M, 0) (Int32.toNatClampNeg (M.1 100 2))).1 1030 1000), 0) (cntN (fun k => c_X2_endByTheBell_60 a1 (l_X2_endByTheBell_60 a1 ((w_X3_beginFrom (l_X2_endByTheBell_2 a1 (M, 0) (Int32.toNatClampNeg (M.1 100 2))).1 1030 1000), 0) k)) 2001)).1, 0) (Int32.toNatClampNeg ((l_X2_endByTheBell_60 a1 ((w_X3_beginFrom (l_X2_endByTheBell_2 a1 (M, 0) (Int32.toNatClampNeg (M.1 100 2))).1 1030 1000), 0) (cntN (fun k => c_X2_endByTheBell_60 a1 (l_X2_endByTheBell_60 a1 ((w_X3_beginFrom (l_X2_endByTheBell_2 a1 (M, 0) (Int32.toNatClampNeg (M.1 100 2))).1 1030 1000), 0) k)) 2001)).1.1 100 2))).1.1 100 2) ≤ ((l_X2_endByTheBell_70 a1 ((l_X2_endByTheBell_60 a1 ((w_X3_beginFrom (l_X2_endByTheBell_2 a1 (M, 0) (Int32.toNatClampNeg (M.1 100 2))).1 1030 1000), 0) (cntN (fun k => c_X2_endByTheBell_60 a1 (l_X2_endByTheBell_60 a1 ((w_X3_beginFrom (l_X2_endByTheBell_2 a1 (M, 0) (Int32.toNatClampNeg (M.1 100 2))).1 1030 1000), 0) k)) 2001)).2) ((l_X2_endByTheBell_60 a1 ((w_X3_beginFrom (l_X2_endByTheBell_2 a1 (M, 0) (Int32.toNatClampNeg (M.1 100 2))).1 1030 1000), 0) (cntN (fun k => c_X2_endByTheBell_60 a1 (l_X2_endByTheBell_60 a1 ((w_X3_beginFrom (l_X2_endByTheBell_2 a1 (M, 0) (Int32.toNatClampNeg (M.1 100 2))).1 1030 1000), 0) k)) 2001)).1, 0) (Int32.toNatClampNeg ((l_X2_endByTheBell_60 a1 ((w_X3_beginFrom (l_X2_endByTheBell_2 a1 (M, 0) (Int32.toNatClampNeg (M.1 100 2))).1 1030 1000), 0) (cntN (fun k => c_X2_endByTheBell_60 a1 (l_X2_endByTheBell_60 a1 ((w_X3_beginFrom (l_X2_endByTheBell_2 a1 (M, 0) (Int32.toNatClampNeg (M.1 100 2))).1 1030 1000), 0) k)) 2001)).1.1 100 2))).2)) from c79)] at hp
        refine absurd (ci_X2_endByTheBell_70.mpr ?_) hx_70_5
        simp only [if_pos (show ((l_X2_endByTheBell_2 a1 (M, 0) (Int32.toNatClampNeg (M.1 100 2))).1.1 100 2) ≤ ((l_X2_endByTheBell_2 a1 (M, 0) (Int32.toNatClampNeg (M.1 100 2))).2) from c10), if_neg (show ¬ ((2000 : Int32) ≤ ((l_X2_endByTheBell_60 a1 ((w_X3_beginFrom (l_X2_endByTheBell_2 a1 (M, 0) (Int32.toNatClampNeg (M.1 100 2))).1 1030 1000), 0) (cntN (fun k => c_X2_endByTheBell_60 a1 (l_X2_endByTheBell_60 a1 ((w_X3_beginFrom (l_X2_endByTheBell_2 a1 (M, 0) (Int32.toNatClampNeg (M.1 100 2))).1 1030 1000), 0) k)) 2001)).2)) from c64), if_neg (show ¬ (((l_X2_endByTheBell_70 a1 ((l_X2_endByTheBell_60 a1 ((w_X3_beginFrom (l_X2_endByTheBell_2 a1 (M, 0) (Int32.toNatClampNeg (M.1 100 2))).1 1030 1000), 0) (cntN (fun k => c_X2_endByTheBell_60 a1 (l_X2_endByTheBell_60 a1 ((w_X3_beginFrom (l_X2_endByTheBell_2 a1 (M, 0) (Int32.toNatClampNeg (M.1 100 2))).1 1030 1000), 0) k)) 2001)).2) ((l_X2_endByTheBell_60 a1 ((w_X3_beginFrom (l_X2_endByTheBell_2 a1 (M, 0) (Int32.toNatClampNeg (M.1 100 2))).1 1030 1000), 0) (cntN (fun k => c_X2_endByTheBell_60 a1 (l_X2_endByTheBell_60 a1 ((w_X3_beginFrom (l_X2_endByTheBell_2 a1 (M, 0) (Int32.toNatClampNeg (M.1 100 2))).1 1030 1000), 0) k)) 2001)).1, 0) (Int32.toNatClampNeg ((l_X2_endByTheBell_60 a1 ((w_X3_beginFrom (l_X2_endByTheBell_2 a1 (M, 0) (Int32.toNatClampNeg (M.1 100 2))).1 1030 1000), 0) (cntN (fun k => c_X2_endByTheBell_60 a1 (l_X2_endByTheBell_60 a1 ((w_X3_beginFrom (l_X2_endByTheBell_2 a1 (M, 0) (Int32.toNatClampNeg (M.1 100 2))).1 1030 1000), 0) k)) 2001)).1.1 100 2))).1.1 100 2) ≤ ((l_X2_endByTheBell_70 a1 ((l_X2_endByTheBell_60 a1 ((w_X3_beginFrom (l_X2_endByTheBell_2 a1 (M, 0) (Int32.toNatClampNeg (M.1 100 2))).1 1030 1000), 0) (cntN (fun k => c_X2_endByTheBell_60 a1 (l_X2_endByTheBell_60 a1 ((w_X3_beginFrom (l_X2_endByTheBell_2 a1 (M, 0) (Int32.toNatClampNeg (M.1 100 2))).1 1030 1000), 0) k)) 2001)).2) ((l_X2_endByTheBell_60 a1 ((w_X3_beginFrom (l_X2_endByTheBell_2 a1 (M, 0) (Int32.toNatClampNeg (M.1 100 2))).1 1030 1000), 0) (cntN (fun k => c_X2_endByTheBell_60 a1 (l_X2_endByTheBell_60 a1 ((w_X3_beginFrom (l_X2_endByTheBell_2 a1 (M, 0) (Int32.toNatClampNeg (M.1 100 2))).1 1030 1000), 0) k)) 2001)).1, 0) (Int32.toNatClampNeg ((l_X2_endByTheBell_60 a1 ((w_X3_beginFrom (l_X2_endByTheBell_2 a1 (M, 0) (Int32.toNatClampNeg (M.1 100 2))).1 1030 1000), 0) (cntN (fun k => c_X2_endByTheBell_60 a1 (l_X2_endByTheBell_60 a1 ((w_X3_beginFrom (l_X2_endByTheBell_2 a1 (M, 0) (Int32.toNatClampNeg (M.1 100 2))).1 1030 1000), 0) k)) 2001)).1.1 100 2))).2)) from c79)]
  · rw [if_neg (show ¬ (((l_X2_endByTheBell_2 a1 (M, 0) (Int32.toNatClampNeg (M.1 100 2))).1.1 100 2) ≤ ((l_X2_endByTheBell_2 a1 (M, 0) (Int32.toNatClampNeg (M.1 100 2))).2)) from c10)] at hp
    refine absurd (ci_X2_endByTheBell_2.mpr ?_) hx_2_1
    simp only [if_neg (show ¬ (((l_X2_endByTheBell_2 a1 (M, 0) (Int32.toNatClampNeg (M.1 100 2))).1.1 100 2) ≤ ((l_X2_endByTheBell_2 a1 (M, 0) (Int32.toNatClampNeg (M.1 100 2))).2)) from c10)]
def c_X2_writeBestRows_36 (x2 : Int32) (σ : Mm × Int32) : Prop := if x2 ≤ σ.2 then False else True
theorem ci_X2_writeBestRows_36  {x2 : Int32} {σ : Mm × Int32} : c_X2_writeBestRows_36 x2 σ ↔ (if x2 ≤ σ.2 then False else True) := Iff.rfl
noncomputable def s_X2_writeBestRows_36 (x2 : Int32) (σ : Mm × Int32) : Mm × Int32 := if x2 ≤ σ.2 then σ else ((wi (wi (wi (w_X5_carryOut σ.1 1030 (((σ.1.1 510 7) >>> (((3 : Int32) * σ.2) &&& 31)) &&& 7)) 550 (Int32.toNatClampNeg (σ.2 * 3)) (((σ.1.1 510 7) >>> (((3 : Int32) * σ.2) &&& 31)) &&& 7)) 550 (Int32.toNatClampNeg ((σ.2 * 3) + 1)) ((wi (w_X5_carryOut σ.1 1030 (((σ.1.1 510 7) >>> (((3 : Int32) * σ.2) &&& 31)) &&& 7)) 550 (Int32.toNatClampNeg (σ.2 * 3)) (((σ.1.1 510 7) >>> (((3 : Int32) * σ.2) &&& 31)) &&& 7)).1 1030 4)) 550 (Int32.toNatClampNeg ((σ.2 * 3) + 2)) (r_X5_carryOut σ.1 1030 (((σ.1.1 510 7) >>> (((3 : Int32) * σ.2) &&& 31)) &&& 7))), σ.2 + 1)
def q_X2_writeBestRows_36 (x2 : Int32) (σ : Mm × Int32) : Prop := (if x2 ≤ σ.2 then True else (p_X5_carryOut σ.1 1030 (((σ.1.1 510 7) >>> (((3 : Int32) * σ.2) &&& 31)) &&& 7)) ∧ (vp_in (σ.2 * 3) 18) ∧ (vp_in ((σ.2 * 3) + 1) 18) ∧ (vp_in ((σ.2 * 3) + 2) 18) ∧ True)
noncomputable def l_X2_writeBestRows_36 (x2 : Int32) (σ0 : Mm × Int32) : Nat → Mm × Int32 := itN (fun _ σ => s_X2_writeBestRows_36 x2 σ) σ0
theorem ps_X2_writeBestRows_36 {d : Nat} {J : Nat → Lc → List Value → Mm → Prop}  {x2 : Int32} {σ : Mm × Int32}  (g : Good mX2_writeBestRows.1 mX2_writeBestRows.2.2.1 mX2_writeBestRows.2.2.2.1 (d + 3) J) (hc : c_X2_writeBestRows_36 x2 σ) (hp : q_X2_writeBestRows_36 x2 σ) (k : ∀ (j5 j6 : Option Value), J 36 [some (.ref 510), some (.ref 550), some (.int x2), some (.ref 1030), some (.int ((s_X2_writeBestRows_36 x2 σ).2)), j5, j6] [] ((s_X2_writeBestRows_36 x2 σ).1)) : ∀ (j5 j6 : Option Value), J 36 [some (.ref 510), some (.ref 550), some (.int x2), some (.ref 1030), some (.int σ.2), j5, j6] [] σ.1 := by
  intro j5 j6
  unfold c_X2_writeBestRows_36 at hc
  unfold q_X2_writeBestRows_36 at hp
  unfold s_X2_writeBestRows_36 at k
  refine j_iload g (i := 4) (by decide +kernel) rfl ?_
  refine j_iload_n g (i := 2) (by decide +kernel) rfl ?_
  refine j_icmp_ge g (off := 65) (tgt := 104) (by decide +kernel) (by decide) (fun c39 => ?_) (fun c39 => ?_)
  · (try rw [if_pos (show x2 ≤ σ.2 from c39)] at hc); (rw [if_pos (show x2 ≤ σ.2 from c39)] at hp); (try simp only [if_pos (show x2 ≤ σ.2 from c39)] at k)
    exact hc.elim
  · (try rw [if_neg (show ¬ (x2 ≤ σ.2) from c39)] at hc); (rw [if_neg (show ¬ (x2 ≤ σ.2) from c39)] at hp); (try simp only [if_neg (show ¬ (x2 ≤ σ.2) from c39)] at k)
    refine j_aload_n g (i := 0) (by decide +kernel) rfl ?_
    refine j_gI g f2_42 (by decide +kernel) (by decide +kernel) (by decide +kernel) ?_
    refine j_iconst g (n := 3) (3) (by decide +kernel) rfl ?_
    refine j_iload g (i := 4) (by decide +kernel) rfl ?_
    refine j_imul g (by decide +kernel) ?_
    refine j_ishr g (by decide +kernel) ?_
    refine j_bipush g (n := 7) (7) (by decide +kernel) (by decide +kernel) ?_
    refine j_iand g (by decide +kernel) ?_
    refine j_istore g (i := 5) (by decide +kernel) (by decide) ?_
    dsimp only [stL, clL, hdL]
    refine j_aload_n g (i := 0) (by decide +kernel) rfl ?_
    refine j_gA g (b := 100) f2_12 (by decide +kernel) (by decide +kernel) (by decide +kernel) (by decide +kernel) ?_
    refine j_aload_n g (i := 3) (by decide +kernel) rfl ?_
    refine j_iload g (i := 5) (by decide +kernel) rfl ?_
    obtain ⟨h0, hp⟩ := hp
    refine j_cV2r g v2_98 ⟨rfl, by decide⟩ (by decide +kernel) (by decide +kernel) (Nat.le_of_ble_eq_true rfl) (rnX5_carryOut (by simp [isS]) h0) ?_
    refine j_istore g (i := 6) (by decide +kernel) (by decide) ?_
    dsimp only [stL, clL, hdL]
    refine j_aload_n g (i := 1) (by decide +kernel) rfl ?_
    refine j_iload g (i := 4) (by decide +kernel) rfl ?_
    refine j_iconst g (n := 3) (3) (by decide +kernel) rfl ?_
    refine j_imul g (by decide +kernel) ?_
    refine j_iload g (i := 5) (by decide +kernel) rfl ?_
    obtain ⟨h0, hp⟩ := hp
    refine j_is g 18 (by decide +kernel) (by decide +kernel) (by decide +kernel) h0 ?_
    refine j_aload_n g (i := 1) (by decide +kernel) rfl ?_
    refine j_iload g (i := 4) (by decide +kernel) rfl ?_
    refine j_iconst g (n := 3) (3) (by decide +kernel) rfl ?_
    refine j_imul g (by decide +kernel) ?_
    refine j_iconst g (n := 1) (1) (by decide +kernel) rfl ?_
    refine j_iadd g (by decide +kernel) ?_
    refine j_aload_n g (i := 3) (by decide +kernel) rfl ?_
    refine j_gI g f2_88 (by decide +kernel) (by decide +kernel) (by decide +kernel) ?_
    obtain ⟨h0, hp⟩ := hp
    refine j_is g 18 (by decide +kernel) (by decide +kernel) (by decide +kernel) h0 ?_
    refine j_aload_n g (i := 1) (by decide +kernel) rfl ?_
    refine j_iload g (i := 4) (by decide +kernel) rfl ?_
    refine j_iconst g (n := 3) (3) (by decide +kernel) rfl ?_
    refine j_imul g (by decide +kernel) ?_
    refine j_iconst g (n := 2) (2) (by decide +kernel) rfl ?_
    refine j_iadd g (by decide +kernel) ?_
    refine j_iload g (i := 6) (by decide +kernel) rfl ?_
    obtain ⟨h0, hp⟩ := hp
    refine j_is g 18 (by decide +kernel) (by decide +kernel) (by decide +kernel) h0 ?_
    refine j_iinc g (i := 4) (n := 1) (1) (by decide +kernel) rfl (by decide) rfl ?_
    dsimp only [stL, clL, hdL]
    refine j_goto g (off := -65) (tgt := 36) (by decide +kernel) (by decide) ?_
    exact k _ _
theorem sh_X2_writeBestRows_36 {d : Nat} {J : Nat → Lc → List Value → Mm → Prop}  {x2 : Int32} {σ0 : Mm × Int32}  (g : Good mX2_writeBestRows.1 mX2_writeBestRows.2.2.1 mX2_writeBestRows.2.2.2.1 (d + 3) J) : ∀ (N : Nat), (∀ k, k < N → c_X2_writeBestRows_36 x2 (l_X2_writeBestRows_36 x2 σ0 k)) → (∀ k, k < N → q_X2_writeBestRows_36 x2 (l_X2_writeBestRows_36 x2 σ0 k)) → (∀ (j5 j6 : Option Value), J 36 [some (.ref 510), some (.ref 550), some (.int x2), some (.ref 1030), some (.int ((l_X2_writeBestRows_36 x2 σ0 N).2)), j5, j6] [] ((l_X2_writeBestRows_36 x2 σ0 N).1)) → ∀ (j5 j6 : Option Value), J 36 [some (.ref 510), some (.ref 550), some (.int x2), some (.ref 1030), some (.int σ0.2), j5, j6] [] σ0.1
  | 0, _, _, k => k
  | N + 1, hc, hp, k => sh_X2_writeBestRows_36  g N (fun i hi => hc i (Nat.lt_succ_of_lt hi)) (fun i hi => hp i (Nat.lt_succ_of_lt hi)) (ps_X2_writeBestRows_36  g (hc N (Nat.lt_succ_self N)) (hp N (Nat.lt_succ_self N)) k)
noncomputable def r_X2_writeBestRows (M : Mm)  : Int32 := if (r_X5_openOnes M 1000) ≤ ((l_X2_writeBestRows_36 (r_X5_openOnes M 1000) ((w_X3_beginFrom M 1030 1000), 0) (Int32.toNatClampNeg ((r_X5_openOnes M 1000)))).2) then r_X5_openOnes M 1000 else 0
noncomputable def w_X2_writeBestRows (M : Mm)  : Mm := if (r_X5_openOnes M 1000) ≤ ((l_X2_writeBestRows_36 (r_X5_openOnes M 1000) ((w_X3_beginFrom M 1030 1000), 0) (Int32.toNatClampNeg ((r_X5_openOnes M 1000)))).2) then (l_X2_writeBestRows_36 (r_X5_openOnes M 1000) ((w_X3_beginFrom M 1030 1000), 0) (Int32.toNatClampNeg ((r_X5_openOnes M 1000)))).1 else M
def p_X2_writeBestRows (M : Mm)  : Prop := (p_X5_openOnes M 1000) ∧ (∀ k, k < (Int32.toNatClampNeg ((r_X5_openOnes M 1000))) → c_X2_writeBestRows_36 (r_X5_openOnes M 1000) (l_X2_writeBestRows_36 (r_X5_openOnes M 1000) ((w_X3_beginFrom M 1030 1000), 0) k)) ∧ (∀ k, k < (Int32.toNatClampNeg ((r_X5_openOnes M 1000))) → q_X2_writeBestRows_36 (r_X5_openOnes M 1000) (l_X2_writeBestRows_36 (r_X5_openOnes M 1000) ((w_X3_beginFrom M 1030 1000), 0) k)) ∧ (¬ c_X2_writeBestRows_36 (r_X5_openOnes M 1000) (l_X2_writeBestRows_36 (r_X5_openOnes M 1000) ((w_X3_beginFrom M 1030 1000), 0) (Int32.toNatClampNeg ((r_X5_openOnes M 1000))))) ∧ (if (r_X5_openOnes M 1000) ≤ ((l_X2_writeBestRows_36 (r_X5_openOnes M 1000) ((w_X3_beginFrom M 1030 1000), 0) (Int32.toNatClampNeg ((r_X5_openOnes M 1000)))).2) then True else True)
set_option maxRecDepth 20000 in
theorem rnX2_writeBestRows {d : Nat} {M : Mm}   (hp : p_X2_writeBestRows M ) : Rn (d + 3) mX2_writeBestRows [.ref 510, .ref 550] M (some (.int (r_X2_writeBestRows M ))) (w_X2_writeBestRows M ) := by
  refine Rn.of [some (.ref 510), some (.ref 550), none, none, none, none, none] (by decide +kernel) rfl (Nat.le_of_ble_eq_true rfl) rfl (fun J g hr => ?_)
  unfold p_X2_writeBestRows at hp
  refine j_aload_n g (i := 0) (by decide +kernel) rfl ?_
  refine j_gA g (b := 100) f2_12 (by decide +kernel) (by decide +kernel) (by decide +kernel) (by decide +kernel) ?_
  refine j_aload_n g (i := 0) (by decide +kernel) rfl ?_
  refine j_gA g (b := 100) f2_12 (by decide +kernel) (by decide +kernel) (by decide +kernel) (by decide +kernel) ?_
  refine j_gA g (b := 1000) f2_59 (by decide +kernel) (by decide +kernel) (by decide +kernel) (by decide +kernel) ?_
  obtain ⟨h0, hp⟩ := hp
  refine j_cV1r g v2_63 ⟨rfl, by decide⟩ (by decide +kernel) (by decide +kernel) (Nat.le_of_ble_eq_true rfl) (rnX5_openOnes (by simp [isS]) h0) ?_
  refine j_istore_n g (i := 2) (by decide +kernel) (by decide) ?_
  dsimp only [stL, clL, hdL]
  refine j_aload_n g (i := 0) (by decide +kernel) rfl ?_
  refine j_gA g (b := 511) f2_20 (by decide +kernel) (by decide +kernel) (by decide +kernel) (by decide +kernel) ?_
  refine j_iconst g (n := 0) (0) (by decide +kernel) rfl ?_
  refine j_aS g (b := 1030) 7 (by decide +kernel) (by decide +kernel) (by decide +kernel) (vin_b (by decide +kernel)) (by decide +kernel) ?_
  refine j_astore_n g (i := 3) (by decide +kernel) (by decide) ?_
  dsimp only [stL, clL, hdL]
  refine j_aload_n g (i := 3) (by decide +kernel) rfl ?_
  refine j_aload_n g (i := 0) (by decide +kernel) rfl ?_
  refine j_gA g (b := 100) f2_12 (by decide +kernel) (by decide +kernel) (by decide +kernel) (by decide +kernel) ?_
  refine j_gA g (b := 1000) f2_59 (by decide +kernel) (by decide +kernel) (by decide +kernel) (by decide +kernel) ?_
  refine j_cV1v g v2_84 ⟨rfl, by decide⟩ (by decide +kernel) (by decide +kernel) (Nat.le_of_ble_eq_true rfl) (rnX3_beginFrom (by simp [isS]) (by simp [isS])) ?_
  refine j_iconst g (n := 0) (0) (by decide +kernel) rfl ?_
  refine j_istore g (i := 4) (by decide +kernel) (by decide) ?_
  dsimp only [stL, clL, hdL]
  obtain ⟨h0, hp⟩ := hp
  have hc_36_1 := h0
  obtain ⟨h0, hp⟩ := hp
  have hq_36_1 := h0
  obtain ⟨h0, hp⟩ := hp
  have hx_36_1 := h0
  refine sh_X2_writeBestRows_36 (x2 := (r_X5_openOnes M 1000))  g (σ0 := ((w_X3_beginFrom M 1030 1000), 0)) (Int32.toNatClampNeg ((r_X5_openOnes M 1000))) hc_36_1 hq_36_1 ?_ _ _
  intro j5_1 j6_1
  refine j_iload g (i := 4) (by decide +kernel) rfl ?_
  refine j_iload_n g (i := 2) (by decide +kernel) rfl ?_
  refine j_icmp_ge g (off := 65) (tgt := 104) (by decide +kernel) (by decide) (fun c39 => ?_) (fun c39 => ?_)
  · rw [if_pos (show (r_X5_openOnes M 1000) ≤ ((l_X2_writeBestRows_36 (r_X5_openOnes M 1000) ((w_X3_beginFrom M 1030 1000), 0) (Int32.toNatClampNeg ((r_X5_openOnes M 1000)))).2) from c39)] at hp
    refine j_iload_n g (i := 2) (by decide +kernel) rfl ?_
    refine hr.1 _ _ _ _ (by decide +kernel) ⟨_, rfl, by first | rfl | exact b2i_nar | decide +kernel⟩ ?_ ?_
    · unfold r_X2_writeBestRows; first | (simp only [if_pos (show (r_X5_openOnes M 1000) ≤ ((l_X2_writeBestRows_36 (r_X5_openOnes M 1000) ((w_X3_beginFrom M 1030 1000), 0) (Int32.toNatClampNeg ((r_X5_openOnes M 1000)))).2) from c39)]; done) | (simp only [if_pos (show (r_X5_openOnes M 1000) ≤ ((l_X2_writeBestRows_36 (r_X5_openOnes M 1000) ((w_X3_beginFrom M 1030 1000), 0) (Int32.toNatClampNeg ((r_X5_openOnes M 1000)))).2) from c39)]; rfl) | rfl
    · unfold w_X2_writeBestRows; first | (simp only [if_pos (show (r_X5_openOnes M 1000) ≤ ((l_X2_writeBestRows_36 (r_X5_openOnes M 1000) ((w_X3_beginFrom M 1030 1000), 0) (Int32.toNatClampNeg ((r_X5_openOnes M 1000)))).2) from c39)]; done) | (simp only [if_pos (show (r_X5_openOnes M 1000) ≤ ((l_X2_writeBestRows_36 (r_X5_openOnes M 1000) ((w_X3_beginFrom M 1030 1000), 0) (Int32.toNatClampNeg ((r_X5_openOnes M 1000)))).2) from c39)]; rfl) | rfl
  · rw [if_neg (show ¬ ((r_X5_openOnes M 1000) ≤ ((l_X2_writeBestRows_36 (r_X5_openOnes M 1000) ((w_X3_beginFrom M 1030 1000), 0) (Int32.toNatClampNeg ((r_X5_openOnes M 1000)))).2)) from c39)] at hp
    refine absurd (ci_X2_writeBestRows_36.mpr ?_) hx_36_1
    simp only [if_neg (show ¬ ((r_X5_openOnes M 1000) ≤ ((l_X2_writeBestRows_36 (r_X5_openOnes M 1000) ((w_X3_beginFrom M 1030 1000), 0) (Int32.toNatClampNeg ((r_X5_openOnes M 1000)))).2)) from c39)]
def c_X2_firstWrongRow_21 (a2 : Int32) (σ : Mm × Int32) : Prop := if a2 ≤ σ.2 then False else if ¬ (b2i (cFree σ.1 1030 (σ.1.1 550 (Int32.toNatClampNeg (σ.2 * 3))))) = 0 then (if ¬ ((w_X5_carryOut σ.1 1030 (σ.1.1 550 (Int32.toNatClampNeg (σ.2 * 3)))).1 550 (Int32.toNatClampNeg ((σ.2 * 3) + 1))) = ((w_X5_carryOut σ.1 1030 (σ.1.1 550 (Int32.toNatClampNeg (σ.2 * 3)))).1 1030 4) then False else if ((w_X5_carryOut σ.1 1030 (σ.1.1 550 (Int32.toNatClampNeg (σ.2 * 3)))).1 550 (Int32.toNatClampNeg ((σ.2 * 3) + 2))) = (r_X5_carryOut σ.1 1030 (σ.1.1 550 (Int32.toNatClampNeg (σ.2 * 3)))) then True else False) else False
theorem ci_X2_firstWrongRow_21 {a2 : Int32}  {σ : Mm × Int32} : c_X2_firstWrongRow_21 a2 σ ↔ (if a2 ≤ σ.2 then False else if ¬ (b2i (cFree σ.1 1030 (σ.1.1 550 (Int32.toNatClampNeg (σ.2 * 3))))) = 0 then (if ¬ ((w_X5_carryOut σ.1 1030 (σ.1.1 550 (Int32.toNatClampNeg (σ.2 * 3)))).1 550 (Int32.toNatClampNeg ((σ.2 * 3) + 1))) = ((w_X5_carryOut σ.1 1030 (σ.1.1 550 (Int32.toNatClampNeg (σ.2 * 3)))).1 1030 4) then False else if ((w_X5_carryOut σ.1 1030 (σ.1.1 550 (Int32.toNatClampNeg (σ.2 * 3)))).1 550 (Int32.toNatClampNeg ((σ.2 * 3) + 2))) = (r_X5_carryOut σ.1 1030 (σ.1.1 550 (Int32.toNatClampNeg (σ.2 * 3)))) then True else False) else False) := Iff.rfl
noncomputable def s_X2_firstWrongRow_21 (a2 : Int32) (σ : Mm × Int32) : Mm × Int32 := if a2 ≤ σ.2 then σ else if ¬ (b2i (cFree σ.1 1030 (σ.1.1 550 (Int32.toNatClampNeg (σ.2 * 3))))) = 0 then (if ¬ ((w_X5_carryOut σ.1 1030 (σ.1.1 550 (Int32.toNatClampNeg (σ.2 * 3)))).1 550 (Int32.toNatClampNeg ((σ.2 * 3) + 1))) = ((w_X5_carryOut σ.1 1030 (σ.1.1 550 (Int32.toNatClampNeg (σ.2 * 3)))).1 1030 4) then σ else if ((w_X5_carryOut σ.1 1030 (σ.1.1 550 (Int32.toNatClampNeg (σ.2 * 3)))).1 550 (Int32.toNatClampNeg ((σ.2 * 3) + 2))) = (r_X5_carryOut σ.1 1030 (σ.1.1 550 (Int32.toNatClampNeg (σ.2 * 3)))) then ((w_X5_carryOut σ.1 1030 (σ.1.1 550 (Int32.toNatClampNeg (σ.2 * 3)))), σ.2 + 1) else σ) else σ
def q_X2_firstWrongRow_21 (a2 : Int32) (σ : Mm × Int32) : Prop := (if a2 ≤ σ.2 then True else (vp_in (σ.2 * 3) 18) ∧ ((σ.1.1 100 2).toInt ≤ 6) ∧ (if ¬ (b2i (cFree σ.1 1030 (σ.1.1 550 (Int32.toNatClampNeg (σ.2 * 3))))) = 0 then (p_X5_carryOut σ.1 1030 (σ.1.1 550 (Int32.toNatClampNeg (σ.2 * 3)))) ∧ (vp_in ((σ.2 * 3) + 1) 18) ∧ (if ¬ ((w_X5_carryOut σ.1 1030 (σ.1.1 550 (Int32.toNatClampNeg (σ.2 * 3)))).1 550 (Int32.toNatClampNeg ((σ.2 * 3) + 1))) = ((w_X5_carryOut σ.1 1030 (σ.1.1 550 (Int32.toNatClampNeg (σ.2 * 3)))).1 1030 4) then True else (vp_in ((σ.2 * 3) + 2) 18) ∧ (if ((w_X5_carryOut σ.1 1030 (σ.1.1 550 (Int32.toNatClampNeg (σ.2 * 3)))).1 550 (Int32.toNatClampNeg ((σ.2 * 3) + 2))) = (r_X5_carryOut σ.1 1030 (σ.1.1 550 (Int32.toNatClampNeg (σ.2 * 3)))) then True else True)) else True))
noncomputable def l_X2_firstWrongRow_21 (a2 : Int32) (σ0 : Mm × Int32) : Nat → Mm × Int32 := itN (fun _ σ => s_X2_firstWrongRow_21 a2 σ) σ0
theorem ps_X2_firstWrongRow_21 {d : Nat} {J : Nat → Lc → List Value → Mm → Prop} {a2 : Int32}  {σ : Mm × Int32}  (g : Good mX2_firstWrongRow.1 mX2_firstWrongRow.2.2.1 mX2_firstWrongRow.2.2.2.1 (d + 3) J) (hc : c_X2_firstWrongRow_21 a2 σ) (hp : q_X2_firstWrongRow_21 a2 σ) (k : ∀ (j5 j6 : Option Value), J 21 [some (.ref 510), some (.ref 550), some (.int a2), some (.ref 1030), some (.int ((s_X2_firstWrongRow_21 a2 σ).2)), j5, j6] [] ((s_X2_firstWrongRow_21 a2 σ).1)) : ∀ (j5 j6 : Option Value), J 21 [some (.ref 510), some (.ref 550), some (.int a2), some (.ref 1030), some (.int σ.2), j5, j6] [] σ.1 := by
  intro j5 j6
  unfold c_X2_firstWrongRow_21 at hc
  unfold q_X2_firstWrongRow_21 at hp
  unfold s_X2_firstWrongRow_21 at k
  refine j_iload g (i := 4) (by decide +kernel) rfl ?_
  refine j_iload_n g (i := 2) (by decide +kernel) rfl ?_
  refine j_icmp_ge g (off := 80) (tgt := 104) (by decide +kernel) (by decide) (fun c24 => ?_) (fun c24 => ?_)
  · (try rw [if_pos (show a2 ≤ σ.2 from c24)] at hc); (rw [if_pos (show a2 ≤ σ.2 from c24)] at hp); (try simp only [if_pos (show a2 ≤ σ.2 from c24)] at k)
    exact hc.elim
  · (try rw [if_neg (show ¬ (a2 ≤ σ.2) from c24)] at hc); (rw [if_neg (show ¬ (a2 ≤ σ.2) from c24)] at hp); (try simp only [if_neg (show ¬ (a2 ≤ σ.2) from c24)] at k)
    refine j_aload_n g (i := 1) (by decide +kernel) rfl ?_
    refine j_iload g (i := 4) (by decide +kernel) rfl ?_
    refine j_iconst g (n := 3) (3) (by decide +kernel) rfl ?_
    refine j_imul g (by decide +kernel) ?_
    obtain ⟨h0, hp⟩ := hp
    refine j_ia g 18 (by decide +kernel) (by decide +kernel) (by decide +kernel) h0 ?_
    refine j_istore g (i := 5) (by decide +kernel) (by decide) ?_
    dsimp only [stL, clL, hdL]
    refine j_aload_n g (i := 0) (by decide +kernel) rfl ?_
    refine j_gA g (b := 100) f2_12 (by decide +kernel) (by decide +kernel) (by decide +kernel) (by decide +kernel) ?_
    refine j_aload_n g (i := 3) (by decide +kernel) rfl ?_
    refine j_iload g (i := 5) (by decide +kernel) rfl ?_
    obtain ⟨h0, hp⟩ := hp
    refine j_cV2r g v2_147 ⟨rfl, by decide⟩ (by decide +kernel) (by decide +kernel) (Nat.le_of_ble_eq_true rfl) (rnX5_isFree h0 (by simp [isS])) ?_
    refine j_if_ne g (off := 8) (tgt := 53) (by decide +kernel) (by decide) (fun c45 => ?_) (fun c45 => ?_)
    · (try rw [if_pos (show ¬ (b2i (cFree σ.1 1030 (σ.1.1 550 (Int32.toNatClampNeg (σ.2 * 3))))) = 0 from c45)] at hc); (rw [if_pos (show ¬ (b2i (cFree σ.1 1030 (σ.1.1 550 (Int32.toNatClampNeg (σ.2 * 3))))) = 0 from c45)] at hp); (try simp only [if_pos (show ¬ (b2i (cFree σ.1 1030 (σ.1.1 550 (Int32.toNatClampNeg (σ.2 * 3))))) = 0 from c45)] at k)
      refine j_aload_n g (i := 0) (by decide +kernel) rfl ?_
      refine j_gA g (b := 100) f2_12 (by decide +kernel) (by decide +kernel) (by decide +kernel) (by decide +kernel) ?_
      refine j_aload_n g (i := 3) (by decide +kernel) rfl ?_
      refine j_iload g (i := 5) (by decide +kernel) rfl ?_
      obtain ⟨h0, hp⟩ := hp
      refine j_cV2r g v2_98 ⟨rfl, by decide⟩ (by decide +kernel) (by decide +kernel) (Nat.le_of_ble_eq_true rfl) (rnX5_carryOut (by simp [isS]) h0) ?_
      refine j_istore g (i := 6) (by decide +kernel) (by decide) ?_
      dsimp only [stL, clL, hdL]
      refine j_aload_n g (i := 1) (by decide +kernel) rfl ?_
      refine j_iload g (i := 4) (by decide +kernel) rfl ?_
      refine j_iconst g (n := 3) (3) (by decide +kernel) rfl ?_
      refine j_imul g (by decide +kernel) ?_
      refine j_iconst g (n := 1) (1) (by decide +kernel) rfl ?_
      refine j_iadd g (by decide +kernel) ?_
      obtain ⟨h0, hp⟩ := hp
      refine j_ia g 18 (by decide +kernel) (by decide +kernel) (by decide +kernel) h0 ?_
      refine j_aload_n g (i := 3) (by decide +kernel) rfl ?_
      refine j_gI g f2_88 (by decide +kernel) (by decide +kernel) (by decide +kernel) ?_
      refine j_icmp_ne g (off := 16) (tgt := 93) (by decide +kernel) (by decide) (fun c77 => ?_) (fun c77 => ?_)
      · (try rw [if_pos (show ¬ ((w_X5_carryOut σ.1 1030 (σ.1.1 550 (Int32.toNatClampNeg (σ.2 * 3)))).1 550 (Int32.toNatClampNeg ((σ.2 * 3) + 1))) = ((w_X5_carryOut σ.1 1030 (σ.1.1 550 (Int32.toNatClampNeg (σ.2 * 3)))).1 1030 4) from c77)] at hc); (rw [if_pos (show ¬ ((w_X5_carryOut σ.1 1030 (σ.1.1 550 (Int32.toNatClampNeg (σ.2 * 3)))).1 550 (Int32.toNatClampNeg ((σ.2 * 3) + 1))) = ((w_X5_carryOut σ.1 1030 (σ.1.1 550 (Int32.toNatClampNeg (σ.2 * 3)))).1 1030 4) from c77)] at hp); (try simp only [if_pos (show ¬ ((w_X5_carryOut σ.1 1030 (σ.1.1 550 (Int32.toNatClampNeg (σ.2 * 3)))).1 550 (Int32.toNatClampNeg ((σ.2 * 3) + 1))) = ((w_X5_carryOut σ.1 1030 (σ.1.1 550 (Int32.toNatClampNeg (σ.2 * 3)))).1 1030 4) from c77)] at k)
        exact hc.elim
      · (try rw [if_neg (show ¬ (¬ ((w_X5_carryOut σ.1 1030 (σ.1.1 550 (Int32.toNatClampNeg (σ.2 * 3)))).1 550 (Int32.toNatClampNeg ((σ.2 * 3) + 1))) = ((w_X5_carryOut σ.1 1030 (σ.1.1 550 (Int32.toNatClampNeg (σ.2 * 3)))).1 1030 4)) from c77)] at hc); (rw [if_neg (show ¬ (¬ ((w_X5_carryOut σ.1 1030 (σ.1.1 550 (Int32.toNatClampNeg (σ.2 * 3)))).1 550 (Int32.toNatClampNeg ((σ.2 * 3) + 1))) = ((w_X5_carryOut σ.1 1030 (σ.1.1 550 (Int32.toNatClampNeg (σ.2 * 3)))).1 1030 4)) from c77)] at hp); (try simp only [if_neg (show ¬ (¬ ((w_X5_carryOut σ.1 1030 (σ.1.1 550 (Int32.toNatClampNeg (σ.2 * 3)))).1 550 (Int32.toNatClampNeg ((σ.2 * 3) + 1))) = ((w_X5_carryOut σ.1 1030 (σ.1.1 550 (Int32.toNatClampNeg (σ.2 * 3)))).1 1030 4)) from c77)] at k)
        refine j_aload_n g (i := 1) (by decide +kernel) rfl ?_
        refine j_iload g (i := 4) (by decide +kernel) rfl ?_
        refine j_iconst g (n := 3) (3) (by decide +kernel) rfl ?_
        refine j_imul g (by decide +kernel) ?_
        refine j_iconst g (n := 2) (2) (by decide +kernel) rfl ?_
        refine j_iadd g (by decide +kernel) ?_
        obtain ⟨h0, hp⟩ := hp
        refine j_ia g 18 (by decide +kernel) (by decide +kernel) (by decide +kernel) h0 ?_
        refine j_iload g (i := 6) (by decide +kernel) rfl ?_
        refine j_icmp_eq g (off := 8) (tgt := 98) (by decide +kernel) (by decide) (fun c90 => ?_) (fun c90 => ?_)
        · (try rw [if_pos (show ((w_X5_carryOut σ.1 1030 (σ.1.1 550 (Int32.toNatClampNeg (σ.2 * 3)))).1 550 (Int32.toNatClampNeg ((σ.2 * 3) + 2))) = (r_X5_carryOut σ.1 1030 (σ.1.1 550 (Int32.toNatClampNeg (σ.2 * 3)))) from c90)] at hc); (rw [if_pos (show ((w_X5_carryOut σ.1 1030 (σ.1.1 550 (Int32.toNatClampNeg (σ.2 * 3)))).1 550 (Int32.toNatClampNeg ((σ.2 * 3) + 2))) = (r_X5_carryOut σ.1 1030 (σ.1.1 550 (Int32.toNatClampNeg (σ.2 * 3)))) from c90)] at hp); (try simp only [if_pos (show ((w_X5_carryOut σ.1 1030 (σ.1.1 550 (Int32.toNatClampNeg (σ.2 * 3)))).1 550 (Int32.toNatClampNeg ((σ.2 * 3) + 2))) = (r_X5_carryOut σ.1 1030 (σ.1.1 550 (Int32.toNatClampNeg (σ.2 * 3)))) from c90)] at k)
          refine j_iinc g (i := 4) (n := 1) (1) (by decide +kernel) rfl (by decide) rfl ?_
          dsimp only [stL, clL, hdL]
          refine j_goto g (off := -80) (tgt := 21) (by decide +kernel) (by decide) ?_
          exact k _ _
        · (try rw [if_neg (show ¬ (((w_X5_carryOut σ.1 1030 (σ.1.1 550 (Int32.toNatClampNeg (σ.2 * 3)))).1 550 (Int32.toNatClampNeg ((σ.2 * 3) + 2))) = (r_X5_carryOut σ.1 1030 (σ.1.1 550 (Int32.toNatClampNeg (σ.2 * 3))))) from c90)] at hc); (rw [if_neg (show ¬ (((w_X5_carryOut σ.1 1030 (σ.1.1 550 (Int32.toNatClampNeg (σ.2 * 3)))).1 550 (Int32.toNatClampNeg ((σ.2 * 3) + 2))) = (r_X5_carryOut σ.1 1030 (σ.1.1 550 (Int32.toNatClampNeg (σ.2 * 3))))) from c90)] at hp); (try simp only [if_neg (show ¬ (((w_X5_carryOut σ.1 1030 (σ.1.1 550 (Int32.toNatClampNeg (σ.2 * 3)))).1 550 (Int32.toNatClampNeg ((σ.2 * 3) + 2))) = (r_X5_carryOut σ.1 1030 (σ.1.1 550 (Int32.toNatClampNeg (σ.2 * 3))))) from c90)] at k)
          exact hc.elim
    · (try rw [if_neg (show ¬ (¬ (b2i (cFree σ.1 1030 (σ.1.1 550 (Int32.toNatClampNeg (σ.2 * 3))))) = 0) from c45)] at hc); (rw [if_neg (show ¬ (¬ (b2i (cFree σ.1 1030 (σ.1.1 550 (Int32.toNatClampNeg (σ.2 * 3))))) = 0) from c45)] at hp); (try simp only [if_neg (show ¬ (¬ (b2i (cFree σ.1 1030 (σ.1.1 550 (Int32.toNatClampNeg (σ.2 * 3))))) = 0) from c45)] at k)
      exact hc.elim
theorem sh_X2_firstWrongRow_21 {d : Nat} {J : Nat → Lc → List Value → Mm → Prop} {a2 : Int32}  {σ0 : Mm × Int32}  (g : Good mX2_firstWrongRow.1 mX2_firstWrongRow.2.2.1 mX2_firstWrongRow.2.2.2.1 (d + 3) J) : ∀ (N : Nat), (∀ k, k < N → c_X2_firstWrongRow_21 a2 (l_X2_firstWrongRow_21 a2 σ0 k)) → (∀ k, k < N → q_X2_firstWrongRow_21 a2 (l_X2_firstWrongRow_21 a2 σ0 k)) → (∀ (j5 j6 : Option Value), J 21 [some (.ref 510), some (.ref 550), some (.int a2), some (.ref 1030), some (.int ((l_X2_firstWrongRow_21 a2 σ0 N).2)), j5, j6] [] ((l_X2_firstWrongRow_21 a2 σ0 N).1)) → ∀ (j5 j6 : Option Value), J 21 [some (.ref 510), some (.ref 550), some (.int a2), some (.ref 1030), some (.int σ0.2), j5, j6] [] σ0.1
  | 0, _, _, k => k
  | N + 1, hc, hp, k => sh_X2_firstWrongRow_21  g N (fun i hi => hc i (Nat.lt_succ_of_lt hi)) (fun i hi => hp i (Nat.lt_succ_of_lt hi)) (ps_X2_firstWrongRow_21  g (hc N (Nat.lt_succ_self N)) (hp N (Nat.lt_succ_self N)) k)
noncomputable def r_X2_firstWrongRow (M : Mm) (a2 : Int32) : Int32 := if a2 ≤ ((l_X2_firstWrongRow_21 a2 ((w_X3_beginFrom M 1030 1000), 0) (cntN (fun k => c_X2_firstWrongRow_21 a2 (l_X2_firstWrongRow_21 a2 ((w_X3_beginFrom M 1030 1000), 0) k)) 7)).2) then (if (r_X5_openOnes (l_X2_firstWrongRow_21 a2 ((w_X3_beginFrom M 1030 1000), 0) (cntN (fun k => c_X2_firstWrongRow_21 a2 (l_X2_firstWrongRow_21 a2 ((w_X3_beginFrom M 1030 1000), 0) k)) 7)).1 1030) ≤ 0 then 0 else 222) else if ¬ (b2i (cFree (l_X2_firstWrongRow_21 a2 ((w_X3_beginFrom M 1030 1000), 0) (cntN (fun k => c_X2_firstWrongRow_21 a2 (l_X2_firstWrongRow_21 a2 ((w_X3_beginFrom M 1030 1000), 0) k)) 7)).1 1030 ((l_X2_firstWrongRow_21 a2 ((w_X3_beginFrom M 1030 1000), 0) (cntN (fun k => c_X2_firstWrongRow_21 a2 (l_X2_firstWrongRow_21 a2 ((w_X3_beginFrom M 1030 1000), 0) k)) 7)).1.1 550 (Int32.toNatClampNeg (((l_X2_firstWrongRow_21 a2 ((w_X3_beginFrom M 1030 1000), 0) (cntN (fun k => c_X2_firstWrongRow_21 a2 (l_X2_firstWrongRow_21 a2 ((w_X3_beginFrom M 1030 1000), 0) k)) 7)).2) * 3))))) = 0 then (if ¬ ((w_X5_carryOut (l_X2_firstWrongRow_21 a2 ((w_X3_beginFrom M 1030 1000), 0) (cntN (fun k => c_X2_firstWrongRow_21 a2 (l_X2_firstWrongRow_21 a2 ((w_X3_beginFrom M 1030 1000), 0) k)) 7)).1 1030 ((l_X2_firstWrongRow_21 a2 ((w_X3_beginFrom M 1030 1000), 0) (cntN (fun k => c_X2_firstWrongRow_21 a2 (l_X2_firstWrongRow_21 a2 ((w_X3_beginFrom M 1030 1000), 0) k)) 7)).1.1 550 (Int32.toNatClampNeg (((l_X2_firstWrongRow_21 a2 ((w_X3_beginFrom M 1030 1000), 0) (cntN (fun k => c_X2_firstWrongRow_21 a2 (l_X2_firstWrongRow_21 a2 ((w_X3_beginFrom M 1030 1000), 0) k)) 7)).2) * 3)))).1 550 (Int32.toNatClampNeg ((((l_X2_firstWrongRow_21 a2 ((w_X3_beginFrom M 1030 1000), 0) (cntN (fun k => c_X2_firstWrongRow_21 a2 (l_X2_firstWrongRow_21 a2 ((w_X3_beginFrom M 1030 1000), 0) k)) 7)).2) * 3) + 1))) = ((w_X5_carryOut (l_X2_firstWrongRow_21 a2 ((w_X3_beginFrom M 1030 1000), 0) (cntN (fun k => c_X2_firstWrongRow_21 a2 (l_X2_firstWrongRow_21 a2 ((w_X3_beginFrom M 1030 1000), 0) k)) 7)).1 1030 ((l_X2_firstWrongRow_21 a2 ((w_X3_beginFrom M 1030 1000), 0) (cntN (fun k => c_X2_firstWrongRow_21 a2 (l_X2_firstWrongRow_21 a2 ((w_X3_beginFrom M 1030 1000), 0) k)) 7)).1.1 550 (Int32.toNatClampNeg (((l_X2_firstWrongRow_21 a2 ((w_X3_beginFrom M 1030 1000), 0) (cntN (fun k => c_X2_firstWrongRow_21 a2 (l_X2_firstWrongRow_21 a2 ((w_X3_beginFrom M 1030 1000), 0) k)) 7)).2) * 3)))).1 1030 4) then ((l_X2_firstWrongRow_21 a2 ((w_X3_beginFrom M 1030 1000), 0) (cntN (fun k => c_X2_firstWrongRow_21 a2 (l_X2_firstWrongRow_21 a2 ((w_X3_beginFrom M 1030 1000), 0) k)) 7)).2) + 1 else if ((w_X5_carryOut (l_X2_firstWrongRow_21 a2 ((w_X3_beginFrom M 1030 1000), 0) (cntN (fun k => c_X2_firstWrongRow_21 a2 (l_X2_firstWrongRow_21 a2 ((w_X3_beginFrom M 1030 1000), 0) k)) 7)).1 1030 ((l_X2_firstWrongRow_21 a2 ((w_X3_beginFrom M 1030 1000), 0) (cntN (fun k => c_X2_firstWrongRow_21 a2 (l_X2_firstWrongRow_21 a2 ((w_X3_beginFrom M 1030 1000), 0) k)) 7)).1.1 550 (Int32.toNatClampNeg (((l_X2_firstWrongRow_21 a2 ((w_X3_beginFrom M 1030 1000), 0) (cntN (fun k => c_X2_firstWrongRow_21 a2 (l_X2_firstWrongRow_21 a2 ((w_X3_beginFrom M 1030 1000), 0) k)) 7)).2) * 3)))).1 550 (Int32.toNatClampNeg ((((l_X2_firstWrongRow_21 a2 ((w_X3_beginFrom M 1030 1000), 0) (cntN (fun k => c_X2_firstWrongRow_21 a2 (l_X2_firstWrongRow_21 a2 ((w_X3_beginFrom M 1030 1000), 0) k)) 7)).2) * 3) + 2))) = (r_X5_carryOut (l_X2_firstWrongRow_21 a2 ((w_X3_beginFrom M 1030 1000), 0) (cntN (fun k => c_X2_firstWrongRow_21 a2 (l_X2_firstWrongRow_21 a2 ((w_X3_beginFrom M 1030 1000), 0) k)) 7)).1 1030 ((l_X2_firstWrongRow_21 a2 ((w_X3_beginFrom M 1030 1000), 0) (cntN (fun k => c_X2_firstWrongRow_21 a2 (l_X2_firstWrongRow_21 a2 ((w_X3_beginFrom M 1030 1000), 0) k)) 7)).1.1 550 (Int32.toNatClampNeg (((l_X2_firstWrongRow_21 a2 ((w_X3_beginFrom M 1030 1000), 0) (cntN (fun k => c_X2_firstWrongRow_21 a2 (l_X2_firstWrongRow_21 a2 ((w_X3_beginFrom M 1030 1000), 0) k)) 7)).2) * 3)))) then 0 else ((l_X2_firstWrongRow_21 a2 ((w_X3_beginFrom M 1030 1000), 0) (cntN (fun k => c_X2_firstWrongRow_21 a2 (l_X2_firstWrongRow_21 a2 ((w_X3_beginFrom M 1030 1000), 0) k)) 7)).2) + 1) else ((l_X2_firstWrongRow_21 a2 ((w_X3_beginFrom M 1030 1000), 0) (cntN (fun k => c_X2_firstWrongRow_21 a2 (l_X2_firstWrongRow_21 a2 ((w_X3_beginFrom M 1030 1000), 0) k)) 7)).2) + 1
noncomputable def w_X2_firstWrongRow (M : Mm) (a2 : Int32) : Mm := if a2 ≤ ((l_X2_firstWrongRow_21 a2 ((w_X3_beginFrom M 1030 1000), 0) (cntN (fun k => c_X2_firstWrongRow_21 a2 (l_X2_firstWrongRow_21 a2 ((w_X3_beginFrom M 1030 1000), 0) k)) 7)).2) then (l_X2_firstWrongRow_21 a2 ((w_X3_beginFrom M 1030 1000), 0) (cntN (fun k => c_X2_firstWrongRow_21 a2 (l_X2_firstWrongRow_21 a2 ((w_X3_beginFrom M 1030 1000), 0) k)) 7)).1 else if ¬ (b2i (cFree (l_X2_firstWrongRow_21 a2 ((w_X3_beginFrom M 1030 1000), 0) (cntN (fun k => c_X2_firstWrongRow_21 a2 (l_X2_firstWrongRow_21 a2 ((w_X3_beginFrom M 1030 1000), 0) k)) 7)).1 1030 ((l_X2_firstWrongRow_21 a2 ((w_X3_beginFrom M 1030 1000), 0) (cntN (fun k => c_X2_firstWrongRow_21 a2 (l_X2_firstWrongRow_21 a2 ((w_X3_beginFrom M 1030 1000), 0) k)) 7)).1.1 550 (Int32.toNatClampNeg (((l_X2_firstWrongRow_21 a2 ((w_X3_beginFrom M 1030 1000), 0) (cntN (fun k => c_X2_firstWrongRow_21 a2 (l_X2_firstWrongRow_21 a2 ((w_X3_beginFrom M 1030 1000), 0) k)) 7)).2) * 3))))) = 0 then (if ¬ ((w_X5_carryOut (l_X2_firstWrongRow_21 a2 ((w_X3_beginFrom M 1030 1000), 0) (cntN (fun k => c_X2_firstWrongRow_21 a2 (l_X2_firstWrongRow_21 a2 ((w_X3_beginFrom M 1030 1000), 0) k)) 7)).1 1030 ((l_X2_firstWrongRow_21 a2 ((w_X3_beginFrom M 1030 1000), 0) (cntN (fun k => c_X2_firstWrongRow_21 a2 (l_X2_firstWrongRow_21 a2 ((w_X3_beginFrom M 1030 1000), 0) k)) 7)).1.1 550 (Int32.toNatClampNeg (((l_X2_firstWrongRow_21 a2 ((w_X3_beginFrom M 1030 1000), 0) (cntN (fun k => c_X2_firstWrongRow_21 a2 (l_X2_firstWrongRow_21 a2 ((w_X3_beginFrom M 1030 1000), 0) k)) 7)).2) * 3)))).1 550 (Int32.toNatClampNeg ((((l_X2_firstWrongRow_21 a2 ((w_X3_beginFrom M 1030 1000), 0) (cntN (fun k => c_X2_firstWrongRow_21 a2 (l_X2_firstWrongRow_21 a2 ((w_X3_beginFrom M 1030 1000), 0) k)) 7)).2) * 3) + 1))) = ((w_X5_carryOut (l_X2_firstWrongRow_21 a2 ((w_X3_beginFrom M 1030 1000), 0) (cntN (fun k => c_X2_firstWrongRow_21 a2 (l_X2_firstWrongRow_21 a2 ((w_X3_beginFrom M 1030 1000), 0) k)) 7)).1 1030 ((l_X2_firstWrongRow_21 a2 ((w_X3_beginFrom M 1030 1000), 0) (cntN (fun k => c_X2_firstWrongRow_21 a2 (l_X2_firstWrongRow_21 a2 ((w_X3_beginFrom M 1030 1000), 0) k)) 7)).1.1 550 (Int32.toNatClampNeg (((l_X2_firstWrongRow_21 a2 ((w_X3_beginFrom M 1030 1000), 0) (cntN (fun k => c_X2_firstWrongRow_21 a2 (l_X2_firstWrongRow_21 a2 ((w_X3_beginFrom M 1030 1000), 0) k)) 7)).2) * 3)))).1 1030 4) then (w_X5_carryOut (l_X2_firstWrongRow_21 a2 ((w_X3_beginFrom M 1030 1000), 0) (cntN (fun k => c_X2_firstWrongRow_21 a2 (l_X2_firstWrongRow_21 a2 ((w_X3_beginFrom M 1030 1000), 0) k)) 7)).1 1030 ((l_X2_firstWrongRow_21 a2 ((w_X3_beginFrom M 1030 1000), 0) (cntN (fun k => c_X2_firstWrongRow_21 a2 (l_X2_firstWrongRow_21 a2 ((w_X3_beginFrom M 1030 1000), 0) k)) 7)).1.1 550 (Int32.toNatClampNeg (((l_X2_firstWrongRow_21 a2 ((w_X3_beginFrom M 1030 1000), 0) (cntN (fun k => c_X2_firstWrongRow_21 a2 (l_X2_firstWrongRow_21 a2 ((w_X3_beginFrom M 1030 1000), 0) k)) 7)).2) * 3)))) else if ((w_X5_carryOut (l_X2_firstWrongRow_21 a2 ((w_X3_beginFrom M 1030 1000), 0) (cntN (fun k => c_X2_firstWrongRow_21 a2 (l_X2_firstWrongRow_21 a2 ((w_X3_beginFrom M 1030 1000), 0) k)) 7)).1 1030 ((l_X2_firstWrongRow_21 a2 ((w_X3_beginFrom M 1030 1000), 0) (cntN (fun k => c_X2_firstWrongRow_21 a2 (l_X2_firstWrongRow_21 a2 ((w_X3_beginFrom M 1030 1000), 0) k)) 7)).1.1 550 (Int32.toNatClampNeg (((l_X2_firstWrongRow_21 a2 ((w_X3_beginFrom M 1030 1000), 0) (cntN (fun k => c_X2_firstWrongRow_21 a2 (l_X2_firstWrongRow_21 a2 ((w_X3_beginFrom M 1030 1000), 0) k)) 7)).2) * 3)))).1 550 (Int32.toNatClampNeg ((((l_X2_firstWrongRow_21 a2 ((w_X3_beginFrom M 1030 1000), 0) (cntN (fun k => c_X2_firstWrongRow_21 a2 (l_X2_firstWrongRow_21 a2 ((w_X3_beginFrom M 1030 1000), 0) k)) 7)).2) * 3) + 2))) = (r_X5_carryOut (l_X2_firstWrongRow_21 a2 ((w_X3_beginFrom M 1030 1000), 0) (cntN (fun k => c_X2_firstWrongRow_21 a2 (l_X2_firstWrongRow_21 a2 ((w_X3_beginFrom M 1030 1000), 0) k)) 7)).1 1030 ((l_X2_firstWrongRow_21 a2 ((w_X3_beginFrom M 1030 1000), 0) (cntN (fun k => c_X2_firstWrongRow_21 a2 (l_X2_firstWrongRow_21 a2 ((w_X3_beginFrom M 1030 1000), 0) k)) 7)).1.1 550 (Int32.toNatClampNeg (((l_X2_firstWrongRow_21 a2 ((w_X3_beginFrom M 1030 1000), 0) (cntN (fun k => c_X2_firstWrongRow_21 a2 (l_X2_firstWrongRow_21 a2 ((w_X3_beginFrom M 1030 1000), 0) k)) 7)).2) * 3)))) then M else (w_X5_carryOut (l_X2_firstWrongRow_21 a2 ((w_X3_beginFrom M 1030 1000), 0) (cntN (fun k => c_X2_firstWrongRow_21 a2 (l_X2_firstWrongRow_21 a2 ((w_X3_beginFrom M 1030 1000), 0) k)) 7)).1 1030 ((l_X2_firstWrongRow_21 a2 ((w_X3_beginFrom M 1030 1000), 0) (cntN (fun k => c_X2_firstWrongRow_21 a2 (l_X2_firstWrongRow_21 a2 ((w_X3_beginFrom M 1030 1000), 0) k)) 7)).1.1 550 (Int32.toNatClampNeg (((l_X2_firstWrongRow_21 a2 ((w_X3_beginFrom M 1030 1000), 0) (cntN (fun k => c_X2_firstWrongRow_21 a2 (l_X2_firstWrongRow_21 a2 ((w_X3_beginFrom M 1030 1000), 0) k)) 7)).2) * 3))))) else (l_X2_firstWrongRow_21 a2 ((w_X3_beginFrom M 1030 1000), 0) (cntN (fun k => c_X2_firstWrongRow_21 a2 (l_X2_firstWrongRow_21 a2 ((w_X3_beginFrom M 1030 1000), 0) k)) 7)).1
def p_X2_firstWrongRow (M : Mm) (a2 : Int32) : Prop := (∀ k, k < (cntN (fun k => c_X2_firstWrongRow_21 a2 (l_X2_firstWrongRow_21 a2 ((w_X3_beginFrom M 1030 1000), 0) k)) 7) → c_X2_firstWrongRow_21 a2 (l_X2_firstWrongRow_21 a2 ((w_X3_beginFrom M 1030 1000), 0) k)) ∧ (∀ k, k < (cntN (fun k => c_X2_firstWrongRow_21 a2 (l_X2_firstWrongRow_21 a2 ((w_X3_beginFrom M 1030 1000), 0) k)) 7) → q_X2_firstWrongRow_21 a2 (l_X2_firstWrongRow_21 a2 ((w_X3_beginFrom M 1030 1000), 0) k)) ∧ (¬ c_X2_firstWrongRow_21 a2 (l_X2_firstWrongRow_21 a2 ((w_X3_beginFrom M 1030 1000), 0) (cntN (fun k => c_X2_firstWrongRow_21 a2 (l_X2_firstWrongRow_21 a2 ((w_X3_beginFrom M 1030 1000), 0) k)) 7))) ∧ (if a2 ≤ ((l_X2_firstWrongRow_21 a2 ((w_X3_beginFrom M 1030 1000), 0) (cntN (fun k => c_X2_firstWrongRow_21 a2 (l_X2_firstWrongRow_21 a2 ((w_X3_beginFrom M 1030 1000), 0) k)) 7)).2) then (p_X5_openOnes (l_X2_firstWrongRow_21 a2 ((w_X3_beginFrom M 1030 1000), 0) (cntN (fun k => c_X2_firstWrongRow_21 a2 (l_X2_firstWrongRow_21 a2 ((w_X3_beginFrom M 1030 1000), 0) k)) 7)).1 1030) ∧ (if (r_X5_openOnes (l_X2_firstWrongRow_21 a2 ((w_X3_beginFrom M 1030 1000), 0) (cntN (fun k => c_X2_firstWrongRow_21 a2 (l_X2_firstWrongRow_21 a2 ((w_X3_beginFrom M 1030 1000), 0) k)) 7)).1 1030) ≤ 0 then True else True) else (vp_in (((l_X2_firstWrongRow_21 a2 ((w_X3_beginFrom M 1030 1000), 0) (cntN (fun k => c_X2_firstWrongRow_21 a2 (l_X2_firstWrongRow_21 a2 ((w_X3_beginFrom M 1030 1000), 0) k)) 7)).2) * 3) 18) ∧ (((l_X2_firstWrongRow_21 a2 ((w_X3_beginFrom M 1030 1000), 0) (cntN (fun k => c_X2_firstWrongRow_21 a2 (l_X2_firstWrongRow_21 a2 ((w_X3_beginFrom M 1030 1000), 0) k)) 7)).1.1 100 2).toInt ≤ 6) ∧ (if ¬ (b2i (cFree (l_X2_firstWrongRow_21 a2 ((w_X3_beginFrom M 1030 1000), 0) (cntN (fun k => c_X2_firstWrongRow_21 a2 (l_X2_firstWrongRow_21 a2 ((w_X3_beginFrom M 1030 1000), 0) k)) 7)).1 1030 ((l_X2_firstWrongRow_21 a2 ((w_X3_beginFrom M 1030 1000), 0) (cntN (fun k => c_X2_firstWrongRow_21 a2 (l_X2_firstWrongRow_21 a2 ((w_X3_beginFrom M 1030 1000), 0) k)) 7)).1.1 550 (Int32.toNatClampNeg (((l_X2_firstWrongRow_21 a2 ((w_X3_beginFrom M 1030 1000), 0) (cntN (fun k => c_X2_firstWrongRow_21 a2 (l_X2_firstWrongRow_21 a2 ((w_X3_beginFrom M 1030 1000), 0) k)) 7)).2) * 3))))) = 0 then (p_X5_carryOut (l_X2_firstWrongRow_21 a2 ((w_X3_beginFrom M 1030 1000), 0) (cntN (fun k => c_X2_firstWrongRow_21 a2 (l_X2_firstWrongRow_21 a2 ((w_X3_beginFrom M 1030 1000), 0) k)) 7)).1 1030 ((l_X2_firstWrongRow_21 a2 ((w_X3_beginFrom M 1030 1000), 0) (cntN (fun k => c_X2_firstWrongRow_21 a2 (l_X2_firstWrongRow_21 a2 ((w_X3_beginFrom M 1030 1000), 0) k)) 7)).1.1 550 (Int32.toNatClampNeg (((l_X2_firstWrongRow_21 a2 ((w_X3_beginFrom M 1030 1000), 0) (cntN (fun k => c_X2_firstWrongRow_21 a2 (l_X2_firstWrongRow_21 a2 ((w_X3_beginFrom M 1030 1000), 0) k)) 7)).2) * 3)))) ∧ (vp_in ((((l_X2_firstWrongRow_21 a2 ((w_X3_beginFrom M 1030 1000), 0) (cntN (fun k => c_X2_firstWrongRow_21 a2 (l_X2_firstWrongRow_21 a2 ((w_X3_beginFrom M 1030 1000), 0) k)) 7)).2) * 3) + 1) 18) ∧ (if ¬ ((w_X5_carryOut (l_X2_firstWrongRow_21 a2 ((w_X3_beginFrom M 1030 1000), 0) (cntN (fun k => c_X2_firstWrongRow_21 a2 (l_X2_firstWrongRow_21 a2 ((w_X3_beginFrom M 1030 1000), 0) k)) 7)).1 1030 ((l_X2_firstWrongRow_21 a2 ((w_X3_beginFrom M 1030 1000), 0) (cntN (fun k => c_X2_firstWrongRow_21 a2 (l_X2_firstWrongRow_21 a2 ((w_X3_beginFrom M 1030 1000), 0) k)) 7)).1.1 550 (Int32.toNatClampNeg (((l_X2_firstWrongRow_21 a2 ((w_X3_beginFrom M 1030 1000), 0) (cntN (fun k => c_X2_firstWrongRow_21 a2 (l_X2_firstWrongRow_21 a2 ((w_X3_beginFrom M 1030 1000), 0) k)) 7)).2) * 3)))).1 550 (Int32.toNatClampNeg ((((l_X2_firstWrongRow_21 a2 ((w_X3_beginFrom M 1030 1000), 0) (cntN (fun k => c_X2_firstWrongRow_21 a2 (l_X2_firstWrongRow_21 a2 ((w_X3_beginFrom M 1030 1000), 0) k)) 7)).2) * 3) + 1))) = ((w_X5_carryOut (l_X2_firstWrongRow_21 a2 ((w_X3_beginFrom M 1030 1000), 0) (cntN (fun k => c_X2_firstWrongRow_21 a2 (l_X2_firstWrongRow_21 a2 ((w_X3_beginFrom M 1030 1000), 0) k)) 7)).1 1030 ((l_X2_firstWrongRow_21 a2 ((w_X3_beginFrom M 1030 1000), 0) (cntN (fun k => c_X2_firstWrongRow_21 a2 (l_X2_firstWrongRow_21 a2 ((w_X3_beginFrom M 1030 1000), 0) k)) 7)).1.1 550 (Int32.toNatClampNeg (((l_X2_firstWrongRow_21 a2 ((w_X3_beginFrom M 1030 1000), 0) (cntN (fun k => c_X2_firstWrongRow_21 a2 (l_X2_firstWrongRow_21 a2 ((w_X3_beginFrom M 1030 1000), 0) k)) 7)).2) * 3)))).1 1030 4) then True else (vp_in ((((l_X2_firstWrongRow_21 a2 ((w_X3_beginFrom M 1030 1000), 0) (cntN (fun k => c_X2_firstWrongRow_21 a2 (l_X2_firstWrongRow_21 a2 ((w_X3_beginFrom M 1030 1000), 0) k)) 7)).2) * 3) + 2) 18) ∧ (if ((w_X5_carryOut (l_X2_firstWrongRow_21 a2 ((w_X3_beginFrom M 1030 1000), 0) (cntN (fun k => c_X2_firstWrongRow_21 a2 (l_X2_firstWrongRow_21 a2 ((w_X3_beginFrom M 1030 1000), 0) k)) 7)).1 1030 ((l_X2_firstWrongRow_21 a2 ((w_X3_beginFrom M 1030 1000), 0) (cntN (fun k => c_X2_firstWrongRow_21 a2 (l_X2_firstWrongRow_21 a2 ((w_X3_beginFrom M 1030 1000), 0) k)) 7)).1.1 550 (Int32.toNatClampNeg (((l_X2_firstWrongRow_21 a2 ((w_X3_beginFrom M 1030 1000), 0) (cntN (fun k => c_X2_firstWrongRow_21 a2 (l_X2_firstWrongRow_21 a2 ((w_X3_beginFrom M 1030 1000), 0) k)) 7)).2) * 3)))).1 550 (Int32.toNatClampNeg ((((l_X2_firstWrongRow_21 a2 ((w_X3_beginFrom M 1030 1000), 0) (cntN (fun k => c_X2_firstWrongRow_21 a2 (l_X2_firstWrongRow_21 a2 ((w_X3_beginFrom M 1030 1000), 0) k)) 7)).2) * 3) + 2))) = (r_X5_carryOut (l_X2_firstWrongRow_21 a2 ((w_X3_beginFrom M 1030 1000), 0) (cntN (fun k => c_X2_firstWrongRow_21 a2 (l_X2_firstWrongRow_21 a2 ((w_X3_beginFrom M 1030 1000), 0) k)) 7)).1 1030 ((l_X2_firstWrongRow_21 a2 ((w_X3_beginFrom M 1030 1000), 0) (cntN (fun k => c_X2_firstWrongRow_21 a2 (l_X2_firstWrongRow_21 a2 ((w_X3_beginFrom M 1030 1000), 0) k)) 7)).1.1 550 (Int32.toNatClampNeg (((l_X2_firstWrongRow_21 a2 ((w_X3_beginFrom M 1030 1000), 0) (cntN (fun k => c_X2_firstWrongRow_21 a2 (l_X2_firstWrongRow_21 a2 ((w_X3_beginFrom M 1030 1000), 0) k)) 7)).2) * 3)))) then True else True)) else True))
set_option maxRecDepth 20000 in
theorem rnX2_firstWrongRow {d : Nat} {M : Mm} {a2 : Int32}  (hp : p_X2_firstWrongRow M a2) : Rn (d + 3) mX2_firstWrongRow [.ref 510, .ref 550, .int a2] M (some (.int (r_X2_firstWrongRow M a2))) (w_X2_firstWrongRow M a2) := by
  refine Rn.of [some (.ref 510), some (.ref 550), some (.int a2), none, none, none, none] (by decide +kernel) rfl (Nat.le_of_ble_eq_true rfl) rfl (fun J g hr => ?_)
  unfold p_X2_firstWrongRow at hp
  refine j_aload_n g (i := 0) (by decide +kernel) rfl ?_
  refine j_gA g (b := 511) f2_20 (by decide +kernel) (by decide +kernel) (by decide +kernel) (by decide +kernel) ?_
  refine j_iconst g (n := 0) (0) (by decide +kernel) rfl ?_
  refine j_aS g (b := 1030) 7 (by decide +kernel) (by decide +kernel) (by decide +kernel) (vin_b (by decide +kernel)) (by decide +kernel) ?_
  refine j_astore_n g (i := 3) (by decide +kernel) (by decide) ?_
  dsimp only [stL, clL, hdL]
  refine j_aload_n g (i := 3) (by decide +kernel) rfl ?_
  refine j_aload_n g (i := 0) (by decide +kernel) rfl ?_
  refine j_gA g (b := 100) f2_12 (by decide +kernel) (by decide +kernel) (by decide +kernel) (by decide +kernel) ?_
  refine j_gA g (b := 1000) f2_59 (by decide +kernel) (by decide +kernel) (by decide +kernel) (by decide +kernel) ?_
  refine j_cV1v g v2_84 ⟨rfl, by decide⟩ (by decide +kernel) (by decide +kernel) (Nat.le_of_ble_eq_true rfl) (rnX3_beginFrom (by simp [isS]) (by simp [isS])) ?_
  refine j_iconst g (n := 0) (0) (by decide +kernel) rfl ?_
  refine j_istore g (i := 4) (by decide +kernel) (by decide) ?_
  dsimp only [stL, clL, hdL]
  obtain ⟨h0, hp⟩ := hp
  have hc_21_1 := h0
  obtain ⟨h0, hp⟩ := hp
  have hq_21_1 := h0
  obtain ⟨h0, hp⟩ := hp
  have hx_21_1 := h0
  refine sh_X2_firstWrongRow_21   g (σ0 := ((w_X3_beginFrom M 1030 1000), 0)) (cntN (fun k => c_X2_firstWrongRow_21 a2 (l_X2_firstWrongRow_21 a2 ((w_X3_beginFrom M 1030 1000), 0) k)) 7) hc_21_1 hq_21_1 ?_ _ _
  intro j5_1 j6_1
  refine j_iload g (i := 4) (by decide +kernel) rfl ?_
  refine j_iload_n g (i := 2) (by decide +kernel) rfl ?_
  refine j_icmp_ge g (off := 80) (tgt := 104) (by decide +kernel) (by decide) (fun c24 => ?_) (fun c24 => ?_)
  · rw [if_pos (show a2 ≤ ((l_X2_firstWrongRow_21 a2 ((w_X3_beginFrom M 1030 1000), 0) (cntN (fun k => c_X2_firstWrongRow_21 a2 (l_X2_firstWrongRow_21 a2 ((w_X3_beginFrom M 1030 1000), 0) k)) 7)).2) from c24)] at hp
    refine j_aload_n g (i := 0) (by decide +kernel) rfl ?_
    refine j_gA g (b := 100) f2_12 (by decide +kernel) (by decide +kernel) (by decide +kernel) (by decide +kernel) ?_
    refine j_aload_n g (i := 3) (by decide +kernel) rfl ?_
    obtain ⟨h0, hp⟩ := hp
    refine j_cV1r g v2_63 ⟨rfl, by decide⟩ (by decide +kernel) (by decide +kernel) (Nat.le_of_ble_eq_true rfl) (rnX5_openOnes (by simp [isS]) h0) ?_
    refine j_if_le g (off := 9) (tgt := 121) (by decide +kernel) (by decide) (fun c112 => ?_) (fun c112 => ?_)
    · rw [if_pos (show (r_X5_openOnes (l_X2_firstWrongRow_21 a2 ((w_X3_beginFrom M 1030 1000), 0) (cntN (fun k => c_X2_firstWrongRow_21 a2 (l_X2_firstWrongRow_21 a2 ((w_X3_beginFrom M 1030 1000), 0) k)) 7)).1 1030) ≤ 0 from c112)] at hp
      refine j_iconst g (n := 0) (0) (by decide +kernel) rfl ?_
      refine hr.1 _ _ _ _ (by decide +kernel) ⟨_, rfl, by first | rfl | exact b2i_nar | decide +kernel⟩ ?_ ?_
      · unfold r_X2_firstWrongRow; first | (simp only [if_pos (show a2 ≤ ((l_X2_firstWrongRow_21 a2 ((w_X3_beginFrom M 1030 1000), 0) (cntN (fun k => c_X2_firstWrongRow_21 a2 (l_X2_firstWrongRow_21 a2 ((w_X3_beginFrom M 1030 1000), 0) k)) 7)).2) from c24), if_pos (show (r_X5_openOnes (l_X2_firstWrongRow_21 a2 ((w_X3_beginFrom M 1030 1000), 0) (cntN (fun k => c_X2_firstWrongRow_21 a2 (l_X2_firstWrongRow_21 a2 ((w_X3_beginFrom M 1030 1000), 0) k)) 7)).1 1030) ≤ 0 from c112)]; done) | (simp only [if_pos (show a2 ≤ ((l_X2_firstWrongRow_21 a2 ((w_X3_beginFrom M 1030 1000), 0) (cntN (fun k => c_X2_firstWrongRow_21 a2 (l_X2_firstWrongRow_21 a2 ((w_X3_beginFrom M 1030 1000), 0) k)) 7)).2) from c24), if_pos (show (r_X5_openOnes (l_X2_firstWrongRow_21 a2 ((w_X3_beginFrom M 1030 1000), 0) (cntN (fun k => c_X2_firstWrongRow_21 a2 (l_X2_firstWrongRow_21 a2 ((w_X3_beginFrom M 1030 1000), 0) k)) 7)).1 1030) ≤ 0 from c112)]; rfl) | rfl
      · unfold w_X2_firstWrongRow; first | (simp only [if_pos (show a2 ≤ ((l_X2_firstWrongRow_21 a2 ((w_X3_beginFrom M 1030 1000), 0) (cntN (fun k => c_X2_firstWrongRow_21 a2 (l_X2_firstWrongRow_21 a2 ((w_X3_beginFrom M 1030 1000), 0) k)) 7)).2) from c24), if_pos (show (r_X5_openOnes (l_X2_firstWrongRow_21 a2 ((w_X3_beginFrom M 1030 1000), 0) (cntN (fun k => c_X2_firstWrongRow_21 a2 (l_X2_firstWrongRow_21 a2 ((w_X3_beginFrom M 1030 1000), 0) k)) 7)).1 1030) ≤ 0 from c112)]; done) | (simp only [if_pos (show a2 ≤ ((l_X2_firstWrongRow_21 a2 ((w_X3_beginFrom M 1030 1000), 0) (cntN (fun k => c_X2_firstWrongRow_21 a2 (l_X2_firstWrongRow_21 a2 ((w_X3_beginFrom M 1030 1000), 0) k)) 7)).2) from c24), if_pos (show (r_X5_openOnes (l_X2_firstWrongRow_21 a2 ((w_X3_beginFrom M 1030 1000), 0) (cntN (fun k => c_X2_firstWrongRow_21 a2 (l_X2_firstWrongRow_21 a2 ((w_X3_beginFrom M 1030 1000), 0) k)) 7)).1 1030) ≤ 0 from c112)]; rfl) | rfl
    · rw [if_neg (show ¬ ((r_X5_openOnes (l_X2_firstWrongRow_21 a2 ((w_X3_beginFrom M 1030 1000), 0) (cntN (fun k => c_X2_firstWrongRow_21 a2 (l_X2_firstWrongRow_21 a2 ((w_X3_beginFrom M 1030 1000), 0) k)) 7)).1 1030) ≤ 0) from c112)] at hp
      refine j_sipush g (n := 222) (222) (by decide +kernel) (by decide +kernel) ?_
      refine j_goto g (off := 4) (tgt := 122) (by decide +kernel) (by decide) ?_
      refine hr.1 _ _ _ _ (by decide +kernel) ⟨_, rfl, by first | rfl | exact b2i_nar | decide +kernel⟩ ?_ ?_
      · unfold r_X2_firstWrongRow; first | (simp only [if_pos (show a2 ≤ ((l_X2_firstWrongRow_21 a2 ((w_X3_beginFrom M 1030 1000), 0) (cntN (fun k => c_X2_firstWrongRow_21 a2 (l_X2_firstWrongRow_21 a2 ((w_X3_beginFrom M 1030 1000), 0) k)) 7)).2) from c24), if_neg (show ¬ ((r_X5_openOnes (l_X2_firstWrongRow_21 a2 ((w_X3_beginFrom M 1030 1000), 0) (cntN (fun k => c_X2_firstWrongRow_21 a2 (l_X2_firstWrongRow_21 a2 ((w_X3_beginFrom M 1030 1000), 0) k)) 7)).1 1030) ≤ 0) from c112)]; done) | (simp only [if_pos (show a2 ≤ ((l_X2_firstWrongRow_21 a2 ((w_X3_beginFrom M 1030 1000), 0) (cntN (fun k => c_X2_firstWrongRow_21 a2 (l_X2_firstWrongRow_21 a2 ((w_X3_beginFrom M 1030 1000), 0) k)) 7)).2) from c24), if_neg (show ¬ ((r_X5_openOnes (l_X2_firstWrongRow_21 a2 ((w_X3_beginFrom M 1030 1000), 0) (cntN (fun k => c_X2_firstWrongRow_21 a2 (l_X2_firstWrongRow_21 a2 ((w_X3_beginFrom M 1030 1000), 0) k)) 7)).1 1030) ≤ 0) from c112)]; rfl) | rfl
      · unfold w_X2_firstWrongRow; first | (simp only [if_pos (show a2 ≤ ((l_X2_firstWrongRow_21 a2 ((w_X3_beginFrom M 1030 1000), 0) (cntN (fun k => c_X2_firstWrongRow_21 a2 (l_X2_firstWrongRow_21 a2 ((w_X3_beginFrom M 1030 1000), 0) k)) 7)).2) from c24), if_neg (show ¬ ((r_X5_openOnes (l_X2_firstWrongRow_21 a2 ((w_X3_beginFrom M 1030 1000), 0) (cntN (fun k => c_X2_firstWrongRow_21 a2 (l_X2_firstWrongRow_21 a2 ((w_X3_beginFrom M 1030 1000), 0) k)) 7)).1 1030) ≤ 0) from c112)]; done) | (simp only [if_pos (show a2 ≤ ((l_X2_firstWrongRow_21 a2 ((w_X3_beginFrom M 1030 1000), 0) (cntN (fun k => c_X2_firstWrongRow_21 a2 (l_X2_firstWrongRow_21 a2 ((w_X3_beginFrom M 1030 1000), 0) k)) 7)).2) from c24), if_neg (show ¬ ((r_X5_openOnes (l_X2_firstWrongRow_21 a2 ((w_X3_beginFrom M 1030 1000), 0) (cntN (fun k => c_X2_firstWrongRow_21 a2 (l_X2_firstWrongRow_21 a2 ((w_X3_beginFrom M 1030 1000), 0) k)) 7)).1 1030) ≤ 0) from c112)]; rfl) | rfl
  · rw [if_neg (show ¬ (a2 ≤ ((l_X2_firstWrongRow_21 a2 ((w_X3_beginFrom M 1030 1000), 0) (cntN (fun k => c_X2_firstWrongRow_21 a2 (l_X2_firstWrongRow_21 a2 ((w_X3_beginFrom M 1030 1000), 0) k)) 7)).2)) from c24)] at hp
    refine j_aload_n g (i := 1) (by decide +kernel) rfl ?_
    refine j_iload g (i := 4) (by decide +kernel) rfl ?_
    refine j_iconst g (n := 3) (3) (by decide +kernel) rfl ?_
    refine j_imul g (by decide +kernel) ?_
    obtain ⟨h0, hp⟩ := hp
    refine j_ia g 18 (by decide +kernel) (by decide +kernel) (by decide +kernel) h0 ?_
    refine j_istore g (i := 5) (by decide +kernel) (by decide) ?_
    dsimp only [stL, clL, hdL]
    refine j_aload_n g (i := 0) (by decide +kernel) rfl ?_
    refine j_gA g (b := 100) f2_12 (by decide +kernel) (by decide +kernel) (by decide +kernel) (by decide +kernel) ?_
    refine j_aload_n g (i := 3) (by decide +kernel) rfl ?_
    refine j_iload g (i := 5) (by decide +kernel) rfl ?_
    obtain ⟨h0, hp⟩ := hp
    refine j_cV2r g v2_147 ⟨rfl, by decide⟩ (by decide +kernel) (by decide +kernel) (Nat.le_of_ble_eq_true rfl) (rnX5_isFree h0 (by simp [isS])) ?_
    refine j_if_ne g (off := 8) (tgt := 53) (by decide +kernel) (by decide) (fun c45 => ?_) (fun c45 => ?_)
    · rw [if_pos (show ¬ (b2i (cFree (l_X2_firstWrongRow_21 a2 ((w_X3_beginFrom M 1030 1000), 0) (cntN (fun k => c_X2_firstWrongRow_21 a2 (l_X2_firstWrongRow_21 a2 ((w_X3_beginFrom M 1030 1000), 0) k)) 7)).1 1030 ((l_X2_firstWrongRow_21 a2 ((w_X3_beginFrom M 1030 1000), 0) (cntN (fun k => c_X2_firstWrongRow_21 a2 (l_X2_firstWrongRow_21 a2 ((w_X3_beginFrom M 1030 1000), 0) k)) 7)).1.1 550 (Int32.toNatClampNeg (((l_X2_firstWrongRow_21 a2 ((w_X3_beginFrom M 1030 1000), 0) (cntN (fun k => c_X2_firstWrongRow_21 a2 (l_X2_firstWrongRow_21 a2 ((w_X3_beginFrom M 1030 1000), 0) k)) 7)).2) * 3))))) = 0 from c45)] at hp
      refine j_aload_n g (i := 0) (by decide +kernel) rfl ?_
      refine j_gA g (b := 100) f2_12 (by decide +kernel) (by decide +kernel) (by decide +kernel) (by decide +kernel) ?_
      refine j_aload_n g (i := 3) (by decide +kernel) rfl ?_
      refine j_iload g (i := 5) (by decide +kernel) rfl ?_
      obtain ⟨h0, hp⟩ := hp
      refine j_cV2r g v2_98 ⟨rfl, by decide⟩ (by decide +kernel) (by decide +kernel) (Nat.le_of_ble_eq_true rfl) (rnX5_carryOut (by simp [isS]) h0) ?_
      refine j_istore g (i := 6) (by decide +kernel) (by decide) ?_
      dsimp only [stL, clL, hdL]
      refine j_aload_n g (i := 1) (by decide +kernel) rfl ?_
      refine j_iload g (i := 4) (by decide +kernel) rfl ?_
      refine j_iconst g (n := 3) (3) (by decide +kernel) rfl ?_
      refine j_imul g (by decide +kernel) ?_
      refine j_iconst g (n := 1) (1) (by decide +kernel) rfl ?_
      refine j_iadd g (by decide +kernel) ?_
      obtain ⟨h0, hp⟩ := hp
      refine j_ia g 18 (by decide +kernel) (by decide +kernel) (by decide +kernel) h0 ?_
      refine j_aload_n g (i := 3) (by decide +kernel) rfl ?_
      refine j_gI g f2_88 (by decide +kernel) (by decide +kernel) (by decide +kernel) ?_
      refine j_icmp_ne g (off := 16) (tgt := 93) (by decide +kernel) (by decide) (fun c77 => ?_) (fun c77 => ?_)
      · rw [if_pos (show ¬ ((w_X5_carryOut (l_X2_firstWrongRow_21 a2 ((w_X3_beginFrom M 1030 1000), 0) (cntN (fun k => c_X2_firstWrongRow_21 a2 (l_X2_firstWrongRow_21 a2 ((w_X3_beginFrom M 1030 1000), 0) k)) 7)).1 1030 ((l_X2_firstWrongRow_21 a2 ((w_X3_beginFrom M 1030 1000), 0) (cntN (fun k => c_X2_firstWrongRow_21 a2 (l_X2_firstWrongRow_21 a2 ((w_X3_beginFrom M 1030 1000), 0) k)) 7)).1.1 550 (Int32.toNatClampNeg (((l_X2_firstWrongRow_21 a2 ((w_X3_beginFrom M 1030 1000), 0) (cntN (fun k => c_X2_firstWrongRow_21 a2 (l_X2_firstWrongRow_21 a2 ((w_X3_beginFrom M 1030 1000), 0) k)) 7)).2) * 3)))).1 550 (Int32.toNatClampNeg ((((l_X2_firstWrongRow_21 a2 ((w_X3_beginFrom M 1030 1000), 0) (cntN (fun k => c_X2_firstWrongRow_21 a2 (l_X2_firstWrongRow_21 a2 ((w_X3_beginFrom M 1030 1000), 0) k)) 7)).2) * 3) + 1))) = ((w_X5_carryOut (l_X2_firstWrongRow_21 a2 ((w_X3_beginFrom M 1030 1000), 0) (cntN (fun k => c_X2_firstWrongRow_21 a2 (l_X2_firstWrongRow_21 a2 ((w_X3_beginFrom M 1030 1000), 0) k)) 7)).1 1030 ((l_X2_firstWrongRow_21 a2 ((w_X3_beginFrom M 1030 1000), 0) (cntN (fun k => c_X2_firstWrongRow_21 a2 (l_X2_firstWrongRow_21 a2 ((w_X3_beginFrom M 1030 1000), 0) k)) 7)).1.1 550 (Int32.toNatClampNeg (((l_X2_firstWrongRow_21 a2 ((w_X3_beginFrom M 1030 1000), 0) (cntN (fun k => c_X2_firstWrongRow_21 a2 (l_X2_firstWrongRow_21 a2 ((w_X3_beginFrom M 1030 1000), 0) k)) 7)).2) * 3)))).1 1030 4) from c77)] at hp
        refine j_iload g (i := 4) (by decide +kernel) rfl ?_
        refine j_iconst g (n := 1) (1) (by decide +kernel) rfl ?_
        refine j_iadd g (by decide +kernel) ?_
        refine hr.1 _ _ _ _ (by decide +kernel) ⟨_, rfl, by first | rfl | exact b2i_nar | decide +kernel⟩ ?_ ?_
        · unfold r_X2_firstWrongRow; first | (simp only [if_neg (show ¬ (a2 ≤ ((l_X2_firstWrongRow_21 a2 ((w_X3_beginFrom M 1030 1000), 0) (cntN (fun k => c_X2_firstWrongRow_21 a2 (l_X2_firstWrongRow_21 a2 ((w_X3_beginFrom M 1030 1000), 0) k)) 7)).2)) from c24), if_pos (show ¬ (b2i (cFree (l_X2_firstWrongRow_21 a2 ((w_X3_beginFrom M 1030 1000), 0) (cntN (fun k => c_X2_firstWrongRow_21 a2 (l_X2_firstWrongRow_21 a2 ((w_X3_beginFrom M 1030 1000), 0) k)) 7)).1 1030 ((l_X2_firstWrongRow_21 a2 ((w_X3_beginFrom M 1030 1000), 0) (cntN (fun k => c_X2_firstWrongRow_21 a2 (l_X2_firstWrongRow_21 a2 ((w_X3_beginFrom M 1030 1000), 0) k)) 7)).1.1 550 (Int32.toNatClampNeg (((l_X2_firstWrongRow_21 a2 ((w_X3_beginFrom M 1030 1000), 0) (cntN (fun k => c_X2_firstWrongRow_21 a2 (l_X2_firstWrongRow_21 a2 ((w_X3_beginFrom M 1030 1000), 0) k)) 7)).2) * 3))))) = 0 from c45), if_pos (show ¬ ((w_X5_carryOut (l_X2_firstWrongRow_21 a2 ((w_X3_beginFrom M 1030 1000), 0) (cntN (fun k => c_X2_firstWrongRow_21 a2 (l_X2_firstWrongRow_21 a2 ((w_X3_beginFrom M 1030 1000), 0) k)) 7)).1 1030 ((l_X2_firstWrongRow_21 a2 ((w_X3_beginFrom M 1030 1000), 0) (cntN (fun k => c_X2_firstWrongRow_21 a2 (l_X2_firstWrongRow_21 a2 ((w_X3_beginFrom M 1030 1000), 0) k)) 7)).1.1 550 (Int32.toNatClampNeg (((l_X2_firstWrongRow_21 a2 ((w_X3_beginFrom M 1030 1000), 0) (cntN (fun k => c_X2_firstWrongRow_21 a2 (l_X2_firstWrongRow_21 a2 ((w_X3_beginFrom M 1030 1000), 0) k)) 7)).2) * 3)))).1 550 (Int32.toNatClampNeg ((((l_X2_firstWrongRow_21 a2 ((w_X3_beginFrom M 1030 1000), 0) (cntN (fun k => c_X2_firstWrongRow_21 a2 (l_X2_firstWrongRow_21 a2 ((w_X3_beginFrom M 1030 1000), 0) k)) 7)).2) * 3) + 1))) = ((w_X5_carryOut (l_X2_firstWrongRow_21 a2 ((w_X3_beginFrom M 1030 1000), 0) (cntN (fun k => c_X2_firstWrongRow_21 a2 (l_X2_firstWrongRow_21 a2 ((w_X3_beginFrom M 1030 1000), 0) k)) 7)).1 1030 ((l_X2_firstWrongRow_21 a2 ((w_X3_beginFrom M 1030 1000), 0) (cntN (fun k => c_X2_firstWrongRow_21 a2 (l_X2_firstWrongRow_21 a2 ((w_X3_beginFrom M 1030 1000), 0) k)) 7)).1.1 550 (Int32.toNatClampNeg (((l_X2_firstWrongRow_21 a2 ((w_X3_beginFrom M 1030 1000), 0) (cntN (fun k => c_X2_firstWrongRow_21 a2 (l_X2_firstWrongRow_21 a2 ((w_X3_beginFrom M 1030 1000), 0) k)) 7)).2) * 3)))).1 1030 4) from c77)]; done) | (simp only [if_neg (show ¬ (a2 ≤ ((l_X2_firstWrongRow_21 a2 ((w_X3_beginFrom M 1030 1000), 0) (cntN (fun k => c_X2_firstWrongRow_21 a2 (l_X2_firstWrongRow_21 a2 ((w_X3_beginFrom M 1030 1000), 0) k)) 7)).2)) from c24), if_pos (show ¬ (b2i (cFree (l_X2_firstWrongRow_21 a2 ((w_X3_beginFrom M 1030 1000), 0) (cntN (fun k => c_X2_firstWrongRow_21 a2 (l_X2_firstWrongRow_21 a2 ((w_X3_beginFrom M 1030 1000), 0) k)) 7)).1 1030 ((l_X2_firstWrongRow_21 a2 ((w_X3_beginFrom M 1030 1000), 0) (cntN (fun k => c_X2_firstWrongRow_21 a2 (l_X2_firstWrongRow_21 a2 ((w_X3_beginFrom M 1030 1000), 0) k)) 7)).1.1 550 (Int32.toNatClampNeg (((l_X2_firstWrongRow_21 a2 ((w_X3_beginFrom M 1030 1000), 0) (cntN (fun k => c_X2_firstWrongRow_21 a2 (l_X2_firstWrongRow_21 a2 ((w_X3_beginFrom M 1030 1000), 0) k)) 7)).2) * 3))))) = 0 from c45), if_pos (show ¬ ((w_X5_carryOut (l_X2_firstWrongRow_21 a2 ((w_X3_beginFrom M 1030 1000), 0) (cntN (fun k => c_X2_firstWrongRow_21 a2 (l_X2_firstWrongRow_21 a2 ((w_X3_beginFrom M 1030 1000), 0) k)) 7)).1 1030 ((l_X2_firstWrongRow_21 a2 ((w_X3_beginFrom M 1030 1000), 0) (cntN (fun k => c_X2_firstWrongRow_21 a2 (l_X2_firstWrongRow_21 a2 ((w_X3_beginFrom M 1030 1000), 0) k)) 7)).1.1 550 (Int32.toNatClampNeg (((l_X2_firstWrongRow_21 a2 ((w_X3_beginFrom M 1030 1000), 0) (cntN (fun k => c_X2_firstWrongRow_21 a2 (l_X2_firstWrongRow_21 a2 ((w_X3_beginFrom M 1030 1000), 0) k)) 7)).2) * 3)))).1 550 (Int32.toNatClampNeg ((((l_X2_firstWrongRow_21 a2 ((w_X3_beginFrom M 1030 1000), 0) (cntN (fun k => c_X2_firstWrongRow_21 a2 (l_X2_firstWrongRow_21 a2 ((w_X3_beginFrom M 1030 1000), 0) k)) 7)).2) * 3) + 1))) = ((w_X5_carryOut (l_X2_firstWrongRow_21 a2 ((w_X3_beginFrom M 1030 1000), 0) (cntN (fun k => c_X2_firstWrongRow_21 a2 (l_X2_firstWrongRow_21 a2 ((w_X3_beginFrom M 1030 1000), 0) k)) 7)).1 1030 ((l_X2_firstWrongRow_21 a2 ((w_X3_beginFrom M 1030 1000), 0) (cntN (fun k => c_X2_firstWrongRow_21 a2 (l_X2_firstWrongRow_21 a2 ((w_X3_beginFrom M 1030 1000), 0) k)) 7)).1.1 550 (Int32.toNatClampNeg (((l_X2_firstWrongRow_21 a2 ((w_X3_beginFrom M 1030 1000), 0) (cntN (fun k => c_X2_firstWrongRow_21 a2 (l_X2_firstWrongRow_21 a2 ((w_X3_beginFrom M 1030 1000), 0) k)) 7)).2) * 3)))).1 1030 4) from c77)]; rfl) | rfl
        · unfold w_X2_firstWrongRow; first | (simp only [if_neg (show ¬ (a2 ≤ ((l_X2_firstWrongRow_21 a2 ((w_X3_beginFrom M 1030 1000), 0) (cntN (fun k => c_X2_firstWrongRow_21 a2 (l_X2_firstWrongRow_21 a2 ((w_X3_beginFrom M 1030 1000), 0) k)) 7)).2)) from c24), if_pos (show ¬ (b2i (cFree (l_X2_firstWrongRow_21 a2 ((w_X3_beginFrom M 1030 1000), 0) (cntN (fun k => c_X2_firstWrongRow_21 a2 (l_X2_firstWrongRow_21 a2 ((w_X3_beginFrom M 1030 1000), 0) k)) 7)).1 1030 ((l_X2_firstWrongRow_21 a2 ((w_X3_beginFrom M 1030 1000), 0) (cntN (fun k => c_X2_firstWrongRow_21 a2 (l_X2_firstWrongRow_21 a2 ((w_X3_beginFrom M 1030 1000), 0) k)) 7)).1.1 550 (Int32.toNatClampNeg (((l_X2_firstWrongRow_21 a2 ((w_X3_beginFrom M 1030 1000), 0) (cntN (fun k => c_X2_firstWrongRow_21 a2 (l_X2_firstWrongRow_21 a2 ((w_X3_beginFrom M 1030 1000), 0) k)) 7)).2) * 3))))) = 0 from c45), if_pos (show ¬ ((w_X5_carryOut (l_X2_firstWrongRow_21 a2 ((w_X3_beginFrom M 1030 1000), 0) (cntN (fun k => c_X2_firstWrongRow_21 a2 (l_X2_firstWrongRow_21 a2 ((w_X3_beginFrom M 1030 1000), 0) k)) 7)).1 1030 ((l_X2_firstWrongRow_21 a2 ((w_X3_beginFrom M 1030 1000), 0) (cntN (fun k => c_X2_firstWrongRow_21 a2 (l_X2_firstWrongRow_21 a2 ((w_X3_beginFrom M 1030 1000), 0) k)) 7)).1.1 550 (Int32.toNatClampNeg (((l_X2_firstWrongRow_21 a2 ((w_X3_beginFrom M 1030 1000), 0) (cntN (fun k => c_X2_firstWrongRow_21 a2 (l_X2_firstWrongRow_21 a2 ((w_X3_beginFrom M 1030 1000), 0) k)) 7)).2) * 3)))).1 550 (Int32.toNatClampNeg ((((l_X2_firstWrongRow_21 a2 ((w_X3_beginFrom M 1030 1000), 0) (cntN (fun k => c_X2_firstWrongRow_21 a2 (l_X2_firstWrongRow_21 a2 ((w_X3_beginFrom M 1030 1000), 0) k)) 7)).2) * 3) + 1))) = ((w_X5_carryOut (l_X2_firstWrongRow_21 a2 ((w_X3_beginFrom M 1030 1000), 0) (cntN (fun k => c_X2_firstWrongRow_21 a2 (l_X2_firstWrongRow_21 a2 ((w_X3_beginFrom M 1030 1000), 0) k)) 7)).1 1030 ((l_X2_firstWrongRow_21 a2 ((w_X3_beginFrom M 1030 1000), 0) (cntN (fun k => c_X2_firstWrongRow_21 a2 (l_X2_firstWrongRow_21 a2 ((w_X3_beginFrom M 1030 1000), 0) k)) 7)).1.1 550 (Int32.toNatClampNeg (((l_X2_firstWrongRow_21 a2 ((w_X3_beginFrom M 1030 1000), 0) (cntN (fun k => c_X2_firstWrongRow_21 a2 (l_X2_firstWrongRow_21 a2 ((w_X3_beginFrom M 1030 1000), 0) k)) 7)).2) * 3)))).1 1030 4) from c77)]; done) | (simp only [if_neg (show ¬ (a2 ≤ ((l_X2_firstWrongRow_21 a2 ((w_X3_beginFrom M 1030 1000), 0) (cntN (fun k => c_X2_firstWrongRow_21 a2 (l_X2_firstWrongRow_21 a2 ((w_X3_beginFrom M 1030 1000), 0) k)) 7)).2)) from c24), if_pos (show ¬ (b2i (cFree (l_X2_firstWrongRow_21 a2 ((w_X3_beginFrom M 1030 1000), 0) (cntN (fun k => c_X2_firstWrongRow_21 a2 (l_X2_firstWrongRow_21 a2 ((w_X3_beginFrom M 1030 1000), 0) k)) 7)).1 1030 ((l_X2_firstWrongRow_21 a2 ((w_X3_beginFrom M 1030 1000), 0) (cntN (fun k => c_X2_firstWrongRow_21 a2 (l_X2_firstWrongRow_21 a2 ((w_X3_beginFrom M 1030 1000), 0) k)) 7)).1.1 550 (Int32.toNatClampNeg (((l_X2_firstWrongRow_21 a2 ((w_X3_beginFrom M 1030 1000), 0) (cntN (fun k => c_X2_firstWrongRow_21 a2 (l_X2_firstWrongRow_21 a2 ((w_X3_beginFrom M 1030 1000), 0) k)) 7)).2) * 3))))) = 0 from c45), if_pos (show ¬ ((w_X5_carryOut (l_X2_firstWrongRow_21 a2 ((w_X3_beginFrom M 1030 1000), 0) (cntN (fun k => c_X2_firstWrongRow_21 a2 (l_X2_firstWrongRow_21 a2 ((w_X3_beginFrom M 1030 1000), 0) k)) 7)).1 1030 ((l_X2_firstWrongRow_21 a2 ((w_X3_beginFrom M 1030 1000), 0) (cntN (fun k => c_X2_firstWrongRow_21 a2 (l_X2_firstWrongRow_21 a2 ((w_X3_beginFrom M 1030 1000), 0) k)) 7)).1.1 550 (Int32.toNatClampNeg (((l_X2_firstWrongRow_21 a2 ((w_X3_beginFrom M 1030 1000), 0) (cntN (fun k => c_X2_firstWrongRow_21 a2 (l_X2_firstWrongRow_21 a2 ((w_X3_beginFrom M 1030 1000), 0) k)) 7)).2) * 3)))).1 550 (Int32.toNatClampNeg ((((l_X2_firstWrongRow_21 a2 ((w_X3_beginFrom M 1030 1000), 0) (cntN (fun k => c_X2_firstWrongRow_21 a2 (l_X2_firstWrongRow_21 a2 ((w_X3_beginFrom M 1030 1000), 0) k)) 7)).2) * 3) + 1))) = ((w_X5_carryOut (l_X2_firstWrongRow_21 a2 ((w_X3_beginFrom M 1030 1000), 0) (cntN (fun k => c_X2_firstWrongRow_21 a2 (l_X2_firstWrongRow_21 a2 ((w_X3_beginFrom M 1030 1000), 0) k)) 7)).1 1030 ((l_X2_firstWrongRow_21 a2 ((w_X3_beginFrom M 1030 1000), 0) (cntN (fun k => c_X2_firstWrongRow_21 a2 (l_X2_firstWrongRow_21 a2 ((w_X3_beginFrom M 1030 1000), 0) k)) 7)).1.1 550 (Int32.toNatClampNeg (((l_X2_firstWrongRow_21 a2 ((w_X3_beginFrom M 1030 1000), 0) (cntN (fun k => c_X2_firstWrongRow_21 a2 (l_X2_firstWrongRow_21 a2 ((w_X3_beginFrom M 1030 1000), 0) k)) 7)).2) * 3)))).1 1030 4) from c77)]; rfl) | rfl
      · rw [if_neg (show ¬ (¬ ((w_X5_carryOut (l_X2_firstWrongRow_21 a2 ((w_X3_beginFrom M 1030 1000), 0) (cntN (fun k => c_X2_firstWrongRow_21 a2 (l_X2_firstWrongRow_21 a2 ((w_X3_beginFrom M 1030 1000), 0) k)) 7)).1 1030 ((l_X2_firstWrongRow_21 a2 ((w_X3_beginFrom M 1030 1000), 0) (cntN (fun k => c_X2_firstWrongRow_21 a2 (l_X2_firstWrongRow_21 a2 ((w_X3_beginFrom M 1030 1000), 0) k)) 7)).1.1 550 (Int32.toNatClampNeg (((l_X2_firstWrongRow_21 a2 ((w_X3_beginFrom M 1030 1000), 0) (cntN (fun k => c_X2_firstWrongRow_21 a2 (l_X2_firstWrongRow_21 a2 ((w_X3_beginFrom M 1030 1000), 0) k)) 7)).2) * 3)))).1 550 (Int32.toNatClampNeg ((((l_X2_firstWrongRow_21 a2 ((w_X3_beginFrom M 1030 1000), 0) (cntN (fun k => c_X2_firstWrongRow_21 a2 (l_X2_firstWrongRow_21 a2 ((w_X3_beginFrom M 1030 1000), 0) k)) 7)).2) * 3) + 1))) = ((w_X5_carryOut (l_X2_firstWrongRow_21 a2 ((w_X3_beginFrom M 1030 1000), 0) (cntN (fun k => c_X2_firstWrongRow_21 a2 (l_X2_firstWrongRow_21 a2 ((w_X3_beginFrom M 1030 1000), 0) k)) 7)).1 1030 ((l_X2_firstWrongRow_21 a2 ((w_X3_beginFrom M 1030 1000), 0) (cntN (fun k => c_X2_firstWrongRow_21 a2 (l_X2_firstWrongRow_21 a2 ((w_X3_beginFrom M 1030 1000), 0) k)) 7)).1.1 550 (Int32.toNatClampNeg (((l_X2_firstWrongRow_21 a2 ((w_X3_beginFrom M 1030 1000), 0) (cntN (fun k => c_X2_firstWrongRow_21 a2 (l_X2_firstWrongRow_21 a2 ((w_X3_beginFrom M 1030 1000), 0) k)) 7)).2) * 3)))).1 1030 4)) from c77)] at hp
        refine j_aload_n g (i := 1) (by decide +kernel) rfl ?_
        refine j_iload g (i := 4) (by decide +kernel) rfl ?_
        refine j_iconst g (n := 3) (3) (by decide +kernel) rfl ?_
        refine j_imul g (by decide +kernel) ?_
        refine j_iconst g (n := 2) (2) (by decide +kernel) rfl ?_
        refine j_iadd g (by decide +kernel) ?_
        obtain ⟨h0, hp⟩ := hp
        refine j_ia g 18 (by decide +kernel) (by decide +kernel) (by decide +kernel) h0 ?_
        refine j_iload g (i := 6) (by decide +kernel) rfl ?_
        refine j_icmp_eq g (off := 8) (tgt := 98) (by decide +kernel) (by decide) (fun c90 => ?_) (fun c90 => ?_)
        · rw [if_pos (show ((w_X5_carryOut (l_X2_firstWrongRow_21 a2 ((w_X3_beginFrom M 1030 1000), 0) (cntN (fun k => c_X2_firstWrongRow_21 a2 (l_X2_firstWrongRow_21 a2 ((w_X3_beginFrom M 1030 1000), 0) k)) 7)).1 1030 ((l_X2_firstWrongRow_21 a2 ((w_X3_beginFrom M 1030 1000), 0) (cntN (fun k => c_X2_firstWrongRow_21 a2 (l_X2_firstWrongRow_21 a2 ((w_X3_beginFrom M 1030 1000), 0) k)) 7)).1.1 550 (Int32.toNatClampNeg (((l_X2_firstWrongRow_21 a2 ((w_X3_beginFrom M 1030 1000), 0) (cntN (fun k => c_X2_firstWrongRow_21 a2 (l_X2_firstWrongRow_21 a2 ((w_X3_beginFrom M 1030 1000), 0) k)) 7)).2) * 3)))).1 550 (Int32.toNatClampNeg ((((l_X2_firstWrongRow_21 a2 ((w_X3_beginFrom M 1030 1000), 0) (cntN (fun k => c_X2_firstWrongRow_21 a2 (l_X2_firstWrongRow_21 a2 ((w_X3_beginFrom M 1030 1000), 0) k)) 7)).2) * 3) + 2))) = (r_X5_carryOut (l_X2_firstWrongRow_21 a2 ((w_X3_beginFrom M 1030 1000), 0) (cntN (fun k => c_X2_firstWrongRow_21 a2 (l_X2_firstWrongRow_21 a2 ((w_X3_beginFrom M 1030 1000), 0) k)) 7)).1 1030 ((l_X2_firstWrongRow_21 a2 ((w_X3_beginFrom M 1030 1000), 0) (cntN (fun k => c_X2_firstWrongRow_21 a2 (l_X2_firstWrongRow_21 a2 ((w_X3_beginFrom M 1030 1000), 0) k)) 7)).1.1 550 (Int32.toNatClampNeg (((l_X2_firstWrongRow_21 a2 ((w_X3_beginFrom M 1030 1000), 0) (cntN (fun k => c_X2_firstWrongRow_21 a2 (l_X2_firstWrongRow_21 a2 ((w_X3_beginFrom M 1030 1000), 0) k)) 7)).2) * 3)))) from c90)] at hp
          refine absurd (ci_X2_firstWrongRow_21.mpr ?_) hx_21_1
          simp only [if_neg (show ¬ (a2 ≤ ((l_X2_firstWrongRow_21 a2 ((w_X3_beginFrom M 1030 1000), 0) (cntN (fun k => c_X2_firstWrongRow_21 a2 (l_X2_firstWrongRow_21 a2 ((w_X3_beginFrom M 1030 1000), 0) k)) 7)).2)) from c24), if_pos (show ¬ (b2i (cFree (l_X2_firstWrongRow_21 a2 ((w_X3_beginFrom M 1030 1000), 0) (cntN (fun k => c_X2_firstWrongRow_21 a2 (l_X2_firstWrongRow_21 a2 ((w_X3_beginFrom M 1030 1000), 0) k)) 7)).1 1030 ((l_X2_firstWrongRow_21 a2 ((w_X3_beginFrom M 1030 1000), 0) (cntN (fun k => c_X2_firstWrongRow_21 a2 (l_X2_firstWrongRow_21 a2 ((w_X3_beginFrom M 1030 1000), 0) k)) 7)).1.1 550 (Int32.toNatClampNeg (((l_X2_firstWrongRow_21 a2 ((w_X3_beginFrom M 1030 1000), 0) (cntN (fun k => c_X2_firstWrongRow_21 a2 (l_X2_firstWrongRow_21 a2 ((w_X3_beginFrom M 1030 1000), 0) k)) 7)).2) * 3))))) = 0 from c45), if_neg (show ¬ (¬ ((w_X5_carryOut (l_X2_firstWrongRow_21 a2 ((w_X3_beginFrom M 1030 1000), 0) (cntN (fun k => c_X2_firstWrongRow_21 a2 (l_X2_firstWrongRow_21 a2 ((w_X3_beginFrom M 1030 1000), 0) k)) 7)).1 1030 ((l_X2_firstWrongRow_21 a2 ((w_X3_beginFrom M 1030 1000), 0) (cntN (fun k => c_X2_firstWrongRow_21 a2 (l_X2_firstWrongRow_21 a2 ((w_X3_beginFrom M 1030 1000), 0) k)) 7)).1.1 550 (Int32.toNatClampNeg (((l_X2_firstWrongRow_21 a2 ((w_X3_beginFrom M 1030 1000), 0) (cntN (fun k => c_X2_firstWrongRow_21 a2 (l_X2_firstWrongRow_21 a2 ((w_X3_beginFrom M 1030 1000), 0) k)) 7)).2) * 3)))).1 550 (Int32.toNatClampNeg ((((l_X2_firstWrongRow_21 a2 ((w_X3_beginFrom M 1030 1000), 0) (cntN (fun k => c_X2_firstWrongRow_21 a2 (l_X2_firstWrongRow_21 a2 ((w_X3_beginFrom M 1030 1000), 0) k)) 7)).2) * 3) + 1))) = ((w_X5_carryOut (l_X2_firstWrongRow_21 a2 ((w_X3_beginFrom M 1030 1000), 0) (cntN (fun k => c_X2_firstWrongRow_21 a2 (l_X2_firstWrongRow_21 a2 ((w_X3_beginFrom M 1030 1000), 0) k)) 7)).1 1030 ((l_X2_firstWrongRow_21 a2 ((w_X3_beginFrom M 1030 1000), 0) (cntN (fun k => c_X2_firstWrongRow_21 a2 (l_X2_firstWrongRow_21 a2 ((w_X3_beginFrom M 1030 1000), 0) k)) 7)).1.1 550 (Int32.toNatClampNeg (((l_X2_firstWrongRow_21 a2 ((w_X3_beginFrom M 1030 1000), 0) (cntN (fun k => c_X2_firstWrongRow_21 a2 (l_X2_firstWrongRow_21 a2 ((w_X3_beginFrom M 1030 1000), 0) k)) 7)).2) * 3)))).1 1030 4)) from c77), if_pos (show ((w_X5_carryOut (l_X2_firstWrongRow_21 a2 ((w_X3_beginFrom M 1030 1000), 0) (cntN (fun k => c_X2_firstWrongRow_21 a2 (l_X2_firstWrongRow_21 a2 ((w_X3_beginFrom M 1030 1000), 0) k)) 7)).1 1030 ((l_X2_firstWrongRow_21 a2 ((w_X3_beginFrom M 1030 1000), 0) (cntN (fun k => c_X2_firstWrongRow_21 a2 (l_X2_firstWrongRow_21 a2 ((w_X3_beginFrom M 1030 1000), 0) k)) 7)).1.1 550 (Int32.toNatClampNeg (((l_X2_firstWrongRow_21 a2 ((w_X3_beginFrom M 1030 1000), 0) (cntN (fun k => c_X2_firstWrongRow_21 a2 (l_X2_firstWrongRow_21 a2 ((w_X3_beginFrom M 1030 1000), 0) k)) 7)).2) * 3)))).1 550 (Int32.toNatClampNeg ((((l_X2_firstWrongRow_21 a2 ((w_X3_beginFrom M 1030 1000), 0) (cntN (fun k => c_X2_firstWrongRow_21 a2 (l_X2_firstWrongRow_21 a2 ((w_X3_beginFrom M 1030 1000), 0) k)) 7)).2) * 3) + 2))) = (r_X5_carryOut (l_X2_firstWrongRow_21 a2 ((w_X3_beginFrom M 1030 1000), 0) (cntN (fun k => c_X2_firstWrongRow_21 a2 (l_X2_firstWrongRow_21 a2 ((w_X3_beginFrom M 1030 1000), 0) k)) 7)).1 1030 ((l_X2_firstWrongRow_21 a2 ((w_X3_beginFrom M 1030 1000), 0) (cntN (fun k => c_X2_firstWrongRow_21 a2 (l_X2_firstWrongRow_21 a2 ((w_X3_beginFrom M 1030 1000), 0) k)) 7)).1.1 550 (Int32.toNatClampNeg (((l_X2_firstWrongRow_21 a2 ((w_X3_beginFrom M 1030 1000), 0) (cntN (fun k => c_X2_firstWrongRow_21 a2 (l_X2_firstWrongRow_21 a2 ((w_X3_beginFrom M 1030 1000), 0) k)) 7)).2) * 3)))) from c90)]
        · rw [if_neg (show ¬ (((w_X5_carryOut (l_X2_firstWrongRow_21 a2 ((w_X3_beginFrom M 1030 1000), 0) (cntN (fun k => c_X2_firstWrongRow_21 a2 (l_X2_firstWrongRow_21 a2 ((w_X3_beginFrom M 1030 1000), 0) k)) 7)).1 1030 ((l_X2_firstWrongRow_21 a2 ((w_X3_beginFrom M 1030 1000), 0) (cntN (fun k => c_X2_firstWrongRow_21 a2 (l_X2_firstWrongRow_21 a2 ((w_X3_beginFrom M 1030 1000), 0) k)) 7)).1.1 550 (Int32.toNatClampNeg (((l_X2_firstWrongRow_21 a2 ((w_X3_beginFrom M 1030 1000), 0) (cntN (fun k => c_X2_firstWrongRow_21 a2 (l_X2_firstWrongRow_21 a2 ((w_X3_beginFrom M 1030 1000), 0) k)) 7)).2) * 3)))).1 550 (Int32.toNatClampNeg ((((l_X2_firstWrongRow_21 a2 ((w_X3_beginFrom M 1030 1000), 0) (cntN (fun k => c_X2_firstWrongRow_21 a2 (l_X2_firstWrongRow_21 a2 ((w_X3_beginFrom M 1030 1000), 0) k)) 7)).2) * 3) + 2))) = (r_X5_carryOut (l_X2_firstWrongRow_21 a2 ((w_X3_beginFrom M 1030 1000), 0) (cntN (fun k => c_X2_firstWrongRow_21 a2 (l_X2_firstWrongRow_21 a2 ((w_X3_beginFrom M 1030 1000), 0) k)) 7)).1 1030 ((l_X2_firstWrongRow_21 a2 ((w_X3_beginFrom M 1030 1000), 0) (cntN (fun k => c_X2_firstWrongRow_21 a2 (l_X2_firstWrongRow_21 a2 ((w_X3_beginFrom M 1030 1000), 0) k)) 7)).1.1 550 (Int32.toNatClampNeg (((l_X2_firstWrongRow_21 a2 ((w_X3_beginFrom M 1030 1000), 0) (cntN (fun k => c_X2_firstWrongRow_21 a2 (l_X2_firstWrongRow_21 a2 ((w_X3_beginFrom M 1030 1000), 0) k)) 7)).2) * 3))))) from c90)] at hp
          refine j_iload g (i := 4) (by decide +kernel) rfl ?_
          refine j_iconst g (n := 1) (1) (by decide +kernel) rfl ?_
          refine j_iadd g (by decide +kernel) ?_
          refine hr.1 _ _ _ _ (by decide +kernel) ⟨_, rfl, by first | rfl | exact b2i_nar | decide +kernel⟩ ?_ ?_
          · unfold r_X2_firstWrongRow; first | (simp only [if_neg (show ¬ (a2 ≤ ((l_X2_firstWrongRow_21 a2 ((w_X3_beginFrom M 1030 1000), 0) (cntN (fun k => c_X2_firstWrongRow_21 a2 (l_X2_firstWrongRow_21 a2 ((w_X3_beginFrom M 1030 1000), 0) k)) 7)).2)) from c24), if_pos (show ¬ (b2i (cFree (l_X2_firstWrongRow_21 a2 ((w_X3_beginFrom M 1030 1000), 0) (cntN (fun k => c_X2_firstWrongRow_21 a2 (l_X2_firstWrongRow_21 a2 ((w_X3_beginFrom M 1030 1000), 0) k)) 7)).1 1030 ((l_X2_firstWrongRow_21 a2 ((w_X3_beginFrom M 1030 1000), 0) (cntN (fun k => c_X2_firstWrongRow_21 a2 (l_X2_firstWrongRow_21 a2 ((w_X3_beginFrom M 1030 1000), 0) k)) 7)).1.1 550 (Int32.toNatClampNeg (((l_X2_firstWrongRow_21 a2 ((w_X3_beginFrom M 1030 1000), 0) (cntN (fun k => c_X2_firstWrongRow_21 a2 (l_X2_firstWrongRow_21 a2 ((w_X3_beginFrom M 1030 1000), 0) k)) 7)).2) * 3))))) = 0 from c45), if_neg (show ¬ (¬ ((w_X5_carryOut (l_X2_firstWrongRow_21 a2 ((w_X3_beginFrom M 1030 1000), 0) (cntN (fun k => c_X2_firstWrongRow_21 a2 (l_X2_firstWrongRow_21 a2 ((w_X3_beginFrom M 1030 1000), 0) k)) 7)).1 1030 ((l_X2_firstWrongRow_21 a2 ((w_X3_beginFrom M 1030 1000), 0) (cntN (fun k => c_X2_firstWrongRow_21 a2 (l_X2_firstWrongRow_21 a2 ((w_X3_beginFrom M 1030 1000), 0) k)) 7)).1.1 550 (Int32.toNatClampNeg (((l_X2_firstWrongRow_21 a2 ((w_X3_beginFrom M 1030 1000), 0) (cntN (fun k => c_X2_firstWrongRow_21 a2 (l_X2_firstWrongRow_21 a2 ((w_X3_beginFrom M 1030 1000), 0) k)) 7)).2) * 3)))).1 550 (Int32.toNatClampNeg ((((l_X2_firstWrongRow_21 a2 ((w_X3_beginFrom M 1030 1000), 0) (cntN (fun k => c_X2_firstWrongRow_21 a2 (l_X2_firstWrongRow_21 a2 ((w_X3_beginFrom M 1030 1000), 0) k)) 7)).2) * 3) + 1))) = ((w_X5_carryOut (l_X2_firstWrongRow_21 a2 ((w_X3_beginFrom M 1030 1000), 0) (cntN (fun k => c_X2_firstWrongRow_21 a2 (l_X2_firstWrongRow_21 a2 ((w_X3_beginFrom M 1030 1000), 0) k)) 7)).1 1030 ((l_X2_firstWrongRow_21 a2 ((w_X3_beginFrom M 1030 1000), 0) (cntN (fun k => c_X2_firstWrongRow_21 a2 (l_X2_firstWrongRow_21 a2 ((w_X3_beginFrom M 1030 1000), 0) k)) 7)).1.1 550 (Int32.toNatClampNeg (((l_X2_firstWrongRow_21 a2 ((w_X3_beginFrom M 1030 1000), 0) (cntN (fun k => c_X2_firstWrongRow_21 a2 (l_X2_firstWrongRow_21 a2 ((w_X3_beginFrom M 1030 1000), 0) k)) 7)).2) * 3)))).1 1030 4)) from c77), if_neg (show ¬ (((w_X5_carryOut (l_X2_firstWrongRow_21 a2 ((w_X3_beginFrom M 1030 1000), 0) (cntN (fun k => c_X2_firstWrongRow_21 a2 (l_X2_firstWrongRow_21 a2 ((w_X3_beginFrom M 1030 1000), 0) k)) 7)).1 1030 ((l_X2_firstWrongRow_21 a2 ((w_X3_beginFrom M 1030 1000), 0) (cntN (fun k => c_X2_firstWrongRow_21 a2 (l_X2_firstWrongRow_21 a2 ((w_X3_beginFrom M 1030 1000), 0) k)) 7)).1.1 550 (Int32.toNatClampNeg (((l_X2_firstWrongRow_21 a2 ((w_X3_beginFrom M 1030 1000), 0) (cntN (fun k => c_X2_firstWrongRow_21 a2 (l_X2_firstWrongRow_21 a2 ((w_X3_beginFrom M 1030 1000), 0) k)) 7)).2) * 3)))).1 550 (Int32.toNatClampNeg ((((l_X2_firstWrongRow_21 a2 ((w_X3_beginFrom M 1030 1000), 0) (cntN (fun k => c_X2_firstWrongRow_21 a2 (l_X2_firstWrongRow_21 a2 ((w_X3_beginFrom M 1030 1000), 0) k)) 7)).2) * 3) + 2))) = (r_X5_carryOut (l_X2_firstWrongRow_21 a2 ((w_X3_beginFrom M 1030 1000), 0) (cntN (fun k => c_X2_firstWrongRow_21 a2 (l_X2_firstWrongRow_21 a2 ((w_X3_beginFrom M 1030 1000), 0) k)) 7)).1 1030 ((l_X2_firstWrongRow_21 a2 ((w_X3_beginFrom M 1030 1000), 0) (cntN (fun k => c_X2_firstWrongRow_21 a2 (l_X2_firstWrongRow_21 a2 ((w_X3_beginFrom M 1030 1000), 0) k)) 7)).1.1 550 (Int32.toNatClampNeg (((l_X2_firstWrongRow_21 a2 ((w_X3_beginFrom M 1030 1000), 0) (cntN (fun k => c_X2_firstWrongRow_21 a2 (l_X2_firstWrongRow_21 a2 ((w_X3_beginFrom M 1030 1000), 0) k)) 7)).2) * 3))))) from c90)]; done) | (simp only [if_neg (show ¬ (a2 ≤ ((l_X2_firstWrongRow_21 a2 ((w_X3_beginFrom M 1030 1000), 0) (cntN (fun k => c_X2_firstWrongRow_21 a2 (l_X2_firstWrongRow_21 a2 ((w_X3_beginFrom M 1030 1000), 0) k)) 7)).2)) from c24), if_pos (show ¬ (b2i (cFree (l_X2_firstWrongRow_21 a2 ((w_X3_beginFrom M 1030 1000), 0) (cntN (fun k => c_X2_firstWrongRow_21 a2 (l_X2_firstWrongRow_21 a2 ((w_X3_beginFrom M 1030 1000), 0) k)) 7)).1 1030 ((l_X2_firstWrongRow_21 a2 ((w_X3_beginFrom M 1030 1000), 0) (cntN (fun k => c_X2_firstWrongRow_21 a2 (l_X2_firstWrongRow_21 a2 ((w_X3_beginFrom M 1030 1000), 0) k)) 7)).1.1 550 (Int32.toNatClampNeg (((l_X2_firstWrongRow_21 a2 ((w_X3_beginFrom M 1030 1000), 0) (cntN (fun k => c_X2_firstWrongRow_21 a2 (l_X2_firstWrongRow_21 a2 ((w_X3_beginFrom M 1030 1000), 0) k)) 7)).2) * 3))))) = 0 from c45), if_neg (show ¬ (¬ ((w_X5_carryOut (l_X2_firstWrongRow_21 a2 ((w_X3_beginFrom M 1030 1000), 0) (cntN (fun k => c_X2_firstWrongRow_21 a2 (l_X2_firstWrongRow_21 a2 ((w_X3_beginFrom M 1030 1000), 0) k)) 7)).1 1030 ((l_X2_firstWrongRow_21 a2 ((w_X3_beginFrom M 1030 1000), 0) (cntN (fun k => c_X2_firstWrongRow_21 a2 (l_X2_firstWrongRow_21 a2 ((w_X3_beginFrom M 1030 1000), 0) k)) 7)).1.1 550 (Int32.toNatClampNeg (((l_X2_firstWrongRow_21 a2 ((w_X3_beginFrom M 1030 1000), 0) (cntN (fun k => c_X2_firstWrongRow_21 a2 (l_X2_firstWrongRow_21 a2 ((w_X3_beginFrom M 1030 1000), 0) k)) 7)).2) * 3)))).1 550 (Int32.toNatClampNeg ((((l_X2_firstWrongRow_21 a2 ((w_X3_beginFrom M 1030 1000), 0) (cntN (fun k => c_X2_firstWrongRow_21 a2 (l_X2_firstWrongRow_21 a2 ((w_X3_beginFrom M 1030 1000), 0) k)) 7)).2) * 3) + 1))) = ((w_X5_carryOut (l_X2_firstWrongRow_21 a2 ((w_X3_beginFrom M 1030 1000), 0) (cntN (fun k => c_X2_firstWrongRow_21 a2 (l_X2_firstWrongRow_21 a2 ((w_X3_beginFrom M 1030 1000), 0) k)) 7)).1 1030 ((l_X2_firstWrongRow_21 a2 ((w_X3_beginFrom M 1030 1000), 0) (cntN (fun k => c_X2_firstWrongRow_21 a2 (l_X2_firstWrongRow_21 a2 ((w_X3_beginFrom M 1030 1000), 0) k)) 7)).1.1 550 (Int32.toNatClampNeg (((l_X2_firstWrongRow_21 a2 ((w_X3_beginFrom M 1030 1000), 0) (cntN (fun k => c_X2_firstWrongRow_21 a2 (l_X2_firstWrongRow_21 a2 ((w_X3_beginFrom M 1030 1000), 0) k)) 7)).2) * 3)))).1 1030 4)) from c77), if_neg (show ¬ (((w_X5_carryOut (l_X2_firstWrongRow_21 a2 ((w_X3_beginFrom M 1030 1000), 0) (cntN (fun k => c_X2_firstWrongRow_21 a2 (l_X2_firstWrongRow_21 a2 ((w_X3_beginFrom M 1030 1000), 0) k)) 7)).1 1030 ((l_X2_firstWrongRow_21 a2 ((w_X3_beginFrom M 1030 1000), 0) (cntN (fun k => c_X2_firstWrongRow_21 a2 (l_X2_firstWrongRow_21 a2 ((w_X3_beginFrom M 1030 1000), 0) k)) 7)).1.1 550 (Int32.toNatClampNeg (((l_X2_firstWrongRow_21 a2 ((w_X3_beginFrom M 1030 1000), 0) (cntN (fun k => c_X2_firstWrongRow_21 a2 (l_X2_firstWrongRow_21 a2 ((w_X3_beginFrom M 1030 1000), 0) k)) 7)).2) * 3)))).1 550 (Int32.toNatClampNeg ((((l_X2_firstWrongRow_21 a2 ((w_X3_beginFrom M 1030 1000), 0) (cntN (fun k => c_X2_firstWrongRow_21 a2 (l_X2_firstWrongRow_21 a2 ((w_X3_beginFrom M 1030 1000), 0) k)) 7)).2) * 3) + 2))) = (r_X5_carryOut (l_X2_firstWrongRow_21 a2 ((w_X3_beginFrom M 1030 1000), 0) (cntN (fun k => c_X2_firstWrongRow_21 a2 (l_X2_firstWrongRow_21 a2 ((w_X3_beginFrom M 1030 1000), 0) k)) 7)).1 1030 ((l_X2_firstWrongRow_21 a2 ((w_X3_beginFrom M 1030 1000), 0) (cntN (fun k => c_X2_firstWrongRow_21 a2 (l_X2_firstWrongRow_21 a2 ((w_X3_beginFrom M 1030 1000), 0) k)) 7)).1.1 550 (Int32.toNatClampNeg (((l_X2_firstWrongRow_21 a2 ((w_X3_beginFrom M 1030 1000), 0) (cntN (fun k => c_X2_firstWrongRow_21 a2 (l_X2_firstWrongRow_21 a2 ((w_X3_beginFrom M 1030 1000), 0) k)) 7)).2) * 3))))) from c90)]; rfl) | rfl
          · unfold w_X2_firstWrongRow; first | (simp only [if_neg (show ¬ (a2 ≤ ((l_X2_firstWrongRow_21 a2 ((w_X3_beginFrom M 1030 1000), 0) (cntN (fun k => c_X2_firstWrongRow_21 a2 (l_X2_firstWrongRow_21 a2 ((w_X3_beginFrom M 1030 1000), 0) k)) 7)).2)) from c24), if_pos (show ¬ (b2i (cFree (l_X2_firstWrongRow_21 a2 ((w_X3_beginFrom M 1030 1000), 0) (cntN (fun k => c_X2_firstWrongRow_21 a2 (l_X2_firstWrongRow_21 a2 ((w_X3_beginFrom M 1030 1000), 0) k)) 7)).1 1030 ((l_X2_firstWrongRow_21 a2 ((w_X3_beginFrom M 1030 1000), 0) (cntN (fun k => c_X2_firstWrongRow_21 a2 (l_X2_firstWrongRow_21 a2 ((w_X3_beginFrom M 1030 1000), 0) k)) 7)).1.1 550 (Int32.toNatClampNeg (((l_X2_firstWrongRow_21 a2 ((w_X3_beginFrom M 1030 1000), 0) (cntN (fun k => c_X2_firstWrongRow_21 a2 (l_X2_firstWrongRow_21 a2 ((w_X3_beginFrom M 1030 1000), 0) k)) 7)).2) * 3))))) = 0 from c45), if_neg (show ¬ (¬ ((w_X5_carryOut (l_X2_firstWrongRow_21 a2 ((w_X3_beginFrom M 1030 1000), 0) (cntN (fun k => c_X2_firstWrongRow_21 a2 (l_X2_firstWrongRow_21 a2 ((w_X3_beginFrom M 1030 1000), 0) k)) 7)).1 1030 ((l_X2_firstWrongRow_21 a2 ((w_X3_beginFrom M 1030 1000), 0) (cntN (fun k => c_X2_firstWrongRow_21 a2 (l_X2_firstWrongRow_21 a2 ((w_X3_beginFrom M 1030 1000), 0) k)) 7)).1.1 550 (Int32.toNatClampNeg (((l_X2_firstWrongRow_21 a2 ((w_X3_beginFrom M 1030 1000), 0) (cntN (fun k => c_X2_firstWrongRow_21 a2 (l_X2_firstWrongRow_21 a2 ((w_X3_beginFrom M 1030 1000), 0) k)) 7)).2) * 3)))).1 550 (Int32.toNatClampNeg ((((l_X2_firstWrongRow_21 a2 ((w_X3_beginFrom M 1030 1000), 0) (cntN (fun k => c_X2_firstWrongRow_21 a2 (l_X2_firstWrongRow_21 a2 ((w_X3_beginFrom M 1030 1000), 0) k)) 7)).2) * 3) + 1))) = ((w_X5_carryOut (l_X2_firstWrongRow_21 a2 ((w_X3_beginFrom M 1030 1000), 0) (cntN (fun k => c_X2_firstWrongRow_21 a2 (l_X2_firstWrongRow_21 a2 ((w_X3_beginFrom M 1030 1000), 0) k)) 7)).1 1030 ((l_X2_firstWrongRow_21 a2 ((w_X3_beginFrom M 1030 1000), 0) (cntN (fun k => c_X2_firstWrongRow_21 a2 (l_X2_firstWrongRow_21 a2 ((w_X3_beginFrom M 1030 1000), 0) k)) 7)).1.1 550 (Int32.toNatClampNeg (((l_X2_firstWrongRow_21 a2 ((w_X3_beginFrom M 1030 1000), 0) (cntN (fun k => c_X2_firstWrongRow_21 a2 (l_X2_firstWrongRow_21 a2 ((w_X3_beginFrom M 1030 1000), 0) k)) 7)).2) * 3)))).1 1030 4)) from c77), if_neg (show ¬ (((w_X5_carryOut (l_X2_firstWrongRow_21 a2 ((w_X3_beginFrom M 1030 1000), 0) (cntN (fun k => c_X2_firstWrongRow_21 a2 (l_X2_firstWrongRow_21 a2 ((w_X3_beginFrom M 1030 1000), 0) k)) 7)).1 1030 ((l_X2_firstWrongRow_21 a2 ((w_X3_beginFrom M 1030 1000), 0) (cntN (fun k => c_X2_firstWrongRow_21 a2 (l_X2_firstWrongRow_21 a2 ((w_X3_beginFrom M 1030 1000), 0) k)) 7)).1.1 550 (Int32.toNatClampNeg (((l_X2_firstWrongRow_21 a2 ((w_X3_beginFrom M 1030 1000), 0) (cntN (fun k => c_X2_firstWrongRow_21 a2 (l_X2_firstWrongRow_21 a2 ((w_X3_beginFrom M 1030 1000), 0) k)) 7)).2) * 3)))).1 550 (Int32.toNatClampNeg ((((l_X2_firstWrongRow_21 a2 ((w_X3_beginFrom M 1030 1000), 0) (cntN (fun k => c_X2_firstWrongRow_21 a2 (l_X2_firstWrongRow_21 a2 ((w_X3_beginFrom M 1030 1000), 0) k)) 7)).2) * 3) + 2))) = (r_X5_carryOut (l_X2_firstWrongRow_21 a2 ((w_X3_beginFrom M 1030 1000), 0) (cntN (fun k => c_X2_firstWrongRow_21 a2 (l_X2_firstWrongRow_21 a2 ((w_X3_beginFrom M 1030 1000), 0) k)) 7)).1 1030 ((l_X2_firstWrongRow_21 a2 ((w_X3_beginFrom M 1030 1000), 0) (cntN (fun k => c_X2_firstWrongRow_21 a2 (l_X2_firstWrongRow_21 a2 ((w_X3_beginFrom M 1030 1000), 0) k)) 7)).1.1 550 (Int32.toNatClampNeg (((l_X2_firstWrongRow_21 a2 ((w_X3_beginFrom M 1030 1000), 0) (cntN (fun k => c_X2_firstWrongRow_21 a2 (l_X2_firstWrongRow_21 a2 ((w_X3_beginFrom M 1030 1000), 0) k)) 7)).2) * 3))))) from c90)]; done) | (simp only [if_neg (show ¬ (a2 ≤ ((l_X2_firstWrongRow_21 a2 ((w_X3_beginFrom M 1030 1000), 0) (cntN (fun k => c_X2_firstWrongRow_21 a2 (l_X2_firstWrongRow_21 a2 ((w_X3_beginFrom M 1030 1000), 0) k)) 7)).2)) from c24), if_pos (show ¬ (b2i (cFree (l_X2_firstWrongRow_21 a2 ((w_X3_beginFrom M 1030 1000), 0) (cntN (fun k => c_X2_firstWrongRow_21 a2 (l_X2_firstWrongRow_21 a2 ((w_X3_beginFrom M 1030 1000), 0) k)) 7)).1 1030 ((l_X2_firstWrongRow_21 a2 ((w_X3_beginFrom M 1030 1000), 0) (cntN (fun k => c_X2_firstWrongRow_21 a2 (l_X2_firstWrongRow_21 a2 ((w_X3_beginFrom M 1030 1000), 0) k)) 7)).1.1 550 (Int32.toNatClampNeg (((l_X2_firstWrongRow_21 a2 ((w_X3_beginFrom M 1030 1000), 0) (cntN (fun k => c_X2_firstWrongRow_21 a2 (l_X2_firstWrongRow_21 a2 ((w_X3_beginFrom M 1030 1000), 0) k)) 7)).2) * 3))))) = 0 from c45), if_neg (show ¬ (¬ ((w_X5_carryOut (l_X2_firstWrongRow_21 a2 ((w_X3_beginFrom M 1030 1000), 0) (cntN (fun k => c_X2_firstWrongRow_21 a2 (l_X2_firstWrongRow_21 a2 ((w_X3_beginFrom M 1030 1000), 0) k)) 7)).1 1030 ((l_X2_firstWrongRow_21 a2 ((w_X3_beginFrom M 1030 1000), 0) (cntN (fun k => c_X2_firstWrongRow_21 a2 (l_X2_firstWrongRow_21 a2 ((w_X3_beginFrom M 1030 1000), 0) k)) 7)).1.1 550 (Int32.toNatClampNeg (((l_X2_firstWrongRow_21 a2 ((w_X3_beginFrom M 1030 1000), 0) (cntN (fun k => c_X2_firstWrongRow_21 a2 (l_X2_firstWrongRow_21 a2 ((w_X3_beginFrom M 1030 1000), 0) k)) 7)).2) * 3)))).1 550 (Int32.toNatClampNeg ((((l_X2_firstWrongRow_21 a2 ((w_X3_beginFrom M 1030 1000), 0) (cntN (fun k => c_X2_firstWrongRow_21 a2 (l_X2_firstWrongRow_21 a2 ((w_X3_beginFrom M 1030 1000), 0) k)) 7)).2) * 3) + 1))) = ((w_X5_carryOut (l_X2_firstWrongRow_21 a2 ((w_X3_beginFrom M 1030 1000), 0) (cntN (fun k => c_X2_firstWrongRow_21 a2 (l_X2_firstWrongRow_21 a2 ((w_X3_beginFrom M 1030 1000), 0) k)) 7)).1 1030 ((l_X2_firstWrongRow_21 a2 ((w_X3_beginFrom M 1030 1000), 0) (cntN (fun k => c_X2_firstWrongRow_21 a2 (l_X2_firstWrongRow_21 a2 ((w_X3_beginFrom M 1030 1000), 0) k)) 7)).1.1 550 (Int32.toNatClampNeg (((l_X2_firstWrongRow_21 a2 ((w_X3_beginFrom M 1030 1000), 0) (cntN (fun k => c_X2_firstWrongRow_21 a2 (l_X2_firstWrongRow_21 a2 ((w_X3_beginFrom M 1030 1000), 0) k)) 7)).2) * 3)))).1 1030 4)) from c77), if_neg (show ¬ (((w_X5_carryOut (l_X2_firstWrongRow_21 a2 ((w_X3_beginFrom M 1030 1000), 0) (cntN (fun k => c_X2_firstWrongRow_21 a2 (l_X2_firstWrongRow_21 a2 ((w_X3_beginFrom M 1030 1000), 0) k)) 7)).1 1030 ((l_X2_firstWrongRow_21 a2 ((w_X3_beginFrom M 1030 1000), 0) (cntN (fun k => c_X2_firstWrongRow_21 a2 (l_X2_firstWrongRow_21 a2 ((w_X3_beginFrom M 1030 1000), 0) k)) 7)).1.1 550 (Int32.toNatClampNeg (((l_X2_firstWrongRow_21 a2 ((w_X3_beginFrom M 1030 1000), 0) (cntN (fun k => c_X2_firstWrongRow_21 a2 (l_X2_firstWrongRow_21 a2 ((w_X3_beginFrom M 1030 1000), 0) k)) 7)).2) * 3)))).1 550 (Int32.toNatClampNeg ((((l_X2_firstWrongRow_21 a2 ((w_X3_beginFrom M 1030 1000), 0) (cntN (fun k => c_X2_firstWrongRow_21 a2 (l_X2_firstWrongRow_21 a2 ((w_X3_beginFrom M 1030 1000), 0) k)) 7)).2) * 3) + 2))) = (r_X5_carryOut (l_X2_firstWrongRow_21 a2 ((w_X3_beginFrom M 1030 1000), 0) (cntN (fun k => c_X2_firstWrongRow_21 a2 (l_X2_firstWrongRow_21 a2 ((w_X3_beginFrom M 1030 1000), 0) k)) 7)).1 1030 ((l_X2_firstWrongRow_21 a2 ((w_X3_beginFrom M 1030 1000), 0) (cntN (fun k => c_X2_firstWrongRow_21 a2 (l_X2_firstWrongRow_21 a2 ((w_X3_beginFrom M 1030 1000), 0) k)) 7)).1.1 550 (Int32.toNatClampNeg (((l_X2_firstWrongRow_21 a2 ((w_X3_beginFrom M 1030 1000), 0) (cntN (fun k => c_X2_firstWrongRow_21 a2 (l_X2_firstWrongRow_21 a2 ((w_X3_beginFrom M 1030 1000), 0) k)) 7)).2) * 3))))) from c90)]; rfl) | rfl
    · rw [if_neg (show ¬ (¬ (b2i (cFree (l_X2_firstWrongRow_21 a2 ((w_X3_beginFrom M 1030 1000), 0) (cntN (fun k => c_X2_firstWrongRow_21 a2 (l_X2_firstWrongRow_21 a2 ((w_X3_beginFrom M 1030 1000), 0) k)) 7)).1 1030 ((l_X2_firstWrongRow_21 a2 ((w_X3_beginFrom M 1030 1000), 0) (cntN (fun k => c_X2_firstWrongRow_21 a2 (l_X2_firstWrongRow_21 a2 ((w_X3_beginFrom M 1030 1000), 0) k)) 7)).1.1 550 (Int32.toNatClampNeg (((l_X2_firstWrongRow_21 a2 ((w_X3_beginFrom M 1030 1000), 0) (cntN (fun k => c_X2_firstWrongRow_21 a2 (l_X2_firstWrongRow_21 a2 ((w_X3_beginFrom M 1030 1000), 0) k)) 7)).2) * 3))))) = 0) from c45)] at hp
      refine j_iload g (i := 4) (by decide +kernel) rfl ?_
      refine j_iconst g (n := 1) (1) (by decide +kernel) rfl ?_
      refine j_iadd g (by decide +kernel) ?_
      refine hr.1 _ _ _ _ (by decide +kernel) ⟨_, rfl, by first | rfl | exact b2i_nar | decide +kernel⟩ ?_ ?_
      · unfold r_X2_firstWrongRow; first | (simp only [if_neg (show ¬ (a2 ≤ ((l_X2_firstWrongRow_21 a2 ((w_X3_beginFrom M 1030 1000), 0) (cntN (fun k => c_X2_firstWrongRow_21 a2 (l_X2_firstWrongRow_21 a2 ((w_X3_beginFrom M 1030 1000), 0) k)) 7)).2)) from c24), if_neg (show ¬ (¬ (b2i (cFree (l_X2_firstWrongRow_21 a2 ((w_X3_beginFrom M 1030 1000), 0) (cntN (fun k => c_X2_firstWrongRow_21 a2 (l_X2_firstWrongRow_21 a2 ((w_X3_beginFrom M 1030 1000), 0) k)) 7)).1 1030 ((l_X2_firstWrongRow_21 a2 ((w_X3_beginFrom M 1030 1000), 0) (cntN (fun k => c_X2_firstWrongRow_21 a2 (l_X2_firstWrongRow_21 a2 ((w_X3_beginFrom M 1030 1000), 0) k)) 7)).1.1 550 (Int32.toNatClampNeg (((l_X2_firstWrongRow_21 a2 ((w_X3_beginFrom M 1030 1000), 0) (cntN (fun k => c_X2_firstWrongRow_21 a2 (l_X2_firstWrongRow_21 a2 ((w_X3_beginFrom M 1030 1000), 0) k)) 7)).2) * 3))))) = 0) from c45)]; done) | (simp only [if_neg (show ¬ (a2 ≤ ((l_X2_firstWrongRow_21 a2 ((w_X3_beginFrom M 1030 1000), 0) (cntN (fun k => c_X2_firstWrongRow_21 a2 (l_X2_firstWrongRow_21 a2 ((w_X3_beginFrom M 1030 1000), 0) k)) 7)).2)) from c24), if_neg (show ¬ (¬ (b2i (cFree (l_X2_firstWrongRow_21 a2 ((w_X3_beginFrom M 1030 1000), 0) (cntN (fun k => c_X2_firstWrongRow_21 a2 (l_X2_firstWrongRow_21 a2 ((w_X3_beginFrom M 1030 1000), 0) k)) 7)).1 1030 ((l_X2_firstWrongRow_21 a2 ((w_X3_beginFrom M 1030 1000), 0) (cntN (fun k => c_X2_firstWrongRow_21 a2 (l_X2_firstWrongRow_21 a2 ((w_X3_beginFrom M 1030 1000), 0) k)) 7)).1.1 550 (Int32.toNatClampNeg (((l_X2_firstWrongRow_21 a2 ((w_X3_beginFrom M 1030 1000), 0) (cntN (fun k => c_X2_firstWrongRow_21 a2 (l_X2_firstWrongRow_21 a2 ((w_X3_beginFrom M 1030 1000), 0) k)) 7)).2) * 3))))) = 0) from c45)]; rfl) | rfl
      · unfold w_X2_firstWrongRow; first | (simp only [if_neg (show ¬ (a2 ≤ ((l_X2_firstWrongRow_21 a2 ((w_X3_beginFrom M 1030 1000), 0) (cntN (fun k => c_X2_firstWrongRow_21 a2 (l_X2_firstWrongRow_21 a2 ((w_X3_beginFrom M 1030 1000), 0) k)) 7)).2)) from c24), if_neg (show ¬ (¬ (b2i (cFree (l_X2_firstWrongRow_21 a2 ((w_X3_beginFrom M 1030 1000), 0) (cntN (fun k => c_X2_firstWrongRow_21 a2 (l_X2_firstWrongRow_21 a2 ((w_X3_beginFrom M 1030 1000), 0) k)) 7)).1 1030 ((l_X2_firstWrongRow_21 a2 ((w_X3_beginFrom M 1030 1000), 0) (cntN (fun k => c_X2_firstWrongRow_21 a2 (l_X2_firstWrongRow_21 a2 ((w_X3_beginFrom M 1030 1000), 0) k)) 7)).1.1 550 (Int32.toNatClampNeg (((l_X2_firstWrongRow_21 a2 ((w_X3_beginFrom M 1030 1000), 0) (cntN (fun k => c_X2_firstWrongRow_21 a2 (l_X2_firstWrongRow_21 a2 ((w_X3_beginFrom M 1030 1000), 0) k)) 7)).2) * 3))))) = 0) from c45)]; done) | (simp only [if_neg (show ¬ (a2 ≤ ((l_X2_firstWrongRow_21 a2 ((w_X3_beginFrom M 1030 1000), 0) (cntN (fun k => c_X2_firstWrongRow_21 a2 (l_X2_firstWrongRow_21 a2 ((w_X3_beginFrom M 1030 1000), 0) k)) 7)).2)) from c24), if_neg (show ¬ (¬ (b2i (cFree (l_X2_firstWrongRow_21 a2 ((w_X3_beginFrom M 1030 1000), 0) (cntN (fun k => c_X2_firstWrongRow_21 a2 (l_X2_firstWrongRow_21 a2 ((w_X3_beginFrom M 1030 1000), 0) k)) 7)).1 1030 ((l_X2_firstWrongRow_21 a2 ((w_X3_beginFrom M 1030 1000), 0) (cntN (fun k => c_X2_firstWrongRow_21 a2 (l_X2_firstWrongRow_21 a2 ((w_X3_beginFrom M 1030 1000), 0) k)) 7)).1.1 550 (Int32.toNatClampNeg (((l_X2_firstWrongRow_21 a2 ((w_X3_beginFrom M 1030 1000), 0) (cntN (fun k => c_X2_firstWrongRow_21 a2 (l_X2_firstWrongRow_21 a2 ((w_X3_beginFrom M 1030 1000), 0) k)) 7)).2) * 3))))) = 0) from c45)]; rfl) | rfl
def c_X8_findBest_81 (x1 : Int32) (x2 : Int32) (x3 : Int32) (σ : Mm × Int32) : Prop := if x1 ≤ σ.2 then False else True
theorem ci_X8_findBest_81  {x1 : Int32} {x2 : Int32} {x3 : Int32} {σ : Mm × Int32} : c_X8_findBest_81 x1 x2 x3 σ ↔ (if x1 ≤ σ.2 then False else True) := Iff.rfl
noncomputable def s_X8_findBest_81 (x1 : Int32) (x2 : Int32) (x3 : Int32) (σ : Mm × Int32) : Mm × Int32 := if x1 ≤ σ.2 then σ else ((wi σ.1 615 (Int32.toNatClampNeg σ.2) (σ.1.1 614 (Int32.toNatClampNeg σ.2))), σ.2 + 1)
def q_X8_findBest_81 (x1 : Int32) (x2 : Int32) (x3 : Int32) (σ : Mm × Int32) : Prop := (if x1 ≤ σ.2 then True else (vp_in σ.2 6) ∧ (vp_in σ.2 6) ∧ True)
noncomputable def l_X8_findBest_81 (x1 : Int32) (x2 : Int32) (x3 : Int32) (σ0 : Mm × Int32) : Nat → Mm × Int32 := itN (fun _ σ => s_X8_findBest_81 x1 x2 x3 σ) σ0
theorem ps_X8_findBest_81 {d : Nat} {J : Nat → Lc → List Value → Mm → Prop}  {x1 : Int32} {x2 : Int32} {x3 : Int32} {σ : Mm × Int32}  (g : Good mX8_findBest.1 mX8_findBest.2.2.1 mX8_findBest.2.2.2.1 (d + 7) J) (hc : c_X8_findBest_81 x1 x2 x3 σ) (hp : q_X8_findBest_81 x1 x2 x3 σ) (k : J 81 [some (.ref 600), some (.int x1), some (.int x2), some (.int x3), some (.int ((s_X8_findBest_81 x1 x2 x3 σ).2))] [] ((s_X8_findBest_81 x1 x2 x3 σ).1)) : J 81 [some (.ref 600), some (.int x1), some (.int x2), some (.int x3), some (.int σ.2)] [] σ.1 := by
  unfold c_X8_findBest_81 at hc
  unfold q_X8_findBest_81 at hp
  unfold s_X8_findBest_81 at k
  refine j_iload g (i := 4) (by decide +kernel) rfl ?_
  refine j_iload_n g (i := 1) (by decide +kernel) rfl ?_
  refine j_icmp_ge g (off := 23) (tgt := 107) (by decide +kernel) (by decide) (fun c84 => ?_) (fun c84 => ?_)
  · (try rw [if_pos (show x1 ≤ σ.2 from c84)] at hc); (rw [if_pos (show x1 ≤ σ.2 from c84)] at hp); (try simp only [if_pos (show x1 ≤ σ.2 from c84)] at k)
    exact hc.elim
  · (try rw [if_neg (show ¬ (x1 ≤ σ.2) from c84)] at hc); (rw [if_neg (show ¬ (x1 ≤ σ.2) from c84)] at hp); (try simp only [if_neg (show ¬ (x1 ≤ σ.2) from c84)] at k)
    refine j_aload_n g (i := 0) (by decide +kernel) rfl ?_
    refine j_gA g (b := 615) f8_52 (by decide +kernel) (by decide +kernel) (by decide +kernel) (by decide +kernel) ?_
    refine j_iload g (i := 4) (by decide +kernel) rfl ?_
    refine j_aload_n g (i := 0) (by decide +kernel) rfl ?_
    refine j_gA g (b := 614) f8_49 (by decide +kernel) (by decide +kernel) (by decide +kernel) (by decide +kernel) ?_
    refine j_iload g (i := 4) (by decide +kernel) rfl ?_
    obtain ⟨h0, hp⟩ := hp
    refine j_ia g 6 (by decide +kernel) (by decide +kernel) (by decide +kernel) h0 ?_
    obtain ⟨h0, hp⟩ := hp
    refine j_is g 6 (by decide +kernel) (by decide +kernel) (by decide +kernel) h0 ?_
    refine j_iinc g (i := 4) (n := 1) (1) (by decide +kernel) rfl (by decide) rfl ?_
    dsimp only [stL, clL, hdL]
    refine j_goto g (off := -23) (tgt := 81) (by decide +kernel) (by decide) ?_
    exact k 
theorem sh_X8_findBest_81 {d : Nat} {J : Nat → Lc → List Value → Mm → Prop}  {x1 : Int32} {x2 : Int32} {x3 : Int32} {σ0 : Mm × Int32}  (g : Good mX8_findBest.1 mX8_findBest.2.2.1 mX8_findBest.2.2.2.1 (d + 7) J) : ∀ (N : Nat), (∀ k, k < N → c_X8_findBest_81 x1 x2 x3 (l_X8_findBest_81 x1 x2 x3 σ0 k)) → (∀ k, k < N → q_X8_findBest_81 x1 x2 x3 (l_X8_findBest_81 x1 x2 x3 σ0 k)) → (J 81 [some (.ref 600), some (.int x1), some (.int x2), some (.int x3), some (.int ((l_X8_findBest_81 x1 x2 x3 σ0 N).2))] [] ((l_X8_findBest_81 x1 x2 x3 σ0 N).1)) → J 81 [some (.ref 600), some (.int x1), some (.int x2), some (.int x3), some (.int σ0.2)] [] σ0.1
  | 0, _, _, k => k
  | N + 1, hc, hp, k => sh_X8_findBest_81  g N (fun i hi => hc i (Nat.lt_succ_of_lt hi)) (fun i hi => hp i (Nat.lt_succ_of_lt hi)) (ps_X8_findBest_81  g (hc N (Nat.lt_succ_self N)) (hp N (Nat.lt_succ_self N)) k)
def c_X8_findBest_23_160 (M : Mm) (x1 : Int32) (y2 : Int32) : Prop := True
noncomputable def s_X8_findBest_23_160 (M : Mm) (x1 : Int32) (y2 : Int32) : Mm × Int32 := ((w_X8_nextOrder M x1), r_X8_nextOrder M x1)
def q_X8_findBest_23_160 (M : Mm) (x1 : Int32) (y2 : Int32) : Prop := (p_X8_nextOrder M x1) ∧ True
def c_X8_findBest_23_107 (M : Mm) (x1 : Int32) (y2 : Int32) (y3 : Int32) : Prop := True
noncomputable def s_X8_findBest_23_107 (M : Mm) (x1 : Int32) (y2 : Int32) (y3 : Int32) : Mm × Int32 := if (M.1 600 36) ≤ (M.1 600 32) then (if (M.1 600 37) < 0 then s_X8_findBest_23_160 (wi (wi M 600 36 (M.1 600 36)) 600 37 y3) x1 y2 else if (M.1 600 37) ≤ y3 then s_X8_findBest_23_160 (wi (wi M 600 36 (M.1 600 36)) 600 37 (M.1 600 37)) x1 y2 else s_X8_findBest_23_160 (wi (wi M 600 36 (M.1 600 36)) 600 37 y3) x1 y2) else if (M.1 600 37) < 0 then s_X8_findBest_23_160 (wi (wi M 600 36 (M.1 600 32)) 600 37 y3) x1 y2 else if (M.1 600 37) ≤ y3 then s_X8_findBest_23_160 (wi (wi M 600 36 (M.1 600 32)) 600 37 (M.1 600 37)) x1 y2 else s_X8_findBest_23_160 (wi (wi M 600 36 (M.1 600 32)) 600 37 y3) x1 y2
def q_X8_findBest_23_107 (M : Mm) (x1 : Int32) (y2 : Int32) (y3 : Int32) : Prop := (if (M.1 600 36) ≤ (M.1 600 32) then (if (M.1 600 37) < 0 then q_X8_findBest_23_160 (wi (wi M 600 36 (M.1 600 36)) 600 37 y3) x1 y2 else (if (M.1 600 37) ≤ y3 then q_X8_findBest_23_160 (wi (wi M 600 36 (M.1 600 36)) 600 37 (M.1 600 37)) x1 y2 else q_X8_findBest_23_160 (wi (wi M 600 36 (M.1 600 36)) 600 37 y3) x1 y2)) else (if (M.1 600 37) < 0 then q_X8_findBest_23_160 (wi (wi M 600 36 (M.1 600 32)) 600 37 y3) x1 y2 else (if (M.1 600 37) ≤ y3 then q_X8_findBest_23_160 (wi (wi M 600 36 (M.1 600 32)) 600 37 (M.1 600 37)) x1 y2 else q_X8_findBest_23_160 (wi (wi M 600 36 (M.1 600 32)) 600 37 y3) x1 y2)))
def c_X8_findBest_23 (x1 : Int32) (σ : Mm × Int32) : Prop := if σ.2 = 0 then False else True
theorem ci_X8_findBest_23  {x1 : Int32} {σ : Mm × Int32} : c_X8_findBest_23 x1 σ ↔ (if σ.2 = 0 then False else True) := Iff.rfl
noncomputable def s_X8_findBest_23 (x1 : Int32) (σ : Mm × Int32) : Mm × Int32 := if σ.2 = 0 then σ else if (r_X8_isAllowed σ.1 x1) = 0 then s_X8_findBest_23_160 σ.1 x1 σ.2 else if ((wi (w_X8_goesThrough σ.1 x1 (0 : Int32)) 600 10 0).1 600 31) ≤ ((wi (w_X8_goesThrough σ.1 x1 (0 : Int32)) 600 10 0).1 600 35) then s_X8_findBest_23_107 (wi (w_X8_goesThrough σ.1 x1 (0 : Int32)) 600 10 0) x1 σ.2 ((w_X8_goesThrough σ.1 x1 (0 : Int32)).1 607 (Int32.toNatClampNeg (((w_X8_goesThrough σ.1 x1 (0 : Int32)).1 600 10) + 21))) else if x1 ≤ ((l_X8_findBest_81 x1 σ.2 ((w_X8_goesThrough σ.1 x1 (0 : Int32)).1 607 (Int32.toNatClampNeg (((w_X8_goesThrough σ.1 x1 (0 : Int32)).1 600 10) + 21))) ((wi (wi (w_X8_goesThrough σ.1 x1 (0 : Int32)) 600 10 0) 600 35 ((wi (w_X8_goesThrough σ.1 x1 (0 : Int32)) 600 10 0).1 600 31)), 0) (Int32.toNatClampNeg (x1))).2) then s_X8_findBest_23_107 ((l_X8_findBest_81 x1 σ.2 ((w_X8_goesThrough σ.1 x1 (0 : Int32)).1 607 (Int32.toNatClampNeg (((w_X8_goesThrough σ.1 x1 (0 : Int32)).1 600 10) + 21))) ((wi (wi (w_X8_goesThrough σ.1 x1 (0 : Int32)) 600 10 0) 600 35 ((wi (w_X8_goesThrough σ.1 x1 (0 : Int32)) 600 10 0).1 600 31)), 0) (Int32.toNatClampNeg (x1))).1) x1 σ.2 ((w_X8_goesThrough σ.1 x1 (0 : Int32)).1 607 (Int32.toNatClampNeg (((w_X8_goesThrough σ.1 x1 (0 : Int32)).1 600 10) + 21))) else σ
def q_X8_findBest_23 (x1 : Int32) (σ : Mm × Int32) : Prop := (if σ.2 = 0 then True else (p_X8_isAllowed σ.1 x1) ∧ (if (r_X8_isAllowed σ.1 x1) = 0 then q_X8_findBest_23_160 σ.1 x1 σ.2 else (p_X8_goesThrough σ.1 x1 (0 : Int32)) ∧ (vp_in (((w_X8_goesThrough σ.1 x1 (0 : Int32)).1 600 10) + 21) 44) ∧ (if ((wi (w_X8_goesThrough σ.1 x1 (0 : Int32)) 600 10 0).1 600 31) ≤ ((wi (w_X8_goesThrough σ.1 x1 (0 : Int32)) 600 10 0).1 600 35) then q_X8_findBest_23_107 (wi (w_X8_goesThrough σ.1 x1 (0 : Int32)) 600 10 0) x1 σ.2 ((w_X8_goesThrough σ.1 x1 (0 : Int32)).1 607 (Int32.toNatClampNeg (((w_X8_goesThrough σ.1 x1 (0 : Int32)).1 600 10) + 21))) else (∀ k, k < (Int32.toNatClampNeg (x1)) → c_X8_findBest_81 x1 σ.2 ((w_X8_goesThrough σ.1 x1 (0 : Int32)).1 607 (Int32.toNatClampNeg (((w_X8_goesThrough σ.1 x1 (0 : Int32)).1 600 10) + 21))) (l_X8_findBest_81 x1 σ.2 ((w_X8_goesThrough σ.1 x1 (0 : Int32)).1 607 (Int32.toNatClampNeg (((w_X8_goesThrough σ.1 x1 (0 : Int32)).1 600 10) + 21))) ((wi (wi (w_X8_goesThrough σ.1 x1 (0 : Int32)) 600 10 0) 600 35 ((wi (w_X8_goesThrough σ.1 x1 (0 : Int32)) 600 10 0).1 600 31)), 0) k)) ∧ (∀ k, k < (Int32.toNatClampNeg (x1)) → q_X8_findBest_81 x1 σ.2 ((w_X8_goesThrough σ.1 x1 (0 : Int32)).1 607 (Int32.toNatClampNeg (((w_X8_goesThrough σ.1 x1 (0 : Int32)).1 600 10) + 21))) (l_X8_findBest_81 x1 σ.2 ((w_X8_goesThrough σ.1 x1 (0 : Int32)).1 607 (Int32.toNatClampNeg (((w_X8_goesThrough σ.1 x1 (0 : Int32)).1 600 10) + 21))) ((wi (wi (w_X8_goesThrough σ.1 x1 (0 : Int32)) 600 10 0) 600 35 ((wi (w_X8_goesThrough σ.1 x1 (0 : Int32)) 600 10 0).1 600 31)), 0) k)) ∧ (¬ c_X8_findBest_81 x1 σ.2 ((w_X8_goesThrough σ.1 x1 (0 : Int32)).1 607 (Int32.toNatClampNeg (((w_X8_goesThrough σ.1 x1 (0 : Int32)).1 600 10) + 21))) (l_X8_findBest_81 x1 σ.2 ((w_X8_goesThrough σ.1 x1 (0 : Int32)).1 607 (Int32.toNatClampNeg (((w_X8_goesThrough σ.1 x1 (0 : Int32)).1 600 10) + 21))) ((wi (wi (w_X8_goesThrough σ.1 x1 (0 : Int32)) 600 10 0) 600 35 ((wi (w_X8_goesThrough σ.1 x1 (0 : Int32)) 600 10 0).1 600 31)), 0) (Int32.toNatClampNeg (x1)))) ∧ (if x1 ≤ ((l_X8_findBest_81 x1 σ.2 ((w_X8_goesThrough σ.1 x1 (0 : Int32)).1 607 (Int32.toNatClampNeg (((w_X8_goesThrough σ.1 x1 (0 : Int32)).1 600 10) + 21))) ((wi (wi (w_X8_goesThrough σ.1 x1 (0 : Int32)) 600 10 0) 600 35 ((wi (w_X8_goesThrough σ.1 x1 (0 : Int32)) 600 10 0).1 600 31)), 0) (Int32.toNatClampNeg (x1))).2) then q_X8_findBest_23_107 ((l_X8_findBest_81 x1 σ.2 ((w_X8_goesThrough σ.1 x1 (0 : Int32)).1 607 (Int32.toNatClampNeg (((w_X8_goesThrough σ.1 x1 (0 : Int32)).1 600 10) + 21))) ((wi (wi (w_X8_goesThrough σ.1 x1 (0 : Int32)) 600 10 0) 600 35 ((wi (w_X8_goesThrough σ.1 x1 (0 : Int32)) 600 10 0).1 600 31)), 0) (Int32.toNatClampNeg (x1))).1) x1 σ.2 ((w_X8_goesThrough σ.1 x1 (0 : Int32)).1 607 (Int32.toNatClampNeg (((w_X8_goesThrough σ.1 x1 (0 : Int32)).1 600 10) + 21))) else True))))
noncomputable def l_X8_findBest_23 (x1 : Int32) (σ0 : Mm × Int32) : Nat → Mm × Int32 := itN (fun _ σ => s_X8_findBest_23 x1 σ) σ0
theorem pj_X8_findBest_23_160 {d : Nat} {J : Nat → Lc → List Value → Mm → Prop} {M : Mm}  {x1 : Int32} {y2 : Int32}  (g : Good mX8_findBest.1 mX8_findBest.2.2.1 mX8_findBest.2.2.2.1 (d + 7) J) (hc : c_X8_findBest_23_160 M x1 y2) (hp : q_X8_findBest_23_160 M x1 y2) (k : ∀ (j3 j4 : Option Value), J 23 [some (.ref 600), some (.int x1), some (.int ((s_X8_findBest_23_160 M x1 y2).2)), j3, j4] [] ((s_X8_findBest_23_160 M x1 y2).1)) : ∀ (j3 j4 : Option Value), J 160 [some (.ref 600), some (.int x1), some (.int y2), j3, j4] [] M := by
  intro j3 j4
  unfold c_X8_findBest_23_160 at hc
  unfold q_X8_findBest_23_160 at hp
  unfold s_X8_findBest_23_160 at k
  refine j_aload_n g (i := 0) (by decide +kernel) rfl ?_
  refine j_iload_n g (i := 1) (by decide +kernel) rfl ?_
  obtain ⟨h0, hp⟩ := hp
  refine j_cV1r g v8_341 ⟨rfl, by decide⟩ (by decide +kernel) (by decide +kernel) (Nat.le_of_ble_eq_true rfl) (rnX8_nextOrder h0) ?_
  refine j_istore_n g (i := 2) (by decide +kernel) (by decide) ?_
  dsimp only [stL, clL, hdL]
  refine j_goto g (off := -143) (tgt := 23) (by decide +kernel) (by decide) ?_
  exact k _ _
theorem pj_X8_findBest_23_107 {d : Nat} {J : Nat → Lc → List Value → Mm → Prop} {M : Mm}  {x1 : Int32} {y2 : Int32} {y3 : Int32}  (g : Good mX8_findBest.1 mX8_findBest.2.2.1 mX8_findBest.2.2.2.1 (d + 7) J) (hc : c_X8_findBest_23_107 M x1 y2 y3) (hp : q_X8_findBest_23_107 M x1 y2 y3) (k : ∀ (j3 j4 : Option Value), J 23 [some (.ref 600), some (.int x1), some (.int ((s_X8_findBest_23_107 M x1 y2 y3).2)), j3, j4] [] ((s_X8_findBest_23_107 M x1 y2 y3).1)) : ∀ (j4 : Option Value), J 107 [some (.ref 600), some (.int x1), some (.int y2), some (.int y3), j4] [] M := by
  intro j4
  unfold c_X8_findBest_23_107 at hc
  unfold q_X8_findBest_23_107 at hp
  unfold s_X8_findBest_23_107 at k
  refine j_aload_n g (i := 0) (by decide +kernel) rfl ?_
  refine j_aload_n g (i := 0) (by decide +kernel) rfl ?_
  refine j_gI g f8_316 (by decide +kernel) (by decide +kernel) (by decide +kernel) ?_
  refine j_aload_n g (i := 0) (by decide +kernel) rfl ?_
  refine j_gI g f8_335 (by decide +kernel) (by decide +kernel) (by decide +kernel) ?_
  refine j_icmp_ge g (off := 10) (tgt := 126) (by decide +kernel) (by decide) (fun c116 => ?_) (fun c116 => ?_)
  · (try rw [if_pos (show (M.1 600 36) ≤ (M.1 600 32) from c116)] at hc); (rw [if_pos (show (M.1 600 36) ≤ (M.1 600 32) from c116)] at hp); (try simp only [if_pos (show (M.1 600 36) ≤ (M.1 600 32) from c116)] at k)
    refine j_aload_n g (i := 0) (by decide +kernel) rfl ?_
    refine j_gI g f8_335 (by decide +kernel) (by decide +kernel) (by decide +kernel) ?_
    refine j_pI g f8_335 (fun q h => by cases h; rfl) (by decide +kernel) (by decide +kernel) (by decide +kernel) ?_
    refine j_aload_n g (i := 0) (by decide +kernel) rfl ?_
    refine j_aload_n g (i := 0) (by decide +kernel) rfl ?_
    refine j_gI g f8_338 (by decide +kernel) (by decide +kernel) (by decide +kernel) ?_
    refine j_if_lt g (off := 11) (tgt := 149) (by decide +kernel) (by decide) (fun c138 => ?_) (fun c138 => ?_)
    · (try rw [if_pos (show (M.1 600 37) < 0 from c138)] at hc); (rw [if_pos (show (M.1 600 37) < 0 from c138)] at hp); (try simp only [if_pos (show (M.1 600 37) < 0 from c138)] at k)
      refine j_iload_n g (i := 3) (by decide +kernel) rfl ?_
      refine j_goto g (off := 7) (tgt := 157) (by decide +kernel) (by decide) ?_
      refine j_pI g f8_338 (fun q h => by cases h; rfl) (by decide +kernel) (by decide +kernel) (by decide +kernel) ?_
      exact pj_X8_findBest_23_160  g trivial hp k _ _
    · (try rw [if_neg (show ¬ ((M.1 600 37) < 0) from c138)] at hc); (rw [if_neg (show ¬ ((M.1 600 37) < 0) from c138)] at hp); (try simp only [if_neg (show ¬ ((M.1 600 37) < 0) from c138)] at k)
      refine j_iload_n g (i := 3) (by decide +kernel) rfl ?_
      refine j_aload_n g (i := 0) (by decide +kernel) rfl ?_
      refine j_gI g f8_338 (by decide +kernel) (by decide +kernel) (by decide +kernel) ?_
      refine j_icmp_ge g (off := 7) (tgt := 153) (by decide +kernel) (by decide) (fun c146 => ?_) (fun c146 => ?_)
      · (try rw [if_pos (show (M.1 600 37) ≤ y3 from c146)] at hc); (rw [if_pos (show (M.1 600 37) ≤ y3 from c146)] at hp); (try simp only [if_pos (show (M.1 600 37) ≤ y3 from c146)] at k)
        refine j_aload_n g (i := 0) (by decide +kernel) rfl ?_
        refine j_gI g f8_338 (by decide +kernel) (by decide +kernel) (by decide +kernel) ?_
        refine j_pI g f8_338 (fun q h => by cases h; rfl) (by decide +kernel) (by decide +kernel) (by decide +kernel) ?_
        exact pj_X8_findBest_23_160  g trivial hp k _ _
      · (try rw [if_neg (show ¬ ((M.1 600 37) ≤ y3) from c146)] at hc); (rw [if_neg (show ¬ ((M.1 600 37) ≤ y3) from c146)] at hp); (try simp only [if_neg (show ¬ ((M.1 600 37) ≤ y3) from c146)] at k)
        refine j_iload_n g (i := 3) (by decide +kernel) rfl ?_
        refine j_goto g (off := 7) (tgt := 157) (by decide +kernel) (by decide) ?_
        refine j_pI g f8_338 (fun q h => by cases h; rfl) (by decide +kernel) (by decide +kernel) (by decide +kernel) ?_
        exact pj_X8_findBest_23_160  g trivial hp k _ _
  · (try rw [if_neg (show ¬ ((M.1 600 36) ≤ (M.1 600 32)) from c116)] at hc); (rw [if_neg (show ¬ ((M.1 600 36) ≤ (M.1 600 32)) from c116)] at hp); (try simp only [if_neg (show ¬ ((M.1 600 36) ≤ (M.1 600 32)) from c116)] at k)
    refine j_aload_n g (i := 0) (by decide +kernel) rfl ?_
    refine j_gI g f8_316 (by decide +kernel) (by decide +kernel) (by decide +kernel) ?_
    refine j_goto g (off := 7) (tgt := 130) (by decide +kernel) (by decide) ?_
    refine j_pI g f8_335 (fun q h => by cases h; rfl) (by decide +kernel) (by decide +kernel) (by decide +kernel) ?_
    refine j_aload_n g (i := 0) (by decide +kernel) rfl ?_
    refine j_aload_n g (i := 0) (by decide +kernel) rfl ?_
    refine j_gI g f8_338 (by decide +kernel) (by decide +kernel) (by decide +kernel) ?_
    refine j_if_lt g (off := 11) (tgt := 149) (by decide +kernel) (by decide) (fun c138 => ?_) (fun c138 => ?_)
    · (try rw [if_pos (show (M.1 600 37) < 0 from c138)] at hc); (rw [if_pos (show (M.1 600 37) < 0 from c138)] at hp); (try simp only [if_pos (show (M.1 600 37) < 0 from c138)] at k)
      refine j_iload_n g (i := 3) (by decide +kernel) rfl ?_
      refine j_goto g (off := 7) (tgt := 157) (by decide +kernel) (by decide) ?_
      refine j_pI g f8_338 (fun q h => by cases h; rfl) (by decide +kernel) (by decide +kernel) (by decide +kernel) ?_
      exact pj_X8_findBest_23_160  g trivial hp k _ _
    · (try rw [if_neg (show ¬ ((M.1 600 37) < 0) from c138)] at hc); (rw [if_neg (show ¬ ((M.1 600 37) < 0) from c138)] at hp); (try simp only [if_neg (show ¬ ((M.1 600 37) < 0) from c138)] at k)
      refine j_iload_n g (i := 3) (by decide +kernel) rfl ?_
      refine j_aload_n g (i := 0) (by decide +kernel) rfl ?_
      refine j_gI g f8_338 (by decide +kernel) (by decide +kernel) (by decide +kernel) ?_
      refine j_icmp_ge g (off := 7) (tgt := 153) (by decide +kernel) (by decide) (fun c146 => ?_) (fun c146 => ?_)
      · (try rw [if_pos (show (M.1 600 37) ≤ y3 from c146)] at hc); (rw [if_pos (show (M.1 600 37) ≤ y3 from c146)] at hp); (try simp only [if_pos (show (M.1 600 37) ≤ y3 from c146)] at k)
        refine j_aload_n g (i := 0) (by decide +kernel) rfl ?_
        refine j_gI g f8_338 (by decide +kernel) (by decide +kernel) (by decide +kernel) ?_
        refine j_pI g f8_338 (fun q h => by cases h; rfl) (by decide +kernel) (by decide +kernel) (by decide +kernel) ?_
        exact pj_X8_findBest_23_160  g trivial hp k _ _
      · (try rw [if_neg (show ¬ ((M.1 600 37) ≤ y3) from c146)] at hc); (rw [if_neg (show ¬ ((M.1 600 37) ≤ y3) from c146)] at hp); (try simp only [if_neg (show ¬ ((M.1 600 37) ≤ y3) from c146)] at k)
        refine j_iload_n g (i := 3) (by decide +kernel) rfl ?_
        refine j_goto g (off := 7) (tgt := 157) (by decide +kernel) (by decide) ?_
        refine j_pI g f8_338 (fun q h => by cases h; rfl) (by decide +kernel) (by decide +kernel) (by decide +kernel) ?_
        exact pj_X8_findBest_23_160  g trivial hp k _ _
theorem ps_X8_findBest_23 {d : Nat} {J : Nat → Lc → List Value → Mm → Prop}  {x1 : Int32} {σ : Mm × Int32}  (g : Good mX8_findBest.1 mX8_findBest.2.2.1 mX8_findBest.2.2.2.1 (d + 7) J) (hc : c_X8_findBest_23 x1 σ) (hp : q_X8_findBest_23 x1 σ) (k : ∀ (j3 j4 : Option Value), J 23 [some (.ref 600), some (.int x1), some (.int ((s_X8_findBest_23 x1 σ).2)), j3, j4] [] ((s_X8_findBest_23 x1 σ).1)) : ∀ (j3 j4 : Option Value), J 23 [some (.ref 600), some (.int x1), some (.int σ.2), j3, j4] [] σ.1 := by
  intro j3 j4
  unfold c_X8_findBest_23 at hc
  unfold q_X8_findBest_23 at hp
  unfold s_X8_findBest_23 at k
  refine j_iload_n g (i := 2) (by decide +kernel) rfl ?_
  refine j_if_eq g (off := 145) (tgt := 169) (by decide +kernel) (by decide) (fun c24 => ?_) (fun c24 => ?_)
  · (try rw [if_pos (show σ.2 = 0 from c24)] at hc); (rw [if_pos (show σ.2 = 0 from c24)] at hp); (try simp only [if_pos (show σ.2 = 0 from c24)] at k)
    exact hc.elim
  · (try rw [if_neg (show ¬ (σ.2 = 0) from c24)] at hc); (rw [if_neg (show ¬ (σ.2 = 0) from c24)] at hp); (try simp only [if_neg (show ¬ (σ.2 = 0) from c24)] at k)
    refine j_aload_n g (i := 0) (by decide +kernel) rfl ?_
    refine j_iload_n g (i := 1) (by decide +kernel) rfl ?_
    obtain ⟨h0, hp⟩ := hp
    refine j_cV1r g v8_307 ⟨rfl, by decide⟩ (by decide +kernel) (by decide +kernel) (Nat.le_of_ble_eq_true rfl) (rnX8_isAllowed h0) ?_
    refine j_if_eq g (off := 128) (tgt := 160) (by decide +kernel) (by decide) (fun c32 => ?_) (fun c32 => ?_)
    · (try rw [if_pos (show (r_X8_isAllowed σ.1 x1) = 0 from c32)] at hc); (rw [if_pos (show (r_X8_isAllowed σ.1 x1) = 0 from c32)] at hp); (try simp only [if_pos (show (r_X8_isAllowed σ.1 x1) = 0 from c32)] at k)
      exact pj_X8_findBest_23_160  g trivial hp k _ _
    · (try rw [if_neg (show ¬ ((r_X8_isAllowed σ.1 x1) = 0) from c32)] at hc); (rw [if_neg (show ¬ ((r_X8_isAllowed σ.1 x1) = 0) from c32)] at hp); (try simp only [if_neg (show ¬ ((r_X8_isAllowed σ.1 x1) = 0) from c32)] at k)
      refine j_aload_n g (i := 0) (by decide +kernel) rfl ?_
      refine j_iload_n g (i := 1) (by decide +kernel) rfl ?_
      refine j_iconst g (n := 0) (0) (by decide +kernel) rfl ?_
      obtain ⟨h0, hp⟩ := hp
      refine j_cV2v g v8_326 ⟨rfl, by decide⟩ (by decide +kernel) (by decide +kernel) (Nat.le_of_ble_eq_true rfl) (rnX8_goesThrough h0) ?_
      refine j_aload_n g (i := 0) (by decide +kernel) rfl ?_
      refine j_gA g (b := 607) f8_28 (by decide +kernel) (by decide +kernel) (by decide +kernel) (by decide +kernel) ?_
      refine j_aload_n g (i := 0) (by decide +kernel) rfl ?_
      refine j_gI g f8_240 (by decide +kernel) (by decide +kernel) (by decide +kernel) ?_
      refine j_bipush g (n := 21) (21) (by decide +kernel) (by decide +kernel) ?_
      refine j_iadd g (by decide +kernel) ?_
      obtain ⟨h0, hp⟩ := hp
      refine j_ia g 44 (by decide +kernel) (by decide +kernel) (by decide +kernel) h0 ?_
      refine j_istore_n g (i := 3) (by decide +kernel) (by decide) ?_
      dsimp only [stL, clL, hdL]
      refine j_aload_n g (i := 0) (by decide +kernel) rfl ?_
      refine j_iconst g (n := 0) (0) (by decide +kernel) rfl ?_
      refine j_pI g f8_240 (fun q h => by cases h; rfl) (by decide +kernel) (by decide +kernel) (by decide +kernel) ?_
      refine j_aload_n g (i := 0) (by decide +kernel) rfl ?_
      refine j_gI g f8_313 (by decide +kernel) (by decide +kernel) (by decide +kernel) ?_
      refine j_aload_n g (i := 0) (by decide +kernel) rfl ?_
      refine j_gI g f8_332 (by decide +kernel) (by decide +kernel) (by decide +kernel) ?_
      refine j_icmp_le g (off := 40) (tgt := 107) (by decide +kernel) (by decide) (fun c67 => ?_) (fun c67 => ?_)
      · (try rw [if_pos (show ((wi (w_X8_goesThrough σ.1 x1 (0 : Int32)) 600 10 0).1 600 31) ≤ ((wi (w_X8_goesThrough σ.1 x1 (0 : Int32)) 600 10 0).1 600 35) from c67)] at hc); (rw [if_pos (show ((wi (w_X8_goesThrough σ.1 x1 (0 : Int32)) 600 10 0).1 600 31) ≤ ((wi (w_X8_goesThrough σ.1 x1 (0 : Int32)) 600 10 0).1 600 35) from c67)] at hp); (try simp only [if_pos (show ((wi (w_X8_goesThrough σ.1 x1 (0 : Int32)) 600 10 0).1 600 31) ≤ ((wi (w_X8_goesThrough σ.1 x1 (0 : Int32)) 600 10 0).1 600 35) from c67)] at k)
        exact pj_X8_findBest_23_107  g trivial hp k _
      · (try rw [if_neg (show ¬ (((wi (w_X8_goesThrough σ.1 x1 (0 : Int32)) 600 10 0).1 600 31) ≤ ((wi (w_X8_goesThrough σ.1 x1 (0 : Int32)) 600 10 0).1 600 35)) from c67)] at hc); (rw [if_neg (show ¬ (((wi (w_X8_goesThrough σ.1 x1 (0 : Int32)) 600 10 0).1 600 31) ≤ ((wi (w_X8_goesThrough σ.1 x1 (0 : Int32)) 600 10 0).1 600 35)) from c67)] at hp); (try simp only [if_neg (show ¬ (((wi (w_X8_goesThrough σ.1 x1 (0 : Int32)) 600 10 0).1 600 31) ≤ ((wi (w_X8_goesThrough σ.1 x1 (0 : Int32)) 600 10 0).1 600 35)) from c67)] at k)
        refine j_aload_n g (i := 0) (by decide +kernel) rfl ?_
        refine j_aload_n g (i := 0) (by decide +kernel) rfl ?_
        refine j_gI g f8_313 (by decide +kernel) (by decide +kernel) (by decide +kernel) ?_
        refine j_pI g f8_332 (fun q h => by cases h; rfl) (by decide +kernel) (by decide +kernel) (by decide +kernel) ?_
        refine j_iconst g (n := 0) (0) (by decide +kernel) rfl ?_
        refine j_istore g (i := 4) (by decide +kernel) (by decide) ?_
        dsimp only [stL, clL, hdL]
        obtain ⟨h0, hp⟩ := hp
        have hc_81_5 := h0
        obtain ⟨h0, hp⟩ := hp
        have hq_81_5 := h0
        obtain ⟨h0, hp⟩ := hp
        have hx_81_5 := h0
        refine sh_X8_findBest_81 (x1 := x1) (x2 := σ.2) (x3 := ((w_X8_goesThrough σ.1 x1 (0 : Int32)).1 607 (Int32.toNatClampNeg (((w_X8_goesThrough σ.1 x1 (0 : Int32)).1 600 10) + 21))))  g (σ0 := ((wi (wi (w_X8_goesThrough σ.1 x1 (0 : Int32)) 600 10 0) 600 35 ((wi (w_X8_goesThrough σ.1 x1 (0 : Int32)) 600 10 0).1 600 31)), 0)) (Int32.toNatClampNeg (x1)) hc_81_5 hq_81_5 ?_ 
        refine j_iload g (i := 4) (by decide +kernel) rfl ?_
        refine j_iload_n g (i := 1) (by decide +kernel) rfl ?_
        refine j_icmp_ge g (off := 23) (tgt := 107) (by decide +kernel) (by decide) (fun c84 => ?_) (fun c84 => ?_)
        · (try rw [if_pos (show x1 ≤ ((l_X8_findBest_81 x1 σ.2 ((w_X8_goesThrough σ.1 x1 (0 : Int32)).1 607 (Int32.toNatClampNeg (((w_X8_goesThrough σ.1 x1 (0 : Int32)).1 600 10) + 21))) ((wi (wi (w_X8_goesThrough σ.1 x1 (0 : Int32)) 600 10 0) 600 35 ((wi (w_X8_goesThrough σ.1 x1 (0 : Int32)) 600 10 0).1 600 31)), 0) (Int32.toNatClampNeg (x1))).2) from c84)] at hc); (rw [if_pos (show x1 ≤ ((l_X8_findBest_81 x1 σ.2 ((w_X8_goesThrough σ.1 x1 (0 : Int32)).1 607 (Int32.toNatClampNeg (((w_X8_goesThrough σ.1 x1 (0 : Int32)).1 600 10) + 21))) ((wi (wi (w_X8_goesThrough σ.1 x1 (0 : Int32)) 600 10 0) 600 35 ((wi (w_X8_goesThrough σ.1 x1 (0 : Int32)) 600 10 0).1 600 31)), 0) (Int32.toNatClampNeg (x1))).2) from c84)] at hp); (try simp only [if_pos (show x1 ≤ ((l_X8_findBest_81 x1 σ.2 ((w_X8_goesThrough σ.1 x1 (0 : Int32)).1 607 (Int32.toNatClampNeg (((w_X8_goesThrough σ.1 x1 (0 : Int32)).1 600 10) + 21))) ((wi (wi (w_X8_goesThrough σ.1 x1 (0 : Int32)) 600 10 0) 600 35 ((wi (w_X8_goesThrough σ.1 x1 (0 : Int32)) 600 10 0).1 600 31)), 0) (Int32.toNatClampNeg (x1))).2) from c84)] at k)
          exact pj_X8_findBest_23_107  g trivial hp k _
        · (try rw [if_neg (show ¬ (x1 ≤ ((l_X8_findBest_81 x1 σ.2 ((w_X8_goesThrough σ.1 x1 (0 : Int32)).1 607 (Int32.toNatClampNeg (((w_X8_goesThrough σ.1 x1 (0 : Int32)).1 600 10) + 21))) ((wi (wi (w_X8_goesThrough σ.1 x1 (0 : Int32)) 600 10 0) 600 35 ((wi (w_X8_goesThrough σ.1 x1 (0 : Int32)) 600 10 0).1 600 31)), 0) (Int32.toNatClampNeg (x1))).2)) from c84)] at hc); (rw [if_neg (show ¬ (x1 ≤ ((l_X8_findBest_81 x1 σ.2 ((w_X8_goesThrough σ.1 x1 (0 : Int32)).1 607 (Int32.toNatClampNeg (((w_X8_goesThrough σ.1 x1 (0 : Int32)).1 600 10) + 21))) ((wi (wi (w_X8_goesThrough σ.1 x1 (0 : Int32)) 600 10 0) 600 35 ((wi (w_X8_goesThrough σ.1 x1 (0 : Int32)) 600 10 0).1 600 31)), 0) (Int32.toNatClampNeg (x1))).2)) from c84)] at hp); (try simp only [if_neg (show ¬ (x1 ≤ ((l_X8_findBest_81 x1 σ.2 ((w_X8_goesThrough σ.1 x1 (0 : Int32)).1 607 (Int32.toNatClampNeg (((w_X8_goesThrough σ.1 x1 (0 : Int32)).1 600 10) + 21))) ((wi (wi (w_X8_goesThrough σ.1 x1 (0 : Int32)) 600 10 0) 600 35 ((wi (w_X8_goesThrough σ.1 x1 (0 : Int32)) 600 10 0).1 600 31)), 0) (Int32.toNatClampNeg (x1))).2)) from c84)] at k)
          refine absurd (ci_X8_findBest_81.mpr ?_) hx_81_5
          simp only [if_neg (show ¬ (σ.2 = 0) from c24), if_neg (show ¬ ((r_X8_isAllowed σ.1 x1) = 0) from c32), if_neg (show ¬ (((wi (w_X8_goesThrough σ.1 x1 (0 : Int32)) 600 10 0).1 600 31) ≤ ((wi (w_X8_goesThrough σ.1 x1 (0 : Int32)) 600 10 0).1 600 35)) from c67), if_neg (show ¬ (x1 ≤ ((l_X8_findBest_81 x1 σ.2 ((w_X8_goesThrough σ.1 x1 (0 : Int32)).1 607 (Int32.toNatClampNeg (((w_X8_goesThrough σ.1 x1 (0 : Int32)).1 600 10) + 21))) ((wi (wi (w_X8_goesThrough σ.1 x1 (0 : Int32)) 600 10 0) 600 35 ((wi (w_X8_goesThrough σ.1 x1 (0 : Int32)) 600 10 0).1 600 31)), 0) (Int32.toNatClampNeg (x1))).2)) from c84)]
theorem sh_X8_findBest_23 {d : Nat} {J : Nat → Lc → List Value → Mm → Prop}  {x1 : Int32} {σ0 : Mm × Int32}  (g : Good mX8_findBest.1 mX8_findBest.2.2.1 mX8_findBest.2.2.2.1 (d + 7) J) : ∀ (N : Nat), (∀ k, k < N → c_X8_findBest_23 x1 (l_X8_findBest_23 x1 σ0 k)) → (∀ k, k < N → q_X8_findBest_23 x1 (l_X8_findBest_23 x1 σ0 k)) → (∀ (j3 j4 : Option Value), J 23 [some (.ref 600), some (.int x1), some (.int ((l_X8_findBest_23 x1 σ0 N).2)), j3, j4] [] ((l_X8_findBest_23 x1 σ0 N).1)) → ∀ (j3 j4 : Option Value), J 23 [some (.ref 600), some (.int x1), some (.int σ0.2), j3, j4] [] σ0.1
  | 0, _, _, k => k
  | N + 1, hc, hp, k => sh_X8_findBest_23  g N (fun i hi => hc i (Nat.lt_succ_of_lt hi)) (fun i hi => hp i (Nat.lt_succ_of_lt hi)) (ps_X8_findBest_23  g (hc N (Nat.lt_succ_self N)) (hp N (Nat.lt_succ_self N)) k)
noncomputable def r_X8_findBest (M : Mm)  : Int32 := if ((l_X8_findBest_23 (r_X8_firstOrder M) ((wi (wi (wi (w_X8_firstOrder M) 600 35 (-1)) 600 36 99) 600 37 (-1)), 1) (cntN (fun k => c_X8_findBest_23 (r_X8_firstOrder M) (l_X8_findBest_23 (r_X8_firstOrder M) ((wi (wi (wi (w_X8_firstOrder M) 600 35 (-1)) 600 36 99) 600 37 (-1)), 1) k)) 721)).2) = 0 then r_X8_firstOrder M  else 0
noncomputable def w_X8_findBest (M : Mm)  : Mm := if ((l_X8_findBest_23 (r_X8_firstOrder M) ((wi (wi (wi (w_X8_firstOrder M) 600 35 (-1)) 600 36 99) 600 37 (-1)), 1) (cntN (fun k => c_X8_findBest_23 (r_X8_firstOrder M) (l_X8_findBest_23 (r_X8_firstOrder M) ((wi (wi (wi (w_X8_firstOrder M) 600 35 (-1)) 600 36 99) 600 37 (-1)), 1) k)) 721)).2) = 0 then (l_X8_findBest_23 (r_X8_firstOrder M) ((wi (wi (wi (w_X8_firstOrder M) 600 35 (-1)) 600 36 99) 600 37 (-1)), 1) (cntN (fun k => c_X8_findBest_23 (r_X8_firstOrder M) (l_X8_findBest_23 (r_X8_firstOrder M) ((wi (wi (wi (w_X8_firstOrder M) 600 35 (-1)) 600 36 99) 600 37 (-1)), 1) k)) 721)).1 else M
def p_X8_findBest (M : Mm)  : Prop := (p_X8_firstOrder M ) ∧ (∀ k, k < (cntN (fun k => c_X8_findBest_23 (r_X8_firstOrder M) (l_X8_findBest_23 (r_X8_firstOrder M) ((wi (wi (wi (w_X8_firstOrder M) 600 35 (-1)) 600 36 99) 600 37 (-1)), 1) k)) 721) → c_X8_findBest_23 (r_X8_firstOrder M) (l_X8_findBest_23 (r_X8_firstOrder M) ((wi (wi (wi (w_X8_firstOrder M) 600 35 (-1)) 600 36 99) 600 37 (-1)), 1) k)) ∧ (∀ k, k < (cntN (fun k => c_X8_findBest_23 (r_X8_firstOrder M) (l_X8_findBest_23 (r_X8_firstOrder M) ((wi (wi (wi (w_X8_firstOrder M) 600 35 (-1)) 600 36 99) 600 37 (-1)), 1) k)) 721) → q_X8_findBest_23 (r_X8_firstOrder M) (l_X8_findBest_23 (r_X8_firstOrder M) ((wi (wi (wi (w_X8_firstOrder M) 600 35 (-1)) 600 36 99) 600 37 (-1)), 1) k)) ∧ (¬ c_X8_findBest_23 (r_X8_firstOrder M) (l_X8_findBest_23 (r_X8_firstOrder M) ((wi (wi (wi (w_X8_firstOrder M) 600 35 (-1)) 600 36 99) 600 37 (-1)), 1) (cntN (fun k => c_X8_findBest_23 (r_X8_firstOrder M) (l_X8_findBest_23 (r_X8_firstOrder M) ((wi (wi (wi (w_X8_firstOrder M) 600 35 (-1)) 600 36 99) 600 37 (-1)), 1) k)) 721))) ∧ (if ((l_X8_findBest_23 (r_X8_firstOrder M) ((wi (wi (wi (w_X8_firstOrder M) 600 35 (-1)) 600 36 99) 600 37 (-1)), 1) (cntN (fun k => c_X8_findBest_23 (r_X8_firstOrder M) (l_X8_findBest_23 (r_X8_firstOrder M) ((wi (wi (wi (w_X8_firstOrder M) 600 35 (-1)) 600 36 99) 600 37 (-1)), 1) k)) 721)).2) = 0 then True else True)
set_option maxRecDepth 20000 in
theorem rnX8_findBest {d : Nat} {M : Mm}   (hp : p_X8_findBest M ) : Rn (d + 7) mX8_findBest [.ref 600] M (some (.int (r_X8_findBest M ))) (w_X8_findBest M ) := by
  refine Rn.of [some (.ref 600), none, none, none, none] (by decide +kernel) rfl (Nat.le_of_ble_eq_true rfl) rfl (fun J g hr => ?_)
  unfold p_X8_findBest at hp
  refine j_aload_n g (i := 0) (by decide +kernel) rfl ?_
  obtain ⟨h0, hp⟩ := hp
  refine j_cV0r g v8_329 ⟨rfl, by decide⟩ (by decide +kernel) (by decide +kernel) (Nat.le_of_ble_eq_true rfl) (rnX8_firstOrder h0) ?_
  refine j_istore_n g (i := 1) (by decide +kernel) (by decide) ?_
  dsimp only [stL, clL, hdL]
  refine j_iconst g (n := 1) (1) (by decide +kernel) rfl ?_
  refine j_istore_n g (i := 2) (by decide +kernel) (by decide) ?_
  dsimp only [stL, clL, hdL]
  refine j_aload_n g (i := 0) (by decide +kernel) rfl ?_
  refine j_iconst g (n := -1) (-1) (by decide +kernel) rfl ?_
  refine j_pI g f8_332 (fun q h => by cases h; rfl) (by decide +kernel) (by decide +kernel) (by decide +kernel) ?_
  refine j_aload_n g (i := 0) (by decide +kernel) rfl ?_
  refine j_bipush g (n := 99) (99) (by decide +kernel) (by decide +kernel) ?_
  refine j_pI g f8_335 (fun q h => by cases h; rfl) (by decide +kernel) (by decide +kernel) (by decide +kernel) ?_
  refine j_aload_n g (i := 0) (by decide +kernel) rfl ?_
  refine j_iconst g (n := -1) (-1) (by decide +kernel) rfl ?_
  refine j_pI g f8_338 (fun q h => by cases h; rfl) (by decide +kernel) (by decide +kernel) (by decide +kernel) ?_
  obtain ⟨h0, hp⟩ := hp
  have hc_23_6 := h0
  obtain ⟨h0, hp⟩ := hp
  have hq_23_6 := h0
  obtain ⟨h0, hp⟩ := hp
  have hx_23_6 := h0
  refine sh_X8_findBest_23 (x1 := (r_X8_firstOrder M))  g (σ0 := ((wi (wi (wi (w_X8_firstOrder M) 600 35 (-1)) 600 36 99) 600 37 (-1)), 1)) (cntN (fun k => c_X8_findBest_23 (r_X8_firstOrder M) (l_X8_findBest_23 (r_X8_firstOrder M) ((wi (wi (wi (w_X8_firstOrder M) 600 35 (-1)) 600 36 99) 600 37 (-1)), 1) k)) 721) hc_23_6 hq_23_6 ?_ _ _
  intro j3_6 j4_6
  refine j_iload_n g (i := 2) (by decide +kernel) rfl ?_
  refine j_if_eq g (off := 145) (tgt := 169) (by decide +kernel) (by decide) (fun c24 => ?_) (fun c24 => ?_)
  · rw [if_pos (show ((l_X8_findBest_23 (r_X8_firstOrder M) ((wi (wi (wi (w_X8_firstOrder M) 600 35 (-1)) 600 36 99) 600 37 (-1)), 1) (cntN (fun k => c_X8_findBest_23 (r_X8_firstOrder M) (l_X8_findBest_23 (r_X8_firstOrder M) ((wi (wi (wi (w_X8_firstOrder M) 600 35 (-1)) 600 36 99) 600 37 (-1)), 1) k)) 721)).2) = 0 from c24)] at hp
    refine j_iload_n g (i := 1) (by decide +kernel) rfl ?_
    refine hr.1 _ _ _ _ (by decide +kernel) ⟨_, rfl, by first | rfl | exact b2i_nar | decide +kernel⟩ ?_ ?_
    · unfold r_X8_findBest; first | (simp only [if_pos (show ((l_X8_findBest_23 (r_X8_firstOrder M) ((wi (wi (wi (w_X8_firstOrder M) 600 35 (-1)) 600 36 99) 600 37 (-1)), 1) (cntN (fun k => c_X8_findBest_23 (r_X8_firstOrder M) (l_X8_findBest_23 (r_X8_firstOrder M) ((wi (wi (wi (w_X8_firstOrder M) 600 35 (-1)) 600 36 99) 600 37 (-1)), 1) k)) 721)).2) = 0 from c24)]; done) | (simp only [if_pos (show ((l_X8_findBest_23 (r_X8_firstOrder M) ((wi (wi (wi (w_X8_firstOrder M) 600 35 (-1)) 600 36 99) 600 37 (-1)), 1) (cntN (fun k => c_X8_findBest_23 (r_X8_firstOrder M) (l_X8_findBest_23 (r_X8_firstOrder M) ((wi (wi (wi (w_X8_firstOrder M) 600 35 (-1)) 600 36 99) 600 37 (-1)), 1) k)) 721)).2) = 0 from c24)]; rfl) | rfl
    · unfold w_X8_findBest; first | (simp only [if_pos (show ((l_X8_findBest_23 (r_X8_firstOrder M) ((wi (wi (wi (w_X8_firstOrder M) 600 35 (-1)) 600 36 99) 600 37 (-1)), 1) (cntN (fun k => c_X8_findBest_23 (r_X8_firstOrder M) (l_X8_findBest_23 (r_X8_firstOrder M) ((wi (wi (wi (w_X8_firstOrder M) 600 35 (-1)) 600 36 99) 600 37 (-1)), 1) k)) 721)).2) = 0 from c24)]; done) | (simp only [if_pos (show ((l_X8_findBest_23 (r_X8_firstOrder M) ((wi (wi (wi (w_X8_firstOrder M) 600 35 (-1)) 600 36 99) 600 37 (-1)), 1) (cntN (fun k => c_X8_findBest_23 (r_X8_firstOrder M) (l_X8_findBest_23 (r_X8_firstOrder M) ((wi (wi (wi (w_X8_firstOrder M) 600 35 (-1)) 600 36 99) 600 37 (-1)), 1) k)) 721)).2) = 0 from c24)]; rfl) | rfl
  · rw [if_neg (show ¬ (((l_X8_findBest_23 (r_X8_firstOrder M) ((wi (wi (wi (w_X8_firstOrder M) 600 35 (-1)) 600 36 99) 600 37 (-1)), 1) (cntN (fun k => c_X8_findBest_23 (r_X8_firstOrder M) (l_X8_findBest_23 (r_X8_firstOrder M) ((wi (wi (wi (w_X8_firstOrder M) 600 35 (-1)) 600 36 99) 600 37 (-1)), 1) k)) 721)).2) = 0) from c24)] at hp
    refine absurd (ci_X8_findBest_23.mpr ?_) hx_23_6
    simp only [if_neg (show ¬ (((l_X8_findBest_23 (r_X8_firstOrder M) ((wi (wi (wi (w_X8_firstOrder M) 600 35 (-1)) 600 36 99) 600 37 (-1)), 1) (cntN (fun k => c_X8_findBest_23 (r_X8_firstOrder M) (l_X8_findBest_23 (r_X8_firstOrder M) ((wi (wi (wi (w_X8_firstOrder M) 600 35 (-1)) 600 36 99) 600 37 (-1)), 1) k)) 721)).2) = 0) from c24)]
def c_X8_called_24 (M : Mm) (a1 : Int32) (x2 : Int32) (x3 : Int64) (x5 : Int32) (σ : Int64 × Int32) : Prop := if x2 ≤ σ.2 then False else True
theorem ci_X8_called_24 {M : Mm} {a1 : Int32} {x2 : Int32} {x3 : Int64} {x5 : Int32} {σ : Int64 × Int32} : c_X8_called_24 M a1 x2 x3 x5 σ ↔ (if x2 ≤ σ.2 then False else True) := Iff.rfl
noncomputable def s_X8_called_24 (M : Mm) (a1 : Int32) (x2 : Int32) (x3 : Int64) (x5 : Int32) (σ : Int64 × Int32) : Int64 × Int32 := if x2 ≤ σ.2 then σ else if ¬ ((x5 >>> (σ.2 &&& 31)) &&& 1) = (1 : Int32) then (σ.1 * (Int32.toInt64 ((8 : Int32) - (M.1 604 1))), σ.2 + 1) else (σ.1 * (Int32.toInt64 (M.1 604 1)), σ.2 + 1)
noncomputable def l_X8_called_24 (M : Mm) (a1 : Int32) (x2 : Int32) (x3 : Int64) (x5 : Int32) (σ0 : Int64 × Int32) : Nat → Int64 × Int32 := itN (fun _ σ => s_X8_called_24 M a1 x2 x3 x5 σ) σ0
theorem ps_X8_called_24 {d : Nat} {J : Nat → Lc → List Value → Mm → Prop} {M : Mm} {a1 : Int32} {x2 : Int32} {x3 : Int64} {x5 : Int32} {σ : Int64 × Int32}  (g : Good mX8_called.1 mX8_called.2.2.1 mX8_called.2.2.2.1 (d + 7) J) (hc : c_X8_called_24 M a1 x2 x3 x5 σ) (k : J 24 [some (.ref 600), some (.int a1), some (.int x2), some (.long x3), none, some (.int x5), some (.long ((s_X8_called_24 M a1 x2 x3 x5 σ).1)), none, some (.int ((s_X8_called_24 M a1 x2 x3 x5 σ).2))] [] M) : J 24 [some (.ref 600), some (.int a1), some (.int x2), some (.long x3), none, some (.int x5), some (.long σ.1), none, some (.int σ.2)] [] M := by
  unfold c_X8_called_24 at hc
  unfold s_X8_called_24 at k
  refine j_iload g (i := 8) (by decide +kernel) rfl ?_
  refine j_iload_n g (i := 2) (by decide +kernel) rfl ?_
  refine j_icmp_ge g (off := 45) (tgt := 72) (by decide +kernel) (by decide) (fun c27 => ?_) (fun c27 => ?_)
  · (try rw [if_pos (show x2 ≤ σ.2 from c27)] at hc); (try simp only [if_pos (show x2 ≤ σ.2 from c27)] at k)
    exact hc.elim
  · (try rw [if_neg (show ¬ (x2 ≤ σ.2) from c27)] at hc); (try simp only [if_neg (show ¬ (x2 ≤ σ.2) from c27)] at k)
    refine j_lload g (i := 6) (by decide +kernel) rfl ?_
    refine j_iload g (i := 5) (by decide +kernel) rfl ?_
    refine j_iload g (i := 8) (by decide +kernel) rfl ?_
    refine j_ishr g (by decide +kernel) ?_
    refine j_iconst g (n := 1) (1) (by decide +kernel) rfl ?_
    refine j_iand g (by decide +kernel) ?_
    refine j_iconst g (n := 1) (1) (by decide +kernel) rfl ?_
    refine j_icmp_ne g (off := 13) (tgt := 53) (by decide +kernel) (by decide) (fun c40 => ?_) (fun c40 => ?_)
    · (try rw [if_pos (show ¬ ((x5 >>> (σ.2 &&& 31)) &&& 1) = (1 : Int32) from c40)] at hc); (try simp only [if_pos (show ¬ ((x5 >>> (σ.2 &&& 31)) &&& 1) = (1 : Int32) from c40)] at k)
      refine j_bipush g (n := 8) (8) (by decide +kernel) (by decide +kernel) ?_
      refine j_aload_n g (i := 0) (by decide +kernel) rfl ?_
      refine j_gA g (b := 604) f8_19 (by decide +kernel) (by decide +kernel) (by decide +kernel) (by decide +kernel) ?_
      refine j_iconst g (n := 1) (1) (by decide +kernel) rfl ?_
      refine j_ia g 4 (by decide +kernel) (by decide +kernel) (by decide +kernel) (vin_b (by decide +kernel)) ?_
      refine j_isub g (by decide +kernel) ?_
      refine j_i2l g (by decide +kernel) ?_
      refine j_lmul g (by decide +kernel) ?_
      refine j_lstore g (i := 6) (by decide +kernel) (by decide) ?_
      dsimp only [stL, clL, hdL]
      refine j_iinc g (i := 8) (n := 1) (1) (by decide +kernel) rfl (by decide) rfl ?_
      dsimp only [stL, clL, hdL]
      refine j_goto g (off := -45) (tgt := 24) (by decide +kernel) (by decide) ?_
      exact k 
    · (try rw [if_neg (show ¬ (¬ ((x5 >>> (σ.2 &&& 31)) &&& 1) = (1 : Int32)) from c40)] at hc); (try simp only [if_neg (show ¬ (¬ ((x5 >>> (σ.2 &&& 31)) &&& 1) = (1 : Int32)) from c40)] at k)
      refine j_aload_n g (i := 0) (by decide +kernel) rfl ?_
      refine j_gA g (b := 604) f8_19 (by decide +kernel) (by decide +kernel) (by decide +kernel) (by decide +kernel) ?_
      refine j_iconst g (n := 1) (1) (by decide +kernel) rfl ?_
      refine j_ia g 4 (by decide +kernel) (by decide +kernel) (by decide +kernel) (vin_b (by decide +kernel)) ?_
      refine j_i2l g (by decide +kernel) ?_
      refine j_goto g (off := 13) (tgt := 63) (by decide +kernel) (by decide) ?_
      refine j_lmul g (by decide +kernel) ?_
      refine j_lstore g (i := 6) (by decide +kernel) (by decide) ?_
      dsimp only [stL, clL, hdL]
      refine j_iinc g (i := 8) (n := 1) (1) (by decide +kernel) rfl (by decide) rfl ?_
      dsimp only [stL, clL, hdL]
      refine j_goto g (off := -45) (tgt := 24) (by decide +kernel) (by decide) ?_
      exact k 
theorem sh_X8_called_24 {d : Nat} {J : Nat → Lc → List Value → Mm → Prop} {M : Mm} {a1 : Int32} {x2 : Int32} {x3 : Int64} {x5 : Int32} {σ0 : Int64 × Int32}  (g : Good mX8_called.1 mX8_called.2.2.1 mX8_called.2.2.2.1 (d + 7) J) : ∀ (N : Nat), (∀ k, k < N → c_X8_called_24 M a1 x2 x3 x5 (l_X8_called_24 M a1 x2 x3 x5 σ0 k)) → (J 24 [some (.ref 600), some (.int a1), some (.int x2), some (.long x3), none, some (.int x5), some (.long ((l_X8_called_24 M a1 x2 x3 x5 σ0 N).1)), none, some (.int ((l_X8_called_24 M a1 x2 x3 x5 σ0 N).2))] [] M) → J 24 [some (.ref 600), some (.int a1), some (.int x2), some (.long x3), none, some (.int x5), some (.long σ0.1), none, some (.int σ0.2)] [] M
  | 0, _, k => k
  | N + 1, hc, k => sh_X8_called_24  g N (fun i hi => hc i (Nat.lt_succ_of_lt hi)) (ps_X8_called_24  g (hc N (Nat.lt_succ_self N)) k)
def c_X8_called_10 (a1 : Int32) (x2 : Int32) (σ : Mm × Int64 × Int32) : Prop := if ((1 : Int32) <<< (x2 &&& 31)) ≤ σ.2.2 then False else True
theorem ci_X8_called_10 {a1 : Int32} {x2 : Int32} {σ : Mm × Int64 × Int32} : c_X8_called_10 a1 x2 σ ↔ (if ((1 : Int32) <<< (x2 &&& 31)) ≤ σ.2.2 then False else True) := Iff.rfl
noncomputable def s_X8_called_10 (a1 : Int32) (x2 : Int32) (σ : Mm × Int64 × Int32) : Mm × Int64 × Int32 := if ((1 : Int32) <<< (x2 &&& 31)) ≤ σ.2.2 then σ else if x2 ≤ ((l_X8_called_24 σ.1 a1 x2 σ.2.1 σ.2.2 (1, 0) (Int32.toNatClampNeg (x2))).2) then (if a1 = 0 then ((wi (w_X8_goesThrough σ.1 x2 σ.2.2) 600 10 0), σ.2.1 + (((l_X8_called_24 σ.1 a1 x2 σ.2.1 σ.2.2 (1, 0) (Int32.toNatClampNeg (x2))).1) * (Int32.toInt64 ((wi (w_X8_goesThrough σ.1 x2 σ.2.2) 600 10 0).1 600 31))), σ.2.2 + 1) else if ¬ ((wi (w_X8_goesThrough σ.1 x2 σ.2.2) 600 10 0).1 600 32) = 0 then ((wi (w_X8_goesThrough σ.1 x2 σ.2.2) 600 10 0), σ.2.1 + (((l_X8_called_24 σ.1 a1 x2 σ.2.1 σ.2.2 (1, 0) (Int32.toNatClampNeg (x2))).1) * (Int32.toInt64 0)), σ.2.2 + 1) else ((wi (w_X8_goesThrough σ.1 x2 σ.2.2) 600 10 0), σ.2.1 + (((l_X8_called_24 σ.1 a1 x2 σ.2.1 σ.2.2 (1, 0) (Int32.toNatClampNeg (x2))).1) * (Int32.toInt64 1)), σ.2.2 + 1)) else σ
def q_X8_called_10 (a1 : Int32) (x2 : Int32) (σ : Mm × Int64 × Int32) : Prop := (if ((1 : Int32) <<< (x2 &&& 31)) ≤ σ.2.2 then True else (∀ k, k < (Int32.toNatClampNeg (x2)) → c_X8_called_24 σ.1 a1 x2 σ.2.1 σ.2.2 (l_X8_called_24 σ.1 a1 x2 σ.2.1 σ.2.2 (1, 0) k)) ∧ (¬ c_X8_called_24 σ.1 a1 x2 σ.2.1 σ.2.2 (l_X8_called_24 σ.1 a1 x2 σ.2.1 σ.2.2 (1, 0) (Int32.toNatClampNeg (x2)))) ∧ (if x2 ≤ ((l_X8_called_24 σ.1 a1 x2 σ.2.1 σ.2.2 (1, 0) (Int32.toNatClampNeg (x2))).2) then (p_X8_goesThrough σ.1 x2 σ.2.2) ∧ (if a1 = 0 then True else (if ¬ ((wi (w_X8_goesThrough σ.1 x2 σ.2.2) 600 10 0).1 600 32) = 0 then True else True)) else True))
noncomputable def l_X8_called_10 (a1 : Int32) (x2 : Int32) (σ0 : Mm × Int64 × Int32) : Nat → Mm × Int64 × Int32 := itN (fun _ σ => s_X8_called_10 a1 x2 σ) σ0
theorem ps_X8_called_10 {d : Nat} {J : Nat → Lc → List Value → Mm → Prop} {a1 : Int32} {x2 : Int32} {σ : Mm × Int64 × Int32}  (g : Good mX8_called.1 mX8_called.2.2.1 mX8_called.2.2.2.1 (d + 7) J) (hc : c_X8_called_10 a1 x2 σ) (hp : q_X8_called_10 a1 x2 σ) (k : ∀ (j6 j8 : Option Value), J 10 [some (.ref 600), some (.int a1), some (.int x2), some (.long ((s_X8_called_10 a1 x2 σ).2.1)), none, some (.int ((s_X8_called_10 a1 x2 σ).2.2)), j6, none, j8] [] ((s_X8_called_10 a1 x2 σ).1)) : ∀ (j6 j8 : Option Value), J 10 [some (.ref 600), some (.int a1), some (.int x2), some (.long σ.2.1), none, some (.int σ.2.2), j6, none, j8] [] σ.1 := by
  intro j6 j8
  unfold c_X8_called_10 at hc
  unfold q_X8_called_10 at hp
  unfold s_X8_called_10 at k
  refine j_iload g (i := 5) (by decide +kernel) rfl ?_
  refine j_iconst g (n := 1) (1) (by decide +kernel) rfl ?_
  refine j_iload_n g (i := 2) (by decide +kernel) rfl ?_
  refine j_ishl g (by decide +kernel) ?_
  refine j_icmp_ge g (off := 105) (tgt := 120) (by decide +kernel) (by decide) (fun c15 => ?_) (fun c15 => ?_)
  · (try rw [if_pos (show ((1 : Int32) <<< (x2 &&& 31)) ≤ σ.2.2 from c15)] at hc); (rw [if_pos (show ((1 : Int32) <<< (x2 &&& 31)) ≤ σ.2.2 from c15)] at hp); (try simp only [if_pos (show ((1 : Int32) <<< (x2 &&& 31)) ≤ σ.2.2 from c15)] at k)
    exact hc.elim
  · (try rw [if_neg (show ¬ (((1 : Int32) <<< (x2 &&& 31)) ≤ σ.2.2) from c15)] at hc); (rw [if_neg (show ¬ (((1 : Int32) <<< (x2 &&& 31)) ≤ σ.2.2) from c15)] at hp); (try simp only [if_neg (show ¬ (((1 : Int32) <<< (x2 &&& 31)) ≤ σ.2.2) from c15)] at k)
    refine j_lconst g (n := 1) (1) (by decide +kernel) rfl ?_
    refine j_lstore g (i := 6) (by decide +kernel) (by decide) ?_
    dsimp only [stL, clL, hdL]
    refine j_iconst g (n := 0) (0) (by decide +kernel) rfl ?_
    refine j_istore g (i := 8) (by decide +kernel) (by decide) ?_
    dsimp only [stL, clL, hdL]
    obtain ⟨h0, hp⟩ := hp
    have hc_24_2 := h0
    obtain ⟨h0, hp⟩ := hp
    have hx_24_2 := h0
    refine sh_X8_called_24 (x2 := x2) (x3 := σ.2.1) (x5 := σ.2.2)  g (σ0 := (1, 0)) (Int32.toNatClampNeg (x2)) hc_24_2  ?_ 
    refine j_iload g (i := 8) (by decide +kernel) rfl ?_
    refine j_iload_n g (i := 2) (by decide +kernel) rfl ?_
    refine j_icmp_ge g (off := 45) (tgt := 72) (by decide +kernel) (by decide) (fun c27 => ?_) (fun c27 => ?_)
    · (try rw [if_pos (show x2 ≤ ((l_X8_called_24 σ.1 a1 x2 σ.2.1 σ.2.2 (1, 0) (Int32.toNatClampNeg (x2))).2) from c27)] at hc); (rw [if_pos (show x2 ≤ ((l_X8_called_24 σ.1 a1 x2 σ.2.1 σ.2.2 (1, 0) (Int32.toNatClampNeg (x2))).2) from c27)] at hp); (try simp only [if_pos (show x2 ≤ ((l_X8_called_24 σ.1 a1 x2 σ.2.1 σ.2.2 (1, 0) (Int32.toNatClampNeg (x2))).2) from c27)] at k)
      refine j_aload_n g (i := 0) (by decide +kernel) rfl ?_
      refine j_iload_n g (i := 2) (by decide +kernel) rfl ?_
      refine j_iload g (i := 5) (by decide +kernel) rfl ?_
      obtain ⟨h0, hp⟩ := hp
      refine j_cV2v g v8_326 ⟨rfl, by decide⟩ (by decide +kernel) (by decide +kernel) (Nat.le_of_ble_eq_true rfl) (rnX8_goesThrough h0) ?_
      refine j_aload_n g (i := 0) (by decide +kernel) rfl ?_
      refine j_iconst g (n := 0) (0) (by decide +kernel) rfl ?_
      refine j_pI g f8_240 (fun q h => by cases h; rfl) (by decide +kernel) (by decide +kernel) (by decide +kernel) ?_
      refine j_lload_n g (i := 3) (by decide +kernel) rfl ?_
      refine j_lload g (i := 6) (by decide +kernel) rfl ?_
      refine j_iload_n g (i := 1) (by decide +kernel) rfl ?_
      refine j_if_eq g (off := 18) (tgt := 106) (by decide +kernel) (by decide) (fun c88 => ?_) (fun c88 => ?_)
      · (try rw [if_pos (show a1 = 0 from c88)] at hc); (rw [if_pos (show a1 = 0 from c88)] at hp); (try simp only [if_pos (show a1 = 0 from c88)] at k)
        refine j_aload_n g (i := 0) (by decide +kernel) rfl ?_
        refine j_gI g f8_313 (by decide +kernel) (by decide +kernel) (by decide +kernel) ?_
        refine j_i2l g (by decide +kernel) ?_
        refine j_lmul g (by decide +kernel) ?_
        refine j_ladd g (by decide +kernel) ?_
        refine j_lstore_n g (i := 3) (by decide +kernel) (by decide) ?_
        dsimp only [stL, clL, hdL]
        refine j_iinc g (i := 5) (n := 1) (1) (by decide +kernel) rfl (by decide) rfl ?_
        dsimp only [stL, clL, hdL]
        refine j_goto g (off := -107) (tgt := 10) (by decide +kernel) (by decide) ?_
        exact k _ _
      · (try rw [if_neg (show ¬ (a1 = 0) from c88)] at hc); (rw [if_neg (show ¬ (a1 = 0) from c88)] at hp); (try simp only [if_neg (show ¬ (a1 = 0) from c88)] at k)
        refine j_aload_n g (i := 0) (by decide +kernel) rfl ?_
        refine j_gI g f8_316 (by decide +kernel) (by decide +kernel) (by decide +kernel) ?_
        refine j_if_ne g (off := 7) (tgt := 102) (by decide +kernel) (by decide) (fun c95 => ?_) (fun c95 => ?_)
        · (try rw [if_pos (show ¬ ((wi (w_X8_goesThrough σ.1 x2 σ.2.2) 600 10 0).1 600 32) = 0 from c95)] at hc); (rw [if_pos (show ¬ ((wi (w_X8_goesThrough σ.1 x2 σ.2.2) 600 10 0).1 600 32) = 0 from c95)] at hp); (try simp only [if_pos (show ¬ ((wi (w_X8_goesThrough σ.1 x2 σ.2.2) 600 10 0).1 600 32) = 0 from c95)] at k)
          refine j_iconst g (n := 0) (0) (by decide +kernel) rfl ?_
          refine j_goto g (off := 7) (tgt := 110) (by decide +kernel) (by decide) ?_
          refine j_i2l g (by decide +kernel) ?_
          refine j_lmul g (by decide +kernel) ?_
          refine j_ladd g (by decide +kernel) ?_
          refine j_lstore_n g (i := 3) (by decide +kernel) (by decide) ?_
          dsimp only [stL, clL, hdL]
          refine j_iinc g (i := 5) (n := 1) (1) (by decide +kernel) rfl (by decide) rfl ?_
          dsimp only [stL, clL, hdL]
          refine j_goto g (off := -107) (tgt := 10) (by decide +kernel) (by decide) ?_
          exact k _ _
        · (try rw [if_neg (show ¬ (¬ ((wi (w_X8_goesThrough σ.1 x2 σ.2.2) 600 10 0).1 600 32) = 0) from c95)] at hc); (rw [if_neg (show ¬ (¬ ((wi (w_X8_goesThrough σ.1 x2 σ.2.2) 600 10 0).1 600 32) = 0) from c95)] at hp); (try simp only [if_neg (show ¬ (¬ ((wi (w_X8_goesThrough σ.1 x2 σ.2.2) 600 10 0).1 600 32) = 0) from c95)] at k)
          refine j_iconst g (n := 1) (1) (by decide +kernel) rfl ?_
          refine j_goto g (off := 11) (tgt := 110) (by decide +kernel) (by decide) ?_
          refine j_i2l g (by decide +kernel) ?_
          refine j_lmul g (by decide +kernel) ?_
          refine j_ladd g (by decide +kernel) ?_
          refine j_lstore_n g (i := 3) (by decide +kernel) (by decide) ?_
          dsimp only [stL, clL, hdL]
          refine j_iinc g (i := 5) (n := 1) (1) (by decide +kernel) rfl (by decide) rfl ?_
          dsimp only [stL, clL, hdL]
          refine j_goto g (off := -107) (tgt := 10) (by decide +kernel) (by decide) ?_
          exact k _ _
    · (try rw [if_neg (show ¬ (x2 ≤ ((l_X8_called_24 σ.1 a1 x2 σ.2.1 σ.2.2 (1, 0) (Int32.toNatClampNeg (x2))).2)) from c27)] at hc); (rw [if_neg (show ¬ (x2 ≤ ((l_X8_called_24 σ.1 a1 x2 σ.2.1 σ.2.2 (1, 0) (Int32.toNatClampNeg (x2))).2)) from c27)] at hp); (try simp only [if_neg (show ¬ (x2 ≤ ((l_X8_called_24 σ.1 a1 x2 σ.2.1 σ.2.2 (1, 0) (Int32.toNatClampNeg (x2))).2)) from c27)] at k)
      refine absurd (ci_X8_called_24.mpr ?_) hx_24_2
      simp only [if_neg (show ¬ (((1 : Int32) <<< (x2 &&& 31)) ≤ σ.2.2) from c15), if_neg (show ¬ (x2 ≤ ((l_X8_called_24 σ.1 a1 x2 σ.2.1 σ.2.2 (1, 0) (Int32.toNatClampNeg (x2))).2)) from c27)]
theorem sh_X8_called_10 {d : Nat} {J : Nat → Lc → List Value → Mm → Prop} {a1 : Int32} {x2 : Int32} {σ0 : Mm × Int64 × Int32}  (g : Good mX8_called.1 mX8_called.2.2.1 mX8_called.2.2.2.1 (d + 7) J) : ∀ (N : Nat), (∀ k, k < N → c_X8_called_10 a1 x2 (l_X8_called_10 a1 x2 σ0 k)) → (∀ k, k < N → q_X8_called_10 a1 x2 (l_X8_called_10 a1 x2 σ0 k)) → (∀ (j6 j8 : Option Value), J 10 [some (.ref 600), some (.int a1), some (.int x2), some (.long ((l_X8_called_10 a1 x2 σ0 N).2.1)), none, some (.int ((l_X8_called_10 a1 x2 σ0 N).2.2)), j6, none, j8] [] ((l_X8_called_10 a1 x2 σ0 N).1)) → ∀ (j6 j8 : Option Value), J 10 [some (.ref 600), some (.int a1), some (.int x2), some (.long σ0.2.1), none, some (.int σ0.2.2), j6, none, j8] [] σ0.1
  | 0, _, _, k => k
  | N + 1, hc, hp, k => sh_X8_called_10  g N (fun i hi => hc i (Nat.lt_succ_of_lt hi)) (fun i hi => hp i (Nat.lt_succ_of_lt hi)) (ps_X8_called_10  g (hc N (Nat.lt_succ_self N)) (hp N (Nat.lt_succ_self N)) k)
noncomputable def w_X8_called (M : Mm) (a1 : Int32) : Mm := if ((1 : Int32) <<< ((r_X8_openMany M) &&& 31)) ≤ ((l_X8_called_10 a1 (r_X8_openMany M) (M, 0, 0) (Int32.toNatClampNeg ((1 : Int32) <<< ((r_X8_openMany M) &&& 31)))).2.2) then (w_X8_lowest (l_X8_called_10 a1 (r_X8_openMany M) (M, 0, 0) (Int32.toNatClampNeg ((1 : Int32) <<< ((r_X8_openMany M) &&& 31)))).1 ((l_X8_called_10 a1 (r_X8_openMany M) (M, 0, 0) (Int32.toNatClampNeg ((1 : Int32) <<< ((r_X8_openMany M) &&& 31)))).2.1) (1 <<< (Int32.toInt64 ((3 : Int32) * (r_X8_openMany M)) &&& 63))) else M
def p_X8_called (M : Mm) (a1 : Int32) : Prop := (p_X8_openMany M ) ∧ (∀ k, k < (Int32.toNatClampNeg ((1 : Int32) <<< ((r_X8_openMany M) &&& 31))) → c_X8_called_10 a1 (r_X8_openMany M) (l_X8_called_10 a1 (r_X8_openMany M) (M, 0, 0) k)) ∧ (∀ k, k < (Int32.toNatClampNeg ((1 : Int32) <<< ((r_X8_openMany M) &&& 31))) → q_X8_called_10 a1 (r_X8_openMany M) (l_X8_called_10 a1 (r_X8_openMany M) (M, 0, 0) k)) ∧ (¬ c_X8_called_10 a1 (r_X8_openMany M) (l_X8_called_10 a1 (r_X8_openMany M) (M, 0, 0) (Int32.toNatClampNeg ((1 : Int32) <<< ((r_X8_openMany M) &&& 31))))) ∧ (if ((1 : Int32) <<< ((r_X8_openMany M) &&& 31)) ≤ ((l_X8_called_10 a1 (r_X8_openMany M) (M, 0, 0) (Int32.toNatClampNeg ((1 : Int32) <<< ((r_X8_openMany M) &&& 31)))).2.2) then (p_X8_lowest (l_X8_called_10 a1 (r_X8_openMany M) (M, 0, 0) (Int32.toNatClampNeg ((1 : Int32) <<< ((r_X8_openMany M) &&& 31)))).1 ((l_X8_called_10 a1 (r_X8_openMany M) (M, 0, 0) (Int32.toNatClampNeg ((1 : Int32) <<< ((r_X8_openMany M) &&& 31)))).2.1) (1 <<< (Int32.toInt64 ((3 : Int32) * (r_X8_openMany M)) &&& 63))) ∧ True else True)
set_option maxRecDepth 20000 in
theorem rnX8_called {d : Nat} {M : Mm} {a1 : Int32}  (hp : p_X8_called M a1) : Rn (d + 7) mX8_called [.ref 600, .int a1] M none (w_X8_called M a1) := by
  refine Rn.of [some (.ref 600), some (.int a1), none, none, none, none, none, none, none] (by decide +kernel) rfl (Nat.le_of_ble_eq_true rfl) rfl (fun J g hr => ?_)
  unfold p_X8_called at hp
  refine j_aload_n g (i := 0) (by decide +kernel) rfl ?_
  obtain ⟨h0, hp⟩ := hp
  refine j_cV0r g v8_304 ⟨rfl, by decide⟩ (by decide +kernel) (by decide +kernel) (Nat.le_of_ble_eq_true rfl) (rnX8_openMany h0) ?_
  refine j_istore_n g (i := 2) (by decide +kernel) (by decide) ?_
  dsimp only [stL, clL, hdL]
  refine j_lconst g (n := 0) (0) (by decide +kernel) rfl ?_
  refine j_lstore_n g (i := 3) (by decide +kernel) (by decide) ?_
  dsimp only [stL, clL, hdL]
  refine j_iconst g (n := 0) (0) (by decide +kernel) rfl ?_
  refine j_istore g (i := 5) (by decide +kernel) (by decide) ?_
  dsimp only [stL, clL, hdL]
  obtain ⟨h0, hp⟩ := hp
  have hc_10_3 := h0
  obtain ⟨h0, hp⟩ := hp
  have hq_10_3 := h0
  obtain ⟨h0, hp⟩ := hp
  have hx_10_3 := h0
  refine sh_X8_called_10 (x2 := (r_X8_openMany M))  g (σ0 := (M, 0, 0)) (Int32.toNatClampNeg ((1 : Int32) <<< ((r_X8_openMany M) &&& 31))) hc_10_3 hq_10_3 ?_ _ _
  intro j6_3 j8_3
  refine j_iload g (i := 5) (by decide +kernel) rfl ?_
  refine j_iconst g (n := 1) (1) (by decide +kernel) rfl ?_
  refine j_iload_n g (i := 2) (by decide +kernel) rfl ?_
  refine j_ishl g (by decide +kernel) ?_
  refine j_icmp_ge g (off := 105) (tgt := 120) (by decide +kernel) (by decide) (fun c15 => ?_) (fun c15 => ?_)
  · rw [if_pos (show ((1 : Int32) <<< ((r_X8_openMany M) &&& 31)) ≤ ((l_X8_called_10 a1 (r_X8_openMany M) (M, 0, 0) (Int32.toNatClampNeg ((1 : Int32) <<< ((r_X8_openMany M) &&& 31)))).2.2) from c15)] at hp
    refine j_aload_n g (i := 0) (by decide +kernel) rfl ?_
    refine j_lload_n g (i := 3) (by decide +kernel) rfl ?_
    refine j_lconst g (n := 1) (1) (by decide +kernel) rfl ?_
    refine j_iconst g (n := 3) (3) (by decide +kernel) rfl ?_
    refine j_iload_n g (i := 2) (by decide +kernel) rfl ?_
    refine j_imul g (by decide +kernel) ?_
    refine j_lshl g (by decide +kernel) ?_
    obtain ⟨h0, hp⟩ := hp
    refine j_cV2v g v8_360 ⟨rfl, by decide⟩ (by decide +kernel) (by decide +kernel) (Nat.le_of_ble_eq_true rfl) (rnX8_lowest h0) ?_
    refine hr.2.2.2 _ _ _ (by decide +kernel) rfl rfl ?_
    · unfold w_X8_called; first | (simp only [if_pos (show ((1 : Int32) <<< ((r_X8_openMany M) &&& 31)) ≤ ((l_X8_called_10 a1 (r_X8_openMany M) (M, 0, 0) (Int32.toNatClampNeg ((1 : Int32) <<< ((r_X8_openMany M) &&& 31)))).2.2) from c15)]; done) | (simp only [if_pos (show ((1 : Int32) <<< ((r_X8_openMany M) &&& 31)) ≤ ((l_X8_called_10 a1 (r_X8_openMany M) (M, 0, 0) (Int32.toNatClampNeg ((1 : Int32) <<< ((r_X8_openMany M) &&& 31)))).2.2) from c15)]; rfl) | rfl
  · rw [if_neg (show ¬ (((1 : Int32) <<< ((r_X8_openMany M) &&& 31)) ≤ ((l_X8_called_10 a1 (r_X8_openMany M) (M, 0, 0) (Int32.toNatClampNeg ((1 : Int32) <<< ((r_X8_openMany M) &&& 31)))).2.2)) from c15)] at hp
    refine absurd (ci_X8_called_10.mpr ?_) hx_10_3
    simp only [if_neg (show ¬ (((1 : Int32) <<< ((r_X8_openMany M) &&& 31)) ≤ ((l_X8_called_10 a1 (r_X8_openMany M) (M, 0, 0) (Int32.toNatClampNeg ((1 : Int32) <<< ((r_X8_openMany M) &&& 31)))).2.2)) from c15)]
def c_X8_bell_20 (a1 : Int32) (σ : Mm × Int32) : Prop := if (σ.1.1 600 2) ≤ σ.2 then False else True
theorem ci_X8_bell_20 {a1 : Int32}  {σ : Mm × Int32} : c_X8_bell_20 a1 σ ↔ (if (σ.1.1 600 2) ≤ σ.2 then False else True) := Iff.rfl
noncomputable def s_X8_bell_20 (a1 : Int32) (σ : Mm × Int32) : Mm × Int32 := if (σ.1.1 600 2) ≤ σ.2 then σ else if (b2i (σ.1.1 607 (Int32.toNatClampNeg (σ.1.1 600 10 + 9 + σ.2)) = 0)) = 0 then ((wi σ.1 618 (Int32.toNatClampNeg σ.2) 0), σ.2 + 1) else ((wi (w_X8_minutesOf σ.1 σ.2) 618 (Int32.toNatClampNeg σ.2) (r_X8_minutesOf σ.1 σ.2)), σ.2 + 1)
def q_X8_bell_20 (a1 : Int32) (σ : Mm × Int32) : Prop := (if (σ.1.1 600 2) ≤ σ.2 then True else (vp_in (σ.1.1 600 10 + 9 + σ.2) 44) ∧ (if (b2i (σ.1.1 607 (Int32.toNatClampNeg (σ.1.1 600 10 + 9 + σ.2)) = 0)) = 0 then (vp_in σ.2 6) ∧ True else (p_X8_minutesOf σ.1 σ.2) ∧ (vp_in σ.2 6) ∧ True))
noncomputable def l_X8_bell_20 (a1 : Int32) (σ0 : Mm × Int32) : Nat → Mm × Int32 := itN (fun _ σ => s_X8_bell_20 a1 σ) σ0
theorem ps_X8_bell_20 {d : Nat} {J : Nat → Lc → List Value → Mm → Prop} {a1 : Int32}  {σ : Mm × Int32}  (g : Good mX8_bell.1 mX8_bell.2.2.1 mX8_bell.2.2.2.1 (d + 5) J) (hc : c_X8_bell_20 a1 σ) (hp : q_X8_bell_20 a1 σ) (k : J 20 [some (.ref 600), some (.int a1), some (.int ((s_X8_bell_20 a1 σ).2)), none] [] ((s_X8_bell_20 a1 σ).1)) : J 20 [some (.ref 600), some (.int a1), some (.int σ.2), none] [] σ.1 := by
  unfold c_X8_bell_20 at hc
  unfold q_X8_bell_20 at hp
  unfold s_X8_bell_20 at k
  refine j_iload_n g (i := 2) (by decide +kernel) rfl ?_
  refine j_aload_n g (i := 0) (by decide +kernel) rfl ?_
  refine j_gI g f8_99 (by decide +kernel) (by decide +kernel) (by decide +kernel) ?_
  refine j_icmp_ge g (off := 32) (tgt := 57) (by decide +kernel) (by decide) (fun c25 => ?_) (fun c25 => ?_)
  · (try rw [if_pos (show (σ.1.1 600 2) ≤ σ.2 from c25)] at hc); (rw [if_pos (show (σ.1.1 600 2) ≤ σ.2 from c25)] at hp); (try simp only [if_pos (show (σ.1.1 600 2) ≤ σ.2 from c25)] at k)
    exact hc.elim
  · (try rw [if_neg (show ¬ ((σ.1.1 600 2) ≤ σ.2) from c25)] at hc); (rw [if_neg (show ¬ ((σ.1.1 600 2) ≤ σ.2) from c25)] at hp); (try simp only [if_neg (show ¬ ((σ.1.1 600 2) ≤ σ.2) from c25)] at k)
    refine j_aload_n g (i := 0) (by decide +kernel) rfl ?_
    refine j_gA g (b := 618) f8_61 (by decide +kernel) (by decide +kernel) (by decide +kernel) (by decide +kernel) ?_
    refine j_iload_n g (i := 2) (by decide +kernel) rfl ?_
    refine j_aload_n g (i := 0) (by decide +kernel) rfl ?_
    refine j_iload_n g (i := 2) (by decide +kernel) rfl ?_
    obtain ⟨h0, hp⟩ := hp
    refine j_cV1r g v8_246 ⟨rfl, by decide⟩ (by decide +kernel) (by decide +kernel) (Nat.le_of_ble_eq_true rfl) (rnX8_isOpen h0) ?_
    refine j_if_eq g (off := 11) (tgt := 49) (by decide +kernel) (by decide) (fun c38 => ?_) (fun c38 => ?_)
    · (try rw [if_pos (show (b2i (σ.1.1 607 (Int32.toNatClampNeg (σ.1.1 600 10 + 9 + σ.2)) = 0)) = 0 from c38)] at hc); (rw [if_pos (show (b2i (σ.1.1 607 (Int32.toNatClampNeg (σ.1.1 600 10 + 9 + σ.2)) = 0)) = 0 from c38)] at hp); (try simp only [if_pos (show (b2i (σ.1.1 607 (Int32.toNatClampNeg (σ.1.1 600 10 + 9 + σ.2)) = 0)) = 0 from c38)] at k)
      refine j_iconst g (n := 0) (0) (by decide +kernel) rfl ?_
      obtain ⟨h0, hp⟩ := hp
      refine j_is g 6 (by decide +kernel) (by decide +kernel) (by decide +kernel) h0 ?_
      refine j_iinc g (i := 2) (n := 1) (1) (by decide +kernel) rfl (by decide) rfl ?_
      dsimp only [stL, clL, hdL]
      refine j_goto g (off := -34) (tgt := 20) (by decide +kernel) (by decide) ?_
      exact k 
    · (try rw [if_neg (show ¬ ((b2i (σ.1.1 607 (Int32.toNatClampNeg (σ.1.1 600 10 + 9 + σ.2)) = 0)) = 0) from c38)] at hc); (rw [if_neg (show ¬ ((b2i (σ.1.1 607 (Int32.toNatClampNeg (σ.1.1 600 10 + 9 + σ.2)) = 0)) = 0) from c38)] at hp); (try simp only [if_neg (show ¬ ((b2i (σ.1.1 607 (Int32.toNatClampNeg (σ.1.1 600 10 + 9 + σ.2)) = 0)) = 0) from c38)] at k)
      refine j_aload_n g (i := 0) (by decide +kernel) rfl ?_
      refine j_iload_n g (i := 2) (by decide +kernel) rfl ?_
      obtain ⟨h0, hp⟩ := hp
      refine j_cV1r g v8_283 ⟨rfl, by decide⟩ (by decide +kernel) (by decide +kernel) (Nat.le_of_ble_eq_true rfl) (rnX8_minutesOf h0) ?_
      refine j_goto g (off := 4) (tgt := 50) (by decide +kernel) (by decide) ?_
      obtain ⟨h0, hp⟩ := hp
      refine j_is g 6 (by decide +kernel) (by decide +kernel) (by decide +kernel) h0 ?_
      refine j_iinc g (i := 2) (n := 1) (1) (by decide +kernel) rfl (by decide) rfl ?_
      dsimp only [stL, clL, hdL]
      refine j_goto g (off := -34) (tgt := 20) (by decide +kernel) (by decide) ?_
      exact k 
theorem sh_X8_bell_20 {d : Nat} {J : Nat → Lc → List Value → Mm → Prop} {a1 : Int32}  {σ0 : Mm × Int32}  (g : Good mX8_bell.1 mX8_bell.2.2.1 mX8_bell.2.2.2.1 (d + 5) J) : ∀ (N : Nat), (∀ k, k < N → c_X8_bell_20 a1 (l_X8_bell_20 a1 σ0 k)) → (∀ k, k < N → q_X8_bell_20 a1 (l_X8_bell_20 a1 σ0 k)) → (J 20 [some (.ref 600), some (.int a1), some (.int ((l_X8_bell_20 a1 σ0 N).2)), none] [] ((l_X8_bell_20 a1 σ0 N).1)) → J 20 [some (.ref 600), some (.int a1), some (.int σ0.2), none] [] σ0.1
  | 0, _, _, k => k
  | N + 1, hc, hp, k => sh_X8_bell_20  g N (fun i hi => hc i (Nat.lt_succ_of_lt hi)) (fun i hi => hp i (Nat.lt_succ_of_lt hi)) (ps_X8_bell_20  g (hc N (Nat.lt_succ_self N)) (hp N (Nat.lt_succ_self N)) k)
def c_X8_bell_80 (a1 : Int32) (σ : Mm × Int32) : Prop := if (σ.1.1 600 2) ≤ σ.2 then False else True
theorem ci_X8_bell_80 {a1 : Int32}  {σ : Mm × Int32} : c_X8_bell_80 a1 σ ↔ (if (σ.1.1 600 2) ≤ σ.2 then False else True) := Iff.rfl
noncomputable def s_X8_bell_80 (a1 : Int32) (σ : Mm × Int32) : Mm × Int32 := if (σ.1.1 600 2) ≤ σ.2 then σ else if (r_X8_isFree σ.1 σ.2) = 0 then (σ.1, σ.2 + 1) else if (σ.1.1 604 3) ≤ (σ.1.1 618 (Int32.toNatClampNeg σ.2)) then (if ¬ ((wi (w_X8_passes σ.1 (σ.1.1 604 3)) 618 (Int32.toNatClampNeg σ.2) (((w_X8_passes σ.1 (σ.1.1 604 3)).1 618 (Int32.toNatClampNeg σ.2)) - (σ.1.1 604 3))).1 618 (Int32.toNatClampNeg σ.2)) = 0 then ((wi (wi (wi (w_X8_passes σ.1 (σ.1.1 604 3)) 618 (Int32.toNatClampNeg σ.2) (((w_X8_passes σ.1 (σ.1.1 604 3)).1 618 (Int32.toNatClampNeg σ.2)) - (σ.1.1 604 3))) 607 (Int32.toNatClampNeg ((((wi (w_X8_passes σ.1 (σ.1.1 604 3)) 618 (Int32.toNatClampNeg σ.2) (((w_X8_passes σ.1 (σ.1.1 604 3)).1 618 (Int32.toNatClampNeg σ.2)) - (σ.1.1 604 3))).1 600 10) + 9) + σ.2)) 0) 607 (Int32.toNatClampNeg ((((wi (wi (w_X8_passes σ.1 (σ.1.1 604 3)) 618 (Int32.toNatClampNeg σ.2) (((w_X8_passes σ.1 (σ.1.1 604 3)).1 618 (Int32.toNatClampNeg σ.2)) - (σ.1.1 604 3))) 607 (Int32.toNatClampNeg ((((wi (w_X8_passes σ.1 (σ.1.1 604 3)) 618 (Int32.toNatClampNeg σ.2) (((w_X8_passes σ.1 (σ.1.1 604 3)).1 618 (Int32.toNatClampNeg σ.2)) - (σ.1.1 604 3))).1 600 10) + 9) + σ.2)) 0).1 600 10) + 15) + σ.2)) ((wi (wi (w_X8_passes σ.1 (σ.1.1 604 3)) 618 (Int32.toNatClampNeg σ.2) (((w_X8_passes σ.1 (σ.1.1 604 3)).1 618 (Int32.toNatClampNeg σ.2)) - (σ.1.1 604 3))) 607 (Int32.toNatClampNeg ((((wi (w_X8_passes σ.1 (σ.1.1 604 3)) 618 (Int32.toNatClampNeg σ.2) (((w_X8_passes σ.1 (σ.1.1 604 3)).1 618 (Int32.toNatClampNeg σ.2)) - (σ.1.1 604 3))).1 600 10) + 9) + σ.2)) 0).1 607 (Int32.toNatClampNeg (((wi (wi (w_X8_passes σ.1 (σ.1.1 604 3)) 618 (Int32.toNatClampNeg σ.2) (((w_X8_passes σ.1 (σ.1.1 604 3)).1 618 (Int32.toNatClampNeg σ.2)) - (σ.1.1 604 3))) 607 (Int32.toNatClampNeg ((((wi (w_X8_passes σ.1 (σ.1.1 604 3)) 618 (Int32.toNatClampNeg σ.2) (((w_X8_passes σ.1 (σ.1.1 604 3)).1 618 (Int32.toNatClampNeg σ.2)) - (σ.1.1 604 3))).1 600 10) + 9) + σ.2)) 0).1 600 10) + 21)))), σ.2 + 1) else ((wi (wi (wi (w_X8_passes σ.1 (σ.1.1 604 3)) 618 (Int32.toNatClampNeg σ.2) (((w_X8_passes σ.1 (σ.1.1 604 3)).1 618 (Int32.toNatClampNeg σ.2)) - (σ.1.1 604 3))) 607 (Int32.toNatClampNeg ((((wi (w_X8_passes σ.1 (σ.1.1 604 3)) 618 (Int32.toNatClampNeg σ.2) (((w_X8_passes σ.1 (σ.1.1 604 3)).1 618 (Int32.toNatClampNeg σ.2)) - (σ.1.1 604 3))).1 600 10) + 9) + σ.2)) 1) 607 (Int32.toNatClampNeg ((((wi (wi (w_X8_passes σ.1 (σ.1.1 604 3)) 618 (Int32.toNatClampNeg σ.2) (((w_X8_passes σ.1 (σ.1.1 604 3)).1 618 (Int32.toNatClampNeg σ.2)) - (σ.1.1 604 3))) 607 (Int32.toNatClampNeg ((((wi (w_X8_passes σ.1 (σ.1.1 604 3)) 618 (Int32.toNatClampNeg σ.2) (((w_X8_passes σ.1 (σ.1.1 604 3)).1 618 (Int32.toNatClampNeg σ.2)) - (σ.1.1 604 3))).1 600 10) + 9) + σ.2)) 1).1 600 10) + 15) + σ.2)) ((wi (wi (w_X8_passes σ.1 (σ.1.1 604 3)) 618 (Int32.toNatClampNeg σ.2) (((w_X8_passes σ.1 (σ.1.1 604 3)).1 618 (Int32.toNatClampNeg σ.2)) - (σ.1.1 604 3))) 607 (Int32.toNatClampNeg ((((wi (w_X8_passes σ.1 (σ.1.1 604 3)) 618 (Int32.toNatClampNeg σ.2) (((w_X8_passes σ.1 (σ.1.1 604 3)).1 618 (Int32.toNatClampNeg σ.2)) - (σ.1.1 604 3))).1 600 10) + 9) + σ.2)) 1).1 607 (Int32.toNatClampNeg (((wi (wi (w_X8_passes σ.1 (σ.1.1 604 3)) 618 (Int32.toNatClampNeg σ.2) (((w_X8_passes σ.1 (σ.1.1 604 3)).1 618 (Int32.toNatClampNeg σ.2)) - (σ.1.1 604 3))) 607 (Int32.toNatClampNeg ((((wi (w_X8_passes σ.1 (σ.1.1 604 3)) 618 (Int32.toNatClampNeg σ.2) (((w_X8_passes σ.1 (σ.1.1 604 3)).1 618 (Int32.toNatClampNeg σ.2)) - (σ.1.1 604 3))).1 600 10) + 9) + σ.2)) 1).1 600 10) + 21)))), σ.2 + 1)) else if ¬ ((wi (w_X8_passes σ.1 (σ.1.1 618 (Int32.toNatClampNeg σ.2))) 618 (Int32.toNatClampNeg σ.2) (((w_X8_passes σ.1 (σ.1.1 618 (Int32.toNatClampNeg σ.2))).1 618 (Int32.toNatClampNeg σ.2)) - (σ.1.1 618 (Int32.toNatClampNeg σ.2)))).1 618 (Int32.toNatClampNeg σ.2)) = 0 then ((wi (wi (wi (w_X8_passes σ.1 (σ.1.1 618 (Int32.toNatClampNeg σ.2))) 618 (Int32.toNatClampNeg σ.2) (((w_X8_passes σ.1 (σ.1.1 618 (Int32.toNatClampNeg σ.2))).1 618 (Int32.toNatClampNeg σ.2)) - (σ.1.1 618 (Int32.toNatClampNeg σ.2)))) 607 (Int32.toNatClampNeg ((((wi (w_X8_passes σ.1 (σ.1.1 618 (Int32.toNatClampNeg σ.2))) 618 (Int32.toNatClampNeg σ.2) (((w_X8_passes σ.1 (σ.1.1 618 (Int32.toNatClampNeg σ.2))).1 618 (Int32.toNatClampNeg σ.2)) - (σ.1.1 618 (Int32.toNatClampNeg σ.2)))).1 600 10) + 9) + σ.2)) 0) 607 (Int32.toNatClampNeg ((((wi (wi (w_X8_passes σ.1 (σ.1.1 618 (Int32.toNatClampNeg σ.2))) 618 (Int32.toNatClampNeg σ.2) (((w_X8_passes σ.1 (σ.1.1 618 (Int32.toNatClampNeg σ.2))).1 618 (Int32.toNatClampNeg σ.2)) - (σ.1.1 618 (Int32.toNatClampNeg σ.2)))) 607 (Int32.toNatClampNeg ((((wi (w_X8_passes σ.1 (σ.1.1 618 (Int32.toNatClampNeg σ.2))) 618 (Int32.toNatClampNeg σ.2) (((w_X8_passes σ.1 (σ.1.1 618 (Int32.toNatClampNeg σ.2))).1 618 (Int32.toNatClampNeg σ.2)) - (σ.1.1 618 (Int32.toNatClampNeg σ.2)))).1 600 10) + 9) + σ.2)) 0).1 600 10) + 15) + σ.2)) ((wi (wi (w_X8_passes σ.1 (σ.1.1 618 (Int32.toNatClampNeg σ.2))) 618 (Int32.toNatClampNeg σ.2) (((w_X8_passes σ.1 (σ.1.1 618 (Int32.toNatClampNeg σ.2))).1 618 (Int32.toNatClampNeg σ.2)) - (σ.1.1 618 (Int32.toNatClampNeg σ.2)))) 607 (Int32.toNatClampNeg ((((wi (w_X8_passes σ.1 (σ.1.1 618 (Int32.toNatClampNeg σ.2))) 618 (Int32.toNatClampNeg σ.2) (((w_X8_passes σ.1 (σ.1.1 618 (Int32.toNatClampNeg σ.2))).1 618 (Int32.toNatClampNeg σ.2)) - (σ.1.1 618 (Int32.toNatClampNeg σ.2)))).1 600 10) + 9) + σ.2)) 0).1 607 (Int32.toNatClampNeg (((wi (wi (w_X8_passes σ.1 (σ.1.1 618 (Int32.toNatClampNeg σ.2))) 618 (Int32.toNatClampNeg σ.2) (((w_X8_passes σ.1 (σ.1.1 618 (Int32.toNatClampNeg σ.2))).1 618 (Int32.toNatClampNeg σ.2)) - (σ.1.1 618 (Int32.toNatClampNeg σ.2)))) 607 (Int32.toNatClampNeg ((((wi (w_X8_passes σ.1 (σ.1.1 618 (Int32.toNatClampNeg σ.2))) 618 (Int32.toNatClampNeg σ.2) (((w_X8_passes σ.1 (σ.1.1 618 (Int32.toNatClampNeg σ.2))).1 618 (Int32.toNatClampNeg σ.2)) - (σ.1.1 618 (Int32.toNatClampNeg σ.2)))).1 600 10) + 9) + σ.2)) 0).1 600 10) + 21)))), σ.2 + 1) else ((wi (wi (wi (w_X8_passes σ.1 (σ.1.1 618 (Int32.toNatClampNeg σ.2))) 618 (Int32.toNatClampNeg σ.2) (((w_X8_passes σ.1 (σ.1.1 618 (Int32.toNatClampNeg σ.2))).1 618 (Int32.toNatClampNeg σ.2)) - (σ.1.1 618 (Int32.toNatClampNeg σ.2)))) 607 (Int32.toNatClampNeg ((((wi (w_X8_passes σ.1 (σ.1.1 618 (Int32.toNatClampNeg σ.2))) 618 (Int32.toNatClampNeg σ.2) (((w_X8_passes σ.1 (σ.1.1 618 (Int32.toNatClampNeg σ.2))).1 618 (Int32.toNatClampNeg σ.2)) - (σ.1.1 618 (Int32.toNatClampNeg σ.2)))).1 600 10) + 9) + σ.2)) 1) 607 (Int32.toNatClampNeg ((((wi (wi (w_X8_passes σ.1 (σ.1.1 618 (Int32.toNatClampNeg σ.2))) 618 (Int32.toNatClampNeg σ.2) (((w_X8_passes σ.1 (σ.1.1 618 (Int32.toNatClampNeg σ.2))).1 618 (Int32.toNatClampNeg σ.2)) - (σ.1.1 618 (Int32.toNatClampNeg σ.2)))) 607 (Int32.toNatClampNeg ((((wi (w_X8_passes σ.1 (σ.1.1 618 (Int32.toNatClampNeg σ.2))) 618 (Int32.toNatClampNeg σ.2) (((w_X8_passes σ.1 (σ.1.1 618 (Int32.toNatClampNeg σ.2))).1 618 (Int32.toNatClampNeg σ.2)) - (σ.1.1 618 (Int32.toNatClampNeg σ.2)))).1 600 10) + 9) + σ.2)) 1).1 600 10) + 15) + σ.2)) ((wi (wi (w_X8_passes σ.1 (σ.1.1 618 (Int32.toNatClampNeg σ.2))) 618 (Int32.toNatClampNeg σ.2) (((w_X8_passes σ.1 (σ.1.1 618 (Int32.toNatClampNeg σ.2))).1 618 (Int32.toNatClampNeg σ.2)) - (σ.1.1 618 (Int32.toNatClampNeg σ.2)))) 607 (Int32.toNatClampNeg ((((wi (w_X8_passes σ.1 (σ.1.1 618 (Int32.toNatClampNeg σ.2))) 618 (Int32.toNatClampNeg σ.2) (((w_X8_passes σ.1 (σ.1.1 618 (Int32.toNatClampNeg σ.2))).1 618 (Int32.toNatClampNeg σ.2)) - (σ.1.1 618 (Int32.toNatClampNeg σ.2)))).1 600 10) + 9) + σ.2)) 1).1 607 (Int32.toNatClampNeg (((wi (wi (w_X8_passes σ.1 (σ.1.1 618 (Int32.toNatClampNeg σ.2))) 618 (Int32.toNatClampNeg σ.2) (((w_X8_passes σ.1 (σ.1.1 618 (Int32.toNatClampNeg σ.2))).1 618 (Int32.toNatClampNeg σ.2)) - (σ.1.1 618 (Int32.toNatClampNeg σ.2)))) 607 (Int32.toNatClampNeg ((((wi (w_X8_passes σ.1 (σ.1.1 618 (Int32.toNatClampNeg σ.2))) 618 (Int32.toNatClampNeg σ.2) (((w_X8_passes σ.1 (σ.1.1 618 (Int32.toNatClampNeg σ.2))).1 618 (Int32.toNatClampNeg σ.2)) - (σ.1.1 618 (Int32.toNatClampNeg σ.2)))).1 600 10) + 9) + σ.2)) 1).1 600 10) + 21)))), σ.2 + 1)
def q_X8_bell_80 (a1 : Int32) (σ : Mm × Int32) : Prop := (if (σ.1.1 600 2) ≤ σ.2 then True else (p_X8_isFree σ.1 σ.2) ∧ (if (r_X8_isFree σ.1 σ.2) = 0 then True else (vp_in σ.2 6) ∧ (if (σ.1.1 604 3) ≤ (σ.1.1 618 (Int32.toNatClampNeg σ.2)) then (p_X8_passes σ.1 (σ.1.1 604 3)) ∧ (vp_in σ.2 6) ∧ (vp_in σ.2 6) ∧ (vp_in σ.2 6) ∧ (if ¬ ((wi (w_X8_passes σ.1 (σ.1.1 604 3)) 618 (Int32.toNatClampNeg σ.2) (((w_X8_passes σ.1 (σ.1.1 604 3)).1 618 (Int32.toNatClampNeg σ.2)) - (σ.1.1 604 3))).1 618 (Int32.toNatClampNeg σ.2)) = 0 then (vp_in ((((wi (w_X8_passes σ.1 (σ.1.1 604 3)) 618 (Int32.toNatClampNeg σ.2) (((w_X8_passes σ.1 (σ.1.1 604 3)).1 618 (Int32.toNatClampNeg σ.2)) - (σ.1.1 604 3))).1 600 10) + 9) + σ.2) 44) ∧ (vp_in (((wi (wi (w_X8_passes σ.1 (σ.1.1 604 3)) 618 (Int32.toNatClampNeg σ.2) (((w_X8_passes σ.1 (σ.1.1 604 3)).1 618 (Int32.toNatClampNeg σ.2)) - (σ.1.1 604 3))) 607 (Int32.toNatClampNeg ((((wi (w_X8_passes σ.1 (σ.1.1 604 3)) 618 (Int32.toNatClampNeg σ.2) (((w_X8_passes σ.1 (σ.1.1 604 3)).1 618 (Int32.toNatClampNeg σ.2)) - (σ.1.1 604 3))).1 600 10) + 9) + σ.2)) 0).1 600 10) + 21) 44) ∧ (vp_in ((((wi (wi (w_X8_passes σ.1 (σ.1.1 604 3)) 618 (Int32.toNatClampNeg σ.2) (((w_X8_passes σ.1 (σ.1.1 604 3)).1 618 (Int32.toNatClampNeg σ.2)) - (σ.1.1 604 3))) 607 (Int32.toNatClampNeg ((((wi (w_X8_passes σ.1 (σ.1.1 604 3)) 618 (Int32.toNatClampNeg σ.2) (((w_X8_passes σ.1 (σ.1.1 604 3)).1 618 (Int32.toNatClampNeg σ.2)) - (σ.1.1 604 3))).1 600 10) + 9) + σ.2)) 0).1 600 10) + 15) + σ.2) 44) ∧ True else (vp_in ((((wi (w_X8_passes σ.1 (σ.1.1 604 3)) 618 (Int32.toNatClampNeg σ.2) (((w_X8_passes σ.1 (σ.1.1 604 3)).1 618 (Int32.toNatClampNeg σ.2)) - (σ.1.1 604 3))).1 600 10) + 9) + σ.2) 44) ∧ (vp_in (((wi (wi (w_X8_passes σ.1 (σ.1.1 604 3)) 618 (Int32.toNatClampNeg σ.2) (((w_X8_passes σ.1 (σ.1.1 604 3)).1 618 (Int32.toNatClampNeg σ.2)) - (σ.1.1 604 3))) 607 (Int32.toNatClampNeg ((((wi (w_X8_passes σ.1 (σ.1.1 604 3)) 618 (Int32.toNatClampNeg σ.2) (((w_X8_passes σ.1 (σ.1.1 604 3)).1 618 (Int32.toNatClampNeg σ.2)) - (σ.1.1 604 3))).1 600 10) + 9) + σ.2)) 1).1 600 10) + 21) 44) ∧ (vp_in ((((wi (wi (w_X8_passes σ.1 (σ.1.1 604 3)) 618 (Int32.toNatClampNeg σ.2) (((w_X8_passes σ.1 (σ.1.1 604 3)).1 618 (Int32.toNatClampNeg σ.2)) - (σ.1.1 604 3))) 607 (Int32.toNatClampNeg ((((wi (w_X8_passes σ.1 (σ.1.1 604 3)) 618 (Int32.toNatClampNeg σ.2) (((w_X8_passes σ.1 (σ.1.1 604 3)).1 618 (Int32.toNatClampNeg σ.2)) - (σ.1.1 604 3))).1 600 10) + 9) + σ.2)) 1).1 600 10) + 15) + σ.2) 44) ∧ True) else (vp_in σ.2 6) ∧ (p_X8_passes σ.1 (σ.1.1 618 (Int32.toNatClampNeg σ.2))) ∧ (vp_in σ.2 6) ∧ (vp_in σ.2 6) ∧ (vp_in σ.2 6) ∧ (if ¬ ((wi (w_X8_passes σ.1 (σ.1.1 618 (Int32.toNatClampNeg σ.2))) 618 (Int32.toNatClampNeg σ.2) (((w_X8_passes σ.1 (σ.1.1 618 (Int32.toNatClampNeg σ.2))).1 618 (Int32.toNatClampNeg σ.2)) - (σ.1.1 618 (Int32.toNatClampNeg σ.2)))).1 618 (Int32.toNatClampNeg σ.2)) = 0 then (vp_in ((((wi (w_X8_passes σ.1 (σ.1.1 618 (Int32.toNatClampNeg σ.2))) 618 (Int32.toNatClampNeg σ.2) (((w_X8_passes σ.1 (σ.1.1 618 (Int32.toNatClampNeg σ.2))).1 618 (Int32.toNatClampNeg σ.2)) - (σ.1.1 618 (Int32.toNatClampNeg σ.2)))).1 600 10) + 9) + σ.2) 44) ∧ (vp_in (((wi (wi (w_X8_passes σ.1 (σ.1.1 618 (Int32.toNatClampNeg σ.2))) 618 (Int32.toNatClampNeg σ.2) (((w_X8_passes σ.1 (σ.1.1 618 (Int32.toNatClampNeg σ.2))).1 618 (Int32.toNatClampNeg σ.2)) - (σ.1.1 618 (Int32.toNatClampNeg σ.2)))) 607 (Int32.toNatClampNeg ((((wi (w_X8_passes σ.1 (σ.1.1 618 (Int32.toNatClampNeg σ.2))) 618 (Int32.toNatClampNeg σ.2) (((w_X8_passes σ.1 (σ.1.1 618 (Int32.toNatClampNeg σ.2))).1 618 (Int32.toNatClampNeg σ.2)) - (σ.1.1 618 (Int32.toNatClampNeg σ.2)))).1 600 10) + 9) + σ.2)) 0).1 600 10) + 21) 44) ∧ (vp_in ((((wi (wi (w_X8_passes σ.1 (σ.1.1 618 (Int32.toNatClampNeg σ.2))) 618 (Int32.toNatClampNeg σ.2) (((w_X8_passes σ.1 (σ.1.1 618 (Int32.toNatClampNeg σ.2))).1 618 (Int32.toNatClampNeg σ.2)) - (σ.1.1 618 (Int32.toNatClampNeg σ.2)))) 607 (Int32.toNatClampNeg ((((wi (w_X8_passes σ.1 (σ.1.1 618 (Int32.toNatClampNeg σ.2))) 618 (Int32.toNatClampNeg σ.2) (((w_X8_passes σ.1 (σ.1.1 618 (Int32.toNatClampNeg σ.2))).1 618 (Int32.toNatClampNeg σ.2)) - (σ.1.1 618 (Int32.toNatClampNeg σ.2)))).1 600 10) + 9) + σ.2)) 0).1 600 10) + 15) + σ.2) 44) ∧ True else (vp_in ((((wi (w_X8_passes σ.1 (σ.1.1 618 (Int32.toNatClampNeg σ.2))) 618 (Int32.toNatClampNeg σ.2) (((w_X8_passes σ.1 (σ.1.1 618 (Int32.toNatClampNeg σ.2))).1 618 (Int32.toNatClampNeg σ.2)) - (σ.1.1 618 (Int32.toNatClampNeg σ.2)))).1 600 10) + 9) + σ.2) 44) ∧ (vp_in (((wi (wi (w_X8_passes σ.1 (σ.1.1 618 (Int32.toNatClampNeg σ.2))) 618 (Int32.toNatClampNeg σ.2) (((w_X8_passes σ.1 (σ.1.1 618 (Int32.toNatClampNeg σ.2))).1 618 (Int32.toNatClampNeg σ.2)) - (σ.1.1 618 (Int32.toNatClampNeg σ.2)))) 607 (Int32.toNatClampNeg ((((wi (w_X8_passes σ.1 (σ.1.1 618 (Int32.toNatClampNeg σ.2))) 618 (Int32.toNatClampNeg σ.2) (((w_X8_passes σ.1 (σ.1.1 618 (Int32.toNatClampNeg σ.2))).1 618 (Int32.toNatClampNeg σ.2)) - (σ.1.1 618 (Int32.toNatClampNeg σ.2)))).1 600 10) + 9) + σ.2)) 1).1 600 10) + 21) 44) ∧ (vp_in ((((wi (wi (w_X8_passes σ.1 (σ.1.1 618 (Int32.toNatClampNeg σ.2))) 618 (Int32.toNatClampNeg σ.2) (((w_X8_passes σ.1 (σ.1.1 618 (Int32.toNatClampNeg σ.2))).1 618 (Int32.toNatClampNeg σ.2)) - (σ.1.1 618 (Int32.toNatClampNeg σ.2)))) 607 (Int32.toNatClampNeg ((((wi (w_X8_passes σ.1 (σ.1.1 618 (Int32.toNatClampNeg σ.2))) 618 (Int32.toNatClampNeg σ.2) (((w_X8_passes σ.1 (σ.1.1 618 (Int32.toNatClampNeg σ.2))).1 618 (Int32.toNatClampNeg σ.2)) - (σ.1.1 618 (Int32.toNatClampNeg σ.2)))).1 600 10) + 9) + σ.2)) 1).1 600 10) + 15) + σ.2) 44) ∧ True))))
noncomputable def l_X8_bell_80 (a1 : Int32) (σ0 : Mm × Int32) : Nat → Mm × Int32 := itN (fun _ σ => s_X8_bell_80 a1 σ) σ0
theorem ps_X8_bell_80 {d : Nat} {J : Nat → Lc → List Value → Mm → Prop} {a1 : Int32}  {σ : Mm × Int32}  (g : Good mX8_bell.1 mX8_bell.2.2.1 mX8_bell.2.2.2.1 (d + 5) J) (hc : c_X8_bell_80 a1 σ) (hp : q_X8_bell_80 a1 σ) (k : ∀ (j3 : Option Value), J 80 [some (.ref 600), some (.int a1), some (.int ((s_X8_bell_80 a1 σ).2)), j3] [] ((s_X8_bell_80 a1 σ).1)) : ∀ (j3 : Option Value), J 80 [some (.ref 600), some (.int a1), some (.int σ.2), j3] [] σ.1 := by
  intro j3
  unfold c_X8_bell_80 at hc
  unfold q_X8_bell_80 at hp
  unfold s_X8_bell_80 at k
  refine j_iload_n g (i := 2) (by decide +kernel) rfl ?_
  refine j_aload_n g (i := 0) (by decide +kernel) rfl ?_
  refine j_gI g f8_99 (by decide +kernel) (by decide +kernel) (by decide +kernel) ?_
  refine j_icmp_ge g (off := 117) (tgt := 202) (by decide +kernel) (by decide) (fun c85 => ?_) (fun c85 => ?_)
  · (try rw [if_pos (show (σ.1.1 600 2) ≤ σ.2 from c85)] at hc); (rw [if_pos (show (σ.1.1 600 2) ≤ σ.2 from c85)] at hp); (try simp only [if_pos (show (σ.1.1 600 2) ≤ σ.2 from c85)] at k)
    exact hc.elim
  · (try rw [if_neg (show ¬ ((σ.1.1 600 2) ≤ σ.2) from c85)] at hc); (rw [if_neg (show ¬ ((σ.1.1 600 2) ≤ σ.2) from c85)] at hp); (try simp only [if_neg (show ¬ ((σ.1.1 600 2) ≤ σ.2) from c85)] at k)
    refine j_aload_n g (i := 0) (by decide +kernel) rfl ?_
    refine j_iload_n g (i := 2) (by decide +kernel) rfl ?_
    obtain ⟨h0, hp⟩ := hp
    refine j_cV1r g v8_295 ⟨rfl, by decide⟩ (by decide +kernel) (by decide +kernel) (Nat.le_of_ble_eq_true rfl) (rnX8_isFree h0) ?_
    refine j_if_eq g (off := 103) (tgt := 196) (by decide +kernel) (by decide) (fun c93 => ?_) (fun c93 => ?_)
    · (try rw [if_pos (show (r_X8_isFree σ.1 σ.2) = 0 from c93)] at hc); (rw [if_pos (show (r_X8_isFree σ.1 σ.2) = 0 from c93)] at hp); (try simp only [if_pos (show (r_X8_isFree σ.1 σ.2) = 0 from c93)] at k)
      refine j_iinc g (i := 2) (n := 1) (1) (by decide +kernel) rfl (by decide) rfl ?_
      dsimp only [stL, clL, hdL]
      refine j_goto g (off := -119) (tgt := 80) (by decide +kernel) (by decide) ?_
      exact k _
    · (try rw [if_neg (show ¬ ((r_X8_isFree σ.1 σ.2) = 0) from c93)] at hc); (rw [if_neg (show ¬ ((r_X8_isFree σ.1 σ.2) = 0) from c93)] at hp); (try simp only [if_neg (show ¬ ((r_X8_isFree σ.1 σ.2) = 0) from c93)] at k)
      refine j_aload_n g (i := 0) (by decide +kernel) rfl ?_
      refine j_gA g (b := 618) f8_61 (by decide +kernel) (by decide +kernel) (by decide +kernel) (by decide +kernel) ?_
      refine j_iload_n g (i := 2) (by decide +kernel) rfl ?_
      obtain ⟨h0, hp⟩ := hp
      refine j_ia g 6 (by decide +kernel) (by decide +kernel) (by decide +kernel) h0 ?_
      refine j_aload_n g (i := 0) (by decide +kernel) rfl ?_
      refine j_gA g (b := 604) f8_19 (by decide +kernel) (by decide +kernel) (by decide +kernel) (by decide +kernel) ?_
      refine j_iconst g (n := 3) (3) (by decide +kernel) rfl ?_
      refine j_ia g 4 (by decide +kernel) (by decide +kernel) (by decide +kernel) (vin_b (by decide +kernel)) ?_
      refine j_icmp_ge g (off := 12) (tgt := 120) (by decide +kernel) (by decide) (fun c108 => ?_) (fun c108 => ?_)
      · (try rw [if_pos (show (σ.1.1 604 3) ≤ (σ.1.1 618 (Int32.toNatClampNeg σ.2)) from c108)] at hc); (rw [if_pos (show (σ.1.1 604 3) ≤ (σ.1.1 618 (Int32.toNatClampNeg σ.2)) from c108)] at hp); (try simp only [if_pos (show (σ.1.1 604 3) ≤ (σ.1.1 618 (Int32.toNatClampNeg σ.2)) from c108)] at k)
        refine j_aload_n g (i := 0) (by decide +kernel) rfl ?_
        refine j_gA g (b := 604) f8_19 (by decide +kernel) (by decide +kernel) (by decide +kernel) (by decide +kernel) ?_
        refine j_iconst g (n := 3) (3) (by decide +kernel) rfl ?_
        refine j_ia g 4 (by decide +kernel) (by decide +kernel) (by decide +kernel) (vin_b (by decide +kernel)) ?_
        refine j_istore_n g (i := 3) (by decide +kernel) (by decide) ?_
        dsimp only [stL, clL, hdL]
        refine j_aload_n g (i := 0) (by decide +kernel) rfl ?_
        refine j_iload_n g (i := 3) (by decide +kernel) rfl ?_
        obtain ⟨h0, hp⟩ := hp
        refine j_cV1v g v8_286 ⟨rfl, by decide⟩ (by decide +kernel) (by decide +kernel) (Nat.le_of_ble_eq_true rfl) (rnX8_passes h0) ?_
        refine j_aload_n g (i := 0) (by decide +kernel) rfl ?_
        refine j_gA g (b := 618) f8_61 (by decide +kernel) (by decide +kernel) (by decide +kernel) (by decide +kernel) ?_
        refine j_iload_n g (i := 2) (by decide +kernel) rfl ?_
        refine j_dup2 g (by decide +kernel) rfl rfl ?_
        obtain ⟨h0, hp⟩ := hp
        refine j_ia g 6 (by decide +kernel) (by decide +kernel) (by decide +kernel) h0 ?_
        refine j_iload_n g (i := 3) (by decide +kernel) rfl ?_
        refine j_isub g (by decide +kernel) ?_
        obtain ⟨h0, hp⟩ := hp
        refine j_is g 6 (by decide +kernel) (by decide +kernel) (by decide +kernel) h0 ?_
        refine j_aload_n g (i := 0) (by decide +kernel) rfl ?_
        refine j_gA g (b := 607) f8_28 (by decide +kernel) (by decide +kernel) (by decide +kernel) (by decide +kernel) ?_
        refine j_aload_n g (i := 0) (by decide +kernel) rfl ?_
        refine j_gI g f8_240 (by decide +kernel) (by decide +kernel) (by decide +kernel) ?_
        refine j_bipush g (n := 9) (9) (by decide +kernel) (by decide +kernel) ?_
        refine j_iadd g (by decide +kernel) ?_
        refine j_iload_n g (i := 2) (by decide +kernel) rfl ?_
        refine j_iadd g (by decide +kernel) ?_
        refine j_aload_n g (i := 0) (by decide +kernel) rfl ?_
        refine j_gA g (b := 618) f8_61 (by decide +kernel) (by decide +kernel) (by decide +kernel) (by decide +kernel) ?_
        refine j_iload_n g (i := 2) (by decide +kernel) rfl ?_
        obtain ⟨h0, hp⟩ := hp
        refine j_ia g 6 (by decide +kernel) (by decide +kernel) (by decide +kernel) h0 ?_
        refine j_if_ne g (off := 7) (tgt := 168) (by decide +kernel) (by decide) (fun c161 => ?_) (fun c161 => ?_)
        · (try rw [if_pos (show ¬ ((wi (w_X8_passes σ.1 (σ.1.1 604 3)) 618 (Int32.toNatClampNeg σ.2) (((w_X8_passes σ.1 (σ.1.1 604 3)).1 618 (Int32.toNatClampNeg σ.2)) - (σ.1.1 604 3))).1 618 (Int32.toNatClampNeg σ.2)) = 0 from c161)] at hc); (rw [if_pos (show ¬ ((wi (w_X8_passes σ.1 (σ.1.1 604 3)) 618 (Int32.toNatClampNeg σ.2) (((w_X8_passes σ.1 (σ.1.1 604 3)).1 618 (Int32.toNatClampNeg σ.2)) - (σ.1.1 604 3))).1 618 (Int32.toNatClampNeg σ.2)) = 0 from c161)] at hp); (try simp only [if_pos (show ¬ ((wi (w_X8_passes σ.1 (σ.1.1 604 3)) 618 (Int32.toNatClampNeg σ.2) (((w_X8_passes σ.1 (σ.1.1 604 3)).1 618 (Int32.toNatClampNeg σ.2)) - (σ.1.1 604 3))).1 618 (Int32.toNatClampNeg σ.2)) = 0 from c161)] at k)
          refine j_iconst g (n := 0) (0) (by decide +kernel) rfl ?_
          obtain ⟨h0, hp⟩ := hp
          refine j_is g 44 (by decide +kernel) (by decide +kernel) (by decide +kernel) h0 ?_
          refine j_aload_n g (i := 0) (by decide +kernel) rfl ?_
          refine j_gA g (b := 607) f8_28 (by decide +kernel) (by decide +kernel) (by decide +kernel) (by decide +kernel) ?_
          refine j_aload_n g (i := 0) (by decide +kernel) rfl ?_
          refine j_gI g f8_240 (by decide +kernel) (by decide +kernel) (by decide +kernel) ?_
          refine j_bipush g (n := 15) (15) (by decide +kernel) (by decide +kernel) ?_
          refine j_iadd g (by decide +kernel) ?_
          refine j_iload_n g (i := 2) (by decide +kernel) rfl ?_
          refine j_iadd g (by decide +kernel) ?_
          refine j_aload_n g (i := 0) (by decide +kernel) rfl ?_
          refine j_gA g (b := 607) f8_28 (by decide +kernel) (by decide +kernel) (by decide +kernel) (by decide +kernel) ?_
          refine j_aload_n g (i := 0) (by decide +kernel) rfl ?_
          refine j_gI g f8_240 (by decide +kernel) (by decide +kernel) (by decide +kernel) ?_
          refine j_bipush g (n := 21) (21) (by decide +kernel) (by decide +kernel) ?_
          refine j_iadd g (by decide +kernel) ?_
          obtain ⟨h0, hp⟩ := hp
          refine j_ia g 44 (by decide +kernel) (by decide +kernel) (by decide +kernel) h0 ?_
          obtain ⟨h0, hp⟩ := hp
          refine j_is g 44 (by decide +kernel) (by decide +kernel) (by decide +kernel) h0 ?_
          refine j_iinc g (i := 2) (n := 1) (1) (by decide +kernel) rfl (by decide) rfl ?_
          dsimp only [stL, clL, hdL]
          refine j_goto g (off := -119) (tgt := 80) (by decide +kernel) (by decide) ?_
          exact k _
        · (try rw [if_neg (show ¬ (¬ ((wi (w_X8_passes σ.1 (σ.1.1 604 3)) 618 (Int32.toNatClampNeg σ.2) (((w_X8_passes σ.1 (σ.1.1 604 3)).1 618 (Int32.toNatClampNeg σ.2)) - (σ.1.1 604 3))).1 618 (Int32.toNatClampNeg σ.2)) = 0) from c161)] at hc); (rw [if_neg (show ¬ (¬ ((wi (w_X8_passes σ.1 (σ.1.1 604 3)) 618 (Int32.toNatClampNeg σ.2) (((w_X8_passes σ.1 (σ.1.1 604 3)).1 618 (Int32.toNatClampNeg σ.2)) - (σ.1.1 604 3))).1 618 (Int32.toNatClampNeg σ.2)) = 0) from c161)] at hp); (try simp only [if_neg (show ¬ (¬ ((wi (w_X8_passes σ.1 (σ.1.1 604 3)) 618 (Int32.toNatClampNeg σ.2) (((w_X8_passes σ.1 (σ.1.1 604 3)).1 618 (Int32.toNatClampNeg σ.2)) - (σ.1.1 604 3))).1 618 (Int32.toNatClampNeg σ.2)) = 0) from c161)] at k)
          refine j_iconst g (n := 1) (1) (by decide +kernel) rfl ?_
          refine j_goto g (off := 4) (tgt := 169) (by decide +kernel) (by decide) ?_
          obtain ⟨h0, hp⟩ := hp
          refine j_is g 44 (by decide +kernel) (by decide +kernel) (by decide +kernel) h0 ?_
          refine j_aload_n g (i := 0) (by decide +kernel) rfl ?_
          refine j_gA g (b := 607) f8_28 (by decide +kernel) (by decide +kernel) (by decide +kernel) (by decide +kernel) ?_
          refine j_aload_n g (i := 0) (by decide +kernel) rfl ?_
          refine j_gI g f8_240 (by decide +kernel) (by decide +kernel) (by decide +kernel) ?_
          refine j_bipush g (n := 15) (15) (by decide +kernel) (by decide +kernel) ?_
          refine j_iadd g (by decide +kernel) ?_
          refine j_iload_n g (i := 2) (by decide +kernel) rfl ?_
          refine j_iadd g (by decide +kernel) ?_
          refine j_aload_n g (i := 0) (by decide +kernel) rfl ?_
          refine j_gA g (b := 607) f8_28 (by decide +kernel) (by decide +kernel) (by decide +kernel) (by decide +kernel) ?_
          refine j_aload_n g (i := 0) (by decide +kernel) rfl ?_
          refine j_gI g f8_240 (by decide +kernel) (by decide +kernel) (by decide +kernel) ?_
          refine j_bipush g (n := 21) (21) (by decide +kernel) (by decide +kernel) ?_
          refine j_iadd g (by decide +kernel) ?_
          obtain ⟨h0, hp⟩ := hp
          refine j_ia g 44 (by decide +kernel) (by decide +kernel) (by decide +kernel) h0 ?_
          obtain ⟨h0, hp⟩ := hp
          refine j_is g 44 (by decide +kernel) (by decide +kernel) (by decide +kernel) h0 ?_
          refine j_iinc g (i := 2) (n := 1) (1) (by decide +kernel) rfl (by decide) rfl ?_
          dsimp only [stL, clL, hdL]
          refine j_goto g (off := -119) (tgt := 80) (by decide +kernel) (by decide) ?_
          exact k _
      · (try rw [if_neg (show ¬ ((σ.1.1 604 3) ≤ (σ.1.1 618 (Int32.toNatClampNeg σ.2))) from c108)] at hc); (rw [if_neg (show ¬ ((σ.1.1 604 3) ≤ (σ.1.1 618 (Int32.toNatClampNeg σ.2))) from c108)] at hp); (try simp only [if_neg (show ¬ ((σ.1.1 604 3) ≤ (σ.1.1 618 (Int32.toNatClampNeg σ.2))) from c108)] at k)
        refine j_aload_n g (i := 0) (by decide +kernel) rfl ?_
        refine j_gA g (b := 618) f8_61 (by decide +kernel) (by decide +kernel) (by decide +kernel) (by decide +kernel) ?_
        refine j_iload_n g (i := 2) (by decide +kernel) rfl ?_
        obtain ⟨h0, hp⟩ := hp
        refine j_ia g 6 (by decide +kernel) (by decide +kernel) (by decide +kernel) h0 ?_
        refine j_goto g (off := 9) (tgt := 126) (by decide +kernel) (by decide) ?_
        refine j_istore_n g (i := 3) (by decide +kernel) (by decide) ?_
        dsimp only [stL, clL, hdL]
        refine j_aload_n g (i := 0) (by decide +kernel) rfl ?_
        refine j_iload_n g (i := 3) (by decide +kernel) rfl ?_
        obtain ⟨h0, hp⟩ := hp
        refine j_cV1v g v8_286 ⟨rfl, by decide⟩ (by decide +kernel) (by decide +kernel) (Nat.le_of_ble_eq_true rfl) (rnX8_passes h0) ?_
        refine j_aload_n g (i := 0) (by decide +kernel) rfl ?_
        refine j_gA g (b := 618) f8_61 (by decide +kernel) (by decide +kernel) (by decide +kernel) (by decide +kernel) ?_
        refine j_iload_n g (i := 2) (by decide +kernel) rfl ?_
        refine j_dup2 g (by decide +kernel) rfl rfl ?_
        obtain ⟨h0, hp⟩ := hp
        refine j_ia g 6 (by decide +kernel) (by decide +kernel) (by decide +kernel) h0 ?_
        refine j_iload_n g (i := 3) (by decide +kernel) rfl ?_
        refine j_isub g (by decide +kernel) ?_
        obtain ⟨h0, hp⟩ := hp
        refine j_is g 6 (by decide +kernel) (by decide +kernel) (by decide +kernel) h0 ?_
        refine j_aload_n g (i := 0) (by decide +kernel) rfl ?_
        refine j_gA g (b := 607) f8_28 (by decide +kernel) (by decide +kernel) (by decide +kernel) (by decide +kernel) ?_
        refine j_aload_n g (i := 0) (by decide +kernel) rfl ?_
        refine j_gI g f8_240 (by decide +kernel) (by decide +kernel) (by decide +kernel) ?_
        refine j_bipush g (n := 9) (9) (by decide +kernel) (by decide +kernel) ?_
        refine j_iadd g (by decide +kernel) ?_
        refine j_iload_n g (i := 2) (by decide +kernel) rfl ?_
        refine j_iadd g (by decide +kernel) ?_
        refine j_aload_n g (i := 0) (by decide +kernel) rfl ?_
        refine j_gA g (b := 618) f8_61 (by decide +kernel) (by decide +kernel) (by decide +kernel) (by decide +kernel) ?_
        refine j_iload_n g (i := 2) (by decide +kernel) rfl ?_
        obtain ⟨h0, hp⟩ := hp
        refine j_ia g 6 (by decide +kernel) (by decide +kernel) (by decide +kernel) h0 ?_
        refine j_if_ne g (off := 7) (tgt := 168) (by decide +kernel) (by decide) (fun c161 => ?_) (fun c161 => ?_)
        · (try rw [if_pos (show ¬ ((wi (w_X8_passes σ.1 (σ.1.1 618 (Int32.toNatClampNeg σ.2))) 618 (Int32.toNatClampNeg σ.2) (((w_X8_passes σ.1 (σ.1.1 618 (Int32.toNatClampNeg σ.2))).1 618 (Int32.toNatClampNeg σ.2)) - (σ.1.1 618 (Int32.toNatClampNeg σ.2)))).1 618 (Int32.toNatClampNeg σ.2)) = 0 from c161)] at hc); (rw [if_pos (show ¬ ((wi (w_X8_passes σ.1 (σ.1.1 618 (Int32.toNatClampNeg σ.2))) 618 (Int32.toNatClampNeg σ.2) (((w_X8_passes σ.1 (σ.1.1 618 (Int32.toNatClampNeg σ.2))).1 618 (Int32.toNatClampNeg σ.2)) - (σ.1.1 618 (Int32.toNatClampNeg σ.2)))).1 618 (Int32.toNatClampNeg σ.2)) = 0 from c161)] at hp); (try simp only [if_pos (show ¬ ((wi (w_X8_passes σ.1 (σ.1.1 618 (Int32.toNatClampNeg σ.2))) 618 (Int32.toNatClampNeg σ.2) (((w_X8_passes σ.1 (σ.1.1 618 (Int32.toNatClampNeg σ.2))).1 618 (Int32.toNatClampNeg σ.2)) - (σ.1.1 618 (Int32.toNatClampNeg σ.2)))).1 618 (Int32.toNatClampNeg σ.2)) = 0 from c161)] at k)
          refine j_iconst g (n := 0) (0) (by decide +kernel) rfl ?_
          obtain ⟨h0, hp⟩ := hp
          refine j_is g 44 (by decide +kernel) (by decide +kernel) (by decide +kernel) h0 ?_
          refine j_aload_n g (i := 0) (by decide +kernel) rfl ?_
          refine j_gA g (b := 607) f8_28 (by decide +kernel) (by decide +kernel) (by decide +kernel) (by decide +kernel) ?_
          refine j_aload_n g (i := 0) (by decide +kernel) rfl ?_
          refine j_gI g f8_240 (by decide +kernel) (by decide +kernel) (by decide +kernel) ?_
          refine j_bipush g (n := 15) (15) (by decide +kernel) (by decide +kernel) ?_
          refine j_iadd g (by decide +kernel) ?_
          refine j_iload_n g (i := 2) (by decide +kernel) rfl ?_
          refine j_iadd g (by decide +kernel) ?_
          refine j_aload_n g (i := 0) (by decide +kernel) rfl ?_
          refine j_gA g (b := 607) f8_28 (by decide +kernel) (by decide +kernel) (by decide +kernel) (by decide +kernel) ?_
          refine j_aload_n g (i := 0) (by decide +kernel) rfl ?_
          refine j_gI g f8_240 (by decide +kernel) (by decide +kernel) (by decide +kernel) ?_
          refine j_bipush g (n := 21) (21) (by decide +kernel) (by decide +kernel) ?_
          refine j_iadd g (by decide +kernel) ?_
          obtain ⟨h0, hp⟩ := hp
          refine j_ia g 44 (by decide +kernel) (by decide +kernel) (by decide +kernel) h0 ?_
          obtain ⟨h0, hp⟩ := hp
          refine j_is g 44 (by decide +kernel) (by decide +kernel) (by decide +kernel) h0 ?_
          refine j_iinc g (i := 2) (n := 1) (1) (by decide +kernel) rfl (by decide) rfl ?_
          dsimp only [stL, clL, hdL]
          refine j_goto g (off := -119) (tgt := 80) (by decide +kernel) (by decide) ?_
          exact k _
        · (try rw [if_neg (show ¬ (¬ ((wi (w_X8_passes σ.1 (σ.1.1 618 (Int32.toNatClampNeg σ.2))) 618 (Int32.toNatClampNeg σ.2) (((w_X8_passes σ.1 (σ.1.1 618 (Int32.toNatClampNeg σ.2))).1 618 (Int32.toNatClampNeg σ.2)) - (σ.1.1 618 (Int32.toNatClampNeg σ.2)))).1 618 (Int32.toNatClampNeg σ.2)) = 0) from c161)] at hc); (rw [if_neg (show ¬ (¬ ((wi (w_X8_passes σ.1 (σ.1.1 618 (Int32.toNatClampNeg σ.2))) 618 (Int32.toNatClampNeg σ.2) (((w_X8_passes σ.1 (σ.1.1 618 (Int32.toNatClampNeg σ.2))).1 618 (Int32.toNatClampNeg σ.2)) - (σ.1.1 618 (Int32.toNatClampNeg σ.2)))).1 618 (Int32.toNatClampNeg σ.2)) = 0) from c161)] at hp); (try simp only [if_neg (show ¬ (¬ ((wi (w_X8_passes σ.1 (σ.1.1 618 (Int32.toNatClampNeg σ.2))) 618 (Int32.toNatClampNeg σ.2) (((w_X8_passes σ.1 (σ.1.1 618 (Int32.toNatClampNeg σ.2))).1 618 (Int32.toNatClampNeg σ.2)) - (σ.1.1 618 (Int32.toNatClampNeg σ.2)))).1 618 (Int32.toNatClampNeg σ.2)) = 0) from c161)] at k)
          refine j_iconst g (n := 1) (1) (by decide +kernel) rfl ?_
          refine j_goto g (off := 4) (tgt := 169) (by decide +kernel) (by decide) ?_
          obtain ⟨h0, hp⟩ := hp
          refine j_is g 44 (by decide +kernel) (by decide +kernel) (by decide +kernel) h0 ?_
          refine j_aload_n g (i := 0) (by decide +kernel) rfl ?_
          refine j_gA g (b := 607) f8_28 (by decide +kernel) (by decide +kernel) (by decide +kernel) (by decide +kernel) ?_
          refine j_aload_n g (i := 0) (by decide +kernel) rfl ?_
          refine j_gI g f8_240 (by decide +kernel) (by decide +kernel) (by decide +kernel) ?_
          refine j_bipush g (n := 15) (15) (by decide +kernel) (by decide +kernel) ?_
          refine j_iadd g (by decide +kernel) ?_
          refine j_iload_n g (i := 2) (by decide +kernel) rfl ?_
          refine j_iadd g (by decide +kernel) ?_
          refine j_aload_n g (i := 0) (by decide +kernel) rfl ?_
          refine j_gA g (b := 607) f8_28 (by decide +kernel) (by decide +kernel) (by decide +kernel) (by decide +kernel) ?_
          refine j_aload_n g (i := 0) (by decide +kernel) rfl ?_
          refine j_gI g f8_240 (by decide +kernel) (by decide +kernel) (by decide +kernel) ?_
          refine j_bipush g (n := 21) (21) (by decide +kernel) (by decide +kernel) ?_
          refine j_iadd g (by decide +kernel) ?_
          obtain ⟨h0, hp⟩ := hp
          refine j_ia g 44 (by decide +kernel) (by decide +kernel) (by decide +kernel) h0 ?_
          obtain ⟨h0, hp⟩ := hp
          refine j_is g 44 (by decide +kernel) (by decide +kernel) (by decide +kernel) h0 ?_
          refine j_iinc g (i := 2) (n := 1) (1) (by decide +kernel) rfl (by decide) rfl ?_
          dsimp only [stL, clL, hdL]
          refine j_goto g (off := -119) (tgt := 80) (by decide +kernel) (by decide) ?_
          exact k _
theorem sh_X8_bell_80 {d : Nat} {J : Nat → Lc → List Value → Mm → Prop} {a1 : Int32}  {σ0 : Mm × Int32}  (g : Good mX8_bell.1 mX8_bell.2.2.1 mX8_bell.2.2.2.1 (d + 5) J) : ∀ (N : Nat), (∀ k, k < N → c_X8_bell_80 a1 (l_X8_bell_80 a1 σ0 k)) → (∀ k, k < N → q_X8_bell_80 a1 (l_X8_bell_80 a1 σ0 k)) → (∀ (j3 : Option Value), J 80 [some (.ref 600), some (.int a1), some (.int ((l_X8_bell_80 a1 σ0 N).2)), j3] [] ((l_X8_bell_80 a1 σ0 N).1)) → ∀ (j3 : Option Value), J 80 [some (.ref 600), some (.int a1), some (.int σ0.2), j3] [] σ0.1
  | 0, _, _, k => k
  | N + 1, hc, hp, k => sh_X8_bell_80  g N (fun i hi => hc i (Nat.lt_succ_of_lt hi)) (fun i hi => hp i (Nat.lt_succ_of_lt hi)) (ps_X8_bell_80  g (hc N (Nat.lt_succ_self N)) (hp N (Nat.lt_succ_self N)) k)
def c_X8_bell_61 (a1 : Int32) (σ : Mm × Int32) : Prop := if ¬ (σ.1.1 607 (Int32.toNatClampNeg (((σ.1.1 600 10) + 9) + a1))) = 0 then False else True
theorem ci_X8_bell_61 {a1 : Int32}  {σ : Mm × Int32} : c_X8_bell_61 a1 σ ↔ (if ¬ (σ.1.1 607 (Int32.toNatClampNeg (((σ.1.1 600 10) + 9) + a1))) = 0 then False else True) := Iff.rfl
noncomputable def s_X8_bell_61 (a1 : Int32) (σ : Mm × Int32) : Mm × Int32 := if ¬ (σ.1.1 607 (Int32.toNatClampNeg (((σ.1.1 600 10) + 9) + a1))) = 0 then σ else if ((l_X8_bell_80 a1 (σ.1, 0) (Int32.toNatClampNeg (σ.1.1 600 2))).1.1 600 2) ≤ ((l_X8_bell_80 a1 (σ.1, 0) (Int32.toNatClampNeg (σ.1.1 600 2))).2) then ((l_X8_bell_80 a1 (σ.1, 0) (Int32.toNatClampNeg (σ.1.1 600 2))).1, (l_X8_bell_80 a1 (σ.1, 0) (Int32.toNatClampNeg (σ.1.1 600 2))).2) else σ
def q_X8_bell_61 (a1 : Int32) (σ : Mm × Int32) : Prop := (vp_in (((σ.1.1 600 10) + 9) + a1) 44) ∧ (if ¬ (σ.1.1 607 (Int32.toNatClampNeg (((σ.1.1 600 10) + 9) + a1))) = 0 then True else (∀ k, k < (Int32.toNatClampNeg (σ.1.1 600 2)) → c_X8_bell_80 a1 (l_X8_bell_80 a1 (σ.1, 0) k)) ∧ (∀ k, k < (Int32.toNatClampNeg (σ.1.1 600 2)) → q_X8_bell_80 a1 (l_X8_bell_80 a1 (σ.1, 0) k)) ∧ (¬ c_X8_bell_80 a1 (l_X8_bell_80 a1 (σ.1, 0) (Int32.toNatClampNeg (σ.1.1 600 2)))) ∧ (if ((l_X8_bell_80 a1 (σ.1, 0) (Int32.toNatClampNeg (σ.1.1 600 2))).1.1 600 2) ≤ ((l_X8_bell_80 a1 (σ.1, 0) (Int32.toNatClampNeg (σ.1.1 600 2))).2) then True else True))
noncomputable def l_X8_bell_61 (a1 : Int32) (σ0 : Mm × Int32) : Nat → Mm × Int32 := itN (fun _ σ => s_X8_bell_61 a1 σ) σ0
theorem ps_X8_bell_61 {d : Nat} {J : Nat → Lc → List Value → Mm → Prop} {a1 : Int32}  {σ : Mm × Int32}  (g : Good mX8_bell.1 mX8_bell.2.2.1 mX8_bell.2.2.2.1 (d + 5) J) (hc : c_X8_bell_61 a1 σ) (hp : q_X8_bell_61 a1 σ) (k : ∀ (j3 : Option Value), J 61 [some (.ref 600), some (.int a1), some (.int ((s_X8_bell_61 a1 σ).2)), j3] [] ((s_X8_bell_61 a1 σ).1)) : ∀ (j3 : Option Value), J 61 [some (.ref 600), some (.int a1), some (.int σ.2), j3] [] σ.1 := by
  intro j3
  unfold c_X8_bell_61 at hc
  unfold q_X8_bell_61 at hp
  unfold s_X8_bell_61 at k
  refine j_aload_n g (i := 0) (by decide +kernel) rfl ?_
  refine j_gA g (b := 607) f8_28 (by decide +kernel) (by decide +kernel) (by decide +kernel) (by decide +kernel) ?_
  refine j_aload_n g (i := 0) (by decide +kernel) rfl ?_
  refine j_gI g f8_240 (by decide +kernel) (by decide +kernel) (by decide +kernel) ?_
  refine j_bipush g (n := 9) (9) (by decide +kernel) (by decide +kernel) ?_
  refine j_iadd g (by decide +kernel) ?_
  refine j_iload_n g (i := 1) (by decide +kernel) rfl ?_
  refine j_iadd g (by decide +kernel) ?_
  obtain ⟨h0, hp⟩ := hp
  refine j_ia g 44 (by decide +kernel) (by decide +kernel) (by decide +kernel) h0 ?_
  refine j_if_ne g (off := 130) (tgt := 205) (by decide +kernel) (by decide) (fun c75 => ?_) (fun c75 => ?_)
  · (try rw [if_pos (show ¬ (σ.1.1 607 (Int32.toNatClampNeg (((σ.1.1 600 10) + 9) + a1))) = 0 from c75)] at hc); (rw [if_pos (show ¬ (σ.1.1 607 (Int32.toNatClampNeg (((σ.1.1 600 10) + 9) + a1))) = 0 from c75)] at hp); (try simp only [if_pos (show ¬ (σ.1.1 607 (Int32.toNatClampNeg (((σ.1.1 600 10) + 9) + a1))) = 0 from c75)] at k)
    exact hc.elim
  · (try rw [if_neg (show ¬ (¬ (σ.1.1 607 (Int32.toNatClampNeg (((σ.1.1 600 10) + 9) + a1))) = 0) from c75)] at hc); (rw [if_neg (show ¬ (¬ (σ.1.1 607 (Int32.toNatClampNeg (((σ.1.1 600 10) + 9) + a1))) = 0) from c75)] at hp); (try simp only [if_neg (show ¬ (¬ (σ.1.1 607 (Int32.toNatClampNeg (((σ.1.1 600 10) + 9) + a1))) = 0) from c75)] at k)
    refine j_iconst g (n := 0) (0) (by decide +kernel) rfl ?_
    refine j_istore_n g (i := 2) (by decide +kernel) (by decide) ?_
    dsimp only [stL, clL, hdL]
    obtain ⟨h0, hp⟩ := hp
    have hc_80_3 := h0
    obtain ⟨h0, hp⟩ := hp
    have hq_80_3 := h0
    obtain ⟨h0, hp⟩ := hp
    have hx_80_3 := h0
    refine sh_X8_bell_80   g (σ0 := (σ.1, 0)) (Int32.toNatClampNeg (σ.1.1 600 2)) hc_80_3 hq_80_3 ?_ _
    intro j3_3
    refine j_iload_n g (i := 2) (by decide +kernel) rfl ?_
    refine j_aload_n g (i := 0) (by decide +kernel) rfl ?_
    refine j_gI g f8_99 (by decide +kernel) (by decide +kernel) (by decide +kernel) ?_
    refine j_icmp_ge g (off := 117) (tgt := 202) (by decide +kernel) (by decide) (fun c85 => ?_) (fun c85 => ?_)
    · (try rw [if_pos (show ((l_X8_bell_80 a1 (σ.1, 0) (Int32.toNatClampNeg (σ.1.1 600 2))).1.1 600 2) ≤ ((l_X8_bell_80 a1 (σ.1, 0) (Int32.toNatClampNeg (σ.1.1 600 2))).2) from c85)] at hc); (rw [if_pos (show ((l_X8_bell_80 a1 (σ.1, 0) (Int32.toNatClampNeg (σ.1.1 600 2))).1.1 600 2) ≤ ((l_X8_bell_80 a1 (σ.1, 0) (Int32.toNatClampNeg (σ.1.1 600 2))).2) from c85)] at hp); (try simp only [if_pos (show ((l_X8_bell_80 a1 (σ.1, 0) (Int32.toNatClampNeg (σ.1.1 600 2))).1.1 600 2) ≤ ((l_X8_bell_80 a1 (σ.1, 0) (Int32.toNatClampNeg (σ.1.1 600 2))).2) from c85)] at k)
      refine j_goto g (off := -141) (tgt := 61) (by decide +kernel) (by decide) ?_
      exact k _
    · (try rw [if_neg (show ¬ (((l_X8_bell_80 a1 (σ.1, 0) (Int32.toNatClampNeg (σ.1.1 600 2))).1.1 600 2) ≤ ((l_X8_bell_80 a1 (σ.1, 0) (Int32.toNatClampNeg (σ.1.1 600 2))).2)) from c85)] at hc); (rw [if_neg (show ¬ (((l_X8_bell_80 a1 (σ.1, 0) (Int32.toNatClampNeg (σ.1.1 600 2))).1.1 600 2) ≤ ((l_X8_bell_80 a1 (σ.1, 0) (Int32.toNatClampNeg (σ.1.1 600 2))).2)) from c85)] at hp); (try simp only [if_neg (show ¬ (((l_X8_bell_80 a1 (σ.1, 0) (Int32.toNatClampNeg (σ.1.1 600 2))).1.1 600 2) ≤ ((l_X8_bell_80 a1 (σ.1, 0) (Int32.toNatClampNeg (σ.1.1 600 2))).2)) from c85)] at k)
      refine absurd (ci_X8_bell_80.mpr ?_) hx_80_3
      simp only [if_neg (show ¬ (¬ (σ.1.1 607 (Int32.toNatClampNeg (((σ.1.1 600 10) + 9) + a1))) = 0) from c75), if_neg (show ¬ (((l_X8_bell_80 a1 (σ.1, 0) (Int32.toNatClampNeg (σ.1.1 600 2))).1.1 600 2) ≤ ((l_X8_bell_80 a1 (σ.1, 0) (Int32.toNatClampNeg (σ.1.1 600 2))).2)) from c85)]
theorem sh_X8_bell_61 {d : Nat} {J : Nat → Lc → List Value → Mm → Prop} {a1 : Int32}  {σ0 : Mm × Int32}  (g : Good mX8_bell.1 mX8_bell.2.2.1 mX8_bell.2.2.2.1 (d + 5) J) : ∀ (N : Nat), (∀ k, k < N → c_X8_bell_61 a1 (l_X8_bell_61 a1 σ0 k)) → (∀ k, k < N → q_X8_bell_61 a1 (l_X8_bell_61 a1 σ0 k)) → (∀ (j3 : Option Value), J 61 [some (.ref 600), some (.int a1), some (.int ((l_X8_bell_61 a1 σ0 N).2)), j3] [] ((l_X8_bell_61 a1 σ0 N).1)) → ∀ (j3 : Option Value), J 61 [some (.ref 600), some (.int a1), some (.int σ0.2), j3] [] σ0.1
  | 0, _, _, k => k
  | N + 1, hc, hp, k => sh_X8_bell_61  g N (fun i hi => hc i (Nat.lt_succ_of_lt hi)) (fun i hi => hp i (Nat.lt_succ_of_lt hi)) (ps_X8_bell_61  g (hc N (Nat.lt_succ_self N)) (hp N (Nat.lt_succ_self N)) k)
noncomputable def r_X8_bell (M : Mm) (a1 : Int32) : Int32 := if (b2i (0 ≤ a1 ∧ a1 ≤ M.1 600 2 - 1)) = 0 then (-1) else if ¬ (b2i (M.1 607 (Int32.toNatClampNeg (M.1 600 10 + 9 + a1)) = 0)) = 0 then (if ((l_X8_bell_20 a1 (M, 0) (Int32.toNatClampNeg (M.1 600 2))).1.1 600 2) ≤ ((l_X8_bell_20 a1 (M, 0) (Int32.toNatClampNeg (M.1 600 2))).2) then (if ¬ ((l_X8_bell_61 a1 ((w_X8_lends (l_X8_bell_20 a1 (M, 0) (Int32.toNatClampNeg (M.1 600 2))).1), (l_X8_bell_20 a1 (M, 0) (Int32.toNatClampNeg (M.1 600 2))).2) (cntN (fun k => c_X8_bell_61 a1 (l_X8_bell_61 a1 ((w_X8_lends (l_X8_bell_20 a1 (M, 0) (Int32.toNatClampNeg (M.1 600 2))).1), (l_X8_bell_20 a1 (M, 0) (Int32.toNatClampNeg (M.1 600 2))).2) k)) 2001)).1.1 607 (Int32.toNatClampNeg ((((l_X8_bell_61 a1 ((w_X8_lends (l_X8_bell_20 a1 (M, 0) (Int32.toNatClampNeg (M.1 600 2))).1), (l_X8_bell_20 a1 (M, 0) (Int32.toNatClampNeg (M.1 600 2))).2) (cntN (fun k => c_X8_bell_61 a1 (l_X8_bell_61 a1 ((w_X8_lends (l_X8_bell_20 a1 (M, 0) (Int32.toNatClampNeg (M.1 600 2))).1), (l_X8_bell_20 a1 (M, 0) (Int32.toNatClampNeg (M.1 600 2))).2) k)) 2001)).1.1 600 10) + 9) + a1))) = 0 then (l_X8_bell_61 a1 ((w_X8_lends (l_X8_bell_20 a1 (M, 0) (Int32.toNatClampNeg (M.1 600 2))).1), (l_X8_bell_20 a1 (M, 0) (Int32.toNatClampNeg (M.1 600 2))).2) (cntN (fun k => c_X8_bell_61 a1 (l_X8_bell_61 a1 ((w_X8_lends (l_X8_bell_20 a1 (M, 0) (Int32.toNatClampNeg (M.1 600 2))).1), (l_X8_bell_20 a1 (M, 0) (Int32.toNatClampNeg (M.1 600 2))).2) k)) 2001)).1.1 607 (Int32.toNatClampNeg ((((l_X8_bell_61 a1 ((w_X8_lends (l_X8_bell_20 a1 (M, 0) (Int32.toNatClampNeg (M.1 600 2))).1), (l_X8_bell_20 a1 (M, 0) (Int32.toNatClampNeg (M.1 600 2))).2) (cntN (fun k => c_X8_bell_61 a1 (l_X8_bell_61 a1 ((w_X8_lends (l_X8_bell_20 a1 (M, 0) (Int32.toNatClampNeg (M.1 600 2))).1), (l_X8_bell_20 a1 (M, 0) (Int32.toNatClampNeg (M.1 600 2))).2) k)) 2001)).1.1 600 10) + 15) + a1)) else 0) else 0) else (-1)
noncomputable def w_X8_bell (M : Mm) (a1 : Int32) : Mm := if (b2i (0 ≤ a1 ∧ a1 ≤ M.1 600 2 - 1)) = 0 then M else if ¬ (b2i (M.1 607 (Int32.toNatClampNeg (M.1 600 10 + 9 + a1)) = 0)) = 0 then (if ((l_X8_bell_20 a1 (M, 0) (Int32.toNatClampNeg (M.1 600 2))).1.1 600 2) ≤ ((l_X8_bell_20 a1 (M, 0) (Int32.toNatClampNeg (M.1 600 2))).2) then (if ¬ ((l_X8_bell_61 a1 ((w_X8_lends (l_X8_bell_20 a1 (M, 0) (Int32.toNatClampNeg (M.1 600 2))).1), (l_X8_bell_20 a1 (M, 0) (Int32.toNatClampNeg (M.1 600 2))).2) (cntN (fun k => c_X8_bell_61 a1 (l_X8_bell_61 a1 ((w_X8_lends (l_X8_bell_20 a1 (M, 0) (Int32.toNatClampNeg (M.1 600 2))).1), (l_X8_bell_20 a1 (M, 0) (Int32.toNatClampNeg (M.1 600 2))).2) k)) 2001)).1.1 607 (Int32.toNatClampNeg ((((l_X8_bell_61 a1 ((w_X8_lends (l_X8_bell_20 a1 (M, 0) (Int32.toNatClampNeg (M.1 600 2))).1), (l_X8_bell_20 a1 (M, 0) (Int32.toNatClampNeg (M.1 600 2))).2) (cntN (fun k => c_X8_bell_61 a1 (l_X8_bell_61 a1 ((w_X8_lends (l_X8_bell_20 a1 (M, 0) (Int32.toNatClampNeg (M.1 600 2))).1), (l_X8_bell_20 a1 (M, 0) (Int32.toNatClampNeg (M.1 600 2))).2) k)) 2001)).1.1 600 10) + 9) + a1))) = 0 then (wi (l_X8_bell_61 a1 ((w_X8_lends (l_X8_bell_20 a1 (M, 0) (Int32.toNatClampNeg (M.1 600 2))).1), (l_X8_bell_20 a1 (M, 0) (Int32.toNatClampNeg (M.1 600 2))).2) (cntN (fun k => c_X8_bell_61 a1 (l_X8_bell_61 a1 ((w_X8_lends (l_X8_bell_20 a1 (M, 0) (Int32.toNatClampNeg (M.1 600 2))).1), (l_X8_bell_20 a1 (M, 0) (Int32.toNatClampNeg (M.1 600 2))).2) k)) 2001)).1 600 10 0) else M) else M) else M
def p_X8_bell (M : Mm) (a1 : Int32) : Prop := (if (b2i (0 ≤ a1 ∧ a1 ≤ M.1 600 2 - 1)) = 0 then True else (vp_in (M.1 600 10 + 9 + a1) 44) ∧ (if ¬ (b2i (M.1 607 (Int32.toNatClampNeg (M.1 600 10 + 9 + a1)) = 0)) = 0 then (∀ k, k < (Int32.toNatClampNeg (M.1 600 2)) → c_X8_bell_20 a1 (l_X8_bell_20 a1 (M, 0) k)) ∧ (∀ k, k < (Int32.toNatClampNeg (M.1 600 2)) → q_X8_bell_20 a1 (l_X8_bell_20 a1 (M, 0) k)) ∧ (¬ c_X8_bell_20 a1 (l_X8_bell_20 a1 (M, 0) (Int32.toNatClampNeg (M.1 600 2)))) ∧ (if ((l_X8_bell_20 a1 (M, 0) (Int32.toNatClampNeg (M.1 600 2))).1.1 600 2) ≤ ((l_X8_bell_20 a1 (M, 0) (Int32.toNatClampNeg (M.1 600 2))).2) then (p_X8_lends (l_X8_bell_20 a1 (M, 0) (Int32.toNatClampNeg (M.1 600 2))).1 ) ∧ (∀ k, k < (cntN (fun k => c_X8_bell_61 a1 (l_X8_bell_61 a1 ((w_X8_lends (l_X8_bell_20 a1 (M, 0) (Int32.toNatClampNeg (M.1 600 2))).1), (l_X8_bell_20 a1 (M, 0) (Int32.toNatClampNeg (M.1 600 2))).2) k)) 2001) → c_X8_bell_61 a1 (l_X8_bell_61 a1 ((w_X8_lends (l_X8_bell_20 a1 (M, 0) (Int32.toNatClampNeg (M.1 600 2))).1), (l_X8_bell_20 a1 (M, 0) (Int32.toNatClampNeg (M.1 600 2))).2) k)) ∧ (∀ k, k < (cntN (fun k => c_X8_bell_61 a1 (l_X8_bell_61 a1 ((w_X8_lends (l_X8_bell_20 a1 (M, 0) (Int32.toNatClampNeg (M.1 600 2))).1), (l_X8_bell_20 a1 (M, 0) (Int32.toNatClampNeg (M.1 600 2))).2) k)) 2001) → q_X8_bell_61 a1 (l_X8_bell_61 a1 ((w_X8_lends (l_X8_bell_20 a1 (M, 0) (Int32.toNatClampNeg (M.1 600 2))).1), (l_X8_bell_20 a1 (M, 0) (Int32.toNatClampNeg (M.1 600 2))).2) k)) ∧ (¬ c_X8_bell_61 a1 (l_X8_bell_61 a1 ((w_X8_lends (l_X8_bell_20 a1 (M, 0) (Int32.toNatClampNeg (M.1 600 2))).1), (l_X8_bell_20 a1 (M, 0) (Int32.toNatClampNeg (M.1 600 2))).2) (cntN (fun k => c_X8_bell_61 a1 (l_X8_bell_61 a1 ((w_X8_lends (l_X8_bell_20 a1 (M, 0) (Int32.toNatClampNeg (M.1 600 2))).1), (l_X8_bell_20 a1 (M, 0) (Int32.toNatClampNeg (M.1 600 2))).2) k)) 2001))) ∧ (vp_in ((((l_X8_bell_61 a1 ((w_X8_lends (l_X8_bell_20 a1 (M, 0) (Int32.toNatClampNeg (M.1 600 2))).1), (l_X8_bell_20 a1 (M, 0) (Int32.toNatClampNeg (M.1 600 2))).2) (cntN (fun k => c_X8_bell_61 a1 (l_X8_bell_61 a1 ((w_X8_lends (l_X8_bell_20 a1 (M, 0) (Int32.toNatClampNeg (M.1 600 2))).1), (l_X8_bell_20 a1 (M, 0) (Int32.toNatClampNeg (M.1 600 2))).2) k)) 2001)).1.1 600 10) + 9) + a1) 44) ∧ (if ¬ ((l_X8_bell_61 a1 ((w_X8_lends (l_X8_bell_20 a1 (M, 0) (Int32.toNatClampNeg (M.1 600 2))).1), (l_X8_bell_20 a1 (M, 0) (Int32.toNatClampNeg (M.1 600 2))).2) (cntN (fun k => c_X8_bell_61 a1 (l_X8_bell_61 a1 ((w_X8_lends (l_X8_bell_20 a1 (M, 0) (Int32.toNatClampNeg (M.1 600 2))).1), (l_X8_bell_20 a1 (M, 0) (Int32.toNatClampNeg (M.1 600 2))).2) k)) 2001)).1.1 607 (Int32.toNatClampNeg ((((l_X8_bell_61 a1 ((w_X8_lends (l_X8_bell_20 a1 (M, 0) (Int32.toNatClampNeg (M.1 600 2))).1), (l_X8_bell_20 a1 (M, 0) (Int32.toNatClampNeg (M.1 600 2))).2) (cntN (fun k => c_X8_bell_61 a1 (l_X8_bell_61 a1 ((w_X8_lends (l_X8_bell_20 a1 (M, 0) (Int32.toNatClampNeg (M.1 600 2))).1), (l_X8_bell_20 a1 (M, 0) (Int32.toNatClampNeg (M.1 600 2))).2) k)) 2001)).1.1 600 10) + 9) + a1))) = 0 then (vp_in ((((l_X8_bell_61 a1 ((w_X8_lends (l_X8_bell_20 a1 (M, 0) (Int32.toNatClampNeg (M.1 600 2))).1), (l_X8_bell_20 a1 (M, 0) (Int32.toNatClampNeg (M.1 600 2))).2) (cntN (fun k => c_X8_bell_61 a1 (l_X8_bell_61 a1 ((w_X8_lends (l_X8_bell_20 a1 (M, 0) (Int32.toNatClampNeg (M.1 600 2))).1), (l_X8_bell_20 a1 (M, 0) (Int32.toNatClampNeg (M.1 600 2))).2) k)) 2001)).1.1 600 10) + 15) + a1) 44) ∧ True else True) else True) else True))
set_option maxRecDepth 20000 in
theorem rnX8_bell {d : Nat} {M : Mm} {a1 : Int32}  (hp : p_X8_bell M a1) : Rn (d + 5) mX8_bell [.ref 600, .int a1] M (some (.int (r_X8_bell M a1))) (w_X8_bell M a1) := by
  refine Rn.of [some (.ref 600), some (.int a1), none, none] (by decide +kernel) rfl (Nat.le_of_ble_eq_true rfl) rfl (fun J g hr => ?_)
  unfold p_X8_bell at hp
  refine j_aload_n g (i := 0) (by decide +kernel) rfl ?_
  refine j_iload_n g (i := 1) (by decide +kernel) rfl ?_
  refine j_cV1r g v8_243 ⟨rfl, by decide⟩ (by decide +kernel) (by decide +kernel) (Nat.le_of_ble_eq_true rfl) (rnX8_isWork) ?_
  refine j_if_eq g (off := 11) (tgt := 16) (by decide +kernel) (by decide) (fun c5 => ?_) (fun c5 => ?_)
  · rw [if_pos (show (b2i (0 ≤ a1 ∧ a1 ≤ M.1 600 2 - 1)) = 0 from c5)] at hp
    refine j_iconst g (n := -1) (-1) (by decide +kernel) rfl ?_
    refine hr.1 _ _ _ _ (by decide +kernel) ⟨_, rfl, by first | rfl | exact b2i_nar | decide +kernel⟩ ?_ ?_
    · unfold r_X8_bell; first | (simp only [if_pos (show (b2i (0 ≤ a1 ∧ a1 ≤ M.1 600 2 - 1)) = 0 from c5)]; done) | (simp only [if_pos (show (b2i (0 ≤ a1 ∧ a1 ≤ M.1 600 2 - 1)) = 0 from c5)]; rfl) | rfl
    · unfold w_X8_bell; first | (simp only [if_pos (show (b2i (0 ≤ a1 ∧ a1 ≤ M.1 600 2 - 1)) = 0 from c5)]; done) | (simp only [if_pos (show (b2i (0 ≤ a1 ∧ a1 ≤ M.1 600 2 - 1)) = 0 from c5)]; rfl) | rfl
  · rw [if_neg (show ¬ ((b2i (0 ≤ a1 ∧ a1 ≤ M.1 600 2 - 1)) = 0) from c5)] at hp
    refine j_aload_n g (i := 0) (by decide +kernel) rfl ?_
    refine j_iload_n g (i := 1) (by decide +kernel) rfl ?_
    obtain ⟨h0, hp⟩ := hp
    refine j_cV1r g v8_246 ⟨rfl, by decide⟩ (by decide +kernel) (by decide +kernel) (Nat.le_of_ble_eq_true rfl) (rnX8_isOpen h0) ?_
    refine j_if_ne g (off := 5) (tgt := 18) (by decide +kernel) (by decide) (fun c13 => ?_) (fun c13 => ?_)
    · rw [if_pos (show ¬ (b2i (M.1 607 (Int32.toNatClampNeg (M.1 600 10 + 9 + a1)) = 0)) = 0 from c13)] at hp
      refine j_iconst g (n := 0) (0) (by decide +kernel) rfl ?_
      refine j_istore_n g (i := 2) (by decide +kernel) (by decide) ?_
      dsimp only [stL, clL, hdL]
      obtain ⟨h0, hp⟩ := hp
      have hc_20_1 := h0
      obtain ⟨h0, hp⟩ := hp
      have hq_20_1 := h0
      obtain ⟨h0, hp⟩ := hp
      have hx_20_1 := h0
      refine sh_X8_bell_20   g (σ0 := (M, 0)) (Int32.toNatClampNeg (M.1 600 2)) hc_20_1 hq_20_1 ?_ 
      refine j_iload_n g (i := 2) (by decide +kernel) rfl ?_
      refine j_aload_n g (i := 0) (by decide +kernel) rfl ?_
      refine j_gI g f8_99 (by decide +kernel) (by decide +kernel) (by decide +kernel) ?_
      refine j_icmp_ge g (off := 32) (tgt := 57) (by decide +kernel) (by decide) (fun c25 => ?_) (fun c25 => ?_)
      · rw [if_pos (show ((l_X8_bell_20 a1 (M, 0) (Int32.toNatClampNeg (M.1 600 2))).1.1 600 2) ≤ ((l_X8_bell_20 a1 (M, 0) (Int32.toNatClampNeg (M.1 600 2))).2) from c25)] at hp
        refine j_aload_n g (i := 0) (by decide +kernel) rfl ?_
        obtain ⟨h0, hp⟩ := hp
        refine j_cV0v g v8_310 ⟨rfl, by decide⟩ (by decide +kernel) (by decide +kernel) (Nat.le_of_ble_eq_true rfl) (rnX8_lends h0) ?_
        obtain ⟨h0, hp⟩ := hp
        have hc_61_4 := h0
        obtain ⟨h0, hp⟩ := hp
        have hq_61_4 := h0
        obtain ⟨h0, hp⟩ := hp
        have hx_61_4 := h0
        refine sh_X8_bell_61   g (σ0 := ((w_X8_lends (l_X8_bell_20 a1 (M, 0) (Int32.toNatClampNeg (M.1 600 2))).1), (l_X8_bell_20 a1 (M, 0) (Int32.toNatClampNeg (M.1 600 2))).2)) (cntN (fun k => c_X8_bell_61 a1 (l_X8_bell_61 a1 ((w_X8_lends (l_X8_bell_20 a1 (M, 0) (Int32.toNatClampNeg (M.1 600 2))).1), (l_X8_bell_20 a1 (M, 0) (Int32.toNatClampNeg (M.1 600 2))).2) k)) 2001) hc_61_4 hq_61_4 ?_ _
        intro j3_4
        refine j_aload_n g (i := 0) (by decide +kernel) rfl ?_
        refine j_gA g (b := 607) f8_28 (by decide +kernel) (by decide +kernel) (by decide +kernel) (by decide +kernel) ?_
        refine j_aload_n g (i := 0) (by decide +kernel) rfl ?_
        refine j_gI g f8_240 (by decide +kernel) (by decide +kernel) (by decide +kernel) ?_
        refine j_bipush g (n := 9) (9) (by decide +kernel) (by decide +kernel) ?_
        refine j_iadd g (by decide +kernel) ?_
        refine j_iload_n g (i := 1) (by decide +kernel) rfl ?_
        refine j_iadd g (by decide +kernel) ?_
        obtain ⟨h0, hp⟩ := hp
        refine j_ia g 44 (by decide +kernel) (by decide +kernel) (by decide +kernel) h0 ?_
        refine j_if_ne g (off := 130) (tgt := 205) (by decide +kernel) (by decide) (fun c75 => ?_) (fun c75 => ?_)
        · rw [if_pos (show ¬ ((l_X8_bell_61 a1 ((w_X8_lends (l_X8_bell_20 a1 (M, 0) (Int32.toNatClampNeg (M.1 600 2))).1), (l_X8_bell_20 a1 (M, 0) (Int32.toNatClampNeg (M.1 600 2))).2) (cntN (fun k => c_X8_bell_61 a1 (l_X8_bell_61 a1 ((w_X8_lends (l_X8_bell_20 a1 (M, 0) (Int32.toNatClampNeg (M.1 600 2))).1), (l_X8_bell_20 a1 (M, 0) (Int32.toNatClampNeg (M.1 600 2))).2) k)) 2001)).1.1 607 (Int32.toNatClampNeg ((((l_X8_bell_61 a1 ((w_X8_lends (l_X8_bell_20 a1 (M, 0) (Int32.toNatClampNeg (M.1 600 2))).1), (l_X8_bell_20 a1 (M, 0) (Int32.toNatClampNeg (M.1 600 2))).2) (cntN (fun k => c_X8_bell_61 a1 (l_X8_bell_61 a1 ((w_X8_lends (l_X8_bell_20 a1 (M, 0) (Int32.toNatClampNeg (M.1 600 2))).1), (l_X8_bell_20 a1 (M, 0) (Int32.toNatClampNeg (M.1 600 2))).2) k)) 2001)).1.1 600 10) + 9) + a1))) = 0 from c75)] at hp
          refine j_aload_n g (i := 0) (by decide +kernel) rfl ?_
          refine j_gA g (b := 607) f8_28 (by decide +kernel) (by decide +kernel) (by decide +kernel) (by decide +kernel) ?_
          refine j_aload_n g (i := 0) (by decide +kernel) rfl ?_
          refine j_gI g f8_240 (by decide +kernel) (by decide +kernel) (by decide +kernel) ?_
          refine j_bipush g (n := 15) (15) (by decide +kernel) (by decide +kernel) ?_
          refine j_iadd g (by decide +kernel) ?_
          refine j_iload_n g (i := 1) (by decide +kernel) rfl ?_
          refine j_iadd g (by decide +kernel) ?_
          obtain ⟨h0, hp⟩ := hp
          refine j_ia g 44 (by decide +kernel) (by decide +kernel) (by decide +kernel) h0 ?_
          refine j_istore_n g (i := 2) (by decide +kernel) (by decide) ?_
          dsimp only [stL, clL, hdL]
          refine j_aload_n g (i := 0) (by decide +kernel) rfl ?_
          refine j_iconst g (n := 0) (0) (by decide +kernel) rfl ?_
          refine j_pI g f8_240 (fun q h => by cases h; rfl) (by decide +kernel) (by decide +kernel) (by decide +kernel) ?_
          refine j_iload_n g (i := 2) (by decide +kernel) rfl ?_
          refine hr.1 _ _ _ _ (by decide +kernel) ⟨_, rfl, by first | rfl | exact b2i_nar | decide +kernel⟩ ?_ ?_
          · unfold r_X8_bell; first | (simp only [if_neg (show ¬ ((b2i (0 ≤ a1 ∧ a1 ≤ M.1 600 2 - 1)) = 0) from c5), if_pos (show ¬ (b2i (M.1 607 (Int32.toNatClampNeg (M.1 600 10 + 9 + a1)) = 0)) = 0 from c13), if_pos (show ((l_X8_bell_20 a1 (M, 0) (Int32.toNatClampNeg (M.1 600 2))).1.1 600 2) ≤ ((l_X8_bell_20 a1 (M, 0) (Int32.toNatClampNeg (M.1 600 2))).2) from c25), if_pos (show ¬ ((l_X8_bell_61 a1 ((w_X8_lends (l_X8_bell_20 a1 (M, 0) (Int32.toNatClampNeg (M.1 600 2))).1), (l_X8_bell_20 a1 (M, 0) (Int32.toNatClampNeg (M.1 600 2))).2) (cntN (fun k => c_X8_bell_61 a1 (l_X8_bell_61 a1 ((w_X8_lends (l_X8_bell_20 a1 (M, 0) (Int32.toNatClampNeg (M.1 600 2))).1), (l_X8_bell_20 a1 (M, 0) (Int32.toNatClampNeg (M.1 600 2))).2) k)) 2001)).1.1 607 (Int32.toNatClampNeg ((((l_X8_bell_61 a1 ((w_X8_lends (l_X8_bell_20 a1 (M, 0) (Int32.toNatClampNeg (M.1 600 2))).1), (l_X8_bell_20 a1 (M, 0) (Int32.toNatClampNeg (M.1 600 2))).2) (cntN (fun k => c_X8_bell_61 a1 (l_X8_bell_61 a1 ((w_X8_lends (l_X8_bell_20 a1 (M, 0) (Int32.toNatClampNeg (M.1 600 2))).1), (l_X8_bell_20 a1 (M, 0) (Int32.toNatClampNeg (M.1 600 2))).2) k)) 2001)).1.1 600 10) + 9) + a1))) = 0 from c75)]; done) | (simp only [if_neg (show ¬ ((b2i (0 ≤ a1 ∧ a1 ≤ M.1 600 2 - 1)) = 0) from c5), if_pos (show ¬ (b2i (M.1 607 (Int32.toNatClampNeg (M.1 600 10 + 9 + a1)) = 0)) = 0 from c13), if_pos (show ((l_X8_bell_20 a1 (M, 0) (Int32.toNatClampNeg (M.1 600 2))).1.1 600 2) ≤ ((l_X8_bell_20 a1 (M, 0) (Int32.toNatClampNeg (M.1 600 2))).2) from c25), if_pos (show ¬ ((l_X8_bell_61 a1 ((w_X8_lends (l_X8_bell_20 a1 (M, 0) (Int32.toNatClampNeg (M.1 600 2))).1), (l_X8_bell_20 a1 (M, 0) (Int32.toNatClampNeg (M.1 600 2))).2) (cntN (fun k => c_X8_bell_61 a1 (l_X8_bell_61 a1 ((w_X8_lends (l_X8_bell_20 a1 (M, 0) (Int32.toNatClampNeg (M.1 600 2))).1), (l_X8_bell_20 a1 (M, 0) (Int32.toNatClampNeg (M.1 600 2))).2) k)) 2001)).1.1 607 (Int32.toNatClampNeg ((((l_X8_bell_61 a1 ((w_X8_lends (l_X8_bell_20 a1 (M, 0) (Int32.toNatClampNeg (M.1 600 2))).1), (l_X8_bell_20 a1 (M, 0) (Int32.toNatClampNeg (M.1 600 2))).2) (cntN (fun k => c_X8_bell_61 a1 (l_X8_bell_61 a1 ((w_X8_lends (l_X8_bell_20 a1 (M, 0) (Int32.toNatClampNeg (M.1 600 2))).1), (l_X8_bell_20 a1 (M, 0) (Int32.toNatClampNeg (M.1 600 2))).2) k)) 2001)).1.1 600 10) + 9) + a1))) = 0 from c75)]; rfl) | rfl
          · unfold w_X8_bell; first | (simp only [if_neg (show ¬ ((b2i (0 ≤ a1 ∧ a1 ≤ M.1 600 2 - 1)) = 0) from c5), if_pos (show ¬ (b2i (M.1 607 (Int32.toNatClampNeg (M.1 600 10 + 9 + a1)) = 0)) = 0 from c13), if_pos (show ((l_X8_bell_20 a1 (M, 0) (Int32.toNatClampNeg (M.1 600 2))).1.1 600 2) ≤ ((l_X8_bell_20 a1 (M, 0) (Int32.toNatClampNeg (M.1 600 2))).2) from c25), if_pos (show ¬ ((l_X8_bell_61 a1 ((w_X8_lends (l_X8_bell_20 a1 (M, 0) (Int32.toNatClampNeg (M.1 600 2))).1), (l_X8_bell_20 a1 (M, 0) (Int32.toNatClampNeg (M.1 600 2))).2) (cntN (fun k => c_X8_bell_61 a1 (l_X8_bell_61 a1 ((w_X8_lends (l_X8_bell_20 a1 (M, 0) (Int32.toNatClampNeg (M.1 600 2))).1), (l_X8_bell_20 a1 (M, 0) (Int32.toNatClampNeg (M.1 600 2))).2) k)) 2001)).1.1 607 (Int32.toNatClampNeg ((((l_X8_bell_61 a1 ((w_X8_lends (l_X8_bell_20 a1 (M, 0) (Int32.toNatClampNeg (M.1 600 2))).1), (l_X8_bell_20 a1 (M, 0) (Int32.toNatClampNeg (M.1 600 2))).2) (cntN (fun k => c_X8_bell_61 a1 (l_X8_bell_61 a1 ((w_X8_lends (l_X8_bell_20 a1 (M, 0) (Int32.toNatClampNeg (M.1 600 2))).1), (l_X8_bell_20 a1 (M, 0) (Int32.toNatClampNeg (M.1 600 2))).2) k)) 2001)).1.1 600 10) + 9) + a1))) = 0 from c75)]; done) | (simp only [if_neg (show ¬ ((b2i (0 ≤ a1 ∧ a1 ≤ M.1 600 2 - 1)) = 0) from c5), if_pos (show ¬ (b2i (M.1 607 (Int32.toNatClampNeg (M.1 600 10 + 9 + a1)) = 0)) = 0 from c13), if_pos (show ((l_X8_bell_20 a1 (M, 0) (Int32.toNatClampNeg (M.1 600 2))).1.1 600 2) ≤ ((l_X8_bell_20 a1 (M, 0) (Int32.toNatClampNeg (M.1 600 2))).2) from c25), if_pos (show ¬ ((l_X8_bell_61 a1 ((w_X8_lends (l_X8_bell_20 a1 (M, 0) (Int32.toNatClampNeg (M.1 600 2))).1), (l_X8_bell_20 a1 (M, 0) (Int32.toNatClampNeg (M.1 600 2))).2) (cntN (fun k => c_X8_bell_61 a1 (l_X8_bell_61 a1 ((w_X8_lends (l_X8_bell_20 a1 (M, 0) (Int32.toNatClampNeg (M.1 600 2))).1), (l_X8_bell_20 a1 (M, 0) (Int32.toNatClampNeg (M.1 600 2))).2) k)) 2001)).1.1 607 (Int32.toNatClampNeg ((((l_X8_bell_61 a1 ((w_X8_lends (l_X8_bell_20 a1 (M, 0) (Int32.toNatClampNeg (M.1 600 2))).1), (l_X8_bell_20 a1 (M, 0) (Int32.toNatClampNeg (M.1 600 2))).2) (cntN (fun k => c_X8_bell_61 a1 (l_X8_bell_61 a1 ((w_X8_lends (l_X8_bell_20 a1 (M, 0) (Int32.toNatClampNeg (M.1 600 2))).1), (l_X8_bell_20 a1 (M, 0) (Int32.toNatClampNeg (M.1 600 2))).2) k)) 2001)).1.1 600 10) + 9) + a1))) = 0 from c75)]; rfl) | rfl
        · rw [if_neg (show ¬ (¬ ((l_X8_bell_61 a1 ((w_X8_lends (l_X8_bell_20 a1 (M, 0) (Int32.toNatClampNeg (M.1 600 2))).1), (l_X8_bell_20 a1 (M, 0) (Int32.toNatClampNeg (M.1 600 2))).2) (cntN (fun k => c_X8_bell_61 a1 (l_X8_bell_61 a1 ((w_X8_lends (l_X8_bell_20 a1 (M, 0) (Int32.toNatClampNeg (M.1 600 2))).1), (l_X8_bell_20 a1 (M, 0) (Int32.toNatClampNeg (M.1 600 2))).2) k)) 2001)).1.1 607 (Int32.toNatClampNeg ((((l_X8_bell_61 a1 ((w_X8_lends (l_X8_bell_20 a1 (M, 0) (Int32.toNatClampNeg (M.1 600 2))).1), (l_X8_bell_20 a1 (M, 0) (Int32.toNatClampNeg (M.1 600 2))).2) (cntN (fun k => c_X8_bell_61 a1 (l_X8_bell_61 a1 ((w_X8_lends (l_X8_bell_20 a1 (M, 0) (Int32.toNatClampNeg (M.1 600 2))).1), (l_X8_bell_20 a1 (M, 0) (Int32.toNatClampNeg (M.1 600 2))).2) k)) 2001)).1.1 600 10) + 9) + a1))) = 0) from c75)] at hp
          refine absurd (ci_X8_bell_61.mpr ?_) hx_61_4
          simp only [if_neg (show ¬ ((b2i (0 ≤ a1 ∧ a1 ≤ M.1 600 2 - 1)) = 0) from c5), if_pos (show ¬ (b2i (M.1 607 (Int32.toNatClampNeg (M.1 600 10 + 9 + a1)) = 0)) = 0 from c13), if_pos (show ((l_X8_bell_20 a1 (M, 0) (Int32.toNatClampNeg (M.1 600 2))).1.1 600 2) ≤ ((l_X8_bell_20 a1 (M, 0) (Int32.toNatClampNeg (M.1 600 2))).2) from c25), if_neg (show ¬ (¬ ((l_X8_bell_61 a1 ((w_X8_lends (l_X8_bell_20 a1 (M, 0) (Int32.toNatClampNeg (M.1 600 2))).1), (l_X8_bell_20 a1 (M, 0) (Int32.toNatClampNeg (M.1 600 2))).2) (cntN (fun k => c_X8_bell_61 a1 (l_X8_bell_61 a1 ((w_X8_lends (l_X8_bell_20 a1 (M, 0) (Int32.toNatClampNeg (M.1 600 2))).1), (l_X8_bell_20 a1 (M, 0) (Int32.toNatClampNeg (M.1 600 2))).2) k)) 2001)).1.1 607 (Int32.toNatClampNeg ((((l_X8_bell_61 a1 ((w_X8_lends (l_X8_bell_20 a1 (M, 0) (Int32.toNatClampNeg (M.1 600 2))).1), (l_X8_bell_20 a1 (M, 0) (Int32.toNatClampNeg (M.1 600 2))).2) (cntN (fun k => c_X8_bell_61 a1 (l_X8_bell_61 a1 ((w_X8_lends (l_X8_bell_20 a1 (M, 0) (Int32.toNatClampNeg (M.1 600 2))).1), (l_X8_bell_20 a1 (M, 0) (Int32.toNatClampNeg (M.1 600 2))).2) k)) 2001)).1.1 600 10) + 9) + a1))) = 0) from c75)]
      · rw [if_neg (show ¬ (((l_X8_bell_20 a1 (M, 0) (Int32.toNatClampNeg (M.1 600 2))).1.1 600 2) ≤ ((l_X8_bell_20 a1 (M, 0) (Int32.toNatClampNeg (M.1 600 2))).2)) from c25)] at hp
        refine absurd (ci_X8_bell_20.mpr ?_) hx_20_1
        simp only [if_neg (show ¬ ((b2i (0 ≤ a1 ∧ a1 ≤ M.1 600 2 - 1)) = 0) from c5), if_pos (show ¬ (b2i (M.1 607 (Int32.toNatClampNeg (M.1 600 10 + 9 + a1)) = 0)) = 0 from c13), if_neg (show ¬ (((l_X8_bell_20 a1 (M, 0) (Int32.toNatClampNeg (M.1 600 2))).1.1 600 2) ≤ ((l_X8_bell_20 a1 (M, 0) (Int32.toNatClampNeg (M.1 600 2))).2)) from c25)]
    · rw [if_neg (show ¬ (¬ (b2i (M.1 607 (Int32.toNatClampNeg (M.1 600 10 + 9 + a1)) = 0)) = 0) from c13)] at hp
      refine j_iconst g (n := -1) (-1) (by decide +kernel) rfl ?_
      refine hr.1 _ _ _ _ (by decide +kernel) ⟨_, rfl, by first | rfl | exact b2i_nar | decide +kernel⟩ ?_ ?_
      · unfold r_X8_bell; first | (simp only [if_neg (show ¬ ((b2i (0 ≤ a1 ∧ a1 ≤ M.1 600 2 - 1)) = 0) from c5), if_neg (show ¬ (¬ (b2i (M.1 607 (Int32.toNatClampNeg (M.1 600 10 + 9 + a1)) = 0)) = 0) from c13)]; done) | (simp only [if_neg (show ¬ ((b2i (0 ≤ a1 ∧ a1 ≤ M.1 600 2 - 1)) = 0) from c5), if_neg (show ¬ (¬ (b2i (M.1 607 (Int32.toNatClampNeg (M.1 600 10 + 9 + a1)) = 0)) = 0) from c13)]; rfl) | rfl
      · unfold w_X8_bell; first | (simp only [if_neg (show ¬ ((b2i (0 ≤ a1 ∧ a1 ≤ M.1 600 2 - 1)) = 0) from c5), if_neg (show ¬ (¬ (b2i (M.1 607 (Int32.toNatClampNeg (M.1 600 10 + 9 + a1)) = 0)) = 0) from c13)]; done) | (simp only [if_neg (show ¬ ((b2i (0 ≤ a1 ∧ a1 ≤ M.1 600 2 - 1)) = 0) from c5), if_neg (show ¬ (¬ (b2i (M.1 607 (Int32.toNatClampNeg (M.1 600 10 + 9 + a1)) = 0)) = 0) from c13)]; rfl) | rfl
def c_X8_prove_7 (x1 : Int32) (σ : Mm × Int32) : Prop := if x1 ≤ σ.2 then False else True
theorem ci_X8_prove_7  {x1 : Int32} {σ : Mm × Int32} : c_X8_prove_7 x1 σ ↔ (if x1 ≤ σ.2 then False else True) := Iff.rfl
noncomputable def s_X8_prove_7 (x1 : Int32) (σ : Mm × Int32) : Mm × Int32 := if x1 ≤ σ.2 then σ else ((wi σ.1 614 (Int32.toNatClampNeg σ.2) (σ.1.1 615 (Int32.toNatClampNeg σ.2))), σ.2 + 1)
def q_X8_prove_7 (x1 : Int32) (σ : Mm × Int32) : Prop := (if x1 ≤ σ.2 then True else (vp_in σ.2 6) ∧ (vp_in σ.2 6) ∧ True)
noncomputable def l_X8_prove_7 (x1 : Int32) (σ0 : Mm × Int32) : Nat → Mm × Int32 := itN (fun _ σ => s_X8_prove_7 x1 σ) σ0
theorem ps_X8_prove_7 {d : Nat} {J : Nat → Lc → List Value → Mm → Prop}  {x1 : Int32} {σ : Mm × Int32}  (g : Good mX8_prove.1 mX8_prove.2.2.1 mX8_prove.2.2.2.1 (d + 8) J) (hc : c_X8_prove_7 x1 σ) (hp : q_X8_prove_7 x1 σ) (k : J 7 [some (.ref 600), some (.int x1), some (.int ((s_X8_prove_7 x1 σ).2))] [] ((s_X8_prove_7 x1 σ).1)) : J 7 [some (.ref 600), some (.int x1), some (.int σ.2)] [] σ.1 := by
  unfold c_X8_prove_7 at hc
  unfold q_X8_prove_7 at hp
  unfold s_X8_prove_7 at k
  refine j_iload_n g (i := 2) (by decide +kernel) rfl ?_
  refine j_iload_n g (i := 1) (by decide +kernel) rfl ?_
  refine j_icmp_ge g (off := 21) (tgt := 30) (by decide +kernel) (by decide) (fun c9 => ?_) (fun c9 => ?_)
  · (try rw [if_pos (show x1 ≤ σ.2 from c9)] at hc); (rw [if_pos (show x1 ≤ σ.2 from c9)] at hp); (try simp only [if_pos (show x1 ≤ σ.2 from c9)] at k)
    exact hc.elim
  · (try rw [if_neg (show ¬ (x1 ≤ σ.2) from c9)] at hc); (rw [if_neg (show ¬ (x1 ≤ σ.2) from c9)] at hp); (try simp only [if_neg (show ¬ (x1 ≤ σ.2) from c9)] at k)
    refine j_aload_n g (i := 0) (by decide +kernel) rfl ?_
    refine j_gA g (b := 614) f8_49 (by decide +kernel) (by decide +kernel) (by decide +kernel) (by decide +kernel) ?_
    refine j_iload_n g (i := 2) (by decide +kernel) rfl ?_
    refine j_aload_n g (i := 0) (by decide +kernel) rfl ?_
    refine j_gA g (b := 615) f8_52 (by decide +kernel) (by decide +kernel) (by decide +kernel) (by decide +kernel) ?_
    refine j_iload_n g (i := 2) (by decide +kernel) rfl ?_
    obtain ⟨h0, hp⟩ := hp
    refine j_ia g 6 (by decide +kernel) (by decide +kernel) (by decide +kernel) h0 ?_
    obtain ⟨h0, hp⟩ := hp
    refine j_is g 6 (by decide +kernel) (by decide +kernel) (by decide +kernel) h0 ?_
    refine j_iinc g (i := 2) (n := 1) (1) (by decide +kernel) rfl (by decide) rfl ?_
    dsimp only [stL, clL, hdL]
    refine j_goto g (off := -20) (tgt := 7) (by decide +kernel) (by decide) ?_
    exact k 
theorem sh_X8_prove_7 {d : Nat} {J : Nat → Lc → List Value → Mm → Prop}  {x1 : Int32} {σ0 : Mm × Int32}  (g : Good mX8_prove.1 mX8_prove.2.2.1 mX8_prove.2.2.2.1 (d + 8) J) : ∀ (N : Nat), (∀ k, k < N → c_X8_prove_7 x1 (l_X8_prove_7 x1 σ0 k)) → (∀ k, k < N → q_X8_prove_7 x1 (l_X8_prove_7 x1 σ0 k)) → (J 7 [some (.ref 600), some (.int x1), some (.int ((l_X8_prove_7 x1 σ0 N).2))] [] ((l_X8_prove_7 x1 σ0 N).1)) → J 7 [some (.ref 600), some (.int x1), some (.int σ0.2)] [] σ0.1
  | 0, _, _, k => k
  | N + 1, hc, hp, k => sh_X8_prove_7  g N (fun i hi => hc i (Nat.lt_succ_of_lt hi)) (fun i hi => hp i (Nat.lt_succ_of_lt hi)) (ps_X8_prove_7  g (hc N (Nat.lt_succ_self N)) (hp N (Nat.lt_succ_self N)) k)
def c_X8_prove_48 (x1 : Int32) (σ : Mm × Int32) : Prop := if x1 ≤ σ.2 then False else True
theorem ci_X8_prove_48  {x1 : Int32} {σ : Mm × Int32} : c_X8_prove_48 x1 σ ↔ (if x1 ≤ σ.2 then False else True) := Iff.rfl
noncomputable def s_X8_prove_48 (x1 : Int32) (σ : Mm × Int32) : Mm × Int32 := if x1 ≤ σ.2 then σ else ((wi (wi (wi σ.1 619 (Int32.toNatClampNeg ((3 : Int32) * σ.2)) (σ.1.1 614 (Int32.toNatClampNeg σ.2))) 619 (Int32.toNatClampNeg (((3 : Int32) * σ.2) + 1)) (σ.1.1 616 (Int32.toNatClampNeg (σ.1.1 614 (Int32.toNatClampNeg σ.2))))) 619 (Int32.toNatClampNeg (((3 : Int32) * σ.2) + 2)) (σ.1.1 617 (Int32.toNatClampNeg (σ.1.1 614 (Int32.toNatClampNeg σ.2))))), σ.2 + 1)
def q_X8_prove_48 (x1 : Int32) (σ : Mm × Int32) : Prop := (if x1 ≤ σ.2 then True else (vp_in σ.2 6) ∧ (vp_in ((3 : Int32) * σ.2) 18) ∧ (vp_in σ.2 6) ∧ (vp_in (σ.1.1 614 (Int32.toNatClampNeg σ.2)) 6) ∧ (vp_in (((3 : Int32) * σ.2) + 1) 18) ∧ (vp_in σ.2 6) ∧ (vp_in (σ.1.1 614 (Int32.toNatClampNeg σ.2)) 6) ∧ (vp_in (((3 : Int32) * σ.2) + 2) 18) ∧ True)
noncomputable def l_X8_prove_48 (x1 : Int32) (σ0 : Mm × Int32) : Nat → Mm × Int32 := itN (fun _ σ => s_X8_prove_48 x1 σ) σ0
theorem ps_X8_prove_48 {d : Nat} {J : Nat → Lc → List Value → Mm → Prop}  {x1 : Int32} {σ : Mm × Int32}  (g : Good mX8_prove.1 mX8_prove.2.2.1 mX8_prove.2.2.2.1 (d + 8) J) (hc : c_X8_prove_48 x1 σ) (hp : q_X8_prove_48 x1 σ) (k : J 48 [some (.ref 600), some (.int x1), some (.int ((s_X8_prove_48 x1 σ).2))] [] ((s_X8_prove_48 x1 σ).1)) : J 48 [some (.ref 600), some (.int x1), some (.int σ.2)] [] σ.1 := by
  unfold c_X8_prove_48 at hc
  unfold q_X8_prove_48 at hp
  unfold s_X8_prove_48 at k
  refine j_iload_n g (i := 2) (by decide +kernel) rfl ?_
  refine j_iload_n g (i := 1) (by decide +kernel) rfl ?_
  refine j_icmp_ge g (off := 65) (tgt := 115) (by decide +kernel) (by decide) (fun c50 => ?_) (fun c50 => ?_)
  · (try rw [if_pos (show x1 ≤ σ.2 from c50)] at hc); (rw [if_pos (show x1 ≤ σ.2 from c50)] at hp); (try simp only [if_pos (show x1 ≤ σ.2 from c50)] at k)
    exact hc.elim
  · (try rw [if_neg (show ¬ (x1 ≤ σ.2) from c50)] at hc); (rw [if_neg (show ¬ (x1 ≤ σ.2) from c50)] at hp); (try simp only [if_neg (show ¬ (x1 ≤ σ.2) from c50)] at k)
    refine j_aload_n g (i := 0) (by decide +kernel) rfl ?_
    refine j_gA g (b := 619) f8_64 (by decide +kernel) (by decide +kernel) (by decide +kernel) (by decide +kernel) ?_
    refine j_iconst g (n := 3) (3) (by decide +kernel) rfl ?_
    refine j_iload_n g (i := 2) (by decide +kernel) rfl ?_
    refine j_imul g (by decide +kernel) ?_
    refine j_aload_n g (i := 0) (by decide +kernel) rfl ?_
    refine j_gA g (b := 614) f8_49 (by decide +kernel) (by decide +kernel) (by decide +kernel) (by decide +kernel) ?_
    refine j_iload_n g (i := 2) (by decide +kernel) rfl ?_
    obtain ⟨h0, hp⟩ := hp
    refine j_ia g 6 (by decide +kernel) (by decide +kernel) (by decide +kernel) h0 ?_
    obtain ⟨h0, hp⟩ := hp
    refine j_is g 18 (by decide +kernel) (by decide +kernel) (by decide +kernel) h0 ?_
    refine j_aload_n g (i := 0) (by decide +kernel) rfl ?_
    refine j_gA g (b := 619) f8_64 (by decide +kernel) (by decide +kernel) (by decide +kernel) (by decide +kernel) ?_
    refine j_iconst g (n := 3) (3) (by decide +kernel) rfl ?_
    refine j_iload_n g (i := 2) (by decide +kernel) rfl ?_
    refine j_imul g (by decide +kernel) ?_
    refine j_iconst g (n := 1) (1) (by decide +kernel) rfl ?_
    refine j_iadd g (by decide +kernel) ?_
    refine j_aload_n g (i := 0) (by decide +kernel) rfl ?_
    refine j_gA g (b := 616) f8_55 (by decide +kernel) (by decide +kernel) (by decide +kernel) (by decide +kernel) ?_
    refine j_aload_n g (i := 0) (by decide +kernel) rfl ?_
    refine j_gA g (b := 614) f8_49 (by decide +kernel) (by decide +kernel) (by decide +kernel) (by decide +kernel) ?_
    refine j_iload_n g (i := 2) (by decide +kernel) rfl ?_
    obtain ⟨h0, hp⟩ := hp
    refine j_ia g 6 (by decide +kernel) (by decide +kernel) (by decide +kernel) h0 ?_
    obtain ⟨h0, hp⟩ := hp
    refine j_ia g 6 (by decide +kernel) (by decide +kernel) (by decide +kernel) h0 ?_
    obtain ⟨h0, hp⟩ := hp
    refine j_is g 18 (by decide +kernel) (by decide +kernel) (by decide +kernel) h0 ?_
    refine j_aload_n g (i := 0) (by decide +kernel) rfl ?_
    refine j_gA g (b := 619) f8_64 (by decide +kernel) (by decide +kernel) (by decide +kernel) (by decide +kernel) ?_
    refine j_iconst g (n := 3) (3) (by decide +kernel) rfl ?_
    refine j_iload_n g (i := 2) (by decide +kernel) rfl ?_
    refine j_imul g (by decide +kernel) ?_
    refine j_iconst g (n := 2) (2) (by decide +kernel) rfl ?_
    refine j_iadd g (by decide +kernel) ?_
    refine j_aload_n g (i := 0) (by decide +kernel) rfl ?_
    refine j_gA g (b := 617) f8_58 (by decide +kernel) (by decide +kernel) (by decide +kernel) (by decide +kernel) ?_
    refine j_aload_n g (i := 0) (by decide +kernel) rfl ?_
    refine j_gA g (b := 614) f8_49 (by decide +kernel) (by decide +kernel) (by decide +kernel) (by decide +kernel) ?_
    refine j_iload_n g (i := 2) (by decide +kernel) rfl ?_
    obtain ⟨h0, hp⟩ := hp
    refine j_ia g 6 (by decide +kernel) (by decide +kernel) (by decide +kernel) h0 ?_
    obtain ⟨h0, hp⟩ := hp
    refine j_ia g 6 (by decide +kernel) (by decide +kernel) (by decide +kernel) h0 ?_
    obtain ⟨h0, hp⟩ := hp
    refine j_is g 18 (by decide +kernel) (by decide +kernel) (by decide +kernel) h0 ?_
    refine j_iinc g (i := 2) (n := 1) (1) (by decide +kernel) rfl (by decide) rfl ?_
    dsimp only [stL, clL, hdL]
    refine j_goto g (off := -64) (tgt := 48) (by decide +kernel) (by decide) ?_
    exact k 
theorem sh_X8_prove_48 {d : Nat} {J : Nat → Lc → List Value → Mm → Prop}  {x1 : Int32} {σ0 : Mm × Int32}  (g : Good mX8_prove.1 mX8_prove.2.2.1 mX8_prove.2.2.2.1 (d + 8) J) : ∀ (N : Nat), (∀ k, k < N → c_X8_prove_48 x1 (l_X8_prove_48 x1 σ0 k)) → (∀ k, k < N → q_X8_prove_48 x1 (l_X8_prove_48 x1 σ0 k)) → (J 48 [some (.ref 600), some (.int x1), some (.int ((l_X8_prove_48 x1 σ0 N).2))] [] ((l_X8_prove_48 x1 σ0 N).1)) → J 48 [some (.ref 600), some (.int x1), some (.int σ0.2)] [] σ0.1
  | 0, _, _, k => k
  | N + 1, hc, hp, k => sh_X8_prove_48  g N (fun i hi => hc i (Nat.lt_succ_of_lt hi)) (fun i hi => hp i (Nat.lt_succ_of_lt hi)) (ps_X8_prove_48  g (hc N (Nat.lt_succ_self N)) (hp N (Nat.lt_succ_self N)) k)
noncomputable def r_X8_prove (M : Mm)  : Int32 := if (r_X8_findBest M) ≤ ((l_X8_prove_7 (r_X8_findBest M) ((w_X8_findBest M), 0) (Int32.toNatClampNeg ((r_X8_findBest M)))).2) then (if (r_X8_findBest M) ≤ ((l_X8_prove_48 (r_X8_findBest M) ((wi (wi (w_X8_goesThrough (l_X8_prove_7 (r_X8_findBest M) ((w_X8_findBest M), 0) (Int32.toNatClampNeg ((r_X8_findBest M)))).1 (r_X8_findBest M) (0 : Int32)) 600 10 0) 600 42 (r_X8_findBest M)), 0) (Int32.toNatClampNeg ((r_X8_findBest M)))).2) then (l_X8_prove_48 (r_X8_findBest M) ((wi (wi (w_X8_goesThrough (l_X8_prove_7 (r_X8_findBest M) ((w_X8_findBest M), 0) (Int32.toNatClampNeg ((r_X8_findBest M)))).1 (r_X8_findBest M) (0 : Int32)) 600 10 0) 600 42 (r_X8_findBest M)), 0) (Int32.toNatClampNeg ((r_X8_findBest M)))).1.1 600 42 else 0) else 0
noncomputable def w_X8_prove (M : Mm)  : Mm := if (r_X8_findBest M) ≤ ((l_X8_prove_7 (r_X8_findBest M) ((w_X8_findBest M), 0) (Int32.toNatClampNeg ((r_X8_findBest M)))).2) then (if (r_X8_findBest M) ≤ ((l_X8_prove_48 (r_X8_findBest M) ((wi (wi (w_X8_goesThrough (l_X8_prove_7 (r_X8_findBest M) ((w_X8_findBest M), 0) (Int32.toNatClampNeg ((r_X8_findBest M)))).1 (r_X8_findBest M) (0 : Int32)) 600 10 0) 600 42 (r_X8_findBest M)), 0) (Int32.toNatClampNeg ((r_X8_findBest M)))).2) then (l_X8_prove_48 (r_X8_findBest M) ((wi (wi (w_X8_goesThrough (l_X8_prove_7 (r_X8_findBest M) ((w_X8_findBest M), 0) (Int32.toNatClampNeg ((r_X8_findBest M)))).1 (r_X8_findBest M) (0 : Int32)) 600 10 0) 600 42 (r_X8_findBest M)), 0) (Int32.toNatClampNeg ((r_X8_findBest M)))).1 else M) else M
def p_X8_prove (M : Mm)  : Prop := (p_X8_findBest M ) ∧ (∀ k, k < (Int32.toNatClampNeg ((r_X8_findBest M))) → c_X8_prove_7 (r_X8_findBest M) (l_X8_prove_7 (r_X8_findBest M) ((w_X8_findBest M), 0) k)) ∧ (∀ k, k < (Int32.toNatClampNeg ((r_X8_findBest M))) → q_X8_prove_7 (r_X8_findBest M) (l_X8_prove_7 (r_X8_findBest M) ((w_X8_findBest M), 0) k)) ∧ (¬ c_X8_prove_7 (r_X8_findBest M) (l_X8_prove_7 (r_X8_findBest M) ((w_X8_findBest M), 0) (Int32.toNatClampNeg ((r_X8_findBest M))))) ∧ (if (r_X8_findBest M) ≤ ((l_X8_prove_7 (r_X8_findBest M) ((w_X8_findBest M), 0) (Int32.toNatClampNeg ((r_X8_findBest M)))).2) then (p_X8_goesThrough (l_X8_prove_7 (r_X8_findBest M) ((w_X8_findBest M), 0) (Int32.toNatClampNeg ((r_X8_findBest M)))).1 (r_X8_findBest M) (0 : Int32)) ∧ (∀ k, k < (Int32.toNatClampNeg ((r_X8_findBest M))) → c_X8_prove_48 (r_X8_findBest M) (l_X8_prove_48 (r_X8_findBest M) ((wi (wi (w_X8_goesThrough (l_X8_prove_7 (r_X8_findBest M) ((w_X8_findBest M), 0) (Int32.toNatClampNeg ((r_X8_findBest M)))).1 (r_X8_findBest M) (0 : Int32)) 600 10 0) 600 42 (r_X8_findBest M)), 0) k)) ∧ (∀ k, k < (Int32.toNatClampNeg ((r_X8_findBest M))) → q_X8_prove_48 (r_X8_findBest M) (l_X8_prove_48 (r_X8_findBest M) ((wi (wi (w_X8_goesThrough (l_X8_prove_7 (r_X8_findBest M) ((w_X8_findBest M), 0) (Int32.toNatClampNeg ((r_X8_findBest M)))).1 (r_X8_findBest M) (0 : Int32)) 600 10 0) 600 42 (r_X8_findBest M)), 0) k)) ∧ (¬ c_X8_prove_48 (r_X8_findBest M) (l_X8_prove_48 (r_X8_findBest M) ((wi (wi (w_X8_goesThrough (l_X8_prove_7 (r_X8_findBest M) ((w_X8_findBest M), 0) (Int32.toNatClampNeg ((r_X8_findBest M)))).1 (r_X8_findBest M) (0 : Int32)) 600 10 0) 600 42 (r_X8_findBest M)), 0) (Int32.toNatClampNeg ((r_X8_findBest M))))) ∧ (if (r_X8_findBest M) ≤ ((l_X8_prove_48 (r_X8_findBest M) ((wi (wi (w_X8_goesThrough (l_X8_prove_7 (r_X8_findBest M) ((w_X8_findBest M), 0) (Int32.toNatClampNeg ((r_X8_findBest M)))).1 (r_X8_findBest M) (0 : Int32)) 600 10 0) 600 42 (r_X8_findBest M)), 0) (Int32.toNatClampNeg ((r_X8_findBest M)))).2) then True else True) else True)
set_option maxRecDepth 20000 in
theorem rnX8_prove {d : Nat} {M : Mm}   (hp : p_X8_prove M ) : Rn (d + 8) mX8_prove [.ref 600] M (some (.int (r_X8_prove M ))) (w_X8_prove M ) := by
  refine Rn.of [some (.ref 600), none, none] (by decide +kernel) rfl (Nat.le_of_ble_eq_true rfl) rfl (fun J g hr => ?_)
  unfold p_X8_prove at hp
  refine j_aload_n g (i := 0) (by decide +kernel) rfl ?_
  obtain ⟨h0, hp⟩ := hp
  refine j_cV0r g v8_347 ⟨rfl, by decide⟩ (by decide +kernel) (by decide +kernel) (Nat.le_of_ble_eq_true rfl) (rnX8_findBest h0) ?_
  refine j_istore_n g (i := 1) (by decide +kernel) (by decide) ?_
  dsimp only [stL, clL, hdL]
  refine j_iconst g (n := 0) (0) (by decide +kernel) rfl ?_
  refine j_istore_n g (i := 2) (by decide +kernel) (by decide) ?_
  dsimp only [stL, clL, hdL]
  obtain ⟨h0, hp⟩ := hp
  have hc_7_1 := h0
  obtain ⟨h0, hp⟩ := hp
  have hq_7_1 := h0
  obtain ⟨h0, hp⟩ := hp
  have hx_7_1 := h0
  refine sh_X8_prove_7 (x1 := (r_X8_findBest M))  g (σ0 := ((w_X8_findBest M), 0)) (Int32.toNatClampNeg ((r_X8_findBest M))) hc_7_1 hq_7_1 ?_ 
  refine j_iload_n g (i := 2) (by decide +kernel) rfl ?_
  refine j_iload_n g (i := 1) (by decide +kernel) rfl ?_
  refine j_icmp_ge g (off := 21) (tgt := 30) (by decide +kernel) (by decide) (fun c9 => ?_) (fun c9 => ?_)
  · rw [if_pos (show (r_X8_findBest M) ≤ ((l_X8_prove_7 (r_X8_findBest M) ((w_X8_findBest M), 0) (Int32.toNatClampNeg ((r_X8_findBest M)))).2) from c9)] at hp
    refine j_aload_n g (i := 0) (by decide +kernel) rfl ?_
    refine j_iload_n g (i := 1) (by decide +kernel) rfl ?_
    refine j_iconst g (n := 0) (0) (by decide +kernel) rfl ?_
    obtain ⟨h0, hp⟩ := hp
    refine j_cV2v g v8_326 ⟨rfl, by decide⟩ (by decide +kernel) (by decide +kernel) (Nat.le_of_ble_eq_true rfl) (rnX8_goesThrough h0) ?_
    refine j_aload_n g (i := 0) (by decide +kernel) rfl ?_
    refine j_iconst g (n := 0) (0) (by decide +kernel) rfl ?_
    refine j_pI g f8_240 (fun q h => by cases h; rfl) (by decide +kernel) (by decide +kernel) (by decide +kernel) ?_
    refine j_aload_n g (i := 0) (by decide +kernel) rfl ?_
    refine j_iload_n g (i := 1) (by decide +kernel) rfl ?_
    refine j_pI g f8_234 (fun q h => by cases h; rfl) (by decide +kernel) (by decide +kernel) (by decide +kernel) ?_
    refine j_iconst g (n := 0) (0) (by decide +kernel) rfl ?_
    refine j_istore_n g (i := 2) (by decide +kernel) (by decide) ?_
    dsimp only [stL, clL, hdL]
    obtain ⟨h0, hp⟩ := hp
    have hc_48_2 := h0
    obtain ⟨h0, hp⟩ := hp
    have hq_48_2 := h0
    obtain ⟨h0, hp⟩ := hp
    have hx_48_2 := h0
    refine sh_X8_prove_48 (x1 := (r_X8_findBest M))  g (σ0 := ((wi (wi (w_X8_goesThrough (l_X8_prove_7 (r_X8_findBest M) ((w_X8_findBest M), 0) (Int32.toNatClampNeg ((r_X8_findBest M)))).1 (r_X8_findBest M) (0 : Int32)) 600 10 0) 600 42 (r_X8_findBest M)), 0)) (Int32.toNatClampNeg ((r_X8_findBest M))) hc_48_2 hq_48_2 ?_ 
    refine j_iload_n g (i := 2) (by decide +kernel) rfl ?_
    refine j_iload_n g (i := 1) (by decide +kernel) rfl ?_
    refine j_icmp_ge g (off := 65) (tgt := 115) (by decide +kernel) (by decide) (fun c50 => ?_) (fun c50 => ?_)
    · rw [if_pos (show (r_X8_findBest M) ≤ ((l_X8_prove_48 (r_X8_findBest M) ((wi (wi (w_X8_goesThrough (l_X8_prove_7 (r_X8_findBest M) ((w_X8_findBest M), 0) (Int32.toNatClampNeg ((r_X8_findBest M)))).1 (r_X8_findBest M) (0 : Int32)) 600 10 0) 600 42 (r_X8_findBest M)), 0) (Int32.toNatClampNeg ((r_X8_findBest M)))).2) from c50)] at hp
      refine j_aload_n g (i := 0) (by decide +kernel) rfl ?_
      refine j_gI g f8_234 (by decide +kernel) (by decide +kernel) (by decide +kernel) ?_
      refine hr.1 _ _ _ _ (by decide +kernel) ⟨_, rfl, by first | rfl | exact b2i_nar | decide +kernel⟩ ?_ ?_
      · unfold r_X8_prove; first | (simp only [if_pos (show (r_X8_findBest M) ≤ ((l_X8_prove_7 (r_X8_findBest M) ((w_X8_findBest M), 0) (Int32.toNatClampNeg ((r_X8_findBest M)))).2) from c9), if_pos (show (r_X8_findBest M) ≤ ((l_X8_prove_48 (r_X8_findBest M) ((wi (wi (w_X8_goesThrough (l_X8_prove_7 (r_X8_findBest M) ((w_X8_findBest M), 0) (Int32.toNatClampNeg ((r_X8_findBest M)))).1 (r_X8_findBest M) (0 : Int32)) 600 10 0) 600 42 (r_X8_findBest M)), 0) (Int32.toNatClampNeg ((r_X8_findBest M)))).2) from c50)]; done) | (simp only [if_pos (show (r_X8_findBest M) ≤ ((l_X8_prove_7 (r_X8_findBest M) ((w_X8_findBest M), 0) (Int32.toNatClampNeg ((r_X8_findBest M)))).2) from c9), if_pos (show (r_X8_findBest M) ≤ ((l_X8_prove_48 (r_X8_findBest M) ((wi (wi (w_X8_goesThrough (l_X8_prove_7 (r_X8_findBest M) ((w_X8_findBest M), 0) (Int32.toNatClampNeg ((r_X8_findBest M)))).1 (r_X8_findBest M) (0 : Int32)) 600 10 0) 600 42 (r_X8_findBest M)), 0) (Int32.toNatClampNeg ((r_X8_findBest M)))).2) from c50)]; rfl) | rfl
      · unfold w_X8_prove; first | (simp only [if_pos (show (r_X8_findBest M) ≤ ((l_X8_prove_7 (r_X8_findBest M) ((w_X8_findBest M), 0) (Int32.toNatClampNeg ((r_X8_findBest M)))).2) from c9), if_pos (show (r_X8_findBest M) ≤ ((l_X8_prove_48 (r_X8_findBest M) ((wi (wi (w_X8_goesThrough (l_X8_prove_7 (r_X8_findBest M) ((w_X8_findBest M), 0) (Int32.toNatClampNeg ((r_X8_findBest M)))).1 (r_X8_findBest M) (0 : Int32)) 600 10 0) 600 42 (r_X8_findBest M)), 0) (Int32.toNatClampNeg ((r_X8_findBest M)))).2) from c50)]; done) | (simp only [if_pos (show (r_X8_findBest M) ≤ ((l_X8_prove_7 (r_X8_findBest M) ((w_X8_findBest M), 0) (Int32.toNatClampNeg ((r_X8_findBest M)))).2) from c9), if_pos (show (r_X8_findBest M) ≤ ((l_X8_prove_48 (r_X8_findBest M) ((wi (wi (w_X8_goesThrough (l_X8_prove_7 (r_X8_findBest M) ((w_X8_findBest M), 0) (Int32.toNatClampNeg ((r_X8_findBest M)))).1 (r_X8_findBest M) (0 : Int32)) 600 10 0) 600 42 (r_X8_findBest M)), 0) (Int32.toNatClampNeg ((r_X8_findBest M)))).2) from c50)]; rfl) | rfl
    · rw [if_neg (show ¬ ((r_X8_findBest M) ≤ ((l_X8_prove_48 (r_X8_findBest M) ((wi (wi (w_X8_goesThrough (l_X8_prove_7 (r_X8_findBest M) ((w_X8_findBest M), 0) (Int32.toNatClampNeg ((r_X8_findBest M)))).1 (r_X8_findBest M) (0 : Int32)) 600 10 0) 600 42 (r_X8_findBest M)), 0) (Int32.toNatClampNeg ((r_X8_findBest M)))).2)) from c50)] at hp
      refine absurd (ci_X8_prove_48.mpr ?_) hx_48_2
      simp only [if_pos (show (r_X8_findBest M) ≤ ((l_X8_prove_7 (r_X8_findBest M) ((w_X8_findBest M), 0) (Int32.toNatClampNeg ((r_X8_findBest M)))).2) from c9), if_neg (show ¬ ((r_X8_findBest M) ≤ ((l_X8_prove_48 (r_X8_findBest M) ((wi (wi (w_X8_goesThrough (l_X8_prove_7 (r_X8_findBest M) ((w_X8_findBest M), 0) (Int32.toNatClampNeg ((r_X8_findBest M)))).1 (r_X8_findBest M) (0 : Int32)) 600 10 0) 600 42 (r_X8_findBest M)), 0) (Int32.toNatClampNeg ((r_X8_findBest M)))).2)) from c50)]
  · rw [if_neg (show ¬ ((r_X8_findBest M) ≤ ((l_X8_prove_7 (r_X8_findBest M) ((w_X8_findBest M), 0) (Int32.toNatClampNeg ((r_X8_findBest M)))).2)) from c9)] at hp
    refine absurd (ci_X8_prove_7.mpr ?_) hx_7_1
    simp only [if_neg (show ¬ ((r_X8_findBest M) ≤ ((l_X8_prove_7 (r_X8_findBest M) ((w_X8_findBest M), 0) (Int32.toNatClampNeg ((r_X8_findBest M)))).2)) from c9)]
noncomputable def r_X7_worth (M : Mm) (a1 : Int32) : Int32 := if 0 ≤ (r_X2_readDigits M a1) then (w_X2_runCalled (w_X2_readDigits M a1) (0 : Int32)).1 1030 5 else r_X2_readDigits M a1
noncomputable def w_X7_worth (M : Mm) (a1 : Int32) : Mm := if 0 ≤ (r_X2_readDigits M a1) then (w_X2_runCalled (w_X2_readDigits M a1) (0 : Int32)) else (w_X2_readDigits M a1)
def p_X7_worth (M : Mm) (a1 : Int32) : Prop := (p_X2_readDigits M a1) ∧ (if 0 ≤ (r_X2_readDigits M a1) then (p_X2_runCalled (w_X2_readDigits M a1) (0 : Int32)) ∧ True else True)
set_option maxRecDepth 20000 in
theorem rnX7_worth {d : Nat} {M : Mm} {a1 : Int32}  (hp : p_X7_worth M a1) : Rn (d + 4) mX7_worth [.ref 1, .int a1] M (some (.int (r_X7_worth M a1))) (w_X7_worth M a1) := by
  refine Rn.of [some (.ref 1), some (.int a1), none] (by decide +kernel) rfl (Nat.le_of_ble_eq_true rfl) rfl (fun J g hr => ?_)
  unfold p_X7_worth at hp
  refine j_aload_n g (i := 0) (by decide +kernel) rfl ?_
  refine j_gA g (b := 510) f7_10 (by decide +kernel) (by decide +kernel) (by decide +kernel) (by decide +kernel) ?_
  refine j_iload_n g (i := 1) (by decide +kernel) rfl ?_
  obtain ⟨h0, hp⟩ := hp
  refine j_cV1r g v7_196 ⟨rfl, by decide⟩ (by decide +kernel) (by decide +kernel) (Nat.le_of_ble_eq_true rfl) (rnX2_readDigits h0) ?_
  refine j_istore_n g (i := 2) (by decide +kernel) (by decide) ?_
  dsimp only [stL, clL, hdL]
  refine j_iload_n g (i := 2) (by decide +kernel) rfl ?_
  refine j_if_ge g (off := 7) (tgt := 17) (by decide +kernel) (by decide) (fun c10 => ?_) (fun c10 => ?_)
  · rw [if_pos (show 0 ≤ (r_X2_readDigits M a1) from c10)] at hp
    refine j_aload_n g (i := 0) (by decide +kernel) rfl ?_
    refine j_gA g (b := 510) f7_10 (by decide +kernel) (by decide +kernel) (by decide +kernel) (by decide +kernel) ?_
    refine j_iconst g (n := 0) (0) (by decide +kernel) rfl ?_
    obtain ⟨h0, hp⟩ := hp
    refine j_cV1r g v7_199 ⟨rfl, by decide⟩ (by decide +kernel) (by decide +kernel) (Nat.le_of_ble_eq_true rfl) (rnX2_runCalled h0) ?_
    refine j_gI g f7_193 (by decide +kernel) (by decide +kernel) (by decide +kernel) ?_
    refine hr.1 _ _ _ _ (by decide +kernel) ⟨_, rfl, by first | rfl | exact b2i_nar | decide +kernel⟩ ?_ ?_
    · unfold r_X7_worth; first | (simp only [if_pos (show 0 ≤ (r_X2_readDigits M a1) from c10)]; done) | (simp only [if_pos (show 0 ≤ (r_X2_readDigits M a1) from c10)]; rfl) | rfl
    · unfold w_X7_worth; first | (simp only [if_pos (show 0 ≤ (r_X2_readDigits M a1) from c10)]; done) | (simp only [if_pos (show 0 ≤ (r_X2_readDigits M a1) from c10)]; rfl) | rfl
  · rw [if_neg (show ¬ (0 ≤ (r_X2_readDigits M a1)) from c10)] at hp
    refine j_iload_n g (i := 2) (by decide +kernel) rfl ?_
    refine j_goto g (off := 14) (tgt := 28) (by decide +kernel) (by decide) ?_
    refine hr.1 _ _ _ _ (by decide +kernel) ⟨_, rfl, by first | rfl | exact b2i_nar | decide +kernel⟩ ?_ ?_
    · unfold r_X7_worth; first | (simp only [if_neg (show ¬ (0 ≤ (r_X2_readDigits M a1)) from c10)]; done) | (simp only [if_neg (show ¬ (0 ≤ (r_X2_readDigits M a1)) from c10)]; rfl) | rfl
    · unfold w_X7_worth; first | (simp only [if_neg (show ¬ (0 ≤ (r_X2_readDigits M a1)) from c10)]; done) | (simp only [if_neg (show ¬ (0 ≤ (r_X2_readDigits M a1)) from c10)]; rfl) | rfl
noncomputable def r_X7_ends (M : Mm) (a1 : Int32) (a2 : Int32) : Int32 := if ¬ (b2i (cOpen M 1000 a2)) = 0 then (if 0 ≤ (r_X2_readDigits M a1) then (if ¬ ((w_X2_runCalled (w_X2_readDigits M a1) (0 : Int32)).1 1033 (Int32.toNatClampNeg a2)) = (1 : Int32) then (-9) else (w_X2_runCalled (w_X2_readDigits M a1) (0 : Int32)).1 1034 (Int32.toNatClampNeg a2)) else r_X2_readDigits M a1) else (-1)
noncomputable def w_X7_ends (M : Mm) (a1 : Int32) (a2 : Int32) : Mm := if ¬ (b2i (cOpen M 1000 a2)) = 0 then (if 0 ≤ (r_X2_readDigits M a1) then (w_X2_runCalled (w_X2_readDigits M a1) (0 : Int32)) else (w_X2_readDigits M a1)) else M
def p_X7_ends (M : Mm) (a1 : Int32) (a2 : Int32) : Prop := ((M.1 100 2).toInt ≤ 6) ∧ (if ¬ (b2i (cOpen M 1000 a2)) = 0 then (p_X2_readDigits M a1) ∧ (if 0 ≤ (r_X2_readDigits M a1) then (p_X2_runCalled (w_X2_readDigits M a1) (0 : Int32)) ∧ (vp_in a2 6) ∧ (if ¬ ((w_X2_runCalled (w_X2_readDigits M a1) (0 : Int32)).1 1033 (Int32.toNatClampNeg a2)) = (1 : Int32) then True else (vp_in a2 6) ∧ True) else True) else True)
set_option maxRecDepth 20000 in
theorem rnX7_ends {d : Nat} {M : Mm} {a1 : Int32} {a2 : Int32}  (hp : p_X7_ends M a1 a2) : Rn (d + 4) mX7_ends [.ref 1, .int a1, .int a2] M (some (.int (r_X7_ends M a1 a2))) (w_X7_ends M a1 a2) := by
  refine Rn.of [some (.ref 1), some (.int a1), some (.int a2), none, none] (by decide +kernel) rfl (Nat.le_of_ble_eq_true rfl) rfl (fun J g hr => ?_)
  unfold p_X7_ends at hp
  refine j_aload_n g (i := 0) (by decide +kernel) rfl ?_
  refine j_gA g (b := 100) f7_20 (by decide +kernel) (by decide +kernel) (by decide +kernel) (by decide +kernel) ?_
  refine j_aload_n g (i := 0) (by decide +kernel) rfl ?_
  refine j_gA g (b := 100) f7_20 (by decide +kernel) (by decide +kernel) (by decide +kernel) (by decide +kernel) ?_
  refine j_gA g (b := 1000) f7_112 (by decide +kernel) (by decide +kernel) (by decide +kernel) (by decide +kernel) ?_
  refine j_iload_n g (i := 2) (by decide +kernel) rfl ?_
  obtain ⟨h0, hp⟩ := hp
  refine j_cV2r g v7_203 ⟨rfl, by decide⟩ (by decide +kernel) (by decide +kernel) (Nat.le_of_ble_eq_true rfl) (rnX5_isOpen h0 (by simp [isS])) ?_
  refine j_if_ne g (off := 5) (tgt := 20) (by decide +kernel) (by decide) (fun c15 => ?_) (fun c15 => ?_)
  · rw [if_pos (show ¬ (b2i (cOpen M 1000 a2)) = 0 from c15)] at hp
    refine j_aload_n g (i := 0) (by decide +kernel) rfl ?_
    refine j_gA g (b := 510) f7_10 (by decide +kernel) (by decide +kernel) (by decide +kernel) (by decide +kernel) ?_
    refine j_iload_n g (i := 1) (by decide +kernel) rfl ?_
    obtain ⟨h0, hp⟩ := hp
    refine j_cV1r g v7_196 ⟨rfl, by decide⟩ (by decide +kernel) (by decide +kernel) (Nat.le_of_ble_eq_true rfl) (rnX2_readDigits h0) ?_
    refine j_istore_n g (i := 3) (by decide +kernel) (by decide) ?_
    dsimp only [stL, clL, hdL]
    refine j_iload_n g (i := 3) (by decide +kernel) rfl ?_
    refine j_if_ge g (off := 5) (tgt := 35) (by decide +kernel) (by decide) (fun c30 => ?_) (fun c30 => ?_)
    · rw [if_pos (show 0 ≤ (r_X2_readDigits M a1) from c30)] at hp
      refine j_aload_n g (i := 0) (by decide +kernel) rfl ?_
      refine j_gA g (b := 510) f7_10 (by decide +kernel) (by decide +kernel) (by decide +kernel) (by decide +kernel) ?_
      refine j_iconst g (n := 0) (0) (by decide +kernel) rfl ?_
      obtain ⟨h0, hp⟩ := hp
      refine j_cV1r g v7_199 ⟨rfl, by decide⟩ (by decide +kernel) (by decide +kernel) (Nat.le_of_ble_eq_true rfl) (rnX2_runCalled h0) ?_
      refine j_astore g (i := 4) (by decide +kernel) (by decide) ?_
      dsimp only [stL, clL, hdL]
      refine j_aload g (i := 4) (by decide +kernel) rfl ?_
      refine j_gA g (b := 1033) f7_116 (by decide +kernel) (by decide +kernel) (by decide +kernel) (by decide +kernel) ?_
      refine j_iload_n g (i := 2) (by decide +kernel) rfl ?_
      obtain ⟨h0, hp⟩ := hp
      refine j_ia g 6 (by decide +kernel) (by decide +kernel) (by decide +kernel) h0 ?_
      refine j_iconst g (n := 1) (1) (by decide +kernel) rfl ?_
      refine j_icmp_ne g (off := 13) (tgt := 66) (by decide +kernel) (by decide) (fun c53 => ?_) (fun c53 => ?_)
      · rw [if_pos (show ¬ ((w_X2_runCalled (w_X2_readDigits M a1) (0 : Int32)).1 1033 (Int32.toNatClampNeg a2)) = (1 : Int32) from c53)] at hp
        refine j_bipush g (n := -9) (-9) (by decide +kernel) (by decide +kernel) ?_
        refine hr.1 _ _ _ _ (by decide +kernel) ⟨_, rfl, by first | rfl | exact b2i_nar | decide +kernel⟩ ?_ ?_
        · unfold r_X7_ends; first | (simp only [if_pos (show ¬ (b2i (cOpen M 1000 a2)) = 0 from c15), if_pos (show 0 ≤ (r_X2_readDigits M a1) from c30), if_pos (show ¬ ((w_X2_runCalled (w_X2_readDigits M a1) (0 : Int32)).1 1033 (Int32.toNatClampNeg a2)) = (1 : Int32) from c53)]; done) | (simp only [if_pos (show ¬ (b2i (cOpen M 1000 a2)) = 0 from c15), if_pos (show 0 ≤ (r_X2_readDigits M a1) from c30), if_pos (show ¬ ((w_X2_runCalled (w_X2_readDigits M a1) (0 : Int32)).1 1033 (Int32.toNatClampNeg a2)) = (1 : Int32) from c53)]; rfl) | rfl
        · unfold w_X7_ends; first | (simp only [if_pos (show ¬ (b2i (cOpen M 1000 a2)) = 0 from c15), if_pos (show 0 ≤ (r_X2_readDigits M a1) from c30), if_pos (show ¬ ((w_X2_runCalled (w_X2_readDigits M a1) (0 : Int32)).1 1033 (Int32.toNatClampNeg a2)) = (1 : Int32) from c53)]; done) | (simp only [if_pos (show ¬ (b2i (cOpen M 1000 a2)) = 0 from c15), if_pos (show 0 ≤ (r_X2_readDigits M a1) from c30), if_pos (show ¬ ((w_X2_runCalled (w_X2_readDigits M a1) (0 : Int32)).1 1033 (Int32.toNatClampNeg a2)) = (1 : Int32) from c53)]; rfl) | rfl
      · rw [if_neg (show ¬ (¬ ((w_X2_runCalled (w_X2_readDigits M a1) (0 : Int32)).1 1033 (Int32.toNatClampNeg a2)) = (1 : Int32)) from c53)] at hp
        refine j_aload g (i := 4) (by decide +kernel) rfl ?_
        refine j_gA g (b := 1034) f7_155 (by decide +kernel) (by decide +kernel) (by decide +kernel) (by decide +kernel) ?_
        refine j_iload_n g (i := 2) (by decide +kernel) rfl ?_
        obtain ⟨h0, hp⟩ := hp
        refine j_ia g 6 (by decide +kernel) (by decide +kernel) (by decide +kernel) h0 ?_
        refine j_goto g (off := 5) (tgt := 68) (by decide +kernel) (by decide) ?_
        refine hr.1 _ _ _ _ (by decide +kernel) ⟨_, rfl, by first | rfl | exact b2i_nar | decide +kernel⟩ ?_ ?_
        · unfold r_X7_ends; first | (simp only [if_pos (show ¬ (b2i (cOpen M 1000 a2)) = 0 from c15), if_pos (show 0 ≤ (r_X2_readDigits M a1) from c30), if_neg (show ¬ (¬ ((w_X2_runCalled (w_X2_readDigits M a1) (0 : Int32)).1 1033 (Int32.toNatClampNeg a2)) = (1 : Int32)) from c53)]; done) | (simp only [if_pos (show ¬ (b2i (cOpen M 1000 a2)) = 0 from c15), if_pos (show 0 ≤ (r_X2_readDigits M a1) from c30), if_neg (show ¬ (¬ ((w_X2_runCalled (w_X2_readDigits M a1) (0 : Int32)).1 1033 (Int32.toNatClampNeg a2)) = (1 : Int32)) from c53)]; rfl) | rfl
        · unfold w_X7_ends; first | (simp only [if_pos (show ¬ (b2i (cOpen M 1000 a2)) = 0 from c15), if_pos (show 0 ≤ (r_X2_readDigits M a1) from c30), if_neg (show ¬ (¬ ((w_X2_runCalled (w_X2_readDigits M a1) (0 : Int32)).1 1033 (Int32.toNatClampNeg a2)) = (1 : Int32)) from c53)]; done) | (simp only [if_pos (show ¬ (b2i (cOpen M 1000 a2)) = 0 from c15), if_pos (show 0 ≤ (r_X2_readDigits M a1) from c30), if_neg (show ¬ (¬ ((w_X2_runCalled (w_X2_readDigits M a1) (0 : Int32)).1 1033 (Int32.toNatClampNeg a2)) = (1 : Int32)) from c53)]; rfl) | rfl
    · rw [if_neg (show ¬ (0 ≤ (r_X2_readDigits M a1)) from c30)] at hp
      refine j_iload_n g (i := 3) (by decide +kernel) rfl ?_
      refine hr.1 _ _ _ _ (by decide +kernel) ⟨_, rfl, by first | rfl | exact b2i_nar | decide +kernel⟩ ?_ ?_
      · unfold r_X7_ends; first | (simp only [if_pos (show ¬ (b2i (cOpen M 1000 a2)) = 0 from c15), if_neg (show ¬ (0 ≤ (r_X2_readDigits M a1)) from c30)]; done) | (simp only [if_pos (show ¬ (b2i (cOpen M 1000 a2)) = 0 from c15), if_neg (show ¬ (0 ≤ (r_X2_readDigits M a1)) from c30)]; rfl) | rfl
      · unfold w_X7_ends; first | (simp only [if_pos (show ¬ (b2i (cOpen M 1000 a2)) = 0 from c15), if_neg (show ¬ (0 ≤ (r_X2_readDigits M a1)) from c30)]; done) | (simp only [if_pos (show ¬ (b2i (cOpen M 1000 a2)) = 0 from c15), if_neg (show ¬ (0 ≤ (r_X2_readDigits M a1)) from c30)]; rfl) | rfl
  · rw [if_neg (show ¬ (¬ (b2i (cOpen M 1000 a2)) = 0) from c15)] at hp
    refine j_iconst g (n := -1) (-1) (by decide +kernel) rfl ?_
    refine hr.1 _ _ _ _ (by decide +kernel) ⟨_, rfl, by first | rfl | exact b2i_nar | decide +kernel⟩ ?_ ?_
    · unfold r_X7_ends; first | (simp only [if_neg (show ¬ (¬ (b2i (cOpen M 1000 a2)) = 0) from c15)]; done) | (simp only [if_neg (show ¬ (¬ (b2i (cOpen M 1000 a2)) = 0) from c15)]; rfl) | rfl
    · unfold w_X7_ends; first | (simp only [if_neg (show ¬ (¬ (b2i (cOpen M 1000 a2)) = 0) from c15)]; done) | (simp only [if_neg (show ¬ (¬ (b2i (cOpen M 1000 a2)) = 0) from c15)]; rfl) | rfl
noncomputable def r_X7_fractionOf (M : Mm) (a1 : Int32) (a2 : Int32) (a3 : Int32) : Int64 := if ¬ (b2i ((0 : Int32) ≤ a2 ∧ a2 ≤ (1 : Int32))) = 0 then (if 0 ≤ (r_X2_readDigits M a1) then (if ¬ a2 = 0 then (w_X2_average (w_X2_readDigits M a1) a3).2 510 11 else (w_X2_average (w_X2_readDigits M a1) a3).2 510 10) else Int32.toInt64 (r_X2_readDigits M a1)) else (-1)
noncomputable def w_X7_fractionOf (M : Mm) (a1 : Int32) (a2 : Int32) (a3 : Int32) : Mm := if ¬ (b2i ((0 : Int32) ≤ a2 ∧ a2 ≤ (1 : Int32))) = 0 then (if 0 ≤ (r_X2_readDigits M a1) then (w_X2_average (w_X2_readDigits M a1) a3) else (w_X2_readDigits M a1)) else M
def p_X7_fractionOf (M : Mm) (a1 : Int32) (a2 : Int32) (a3 : Int32) : Prop := (if ¬ (b2i ((0 : Int32) ≤ a2 ∧ a2 ≤ (1 : Int32))) = 0 then (p_X2_readDigits M a1) ∧ (if 0 ≤ (r_X2_readDigits M a1) then (p_X2_average (w_X2_readDigits M a1) a3) ∧ (if ¬ a2 = 0 then True else True) else True) else True)
set_option maxRecDepth 20000 in
theorem rnX7_fractionOf {d : Nat} {M : Mm} {a1 : Int32} {a2 : Int32} {a3 : Int32}  (hp : p_X7_fractionOf M a1 a2 a3) : Rn (d + 5) mX7_fractionOf [.ref 1, .int a1, .int a2, .int a3] M (some (.long (r_X7_fractionOf M a1 a2 a3))) (w_X7_fractionOf M a1 a2 a3) := by
  refine Rn.of [some (.ref 1), some (.int a1), some (.int a2), some (.int a3), none] (by decide +kernel) rfl (Nat.le_of_ble_eq_true rfl) rfl (fun J g hr => ?_)
  unfold p_X7_fractionOf at hp
  refine j_iload_n g (i := 2) (by decide +kernel) rfl ?_
  refine j_iconst g (n := 0) (0) (by decide +kernel) rfl ?_
  refine j_iconst g (n := 1) (1) (by decide +kernel) rfl ?_
  refine j_cS3r g s7_87 (by decide +kernel) (Nat.le_of_ble_eq_true rfl) (rnX7_isWithin) ?_
  refine j_if_ne g (off := 7) (tgt := 13) (by decide +kernel) (by decide) (fun c6 => ?_) (fun c6 => ?_)
  · rw [if_pos (show ¬ (b2i ((0 : Int32) ≤ a2 ∧ a2 ≤ (1 : Int32))) = 0 from c6)] at hp
    refine j_aload_n g (i := 0) (by decide +kernel) rfl ?_
    refine j_gA g (b := 510) f7_10 (by decide +kernel) (by decide +kernel) (by decide +kernel) (by decide +kernel) ?_
    refine j_iload_n g (i := 1) (by decide +kernel) rfl ?_
    obtain ⟨h0, hp⟩ := hp
    refine j_cV1r g v7_196 ⟨rfl, by decide⟩ (by decide +kernel) (by decide +kernel) (Nat.le_of_ble_eq_true rfl) (rnX2_readDigits h0) ?_
    refine j_istore g (i := 4) (by decide +kernel) (by decide) ?_
    dsimp only [stL, clL, hdL]
    refine j_iload g (i := 4) (by decide +kernel) rfl ?_
    refine j_if_ge g (off := 7) (tgt := 32) (by decide +kernel) (by decide) (fun c25 => ?_) (fun c25 => ?_)
    · rw [if_pos (show 0 ≤ (r_X2_readDigits M a1) from c25)] at hp
      refine j_aload_n g (i := 0) (by decide +kernel) rfl ?_
      refine j_gA g (b := 510) f7_10 (by decide +kernel) (by decide +kernel) (by decide +kernel) (by decide +kernel) ?_
      refine j_iload_n g (i := 3) (by decide +kernel) rfl ?_
      obtain ⟨h0, hp⟩ := hp
      refine j_cV1v g v7_323 ⟨rfl, by decide⟩ (by decide +kernel) (by decide +kernel) (Nat.le_of_ble_eq_true rfl) (rnX2_average h0) ?_
      refine j_iload_n g (i := 2) (by decide +kernel) rfl ?_
      refine j_if_ne g (off := 13) (tgt := 54) (by decide +kernel) (by decide) (fun c41 => ?_) (fun c41 => ?_)
      · rw [if_pos (show ¬ a2 = 0 from c41)] at hp
        refine j_aload_n g (i := 0) (by decide +kernel) rfl ?_
        refine j_gA g (b := 510) f7_10 (by decide +kernel) (by decide +kernel) (by decide +kernel) (by decide +kernel) ?_
        refine j_gJ g f7_331 (by decide +kernel) (by decide +kernel) (by decide +kernel) ?_
        refine hr.2.1 _ _ _ _ (by decide +kernel) rfl ?_ ?_
        · unfold r_X7_fractionOf; first | (simp only [if_pos (show ¬ (b2i ((0 : Int32) ≤ a2 ∧ a2 ≤ (1 : Int32))) = 0 from c6), if_pos (show 0 ≤ (r_X2_readDigits M a1) from c25), if_pos (show ¬ a2 = 0 from c41)]; done) | (simp only [if_pos (show ¬ (b2i ((0 : Int32) ≤ a2 ∧ a2 ≤ (1 : Int32))) = 0 from c6), if_pos (show 0 ≤ (r_X2_readDigits M a1) from c25), if_pos (show ¬ a2 = 0 from c41)]; rfl) | rfl
        · unfold w_X7_fractionOf; first | (simp only [if_pos (show ¬ (b2i ((0 : Int32) ≤ a2 ∧ a2 ≤ (1 : Int32))) = 0 from c6), if_pos (show 0 ≤ (r_X2_readDigits M a1) from c25), if_pos (show ¬ a2 = 0 from c41)]; done) | (simp only [if_pos (show ¬ (b2i ((0 : Int32) ≤ a2 ∧ a2 ≤ (1 : Int32))) = 0 from c6), if_pos (show 0 ≤ (r_X2_readDigits M a1) from c25), if_pos (show ¬ a2 = 0 from c41)]; rfl) | rfl
      · rw [if_neg (show ¬ (¬ a2 = 0) from c41)] at hp
        refine j_aload_n g (i := 0) (by decide +kernel) rfl ?_
        refine j_gA g (b := 510) f7_10 (by decide +kernel) (by decide +kernel) (by decide +kernel) (by decide +kernel) ?_
        refine j_gJ g f7_327 (by decide +kernel) (by decide +kernel) (by decide +kernel) ?_
        refine j_goto g (off := 10) (tgt := 61) (by decide +kernel) (by decide) ?_
        refine hr.2.1 _ _ _ _ (by decide +kernel) rfl ?_ ?_
        · unfold r_X7_fractionOf; first | (simp only [if_pos (show ¬ (b2i ((0 : Int32) ≤ a2 ∧ a2 ≤ (1 : Int32))) = 0 from c6), if_pos (show 0 ≤ (r_X2_readDigits M a1) from c25), if_neg (show ¬ (¬ a2 = 0) from c41)]; done) | (simp only [if_pos (show ¬ (b2i ((0 : Int32) ≤ a2 ∧ a2 ≤ (1 : Int32))) = 0 from c6), if_pos (show 0 ≤ (r_X2_readDigits M a1) from c25), if_neg (show ¬ (¬ a2 = 0) from c41)]; rfl) | rfl
        · unfold w_X7_fractionOf; first | (simp only [if_pos (show ¬ (b2i ((0 : Int32) ≤ a2 ∧ a2 ≤ (1 : Int32))) = 0 from c6), if_pos (show 0 ≤ (r_X2_readDigits M a1) from c25), if_neg (show ¬ (¬ a2 = 0) from c41)]; done) | (simp only [if_pos (show ¬ (b2i ((0 : Int32) ≤ a2 ∧ a2 ≤ (1 : Int32))) = 0 from c6), if_pos (show 0 ≤ (r_X2_readDigits M a1) from c25), if_neg (show ¬ (¬ a2 = 0) from c41)]; rfl) | rfl
    · rw [if_neg (show ¬ (0 ≤ (r_X2_readDigits M a1)) from c25)] at hp
      refine j_iload g (i := 4) (by decide +kernel) rfl ?_
      refine j_i2l g (by decide +kernel) ?_
      refine hr.2.1 _ _ _ _ (by decide +kernel) rfl ?_ ?_
      · unfold r_X7_fractionOf; first | (simp only [if_pos (show ¬ (b2i ((0 : Int32) ≤ a2 ∧ a2 ≤ (1 : Int32))) = 0 from c6), if_neg (show ¬ (0 ≤ (r_X2_readDigits M a1)) from c25)]; done) | (simp only [if_pos (show ¬ (b2i ((0 : Int32) ≤ a2 ∧ a2 ≤ (1 : Int32))) = 0 from c6), if_neg (show ¬ (0 ≤ (r_X2_readDigits M a1)) from c25)]; rfl) | rfl
      · unfold w_X7_fractionOf; first | (simp only [if_pos (show ¬ (b2i ((0 : Int32) ≤ a2 ∧ a2 ≤ (1 : Int32))) = 0 from c6), if_neg (show ¬ (0 ≤ (r_X2_readDigits M a1)) from c25)]; done) | (simp only [if_pos (show ¬ (b2i ((0 : Int32) ≤ a2 ∧ a2 ≤ (1 : Int32))) = 0 from c6), if_neg (show ¬ (0 ≤ (r_X2_readDigits M a1)) from c25)]; rfl) | rfl
  · rw [if_neg (show ¬ (¬ (b2i ((0 : Int32) ≤ a2 ∧ a2 ≤ (1 : Int32))) = 0) from c6)] at hp
    refine j_ldc2 g (n := 321) (-1) (by decide +kernel) k7_321 ?_
    refine hr.2.1 _ _ _ _ (by decide +kernel) rfl ?_ ?_
    · unfold r_X7_fractionOf; first | (simp only [if_neg (show ¬ (¬ (b2i ((0 : Int32) ≤ a2 ∧ a2 ≤ (1 : Int32))) = 0) from c6)]; done) | (simp only [if_neg (show ¬ (¬ (b2i ((0 : Int32) ≤ a2 ∧ a2 ≤ (1 : Int32))) = 0) from c6)]; rfl) | rfl
    · unfold w_X7_fractionOf; first | (simp only [if_neg (show ¬ (¬ (b2i ((0 : Int32) ≤ a2 ∧ a2 ≤ (1 : Int32))) = 0) from c6)]; done) | (simp only [if_neg (show ¬ (¬ (b2i ((0 : Int32) ≤ a2 ∧ a2 ≤ (1 : Int32))) = 0) from c6)]; rfl) | rfl
noncomputable def r_X7_mean (M : Mm) (a1 : Int32) (a2 : Int32) : Int64 := r_X7_fractionOf M a1 a2 (0 : Int32)
noncomputable def w_X7_mean (M : Mm) (a1 : Int32) (a2 : Int32) : Mm := (w_X7_fractionOf M a1 a2 (0 : Int32))
def p_X7_mean (M : Mm) (a1 : Int32) (a2 : Int32) : Prop := (p_X7_fractionOf M a1 a2 (0 : Int32)) ∧ True
set_option maxRecDepth 20000 in
theorem rnX7_mean {d : Nat} {M : Mm} {a1 : Int32} {a2 : Int32}  (hp : p_X7_mean M a1 a2) : Rn (d + 6) mX7_mean [.ref 1, .int a1, .int a2] M (some (.long (r_X7_mean M a1 a2))) (w_X7_mean M a1 a2) := by
  refine Rn.of [some (.ref 1), some (.int a1), some (.int a2)] (by decide +kernel) rfl (Nat.le_of_ble_eq_true rfl) rfl (fun J g hr => ?_)
  unfold p_X7_mean at hp
  refine j_aload_n g (i := 0) (by decide +kernel) rfl ?_
  refine j_iload_n g (i := 1) (by decide +kernel) rfl ?_
  refine j_iload_n g (i := 2) (by decide +kernel) rfl ?_
  refine j_iconst g (n := 0) (0) (by decide +kernel) rfl ?_
  obtain ⟨h0, hp⟩ := hp
  refine j_cV3r g v7_221 ⟨rfl, by decide⟩ (by decide +kernel) (by decide +kernel) (Nat.le_of_ble_eq_true rfl) (rnX7_fractionOf h0) ?_
  refine hr.2.1 _ _ _ _ (by decide +kernel) rfl ?_ ?_
  · unfold r_X7_mean; rfl
  · unfold w_X7_mean; rfl
noncomputable def r_X7_sure (M : Mm) (a1 : Int32) (a2 : Int32) : Int64 := r_X7_fractionOf M a1 a2 (1 : Int32)
noncomputable def w_X7_sure (M : Mm) (a1 : Int32) (a2 : Int32) : Mm := (w_X7_fractionOf M a1 a2 (1 : Int32))
def p_X7_sure (M : Mm) (a1 : Int32) (a2 : Int32) : Prop := (p_X7_fractionOf M a1 a2 (1 : Int32)) ∧ True
set_option maxRecDepth 20000 in
theorem rnX7_sure {d : Nat} {M : Mm} {a1 : Int32} {a2 : Int32}  (hp : p_X7_sure M a1 a2) : Rn (d + 6) mX7_sure [.ref 1, .int a1, .int a2] M (some (.long (r_X7_sure M a1 a2))) (w_X7_sure M a1 a2) := by
  refine Rn.of [some (.ref 1), some (.int a1), some (.int a2)] (by decide +kernel) rfl (Nat.le_of_ble_eq_true rfl) rfl (fun J g hr => ?_)
  unfold p_X7_sure at hp
  refine j_aload_n g (i := 0) (by decide +kernel) rfl ?_
  refine j_iload_n g (i := 1) (by decide +kernel) rfl ?_
  refine j_iload_n g (i := 2) (by decide +kernel) rfl ?_
  refine j_iconst g (n := 1) (1) (by decide +kernel) rfl ?_
  obtain ⟨h0, hp⟩ := hp
  refine j_cV3r g v7_221 ⟨rfl, by decide⟩ (by decide +kernel) (by decide +kernel) (Nat.le_of_ble_eq_true rfl) (rnX7_fractionOf h0) ?_
  refine hr.2.1 _ _ _ _ (by decide +kernel) rfl ?_ ?_
  · unfold r_X7_sure; rfl
  · unfold w_X7_sure; rfl
noncomputable def r_X7_bell (M : Mm) (a1 : Int32) : Int32 := if (b2i (cOpen M 1000 a1)) = 0 then (-1) else r_X2_endByTheBell M a1
noncomputable def w_X7_bell (M : Mm) (a1 : Int32) : Mm := if (b2i (cOpen M 1000 a1)) = 0 then M else (w_X2_endByTheBell M a1)
def p_X7_bell (M : Mm) (a1 : Int32) : Prop := ((M.1 100 2).toInt ≤ 6) ∧ (if (b2i (cOpen M 1000 a1)) = 0 then True else (p_X2_endByTheBell M a1) ∧ True)
set_option maxRecDepth 20000 in
theorem rnX7_bell {d : Nat} {M : Mm} {a1 : Int32}  (hp : p_X7_bell M a1) : Rn (d + 4) mX7_bell [.ref 1, .int a1] M (some (.int (r_X7_bell M a1))) (w_X7_bell M a1) := by
  refine Rn.of [some (.ref 1), some (.int a1)] (by decide +kernel) rfl (Nat.le_of_ble_eq_true rfl) rfl (fun J g hr => ?_)
  unfold p_X7_bell at hp
  refine j_aload_n g (i := 0) (by decide +kernel) rfl ?_
  refine j_gA g (b := 100) f7_20 (by decide +kernel) (by decide +kernel) (by decide +kernel) (by decide +kernel) ?_
  refine j_aload_n g (i := 0) (by decide +kernel) rfl ?_
  refine j_gA g (b := 100) f7_20 (by decide +kernel) (by decide +kernel) (by decide +kernel) (by decide +kernel) ?_
  refine j_gA g (b := 1000) f7_112 (by decide +kernel) (by decide +kernel) (by decide +kernel) (by decide +kernel) ?_
  refine j_iload_n g (i := 1) (by decide +kernel) rfl ?_
  obtain ⟨h0, hp⟩ := hp
  refine j_cV2r g v7_203 ⟨rfl, by decide⟩ (by decide +kernel) (by decide +kernel) (Nat.le_of_ble_eq_true rfl) (rnX5_isOpen h0 (by simp [isS])) ?_
  refine j_if_eq g (off := 14) (tgt := 29) (by decide +kernel) (by decide) (fun c15 => ?_) (fun c15 => ?_)
  · rw [if_pos (show (b2i (cOpen M 1000 a1)) = 0 from c15)] at hp
    refine j_iconst g (n := -1) (-1) (by decide +kernel) rfl ?_
    refine hr.1 _ _ _ _ (by decide +kernel) ⟨_, rfl, by first | rfl | exact b2i_nar | decide +kernel⟩ ?_ ?_
    · unfold r_X7_bell; first | (simp only [if_pos (show (b2i (cOpen M 1000 a1)) = 0 from c15)]; done) | (simp only [if_pos (show (b2i (cOpen M 1000 a1)) = 0 from c15)]; rfl) | rfl
    · unfold w_X7_bell; first | (simp only [if_pos (show (b2i (cOpen M 1000 a1)) = 0 from c15)]; done) | (simp only [if_pos (show (b2i (cOpen M 1000 a1)) = 0 from c15)]; rfl) | rfl
  · rw [if_neg (show ¬ ((b2i (cOpen M 1000 a1)) = 0) from c15)] at hp
    refine j_aload_n g (i := 0) (by decide +kernel) rfl ?_
    refine j_gA g (b := 510) f7_10 (by decide +kernel) (by decide +kernel) (by decide +kernel) (by decide +kernel) ?_
    refine j_iload_n g (i := 1) (by decide +kernel) rfl ?_
    obtain ⟨h0, hp⟩ := hp
    refine j_cV1r g v7_225 ⟨rfl, by decide⟩ (by decide +kernel) (by decide +kernel) (Nat.le_of_ble_eq_true rfl) (rnX2_endByTheBell h0) ?_
    refine j_goto g (off := 4) (tgt := 30) (by decide +kernel) (by decide) ?_
    refine hr.1 _ _ _ _ (by decide +kernel) ⟨_, rfl, by first | rfl | exact b2i_nar | decide +kernel⟩ ?_ ?_
    · unfold r_X7_bell; first | (simp only [if_neg (show ¬ ((b2i (cOpen M 1000 a1)) = 0) from c15)]; done) | (simp only [if_neg (show ¬ ((b2i (cOpen M 1000 a1)) = 0) from c15)]; rfl) | rfl
    · unfold w_X7_bell; first | (simp only [if_neg (show ¬ ((b2i (cOpen M 1000 a1)) = 0) from c15)]; done) | (simp only [if_neg (show ¬ ((b2i (cOpen M 1000 a1)) = 0) from c15)]; rfl) | rfl
noncomputable def r_X7_judge (M : Mm)  : Int32 := r_X2_firstWrongRow M (M.1 1 8)
noncomputable def w_X7_judge (M : Mm)  : Mm := (w_X2_firstWrongRow M (M.1 1 8))
def p_X7_judge (M : Mm)  : Prop := (p_X2_firstWrongRow M (M.1 1 8)) ∧ True
set_option maxRecDepth 20000 in
theorem rnX7_judge {d : Nat} {M : Mm}   (hp : p_X7_judge M ) : Rn (d + 4) mX7_judge [.ref 1] M (some (.int (r_X7_judge M ))) (w_X7_judge M ) := by
  refine Rn.of [some (.ref 1)] (by decide +kernel) rfl (Nat.le_of_ble_eq_true rfl) rfl (fun J g hr => ?_)
  unfold p_X7_judge at hp
  refine j_aload_n g (i := 0) (by decide +kernel) rfl ?_
  refine j_gA g (b := 510) f7_10 (by decide +kernel) (by decide +kernel) (by decide +kernel) (by decide +kernel) ?_
  refine j_aload_n g (i := 0) (by decide +kernel) rfl ?_
  refine j_gA g (b := 550) f7_51 (by decide +kernel) (by decide +kernel) (by decide +kernel) (by decide +kernel) ?_
  refine j_aload_n g (i := 0) (by decide +kernel) rfl ?_
  refine j_gI g f7_55 (by decide +kernel) (by decide +kernel) (by decide +kernel) ?_
  obtain ⟨h0, hp⟩ := hp
  refine j_cV2r g v7_256 ⟨rfl, by decide⟩ (by decide +kernel) (by decide +kernel) (Nat.le_of_ble_eq_true rfl) (rnX2_firstWrongRow h0) ?_
  refine hr.1 _ _ _ _ (by decide +kernel) ⟨_, rfl, by first | rfl | exact b2i_nar | decide +kernel⟩ ?_ ?_
  · unfold r_X7_judge; rfl
  · unfold w_X7_judge; rfl
noncomputable def r_X8_mean (M : Mm) (a1 : Int32) (a2 : Int32) : Int64 := if (b2i (0 ≤ a2 ∧ a2 ≤ 1)) = 0 then Int32.toInt64 (-1) else if (r_X8_takesOrder M a1) = 0 then (if ¬ a2 = 0 then (w_X8_called (w_X8_takesOrder M a1) (0 : Int32)).2 600 39 else (w_X8_called (w_X8_takesOrder M a1) (0 : Int32)).2 600 38) else Int32.toInt64 (r_X8_takesOrder M a1)
noncomputable def w_X8_mean (M : Mm) (a1 : Int32) (a2 : Int32) : Mm := if (b2i (0 ≤ a2 ∧ a2 ≤ 1)) = 0 then M else if (r_X8_takesOrder M a1) = 0 then (w_X8_called (w_X8_takesOrder M a1) (0 : Int32)) else (w_X8_takesOrder M a1)
def p_X8_mean (M : Mm) (a1 : Int32) (a2 : Int32) : Prop := (if (b2i (0 ≤ a2 ∧ a2 ≤ 1)) = 0 then True else (p_X8_takesOrder M a1) ∧ (if (r_X8_takesOrder M a1) = 0 then (p_X8_called (w_X8_takesOrder M a1) (0 : Int32)) ∧ (if ¬ a2 = 0 then True else True) else True))
set_option maxRecDepth 20000 in
theorem rnX8_mean {d : Nat} {M : Mm} {a1 : Int32} {a2 : Int32}  (hp : p_X8_mean M a1 a2) : Rn (d + 8) mX8_mean [.ref 600, .int a1, .int a2] M (some (.long (r_X8_mean M a1 a2))) (w_X8_mean M a1 a2) := by
  refine Rn.of [some (.ref 600), some (.int a1), some (.int a2), none] (by decide +kernel) rfl (Nat.le_of_ble_eq_true rfl) rfl (fun J g hr => ?_)
  unfold p_X8_mean at hp
  refine j_iload_n g (i := 2) (by decide +kernel) rfl ?_
  refine j_cS1r g s8_344 (by decide +kernel) (Nat.le_of_ble_eq_true rfl) (rnX8_isSide) ?_
  refine j_if_eq g (off := 11) (tgt := 15) (by decide +kernel) (by decide) (fun c4 => ?_) (fun c4 => ?_)
  · rw [if_pos (show (b2i (0 ≤ a2 ∧ a2 ≤ 1)) = 0 from c4)] at hp
    refine j_iconst g (n := -1) (-1) (by decide +kernel) rfl ?_
    refine j_istore_n g (i := 3) (by decide +kernel) (by decide) ?_
    dsimp only [stL, clL, hdL]
    refine j_iload_n g (i := 3) (by decide +kernel) rfl ?_
    refine j_if_eq g (off := 6) (tgt := 24) (by decide +kernel) (by decide) (fun c => absurd c (by first | decide | (intro h; exact h rfl))) (fun _ => ?_)
    refine j_iload_n g (i := 3) (by decide +kernel) rfl ?_
    refine j_i2l g (by decide +kernel) ?_
    refine hr.2.1 _ _ _ _ (by decide +kernel) rfl ?_ ?_
    · unfold r_X8_mean; first | (simp only [if_pos (show (b2i (0 ≤ a2 ∧ a2 ≤ 1)) = 0 from c4)]; done) | (simp only [if_pos (show (b2i (0 ≤ a2 ∧ a2 ≤ 1)) = 0 from c4)]; rfl) | rfl
    · unfold w_X8_mean; first | (simp only [if_pos (show (b2i (0 ≤ a2 ∧ a2 ≤ 1)) = 0 from c4)]; done) | (simp only [if_pos (show (b2i (0 ≤ a2 ∧ a2 ≤ 1)) = 0 from c4)]; rfl) | rfl
  · rw [if_neg (show ¬ ((b2i (0 ≤ a2 ∧ a2 ≤ 1)) = 0) from c4)] at hp
    refine j_aload_n g (i := 0) (by decide +kernel) rfl ?_
    refine j_iload_n g (i := 1) (by decide +kernel) rfl ?_
    obtain ⟨h0, hp⟩ := hp
    refine j_cV1r g v8_323 ⟨rfl, by decide⟩ (by decide +kernel) (by decide +kernel) (Nat.le_of_ble_eq_true rfl) (rnX8_takesOrder h0) ?_
    refine j_goto g (off := 4) (tgt := 16) (by decide +kernel) (by decide) ?_
    refine j_istore_n g (i := 3) (by decide +kernel) (by decide) ?_
    dsimp only [stL, clL, hdL]
    refine j_iload_n g (i := 3) (by decide +kernel) rfl ?_
    refine j_if_eq g (off := 6) (tgt := 24) (by decide +kernel) (by decide) (fun c18 => ?_) (fun c18 => ?_)
    · rw [if_pos (show (r_X8_takesOrder M a1) = 0 from c18)] at hp
      refine j_aload_n g (i := 0) (by decide +kernel) rfl ?_
      refine j_iconst g (n := 0) (0) (by decide +kernel) rfl ?_
      obtain ⟨h0, hp⟩ := hp
      refine j_cV1v g v8_364 ⟨rfl, by decide⟩ (by decide +kernel) (by decide +kernel) (Nat.le_of_ble_eq_true rfl) (rnX8_called h0) ?_
      refine j_iload_n g (i := 2) (by decide +kernel) rfl ?_
      refine j_if_ne g (off := 10) (tgt := 40) (by decide +kernel) (by decide) (fun c30 => ?_) (fun c30 => ?_)
      · rw [if_pos (show ¬ a2 = 0 from c30)] at hp
        refine j_aload_n g (i := 0) (by decide +kernel) rfl ?_
        refine j_gJ g f8_357 (by decide +kernel) (by decide +kernel) (by decide +kernel) ?_
        refine hr.2.1 _ _ _ _ (by decide +kernel) rfl ?_ ?_
        · unfold r_X8_mean; first | (simp only [if_neg (show ¬ ((b2i (0 ≤ a2 ∧ a2 ≤ 1)) = 0) from c4), if_pos (show (r_X8_takesOrder M a1) = 0 from c18), if_pos (show ¬ a2 = 0 from c30)]; done) | (simp only [if_neg (show ¬ ((b2i (0 ≤ a2 ∧ a2 ≤ 1)) = 0) from c4), if_pos (show (r_X8_takesOrder M a1) = 0 from c18), if_pos (show ¬ a2 = 0 from c30)]; rfl) | rfl
        · unfold w_X8_mean; first | (simp only [if_neg (show ¬ ((b2i (0 ≤ a2 ∧ a2 ≤ 1)) = 0) from c4), if_pos (show (r_X8_takesOrder M a1) = 0 from c18), if_pos (show ¬ a2 = 0 from c30)]; done) | (simp only [if_neg (show ¬ ((b2i (0 ≤ a2 ∧ a2 ≤ 1)) = 0) from c4), if_pos (show (r_X8_takesOrder M a1) = 0 from c18), if_pos (show ¬ a2 = 0 from c30)]; rfl) | rfl
      · rw [if_neg (show ¬ (¬ a2 = 0) from c30)] at hp
        refine j_aload_n g (i := 0) (by decide +kernel) rfl ?_
        refine j_gJ g f8_354 (by decide +kernel) (by decide +kernel) (by decide +kernel) ?_
        refine j_goto g (off := 7) (tgt := 44) (by decide +kernel) (by decide) ?_
        refine hr.2.1 _ _ _ _ (by decide +kernel) rfl ?_ ?_
        · unfold r_X8_mean; first | (simp only [if_neg (show ¬ ((b2i (0 ≤ a2 ∧ a2 ≤ 1)) = 0) from c4), if_pos (show (r_X8_takesOrder M a1) = 0 from c18), if_neg (show ¬ (¬ a2 = 0) from c30)]; done) | (simp only [if_neg (show ¬ ((b2i (0 ≤ a2 ∧ a2 ≤ 1)) = 0) from c4), if_pos (show (r_X8_takesOrder M a1) = 0 from c18), if_neg (show ¬ (¬ a2 = 0) from c30)]; rfl) | rfl
        · unfold w_X8_mean; first | (simp only [if_neg (show ¬ ((b2i (0 ≤ a2 ∧ a2 ≤ 1)) = 0) from c4), if_pos (show (r_X8_takesOrder M a1) = 0 from c18), if_neg (show ¬ (¬ a2 = 0) from c30)]; done) | (simp only [if_neg (show ¬ ((b2i (0 ≤ a2 ∧ a2 ≤ 1)) = 0) from c4), if_pos (show (r_X8_takesOrder M a1) = 0 from c18), if_neg (show ¬ (¬ a2 = 0) from c30)]; rfl) | rfl
    · rw [if_neg (show ¬ ((r_X8_takesOrder M a1) = 0) from c18)] at hp
      refine j_iload_n g (i := 3) (by decide +kernel) rfl ?_
      refine j_i2l g (by decide +kernel) ?_
      refine hr.2.1 _ _ _ _ (by decide +kernel) rfl ?_ ?_
      · unfold r_X8_mean; first | (simp only [if_neg (show ¬ ((b2i (0 ≤ a2 ∧ a2 ≤ 1)) = 0) from c4), if_neg (show ¬ ((r_X8_takesOrder M a1) = 0) from c18)]; done) | (simp only [if_neg (show ¬ ((b2i (0 ≤ a2 ∧ a2 ≤ 1)) = 0) from c4), if_neg (show ¬ ((r_X8_takesOrder M a1) = 0) from c18)]; rfl) | rfl
      · unfold w_X8_mean; first | (simp only [if_neg (show ¬ ((b2i (0 ≤ a2 ∧ a2 ≤ 1)) = 0) from c4), if_neg (show ¬ ((r_X8_takesOrder M a1) = 0) from c18)]; done) | (simp only [if_neg (show ¬ ((b2i (0 ≤ a2 ∧ a2 ≤ 1)) = 0) from c4), if_neg (show ¬ ((r_X8_takesOrder M a1) = 0) from c18)]; rfl) | rfl
noncomputable def r_X8_sure (M : Mm) (a1 : Int32) (a2 : Int32) : Int64 := if (b2i (0 ≤ a2 ∧ a2 ≤ 1)) = 0 then Int32.toInt64 (-1) else if (r_X8_takesOrder M a1) = 0 then (if ¬ a2 = 0 then (w_X8_called (w_X8_takesOrder M a1) (1 : Int32)).2 600 39 else (w_X8_called (w_X8_takesOrder M a1) (1 : Int32)).2 600 38) else Int32.toInt64 (r_X8_takesOrder M a1)
noncomputable def w_X8_sure (M : Mm) (a1 : Int32) (a2 : Int32) : Mm := if (b2i (0 ≤ a2 ∧ a2 ≤ 1)) = 0 then M else if (r_X8_takesOrder M a1) = 0 then (w_X8_called (w_X8_takesOrder M a1) (1 : Int32)) else (w_X8_takesOrder M a1)
def p_X8_sure (M : Mm) (a1 : Int32) (a2 : Int32) : Prop := (if (b2i (0 ≤ a2 ∧ a2 ≤ 1)) = 0 then True else (p_X8_takesOrder M a1) ∧ (if (r_X8_takesOrder M a1) = 0 then (p_X8_called (w_X8_takesOrder M a1) (1 : Int32)) ∧ (if ¬ a2 = 0 then True else True) else True))
set_option maxRecDepth 20000 in
theorem rnX8_sure {d : Nat} {M : Mm} {a1 : Int32} {a2 : Int32}  (hp : p_X8_sure M a1 a2) : Rn (d + 8) mX8_sure [.ref 600, .int a1, .int a2] M (some (.long (r_X8_sure M a1 a2))) (w_X8_sure M a1 a2) := by
  refine Rn.of [some (.ref 600), some (.int a1), some (.int a2), none] (by decide +kernel) rfl (Nat.le_of_ble_eq_true rfl) rfl (fun J g hr => ?_)
  unfold p_X8_sure at hp
  refine j_iload_n g (i := 2) (by decide +kernel) rfl ?_
  refine j_cS1r g s8_344 (by decide +kernel) (Nat.le_of_ble_eq_true rfl) (rnX8_isSide) ?_
  refine j_if_eq g (off := 11) (tgt := 15) (by decide +kernel) (by decide) (fun c4 => ?_) (fun c4 => ?_)
  · rw [if_pos (show (b2i (0 ≤ a2 ∧ a2 ≤ 1)) = 0 from c4)] at hp
    refine j_iconst g (n := -1) (-1) (by decide +kernel) rfl ?_
    refine j_istore_n g (i := 3) (by decide +kernel) (by decide) ?_
    dsimp only [stL, clL, hdL]
    refine j_iload_n g (i := 3) (by decide +kernel) rfl ?_
    refine j_if_eq g (off := 6) (tgt := 24) (by decide +kernel) (by decide) (fun c => absurd c (by first | decide | (intro h; exact h rfl))) (fun _ => ?_)
    refine j_iload_n g (i := 3) (by decide +kernel) rfl ?_
    refine j_i2l g (by decide +kernel) ?_
    refine hr.2.1 _ _ _ _ (by decide +kernel) rfl ?_ ?_
    · unfold r_X8_sure; first | (simp only [if_pos (show (b2i (0 ≤ a2 ∧ a2 ≤ 1)) = 0 from c4)]; done) | (simp only [if_pos (show (b2i (0 ≤ a2 ∧ a2 ≤ 1)) = 0 from c4)]; rfl) | rfl
    · unfold w_X8_sure; first | (simp only [if_pos (show (b2i (0 ≤ a2 ∧ a2 ≤ 1)) = 0 from c4)]; done) | (simp only [if_pos (show (b2i (0 ≤ a2 ∧ a2 ≤ 1)) = 0 from c4)]; rfl) | rfl
  · rw [if_neg (show ¬ ((b2i (0 ≤ a2 ∧ a2 ≤ 1)) = 0) from c4)] at hp
    refine j_aload_n g (i := 0) (by decide +kernel) rfl ?_
    refine j_iload_n g (i := 1) (by decide +kernel) rfl ?_
    obtain ⟨h0, hp⟩ := hp
    refine j_cV1r g v8_323 ⟨rfl, by decide⟩ (by decide +kernel) (by decide +kernel) (Nat.le_of_ble_eq_true rfl) (rnX8_takesOrder h0) ?_
    refine j_goto g (off := 4) (tgt := 16) (by decide +kernel) (by decide) ?_
    refine j_istore_n g (i := 3) (by decide +kernel) (by decide) ?_
    dsimp only [stL, clL, hdL]
    refine j_iload_n g (i := 3) (by decide +kernel) rfl ?_
    refine j_if_eq g (off := 6) (tgt := 24) (by decide +kernel) (by decide) (fun c18 => ?_) (fun c18 => ?_)
    · rw [if_pos (show (r_X8_takesOrder M a1) = 0 from c18)] at hp
      refine j_aload_n g (i := 0) (by decide +kernel) rfl ?_
      refine j_iconst g (n := 1) (1) (by decide +kernel) rfl ?_
      obtain ⟨h0, hp⟩ := hp
      refine j_cV1v g v8_364 ⟨rfl, by decide⟩ (by decide +kernel) (by decide +kernel) (Nat.le_of_ble_eq_true rfl) (rnX8_called h0) ?_
      refine j_iload_n g (i := 2) (by decide +kernel) rfl ?_
      refine j_if_ne g (off := 10) (tgt := 40) (by decide +kernel) (by decide) (fun c30 => ?_) (fun c30 => ?_)
      · rw [if_pos (show ¬ a2 = 0 from c30)] at hp
        refine j_aload_n g (i := 0) (by decide +kernel) rfl ?_
        refine j_gJ g f8_357 (by decide +kernel) (by decide +kernel) (by decide +kernel) ?_
        refine hr.2.1 _ _ _ _ (by decide +kernel) rfl ?_ ?_
        · unfold r_X8_sure; first | (simp only [if_neg (show ¬ ((b2i (0 ≤ a2 ∧ a2 ≤ 1)) = 0) from c4), if_pos (show (r_X8_takesOrder M a1) = 0 from c18), if_pos (show ¬ a2 = 0 from c30)]; done) | (simp only [if_neg (show ¬ ((b2i (0 ≤ a2 ∧ a2 ≤ 1)) = 0) from c4), if_pos (show (r_X8_takesOrder M a1) = 0 from c18), if_pos (show ¬ a2 = 0 from c30)]; rfl) | rfl
        · unfold w_X8_sure; first | (simp only [if_neg (show ¬ ((b2i (0 ≤ a2 ∧ a2 ≤ 1)) = 0) from c4), if_pos (show (r_X8_takesOrder M a1) = 0 from c18), if_pos (show ¬ a2 = 0 from c30)]; done) | (simp only [if_neg (show ¬ ((b2i (0 ≤ a2 ∧ a2 ≤ 1)) = 0) from c4), if_pos (show (r_X8_takesOrder M a1) = 0 from c18), if_pos (show ¬ a2 = 0 from c30)]; rfl) | rfl
      · rw [if_neg (show ¬ (¬ a2 = 0) from c30)] at hp
        refine j_aload_n g (i := 0) (by decide +kernel) rfl ?_
        refine j_gJ g f8_354 (by decide +kernel) (by decide +kernel) (by decide +kernel) ?_
        refine j_goto g (off := 7) (tgt := 44) (by decide +kernel) (by decide) ?_
        refine hr.2.1 _ _ _ _ (by decide +kernel) rfl ?_ ?_
        · unfold r_X8_sure; first | (simp only [if_neg (show ¬ ((b2i (0 ≤ a2 ∧ a2 ≤ 1)) = 0) from c4), if_pos (show (r_X8_takesOrder M a1) = 0 from c18), if_neg (show ¬ (¬ a2 = 0) from c30)]; done) | (simp only [if_neg (show ¬ ((b2i (0 ≤ a2 ∧ a2 ≤ 1)) = 0) from c4), if_pos (show (r_X8_takesOrder M a1) = 0 from c18), if_neg (show ¬ (¬ a2 = 0) from c30)]; rfl) | rfl
        · unfold w_X8_sure; first | (simp only [if_neg (show ¬ ((b2i (0 ≤ a2 ∧ a2 ≤ 1)) = 0) from c4), if_pos (show (r_X8_takesOrder M a1) = 0 from c18), if_neg (show ¬ (¬ a2 = 0) from c30)]; done) | (simp only [if_neg (show ¬ ((b2i (0 ≤ a2 ∧ a2 ≤ 1)) = 0) from c4), if_pos (show (r_X8_takesOrder M a1) = 0 from c18), if_neg (show ¬ (¬ a2 = 0) from c30)]; rfl) | rfl
    · rw [if_neg (show ¬ ((r_X8_takesOrder M a1) = 0) from c18)] at hp
      refine j_iload_n g (i := 3) (by decide +kernel) rfl ?_
      refine j_i2l g (by decide +kernel) ?_
      refine hr.2.1 _ _ _ _ (by decide +kernel) rfl ?_ ?_
      · unfold r_X8_sure; first | (simp only [if_neg (show ¬ ((b2i (0 ≤ a2 ∧ a2 ≤ 1)) = 0) from c4), if_neg (show ¬ ((r_X8_takesOrder M a1) = 0) from c18)]; done) | (simp only [if_neg (show ¬ ((b2i (0 ≤ a2 ∧ a2 ≤ 1)) = 0) from c4), if_neg (show ¬ ((r_X8_takesOrder M a1) = 0) from c18)]; rfl) | rfl
      · unfold w_X8_sure; first | (simp only [if_neg (show ¬ ((b2i (0 ≤ a2 ∧ a2 ≤ 1)) = 0) from c4), if_neg (show ¬ ((r_X8_takesOrder M a1) = 0) from c18)]; done) | (simp only [if_neg (show ¬ ((b2i (0 ≤ a2 ∧ a2 ≤ 1)) = 0) from c4), if_neg (show ¬ ((r_X8_takesOrder M a1) = 0) from c18)]; rfl) | rfl
noncomputable def r_X8_best (M : Mm) (a1 : Int32) : Int32 := if ¬ (b2i (0 ≤ a1 ∧ a1 ≤ 1)) = 0 then (if ¬ a1 = 0 then r_X8_digitsOf_615 (w_X8_findBest M) (r_X8_findBest M) else (w_X8_findBest M).1 600 35) else (-1)
noncomputable def w_X8_best (M : Mm) (a1 : Int32) : Mm := if ¬ (b2i (0 ≤ a1 ∧ a1 ≤ 1)) = 0 then (w_X8_findBest M) else M
def p_X8_best (M : Mm) (a1 : Int32) : Prop := (if ¬ (b2i (0 ≤ a1 ∧ a1 ≤ 1)) = 0 then (p_X8_findBest M ) ∧ (if ¬ a1 = 0 then (p_X8_digitsOf_615 (w_X8_findBest M) (r_X8_findBest M)) ∧ True else True) else True)
set_option maxRecDepth 20000 in
theorem rnX8_best {d : Nat} {M : Mm} {a1 : Int32}  (hp : p_X8_best M a1) : Rn (d + 8) mX8_best [.ref 600, .int a1] M (some (.int (r_X8_best M a1))) (w_X8_best M a1) := by
  refine Rn.of [some (.ref 600), some (.int a1), none] (by decide +kernel) rfl (Nat.le_of_ble_eq_true rfl) rfl (fun J g hr => ?_)
  unfold p_X8_best at hp
  refine j_iload_n g (i := 1) (by decide +kernel) rfl ?_
  refine j_cS1r g s8_344 (by decide +kernel) (Nat.le_of_ble_eq_true rfl) (rnX8_isSide) ?_
  refine j_if_ne g (off := 5) (tgt := 9) (by decide +kernel) (by decide) (fun c4 => ?_) (fun c4 => ?_)
  · rw [if_pos (show ¬ (b2i (0 ≤ a1 ∧ a1 ≤ 1)) = 0 from c4)] at hp
    refine j_aload_n g (i := 0) (by decide +kernel) rfl ?_
    obtain ⟨h0, hp⟩ := hp
    refine j_cV0r g v8_347 ⟨rfl, by decide⟩ (by decide +kernel) (by decide +kernel) (Nat.le_of_ble_eq_true rfl) (rnX8_findBest h0) ?_
    refine j_istore_n g (i := 2) (by decide +kernel) (by decide) ?_
    dsimp only [stL, clL, hdL]
    refine j_iload_n g (i := 1) (by decide +kernel) rfl ?_
    refine j_if_ne g (off := 10) (tgt := 25) (by decide +kernel) (by decide) (fun c15 => ?_) (fun c15 => ?_)
    · rw [if_pos (show ¬ a1 = 0 from c15)] at hp
      refine j_aload_n g (i := 0) (by decide +kernel) rfl ?_
      refine j_gA g (b := 615) f8_52 (by decide +kernel) (by decide +kernel) (by decide +kernel) (by decide +kernel) ?_
      refine j_iload_n g (i := 2) (by decide +kernel) rfl ?_
      obtain ⟨h0, hp⟩ := hp
      refine j_cS2r g s8_350 (by decide +kernel) (Nat.le_of_ble_eq_true rfl) (rnX8_digitsOf_615 h0) ?_
      refine hr.1 _ _ _ _ (by decide +kernel) ⟨_, rfl, by first | rfl | exact b2i_nar | decide +kernel⟩ ?_ ?_
      · unfold r_X8_best; first | (simp only [if_pos (show ¬ (b2i (0 ≤ a1 ∧ a1 ≤ 1)) = 0 from c4), if_pos (show ¬ a1 = 0 from c15)]; done) | (simp only [if_pos (show ¬ (b2i (0 ≤ a1 ∧ a1 ≤ 1)) = 0 from c4), if_pos (show ¬ a1 = 0 from c15)]; rfl) | rfl
      · unfold w_X8_best; first | (simp only [if_pos (show ¬ (b2i (0 ≤ a1 ∧ a1 ≤ 1)) = 0 from c4), if_pos (show ¬ a1 = 0 from c15)]; done) | (simp only [if_pos (show ¬ (b2i (0 ≤ a1 ∧ a1 ≤ 1)) = 0 from c4), if_pos (show ¬ a1 = 0 from c15)]; rfl) | rfl
    · rw [if_neg (show ¬ (¬ a1 = 0) from c15)] at hp
      refine j_aload_n g (i := 0) (by decide +kernel) rfl ?_
      refine j_gI g f8_332 (by decide +kernel) (by decide +kernel) (by decide +kernel) ?_
      refine j_goto g (off := 11) (tgt := 33) (by decide +kernel) (by decide) ?_
      refine hr.1 _ _ _ _ (by decide +kernel) ⟨_, rfl, by first | rfl | exact b2i_nar | decide +kernel⟩ ?_ ?_
      · unfold r_X8_best; first | (simp only [if_pos (show ¬ (b2i (0 ≤ a1 ∧ a1 ≤ 1)) = 0 from c4), if_neg (show ¬ (¬ a1 = 0) from c15)]; done) | (simp only [if_pos (show ¬ (b2i (0 ≤ a1 ∧ a1 ≤ 1)) = 0 from c4), if_neg (show ¬ (¬ a1 = 0) from c15)]; rfl) | rfl
      · unfold w_X8_best; first | (simp only [if_pos (show ¬ (b2i (0 ≤ a1 ∧ a1 ≤ 1)) = 0 from c4), if_neg (show ¬ (¬ a1 = 0) from c15)]; done) | (simp only [if_pos (show ¬ (b2i (0 ≤ a1 ∧ a1 ≤ 1)) = 0 from c4), if_neg (show ¬ (¬ a1 = 0) from c15)]; rfl) | rfl
  · rw [if_neg (show ¬ (¬ (b2i (0 ≤ a1 ∧ a1 ≤ 1)) = 0) from c4)] at hp
    refine j_iconst g (n := -1) (-1) (by decide +kernel) rfl ?_
    refine hr.1 _ _ _ _ (by decide +kernel) ⟨_, rfl, by first | rfl | exact b2i_nar | decide +kernel⟩ ?_ ?_
    · unfold r_X8_best; first | (simp only [if_neg (show ¬ (¬ (b2i (0 ≤ a1 ∧ a1 ≤ 1)) = 0) from c4)]; done) | (simp only [if_neg (show ¬ (¬ (b2i (0 ≤ a1 ∧ a1 ≤ 1)) = 0) from c4)]; rfl) | rfl
    · unfold w_X8_best; first | (simp only [if_neg (show ¬ (¬ (b2i (0 ≤ a1 ∧ a1 ≤ 1)) = 0) from c4)]; done) | (simp only [if_neg (show ¬ (¬ (b2i (0 ≤ a1 ∧ a1 ≤ 1)) = 0) from c4)]; rfl) | rfl
noncomputable def r_X8_fewest (M : Mm)  : Int32 := (w_X8_findBest M).1 600 36
noncomputable def w_X8_fewest (M : Mm)  : Mm := (w_X8_findBest M)
def p_X8_fewest (M : Mm)  : Prop := (p_X8_findBest M ) ∧ True
set_option maxRecDepth 20000 in
theorem rnX8_fewest {d : Nat} {M : Mm}   (hp : p_X8_fewest M ) : Rn (d + 8) mX8_fewest [.ref 600] M (some (.int (r_X8_fewest M ))) (w_X8_fewest M ) := by
  refine Rn.of [some (.ref 600)] (by decide +kernel) rfl (Nat.le_of_ble_eq_true rfl) rfl (fun J g hr => ?_)
  unfold p_X8_fewest at hp
  refine j_aload_n g (i := 0) (by decide +kernel) rfl ?_
  obtain ⟨h0, hp⟩ := hp
  refine j_cV0r g v8_347 ⟨rfl, by decide⟩ (by decide +kernel) (by decide +kernel) (Nat.le_of_ble_eq_true rfl) (rnX8_findBest h0) ?_
  refine j_pop g (by decide +kernel) rfl ?_
  refine j_aload_n g (i := 0) (by decide +kernel) rfl ?_
  refine j_gI g f8_335 (by decide +kernel) (by decide +kernel) (by decide +kernel) ?_
  refine hr.1 _ _ _ _ (by decide +kernel) ⟨_, rfl, by first | rfl | exact b2i_nar | decide +kernel⟩ ?_ ?_
  · unfold r_X8_fewest; rfl
  · unfold w_X8_fewest; rfl
noncomputable def r_X8_shortest (M : Mm)  : Int32 := (w_X8_findBest M).1 600 37
noncomputable def w_X8_shortest (M : Mm)  : Mm := (w_X8_findBest M)
def p_X8_shortest (M : Mm)  : Prop := (p_X8_findBest M ) ∧ True
set_option maxRecDepth 20000 in
theorem rnX8_shortest {d : Nat} {M : Mm}   (hp : p_X8_shortest M ) : Rn (d + 8) mX8_shortest [.ref 600] M (some (.int (r_X8_shortest M ))) (w_X8_shortest M ) := by
  refine Rn.of [some (.ref 600)] (by decide +kernel) rfl (Nat.le_of_ble_eq_true rfl) rfl (fun J g hr => ?_)
  unfold p_X8_shortest at hp
  refine j_aload_n g (i := 0) (by decide +kernel) rfl ?_
  obtain ⟨h0, hp⟩ := hp
  refine j_cV0r g v8_347 ⟨rfl, by decide⟩ (by decide +kernel) (by decide +kernel) (Nat.le_of_ble_eq_true rfl) (rnX8_findBest h0) ?_
  refine j_pop g (by decide +kernel) rfl ?_
  refine j_aload_n g (i := 0) (by decide +kernel) rfl ?_
  refine j_gI g f8_338 (by decide +kernel) (by decide +kernel) (by decide +kernel) ?_
  refine hr.1 _ _ _ _ (by decide +kernel) ⟨_, rfl, by first | rfl | exact b2i_nar | decide +kernel⟩ ?_ ?_
  · unfold r_X8_shortest; rfl
  · unfold w_X8_shortest; rfl
def c_X8_moveRow_628_3 (a2 : Int32) (a3 : Int32) (σ : Mm × Int32) : Prop := if a2 ≤ σ.2 then False else True
theorem ci_X8_moveRow_628_3 {a2 : Int32} {a3 : Int32}  {σ : Mm × Int32} : c_X8_moveRow_628_3 a2 a3 σ ↔ (if a2 ≤ σ.2 then False else True) := Iff.rfl
noncomputable def s_X8_moveRow_628_3 (a2 : Int32) (a3 : Int32) (σ : Mm × Int32) : Mm × Int32 := if a2 ≤ σ.2 then σ else if a3 = 0 then ((wi (wi σ.1 628 (Int32.toNatClampNeg σ.2) (σ.1.1 627 (Int32.toNatClampNeg (σ.1.1 600 57)))) 600 57 ((σ.1.1 600 57) + 1)), σ.2 + 1) else ((wi (wi σ.1 627 (Int32.toNatClampNeg (σ.1.1 600 57)) (σ.1.1 628 (Int32.toNatClampNeg σ.2))) 600 57 ((σ.1.1 600 57) + 1)), σ.2 + 1)
def q_X8_moveRow_628_3 (a2 : Int32) (a3 : Int32) (σ : Mm × Int32) : Prop := (if a2 ≤ σ.2 then True else (if a3 = 0 then (vp_in (σ.1.1 600 57) 110) ∧ (vp_in σ.2 5) ∧ True else (vp_in σ.2 5) ∧ (vp_in (σ.1.1 600 57) 110) ∧ True))
noncomputable def l_X8_moveRow_628_3 (a2 : Int32) (a3 : Int32) (σ0 : Mm × Int32) : Nat → Mm × Int32 := itN (fun _ σ => s_X8_moveRow_628_3 a2 a3 σ) σ0
theorem ps_X8_moveRow_628_3 {d : Nat} {J : Nat → Lc → List Value → Mm → Prop} {a2 : Int32} {a3 : Int32}  {σ : Mm × Int32}  (g : Good mX8_moveRow.1 mX8_moveRow.2.2.1 mX8_moveRow.2.2.2.1 (d + 0) J) (hc : c_X8_moveRow_628_3 a2 a3 σ) (hp : q_X8_moveRow_628_3 a2 a3 σ) (k : J 3 [some (.ref 600), some (.ref 628), some (.int a2), some (.int a3), some (.int ((s_X8_moveRow_628_3 a2 a3 σ).2))] [] ((s_X8_moveRow_628_3 a2 a3 σ).1)) : J 3 [some (.ref 600), some (.ref 628), some (.int a2), some (.int a3), some (.int σ.2)] [] σ.1 := by
  unfold c_X8_moveRow_628_3 at hc
  unfold q_X8_moveRow_628_3 at hp
  unfold s_X8_moveRow_628_3 at k
  refine j_iload g (i := 4) (by decide +kernel) rfl ?_
  refine j_iload_n g (i := 2) (by decide +kernel) rfl ?_
  refine j_icmp_ge g (off := 52) (tgt := 58) (by decide +kernel) (by decide) (fun c6 => ?_) (fun c6 => ?_)
  · (try rw [if_pos (show a2 ≤ σ.2 from c6)] at hc); (rw [if_pos (show a2 ≤ σ.2 from c6)] at hp); (try simp only [if_pos (show a2 ≤ σ.2 from c6)] at k)
    exact hc.elim
  · (try rw [if_neg (show ¬ (a2 ≤ σ.2) from c6)] at hc); (rw [if_neg (show ¬ (a2 ≤ σ.2) from c6)] at hp); (try simp only [if_neg (show ¬ (a2 ≤ σ.2) from c6)] at k)
    refine j_iload_n g (i := 3) (by decide +kernel) rfl ?_
    refine j_if_eq g (off := 19) (tgt := 29) (by decide +kernel) (by decide) (fun c10 => ?_) (fun c10 => ?_)
    · (try rw [if_pos (show a3 = 0 from c10)] at hc); (rw [if_pos (show a3 = 0 from c10)] at hp); (try simp only [if_pos (show a3 = 0 from c10)] at k)
      refine j_aload_n g (i := 1) (by decide +kernel) rfl ?_
      refine j_iload g (i := 4) (by decide +kernel) rfl ?_
      refine j_aload_n g (i := 0) (by decide +kernel) rfl ?_
      refine j_gA g (b := 627) f8_89 (by decide +kernel) (by decide +kernel) (by decide +kernel) (by decide +kernel) ?_
      refine j_aload_n g (i := 0) (by decide +kernel) rfl ?_
      refine j_gI g f8_463 (by decide +kernel) (by decide +kernel) (by decide +kernel) ?_
      obtain ⟨h0, hp⟩ := hp
      refine j_ia g 110 (by decide +kernel) (by decide +kernel) (by decide +kernel) h0 ?_
      obtain ⟨h0, hp⟩ := hp
      refine j_is g 5 (by decide +kernel) (by decide +kernel) (by decide +kernel) h0 ?_
      refine j_aload_n g (i := 0) (by decide +kernel) rfl ?_
      refine j_dup g (by decide +kernel) rfl ?_
      refine j_gI g f8_463 (by decide +kernel) (by decide +kernel) (by decide +kernel) ?_
      refine j_iconst g (n := 1) (1) (by decide +kernel) rfl ?_
      refine j_iadd g (by decide +kernel) ?_
      refine j_pI g f8_463 (fun q h => by cases h; rfl) (by decide +kernel) (by decide +kernel) (by decide +kernel) ?_
      refine j_iinc g (i := 4) (n := 1) (1) (by decide +kernel) rfl (by decide) rfl ?_
      dsimp only [stL, clL, hdL]
      refine j_goto g (off := -52) (tgt := 3) (by decide +kernel) (by decide) ?_
      exact k 
    · (try rw [if_neg (show ¬ (a3 = 0) from c10)] at hc); (rw [if_neg (show ¬ (a3 = 0) from c10)] at hp); (try simp only [if_neg (show ¬ (a3 = 0) from c10)] at k)
      refine j_aload_n g (i := 0) (by decide +kernel) rfl ?_
      refine j_gA g (b := 627) f8_89 (by decide +kernel) (by decide +kernel) (by decide +kernel) (by decide +kernel) ?_
      refine j_aload_n g (i := 0) (by decide +kernel) rfl ?_
      refine j_gI g f8_463 (by decide +kernel) (by decide +kernel) (by decide +kernel) ?_
      refine j_aload_n g (i := 1) (by decide +kernel) rfl ?_
      refine j_iload g (i := 4) (by decide +kernel) rfl ?_
      obtain ⟨h0, hp⟩ := hp
      refine j_ia g 5 (by decide +kernel) (by decide +kernel) (by decide +kernel) h0 ?_
      obtain ⟨h0, hp⟩ := hp
      refine j_is g 110 (by decide +kernel) (by decide +kernel) (by decide +kernel) h0 ?_
      refine j_goto g (off := 16) (tgt := 42) (by decide +kernel) (by decide) ?_
      refine j_aload_n g (i := 0) (by decide +kernel) rfl ?_
      refine j_dup g (by decide +kernel) rfl ?_
      refine j_gI g f8_463 (by decide +kernel) (by decide +kernel) (by decide +kernel) ?_
      refine j_iconst g (n := 1) (1) (by decide +kernel) rfl ?_
      refine j_iadd g (by decide +kernel) ?_
      refine j_pI g f8_463 (fun q h => by cases h; rfl) (by decide +kernel) (by decide +kernel) (by decide +kernel) ?_
      refine j_iinc g (i := 4) (n := 1) (1) (by decide +kernel) rfl (by decide) rfl ?_
      dsimp only [stL, clL, hdL]
      refine j_goto g (off := -52) (tgt := 3) (by decide +kernel) (by decide) ?_
      exact k 
theorem sh_X8_moveRow_628_3 {d : Nat} {J : Nat → Lc → List Value → Mm → Prop} {a2 : Int32} {a3 : Int32}  {σ0 : Mm × Int32}  (g : Good mX8_moveRow.1 mX8_moveRow.2.2.1 mX8_moveRow.2.2.2.1 (d + 0) J) : ∀ (N : Nat), (∀ k, k < N → c_X8_moveRow_628_3 a2 a3 (l_X8_moveRow_628_3 a2 a3 σ0 k)) → (∀ k, k < N → q_X8_moveRow_628_3 a2 a3 (l_X8_moveRow_628_3 a2 a3 σ0 k)) → (J 3 [some (.ref 600), some (.ref 628), some (.int a2), some (.int a3), some (.int ((l_X8_moveRow_628_3 a2 a3 σ0 N).2))] [] ((l_X8_moveRow_628_3 a2 a3 σ0 N).1)) → J 3 [some (.ref 600), some (.ref 628), some (.int a2), some (.int a3), some (.int σ0.2)] [] σ0.1
  | 0, _, _, k => k
  | N + 1, hc, hp, k => sh_X8_moveRow_628_3  g N (fun i hi => hc i (Nat.lt_succ_of_lt hi)) (fun i hi => hp i (Nat.lt_succ_of_lt hi)) (ps_X8_moveRow_628_3  g (hc N (Nat.lt_succ_self N)) (hp N (Nat.lt_succ_self N)) k)
noncomputable def w_X8_moveRow_628 (M : Mm) (a2 : Int32) (a3 : Int32) : Mm := if a2 ≤ ((l_X8_moveRow_628_3 a2 a3 (M, 0) (Int32.toNatClampNeg (a2))).2) then (l_X8_moveRow_628_3 a2 a3 (M, 0) (Int32.toNatClampNeg (a2))).1 else M
def p_X8_moveRow_628 (M : Mm) (a2 : Int32) (a3 : Int32) : Prop := (∀ k, k < (Int32.toNatClampNeg (a2)) → c_X8_moveRow_628_3 a2 a3 (l_X8_moveRow_628_3 a2 a3 (M, 0) k)) ∧ (∀ k, k < (Int32.toNatClampNeg (a2)) → q_X8_moveRow_628_3 a2 a3 (l_X8_moveRow_628_3 a2 a3 (M, 0) k)) ∧ (¬ c_X8_moveRow_628_3 a2 a3 (l_X8_moveRow_628_3 a2 a3 (M, 0) (Int32.toNatClampNeg (a2)))) ∧ (if a2 ≤ ((l_X8_moveRow_628_3 a2 a3 (M, 0) (Int32.toNatClampNeg (a2))).2) then True else True)
set_option maxRecDepth 20000 in
theorem rnX8_moveRow_628 {d : Nat} {M : Mm} {a2 : Int32} {a3 : Int32}  (hp : p_X8_moveRow_628 M a2 a3) : Rn (d + 0) mX8_moveRow [.ref 600, .ref 628, .int a2, .int a3] M none (w_X8_moveRow_628 M a2 a3) := by
  refine Rn.of [some (.ref 600), some (.ref 628), some (.int a2), some (.int a3), none] (by decide +kernel) rfl (Nat.le_of_ble_eq_true rfl) rfl (fun J g hr => ?_)
  unfold p_X8_moveRow_628 at hp
  refine j_iconst g (n := 0) (0) (by decide +kernel) rfl ?_
  refine j_istore g (i := 4) (by decide +kernel) (by decide) ?_
  dsimp only [stL, clL, hdL]
  obtain ⟨h0, hp⟩ := hp
  have hc_3_1 := h0
  obtain ⟨h0, hp⟩ := hp
  have hq_3_1 := h0
  obtain ⟨h0, hp⟩ := hp
  have hx_3_1 := h0
  refine sh_X8_moveRow_628_3   g (σ0 := (M, 0)) (Int32.toNatClampNeg (a2)) hc_3_1 hq_3_1 ?_ 
  refine j_iload g (i := 4) (by decide +kernel) rfl ?_
  refine j_iload_n g (i := 2) (by decide +kernel) rfl ?_
  refine j_icmp_ge g (off := 52) (tgt := 58) (by decide +kernel) (by decide) (fun c6 => ?_) (fun c6 => ?_)
  · rw [if_pos (show a2 ≤ ((l_X8_moveRow_628_3 a2 a3 (M, 0) (Int32.toNatClampNeg (a2))).2) from c6)] at hp
    refine hr.2.2.2 _ _ _ (by decide +kernel) rfl rfl ?_
    · unfold w_X8_moveRow_628; first | (simp only [if_pos (show a2 ≤ ((l_X8_moveRow_628_3 a2 a3 (M, 0) (Int32.toNatClampNeg (a2))).2) from c6)]; done) | (simp only [if_pos (show a2 ≤ ((l_X8_moveRow_628_3 a2 a3 (M, 0) (Int32.toNatClampNeg (a2))).2) from c6)]; rfl) | rfl
  · rw [if_neg (show ¬ (a2 ≤ ((l_X8_moveRow_628_3 a2 a3 (M, 0) (Int32.toNatClampNeg (a2))).2)) from c6)] at hp
    refine absurd (ci_X8_moveRow_628_3.mpr ?_) hx_3_1
    simp only [if_neg (show ¬ (a2 ≤ ((l_X8_moveRow_628_3 a2 a3 (M, 0) (Int32.toNatClampNeg (a2))).2)) from c6)]
def c_X8_moveRow_601_3 (a2 : Int32) (a3 : Int32) (σ : Mm × Int32) : Prop := if a2 ≤ σ.2 then False else True
theorem ci_X8_moveRow_601_3 {a2 : Int32} {a3 : Int32}  {σ : Mm × Int32} : c_X8_moveRow_601_3 a2 a3 σ ↔ (if a2 ≤ σ.2 then False else True) := Iff.rfl
noncomputable def s_X8_moveRow_601_3 (a2 : Int32) (a3 : Int32) (σ : Mm × Int32) : Mm × Int32 := if a2 ≤ σ.2 then σ else if a3 = 0 then ((wi (wi σ.1 601 (Int32.toNatClampNeg σ.2) (σ.1.1 627 (Int32.toNatClampNeg (σ.1.1 600 57)))) 600 57 ((σ.1.1 600 57) + 1)), σ.2 + 1) else ((wi (wi σ.1 627 (Int32.toNatClampNeg (σ.1.1 600 57)) (σ.1.1 601 (Int32.toNatClampNeg σ.2))) 600 57 ((σ.1.1 600 57) + 1)), σ.2 + 1)
def q_X8_moveRow_601_3 (a2 : Int32) (a3 : Int32) (σ : Mm × Int32) : Prop := (if a2 ≤ σ.2 then True else (if a3 = 0 then (vp_in (σ.1.1 600 57) 110) ∧ (vp_in σ.2 3) ∧ True else (vp_in σ.2 3) ∧ (vp_in (σ.1.1 600 57) 110) ∧ True))
noncomputable def l_X8_moveRow_601_3 (a2 : Int32) (a3 : Int32) (σ0 : Mm × Int32) : Nat → Mm × Int32 := itN (fun _ σ => s_X8_moveRow_601_3 a2 a3 σ) σ0
theorem ps_X8_moveRow_601_3 {d : Nat} {J : Nat → Lc → List Value → Mm → Prop} {a2 : Int32} {a3 : Int32}  {σ : Mm × Int32}  (g : Good mX8_moveRow.1 mX8_moveRow.2.2.1 mX8_moveRow.2.2.2.1 (d + 0) J) (hc : c_X8_moveRow_601_3 a2 a3 σ) (hp : q_X8_moveRow_601_3 a2 a3 σ) (k : J 3 [some (.ref 600), some (.ref 601), some (.int a2), some (.int a3), some (.int ((s_X8_moveRow_601_3 a2 a3 σ).2))] [] ((s_X8_moveRow_601_3 a2 a3 σ).1)) : J 3 [some (.ref 600), some (.ref 601), some (.int a2), some (.int a3), some (.int σ.2)] [] σ.1 := by
  unfold c_X8_moveRow_601_3 at hc
  unfold q_X8_moveRow_601_3 at hp
  unfold s_X8_moveRow_601_3 at k
  refine j_iload g (i := 4) (by decide +kernel) rfl ?_
  refine j_iload_n g (i := 2) (by decide +kernel) rfl ?_
  refine j_icmp_ge g (off := 52) (tgt := 58) (by decide +kernel) (by decide) (fun c6 => ?_) (fun c6 => ?_)
  · (try rw [if_pos (show a2 ≤ σ.2 from c6)] at hc); (rw [if_pos (show a2 ≤ σ.2 from c6)] at hp); (try simp only [if_pos (show a2 ≤ σ.2 from c6)] at k)
    exact hc.elim
  · (try rw [if_neg (show ¬ (a2 ≤ σ.2) from c6)] at hc); (rw [if_neg (show ¬ (a2 ≤ σ.2) from c6)] at hp); (try simp only [if_neg (show ¬ (a2 ≤ σ.2) from c6)] at k)
    refine j_iload_n g (i := 3) (by decide +kernel) rfl ?_
    refine j_if_eq g (off := 19) (tgt := 29) (by decide +kernel) (by decide) (fun c10 => ?_) (fun c10 => ?_)
    · (try rw [if_pos (show a3 = 0 from c10)] at hc); (rw [if_pos (show a3 = 0 from c10)] at hp); (try simp only [if_pos (show a3 = 0 from c10)] at k)
      refine j_aload_n g (i := 1) (by decide +kernel) rfl ?_
      refine j_iload g (i := 4) (by decide +kernel) rfl ?_
      refine j_aload_n g (i := 0) (by decide +kernel) rfl ?_
      refine j_gA g (b := 627) f8_89 (by decide +kernel) (by decide +kernel) (by decide +kernel) (by decide +kernel) ?_
      refine j_aload_n g (i := 0) (by decide +kernel) rfl ?_
      refine j_gI g f8_463 (by decide +kernel) (by decide +kernel) (by decide +kernel) ?_
      obtain ⟨h0, hp⟩ := hp
      refine j_ia g 110 (by decide +kernel) (by decide +kernel) (by decide +kernel) h0 ?_
      obtain ⟨h0, hp⟩ := hp
      refine j_is g 3 (by decide +kernel) (by decide +kernel) (by decide +kernel) h0 ?_
      refine j_aload_n g (i := 0) (by decide +kernel) rfl ?_
      refine j_dup g (by decide +kernel) rfl ?_
      refine j_gI g f8_463 (by decide +kernel) (by decide +kernel) (by decide +kernel) ?_
      refine j_iconst g (n := 1) (1) (by decide +kernel) rfl ?_
      refine j_iadd g (by decide +kernel) ?_
      refine j_pI g f8_463 (fun q h => by cases h; rfl) (by decide +kernel) (by decide +kernel) (by decide +kernel) ?_
      refine j_iinc g (i := 4) (n := 1) (1) (by decide +kernel) rfl (by decide) rfl ?_
      dsimp only [stL, clL, hdL]
      refine j_goto g (off := -52) (tgt := 3) (by decide +kernel) (by decide) ?_
      exact k 
    · (try rw [if_neg (show ¬ (a3 = 0) from c10)] at hc); (rw [if_neg (show ¬ (a3 = 0) from c10)] at hp); (try simp only [if_neg (show ¬ (a3 = 0) from c10)] at k)
      refine j_aload_n g (i := 0) (by decide +kernel) rfl ?_
      refine j_gA g (b := 627) f8_89 (by decide +kernel) (by decide +kernel) (by decide +kernel) (by decide +kernel) ?_
      refine j_aload_n g (i := 0) (by decide +kernel) rfl ?_
      refine j_gI g f8_463 (by decide +kernel) (by decide +kernel) (by decide +kernel) ?_
      refine j_aload_n g (i := 1) (by decide +kernel) rfl ?_
      refine j_iload g (i := 4) (by decide +kernel) rfl ?_
      obtain ⟨h0, hp⟩ := hp
      refine j_ia g 3 (by decide +kernel) (by decide +kernel) (by decide +kernel) h0 ?_
      obtain ⟨h0, hp⟩ := hp
      refine j_is g 110 (by decide +kernel) (by decide +kernel) (by decide +kernel) h0 ?_
      refine j_goto g (off := 16) (tgt := 42) (by decide +kernel) (by decide) ?_
      refine j_aload_n g (i := 0) (by decide +kernel) rfl ?_
      refine j_dup g (by decide +kernel) rfl ?_
      refine j_gI g f8_463 (by decide +kernel) (by decide +kernel) (by decide +kernel) ?_
      refine j_iconst g (n := 1) (1) (by decide +kernel) rfl ?_
      refine j_iadd g (by decide +kernel) ?_
      refine j_pI g f8_463 (fun q h => by cases h; rfl) (by decide +kernel) (by decide +kernel) (by decide +kernel) ?_
      refine j_iinc g (i := 4) (n := 1) (1) (by decide +kernel) rfl (by decide) rfl ?_
      dsimp only [stL, clL, hdL]
      refine j_goto g (off := -52) (tgt := 3) (by decide +kernel) (by decide) ?_
      exact k 
theorem sh_X8_moveRow_601_3 {d : Nat} {J : Nat → Lc → List Value → Mm → Prop} {a2 : Int32} {a3 : Int32}  {σ0 : Mm × Int32}  (g : Good mX8_moveRow.1 mX8_moveRow.2.2.1 mX8_moveRow.2.2.2.1 (d + 0) J) : ∀ (N : Nat), (∀ k, k < N → c_X8_moveRow_601_3 a2 a3 (l_X8_moveRow_601_3 a2 a3 σ0 k)) → (∀ k, k < N → q_X8_moveRow_601_3 a2 a3 (l_X8_moveRow_601_3 a2 a3 σ0 k)) → (J 3 [some (.ref 600), some (.ref 601), some (.int a2), some (.int a3), some (.int ((l_X8_moveRow_601_3 a2 a3 σ0 N).2))] [] ((l_X8_moveRow_601_3 a2 a3 σ0 N).1)) → J 3 [some (.ref 600), some (.ref 601), some (.int a2), some (.int a3), some (.int σ0.2)] [] σ0.1
  | 0, _, _, k => k
  | N + 1, hc, hp, k => sh_X8_moveRow_601_3  g N (fun i hi => hc i (Nat.lt_succ_of_lt hi)) (fun i hi => hp i (Nat.lt_succ_of_lt hi)) (ps_X8_moveRow_601_3  g (hc N (Nat.lt_succ_self N)) (hp N (Nat.lt_succ_self N)) k)
noncomputable def w_X8_moveRow_601 (M : Mm) (a2 : Int32) (a3 : Int32) : Mm := if a2 ≤ ((l_X8_moveRow_601_3 a2 a3 (M, 0) (Int32.toNatClampNeg (a2))).2) then (l_X8_moveRow_601_3 a2 a3 (M, 0) (Int32.toNatClampNeg (a2))).1 else M
def p_X8_moveRow_601 (M : Mm) (a2 : Int32) (a3 : Int32) : Prop := (∀ k, k < (Int32.toNatClampNeg (a2)) → c_X8_moveRow_601_3 a2 a3 (l_X8_moveRow_601_3 a2 a3 (M, 0) k)) ∧ (∀ k, k < (Int32.toNatClampNeg (a2)) → q_X8_moveRow_601_3 a2 a3 (l_X8_moveRow_601_3 a2 a3 (M, 0) k)) ∧ (¬ c_X8_moveRow_601_3 a2 a3 (l_X8_moveRow_601_3 a2 a3 (M, 0) (Int32.toNatClampNeg (a2)))) ∧ (if a2 ≤ ((l_X8_moveRow_601_3 a2 a3 (M, 0) (Int32.toNatClampNeg (a2))).2) then True else True)
set_option maxRecDepth 20000 in
theorem rnX8_moveRow_601 {d : Nat} {M : Mm} {a2 : Int32} {a3 : Int32}  (hp : p_X8_moveRow_601 M a2 a3) : Rn (d + 0) mX8_moveRow [.ref 600, .ref 601, .int a2, .int a3] M none (w_X8_moveRow_601 M a2 a3) := by
  refine Rn.of [some (.ref 600), some (.ref 601), some (.int a2), some (.int a3), none] (by decide +kernel) rfl (Nat.le_of_ble_eq_true rfl) rfl (fun J g hr => ?_)
  unfold p_X8_moveRow_601 at hp
  refine j_iconst g (n := 0) (0) (by decide +kernel) rfl ?_
  refine j_istore g (i := 4) (by decide +kernel) (by decide) ?_
  dsimp only [stL, clL, hdL]
  obtain ⟨h0, hp⟩ := hp
  have hc_3_1 := h0
  obtain ⟨h0, hp⟩ := hp
  have hq_3_1 := h0
  obtain ⟨h0, hp⟩ := hp
  have hx_3_1 := h0
  refine sh_X8_moveRow_601_3   g (σ0 := (M, 0)) (Int32.toNatClampNeg (a2)) hc_3_1 hq_3_1 ?_ 
  refine j_iload g (i := 4) (by decide +kernel) rfl ?_
  refine j_iload_n g (i := 2) (by decide +kernel) rfl ?_
  refine j_icmp_ge g (off := 52) (tgt := 58) (by decide +kernel) (by decide) (fun c6 => ?_) (fun c6 => ?_)
  · rw [if_pos (show a2 ≤ ((l_X8_moveRow_601_3 a2 a3 (M, 0) (Int32.toNatClampNeg (a2))).2) from c6)] at hp
    refine hr.2.2.2 _ _ _ (by decide +kernel) rfl rfl ?_
    · unfold w_X8_moveRow_601; first | (simp only [if_pos (show a2 ≤ ((l_X8_moveRow_601_3 a2 a3 (M, 0) (Int32.toNatClampNeg (a2))).2) from c6)]; done) | (simp only [if_pos (show a2 ≤ ((l_X8_moveRow_601_3 a2 a3 (M, 0) (Int32.toNatClampNeg (a2))).2) from c6)]; rfl) | rfl
  · rw [if_neg (show ¬ (a2 ≤ ((l_X8_moveRow_601_3 a2 a3 (M, 0) (Int32.toNatClampNeg (a2))).2)) from c6)] at hp
    refine absurd (ci_X8_moveRow_601_3.mpr ?_) hx_3_1
    simp only [if_neg (show ¬ (a2 ≤ ((l_X8_moveRow_601_3 a2 a3 (M, 0) (Int32.toNatClampNeg (a2))).2)) from c6)]
def c_X8_moveRow_602_3 (a2 : Int32) (a3 : Int32) (σ : Mm × Int32) : Prop := if a2 ≤ σ.2 then False else True
theorem ci_X8_moveRow_602_3 {a2 : Int32} {a3 : Int32}  {σ : Mm × Int32} : c_X8_moveRow_602_3 a2 a3 σ ↔ (if a2 ≤ σ.2 then False else True) := Iff.rfl
noncomputable def s_X8_moveRow_602_3 (a2 : Int32) (a3 : Int32) (σ : Mm × Int32) : Mm × Int32 := if a2 ≤ σ.2 then σ else if a3 = 0 then ((wi (wi σ.1 602 (Int32.toNatClampNeg σ.2) (σ.1.1 627 (Int32.toNatClampNeg (σ.1.1 600 57)))) 600 57 ((σ.1.1 600 57) + 1)), σ.2 + 1) else ((wi (wi σ.1 627 (Int32.toNatClampNeg (σ.1.1 600 57)) (σ.1.1 602 (Int32.toNatClampNeg σ.2))) 600 57 ((σ.1.1 600 57) + 1)), σ.2 + 1)
def q_X8_moveRow_602_3 (a2 : Int32) (a3 : Int32) (σ : Mm × Int32) : Prop := (if a2 ≤ σ.2 then True else (if a3 = 0 then (vp_in (σ.1.1 600 57) 110) ∧ (vp_in σ.2 6) ∧ True else (vp_in σ.2 6) ∧ (vp_in (σ.1.1 600 57) 110) ∧ True))
noncomputable def l_X8_moveRow_602_3 (a2 : Int32) (a3 : Int32) (σ0 : Mm × Int32) : Nat → Mm × Int32 := itN (fun _ σ => s_X8_moveRow_602_3 a2 a3 σ) σ0
theorem ps_X8_moveRow_602_3 {d : Nat} {J : Nat → Lc → List Value → Mm → Prop} {a2 : Int32} {a3 : Int32}  {σ : Mm × Int32}  (g : Good mX8_moveRow.1 mX8_moveRow.2.2.1 mX8_moveRow.2.2.2.1 (d + 0) J) (hc : c_X8_moveRow_602_3 a2 a3 σ) (hp : q_X8_moveRow_602_3 a2 a3 σ) (k : J 3 [some (.ref 600), some (.ref 602), some (.int a2), some (.int a3), some (.int ((s_X8_moveRow_602_3 a2 a3 σ).2))] [] ((s_X8_moveRow_602_3 a2 a3 σ).1)) : J 3 [some (.ref 600), some (.ref 602), some (.int a2), some (.int a3), some (.int σ.2)] [] σ.1 := by
  unfold c_X8_moveRow_602_3 at hc
  unfold q_X8_moveRow_602_3 at hp
  unfold s_X8_moveRow_602_3 at k
  refine j_iload g (i := 4) (by decide +kernel) rfl ?_
  refine j_iload_n g (i := 2) (by decide +kernel) rfl ?_
  refine j_icmp_ge g (off := 52) (tgt := 58) (by decide +kernel) (by decide) (fun c6 => ?_) (fun c6 => ?_)
  · (try rw [if_pos (show a2 ≤ σ.2 from c6)] at hc); (rw [if_pos (show a2 ≤ σ.2 from c6)] at hp); (try simp only [if_pos (show a2 ≤ σ.2 from c6)] at k)
    exact hc.elim
  · (try rw [if_neg (show ¬ (a2 ≤ σ.2) from c6)] at hc); (rw [if_neg (show ¬ (a2 ≤ σ.2) from c6)] at hp); (try simp only [if_neg (show ¬ (a2 ≤ σ.2) from c6)] at k)
    refine j_iload_n g (i := 3) (by decide +kernel) rfl ?_
    refine j_if_eq g (off := 19) (tgt := 29) (by decide +kernel) (by decide) (fun c10 => ?_) (fun c10 => ?_)
    · (try rw [if_pos (show a3 = 0 from c10)] at hc); (rw [if_pos (show a3 = 0 from c10)] at hp); (try simp only [if_pos (show a3 = 0 from c10)] at k)
      refine j_aload_n g (i := 1) (by decide +kernel) rfl ?_
      refine j_iload g (i := 4) (by decide +kernel) rfl ?_
      refine j_aload_n g (i := 0) (by decide +kernel) rfl ?_
      refine j_gA g (b := 627) f8_89 (by decide +kernel) (by decide +kernel) (by decide +kernel) (by decide +kernel) ?_
      refine j_aload_n g (i := 0) (by decide +kernel) rfl ?_
      refine j_gI g f8_463 (by decide +kernel) (by decide +kernel) (by decide +kernel) ?_
      obtain ⟨h0, hp⟩ := hp
      refine j_ia g 110 (by decide +kernel) (by decide +kernel) (by decide +kernel) h0 ?_
      obtain ⟨h0, hp⟩ := hp
      refine j_is g 6 (by decide +kernel) (by decide +kernel) (by decide +kernel) h0 ?_
      refine j_aload_n g (i := 0) (by decide +kernel) rfl ?_
      refine j_dup g (by decide +kernel) rfl ?_
      refine j_gI g f8_463 (by decide +kernel) (by decide +kernel) (by decide +kernel) ?_
      refine j_iconst g (n := 1) (1) (by decide +kernel) rfl ?_
      refine j_iadd g (by decide +kernel) ?_
      refine j_pI g f8_463 (fun q h => by cases h; rfl) (by decide +kernel) (by decide +kernel) (by decide +kernel) ?_
      refine j_iinc g (i := 4) (n := 1) (1) (by decide +kernel) rfl (by decide) rfl ?_
      dsimp only [stL, clL, hdL]
      refine j_goto g (off := -52) (tgt := 3) (by decide +kernel) (by decide) ?_
      exact k 
    · (try rw [if_neg (show ¬ (a3 = 0) from c10)] at hc); (rw [if_neg (show ¬ (a3 = 0) from c10)] at hp); (try simp only [if_neg (show ¬ (a3 = 0) from c10)] at k)
      refine j_aload_n g (i := 0) (by decide +kernel) rfl ?_
      refine j_gA g (b := 627) f8_89 (by decide +kernel) (by decide +kernel) (by decide +kernel) (by decide +kernel) ?_
      refine j_aload_n g (i := 0) (by decide +kernel) rfl ?_
      refine j_gI g f8_463 (by decide +kernel) (by decide +kernel) (by decide +kernel) ?_
      refine j_aload_n g (i := 1) (by decide +kernel) rfl ?_
      refine j_iload g (i := 4) (by decide +kernel) rfl ?_
      obtain ⟨h0, hp⟩ := hp
      refine j_ia g 6 (by decide +kernel) (by decide +kernel) (by decide +kernel) h0 ?_
      obtain ⟨h0, hp⟩ := hp
      refine j_is g 110 (by decide +kernel) (by decide +kernel) (by decide +kernel) h0 ?_
      refine j_goto g (off := 16) (tgt := 42) (by decide +kernel) (by decide) ?_
      refine j_aload_n g (i := 0) (by decide +kernel) rfl ?_
      refine j_dup g (by decide +kernel) rfl ?_
      refine j_gI g f8_463 (by decide +kernel) (by decide +kernel) (by decide +kernel) ?_
      refine j_iconst g (n := 1) (1) (by decide +kernel) rfl ?_
      refine j_iadd g (by decide +kernel) ?_
      refine j_pI g f8_463 (fun q h => by cases h; rfl) (by decide +kernel) (by decide +kernel) (by decide +kernel) ?_
      refine j_iinc g (i := 4) (n := 1) (1) (by decide +kernel) rfl (by decide) rfl ?_
      dsimp only [stL, clL, hdL]
      refine j_goto g (off := -52) (tgt := 3) (by decide +kernel) (by decide) ?_
      exact k 
theorem sh_X8_moveRow_602_3 {d : Nat} {J : Nat → Lc → List Value → Mm → Prop} {a2 : Int32} {a3 : Int32}  {σ0 : Mm × Int32}  (g : Good mX8_moveRow.1 mX8_moveRow.2.2.1 mX8_moveRow.2.2.2.1 (d + 0) J) : ∀ (N : Nat), (∀ k, k < N → c_X8_moveRow_602_3 a2 a3 (l_X8_moveRow_602_3 a2 a3 σ0 k)) → (∀ k, k < N → q_X8_moveRow_602_3 a2 a3 (l_X8_moveRow_602_3 a2 a3 σ0 k)) → (J 3 [some (.ref 600), some (.ref 602), some (.int a2), some (.int a3), some (.int ((l_X8_moveRow_602_3 a2 a3 σ0 N).2))] [] ((l_X8_moveRow_602_3 a2 a3 σ0 N).1)) → J 3 [some (.ref 600), some (.ref 602), some (.int a2), some (.int a3), some (.int σ0.2)] [] σ0.1
  | 0, _, _, k => k
  | N + 1, hc, hp, k => sh_X8_moveRow_602_3  g N (fun i hi => hc i (Nat.lt_succ_of_lt hi)) (fun i hi => hp i (Nat.lt_succ_of_lt hi)) (ps_X8_moveRow_602_3  g (hc N (Nat.lt_succ_self N)) (hp N (Nat.lt_succ_self N)) k)
noncomputable def w_X8_moveRow_602 (M : Mm) (a2 : Int32) (a3 : Int32) : Mm := if a2 ≤ ((l_X8_moveRow_602_3 a2 a3 (M, 0) (Int32.toNatClampNeg (a2))).2) then (l_X8_moveRow_602_3 a2 a3 (M, 0) (Int32.toNatClampNeg (a2))).1 else M
def p_X8_moveRow_602 (M : Mm) (a2 : Int32) (a3 : Int32) : Prop := (∀ k, k < (Int32.toNatClampNeg (a2)) → c_X8_moveRow_602_3 a2 a3 (l_X8_moveRow_602_3 a2 a3 (M, 0) k)) ∧ (∀ k, k < (Int32.toNatClampNeg (a2)) → q_X8_moveRow_602_3 a2 a3 (l_X8_moveRow_602_3 a2 a3 (M, 0) k)) ∧ (¬ c_X8_moveRow_602_3 a2 a3 (l_X8_moveRow_602_3 a2 a3 (M, 0) (Int32.toNatClampNeg (a2)))) ∧ (if a2 ≤ ((l_X8_moveRow_602_3 a2 a3 (M, 0) (Int32.toNatClampNeg (a2))).2) then True else True)
set_option maxRecDepth 20000 in
theorem rnX8_moveRow_602 {d : Nat} {M : Mm} {a2 : Int32} {a3 : Int32}  (hp : p_X8_moveRow_602 M a2 a3) : Rn (d + 0) mX8_moveRow [.ref 600, .ref 602, .int a2, .int a3] M none (w_X8_moveRow_602 M a2 a3) := by
  refine Rn.of [some (.ref 600), some (.ref 602), some (.int a2), some (.int a3), none] (by decide +kernel) rfl (Nat.le_of_ble_eq_true rfl) rfl (fun J g hr => ?_)
  unfold p_X8_moveRow_602 at hp
  refine j_iconst g (n := 0) (0) (by decide +kernel) rfl ?_
  refine j_istore g (i := 4) (by decide +kernel) (by decide) ?_
  dsimp only [stL, clL, hdL]
  obtain ⟨h0, hp⟩ := hp
  have hc_3_1 := h0
  obtain ⟨h0, hp⟩ := hp
  have hq_3_1 := h0
  obtain ⟨h0, hp⟩ := hp
  have hx_3_1 := h0
  refine sh_X8_moveRow_602_3   g (σ0 := (M, 0)) (Int32.toNatClampNeg (a2)) hc_3_1 hq_3_1 ?_ 
  refine j_iload g (i := 4) (by decide +kernel) rfl ?_
  refine j_iload_n g (i := 2) (by decide +kernel) rfl ?_
  refine j_icmp_ge g (off := 52) (tgt := 58) (by decide +kernel) (by decide) (fun c6 => ?_) (fun c6 => ?_)
  · rw [if_pos (show a2 ≤ ((l_X8_moveRow_602_3 a2 a3 (M, 0) (Int32.toNatClampNeg (a2))).2) from c6)] at hp
    refine hr.2.2.2 _ _ _ (by decide +kernel) rfl rfl ?_
    · unfold w_X8_moveRow_602; first | (simp only [if_pos (show a2 ≤ ((l_X8_moveRow_602_3 a2 a3 (M, 0) (Int32.toNatClampNeg (a2))).2) from c6)]; done) | (simp only [if_pos (show a2 ≤ ((l_X8_moveRow_602_3 a2 a3 (M, 0) (Int32.toNatClampNeg (a2))).2) from c6)]; rfl) | rfl
  · rw [if_neg (show ¬ (a2 ≤ ((l_X8_moveRow_602_3 a2 a3 (M, 0) (Int32.toNatClampNeg (a2))).2)) from c6)] at hp
    refine absurd (ci_X8_moveRow_602_3.mpr ?_) hx_3_1
    simp only [if_neg (show ¬ (a2 ≤ ((l_X8_moveRow_602_3 a2 a3 (M, 0) (Int32.toNatClampNeg (a2))).2)) from c6)]
def c_X8_moveRow_603_3 (a2 : Int32) (a3 : Int32) (σ : Mm × Int32) : Prop := if a2 ≤ σ.2 then False else True
theorem ci_X8_moveRow_603_3 {a2 : Int32} {a3 : Int32}  {σ : Mm × Int32} : c_X8_moveRow_603_3 a2 a3 σ ↔ (if a2 ≤ σ.2 then False else True) := Iff.rfl
noncomputable def s_X8_moveRow_603_3 (a2 : Int32) (a3 : Int32) (σ : Mm × Int32) : Mm × Int32 := if a2 ≤ σ.2 then σ else if a3 = 0 then ((wi (wi σ.1 603 (Int32.toNatClampNeg σ.2) (σ.1.1 627 (Int32.toNatClampNeg (σ.1.1 600 57)))) 600 57 ((σ.1.1 600 57) + 1)), σ.2 + 1) else ((wi (wi σ.1 627 (Int32.toNatClampNeg (σ.1.1 600 57)) (σ.1.1 603 (Int32.toNatClampNeg σ.2))) 600 57 ((σ.1.1 600 57) + 1)), σ.2 + 1)
def q_X8_moveRow_603_3 (a2 : Int32) (a3 : Int32) (σ : Mm × Int32) : Prop := (if a2 ≤ σ.2 then True else (if a3 = 0 then (vp_in (σ.1.1 600 57) 110) ∧ (vp_in σ.2 48) ∧ True else (vp_in σ.2 48) ∧ (vp_in (σ.1.1 600 57) 110) ∧ True))
noncomputable def l_X8_moveRow_603_3 (a2 : Int32) (a3 : Int32) (σ0 : Mm × Int32) : Nat → Mm × Int32 := itN (fun _ σ => s_X8_moveRow_603_3 a2 a3 σ) σ0
theorem ps_X8_moveRow_603_3 {d : Nat} {J : Nat → Lc → List Value → Mm → Prop} {a2 : Int32} {a3 : Int32}  {σ : Mm × Int32}  (g : Good mX8_moveRow.1 mX8_moveRow.2.2.1 mX8_moveRow.2.2.2.1 (d + 0) J) (hc : c_X8_moveRow_603_3 a2 a3 σ) (hp : q_X8_moveRow_603_3 a2 a3 σ) (k : J 3 [some (.ref 600), some (.ref 603), some (.int a2), some (.int a3), some (.int ((s_X8_moveRow_603_3 a2 a3 σ).2))] [] ((s_X8_moveRow_603_3 a2 a3 σ).1)) : J 3 [some (.ref 600), some (.ref 603), some (.int a2), some (.int a3), some (.int σ.2)] [] σ.1 := by
  unfold c_X8_moveRow_603_3 at hc
  unfold q_X8_moveRow_603_3 at hp
  unfold s_X8_moveRow_603_3 at k
  refine j_iload g (i := 4) (by decide +kernel) rfl ?_
  refine j_iload_n g (i := 2) (by decide +kernel) rfl ?_
  refine j_icmp_ge g (off := 52) (tgt := 58) (by decide +kernel) (by decide) (fun c6 => ?_) (fun c6 => ?_)
  · (try rw [if_pos (show a2 ≤ σ.2 from c6)] at hc); (rw [if_pos (show a2 ≤ σ.2 from c6)] at hp); (try simp only [if_pos (show a2 ≤ σ.2 from c6)] at k)
    exact hc.elim
  · (try rw [if_neg (show ¬ (a2 ≤ σ.2) from c6)] at hc); (rw [if_neg (show ¬ (a2 ≤ σ.2) from c6)] at hp); (try simp only [if_neg (show ¬ (a2 ≤ σ.2) from c6)] at k)
    refine j_iload_n g (i := 3) (by decide +kernel) rfl ?_
    refine j_if_eq g (off := 19) (tgt := 29) (by decide +kernel) (by decide) (fun c10 => ?_) (fun c10 => ?_)
    · (try rw [if_pos (show a3 = 0 from c10)] at hc); (rw [if_pos (show a3 = 0 from c10)] at hp); (try simp only [if_pos (show a3 = 0 from c10)] at k)
      refine j_aload_n g (i := 1) (by decide +kernel) rfl ?_
      refine j_iload g (i := 4) (by decide +kernel) rfl ?_
      refine j_aload_n g (i := 0) (by decide +kernel) rfl ?_
      refine j_gA g (b := 627) f8_89 (by decide +kernel) (by decide +kernel) (by decide +kernel) (by decide +kernel) ?_
      refine j_aload_n g (i := 0) (by decide +kernel) rfl ?_
      refine j_gI g f8_463 (by decide +kernel) (by decide +kernel) (by decide +kernel) ?_
      obtain ⟨h0, hp⟩ := hp
      refine j_ia g 110 (by decide +kernel) (by decide +kernel) (by decide +kernel) h0 ?_
      obtain ⟨h0, hp⟩ := hp
      refine j_is g 48 (by decide +kernel) (by decide +kernel) (by decide +kernel) h0 ?_
      refine j_aload_n g (i := 0) (by decide +kernel) rfl ?_
      refine j_dup g (by decide +kernel) rfl ?_
      refine j_gI g f8_463 (by decide +kernel) (by decide +kernel) (by decide +kernel) ?_
      refine j_iconst g (n := 1) (1) (by decide +kernel) rfl ?_
      refine j_iadd g (by decide +kernel) ?_
      refine j_pI g f8_463 (fun q h => by cases h; rfl) (by decide +kernel) (by decide +kernel) (by decide +kernel) ?_
      refine j_iinc g (i := 4) (n := 1) (1) (by decide +kernel) rfl (by decide) rfl ?_
      dsimp only [stL, clL, hdL]
      refine j_goto g (off := -52) (tgt := 3) (by decide +kernel) (by decide) ?_
      exact k 
    · (try rw [if_neg (show ¬ (a3 = 0) from c10)] at hc); (rw [if_neg (show ¬ (a3 = 0) from c10)] at hp); (try simp only [if_neg (show ¬ (a3 = 0) from c10)] at k)
      refine j_aload_n g (i := 0) (by decide +kernel) rfl ?_
      refine j_gA g (b := 627) f8_89 (by decide +kernel) (by decide +kernel) (by decide +kernel) (by decide +kernel) ?_
      refine j_aload_n g (i := 0) (by decide +kernel) rfl ?_
      refine j_gI g f8_463 (by decide +kernel) (by decide +kernel) (by decide +kernel) ?_
      refine j_aload_n g (i := 1) (by decide +kernel) rfl ?_
      refine j_iload g (i := 4) (by decide +kernel) rfl ?_
      obtain ⟨h0, hp⟩ := hp
      refine j_ia g 48 (by decide +kernel) (by decide +kernel) (by decide +kernel) h0 ?_
      obtain ⟨h0, hp⟩ := hp
      refine j_is g 110 (by decide +kernel) (by decide +kernel) (by decide +kernel) h0 ?_
      refine j_goto g (off := 16) (tgt := 42) (by decide +kernel) (by decide) ?_
      refine j_aload_n g (i := 0) (by decide +kernel) rfl ?_
      refine j_dup g (by decide +kernel) rfl ?_
      refine j_gI g f8_463 (by decide +kernel) (by decide +kernel) (by decide +kernel) ?_
      refine j_iconst g (n := 1) (1) (by decide +kernel) rfl ?_
      refine j_iadd g (by decide +kernel) ?_
      refine j_pI g f8_463 (fun q h => by cases h; rfl) (by decide +kernel) (by decide +kernel) (by decide +kernel) ?_
      refine j_iinc g (i := 4) (n := 1) (1) (by decide +kernel) rfl (by decide) rfl ?_
      dsimp only [stL, clL, hdL]
      refine j_goto g (off := -52) (tgt := 3) (by decide +kernel) (by decide) ?_
      exact k 
theorem sh_X8_moveRow_603_3 {d : Nat} {J : Nat → Lc → List Value → Mm → Prop} {a2 : Int32} {a3 : Int32}  {σ0 : Mm × Int32}  (g : Good mX8_moveRow.1 mX8_moveRow.2.2.1 mX8_moveRow.2.2.2.1 (d + 0) J) : ∀ (N : Nat), (∀ k, k < N → c_X8_moveRow_603_3 a2 a3 (l_X8_moveRow_603_3 a2 a3 σ0 k)) → (∀ k, k < N → q_X8_moveRow_603_3 a2 a3 (l_X8_moveRow_603_3 a2 a3 σ0 k)) → (J 3 [some (.ref 600), some (.ref 603), some (.int a2), some (.int a3), some (.int ((l_X8_moveRow_603_3 a2 a3 σ0 N).2))] [] ((l_X8_moveRow_603_3 a2 a3 σ0 N).1)) → J 3 [some (.ref 600), some (.ref 603), some (.int a2), some (.int a3), some (.int σ0.2)] [] σ0.1
  | 0, _, _, k => k
  | N + 1, hc, hp, k => sh_X8_moveRow_603_3  g N (fun i hi => hc i (Nat.lt_succ_of_lt hi)) (fun i hi => hp i (Nat.lt_succ_of_lt hi)) (ps_X8_moveRow_603_3  g (hc N (Nat.lt_succ_self N)) (hp N (Nat.lt_succ_self N)) k)
noncomputable def w_X8_moveRow_603 (M : Mm) (a2 : Int32) (a3 : Int32) : Mm := if a2 ≤ ((l_X8_moveRow_603_3 a2 a3 (M, 0) (Int32.toNatClampNeg (a2))).2) then (l_X8_moveRow_603_3 a2 a3 (M, 0) (Int32.toNatClampNeg (a2))).1 else M
def p_X8_moveRow_603 (M : Mm) (a2 : Int32) (a3 : Int32) : Prop := (∀ k, k < (Int32.toNatClampNeg (a2)) → c_X8_moveRow_603_3 a2 a3 (l_X8_moveRow_603_3 a2 a3 (M, 0) k)) ∧ (∀ k, k < (Int32.toNatClampNeg (a2)) → q_X8_moveRow_603_3 a2 a3 (l_X8_moveRow_603_3 a2 a3 (M, 0) k)) ∧ (¬ c_X8_moveRow_603_3 a2 a3 (l_X8_moveRow_603_3 a2 a3 (M, 0) (Int32.toNatClampNeg (a2)))) ∧ (if a2 ≤ ((l_X8_moveRow_603_3 a2 a3 (M, 0) (Int32.toNatClampNeg (a2))).2) then True else True)
set_option maxRecDepth 20000 in
theorem rnX8_moveRow_603 {d : Nat} {M : Mm} {a2 : Int32} {a3 : Int32}  (hp : p_X8_moveRow_603 M a2 a3) : Rn (d + 0) mX8_moveRow [.ref 600, .ref 603, .int a2, .int a3] M none (w_X8_moveRow_603 M a2 a3) := by
  refine Rn.of [some (.ref 600), some (.ref 603), some (.int a2), some (.int a3), none] (by decide +kernel) rfl (Nat.le_of_ble_eq_true rfl) rfl (fun J g hr => ?_)
  unfold p_X8_moveRow_603 at hp
  refine j_iconst g (n := 0) (0) (by decide +kernel) rfl ?_
  refine j_istore g (i := 4) (by decide +kernel) (by decide) ?_
  dsimp only [stL, clL, hdL]
  obtain ⟨h0, hp⟩ := hp
  have hc_3_1 := h0
  obtain ⟨h0, hp⟩ := hp
  have hq_3_1 := h0
  obtain ⟨h0, hp⟩ := hp
  have hx_3_1 := h0
  refine sh_X8_moveRow_603_3   g (σ0 := (M, 0)) (Int32.toNatClampNeg (a2)) hc_3_1 hq_3_1 ?_ 
  refine j_iload g (i := 4) (by decide +kernel) rfl ?_
  refine j_iload_n g (i := 2) (by decide +kernel) rfl ?_
  refine j_icmp_ge g (off := 52) (tgt := 58) (by decide +kernel) (by decide) (fun c6 => ?_) (fun c6 => ?_)
  · rw [if_pos (show a2 ≤ ((l_X8_moveRow_603_3 a2 a3 (M, 0) (Int32.toNatClampNeg (a2))).2) from c6)] at hp
    refine hr.2.2.2 _ _ _ (by decide +kernel) rfl rfl ?_
    · unfold w_X8_moveRow_603; first | (simp only [if_pos (show a2 ≤ ((l_X8_moveRow_603_3 a2 a3 (M, 0) (Int32.toNatClampNeg (a2))).2) from c6)]; done) | (simp only [if_pos (show a2 ≤ ((l_X8_moveRow_603_3 a2 a3 (M, 0) (Int32.toNatClampNeg (a2))).2) from c6)]; rfl) | rfl
  · rw [if_neg (show ¬ (a2 ≤ ((l_X8_moveRow_603_3 a2 a3 (M, 0) (Int32.toNatClampNeg (a2))).2)) from c6)] at hp
    refine absurd (ci_X8_moveRow_603_3.mpr ?_) hx_3_1
    simp only [if_neg (show ¬ (a2 ≤ ((l_X8_moveRow_603_3 a2 a3 (M, 0) (Int32.toNatClampNeg (a2))).2)) from c6)]
def c_X8_moveRow_604_3 (a2 : Int32) (a3 : Int32) (σ : Mm × Int32) : Prop := if a2 ≤ σ.2 then False else True
theorem ci_X8_moveRow_604_3 {a2 : Int32} {a3 : Int32}  {σ : Mm × Int32} : c_X8_moveRow_604_3 a2 a3 σ ↔ (if a2 ≤ σ.2 then False else True) := Iff.rfl
noncomputable def s_X8_moveRow_604_3 (a2 : Int32) (a3 : Int32) (σ : Mm × Int32) : Mm × Int32 := if a2 ≤ σ.2 then σ else if a3 = 0 then ((wi (wi σ.1 604 (Int32.toNatClampNeg σ.2) (σ.1.1 627 (Int32.toNatClampNeg (σ.1.1 600 57)))) 600 57 ((σ.1.1 600 57) + 1)), σ.2 + 1) else ((wi (wi σ.1 627 (Int32.toNatClampNeg (σ.1.1 600 57)) (σ.1.1 604 (Int32.toNatClampNeg σ.2))) 600 57 ((σ.1.1 600 57) + 1)), σ.2 + 1)
def q_X8_moveRow_604_3 (a2 : Int32) (a3 : Int32) (σ : Mm × Int32) : Prop := (if a2 ≤ σ.2 then True else (if a3 = 0 then (vp_in (σ.1.1 600 57) 110) ∧ (vp_in σ.2 4) ∧ True else (vp_in σ.2 4) ∧ (vp_in (σ.1.1 600 57) 110) ∧ True))
noncomputable def l_X8_moveRow_604_3 (a2 : Int32) (a3 : Int32) (σ0 : Mm × Int32) : Nat → Mm × Int32 := itN (fun _ σ => s_X8_moveRow_604_3 a2 a3 σ) σ0
theorem ps_X8_moveRow_604_3 {d : Nat} {J : Nat → Lc → List Value → Mm → Prop} {a2 : Int32} {a3 : Int32}  {σ : Mm × Int32}  (g : Good mX8_moveRow.1 mX8_moveRow.2.2.1 mX8_moveRow.2.2.2.1 (d + 0) J) (hc : c_X8_moveRow_604_3 a2 a3 σ) (hp : q_X8_moveRow_604_3 a2 a3 σ) (k : J 3 [some (.ref 600), some (.ref 604), some (.int a2), some (.int a3), some (.int ((s_X8_moveRow_604_3 a2 a3 σ).2))] [] ((s_X8_moveRow_604_3 a2 a3 σ).1)) : J 3 [some (.ref 600), some (.ref 604), some (.int a2), some (.int a3), some (.int σ.2)] [] σ.1 := by
  unfold c_X8_moveRow_604_3 at hc
  unfold q_X8_moveRow_604_3 at hp
  unfold s_X8_moveRow_604_3 at k
  refine j_iload g (i := 4) (by decide +kernel) rfl ?_
  refine j_iload_n g (i := 2) (by decide +kernel) rfl ?_
  refine j_icmp_ge g (off := 52) (tgt := 58) (by decide +kernel) (by decide) (fun c6 => ?_) (fun c6 => ?_)
  · (try rw [if_pos (show a2 ≤ σ.2 from c6)] at hc); (rw [if_pos (show a2 ≤ σ.2 from c6)] at hp); (try simp only [if_pos (show a2 ≤ σ.2 from c6)] at k)
    exact hc.elim
  · (try rw [if_neg (show ¬ (a2 ≤ σ.2) from c6)] at hc); (rw [if_neg (show ¬ (a2 ≤ σ.2) from c6)] at hp); (try simp only [if_neg (show ¬ (a2 ≤ σ.2) from c6)] at k)
    refine j_iload_n g (i := 3) (by decide +kernel) rfl ?_
    refine j_if_eq g (off := 19) (tgt := 29) (by decide +kernel) (by decide) (fun c10 => ?_) (fun c10 => ?_)
    · (try rw [if_pos (show a3 = 0 from c10)] at hc); (rw [if_pos (show a3 = 0 from c10)] at hp); (try simp only [if_pos (show a3 = 0 from c10)] at k)
      refine j_aload_n g (i := 1) (by decide +kernel) rfl ?_
      refine j_iload g (i := 4) (by decide +kernel) rfl ?_
      refine j_aload_n g (i := 0) (by decide +kernel) rfl ?_
      refine j_gA g (b := 627) f8_89 (by decide +kernel) (by decide +kernel) (by decide +kernel) (by decide +kernel) ?_
      refine j_aload_n g (i := 0) (by decide +kernel) rfl ?_
      refine j_gI g f8_463 (by decide +kernel) (by decide +kernel) (by decide +kernel) ?_
      obtain ⟨h0, hp⟩ := hp
      refine j_ia g 110 (by decide +kernel) (by decide +kernel) (by decide +kernel) h0 ?_
      obtain ⟨h0, hp⟩ := hp
      refine j_is g 4 (by decide +kernel) (by decide +kernel) (by decide +kernel) h0 ?_
      refine j_aload_n g (i := 0) (by decide +kernel) rfl ?_
      refine j_dup g (by decide +kernel) rfl ?_
      refine j_gI g f8_463 (by decide +kernel) (by decide +kernel) (by decide +kernel) ?_
      refine j_iconst g (n := 1) (1) (by decide +kernel) rfl ?_
      refine j_iadd g (by decide +kernel) ?_
      refine j_pI g f8_463 (fun q h => by cases h; rfl) (by decide +kernel) (by decide +kernel) (by decide +kernel) ?_
      refine j_iinc g (i := 4) (n := 1) (1) (by decide +kernel) rfl (by decide) rfl ?_
      dsimp only [stL, clL, hdL]
      refine j_goto g (off := -52) (tgt := 3) (by decide +kernel) (by decide) ?_
      exact k 
    · (try rw [if_neg (show ¬ (a3 = 0) from c10)] at hc); (rw [if_neg (show ¬ (a3 = 0) from c10)] at hp); (try simp only [if_neg (show ¬ (a3 = 0) from c10)] at k)
      refine j_aload_n g (i := 0) (by decide +kernel) rfl ?_
      refine j_gA g (b := 627) f8_89 (by decide +kernel) (by decide +kernel) (by decide +kernel) (by decide +kernel) ?_
      refine j_aload_n g (i := 0) (by decide +kernel) rfl ?_
      refine j_gI g f8_463 (by decide +kernel) (by decide +kernel) (by decide +kernel) ?_
      refine j_aload_n g (i := 1) (by decide +kernel) rfl ?_
      refine j_iload g (i := 4) (by decide +kernel) rfl ?_
      obtain ⟨h0, hp⟩ := hp
      refine j_ia g 4 (by decide +kernel) (by decide +kernel) (by decide +kernel) h0 ?_
      obtain ⟨h0, hp⟩ := hp
      refine j_is g 110 (by decide +kernel) (by decide +kernel) (by decide +kernel) h0 ?_
      refine j_goto g (off := 16) (tgt := 42) (by decide +kernel) (by decide) ?_
      refine j_aload_n g (i := 0) (by decide +kernel) rfl ?_
      refine j_dup g (by decide +kernel) rfl ?_
      refine j_gI g f8_463 (by decide +kernel) (by decide +kernel) (by decide +kernel) ?_
      refine j_iconst g (n := 1) (1) (by decide +kernel) rfl ?_
      refine j_iadd g (by decide +kernel) ?_
      refine j_pI g f8_463 (fun q h => by cases h; rfl) (by decide +kernel) (by decide +kernel) (by decide +kernel) ?_
      refine j_iinc g (i := 4) (n := 1) (1) (by decide +kernel) rfl (by decide) rfl ?_
      dsimp only [stL, clL, hdL]
      refine j_goto g (off := -52) (tgt := 3) (by decide +kernel) (by decide) ?_
      exact k 
theorem sh_X8_moveRow_604_3 {d : Nat} {J : Nat → Lc → List Value → Mm → Prop} {a2 : Int32} {a3 : Int32}  {σ0 : Mm × Int32}  (g : Good mX8_moveRow.1 mX8_moveRow.2.2.1 mX8_moveRow.2.2.2.1 (d + 0) J) : ∀ (N : Nat), (∀ k, k < N → c_X8_moveRow_604_3 a2 a3 (l_X8_moveRow_604_3 a2 a3 σ0 k)) → (∀ k, k < N → q_X8_moveRow_604_3 a2 a3 (l_X8_moveRow_604_3 a2 a3 σ0 k)) → (J 3 [some (.ref 600), some (.ref 604), some (.int a2), some (.int a3), some (.int ((l_X8_moveRow_604_3 a2 a3 σ0 N).2))] [] ((l_X8_moveRow_604_3 a2 a3 σ0 N).1)) → J 3 [some (.ref 600), some (.ref 604), some (.int a2), some (.int a3), some (.int σ0.2)] [] σ0.1
  | 0, _, _, k => k
  | N + 1, hc, hp, k => sh_X8_moveRow_604_3  g N (fun i hi => hc i (Nat.lt_succ_of_lt hi)) (fun i hi => hp i (Nat.lt_succ_of_lt hi)) (ps_X8_moveRow_604_3  g (hc N (Nat.lt_succ_self N)) (hp N (Nat.lt_succ_self N)) k)
noncomputable def w_X8_moveRow_604 (M : Mm) (a2 : Int32) (a3 : Int32) : Mm := if a2 ≤ ((l_X8_moveRow_604_3 a2 a3 (M, 0) (Int32.toNatClampNeg (a2))).2) then (l_X8_moveRow_604_3 a2 a3 (M, 0) (Int32.toNatClampNeg (a2))).1 else M
def p_X8_moveRow_604 (M : Mm) (a2 : Int32) (a3 : Int32) : Prop := (∀ k, k < (Int32.toNatClampNeg (a2)) → c_X8_moveRow_604_3 a2 a3 (l_X8_moveRow_604_3 a2 a3 (M, 0) k)) ∧ (∀ k, k < (Int32.toNatClampNeg (a2)) → q_X8_moveRow_604_3 a2 a3 (l_X8_moveRow_604_3 a2 a3 (M, 0) k)) ∧ (¬ c_X8_moveRow_604_3 a2 a3 (l_X8_moveRow_604_3 a2 a3 (M, 0) (Int32.toNatClampNeg (a2)))) ∧ (if a2 ≤ ((l_X8_moveRow_604_3 a2 a3 (M, 0) (Int32.toNatClampNeg (a2))).2) then True else True)
set_option maxRecDepth 20000 in
theorem rnX8_moveRow_604 {d : Nat} {M : Mm} {a2 : Int32} {a3 : Int32}  (hp : p_X8_moveRow_604 M a2 a3) : Rn (d + 0) mX8_moveRow [.ref 600, .ref 604, .int a2, .int a3] M none (w_X8_moveRow_604 M a2 a3) := by
  refine Rn.of [some (.ref 600), some (.ref 604), some (.int a2), some (.int a3), none] (by decide +kernel) rfl (Nat.le_of_ble_eq_true rfl) rfl (fun J g hr => ?_)
  unfold p_X8_moveRow_604 at hp
  refine j_iconst g (n := 0) (0) (by decide +kernel) rfl ?_
  refine j_istore g (i := 4) (by decide +kernel) (by decide) ?_
  dsimp only [stL, clL, hdL]
  obtain ⟨h0, hp⟩ := hp
  have hc_3_1 := h0
  obtain ⟨h0, hp⟩ := hp
  have hq_3_1 := h0
  obtain ⟨h0, hp⟩ := hp
  have hx_3_1 := h0
  refine sh_X8_moveRow_604_3   g (σ0 := (M, 0)) (Int32.toNatClampNeg (a2)) hc_3_1 hq_3_1 ?_ 
  refine j_iload g (i := 4) (by decide +kernel) rfl ?_
  refine j_iload_n g (i := 2) (by decide +kernel) rfl ?_
  refine j_icmp_ge g (off := 52) (tgt := 58) (by decide +kernel) (by decide) (fun c6 => ?_) (fun c6 => ?_)
  · rw [if_pos (show a2 ≤ ((l_X8_moveRow_604_3 a2 a3 (M, 0) (Int32.toNatClampNeg (a2))).2) from c6)] at hp
    refine hr.2.2.2 _ _ _ (by decide +kernel) rfl rfl ?_
    · unfold w_X8_moveRow_604; first | (simp only [if_pos (show a2 ≤ ((l_X8_moveRow_604_3 a2 a3 (M, 0) (Int32.toNatClampNeg (a2))).2) from c6)]; done) | (simp only [if_pos (show a2 ≤ ((l_X8_moveRow_604_3 a2 a3 (M, 0) (Int32.toNatClampNeg (a2))).2) from c6)]; rfl) | rfl
  · rw [if_neg (show ¬ (a2 ≤ ((l_X8_moveRow_604_3 a2 a3 (M, 0) (Int32.toNatClampNeg (a2))).2)) from c6)] at hp
    refine absurd (ci_X8_moveRow_604_3.mpr ?_) hx_3_1
    simp only [if_neg (show ¬ (a2 ≤ ((l_X8_moveRow_604_3 a2 a3 (M, 0) (Int32.toNatClampNeg (a2))).2)) from c6)]
def c_X8_moveRow_607_3 (a2 : Int32) (a3 : Int32) (σ : Mm × Int32) : Prop := if a2 ≤ σ.2 then False else True
theorem ci_X8_moveRow_607_3 {a2 : Int32} {a3 : Int32}  {σ : Mm × Int32} : c_X8_moveRow_607_3 a2 a3 σ ↔ (if a2 ≤ σ.2 then False else True) := Iff.rfl
noncomputable def s_X8_moveRow_607_3 (a2 : Int32) (a3 : Int32) (σ : Mm × Int32) : Mm × Int32 := if a2 ≤ σ.2 then σ else if a3 = 0 then ((wi (wi σ.1 607 (Int32.toNatClampNeg σ.2) (σ.1.1 627 (Int32.toNatClampNeg (σ.1.1 600 57)))) 600 57 ((σ.1.1 600 57) + 1)), σ.2 + 1) else ((wi (wi σ.1 627 (Int32.toNatClampNeg (σ.1.1 600 57)) (σ.1.1 607 (Int32.toNatClampNeg σ.2))) 600 57 ((σ.1.1 600 57) + 1)), σ.2 + 1)
def q_X8_moveRow_607_3 (a2 : Int32) (a3 : Int32) (σ : Mm × Int32) : Prop := (if a2 ≤ σ.2 then True else (if a3 = 0 then (vp_in (σ.1.1 600 57) 110) ∧ (vp_in σ.2 44) ∧ True else (vp_in σ.2 44) ∧ (vp_in (σ.1.1 600 57) 110) ∧ True))
noncomputable def l_X8_moveRow_607_3 (a2 : Int32) (a3 : Int32) (σ0 : Mm × Int32) : Nat → Mm × Int32 := itN (fun _ σ => s_X8_moveRow_607_3 a2 a3 σ) σ0
theorem ps_X8_moveRow_607_3 {d : Nat} {J : Nat → Lc → List Value → Mm → Prop} {a2 : Int32} {a3 : Int32}  {σ : Mm × Int32}  (g : Good mX8_moveRow.1 mX8_moveRow.2.2.1 mX8_moveRow.2.2.2.1 (d + 0) J) (hc : c_X8_moveRow_607_3 a2 a3 σ) (hp : q_X8_moveRow_607_3 a2 a3 σ) (k : J 3 [some (.ref 600), some (.ref 607), some (.int a2), some (.int a3), some (.int ((s_X8_moveRow_607_3 a2 a3 σ).2))] [] ((s_X8_moveRow_607_3 a2 a3 σ).1)) : J 3 [some (.ref 600), some (.ref 607), some (.int a2), some (.int a3), some (.int σ.2)] [] σ.1 := by
  unfold c_X8_moveRow_607_3 at hc
  unfold q_X8_moveRow_607_3 at hp
  unfold s_X8_moveRow_607_3 at k
  refine j_iload g (i := 4) (by decide +kernel) rfl ?_
  refine j_iload_n g (i := 2) (by decide +kernel) rfl ?_
  refine j_icmp_ge g (off := 52) (tgt := 58) (by decide +kernel) (by decide) (fun c6 => ?_) (fun c6 => ?_)
  · (try rw [if_pos (show a2 ≤ σ.2 from c6)] at hc); (rw [if_pos (show a2 ≤ σ.2 from c6)] at hp); (try simp only [if_pos (show a2 ≤ σ.2 from c6)] at k)
    exact hc.elim
  · (try rw [if_neg (show ¬ (a2 ≤ σ.2) from c6)] at hc); (rw [if_neg (show ¬ (a2 ≤ σ.2) from c6)] at hp); (try simp only [if_neg (show ¬ (a2 ≤ σ.2) from c6)] at k)
    refine j_iload_n g (i := 3) (by decide +kernel) rfl ?_
    refine j_if_eq g (off := 19) (tgt := 29) (by decide +kernel) (by decide) (fun c10 => ?_) (fun c10 => ?_)
    · (try rw [if_pos (show a3 = 0 from c10)] at hc); (rw [if_pos (show a3 = 0 from c10)] at hp); (try simp only [if_pos (show a3 = 0 from c10)] at k)
      refine j_aload_n g (i := 1) (by decide +kernel) rfl ?_
      refine j_iload g (i := 4) (by decide +kernel) rfl ?_
      refine j_aload_n g (i := 0) (by decide +kernel) rfl ?_
      refine j_gA g (b := 627) f8_89 (by decide +kernel) (by decide +kernel) (by decide +kernel) (by decide +kernel) ?_
      refine j_aload_n g (i := 0) (by decide +kernel) rfl ?_
      refine j_gI g f8_463 (by decide +kernel) (by decide +kernel) (by decide +kernel) ?_
      obtain ⟨h0, hp⟩ := hp
      refine j_ia g 110 (by decide +kernel) (by decide +kernel) (by decide +kernel) h0 ?_
      obtain ⟨h0, hp⟩ := hp
      refine j_is g 44 (by decide +kernel) (by decide +kernel) (by decide +kernel) h0 ?_
      refine j_aload_n g (i := 0) (by decide +kernel) rfl ?_
      refine j_dup g (by decide +kernel) rfl ?_
      refine j_gI g f8_463 (by decide +kernel) (by decide +kernel) (by decide +kernel) ?_
      refine j_iconst g (n := 1) (1) (by decide +kernel) rfl ?_
      refine j_iadd g (by decide +kernel) ?_
      refine j_pI g f8_463 (fun q h => by cases h; rfl) (by decide +kernel) (by decide +kernel) (by decide +kernel) ?_
      refine j_iinc g (i := 4) (n := 1) (1) (by decide +kernel) rfl (by decide) rfl ?_
      dsimp only [stL, clL, hdL]
      refine j_goto g (off := -52) (tgt := 3) (by decide +kernel) (by decide) ?_
      exact k 
    · (try rw [if_neg (show ¬ (a3 = 0) from c10)] at hc); (rw [if_neg (show ¬ (a3 = 0) from c10)] at hp); (try simp only [if_neg (show ¬ (a3 = 0) from c10)] at k)
      refine j_aload_n g (i := 0) (by decide +kernel) rfl ?_
      refine j_gA g (b := 627) f8_89 (by decide +kernel) (by decide +kernel) (by decide +kernel) (by decide +kernel) ?_
      refine j_aload_n g (i := 0) (by decide +kernel) rfl ?_
      refine j_gI g f8_463 (by decide +kernel) (by decide +kernel) (by decide +kernel) ?_
      refine j_aload_n g (i := 1) (by decide +kernel) rfl ?_
      refine j_iload g (i := 4) (by decide +kernel) rfl ?_
      obtain ⟨h0, hp⟩ := hp
      refine j_ia g 44 (by decide +kernel) (by decide +kernel) (by decide +kernel) h0 ?_
      obtain ⟨h0, hp⟩ := hp
      refine j_is g 110 (by decide +kernel) (by decide +kernel) (by decide +kernel) h0 ?_
      refine j_goto g (off := 16) (tgt := 42) (by decide +kernel) (by decide) ?_
      refine j_aload_n g (i := 0) (by decide +kernel) rfl ?_
      refine j_dup g (by decide +kernel) rfl ?_
      refine j_gI g f8_463 (by decide +kernel) (by decide +kernel) (by decide +kernel) ?_
      refine j_iconst g (n := 1) (1) (by decide +kernel) rfl ?_
      refine j_iadd g (by decide +kernel) ?_
      refine j_pI g f8_463 (fun q h => by cases h; rfl) (by decide +kernel) (by decide +kernel) (by decide +kernel) ?_
      refine j_iinc g (i := 4) (n := 1) (1) (by decide +kernel) rfl (by decide) rfl ?_
      dsimp only [stL, clL, hdL]
      refine j_goto g (off := -52) (tgt := 3) (by decide +kernel) (by decide) ?_
      exact k 
theorem sh_X8_moveRow_607_3 {d : Nat} {J : Nat → Lc → List Value → Mm → Prop} {a2 : Int32} {a3 : Int32}  {σ0 : Mm × Int32}  (g : Good mX8_moveRow.1 mX8_moveRow.2.2.1 mX8_moveRow.2.2.2.1 (d + 0) J) : ∀ (N : Nat), (∀ k, k < N → c_X8_moveRow_607_3 a2 a3 (l_X8_moveRow_607_3 a2 a3 σ0 k)) → (∀ k, k < N → q_X8_moveRow_607_3 a2 a3 (l_X8_moveRow_607_3 a2 a3 σ0 k)) → (J 3 [some (.ref 600), some (.ref 607), some (.int a2), some (.int a3), some (.int ((l_X8_moveRow_607_3 a2 a3 σ0 N).2))] [] ((l_X8_moveRow_607_3 a2 a3 σ0 N).1)) → J 3 [some (.ref 600), some (.ref 607), some (.int a2), some (.int a3), some (.int σ0.2)] [] σ0.1
  | 0, _, _, k => k
  | N + 1, hc, hp, k => sh_X8_moveRow_607_3  g N (fun i hi => hc i (Nat.lt_succ_of_lt hi)) (fun i hi => hp i (Nat.lt_succ_of_lt hi)) (ps_X8_moveRow_607_3  g (hc N (Nat.lt_succ_self N)) (hp N (Nat.lt_succ_self N)) k)
noncomputable def w_X8_moveRow_607 (M : Mm) (a2 : Int32) (a3 : Int32) : Mm := if a2 ≤ ((l_X8_moveRow_607_3 a2 a3 (M, 0) (Int32.toNatClampNeg (a2))).2) then (l_X8_moveRow_607_3 a2 a3 (M, 0) (Int32.toNatClampNeg (a2))).1 else M
def p_X8_moveRow_607 (M : Mm) (a2 : Int32) (a3 : Int32) : Prop := (∀ k, k < (Int32.toNatClampNeg (a2)) → c_X8_moveRow_607_3 a2 a3 (l_X8_moveRow_607_3 a2 a3 (M, 0) k)) ∧ (∀ k, k < (Int32.toNatClampNeg (a2)) → q_X8_moveRow_607_3 a2 a3 (l_X8_moveRow_607_3 a2 a3 (M, 0) k)) ∧ (¬ c_X8_moveRow_607_3 a2 a3 (l_X8_moveRow_607_3 a2 a3 (M, 0) (Int32.toNatClampNeg (a2)))) ∧ (if a2 ≤ ((l_X8_moveRow_607_3 a2 a3 (M, 0) (Int32.toNatClampNeg (a2))).2) then True else True)
set_option maxRecDepth 20000 in
theorem rnX8_moveRow_607 {d : Nat} {M : Mm} {a2 : Int32} {a3 : Int32}  (hp : p_X8_moveRow_607 M a2 a3) : Rn (d + 0) mX8_moveRow [.ref 600, .ref 607, .int a2, .int a3] M none (w_X8_moveRow_607 M a2 a3) := by
  refine Rn.of [some (.ref 600), some (.ref 607), some (.int a2), some (.int a3), none] (by decide +kernel) rfl (Nat.le_of_ble_eq_true rfl) rfl (fun J g hr => ?_)
  unfold p_X8_moveRow_607 at hp
  refine j_iconst g (n := 0) (0) (by decide +kernel) rfl ?_
  refine j_istore g (i := 4) (by decide +kernel) (by decide) ?_
  dsimp only [stL, clL, hdL]
  obtain ⟨h0, hp⟩ := hp
  have hc_3_1 := h0
  obtain ⟨h0, hp⟩ := hp
  have hq_3_1 := h0
  obtain ⟨h0, hp⟩ := hp
  have hx_3_1 := h0
  refine sh_X8_moveRow_607_3   g (σ0 := (M, 0)) (Int32.toNatClampNeg (a2)) hc_3_1 hq_3_1 ?_ 
  refine j_iload g (i := 4) (by decide +kernel) rfl ?_
  refine j_iload_n g (i := 2) (by decide +kernel) rfl ?_
  refine j_icmp_ge g (off := 52) (tgt := 58) (by decide +kernel) (by decide) (fun c6 => ?_) (fun c6 => ?_)
  · rw [if_pos (show a2 ≤ ((l_X8_moveRow_607_3 a2 a3 (M, 0) (Int32.toNatClampNeg (a2))).2) from c6)] at hp
    refine hr.2.2.2 _ _ _ (by decide +kernel) rfl rfl ?_
    · unfold w_X8_moveRow_607; first | (simp only [if_pos (show a2 ≤ ((l_X8_moveRow_607_3 a2 a3 (M, 0) (Int32.toNatClampNeg (a2))).2) from c6)]; done) | (simp only [if_pos (show a2 ≤ ((l_X8_moveRow_607_3 a2 a3 (M, 0) (Int32.toNatClampNeg (a2))).2) from c6)]; rfl) | rfl
  · rw [if_neg (show ¬ (a2 ≤ ((l_X8_moveRow_607_3 a2 a3 (M, 0) (Int32.toNatClampNeg (a2))).2)) from c6)] at hp
    refine absurd (ci_X8_moveRow_607_3.mpr ?_) hx_3_1
    simp only [if_neg (show ¬ (a2 ≤ ((l_X8_moveRow_607_3 a2 a3 (M, 0) (Int32.toNatClampNeg (a2))).2)) from c6)]
def c_X8_moveRow_608_3 (a2 : Int32) (a3 : Int32) (σ : Mm × Int32) : Prop := if a2 ≤ σ.2 then False else True
theorem ci_X8_moveRow_608_3 {a2 : Int32} {a3 : Int32}  {σ : Mm × Int32} : c_X8_moveRow_608_3 a2 a3 σ ↔ (if a2 ≤ σ.2 then False else True) := Iff.rfl
noncomputable def s_X8_moveRow_608_3 (a2 : Int32) (a3 : Int32) (σ : Mm × Int32) : Mm × Int32 := if a2 ≤ σ.2 then σ else if a3 = 0 then ((wi (wi σ.1 608 (Int32.toNatClampNeg σ.2) (σ.1.1 627 (Int32.toNatClampNeg (σ.1.1 600 57)))) 600 57 ((σ.1.1 600 57) + 1)), σ.2 + 1) else ((wi (wi σ.1 627 (Int32.toNatClampNeg (σ.1.1 600 57)) (σ.1.1 608 (Int32.toNatClampNeg σ.2))) 600 57 ((σ.1.1 600 57) + 1)), σ.2 + 1)
def q_X8_moveRow_608_3 (a2 : Int32) (a3 : Int32) (σ : Mm × Int32) : Prop := (if a2 ≤ σ.2 then True else (if a3 = 0 then (vp_in (σ.1.1 600 57) 110) ∧ (vp_in σ.2 8) ∧ True else (vp_in σ.2 8) ∧ (vp_in (σ.1.1 600 57) 110) ∧ True))
noncomputable def l_X8_moveRow_608_3 (a2 : Int32) (a3 : Int32) (σ0 : Mm × Int32) : Nat → Mm × Int32 := itN (fun _ σ => s_X8_moveRow_608_3 a2 a3 σ) σ0
theorem ps_X8_moveRow_608_3 {d : Nat} {J : Nat → Lc → List Value → Mm → Prop} {a2 : Int32} {a3 : Int32}  {σ : Mm × Int32}  (g : Good mX8_moveRow.1 mX8_moveRow.2.2.1 mX8_moveRow.2.2.2.1 (d + 0) J) (hc : c_X8_moveRow_608_3 a2 a3 σ) (hp : q_X8_moveRow_608_3 a2 a3 σ) (k : J 3 [some (.ref 600), some (.ref 608), some (.int a2), some (.int a3), some (.int ((s_X8_moveRow_608_3 a2 a3 σ).2))] [] ((s_X8_moveRow_608_3 a2 a3 σ).1)) : J 3 [some (.ref 600), some (.ref 608), some (.int a2), some (.int a3), some (.int σ.2)] [] σ.1 := by
  unfold c_X8_moveRow_608_3 at hc
  unfold q_X8_moveRow_608_3 at hp
  unfold s_X8_moveRow_608_3 at k
  refine j_iload g (i := 4) (by decide +kernel) rfl ?_
  refine j_iload_n g (i := 2) (by decide +kernel) rfl ?_
  refine j_icmp_ge g (off := 52) (tgt := 58) (by decide +kernel) (by decide) (fun c6 => ?_) (fun c6 => ?_)
  · (try rw [if_pos (show a2 ≤ σ.2 from c6)] at hc); (rw [if_pos (show a2 ≤ σ.2 from c6)] at hp); (try simp only [if_pos (show a2 ≤ σ.2 from c6)] at k)
    exact hc.elim
  · (try rw [if_neg (show ¬ (a2 ≤ σ.2) from c6)] at hc); (rw [if_neg (show ¬ (a2 ≤ σ.2) from c6)] at hp); (try simp only [if_neg (show ¬ (a2 ≤ σ.2) from c6)] at k)
    refine j_iload_n g (i := 3) (by decide +kernel) rfl ?_
    refine j_if_eq g (off := 19) (tgt := 29) (by decide +kernel) (by decide) (fun c10 => ?_) (fun c10 => ?_)
    · (try rw [if_pos (show a3 = 0 from c10)] at hc); (rw [if_pos (show a3 = 0 from c10)] at hp); (try simp only [if_pos (show a3 = 0 from c10)] at k)
      refine j_aload_n g (i := 1) (by decide +kernel) rfl ?_
      refine j_iload g (i := 4) (by decide +kernel) rfl ?_
      refine j_aload_n g (i := 0) (by decide +kernel) rfl ?_
      refine j_gA g (b := 627) f8_89 (by decide +kernel) (by decide +kernel) (by decide +kernel) (by decide +kernel) ?_
      refine j_aload_n g (i := 0) (by decide +kernel) rfl ?_
      refine j_gI g f8_463 (by decide +kernel) (by decide +kernel) (by decide +kernel) ?_
      obtain ⟨h0, hp⟩ := hp
      refine j_ia g 110 (by decide +kernel) (by decide +kernel) (by decide +kernel) h0 ?_
      obtain ⟨h0, hp⟩ := hp
      refine j_is g 8 (by decide +kernel) (by decide +kernel) (by decide +kernel) h0 ?_
      refine j_aload_n g (i := 0) (by decide +kernel) rfl ?_
      refine j_dup g (by decide +kernel) rfl ?_
      refine j_gI g f8_463 (by decide +kernel) (by decide +kernel) (by decide +kernel) ?_
      refine j_iconst g (n := 1) (1) (by decide +kernel) rfl ?_
      refine j_iadd g (by decide +kernel) ?_
      refine j_pI g f8_463 (fun q h => by cases h; rfl) (by decide +kernel) (by decide +kernel) (by decide +kernel) ?_
      refine j_iinc g (i := 4) (n := 1) (1) (by decide +kernel) rfl (by decide) rfl ?_
      dsimp only [stL, clL, hdL]
      refine j_goto g (off := -52) (tgt := 3) (by decide +kernel) (by decide) ?_
      exact k 
    · (try rw [if_neg (show ¬ (a3 = 0) from c10)] at hc); (rw [if_neg (show ¬ (a3 = 0) from c10)] at hp); (try simp only [if_neg (show ¬ (a3 = 0) from c10)] at k)
      refine j_aload_n g (i := 0) (by decide +kernel) rfl ?_
      refine j_gA g (b := 627) f8_89 (by decide +kernel) (by decide +kernel) (by decide +kernel) (by decide +kernel) ?_
      refine j_aload_n g (i := 0) (by decide +kernel) rfl ?_
      refine j_gI g f8_463 (by decide +kernel) (by decide +kernel) (by decide +kernel) ?_
      refine j_aload_n g (i := 1) (by decide +kernel) rfl ?_
      refine j_iload g (i := 4) (by decide +kernel) rfl ?_
      obtain ⟨h0, hp⟩ := hp
      refine j_ia g 8 (by decide +kernel) (by decide +kernel) (by decide +kernel) h0 ?_
      obtain ⟨h0, hp⟩ := hp
      refine j_is g 110 (by decide +kernel) (by decide +kernel) (by decide +kernel) h0 ?_
      refine j_goto g (off := 16) (tgt := 42) (by decide +kernel) (by decide) ?_
      refine j_aload_n g (i := 0) (by decide +kernel) rfl ?_
      refine j_dup g (by decide +kernel) rfl ?_
      refine j_gI g f8_463 (by decide +kernel) (by decide +kernel) (by decide +kernel) ?_
      refine j_iconst g (n := 1) (1) (by decide +kernel) rfl ?_
      refine j_iadd g (by decide +kernel) ?_
      refine j_pI g f8_463 (fun q h => by cases h; rfl) (by decide +kernel) (by decide +kernel) (by decide +kernel) ?_
      refine j_iinc g (i := 4) (n := 1) (1) (by decide +kernel) rfl (by decide) rfl ?_
      dsimp only [stL, clL, hdL]
      refine j_goto g (off := -52) (tgt := 3) (by decide +kernel) (by decide) ?_
      exact k 
theorem sh_X8_moveRow_608_3 {d : Nat} {J : Nat → Lc → List Value → Mm → Prop} {a2 : Int32} {a3 : Int32}  {σ0 : Mm × Int32}  (g : Good mX8_moveRow.1 mX8_moveRow.2.2.1 mX8_moveRow.2.2.2.1 (d + 0) J) : ∀ (N : Nat), (∀ k, k < N → c_X8_moveRow_608_3 a2 a3 (l_X8_moveRow_608_3 a2 a3 σ0 k)) → (∀ k, k < N → q_X8_moveRow_608_3 a2 a3 (l_X8_moveRow_608_3 a2 a3 σ0 k)) → (J 3 [some (.ref 600), some (.ref 608), some (.int a2), some (.int a3), some (.int ((l_X8_moveRow_608_3 a2 a3 σ0 N).2))] [] ((l_X8_moveRow_608_3 a2 a3 σ0 N).1)) → J 3 [some (.ref 600), some (.ref 608), some (.int a2), some (.int a3), some (.int σ0.2)] [] σ0.1
  | 0, _, _, k => k
  | N + 1, hc, hp, k => sh_X8_moveRow_608_3  g N (fun i hi => hc i (Nat.lt_succ_of_lt hi)) (fun i hi => hp i (Nat.lt_succ_of_lt hi)) (ps_X8_moveRow_608_3  g (hc N (Nat.lt_succ_self N)) (hp N (Nat.lt_succ_self N)) k)
noncomputable def w_X8_moveRow_608 (M : Mm) (a2 : Int32) (a3 : Int32) : Mm := if a2 ≤ ((l_X8_moveRow_608_3 a2 a3 (M, 0) (Int32.toNatClampNeg (a2))).2) then (l_X8_moveRow_608_3 a2 a3 (M, 0) (Int32.toNatClampNeg (a2))).1 else M
def p_X8_moveRow_608 (M : Mm) (a2 : Int32) (a3 : Int32) : Prop := (∀ k, k < (Int32.toNatClampNeg (a2)) → c_X8_moveRow_608_3 a2 a3 (l_X8_moveRow_608_3 a2 a3 (M, 0) k)) ∧ (∀ k, k < (Int32.toNatClampNeg (a2)) → q_X8_moveRow_608_3 a2 a3 (l_X8_moveRow_608_3 a2 a3 (M, 0) k)) ∧ (¬ c_X8_moveRow_608_3 a2 a3 (l_X8_moveRow_608_3 a2 a3 (M, 0) (Int32.toNatClampNeg (a2)))) ∧ (if a2 ≤ ((l_X8_moveRow_608_3 a2 a3 (M, 0) (Int32.toNatClampNeg (a2))).2) then True else True)
set_option maxRecDepth 20000 in
theorem rnX8_moveRow_608 {d : Nat} {M : Mm} {a2 : Int32} {a3 : Int32}  (hp : p_X8_moveRow_608 M a2 a3) : Rn (d + 0) mX8_moveRow [.ref 600, .ref 608, .int a2, .int a3] M none (w_X8_moveRow_608 M a2 a3) := by
  refine Rn.of [some (.ref 600), some (.ref 608), some (.int a2), some (.int a3), none] (by decide +kernel) rfl (Nat.le_of_ble_eq_true rfl) rfl (fun J g hr => ?_)
  unfold p_X8_moveRow_608 at hp
  refine j_iconst g (n := 0) (0) (by decide +kernel) rfl ?_
  refine j_istore g (i := 4) (by decide +kernel) (by decide) ?_
  dsimp only [stL, clL, hdL]
  obtain ⟨h0, hp⟩ := hp
  have hc_3_1 := h0
  obtain ⟨h0, hp⟩ := hp
  have hq_3_1 := h0
  obtain ⟨h0, hp⟩ := hp
  have hx_3_1 := h0
  refine sh_X8_moveRow_608_3   g (σ0 := (M, 0)) (Int32.toNatClampNeg (a2)) hc_3_1 hq_3_1 ?_ 
  refine j_iload g (i := 4) (by decide +kernel) rfl ?_
  refine j_iload_n g (i := 2) (by decide +kernel) rfl ?_
  refine j_icmp_ge g (off := 52) (tgt := 58) (by decide +kernel) (by decide) (fun c6 => ?_) (fun c6 => ?_)
  · rw [if_pos (show a2 ≤ ((l_X8_moveRow_608_3 a2 a3 (M, 0) (Int32.toNatClampNeg (a2))).2) from c6)] at hp
    refine hr.2.2.2 _ _ _ (by decide +kernel) rfl rfl ?_
    · unfold w_X8_moveRow_608; first | (simp only [if_pos (show a2 ≤ ((l_X8_moveRow_608_3 a2 a3 (M, 0) (Int32.toNatClampNeg (a2))).2) from c6)]; done) | (simp only [if_pos (show a2 ≤ ((l_X8_moveRow_608_3 a2 a3 (M, 0) (Int32.toNatClampNeg (a2))).2) from c6)]; rfl) | rfl
  · rw [if_neg (show ¬ (a2 ≤ ((l_X8_moveRow_608_3 a2 a3 (M, 0) (Int32.toNatClampNeg (a2))).2)) from c6)] at hp
    refine absurd (ci_X8_moveRow_608_3.mpr ?_) hx_3_1
    simp only [if_neg (show ¬ (a2 ≤ ((l_X8_moveRow_608_3 a2 a3 (M, 0) (Int32.toNatClampNeg (a2))).2)) from c6)]
noncomputable def w_X8_moveAll (M : Mm) (a1 : Int32) : Mm := (w_X8_moveRow_608 (w_X8_moveRow_607 (w_X8_moveRow_604 (w_X8_moveRow_603 (w_X8_moveRow_602 (w_X8_moveRow_601 (w_X8_moveRow_628 (wi (wi (wi (wi (wi (wi M 600 57 0) 628 0 (M.1 600 0)) 628 1 (M.1 600 1)) 628 2 (M.1 600 2)) 628 3 (M.1 600 11)) 628 4 (M.1 600 12)) (5 : Int32) a1) (3 : Int32) a1) (6 : Int32) a1) (48 : Int32) a1) (4 : Int32) a1) (22 : Int32) a1) (8 : Int32) a1)
def p_X8_moveAll (M : Mm) (a1 : Int32) : Prop := (p_X8_moveRow_628 (wi (wi (wi (wi (wi (wi M 600 57 0) 628 0 (M.1 600 0)) 628 1 (M.1 600 1)) 628 2 (M.1 600 2)) 628 3 (M.1 600 11)) 628 4 (M.1 600 12)) (5 : Int32) a1) ∧ (p_X8_moveRow_601 (w_X8_moveRow_628 (wi (wi (wi (wi (wi (wi M 600 57 0) 628 0 (M.1 600 0)) 628 1 (M.1 600 1)) 628 2 (M.1 600 2)) 628 3 (M.1 600 11)) 628 4 (M.1 600 12)) (5 : Int32) a1) (3 : Int32) a1) ∧ (p_X8_moveRow_602 (w_X8_moveRow_601 (w_X8_moveRow_628 (wi (wi (wi (wi (wi (wi M 600 57 0) 628 0 (M.1 600 0)) 628 1 (M.1 600 1)) 628 2 (M.1 600 2)) 628 3 (M.1 600 11)) 628 4 (M.1 600 12)) (5 : Int32) a1) (3 : Int32) a1) (6 : Int32) a1) ∧ (p_X8_moveRow_603 (w_X8_moveRow_602 (w_X8_moveRow_601 (w_X8_moveRow_628 (wi (wi (wi (wi (wi (wi M 600 57 0) 628 0 (M.1 600 0)) 628 1 (M.1 600 1)) 628 2 (M.1 600 2)) 628 3 (M.1 600 11)) 628 4 (M.1 600 12)) (5 : Int32) a1) (3 : Int32) a1) (6 : Int32) a1) (48 : Int32) a1) ∧ (p_X8_moveRow_604 (w_X8_moveRow_603 (w_X8_moveRow_602 (w_X8_moveRow_601 (w_X8_moveRow_628 (wi (wi (wi (wi (wi (wi M 600 57 0) 628 0 (M.1 600 0)) 628 1 (M.1 600 1)) 628 2 (M.1 600 2)) 628 3 (M.1 600 11)) 628 4 (M.1 600 12)) (5 : Int32) a1) (3 : Int32) a1) (6 : Int32) a1) (48 : Int32) a1) (4 : Int32) a1) ∧ (p_X8_moveRow_607 (w_X8_moveRow_604 (w_X8_moveRow_603 (w_X8_moveRow_602 (w_X8_moveRow_601 (w_X8_moveRow_628 (wi (wi (wi (wi (wi (wi M 600 57 0) 628 0 (M.1 600 0)) 628 1 (M.1 600 1)) 628 2 (M.1 600 2)) 628 3 (M.1 600 11)) 628 4 (M.1 600 12)) (5 : Int32) a1) (3 : Int32) a1) (6 : Int32) a1) (48 : Int32) a1) (4 : Int32) a1) (22 : Int32) a1) ∧ (p_X8_moveRow_608 (w_X8_moveRow_607 (w_X8_moveRow_604 (w_X8_moveRow_603 (w_X8_moveRow_602 (w_X8_moveRow_601 (w_X8_moveRow_628 (wi (wi (wi (wi (wi (wi M 600 57 0) 628 0 (M.1 600 0)) 628 1 (M.1 600 1)) 628 2 (M.1 600 2)) 628 3 (M.1 600 11)) 628 4 (M.1 600 12)) (5 : Int32) a1) (3 : Int32) a1) (6 : Int32) a1) (48 : Int32) a1) (4 : Int32) a1) (22 : Int32) a1) (8 : Int32) a1) ∧ True
set_option maxRecDepth 20000 in
theorem rnX8_moveAll {d : Nat} {M : Mm} {a1 : Int32}  (hp : p_X8_moveAll M a1) : Rn (d + 1) mX8_moveAll [.ref 600, .int a1] M none (w_X8_moveAll M a1) := by
  refine Rn.of [some (.ref 600), some (.int a1)] (by decide +kernel) rfl (Nat.le_of_ble_eq_true rfl) rfl (fun J g hr => ?_)
  unfold p_X8_moveAll at hp
  refine j_aload_n g (i := 0) (by decide +kernel) rfl ?_
  refine j_iconst g (n := 0) (0) (by decide +kernel) rfl ?_
  refine j_pI g f8_463 (fun q h => by cases h; rfl) (by decide +kernel) (by decide +kernel) (by decide +kernel) ?_
  refine j_aload_n g (i := 0) (by decide +kernel) rfl ?_
  refine j_gA g (b := 628) f8_92 (by decide +kernel) (by decide +kernel) (by decide +kernel) (by decide +kernel) ?_
  refine j_iconst g (n := 0) (0) (by decide +kernel) rfl ?_
  refine j_aload_n g (i := 0) (by decide +kernel) rfl ?_
  refine j_gI g f8_225 (by decide +kernel) (by decide +kernel) (by decide +kernel) ?_
  refine j_is g 5 (by decide +kernel) (by decide +kernel) (by decide +kernel) (vin_b (by decide +kernel)) ?_
  refine j_aload_n g (i := 0) (by decide +kernel) rfl ?_
  refine j_gA g (b := 628) f8_92 (by decide +kernel) (by decide +kernel) (by decide +kernel) (by decide +kernel) ?_
  refine j_iconst g (n := 1) (1) (by decide +kernel) rfl ?_
  refine j_aload_n g (i := 0) (by decide +kernel) rfl ?_
  refine j_gI g f8_228 (by decide +kernel) (by decide +kernel) (by decide +kernel) ?_
  refine j_is g 5 (by decide +kernel) (by decide +kernel) (by decide +kernel) (vin_b (by decide +kernel)) ?_
  refine j_aload_n g (i := 0) (by decide +kernel) rfl ?_
  refine j_gA g (b := 628) f8_92 (by decide +kernel) (by decide +kernel) (by decide +kernel) (by decide +kernel) ?_
  refine j_iconst g (n := 2) (2) (by decide +kernel) rfl ?_
  refine j_aload_n g (i := 0) (by decide +kernel) rfl ?_
  refine j_gI g f8_99 (by decide +kernel) (by decide +kernel) (by decide +kernel) ?_
  refine j_is g 5 (by decide +kernel) (by decide +kernel) (by decide +kernel) (vin_b (by decide +kernel)) ?_
  refine j_aload_n g (i := 0) (by decide +kernel) rfl ?_
  refine j_gA g (b := 628) f8_92 (by decide +kernel) (by decide +kernel) (by decide +kernel) (by decide +kernel) ?_
  refine j_iconst g (n := 3) (3) (by decide +kernel) rfl ?_
  refine j_aload_n g (i := 0) (by decide +kernel) rfl ?_
  refine j_gI g f8_231 (by decide +kernel) (by decide +kernel) (by decide +kernel) ?_
  refine j_is g 5 (by decide +kernel) (by decide +kernel) (by decide +kernel) (vin_b (by decide +kernel)) ?_
  refine j_aload_n g (i := 0) (by decide +kernel) rfl ?_
  refine j_gA g (b := 628) f8_92 (by decide +kernel) (by decide +kernel) (by decide +kernel) (by decide +kernel) ?_
  refine j_iconst g (n := 4) (4) (by decide +kernel) rfl ?_
  refine j_aload_n g (i := 0) (by decide +kernel) rfl ?_
  refine j_gI g f8_368 (by decide +kernel) (by decide +kernel) (by decide +kernel) ?_
  refine j_is g 5 (by decide +kernel) (by decide +kernel) (by decide +kernel) (vin_b (by decide +kernel)) ?_
  refine j_aload_n g (i := 0) (by decide +kernel) rfl ?_
  refine j_aload_n g (i := 0) (by decide +kernel) rfl ?_
  refine j_gA g (b := 628) f8_92 (by decide +kernel) (by decide +kernel) (by decide +kernel) (by decide +kernel) ?_
  refine j_iconst g (n := 5) (5) (by decide +kernel) rfl ?_
  refine j_iload_n g (i := 1) (by decide +kernel) rfl ?_
  obtain ⟨h0, hp⟩ := hp
  refine j_cV3v g v8_466 ⟨rfl, by decide⟩ (by decide +kernel) (by decide +kernel) (Nat.le_of_ble_eq_true rfl) (rnX8_moveRow_628 h0) ?_
  refine j_aload_n g (i := 0) (by decide +kernel) rfl ?_
  refine j_aload_n g (i := 0) (by decide +kernel) rfl ?_
  refine j_gA g (b := 601) f8_7 (by decide +kernel) (by decide +kernel) (by decide +kernel) (by decide +kernel) ?_
  refine j_iconst g (n := 3) (3) (by decide +kernel) rfl ?_
  refine j_iload_n g (i := 1) (by decide +kernel) rfl ?_
  obtain ⟨h0, hp⟩ := hp
  refine j_cV3v g v8_466 ⟨rfl, by decide⟩ (by decide +kernel) (by decide +kernel) (Nat.le_of_ble_eq_true rfl) (rnX8_moveRow_601 h0) ?_
  refine j_aload_n g (i := 0) (by decide +kernel) rfl ?_
  refine j_aload_n g (i := 0) (by decide +kernel) rfl ?_
  refine j_gA g (b := 602) f8_13 (by decide +kernel) (by decide +kernel) (by decide +kernel) (by decide +kernel) ?_
  refine j_bipush g (n := 6) (6) (by decide +kernel) (by decide +kernel) ?_
  refine j_iload_n g (i := 1) (by decide +kernel) rfl ?_
  obtain ⟨h0, hp⟩ := hp
  refine j_cV3v g v8_466 ⟨rfl, by decide⟩ (by decide +kernel) (by decide +kernel) (Nat.le_of_ble_eq_true rfl) (rnX8_moveRow_602 h0) ?_
  refine j_aload_n g (i := 0) (by decide +kernel) rfl ?_
  refine j_aload_n g (i := 0) (by decide +kernel) rfl ?_
  refine j_gA g (b := 603) f8_16 (by decide +kernel) (by decide +kernel) (by decide +kernel) (by decide +kernel) ?_
  refine j_bipush g (n := 48) (48) (by decide +kernel) (by decide +kernel) ?_
  refine j_iload_n g (i := 1) (by decide +kernel) rfl ?_
  obtain ⟨h0, hp⟩ := hp
  refine j_cV3v g v8_466 ⟨rfl, by decide⟩ (by decide +kernel) (by decide +kernel) (Nat.le_of_ble_eq_true rfl) (rnX8_moveRow_603 h0) ?_
  refine j_aload_n g (i := 0) (by decide +kernel) rfl ?_
  refine j_aload_n g (i := 0) (by decide +kernel) rfl ?_
  refine j_gA g (b := 604) f8_19 (by decide +kernel) (by decide +kernel) (by decide +kernel) (by decide +kernel) ?_
  refine j_iconst g (n := 4) (4) (by decide +kernel) rfl ?_
  refine j_iload_n g (i := 1) (by decide +kernel) rfl ?_
  obtain ⟨h0, hp⟩ := hp
  refine j_cV3v g v8_466 ⟨rfl, by decide⟩ (by decide +kernel) (by decide +kernel) (Nat.le_of_ble_eq_true rfl) (rnX8_moveRow_604 h0) ?_
  refine j_aload_n g (i := 0) (by decide +kernel) rfl ?_
  refine j_aload_n g (i := 0) (by decide +kernel) rfl ?_
  refine j_gA g (b := 607) f8_28 (by decide +kernel) (by decide +kernel) (by decide +kernel) (by decide +kernel) ?_
  refine j_bipush g (n := 22) (22) (by decide +kernel) (by decide +kernel) ?_
  refine j_iload_n g (i := 1) (by decide +kernel) rfl ?_
  obtain ⟨h0, hp⟩ := hp
  refine j_cV3v g v8_466 ⟨rfl, by decide⟩ (by decide +kernel) (by decide +kernel) (Nat.le_of_ble_eq_true rfl) (rnX8_moveRow_607 h0) ?_
  refine j_aload_n g (i := 0) (by decide +kernel) rfl ?_
  refine j_aload_n g (i := 0) (by decide +kernel) rfl ?_
  refine j_gA g (b := 608) f8_31 (by decide +kernel) (by decide +kernel) (by decide +kernel) (by decide +kernel) ?_
  refine j_bipush g (n := 8) (8) (by decide +kernel) (by decide +kernel) ?_
  refine j_iload_n g (i := 1) (by decide +kernel) rfl ?_
  obtain ⟨h0, hp⟩ := hp
  refine j_cV3v g v8_466 ⟨rfl, by decide⟩ (by decide +kernel) (by decide +kernel) (Nat.le_of_ble_eq_true rfl) (rnX8_moveRow_608 h0) ?_
  refine hr.2.2.2 _ _ _ (by decide +kernel) rfl rfl ?_
  · unfold w_X8_moveAll; rfl
noncomputable def r_X8_keep (M : Mm)  : Int32 := 1
noncomputable def w_X8_keep (M : Mm)  : Mm := (wi (w_X8_moveAll M (1 : Int32)) 600 55 1)
def p_X8_keep (M : Mm)  : Prop := (p_X8_moveAll M (1 : Int32)) ∧ True
set_option maxRecDepth 20000 in
theorem rnX8_keep {d : Nat} {M : Mm}   (hp : p_X8_keep M ) : Rn (d + 2) mX8_keep [.ref 600] M (some (.int (r_X8_keep M ))) (w_X8_keep M ) := by
  refine Rn.of [some (.ref 600)] (by decide +kernel) rfl (Nat.le_of_ble_eq_true rfl) rfl (fun J g hr => ?_)
  unfold p_X8_keep at hp
  refine j_aload_n g (i := 0) (by decide +kernel) rfl ?_
  refine j_iconst g (n := 1) (1) (by decide +kernel) rfl ?_
  obtain ⟨h0, hp⟩ := hp
  refine j_cV1v g v8_470 ⟨rfl, by decide⟩ (by decide +kernel) (by decide +kernel) (Nat.le_of_ble_eq_true rfl) (rnX8_moveAll h0) ?_
  refine j_aload_n g (i := 0) (by decide +kernel) rfl ?_
  refine j_iconst g (n := 1) (1) (by decide +kernel) rfl ?_
  refine j_pZ g f8_473 (fun q h => by cases h; rfl) (by decide +kernel) (by decide +kernel) (by decide +kernel) (by decide) ?_
  refine j_iconst g (n := 1) (1) (by decide +kernel) rfl ?_
  refine hr.1 _ _ _ _ (by decide +kernel) ⟨_, rfl, by first | rfl | exact b2i_nar | decide +kernel⟩ ?_ ?_
  · unfold r_X8_keep; rfl
  · unfold w_X8_keep; rfl
