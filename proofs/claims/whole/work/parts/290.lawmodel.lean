/-- the script's reads -/
def hw_sx (xs : Nat → Int32) (N : Nat) (i : Int32) : Option Int32 := if i < 0 ∨ N ≤ i.toNatClampNeg then none else some (xs i.toNatClampNeg)
def mL_b1292 (xs : Nat → Int32) (N : Nat) (k18 : Option Nat → Option Nat → Int32 → hw_S → Option (Int32 × hw_S)) (l1 : Option Nat) (l2 : Option Nat) (l3 : Int32) (σ : hw_S) : Option (Int32 × hw_S) :=
  k18 l1 l2 (l3 + 7) σ
def mL_b160 (xs : Nat → Int32) (N : Nat) (k18 : Option Nat → Option Nat → Int32 → hw_S → Option (Int32 × hw_S)) (l1 : Option Nat) (l2 : Option Nat) (l3 : Int32) (σ : hw_S) : Option (Int32 × hw_S) :=
  (hw_sx xs N (l3 + (1 : Int32))).bind fun v165 =>
  (hw_sx xs N (l3 + (2 : Int32))).bind fun v170 =>
  (hw_rv (hw_q 11) l1 σ).bind fun a171 =>
  hw_b2 (m11_stuff a171 v165 v170 σ) fun v171 σ171 =>
  (hw_sx xs N (l3 + (1 : Int32))).bind fun v179 =>
  (hw_sx xs N (l3 + (2 : Int32))).bind fun v184 =>
  (hw_rv (hw_q 12) l2 σ171).bind fun a185 =>
  hw_b2 (m12_stuff a185 v179 v184 σ171) fun v185 σ185 =>
  (if v171 = v185 then
  mL_b1292 xs N (k18) l1 l2 l3 σ185
  else
  some ((0 : Int32), σ185))
def mL_b193 (xs : Nat → Int32) (N : Nat) (k18 : Option Nat → Option Nat → Int32 → hw_S → Option (Int32 × hw_S)) (l1 : Option Nat) (l2 : Option Nat) (l3 : Int32) (σ : hw_S) : Option (Int32 × hw_S) :=
  (hw_sx xs N (l3 + (1 : Int32))).bind fun v198 =>
  (hw_sx xs N (l3 + (2 : Int32))).bind fun v203 =>
  (hw_rv (hw_q 11) l1 σ).bind fun a204 =>
  (m11_of a204 v198 v203 σ).bind fun v204 =>
  (hw_sx xs N (l3 + (1 : Int32))).bind fun v212 =>
  (hw_sx xs N (l3 + (2 : Int32))).bind fun v217 =>
  (hw_rv (hw_q 12) l2 σ).bind fun a218 =>
  (m12_of a218 v212 v217 σ).bind fun v218 =>
  (if v204 = v218 then
  mL_b1292 xs N (k18) l1 l2 l3 σ
  else
  some ((0 : Int32), σ))
def mL_b226 (xs : Nat → Int32) (N : Nat) (k18 : Option Nat → Option Nat → Int32 → hw_S → Option (Int32 × hw_S)) (l1 : Option Nat) (l2 : Option Nat) (l3 : Int32) (σ : hw_S) : Option (Int32 × hw_S) :=
  (hw_sx xs N (l3 + (1 : Int32))).bind fun v231 =>
  (hw_sx xs N (l3 + (2 : Int32))).bind fun v240 =>
  (hw_sx xs N (l3 + (3 : Int32))).bind fun v251 =>
  (hw_rv (hw_q 11) l1 σ).bind fun a252 =>
  hw_b2 (m11_feed a252 (((Int32.toInt64 v231) <<< ((Int32.toInt64 (32 : Int32)) &&& 63)) ||| ((Int32.toInt64 v240) &&& (4294967295 : Int64))) v251 σ) fun v252 σ252 =>
  (hw_sx xs N (l3 + (1 : Int32))).bind fun v260 =>
  (hw_sx xs N (l3 + (2 : Int32))).bind fun v269 =>
  (hw_sx xs N (l3 + (3 : Int32))).bind fun v280 =>
  (hw_rv (hw_q 12) l2 σ252).bind fun a281 =>
  hw_b2 (m12_feed a281 (((Int32.toInt64 v260) <<< ((Int32.toInt64 (32 : Int32)) &&& 63)) ||| ((Int32.toInt64 v269) &&& (4294967295 : Int64))) v280 σ252) fun v281 σ281 =>
  (if v252 = v281 then
  mL_b1292 xs N (k18) l1 l2 l3 σ281
  else
  some ((0 : Int32), σ281))
def mL_b289 (xs : Nat → Int32) (N : Nat) (k18 : Option Nat → Option Nat → Int32 → hw_S → Option (Int32 × hw_S)) (l1 : Option Nat) (l2 : Option Nat) (l3 : Int32) (σ : hw_S) : Option (Int32 × hw_S) :=
  (hw_sx xs N (l3 + (1 : Int32))).bind fun v294 =>
  (hw_sx xs N (l3 + (2 : Int32))).bind fun v299 =>
  (hw_rv (hw_q 11) l1 σ).bind fun a300 =>
  hw_b2 (m11_law a300 v294 v299 σ) fun v300 σ300 =>
  (hw_sx xs N (l3 + (1 : Int32))).bind fun v308 =>
  (hw_sx xs N (l3 + (2 : Int32))).bind fun v313 =>
  (hw_rv (hw_q 12) l2 σ300).bind fun a314 =>
  hw_b2 (m12_law a314 v308 v313 σ300) fun v314 σ314 =>
  (if v300 = v314 then
  mL_b1292 xs N (k18) l1 l2 l3 σ314
  else
  some ((0 : Int32), σ314))
def mL_b322 (xs : Nat → Int32) (N : Nat) (k18 : Option Nat → Option Nat → Int32 → hw_S → Option (Int32 × hw_S)) (l1 : Option Nat) (l2 : Option Nat) (l3 : Int32) (σ : hw_S) : Option (Int32 × hw_S) :=
  (hw_sx xs N (l3 + (1 : Int32))).bind fun v327 =>
  (hw_sx xs N (l3 + (2 : Int32))).bind fun v332 =>
  (hw_rv (hw_q 11) l1 σ).bind fun a333 =>
  (m11_told a333 v327 v332 σ).bind fun v333 =>
  (hw_sx xs N (l3 + (1 : Int32))).bind fun v341 =>
  (hw_sx xs N (l3 + (2 : Int32))).bind fun v346 =>
  (hw_rv (hw_q 12) l2 σ).bind fun a347 =>
  (m12_told a347 v341 v346 σ).bind fun v347 =>
  (if v333 = v347 then
  mL_b1292 xs N (k18) l1 l2 l3 σ
  else
  some ((0 : Int32), σ))
def mL_b355 (xs : Nat → Int32) (N : Nat) (k18 : Option Nat → Option Nat → Int32 → hw_S → Option (Int32 × hw_S)) (l1 : Option Nat) (l2 : Option Nat) (l3 : Int32) (σ : hw_S) : Option (Int32 × hw_S) :=
  (hw_sx xs N (l3 + (1 : Int32))).bind fun v360 =>
  (hw_sx xs N (l3 + (2 : Int32))).bind fun v365 =>
  (hw_sx xs N (l3 + (3 : Int32))).bind fun v370 =>
  (hw_sx xs N (l3 + (4 : Int32))).bind fun v375 =>
  (hw_rv (hw_q 11) l1 σ).bind fun a376 =>
  (m11_winds a376 v360 v365 v370 v375 σ).bind fun v376 =>
  (hw_sx xs N (l3 + (1 : Int32))).bind fun v384 =>
  (hw_sx xs N (l3 + (2 : Int32))).bind fun v389 =>
  (hw_sx xs N (l3 + (3 : Int32))).bind fun v394 =>
  (hw_sx xs N (l3 + (4 : Int32))).bind fun v399 =>
  (hw_rv (hw_q 12) l2 σ).bind fun a400 =>
  hw_b2 (m12_winds a400 v384 v389 v394 v399 σ) fun v400 σ400 =>
  (if v376 = v400 then
  mL_b1292 xs N (k18) l1 l2 l3 σ400
  else
  some ((0 : Int32), σ400))
def mL_b408 (xs : Nat → Int32) (N : Nat) (k18 : Option Nat → Option Nat → Int32 → hw_S → Option (Int32 × hw_S)) (l1 : Option Nat) (l2 : Option Nat) (l3 : Int32) (σ : hw_S) : Option (Int32 × hw_S) :=
  (hw_sx xs N (l3 + (1 : Int32))).bind fun v413 =>
  (hw_rv (hw_q 11) l1 σ).bind fun a414 =>
  hw_b2 (m11_tick a414 v413 σ) fun v414 σ414 =>
  (hw_sx xs N (l3 + (1 : Int32))).bind fun v422 =>
  (hw_rv (hw_q 12) l2 σ414).bind fun a423 =>
  hw_b2 (m12_tick a423 v422 σ414) fun v423 σ423 =>
  (if v414 = v423 then
  mL_b1292 xs N (k18) l1 l2 l3 σ423
  else
  some ((0 : Int32), σ423))
def mL_b431 (xs : Nat → Int32) (N : Nat) (k18 : Option Nat → Option Nat → Int32 → hw_S → Option (Int32 × hw_S)) (l1 : Option Nat) (l2 : Option Nat) (l3 : Int32) (σ : hw_S) : Option (Int32 × hw_S) :=
  (hw_sx xs N (l3 + (1 : Int32))).bind fun v436 =>
  (hw_sx xs N (l3 + (2 : Int32))).bind fun v441 =>
  (hw_sx xs N (l3 + (3 : Int32))).bind fun v446 =>
  (hw_rv (hw_q 11) l1 σ).bind fun a447 =>
  hw_b2 (m11_run a447 v436 v441 v446 σ) fun v447 σ447 =>
  (hw_sx xs N (l3 + (1 : Int32))).bind fun v455 =>
  (hw_sx xs N (l3 + (2 : Int32))).bind fun v460 =>
  (hw_sx xs N (l3 + (3 : Int32))).bind fun v465 =>
  (hw_rv (hw_q 12) l2 σ447).bind fun a466 =>
  hw_b2 (m12_run a466 v455 v460 v465 σ447) fun v466 σ466 =>
  (if v447 = v466 then
  mL_b1292 xs N (k18) l1 l2 l3 σ466
  else
  some ((0 : Int32), σ466))
def mL_b545 (xs : Nat → Int32) (N : Nat) (k18 : Option Nat → Option Nat → Int32 → hw_S → Option (Int32 × hw_S)) (l1 : Option Nat) (l2 : Option Nat) (l3 : Int32) (t0 : Int32) (t1 : Option Nat) (t2 : Int32) (t3 : Int32) (t4 : Int32) (t5 : Int32) (t6 : Int32) (σ : hw_S) : Option (Int32 × hw_S) :=
  (hw_rv (hw_q 12) t1 σ).bind fun a545 =>
  hw_b2 (m12_curve a545 t2 t3 t4 t5 t6 σ) fun v545 σ545 =>
  (if t0 = v545 then
  mL_b1292 xs N (k18) l1 l2 l3 σ545
  else
  some ((0 : Int32), σ545))
def mL_b508 (xs : Nat → Int32) (N : Nat) (k18 : Option Nat → Option Nat → Int32 → hw_S → Option (Int32 × hw_S)) (l1 : Option Nat) (l2 : Option Nat) (l3 : Int32) (t0 : Option Nat) (t1 : Int32) (t2 : Int32) (t3 : Int32) (t4 : Int32) (t5 : Int32) (σ : hw_S) : Option (Int32 × hw_S) :=
  (hw_rv (hw_q 11) t0 σ).bind fun a508 =>
  hw_b2 (m11_curve a508 t1 t2 t3 t4 t5 σ) fun v508 σ508 =>
  (hw_sx xs N (l3 + (1 : Int32))).bind fun v516 =>
  (hw_sx xs N (l3 + (2 : Int32))).bind fun v521 =>
  (hw_sx xs N (l3 + (3 : Int32))).bind fun v526 =>
  (hw_sx xs N (l3 + (4 : Int32))).bind fun v531 =>
  (hw_sx xs N (l3 + (5 : Int32))).bind fun v536 =>
  (if v536 = 0 then
  mL_b545 xs N (k18) l1 l2 l3 v508 l2 v516 v521 v526 v531 (0 : Int32) σ508
  else
  mL_b545 xs N (k18) l1 l2 l3 v508 l2 v516 v521 v526 v531 (1 : Int32) σ508)
def mL_b474 (xs : Nat → Int32) (N : Nat) (k18 : Option Nat → Option Nat → Int32 → hw_S → Option (Int32 × hw_S)) (l1 : Option Nat) (l2 : Option Nat) (l3 : Int32) (σ : hw_S) : Option (Int32 × hw_S) :=
  (hw_sx xs N (l3 + (1 : Int32))).bind fun v479 =>
  (hw_sx xs N (l3 + (2 : Int32))).bind fun v484 =>
  (hw_sx xs N (l3 + (3 : Int32))).bind fun v489 =>
  (hw_sx xs N (l3 + (4 : Int32))).bind fun v494 =>
  (hw_sx xs N (l3 + (5 : Int32))).bind fun v499 =>
  (if v499 = 0 then
  mL_b508 xs N (k18) l1 l2 l3 l1 v479 v484 v489 v494 (0 : Int32) σ
  else
  mL_b508 xs N (k18) l1 l2 l3 l1 v479 v484 v489 v494 (1 : Int32) σ)
def mL_b553 (xs : Nat → Int32) (N : Nat) (k18 : Option Nat → Option Nat → Int32 → hw_S → Option (Int32 × hw_S)) (l1 : Option Nat) (l2 : Option Nat) (l3 : Int32) (σ : hw_S) : Option (Int32 × hw_S) :=
  (hw_sx xs N (l3 + (1 : Int32))).bind fun v558 =>
  (hw_sx xs N (l3 + (2 : Int32))).bind fun v563 =>
  (hw_sx xs N (l3 + (3 : Int32))).bind fun v568 =>
  (hw_sx xs N (l3 + (4 : Int32))).bind fun v573 =>
  (hw_sx xs N (l3 + (5 : Int32))).bind fun v578 =>
  (hw_rv (hw_q 11) l1 σ).bind fun a579 =>
  hw_b2 (m11_jumps a579 v558 v563 v568 v573 v578 σ) fun v579 σ579 =>
  (hw_sx xs N (l3 + (1 : Int32))).bind fun v587 =>
  (hw_sx xs N (l3 + (2 : Int32))).bind fun v592 =>
  (hw_sx xs N (l3 + (3 : Int32))).bind fun v597 =>
  (hw_sx xs N (l3 + (4 : Int32))).bind fun v602 =>
  (hw_sx xs N (l3 + (5 : Int32))).bind fun v607 =>
  (hw_rv (hw_q 12) l2 σ579).bind fun a608 =>
  hw_b2 (m12_jumps a608 v587 v592 v597 v602 v607 σ579) fun v608 σ608 =>
  (if v579 = v608 then
  mL_b1292 xs N (k18) l1 l2 l3 σ608
  else
  some ((0 : Int32), σ608))
def mL_b616 (xs : Nat → Int32) (N : Nat) (k18 : Option Nat → Option Nat → Int32 → hw_S → Option (Int32 × hw_S)) (l1 : Option Nat) (l2 : Option Nat) (l3 : Int32) (σ : hw_S) : Option (Int32 × hw_S) :=
  (hw_sx xs N (l3 + (1 : Int32))).bind fun v621 =>
  (hw_sx xs N (l3 + (2 : Int32))).bind fun v626 =>
  (hw_sx xs N (l3 + (3 : Int32))).bind fun v631 =>
  (hw_sx xs N (l3 + (4 : Int32))).bind fun v636 =>
  (hw_rv (hw_q 11) l1 σ).bind fun a637 =>
  hw_b2 (m11_several a637 v621 v626 v631 v636 σ) fun v637 σ637 =>
  (hw_sx xs N (l3 + (1 : Int32))).bind fun v645 =>
  (hw_sx xs N (l3 + (2 : Int32))).bind fun v650 =>
  (hw_sx xs N (l3 + (3 : Int32))).bind fun v655 =>
  (hw_sx xs N (l3 + (4 : Int32))).bind fun v660 =>
  (hw_rv (hw_q 12) l2 σ637).bind fun a661 =>
  hw_b2 (m12_several a661 v645 v650 v655 v660 σ637) fun v661 σ661 =>
  (if v637 = v661 then
  mL_b1292 xs N (k18) l1 l2 l3 σ661
  else
  some ((0 : Int32), σ661))
def mL_b669 (xs : Nat → Int32) (N : Nat) (k18 : Option Nat → Option Nat → Int32 → hw_S → Option (Int32 × hw_S)) (l1 : Option Nat) (l2 : Option Nat) (l3 : Int32) (σ : hw_S) : Option (Int32 × hw_S) :=
  (hw_sx xs N (l3 + (1 : Int32))).bind fun v674 =>
  (hw_sx xs N (l3 + (2 : Int32))).bind fun v679 =>
  (hw_sx xs N (l3 + (3 : Int32))).bind fun v684 =>
  (hw_sx xs N (l3 + (4 : Int32))).bind fun v689 =>
  (hw_rv (hw_q 11) l1 σ).bind fun a690 =>
  hw_b2 (m11_order a690 v674 v679 v684 v689 σ) fun v690 σ690 =>
  (hw_sx xs N (l3 + (1 : Int32))).bind fun v698 =>
  (hw_sx xs N (l3 + (2 : Int32))).bind fun v703 =>
  (hw_sx xs N (l3 + (3 : Int32))).bind fun v708 =>
  (hw_sx xs N (l3 + (4 : Int32))).bind fun v713 =>
  (hw_rv (hw_q 12) l2 σ690).bind fun a714 =>
  hw_b2 (m12_order a714 v698 v703 v708 v713 σ690) fun v714 σ714 =>
  (if v690 = v714 then
  mL_b1292 xs N (k18) l1 l2 l3 σ714
  else
  some ((0 : Int32), σ714))
def mL_b722 (xs : Nat → Int32) (N : Nat) (k18 : Option Nat → Option Nat → Int32 → hw_S → Option (Int32 × hw_S)) (l1 : Option Nat) (l2 : Option Nat) (l3 : Int32) (σ : hw_S) : Option (Int32 × hw_S) :=
  (hw_sx xs N (l3 + (1 : Int32))).bind fun v727 =>
  (hw_rv (hw_q 11) l1 σ).bind fun a728 =>
  hw_b2 (m11_want a728 v727 σ) fun v728 σ728 =>
  (hw_sx xs N (l3 + (1 : Int32))).bind fun v736 =>
  (hw_rv (hw_q 12) l2 σ728).bind fun a737 =>
  hw_b2 (m12_want a737 v736 σ728) fun v737 σ737 =>
  (if v728 = v737 then
  mL_b1292 xs N (k18) l1 l2 l3 σ737
  else
  some ((0 : Int32), σ737))
def mL_b745 (xs : Nat → Int32) (N : Nat) (k18 : Option Nat → Option Nat → Int32 → hw_S → Option (Int32 × hw_S)) (l1 : Option Nat) (l2 : Option Nat) (l3 : Int32) (σ : hw_S) : Option (Int32 × hw_S) :=
  (hw_sx xs N (l3 + (1 : Int32))).bind fun v750 =>
  (hw_sx xs N (l3 + (2 : Int32))).bind fun v755 =>
  (hw_sx xs N (l3 + (3 : Int32))).bind fun v760 =>
  (hw_sx xs N (l3 + (4 : Int32))).bind fun v765 =>
  (hw_sx xs N (l3 + (5 : Int32))).bind fun v770 =>
  (hw_rv (hw_q 11) l1 σ).bind fun a771 =>
  hw_b2 (m11_found a771 v750 v755 v760 v765 v770 σ) fun v771 σ771 =>
  (hw_sx xs N (l3 + (1 : Int32))).bind fun v779 =>
  (hw_sx xs N (l3 + (2 : Int32))).bind fun v784 =>
  (hw_sx xs N (l3 + (3 : Int32))).bind fun v789 =>
  (hw_sx xs N (l3 + (4 : Int32))).bind fun v794 =>
  (hw_sx xs N (l3 + (5 : Int32))).bind fun v799 =>
  (hw_rv (hw_q 12) l2 σ771).bind fun a800 =>
  hw_b2 (m12_found a800 v779 v784 v789 v794 v799 σ771) fun v800 σ800 =>
  (if v771 = v800 then
  mL_b1292 xs N (k18) l1 l2 l3 σ800
  else
  some ((0 : Int32), σ800))
def mL_b808 (xs : Nat → Int32) (N : Nat) (k18 : Option Nat → Option Nat → Int32 → hw_S → Option (Int32 × hw_S)) (l1 : Option Nat) (l2 : Option Nat) (l3 : Int32) (σ : hw_S) : Option (Int32 × hw_S) :=
  (hw_sx xs N (l3 + (1 : Int32))).bind fun v813 =>
  (hw_sx xs N (l3 + (2 : Int32))).bind fun v818 =>
  (hw_sx xs N (l3 + (3 : Int32))).bind fun v823 =>
  (hw_sx xs N (l3 + (4 : Int32))).bind fun v828 =>
  (hw_rv (hw_q 11) l1 σ).bind fun a829 =>
  (m11_bears a829 v813 v818 v823 v828 σ).bind fun v829 =>
  (hw_sx xs N (l3 + (1 : Int32))).bind fun v837 =>
  (hw_sx xs N (l3 + (2 : Int32))).bind fun v842 =>
  (hw_sx xs N (l3 + (3 : Int32))).bind fun v847 =>
  (hw_sx xs N (l3 + (4 : Int32))).bind fun v852 =>
  (hw_rv (hw_q 12) l2 σ).bind fun a853 =>
  hw_b2 (m12_bears a853 v837 v842 v847 v852 σ) fun v853 σ853 =>
  (if v829 = v853 then
  mL_b1292 xs N (k18) l1 l2 l3 σ853
  else
  some ((0 : Int32), σ853))
def mL_b861 (xs : Nat → Int32) (N : Nat) (k18 : Option Nat → Option Nat → Int32 → hw_S → Option (Int32 × hw_S)) (l1 : Option Nat) (l2 : Option Nat) (l3 : Int32) (σ : hw_S) : Option (Int32 × hw_S) :=
  (hw_sx xs N (l3 + (1 : Int32))).bind fun v866 =>
  (hw_sx xs N (l3 + (2 : Int32))).bind fun v871 =>
  (hw_sx xs N (l3 + (3 : Int32))).bind fun v876 =>
  (hw_rv (hw_q 11) l1 σ).bind fun a877 =>
  hw_b2 (m11_film a877 v866 v871 v876 σ) fun v877 σ877 =>
  (hw_sx xs N (l3 + (1 : Int32))).bind fun v885 =>
  (hw_sx xs N (l3 + (2 : Int32))).bind fun v890 =>
  (hw_sx xs N (l3 + (3 : Int32))).bind fun v895 =>
  (hw_rv (hw_q 12) l2 σ877).bind fun a896 =>
  hw_b2 (m12_film a896 v885 v890 v895 σ877) fun v896 σ896 =>
  (if v877 = v896 then
  mL_b1292 xs N (k18) l1 l2 l3 σ896
  else
  some ((0 : Int32), σ896))
def mL_b904 (xs : Nat → Int32) (N : Nat) (k18 : Option Nat → Option Nat → Int32 → hw_S → Option (Int32 × hw_S)) (l1 : Option Nat) (l2 : Option Nat) (l3 : Int32) (σ : hw_S) : Option (Int32 × hw_S) :=
  (hw_sx xs N (l3 + (1 : Int32))).bind fun v909 =>
  (hw_rv (hw_q 11) l1 σ).bind fun a910 =>
  (m11_off a910 v909 σ).bind fun v910 =>
  (hw_sx xs N (l3 + (1 : Int32))).bind fun v918 =>
  (hw_rv (hw_q 12) l2 σ).bind fun a919 =>
  hw_b2 (m12_off a919 v918 σ) fun v919 σ919 =>
  (if v910 = v919 then
  mL_b1292 xs N (k18) l1 l2 l3 σ919
  else
  some ((0 : Int32), σ919))
def mL_b927 (xs : Nat → Int32) (N : Nat) (k18 : Option Nat → Option Nat → Int32 → hw_S → Option (Int32 × hw_S)) (l1 : Option Nat) (l2 : Option Nat) (l3 : Int32) (σ : hw_S) : Option (Int32 × hw_S) :=
  (hw_rv (hw_q 11) l1 σ).bind fun a928 =>
  (m11_which a928 σ).bind fun v928 =>
  (hw_rv (hw_q 12) l2 σ).bind fun a932 =>
  hw_b2 (m12_which a932 σ) fun v932 σ932 =>
  (if v928 = v932 then
  mL_b1292 xs N (k18) l1 l2 l3 σ932
  else
  some ((0 : Int32), σ932))
def mL_b940 (xs : Nat → Int32) (N : Nat) (k18 : Option Nat → Option Nat → Int32 → hw_S → Option (Int32 × hw_S)) (l1 : Option Nat) (l2 : Option Nat) (l3 : Int32) (σ : hw_S) : Option (Int32 × hw_S) :=
  (hw_sx xs N (l3 + (1 : Int32))).bind fun v945 =>
  (hw_sx xs N (l3 + (2 : Int32))).bind fun v950 =>
  (hw_rv (hw_q 11) l1 σ).bind fun a951 =>
  (m11_fits a951 v945 v950 σ).bind fun v951 =>
  (hw_sx xs N (l3 + (1 : Int32))).bind fun v959 =>
  (hw_sx xs N (l3 + (2 : Int32))).bind fun v964 =>
  (hw_rv (hw_q 12) l2 σ).bind fun a965 =>
  hw_b2 (m12_fits a965 v959 v964 σ) fun v965 σ965 =>
  (if v951 = v965 then
  mL_b1292 xs N (k18) l1 l2 l3 σ965
  else
  some ((0 : Int32), σ965))
def mL_b973 (xs : Nat → Int32) (N : Nat) (k18 : Option Nat → Option Nat → Int32 → hw_S → Option (Int32 × hw_S)) (l1 : Option Nat) (l2 : Option Nat) (l3 : Int32) (σ : hw_S) : Option (Int32 × hw_S) :=
  (hw_sx xs N (l3 + (1 : Int32))).bind fun v978 =>
  (hw_sx xs N (l3 + (2 : Int32))).bind fun v983 =>
  (hw_sx xs N (l3 + (3 : Int32))).bind fun v988 =>
  (hw_sx xs N (l3 + (4 : Int32))).bind fun v993 =>
  (hw_sx xs N (l3 + (5 : Int32))).bind fun v998 =>
  (hw_sx xs N (l3 + (6 : Int32))).bind fun v1004 =>
  (hw_rv (hw_q 11) l1 σ).bind fun a1005 =>
  hw_b2 (m11_read a1005 v978 v983 v988 v993 v998 v1004 σ) fun v1005 σ1005 =>
  (hw_sx xs N (l3 + (1 : Int32))).bind fun v1013 =>
  (hw_sx xs N (l3 + (2 : Int32))).bind fun v1018 =>
  (hw_sx xs N (l3 + (3 : Int32))).bind fun v1023 =>
  (hw_sx xs N (l3 + (4 : Int32))).bind fun v1028 =>
  (hw_sx xs N (l3 + (5 : Int32))).bind fun v1033 =>
  (hw_sx xs N (l3 + (6 : Int32))).bind fun v1039 =>
  (hw_rv (hw_q 12) l2 σ1005).bind fun a1040 =>
  hw_b2 (m12_read a1040 v1013 v1018 v1023 v1028 v1033 v1039 σ1005) fun v1040 σ1040 =>
  (if v1005 = v1040 then
  mL_b1292 xs N (k18) l1 l2 l3 σ1040
  else
  some ((0 : Int32), σ1040))
def mL_b1048 (xs : Nat → Int32) (N : Nat) (k18 : Option Nat → Option Nat → Int32 → hw_S → Option (Int32 × hw_S)) (l1 : Option Nat) (l2 : Option Nat) (l3 : Int32) (σ : hw_S) : Option (Int32 × hw_S) :=
  (hw_sx xs N (l3 + (1 : Int32))).bind fun v1053 =>
  (hw_sx xs N (l3 + (2 : Int32))).bind fun v1058 =>
  (hw_rv (hw_q 11) l1 σ).bind fun a1059 =>
  (m11_next a1059 v1053 v1058 σ).bind fun v1059 =>
  (hw_sx xs N (l3 + (1 : Int32))).bind fun v1067 =>
  (hw_sx xs N (l3 + (2 : Int32))).bind fun v1072 =>
  (hw_rv (hw_q 12) l2 σ).bind fun a1073 =>
  hw_b2 (m12_next a1073 v1067 v1072 σ) fun v1073 σ1073 =>
  (if v1059 = v1073 then
  mL_b1292 xs N (k18) l1 l2 l3 σ1073
  else
  some ((0 : Int32), σ1073))
def mL_b1081 (xs : Nat → Int32) (N : Nat) (k18 : Option Nat → Option Nat → Int32 → hw_S → Option (Int32 × hw_S)) (l1 : Option Nat) (l2 : Option Nat) (l3 : Int32) (σ : hw_S) : Option (Int32 × hw_S) :=
  (hw_sx xs N (l3 + (1 : Int32))).bind fun v1086 =>
  (hw_sx xs N (l3 + (2 : Int32))).bind fun v1091 =>
  (hw_sx xs N (l3 + (3 : Int32))).bind fun v1096 =>
  (hw_sx xs N (l3 + (4 : Int32))).bind fun v1101 =>
  (hw_sx xs N (l3 + (5 : Int32))).bind fun v1106 =>
  (hw_rv (hw_q 11) l1 σ).bind fun a1107 =>
  (m11_two a1107 v1086 v1091 v1096 v1101 v1106 σ).bind fun v1107 =>
  (hw_sx xs N (l3 + (1 : Int32))).bind fun v1115 =>
  (hw_sx xs N (l3 + (2 : Int32))).bind fun v1120 =>
  (hw_sx xs N (l3 + (3 : Int32))).bind fun v1125 =>
  (hw_sx xs N (l3 + (4 : Int32))).bind fun v1130 =>
  (hw_sx xs N (l3 + (5 : Int32))).bind fun v1135 =>
  (hw_rv (hw_q 12) l2 σ).bind fun a1136 =>
  hw_b2 (m12_two a1136 v1115 v1120 v1125 v1130 v1135 σ) fun v1136 σ1136 =>
  (if v1107 = v1136 then
  mL_b1292 xs N (k18) l1 l2 l3 σ1136
  else
  some ((0 : Int32), σ1136))
def mL_b1144 (xs : Nat → Int32) (N : Nat) (k18 : Option Nat → Option Nat → Int32 → hw_S → Option (Int32 × hw_S)) (l1 : Option Nat) (l2 : Option Nat) (l3 : Int32) (σ : hw_S) : Option (Int32 × hw_S) :=
  (hw_sx xs N (l3 + (1 : Int32))).bind fun v1149 =>
  (hw_sx xs N (l3 + (2 : Int32))).bind fun v1154 =>
  (hw_sx xs N (l3 + (3 : Int32))).bind fun v1159 =>
  (hw_rv (hw_q 11) l1 σ).bind fun a1160 =>
  hw_b2 (m11_act a1160 v1149 v1154 v1159 σ) fun v1160 σ1160 =>
  (hw_sx xs N (l3 + (1 : Int32))).bind fun v1168 =>
  (hw_sx xs N (l3 + (2 : Int32))).bind fun v1173 =>
  (hw_sx xs N (l3 + (3 : Int32))).bind fun v1178 =>
  (hw_rv (hw_q 12) l2 σ1160).bind fun a1179 =>
  hw_b2 (m12_act a1179 v1168 v1173 v1178 σ1160) fun v1179 σ1179 =>
  (if v1160 = v1179 then
  mL_b1292 xs N (k18) l1 l2 l3 σ1179
  else
  some ((0 : Int32), σ1179))
def mL_b1187 (xs : Nat → Int32) (N : Nat) (k18 : Option Nat → Option Nat → Int32 → hw_S → Option (Int32 × hw_S)) (l1 : Option Nat) (l2 : Option Nat) (l3 : Int32) (σ : hw_S) : Option (Int32 × hw_S) :=
  (hw_sx xs N (l3 + (1 : Int32))).bind fun v1192 =>
  (hw_rv (hw_q 11) l1 σ).bind fun a1193 =>
  (m11_trace a1193 v1192 σ).bind fun v1193 =>
  (hw_sx xs N (l3 + (1 : Int32))).bind fun v1201 =>
  (hw_rv (hw_q 12) l2 σ).bind fun a1202 =>
  (m12_trace a1202 v1201 σ).bind fun v1202 =>
  (if v1193 = v1202 then
  mL_b1292 xs N (k18) l1 l2 l3 σ
  else
  some ((0 : Int32), σ))
def mL_b1210 (xs : Nat → Int32) (N : Nat) (k18 : Option Nat → Option Nat → Int32 → hw_S → Option (Int32 × hw_S)) (l1 : Option Nat) (l2 : Option Nat) (l3 : Int32) (σ : hw_S) : Option (Int32 × hw_S) :=
  (hw_sx xs N (l3 + (1 : Int32))).bind fun v1215 =>
  (hw_sx xs N (l3 + (2 : Int32))).bind fun v1220 =>
  (hw_rv (hw_q 11) l1 σ).bind fun a1221 =>
  (m11_as a1221 v1215 v1220 σ).bind fun v1221 =>
  (hw_sx xs N (l3 + (1 : Int32))).bind fun v1229 =>
  (hw_sx xs N (l3 + (2 : Int32))).bind fun v1234 =>
  (hw_rv (hw_q 12) l2 σ).bind fun a1235 =>
  (m12_as a1235 v1229 v1234 σ).bind fun v1235 =>
  (if v1221 = v1235 then
  mL_b1292 xs N (k18) l1 l2 l3 σ
  else
  some ((0 : Int32), σ))
def mL_b1243 (xs : Nat → Int32) (N : Nat) (k18 : Option Nat → Option Nat → Int32 → hw_S → Option (Int32 × hw_S)) (l1 : Option Nat) (l2 : Option Nat) (l3 : Int32) (σ : hw_S) : Option (Int32 × hw_S) :=
  (hw_rv (hw_q 11) l1 σ).bind fun a1244 =>
  hw_b2 (m11_image a1244 σ) fun v1244 σ1244 =>
  (hw_rv (hw_q 12) l2 σ1244).bind fun a1248 =>
  hw_b2 (m12_image a1248 σ1244) fun v1248 σ1248 =>
  (if v1244 = v1248 then
  mL_b1292 xs N (k18) l1 l2 l3 σ1248
  else
  some ((0 : Int32), σ1248))
def mL_b1256 (xs : Nat → Int32) (N : Nat) (k18 : Option Nat → Option Nat → Int32 → hw_S → Option (Int32 × hw_S)) (l1 : Option Nat) (l2 : Option Nat) (l3 : Int32) (σ : hw_S) : Option (Int32 × hw_S) :=
  (hw_rv (hw_q 11) l1 σ).bind fun a1257 =>
  hw_b2 (m11_undo a1257 σ) fun v1257 σ1257 =>
  (hw_rv (hw_q 12) l2 σ1257).bind fun a1261 =>
  hw_b2 (m12_undo a1261 σ1257) fun v1261 σ1261 =>
  (if v1257 = v1261 then
  mL_b1292 xs N (k18) l1 l2 l3 σ1261
  else
  some ((0 : Int32), σ1261))
def mL_b1269 (xs : Nat → Int32) (N : Nat) (k18 : Option Nat → Option Nat → Int32 → hw_S → Option (Int32 × hw_S)) (l1 : Option Nat) (l2 : Option Nat) (l3 : Int32) (σ : hw_S) : Option (Int32 × hw_S) :=
  (hw_sx xs N (l3 + (1 : Int32))).bind fun v1274 =>
  (hw_rv (hw_q 11) l1 σ).bind fun a1275 =>
  (m11_count a1275 v1274 σ).bind fun v1275 =>
  (hw_sx xs N (l3 + (1 : Int32))).bind fun v1283 =>
  (hw_rv (hw_q 12) l2 σ).bind fun a1284 =>
  (m12_count a1284 v1283 σ).bind fun v1284 =>
  (if v1275 = v1284 then
  mL_b1292 xs N (k18) l1 l2 l3 σ
  else
  some ((0 : Int32), σ))
def mL_b18 (xs : Nat → Int32) (N : Nat) : Nat → Option Nat → Option Nat → Int32 → hw_S → Option (Int32 × hw_S)
  | 0, _, _, _, _ => none
  | n + 1, l1, l2, l3, σ =>
  (if ((Int32.ofNat N) - (7 : Int32)) < l3 then
  some ((1 : Int32), σ)
  else
  (hw_sx xs N l3).bind fun v29 =>
  (if (v29 &&& (31 : Int32)) = 0 then
  mL_b160 xs N (mL_b18 xs N n) l1 l2 l3 σ
  else
  (if (v29 &&& (31 : Int32)) = 1 then
  mL_b193 xs N (mL_b18 xs N n) l1 l2 l3 σ
  else
  (if (v29 &&& (31 : Int32)) = 2 then
  mL_b226 xs N (mL_b18 xs N n) l1 l2 l3 σ
  else
  (if (v29 &&& (31 : Int32)) = 3 then
  mL_b289 xs N (mL_b18 xs N n) l1 l2 l3 σ
  else
  (if (v29 &&& (31 : Int32)) = 4 then
  mL_b322 xs N (mL_b18 xs N n) l1 l2 l3 σ
  else
  (if (v29 &&& (31 : Int32)) = 5 then
  mL_b355 xs N (mL_b18 xs N n) l1 l2 l3 σ
  else
  (if (v29 &&& (31 : Int32)) = 6 then
  mL_b408 xs N (mL_b18 xs N n) l1 l2 l3 σ
  else
  (if (v29 &&& (31 : Int32)) = 7 then
  mL_b431 xs N (mL_b18 xs N n) l1 l2 l3 σ
  else
  (if (v29 &&& (31 : Int32)) = 8 then
  mL_b474 xs N (mL_b18 xs N n) l1 l2 l3 σ
  else
  (if (v29 &&& (31 : Int32)) = 9 then
  mL_b553 xs N (mL_b18 xs N n) l1 l2 l3 σ
  else
  (if (v29 &&& (31 : Int32)) = 10 then
  mL_b616 xs N (mL_b18 xs N n) l1 l2 l3 σ
  else
  (if (v29 &&& (31 : Int32)) = 11 then
  mL_b669 xs N (mL_b18 xs N n) l1 l2 l3 σ
  else
  (if (v29 &&& (31 : Int32)) = 12 then
  mL_b722 xs N (mL_b18 xs N n) l1 l2 l3 σ
  else
  (if (v29 &&& (31 : Int32)) = 13 then
  mL_b745 xs N (mL_b18 xs N n) l1 l2 l3 σ
  else
  (if (v29 &&& (31 : Int32)) = 14 then
  mL_b808 xs N (mL_b18 xs N n) l1 l2 l3 σ
  else
  (if (v29 &&& (31 : Int32)) = 15 then
  mL_b861 xs N (mL_b18 xs N n) l1 l2 l3 σ
  else
  (if (v29 &&& (31 : Int32)) = 16 then
  mL_b904 xs N (mL_b18 xs N n) l1 l2 l3 σ
  else
  (if (v29 &&& (31 : Int32)) = 17 then
  mL_b927 xs N (mL_b18 xs N n) l1 l2 l3 σ
  else
  (if (v29 &&& (31 : Int32)) = 18 then
  mL_b940 xs N (mL_b18 xs N n) l1 l2 l3 σ
  else
  (if (v29 &&& (31 : Int32)) = 19 then
  mL_b973 xs N (mL_b18 xs N n) l1 l2 l3 σ
  else
  (if (v29 &&& (31 : Int32)) = 20 then
  mL_b1048 xs N (mL_b18 xs N n) l1 l2 l3 σ
  else
  (if (v29 &&& (31 : Int32)) = 21 then
  mL_b1081 xs N (mL_b18 xs N n) l1 l2 l3 σ
  else
  (if (v29 &&& (31 : Int32)) = 22 then
  mL_b1144 xs N (mL_b18 xs N n) l1 l2 l3 σ
  else
  (if (v29 &&& (31 : Int32)) = 23 then
  mL_b1187 xs N (mL_b18 xs N n) l1 l2 l3 σ
  else
  (if (v29 &&& (31 : Int32)) = 24 then
  mL_b1210 xs N (mL_b18 xs N n) l1 l2 l3 σ
  else
  (if (v29 &&& (31 : Int32)) = 25 then
  mL_b1243 xs N (mL_b18 xs N n) l1 l2 l3 σ
  else
  (if (v29 &&& (31 : Int32)) = 26 then
  mL_b1256 xs N (mL_b18 xs N n) l1 l2 l3 σ
  else
  (if (v29 &&& (31 : Int32)) = 27 then
  mL_b1269 xs N (mL_b18 xs N n) l1 l2 l3 σ
  else
  mL_b1292 xs N (mL_b18 xs N n) l1 l2 l3 σ)))))))))))))))))))))))))))))
def mL (xs : Nat → Int32) (N : Nat) (σ : hw_S) : Option (Int32 × hw_S) :=
  hw_b2 (hw_nwO 12 0 σ) fun v0 σ0 =>
  (m11_init v0 σ0).bind fun σ4 =>
  hw_b2 (hw_nwO 13 0 σ4) fun v8 σ8 =>
  (m12_init v8 σ8).bind fun σ12 =>
  mL_b18 xs N 513 (some v0) (some v8) (0 : Int32) σ12
