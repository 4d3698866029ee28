/-! ===== the methods as values: TrunkYards ===== -/
def tyf_T_isYard (σ : tyS) (p0 : Int32) : Option Int32 :=
  if p0 < 0 then (
  some (0)) else (
  if 3 ≤ p0 then (
  some (0)) else (
  some (1)))
def tyf_T_isTrack (σ : tyS) (p0 : Int32) : Option Int32 :=
  if p0 < 0 then (
  some (0)) else (
  if 5 ≤ p0 then (
  some (0)) else (
  some (1)))
def tyf_T_requireTrack (σ : tyS) (p0 : Int32) (p1 : Int32) : Option tyX :=
  bR (tyf_T_isYard σ p0) fun r1 =>
  if r1 = 0 then (
  some ((1, 0, σ) : tyX)) else (
  bR (tyf_T_isTrack σ p1) fun r3 =>
  if r3 = 0 then (
  some ((1, 0, σ) : tyX)) else (
  some ((0, 0, σ) : tyX)))
def tyf_T_rowOf (σ : tyS) (p0 : Int32) (p1 : Int32) : Option Int32 :=
  some (((p0 * 5) + p1))
def tyf_R1_hasRoom (σ : tyS) (p1 : Int32) (p2 : Int32) : Option Int32 :=
  chk (inb p1 55) (
  if 6 < ((σ.1 6 (p1).toNatClampNeg) + p2) then (
  some (0)) else (
  some (1)))
def tyf_R1_put (σ : tyS) (p1 : Int32) (p2 : Int32) : Option tyS :=
  chk (inb p1 55) (
  chk (inb ((p1 * 6) + (σ.1 6 (p1).toNatClampNeg)) 330) (stp (sW σ 7 ((p1 * 6) + (σ.1 6 (p1).toNatClampNeg)) p2) fun σ3 =>
  chk (inb p1 55) (
  chk (inb p1 55) (stp (sW σ3 6 p1 ((σ3.1 6 (p1).toNatClampNeg) + 1)) fun σ6 =>
  some σ6))))
def tyf_H_noteMove (σ : tyS) (p1 : Int32) (p2 : Int32) (p3 : Int32) : Option tyS :=
  if 512 ≤ (σ.2 4) then (
  some σ) else (
  chk (inb (σ.2 4) 512) (stp (sW σ 10 (σ.2 4) p1) fun σ3 =>
  chk (inb (σ3.2 4) 512) (stp (sW σ3 11 (σ3.2 4) p2) fun σ5 =>
  chk (inb (σ5.2 4) 512) (stp (sW σ5 12 (σ5.2 4) p3) fun σ7 =>
  stp (sV σ7 4 ((σ7.2 4) + 1)) fun σ8 =>
  some σ8))))
def tyf_H_notePlacing (σ : tyS) (p1 : Int32) (p2 : Int32) : Option tyS :=
  bR (tyf_H_noteMove σ (-1) p1 p2) fun σ1 =>
  some σ1
def tyf_T_wagon (σ : tyS) (p1 : Int32) (p2 : Int32) : Option tyX :=
  bX (tyf_T_requireTrack σ p1 p2) fun r2 σ1 =>
  bR (tyf_T_rowOf σ1 p1 p2) fun r3 =>
  if 30 ≤ (σ1.2 0) then (
  some ((2, 0, σ1) : tyX)) else (
  bR (tyf_R1_hasRoom σ1 r3 1) fun r5 =>
  if r5 = 0 then (
  some ((2, 0, σ1) : tyX)) else (
  stp (sV σ1 0 ((σ1.2 0) + 1)) fun σ7 =>
  bR (tyf_R1_put σ7 r3 (σ1.2 0)) fun σ8 =>
  bR (tyf_H_notePlacing σ8 r3 (σ1.2 0)) fun σ9 =>
  some ((0, (σ1.2 0), σ9) : tyX)))
def tyf_R1_count (σ : tyS) (p1 : Int32) : Option Int32 :=
  chk (inb p1 55) (
  some ((σ.1 6 (p1).toNatClampNeg)))
def tyb_R1_move_31 (k rec : tyS → Int32 → Int32 → Int32 → Int32 → Int32 → Int32 → Option tyS) (σ0 : tyS) (x1 : Int32) (x2 : Int32) (x3 : Int32) (x4 : Int32) (x5 : Int32) (x6 : Int32) : Option tyS :=
  if x3 ≤ x6 then (
  k σ0 x1 x2 x3 x4 x5 x6) else (
  chk (inb (x4 + x6) 330) (
  chk (inb (x5 + x6) 330) (stp (sW σ0 7 (x5 + x6) (σ0.1 7 ((x4 + x6)).toNatClampNeg)) fun σ6 =>
  rec σ6 x1 x2 x3 x4 x5 (x6 + 1))))
def tyl_R1_move_31 (k : tyS → Int32 → Int32 → Int32 → Int32 → Int32 → Int32 → Option tyS) : Nat → tyS → Int32 → Int32 → Int32 → Int32 → Int32 → Int32 → Option tyS
  | 0, _, _, _, _, _, _, _ => none
  | n + 1, σ0, x1, x2, x3, x4, x5, x6 => tyb_R1_move_31 k (tyl_R1_move_31 k n) σ0 x1 x2 x3 x4 x5 x6
def tyf_R1_move (σ : tyS) (p1 : Int32) (p2 : Int32) (p3 : Int32) : Option tyS :=
  chk (inb p1 55) (
  chk (inb p2 55) (
  tyl_R1_move_31 (fun σ0 x1 x2 x3 x4 x5 x6 =>
  chk (inb x1 55) (
  chk (inb x1 55) (stp (sW σ0 6 x1 ((σ0.1 6 (x1).toNatClampNeg) - x3)) fun σ9 =>
  chk (inb x2 55) (
  chk (inb x2 55) (stp (sW σ9 6 x2 ((σ9.1 6 (x2).toNatClampNeg) + x3)) fun σ12 =>
  some σ12))))) 64 σ p1 p2 p3 (((p1 * 6) + (σ.1 6 (p1).toNatClampNeg)) - p3) ((p2 * 6) + (σ.1 6 (p2).toNatClampNeg)) 0))
def tyf_T_moveLast (σ : tyS) (p1 : Int32) (p2 : Int32) (p3 : Int32) : Option tyS :=
  bR (tyf_R1_move σ p1 p2 p3) fun σ1 =>
  bR (tyf_H_noteMove σ1 p1 p2 p3) fun σ2 =>
  some σ2
def tyf_T_shunt (σ : tyS) (p1 : Int32) (p2 : Int32) (p3 : Int32) (p4 : Int32) : Option tyX :=
  bX (tyf_T_requireTrack σ p1 p2) fun r2 σ1 =>
  bX (tyf_T_requireTrack σ1 p1 p3) fun r4 σ3 =>
  if p2 = p3 then (
  some ((1, 0, σ3) : tyX)) else (
  if p4 < 1 then (
  some ((1, 0, σ3) : tyX)) else (
  if p4 ≤ 6 then (
  bR (tyf_T_rowOf σ3 p1 p2) fun r8 =>
  bR (tyf_T_rowOf σ3 p1 p3) fun r9 =>
  bR (tyf_R1_count σ3 r8) fun r10 =>
  if r10 < p4 then (
  some ((2, 0, σ3) : tyX)) else (
  bR (tyf_R1_hasRoom σ3 r9 p4) fun r12 =>
  if r12 = 0 then (
  some ((2, 0, σ3) : tyX)) else (
  bR (tyf_T_moveLast σ3 r8 r9 p4) fun σ14 =>
  bR (tyf_R1_count σ14 r9) fun r15 =>
  some ((0, r15, σ14) : tyX)))) else (
  some ((1, 0, σ3) : tyX))))
def tyf_T_requireYard (σ : tyS) (p0 : Int32) : Option tyX :=
  bR (tyf_T_isYard σ p0) fun r1 =>
  if r1 = 0 then (
  some ((1, 0, σ) : tyX)) else (
  some ((0, 0, σ) : tyX))
def tyf_R1_get (σ : tyS) (p1 : Int32) (p2 : Int32) : Option Int32 :=
  chk (inb ((p1 * 6) + p2) 330) (
  some ((σ.1 7 (((p1 * 6) + p2)).toNatClampNeg)))
def tyf_T_wash (σ : tyS) (p1 : Int32) : Option tyX :=
  bX (tyf_T_requireYard σ p1) fun r2 σ1 =>
  bR (tyf_T_rowOf σ1 p1 0) fun r3 =>
  bR (tyf_R1_count σ1 r3) fun r4 =>
  if r4 = 0 then (
  some ((2, 0, σ1) : tyX)) else (
  bR (tyf_R1_get σ1 r3 (r4 - 1)) fun r6 =>
  chk (inb r6 30) (
  chk (inb r6 30) (stp (sW σ1 29 r6 (-1)) fun σ9 =>
  some ((0, (σ1.1 29 (r6).toNatClampNeg), σ9) : tyX))))
def tyf_T_isGrain (σ : tyS) (p0 : Int32) : Option Int32 :=
  if p0 < 0 then (
  some (0)) else (
  if 4 ≤ p0 then (
  some (0)) else (
  some (1)))
def tyf_T_follow (σ : tyS) (p1 : Int32) (p2 : Int32) : Option tyX :=
  bR (tyf_T_isGrain σ p1) fun r1 =>
  if r1 = 0 then (
  some ((1, 0, σ) : tyX)) else (
  bR (tyf_T_isGrain σ p2) fun r3 =>
  if r3 = 0 then (
  some ((1, 0, σ) : tyX)) else (
  if p1 = p2 then (
  some ((1, 0, σ) : tyX)) else (
  chk (inb ((p1 * 4) + p2) 16) (
  if (σ.1 30 (((p1 * 4) + p2)).toNatClampNeg) = 0 then (
  chk (inb ((p1 * 4) + p2) 16) (stp (sW σ 30 ((p1 * 4) + p2) 1) fun σ13 =>
  chk (inb ((p1 * 4) + p2) 16) (
  chk (decide (vp_nar .boolean (σ13.1 30 (((p1 * 4) + p2)).toNatClampNeg) = (σ13.1 30 (((p1 * 4) + p2)).toNatClampNeg))) (
  some ((0, (σ13.1 30 (((p1 * 4) + p2)).toNatClampNeg), σ13) : tyX))))) else (
  chk (inb ((p1 * 4) + p2) 16) (stp (sW σ 30 ((p1 * 4) + p2) 0) fun σ9 =>
  chk (inb ((p1 * 4) + p2) 16) (
  chk (decide (vp_nar .boolean (σ9.1 30 (((p1 * 4) + p2)).toNatClampNeg) = (σ9.1 30 (((p1 * 4) + p2)).toNatClampNeg))) (
  some ((0, (σ9.1 30 (((p1 * 4) + p2)).toNatClampNeg), σ9) : tyX)))))))))
def tyf_T_on (σ : tyS) (p1 : Int32) (p2 : Int32) : Option tyX :=
  bX (tyf_T_requireTrack σ p1 p2) fun r2 σ1 =>
  bR (tyf_T_rowOf σ1 p1 p2) fun r3 =>
  bR (tyf_R1_count σ1 r3) fun r4 =>
  some ((0, r4, σ1) : tyX)
def tyf_T_wagonIn1 (σ : tyS) (p1 : Int32) (p2 : Int32) : Option tyX :=
  if p2 < 0 then (
  some ((3, 0, σ) : tyX)) else (
  bR (tyf_R1_count σ p1) fun r2 =>
  if p2 < r2 then (
  bR (tyf_R1_get σ p1 p2) fun r4 =>
  some ((0, r4, σ) : tyX)) else (
  some ((3, 0, σ) : tyX)))
def tyf_T_at (σ : tyS) (p1 : Int32) (p2 : Int32) (p3 : Int32) : Option tyX :=
  bX (tyf_T_requireTrack σ p1 p2) fun r2 σ1 =>
  bR (tyf_T_rowOf σ1 p1 p2) fun r3 =>
  bX (tyf_T_wagonIn1 σ1 r3 p3) fun r5 σ4 =>
  some ((0, r5, σ4) : tyX)
def tyf_R2_clear (σ : tyS) : Option tyS :=
  stp (sA σ 8 (tyFill (σ.1 8) 55 0)) fun σ1 =>
  some σ1
def tyb_R2_move_31 (k rec : tyS → Int32 → Int32 → Int32 → Int32 → Int32 → Int32 → Option tyS) (σ0 : tyS) (x1 : Int32) (x2 : Int32) (x3 : Int32) (x4 : Int32) (x5 : Int32) (x6 : Int32) : Option tyS :=
  if x3 ≤ x6 then (
  k σ0 x1 x2 x3 x4 x5 x6) else (
  chk (inb (x4 + x6) 330) (
  chk (inb (x5 + x6) 330) (stp (sW σ0 9 (x5 + x6) (σ0.1 9 ((x4 + x6)).toNatClampNeg)) fun σ6 =>
  rec σ6 x1 x2 x3 x4 x5 (x6 + 1))))
def tyl_R2_move_31 (k : tyS → Int32 → Int32 → Int32 → Int32 → Int32 → Int32 → Option tyS) : Nat → tyS → Int32 → Int32 → Int32 → Int32 → Int32 → Int32 → Option tyS
  | 0, _, _, _, _, _, _, _ => none
  | n + 1, σ0, x1, x2, x3, x4, x5, x6 => tyb_R2_move_31 k (tyl_R2_move_31 k n) σ0 x1 x2 x3 x4 x5 x6
def tyf_R2_move (σ : tyS) (p1 : Int32) (p2 : Int32) (p3 : Int32) : Option tyS :=
  chk (inb p1 55) (
  chk (inb p2 55) (
  tyl_R2_move_31 (fun σ0 x1 x2 x3 x4 x5 x6 =>
  chk (inb x1 55) (
  chk (inb x1 55) (stp (sW σ0 8 x1 ((σ0.1 8 (x1).toNatClampNeg) - x3)) fun σ9 =>
  chk (inb x2 55) (
  chk (inb x2 55) (stp (sW σ9 8 x2 ((σ9.1 8 (x2).toNatClampNeg) + x3)) fun σ12 =>
  some σ12))))) 64 σ p1 p2 p3 (((p1 * 6) + (σ.1 8 (p1).toNatClampNeg)) - p3) ((p2 * 6) + (σ.1 8 (p2).toNatClampNeg)) 0))
def tyf_R2_put (σ : tyS) (p1 : Int32) (p2 : Int32) : Option tyS :=
  chk (inb p1 55) (
  chk (inb ((p1 * 6) + (σ.1 8 (p1).toNatClampNeg)) 330) (stp (sW σ 9 ((p1 * 6) + (σ.1 8 (p1).toNatClampNeg)) p2) fun σ3 =>
  chk (inb p1 55) (
  chk (inb p1 55) (stp (sW σ3 8 p1 ((σ3.1 8 (p1).toNatClampNeg) + 1)) fun σ6 =>
  some σ6))))
def tyb_H_replay_6 (k rec : tyS → Int32 → Option tyS) (σ0 : tyS) (x2 : Int32) : Option tyS :=
  if (σ0.2 4) ≤ x2 then (
  k σ0 x2) else (
  chk (inb x2 512) (
  if (σ0.1 10 (x2).toNatClampNeg) = (-1) then (
  chk (inb x2 512) (
  chk (inb x2 512) (
  bR (tyf_R2_put σ0 (σ0.1 11 (x2).toNatClampNeg) (σ0.1 12 (x2).toNatClampNeg)) fun σ11 =>
  rec σ11 (x2 + 1)))) else (
  chk (inb x2 512) (
  chk (inb x2 512) (
  chk (inb x2 512) (
  bR (tyf_R2_move σ0 (σ0.1 10 (x2).toNatClampNeg) (σ0.1 11 (x2).toNatClampNeg) (σ0.1 12 (x2).toNatClampNeg)) fun σ8 =>
  rec σ8 (x2 + 1)))))))
def tyl_H_replay_6 (k : tyS → Int32 → Option tyS) : Nat → tyS → Int32 → Option tyS
  | 0, _, _ => none
  | n + 1, σ0, x2 => tyb_H_replay_6 k (tyl_H_replay_6 k n) σ0 x2
def tyf_H_replay (σ : tyS) : Option tyS :=
  bR (tyf_R2_clear σ ) fun σ1 =>
  tyl_H_replay_6 (fun σ0 x2 =>
  some σ0) 520 σ1 0
def tyf_R2_count (σ : tyS) (p1 : Int32) : Option Int32 :=
  chk (inb p1 55) (
  some ((σ.1 8 (p1).toNatClampNeg)))
def tyf_R2_get (σ : tyS) (p1 : Int32) (p2 : Int32) : Option Int32 :=
  chk (inb ((p1 * 6) + p2) 330) (
  some ((σ.1 9 (((p1 * 6) + p2)).toNatClampNeg)))
def tyf_T_wagonIn2 (σ : tyS) (p1 : Int32) (p2 : Int32) : Option tyX :=
  if p2 < 0 then (
  some ((3, 0, σ) : tyX)) else (
  bR (tyf_R2_count σ p1) fun r2 =>
  if p2 < r2 then (
  bR (tyf_R2_get σ p1 p2) fun r4 =>
  some ((0, r4, σ) : tyX)) else (
  some ((3, 0, σ) : tyX)))
def tyf_T_atByReplay (σ : tyS) (p1 : Int32) (p2 : Int32) (p3 : Int32) : Option tyX :=
  bX (tyf_T_requireTrack σ p1 p2) fun r2 σ1 =>
  bR (tyf_H_replay σ1 ) fun σ3 =>
  bR (tyf_T_rowOf σ3 p1 p2) fun r4 =>
  bX (tyf_T_wagonIn2 σ3 r4 p3) fun r6 σ5 =>
  some ((0, r6, σ5) : tyX)
def tyf_T_requireWagon (σ : tyS) (p1 : Int32) : Option tyX :=
  if p1 < 0 then (
  some ((3, 0, σ) : tyX)) else (
  if p1 < (σ.2 0) then (
  some ((0, 0, σ) : tyX)) else (
  some ((3, 0, σ) : tyX)))
def tyb_R1_findOnTracks_10 (σ : tyS) (k rec : Int32 → Int32 → Int32 → Option Int32) (x1 : Int32) (x2 : Int32) (x3 : Int32) : Option Int32 :=
  chk (inb x2 55) (
  if (σ.1 6 (x2).toNatClampNeg) ≤ x3 then (
  k  x1 x2 x3) else (
  bR (tyf_R1_get σ x2 x3) fun r4 =>
  if r4 = x1 then (
  some (x2)) else (
  rec  x1 x2 (x3 + 1))))
def tyl_R1_findOnTracks_10 (σ : tyS) (k : Int32 → Int32 → Int32 → Option Int32) : Nat → Int32 → Int32 → Int32 → Option Int32
  | 0, _, _, _ => none
  | n + 1, x1, x2, x3 => tyb_R1_findOnTracks_10 σ k (tyl_R1_findOnTracks_10 σ k n) x1 x2 x3
def tyb_R1_findOnTracks_2 (σ : tyS) (k rec : Int32 → Int32 → Option Int32) (x1 : Int32) (x2 : Int32) : Option Int32 :=
  if 15 ≤ x2 then (
  k  x1 x2) else (
  tyl_R1_findOnTracks_10 σ (fun x1 x2 x3 =>
  rec  x1 (x2 + 1)) 64  x1 x2 0)
def tyl_R1_findOnTracks_2 (σ : tyS) (k : Int32 → Int32 → Option Int32) : Nat → Int32 → Int32 → Option Int32
  | 0, _, _ => none
  | n + 1, x1, x2 => tyb_R1_findOnTracks_2 σ k (tyl_R1_findOnTracks_2 σ k n) x1 x2
def tyf_R1_findOnTracks (σ : tyS) (p1 : Int32) : Option Int32 :=
  tyl_R1_findOnTracks_2 σ (fun x1 x2 =>
  some ((-1))) 64  p1 0
def tyf_T_where (σ : tyS) (p1 : Int32) : Option tyX :=
  bX (tyf_T_requireWagon σ p1) fun r2 σ1 =>
  bR (tyf_R1_findOnTracks σ1 p1) fun r3 =>
  if r3 = (-1) then (
  some ((0, (-1), σ1) : tyX)) else (
  some ((0, (((r3 / 5) * 10) + (r3 - r3 / 5 * 5)), σ1) : tyX))
def tyf_T_carried (σ : tyS) (p1 : Int32) : Option tyX :=
  bX (tyf_T_requireWagon σ p1) fun r2 σ1 =>
  chk (inb p1 30) (
  some ((0, (σ1.1 29 (p1).toNatClampNeg), σ1) : tyX))
def tyf_L_bookingFor (σ : tyS) (p1 : Int32) : Option Int32 :=
  chk (inb p1 30) (
  some ((σ.1 20 (p1).toNatClampNeg)))
def tyf_T_promised (σ : tyS) (p1 : Int32) : Option tyX :=
  bX (tyf_T_requireWagon σ p1) fun r2 σ1 =>
  bR (tyf_L_bookingFor σ1 p1) fun r3 =>
  some ((0, r3, σ1) : tyX)
def tyf_T_requireCustomer (σ : tyS) (p0 : Int32) : Option tyX :=
  if p0 < 0 then (
  some ((1, 0, σ) : tyX)) else (
  if p0 < 6 then (
  some ((0, 0, σ) : tyX)) else (
  some ((1, 0, σ) : tyX)))
def tyf_B_ongoing (σ : tyS) (p1 : Int32) : Option Int32 :=
  chk (inb p1 6) (
  some ((σ.1 26 (p1).toNatClampNeg)))
def tyf_B_isFull (σ : tyS) : Option Int32 :=
  if (σ.2 6) < 60 then (
  some (0)) else (
  some (1))
def tyb_B_callsTo_4 (σ : tyS) (k rec : Int32 → Int32 → Int32 → Option Int32) (x1 : Int32) (x2 : Int32) (x3 : Int32) : Option Int32 :=
  if 6 ≤ x3 then (
  k  x1 x2 x3) else (
  chk (inb x3 6) (
  if (σ.1 26 (x3).toNatClampNeg) = (-1) then (
  rec  x1 x2 (x3 + 1)) else (
  chk (inb (σ.1 26 (x3).toNatClampNeg) 60) (
  if (σ.1 22 ((σ.1 26 (x3).toNatClampNeg)).toNatClampNeg) = x1 then (
  rec  x1 (x2 + 1) (x3 + 1)) else (
  rec  x1 x2 (x3 + 1))))))
def tyl_B_callsTo_4 (σ : tyS) (k : Int32 → Int32 → Int32 → Option Int32) : Nat → Int32 → Int32 → Int32 → Option Int32
  | 0, _, _, _ => none
  | n + 1, x1, x2, x3 => tyb_B_callsTo_4 σ k (tyl_B_callsTo_4 σ k n) x1 x2 x3
def tyf_B_callsTo (σ : tyS) (p1 : Int32) : Option Int32 :=
  tyl_B_callsTo_4 σ (fun x1 x2 x3 =>
  some (x2)) 64  p1 0 0
def tyf_T_slotOf (σ : tyS) (p0 : Int32) (p1 : Int32) (p2 : Int32) : Option Int32 :=
  some (((((p0 + p1) - 1) * 2) + p2))
def tyb_B_freeTrunk_2 (σ : tyS) (k rec : Int32 → Int32 → Int32 → Option Int32) (x1 : Int32) (x2 : Int32) (x3 : Int32) : Option Int32 :=
  if 2 ≤ x3 then (
  k  x1 x2 x3) else (
  bR (tyf_T_slotOf σ x1 x2 x3) fun r2 =>
  chk (inb r2 6) (
  if (σ.1 27 (r2).toNatClampNeg) = (-1) then (
  some (r2)) else (
  rec  x1 x2 (x3 + 1))))
def tyl_B_freeTrunk_2 (σ : tyS) (k : Int32 → Int32 → Int32 → Option Int32) : Nat → Int32 → Int32 → Int32 → Option Int32
  | 0, _, _, _ => none
  | n + 1, x1, x2, x3 => tyb_B_freeTrunk_2 σ k (tyl_B_freeTrunk_2 σ k n) x1 x2 x3
def tyf_B_freeTrunk (σ : tyS) (p1 : Int32) (p2 : Int32) : Option Int32 :=
  tyl_B_freeTrunk_2 σ (fun x1 x2 x3 =>
  some ((-1))) 64  p1 p2 0
def tyf_B_occupy (σ : tyS) (p1 : Int32) (p2 : Int32) : Option tyS :=
  if p1 = (-1) then (
  some σ) else (
  chk (inb p1 6) (stp (sW σ 27 p1 p2) fun σ3 =>
  some σ3))
def tyf_B_connect (σ : tyS) (p1 : Int32) (p2 : Int32) (p3 : Int32) (p4 : Int32) : Option (Int32 × tyS) :=
  stp (sV σ 6 ((σ.2 6) + 1)) fun σ1 =>
  chk (inb (σ.2 6) 60) (stp (sW σ1 21 (σ.2 6) p1) fun σ3 =>
  chk (inb (σ.2 6) 60) (stp (sW σ3 22 (σ.2 6) p2) fun σ5 =>
  chk (inb (σ.2 6) 60) (stp (sW σ5 23 (σ.2 6) (-1)) fun σ7 =>
  chk (inb (σ.2 6) 60) (stp (sW σ7 24 (σ.2 6) p3) fun σ9 =>
  chk (inb (σ.2 6) 60) (stp (sW σ9 25 (σ.2 6) p4) fun σ11 =>
  chk (inb p1 6) (stp (sW σ11 26 p1 (σ.2 6)) fun σ13 =>
  bR (tyf_B_occupy σ13 p3 (σ.2 6)) fun σ14 =>
  bR (tyf_B_occupy σ14 p4 (σ.2 6)) fun σ15 =>
  some ((σ.2 6), σ15)))))))
def tyf_B_begin (σ : tyS) (p1 : Int32) (p2 : Int32) : Option (Int32 × tyS) :=
  bR (tyf_B_callsTo σ p2) fun r1 =>
  chk (inb p2 3) (
  if r1 < (σ.1 28 (p2).toNatClampNeg) then (
  if (p1 - p1 / 3 * 3) = p2 then (
  bN (tyf_B_connect σ p1 p2 (-1) (-1)) fun r16 σ15 =>
  some (r16, σ15)) else (
  bR (tyf_B_freeTrunk σ (p1 - p1 / 3 * 3) p2) fun r5 =>
  if r5 = (-1) then (
  bR (tyf_B_freeTrunk σ (p1 - p1 / 3 * 3) ((3 - (p1 - p1 / 3 * 3)) - p2)) fun r7 =>
  bR (tyf_B_freeTrunk σ ((3 - (p1 - p1 / 3 * 3)) - p2) p2) fun r8 =>
  if r7 = (-1) then (
  some ((-1), σ)) else (
  if r8 = (-1) then (
  some ((-1), σ)) else (
  bN (tyf_B_connect σ p1 p2 r7 r8) fun r12 σ11 =>
  some (r12, σ11)))) else (
  bN (tyf_B_connect σ p1 p2 r5 (-1)) fun r14 σ13 =>
  some (r14, σ13)))) else (
  some ((-1), σ)))
def tyf_T_call (σ : tyS) (p1 : Int32) (p2 : Int32) : Option tyX :=
  bX (tyf_T_requireCustomer σ p1) fun r2 σ1 =>
  bX (tyf_T_requireYard σ1 p2) fun r4 σ3 =>
  bR (tyf_B_ongoing σ3 p1) fun r5 =>
  if r5 = (-1) then (
  bR (tyf_B_isFull σ3 ) fun r7 =>
  if r7 = 0 then (
  bN (tyf_B_begin σ3 p1 p2) fun r10 σ9 =>
  if r10 = (-1) then (
  stp (sV σ9 2 ((σ9.2 2) + 1)) fun σ12 =>
  some ((0, r10, σ12) : tyX)) else (
  some ((0, r10, σ9) : tyX))) else (
  some ((2, 0, σ3) : tyX))) else (
  some ((2, 0, σ3) : tyX))
def tyf_B_hasBegun (σ : tyS) (p1 : Int32) : Option Int32 :=
  if p1 < 0 then (
  some (0)) else (
  if (σ.2 6) ≤ p1 then (
  some (0)) else (
  some (1)))
def tyf_T_requireCall (σ : tyS) (p1 : Int32) : Option tyX :=
  bR (tyf_B_hasBegun σ p1) fun r1 =>
  if r1 = 0 then (
  some ((3, 0, σ) : tyX)) else (
  some ((0, 0, σ) : tyX))
def tyf_B_goesOn (σ : tyS) (p1 : Int32) : Option Int32 :=
  chk (inb p1 60) (
  chk (inb (σ.1 21 (p1).toNatClampNeg) 6) (
  if (σ.1 26 ((σ.1 21 (p1).toNatClampNeg)).toNatClampNeg) = p1 then (
  some (1)) else (
  some (0))))
def tyf_T_requireOngoing (σ : tyS) (p1 : Int32) : Option tyX :=
  bR (tyf_B_goesOn σ p1) fun r1 =>
  if r1 = 0 then (
  some ((2, 0, σ) : tyX)) else (
  some ((0, 0, σ) : tyX))
def tyf_B_openBooking (σ : tyS) (p1 : Int32) : Option Int32 :=
  chk (inb p1 60) (
  some ((σ.1 23 (p1).toNatClampNeg)))
def tyf_L_grain (σ : tyS) (p1 : Int32) : Option Int32 :=
  chk (inb p1 40) (
  some ((σ.1 15 (p1).toNatClampNeg)))
def tyf_B_yard (σ : tyS) (p1 : Int32) : Option Int32 :=
  chk (inb p1 60) (
  some ((σ.1 22 (p1).toNatClampNeg)))
def tyf_T_fits (σ : tyS) (p1 : Int32) (p2 : Int32) : Option Int32 :=
  chk (inb p1 30) (
  if (σ.1 29 (p1).toNatClampNeg) = (-1) then (
  some (1)) else (
  if (σ.1 29 (p1).toNatClampNeg) = p2 then (
  some (1)) else (
  chk (inb (((σ.1 29 (p1).toNatClampNeg) * 4) + p2) 16) (
  if (σ.1 30 ((((σ.1 29 (p1).toNatClampNeg) * 4) + p2)).toNatClampNeg) = 0 then (
  some (0)) else (
  some (1))))))
def tyb_T_findWagon_11 (σ : tyS) (k rec : Int32 → Int32 → Int32 → Int32 → Option Int32) (x1 : Int32) (x2 : Int32) (x3 : Int32) (x4 : Int32) : Option Int32 :=
  if 5 ≤ x4 then (
  k  x1 x2 x3 x4) else (
  bR (tyf_T_rowOf σ x1 x4) fun r3 =>
  bR (tyf_R1_count σ r3) fun r4 =>
  if ((r4 - 1) - x3) < 0 then (
  rec  x1 x2 x3 (x4 + 1)) else (
  bR (tyf_R1_get σ r3 ((r4 - 1) - x3)) fun r6 =>
  bR (tyf_L_bookingFor σ r6) fun r7 =>
  if r7 = (-1) then (
  bR (tyf_T_fits σ r6 x2) fun r9 =>
  if r9 = 0 then (
  rec  x1 x2 x3 (x4 + 1)) else (
  some (r6))) else (
  rec  x1 x2 x3 (x4 + 1))))
def tyl_T_findWagon_11 (σ : tyS) (k : Int32 → Int32 → Int32 → Int32 → Option Int32) : Nat → Int32 → Int32 → Int32 → Int32 → Option Int32
  | 0, _, _, _, _ => none
  | n + 1, x1, x2, x3, x4 => tyb_T_findWagon_11 σ k (tyl_T_findWagon_11 σ k n) x1 x2 x3 x4
def tyb_T_findWagon_2 (σ : tyS) (k rec : Int32 → Int32 → Int32 → Option Int32) (x1 : Int32) (x2 : Int32) (x3 : Int32) : Option Int32 :=
  if 6 ≤ x3 then (
  k  x1 x2 x3) else (
  tyl_T_findWagon_11 σ (fun x1 x2 x3 x4 =>
  rec  x1 x2 (x3 + 1)) 64  x1 x2 x3 0)
def tyl_T_findWagon_2 (σ : tyS) (k : Int32 → Int32 → Int32 → Option Int32) : Nat → Int32 → Int32 → Int32 → Option Int32
  | 0, _, _, _ => none
  | n + 1, x1, x2, x3 => tyb_T_findWagon_2 σ k (tyl_T_findWagon_2 σ k n) x1 x2 x3
def tyf_T_findWagon (σ : tyS) (p1 : Int32) (p2 : Int32) : Option Int32 :=
  tyl_T_findWagon_2 σ (fun x1 x2 x3 =>
  some ((-1))) 64  p1 p2 0
def tyf_L_add (σ : tyS) (p1 : Int32) (p2 : Int32) : Option tyS :=
  chk (inb p1 40) (
  chk (inb ((p1 * 30) + (σ.1 18 (p1).toNatClampNeg)) 1200) (stp (sW σ 19 ((p1 * 30) + (σ.1 18 (p1).toNatClampNeg)) p2) fun σ3 =>
  chk (inb p1 40) (
  chk (inb p1 40) (stp (sW σ3 18 p1 ((σ3.1 18 (p1).toNatClampNeg) + 1)) fun σ6 =>
  chk (inb p2 30) (stp (sW σ6 20 p2 p1) fun σ8 =>
  some σ8)))))
def tyf_B_customer (σ : tyS) (p1 : Int32) : Option Int32 :=
  chk (inb p1 60) (
  some ((σ.1 21 (p1).toNatClampNeg)))
def tyf_L_open (σ : tyS) (p1 : Int32) (p2 : Int32) (p3 : Int32) : Option (Int32 × tyS) :=
  stp (sV σ 5 ((σ.2 5) + 1)) fun σ1 =>
  chk (inb (σ.2 5) 40) (stp (sW σ1 13 (σ.2 5) p1) fun σ3 =>
  chk (inb (σ.2 5) 40) (stp (sW σ3 14 (σ.2 5) p2) fun σ5 =>
  chk (inb (σ.2 5) 40) (stp (sW σ5 15 (σ.2 5) p3) fun σ7 =>
  chk (inb (σ.2 5) 40) (stp (sW σ7 16 (σ.2 5) 0) fun σ9 =>
  some ((σ.2 5), σ9)))))
def tyf_B_setOpenBooking (σ : tyS) (p1 : Int32) (p2 : Int32) : Option tyS :=
  chk (inb p1 60) (stp (sW σ 23 p1 p2) fun σ2 =>
  some σ2)
def tyf_L_isFull (σ : tyS) : Option Int32 :=
  if (σ.2 5) < 40 then (
  some (0)) else (
  some (1))
def tyf_T_ask (σ : tyS) (p1 : Int32) (p2 : Int32) : Option tyX :=
  bX (tyf_T_requireCall σ p1) fun r2 σ1 =>
  bR (tyf_T_isGrain σ1 p2) fun r3 =>
  if r3 = 0 then (
  some ((1, 0, σ1) : tyX)) else (
  bX (tyf_T_requireOngoing σ1 p1) fun r6 σ5 =>
  bR (tyf_B_openBooking σ5 p1) fun r7 =>
  if r7 = (-1) then (
  bR (tyf_L_isFull σ5 ) fun r22 =>
  if r22 = 0 then (
  bR (tyf_B_yard σ5 p1) fun r24 =>
  bR (tyf_T_findWagon σ5 r24 p2) fun r25 =>
  if r25 = (-1) then (
  some ((0, (-1), σ5) : tyX)) else (
  if r7 = (-1) then (
  bR (tyf_B_customer σ5 p1) fun r29 =>
  bR (tyf_B_yard σ5 p1) fun r30 =>
  bN (tyf_L_open σ5 r29 r30 p2) fun r32 σ31 =>
  bR (tyf_B_setOpenBooking σ31 p1 r32) fun σ33 =>
  bR (tyf_L_add σ33 r32 r25) fun σ34 =>
  some ((0, r25, σ34) : tyX)) else (
  bR (tyf_L_add σ5 r7 r25) fun σ28 =>
  some ((0, r25, σ28) : tyX)))) else (
  some ((2, 0, σ5) : tyX))) else (
  bR (tyf_L_grain σ5 r7) fun r9 =>
  if r9 = p2 then (
  bR (tyf_B_yard σ5 p1) fun r11 =>
  bR (tyf_T_findWagon σ5 r11 p2) fun r12 =>
  if r12 = (-1) then (
  some ((0, (-1), σ5) : tyX)) else (
  if r7 = (-1) then (
  bR (tyf_B_customer σ5 p1) fun r16 =>
  bR (tyf_B_yard σ5 p1) fun r17 =>
  bN (tyf_L_open σ5 r16 r17 p2) fun r19 σ18 =>
  bR (tyf_B_setOpenBooking σ18 p1 r19) fun σ20 =>
  bR (tyf_L_add σ20 r19 r12) fun σ21 =>
  some ((0, r12, σ21) : tyX)) else (
  bR (tyf_L_add σ5 r7 r12) fun σ15 =>
  some ((0, r12, σ15) : tyX)))) else (
  some ((2, 0, σ5) : tyX))))
def tyf_L_keep (σ : tyS) (p1 : Int32) (p2 : Int32) : Option tyS :=
  chk (inb p1 40) (stp (sW σ 16 p1 p2) fun σ2 =>
  some σ2)
def tyf_T_confirm (σ : tyS) (p1 : Int32) : Option tyX :=
  bX (tyf_T_requireCall σ p1) fun r2 σ1 =>
  bX (tyf_T_requireOngoing σ1 p1) fun r4 σ3 =>
  bR (tyf_B_openBooking σ3 p1) fun r5 =>
  if r5 = (-1) then (
  some ((2, 0, σ3) : tyX)) else (
  bR (tyf_L_keep σ3 r5 2) fun σ7 =>
  bR (tyf_B_setOpenBooking σ7 p1 (-1)) fun σ8 =>
  some ((0, r5, σ8) : tyX))
def tyf_L_opened (σ : tyS) : Option Int32 :=
  some ((σ.2 5))
def tyf_T_requireBooking (σ : tyS) (p1 : Int32) : Option tyX :=
  if p1 < 0 then (
  some ((3, 0, σ) : tyX)) else (
  bR (tyf_L_opened σ ) fun r2 =>
  if p1 < r2 then (
  some ((0, 0, σ) : tyX)) else (
  some ((3, 0, σ) : tyX)))
def tyf_L_standing (σ : tyS) (p1 : Int32) : Option Int32 :=
  chk (inb p1 40) (
  some ((σ.1 16 (p1).toNatClampNeg)))
def tyf_L_customer (σ : tyS) (p1 : Int32) : Option Int32 :=
  chk (inb p1 40) (
  some ((σ.1 13 (p1).toNatClampNeg)))
def tyf_L_yard (σ : tyS) (p1 : Int32) : Option Int32 :=
  chk (inb p1 40) (
  some ((σ.1 14 (p1).toNatClampNeg)))
def tyf_T_isWithin (σ : tyS) (p1 : Int32) (p2 : Int32) (p3 : Int32) : Option Int32 :=
  bR (tyf_L_standing σ p2) fun r1 =>
  if r1 = p3 then (
  bR (tyf_L_customer σ p2) fun r3 =>
  bR (tyf_B_customer σ p1) fun r4 =>
  if r3 = r4 then (
  bR (tyf_L_yard σ p2) fun r6 =>
  bR (tyf_B_yard σ p1) fun r7 =>
  if r6 = r7 then (
  some (1)) else (
  some (0))) else (
  some (0))) else (
  some (0))
def tyf_L_size (σ : tyS) (p1 : Int32) : Option Int32 :=
  chk (inb p1 40) (
  some ((σ.1 18 (p1).toNatClampNeg)))
def tyf_T_resume (σ : tyS) (p1 : Int32) (p2 : Int32) : Option tyX :=
  bX (tyf_T_requireCall σ p1) fun r2 σ1 =>
  bX (tyf_T_requireBooking σ1 p2) fun r4 σ3 =>
  bX (tyf_T_requireOngoing σ3 p1) fun r6 σ5 =>
  bR (tyf_B_openBooking σ5 p1) fun r7 =>
  if r7 = (-1) then (
  bR (tyf_T_isWithin σ5 p1 p2 1) fun r9 =>
  if r9 = 0 then (
  some ((2, 0, σ5) : tyX)) else (
  bR (tyf_L_keep σ5 p2 0) fun σ11 =>
  bR (tyf_B_setOpenBooking σ11 p1 p2) fun σ12 =>
  bR (tyf_L_size σ12 p2) fun r13 =>
  some ((0, r13, σ12) : tyX))) else (
  some ((2, 0, σ5) : tyX))
def tyf_L_get (σ : tyS) (p1 : Int32) (p2 : Int32) : Option Int32 :=
  chk (inb ((p1 * 30) + p2) 1200) (
  some ((σ.1 19 (((p1 * 30) + p2)).toNatClampNeg)))
def tyb_L_release_9 (k rec : tyS → Int32 → Int32 → Int32 → Option tyS) (σ0 : tyS) (x1 : Int32) (x2 : Int32) (x3 : Int32) : Option tyS :=
  chk (inb x1 40) (
  if (σ0.1 18 (x1).toNatClampNeg) ≤ x3 then (
  k σ0 x1 x2 x3) else (
  bR (tyf_L_get σ0 x1 x3) fun r5 =>
  chk (inb r5 30) (stp (sW σ0 20 r5 (-1)) fun σ7 =>
  rec σ7 x1 x2 (x3 + 1))))
def tyl_L_release_9 (k : tyS → Int32 → Int32 → Int32 → Option tyS) : Nat → tyS → Int32 → Int32 → Int32 → Option tyS
  | 0, _, _, _, _ => none
  | n + 1, σ0, x1, x2, x3 => tyb_L_release_9 k (tyl_L_release_9 k n) σ0 x1 x2 x3
def tyf_L_release (σ : tyS) (p1 : Int32) (p2 : Int32) : Option tyS :=
  chk (inb p1 40) (stp (sW σ 16 p1 p2) fun σ2 =>
  tyl_L_release_9 (fun σ0 x1 x2 x3 =>
  some σ0) 64 σ2 p1 p2 0)
def tyf_T_cancel (σ : tyS) (p1 : Int32) (p2 : Int32) : Option tyX :=
  bX (tyf_T_requireCall σ p1) fun r2 σ1 =>
  bX (tyf_T_requireBooking σ1 p2) fun r4 σ3 =>
  bX (tyf_T_requireOngoing σ3 p1) fun r6 σ5 =>
  bR (tyf_T_isWithin σ5 p1 p2 2) fun r7 =>
  if r7 = 0 then (
  some ((2, 0, σ5) : tyX)) else (
  bR (tyf_L_release σ5 p2 5) fun σ9 =>
  bR (tyf_L_size σ9 p2) fun r10 =>
  some ((0, r10, σ9) : tyX))
def tyf_B_end (σ : tyS) (p1 : Int32) : Option tyS :=
  chk (inb p1 60) (
  chk (inb (σ.1 21 (p1).toNatClampNeg) 6) (stp (sW σ 26 (σ.1 21 (p1).toNatClampNeg) (-1)) fun σ3 =>
  chk (inb p1 60) (
  bR (tyf_B_occupy σ3 (σ3.1 24 (p1).toNatClampNeg) (-1)) fun σ5 =>
  chk (inb p1 60) (
  bR (tyf_B_occupy σ5 (σ5.1 25 (p1).toNatClampNeg) (-1)) fun σ7 =>
  some σ7))))
def tyf_T_hangUp (σ : tyS) (p1 : Int32) : Option tyX :=
  bX (tyf_T_requireCall σ p1) fun r2 σ1 =>
  bX (tyf_T_requireOngoing σ1 p1) fun r4 σ3 =>
  bR (tyf_B_openBooking σ3 p1) fun r5 =>
  bR (tyf_B_end σ3 p1) fun σ6 =>
  if r5 = (-1) then (
  some ((0, 0, σ6) : tyX)) else (
  bR (tyf_L_release σ6 r5 5) fun σ8 =>
  bR (tyf_L_size σ8 r5) fun r9 =>
  some ((0, r9, σ8) : tyX))
def tyf_T_callOf (σ : tyS) (p1 : Int32) : Option tyX :=
  bX (tyf_T_requireCustomer σ p1) fun r2 σ1 =>
  bR (tyf_B_ongoing σ1 p1) fun r3 =>
  some ((0, r3, σ1) : tyX)
def tyf_B_trunksOf (σ : tyS) (p1 : Int32) : Option Int32 :=
  chk (inb p1 60) (
  if (σ.1 24 (p1).toNatClampNeg) = (-1) then (
  chk (inb p1 60) (
  if (σ.1 25 (p1).toNatClampNeg) = (-1) then (
  some ((0 + 0))) else (
  some ((0 + 1))))) else (
  chk (inb p1 60) (
  if (σ.1 25 (p1).toNatClampNeg) = (-1) then (
  some ((1 + 0))) else (
  some ((1 + 1))))))
def tyf_T_way (σ : tyS) (p1 : Int32) : Option tyX :=
  bX (tyf_T_requireCall σ p1) fun r2 σ1 =>
  bX (tyf_T_requireOngoing σ1 p1) fun r4 σ3 =>
  bR (tyf_B_trunksOf σ3 p1) fun r5 =>
  some ((0, r5, σ3) : tyX)
def tyf_T_busy (σ : tyS) : Option Int32 :=
  some ((σ.2 2))
def tyf_T_isExchange (σ : tyS) (p0 : Int32) : Option Int32 :=
  if p0 < 0 then (
  some (0)) else (
  if 3 ≤ p0 then (
  some (0)) else (
  some (1)))
def tyf_T_requireTrunk (σ : tyS) (p0 : Int32) (p1 : Int32) (p2 : Int32) : Option tyX :=
  bR (tyf_T_isExchange σ p0) fun r1 =>
  if r1 = 0 then (
  some ((1, 0, σ) : tyX)) else (
  bR (tyf_T_isExchange σ p1) fun r3 =>
  if r3 = 0 then (
  some ((1, 0, σ) : tyX)) else (
  if p0 = p1 then (
  some ((1, 0, σ) : tyX)) else (
  if p2 < 0 then (
  some ((1, 0, σ) : tyX)) else (
  if p2 < 2 then (
  some ((0, 0, σ) : tyX)) else (
  some ((1, 0, σ) : tyX))))))
def tyf_B_trunkHas (σ : tyS) (p1 : Int32) : Option Int32 :=
  chk (inb p1 6) (
  some ((σ.1 27 (p1).toNatClampNeg)))
def tyf_B_setTrunk (σ : tyS) (p1 : Int32) (p2 : Int32) : Option tyS :=
  chk (inb p1 6) (stp (sW σ 27 p1 p2) fun σ2 =>
  some σ2)
def tyf_L_halve (σ : tyS) (p1 : Int32) (p2 : Int32) : Option tyS :=
  chk (inb p1 40) (stp (sW σ 16 p1 1) fun σ2 =>
  chk (inb p1 40) (stp (sW σ2 17 p1 (p2 + 10)) fun σ4 =>
  some σ4))
def tyf_T_cutOff (σ : tyS) (p1 : Int32) : Option tyS :=
  bR (tyf_B_openBooking σ p1) fun r1 =>
  bR (tyf_B_end σ p1) fun σ2 =>
  if r1 = (-1) then (
  some σ2) else (
  bR (tyf_L_halve σ2 r1 (σ2.2 3)) fun σ4 =>
  some σ4)
def tyf_T_cut (σ : tyS) (p1 : Int32) (p2 : Int32) (p3 : Int32) : Option tyX :=
  bX (tyf_T_requireTrunk σ p1 p2 p3) fun r2 σ1 =>
  bR (tyf_T_slotOf σ1 p1 p2 p3) fun r3 =>
  bR (tyf_B_trunkHas σ1 r3) fun r4 =>
  if r4 = (-2) then (
  some ((2, 0, σ1) : tyX)) else (
  if r4 = (-1) then (
  bR (tyf_B_setTrunk σ1 r3 (-2)) fun σ7 =>
  some ((0, r4, σ7) : tyX)) else (
  bR (tyf_T_cutOff σ1 r4) fun σ8 =>
  bR (tyf_B_setTrunk σ8 r3 (-2)) fun σ9 =>
  some ((0, r4, σ9) : tyX)))
def tyf_T_mend (σ : tyS) (p1 : Int32) (p2 : Int32) (p3 : Int32) : Option tyX :=
  bX (tyf_T_requireTrunk σ p1 p2 p3) fun r2 σ1 =>
  bR (tyf_T_slotOf σ1 p1 p2 p3) fun r3 =>
  bR (tyf_B_trunkHas σ1 r3) fun r4 =>
  if r4 = (-2) then (
  bR (tyf_B_setTrunk σ1 r3 (-1)) fun σ6 =>
  some ((0, 0, σ6) : tyX)) else (
  some ((2, 0, σ1) : tyX))
def tyf_T_trunk (σ : tyS) (p1 : Int32) (p2 : Int32) (p3 : Int32) : Option tyX :=
  bX (tyf_T_requireTrunk σ p1 p2 p3) fun r2 σ1 =>
  bR (tyf_T_slotOf σ1 p1 p2 p3) fun r3 =>
  bR (tyf_B_trunkHas σ1 r3) fun r4 =>
  some ((0, r4, σ1) : tyX)
def tyf_B_changeLines (σ : tyS) (p1 : Int32) (p2 : Int32) : Option (Int32 × tyS) :=
  chk (inb p1 3) (
  chk (inb p1 3) (stp (sW σ 28 p1 p2) fun σ3 =>
  some ((σ.1 28 (p1).toNatClampNeg), σ3)))
def tyf_T_setLines (σ : tyS) (p1 : Int32) (p2 : Int32) : Option tyX :=
  bX (tyf_T_requireYard σ p1) fun r2 σ1 =>
  if p2 < 0 then (
  some ((1, 0, σ1) : tyX)) else (
  if p2 ≤ 3 then (
  bR (tyf_B_callsTo σ1 p1) fun r5 =>
  if r5 ≤ p2 then (
  bN (tyf_B_changeLines σ1 p1 p2) fun r8 σ7 =>
  some ((0, r8, σ7) : tyX)) else (
  some ((2, 0, σ1) : tyX))) else (
  some ((1, 0, σ1) : tyX)))
def tyb_L_lapseAll_4 (k rec : tyS → Int32 → Int32 → Int32 → Option (Int32 × tyS)) (σ0 : tyS) (x1 : Int32) (x2 : Int32) (x3 : Int32) : Option (Int32 × tyS) :=
  if (σ0.2 5) ≤ x3 then (
  k σ0 x1 x2 x3) else (
  chk (inb x3 40) (
  if (σ0.1 16 (x3).toNatClampNeg) = 1 then (
  chk (inb x3 40) (
  if x1 < (σ0.1 17 (x3).toNatClampNeg) then (
  rec σ0 x1 x2 (x3 + 1)) else (
  bR (tyf_L_release σ0 x3 5) fun σ6 =>
  rec σ6 x1 (x2 + 1) (x3 + 1)))) else (
  rec σ0 x1 x2 (x3 + 1))))
def tyl_L_lapseAll_4 (k : tyS → Int32 → Int32 → Int32 → Option (Int32 × tyS)) : Nat → tyS → Int32 → Int32 → Int32 → Option (Int32 × tyS)
  | 0, _, _, _, _ => none
  | n + 1, σ0, x1, x2, x3 => tyb_L_lapseAll_4 k (tyl_L_lapseAll_4 k n) σ0 x1 x2 x3
def tyf_L_lapseAll (σ : tyS) (p1 : Int32) : Option (Int32 × tyS) :=
  tyl_L_lapseAll_4 (fun σ0 x1 x2 x3 =>
  some (x2, σ0)) 64 σ p1 0 0
def tyf_T_pass (σ : tyS) (p1 : Int32) : Option tyX :=
  if p1 < 1 then (
  some ((1, 0, σ) : tyX)) else (
  if p1 ≤ 100 then (
  if ((σ.2 3) + p1) ≤ 10000 then (
  stp (sV σ 3 ((σ.2 3) + p1)) fun σ4 =>
  bN (tyf_L_lapseAll σ4 (σ4.2 3)) fun r6 σ5 =>
  some ((0, r6, σ5) : tyX)) else (
  some ((2, 0, σ) : tyX))) else (
  some ((1, 0, σ) : tyX)))
def tyf_T_bookings (σ : tyS) : Option Int32 :=
  bR (tyf_L_opened σ ) fun r1 =>
  some (r1)
def tyf_T_state (σ : tyS) (p1 : Int32) : Option tyX :=
  bX (tyf_T_requireBooking σ p1) fun r2 σ1 =>
  bR (tyf_L_standing σ1 p1) fun r3 =>
  some ((0, r3, σ1) : tyX)
def tyf_T_wagons (σ : tyS) (p1 : Int32) : Option tyX :=
  bX (tyf_T_requireBooking σ p1) fun r2 σ1 =>
  bR (tyf_L_size σ1 p1) fun r3 =>
  some ((0, r3, σ1) : tyX)
def tyf_T_wagonOf (σ : tyS) (p1 : Int32) (p2 : Int32) : Option tyX :=
  bX (tyf_T_requireBooking σ p1) fun r2 σ1 =>
  if p2 < 0 then (
  some ((3, 0, σ1) : tyX)) else (
  bR (tyf_L_size σ1 p1) fun r4 =>
  if p2 < r4 then (
  bR (tyf_L_get σ1 p1 p2) fun r6 =>
  some ((0, r6, σ1) : tyX)) else (
  some ((3, 0, σ1) : tyX)))
def tyf_L_lapseTick (σ : tyS) (p1 : Int32) : Option Int32 :=
  chk (inb p1 40) (
  some ((σ.1 17 (p1).toNatClampNeg)))
def tyf_T_lapses (σ : tyS) (p1 : Int32) : Option tyX :=
  bX (tyf_T_requireBooking σ p1) fun r2 σ1 =>
  bR (tyf_L_standing σ1 p1) fun r3 =>
  if r3 = 1 then (
  bR (tyf_L_lapseTick σ1 p1) fun r5 =>
  some ((0, (r5 - (σ1.2 3)), σ1) : tyX)) else (
  some ((2, 0, σ1) : tyX))
def tyb_T_standsWhole_5 (σ : tyS) (k rec : Int32 → Int32 → Int32 → Int32 → Option Int32) (x1 : Int32) (x2 : Int32) (x3 : Int32) (x4 : Int32) : Option Int32 :=
  bR (tyf_R1_count σ x2) fun r1 =>
  if r1 ≤ x4 then (
  k  x1 x2 x3 x4) else (
  bR (tyf_R1_get σ x2 x4) fun r3 =>
  bR (tyf_L_bookingFor σ r3) fun r4 =>
  if r4 = x1 then (
  rec  x1 x2 (x3 + 1) (x4 + 1)) else (
  rec  x1 x2 x3 (x4 + 1)))
def tyl_T_standsWhole_5 (σ : tyS) (k : Int32 → Int32 → Int32 → Int32 → Option Int32) : Nat → Int32 → Int32 → Int32 → Int32 → Option Int32
  | 0, _, _, _, _ => none
  | n + 1, x1, x2, x3, x4 => tyb_T_standsWhole_5 σ k (tyl_T_standsWhole_5 σ k n) x1 x2 x3 x4
def tyf_T_standsWhole (σ : tyS) (p1 : Int32) (p2 : Int32) : Option Int32 :=
  tyl_T_standsWhole_5 σ (fun x1 x2 x3 x4 =>
  bR (tyf_L_size σ x1) fun r6 =>
  if x3 = r6 then (
  some (1)) else (
  some (0))) 64  p1 p2 0 0
def tyb_T_canDepart_11 (σ : tyS) (k rec : Int32 → Int32 → Int32 → Option Int32) (x1 : Int32) (x2 : Int32) (x3 : Int32) : Option Int32 :=
  if x2 ≤ x3 then (
  k  x1 x2 x3) else (
  bR (tyf_R1_get σ x1 x3) fun r3 =>
  bR (tyf_L_bookingFor σ r3) fun r4 =>
  if r4 = (-1) then (
  some (0)) else (
  bR (tyf_L_standing σ r4) fun r6 =>
  if r6 = 2 then (
  bR (tyf_T_standsWhole σ r4 x1) fun r8 =>
  if r8 = 0 then (
  some (0)) else (
  rec  x1 x2 (x3 + 1))) else (
  some (0))))
def tyl_T_canDepart_11 (σ : tyS) (k : Int32 → Int32 → Int32 → Option Int32) : Nat → Int32 → Int32 → Int32 → Option Int32
  | 0, _, _, _ => none
  | n + 1, x1, x2, x3 => tyb_T_canDepart_11 σ k (tyl_T_canDepart_11 σ k n) x1 x2 x3
def tyf_T_canDepart (σ : tyS) (p1 : Int32) : Option Int32 :=
  bR (tyf_R1_count σ p1) fun r1 =>
  tyl_T_canDepart_11 σ (fun x1 x2 x3 =>
  if x2 ≤ 0 then (
  some (0)) else (
  some (1))) 64  p1 r1 0
def tyb_T_load_2 (k rec : tyS → Int32 → Int32 → Option tyS) (σ0 : tyS) (x1 : Int32) (x2 : Int32) : Option tyS :=
  bR (tyf_R1_count σ0 x1) fun r1 =>
  if r1 ≤ x2 then (
  k σ0 x1 x2) else (
  bR (tyf_R1_get σ0 x1 x2) fun r3 =>
  bR (tyf_L_bookingFor σ0 r3) fun r4 =>
  if r4 = (-1) then (
  rec σ0 x1 (x2 + 1)) else (
  bR (tyf_L_grain σ0 r4) fun r6 =>
  chk (inb r3 30) (stp (sW σ0 29 r3 r6) fun σ8 =>
  bR (tyf_L_keep σ8 r4 3) fun σ9 =>
  rec σ9 x1 (x2 + 1))))
def tyl_T_load_2 (k : tyS → Int32 → Int32 → Option tyS) : Nat → tyS → Int32 → Int32 → Option tyS
  | 0, _, _, _ => none
  | n + 1, σ0, x1, x2 => tyb_T_load_2 k (tyl_T_load_2 k n) σ0 x1 x2
def tyf_T_load (σ : tyS) (p1 : Int32) : Option tyS :=
  tyl_T_load_2 (fun σ0 x1 x2 =>
  some σ0) 64 σ p1 0
def tyf_T_depart (σ : tyS) (p1 : Int32) (p2 : Int32) (p3 : Int32) : Option tyX :=
  bX (tyf_T_requireTrack σ p1 p2) fun r2 σ1 =>
  bX (tyf_T_requireYard σ1 p3) fun r4 σ3 =>
  if p1 = p3 then (
  some ((1, 0, σ3) : tyX)) else (
  bR (tyf_T_rowOf σ3 p1 p2) fun r6 =>
  if 40 ≤ (σ3.2 1) then (
  some ((2, 0, σ3) : tyX)) else (
  bR (tyf_T_canDepart σ3 r6) fun r8 =>
  if r8 = 0 then (
  some ((2, 0, σ3) : tyX)) else (
  stp (sV σ3 1 ((σ3.2 1) + 1)) fun σ10 =>
  chk (inb (σ3.2 1) 40) (stp (sW σ10 31 (σ3.2 1) p3) fun σ12 =>
  bR (tyf_T_load σ12 r6) fun σ13 =>
  bR (tyf_R1_count σ13 r6) fun r14 =>
  bR (tyf_T_moveLast σ13 r6 (15 + (σ3.2 1)) r14) fun σ15 =>
  some ((0, (σ3.2 1), σ15) : tyX)))))
def tyb_T_unload_2 (k rec : tyS → Int32 → Int32 → Option tyS) (σ0 : tyS) (x1 : Int32) (x2 : Int32) : Option tyS :=
  bR (tyf_R1_count σ0 x1) fun r1 =>
  if r1 ≤ x2 then (
  k σ0 x1 x2) else (
  bR (tyf_R1_get σ0 x1 x2) fun r3 =>
  bR (tyf_L_bookingFor σ0 r3) fun r4 =>
  if r4 = (-1) then (
  rec σ0 x1 (x2 + 1)) else (
  bR (tyf_L_release σ0 r4 4) fun σ6 =>
  rec σ6 x1 (x2 + 1)))
def tyl_T_unload_2 (k : tyS → Int32 → Int32 → Option tyS) : Nat → tyS → Int32 → Int32 → Option tyS
  | 0, _, _, _ => none
  | n + 1, σ0, x1, x2 => tyb_T_unload_2 k (tyl_T_unload_2 k n) σ0 x1 x2
def tyf_T_unload (σ : tyS) (p1 : Int32) : Option tyS :=
  tyl_T_unload_2 (fun σ0 x1 x2 =>
  some σ0) 64 σ p1 0
def tyf_T_arrive (σ : tyS) (p1 : Int32) (p2 : Int32) : Option tyX :=
  if p1 < 0 then (
  some ((3, 0, σ) : tyX)) else (
  if p1 < (σ.2 1) then (
  bR (tyf_T_isTrack σ p2) fun r3 =>
  if r3 = 0 then (
  some ((1, 0, σ) : tyX)) else (
  chk (inb p1 40) (
  bR (tyf_T_rowOf σ (σ.1 31 (p1).toNatClampNeg) p2) fun r6 =>
  bR (tyf_R1_count σ (15 + p1)) fun r7 =>
  if r7 = 0 then (
  some ((2, 0, σ) : tyX)) else (
  bR (tyf_R1_hasRoom σ r6 r7) fun r9 =>
  if r9 = 0 then (
  some ((2, 0, σ) : tyX)) else (
  bR (tyf_T_unload σ (15 + p1)) fun σ11 =>
  bR (tyf_T_moveLast σ11 (15 + p1) r6 r7) fun σ12 =>
  bR (tyf_R1_count σ12 r6) fun r13 =>
  some ((0, r13, σ12) : tyX)))))) else (
  some ((3, 0, σ) : tyX)))
def tyf_T_trains (σ : tyS) : Option Int32 :=
  some ((σ.2 1))
/-! ===== the methods as values: TrunkYardsModel ===== -/
def tyf_M_thrown (σ : tyS) : Option Int32 :=
  some ((σ.2 0))
def tyf_M_in (σ : tyS) (p0 : Int32) (p1 : Int32) (p2 : Int32) : Option Int32 :=
  if p0 < p1 then (
  some (0)) else (
  if p2 < p0 then (
  some (0)) else (
  some (1)))
def tyf_M_isYard (σ : tyS) (p0 : Int32) : Option Int32 :=
  bR (tyf_M_in σ p0 0 2) fun r1 =>
  chk (decide (vp_nar .boolean r1 = r1)) (
  some (r1))
def tyf_M_isTrack (σ : tyS) (p0 : Int32) (p1 : Int32) : Option Int32 :=
  bR (tyf_M_isYard σ p0) fun r1 =>
  if r1 = 0 then (
  some (0)) else (
  bR (tyf_M_in σ p1 0 4) fun r3 =>
  if r3 = 0 then (
  some (0)) else (
  some (1)))
def tyf_M_puts (σ : tyS) (p1 : Int32) (p2 : Int32) (p3 : Int32) : Option tyS :=
  chk (inb ((5 * p1) + p2) 15) (
  chk (inb ((6 * ((5 * p1) + p2)) + (σ.1 4 (((5 * p1) + p2)).toNatClampNeg)) 90) (stp (sW σ 5 ((6 * ((5 * p1) + p2)) + (σ.1 4 (((5 * p1) + p2)).toNatClampNeg)) p3) fun σ3 =>
  chk (inb ((5 * p1) + p2) 15) (
  chk (inb ((5 * p1) + p2) 15) (stp (sW σ3 4 ((5 * p1) + p2) ((σ3.1 4 (((5 * p1) + p2)).toNatClampNeg) + 1)) fun σ6 =>
  chk (inb p3 30) (stp (sW σ6 1 p3 ((10 * p1) + p2)) fun σ8 =>
  some σ8)))))
def tyf_M_wagon (σ : tyS) (p1 : Int32) (p2 : Int32) : Option (Int32 × tyS) :=
  bR (tyf_M_isTrack σ p1 p2) fun r1 =>
  if r1 = 0 then (
  stp (sV σ 0 1) fun σ15 =>
  some (0, σ15)) else (
  if (σ.2 2) = 30 then (
  stp (sV σ 0 2) fun σ4 =>
  some (0, σ4)) else (
  chk (inb ((5 * p1) + p2) 15) (
  if (σ.1 4 (((5 * p1) + p2)).toNatClampNeg) = 6 then (
  stp (sV σ 0 2) fun σ14 =>
  some (0, σ14)) else (
  stp (sV σ 0 0) fun σ7 =>
  chk (inb (σ7.2 2) 30) (stp (sW σ7 2 (σ7.2 2) (-1)) fun σ9 =>
  chk (inb (σ9.2 2) 30) (stp (sW σ9 3 (σ9.2 2) (-1)) fun σ11 =>
  bR (tyf_M_puts σ11 p1 p2 (σ11.2 2)) fun σ12 =>
  stp (sV σ12 2 ((σ12.2 2) + 1)) fun σ13 =>
  some (((σ13.2 2) - 1), σ13)))))))
def tyb_M_shunt_121 (k rec : tyS → Int32 → Int32 → Int32 → Int32 → Int32 → Int32 → Int32 → Option (Int32 × tyS)) (σ0 : tyS) (x1 : Int32) (x2 : Int32) (x3 : Int32) (x4 : Int32) (x5 : Int32) (x6 : Int32) (x7 : Int32) : Option (Int32 × tyS) :=
  if x4 ≤ x7 then (
  k σ0 x1 x2 x3 x4 x5 x6 x7) else (
  chk (inb x6 15) (
  chk (inb (((6 * x6) + (σ0.1 4 (x6).toNatClampNeg)) + x7) 90) (
  bR (tyf_M_puts σ0 x1 x3 (σ0.1 5 ((((6 * x6) + (σ0.1 4 (x6).toNatClampNeg)) + x7)).toNatClampNeg)) fun σ24 =>
  rec σ24 x1 x2 x3 x4 x5 x6 (x7 + 1))))
def tyl_M_shunt_121 (k : tyS → Int32 → Int32 → Int32 → Int32 → Int32 → Int32 → Int32 → Option (Int32 × tyS)) : Nat → tyS → Int32 → Int32 → Int32 → Int32 → Int32 → Int32 → Int32 → Option (Int32 × tyS)
  | 0, _, _, _, _, _, _, _, _ => none
  | n + 1, σ0, x1, x2, x3, x4, x5, x6, x7 => tyb_M_shunt_121 k (tyl_M_shunt_121 k n) σ0 x1 x2 x3 x4 x5 x6 x7
def tyf_M_shunt (σ : tyS) (p1 : Int32) (p2 : Int32) (p3 : Int32) (p4 : Int32) : Option (Int32 × tyS) :=
  bR (tyf_M_isTrack σ p1 p2) fun r1 =>
  if r1 = 0 then (
  stp (sV σ 0 1) fun σ3 =>
  some (0, σ3)) else (
  bR (tyf_M_isTrack σ p1 p3) fun r4 =>
  if r4 = 0 then (
  stp (sV σ 0 1) fun σ6 =>
  some (0, σ6)) else (
  if p2 = p3 then (
  stp (sV σ 0 1) fun σ8 =>
  some (0, σ8)) else (
  bR (tyf_M_in σ p4 1 6) fun r9 =>
  if r9 = 0 then (
  stp (sV σ 0 1) fun σ11 =>
  some (0, σ11)) else (
  chk (inb ((5 * p1) + p2) 15) (
  if (σ.1 4 (((5 * p1) + p2)).toNatClampNeg) < p4 then (
  stp (sV σ 0 2) fun σ14 =>
  some (0, σ14)) else (
  chk (inb ((5 * p1) + p3) 15) (
  if ((σ.1 4 (((5 * p1) + p3)).toNatClampNeg) + p4) ≤ 6 then (
  stp (sV σ 0 0) fun σ17 =>
  chk (inb ((5 * p1) + p2) 15) (
  chk (inb ((5 * p1) + p2) 15) (stp (sW σ17 4 ((5 * p1) + p2) ((σ17.1 4 (((5 * p1) + p2)).toNatClampNeg) - p4)) fun σ20 =>
  tyl_M_shunt_121 (fun σ0 x1 x2 x3 x4 x5 x6 x7 =>
  chk (inb ((5 * x1) + x3) 15) (
  some ((σ0.1 4 (((5 * x1) + x3)).toNatClampNeg), σ0))) 64 σ20 p1 p2 p3 p4 1 ((5 * p1) + p2) 0))) else (
  stp (sV σ 0 2) fun σ26 =>
  some (0, σ26)))))))))
def tyf_M_wash (σ : tyS) (p1 : Int32) : Option (Int32 × tyS) :=
  bR (tyf_M_isYard σ p1) fun r1 =>
  if r1 = 0 then (
  stp (sV σ 0 1) fun σ12 =>
  some (0, σ12)) else (
  chk (inb (5 * p1) 15) (
  if (σ.1 4 ((5 * p1)).toNatClampNeg) = 0 then (
  stp (sV σ 0 2) fun σ11 =>
  some (0, σ11)) else (
  stp (sV σ 0 0) fun σ5 =>
  chk (inb (5 * p1) 15) (
  chk (inb (((6 * (5 * p1)) + (σ5.1 4 ((5 * p1)).toNatClampNeg)) - 1) 90) (
  chk (inb (σ5.1 5 ((((6 * (5 * p1)) + (σ5.1 4 ((5 * p1)).toNatClampNeg)) - 1)).toNatClampNeg) 30) (
  chk (inb (σ5.1 5 ((((6 * (5 * p1)) + (σ5.1 4 ((5 * p1)).toNatClampNeg)) - 1)).toNatClampNeg) 30) (stp (sW σ5 2 (σ5.1 5 ((((6 * (5 * p1)) + (σ5.1 4 ((5 * p1)).toNatClampNeg)) - 1)).toNatClampNeg) (-1)) fun σ10 =>
  some ((σ5.1 2 ((σ5.1 5 ((((6 * (5 * p1)) + (σ5.1 4 ((5 * p1)).toNatClampNeg)) - 1)).toNatClampNeg)).toNatClampNeg), σ10))))))))
def tyf_M_isGrain (σ : tyS) (p0 : Int32) : Option Int32 :=
  bR (tyf_M_in σ p0 0 3) fun r1 =>
  chk (decide (vp_nar .boolean r1 = r1)) (
  some (r1))
def tyf_M_follow (σ : tyS) (p1 : Int32) (p2 : Int32) : Option (Int32 × tyS) :=
  bR (tyf_M_isGrain σ p1) fun r1 =>
  if r1 = 0 then (
  stp (sV σ 0 1) fun σ3 =>
  some (0, σ3)) else (
  bR (tyf_M_isGrain σ p2) fun r4 =>
  if r4 = 0 then (
  stp (sV σ 0 1) fun σ6 =>
  some (0, σ6)) else (
  if p1 = p2 then (
  stp (sV σ 0 1) fun σ8 =>
  some (0, σ8)) else (
  stp (sV σ 0 0) fun σ9 =>
  chk (inb p1 4) (
  chk (inb p1 4) (stp (sW σ9 6 p1 ((σ9.1 6 (p1).toNatClampNeg) ^^^ (1 <<< (p2 &&& 31)))) fun σ12 =>
  chk (inb p1 4) (
  if (((σ12.1 6 (p1).toNatClampNeg) >>> (p2 &&& 31)) &&& 1) = 1 then (
  some (1, σ12)) else (
  some (0, σ12))))))))
def tyf_M_on (σ : tyS) (p1 : Int32) (p2 : Int32) : Option (Int32 × tyS) :=
  bR (tyf_M_isTrack σ p1 p2) fun r1 =>
  if r1 = 0 then (
  stp (sV σ 0 1) fun σ3 =>
  some (0, σ3)) else (
  stp (sV σ 0 0) fun σ4 =>
  chk (inb ((5 * p1) + p2) 15) (
  some ((σ4.1 4 (((5 * p1) + p2)).toNatClampNeg), σ4)))
def tyf_M_wagonAt (σ : tyS) (p1 : Int32) (p2 : Int32) (p3 : Int32) : Option (Int32 × tyS) :=
  bR (tyf_M_isTrack σ p1 p2) fun r1 =>
  if r1 = 0 then (
  stp (sV σ 0 1) fun σ9 =>
  some (0, σ9)) else (
  chk (inb ((5 * p1) + p2) 15) (
  bR (tyf_M_in σ p3 0 ((σ.1 4 (((5 * p1) + p2)).toNatClampNeg) - 1)) fun r4 =>
  if r4 = 0 then (
  stp (sV σ 0 2) fun σ6 =>
  some (0, σ6)) else (
  stp (sV σ 0 0) fun σ7 =>
  chk (inb ((6 * ((5 * p1) + p2)) + p3) 90) (
  some ((σ7.1 5 (((6 * ((5 * p1) + p2)) + p3)).toNatClampNeg), σ7)))))
def tyf_M_at (σ : tyS) (p1 : Int32) (p2 : Int32) (p3 : Int32) : Option (Int32 × tyS) :=
  bN (tyf_M_wagonAt σ p1 p2 p3) fun r2 σ1 =>
  some (r2, σ1)
def tyf_M_atByReplay (σ : tyS) (p1 : Int32) (p2 : Int32) (p3 : Int32) : Option (Int32 × tyS) :=
  bN (tyf_M_wagonAt σ p1 p2 p3) fun r2 σ1 =>
  some (r2, σ1)
def tyf_M_isWagon (σ : tyS) (p1 : Int32) : Option Int32 :=
  bR (tyf_M_in σ p1 0 ((σ.2 2) - 1)) fun r1 =>
  chk (decide (vp_nar .boolean r1 = r1)) (
  some (r1))
def tyf_M_asksWagon (σ : tyS) (p1 : Int32) : Option (Int32 × tyS) :=
  bR (tyf_M_isWagon σ p1) fun r1 =>
  if r1 = 0 then (
  stp (sV σ 0 1) fun σ3 =>
  some (0, σ3)) else (
  stp (sV σ 0 0) fun σ4 =>
  some (1, σ4))
def tyf_M_where (σ : tyS) (p1 : Int32) : Option (Int32 × tyS) :=
  bN (tyf_M_asksWagon σ p1) fun r2 σ1 =>
  if r2 = 0 then (
  some (0, σ1)) else (
  chk (inb p1 30) (
  some ((σ1.1 1 (p1).toNatClampNeg), σ1)))
def tyf_M_carried (σ : tyS) (p1 : Int32) : Option (Int32 × tyS) :=
  bN (tyf_M_asksWagon σ p1) fun r2 σ1 =>
  if r2 = 0 then (
  some (0, σ1)) else (
  chk (inb p1 30) (
  some ((σ1.1 2 (p1).toNatClampNeg), σ1)))
def tyf_M_isPromised (σ : tyS) (p1 : Int32) : Option Int32 :=
  chk (inb p1 30) (
  if (σ.1 3 (p1).toNatClampNeg) = (-1) then (
  some (0)) else (
  chk (inb p1 30) (
  chk (inb (σ.1 3 (p1).toNatClampNeg) 40) (
  if 4 ≤ (σ.1 13 ((σ.1 3 (p1).toNatClampNeg)).toNatClampNeg) then (
  some (0)) else (
  some (1))))))
def tyf_M_promised (σ : tyS) (p1 : Int32) : Option (Int32 × tyS) :=
  bN (tyf_M_asksWagon σ p1) fun r2 σ1 =>
  if r2 = 0 then (
  some (0, σ1)) else (
  bR (tyf_M_isPromised σ1 p1) fun r4 =>
  if r4 = 0 then (
  some ((-1), σ1)) else (
  chk (inb p1 30) (
  some ((σ1.1 3 (p1).toNatClampNeg), σ1))))
def tyb_M_callNow_4 (σ : tyS) (k rec : Int32 → Int32 → Int32 → Option Int32) (x1 : Int32) (x2 : Int32) (x3 : Int32) : Option Int32 :=
  if (σ.2 3) ≤ x3 then (
  k  x1 x2 x3) else (
  chk (inb x3 60) (
  if (σ.1 11 (x3).toNatClampNeg) = 0 then (
  rec  x1 x2 (x3 + 1)) else (
  chk (inb x3 60) (
  if (σ.1 9 (x3).toNatClampNeg) = x1 then (
  rec  x1 x3 (x3 + 1)) else (
  rec  x1 x2 (x3 + 1))))))
def tyl_M_callNow_4 (σ : tyS) (k : Int32 → Int32 → Int32 → Option Int32) : Nat → Int32 → Int32 → Int32 → Option Int32
  | 0, _, _, _ => none
  | n + 1, x1, x2, x3 => tyb_M_callNow_4 σ k (tyl_M_callNow_4 σ k n) x1 x2 x3
def tyf_M_callNow (σ : tyS) (p1 : Int32) : Option Int32 :=
  tyl_M_callNow_4 σ (fun x1 x2 x3 =>
  some (x2)) 64  p1 (-1) 0
def tyb_M_callsTo_4 (σ : tyS) (k rec : Int32 → Int32 → Int32 → Option Int32) (x1 : Int32) (x2 : Int32) (x3 : Int32) : Option Int32 :=
  if (σ.2 3) ≤ x3 then (
  k  x1 x2 x3) else (
  chk (inb x3 60) (
  if (σ.1 11 (x3).toNatClampNeg) = 0 then (
  rec  x1 (x2 + 0) (x3 + 1)) else (
  chk (inb x3 60) (
  if (σ.1 10 (x3).toNatClampNeg) = x1 then (
  rec  x1 (x2 + 1) (x3 + 1)) else (
  rec  x1 (x2 + 0) (x3 + 1))))))
def tyl_M_callsTo_4 (σ : tyS) (k : Int32 → Int32 → Int32 → Option Int32) : Nat → Int32 → Int32 → Int32 → Option Int32
  | 0, _, _, _ => none
  | n + 1, x1, x2, x3 => tyb_M_callsTo_4 σ k (tyl_M_callsTo_4 σ k n) x1 x2 x3
def tyf_M_callsTo (σ : tyS) (p1 : Int32) : Option Int32 :=
  tyl_M_callsTo_4 σ (fun x1 x2 x3 =>
  some (x2)) 64  p1 0 0
def tyf_M_between (σ : tyS) (p0 : Int32) (p1 : Int32) : Option Int32 :=
  some ((2 * ((p0 + p1) - 1)))
def tyf_M_freeBetween (σ : tyS) (p1 : Int32) (p2 : Int32) : Option Int32 :=
  bR (tyf_M_between σ p1 p2) fun r1 =>
  chk (inb r1 6) (
  if (σ.1 7 (r1).toNatClampNeg) = (-1) then (
  some (r1)) else (
  chk (inb (r1 + 1) 6) (
  if (σ.1 7 ((r1 + 1)).toNatClampNeg) = (-1) then (
  some ((r1 + 1))) else (
  some ((-1))))))
def tyf_M_takesWay (σ : tyS) (p1 : Int32) (p2 : Int32) : Option (Int32 × tyS) :=
  if p1 = p2 then (
  some (1, σ)) else (
  bR (tyf_M_freeBetween σ p1 p2) fun r2 =>
  bR (tyf_M_freeBetween σ p1 ((3 - p1) - p2)) fun r3 =>
  bR (tyf_M_freeBetween σ ((3 - p1) - p2) p2) fun r4 =>
  if r2 = (-1) then (
  if r3 = (-1) then (
  some (0, σ)) else (
  if r4 = (-1) then (
  some (0, σ)) else (
  chk (inb r3 6) (stp (sW σ 7 r3 (σ.2 3)) fun σ9 =>
  chk (inb r4 6) (stp (sW σ9 7 r4 (σ9.2 3)) fun σ11 =>
  some (1, σ11)))))) else (
  chk (inb r2 6) (stp (sW σ 7 r2 (σ.2 3)) fun σ13 =>
  some (1, σ13))))
def tyf_M_call (σ : tyS) (p1 : Int32) (p2 : Int32) : Option (Int32 × tyS) :=
  bR (tyf_M_in σ p1 0 5) fun r1 =>
  if r1 = 0 then (
  stp (sV σ 0 1) fun σ3 =>
  some (0, σ3)) else (
  bR (tyf_M_isYard σ p2) fun r4 =>
  if r4 = 0 then (
  stp (sV σ 0 1) fun σ29 =>
  some (0, σ29)) else (
  bR (tyf_M_callNow σ p1) fun r6 =>
  if r6 = (-1) then (
  if (σ.2 3) = 60 then (
  stp (sV σ 0 2) fun σ28 =>
  some (0, σ28)) else (
  stp (sV σ 0 0) fun σ10 =>
  bR (tyf_M_callsTo σ10 p2) fun r11 =>
  chk (inb p2 3) (
  if (σ10.1 8 (p2).toNatClampNeg) ≤ r11 then (
  stp (sV σ10 4 ((σ10.2 4) + 1)) fun σ14 =>
  some ((-1), σ14)) else (
  bN (tyf_M_takesWay σ10 (p1 - p1 / 3 * 3) p2) fun r16 σ15 =>
  if r16 = 0 then (
  stp (sV σ15 4 ((σ15.2 4) + 1)) fun σ27 =>
  some ((-1), σ27)) else (
  chk (inb (σ15.2 3) 60) (stp (sW σ15 9 (σ15.2 3) p1) fun σ19 =>
  chk (inb (σ19.2 3) 60) (stp (sW σ19 10 (σ19.2 3) p2) fun σ21 =>
  chk (inb (σ21.2 3) 60) (stp (sW σ21 11 (σ21.2 3) 1) fun σ23 =>
  chk (inb (σ23.2 3) 60) (stp (sW σ23 12 (σ23.2 3) (-1)) fun σ25 =>
  stp (sV σ25 3 ((σ25.2 3) + 1)) fun σ26 =>
  some (((σ26.2 3) - 1), σ26)))))))))) else (
  stp (sV σ 0 2) fun σ8 =>
  some (0, σ8))))
def tyf_M_isCall (σ : tyS) (p1 : Int32) : Option Int32 :=
  bR (tyf_M_in σ p1 0 ((σ.2 3) - 1)) fun r1 =>
  chk (decide (vp_nar .boolean r1 = r1)) (
  some (r1))
def tyf_M_fits (σ : tyS) (p1 : Int32) (p2 : Int32) : Option Int32 :=
  chk (inb p1 30) (
  if (σ.1 2 (p1).toNatClampNeg) = (-1) then (
  some (1)) else (
  chk (inb p1 30) (
  if (σ.1 2 (p1).toNatClampNeg) = p2 then (
  some (1)) else (
  chk (inb p1 30) (
  chk (inb (σ.1 2 (p1).toNatClampNeg) 4) (
  if (((σ.1 6 ((σ.1 2 (p1).toNatClampNeg)).toNatClampNeg) >>> (p2 &&& 31)) &&& 1) = 1 then (
  some (1)) else (
  some (0))))))))
def tyb_M_finds_26 (σ : tyS) (k rec : Int32 → Int32 → Int32 → Int32 → Int32 → Int32 → Int32 → Option Int32) (x1 : Int32) (x2 : Int32) (x3 : Int32) (x4 : Int32) (x5 : Int32) (x6 : Int32) (x7 : Int32) : Option Int32 :=
  chk (inb x6 15) (
  if (σ.1 4 (x6).toNatClampNeg) ≤ x7 then (
  k  x1 x2 x3 x4 x5 x6 x7) else (
  chk (inb ((6 * x6) + x7) 90) (
  chk (inb x6 15) (
  bR (tyf_M_isPromised σ (σ.1 5 (((6 * x6) + x7)).toNatClampNeg)) fun r6 =>
  if r6 = 0 then (
  bR (tyf_M_fits σ (σ.1 5 (((6 * x6) + x7)).toNatClampNeg) x2) fun r8 =>
  if r8 = 0 then (
  rec  x1 x2 x3 x4 x5 x6 (x7 + 1)) else (
  if x4 ≤ (((σ.1 4 (x6).toNatClampNeg) - 1) - x7) then (
  rec  x1 x2 x3 x4 x5 x6 (x7 + 1)) else (
  rec  x1 x2 (σ.1 5 (((6 * x6) + x7)).toNatClampNeg) (((σ.1 4 (x6).toNatClampNeg) - 1) - x7) x5 x6 (x7 + 1)))) else (
  rec  x1 x2 x3 x4 x5 x6 (x7 + 1))))))
def tyl_M_finds_26 (σ : tyS) (k : Int32 → Int32 → Int32 → Int32 → Int32 → Int32 → Int32 → Option Int32) : Nat → Int32 → Int32 → Int32 → Int32 → Int32 → Int32 → Int32 → Option Int32
  | 0, _, _, _, _, _, _, _ => none
  | n + 1, x1, x2, x3, x4, x5, x6, x7 => tyb_M_finds_26 σ k (tyl_M_finds_26 σ k n) x1 x2 x3 x4 x5 x6 x7
def tyb_M_finds_9 (σ : tyS) (k rec : Int32 → Int32 → Int32 → Int32 → Int32 → Option Int32) (x1 : Int32) (x2 : Int32) (x3 : Int32) (x4 : Int32) (x5 : Int32) : Option Int32 :=
  if 5 ≤ x5 then (
  k  x1 x2 x3 x4 x5) else (
  tyl_M_finds_26 σ (fun x1 x2 x3 x4 x5 x6 x7 =>
  rec  x1 x2 x3 x4 (x5 + 1)) 64  x1 x2 x3 x4 x5 ((5 * x1) + x5) 0)
def tyl_M_finds_9 (σ : tyS) (k : Int32 → Int32 → Int32 → Int32 → Int32 → Option Int32) : Nat → Int32 → Int32 → Int32 → Int32 → Int32 → Option Int32
  | 0, _, _, _, _, _ => none
  | n + 1, x1, x2, x3, x4, x5 => tyb_M_finds_9 σ k (tyl_M_finds_9 σ k n) x1 x2 x3 x4 x5
def tyf_M_finds (σ : tyS) (p1 : Int32) (p2 : Int32) : Option Int32 :=
  tyl_M_finds_9 σ (fun x1 x2 x3 x4 x5 =>
  some (x3)) 64  p1 p2 (-1) 6 0
def tyf_M_adds (σ : tyS) (p1 : Int32) (p2 : Int32) : Option tyS :=
  chk (inb p1 40) (
  chk (inb ((30 * p1) + (σ.1 18 (p1).toNatClampNeg)) 1200) (stp (sW σ 19 ((30 * p1) + (σ.1 18 (p1).toNatClampNeg)) p2) fun σ3 =>
  chk (inb p1 40) (
  chk (inb p1 40) (stp (sW σ3 18 p1 ((σ3.1 18 (p1).toNatClampNeg) + 1)) fun σ6 =>
  chk (inb p2 30) (stp (sW σ6 3 p2 p1) fun σ8 =>
  some σ8)))))
def tyf_M_ask (σ : tyS) (p1 : Int32) (p2 : Int32) : Option (Int32 × tyS) :=
  bR (tyf_M_isCall σ p1) fun r1 =>
  if r1 = 0 then (
  stp (sV σ 0 1) fun σ78 =>
  some (0, σ78)) else (
  bR (tyf_M_isGrain σ p2) fun r3 =>
  if r3 = 0 then (
  stp (sV σ 0 2) fun σ77 =>
  some (0, σ77)) else (
  chk (inb p1 60) (
  if (σ.1 11 (p1).toNatClampNeg) = 0 then (
  stp (sV σ 0 3) fun σ76 =>
  some (0, σ76)) else (
  stp (sV σ 0 0) fun σ7 =>
  chk (inb p1 60) (
  if (σ7.1 12 (p1).toNatClampNeg) = (-1) then (
  if 40 ≤ (σ7.2 5) then (
  stp (sV σ7 0 3) fun σ45 =>
  some (0, σ45)) else (
  stp (sV σ7 0 0) fun σ46 =>
  chk (inb p1 60) (
  bR (tyf_M_finds σ46 (σ46.1 10 (p1).toNatClampNeg) p2) fun r48 =>
  if r48 = (-1) then (
  if r48 = (-1) then (
  some (r48, σ46)) else (
  chk (inb p1 60) (
  bR (tyf_M_adds σ46 (σ46.1 12 (p1).toNatClampNeg) r48) fun σ52 =>
  some (r48, σ52)))) else (
  chk (inb p1 60) (
  if (σ46.1 12 (p1).toNatClampNeg) = (-1) then (
  chk (inb (σ46.2 5) 40) (stp (sW σ46 13 (σ46.2 5) 0) fun σ59 =>
  chk (inb (σ59.2 5) 40) (stp (sW σ59 14 (σ59.2 5) p2) fun σ61 =>
  chk (inb p1 60) (
  chk (inb (σ61.2 5) 40) (stp (sW σ61 15 (σ61.2 5) (σ61.1 9 (p1).toNatClampNeg)) fun σ64 =>
  chk (inb p1 60) (
  chk (inb (σ64.2 5) 40) (stp (sW σ64 16 (σ64.2 5) (σ64.1 10 (p1).toNatClampNeg)) fun σ67 =>
  chk (inb (σ67.2 5) 40) (stp (sW σ67 18 (σ67.2 5) 0) fun σ69 =>
  chk (inb p1 60) (stp (sW σ69 12 p1 (σ69.2 5)) fun σ71 =>
  stp (sV σ71 5 ((σ71.2 5) + 1)) fun σ72 =>
  if r48 = (-1) then (
  some (r48, σ72)) else (
  chk (inb p1 60) (
  bR (tyf_M_adds σ72 (σ72.1 12 (p1).toNatClampNeg) r48) fun σ75 =>
  some (r48, σ75)))))))))))) else (
  if r48 = (-1) then (
  some (r48, σ46)) else (
  chk (inb p1 60) (
  bR (tyf_M_adds σ46 (σ46.1 12 (p1).toNatClampNeg) r48) fun σ57 =>
  some (r48, σ57))))))))) else (
  chk (inb p1 60) (
  chk (inb (σ7.1 12 (p1).toNatClampNeg) 40) (
  if (σ7.1 14 ((σ7.1 12 (p1).toNatClampNeg)).toNatClampNeg) = p2 then (
  stp (sV σ7 0 0) fun σ14 =>
  chk (inb p1 60) (
  bR (tyf_M_finds σ14 (σ14.1 10 (p1).toNatClampNeg) p2) fun r16 =>
  if r16 = (-1) then (
  if r16 = (-1) then (
  some (r16, σ14)) else (
  chk (inb p1 60) (
  bR (tyf_M_adds σ14 (σ14.1 12 (p1).toNatClampNeg) r16) fun σ20 =>
  some (r16, σ20)))) else (
  chk (inb p1 60) (
  if (σ14.1 12 (p1).toNatClampNeg) = (-1) then (
  chk (inb (σ14.2 5) 40) (stp (sW σ14 13 (σ14.2 5) 0) fun σ27 =>
  chk (inb (σ27.2 5) 40) (stp (sW σ27 14 (σ27.2 5) p2) fun σ29 =>
  chk (inb p1 60) (
  chk (inb (σ29.2 5) 40) (stp (sW σ29 15 (σ29.2 5) (σ29.1 9 (p1).toNatClampNeg)) fun σ32 =>
  chk (inb p1 60) (
  chk (inb (σ32.2 5) 40) (stp (sW σ32 16 (σ32.2 5) (σ32.1 10 (p1).toNatClampNeg)) fun σ35 =>
  chk (inb (σ35.2 5) 40) (stp (sW σ35 18 (σ35.2 5) 0) fun σ37 =>
  chk (inb p1 60) (stp (sW σ37 12 p1 (σ37.2 5)) fun σ39 =>
  stp (sV σ39 5 ((σ39.2 5) + 1)) fun σ40 =>
  if r16 = (-1) then (
  some (r16, σ40)) else (
  chk (inb p1 60) (
  bR (tyf_M_adds σ40 (σ40.1 12 (p1).toNatClampNeg) r16) fun σ43 =>
  some (r16, σ43)))))))))))) else (
  if r16 = (-1) then (
  some (r16, σ14)) else (
  chk (inb p1 60) (
  bR (tyf_M_adds σ14 (σ14.1 12 (p1).toNatClampNeg) r16) fun σ25 =>
  some (r16, σ25)))))))) else (
  stp (sV σ7 0 3) fun σ13 =>
  some (0, σ13))))))))))
def tyf_M_confirm (σ : tyS) (p1 : Int32) : Option (Int32 × tyS) :=
  bR (tyf_M_isCall σ p1) fun r1 =>
  if r1 = 0 then (
  stp (sV σ 0 1) fun σ15 =>
  some (0, σ15)) else (
  chk (inb p1 60) (
  if (σ.1 11 (p1).toNatClampNeg) = 0 then (
  stp (sV σ 0 2) fun σ5 =>
  some (0, σ5)) else (
  chk (inb p1 60) (
  if (σ.1 12 (p1).toNatClampNeg) = (-1) then (
  stp (sV σ 0 2) fun σ14 =>
  some (0, σ14)) else (
  stp (sV σ 0 0) fun σ8 =>
  chk (inb p1 60) (
  chk (inb (σ8.1 12 (p1).toNatClampNeg) 40) (stp (sW σ8 13 (σ8.1 12 (p1).toNatClampNeg) 2) fun σ11 =>
  chk (inb p1 60) (stp (sW σ11 12 p1 (-1)) fun σ13 =>
  some ((σ8.1 12 (p1).toNatClampNeg), σ13)))))))))
def tyf_M_isBooking (σ : tyS) (p1 : Int32) : Option Int32 :=
  bR (tyf_M_in σ p1 0 ((σ.2 5) - 1)) fun r1 =>
  chk (decide (vp_nar .boolean r1 = r1)) (
  some (r1))
def tyf_M_isOf (σ : tyS) (p1 : Int32) (p2 : Int32) : Option Int32 :=
  chk (inb p2 40) (
  chk (inb p1 60) (
  if (σ.1 15 (p2).toNatClampNeg) = (σ.1 9 (p1).toNatClampNeg) then (
  chk (inb p2 40) (
  chk (inb p1 60) (
  if (σ.1 16 (p2).toNatClampNeg) = (σ.1 10 (p1).toNatClampNeg) then (
  some (1)) else (
  some (0))))) else (
  some (0))))
def tyf_M_resume (σ : tyS) (p1 : Int32) (p2 : Int32) : Option (Int32 × tyS) :=
  bR (tyf_M_isCall σ p1) fun r1 =>
  if r1 = 0 then (
  stp (sV σ 0 1) fun σ3 =>
  some (0, σ3)) else (
  bR (tyf_M_isBooking σ p2) fun r4 =>
  if r4 = 0 then (
  stp (sV σ 0 1) fun σ6 =>
  some (0, σ6)) else (
  stp (sV σ 0 0) fun σ7 =>
  chk (inb p1 60) (
  if (σ7.1 11 (p1).toNatClampNeg) = 0 then (
  stp (sV σ7 0 2) fun σ10 =>
  some (0, σ10)) else (
  chk (inb p1 60) (
  if (σ7.1 12 (p1).toNatClampNeg) = (-1) then (
  chk (inb p2 40) (
  if (σ7.1 13 (p2).toNatClampNeg) = 1 then (
  bR (tyf_M_isOf σ7 p1 p2) fun r17 =>
  if r17 = 0 then (
  stp (sV σ7 0 2) fun σ19 =>
  some (0, σ19)) else (
  stp (sV σ7 0 0) fun σ20 =>
  chk (inb p2 40) (stp (sW σ20 13 p2 0) fun σ22 =>
  chk (inb p1 60) (stp (sW σ22 12 p1 p2) fun σ24 =>
  chk (inb p2 40) (
  some ((σ24.1 18 (p2).toNatClampNeg), σ24)))))) else (
  stp (sV σ7 0 2) fun σ16 =>
  some (0, σ16)))) else (
  stp (sV σ7 0 2) fun σ13 =>
  some (0, σ13)))))))
def tyf_M_cancel (σ : tyS) (p1 : Int32) (p2 : Int32) : Option (Int32 × tyS) :=
  bR (tyf_M_isCall σ p1) fun r1 =>
  if r1 = 0 then (
  stp (sV σ 0 1) fun σ3 =>
  some (0, σ3)) else (
  bR (tyf_M_isBooking σ p2) fun r4 =>
  if r4 = 0 then (
  stp (sV σ 0 1) fun σ6 =>
  some (0, σ6)) else (
  stp (sV σ 0 0) fun σ7 =>
  chk (inb p1 60) (
  if (σ7.1 11 (p1).toNatClampNeg) = 0 then (
  stp (sV σ7 0 2) fun σ10 =>
  some (0, σ10)) else (
  chk (inb p2 40) (
  if (σ7.1 13 (p2).toNatClampNeg) = 2 then (
  bR (tyf_M_isOf σ7 p1 p2) fun r14 =>
  if r14 = 0 then (
  stp (sV σ7 0 2) fun σ16 =>
  some (0, σ16)) else (
  stp (sV σ7 0 0) fun σ17 =>
  chk (inb p2 40) (stp (sW σ17 13 p2 5) fun σ19 =>
  chk (inb p2 40) (
  some ((σ19.1 18 (p2).toNatClampNeg), σ19))))) else (
  stp (sV σ7 0 2) fun σ13 =>
  some (0, σ13)))))))
def tyb_M_ends_9 (k rec : tyS → Int32 → Int32 → Option tyS) (σ0 : tyS) (x1 : Int32) (x2 : Int32) : Option tyS :=
  if 6 ≤ x2 then (
  k σ0 x1 x2) else (
  chk (inb x2 6) (
  if (σ0.1 7 (x2).toNatClampNeg) = x1 then (
  chk (inb x2 6) (stp (sW σ0 7 x2 (-1)) fun σ10 =>
  rec σ10 x1 (x2 + 1))) else (
  chk (inb x2 6) (
  chk (inb x2 6) (stp (sW σ0 7 x2 (σ0.1 7 (x2).toNatClampNeg)) fun σ8 =>
  rec σ8 x1 (x2 + 1))))))
def tyl_M_ends_9 (k : tyS → Int32 → Int32 → Option tyS) : Nat → tyS → Int32 → Int32 → Option tyS
  | 0, _, _, _ => none
  | n + 1, σ0, x1, x2 => tyb_M_ends_9 k (tyl_M_ends_9 k n) σ0 x1 x2
def tyf_M_ends (σ : tyS) (p1 : Int32) : Option tyS :=
  chk (inb p1 60) (stp (sW σ 11 p1 0) fun σ2 =>
  tyl_M_ends_9 (fun σ0 x1 x2 =>
  some σ0) 64 σ2 p1 0)
def tyf_M_hangUp (σ : tyS) (p1 : Int32) : Option (Int32 × tyS) :=
  bR (tyf_M_isCall σ p1) fun r1 =>
  if r1 = 0 then (
  stp (sV σ 0 1) fun σ13 =>
  some (0, σ13)) else (
  chk (inb p1 60) (
  if (σ.1 11 (p1).toNatClampNeg) = 0 then (
  stp (sV σ 0 2) fun σ5 =>
  some (0, σ5)) else (
  stp (sV σ 0 0) fun σ6 =>
  bR (tyf_M_ends σ6 p1) fun σ7 =>
  chk (inb p1 60) (
  if (σ7.1 12 (p1).toNatClampNeg) = (-1) then (
  some (0, σ7)) else (
  chk (inb (σ7.1 12 (p1).toNatClampNeg) 40) (stp (sW σ7 13 (σ7.1 12 (p1).toNatClampNeg) 5) fun σ11 =>
  chk (inb (σ7.1 12 (p1).toNatClampNeg) 40) (
  some ((σ11.1 18 ((σ7.1 12 (p1).toNatClampNeg)).toNatClampNeg), σ11))))))))
def tyf_M_callOf (σ : tyS) (p1 : Int32) : Option (Int32 × tyS) :=
  bR (tyf_M_in σ p1 0 5) fun r1 =>
  if r1 = 0 then (
  stp (sV σ 0 1) fun σ3 =>
  some (0, σ3)) else (
  stp (sV σ 0 0) fun σ4 =>
  bR (tyf_M_callNow σ4 p1) fun r5 =>
  some (r5, σ4))
def tyb_M_way_34 (k rec : tyS → Int32 → Int32 → Int32 → Option (Int32 × tyS)) (σ0 : tyS) (x1 : Int32) (x2 : Int32) (x3 : Int32) : Option (Int32 × tyS) :=
  if 6 ≤ x3 then (
  k σ0 x1 x2 x3) else (
  if (σ0.2 0) = 0 then (
  chk (inb x3 6) (
  if (σ0.1 7 (x3).toNatClampNeg) = x1 then (
  rec σ0 x1 (x2 + 1) (x3 + 1)) else (
  rec σ0 x1 (x2 + 0) (x3 + 1)))) else (
  k σ0 x1 x2 x3))
def tyl_M_way_34 (k : tyS → Int32 → Int32 → Int32 → Option (Int32 × tyS)) : Nat → tyS → Int32 → Int32 → Int32 → Option (Int32 × tyS)
  | 0, _, _, _, _ => none
  | n + 1, σ0, x1, x2, x3 => tyb_M_way_34 k (tyl_M_way_34 k n) σ0 x1 x2 x3
def tyf_M_way (σ : tyS) (p1 : Int32) : Option (Int32 × tyS) :=
  bR (tyf_M_isCall σ p1) fun r1 =>
  if r1 = 0 then (
  stp (sV σ 0 1) fun σ15 =>
  tyl_M_way_34 (fun σ0 x1 x2 x3 =>
  some (x2, σ0)) 64 σ15 p1 0 0) else (
  chk (inb p1 60) (
  if (σ.1 11 (p1).toNatClampNeg) = 0 then (
  stp (sV σ 0 2) fun σ5 =>
  tyl_M_way_34 (fun σ0 x1 x2 x3 =>
  some (x2, σ0)) 64 σ5 p1 0 0) else (
  stp (sV σ 0 0) fun σ10 =>
  tyl_M_way_34 (fun σ0 x1 x2 x3 =>
  some (x2, σ0)) 64 σ10 p1 0 0)))
def tyf_M_busy (σ : tyS) : Option (Int32 × tyS) :=
  stp (sV σ 0 0) fun σ1 =>
  some ((σ1.2 4), σ1)
def tyf_M_isTrunk (σ : tyS) (p0 : Int32) (p1 : Int32) (p2 : Int32) : Option Int32 :=
  bR (tyf_M_isYard σ p0) fun r1 =>
  if r1 = 0 then (
  some (0)) else (
  bR (tyf_M_isYard σ p1) fun r3 =>
  if r3 = 0 then (
  some (0)) else (
  if p0 = p1 then (
  some (0)) else (
  bR (tyf_M_in σ p2 0 1) fun r6 =>
  if r6 = 0 then (
  some (0)) else (
  some (1)))))
def tyf_M_cut (σ : tyS) (p1 : Int32) (p2 : Int32) (p3 : Int32) : Option (Int32 × tyS) :=
  bR (tyf_M_isTrunk σ p1 p2 p3) fun r1 =>
  if r1 = 0 then (
  stp (sV σ 0 1) fun σ29 =>
  some (0, σ29)) else (
  bR (tyf_M_between σ p1 p2) fun r3 =>
  chk (inb (r3 + p3) 6) (
  if (σ.1 7 ((r3 + p3)).toNatClampNeg) = (-2) then (
  stp (sV σ 0 2) fun σ28 =>
  some (0, σ28)) else (
  stp (sV σ 0 0) fun σ6 =>
  bR (tyf_M_between σ6 p1 p2) fun r7 =>
  chk (inb (r7 + p3) 6) (
  if (σ6.1 7 ((r7 + p3)).toNatClampNeg) = (-1) then (
  bR (tyf_M_between σ6 p1 p2) fun r10 =>
  chk (inb (r10 + p3) 6) (stp (sW σ6 7 (r10 + p3) (-2)) fun σ12 =>
  some ((σ6.1 7 ((r7 + p3)).toNatClampNeg), σ12))) else (
  bR (tyf_M_ends σ6 (σ6.1 7 ((r7 + p3)).toNatClampNeg)) fun σ13 =>
  chk (inb (σ6.1 7 ((r7 + p3)).toNatClampNeg) 60) (
  if (σ13.1 12 ((σ6.1 7 ((r7 + p3)).toNatClampNeg)).toNatClampNeg) = (-1) then (
  bR (tyf_M_between σ13 p1 p2) fun r16 =>
  chk (inb (r16 + p3) 6) (stp (sW σ13 7 (r16 + p3) (-2)) fun σ18 =>
  some ((σ6.1 7 ((r7 + p3)).toNatClampNeg), σ18))) else (
  chk (inb (σ6.1 7 ((r7 + p3)).toNatClampNeg) 60) (
  chk (inb (σ13.1 12 ((σ6.1 7 ((r7 + p3)).toNatClampNeg)).toNatClampNeg) 40) (stp (sW σ13 13 (σ13.1 12 ((σ6.1 7 ((r7 + p3)).toNatClampNeg)).toNatClampNeg) 1) fun σ21 =>
  chk (inb (σ6.1 7 ((r7 + p3)).toNatClampNeg) 60) (
  chk (inb (σ21.1 12 ((σ6.1 7 ((r7 + p3)).toNatClampNeg)).toNatClampNeg) 40) (stp (sW σ21 17 (σ21.1 12 ((σ6.1 7 ((r7 + p3)).toNatClampNeg)).toNatClampNeg) ((σ21.2 1) + 10)) fun σ24 =>
  bR (tyf_M_between σ24 p1 p2) fun r25 =>
  chk (inb (r25 + p3) 6) (stp (sW σ24 7 (r25 + p3) (-2)) fun σ27 =>
  some ((σ6.1 7 ((r7 + p3)).toNatClampNeg), σ27)))))))))))))
def tyf_M_mend (σ : tyS) (p1 : Int32) (p2 : Int32) (p3 : Int32) : Option tyS :=
  bR (tyf_M_isTrunk σ p1 p2 p3) fun r1 =>
  if r1 = 0 then (
  stp (sV σ 0 1) fun σ11 =>
  some σ11) else (
  bR (tyf_M_between σ p1 p2) fun r3 =>
  chk (inb (r3 + p3) 6) (
  if (σ.1 7 ((r3 + p3)).toNatClampNeg) = (-2) then (
  stp (sV σ 0 0) fun σ6 =>
  bR (tyf_M_between σ6 p1 p2) fun r7 =>
  chk (inb (r7 + p3) 6) (stp (sW σ6 7 (r7 + p3) (-1)) fun σ9 =>
  some σ9)) else (
  stp (sV σ 0 2) fun σ10 =>
  some σ10)))
def tyf_M_trunk (σ : tyS) (p1 : Int32) (p2 : Int32) (p3 : Int32) : Option (Int32 × tyS) :=
  bR (tyf_M_isTrunk σ p1 p2 p3) fun r1 =>
  if r1 = 0 then (
  stp (sV σ 0 1) fun σ3 =>
  some (0, σ3)) else (
  stp (sV σ 0 0) fun σ4 =>
  bR (tyf_M_between σ4 p1 p2) fun r5 =>
  chk (inb (r5 + p3) 6) (
  some ((σ4.1 7 ((r5 + p3)).toNatClampNeg), σ4)))
def tyf_M_setLines (σ : tyS) (p1 : Int32) (p2 : Int32) : Option (Int32 × tyS) :=
  bR (tyf_M_isYard σ p1) fun r1 =>
  if r1 = 0 then (
  stp (sV σ 0 1) fun σ3 =>
  some (0, σ3)) else (
  bR (tyf_M_in σ p2 0 3) fun r4 =>
  if r4 = 0 then (
  stp (sV σ 0 1) fun σ13 =>
  some (0, σ13)) else (
  bR (tyf_M_callsTo σ p1) fun r6 =>
  if r6 ≤ p2 then (
  stp (sV σ 0 0) fun σ8 =>
  chk (inb p1 3) (
  chk (inb p1 3) (stp (sW σ8 8 p1 p2) fun σ11 =>
  some ((σ8.1 8 (p1).toNatClampNeg), σ11)))) else (
  stp (sV σ 0 2) fun σ12 =>
  some (0, σ12))))
def tyb_M_pass_58 (k rec : tyS → Int32 → Int32 → Int32 → Option (Int32 × tyS)) (σ0 : tyS) (x1 : Int32) (x2 : Int32) (x3 : Int32) : Option (Int32 × tyS) :=
  if (σ0.2 5) ≤ x3 then (
  k σ0 x1 x2 x3) else (
  chk (inb x3 40) (
  if (σ0.1 13 (x3).toNatClampNeg) = 1 then (
  chk (inb x3 40) (
  if (σ0.2 1) < (σ0.1 17 (x3).toNatClampNeg) then (
  rec σ0 x1 x2 (x3 + 1)) else (
  chk (inb x3 40) (stp (sW σ0 13 x3 5) fun σ12 =>
  rec σ12 x1 (x2 + 1) (x3 + 1))))) else (
  rec σ0 x1 x2 (x3 + 1))))
def tyl_M_pass_58 (k : tyS → Int32 → Int32 → Int32 → Option (Int32 × tyS)) : Nat → tyS → Int32 → Int32 → Int32 → Option (Int32 × tyS)
  | 0, _, _, _, _ => none
  | n + 1, σ0, x1, x2, x3 => tyb_M_pass_58 k (tyl_M_pass_58 k n) σ0 x1 x2 x3
def tyf_M_pass (σ : tyS) (p1 : Int32) : Option (Int32 × tyS) :=
  bR (tyf_M_in σ p1 1 100) fun r1 =>
  if r1 = 0 then (
  stp (sV σ 0 1) fun σ14 =>
  some (0, σ14)) else (
  if ((σ.2 1) + p1) ≤ 10000 then (
  stp (sV σ 0 0) fun σ4 =>
  stp (sV σ4 1 ((σ4.2 1) + p1)) fun σ5 =>
  tyl_M_pass_58 (fun σ0 x1 x2 x3 =>
  some (x2, σ0)) 64 σ5 p1 0 0) else (
  stp (sV σ 0 2) fun σ13 =>
  some (0, σ13)))
def tyf_M_bookings (σ : tyS) : Option (Int32 × tyS) :=
  stp (sV σ 0 0) fun σ1 =>
  some ((σ1.2 5), σ1)
def tyf_M_asksBooking (σ : tyS) (p1 : Int32) : Option (Int32 × tyS) :=
  bR (tyf_M_isBooking σ p1) fun r1 =>
  if r1 = 0 then (
  stp (sV σ 0 1) fun σ3 =>
  some (0, σ3)) else (
  stp (sV σ 0 0) fun σ4 =>
  some (1, σ4))
def tyf_M_state (σ : tyS) (p1 : Int32) : Option (Int32 × tyS) :=
  bN (tyf_M_asksBooking σ p1) fun r2 σ1 =>
  if r2 = 0 then (
  some (0, σ1)) else (
  chk (inb p1 40) (
  some ((σ1.1 13 (p1).toNatClampNeg), σ1)))
def tyf_M_wagons (σ : tyS) (p1 : Int32) : Option (Int32 × tyS) :=
  bN (tyf_M_asksBooking σ p1) fun r2 σ1 =>
  if r2 = 0 then (
  some (0, σ1)) else (
  chk (inb p1 40) (
  some ((σ1.1 18 (p1).toNatClampNeg), σ1)))
def tyf_M_wagonOf (σ : tyS) (p1 : Int32) (p2 : Int32) : Option (Int32 × tyS) :=
  bR (tyf_M_isBooking σ p1) fun r1 =>
  if r1 = 0 then (
  stp (sV σ 0 1) fun σ3 =>
  some (0, σ3)) else (
  chk (inb p1 40) (
  bR (tyf_M_in σ p2 0 ((σ.1 18 (p1).toNatClampNeg) - 1)) fun r5 =>
  if r5 = 0 then (
  stp (sV σ 0 1) fun σ7 =>
  some (0, σ7)) else (
  stp (sV σ 0 0) fun σ8 =>
  chk (inb ((30 * p1) + p2) 1200) (
  some ((σ8.1 19 (((30 * p1) + p2)).toNatClampNeg), σ8)))))
def tyf_M_lapses (σ : tyS) (p1 : Int32) : Option (Int32 × tyS) :=
  bR (tyf_M_isBooking σ p1) fun r1 =>
  if r1 = 0 then (
  stp (sV σ 0 1) fun σ8 =>
  some (0, σ8)) else (
  chk (inb p1 40) (
  if (σ.1 13 (p1).toNatClampNeg) = 1 then (
  stp (sV σ 0 0) fun σ6 =>
  chk (inb p1 40) (
  some (((σ6.1 17 (p1).toNatClampNeg) - (σ6.2 1)), σ6))) else (
  stp (sV σ 0 2) fun σ5 =>
  some (0, σ5))))
def tyb_M_areOn_5 (σ : tyS) (k rec : Int32 → Int32 → Int32 → Int32 → Option Int32) (x1 : Int32) (x2 : Int32) (x3 : Int32) (x4 : Int32) : Option Int32 :=
  chk (inb x1 40) (
  if (σ.1 18 (x1).toNatClampNeg) ≤ x4 then (
  k  x1 x2 x3 x4) else (
  if x3 = 0 then (
  rec  x1 x2 0 (x4 + 1)) else (
  chk (inb ((30 * x1) + x4) 1200) (
  chk (inb (σ.1 19 (((30 * x1) + x4)).toNatClampNeg) 30) (
  if (σ.1 1 ((σ.1 19 (((30 * x1) + x4)).toNatClampNeg)).toNatClampNeg) = x2 then (
  rec  x1 x2 1 (x4 + 1)) else (
  rec  x1 x2 0 (x4 + 1)))))))
def tyl_M_areOn_5 (σ : tyS) (k : Int32 → Int32 → Int32 → Int32 → Option Int32) : Nat → Int32 → Int32 → Int32 → Int32 → Option Int32
  | 0, _, _, _, _ => none
  | n + 1, x1, x2, x3, x4 => tyb_M_areOn_5 σ k (tyl_M_areOn_5 σ k n) x1 x2 x3 x4
def tyf_M_areOn (σ : tyS) (p1 : Int32) (p2 : Int32) : Option Int32 :=
  tyl_M_areOn_5 σ (fun x1 x2 x3 x4 =>
  chk (decide (vp_nar .boolean x3 = x3)) (
  some (x3))) 64  p1 p2 1 0
def tyb_M_canDepart_25 (σ : tyS) (k rec : Int32 → Int32 → Int32 → Int32 → Int32 → Option Int32) (x1 : Int32) (x2 : Int32) (x3 : Int32) (x4 : Int32) (x5 : Int32) : Option Int32 :=
  chk (inb x3 15) (
  if (σ.1 4 (x3).toNatClampNeg) ≤ x5 then (
  k  x1 x2 x3 x4 x5) else (
  if x4 = 0 then (
  k  x1 x2 x3 x4 x5) else (
  chk (inb ((6 * x3) + x5) 90) (
  chk (inb (σ.1 5 (((6 * x3) + x5)).toNatClampNeg) 30) (
  if (σ.1 3 ((σ.1 5 (((6 * x3) + x5)).toNatClampNeg)).toNatClampNeg) = (-1) then (
  rec  x1 x2 x3 0 (x5 + 1)) else (
  chk (inb (σ.1 3 ((σ.1 5 (((6 * x3) + x5)).toNatClampNeg)).toNatClampNeg) 40) (
  if (σ.1 13 ((σ.1 3 ((σ.1 5 (((6 * x3) + x5)).toNatClampNeg)).toNatClampNeg)).toNatClampNeg) = 2 then (
  bR (tyf_M_areOn σ (σ.1 3 ((σ.1 5 (((6 * x3) + x5)).toNatClampNeg)).toNatClampNeg) ((10 * x1) + x2)) fun r11 =>
  if r11 = 0 then (
  rec  x1 x2 x3 0 (x5 + 1)) else (
  rec  x1 x2 x3 1 (x5 + 1))) else (
  rec  x1 x2 x3 0 (x5 + 1)))))))))
def tyl_M_canDepart_25 (σ : tyS) (k : Int32 → Int32 → Int32 → Int32 → Int32 → Option Int32) : Nat → Int32 → Int32 → Int32 → Int32 → Int32 → Option Int32
  | 0, _, _, _, _, _ => none
  | n + 1, x1, x2, x3, x4, x5 => tyb_M_canDepart_25 σ k (tyl_M_canDepart_25 σ k n) x1 x2 x3 x4 x5
def tyf_M_canDepart (σ : tyS) (p1 : Int32) (p2 : Int32) : Option Int32 :=
  chk (inb ((5 * p1) + p2) 15) (
  if (σ.1 4 (((5 * p1) + p2)).toNatClampNeg) ≤ 0 then (
  tyl_M_canDepart_25 σ (fun x1 x2 x3 x4 x5 =>
  chk (decide (vp_nar .boolean x4 = x4)) (
  some (x4))) 64  p1 p2 ((5 * p1) + p2) 0 0) else (
  tyl_M_canDepart_25 σ (fun x1 x2 x3 x4 x5 =>
  chk (decide (vp_nar .boolean x4 = x4)) (
  some (x4))) 64  p1 p2 ((5 * p1) + p2) 1 0))
def tyb_M_depart_61 (k rec : tyS → Int32 → Int32 → Int32 → Int32 → Int32 → Option (Int32 × tyS)) (σ0 : tyS) (x1 : Int32) (x2 : Int32) (x3 : Int32) (x4 : Int32) (x5 : Int32) : Option (Int32 × tyS) :=
  chk (inb x4 15) (
  if (σ0.1 4 (x4).toNatClampNeg) ≤ x5 then (
  k σ0 x1 x2 x3 x4 x5) else (
  chk (inb ((6 * x4) + x5) 90) (
  chk (inb ((6 * (σ0.2 6)) + x5) 240) (stp (sW σ0 23 ((6 * (σ0.2 6)) + x5) (σ0.1 5 (((6 * x4) + x5)).toNatClampNeg)) fun σ16 =>
  chk (inb (σ0.1 5 (((6 * x4) + x5)).toNatClampNeg) 30) (stp (sW σ16 1 (σ0.1 5 (((6 * x4) + x5)).toNatClampNeg) (-1)) fun σ18 =>
  chk (inb (σ0.1 5 (((6 * x4) + x5)).toNatClampNeg) 30) (
  chk (inb (σ18.1 3 ((σ0.1 5 (((6 * x4) + x5)).toNatClampNeg)).toNatClampNeg) 40) (
  chk (inb (σ0.1 5 (((6 * x4) + x5)).toNatClampNeg) 30) (stp (sW σ18 2 (σ0.1 5 (((6 * x4) + x5)).toNatClampNeg) (σ18.1 14 ((σ18.1 3 ((σ0.1 5 (((6 * x4) + x5)).toNatClampNeg)).toNatClampNeg)).toNatClampNeg)) fun σ22 =>
  chk (inb (σ0.1 5 (((6 * x4) + x5)).toNatClampNeg) 30) (
  chk (inb (σ22.1 3 ((σ0.1 5 (((6 * x4) + x5)).toNatClampNeg)).toNatClampNeg) 40) (stp (sW σ22 13 (σ22.1 3 ((σ0.1 5 (((6 * x4) + x5)).toNatClampNeg)).toNatClampNeg) 3) fun σ25 =>
  rec σ25 x1 x2 x3 x4 (x5 + 1)))))))))))
def tyl_M_depart_61 (k : tyS → Int32 → Int32 → Int32 → Int32 → Int32 → Option (Int32 × tyS)) : Nat → tyS → Int32 → Int32 → Int32 → Int32 → Int32 → Option (Int32 × tyS)
  | 0, _, _, _, _, _, _ => none
  | n + 1, σ0, x1, x2, x3, x4, x5 => tyb_M_depart_61 k (tyl_M_depart_61 k n) σ0 x1 x2 x3 x4 x5
def tyf_M_depart (σ : tyS) (p1 : Int32) (p2 : Int32) (p3 : Int32) : Option (Int32 × tyS) :=
  bR (tyf_M_isTrack σ p1 p2) fun r1 =>
  if r1 = 0 then (
  stp (sV σ 0 1) fun σ3 =>
  some (0, σ3)) else (
  bR (tyf_M_isYard σ p3) fun r4 =>
  if r4 = 0 then (
  stp (sV σ 0 1) fun σ6 =>
  some (0, σ6)) else (
  if p1 = p3 then (
  stp (sV σ 0 1) fun σ34 =>
  some (0, σ34)) else (
  bR (tyf_M_canDepart σ p1 p2) fun r8 =>
  if r8 = 0 then (
  stp (sV σ 0 2) fun σ10 =>
  some (0, σ10)) else (
  stp (sV σ 0 0) fun σ11 =>
  tyl_M_depart_61 (fun σ0 x1 x2 x3 x4 x5 =>
  chk (inb x4 15) (
  chk (inb (σ0.2 6) 40) (stp (sW σ0 22 (σ0.2 6) (σ0.1 4 (x4).toNatClampNeg)) fun σ28 =>
  chk (inb x4 15) (stp (sW σ28 4 x4 0) fun σ30 =>
  chk (inb (σ30.2 6) 40) (stp (sW σ30 20 (σ30.2 6) x3) fun σ32 =>
  stp (sV σ32 6 ((σ32.2 6) + 1)) fun σ33 =>
  some (((σ33.2 6) - 1), σ33)))))) 64 σ11 p1 p2 p3 ((5 * p1) + p2) 0))))
def tyb_M_arrive_106 (k rec : tyS → Int32 → Int32 → Int32 → Option (Int32 × tyS)) (σ0 : tyS) (x1 : Int32) (x2 : Int32) (x3 : Int32) : Option (Int32 × tyS) :=
  chk (inb x1 40) (
  if (σ0.1 22 (x1).toNatClampNeg) ≤ x3 then (
  k σ0 x1 x2 x3) else (
  chk (inb ((6 * x1) + x3) 240) (
  chk (inb x1 40) (
  bR (tyf_M_puts σ0 (σ0.1 20 (x1).toNatClampNeg) x2 (σ0.1 23 (((6 * x1) + x3)).toNatClampNeg)) fun σ20 =>
  chk (inb (σ0.1 23 (((6 * x1) + x3)).toNatClampNeg) 30) (
  chk (inb (σ20.1 3 ((σ0.1 23 (((6 * x1) + x3)).toNatClampNeg)).toNatClampNeg) 40) (stp (sW σ20 13 (σ20.1 3 ((σ0.1 23 (((6 * x1) + x3)).toNatClampNeg)).toNatClampNeg) 4) fun σ23 =>
  rec σ23 x1 x2 (x3 + 1)))))))
def tyl_M_arrive_106 (k : tyS → Int32 → Int32 → Int32 → Option (Int32 × tyS)) : Nat → tyS → Int32 → Int32 → Int32 → Option (Int32 × tyS)
  | 0, _, _, _, _ => none
  | n + 1, σ0, x1, x2, x3 => tyb_M_arrive_106 k (tyl_M_arrive_106 k n) σ0 x1 x2 x3
def tyf_M_arrive (σ : tyS) (p1 : Int32) (p2 : Int32) : Option (Int32 × tyS) :=
  bR (tyf_M_in σ p1 0 ((σ.2 6) - 1)) fun r1 =>
  if r1 = 0 then (
  stp (sV σ 0 1) fun σ28 =>
  some (0, σ28)) else (
  bR (tyf_M_in σ p2 0 4) fun r3 =>
  if r3 = 0 then (
  stp (sV σ 0 2) fun σ27 =>
  some (0, σ27)) else (
  stp (sV σ 0 0) fun σ5 =>
  chk (inb p1 40) (
  if (σ5.1 21 (p1).toNatClampNeg) = 0 then (
  chk (inb p1 40) (
  chk (inb ((5 * (σ5.1 20 (p1).toNatClampNeg)) + p2) 15) (
  chk (inb p1 40) (
  if ((σ5.1 4 (((5 * (σ5.1 20 (p1).toNatClampNeg)) + p2)).toNatClampNeg) + (σ5.1 22 (p1).toNatClampNeg)) ≤ 6 then (
  stp (sV σ5 0 0) fun σ13 =>
  chk (inb p1 40) (stp (sW σ13 21 p1 1) fun σ15 =>
  tyl_M_arrive_106 (fun σ0 x1 x2 x3 =>
  chk (inb x1 40) (
  chk (inb ((5 * (σ0.1 20 (x1).toNatClampNeg)) + x2) 15) (
  some ((σ0.1 4 (((5 * (σ0.1 20 (x1).toNatClampNeg)) + x2)).toNatClampNeg), σ0)))) 64 σ15 p1 p2 0)) else (
  stp (sV σ5 0 3) fun σ26 =>
  some (0, σ26)))))) else (
  stp (sV σ5 0 3) fun σ8 =>
  some (0, σ8)))))
def tyf_M_trains (σ : tyS) : Option (Int32 × tyS) :=
  stp (sV σ 0 0) fun σ1 =>
  some ((σ1.2 6), σ1)
