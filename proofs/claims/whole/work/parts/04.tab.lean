/-! kinds: 0 .. 12 the classes (RX0 ..), 20 .. the arrays by the field that holds them, 100 .. 102 the static arrays, 103 the script -/
def zRX : Nat → String := fun k => match k with
  | 0 => RX0
  | 1 => RX1
  | 2 => RX2
  | 3 => RX3
  | 4 => RX4
  | 5 => RX5
  | 6 => RX6
  | 7 => RX7
  | 8 => RX8
  | 9 => RX9
  | 10 => RX10
  | 11 => RX11
  | _ => RX12
def zTX : Nat → u_T := fun k => match k with
  | 0 => TX0
  | 1 => TX1
  | 2 => TX2
  | 3 => TX3
  | 4 => TX4
  | 5 => TX5
  | 6 => TX6
  | 7 => TX7
  | 8 => TX8
  | 9 => TX9
  | 10 => TX10
  | 11 => TX11
  | _ => TX12
def zNl : List Nat := [7, 4, 7, 9, 8, 5, 8, 4, 18, 3, 10, 4, 68]
def zN (c : Nat) : Nat := zNl.getD c 0
def zTl : List (List Nat) := [[0, 0, 0, 0, 0, 0, 0], [20, 0, 0, 30], [31, 32, 33, 34, 35, 36, 0], [37, 0, 38, 0, 39, 0, 40, 17, 15], [16, 0, 2, 14, 14, 19, 14, 14], [41, 42, 43, 0, 0], [0, 0, 0, 0, 0, 44, 45, 0], [46, 47, 48, 0], [13, 59, 49, 0, 50, 0, 51, 0, 52, 0, 12, 0, 0, 0, 0, 0, 0, 0], [0, 0, 14], [53, 54, 55, 56, 0, 0, 0, 57, 58, 0], [13, 59, 0, 18], [0, 60, 61, 62, 0, 63, 0, 64, 65, 66, 67, 68, 0, 69, 70, 71, 0, 72, 73, 74, 75, 0, 0, 76, 77, 0, 78, 79, 80, 81, 82, 83, 84, 0, 0, 85, 86, 87, 88, 89, 90, 91, 92, 0, 0, 0, 93, 94, 95, 96, 97, 98, 0, 0, 0, 0, 0, 0, 0, 0, 2, 0, 0, 99, 100, 101, 102, 0]]
def zT (c j : Nat) : Nat := (zTl.getD c []).getD j 0
def zEl : List Nat := [14, 0, 0, 0, 0, 0, 0, 16, 0, 0, 1, 0, 0, 0, 0, 0, 0, 0, 0, 11, 10, 19, 14, 0, 0, 0, 0, 0, 0, 20, 0, 0, 0, 0, 0, 0, 0, 0, 1, 0, 0, 0, 0, 0, 0, 0, 0, 2, 0, 0, 0, 0, 0, 0, 0, 0, 0, 0, 0, 0, 2, 0, 0, 0, 0, 0, 0, 0, 0, 0, 0, 0, 0]
def zE (c : Nat) : Nat := if c < 20 then 0 else zEl.getD (c - 20) 0
def zLl : List Nat := [8, 16, 16, 16, 16, 16, 16, 60, 60, 60, 8, 60, 60, 60, 10, 10, 30, 30, 30, 11, 91, 91, 160, 40, 40, 40, 40, 8, 8, 12, 60, 60, 60, 60, 30, 30, 30, 30, 8, 60, 60, 60, 12, 480, 480, 480, 50, 50, 150, 150, 150, 150, 150, 150, 88, 180, 180, 180, 180, 180, 180, 180, 3600, 16, 16, 16, 16, 16, 16, 60, 60, 60, 1200]
def zL (c : Nat) : Nat := if c < 20 then 0 else zLl.getD (c - 20) 0
-- 20 Cast_slots elem 14 len 8
-- 21 Failures_kinds elem 0 len 16
-- 22 Failures_acts elem 0 len 16
-- 23 Failures_lines elem 0 len 16
-- 24 Failures_parts elem 0 len 16
-- 25 Failures_causes elem 0 len 16
-- 26 Failures_unders elem 0 len 16
-- 27 House_parts elem 16 len 60
-- 28 House_cleaning elem 0 len 60
-- 29 House_held elem 0 len 60
-- 30 House_charged elem 1 len 8
-- 31 Log_parts elem 0 len 60
-- 32 Log_hows elem 0 len 60
-- 33 Log_losses elem 0 len 60
-- 34 Part_traceActs elem 0 len 10
-- 35 Part_traceLines elem 0 len 10
-- 36 Plans_parts elem 0 len 30
-- 37 Plans_left elem 0 len 30
-- 38 Plans_whats elem 0 len 30
-- 39 Play_casts elem 11 len 11
-- 40 Play_blocks elem 10 len 91
-- 41 Play_scopes elem 19 len 91
-- 42 Play_loans elem 14 len 160
-- 43 Script_ops elem 0 len 40
-- 44 Script_as elem 0 len 40
-- 45 Script_bs elem 0 len 40
-- 46 Script_nexts elem 0 len 40
-- 47 Script_begins elem 0 len 8
-- 48 Script_marks elem 0 len 8
-- 49 HireScopes_scripts elem 20 len 12
-- 50 HireScopesModel_sortOf elem 0 len 60
-- 51 HireScopesModel_price elem 0 len 60
-- 52 HireScopesModel_stateOf elem 0 len 60
-- 53 HireScopesModel_line elem 0 len 60
-- 54 HireScopesModel_planPart elem 0 len 30
-- 55 HireScopesModel_planAt elem 0 len 30
-- 56 HireScopesModel_planWhat elem 0 len 30
-- 57 HireScopesModel_planMet elem 0 len 30
-- 58 HireScopesModel_charged elem 1 len 8
-- 59 HireScopesModel_logPart elem 0 len 60
-- 60 HireScopesModel_logHow elem 0 len 60
-- 61 HireScopesModel_logLost elem 0 len 60
-- 62 HireScopesModel_lineMany elem 0 len 12
-- 63 HireScopesModel_ops elem 0 len 480
-- 64 HireScopesModel_as elem 0 len 480
-- 65 HireScopesModel_bs elem 0 len 480
-- 66 HireScopesModel_opens elem 0 len 50
-- 67 HireScopesModel_hasFinish elem 2 len 50
-- 68 HireScopesModel_pile elem 0 len 150
-- 69 HireScopesModel_pileLine elem 0 len 150
-- 70 HireScopesModel_pileWith elem 0 len 150
-- 71 HireScopesModel_pileWay elem 0 len 150
-- 72 HireScopesModel_pileFailure elem 0 len 150
-- 73 HireScopesModel_pileGuarded elem 0 len 150
-- 74 HireScopesModel_slots elem 0 len 88
-- 75 HireScopesModel_loanPart elem 0 len 180
-- 76 HireScopesModel_loanSort elem 0 len 180
-- 77 HireScopesModel_loanOf elem 0 len 180
-- 78 HireScopesModel_loanScope elem 0 len 180
-- 79 HireScopesModel_loanOrder elem 0 len 180
-- 80 HireScopesModel_loanOpen elem 2 len 180
-- 81 HireScopesModel_loanTraces elem 0 len 180
-- 82 HireScopesModel_loanTrace elem 0 len 3600
-- 83 HireScopesModel_failureKind elem 0 len 16
-- 84 HireScopesModel_failureAct elem 0 len 16
-- 85 HireScopesModel_failureLine elem 0 len 16
-- 86 HireScopesModel_failurePart elem 0 len 16
-- 87 HireScopesModel_failureCause elem 0 len 16
-- 88 HireScopesModel_failureUnder elem 0 len 16
-- 89 HireScopesModel_leakPart elem 0 len 60
-- 90 HireScopesModel_leakCustomer elem 0 len 60
-- 91 HireScopesModel_leakTraces elem 0 len 60
-- 92 HireScopesModel_leakTrace elem 0 len 1200
def zft0 (t : Nat) : FieldType := if t = 0 then .int else if t = 1 then .long else if t = 2 then .boolean else .object (zRX (t - 10))
def zft (t : Nat) : FieldType := if t < 30 then zft0 t else .array (zft0 (zE (t - 10)))
