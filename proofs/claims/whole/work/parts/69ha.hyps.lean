/-! ===== 69ha: the contracts that the law needs, told before they are proved (gen69h.py) ===== -/
def H_th : Prop := (∀ (v : MV) (r : Int32) (h : f_X9_thrown v = some r), Sem z_X9_thrown 0 0 0 [.ref 0] (WM v) (PST (.inl (some (.int r))) (WM v)))
def H_0 : Prop := (∀ (v : Lr) (a : Int32) (b : Int32) (c : Int32) (d : Int32) (e : Int32) (r : Int32) (w : Lr) (h : f_X8_appendInput v a b c d e = some (r, w)), Sem z_X8_appendInput 2 0 0 [.ref 0, .int a, .int b, .int c, .int d, .int e] (WLr v) (PST (.inl (some (.int r))) (WLr w))) ∧ (∀ (v : MV) (a : Int32) (b : Int32) (c : Int32) (d : Int32) (e : Int32) (r : Int32) (w : MV) (h : f_X9_appendInput v a b c d e = some (r, w)), Sem z_X9_appendInput 1 0 0 [.ref 0, .int a, .int b, .int c, .int d, .int e] (WM v) (PST (.inl (some (.int r))) (WM w)))
def H_1 : Prop := (∀ (v : Lr) (a : Int32) (r : Int32) (w : Lr) (h : f_X8_truncateInput v a = some (r, w)), Sem z_X8_truncateInput 0 0 0 [.ref 0, .int a] (WLr v) (PST (.inl (some (.int r))) (WLr w))) ∧ (∀ (v : MV) (a : Int32) (r : Int32) (w : MV) (h : f_X9_truncateInput v a = some (r, w)), Sem z_X9_truncateInput 1 0 0 [.ref 0, .int a] (WM v) (PST (.inl (some (.int r))) (WM w)))
def H_2 : Prop := (∀ (v : Lryscud) (r : Int32) (b : Bool) (w : Lryscud) (h : f_X8_loadSetup v = some (r, b, w)), Sem z_X8_loadSetup 10 0 0 [.ref 0] (WLryscud v) (PST (.inl (some (.int r))) (WLryscudm b w))) ∧ (∀ (v : MV) (r : Int32) (w : MV) (h : f_X9_loadSetup v = some (r, w)), Sem z_X9_loadSetup 59 0 0 [.ref 0] (WM v) (PST (.inl (some (.int r))) (WM w)))
def H_3 : Prop := (∀ (v : Lrtysu) (r : Int32) (w : Lrtysu) (h : f_X8_runScript v = some (r, w)), Sem z_X8_runScript 11 0 0 [.ref 0] (WLrtysu v) (PST (.inl (some (.int r))) (WLrtysu w))) ∧ (∀ (v : MV) (r : Int32) (w : MV) (h : f_X9_runScript v = some (r, w)), Sem z_X9_runScript 58 0 0 [.ref 0] (WM v) (PST (.inl (some (.int r))) (WM w)))
def H_4 : Prop := (∀ (v : Lr) (r : Int32) (h : f_X8_errorCode v = some r), Sem z_X8_errorCode 0 0 0 [.ref 0] (WLr v) (PST (.inl (some (.int r))) (WLr v))) ∧ (∀ (v : MV) (r : Int32) (w : MV) (h : f_X9_errorCode v = some (r, w)), Sem z_X9_errorCode 0 0 0 [.ref 0] (WM v) (PST (.inl (some (.int r))) (WM w)))
def H_5 : Prop := (∀ (v : Lr) (r : Int32) (h : f_X8_errorOffset v = some r), Sem z_X8_errorOffset 0 0 0 [.ref 0] (WLr v) (PST (.inl (some (.int r))) (WLr v))) ∧ (∀ (v : MV) (r : Int32) (w : MV) (h : f_X9_errorOffset v = some (r, w)), Sem z_X9_errorOffset 0 0 0 [.ref 0] (WM v) (PST (.inl (some (.int r))) (WM w)))
def H_6 : Prop := (∀ (v : Lu) (r : Int32) (h : f_X8_queueCount v = some r), Sem z_X8_queueCount 0 0 0 [.ref 0] (WLu v) (PST (.inl (some (.int r))) (WLu v))) ∧ (∀ (v : MV) (r : Int32) (w : MV) (h : f_X9_queueCount v = some (r, w)), Sem z_X9_queueCount 1 0 0 [.ref 0] (WM v) (PST (.inl (some (.int r))) (WM w)))
def H_7 : Prop := (∀ (v : Lu) (r : Int32) (h : f_X8_ownerCount v = some r), Sem z_X8_ownerCount 0 0 0 [.ref 0] (WLu v) (PST (.inl (some (.int r))) (WLu v))) ∧ (∀ (v : MV) (r : Int32) (w : MV) (h : f_X9_ownerCount v = some (r, w)), Sem z_X9_ownerCount 1 0 0 [.ref 0] (WM v) (PST (.inl (some (.int r))) (WM w)))
def H_8 : Prop := (∀ (v : Ls) (r : Int32) (h : f_X8_jobCount v = some r), Sem z_X8_jobCount 0 0 0 [.ref 0] (WLs v) (PST (.inl (some (.int r))) (WLs v))) ∧ (∀ (v : MV) (r : Int32) (w : MV) (h : f_X9_jobCount v = some (r, w)), Sem z_X9_jobCount 1 0 0 [.ref 0] (WM v) (PST (.inl (some (.int r))) (WM w)))
def H_9 : Prop := (∀ (v : Lu) (A : Nat → Int64) (a : Int32) (b : Int32) (x : Int32) (h : f_X8_queueNameByte v a b = some (.inl x)), SemX z_L_queueNameByte [((0 : Nat), (10 : Nat), (13 : Nat), (13 : Nat))] 2 1 6 [.ref 0, .int a, .int b, .ref 7] (WLu v ++ [.inl (1, 1, .inr (.inl A))]) (PST (.inl (some (.int 0))) (WLu v ++ [.inl (1, 1, .inr (.inl (upd64 A (Int32.toInt64 x))))]))) ∧ (∀ (v : Lu) (A : Nat → Int64) (a : Int32) (b : Int32) (h : f_X8_queueNameByte v a b = some (.inr "java/lang/IndexOutOfBoundsException")), SemX z_L_queueNameByte [((0 : Nat), (10 : Nat), (13 : Nat), (13 : Nat))] 2 1 6 [.ref 0, .int a, .int b, .ref 7] (WLu v ++ [.inl (1, 1, .inr (.inl A))]) (PST (.inl (some (.int 1))) (WLu v ++ [.inl (1, 1, .inr (.inl A))]))) ∧ (∀ (v : MV) (a : Int32) (b : Int32) (r : Int32) (w : MV) (h : f_X9_queueNameByte v a b = some (r, w)), Sem z_X9_queueNameByte 3 0 0 [.ref 0, .int a, .int b] (WM v) (PST (.inl (some (.int r))) (WM w)))
def H_10 : Prop := (∀ (v : Lu) (A : Nat → Int64) (a : Int32) (b : Int32) (x : Int32) (h : f_X8_ownerNameByte v a b = some (.inl x)), SemX z_L_ownerNameByte [((0 : Nat), (10 : Nat), (13 : Nat), (13 : Nat))] 2 1 6 [.ref 0, .int a, .int b, .ref 7] (WLu v ++ [.inl (1, 1, .inr (.inl A))]) (PST (.inl (some (.int 0))) (WLu v ++ [.inl (1, 1, .inr (.inl (upd64 A (Int32.toInt64 x))))]))) ∧ (∀ (v : Lu) (A : Nat → Int64) (a : Int32) (b : Int32) (h : f_X8_ownerNameByte v a b = some (.inr "java/lang/IndexOutOfBoundsException")), SemX z_L_ownerNameByte [((0 : Nat), (10 : Nat), (13 : Nat), (13 : Nat))] 2 1 6 [.ref 0, .int a, .int b, .ref 7] (WLu v ++ [.inl (1, 1, .inr (.inl A))]) (PST (.inl (some (.int 1))) (WLu v ++ [.inl (1, 1, .inr (.inl A))]))) ∧ (∀ (v : MV) (a : Int32) (b : Int32) (r : Int32) (w : MV) (h : f_X9_ownerNameByte v a b = some (r, w)), Sem z_X9_ownerNameByte 2 0 0 [.ref 0, .int a, .int b] (WM v) (PST (.inl (some (.int r))) (WM w)))
def H_11 : Prop := (∀ (v : Ls) (A : Nat → Int64) (a : Int32) (x : Int32) (h : f_X8_queueOf v a = some (.inl x)), SemX z_L_queueOf [((0 : Nat), (9 : Nat), (12 : Nat), (13 : Nat))] 2 1 6 [.ref 0, .int a, .ref 16] (WLs v ++ [.inl (1, 1, .inr (.inl A))]) (PST (.inl (some (.int 0))) (WLs v ++ [.inl (1, 1, .inr (.inl (upd64 A (Int32.toInt64 x))))]))) ∧ (∀ (v : Ls) (A : Nat → Int64) (a : Int32) (h : f_X8_queueOf v a = some (.inr "java/lang/IndexOutOfBoundsException")), SemX z_L_queueOf [((0 : Nat), (9 : Nat), (12 : Nat), (13 : Nat))] 2 1 6 [.ref 0, .int a, .ref 16] (WLs v ++ [.inl (1, 1, .inr (.inl A))]) (PST (.inl (some (.int 1))) (WLs v ++ [.inl (1, 1, .inr (.inl A))]))) ∧ (∀ (v : MV) (a : Int32) (r : Int32) (w : MV) (h : f_X9_queueOf v a = some (r, w)), Sem z_X9_queueOf 3 0 0 [.ref 0, .int a] (WM v) (PST (.inl (some (.int r))) (WM w)))
def H_12 : Prop := (∀ (v : Ls) (A : Nat → Int64) (a : Int32) (x : Int32) (h : f_X8_ownerOf v a = some (.inl x)), SemX z_L_ownerOf [((0 : Nat), (9 : Nat), (12 : Nat), (13 : Nat))] 2 1 6 [.ref 0, .int a, .ref 16] (WLs v ++ [.inl (1, 1, .inr (.inl A))]) (PST (.inl (some (.int 0))) (WLs v ++ [.inl (1, 1, .inr (.inl (upd64 A (Int32.toInt64 x))))]))) ∧ (∀ (v : Ls) (A : Nat → Int64) (a : Int32) (h : f_X8_ownerOf v a = some (.inr "java/lang/IndexOutOfBoundsException")), SemX z_L_ownerOf [((0 : Nat), (9 : Nat), (12 : Nat), (13 : Nat))] 2 1 6 [.ref 0, .int a, .ref 16] (WLs v ++ [.inl (1, 1, .inr (.inl A))]) (PST (.inl (some (.int 1))) (WLs v ++ [.inl (1, 1, .inr (.inl A))]))) ∧ (∀ (v : MV) (a : Int32) (r : Int32) (w : MV) (h : f_X9_ownerOf v a = some (r, w)), Sem z_X9_ownerOf 3 0 0 [.ref 0, .int a] (WM v) (PST (.inl (some (.int r))) (WM w)))
def H_13 : Prop := (∀ (v : Ls) (A : Nat → Int64) (a : Int32) (x : Int32) (h : f_X8_priority v a = some (.inl x)), SemX z_L_priority [((0 : Nat), (9 : Nat), (12 : Nat), (13 : Nat))] 2 1 6 [.ref 0, .int a, .ref 16] (WLs v ++ [.inl (1, 1, .inr (.inl A))]) (PST (.inl (some (.int 0))) (WLs v ++ [.inl (1, 1, .inr (.inl (upd64 A (Int32.toInt64 x))))]))) ∧ (∀ (v : Ls) (A : Nat → Int64) (a : Int32) (h : f_X8_priority v a = some (.inr "java/lang/IndexOutOfBoundsException")), SemX z_L_priority [((0 : Nat), (9 : Nat), (12 : Nat), (13 : Nat))] 2 1 6 [.ref 0, .int a, .ref 16] (WLs v ++ [.inl (1, 1, .inr (.inl A))]) (PST (.inl (some (.int 1))) (WLs v ++ [.inl (1, 1, .inr (.inl A))]))) ∧ (∀ (v : MV) (a : Int32) (r : Int32) (w : MV) (h : f_X9_priority v a = some (r, w)), Sem z_X9_priority 3 0 0 [.ref 0, .int a] (WM v) (PST (.inl (some (.int r))) (WM w)))
def H_14 : Prop := (∀ (v : Ls) (A : Nat → Int64) (a : Int32) (x : Int32) (h : f_X8_pages v a = some (.inl x)), SemX z_L_pages [((0 : Nat), (9 : Nat), (12 : Nat), (13 : Nat))] 2 1 6 [.ref 0, .int a, .ref 16] (WLs v ++ [.inl (1, 1, .inr (.inl A))]) (PST (.inl (some (.int 0))) (WLs v ++ [.inl (1, 1, .inr (.inl (upd64 A (Int32.toInt64 x))))]))) ∧ (∀ (v : Ls) (A : Nat → Int64) (a : Int32) (h : f_X8_pages v a = some (.inr "java/lang/IndexOutOfBoundsException")), SemX z_L_pages [((0 : Nat), (9 : Nat), (12 : Nat), (13 : Nat))] 2 1 6 [.ref 0, .int a, .ref 16] (WLs v ++ [.inl (1, 1, .inr (.inl A))]) (PST (.inl (some (.int 1))) (WLs v ++ [.inl (1, 1, .inr (.inl A))]))) ∧ (∀ (v : MV) (a : Int32) (r : Int32) (w : MV) (h : f_X9_pages v a = some (r, w)), Sem z_X9_pages 3 0 0 [.ref 0, .int a] (WM v) (PST (.inl (some (.int r))) (WM w)))
def H_15 : Prop := (∀ (v : Ls) (A : Nat → Int64) (a : Int32) (x : Int32) (h : f_X8_isWaiting v a = some (.inl x)), SemX z_L_isWaiting [((0 : Nat), (16 : Nat), (19 : Nat), (13 : Nat))] 2 1 6 [.ref 0, .int a, .ref 16] (WLs v ++ [.inl (1, 1, .inr (.inl A))]) (PST (.inl (some (.int 0))) (WLs v ++ [.inl (1, 1, .inr (.inl (upd64 A (if x = 0 then 0 else 1))))]))) ∧ (∀ (v : Ls) (A : Nat → Int64) (a : Int32) (h : f_X8_isWaiting v a = some (.inr "java/lang/IndexOutOfBoundsException")), SemX z_L_isWaiting [((0 : Nat), (16 : Nat), (19 : Nat), (13 : Nat))] 2 1 6 [.ref 0, .int a, .ref 16] (WLs v ++ [.inl (1, 1, .inr (.inl A))]) (PST (.inl (some (.int 1))) (WLs v ++ [.inl (1, 1, .inr (.inl A))]))) ∧ (∀ (v : MV) (a : Int32) (r : Int32) (w : MV) (h : f_X9_isWaiting v a = some (r, w)), Sem z_X9_isWaiting 3 0 0 [.ref 0, .int a] (WM v) (PST (.inl (some (.int r))) (WM w)))
def H_16 : Prop := (∀ (v : Ls) (A : Nat → Int64) (a : Int32) (x : Int32) (h : f_X8_isPrinted v a = some (.inl x)), SemX z_L_isPrinted [((0 : Nat), (16 : Nat), (19 : Nat), (13 : Nat))] 2 1 6 [.ref 0, .int a, .ref 16] (WLs v ++ [.inl (1, 1, .inr (.inl A))]) (PST (.inl (some (.int 0))) (WLs v ++ [.inl (1, 1, .inr (.inl (upd64 A (if x = 0 then 0 else 1))))]))) ∧ (∀ (v : Ls) (A : Nat → Int64) (a : Int32) (h : f_X8_isPrinted v a = some (.inr "java/lang/IndexOutOfBoundsException")), SemX z_L_isPrinted [((0 : Nat), (16 : Nat), (19 : Nat), (13 : Nat))] 2 1 6 [.ref 0, .int a, .ref 16] (WLs v ++ [.inl (1, 1, .inr (.inl A))]) (PST (.inl (some (.int 1))) (WLs v ++ [.inl (1, 1, .inr (.inl A))]))) ∧ (∀ (v : MV) (a : Int32) (r : Int32) (w : MV) (h : f_X9_isPrinted v a = some (r, w)), Sem z_X9_isPrinted 3 0 0 [.ref 0, .int a] (WM v) (PST (.inl (some (.int r))) (WM w)))
def H_17 : Prop := (∀ (v : Ls) (A : Nat → Int64) (a : Int32) (x : Int32) (h : f_X8_isCancelled v a = some (.inl x)), SemX z_L_isCancelled [((0 : Nat), (16 : Nat), (19 : Nat), (13 : Nat))] 2 1 6 [.ref 0, .int a, .ref 16] (WLs v ++ [.inl (1, 1, .inr (.inl A))]) (PST (.inl (some (.int 0))) (WLs v ++ [.inl (1, 1, .inr (.inl (upd64 A (if x = 0 then 0 else 1))))]))) ∧ (∀ (v : Ls) (A : Nat → Int64) (a : Int32) (h : f_X8_isCancelled v a = some (.inr "java/lang/IndexOutOfBoundsException")), SemX z_L_isCancelled [((0 : Nat), (16 : Nat), (19 : Nat), (13 : Nat))] 2 1 6 [.ref 0, .int a, .ref 16] (WLs v ++ [.inl (1, 1, .inr (.inl A))]) (PST (.inl (some (.int 1))) (WLs v ++ [.inl (1, 1, .inr (.inl A))]))) ∧ (∀ (v : MV) (a : Int32) (r : Int32) (w : MV) (h : f_X9_isCancelled v a = some (r, w)), Sem z_X9_isCancelled 3 0 0 [.ref 0, .int a] (WM v) (PST (.inl (some (.int r))) (WM w)))
def H_18 : Prop := (∀ (v : Lsu) (A : Nat → Int64) (a : Int32) (x : Int32) (h : f_X8_root v a = some (.inl x)), SemX z_L_root [((0 : Nat), (9 : Nat), (12 : Nat), (13 : Nat))] 2 1 6 [.ref 0, .int a, .ref 22] (WLsu v ++ [.inl (1, 1, .inr (.inl A))]) (PST (.inl (some (.int 0))) (WLsu v ++ [.inl (1, 1, .inr (.inl (upd64 A (Int32.toInt64 x))))]))) ∧ (∀ (v : Lsu) (A : Nat → Int64) (a : Int32) (h : f_X8_root v a = some (.inr "java/lang/IndexOutOfBoundsException")), SemX z_L_root [((0 : Nat), (9 : Nat), (12 : Nat), (13 : Nat))] 2 1 6 [.ref 0, .int a, .ref 22] (WLsu v ++ [.inl (1, 1, .inr (.inl A))]) (PST (.inl (some (.int 1))) (WLsu v ++ [.inl (1, 1, .inr (.inl A))]))) ∧ (∀ (v : MV) (a : Int32) (r : Int32) (w : MV) (h : f_X9_root v a = some (r, w)), Sem z_X9_root 3 0 0 [.ref 0, .int a] (WM v) (PST (.inl (some (.int r))) (WM w)))
def H_19 : Prop := (∀ (v : Ls) (A : Nat → Int64) (a : Int32) (x : Int32) (h : f_X8_leftChild v a = some (.inl x)), SemX z_L_leftChild [((0 : Nat), (9 : Nat), (12 : Nat), (13 : Nat))] 2 1 6 [.ref 0, .int a, .ref 16] (WLs v ++ [.inl (1, 1, .inr (.inl A))]) (PST (.inl (some (.int 0))) (WLs v ++ [.inl (1, 1, .inr (.inl (upd64 A (Int32.toInt64 x))))]))) ∧ (∀ (v : Ls) (A : Nat → Int64) (a : Int32) (h : f_X8_leftChild v a = some (.inr "java/lang/IndexOutOfBoundsException")), SemX z_L_leftChild [((0 : Nat), (9 : Nat), (12 : Nat), (13 : Nat))] 2 1 6 [.ref 0, .int a, .ref 16] (WLs v ++ [.inl (1, 1, .inr (.inl A))]) (PST (.inl (some (.int 1))) (WLs v ++ [.inl (1, 1, .inr (.inl A))]))) ∧ (∀ (v : MV) (a : Int32) (r : Int32) (w : MV) (h : f_X9_leftChild v a = some (r, w)), Sem z_X9_leftChild 3 0 0 [.ref 0, .int a] (WM v) (PST (.inl (some (.int r))) (WM w)))
def H_20 : Prop := (∀ (v : Ls) (A : Nat → Int64) (a : Int32) (x : Int32) (h : f_X8_rightChild v a = some (.inl x)), SemX z_L_rightChild [((0 : Nat), (9 : Nat), (12 : Nat), (13 : Nat))] 2 1 6 [.ref 0, .int a, .ref 16] (WLs v ++ [.inl (1, 1, .inr (.inl A))]) (PST (.inl (some (.int 0))) (WLs v ++ [.inl (1, 1, .inr (.inl (upd64 A (Int32.toInt64 x))))]))) ∧ (∀ (v : Ls) (A : Nat → Int64) (a : Int32) (h : f_X8_rightChild v a = some (.inr "java/lang/IndexOutOfBoundsException")), SemX z_L_rightChild [((0 : Nat), (9 : Nat), (12 : Nat), (13 : Nat))] 2 1 6 [.ref 0, .int a, .ref 16] (WLs v ++ [.inl (1, 1, .inr (.inl A))]) (PST (.inl (some (.int 1))) (WLs v ++ [.inl (1, 1, .inr (.inl A))]))) ∧ (∀ (v : MV) (a : Int32) (r : Int32) (w : MV) (h : f_X9_rightChild v a = some (r, w)), Sem z_X9_rightChild 3 0 0 [.ref 0, .int a] (WM v) (PST (.inl (some (.int r))) (WM w)))
def H_21 : Prop := (∀ (v : Ls) (A : Nat → Int64) (a : Int32) (x : Int32) (h : f_X8_parent v a = some (.inl x)), SemX z_L_parent [((0 : Nat), (9 : Nat), (12 : Nat), (13 : Nat))] 2 1 6 [.ref 0, .int a, .ref 16] (WLs v ++ [.inl (1, 1, .inr (.inl A))]) (PST (.inl (some (.int 0))) (WLs v ++ [.inl (1, 1, .inr (.inl (upd64 A (Int32.toInt64 x))))]))) ∧ (∀ (v : Ls) (A : Nat → Int64) (a : Int32) (h : f_X8_parent v a = some (.inr "java/lang/IndexOutOfBoundsException")), SemX z_L_parent [((0 : Nat), (9 : Nat), (12 : Nat), (13 : Nat))] 2 1 6 [.ref 0, .int a, .ref 16] (WLs v ++ [.inl (1, 1, .inr (.inl A))]) (PST (.inl (some (.int 1))) (WLs v ++ [.inl (1, 1, .inr (.inl A))]))) ∧ (∀ (v : MV) (a : Int32) (r : Int32) (w : MV) (h : f_X9_parent v a = some (r, w)), Sem z_X9_parent 3 0 0 [.ref 0, .int a] (WM v) (PST (.inl (some (.int r))) (WM w)))
def H_22 : Prop := (∀ (v : Ls) (A : Nat → Int64) (a : Int32) (x : Int32) (h : f_X8_rank v a = some (.inl x)), SemX z_L_rank [((0 : Nat), (9 : Nat), (12 : Nat), (13 : Nat))] 2 1 6 [.ref 0, .int a, .ref 16] (WLs v ++ [.inl (1, 1, .inr (.inl A))]) (PST (.inl (some (.int 0))) (WLs v ++ [.inl (1, 1, .inr (.inl (upd64 A (Int32.toInt64 x))))]))) ∧ (∀ (v : Ls) (A : Nat → Int64) (a : Int32) (h : f_X8_rank v a = some (.inr "java/lang/IndexOutOfBoundsException")), SemX z_L_rank [((0 : Nat), (9 : Nat), (12 : Nat), (13 : Nat))] 2 1 6 [.ref 0, .int a, .ref 16] (WLs v ++ [.inl (1, 1, .inr (.inl A))]) (PST (.inl (some (.int 1))) (WLs v ++ [.inl (1, 1, .inr (.inl A))]))) ∧ (∀ (v : MV) (a : Int32) (r : Int32) (w : MV) (h : f_X9_rank v a = some (r, w)), Sem z_X9_rank 3 0 0 [.ref 0, .int a] (WM v) (PST (.inl (some (.int r))) (WM w)))
def H_23 : Prop := (∀ (v : Ls) (A : Nat → Int64) (a : Int32) (x : Int32) (h : f_X8_depth v a = some (.inl x)), SemX z_L_depth [((0 : Nat), (9 : Nat), (12 : Nat), (13 : Nat)), ((0 : Nat), (9 : Nat), (15 : Nat), (59 : Nat))] 4 2 12 [.ref 0, .int a, .ref 16] (WLs v ++ [.inl (1, 1, .inr (.inl A))]) (PST (.inl (some (.int 0))) (WLs v ++ [.inl (1, 1, .inr (.inl (upd64 A (Int32.toInt64 x))))]))) ∧ (∀ (v : Ls) (A : Nat → Int64) (a : Int32) (h : f_X8_depth v a = some (.inr "java/lang/IndexOutOfBoundsException")), SemX z_L_depth [((0 : Nat), (9 : Nat), (12 : Nat), (13 : Nat)), ((0 : Nat), (9 : Nat), (15 : Nat), (59 : Nat))] 4 2 12 [.ref 0, .int a, .ref 16] (WLs v ++ [.inl (1, 1, .inr (.inl A))]) (PST (.inl (some (.int 1))) (WLs v ++ [.inl (1, 1, .inr (.inl A))]))) ∧ (∀ (v : Ls) (A : Nat → Int64) (a : Int32) (h : f_X8_depth v a = some (.inr "java/lang/IllegalStateException")), SemX z_L_depth [((0 : Nat), (9 : Nat), (12 : Nat), (13 : Nat)), ((0 : Nat), (9 : Nat), (15 : Nat), (59 : Nat))] 4 2 12 [.ref 0, .int a, .ref 16] (WLs v ++ [.inl (1, 1, .inr (.inl A))]) (PST (.inl (some (.int 2))) (WLs v ++ [.inl (1, 1, .inr (.inl A))]))) ∧ (∀ (v : MV) (a : Int32) (r : Int32) (w : MV) (h : f_X9_depth v a = some (r, w)), Sem z_X9_depth 4 0 0 [.ref 0, .int a] (WM v) (PST (.inl (some (.int r))) (WM w)))
def H_24 : Prop := (∀ (v : Lsu) (A : Nat → Int64) (a : Int32) (x : Int32) (h : f_X8_height v a = some (.inl x)), SemX z_L_height [((0 : Nat), (9 : Nat), (12 : Nat), (13 : Nat))] 4 1 6 [.ref 0, .int a, .ref 22] (WLsu v ++ [.inl (1, 1, .inr (.inl A))]) (PST (.inl (some (.int 0))) (WLsu v ++ [.inl (1, 1, .inr (.inl (upd64 A (Int32.toInt64 x))))]))) ∧ (∀ (v : Lsu) (A : Nat → Int64) (a : Int32) (h : f_X8_height v a = some (.inr "java/lang/IndexOutOfBoundsException")), SemX z_L_height [((0 : Nat), (9 : Nat), (12 : Nat), (13 : Nat))] 4 1 6 [.ref 0, .int a, .ref 22] (WLsu v ++ [.inl (1, 1, .inr (.inl A))]) (PST (.inl (some (.int 1))) (WLsu v ++ [.inl (1, 1, .inr (.inl A))]))) ∧ (∀ (v : MV) (a : Int32) (r : Int32) (w : MV) (h : f_X9_height v a = some (r, w)), Sem z_X9_height 53 0 0 [.ref 0, .int a] (WM v) (PST (.inl (some (.int r))) (WM w)))
def H_25 : Prop := (∀ (v : Lsu) (A : Nat → Int64) (a : Int32) (x : Int32) (h : f_X8_size v a = some (.inl x)), SemX z_L_size [((0 : Nat), (9 : Nat), (12 : Nat), (13 : Nat))] 2 1 6 [.ref 0, .int a, .ref 22] (WLsu v ++ [.inl (1, 1, .inr (.inl A))]) (PST (.inl (some (.int 0))) (WLsu v ++ [.inl (1, 1, .inr (.inl (upd64 A (Int32.toInt64 x))))]))) ∧ (∀ (v : Lsu) (A : Nat → Int64) (a : Int32) (h : f_X8_size v a = some (.inr "java/lang/IndexOutOfBoundsException")), SemX z_L_size [((0 : Nat), (9 : Nat), (12 : Nat), (13 : Nat))] 2 1 6 [.ref 0, .int a, .ref 22] (WLsu v ++ [.inl (1, 1, .inr (.inl A))]) (PST (.inl (some (.int 1))) (WLsu v ++ [.inl (1, 1, .inr (.inl A))]))) ∧ (∀ (v : MV) (a : Int32) (r : Int32) (w : MV) (h : f_X9_size v a = some (r, w)), Sem z_X9_size 5 0 0 [.ref 0, .int a] (WM v) (PST (.inl (some (.int r))) (WM w)))
def H_26 : Prop := (∀ (v : Lsu) (A : Nat → Int64) (a : Int32) (b : Int32) (x : Int32) (h : f_X8_jobAt v a b = some (.inl x)), SemX z_L_jobAt [((0 : Nat), (10 : Nat), (13 : Nat), (13 : Nat))] 4 1 6 [.ref 0, .int a, .int b, .ref 22] (WLsu v ++ [.inl (1, 1, .inr (.inl A))]) (PST (.inl (some (.int 0))) (WLsu v ++ [.inl (1, 1, .inr (.inl (upd64 A (Int32.toInt64 x))))]))) ∧ (∀ (v : Lsu) (A : Nat → Int64) (a : Int32) (b : Int32) (h : f_X8_jobAt v a b = some (.inr "java/lang/IndexOutOfBoundsException")), SemX z_L_jobAt [((0 : Nat), (10 : Nat), (13 : Nat), (13 : Nat))] 4 1 6 [.ref 0, .int a, .int b, .ref 22] (WLsu v ++ [.inl (1, 1, .inr (.inl A))]) (PST (.inl (some (.int 1))) (WLsu v ++ [.inl (1, 1, .inr (.inl A))]))) ∧ (∀ (v : MV) (a : Int32) (b : Int32) (r : Int32) (w : MV) (h : f_X9_jobAt v a b = some (r, w)), Sem z_X9_jobAt 6 0 0 [.ref 0, .int a, .int b] (WM v) (PST (.inl (some (.int r))) (WM w)))
def H_27 : Prop := (∀ (v : Ls) (A : Nat → Int64) (a : Int32) (x : Int32) (h : f_X8_positionOf v a = some (.inl x)), SemX z_L_positionOf [((0 : Nat), (9 : Nat), (12 : Nat), (13 : Nat)), ((0 : Nat), (9 : Nat), (15 : Nat), (59 : Nat))] 4 2 12 [.ref 0, .int a, .ref 16] (WLs v ++ [.inl (1, 1, .inr (.inl A))]) (PST (.inl (some (.int 0))) (WLs v ++ [.inl (1, 1, .inr (.inl (upd64 A (Int32.toInt64 x))))]))) ∧ (∀ (v : Ls) (A : Nat → Int64) (a : Int32) (h : f_X8_positionOf v a = some (.inr "java/lang/IndexOutOfBoundsException")), SemX z_L_positionOf [((0 : Nat), (9 : Nat), (12 : Nat), (13 : Nat)), ((0 : Nat), (9 : Nat), (15 : Nat), (59 : Nat))] 4 2 12 [.ref 0, .int a, .ref 16] (WLs v ++ [.inl (1, 1, .inr (.inl A))]) (PST (.inl (some (.int 1))) (WLs v ++ [.inl (1, 1, .inr (.inl A))]))) ∧ (∀ (v : Ls) (A : Nat → Int64) (a : Int32) (h : f_X8_positionOf v a = some (.inr "java/lang/IllegalStateException")), SemX z_L_positionOf [((0 : Nat), (9 : Nat), (12 : Nat), (13 : Nat)), ((0 : Nat), (9 : Nat), (15 : Nat), (59 : Nat))] 4 2 12 [.ref 0, .int a, .ref 16] (WLs v ++ [.inl (1, 1, .inr (.inl A))]) (PST (.inl (some (.int 2))) (WLs v ++ [.inl (1, 1, .inr (.inl A))]))) ∧ (∀ (v : MV) (a : Int32) (r : Int32) (w : MV) (h : f_X9_positionOf v a = some (r, w)), Sem z_X9_positionOf 5 0 0 [.ref 0, .int a] (WM v) (PST (.inl (some (.int r))) (WM w)))
def H_28 : Prop := (∀ (v : Ls) (A : Nat → Int64) (a : Int32) (x : Int32) (h : f_X8_pagesBefore v a = some (.inl x)), SemX z_L_pagesBefore [((0 : Nat), (9 : Nat), (12 : Nat), (13 : Nat)), ((0 : Nat), (9 : Nat), (15 : Nat), (59 : Nat))] 4 2 12 [.ref 0, .int a, .ref 16] (WLs v ++ [.inl (1, 1, .inr (.inl A))]) (PST (.inl (some (.int 0))) (WLs v ++ [.inl (1, 1, .inr (.inl (upd64 A (Int32.toInt64 x))))]))) ∧ (∀ (v : Ls) (A : Nat → Int64) (a : Int32) (h : f_X8_pagesBefore v a = some (.inr "java/lang/IndexOutOfBoundsException")), SemX z_L_pagesBefore [((0 : Nat), (9 : Nat), (12 : Nat), (13 : Nat)), ((0 : Nat), (9 : Nat), (15 : Nat), (59 : Nat))] 4 2 12 [.ref 0, .int a, .ref 16] (WLs v ++ [.inl (1, 1, .inr (.inl A))]) (PST (.inl (some (.int 1))) (WLs v ++ [.inl (1, 1, .inr (.inl A))]))) ∧ (∀ (v : Ls) (A : Nat → Int64) (a : Int32) (h : f_X8_pagesBefore v a = some (.inr "java/lang/IllegalStateException")), SemX z_L_pagesBefore [((0 : Nat), (9 : Nat), (12 : Nat), (13 : Nat)), ((0 : Nat), (9 : Nat), (15 : Nat), (59 : Nat))] 4 2 12 [.ref 0, .int a, .ref 16] (WLs v ++ [.inl (1, 1, .inr (.inl A))]) (PST (.inl (some (.int 2))) (WLs v ++ [.inl (1, 1, .inr (.inl A))]))) ∧ (∀ (v : MV) (a : Int32) (r : Int32) (w : MV) (h : f_X9_pagesBefore v a = some (r, w)), Sem z_X9_pagesBefore 5 0 0 [.ref 0, .int a] (WM v) (PST (.inl (some (.int r))) (WM w)))
def H_29 : Prop := (∀ (v : Lsu) (A : Nat → Int64) (a : Int32) (x : Int32) (h : f_X8_minutesUntilPrinted v a = some (.inl x)), SemX z_L_minutesUntilPrinted [((0 : Nat), (9 : Nat), (12 : Nat), (13 : Nat)), ((0 : Nat), (9 : Nat), (15 : Nat), (59 : Nat))] 4 2 12 [.ref 0, .int a, .ref 22] (WLsu v ++ [.inl (1, 1, .inr (.inl A))]) (PST (.inl (some (.int 0))) (WLsu v ++ [.inl (1, 1, .inr (.inl (upd64 A (Int32.toInt64 x))))]))) ∧ (∀ (v : Lsu) (A : Nat → Int64) (a : Int32) (h : f_X8_minutesUntilPrinted v a = some (.inr "java/lang/IndexOutOfBoundsException")), SemX z_L_minutesUntilPrinted [((0 : Nat), (9 : Nat), (12 : Nat), (13 : Nat)), ((0 : Nat), (9 : Nat), (15 : Nat), (59 : Nat))] 4 2 12 [.ref 0, .int a, .ref 22] (WLsu v ++ [.inl (1, 1, .inr (.inl A))]) (PST (.inl (some (.int 1))) (WLsu v ++ [.inl (1, 1, .inr (.inl A))]))) ∧ (∀ (v : Lsu) (A : Nat → Int64) (a : Int32) (h : f_X8_minutesUntilPrinted v a = some (.inr "java/lang/IllegalStateException")), SemX z_L_minutesUntilPrinted [((0 : Nat), (9 : Nat), (12 : Nat), (13 : Nat)), ((0 : Nat), (9 : Nat), (15 : Nat), (59 : Nat))] 4 2 12 [.ref 0, .int a, .ref 22] (WLsu v ++ [.inl (1, 1, .inr (.inl A))]) (PST (.inl (some (.int 2))) (WLsu v ++ [.inl (1, 1, .inr (.inl A))]))) ∧ (∀ (v : MV) (a : Int32) (r : Int32) (w : MV) (h : f_X9_minutesUntilPrinted v a = some (r, w)), Sem z_X9_minutesUntilPrinted 5 0 0 [.ref 0, .int a] (WM v) (PST (.inl (some (.int r))) (WM w)))
def H_30 : Prop := (∀ (v : Lsu) (A : Nat → Int64) (a : Int32) (x : Int32) (h : f_X8_waitingPages v a = some (.inl x)), SemX z_L_waitingPages [((0 : Nat), (9 : Nat), (12 : Nat), (13 : Nat))] 2 1 6 [.ref 0, .int a, .ref 22] (WLsu v ++ [.inl (1, 1, .inr (.inl A))]) (PST (.inl (some (.int 0))) (WLsu v ++ [.inl (1, 1, .inr (.inl (upd64 A (Int32.toInt64 x))))]))) ∧ (∀ (v : Lsu) (A : Nat → Int64) (a : Int32) (h : f_X8_waitingPages v a = some (.inr "java/lang/IndexOutOfBoundsException")), SemX z_L_waitingPages [((0 : Nat), (9 : Nat), (12 : Nat), (13 : Nat))] 2 1 6 [.ref 0, .int a, .ref 22] (WLsu v ++ [.inl (1, 1, .inr (.inl A))]) (PST (.inl (some (.int 1))) (WLsu v ++ [.inl (1, 1, .inr (.inl A))]))) ∧ (∀ (v : MV) (a : Int32) (r : Int32) (w : MV) (h : f_X9_waitingPages v a = some (r, w)), Sem z_X9_waitingPages 5 0 0 [.ref 0, .int a] (WM v) (PST (.inl (some (.int r))) (WM w)))
def H_31 : Prop := (∀ (v : Lsu) (A : Nat → Int64) (a : Int32) (x : Int32) (h : f_X8_printedPages v a = some (.inl x)), SemX z_L_printedPages [((0 : Nat), (9 : Nat), (12 : Nat), (13 : Nat))] 2 1 6 [.ref 0, .int a, .ref 22] (WLsu v ++ [.inl (1, 1, .inr (.inl A))]) (PST (.inl (some (.int 0))) (WLsu v ++ [.inl (1, 1, .inr (.inl (upd64 A (Int32.toInt64 x))))]))) ∧ (∀ (v : Lsu) (A : Nat → Int64) (a : Int32) (h : f_X8_printedPages v a = some (.inr "java/lang/IndexOutOfBoundsException")), SemX z_L_printedPages [((0 : Nat), (9 : Nat), (12 : Nat), (13 : Nat))] 2 1 6 [.ref 0, .int a, .ref 22] (WLsu v ++ [.inl (1, 1, .inr (.inl A))]) (PST (.inl (some (.int 1))) (WLsu v ++ [.inl (1, 1, .inr (.inl A))]))) ∧ (∀ (v : MV) (a : Int32) (r : Int32) (w : MV) (h : f_X9_printedPages v a = some (r, w)), Sem z_X9_printedPages 3 0 0 [.ref 0, .int a] (WM v) (PST (.inl (some (.int r))) (WM w)))
def H_32 : Prop := (∀ (v : Lu) (A : Nat → Int64) (a : Int32) (x : Int32) (h : f_X8_speed v a = some (.inl x)), SemX z_L_speed [((0 : Nat), (9 : Nat), (12 : Nat), (13 : Nat))] 2 1 6 [.ref 0, .int a, .ref 7] (WLu v ++ [.inl (1, 1, .inr (.inl A))]) (PST (.inl (some (.int 0))) (WLu v ++ [.inl (1, 1, .inr (.inl (upd64 A (Int32.toInt64 x))))]))) ∧ (∀ (v : Lu) (A : Nat → Int64) (a : Int32) (h : f_X8_speed v a = some (.inr "java/lang/IndexOutOfBoundsException")), SemX z_L_speed [((0 : Nat), (9 : Nat), (12 : Nat), (13 : Nat))] 2 1 6 [.ref 0, .int a, .ref 7] (WLu v ++ [.inl (1, 1, .inr (.inl A))]) (PST (.inl (some (.int 1))) (WLu v ++ [.inl (1, 1, .inr (.inl A))]))) ∧ (∀ (v : MV) (a : Int32) (r : Int32) (w : MV) (h : f_X9_speed v a = some (r, w)), Sem z_X9_speed 3 0 0 [.ref 0, .int a] (WM v) (PST (.inl (some (.int r))) (WM w)))
def H_33 : Prop := (∀ (v : Lsu) (A : Nat → Int64) (a : Int32) (x : Int32) (h : f_X8_isPaused v a = some (.inl x)), SemX z_L_isPaused [((0 : Nat), (16 : Nat), (19 : Nat), (13 : Nat))] 2 1 6 [.ref 0, .int a, .ref 22] (WLsu v ++ [.inl (1, 1, .inr (.inl A))]) (PST (.inl (some (.int 0))) (WLsu v ++ [.inl (1, 1, .inr (.inl (upd64 A (if x = 0 then 0 else 1))))]))) ∧ (∀ (v : Lsu) (A : Nat → Int64) (a : Int32) (h : f_X8_isPaused v a = some (.inr "java/lang/IndexOutOfBoundsException")), SemX z_L_isPaused [((0 : Nat), (16 : Nat), (19 : Nat), (13 : Nat))] 2 1 6 [.ref 0, .int a, .ref 22] (WLsu v ++ [.inl (1, 1, .inr (.inl A))]) (PST (.inl (some (.int 1))) (WLsu v ++ [.inl (1, 1, .inr (.inl A))]))) ∧ (∀ (v : MV) (a : Int32) (r : Int32) (w : MV) (h : f_X9_isPaused v a = some (r, w)), Sem z_X9_isPaused 3 0 0 [.ref 0, .int a] (WM v) (PST (.inl (some (.int r))) (WM w)))
def H_34 : Prop := (∀ (v : Lsu) (r : Int32) (h : f_X8_leastLoadedQueue v = some r), Sem z_X8_leastLoadedQueue 1 0 0 [.ref 0] (WLsu v) (PST (.inl (some (.int r))) (WLsu v))) ∧ (∀ (v : MV) (r : Int32) (w : MV) (h : f_X9_leastLoadedQueue v = some (r, w)), Sem z_X9_leastLoadedQueue 5 0 0 [.ref 0] (WM v) (PST (.inl (some (.int r))) (WM w)))
def H_35 : Prop := (∀ (v : Lsu) (A : Nat → Int64) (a : Int32) (x : Int32) (h : f_X8_waitingPagesOfOwner v a = some (.inl x)), SemX z_L_waitingPagesOfOwner [((0 : Nat), (9 : Nat), (12 : Nat), (13 : Nat))] 2 1 6 [.ref 0, .int a, .ref 22] (WLsu v ++ [.inl (1, 1, .inr (.inl A))]) (PST (.inl (some (.int 0))) (WLsu v ++ [.inl (1, 1, .inr (.inl (upd64 A (Int32.toInt64 x))))]))) ∧ (∀ (v : Lsu) (A : Nat → Int64) (a : Int32) (h : f_X8_waitingPagesOfOwner v a = some (.inr "java/lang/IndexOutOfBoundsException")), SemX z_L_waitingPagesOfOwner [((0 : Nat), (9 : Nat), (12 : Nat), (13 : Nat))] 2 1 6 [.ref 0, .int a, .ref 22] (WLsu v ++ [.inl (1, 1, .inr (.inl A))]) (PST (.inl (some (.int 1))) (WLsu v ++ [.inl (1, 1, .inr (.inl A))]))) ∧ (∀ (v : MV) (a : Int32) (r : Int32) (w : MV) (h : f_X9_waitingPagesOfOwner v a = some (r, w)), Sem z_X9_waitingPagesOfOwner 3 0 0 [.ref 0, .int a] (WM v) (PST (.inl (some (.int r))) (WM w)))
def H_36 : Prop := (∀ (v : Lsu) (A : Nat → Int64) (a : Int32) (x : Int32) (h : f_X8_printedPagesOfOwner v a = some (.inl x)), SemX z_L_printedPagesOfOwner [((0 : Nat), (9 : Nat), (12 : Nat), (13 : Nat))] 2 1 6 [.ref 0, .int a, .ref 22] (WLsu v ++ [.inl (1, 1, .inr (.inl A))]) (PST (.inl (some (.int 0))) (WLsu v ++ [.inl (1, 1, .inr (.inl (upd64 A (Int32.toInt64 x))))]))) ∧ (∀ (v : Lsu) (A : Nat → Int64) (a : Int32) (h : f_X8_printedPagesOfOwner v a = some (.inr "java/lang/IndexOutOfBoundsException")), SemX z_L_printedPagesOfOwner [((0 : Nat), (9 : Nat), (12 : Nat), (13 : Nat))] 2 1 6 [.ref 0, .int a, .ref 22] (WLsu v ++ [.inl (1, 1, .inr (.inl A))]) (PST (.inl (some (.int 1))) (WLsu v ++ [.inl (1, 1, .inr (.inl A))]))) ∧ (∀ (v : MV) (a : Int32) (r : Int32) (w : MV) (h : f_X9_printedPagesOfOwner v a = some (r, w)), Sem z_X9_printedPagesOfOwner 3 0 0 [.ref 0, .int a] (WM v) (PST (.inl (some (.int r))) (WM w)))
def H_37 : Prop := (∀ (v : Lsu) (A : Nat → Int64) (a : Int32) (x : Int32) (h : f_X8_printingObstacle v a = some (.inl x)), SemX z_L_printingObstacle [((0 : Nat), (9 : Nat), (12 : Nat), (13 : Nat))] 3 1 6 [.ref 0, .int a, .ref 22] (WLsu v ++ [.inl (1, 1, .inr (.inl A))]) (PST (.inl (some (.int 0))) (WLsu v ++ [.inl (1, 1, .inr (.inl (upd64 A (Int32.toInt64 x))))]))) ∧ (∀ (v : Lsu) (A : Nat → Int64) (a : Int32) (h : f_X8_printingObstacle v a = some (.inr "java/lang/IndexOutOfBoundsException")), SemX z_L_printingObstacle [((0 : Nat), (9 : Nat), (12 : Nat), (13 : Nat))] 3 1 6 [.ref 0, .int a, .ref 22] (WLsu v ++ [.inl (1, 1, .inr (.inl A))]) (PST (.inl (some (.int 1))) (WLsu v ++ [.inl (1, 1, .inr (.inl A))]))) ∧ (∀ (v : MV) (a : Int32) (r : Int32) (w : MV) (h : f_X9_printingObstacle v a = some (r, w)), Sem z_X9_printingObstacle 3 0 0 [.ref 0, .int a] (WM v) (PST (.inl (some (.int r))) (WM w)))
def H_38 : Prop := (∀ (v : Ls) (r : Int32) (h : f_X8_comparisons v = some r), Sem z_X8_comparisons 0 0 0 [.ref 0] (WLs v) (PST (.inl (some (.int r))) (WLs v))) ∧ (∀ (v : MV) (r : Int32) (w : MV) (h : f_X9_comparisons v = some (r, w)), Sem z_X9_comparisons 1 0 0 [.ref 0] (WM v) (PST (.inl (some (.int r))) (WM w)))
def H_39 : Prop := (∀ (v : Ls) (r : Int32) (h : f_X8_swaps v = some r), Sem z_X8_swaps 0 0 0 [.ref 0] (WLs v) (PST (.inl (some (.int r))) (WLs v))) ∧ (∀ (v : MV) (r : Int32) (w : MV) (h : f_X9_swaps v = some (r, w)), Sem z_X9_swaps 1 0 0 [.ref 0] (WM v) (PST (.inl (some (.int r))) (WM w)))
def H_40 : Prop := (∀ (v : Lsu) (A : Nat → Int64) (a : Int32) (b : Int32) (x : Int32) (h : f_X8_mergeCost v a b = some (.inl x)), SemX z_L_mergeCost [((0 : Nat), (10 : Nat), (13 : Nat), (13 : Nat)), ((0 : Nat), (10 : Nat), (17 : Nat), (103 : Nat))] 4 3 18 [.ref 0, .int a, .int b, .ref 22] (WLsu v ++ [.inl (1, 1, .inr (.inl A))]) (PST (.inl (some (.int 0))) (WLsu v ++ [.inl (1, 1, .inr (.inl (upd64 A (Int32.toInt64 x))))]))) ∧ (∀ (v : Lsu) (A : Nat → Int64) (a : Int32) (b : Int32) (h : f_X8_mergeCost v a b = some (.inr "java/lang/IndexOutOfBoundsException")), SemX z_L_mergeCost [((0 : Nat), (10 : Nat), (13 : Nat), (13 : Nat)), ((0 : Nat), (10 : Nat), (17 : Nat), (103 : Nat))] 4 3 18 [.ref 0, .int a, .int b, .ref 22] (WLsu v ++ [.inl (1, 1, .inr (.inl A))]) (PST (.inl (some (.int 1))) (WLsu v ++ [.inl (1, 1, .inr (.inl A))]))) ∧ (∀ (v : Lsu) (A : Nat → Int64) (a : Int32) (b : Int32) (h : f_X8_mergeCost v a b = some (.inr "java/lang/IllegalArgumentException")), SemX z_L_mergeCost [((0 : Nat), (10 : Nat), (13 : Nat), (13 : Nat)), ((0 : Nat), (10 : Nat), (17 : Nat), (103 : Nat))] 4 3 18 [.ref 0, .int a, .int b, .ref 22] (WLsu v ++ [.inl (1, 1, .inr (.inl A))]) (PST (.inl (some (.int 2))) (WLsu v ++ [.inl (1, 1, .inr (.inl A))]))) ∧ (∀ (v : MV) (a : Int32) (b : Int32) (r : Int32) (w : MV) (h : f_X9_mergeCost v a b = some (r, w)), Sem z_X9_mergeCost 56 0 0 [.ref 0, .int a, .int b] (WM v) (PST (.inl (some (.int r))) (WM w)))
def H_41 : Prop := (∀ (v : Lsu) (A : Nat → Int64) (a : Int32) (b : Int32) (x : Int32) (w : Lsu) (h : f_X8_rankAfterMerge v a b = some ((.inl x), w)), SemX z_L_rankAfterMerge [((0 : Nat), (10 : Nat), (13 : Nat), (13 : Nat)), ((0 : Nat), (10 : Nat), (17 : Nat), (103 : Nat))] 4 3 18 [.ref 0, .int a, .int b, .ref 22] (WLsu v ++ [.inl (1, 1, .inr (.inl A))]) (PST (.inl (some (.int 0))) (WLsu w ++ [.inl (1, 1, .inr (.inl (upd64 A (Int32.toInt64 x))))]))) ∧ (∀ (v : Lsu) (A : Nat → Int64) (a : Int32) (b : Int32) (w : Lsu) (h : f_X8_rankAfterMerge v a b = some ((.inr "java/lang/IndexOutOfBoundsException"), w)), SemX z_L_rankAfterMerge [((0 : Nat), (10 : Nat), (13 : Nat), (13 : Nat)), ((0 : Nat), (10 : Nat), (17 : Nat), (103 : Nat))] 4 3 18 [.ref 0, .int a, .int b, .ref 22] (WLsu v ++ [.inl (1, 1, .inr (.inl A))]) (PST (.inl (some (.int 1))) (WLsu w ++ [.inl (1, 1, .inr (.inl A))]))) ∧ (∀ (v : Lsu) (A : Nat → Int64) (a : Int32) (b : Int32) (w : Lsu) (h : f_X8_rankAfterMerge v a b = some ((.inr "java/lang/IllegalArgumentException"), w)), SemX z_L_rankAfterMerge [((0 : Nat), (10 : Nat), (13 : Nat), (13 : Nat)), ((0 : Nat), (10 : Nat), (17 : Nat), (103 : Nat))] 4 3 18 [.ref 0, .int a, .int b, .ref 22] (WLsu v ++ [.inl (1, 1, .inr (.inl A))]) (PST (.inl (some (.int 2))) (WLsu w ++ [.inl (1, 1, .inr (.inl A))]))) ∧ (∀ (v : MV) (a : Int32) (b : Int32) (r : Int32) (w : MV) (h : f_X9_rankAfterMerge v a b = some (r, w)), Sem z_X9_rankAfterMerge 56 0 0 [.ref 0, .int a, .int b] (WM v) (PST (.inl (some (.int r))) (WM w)))
def H_42 : Prop := (∀ (v : Ls) (A : Nat → Int64) (a : Int32) (b : Int32) (x : Int32) (h : f_X8_positionWith v a b = some (.inl x)), SemX z_L_positionWith [((0 : Nat), (10 : Nat), (13 : Nat), (13 : Nat)), ((0 : Nat), (10 : Nat), (17 : Nat), (103 : Nat)), ((0 : Nat), (10 : Nat), (21 : Nat), (59 : Nat))] 4 3 18 [.ref 0, .int a, .int b, .ref 16] (WLs v ++ [.inl (1, 1, .inr (.inl A))]) (PST (.inl (some (.int 0))) (WLs v ++ [.inl (1, 1, .inr (.inl (upd64 A (Int32.toInt64 x))))]))) ∧ (∀ (v : Ls) (A : Nat → Int64) (a : Int32) (b : Int32) (h : f_X8_positionWith v a b = some (.inr "java/lang/IndexOutOfBoundsException")), SemX z_L_positionWith [((0 : Nat), (10 : Nat), (13 : Nat), (13 : Nat)), ((0 : Nat), (10 : Nat), (17 : Nat), (103 : Nat)), ((0 : Nat), (10 : Nat), (21 : Nat), (59 : Nat))] 4 3 18 [.ref 0, .int a, .int b, .ref 16] (WLs v ++ [.inl (1, 1, .inr (.inl A))]) (PST (.inl (some (.int 1))) (WLs v ++ [.inl (1, 1, .inr (.inl A))]))) ∧ (∀ (v : Ls) (A : Nat → Int64) (a : Int32) (b : Int32) (h : f_X8_positionWith v a b = some (.inr "java/lang/IllegalArgumentException")), SemX z_L_positionWith [((0 : Nat), (10 : Nat), (13 : Nat), (13 : Nat)), ((0 : Nat), (10 : Nat), (17 : Nat), (103 : Nat)), ((0 : Nat), (10 : Nat), (21 : Nat), (59 : Nat))] 4 3 18 [.ref 0, .int a, .int b, .ref 16] (WLs v ++ [.inl (1, 1, .inr (.inl A))]) (PST (.inl (some (.int 2))) (WLs v ++ [.inl (1, 1, .inr (.inl A))]))) ∧ (∀ (v : Ls) (A : Nat → Int64) (a : Int32) (b : Int32) (h : f_X8_positionWith v a b = some (.inr "java/lang/IllegalStateException")), SemX z_L_positionWith [((0 : Nat), (10 : Nat), (13 : Nat), (13 : Nat)), ((0 : Nat), (10 : Nat), (17 : Nat), (103 : Nat)), ((0 : Nat), (10 : Nat), (21 : Nat), (59 : Nat))] 4 3 18 [.ref 0, .int a, .int b, .ref 16] (WLs v ++ [.inl (1, 1, .inr (.inl A))]) (PST (.inl (some (.int 3))) (WLs v ++ [.inl (1, 1, .inr (.inl A))]))) ∧ (∀ (v : MV) (a : Int32) (b : Int32) (r : Int32) (w : MV) (h : f_X9_positionWith v a b = some (r, w)), Sem z_X9_positionWith 5 0 0 [.ref 0, .int a, .int b] (WM v) (PST (.inl (some (.int r))) (WM w)))
def H_43 : Prop := (∀ (v : Ls) (r : UInt64) (h : f_X8_meanRank v = some r), Sem z_X8_meanRank 3 0 0 [.ref 0] (WLs v) (PST (.inl (some (.double r))) (WLs v))) ∧ (∀ (v : MV) (r : UInt64) (w : MV) (h : f_X9_meanRank v = some (r, w)), Sem z_X9_meanRank 4 0 0 [.ref 0] (WM v) (PST (.inl (some (.double r))) (WM w)))
def H_44 : Prop := (∀ (v : Ls) (r : UInt32) (h : f_X8_printedPart v = some r), Sem z_X8_printedPart 1 0 0 [.ref 0] (WLs v) (PST (.inl (some (.float r))) (WLs v))) ∧ (∀ (v : MV) (r : UInt32) (w : MV) (h : f_X9_printedPart v = some (r, w)), Sem z_X9_printedPart 2 0 0 [.ref 0] (WM v) (PST (.inl (some (.float r))) (WM w)))
def H_45 : Prop := (∀ (v : Lscu) (r : Int32) (w : Lscu) (h : f_X8_isConsistent v = some (r, w)), Sem z_X8_isConsistent 5 0 0 [.ref 0] (WLscu v) (PST (.inl (some (.int r))) (WLscu w))) ∧ (∀ (v : MV) (r : Int32) (w : MV) (h : f_X9_isConsistent v = some (r, w)), Sem z_X9_isConsistent 57 0 0 [.ref 0] (WM v) (PST (.inl (some (.int r))) (WM w)))
def H_46 : Prop := (∀ (v : Lysu) (A : Nat → Int64) (a : Int32) (b : Int32) (c : Int32) (d : Int32) (x : Int32) (w : Lysu) (h : f_X8_submit v a b c d = some ((.inl x), w)), SemX z_L_submit [((0 : Nat), (14 : Nat), (17 : Nat), (13 : Nat)), ((0 : Nat), (14 : Nat), (21 : Nat), (103 : Nat)), ((0 : Nat), (14 : Nat), (25 : Nat), (59 : Nat))] 6 4 24 [.ref 0, .int a, .int b, .int c, .int d, .ref 144] (WLysu v ++ [.inl (1, 1, .inr (.inl A))]) (PST (.inl (some (.int 0))) (WLysu w ++ [.inl (1, 1, .inr (.inl (upd64 A (Int32.toInt64 x))))]))) ∧ (∀ (v : Lysu) (A : Nat → Int64) (a : Int32) (b : Int32) (c : Int32) (d : Int32) (w : Lysu) (h : f_X8_submit v a b c d = some ((.inr "java/lang/IndexOutOfBoundsException"), w)), SemX z_L_submit [((0 : Nat), (14 : Nat), (17 : Nat), (13 : Nat)), ((0 : Nat), (14 : Nat), (21 : Nat), (103 : Nat)), ((0 : Nat), (14 : Nat), (25 : Nat), (59 : Nat))] 6 4 24 [.ref 0, .int a, .int b, .int c, .int d, .ref 144] (WLysu v ++ [.inl (1, 1, .inr (.inl A))]) (PST (.inl (some (.int 1))) (WLysu w ++ [.inl (1, 1, .inr (.inl A))]))) ∧ (∀ (v : Lysu) (A : Nat → Int64) (a : Int32) (b : Int32) (c : Int32) (d : Int32) (w : Lysu) (h : f_X8_submit v a b c d = some ((.inr "java/lang/IllegalArgumentException"), w)), SemX z_L_submit [((0 : Nat), (14 : Nat), (17 : Nat), (13 : Nat)), ((0 : Nat), (14 : Nat), (21 : Nat), (103 : Nat)), ((0 : Nat), (14 : Nat), (25 : Nat), (59 : Nat))] 6 4 24 [.ref 0, .int a, .int b, .int c, .int d, .ref 144] (WLysu v ++ [.inl (1, 1, .inr (.inl A))]) (PST (.inl (some (.int 2))) (WLysu w ++ [.inl (1, 1, .inr (.inl A))]))) ∧ (∀ (v : Lysu) (A : Nat → Int64) (a : Int32) (b : Int32) (c : Int32) (d : Int32) (w : Lysu) (h : f_X8_submit v a b c d = some ((.inr "java/lang/IllegalStateException"), w)), SemX z_L_submit [((0 : Nat), (14 : Nat), (17 : Nat), (13 : Nat)), ((0 : Nat), (14 : Nat), (21 : Nat), (103 : Nat)), ((0 : Nat), (14 : Nat), (25 : Nat), (59 : Nat))] 6 4 24 [.ref 0, .int a, .int b, .int c, .int d, .ref 144] (WLysu v ++ [.inl (1, 1, .inr (.inl A))]) (PST (.inl (some (.int 3))) (WLysu w ++ [.inl (1, 1, .inr (.inl A))]))) ∧ (∀ (v : MV) (a : Int32) (b : Int32) (c : Int32) (d : Int32) (r : Int32) (w : MV) (h : f_X9_submit v a b c d = some (r, w)), Sem z_X9_submit 57 0 0 [.ref 0, .int a, .int b, .int c, .int d] (WM v) (PST (.inl (some (.int r))) (WM w)))
def H_47 : Prop := (∀ (v : Lysu) (A : Nat → Int64) (a : Int32) (x : Int32) (w : Lysu) (h : f_X8_printNext v a = some ((.inl x), w)), SemX z_L_printNext [((0 : Nat), (9 : Nat), (12 : Nat), (13 : Nat)), ((0 : Nat), (9 : Nat), (15 : Nat), (59 : Nat))] 6 2 12 [.ref 0, .int a, .ref 144] (WLysu v ++ [.inl (1, 1, .inr (.inl A))]) (PST (.inl (some (.int 0))) (WLysu w ++ [.inl (1, 1, .inr (.inl (upd64 A (Int32.toInt64 x))))]))) ∧ (∀ (v : Lysu) (A : Nat → Int64) (a : Int32) (w : Lysu) (h : f_X8_printNext v a = some ((.inr "java/lang/IndexOutOfBoundsException"), w)), SemX z_L_printNext [((0 : Nat), (9 : Nat), (12 : Nat), (13 : Nat)), ((0 : Nat), (9 : Nat), (15 : Nat), (59 : Nat))] 6 2 12 [.ref 0, .int a, .ref 144] (WLysu v ++ [.inl (1, 1, .inr (.inl A))]) (PST (.inl (some (.int 1))) (WLysu w ++ [.inl (1, 1, .inr (.inl A))]))) ∧ (∀ (v : Lysu) (A : Nat → Int64) (a : Int32) (w : Lysu) (h : f_X8_printNext v a = some ((.inr "java/lang/IllegalStateException"), w)), SemX z_L_printNext [((0 : Nat), (9 : Nat), (12 : Nat), (13 : Nat)), ((0 : Nat), (9 : Nat), (15 : Nat), (59 : Nat))] 6 2 12 [.ref 0, .int a, .ref 144] (WLysu v ++ [.inl (1, 1, .inr (.inl A))]) (PST (.inl (some (.int 2))) (WLysu w ++ [.inl (1, 1, .inr (.inl A))]))) ∧ (∀ (v : MV) (a : Int32) (r : Int32) (w : MV) (h : f_X9_printNext v a = some (r, w)), Sem z_X9_printNext 57 0 0 [.ref 0, .int a] (WM v) (PST (.inl (some (.int r))) (WM w)))
def H_48 : Prop := (∀ (v : Lys) (A : Nat → Int64) (a : Int32) (x : Int32) (w : Lys) (h : f_X8_cancel v a = some ((.inl x), w)), SemX z_L_cancel [((0 : Nat), (9 : Nat), (12 : Nat), (13 : Nat)), ((0 : Nat), (9 : Nat), (15 : Nat), (59 : Nat))] 6 2 12 [.ref 0, .int a, .ref 138] (WLys v ++ [.inl (1, 1, .inr (.inl A))]) (PST (.inl (some (.int 0))) (WLys w ++ [.inl (1, 1, .inr (.inl (upd64 A (Int32.toInt64 x))))]))) ∧ (∀ (v : Lys) (A : Nat → Int64) (a : Int32) (w : Lys) (h : f_X8_cancel v a = some ((.inr "java/lang/IndexOutOfBoundsException"), w)), SemX z_L_cancel [((0 : Nat), (9 : Nat), (12 : Nat), (13 : Nat)), ((0 : Nat), (9 : Nat), (15 : Nat), (59 : Nat))] 6 2 12 [.ref 0, .int a, .ref 138] (WLys v ++ [.inl (1, 1, .inr (.inl A))]) (PST (.inl (some (.int 1))) (WLys w ++ [.inl (1, 1, .inr (.inl A))]))) ∧ (∀ (v : Lys) (A : Nat → Int64) (a : Int32) (w : Lys) (h : f_X8_cancel v a = some ((.inr "java/lang/IllegalStateException"), w)), SemX z_L_cancel [((0 : Nat), (9 : Nat), (12 : Nat), (13 : Nat)), ((0 : Nat), (9 : Nat), (15 : Nat), (59 : Nat))] 6 2 12 [.ref 0, .int a, .ref 138] (WLys v ++ [.inl (1, 1, .inr (.inl A))]) (PST (.inl (some (.int 2))) (WLys w ++ [.inl (1, 1, .inr (.inl A))]))) ∧ (∀ (v : MV) (a : Int32) (r : Int32) (w : MV) (h : f_X9_cancel v a = some (r, w)), Sem z_X9_cancel 57 0 0 [.ref 0, .int a] (WM v) (PST (.inl (some (.int r))) (WM w)))
def H_49 : Prop := (∀ (v : Lys) (A : Nat → Int64) (a : Int32) (b : Int32) (x : Int32) (w : Lys) (h : f_X8_changePriority v a b = some ((.inl x), w)), SemX z_L_changePriority [((0 : Nat), (10 : Nat), (13 : Nat), (13 : Nat)), ((0 : Nat), (10 : Nat), (17 : Nat), (103 : Nat)), ((0 : Nat), (10 : Nat), (21 : Nat), (59 : Nat))] 6 3 18 [.ref 0, .int a, .int b, .ref 138] (WLys v ++ [.inl (1, 1, .inr (.inl A))]) (PST (.inl (some (.int 0))) (WLys w ++ [.inl (1, 1, .inr (.inl (upd64 A (Int32.toInt64 x))))]))) ∧ (∀ (v : Lys) (A : Nat → Int64) (a : Int32) (b : Int32) (w : Lys) (h : f_X8_changePriority v a b = some ((.inr "java/lang/IndexOutOfBoundsException"), w)), SemX z_L_changePriority [((0 : Nat), (10 : Nat), (13 : Nat), (13 : Nat)), ((0 : Nat), (10 : Nat), (17 : Nat), (103 : Nat)), ((0 : Nat), (10 : Nat), (21 : Nat), (59 : Nat))] 6 3 18 [.ref 0, .int a, .int b, .ref 138] (WLys v ++ [.inl (1, 1, .inr (.inl A))]) (PST (.inl (some (.int 1))) (WLys w ++ [.inl (1, 1, .inr (.inl A))]))) ∧ (∀ (v : Lys) (A : Nat → Int64) (a : Int32) (b : Int32) (w : Lys) (h : f_X8_changePriority v a b = some ((.inr "java/lang/IllegalArgumentException"), w)), SemX z_L_changePriority [((0 : Nat), (10 : Nat), (13 : Nat), (13 : Nat)), ((0 : Nat), (10 : Nat), (17 : Nat), (103 : Nat)), ((0 : Nat), (10 : Nat), (21 : Nat), (59 : Nat))] 6 3 18 [.ref 0, .int a, .int b, .ref 138] (WLys v ++ [.inl (1, 1, .inr (.inl A))]) (PST (.inl (some (.int 2))) (WLys w ++ [.inl (1, 1, .inr (.inl A))]))) ∧ (∀ (v : Lys) (A : Nat → Int64) (a : Int32) (b : Int32) (w : Lys) (h : f_X8_changePriority v a b = some ((.inr "java/lang/IllegalStateException"), w)), SemX z_L_changePriority [((0 : Nat), (10 : Nat), (13 : Nat), (13 : Nat)), ((0 : Nat), (10 : Nat), (17 : Nat), (103 : Nat)), ((0 : Nat), (10 : Nat), (21 : Nat), (59 : Nat))] 6 3 18 [.ref 0, .int a, .int b, .ref 138] (WLys v ++ [.inl (1, 1, .inr (.inl A))]) (PST (.inl (some (.int 3))) (WLys w ++ [.inl (1, 1, .inr (.inl A))]))) ∧ (∀ (v : MV) (a : Int32) (b : Int32) (r : Int32) (w : MV) (h : f_X9_changePriority v a b = some (r, w)), Sem z_X9_changePriority 57 0 0 [.ref 0, .int a, .int b] (WM v) (PST (.inl (some (.int r))) (WM w)))
def H_50 : Prop := (∀ (v : Lysu) (A : Nat → Int64) (a : Int32) (b : Int32) (x : Int32) (w : Lysu) (h : f_X8_moveJob v a b = some ((.inl x), w)), SemX z_L_moveJob [((0 : Nat), (10 : Nat), (13 : Nat), (13 : Nat)), ((0 : Nat), (10 : Nat), (17 : Nat), (59 : Nat))] 6 3 18 [.ref 0, .int a, .int b, .ref 144] (WLysu v ++ [.inl (1, 1, .inr (.inl A))]) (PST (.inl (some (.int 0))) (WLysu w ++ [.inl (1, 1, .inr (.inl (upd64 A (Int32.toInt64 x))))]))) ∧ (∀ (v : Lysu) (A : Nat → Int64) (a : Int32) (b : Int32) (w : Lysu) (h : f_X8_moveJob v a b = some ((.inr "java/lang/IndexOutOfBoundsException"), w)), SemX z_L_moveJob [((0 : Nat), (10 : Nat), (13 : Nat), (13 : Nat)), ((0 : Nat), (10 : Nat), (17 : Nat), (59 : Nat))] 6 3 18 [.ref 0, .int a, .int b, .ref 144] (WLysu v ++ [.inl (1, 1, .inr (.inl A))]) (PST (.inl (some (.int 1))) (WLysu w ++ [.inl (1, 1, .inr (.inl A))]))) ∧ (∀ (v : Lysu) (A : Nat → Int64) (a : Int32) (b : Int32) (w : Lysu) (h : f_X8_moveJob v a b = some ((.inr "java/lang/IllegalStateException"), w)), SemX z_L_moveJob [((0 : Nat), (10 : Nat), (13 : Nat), (13 : Nat)), ((0 : Nat), (10 : Nat), (17 : Nat), (59 : Nat))] 6 3 18 [.ref 0, .int a, .int b, .ref 144] (WLysu v ++ [.inl (1, 1, .inr (.inl A))]) (PST (.inl (some (.int 2))) (WLysu w ++ [.inl (1, 1, .inr (.inl A))]))) ∧ (∀ (v : MV) (a : Int32) (b : Int32) (r : Int32) (w : MV) (h : f_X9_moveJob v a b = some (r, w)), Sem z_X9_moveJob 57 0 0 [.ref 0, .int a, .int b] (WM v) (PST (.inl (some (.int r))) (WM w)))
def H_51 : Prop := (∀ (v : Lysu) (A : Nat → Int64) (a : Int32) (b : Int32) (x : Int32) (w : Lysu) (h : f_X8_mergeQueues v a b = some ((.inl x), w)), SemX z_L_mergeQueues [((0 : Nat), (10 : Nat), (13 : Nat), (13 : Nat)), ((0 : Nat), (10 : Nat), (17 : Nat), (103 : Nat))] 6 3 18 [.ref 0, .int a, .int b, .ref 144] (WLysu v ++ [.inl (1, 1, .inr (.inl A))]) (PST (.inl (some (.int 0))) (WLysu w ++ [.inl (1, 1, .inr (.inl (upd64 A (Int32.toInt64 x))))]))) ∧ (∀ (v : Lysu) (A : Nat → Int64) (a : Int32) (b : Int32) (w : Lysu) (h : f_X8_mergeQueues v a b = some ((.inr "java/lang/IndexOutOfBoundsException"), w)), SemX z_L_mergeQueues [((0 : Nat), (10 : Nat), (13 : Nat), (13 : Nat)), ((0 : Nat), (10 : Nat), (17 : Nat), (103 : Nat))] 6 3 18 [.ref 0, .int a, .int b, .ref 144] (WLysu v ++ [.inl (1, 1, .inr (.inl A))]) (PST (.inl (some (.int 1))) (WLysu w ++ [.inl (1, 1, .inr (.inl A))]))) ∧ (∀ (v : Lysu) (A : Nat → Int64) (a : Int32) (b : Int32) (w : Lysu) (h : f_X8_mergeQueues v a b = some ((.inr "java/lang/IllegalArgumentException"), w)), SemX z_L_mergeQueues [((0 : Nat), (10 : Nat), (13 : Nat), (13 : Nat)), ((0 : Nat), (10 : Nat), (17 : Nat), (103 : Nat))] 6 3 18 [.ref 0, .int a, .int b, .ref 144] (WLysu v ++ [.inl (1, 1, .inr (.inl A))]) (PST (.inl (some (.int 2))) (WLysu w ++ [.inl (1, 1, .inr (.inl A))]))) ∧ (∀ (v : MV) (a : Int32) (b : Int32) (r : Int32) (w : MV) (h : f_X9_mergeQueues v a b = some (r, w)), Sem z_X9_mergeQueues 56 0 0 [.ref 0, .int a, .int b] (WM v) (PST (.inl (some (.int r))) (WM w)))
def H_52 : Prop := (∀ (v : Lysu) (A : Nat → Int64) (a : Int32) (b : Int32) (x : Int32) (w : Lysu) (h : f_X8_setPaused v a b = some ((.inl x), w)), SemX z_L_setPaused [((0 : Nat), (17 : Nat), (20 : Nat), (13 : Nat))] 6 1 6 [.ref 0, .int a, .int b, .ref 144] (WLysu v ++ [.inl (1, 1, .inr (.inl A))]) (PST (.inl (some (.int 0))) (WLysu w ++ [.inl (1, 1, .inr (.inl (upd64 A (if x = 0 then 0 else 1))))]))) ∧ (∀ (v : Lysu) (A : Nat → Int64) (a : Int32) (b : Int32) (w : Lysu) (h : f_X8_setPaused v a b = some ((.inr "java/lang/IndexOutOfBoundsException"), w)), SemX z_L_setPaused [((0 : Nat), (17 : Nat), (20 : Nat), (13 : Nat))] 6 1 6 [.ref 0, .int a, .int b, .ref 144] (WLysu v ++ [.inl (1, 1, .inr (.inl A))]) (PST (.inl (some (.int 1))) (WLysu w ++ [.inl (1, 1, .inr (.inl A))]))) ∧ (∀ (v : MV) (a : Int32) (b : Int32) (r : Int32) (w : MV) (h : f_X9_setPaused v a b = some (r, w)), Sem z_X9_setPaused 3 0 0 [.ref 0, .int a, .int b] (WM v) (PST (.inl (some (.int r))) (WM w)))
def H_53 : Prop := (∀ (v : Lys) (A : Nat → Int64) (x : Int32) (w : Lys) (h : f_X8_undo v = some ((.inl x), w)), SemX z_L_undo [((0 : Nat), (8 : Nat), (11 : Nat), (138 : Nat))] 6 1 6 [.ref 0, .ref 138] (WLys v ++ [.inl (1, 1, .inr (.inl A))]) (PST (.inl (some (.int 0))) (WLys w ++ [.inl (1, 1, .inr (.inl (upd64 A (Int32.toInt64 x))))]))) ∧ (∀ (v : Lys) (A : Nat → Int64) (w : Lys) (h : f_X8_undo v = some ((.inr "java/util/NoSuchElementException"), w)), SemX z_L_undo [((0 : Nat), (8 : Nat), (11 : Nat), (138 : Nat))] 6 1 6 [.ref 0, .ref 138] (WLys v ++ [.inl (1, 1, .inr (.inl A))]) (PST (.inl (some (.int 1))) (WLys w ++ [.inl (1, 1, .inr (.inl A))]))) ∧ (∀ (v : MV) (r : Int32) (w : MV) (h : f_X9_undo v = some (r, w)), Sem z_X9_undo 1 0 0 [.ref 0] (WM v) (PST (.inl (some (.int r))) (WM w)))
def H_54 : Prop := (∀ (v : Losu) (A : Nat → Int64) (a : Int32) (x : Int32) (w : Losu) (h : f_X8_writeHeap v a = some ((.inl x), w)), SemX z_L_writeHeap [((0 : Nat), (9 : Nat), (12 : Nat), (13 : Nat))] 54 1 6 [.ref 0, .int a, .ref 24] (WLosu v ++ [.inl (1, 1, .inr (.inl A))]) (PST (.inl (some (.int 0))) (WLosu w ++ [.inl (1, 1, .inr (.inl (upd64 A (Int32.toInt64 x))))]))) ∧ (∀ (v : Losu) (A : Nat → Int64) (a : Int32) (w : Losu) (h : f_X8_writeHeap v a = some ((.inr "java/lang/IndexOutOfBoundsException"), w)), SemX z_L_writeHeap [((0 : Nat), (9 : Nat), (12 : Nat), (13 : Nat))] 54 1 6 [.ref 0, .int a, .ref 24] (WLosu v ++ [.inl (1, 1, .inr (.inl A))]) (PST (.inl (some (.int 1))) (WLosu w ++ [.inl (1, 1, .inr (.inl A))]))) ∧ (∀ (v : MV) (a : Int32) (r : Int32) (w : MV) (h : f_X9_writeHeap v a = some (r, w)), Sem z_X9_writeHeap 53 0 0 [.ref 0, .int a] (WM v) (PST (.inl (some (.int r))) (WM w)))
def H_55 : Prop := (∀ (v : Lo) (a : Int32) (r : Int32) (h : f_X8_outputByte v a = some r), Sem z_X8_outputByte 1 0 0 [.ref 0, .int a] (WLo v) (PST (.inl (some (.int r))) (WLo v))) ∧ (∀ (v : MV) (a : Int32) (r : Int32) (w : MV) (h : f_X9_outputByte v a = some (r, w)), Sem z_X9_outputByte 1 0 0 [.ref 0, .int a] (WM v) (PST (.inl (some (.int r))) (WM w)))
def H_56 : Prop := (∀ (v : Lsk) (r : Int32) (w : Lsk) (h : f_X8_saveState v = some (r, w)), Sem z_X8_saveState 4 0 0 [.ref 0] (WLsk v) (PST (.inl (some (.int r))) (WLsk w))) ∧ (∀ (v : MV) (r : Int32) (w : MV) (h : f_X9_saveState v = some (r, w)), Sem z_X9_saveState 1 0 0 [.ref 0] (WM v) (PST (.inl (some (.int r))) (WM w)))
def H_57 : Prop := (∀ (v : Lysk) (A : Nat → Int64) (x : Int32) (w : Lysk) (h : f_X8_restoreState v = some ((.inl x), w)), SemX z_L_restoreState [((0 : Nat), (8 : Nat), (11 : Nat), (138 : Nat))] 5 1 6 [.ref 0, .ref 153] (WLysk v ++ [.inl (1, 1, .inr (.inl A))]) (PST (.inl (some (.int 0))) (WLysk w ++ [.inl (1, 1, .inr (.inl (upd64 A (Int32.toInt64 x))))]))) ∧ (∀ (v : Lysk) (A : Nat → Int64) (w : Lysk) (h : f_X8_restoreState v = some ((.inr "java/util/NoSuchElementException"), w)), SemX z_L_restoreState [((0 : Nat), (8 : Nat), (11 : Nat), (138 : Nat))] 5 1 6 [.ref 0, .ref 153] (WLysk v ++ [.inl (1, 1, .inr (.inl A))]) (PST (.inl (some (.int 1))) (WLysk w ++ [.inl (1, 1, .inr (.inl A))]))) ∧ (∀ (v : MV) (r : Int32) (w : MV) (h : f_X9_restoreState v = some (r, w)), Sem z_X9_restoreState 1 0 0 [.ref 0] (WM v) (PST (.inl (some (.int r))) (WM w)))
set_option maxRecDepth 20000 in
theorem s_L_queueNameByte (H : H_9) (v : Lu) (A : Nat → Int64) (a : Int32) (b : Int32) (rc : Int32 ⊕ String) (x th : Int32) (h : f_X8_queueNameByte v a b = some rc) (hg : agr [IOB] rc x th) : ∃ A' : Nat → Int64, SemX z_L_queueNameByte [((0 : Nat), (10 : Nat), (13 : Nat), (13 : Nat))] 2 1 6 [.ref 0, .int a, .int b, .ref 7] (WLu v ++ [.inl (1, 1, .inr (.inl A))]) (PST (.inl (some (.int th))) (WLu v ++ [.inl (1, 1, .inr (.inl A'))])) ∧ (th = 0 → A' (Int32.toNatClampNeg 0) = (Int32.toInt64 x)) := by
  rcases hg with ⟨rfl, rfl⟩ | ⟨i, e, hi, rfl, rfl⟩
  · exact ⟨_, H.1 v A a b x h, fun _ => if_pos rfl⟩
  · match i, hi with
    | 0, hi =>
      cases hi
      exact ⟨A, H.2.1 v A a b h, fun h0 => absurd h0 (by decide)⟩
    | j + 1, hi => cases hi
set_option maxRecDepth 20000 in
theorem s_L_ownerNameByte (H : H_10) (v : Lu) (A : Nat → Int64) (a : Int32) (b : Int32) (rc : Int32 ⊕ String) (x th : Int32) (h : f_X8_ownerNameByte v a b = some rc) (hg : agr [IOB] rc x th) : ∃ A' : Nat → Int64, SemX z_L_ownerNameByte [((0 : Nat), (10 : Nat), (13 : Nat), (13 : Nat))] 2 1 6 [.ref 0, .int a, .int b, .ref 7] (WLu v ++ [.inl (1, 1, .inr (.inl A))]) (PST (.inl (some (.int th))) (WLu v ++ [.inl (1, 1, .inr (.inl A'))])) ∧ (th = 0 → A' (Int32.toNatClampNeg 0) = (Int32.toInt64 x)) := by
  rcases hg with ⟨rfl, rfl⟩ | ⟨i, e, hi, rfl, rfl⟩
  · exact ⟨_, H.1 v A a b x h, fun _ => if_pos rfl⟩
  · match i, hi with
    | 0, hi =>
      cases hi
      exact ⟨A, H.2.1 v A a b h, fun h0 => absurd h0 (by decide)⟩
    | j + 1, hi => cases hi
set_option maxRecDepth 20000 in
theorem s_L_queueOf (H : H_11) (v : Ls) (A : Nat → Int64) (a : Int32) (rc : Int32 ⊕ String) (x th : Int32) (h : f_X8_queueOf v a = some rc) (hg : agr [IOB] rc x th) : ∃ A' : Nat → Int64, SemX z_L_queueOf [((0 : Nat), (9 : Nat), (12 : Nat), (13 : Nat))] 2 1 6 [.ref 0, .int a, .ref 16] (WLs v ++ [.inl (1, 1, .inr (.inl A))]) (PST (.inl (some (.int th))) (WLs v ++ [.inl (1, 1, .inr (.inl A'))])) ∧ (th = 0 → A' (Int32.toNatClampNeg 0) = (Int32.toInt64 x)) := by
  rcases hg with ⟨rfl, rfl⟩ | ⟨i, e, hi, rfl, rfl⟩
  · exact ⟨_, H.1 v A a x h, fun _ => if_pos rfl⟩
  · match i, hi with
    | 0, hi =>
      cases hi
      exact ⟨A, H.2.1 v A a h, fun h0 => absurd h0 (by decide)⟩
    | j + 1, hi => cases hi
set_option maxRecDepth 20000 in
theorem s_L_ownerOf (H : H_12) (v : Ls) (A : Nat → Int64) (a : Int32) (rc : Int32 ⊕ String) (x th : Int32) (h : f_X8_ownerOf v a = some rc) (hg : agr [IOB] rc x th) : ∃ A' : Nat → Int64, SemX z_L_ownerOf [((0 : Nat), (9 : Nat), (12 : Nat), (13 : Nat))] 2 1 6 [.ref 0, .int a, .ref 16] (WLs v ++ [.inl (1, 1, .inr (.inl A))]) (PST (.inl (some (.int th))) (WLs v ++ [.inl (1, 1, .inr (.inl A'))])) ∧ (th = 0 → A' (Int32.toNatClampNeg 0) = (Int32.toInt64 x)) := by
  rcases hg with ⟨rfl, rfl⟩ | ⟨i, e, hi, rfl, rfl⟩
  · exact ⟨_, H.1 v A a x h, fun _ => if_pos rfl⟩
  · match i, hi with
    | 0, hi =>
      cases hi
      exact ⟨A, H.2.1 v A a h, fun h0 => absurd h0 (by decide)⟩
    | j + 1, hi => cases hi
set_option maxRecDepth 20000 in
theorem s_L_priority (H : H_13) (v : Ls) (A : Nat → Int64) (a : Int32) (rc : Int32 ⊕ String) (x th : Int32) (h : f_X8_priority v a = some rc) (hg : agr [IOB] rc x th) : ∃ A' : Nat → Int64, SemX z_L_priority [((0 : Nat), (9 : Nat), (12 : Nat), (13 : Nat))] 2 1 6 [.ref 0, .int a, .ref 16] (WLs v ++ [.inl (1, 1, .inr (.inl A))]) (PST (.inl (some (.int th))) (WLs v ++ [.inl (1, 1, .inr (.inl A'))])) ∧ (th = 0 → A' (Int32.toNatClampNeg 0) = (Int32.toInt64 x)) := by
  rcases hg with ⟨rfl, rfl⟩ | ⟨i, e, hi, rfl, rfl⟩
  · exact ⟨_, H.1 v A a x h, fun _ => if_pos rfl⟩
  · match i, hi with
    | 0, hi =>
      cases hi
      exact ⟨A, H.2.1 v A a h, fun h0 => absurd h0 (by decide)⟩
    | j + 1, hi => cases hi
set_option maxRecDepth 20000 in
theorem s_L_pages (H : H_14) (v : Ls) (A : Nat → Int64) (a : Int32) (rc : Int32 ⊕ String) (x th : Int32) (h : f_X8_pages v a = some rc) (hg : agr [IOB] rc x th) : ∃ A' : Nat → Int64, SemX z_L_pages [((0 : Nat), (9 : Nat), (12 : Nat), (13 : Nat))] 2 1 6 [.ref 0, .int a, .ref 16] (WLs v ++ [.inl (1, 1, .inr (.inl A))]) (PST (.inl (some (.int th))) (WLs v ++ [.inl (1, 1, .inr (.inl A'))])) ∧ (th = 0 → A' (Int32.toNatClampNeg 0) = (Int32.toInt64 x)) := by
  rcases hg with ⟨rfl, rfl⟩ | ⟨i, e, hi, rfl, rfl⟩
  · exact ⟨_, H.1 v A a x h, fun _ => if_pos rfl⟩
  · match i, hi with
    | 0, hi =>
      cases hi
      exact ⟨A, H.2.1 v A a h, fun h0 => absurd h0 (by decide)⟩
    | j + 1, hi => cases hi
set_option maxRecDepth 20000 in
theorem s_L_isWaiting (H : H_15) (v : Ls) (A : Nat → Int64) (a : Int32) (rc : Int32 ⊕ String) (x th : Int32) (h : f_X8_isWaiting v a = some rc) (hg : agr [IOB] rc x th) : ∃ A' : Nat → Int64, SemX z_L_isWaiting [((0 : Nat), (16 : Nat), (19 : Nat), (13 : Nat))] 2 1 6 [.ref 0, .int a, .ref 16] (WLs v ++ [.inl (1, 1, .inr (.inl A))]) (PST (.inl (some (.int th))) (WLs v ++ [.inl (1, 1, .inr (.inl A'))])) ∧ (th = 0 → A' (Int32.toNatClampNeg 0) = (if x = 0 then 0 else 1)) := by
  rcases hg with ⟨rfl, rfl⟩ | ⟨i, e, hi, rfl, rfl⟩
  · exact ⟨_, H.1 v A a x h, fun _ => if_pos rfl⟩
  · match i, hi with
    | 0, hi =>
      cases hi
      exact ⟨A, H.2.1 v A a h, fun h0 => absurd h0 (by decide)⟩
    | j + 1, hi => cases hi
set_option maxRecDepth 20000 in
theorem s_L_isPrinted (H : H_16) (v : Ls) (A : Nat → Int64) (a : Int32) (rc : Int32 ⊕ String) (x th : Int32) (h : f_X8_isPrinted v a = some rc) (hg : agr [IOB] rc x th) : ∃ A' : Nat → Int64, SemX z_L_isPrinted [((0 : Nat), (16 : Nat), (19 : Nat), (13 : Nat))] 2 1 6 [.ref 0, .int a, .ref 16] (WLs v ++ [.inl (1, 1, .inr (.inl A))]) (PST (.inl (some (.int th))) (WLs v ++ [.inl (1, 1, .inr (.inl A'))])) ∧ (th = 0 → A' (Int32.toNatClampNeg 0) = (if x = 0 then 0 else 1)) := by
  rcases hg with ⟨rfl, rfl⟩ | ⟨i, e, hi, rfl, rfl⟩
  · exact ⟨_, H.1 v A a x h, fun _ => if_pos rfl⟩
  · match i, hi with
    | 0, hi =>
      cases hi
      exact ⟨A, H.2.1 v A a h, fun h0 => absurd h0 (by decide)⟩
    | j + 1, hi => cases hi
set_option maxRecDepth 20000 in
theorem s_L_isCancelled (H : H_17) (v : Ls) (A : Nat → Int64) (a : Int32) (rc : Int32 ⊕ String) (x th : Int32) (h : f_X8_isCancelled v a = some rc) (hg : agr [IOB] rc x th) : ∃ A' : Nat → Int64, SemX z_L_isCancelled [((0 : Nat), (16 : Nat), (19 : Nat), (13 : Nat))] 2 1 6 [.ref 0, .int a, .ref 16] (WLs v ++ [.inl (1, 1, .inr (.inl A))]) (PST (.inl (some (.int th))) (WLs v ++ [.inl (1, 1, .inr (.inl A'))])) ∧ (th = 0 → A' (Int32.toNatClampNeg 0) = (if x = 0 then 0 else 1)) := by
  rcases hg with ⟨rfl, rfl⟩ | ⟨i, e, hi, rfl, rfl⟩
  · exact ⟨_, H.1 v A a x h, fun _ => if_pos rfl⟩
  · match i, hi with
    | 0, hi =>
      cases hi
      exact ⟨A, H.2.1 v A a h, fun h0 => absurd h0 (by decide)⟩
    | j + 1, hi => cases hi
set_option maxRecDepth 20000 in
theorem s_L_root (H : H_18) (v : Lsu) (A : Nat → Int64) (a : Int32) (rc : Int32 ⊕ String) (x th : Int32) (h : f_X8_root v a = some rc) (hg : agr [IOB] rc x th) : ∃ A' : Nat → Int64, SemX z_L_root [((0 : Nat), (9 : Nat), (12 : Nat), (13 : Nat))] 2 1 6 [.ref 0, .int a, .ref 22] (WLsu v ++ [.inl (1, 1, .inr (.inl A))]) (PST (.inl (some (.int th))) (WLsu v ++ [.inl (1, 1, .inr (.inl A'))])) ∧ (th = 0 → A' (Int32.toNatClampNeg 0) = (Int32.toInt64 x)) := by
  rcases hg with ⟨rfl, rfl⟩ | ⟨i, e, hi, rfl, rfl⟩
  · exact ⟨_, H.1 v A a x h, fun _ => if_pos rfl⟩
  · match i, hi with
    | 0, hi =>
      cases hi
      exact ⟨A, H.2.1 v A a h, fun h0 => absurd h0 (by decide)⟩
    | j + 1, hi => cases hi
set_option maxRecDepth 20000 in
theorem s_L_leftChild (H : H_19) (v : Ls) (A : Nat → Int64) (a : Int32) (rc : Int32 ⊕ String) (x th : Int32) (h : f_X8_leftChild v a = some rc) (hg : agr [IOB] rc x th) : ∃ A' : Nat → Int64, SemX z_L_leftChild [((0 : Nat), (9 : Nat), (12 : Nat), (13 : Nat))] 2 1 6 [.ref 0, .int a, .ref 16] (WLs v ++ [.inl (1, 1, .inr (.inl A))]) (PST (.inl (some (.int th))) (WLs v ++ [.inl (1, 1, .inr (.inl A'))])) ∧ (th = 0 → A' (Int32.toNatClampNeg 0) = (Int32.toInt64 x)) := by
  rcases hg with ⟨rfl, rfl⟩ | ⟨i, e, hi, rfl, rfl⟩
  · exact ⟨_, H.1 v A a x h, fun _ => if_pos rfl⟩
  · match i, hi with
    | 0, hi =>
      cases hi
      exact ⟨A, H.2.1 v A a h, fun h0 => absurd h0 (by decide)⟩
    | j + 1, hi => cases hi
set_option maxRecDepth 20000 in
theorem s_L_rightChild (H : H_20) (v : Ls) (A : Nat → Int64) (a : Int32) (rc : Int32 ⊕ String) (x th : Int32) (h : f_X8_rightChild v a = some rc) (hg : agr [IOB] rc x th) : ∃ A' : Nat → Int64, SemX z_L_rightChild [((0 : Nat), (9 : Nat), (12 : Nat), (13 : Nat))] 2 1 6 [.ref 0, .int a, .ref 16] (WLs v ++ [.inl (1, 1, .inr (.inl A))]) (PST (.inl (some (.int th))) (WLs v ++ [.inl (1, 1, .inr (.inl A'))])) ∧ (th = 0 → A' (Int32.toNatClampNeg 0) = (Int32.toInt64 x)) := by
  rcases hg with ⟨rfl, rfl⟩ | ⟨i, e, hi, rfl, rfl⟩
  · exact ⟨_, H.1 v A a x h, fun _ => if_pos rfl⟩
  · match i, hi with
    | 0, hi =>
      cases hi
      exact ⟨A, H.2.1 v A a h, fun h0 => absurd h0 (by decide)⟩
    | j + 1, hi => cases hi
set_option maxRecDepth 20000 in
theorem s_L_parent (H : H_21) (v : Ls) (A : Nat → Int64) (a : Int32) (rc : Int32 ⊕ String) (x th : Int32) (h : f_X8_parent v a = some rc) (hg : agr [IOB] rc x th) : ∃ A' : Nat → Int64, SemX z_L_parent [((0 : Nat), (9 : Nat), (12 : Nat), (13 : Nat))] 2 1 6 [.ref 0, .int a, .ref 16] (WLs v ++ [.inl (1, 1, .inr (.inl A))]) (PST (.inl (some (.int th))) (WLs v ++ [.inl (1, 1, .inr (.inl A'))])) ∧ (th = 0 → A' (Int32.toNatClampNeg 0) = (Int32.toInt64 x)) := by
  rcases hg with ⟨rfl, rfl⟩ | ⟨i, e, hi, rfl, rfl⟩
  · exact ⟨_, H.1 v A a x h, fun _ => if_pos rfl⟩
  · match i, hi with
    | 0, hi =>
      cases hi
      exact ⟨A, H.2.1 v A a h, fun h0 => absurd h0 (by decide)⟩
    | j + 1, hi => cases hi
set_option maxRecDepth 20000 in
theorem s_L_rank (H : H_22) (v : Ls) (A : Nat → Int64) (a : Int32) (rc : Int32 ⊕ String) (x th : Int32) (h : f_X8_rank v a = some rc) (hg : agr [IOB] rc x th) : ∃ A' : Nat → Int64, SemX z_L_rank [((0 : Nat), (9 : Nat), (12 : Nat), (13 : Nat))] 2 1 6 [.ref 0, .int a, .ref 16] (WLs v ++ [.inl (1, 1, .inr (.inl A))]) (PST (.inl (some (.int th))) (WLs v ++ [.inl (1, 1, .inr (.inl A'))])) ∧ (th = 0 → A' (Int32.toNatClampNeg 0) = (Int32.toInt64 x)) := by
  rcases hg with ⟨rfl, rfl⟩ | ⟨i, e, hi, rfl, rfl⟩
  · exact ⟨_, H.1 v A a x h, fun _ => if_pos rfl⟩
  · match i, hi with
    | 0, hi =>
      cases hi
      exact ⟨A, H.2.1 v A a h, fun h0 => absurd h0 (by decide)⟩
    | j + 1, hi => cases hi
set_option maxRecDepth 20000 in
theorem s_L_depth (H : H_23) (v : Ls) (A : Nat → Int64) (a : Int32) (rc : Int32 ⊕ String) (x th : Int32) (h : f_X8_depth v a = some rc) (hg : agr [IOB, ISE] rc x th) : ∃ A' : Nat → Int64, SemX z_L_depth [((0 : Nat), (9 : Nat), (12 : Nat), (13 : Nat)), ((0 : Nat), (9 : Nat), (15 : Nat), (59 : Nat))] 4 2 12 [.ref 0, .int a, .ref 16] (WLs v ++ [.inl (1, 1, .inr (.inl A))]) (PST (.inl (some (.int th))) (WLs v ++ [.inl (1, 1, .inr (.inl A'))])) ∧ (th = 0 → A' (Int32.toNatClampNeg 0) = (Int32.toInt64 x)) := by
  rcases hg with ⟨rfl, rfl⟩ | ⟨i, e, hi, rfl, rfl⟩
  · exact ⟨_, H.1 v A a x h, fun _ => if_pos rfl⟩
  · match i, hi with
    | 0, hi =>
      cases hi
      exact ⟨A, H.2.1 v A a h, fun h0 => absurd h0 (by decide)⟩
    | 1, hi =>
      cases hi
      exact ⟨A, H.2.2.1 v A a h, fun h0 => absurd h0 (by decide)⟩
    | j + 2, hi => cases hi
set_option maxRecDepth 20000 in
theorem s_L_height (H : H_24) (v : Lsu) (A : Nat → Int64) (a : Int32) (rc : Int32 ⊕ String) (x th : Int32) (h : f_X8_height v a = some rc) (hg : agr [IOB] rc x th) : ∃ A' : Nat → Int64, SemX z_L_height [((0 : Nat), (9 : Nat), (12 : Nat), (13 : Nat))] 4 1 6 [.ref 0, .int a, .ref 22] (WLsu v ++ [.inl (1, 1, .inr (.inl A))]) (PST (.inl (some (.int th))) (WLsu v ++ [.inl (1, 1, .inr (.inl A'))])) ∧ (th = 0 → A' (Int32.toNatClampNeg 0) = (Int32.toInt64 x)) := by
  rcases hg with ⟨rfl, rfl⟩ | ⟨i, e, hi, rfl, rfl⟩
  · exact ⟨_, H.1 v A a x h, fun _ => if_pos rfl⟩
  · match i, hi with
    | 0, hi =>
      cases hi
      exact ⟨A, H.2.1 v A a h, fun h0 => absurd h0 (by decide)⟩
    | j + 1, hi => cases hi
set_option maxRecDepth 20000 in
theorem s_L_size (H : H_25) (v : Lsu) (A : Nat → Int64) (a : Int32) (rc : Int32 ⊕ String) (x th : Int32) (h : f_X8_size v a = some rc) (hg : agr [IOB] rc x th) : ∃ A' : Nat → Int64, SemX z_L_size [((0 : Nat), (9 : Nat), (12 : Nat), (13 : Nat))] 2 1 6 [.ref 0, .int a, .ref 22] (WLsu v ++ [.inl (1, 1, .inr (.inl A))]) (PST (.inl (some (.int th))) (WLsu v ++ [.inl (1, 1, .inr (.inl A'))])) ∧ (th = 0 → A' (Int32.toNatClampNeg 0) = (Int32.toInt64 x)) := by
  rcases hg with ⟨rfl, rfl⟩ | ⟨i, e, hi, rfl, rfl⟩
  · exact ⟨_, H.1 v A a x h, fun _ => if_pos rfl⟩
  · match i, hi with
    | 0, hi =>
      cases hi
      exact ⟨A, H.2.1 v A a h, fun h0 => absurd h0 (by decide)⟩
    | j + 1, hi => cases hi
set_option maxRecDepth 20000 in
theorem s_L_jobAt (H : H_26) (v : Lsu) (A : Nat → Int64) (a : Int32) (b : Int32) (rc : Int32 ⊕ String) (x th : Int32) (h : f_X8_jobAt v a b = some rc) (hg : agr [IOB] rc x th) : ∃ A' : Nat → Int64, SemX z_L_jobAt [((0 : Nat), (10 : Nat), (13 : Nat), (13 : Nat))] 4 1 6 [.ref 0, .int a, .int b, .ref 22] (WLsu v ++ [.inl (1, 1, .inr (.inl A))]) (PST (.inl (some (.int th))) (WLsu v ++ [.inl (1, 1, .inr (.inl A'))])) ∧ (th = 0 → A' (Int32.toNatClampNeg 0) = (Int32.toInt64 x)) := by
  rcases hg with ⟨rfl, rfl⟩ | ⟨i, e, hi, rfl, rfl⟩
  · exact ⟨_, H.1 v A a b x h, fun _ => if_pos rfl⟩
  · match i, hi with
    | 0, hi =>
      cases hi
      exact ⟨A, H.2.1 v A a b h, fun h0 => absurd h0 (by decide)⟩
    | j + 1, hi => cases hi
set_option maxRecDepth 20000 in
theorem s_L_positionOf (H : H_27) (v : Ls) (A : Nat → Int64) (a : Int32) (rc : Int32 ⊕ String) (x th : Int32) (h : f_X8_positionOf v a = some rc) (hg : agr [IOB, ISE] rc x th) : ∃ A' : Nat → Int64, SemX z_L_positionOf [((0 : Nat), (9 : Nat), (12 : Nat), (13 : Nat)), ((0 : Nat), (9 : Nat), (15 : Nat), (59 : Nat))] 4 2 12 [.ref 0, .int a, .ref 16] (WLs v ++ [.inl (1, 1, .inr (.inl A))]) (PST (.inl (some (.int th))) (WLs v ++ [.inl (1, 1, .inr (.inl A'))])) ∧ (th = 0 → A' (Int32.toNatClampNeg 0) = (Int32.toInt64 x)) := by
  rcases hg with ⟨rfl, rfl⟩ | ⟨i, e, hi, rfl, rfl⟩
  · exact ⟨_, H.1 v A a x h, fun _ => if_pos rfl⟩
  · match i, hi with
    | 0, hi =>
      cases hi
      exact ⟨A, H.2.1 v A a h, fun h0 => absurd h0 (by decide)⟩
    | 1, hi =>
      cases hi
      exact ⟨A, H.2.2.1 v A a h, fun h0 => absurd h0 (by decide)⟩
    | j + 2, hi => cases hi
set_option maxRecDepth 20000 in
theorem s_L_pagesBefore (H : H_28) (v : Ls) (A : Nat → Int64) (a : Int32) (rc : Int32 ⊕ String) (x th : Int32) (h : f_X8_pagesBefore v a = some rc) (hg : agr [IOB, ISE] rc x th) : ∃ A' : Nat → Int64, SemX z_L_pagesBefore [((0 : Nat), (9 : Nat), (12 : Nat), (13 : Nat)), ((0 : Nat), (9 : Nat), (15 : Nat), (59 : Nat))] 4 2 12 [.ref 0, .int a, .ref 16] (WLs v ++ [.inl (1, 1, .inr (.inl A))]) (PST (.inl (some (.int th))) (WLs v ++ [.inl (1, 1, .inr (.inl A'))])) ∧ (th = 0 → A' (Int32.toNatClampNeg 0) = (Int32.toInt64 x)) := by
  rcases hg with ⟨rfl, rfl⟩ | ⟨i, e, hi, rfl, rfl⟩
  · exact ⟨_, H.1 v A a x h, fun _ => if_pos rfl⟩
  · match i, hi with
    | 0, hi =>
      cases hi
      exact ⟨A, H.2.1 v A a h, fun h0 => absurd h0 (by decide)⟩
    | 1, hi =>
      cases hi
      exact ⟨A, H.2.2.1 v A a h, fun h0 => absurd h0 (by decide)⟩
    | j + 2, hi => cases hi
set_option maxRecDepth 20000 in
theorem s_L_minutesUntilPrinted (H : H_29) (v : Lsu) (A : Nat → Int64) (a : Int32) (rc : Int32 ⊕ String) (x th : Int32) (h : f_X8_minutesUntilPrinted v a = some rc) (hg : agr [IOB, ISE] rc x th) : ∃ A' : Nat → Int64, SemX z_L_minutesUntilPrinted [((0 : Nat), (9 : Nat), (12 : Nat), (13 : Nat)), ((0 : Nat), (9 : Nat), (15 : Nat), (59 : Nat))] 4 2 12 [.ref 0, .int a, .ref 22] (WLsu v ++ [.inl (1, 1, .inr (.inl A))]) (PST (.inl (some (.int th))) (WLsu v ++ [.inl (1, 1, .inr (.inl A'))])) ∧ (th = 0 → A' (Int32.toNatClampNeg 0) = (Int32.toInt64 x)) := by
  rcases hg with ⟨rfl, rfl⟩ | ⟨i, e, hi, rfl, rfl⟩
  · exact ⟨_, H.1 v A a x h, fun _ => if_pos rfl⟩
  · match i, hi with
    | 0, hi =>
      cases hi
      exact ⟨A, H.2.1 v A a h, fun h0 => absurd h0 (by decide)⟩
    | 1, hi =>
      cases hi
      exact ⟨A, H.2.2.1 v A a h, fun h0 => absurd h0 (by decide)⟩
    | j + 2, hi => cases hi
set_option maxRecDepth 20000 in
theorem s_L_waitingPages (H : H_30) (v : Lsu) (A : Nat → Int64) (a : Int32) (rc : Int32 ⊕ String) (x th : Int32) (h : f_X8_waitingPages v a = some rc) (hg : agr [IOB] rc x th) : ∃ A' : Nat → Int64, SemX z_L_waitingPages [((0 : Nat), (9 : Nat), (12 : Nat), (13 : Nat))] 2 1 6 [.ref 0, .int a, .ref 22] (WLsu v ++ [.inl (1, 1, .inr (.inl A))]) (PST (.inl (some (.int th))) (WLsu v ++ [.inl (1, 1, .inr (.inl A'))])) ∧ (th = 0 → A' (Int32.toNatClampNeg 0) = (Int32.toInt64 x)) := by
  rcases hg with ⟨rfl, rfl⟩ | ⟨i, e, hi, rfl, rfl⟩
  · exact ⟨_, H.1 v A a x h, fun _ => if_pos rfl⟩
  · match i, hi with
    | 0, hi =>
      cases hi
      exact ⟨A, H.2.1 v A a h, fun h0 => absurd h0 (by decide)⟩
    | j + 1, hi => cases hi
set_option maxRecDepth 20000 in
theorem s_L_printedPages (H : H_31) (v : Lsu) (A : Nat → Int64) (a : Int32) (rc : Int32 ⊕ String) (x th : Int32) (h : f_X8_printedPages v a = some rc) (hg : agr [IOB] rc x th) : ∃ A' : Nat → Int64, SemX z_L_printedPages [((0 : Nat), (9 : Nat), (12 : Nat), (13 : Nat))] 2 1 6 [.ref 0, .int a, .ref 22] (WLsu v ++ [.inl (1, 1, .inr (.inl A))]) (PST (.inl (some (.int th))) (WLsu v ++ [.inl (1, 1, .inr (.inl A'))])) ∧ (th = 0 → A' (Int32.toNatClampNeg 0) = (Int32.toInt64 x)) := by
  rcases hg with ⟨rfl, rfl⟩ | ⟨i, e, hi, rfl, rfl⟩
  · exact ⟨_, H.1 v A a x h, fun _ => if_pos rfl⟩
  · match i, hi with
    | 0, hi =>
      cases hi
      exact ⟨A, H.2.1 v A a h, fun h0 => absurd h0 (by decide)⟩
    | j + 1, hi => cases hi
set_option maxRecDepth 20000 in
theorem s_L_speed (H : H_32) (v : Lu) (A : Nat → Int64) (a : Int32) (rc : Int32 ⊕ String) (x th : Int32) (h : f_X8_speed v a = some rc) (hg : agr [IOB] rc x th) : ∃ A' : Nat → Int64, SemX z_L_speed [((0 : Nat), (9 : Nat), (12 : Nat), (13 : Nat))] 2 1 6 [.ref 0, .int a, .ref 7] (WLu v ++ [.inl (1, 1, .inr (.inl A))]) (PST (.inl (some (.int th))) (WLu v ++ [.inl (1, 1, .inr (.inl A'))])) ∧ (th = 0 → A' (Int32.toNatClampNeg 0) = (Int32.toInt64 x)) := by
  rcases hg with ⟨rfl, rfl⟩ | ⟨i, e, hi, rfl, rfl⟩
  · exact ⟨_, H.1 v A a x h, fun _ => if_pos rfl⟩
  · match i, hi with
    | 0, hi =>
      cases hi
      exact ⟨A, H.2.1 v A a h, fun h0 => absurd h0 (by decide)⟩
    | j + 1, hi => cases hi
set_option maxRecDepth 20000 in
theorem s_L_isPaused (H : H_33) (v : Lsu) (A : Nat → Int64) (a : Int32) (rc : Int32 ⊕ String) (x th : Int32) (h : f_X8_isPaused v a = some rc) (hg : agr [IOB] rc x th) : ∃ A' : Nat → Int64, SemX z_L_isPaused [((0 : Nat), (16 : Nat), (19 : Nat), (13 : Nat))] 2 1 6 [.ref 0, .int a, .ref 22] (WLsu v ++ [.inl (1, 1, .inr (.inl A))]) (PST (.inl (some (.int th))) (WLsu v ++ [.inl (1, 1, .inr (.inl A'))])) ∧ (th = 0 → A' (Int32.toNatClampNeg 0) = (if x = 0 then 0 else 1)) := by
  rcases hg with ⟨rfl, rfl⟩ | ⟨i, e, hi, rfl, rfl⟩
  · exact ⟨_, H.1 v A a x h, fun _ => if_pos rfl⟩
  · match i, hi with
    | 0, hi =>
      cases hi
      exact ⟨A, H.2.1 v A a h, fun h0 => absurd h0 (by decide)⟩
    | j + 1, hi => cases hi
set_option maxRecDepth 20000 in
theorem s_L_waitingPagesOfOwner (H : H_35) (v : Lsu) (A : Nat → Int64) (a : Int32) (rc : Int32 ⊕ String) (x th : Int32) (h : f_X8_waitingPagesOfOwner v a = some rc) (hg : agr [IOB] rc x th) : ∃ A' : Nat → Int64, SemX z_L_waitingPagesOfOwner [((0 : Nat), (9 : Nat), (12 : Nat), (13 : Nat))] 2 1 6 [.ref 0, .int a, .ref 22] (WLsu v ++ [.inl (1, 1, .inr (.inl A))]) (PST (.inl (some (.int th))) (WLsu v ++ [.inl (1, 1, .inr (.inl A'))])) ∧ (th = 0 → A' (Int32.toNatClampNeg 0) = (Int32.toInt64 x)) := by
  rcases hg with ⟨rfl, rfl⟩ | ⟨i, e, hi, rfl, rfl⟩
  · exact ⟨_, H.1 v A a x h, fun _ => if_pos rfl⟩
  · match i, hi with
    | 0, hi =>
      cases hi
      exact ⟨A, H.2.1 v A a h, fun h0 => absurd h0 (by decide)⟩
    | j + 1, hi => cases hi
set_option maxRecDepth 20000 in
theorem s_L_printedPagesOfOwner (H : H_36) (v : Lsu) (A : Nat → Int64) (a : Int32) (rc : Int32 ⊕ String) (x th : Int32) (h : f_X8_printedPagesOfOwner v a = some rc) (hg : agr [IOB] rc x th) : ∃ A' : Nat → Int64, SemX z_L_printedPagesOfOwner [((0 : Nat), (9 : Nat), (12 : Nat), (13 : Nat))] 2 1 6 [.ref 0, .int a, .ref 22] (WLsu v ++ [.inl (1, 1, .inr (.inl A))]) (PST (.inl (some (.int th))) (WLsu v ++ [.inl (1, 1, .inr (.inl A'))])) ∧ (th = 0 → A' (Int32.toNatClampNeg 0) = (Int32.toInt64 x)) := by
  rcases hg with ⟨rfl, rfl⟩ | ⟨i, e, hi, rfl, rfl⟩
  · exact ⟨_, H.1 v A a x h, fun _ => if_pos rfl⟩
  · match i, hi with
    | 0, hi =>
      cases hi
      exact ⟨A, H.2.1 v A a h, fun h0 => absurd h0 (by decide)⟩
    | j + 1, hi => cases hi
set_option maxRecDepth 20000 in
theorem s_L_printingObstacle (H : H_37) (v : Lsu) (A : Nat → Int64) (a : Int32) (rc : Int32 ⊕ String) (x th : Int32) (h : f_X8_printingObstacle v a = some rc) (hg : agr [IOB] rc x th) : ∃ A' : Nat → Int64, SemX z_L_printingObstacle [((0 : Nat), (9 : Nat), (12 : Nat), (13 : Nat))] 3 1 6 [.ref 0, .int a, .ref 22] (WLsu v ++ [.inl (1, 1, .inr (.inl A))]) (PST (.inl (some (.int th))) (WLsu v ++ [.inl (1, 1, .inr (.inl A'))])) ∧ (th = 0 → A' (Int32.toNatClampNeg 0) = (Int32.toInt64 x)) := by
  rcases hg with ⟨rfl, rfl⟩ | ⟨i, e, hi, rfl, rfl⟩
  · exact ⟨_, H.1 v A a x h, fun _ => if_pos rfl⟩
  · match i, hi with
    | 0, hi =>
      cases hi
      exact ⟨A, H.2.1 v A a h, fun h0 => absurd h0 (by decide)⟩
    | j + 1, hi => cases hi
set_option maxRecDepth 20000 in
theorem s_L_mergeCost (H : H_40) (v : Lsu) (A : Nat → Int64) (a : Int32) (b : Int32) (rc : Int32 ⊕ String) (x th : Int32) (h : f_X8_mergeCost v a b = some rc) (hg : agr [IOB, IAE] rc x th) : ∃ A' : Nat → Int64, SemX z_L_mergeCost [((0 : Nat), (10 : Nat), (13 : Nat), (13 : Nat)), ((0 : Nat), (10 : Nat), (17 : Nat), (103 : Nat))] 4 3 18 [.ref 0, .int a, .int b, .ref 22] (WLsu v ++ [.inl (1, 1, .inr (.inl A))]) (PST (.inl (some (.int th))) (WLsu v ++ [.inl (1, 1, .inr (.inl A'))])) ∧ (th = 0 → A' (Int32.toNatClampNeg 0) = (Int32.toInt64 x)) := by
  rcases hg with ⟨rfl, rfl⟩ | ⟨i, e, hi, rfl, rfl⟩
  · exact ⟨_, H.1 v A a b x h, fun _ => if_pos rfl⟩
  · match i, hi with
    | 0, hi =>
      cases hi
      exact ⟨A, H.2.1 v A a b h, fun h0 => absurd h0 (by decide)⟩
    | 1, hi =>
      cases hi
      exact ⟨A, H.2.2.1 v A a b h, fun h0 => absurd h0 (by decide)⟩
    | j + 2, hi => cases hi
set_option maxRecDepth 20000 in
theorem s_L_rankAfterMerge (H : H_41) (v : Lsu) (A : Nat → Int64) (a : Int32) (b : Int32) (rc : Int32 ⊕ String) (x th : Int32) (w : Lsu) (h : f_X8_rankAfterMerge v a b = some (rc, w)) (hg : agr [IOB, IAE] rc x th) : ∃ A' : Nat → Int64, SemX z_L_rankAfterMerge [((0 : Nat), (10 : Nat), (13 : Nat), (13 : Nat)), ((0 : Nat), (10 : Nat), (17 : Nat), (103 : Nat))] 4 3 18 [.ref 0, .int a, .int b, .ref 22] (WLsu v ++ [.inl (1, 1, .inr (.inl A))]) (PST (.inl (some (.int th))) (WLsu w ++ [.inl (1, 1, .inr (.inl A'))])) ∧ (th = 0 → A' (Int32.toNatClampNeg 0) = (Int32.toInt64 x)) := by
  rcases hg with ⟨rfl, rfl⟩ | ⟨i, e, hi, rfl, rfl⟩
  · exact ⟨_, H.1 v A a b x w h, fun _ => if_pos rfl⟩
  · match i, hi with
    | 0, hi =>
      cases hi
      exact ⟨A, H.2.1 v A a b w h, fun h0 => absurd h0 (by decide)⟩
    | 1, hi =>
      cases hi
      exact ⟨A, H.2.2.1 v A a b w h, fun h0 => absurd h0 (by decide)⟩
    | j + 2, hi => cases hi
set_option maxRecDepth 20000 in
theorem s_L_positionWith (H : H_42) (v : Ls) (A : Nat → Int64) (a : Int32) (b : Int32) (rc : Int32 ⊕ String) (x th : Int32) (h : f_X8_positionWith v a b = some rc) (hg : agr [IOB, IAE, ISE] rc x th) : ∃ A' : Nat → Int64, SemX z_L_positionWith [((0 : Nat), (10 : Nat), (13 : Nat), (13 : Nat)), ((0 : Nat), (10 : Nat), (17 : Nat), (103 : Nat)), ((0 : Nat), (10 : Nat), (21 : Nat), (59 : Nat))] 4 3 18 [.ref 0, .int a, .int b, .ref 16] (WLs v ++ [.inl (1, 1, .inr (.inl A))]) (PST (.inl (some (.int th))) (WLs v ++ [.inl (1, 1, .inr (.inl A'))])) ∧ (th = 0 → A' (Int32.toNatClampNeg 0) = (Int32.toInt64 x)) := by
  rcases hg with ⟨rfl, rfl⟩ | ⟨i, e, hi, rfl, rfl⟩
  · exact ⟨_, H.1 v A a b x h, fun _ => if_pos rfl⟩
  · match i, hi with
    | 0, hi =>
      cases hi
      exact ⟨A, H.2.1 v A a b h, fun h0 => absurd h0 (by decide)⟩
    | 1, hi =>
      cases hi
      exact ⟨A, H.2.2.1 v A a b h, fun h0 => absurd h0 (by decide)⟩
    | 2, hi =>
      cases hi
      exact ⟨A, H.2.2.2.1 v A a b h, fun h0 => absurd h0 (by decide)⟩
    | j + 3, hi => cases hi
set_option maxRecDepth 20000 in
theorem s_L_submit (H : H_46) (v : Lysu) (A : Nat → Int64) (a : Int32) (b : Int32) (c : Int32) (d : Int32) (rc : Int32 ⊕ String) (x th : Int32) (w : Lysu) (h : f_X8_submit v a b c d = some (rc, w)) (hg : agr [IOB, IAE, ISE] rc x th) : ∃ A' : Nat → Int64, SemX z_L_submit [((0 : Nat), (14 : Nat), (17 : Nat), (13 : Nat)), ((0 : Nat), (14 : Nat), (21 : Nat), (103 : Nat)), ((0 : Nat), (14 : Nat), (25 : Nat), (59 : Nat))] 6 4 24 [.ref 0, .int a, .int b, .int c, .int d, .ref 144] (WLysu v ++ [.inl (1, 1, .inr (.inl A))]) (PST (.inl (some (.int th))) (WLysu w ++ [.inl (1, 1, .inr (.inl A'))])) ∧ (th = 0 → A' (Int32.toNatClampNeg 0) = (Int32.toInt64 x)) := by
  rcases hg with ⟨rfl, rfl⟩ | ⟨i, e, hi, rfl, rfl⟩
  · exact ⟨_, H.1 v A a b c d x w h, fun _ => if_pos rfl⟩
  · match i, hi with
    | 0, hi =>
      cases hi
      exact ⟨A, H.2.1 v A a b c d w h, fun h0 => absurd h0 (by decide)⟩
    | 1, hi =>
      cases hi
      exact ⟨A, H.2.2.1 v A a b c d w h, fun h0 => absurd h0 (by decide)⟩
    | 2, hi =>
      cases hi
      exact ⟨A, H.2.2.2.1 v A a b c d w h, fun h0 => absurd h0 (by decide)⟩
    | j + 3, hi => cases hi
set_option maxRecDepth 20000 in
theorem s_L_printNext (H : H_47) (v : Lysu) (A : Nat → Int64) (a : Int32) (rc : Int32 ⊕ String) (x th : Int32) (w : Lysu) (h : f_X8_printNext v a = some (rc, w)) (hg : agr [IOB, ISE] rc x th) : ∃ A' : Nat → Int64, SemX z_L_printNext [((0 : Nat), (9 : Nat), (12 : Nat), (13 : Nat)), ((0 : Nat), (9 : Nat), (15 : Nat), (59 : Nat))] 6 2 12 [.ref 0, .int a, .ref 144] (WLysu v ++ [.inl (1, 1, .inr (.inl A))]) (PST (.inl (some (.int th))) (WLysu w ++ [.inl (1, 1, .inr (.inl A'))])) ∧ (th = 0 → A' (Int32.toNatClampNeg 0) = (Int32.toInt64 x)) := by
  rcases hg with ⟨rfl, rfl⟩ | ⟨i, e, hi, rfl, rfl⟩
  · exact ⟨_, H.1 v A a x w h, fun _ => if_pos rfl⟩
  · match i, hi with
    | 0, hi =>
      cases hi
      exact ⟨A, H.2.1 v A a w h, fun h0 => absurd h0 (by decide)⟩
    | 1, hi =>
      cases hi
      exact ⟨A, H.2.2.1 v A a w h, fun h0 => absurd h0 (by decide)⟩
    | j + 2, hi => cases hi
set_option maxRecDepth 20000 in
theorem s_L_cancel (H : H_48) (v : Lys) (A : Nat → Int64) (a : Int32) (rc : Int32 ⊕ String) (x th : Int32) (w : Lys) (h : f_X8_cancel v a = some (rc, w)) (hg : agr [IOB, ISE] rc x th) : ∃ A' : Nat → Int64, SemX z_L_cancel [((0 : Nat), (9 : Nat), (12 : Nat), (13 : Nat)), ((0 : Nat), (9 : Nat), (15 : Nat), (59 : Nat))] 6 2 12 [.ref 0, .int a, .ref 138] (WLys v ++ [.inl (1, 1, .inr (.inl A))]) (PST (.inl (some (.int th))) (WLys w ++ [.inl (1, 1, .inr (.inl A'))])) ∧ (th = 0 → A' (Int32.toNatClampNeg 0) = (Int32.toInt64 x)) := by
  rcases hg with ⟨rfl, rfl⟩ | ⟨i, e, hi, rfl, rfl⟩
  · exact ⟨_, H.1 v A a x w h, fun _ => if_pos rfl⟩
  · match i, hi with
    | 0, hi =>
      cases hi
      exact ⟨A, H.2.1 v A a w h, fun h0 => absurd h0 (by decide)⟩
    | 1, hi =>
      cases hi
      exact ⟨A, H.2.2.1 v A a w h, fun h0 => absurd h0 (by decide)⟩
    | j + 2, hi => cases hi
set_option maxRecDepth 20000 in
theorem s_L_changePriority (H : H_49) (v : Lys) (A : Nat → Int64) (a : Int32) (b : Int32) (rc : Int32 ⊕ String) (x th : Int32) (w : Lys) (h : f_X8_changePriority v a b = some (rc, w)) (hg : agr [IOB, IAE, ISE] rc x th) : ∃ A' : Nat → Int64, SemX z_L_changePriority [((0 : Nat), (10 : Nat), (13 : Nat), (13 : Nat)), ((0 : Nat), (10 : Nat), (17 : Nat), (103 : Nat)), ((0 : Nat), (10 : Nat), (21 : Nat), (59 : Nat))] 6 3 18 [.ref 0, .int a, .int b, .ref 138] (WLys v ++ [.inl (1, 1, .inr (.inl A))]) (PST (.inl (some (.int th))) (WLys w ++ [.inl (1, 1, .inr (.inl A'))])) ∧ (th = 0 → A' (Int32.toNatClampNeg 0) = (Int32.toInt64 x)) := by
  rcases hg with ⟨rfl, rfl⟩ | ⟨i, e, hi, rfl, rfl⟩
  · exact ⟨_, H.1 v A a b x w h, fun _ => if_pos rfl⟩
  · match i, hi with
    | 0, hi =>
      cases hi
      exact ⟨A, H.2.1 v A a b w h, fun h0 => absurd h0 (by decide)⟩
    | 1, hi =>
      cases hi
      exact ⟨A, H.2.2.1 v A a b w h, fun h0 => absurd h0 (by decide)⟩
    | 2, hi =>
      cases hi
      exact ⟨A, H.2.2.2.1 v A a b w h, fun h0 => absurd h0 (by decide)⟩
    | j + 3, hi => cases hi
set_option maxRecDepth 20000 in
theorem s_L_moveJob (H : H_50) (v : Lysu) (A : Nat → Int64) (a : Int32) (b : Int32) (rc : Int32 ⊕ String) (x th : Int32) (w : Lysu) (h : f_X8_moveJob v a b = some (rc, w)) (hg : agr [IOB, ISE] rc x th) : ∃ A' : Nat → Int64, SemX z_L_moveJob [((0 : Nat), (10 : Nat), (13 : Nat), (13 : Nat)), ((0 : Nat), (10 : Nat), (17 : Nat), (59 : Nat))] 6 3 18 [.ref 0, .int a, .int b, .ref 144] (WLysu v ++ [.inl (1, 1, .inr (.inl A))]) (PST (.inl (some (.int th))) (WLysu w ++ [.inl (1, 1, .inr (.inl A'))])) ∧ (th = 0 → A' (Int32.toNatClampNeg 0) = (Int32.toInt64 x)) := by
  rcases hg with ⟨rfl, rfl⟩ | ⟨i, e, hi, rfl, rfl⟩
  · exact ⟨_, H.1 v A a b x w h, fun _ => if_pos rfl⟩
  · match i, hi with
    | 0, hi =>
      cases hi
      exact ⟨A, H.2.1 v A a b w h, fun h0 => absurd h0 (by decide)⟩
    | 1, hi =>
      cases hi
      exact ⟨A, H.2.2.1 v A a b w h, fun h0 => absurd h0 (by decide)⟩
    | j + 2, hi => cases hi
set_option maxRecDepth 20000 in
theorem s_L_mergeQueues (H : H_51) (v : Lysu) (A : Nat → Int64) (a : Int32) (b : Int32) (rc : Int32 ⊕ String) (x th : Int32) (w : Lysu) (h : f_X8_mergeQueues v a b = some (rc, w)) (hg : agr [IOB, IAE] rc x th) : ∃ A' : Nat → Int64, SemX z_L_mergeQueues [((0 : Nat), (10 : Nat), (13 : Nat), (13 : Nat)), ((0 : Nat), (10 : Nat), (17 : Nat), (103 : Nat))] 6 3 18 [.ref 0, .int a, .int b, .ref 144] (WLysu v ++ [.inl (1, 1, .inr (.inl A))]) (PST (.inl (some (.int th))) (WLysu w ++ [.inl (1, 1, .inr (.inl A'))])) ∧ (th = 0 → A' (Int32.toNatClampNeg 0) = (Int32.toInt64 x)) := by
  rcases hg with ⟨rfl, rfl⟩ | ⟨i, e, hi, rfl, rfl⟩
  · exact ⟨_, H.1 v A a b x w h, fun _ => if_pos rfl⟩
  · match i, hi with
    | 0, hi =>
      cases hi
      exact ⟨A, H.2.1 v A a b w h, fun h0 => absurd h0 (by decide)⟩
    | 1, hi =>
      cases hi
      exact ⟨A, H.2.2.1 v A a b w h, fun h0 => absurd h0 (by decide)⟩
    | j + 2, hi => cases hi
set_option maxRecDepth 20000 in
theorem s_L_setPaused (H : H_52) (v : Lysu) (A : Nat → Int64) (a : Int32) (b : Int32) (rc : Int32 ⊕ String) (x th : Int32) (w : Lysu) (h : f_X8_setPaused v a b = some (rc, w)) (hg : agr [IOB] rc x th) : ∃ A' : Nat → Int64, SemX z_L_setPaused [((0 : Nat), (17 : Nat), (20 : Nat), (13 : Nat))] 6 1 6 [.ref 0, .int a, .int b, .ref 144] (WLysu v ++ [.inl (1, 1, .inr (.inl A))]) (PST (.inl (some (.int th))) (WLysu w ++ [.inl (1, 1, .inr (.inl A'))])) ∧ (th = 0 → A' (Int32.toNatClampNeg 0) = (if x = 0 then 0 else 1)) := by
  rcases hg with ⟨rfl, rfl⟩ | ⟨i, e, hi, rfl, rfl⟩
  · exact ⟨_, H.1 v A a b x w h, fun _ => if_pos rfl⟩
  · match i, hi with
    | 0, hi =>
      cases hi
      exact ⟨A, H.2.1 v A a b w h, fun h0 => absurd h0 (by decide)⟩
    | j + 1, hi => cases hi
set_option maxRecDepth 20000 in
theorem s_L_undo (H : H_53) (v : Lys) (A : Nat → Int64)  (rc : Int32 ⊕ String) (x th : Int32) (w : Lys) (h : f_X8_undo v  = some (rc, w)) (hg : agr [NSE] rc x th) : ∃ A' : Nat → Int64, SemX z_L_undo [((0 : Nat), (8 : Nat), (11 : Nat), (138 : Nat))] 6 1 6 [.ref 0, .ref 138] (WLys v ++ [.inl (1, 1, .inr (.inl A))]) (PST (.inl (some (.int th))) (WLys w ++ [.inl (1, 1, .inr (.inl A'))])) ∧ (th = 0 → A' (Int32.toNatClampNeg 0) = (Int32.toInt64 x)) := by
  rcases hg with ⟨rfl, rfl⟩ | ⟨i, e, hi, rfl, rfl⟩
  · exact ⟨_, H.1 v A  x w h, fun _ => if_pos rfl⟩
  · match i, hi with
    | 0, hi =>
      cases hi
      exact ⟨A, H.2.1 v A  w h, fun h0 => absurd h0 (by decide)⟩
    | j + 1, hi => cases hi
set_option maxRecDepth 20000 in
theorem s_L_writeHeap (H : H_54) (v : Losu) (A : Nat → Int64) (a : Int32) (rc : Int32 ⊕ String) (x th : Int32) (w : Losu) (h : f_X8_writeHeap v a = some (rc, w)) (hg : agr [IOB] rc x th) : ∃ A' : Nat → Int64, SemX z_L_writeHeap [((0 : Nat), (9 : Nat), (12 : Nat), (13 : Nat))] 54 1 6 [.ref 0, .int a, .ref 24] (WLosu v ++ [.inl (1, 1, .inr (.inl A))]) (PST (.inl (some (.int th))) (WLosu w ++ [.inl (1, 1, .inr (.inl A'))])) ∧ (th = 0 → A' (Int32.toNatClampNeg 0) = (Int32.toInt64 x)) := by
  rcases hg with ⟨rfl, rfl⟩ | ⟨i, e, hi, rfl, rfl⟩
  · exact ⟨_, H.1 v A a x w h, fun _ => if_pos rfl⟩
  · match i, hi with
    | 0, hi =>
      cases hi
      exact ⟨A, H.2.1 v A a w h, fun h0 => absurd h0 (by decide)⟩
    | j + 1, hi => cases hi
set_option maxRecDepth 20000 in
theorem s_L_restoreState (H : H_57) (v : Lysk) (A : Nat → Int64)  (rc : Int32 ⊕ String) (x th : Int32) (w : Lysk) (h : f_X8_restoreState v  = some (rc, w)) (hg : agr [NSE] rc x th) : ∃ A' : Nat → Int64, SemX z_L_restoreState [((0 : Nat), (8 : Nat), (11 : Nat), (138 : Nat))] 5 1 6 [.ref 0, .ref 153] (WLysk v ++ [.inl (1, 1, .inr (.inl A))]) (PST (.inl (some (.int th))) (WLysk w ++ [.inl (1, 1, .inr (.inl A'))])) ∧ (th = 0 → A' (Int32.toNatClampNeg 0) = (Int32.toInt64 x)) := by
  rcases hg with ⟨rfl, rfl⟩ | ⟨i, e, hi, rfl, rfl⟩
  · exact ⟨_, H.1 v A  x w h, fun _ => if_pos rfl⟩
  · match i, hi with
    | 0, hi =>
      cases hi
      exact ⟨A, H.2.1 v A  w h, fun h0 => absurd h0 (by decide)⟩
    | j + 1, hi => cases hi
