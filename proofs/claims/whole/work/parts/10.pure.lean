/-! The pure picture: items, rows, trees (a spine of pairs of digits and what stands at its end), and the rules on them. An item is coded in Nat.Internal.Linear.Expr, for no type may be declared here: an entry is '.num e', a node '.mulL number row', a row a chain of '.add'. -/
abbrev ft_I : Type := Nat.Internal.Linear.Expr
abbrev ft_S : Type := List (List ft_I × List ft_I)
abbrev ft_T : Type := ft_S × Option ft_I
def ft_no : ft_I := .var 0
def ft_mk : List ft_I → ft_I
  | [] => .var 0
  | x :: l => .add x (ft_mk l)
def ft_nd (n : Nat) (l : List ft_I) : ft_I := .mulL n (ft_mk l)
def ft_un : ft_I → List ft_I
  | .add x r => x :: ft_un r
  | _ => []
def ft_ps : ft_I → List ft_I
  | .mulL _ r => ft_un r
  | _ => []
theorem ft_un_mk (l : List ft_I) : ft_un (ft_mk l) = l := by
  induction l with
  | nil => rfl
  | cons x l ih => simp [ft_mk, ft_un, ih]
theorem ft_ps_nd (n : Nat) (l : List ft_I) : ft_ps (ft_nd n l) = l := ft_un_mk l
/-- how many entries -/
def ft_z : ft_I → Nat
  | .num _ => 1
  | .mulL _ r => ft_z r
  | .add x r => ft_z x + ft_z r
  | _ => 0
def ft_zR : List ft_I → Nat
  | [] => 0
  | x :: l => ft_z x + ft_zR l
def ft_zT : ft_S → Option ft_I → Nat
  | [], none => 0
  | [], some x => ft_z x
  | d :: sp, o => ft_zR d.1 + ft_zT sp o + ft_zR d.2
theorem ft_z_mk (l : List ft_I) : ft_z (ft_mk l) = ft_zR l := by
  induction l with
  | nil => rfl
  | cons x l ih => simp [ft_mk, ft_z, ft_zR, ih]
theorem ft_z_nd (n : Nat) (l : List ft_I) : ft_z (ft_nd n l) = ft_zR l := ft_z_mk l
theorem ft_zR_app (a b : List ft_I) : ft_zR (a ++ b) = ft_zR a + ft_zR b := by
  induction a with
  | nil => simp [ft_zR]
  | cons x l ih => simp [ft_zR, ih]; omega
/-- the entries of an item, each with the numbers of the nodes that hold it, the innermost first -/
def ft_lv : ft_I → List (Nat × List Nat)
  | .num e => [(e, [])]
  | .mulL n r => (ft_lv r).map (fun q => (q.1, q.2 ++ [n]))
  | .add x r => ft_lv x ++ ft_lv r
  | _ => []
def ft_lR : List ft_I → List (Nat × List Nat)
  | [] => []
  | x :: l => ft_lv x ++ ft_lR l
theorem ft_lv_mk (l : List ft_I) : ft_lv (ft_mk l) = ft_lR l := by
  induction l with
  | nil => rfl
  | cons x l ih => simp [ft_mk, ft_lv, ft_lR, ih]
theorem ft_lv_nd (n : Nat) (l : List ft_I) : ft_lv (ft_nd n l) = (ft_lR l).map (fun q => (q.1, q.2 ++ [n])) := by
  show (ft_lv (ft_mk l)).map _ = _
  rw [ft_lv_mk]
theorem ft_lv_len (x : ft_I) : (ft_lv x).length = ft_z x := by
  induction x with
  | num e => rfl
  | var i => rfl
  | add a b ha hb => simp [ft_lv, ft_z, ha, hb]
  | mulL k a ha => simp [ft_lv, ft_z, ha]
  | mulR a k _ => rfl
theorem ft_lR_len (l : List ft_I) : (ft_lR l).length = ft_zR l := by
  induction l with
  | nil => rfl
  | cons x l ih => simp [ft_lR, ft_zR, ft_lv_len, ih]
theorem ft_lR_app (a b : List ft_I) : ft_lR (a ++ b) = ft_lR a ++ ft_lR b := by
  induction a with
  | nil => rfl
  | cons x l ih => simp [ft_lR, ih]
/-- an item of rank k: its entries are numbered below ne, its nodes from 1 to mm, and zf tells the size of each node by its number -/
def ft_ok (ne mm : Nat) (zf : Nat → Nat) : Nat → ft_I → Prop
  | 0, x => ∃ e, x = .num e ∧ e < ne
  | k + 1, x => ∃ n l, x = ft_nd n l ∧ (l.length = 2 ∨ l.length = 3) ∧ 1 ≤ n ∧ n ≤ mm ∧ zf n = ft_zR l ∧ ∀ y ∈ l, ft_ok ne mm zf k y
def ft_okR (ne mm : Nat) (zf : Nat → Nat) (k : Nat) (l : List ft_I) : Prop := ∀ y ∈ l, ft_ok ne mm zf k y
def ft_okT (ne mm : Nat) (zf : Nat → Nat) : Nat → ft_S → Option ft_I → Prop
  | _, [], none => True
  | k, [], some x => ft_ok ne mm zf k x
  | k, d :: sp, o => (1 ≤ d.1.length ∧ d.1.length ≤ 4 ∧ ft_okR ne mm zf k d.1) ∧ (1 ≤ d.2.length ∧ d.2.length ≤ 4 ∧ ft_okR ne mm zf k d.2) ∧ ft_okT ne mm zf (k + 1) sp o
/-- the number of nodes made so far, and the size of each by its number -/
abbrev ft_C : Type := Nat × (Nat → Nat)
/-- one node more, of the items l -/
def ft_nw (c : ft_C) (l : List ft_I) : ft_C := (c.1 + 1, va_up c.2 (c.1 + 1) (ft_zR l))
/-- FRONT: the tree, and the nodes made so far -/
def ft_fr : ft_I → ft_S → Option ft_I → ft_C → ft_T × ft_C
  | x, [], none, c => (([], some x), c)
  | x, [], some y, c => (([([x], [y])], none), c)
  | x, d :: sp, o, c =>
    if d.1.length < 4 then (((x :: d.1, d.2) :: sp, o), c)
    else (((x :: d.1.take 1, d.2) :: (ft_fr (ft_nd (c.1 + 1) (d.1.drop 1)) sp o (ft_nw c (d.1.drop 1))).1.1, (ft_fr (ft_nd (c.1 + 1) (d.1.drop 1)) sp o (ft_nw c (d.1.drop 1))).1.2), (ft_fr (ft_nd (c.1 + 1) (d.1.drop 1)) sp o (ft_nw c (d.1.drop 1))).2)
/-- BACK -/
def ft_bk : ft_S → Option ft_I → ft_I → ft_C → ft_T × ft_C
  | [], none, x, c => (([], some x), c)
  | [], some y, x, c => (([([y], [x])], none), c)
  | d :: sp, o, x, c =>
    if d.2.length < 4 then (((d.1, d.2 ++ [x]) :: sp, o), c)
    else (((d.1, d.2.drop 3 ++ [x]) :: (ft_bk sp o (ft_nd (c.1 + 1) (d.2.take 3)) (ft_nw c (d.2.take 3))).1.1, (ft_bk sp o (ft_nd (c.1 + 1) (d.2.take 3)) (ft_nw c (d.2.take 3))).1.2), (ft_bk sp o (ft_nd (c.1 + 1) (d.2.take 3)) (ft_nw c (d.2.take 3))).2)
/-- LINE -/
def ft_ln (row : List ft_I) : ft_T :=
  match row with
  | [] => ([], none)
  | [x] => ([], some x)
  | x :: y :: l => ([((x :: y :: l).take ((l.length + 3) / 2), (x :: y :: l).drop ((l.length + 3) / 2))], none)
def ft_em (sp : ft_S) (o : Option ft_I) : Bool := sp.isEmpty && o.isNone
def ft_fi (sp : ft_S) (o : Option ft_I) : ft_I := match sp with
  | [] => o.getD ft_no
  | d :: _ => d.1.headD ft_no
def ft_la (sp : ft_S) (o : Option ft_I) : ft_I := match sp with
  | [] => o.getD ft_no
  | d :: _ => d.2.getLastD ft_no
/-- REST -/
def ft_re : ft_S → Option ft_I → ft_T
  | [], _ => ([], none)
  | d :: sp, o =>
    if 1 < d.1.length then ((d.1.drop 1, d.2) :: sp, o)
    else if ft_em sp o then ft_ln d.2
    else ((ft_ps (ft_fi sp o), d.2) :: (ft_re sp o).1, (ft_re sp o).2)
/-- LEAD -/
def ft_le : ft_S → Option ft_I → ft_T
  | [], _ => ([], none)
  | d :: sp, o =>
    if 1 < d.2.length then ((d.1, d.2.take (d.2.length - 1)) :: sp, o)
    else if ft_em sp o then ft_ln d.1
    else ((d.1, ft_ps (ft_la sp o)) :: (ft_le sp o).1, (ft_le sp o).2)
/-- OPEN -/
def ft_op (l : List ft_I) (sp : ft_S) (o : Option ft_I) (r : List ft_I) : ft_T :=
  if 0 < l.length ∧ 0 < r.length then ((l, r) :: sp, o)
  else if ft_em sp o then ft_ln (if l.length = 0 then r else l)
  else if l.length = 0 then ((ft_ps (ft_fi sp o), r) :: (ft_re sp o).1, (ft_re sp o).2)
  else ((l, ft_ps (ft_la sp o)) :: (ft_le sp o).1, (ft_le sp o).2)
/-- how many items the next group takes -/
def ft_tk (n : Nat) : Nat := if n = 2 ∨ n = 4 then 2 else 3
/-- GROUPS -/
def ft_gr : Nat → List ft_I → ft_C → List ft_I × ft_C
  | 0, _, c => ([], c)
  | f + 1, l, c =>
    if l.length = 0 then ([], c)
    else (ft_nd (c.1 + 1) (l.take (ft_tk l.length)) :: (ft_gr f (l.drop (ft_tk l.length)) (ft_nw c (l.take (ft_tk l.length)))).1, (ft_gr f (l.drop (ft_tk l.length)) (ft_nw c (l.take (ft_tk l.length)))).2)
def ft_af (row : List ft_I) (a : ft_T × ft_C) : ft_T × ft_C := row.foldr (fun x a => ft_fr x a.1.1 a.1.2 a.2) a
def ft_ab (row : List ft_I) (a : ft_T × ft_C) : ft_T × ft_C := row.foldl (fun a x => ft_bk a.1.1 a.1.2 x a.2) a
/-- JOIN -/
def ft_jn : ft_S → Option ft_I → List ft_I → ft_S → Option ft_I → ft_C → ft_T × ft_C
  | [], o, row, sp2, o2, c =>
    match o with
    | none => ft_af row ((sp2, o2), c)
    | some x => if ft_em sp2 o2 then ft_ab row (([], some x), c) else ft_fr x (ft_af row ((sp2, o2), c)).1.1 (ft_af row ((sp2, o2), c)).1.2 (ft_af row ((sp2, o2), c)).2
  | d :: sp, o, row, sp2, o2, c =>
    match sp2 with
    | [] => match o2 with
      | none => ft_ab row ((d :: sp, o), c)
      | some y => ft_bk (ft_ab row ((d :: sp, o), c)).1.1 (ft_ab row ((d :: sp, o), c)).1.2 y (ft_ab row ((d :: sp, o), c)).2
    | d2 :: sp2 => (((d.1, d2.2) :: (ft_jn sp o (ft_gr 16 (d.2 ++ row ++ d2.1) c).1 sp2 o2 (ft_gr 16 (d.2 ++ row ++ d2.1) c).2).1.1, (ft_jn sp o (ft_gr 16 (d.2 ++ row ++ d2.1) c).1 sp2 o2 (ft_gr 16 (d.2 ++ row ++ d2.1) c).2).1.2), (ft_jn sp o (ft_gr 16 (d.2 ++ row ++ d2.1) c).1 sp2 o2 (ft_gr 16 (d.2 ++ row ++ d2.1) c).2).2)
/-- the index in a row of the item that holds the row's entry number p -/
def ft_ix : List ft_I → Nat → Nat
  | [], _ => 0
  | x :: l, p => if l.length = 0 ∨ p < ft_z x then 0 else 1 + ft_ix l (p - ft_z x)
/-- CUT, a level up: the cut c of the middle at its place p -/
def ft_cs (d : List ft_I × List ft_I) (c : ft_T × ft_I × ft_T) (p : Nat) : ft_T × ft_I × ft_T :=
  (ft_op d.1 c.1.1 c.1.2 ((ft_ps c.2.1).take (ft_ix (ft_ps c.2.1) (p - ft_zT c.1.1 c.1.2))), (ft_ps c.2.1).getD (ft_ix (ft_ps c.2.1) (p - ft_zT c.1.1 c.1.2)) ft_no, ft_op ((ft_ps c.2.1).drop (ft_ix (ft_ps c.2.1) (p - ft_zT c.1.1 c.1.2) + 1)) c.2.2.1 c.2.2.2 d.2)
/-- CUT -/
def ft_cu : ft_S → Option ft_I → Nat → ft_T × ft_I × ft_T
  | [], o, _ => (([], none), o.getD ft_no, ([], none))
  | d :: sp, o, p =>
    if ft_zR d.1 + ft_zT sp o ≤ p then
      (ft_op d.1 sp o (d.2.take (ft_ix d.2 (p - (ft_zR d.1 + ft_zT sp o)))), d.2.getD (ft_ix d.2 (p - (ft_zR d.1 + ft_zT sp o))) ft_no, ft_ln (d.2.drop (ft_ix d.2 (p - (ft_zR d.1 + ft_zT sp o)) + 1)))
    else if p < ft_zR d.1 then
      (ft_ln (d.1.take (ft_ix d.1 p)), d.1.getD (ft_ix d.1 p) ft_no, ft_op (d.1.drop (ft_ix d.1 p + 1)) sp o d.2)
    else ft_cs d (ft_cu sp o (p - ft_zR d.1)) (p - ft_zR d.1)
/-- HALVES -/
def ft_ha (sp : ft_S) (o : Option ft_I) (p : Nat) (c : ft_C) : ft_T × ft_T × ft_C :=
  if p = ft_zT sp o then ((sp, o), ([], none), c)
  else ((ft_cu sp o p).1, (ft_fr (ft_cu sp o p).2.1 (ft_cu sp o p).2.2.1 (ft_cu sp o p).2.2.2 c).1, (ft_fr (ft_cu sp o p).2.1 (ft_cu sp o p).2.2.1 (ft_cu sp o p).2.2.2 c).2)
/-- another entry at a place of an item of rank k: the outermost new node has the number c.1 + 1 -/
def ft_rp : Nat → ft_I → Nat → ft_I → ft_C → ft_I × ft_C
  | 0, _, _, y, c => (y, c)
  | k + 1, x, p, y, c => (ft_nd (c.1 + 1) ((ft_ps x).set (ft_ix (ft_ps x) p) (ft_rp k ((ft_ps x).getD (ft_ix (ft_ps x) p) ft_no) (p - ft_zR ((ft_ps x).take (ft_ix (ft_ps x) p))) y (c.1 + 1, va_up c.2 (c.1 + 1) (ft_z x))).1), (ft_rp k ((ft_ps x).getD (ft_ix (ft_ps x) p) ft_no) (p - ft_zR ((ft_ps x).take (ft_ix (ft_ps x) p))) y (c.1 + 1, va_up c.2 (c.1 + 1) (ft_z x))).2)
def ft_rR (k : Nat) (l : List ft_I) (p : Nat) (y : ft_I) (c : ft_C) : List ft_I × ft_C := (l.set (ft_ix l p) (ft_rp k (l.getD (ft_ix l p) ft_no) (p - ft_zR (l.take (ft_ix l p))) y c).1, (ft_rp k (l.getD (ft_ix l p) ft_no) (p - ft_zR (l.take (ft_ix l p))) y c).2)
def ft_rT : Nat → ft_S → Option ft_I → Nat → ft_I → ft_C → ft_T × ft_C
  | k, [], o, p, y, c => (([], some (ft_rp k (o.getD ft_no) p y c).1), (ft_rp k (o.getD ft_no) p y c).2)
  | k, d :: sp, o, p, y, c =>
    if ft_zR d.1 + ft_zT sp o ≤ p then (((d.1, (ft_rR k d.2 (p - (ft_zR d.1 + ft_zT sp o)) y c).1) :: sp, o), (ft_rR k d.2 (p - (ft_zR d.1 + ft_zT sp o)) y c).2)
    else if p < ft_zR d.1 then ((((ft_rR k d.1 p y c).1, d.2) :: sp, o), (ft_rR k d.1 p y c).2)
    else (((d.1, d.2) :: (ft_rT (k + 1) sp o (p - ft_zR d.1) y c).1.1, (ft_rT (k + 1) sp o (p - ft_zR d.1) y c).1.2), (ft_rT (k + 1) sp o (p - ft_zR d.1) y c).2)
/-- the entries of a tree with the numbers of the nodes that hold them -/
def ft_lT : ft_S → Option ft_I → List (Nat × List Nat)
  | [], none => []
  | [], some x => ft_lv x
  | d :: sp, o => ft_lR d.1 ++ ft_lT sp o ++ ft_lR d.2
theorem ft_lT_len (sp : ft_S) (o : Option ft_I) : (ft_lT sp o).length = ft_zT sp o := by
  induction sp with
  | nil => cases o with
    | none => rfl
    | some x => simp [ft_lT, ft_zT, ft_lv_len]
  | cons d sp ih => simp only [ft_lT, ft_zT, List.length_append, ft_lR_len, ih]
