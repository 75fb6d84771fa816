/-! What every call answers, and what state it leaves: (versions, nodes, entries). Class and reference are both held against this. -/
abbrev ft_E : Type := List (Int32 × Int32)
abbrev ft_Q : Type := List ft_T × ft_C × ft_E
def sp_at (q : ft_Q) (v : Int32) : Option ft_T := if v < 0 then none else q.1[v.toNatClampNeg]?
def sp_keep (q : ft_Q) (t : ft_T) (c : ft_C) (e : ft_E) : Int32 × ft_Q := (nI q.1.length, (q.1 ++ [t], c, e))
def sp_es (q : ft_Q) (t : ft_T) : ft_E := (ft_lT t.1 t.2).map (fun l => q.2.2.getD l.1 (0, 0))
def sp_new (q : ft_Q) : ft_I := .num q.2.2.length
def sp_pushFront (q : ft_Q) (v lo hi : Int32) : Int32 × ft_Q :=
  match sp_at q v with
  | none => (-1, q)
  | some t => if hi < lo then (-1, q) else if 120 ≤ q.1.length ∨ 40 ≤ ft_zT t.1 t.2 then (-2, q)
    else sp_keep q (ft_fr (sp_new q) t.1 t.2 q.2.1).1 (ft_fr (sp_new q) t.1 t.2 q.2.1).2 (q.2.2 ++ [(lo, hi)])
def sp_pushBack (q : ft_Q) (v lo hi : Int32) : Int32 × ft_Q :=
  match sp_at q v with
  | none => (-1, q)
  | some t => if hi < lo then (-1, q) else if 120 ≤ q.1.length ∨ 40 ≤ ft_zT t.1 t.2 then (-2, q)
    else sp_keep q (ft_bk t.1 t.2 (sp_new q) q.2.1).1 (ft_bk t.1 t.2 (sp_new q) q.2.1).2 (q.2.2 ++ [(lo, hi)])
def sp_popFront (q : ft_Q) (v : Int32) : Int32 × ft_Q :=
  match sp_at q v with
  | none => (-1, q)
  | some t => if ft_zT t.1 t.2 = 0 then (-1, q) else if 120 ≤ q.1.length then (-2, q)
    else sp_keep q (ft_re t.1 t.2) q.2.1 q.2.2
def sp_popBack (q : ft_Q) (v : Int32) : Int32 × ft_Q :=
  match sp_at q v with
  | none => (-1, q)
  | some t => if ft_zT t.1 t.2 = 0 then (-1, q) else if 120 ≤ q.1.length then (-2, q)
    else sp_keep q (ft_le t.1 t.2) q.2.1 q.2.2
def sp_concat (q : ft_Q) (v u : Int32) : Int32 × ft_Q :=
  match sp_at q v, sp_at q u with
  | some t, some t2 => if 120 ≤ q.1.length ∨ 40 < ft_zT t.1 t.2 + ft_zT t2.1 t2.2 then (-2, q)
    else sp_keep q (ft_jn t.1 t.2 [] t2.1 t2.2 q.2.1).1 (ft_jn t.1 t.2 [] t2.1 t2.2 q.2.1).2 q.2.2
  | _, _ => (-1, q)
def sp_split (q : ft_Q) (v p : Int32) : Int32 × ft_Q :=
  match sp_at q v with
  | none => (-1, q)
  | some t => if p < 0 ∨ nI (ft_zT t.1 t.2) < p then (-1, q) else if 118 < q.1.length then (-2, q)
    else (nI q.1.length, (q.1 ++ [(ft_ha t.1 t.2 p.toNatClampNeg q.2.1).1, (ft_ha t.1 t.2 p.toNatClampNeg q.2.1).2.1], (ft_ha t.1 t.2 p.toNatClampNeg q.2.1).2.2, q.2.2))
def sp_replace (q : ft_Q) (v p lo hi : Int32) : Int32 × ft_Q :=
  match sp_at q v with
  | none => (-1, q)
  | some t => if p < 0 ∨ nI (ft_zT t.1 t.2) ≤ p ∨ hi < lo then (-1, q) else if 120 ≤ q.1.length then (-2, q)
    else sp_keep q (ft_rT 0 t.1 t.2 p.toNatClampNeg (sp_new q) q.2.1).1 (ft_rT 0 t.1 t.2 p.toNatClampNeg (sp_new q) q.2.1).2 (q.2.2 ++ [(lo, hi)])
/-- the least place whose LOW isn't below lo -/
def sp_ip (lo : Int32) : ft_E → Nat
  | [] => 0
  | e :: l => if e.1 < lo then 1 + sp_ip lo l else 0
def sp_insT (t : ft_T) (p : Nat) (x : ft_I) (c : ft_C) : ft_T × ft_C :=
  ft_jn (ft_ha t.1 t.2 p c).1.1 (ft_ha t.1 t.2 p c).1.2 [] (ft_fr x (ft_ha t.1 t.2 p c).2.1.1 (ft_ha t.1 t.2 p c).2.1.2 (ft_ha t.1 t.2 p c).2.2).1.1 (ft_fr x (ft_ha t.1 t.2 p c).2.1.1 (ft_ha t.1 t.2 p c).2.1.2 (ft_ha t.1 t.2 p c).2.2).1.2 (ft_fr x (ft_ha t.1 t.2 p c).2.1.1 (ft_ha t.1 t.2 p c).2.1.2 (ft_ha t.1 t.2 p c).2.2).2
def sp_insert (q : ft_Q) (v lo hi : Int32) : Int32 × ft_Q :=
  match sp_at q v with
  | none => (-1, q)
  | some t => if hi < lo then (-1, q) else if 120 ≤ q.1.length ∨ 40 ≤ ft_zT t.1 t.2 then (-2, q)
    else sp_keep q (sp_insT t (sp_ip lo (sp_es q t)) (sp_new q) q.2.1).1 (sp_insT t (sp_ip lo (sp_es q t)) (sp_new q) q.2.1).2 (q.2.2 ++ [(lo, hi)])
/-- the least place with the greatest HIGH: 'top i b j l': i is the best so far, with b; the list goes on at j -/
def sp_top (i : Nat) (b : Int32) (j : Nat) : ft_E → Nat
  | [] => i
  | e :: l => if b < e.2 then sp_top j e.2 (j + 1) l else sp_top i b (j + 1) l
def sp_tp (es : ft_E) : Nat := match es with
  | [] => 0
  | e :: l => sp_top 0 e.2 1 l
def sp_removeTop (q : ft_Q) (v : Int32) : Int32 × ft_Q :=
  match sp_at q v with
  | none => (-1, q)
  | some t => if ft_zT t.1 t.2 = 0 then (-1, q) else if 120 ≤ q.1.length then (-2, q)
    else sp_keep q (ft_jn (ft_cu t.1 t.2 (sp_tp (sp_es q t))).1.1 (ft_cu t.1 t.2 (sp_tp (sp_es q t))).1.2 [] (ft_cu t.1 t.2 (sp_tp (sp_es q t))).2.2.1 (ft_cu t.1 t.2 (sp_tp (sp_es q t))).2.2.2 q.2.1).1 (ft_jn (ft_cu t.1 t.2 (sp_tp (sp_es q t))).1.1 (ft_cu t.1 t.2 (sp_tp (sp_es q t))).1.2 [] (ft_cu t.1 t.2 (sp_tp (sp_es q t))).2.2.1 (ft_cu t.1 t.2 (sp_tp (sp_es q t))).2.2.2 q.2.1).2 q.2.2
def sp_length (q : ft_Q) (v : Int32) : Int32 := match sp_at q v with
  | none => -1
  | some t => nI (ft_zT t.1 t.2)
def sp_ent (q : ft_Q) (v p : Int32) : Option (Int32 × Int32) := match sp_at q v with
  | none => none
  | some t => if p < 0 then none else (sp_es q t)[p.toNatClampNeg]?
def sp_low (q : ft_Q) (v p : Int32) : Int32 := ((sp_ent q v p).getD (0, 0)).1
def sp_high (q : ft_Q) (v p : Int32) : Int32 := ((sp_ent q v p).getD (0, 0)).2
/-- the total of kind k over entries -/
def sp_tot (k : Int32) (es : ft_E) : Int64 :=
  if k = 0 then lN es.length
  else if k = 3 then es.foldl (fun s e => s + e.2.toInt64 - e.1.toInt64 + 1) 0
  else if k = 1 then es.foldl (fun s e => if s < e.1.toInt64 then e.1.toInt64 else s) (-2147483648)
  else es.foldl (fun s e => if s < e.2.toInt64 then e.2.toInt64 else s) (-2147483648)
def sp_kind (k : Int32) : Prop := 0 ≤ k ∧ k ≤ 3
def sp_measure (q : ft_Q) (v k : Int32) : Int64 := match sp_at q v with
  | none => 0
  | some t => if ft_zT t.1 t.2 = 0 ∨ k < 0 ∨ 3 < k then 0 else sp_tot k (sp_es q t)
def sp_past (k : Int32) (x limit : Int64) : Prop := limit < x ∨ (x = limit ∧ (k = 1 ∨ k = 2))
/-- the least place from j on at which the total of the places up to it is past the limit -/
def sp_find (P : Nat → Bool) : Nat → Nat → Nat
  | 0, j => j
  | n + 1, j => if P j then j else sp_find P n (j + 1)
def sp_search (q : ft_Q) (v k : Int32) (limit : Int64) : Int32 := match sp_at q v with
  | none => -1
  | some t => if k < 0 ∨ 3 < k then -1 else nI (sp_find (fun j => decide (limit < sp_tot k ((sp_es q t).take (j + 1))) || (decide (sp_tot k ((sp_es q t).take (j + 1)) = limit) && (decide (k = 1) || decide (k = 2)))) (ft_zT t.1 t.2) 0)
def sp_meet (es : ft_E) (since to : Int32) (j : Nat) : Bool := decide ((es.getD j (0, 0)).1 ≤ to) && decide (since ≤ (es.getD j (0, 0)).2)
def sp_meeting (q : ft_Q) (v fr since to : Int32) : Int32 := match sp_at q v with
  | none => -1
  | some t => if sp_find (sp_meet (sp_es q t) since to) (ft_zT t.1 t.2 - fr.toNatClampNeg) fr.toNatClampNeg < ft_zT t.1 t.2 then nI (sp_find (sp_meet (sp_es q t) since to) (ft_zT t.1 t.2 - fr.toNatClampNeg) fr.toNatClampNeg) else -1
def sp_spine (q : ft_Q) (v : Int32) : Int32 := match sp_at q v with
  | none => -1
  | some t => nI (2 * t.1.length + if t.2.isSome then 1 else 0)
def sp_digit (q : ft_Q) (v lev : Int32) (right : Bool) : Int32 := match sp_at q v with
  | none => -1
  | some t => if lev < 0 then 0 else match t.1[lev.toNatClampNeg]? with
    | none => 0
    | some d => nI (if right then d.2.length else d.1.length)
def sp_rank (q : ft_Q) (v p : Int32) : Int32 := match sp_at q v with
  | none => -1
  | some t => if p < 0 then -1 else match (ft_lT t.1 t.2)[p.toNatClampNeg]? with
    | none => -1
    | some l => nI l.2.length
/-- the numbers of a tree's nodes -/
def sp_ns (t : ft_T) : List Nat := (ft_lT t.1 t.2).flatMap (fun l => l.2)
def sp_shared (q : ft_Q) (v u : Int32) : Int32 :=
  match sp_at q v, sp_at q u with
  | some t, some t2 => nI ((List.range (q.2.1.1 + 1)).filter (fun d => decide (d ∈ sp_ns t) && decide (d ∈ sp_ns t2))).length
  | _, _ => -1
def sp_made (q : ft_Q) : Int32 := nI q.2.1.1
/-- what holds of the state between calls -/
def sp_ok (q : ft_Q) : Prop := 1 ≤ q.1.length ∧ q.1.length ≤ 120 ∧ (∀ t ∈ q.1, ft_okT q.2.2.length q.2.1.1 q.2.1.2 0 t.1 t.2 ∧ ft_zT t.1 t.2 ≤ 40) ∧ q.2.2.length + 1 ≤ q.1.length ∧ q.2.1.1 ≤ 35 * (q.1.length - 1)
