/-! the words of the tables, and that every row is what the machine reads there -/
theorem ev_iw (ws : List Cond) (ps : List Nat) (hl : ws.length ≤ ps.length) (h : (ws.zip ps).all (fun q => ev_in q.2 q.1) = true) : ∀ w ∈ ws, w ∈ ev_tb := by
  intro w hw
  obtain ⟨i, hi⟩ := List.getElem?_of_mem hw
  have hlt : i < ws.length := (List.getElem?_eq_some_iff.mp hi).1
  obtain ⟨p, hp⟩ : ∃ p, ps[i]? = some p := ⟨ps[i]'(Nat.lt_of_lt_of_le hlt hl), List.getElem?_eq_getElem _⟩
  have hz : (ws.zip ps)[i]? = some (w, p) := by rw [List.getElem?_zip_eq_some]; exact ⟨hi, hp⟩
  exact ev_in_ok (List.all_eq_true.mp h _ (List.mem_of_getElem? hz))
def ev_fok (own : String) (idx a b p : Nat) : Bool := match vwCl[a]?, ev_tys[a]? with
  | some q, some _ => decide (b < q.2.2) && ev_in p (.fieldLink own idx (q.2.1 b).1 (q.2.1 b).2.1 (q.2.1 b).2.2.1)
  | _, _ => false
def ev_mok (own : String) (idx a p : Nat) : Bool := match ev_nm a with
  | some y => ev_in p (.methodLink own idx y)
  | none => false
def ev_eok1 (own : String) (e : ev_E) : Bool := match e with
  | (pc, i, a, b, p, v) => match i with
    | .getfield idx => ev_fok own idx a b p
    | .putfield idx => ev_fok own idx a b p
    | .invokevirtual idx => ev_mok own idx a p
    | .invokestatic idx => match b with
      | 0 => ev_mok own idx a p
      | _ => ev_in p (.methodLink own idx arraycopyName)
    | .invokespecial idx => match b with
      | 0 => ev_in p (.methodLink own idx objectInit)
      | 1 => ev_mok own idx a p
      | _ => match ev_nm a with
        | some y => decide (Cond.methodLinkNest own idx y "NameHall" ∈ ev_nest)
        | none => false
    | .new idx => match vwCl[a]?, v with
      | some q, .retAddr z => ev_in p (.classLink own idx q.1) && (ev_in b (.instantiable q.1 q.2.2) && ev_in z (.initialized q.1))
      | _, _ => false
    | .multianewarray idx _ => ev_in p (.classLink own idx "[[I")
    | .ldc_w idx => match v with
      | .int x => ev_in p (.constant own idx x)
      | _ => false
    | .ldc2_w idx => match v with
      | .long x => ev_in p (.constantLong own idx x)
      | _ => false
    | .goto off => decide ((pc : Int) + off = (a : Int))
    | .ifCond _ off => decide ((pc : Int) + off = (a : Int))
    | .if_icmp _ off => decide ((pc : Int) + off = (a : Int))
    | _ => true
def ev_dok (cc : ByteArray) (e : ev_E) : Bool := match e with
  | (pc, i, _, _, _, _) => match i with
    | .tableswitch _ _ _ _ => match decode cc pc with
      | .ok (j, _) => decide (j = i)
      | .error _ => false
    | _ => decide (decode cc pc = .ok (i, ev_len i))
def ev_eok (own : String) (cc : ByteArray) (e : ev_E) : Bool := ev_dok cc e && ev_eok1 own e
def ev_rtok (rt : Nat) (ret : Option FieldType) : Bool := match rt with
  | 0 => decide (ret = none)
  | 1 => decide (ret = some .int)
  | 2 => decide (ret = some .boolean)
  | 3 => decide (ret = some .char)
  | 4 => decide (ret = some .long)
  | _ => false
/-- a method's own words -/
def ev_rwok (r : ev_R) : Bool := match r with
  | ((rt, ini, mx, na, rc, fr, lo, mc, ms, t), y, cc, ret, p1, p2, p3, p4) =>
    ev_in p1 (.code y cc mx ret) && (ev_in p4 (.initialized y.cls) && (plainFor y && (decide (y.cls ≠ "java/lang/invoke/MethodHandle") && (decide (y.cls ≠ "java/lang/invoke/VarHandle") &&
    (decide ((parseMethodDescriptor y.desc).map (fun d => d.parameters.length) = some na) && (ev_rtok rt ret &&
    (match rc with
      | 0 => ev_in p2 (.static y) && Nat.beq ini 0
      | k + 1 => ev_in p2 (.instanceMethod y) && ((match ini with
        | 0 => ev_in p3 (.selects y.cls y y)
        | j + 1 => Nat.beq j k && (decide (y.name = "<init>") && Nat.beq rt 0)) && (match vwCl[k]? with
          | some q => decide (q.1 = y.cls)
          | none => false)))))))))
def ev_tok (own : String) (cc : ByteArray) (t : ev_T) : Bool := t.all (fun r => r.all (fun e => ev_eok own cc e))
def ev_rowok (r : ev_R) : Bool := ev_rwok r && ev_tok r.2.1.cls r.2.2.1 r.1.2.2.2.2.2.2.2.2.2
