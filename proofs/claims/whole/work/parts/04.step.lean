/-! what an instruction row wants of the tables, and the step of the small machine over it -/
def z_len (I : Instr) (k : Nat) : Nat := match I with
  | .iload _ | .istore _ | .aload _ | .astore _ | .lload _ | .lstore _ | .bipush _ | .ldc _ | .newarray _ => 2
  | .sipush _ | .iinc _ _ | .goto _ | .ifCond _ _ | .if_icmp _ _ | .ifnull _ | .ifnonnull _ | .getfield _ | .putfield _ | .getstatic _
  | .invokevirtual _ | .invokestatic _ | .invokespecial _ | .new _ | .anewarray _ | .checkcast _ | .ldc_w _ | .ldc2_w _ => 3
  | .multianewarray _ _ => 4
  | .tableswitch _ _ _ _ => k
  | _ => 1
/-- the fixed statics: where declared, name, descriptor -/
def z_sc (x : Nat) : String := cond (Nat.beq x 0) "java/lang/String" (cond (Nat.beq x 7) "jdk/internal/util/Preconditions" "FolioStair")
def z_sn (x : Nat) : String := cond (Nat.beq x 0) "COMPACT_STRINGS" (cond (Nat.beq x 2) "BOOK_LOWEST" (cond (Nat.beq x 3) "BOOK_HIGHEST" (cond (Nat.beq x 4) "READER_HIGHEST" (cond (Nat.beq x 5) "TERM_HIGHEST" (cond (Nat.beq x 6) "IN_PLACE" "SIOOBE_FORMATTER")))))
def z_sd (x : Nat) : String := cond (Nat.beq x 0) "Z" (cond (Nat.beq x 7) "Ljava/util/function/BiFunction;" "[I")
def z_own (i : Nat) : String := (z_my i).cls
def z_fl (i idx c k : Nat) : Cond := .fieldLink (z_own i) idx (z_cn c) (z_T c k).2.1 (z_T c k).2.2.1
def z_lk (i idx y : Nat) (t : MethodName) : Cond := cond (Nat.beq y 0) (.methodLink (z_own i) idx t) (.methodLinkNest (z_own i) idx t "FolioStair")
def z_clone : MethodName := ⟨"[I", "clone", "()Ljava/lang/Object;"⟩
def z_oclone : MethodName := ⟨"java/lang/Object", "clone", "()Ljava/lang/Object;"⟩
def z_acls (x : Nat) : String := cond (Nat.beq x 106) "FolioStair$Law" "FolioStair$Told"
def z_need (i : Nat) (I : Instr) (x y : Nat) : List Cond := match I with
  | .getfield idx => [z_fl i idx x y]
  | .putfield idx => [z_fl i idx x y]
  | .getstatic idx => cond (Nat.beq y 0) [.fieldLink (z_own i) idx (z_sc x) (z_sn x) (z_sd x)] [.fieldLinkNest (z_own i) idx (z_sc x) (z_sn x) (z_sd x) "FolioStair"]
  | .invokevirtual idx => cond (Nat.beq x 1002) [.methodLink (z_own i) idx z_clone, .sameMethod "[I" "java/lang/Object" "clone" "()Ljava/lang/Object;", .native z_oclone, .instanceMethod z_oclone, .selects "[I" z_clone z_oclone, .castable "[I" "java/lang/Cloneable"]
      [z_lk i idx y (z_my x), .instanceMethod (z_my x), .selects (z_my x).cls (z_my x) (z_my x)]
  | .invokestatic idx => cond (Nat.beq x 1001) [.methodLink (z_own i) idx arraycopyName, .native arraycopyName, .static arraycopyName, .initialized "java/lang/System"] [z_lk i idx y (z_my x), .static (z_my x)]
  | .invokespecial idx => cond (Nat.beq x 1000) [.methodLink (z_own i) idx Lib.objectInit, .instanceMethod Lib.objectInit, .code Lib.objectInit ⟨#[0xb1]⟩ 1 none] [z_lk i idx y (z_my x), .instanceMethod (z_my x)]
  | .new idx => [.classLink (z_own i) idx (z_cn x), .instantiable (z_cn x) (z_nf x), .initialized (z_cn x)]
  | .anewarray idx => [.classLink (z_own i) idx (z_acls x), .arrayOver (.object (z_acls x))]
  | .multianewarray idx _ => [.classLink (z_own i) idx "[[I", .arrayOver (.array .int)]
  | .checkcast idx => [.classLink (z_own i) idx "[I"]
  | .ldc idx => cond (Nat.beq y 2) [] [.constant (z_own i) idx (cond (Nat.beq y 0) (Int32.ofNat x) (-(Int32.ofNat x)))]
  | .ldc_w idx => [.constant (z_own i) idx (cond (Nat.beq y 0) (Int32.ofNat x) (-(Int32.ofNat x)))]
  | .ldc2_w idx => [.constantLong (z_own i) idx (cond (Nat.beq y 0) (Int64.ofNat x) (-(Int64.ofNat x)))]
  | _ => []
def z_nw : Cond → Bool
  | .methodLinkNest .. => true
  | .fieldLinkNest .. => true
  | .castable .. => true
  | .arrayOver .. => true
  | _ => false
/-- the words that are carried: those that stay, and those of nest mates -/
def z_ok (w : Cond) : Bool := goodWord w || z_nw w
def z_chk (i pc : Nat) : Bool := match z_co i pc with
  | (.athrow, _, _, _, _) => true
  | (I, k, x, y, ps) => decide (decode (z_by i) pc = .ok (I, z_len I k)) && decide (z_need i I x y = ps.map (fun q => lw_tbl.getD q .tt)) && ps.all (fun q => Nat.blt q 1796 && z_ok (lw_tbl.getD q .tt))
def z_chkM (i : Nat) : Bool := (List.range (z_cl i)).all (fun pc => z_chk i pc)
