/- Part 03: the classes' tables, printed by wip/whole/tools/gen_tabs.py -/
def xTN : u_T := fun k => match k with
  | 0 => ("ChannelNet", "coins", "[I", true)
  | 1 => ("ChannelNet", "base", "[I", true)
  | 2 => ("ChannelNet", "parts", "[I", true)
  | 3 => ("ChannelNet", "delta", "[I", true)
  | 4 => ("ChannelNet", "watching", "[Z", true)
  | 5 => ("ChannelNet", "secrets", "LChannelNet$Secrets;", true)
  | 6 => ("ChannelNet", "channels", "Ljava/util/ArrayList;", true)
  | 7 => ("ChannelNet", "payments", "Ljava/util/ArrayList;", true)
  | 8 => ("ChannelNet", "latestRoute", "LChannelNet$Route;", true)
  | 9 => ("ChannelNet", "trail", "LChannelNet$Route;", true)
  | 10 => ("ChannelNet", "height", "I", false)
  | _ => ("", "", "", false)
def xTS : u_T := fun k => match k with
  | 0 => ("ChannelNet$Secrets", "locks", "[J", true)
  | 1 => ("ChannelNet$Secrets", "knowers", "[I", true)
  | 2 => ("ChannelNet$Secrets", "count", "I", false)
  | _ => ("", "", "", false)
def xTA : u_T := fun k => match k with
  | 0 => ("java/util/ArrayList", "elementData", "[Ljava/lang/Object;", false)
  | 1 => ("java/util/ArrayList", "size", "I", false)
  | 2 => ("java/util/AbstractList", "modCount", "I", false)
  | _ => ("", "", "", false)
def xTR : u_T := fun k => match k with
  | 0 => ("ChannelNet$Route", "channels", "[I", true)
  | 1 => ("ChannelNet$Route", "payers", "[I", true)
  | 2 => ("ChannelNet$Route", "amounts", "[I", true)
  | 3 => ("ChannelNet$Route", "length", "I", false)
  | _ => ("", "", "", false)
def xTC : u_T := fun k => match k with
  | 0 => ("ChannelNet$Channel", "first", "I", true)
  | 1 => ("ChannelNet$Channel", "second", "I", true)
  | 2 => ("ChannelNet$Channel", "firstBalances", "[I", true)
  | 3 => ("ChannelNet$Channel", "secondBalances", "[I", true)
  | 4 => ("ChannelNet$Channel", "promises", "Ljava/util/ArrayList;", true)
  | 5 => ("ChannelNet$Channel", "latest", "I", false)
  | 6 => ("ChannelNet$Channel", "status", "I", false)
  | 7 => ("ChannelNet$Channel", "held", "I", false)
  | 8 => ("ChannelNet$Channel", "publisher", "I", false)
  | 9 => ("ChannelNet$Channel", "published", "I", false)
  | 10 => ("ChannelNet$Channel", "publishedAt", "I", false)
  | 11 => ("ChannelNet$Channel", "settled", "Z", false)
  | _ => ("", "", "", false)
def xTP : u_T := fun k => match k with
  | 0 => ("ChannelNet$Promise", "payer", "I", true)
  | 1 => ("ChannelNet$Promise", "payee", "I", true)
  | 2 => ("ChannelNet$Promise", "amount", "I", true)
  | 3 => ("ChannelNet$Promise", "lock", "J", true)
  | 4 => ("ChannelNet$Promise", "deadline", "I", true)
  | 5 => ("ChannelNet$Promise", "madeIn", "I", true)
  | 6 => ("ChannelNet$Promise", "goneIn", "I", false)
  | 7 => ("ChannelNet$Promise", "paidOut", "Z", false)
  | _ => ("", "", "", false)
def xTY : u_T := fun k => match k with
  | 0 => ("ChannelNet$Payment", "receiver", "I", true)
  | 1 => ("ChannelNet$Payment", "lock", "J", true)
  | 2 => ("ChannelNet$Payment", "length", "I", true)
  | 3 => ("ChannelNet$Payment", "channels", "[I", true)
  | 4 => ("ChannelNet$Payment", "payers", "[I", true)
  | 5 => ("ChannelNet$Payment", "amounts", "[I", true)
  | 6 => ("ChannelNet$Payment", "deadlines", "[I", true)
  | 7 => ("ChannelNet$Payment", "promises", "[I", true)
  | 8 => ("ChannelNet$Payment", "status", "I", false)
  | 9 => ("ChannelNet$Payment", "outcome", "I", false)
  | 10 => ("ChannelNet$Payment", "made", "I", false)
  | 11 => ("ChannelNet$Payment", "left", "I", false)
  | 12 => ("ChannelNet$Payment", "ended", "I", false)
  | _ => ("", "", "", false)
def xTM : u_T := fun k => match k with
  | 0 => ("ChannelNetModel", "thrown", "I", false)
  | 1 => ("ChannelNetModel", "coins", "[I", true)
  | 2 => ("ChannelNetModel", "bases", "[I", true)
  | 3 => ("ChannelNetModel", "parts", "[I", true)
  | 4 => ("ChannelNetModel", "deltas", "[I", true)
  | 5 => ("ChannelNetModel", "watches", "[Z", true)
  | 6 => ("ChannelNetModel", "height", "I", false)
  | 7 => ("ChannelNetModel", "channels", "I", false)
  | 8 => ("ChannelNetModel", "firsts", "[I", true)
  | 9 => ("ChannelNetModel", "seconds", "[I", true)
  | 10 => ("ChannelNetModel", "status", "[I", true)
  | 11 => ("ChannelNetModel", "latest", "[I", true)
  | 12 => ("ChannelNetModel", "balances", "[I", true)
  | 13 => ("ChannelNetModel", "open", "[J", true)
  | 14 => ("ChannelNetModel", "held", "[I", true)
  | 15 => ("ChannelNetModel", "promises", "[I", true)
  | 16 => ("ChannelNetModel", "payers", "[I", true)
  | 17 => ("ChannelNetModel", "amounts", "[I", true)
  | 18 => ("ChannelNetModel", "locks", "[J", true)
  | 19 => ("ChannelNetModel", "deadlines", "[I", true)
  | 20 => ("ChannelNetModel", "published", "[I", true)
  | 21 => ("ChannelNetModel", "publishers", "[I", true)
  | 22 => ("ChannelNetModel", "publishedAt", "[I", true)
  | 23 => ("ChannelNetModel", "left", "[J", true)
  | 24 => ("ChannelNetModel", "settled", "[Z", true)
  | 25 => ("ChannelNetModel", "known", "I", false)
  | 26 => ("ChannelNetModel", "knownLocks", "[J", true)
  | 27 => ("ChannelNetModel", "knowers", "[I", true)
  | 28 => ("ChannelNetModel", "hops", "I", false)
  | 29 => ("ChannelNetModel", "route", "[I", true)
  | 30 => ("ChannelNetModel", "routeAmount", "I", false)
  | 31 => ("ChannelNetModel", "way", "[I", true)
  | 32 => ("ChannelNetModel", "wayAmounts", "[J", true)
  | 33 => ("ChannelNetModel", "wayNodes", "[I", true)
  | 34 => ("ChannelNetModel", "payments", "I", false)
  | 35 => ("ChannelNetModel", "kind", "[I", true)
  | 36 => ("ChannelNetModel", "turned", "[I", true)
  | 37 => ("ChannelNetModel", "made", "[I", true)
  | 38 => ("ChannelNetModel", "back", "[I", true)
  | 39 => ("ChannelNetModel", "ended", "[I", true)
  | 40 => ("ChannelNetModel", "lengths", "[I", true)
  | 41 => ("ChannelNetModel", "payTo", "[I", true)
  | 42 => ("ChannelNetModel", "payLocks", "[J", true)
  | 43 => ("ChannelNetModel", "payChannels", "[I", true)
  | 44 => ("ChannelNetModel", "payAmounts", "[I", true)
  | 45 => ("ChannelNetModel", "payDeadlines", "[I", true)
  | 46 => ("ChannelNetModel", "payPromises", "[I", true)
  | 47 => ("ChannelNetModel", "payPayers", "[I", true)
  | _ => ("", "", "", false)
def xTE8 : u_T := fun k => match k with
  | _ => ("", "", "", false)
def xTE9 : u_T := fun k => match k with
  | _ => ("", "", "", false)
def xTE10 : u_T := fun k => match k with
  | _ => ("", "", "", false)
def xcl : List vw_C := [("ChannelNet", xTN, 11), ("ChannelNet$Secrets", xTS, 3), ("java/util/ArrayList", xTA, 3), ("ChannelNet$Route", xTR, 4), ("ChannelNet$Channel", xTC, 12), ("ChannelNet$Promise", xTP, 8), ("ChannelNet$Payment", xTY, 13), ("ChannelNetModel", xTM, 48), ("java/lang/IndexOutOfBoundsException", xTE8, 0), ("java/lang/IllegalArgumentException", xTE9, 0), ("java/lang/IllegalStateException", xTE10, 0)]
def xtys : List (List FieldType) := [[.array (.int), .array (.int), .array (.int), .array (.int), .array (.boolean), .object "ChannelNet$Secrets", .object "java/util/ArrayList", .object "java/util/ArrayList", .object "ChannelNet$Route", .object "ChannelNet$Route", .int],
  [.array (.long), .array (.int), .int],
  [.array (.object "java/lang/Object"), .int, .int],
  [.array (.int), .array (.int), .array (.int), .int],
  [.int, .int, .array (.int), .array (.int), .object "java/util/ArrayList", .int, .int, .int, .int, .int, .int, .boolean],
  [.int, .int, .int, .long, .int, .int, .int, .boolean],
  [.int, .long, .int, .array (.int), .array (.int), .array (.int), .array (.int), .array (.int), .int, .int, .int, .int, .int],
  [.int, .array (.int), .array (.int), .array (.int), .array (.int), .array (.boolean), .int, .int, .array (.int), .array (.int), .array (.int), .array (.int), .array (.int), .array (.long), .array (.int), .array (.int), .array (.int), .array (.int), .array (.long), .array (.int), .array (.int), .array (.int), .array (.int), .array (.long), .array (.boolean), .int, .array (.long), .array (.int), .int, .array (.int), .int, .array (.int), .array (.long), .array (.int), .int, .array (.int), .array (.int), .array (.int), .array (.int), .array (.int), .array (.int), .array (.int), .array (.long), .array (.int), .array (.int), .array (.int), .array (.int), .array (.int)],
  [],
  [],
  []]
def xwis : List (List Nat) := [[113, 115, 117, 119, 121, 123, 125, 127, 129, 131, 133],
  [40, 42, 44],
  [69, 71, 73],
  [92, 94, 96, 98],
  [311, 313, 315, 317, 319, 321, 323, 325, 327, 329, 331, 333],
  [512, 514, 516, 518, 520, 522, 524, 526],
  [668, 670, 672, 674, 676, 678, 680, 682, 684, 686, 688, 690, 692],
  [909, 911, 913, 915, 917, 919, 921, 923, 925, 927, 929, 931, 933, 935, 937, 939, 941, 943, 945, 947, 949, 951, 953, 955, 957, 959, 961, 963, 965, 967, 969, 971, 973, 975, 977, 979, 981, 983, 985, 987, 989, 991, 993, 995, 997, 999, 1001, 1003],
  [],
  [],
  []]
def xsf : Nat := 68
