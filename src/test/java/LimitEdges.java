/** The numbers of sections 3 and 4 of the document, each at the last that is allowed and the first that is not: WORK, TOTAL, atoms, SEED, output. */
public final class LimitEdges extends Checks {
    // ------------------------------------------------ WORK of 60000

    /** Rows of 200, of 298 and of 197 members: an exp that goes over all has a WORK of 60000; n is false. */
    private static final String ROWS = "var n, a, b, c, d, v; n := false; a := [0] * 200; b := [0] * 298; c := [0] * 197; d := [0] * 198; ";
    private static final String MOST = "(exists x in a, y in b | n) or (exists x in c | n)";
    private static final String MORE = "(exists x in a, y in b | n) or (exists x in d | n)";

    private static void workOfExps() {
        ended(ROWS);
        due(12, "WORK of 60000", worked(MOST) + " " + x.shape(3), "false 60000");
        due(12, "WORK of 60001", worked(MORE) + " " + x.shape(3), "!11 60001");
        due(12, "the one before is shown", shown(), "false");
        due(12, "the run goes on as before", x.state(8) + " " + x.state(9), "1 204");
        exps(12, "(" + MOST + ")", "false", "not (" + MOST + ")", "!11", "if " + MOST + " then 1 else a(1) end", "!11", "if " + MOST + " then 1 else om end", "om", "[" + MOST + "]", "!11",
            "(" + MOST + ") or n", "!11", "exists x in d | " + MOST, "!11", MOST + " or a", "!9", "[for x in a, y in a, z in a : 0]", "!11");
        // 5 comes before 11: what is given has no size.
        exps(12, "if (exists x in a, y in b | n) then 0 else a * 10 end", "!5", "if " + MOST + " then 0 else a + [a, a, a, a, a] end", "!5", "if " + MOST + " then 0 else 1 div 0 end", "!11");
    }

    private static void workOfViews() {
        ended(ROWS);
        feed(MOST);
        x.view();
        feed(MORE);
        x.view();
        feed(MOST);
        x.view();
        due(14, "each view has its own WORK", x.round() + " " + seen(0, 0) + " " + seen(1, 0) + " " + seen(2, 0), "2 false om false");
    }

    private static void workOfStatements() {
        errs(7, ROWS + "v := " + MOST + "; print(v); @v := " + MORE + ";", "false/", 11);
        errs(7, ROWS + "assert not n; if " + MOST + " then print(1); else print(2); end; @if " + MORE + " then print(1); else print(2); end;", "2/", 11);
        // An if has its WORK together with those of its elseifs, a while that of each test alone.
        errs(7, ROWS + "@if " + MOST + " then stop; elseif not n then stop; end;", "", 11);
        prints(7, ROWS + "v := 0; while v < 3 and not exists x in a, y in b | n do v + := 1; end; print(v);", "3/");
        // A for's turns, which have no statements: 200 + 200 * 298 + 200; then 297 and more.
        prints(7, ROWS + "for x in a, y in b do end; print(1); for x in a, y in b | n do end; print(2);", "1/2/");
        errs(7, ROWS + "for x in a, y in b do end; @for x in a, y in b, z in d do end;", "", 11);
        // What a for takes for its next turn is the WORK of the statement before it.
        started(ROWS + "for x in a + b | x = 1 do v := 1; end;");
        x.step(7);
        due(9, "WORK of a for", x.state(9) + " " + x.state(8), (499 + 498 * (1 + 2 + 1)) + " 1");
        started("var v; for x in [1, 2, 1] | x = 1 do v := x; end;");
        x.step(1);
        due(9, "WORK of a for's first turn", x.state(9), 2 * 3 + 7 + 1 + 2 + 1);
        x.step(1);
        due(9, "WORK of a turn", x.state(9), 2 * (1 + 2 + 1));
        x.step(1);
        due(9, "WORK of the last turn", x.state(9) + " " + x.state(8), "0 1");
    }

    private static void workOfEach() {
        ended("var t, o, s, u, f, e, m, z; func g(x, y) = x; func h() = om; t := true; s := \"abcde\"; u := [[7, 8], 9, om, 0]; f := {[1, 2], [1, 3], [2, 4]}; e := {1, 2}; m := 2 ** 100; z := 0;");
        // Sizes: t, o 1, s 3, u 1 + 5 + 2 + 1 + 1 = 10, f 16, e 5, m 5, z 1.
        String[] nothing = {"t", "o", "(t)", "((u))", "om", "true", "false", "if t then u else s end"};
        for (String exp : nothing) {
            workCounted(exp, 0);
        }
        String[] texts = {"0", "1", "4294967295", "4294967296", "000", "\"\"", "\"a\"", "\"abcd\"", "\"abcde\"", "{}", "[]", "[t]", "{t, t}", "[u, s]", "[o, o]",
            "not t", "t and t", "t or t", "t = t", "u /= u", "s < s", "s <= s", "s > s", "s >= s", "z in e", "z notin e", "e subset e",
            "m + m", "s + s", "u + u", "f + e", "m - m", "f - e", "m * m", "e * f", "m div m", "m mod m", "m ** z", "- m", "# u", "# s",
            "abs(m)", "arb(f)", "domain(f)", "range(f)", "pow(e)", "type(t)", "str(e)", "rev(u)", "rev(s)", "g(u, s)", "h()"};
        int[] counts = {1, 2, 2, 3, 1, 1, 2, 2, 3, 1, 1, 2, 2, 14, 1,
            1, 1, 1, 1, 1, 1, 1, 1, 1, 1, 1, 1,
            5, 4, 19, 20, 1, 16, 8, 1, 2, 1, 2, 5, 2, 2,
            5, 5, 5, 7, 1 + 1 + 3 + 3 + 5, 3, 3, 10, 3, 10, 1};
        for (int i = 0; i < texts.length; i++) {
            workCounted(texts[i], counts[i]);
        }
        String[] parts = {"u(1)", "u(3)", "u(9)", "u(1 .. 1)", "u(3 .. 2)", "f(2)", "f(1)", "f{1}", "f{9}", "s(5)", "s(1 .. 4)", "char(65)", "code(s(1))", "random(1)", "random(e)", "random([])", "{1 .. 3}", "[1, 3 .. 5]", "{5 .. 1}"};
        int[] partCounts = {2 + 5, 2 + 1, 2 + 1, 4 + 6, 4 + 1, 2 + 2, 2 + 1, 2 + 5, 2 + 1, 2 + 2, 4 + 2, 2 + 2, 2 + 2 + 2, 2 + 2, 2, 1 + 1, 4 + 7, 6 + 7, 4 + 1};
        for (int i = 0; i < parts.length; i++) {
            workCounted(parts[i], partCounts[i]);
        }
    }

    private static void workOfRowsAndIters() {
        ended("var t, u, e, w, n, b; t := true; u := [3, 4, 5]; e := {1, 2}; w := \"ab\"; n := false; b := [\"abcd\", \"efgh\"];");
        // + / and * / : each sum, and the answer besides.
        workCounted("+ / u", 2 + 2 + 2);
        workCounted("* / u", 2 + 2 + 2);
        workCounted("+ / b", 3 + 3);
        workCounted("max / u", 2);
        workCounted("min / b", 2);
        workCounted("+ / e(1 .. 1)", 4);
        workCounted("+ / [t]", 2 + 1);
        workCounted("+ / []", 1 + 1);
        workCounted("max / {}", 1 + 1);
        workCounted("[for x in u : x]", 3 + 7);
        workCounted("{for x in e | n : x}", 2 + 1);
        workCounted("{for x in e, y in w : t}", 2 + 4 + 2);
        workCounted("{for x in e, y in [x] : y}", 2 + (3 + 1) * 2 + 5);
        workCounted("[for [x, y] in [u(1 .. 2)] : x]", 4 + 5 + 6 + 1 + 3);
        workCounted("exists x in u | t", 1 + 1);
        workCounted("exists x in u | n", 3 + 1);
        workCounted("forall x in u | t", 3 + 1);
        workCounted("forall x in u | n", 1 + 1);
        workCounted("exists x in {} | t", 1 + 1);
        workCounted("[u, exists x in u | t]", 1 + 1 + 9);
        workCounted("[u, forall x in e | n, u]", 1 + 1 + 16);
        workCounted("t and n and t", 2);
        workCounted("n and t and t", 2);
        workCounted("t or n", 1);
        workCounted("not not t", 2);
        workCounted("if t and t then 1 else 2 end", 1 + 2);
        workCounted("if n then 1 elseif not n then e else 2 end", 1);
        // An error leaves what was counted until then.
        workCounted("1 div 0", 3);
        workCounted("[1, 2] + 5", 2 + 2 + 5 + 2);
        workCounted("{om, 1}", 2);
        workCounted("om and t", 0);
        workCounted("1 +", 0);
    }

    private static int workOf(String before, String statement) {
        started(before + statement);
        x.step(20000);
        due(9, "the statement " + statement + " has no error", x.state(2), 0);
        return x.state(9);
    }

    private static void workOfWriting() {
        String head = "var a, t, f, w, s, z, q; z := 0; t := [[0, 0], 0]; f := {[0, 0]}; w := \"abcde\"; s := {0, true}; q := [s, w, f]; ";
        // Sizes: t 1 + 3 + 1 = 5, f 1 + 3 = 4, w 3, s 3, q 1 + 3 + 3 + 4 = 11.
        String[] texts = {"a := t;", "[a, -] := t;", "a := ok;", "t(z + 1) := z;", "t(z + 2) := t;", "t(z + 1)(z + 1) := t;", "f(z) := t;", "f{z} := s;", "w(z + 1) := \"x\";", "w(z + 1 .. z) := w;",
            "t(z + 5) := z;", "t(z + 9) := om;", "[t(z + 1), a] := t;"};
        int[] counts = {0, 0, 0, 4 + 3, 4 + 9, 8 + 3 + 7 + 9, 8, 7, 4 + 2 + 3, 4 + 4, 4 + 8, 4 + 5, 4 + 5};
        for (int i = 0; i < texts.length; i++) {
            due(9, "WORK of " + texts[i], workOf(head, texts[i]), counts[i]);
        }
        String[] others = {"a from s;", "a from q(z + 1);", "a fromb w;", "a frome t;", "z + := z;", "t(z + 2) + := z;", "t(z + 1)(z + 1) + := z;"};
        int[] otherCounts = {
            // what is left
            2,
            // the place 4; q(1) is read 3; {0} or {true} is left 2; q has 10
            4 + 3 + 2 + 10,
            2,
            // [[0, 0]] is left
            4,
            // the sum
            1,
            // the place 4; t(2) is read 1; the sum 1; t 5
            4 + 1 + 1 + 5,
            // the places 8; t(1) 3 and t(1)(1) 1 are read; the sum 1; t(1) is read again 3; t(1) 3 and t 5 are written
            8 + 3 + 1 + 1 + 3 + 3 + 5};
        for (int i = 0; i < others.length; i++) {
            due(9, "WORK of " + others[i], workOf(head, others[i]), otherCounts[i]);
        }
        due(9, "WORK of from, where there is none", workOf("var a, s; s := {}; ", "a from s;"), 0);
        due(9, "WORK of fromb, where there is none", workOf("var a, s; s := [[]]; ", "a fromb s(1);"), 2 + 1);
        due(9, "WORK of from into a part", workOf("var a, s; s := {[]}; a := [om, 0]; ", "a(1) from s;"), 2 + 1 + 3);
    }

    private static void workOfCalls() {
        String head = "var a, t; proc p(rd x, wr y, rw z); return; end; proc q(); end; proc r(rd x); return x; end; t := [0, 0]; ";
        due(9, "WORK of return, which writes", workOf(head, "p(1, a, t);"), 0);
        due(9, "WORK of an empty proc's call", workOf(head, "q();"), 0);
        due(9, "WORK of a part that is written behind a call", workOf(head, "p(1, a, t(1));"), 2 + 3);
        due(9, "WORK of the target before :=", workOf(head, "t(2) := r(0);"), 2 + 3);
        started(head + "p(1, a, t(1));");
        x.step(2);
        due(9, "WORK of the exps of a call", x.state(9), 2 + 2 + 1);
    }

    // ------------------------------------------------ TOTAL of 40000

    /** t and v0, v1 and so on have a size of 1000 each; so many in all. */
    private static String thousands(int n, String more) {
        return "var t, " + names("v", n - 1) + more + "; ";
    }

    private static String filled(int n) {
        StringBuilder b = new StringBuilder("t := [0] * 999; ");
        for (int i = 0; i < n - 1; i++) {
            b.append("v").append(i).append(" := t; ");
        }
        return b.toString();
    }

    private static void totalOfVariables() {
        ended(thousands(40, "") + filled(40));
        due(9, "TOTAL of 40000", x.state(6) + " " + x.state(2), "40000 0");
        ended(thousands(40, ", w") + filled(40));
        due(9, "TOTAL would be 40001", x.state(2) + " " + x.state(6), "6 39002");
        String head = thousands(39, ", w, z") + filled(39);
        prints(7, head + "w := [0] * 998; z := 0; print(1);", "1/");
        due(9, "TOTAL", x.state(6), 40000);
        errs(7, head + "w := [0] * 998; z := 0; @z := 1;", "", 6);
        errs(7, head + "@w := t;", "", 6);
        prints(7, head + "w := t(1 .. 998); w := t(1 .. 998); w := 5; w := t(1 .. 998); z := om; z := false; print(1);", "1/");
        errs(7, head + "w := t(1 .. 998); z := {}; @z := {0};", "", 6);
        errs(7, head + "w := t(1 .. 998); w(1) := true; @w(1) := 1;", "", 6);
        errs(7, head + "w := t(1 .. 998); @w(999) := 0;", "", 6);
        errs(7, head + "w := t(1 .. 998); z := 0; @[z, w] := [1, om];", "", 6);
        prints(7, head + "w := t(1 .. 998); z := 0; [w, z] := [om, 1]; print(z);", "1/");
        errs(7, head + "w := t(1 .. 995) + [{0, true}]; z := 0; @w := [[1]] + t(1 .. 996);", "", 6);
        // from: b is written first, so that there is room for a.
        prints(7, head + "w := t(1 .. 996) + [1]; z frome w; print(z);", "1/");
        due(9, "TOTAL", x.state(6), 39000 + 997 + 2);
        errs(7, head + "w := t(1 .. 998); @z + := 1;", "", 1);
        errs(7, head + "w := t(1 .. 998); z := 0; z + := 0; @z + := 1;", "", 6);
    }

    /** Names of exps' iters and funcs' params do not count. */
    private static void totalOfNamesThatPass() {
        String funcs = "func g(a, b) = # a + # b; func h(n, a) = if n = 0 then # a else h(n - 1, a) + # (a + [0])(1 .. 1) end; ";
        String full = thousands(39, ", w") + funcs + filled(39) + "w := t; ";
        prints(7, full + "print(g(t, t), exists x in [t(1 .. 400), t(1 .. 400)], y in [x, x] | # y = 0, # {for x in {t(1 .. 900)}, [y, z] in {[t(1 .. 300), t(1 .. 300)]} : # x + # y});", "1998 false 1/");
        due(9, "TOTAL", x.state(6), 40000);
        prints(7, full + "print(h(5, t(1 .. 900)));", "905/");
    }

    private static void totalOfFors() {
        String head = thousands(39, "") + filled(39);
        prints(7, head + "for x in t(1 .. 998) do end; print(1);", "1/");
        errs(7, head + "@for x in t do end;", "", 6);
        errs(7, head + "@for x in t(1 .. 996) + [1] do end;", "", 6);
        prints(7, head + "for x in t(1 .. 995) + [1] do end; print(1);", "1/");
        errs(7, head + "@for x in t(1 .. 998), y in [] do end;", "", 6);
        prints(7, head + "for x in t(1 .. 996), y in [] do end; print(1);", "1/");
        errs(7, head + "@for x in t(1 .. 997), y in [] do end;", "", 6);
        prints(7, head + "for x in t(1 .. 997) do quit; end; for x in \"abcd\" * 498 do end; print(1);", "1/");
        prints(7, head + "for x in {0 .. 498} do quit; end; print({for x in t : x}, exists x in t | x = 1);", "{0} false/");
        errs(7, head + "@for x in {1 .. 499} do end;", "", 6);
        errs(7, head + "for x in t(1 .. 998) do x := true; @x := 1; end;", "", 6);
        prints(7, head + "for x in t(1 .. 998) do v0 := 0; v0 := t; quit; end; print(1);", "1/");
    }

    private static void totalOfCalls() {
        String procs = "proc p(a); var b; end; proc q(wr a, rw b); for c in {}, d in {} do end; end; proc r(); v0 := v1; end; ";
        String head = thousands(39, "") + procs + filled(39);
        prints(7, head + "p(t(1 .. 998)); print(1);", "1/");
        errs(7, head + "@p(t);", "", 6);
        prints(7, head + "v0 := t(1 .. 5); q(v0(1), v0); print(1);", "1/");
        String less = head.replace("v37 := t; ", "v37 := t(1 .. 996); ");
        prints(7, less + "r(); print(1);", "1/");
        // q: a, c, d have 1 each, b 1000; the set that c goes over comes later.
        errs(7, thousands(38, ", w") + procs + filled(38) + "w := t(1 .. 997); @q(v1, v0(1 .. 999));", "", 6);
        errs(7, thousands(38, ", w") + procs.replace("for c", "@for c") + filled(38) + "w := t(1 .. 996); q(v1, v0(1 .. 999));", "", 6);
        prints(7, thousands(38, ", w") + procs + filled(38) + "w := t(1 .. 995); q(v1, v0(1 .. 999)); print(v1);", "om/");
        started(thousands(2, "") + "proc p(rd a, wr b, rw c); var d; for e in [0] do stop; end; end; " + filled(2) + "p(1, t, v0);");
        x.step(6);
        due(9, "TOTAL in a call", x.state(6) + " " + x.state(4), (2000 + 2 + 1 + 1000 + 1 + 1 + 2) + " 1");
        // Behind a call its variables do not count when its targets are written.
        String last = thousands(39, ", w") + "proc p(wr a); a := t(1 .. 998); end; " + filled(39);
        errs(7, last.replace("a := t(1 .. 998);", "@a := t;") + "p(w);", "", 6);
        prints(7, last + "p(w); print(# w);", "998/");
        String room = thousands(38, ", w") + "proc p(wr a); a := t; end; " + filled(38);
        prints(7, room + "p(w); print(# w);", "999/");
        due(9, "TOTAL behind it", x.state(6), 39000);
        // Names of fors go with the call that they are of.
        ended("var a, b; proc p(n); for [i, j] in [[[0, 0], [0]], 5], k in [[0, 0, 0]] do a := k; return i; end; end; proc q(n); for [i, j, k] in {[0, [0], [0, 0]]} do if n > 0 then q(n - 1); end; if n = 1 then return; end; end; end; b := p(0); q(3);");
        due(9, "TOTAL behind calls that end within fors", x.state(6) + " " + x.state(4) + " " + x.state(8), (4 + 3) + " 0 1");
    }

    private static void totalOfPoints() {
        prints(7, thousands(20, "") + filled(20) + "if ok then print(1); end;", "1/");
        due(9, "TOTAL with its point", x.state(6) + " " + x.state(5), "40000 1");
        errs(7, thousands(20, ", w") + filled(20) + "@if ok then print(1); end;", "", 6);
        errs(7, thousands(20, "") + filled(20) + "if ok then t := 0; v0 := t; v1 := {for i in v2 : i}; t := v2; @v0 := [1] + v2(1 .. 998); end;", "", 5);
        errs(7, thousands(19, ", w") + filled(19) + "if ok then w := t; w := t(1 .. 997); v0 := t(1 .. 900); @if ok then print(1); end; end;", "", 6);
        // 10 thousands: a point each of 10000; three of them and what is now are 40000.
        String ten = thousands(10, "") + filled(10);
        prints(7, ten + "if ok then if ok then if ok then print(1); end; end; end;", "1/");
        due(9, "TOTAL with three points", x.state(6) + " " + x.state(5), "40000 3");
        errs(7, ten + "if ok then if ok then if ok then @if ok then print(1); end; end; end; end;", "", 6);
        prints(7, ten + "if ok then if ok then if ok then succeed; if ok then print(1); end; end; end; end;", "1/");
        prints(7, ten + "if ok then if ok then if ok then fail; else if ok then print(1); end; end; end; end;", "1/");
        prints(7, ten + "if ok then t := 0; t := v0; fail; else print(# t); end;", "999/");
        due(9, "TOTAL behind fail", x.state(6) + " " + x.state(5), "10000 0");
        started("var a, b; b := [0]; a := ok; b := {0, true, false}; a := 5;");
        x.step(2);
        due(9, "a point has what was before its ok", x.state(6), 1 + 2 + 1 + 2);
        x.step(2);
        due(9, "and keeps it", x.state(6), 2 + 4 + 1 + 2);
    }

    /** A point counts with what it was, wherever something is to be assigned, gone over, called or made. */
    private static void totalBesidePoints() {
        // Nineteen thousands and w: 19001 at the point and now; then w has 1000, and 999 are left.
        String head = thousands(19, ", w") + "proc p(a); var b; end; " + filled(19) + "if ok then ";
        prints(7, head + "print(1); end;", "1/");
        due(9, "TOTAL with a point", x.state(6), 38002);
        prints(7, head + "w := [0] * 998; print(1); end;", "1/");
        due(9, "TOTAL", x.state(6), 38002 - 1 + 999);
        String near = head + "w := [0] * 999; ";
        prints(7, near + "v0 := 0; v1 := 0; v2 := 0; print(1); end;", "1/");
        due(9, "TOTAL", x.state(6), 38002 - 1 + 1000 - 3 * 999);
        prints(7, near + "p([0] * 997); print(1); end;", "1/");
        errs(7, near + "@p([0] * 998); print(1); end;", "", 6);
        errs(7, near + "@if ok then print(1); end; end;", "", 6);
        // With a for's name 997 are left, with two 995.
        prints(7, near + "for x in [0] * 996 do quit; end; print(1); end;", "1/");
        errs(7, near + "@for x in [0] * 997 do quit; end; print(1); end;", "", 6);
        errs(7, near + "for x in [1] + [0] * 993 do print(x); @x := 2 ** 32; end; end;", "1/", 6);
        errs(7, near + "@for x in [1] + [0] * 994 do print(x); end; end;", "", 6);
        prints(7, near + "p(t(1 .. 993)); fail; else p(t); for x in t, y in t do quit; end; w := t; print(1); end;", "1/");
        errs(7, near + "@p(t(1 .. 994)); fail; else p(t); for x in t, y in t do quit; end; w := t; print(1); end;", "", 6);
        prints(7, near + "succeed; p(t); for x in t, y in t do quit; end; print(1); end;", "1/");
        // Points of 10000 (10001) and then what is 15000 twice.
        String ten = thousands(15, "");
        prints(7, ten + filled(10) + "t := [0] * 994; if ok then t := [0] * 999; v9 := t; v10 := t; v11 := t; v12 := t; v13 := t; if ok then print(1); end; end;", "1/");
        due(9, "TOTAL of 40000", x.state(6), 40000);
        errs(7, ten + filled(10) + "t := [0] * 995; if ok then t := [0] * 999; v9 := t; v10 := t; v11 := t; v12 := t; v13 := t; @if ok then print(1); end; end;", "", 6);
        String two = thousands(13, ", w") + filled(13) + "if ok then if ok then w := true; ";
        // 13001 for each of the two points, and what is now: 39003; 997 more.
        prints(7, two + "w := [0] * 997; print(1); end; end;", "1/");
        due(9, "TOTAL with two points", x.state(6) + " " + x.state(5), "40000 2");
        errs(7, two + "@w := [0] * 998; end; end;", "", 6);
        errs(7, two + "w := [0] * 997; w := [0] * 995 + [1]; @w := [0] * 996 + [1]; end; end;", "", 6);
    }

    private static void totalAtFirst() {
        String text = "var a, b; func f(x, y) = {for z in x : z}; proc p(c); var d; for e in c do end; end; for [i, j] in {} do b := {for k in b : exists l in b | l = k}; end; ";
        started(text);
        due(9, "all variables are om", x.state(6), 4);
    }

    // ------------------------------------------------ atoms, SEED

    private static void millionAtoms() {
        String text = "var p, q, r, s, a; p := [0] * 199; q := [0] * 100; r := q(1 .. 50); for k in {1 .. 50} do a := exists x in p, y in q | newat = om; end; a := exists x in q, y in r | newat = om; s := newat;";
        started(text);
        due(9, "50 times 19900 and 5000", x.step(55) + " " + x.state(7) + " " + x.state(2), "0 1000000 0");
        due(7, "one more", x.step(1) + " " + x.state(2) + " " + x.state(7), "2 6 1000000");
        due(8, "back again", x.back(1) + " " + x.state(7) + " " + x.state(2), "55 1000000 0");
        due(8, "and before", x.back(1) + " " + x.state(7), "54 995000");
        due(8, "as begun", x.back(54) + " " + x.state(7), "0 0");
        started(text.replace("r := q(1 .. 50);", "r := q(1 .. 50); r(50) := om;") .replace("s := newat;", "for k in p(1 .. 100) do s := newat; end; print(s, [s] * 3); s := newat;"));
        x.step(20000);
        due(7, "the last atom", output() + x.state(2) + " " + x.state(7), "#1000000 [#1000000, #1000000, #1000000]\n6 1000000");
        due(16, "as long as a value is as printed", work("[s] * 999"), 999 * 8 + 998 * 2 + 2);
        due(16, "its last byte", x.shown(9989) + " " + tried(() -> x.shown(9990)), "93 IndexOutOfBoundsException");
        prints(7, "print(newat); if ok then print(newat); fail; end; print(newat, {newat, newat});", "#1/#2/#3 {#4, #5}/");
    }

    private static long next(long seed) {
        return seed * 6364136223846793005L + 1442695040888963407L;
    }

    private static void theSeed() {
        long[] seeds = {0, 1, -1, 2, Long.MAX_VALUE, Long.MIN_VALUE, 1L << 33, 0x123456789abcdefL, -987654321987654321L};
        int[] numbers = {1, 2, 3, 10, 1000, 65536, 134217727, 134217728, 1 << 30, Integer.MAX_VALUE - 1, Integer.MAX_VALUE};
        for (long seed : seeds) {
            StringBuilder text = new StringBuilder("print(");
            StringBuilder want = new StringBuilder();
            long now = seed;
            for (int n : numbers) {
                text.append("random(").append(n).append("), ");
                now = next(now);
                want.append(1 + (now >>> 33) % n).append(' ');
            }
            fresh(text + "0);");
            x.start(seed);
            x.step(1);
            due(6, "drawn with SEED " + seed, output(), want + "0\n");
        }
    }

    private static void drawnMembers() {
        long seed = 77;
        String[] rows = {"{3, 1, 2}", "[7, om, 9, om, 5]", "\"abcdefg\"", "{{}}", "[0]", "\"x\""};
        String[][] members = {{"1", "2", "3"}, {"7", "om", "9", "om", "5"}, {"a", "b", "c", "d", "e", "f", "g"}, {"{}"}, {"0"}, {"x"}};
        StringBuilder text = new StringBuilder("print(");
        StringBuilder want = new StringBuilder();
        for (int turn = 0; turn < 5; turn++) {
            for (int i = 0; i < rows.length; i++) {
                text.append("random(").append(rows[i]).append("), random({}), random([]), random(\"\"), ");
                seed = next(seed);
                want.append(members[i][(int) ((seed >>> 33) % members[i].length)]).append(" om om om ");
            }
        }
        fresh(text + "0);");
        x.start(77);
        x.step(1);
        due(6, "members that are drawn, and the SEED stays where there is none", output(), want + "0\n");
        ended("var a;");
        err(12, 4, "random(0)", "random(-1)", "random(2 ** 31)", "random(2 ** 32)", "random(2 ** 32 + 1)", "random(- (2 ** 31))", "random(10 ** 100)", "random(- (2 ** 32) + 1)");
        err(12, 1, "random(om)", "random(true)");
        exps(12, "random(1)", "1", "random(2147483647) > 0", "true");
    }

    private static void seedAsked() {
        started("var a; a := random(1000000); a := random(1000000);");
        String drawn = worked("[random(1000000), random(1000000), random(1000000)]");
        due(12, "the SEED stays", worked("[random(1000000), random(1000000), random(1000000)]"), drawn);
        x.step(1);
        due(12, "what the run draws next", drawn.startsWith("[" + value("a") + ", "), true);
        x.step(1);
        due(12, "and then", drawn.contains(", " + value("a") + ", "), true);
        x.back(1);
        due(8, "the SEED goes back, too", x.step(1) + value("a"), 1 + drawn.split(", ")[1]);
    }

    // ------------------------------------------------ output

    private static void keptAndCounted() {
        // 599 lines of 100 bytes, then one of 98, 99, 100 or 101.
        for (int last = 98; last <= 101; last++) {
            started("var w; w := \"" + repeated("y", 99) + "\"; for i in {1 .. 599 - 200} do print(w); end; for i in {1 .. 200} do print(w); end; print(\"z\" * " + (last - 2) + " + \"!\");");
            x.step(20000);
            int all = 59900 + last;
            due(10, "bytes printed", x.state(1), all);
            due(10, "the last one that is kept", x.out(Math.min(all, 60000) - 1), last <= 100 ? 10 : (int) '!');
            throwsDue(10, "none behind it", "IndexOutOfBoundsException", () -> x.out(Math.min(all, 60000)));
            throwsDue(10, "none far behind", "IndexOutOfBoundsException", () -> x.out(Integer.MAX_VALUE));
            throwsDue(10, "none below 0", "IndexOutOfBoundsException", () -> x.out(Integer.MIN_VALUE));
        }
        prints(10, "print(\"\"); print(\"a\", \"\", \"b\"); print([\"a\"], \"a\", {\"\"});", "/a  b/[\"a\"] a {\"\"}/");
    }

    /** What is not kept any more is counted just so, strings or others. */
    private static void countedBehindWhatIsKept() {
        String[] exps = {"t", "s", "t, t", "t, t, t", "s, s", "t, s", "s, t", "s, t, t", "t, t, s", "t, n, t", "n, t, n, t", "t, t, n, n, t, t", "t, s, t", "n, s, s, n", "n", "n, n", "om", "true, false", "a, a", "[], {}, \"\"", "\"\"", "\"\", \"\"", "[\"\", \"b\"], [\"\", \"b\"]", "-5, -5, 5"};
        String head = "var t, s, n, a; t := [1, \"two\", {3}]; s := \"four\"; n := - (10 ** 30); a := newat; ";
        for (String exp : exps) {
            started(head + "print(" + exp + "); for i in {1 .. 16} do print(\"abcd\" * 999); end; print(" + exp + "); print(" + exp + "); print(1);");
            x.step(5);
            int once = x.state(1);
            x.step(17);
            due(10, "before", x.state(1), once + 16 * 3997);
            x.step(1);
            due(10, "one line more of " + exp, x.state(1), 2 * once + 16 * 3997);
            due(10, "and more", x.step(9) + " " + x.state(1), "1 " + (3 * once + 16 * 3997 + 2));
        }
    }

    private static void twoThousandMillions() {
        // 1000 strings of 3996 bytes with a byte behind each, 500 times: 1998500000.
        String text = "var w, k; w := \"abcd\" * 999; for i in {1 .. 250}, j in {1, 2} do print(" + repeated("w, ", 999) + "w); end; "
            + "for i in {1 .. 375} do print(w, w, w(1 .. 3996)); print(w(1 .. 1002)); end; ";
        started(text + "k := [true] * 999; print(1);");
        due(7, "one after the other", x.step(502) + " " + x.state(1), "0 1998500000");
        x.step(100);
        due(10, "counted", x.state(1), 1998500000 + 50 * (3 * 3997 + 1003) - 1003);
        x.back(1);
        due(8, "one line fewer", x.state(1), 1998500000 + 49 * (3 * 3997 + 1003));
        started("var w, k; w := \"abcd\" * 999; for i in {1 .. 250}, j in {1, 2} do print(" + repeated("w, ", 999) + "w); end; "
            + "for i in {1 .. 375} do print(w(1 .. 3999 - 4)); end; print(w(1 .. 999)); print(\"\");");
        x.step(502 + 376);
        due(10, "1998500000 and 375 times 3996", x.state(1), 1999998500);
        x.step(1);
        due(10, "500 fewer than 2000000000", x.state(1), 1999999500);
        x.step(1);
        due(10, "one more", x.state(1), 1999999501);
        started("var w; w := \"abcd\" * 999; for i in {1 .. 250}, j in {1, 2} do print(" + repeated("w, ", 999) + "w); end; "
            + "for i in {1 .. 375} do print(w(1 .. 3995)); end; print(w(1 .. 1498)); print(\"\"); print(\"\"); print(w, [w(1)] * 100);");
        x.step(502 + 376 + 1);
        due(10, "1999999999", x.state(1), 1999999999);
        x.step(1);
        due(10, "2000000000", x.state(1), 2000000000);
        x.step(1);
        due(10, "no more are counted", x.state(1), 2000000000);
        due(10, "and the run goes on", x.step(9) + " " + x.state(1), "1 2000000000");
        due(8, "back, as it was", x.back(3) + " " + x.state(1), (502 + 376 + 1) + " 1999999999");
        due(10, "what is kept", x.out(0) + " " + x.out(3996) + " " + x.out(59999), "97 32 " + (int) "abcd".charAt(59999 % 3997 % 4));
    }

    public static void main(String[] args) {
        workOfExps();
        workOfViews();
        workOfStatements();
        workOfEach();
        workOfRowsAndIters();
        workOfWriting();
        workOfCalls();
        totalOfVariables();
        totalOfNamesThatPass();
        totalOfFors();
        totalOfCalls();
        totalOfPoints();
        totalBesidePoints();
        totalAtFirst();
        millionAtoms();
        theSeed();
        drawnMembers();
        seedAsked();
        keptAndCounted();
        countedBehindWhatIsKept();
        twoThousandMillions();
        finish();
    }
}
