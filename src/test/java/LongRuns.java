/** Runs that make far more values than there is room for at once: what is in use stays as it is, wherever it lies. */
public final class LongRuns extends Checks {
    // A value of all kinds that hold others, of a size of some 30, told by a number.
    private static final String MADE = "func e(k) = [k, str(k) + \"abcdef\", k * 10 ** 20, {k, [str(k)], {}}, [om, [[k]]], {[k, \"\"], [\"\", - k * 2 ** 70]}]; ";

    private static String made(int k) {
        started("var a; " + MADE);
        return worked("e(" + k + ")");
    }

    private static void steps(int n) {
        for (int i = 0; i < n; i += 20000) {
            x.step(Math.min(20000, n - i));
        }
    }

    private static void aRowThatMovesOn() {
        String text = "var q, k, f; " + MADE + "q := []; k := 0; while k < 6000 do k + := 1; q + := [e(k)]; if # q > 10 then f fromb q; assert f = e(k - 10); end; "
            + "assert q(# q) = e(k) and q(1) = e(if k > 10 then k - 9 else 1 end); end; print(k, q = [for i in [k - 9 .. k] : e(i)]);";
        prints(7, text, "6000 true/");
        due(11, "its last member", value("q").endsWith(made(6000) + "]"), true);
    }

    private static void sharedParts() {
        prints(7, "var a, b, c, k; " + MADE + "k := 0; a := e(1); b := [a, a]; c := {b, [b, a]}; while k < 4000 do k + := 1; a := e(k); b := [a, b(1), [a, b(2)(1)]]; b(3)(1)(1) := k; "
            + "c := {b(1), b(3)(1), a}; assert # c = 1 and b(1) = a; end; print(# c, b(2) = e(k - 1), b(1) = e(k), c = {e(4000)});",
            "1 true true true/");
    }

    private static void points() {
        prints(7, "var a, k; " + MADE + "k := 0; while k < 120 do k + := 1; a := [e(k), e(k + 1)]; if ok then a := om; for i in {1 .. 40} do a := [for j in {1 .. 20} : e(j)]; end; fail; end; "
            + "assert a = [e(k), e(k + 1)]; end; print(k);", "120/");
        // Two points in p(1), two in each of its two calls: all ways, the newest point's other one first.
        StringBuilder ways = new StringBuilder();
        for (int way = 0; way < 64; way++) {
            ways.append(way == 63 ? 0 : 6).append(' ').append((way >> 5) + (way >> 2 & 1)).append('/');
        }
        errs(7, "var a, b, k; " + MADE + "proc p(n, rw c); var l; l := e(n); for i in [e(n), e(n + 1)] do if ok then a := i; else c := c + [i]; end; if n > 0 then p(n - 1, l); end; b := [for j in {1 .. 25} : e(j)]; end; "
            + "assert l = e(n) or # l > 6; end; a := []; k := []; p(1, k); print(# a, # k); @fail;", ways.toString(), 10);
    }

    private static void frames() {
        prints(7, "var k; " + MADE + "func r(n) = if n = 0 then [] else [e(n)] + r(n - 1) end; func s(n) = if n = 0 then {} else {for x in [e(n), e(n + 1)] : x} + s(n - 1) end; k := 0; "
            + "while k < 150 do k + := 1; assert r(15) = [for i in [15, 14 .. 1] : e(i)]; assert s(12) = {for i in {1 .. 13} : e(i)}; "
            + "assert # {for x in {for i in {1 .. 20} : e(i)}, y in [x, e(1)] | y(1) > 18 : [x(2), y(3)]} = 2; assert forall x in [for i in [1 .. 20] : e(i)], y in x(4) | y in x(4) and x = e(x(1)); end; print(k);", "150/");
        prints(7, "var g, k; " + MADE + "proc p(n, rd a, wr b, rw c); var l; l := [a, c]; b := e(n); if n > 0 then p(n - 1, b, l, c); assert l = e(n - 1); end; c := c + [n]; return [a, b]; end; "
            + "k := 0; while k < 120 do k + := 1; g := [0]; g := p(20, e(7), g, g); assert g = [e(7), e(20)]; end; print(k);", "120/");
    }

    private static void shownAndSeen() {
        String text = "var a, k; " + MADE + "k := 0; while true do k + := 1; a := {e(k), e(k + 1)}; end;";
        started(text);
        feed("a");
        x.view();
        feed("[for i in [1 .. 10] : e(k + i)]");
        x.view();
        x.step(100);
        x.round();
        String first = seen(0, 0) + seen(0, 1) + seen(0, 2) + seen(1, 0) + seen(1, 1) + seen(1, 2);
        worked("e(k)");
        String before = worked("a");
        int order = x.order();
        String shape = x.shape(0) + " " + x.shape(1) + " " + x.shape(2);
        x.step(15000);
        due(16, "what is shown stays", shown() + " " + x.order() + " " + x.shape(0) + " " + x.shape(1) + " " + x.shape(2), before + " " + order + " " + shape);
        due(15, "what was seen stays", seen(0, 0) + seen(0, 1) + seen(0, 2) + seen(1, 0) + seen(1, 1) + seen(1, 2), first);
        x.back(15000);
        due(14, "and is told from what is", x.round() + seen(0, 0) + seen(0, 1) + seen(1, 1), 0 + before + "{}{}");
    }

    /** Values of other shapes than all that the run makes meanwhile. */
    private static void shownWhileValuesMove() {
        String[] texts = {"{1 .. 77}", "[\"abcdefghij\"] * 9", "2 ** 777", "\"xyz\" * 30", "{for i in {1 .. 15} : [i, {i}]}", "[[[[5]]], 2 ** 40, \"ab\"]"};
        for (int i = 0; i < texts.length; i++) {
            String text = texts[i];
            String second = texts[(i + 1) % texts.length];
            started("var a, k; " + MADE + "k := 0; while true do k + := 1; a := {e(k), e(k + 1)}; end;");
            String first = worked(text);
            String last = worked(second);
            String shape = x.shape(0) + " " + x.shape(1) + " " + x.shape(2) + " " + x.order();
            x.step(1500);
            due(17, "what was shown before: " + text + " and " + second, x.shape(0) + " " + x.shape(1) + " " + x.shape(2) + " " + x.order(), shape);
            due(16, "its bytes", shown(), last);
            worked(second);
            due(18, "the same again", x.order(), 0);
            due(12, "and the first one", worked(text), first);
        }
    }

    private static void backAgain() {
        String text = "var q, k, f, g; " + MADE + "q := []; k := 0; while k < 6000 do k + := 1; q + := [e(k)]; if # q > 10 then f fromb q; end; if k mod 50 = 0 then if ok then g := e(random(100)); fail; end; print(random(9), newat); end; end;";
        int[] places = {0, 1, 33, 500, 2499, 2500, 7777, 12000, 19999};
        String[] states = new String[places.length];
        for (int i = 0; i < places.length; i++) {
            started(text);
            steps(places[i]);
            states[i] = stateRow() + value("q") + value("k") + value("f") + value("g") + output();
        }
        started(text);
        steps(20000);
        for (int i = places.length - 1; i >= 0; i--) {
            x.back(x.state(0) - places[i]);
            due(8, "back to " + places[i], stateRow() + value("q") + value("k") + value("f") + value("g") + output(), states[i]);
        }
        steps(20000);
        x.back(20000 - places[5]);
        due(8, "far back at once", stateRow() + value("q") + value("k") + value("f") + value("g") + output(), states[5]);
    }

    /** All kinds of statements, again and again: nothing is left behind, so that twenty points have room at the end. */
    private static void nothingIsLeftBehind() {
        StringBuilder points = new StringBuilder();
        for (int i = 0; i < 20; i++) {
            points.append("b := ok; ");
        }
        String turn = "[a, -, t(1)] := [i, 2, 3]; s := {1, 2, 3}; a from s; t := [1, 2, 3]; a fromb t; a frome t(2 .. 2); a from f{7}; t(1) from s; a := p(1, b, t); p(i, t(1), f(2)); t(1) := p(2, b, a); q(); "
            + "if ok then succeed; end; if ok then fail; elseif i = 0 then stop; end; "
            + "for x in {1, 2}, [y] in {[1], [2]} do if y = 2 then quit; end; continue; end; while true do if i > 0 then quit; end; end; t(1 .. 1) + := [1]; f{1} + := {2}; f(1) := 2; "
            + "a := exists x in {1, 2}, y in [x] | y = 2; a := {for x in {1, 2} : [for z in [x] : z]}; t := [1, 2, 3]; t(1 .. 1) := [4, 5]; [t(1 .. 1), a, t(2 .. 2)] := [[1], 2, [3]]; u := [[1], [2]]; t(1 .. 0) fromb u; t(1 .. 1)(1) frome u; t(1 .. 2)(1) := p(1, b, t(2 .. 2)); a := max / [1, 2]; a := + / [1, 2] + g(3); if a = 1 then elseif a = 2 then else end; assert true; ";
        started("var i, a, b, s, t, f, u; func g(n) = if n = 0 then 0 else g(n - 1) end; proc p(rd x, wr y, rw z); for u in {1, 2} do for v in {u} do if v = 2 then return x; end; end; end; end; proc q(); end; "
            + "i := 0; t := []; f := {}; while i < 3000 do i + := 1; " + turn + "end; " + points + "print(i);");
        for (int i = 0; i < 20; i++) {
            x.step(20000);
        }
        due(7, "a long run", x.state(2) + " " + x.state(5) + " " + x.state(8) + " " + output(), "0 20 1 3000\n");
    }

    private static String itersOf(int n) {
        StringBuilder b = new StringBuilder();
        for (int i = 0; i < n; i++) {
            b.append(i == 0 ? "i" : ", i").append(i).append(" in ").append(i == 0 ? "[n]" : "{i" + (i - 1) + "}");
        }
        return b.toString();
    }

    /** Twenty funcs are open, each with fifty-nine names of iters, and the exp that calls with sixty. */
    private static void allNamesOfIters() {
        started("var n; func f(n) = exists " + itersOf(59) + " | i58 = 0 or f(i58 - 1) and i57 = i0 and i30 = n and i58 = n; func g(n) = [for " + itersOf(59) + " | n > 0 and i58 = i1 : g(i58 - 1)]; n := 19;");
        x.step(1);
        String rows = repeated("[", 20) + repeated("]", 20);
        exps(12, "f(19)", "true", "g(19)", rows, "f(20)", "!7", "g(20)", "!7", "exists " + itersOf(60) + " | f(i59) and i59 = n and i0 = n", "true", "[for " + itersOf(60) + " : g(i59)]", "[" + rows + "]");
        feed("[for " + itersOf(60) + " : g(i59) + [i0]]");
        x.view();
        due(14, "in a view", x.round() + " " + seen(0, 0), "1 [" + rows.substring(0, 39) + ", 19]]");
    }

    /** One program after the other, with views, in one object. */
    private static void manyTexts() {
        x = new House();
        for (int i = 0; i < 25; i++) {
            program("var a, b; func f(n) = [n, \"" + repeated("x", i) + "\", n * 10 ** " + i + "]; a := f(" + i + "); b := {for k in {1 .. 9} : f(k)}; print(a, # b);");
            x.start(i);
            feed("a(3) + " + i);
            x.view();
            x.step(2);
            String first = "[" + i + ", \"" + repeated("x", i) + "\", " + (i == 0 ? "0" : i + repeated("0", i)) + "]";
            due(4, "program " + i, value("a"), first);
            program("var c; c := (");
            due(4, "the run goes on behind a fault", x.step(9) + " " + x.round() + " " + output(), "1 1 " + first + " 9\n");
        }
    }

    public static void main(String[] args) {
        aRowThatMovesOn();
        sharedParts();
        points();
        frames();
        shownAndSeen();
        shownWhileValuesMove();
        backAgain();
        nothingIsLeftBehind();
        allNamesOfIters();
        manyTexts();
        finish();
    }
}
