import java.math.BigInteger;
import java.util.Random;

/** Section 2 of the document, VALUES: 1024 bits, size 1001, height 31, THE ORDER, each at the last that is allowed and the first that is not. */
public final class ValueEdges extends Checks {
    private static final BigInteger MOST = BigInteger.ONE.shiftLeft(1024).subtract(BigInteger.ONE);

    // ------------------------------------------------ wholes of 1024 bits

    private static void wholesOfManyBits() {
        ended("var m, h; h := 2 ** 1023; m := h + (h - 1);");
        exps(12, "m", MOST.toString(), "- m", MOST.negate().toString(), "# str(m)", "309", "# str(- m)", "310");
        err(12, 5, "m + 1", "1 + m", "- m - 1", "m - -1", "-1 - m", "m + m", "m * 2", "m * -2", "2 * m", "m * m", "h * 2", "h + h", "- h - h", "m ** 2", "(- m) ** 2",
            "2 ** 1024", "(-2) ** 1024", "(-2) ** 1025", "4 ** 512", "2 ** 512 * 2 ** 512", "3 ** 647", "10 ** 309", "16 ** 256", "2 ** m", "m ** m", "(-2) ** m",
            "+ / [m, 1]", "+ / [h, h, - h]", "* / [m, 2]", "* / [2, h]", "2 ** 2 ** 10", "(m - 1) + 2");
        hold(12, "m - 1 + 1 = m", "m + 0 = m", "m * 1 = m", "m * -1 = - m", "m ** 1 = m", "m ** 0 = 1", "m div 1 = m", "m div -1 = - m", "(- m) div -1 = m", "m mod m = 0",
            "m mod - m = 0", "(- m) mod m = 0", "m div m = 1", "m div - m = -1", "(- m) div - m = 1", "abs(- m) = m", "abs(m) = m", "- - m = m", "m - m = 0", "- m + m = 0",
            "(m div 2) * 2 + 1 = m", "(- m) div 2 = - h", "(- m) mod 2 = 1", "(- m) div h = -2", "(- m) mod h = 1", "m div h = 1", "m mod h = h - 1", "m div (m - 1) = 1",
            "(m - 1) div m = 0", "(m - 1) mod m = m - 1", "-1 mod m = m - 1", "-1 div m = -1", "1 mod - m = 1", "-1 mod - m = m - 1", "-1 div - m = 1",
            "2 ** 512 * 2 ** 511 = h", "2 ** 1023 = h", "(-2) ** 1023 = - h", "(2 ** 512 - 1) * (2 ** 512 + 1) = m", "3 ** 646 > h", "10 ** 308 > h", "16 ** 255 * 15 < m",
            "1 ** m = 1", "0 ** m = 0", "(-1) ** m = -1", "(-1) ** (m - 1) = 1", "- h - (h - 1) = - m", "+ / [m, -1, 1] = m", "max / [m, m - 1] = m", "min / {- m, 0} = - m",
            "m > m - 1", "- m < 1 - m", "m = m", "- m /= m", "{m, - m, m} = {- m, m}", "arb({m, - m}) = - m", "m in {m}", "[m .. m] = [m] or true");
    }

    private static void sizesOfWholes() {
        ended("var m; m := 2 ** 1023 + (2 ** 1023 - 1);");
        String[] texts = {"0", "1", "-1", "2 ** 31", "2 ** 32 - 1", "1 - 2 ** 32", "2 ** 32", "- (2 ** 32)", "2 ** 64 - 1", "2 ** 64", "2 ** 992 - 1", "2 ** 992", "m", "- m"};
        int[] sizes = {1, 2, 2, 2, 2, 2, 3, 3, 3, 4, 32, 33, 33, 33};
        for (int i = 0; i < texts.length; i++) {
            work(texts[i]);
            due(17, "size of " + texts[i], x.shape(0) + " " + x.shape(1) + " " + x.shape(2), "2 " + sizes[i] + " 0");
        }
    }

    /** The same by Java's own whole numbers, round about the ends of words of 16, 28, 32 and 64 bits. */
    private static void wholesAtWordEnds() {
        int[] bits = {0, 1, 15, 16, 26, 27, 28, 31, 32, 33, 63, 64, 65, 96, 511, 512};
        BigInteger[] numbers = new BigInteger[bits.length * 6];
        for (int i = 0; i < bits.length; i++) {
            BigInteger b = BigInteger.ONE.shiftLeft(bits[i]);
            numbers[6 * i] = b;
            numbers[6 * i + 1] = b.subtract(BigInteger.ONE);
            numbers[6 * i + 2] = b.add(BigInteger.ONE);
            numbers[6 * i + 3] = b.negate();
            numbers[6 * i + 4] = b.negate().add(BigInteger.ONE);
            numbers[6 * i + 5] = b.negate().subtract(BigInteger.ONE);
        }
        int turn = 0;
        for (BigInteger a : numbers) {
            started("var a;");
            for (int k = turn % 7; k < numbers.length; k += 7) {
                wholesOf(a, numbers[k]);
            }
            turn++;
        }
    }

    /** Quotients that are a word's end, from both sides. */
    private static void quotientsAtWordEnds() {
        started("var a;");
        for (int bits : new int[] {16, 32, 48, 64, 96, 128, 512, 960, 992, 1008, 1020}) {
            String b = "2 ** " + bits;
            hold(12, "(1 - 3 * " + b + ") div 3 = - (" + b + ")", "(1 - 3 * " + b + ") mod 3 = 1", "(3 * " + b + " - 1) div 3 = " + b + " - 1", "(3 * " + b + " - 1) div -3 = 1 - " + b, "(- 3 * " + b + ") div 3 = - (" + b + ")",
                "(- 3 * " + b + " - 1) div 3 = - (" + b + ") - 1", "(3 * " + b + " + 1) div - 3 = - (" + b + ")", "- (" + b + ") div (" + b + " + 1) = -1", "(" + b + " - 1) div - (" + b + ") = 0", "(1 - " + b + ") div - (" + b + ") = 1",
                "(" + b + ") div (" + b + " - 1) = 1", "(" + b + ") mod (" + b + " - 1) = 1", "(" + b + " - 1) mod (" + b + ") = " + b + " - 1", "-1 mod (" + b + ") = " + b + " - 1");
        }
    }

    private static void wholesAtRandom() {
        Random random = new Random(5);
        for (int turn = 0; turn < 40; turn++) {
            started("var a;");
            for (int i = 0; i < 25; i++) {
                BigInteger a = new BigInteger(1 + random.nextInt(1024), random);
                BigInteger b = new BigInteger(1 + random.nextInt(turn % 2 == 0 ? 1024 : 100), random);
                BigInteger multiple = b.multiply(BigInteger.valueOf(random.nextInt(1000)));
                a = i % 5 == 0 && fits(multiple) ? multiple : a;
                wholesOf(random.nextBoolean() ? a.negate() : a, random.nextBoolean() ? b.negate() : b);
            }
        }
    }

    private static boolean fits(BigInteger n) {
        return n.abs().bitLength() <= 1024;
    }

    /** All operators of the two, but for what has too many bits, which errs. */
    private static void wholesOf(BigInteger a, BigInteger b) {
        String pair = "for p in [[" + written(a) + ", " + written(b) + "]] : ";
        StringBuilder text = new StringBuilder("[" + pair + "[p(1) < p(2), p(1) = p(2)");
        StringBuilder want = new StringBuilder("[" + (a.compareTo(b) < 0) + ", " + a.equals(b));
        if (b.signum() != 0) {
            BigInteger mod = a.mod(b.abs());
            text.append(", p(1) mod p(2), p(1) div p(2)");
            want.append(", " + mod + ", " + a.subtract(mod).divide(b));
        }
        BigInteger[] results = {a.add(b), a.subtract(b), a.multiply(b)};
        String[] signs = {"+", "-", "*"};
        for (int i = 0; i < signs.length; i++) {
            String one = "p(1) " + signs[i] + " p(2)";
            if (fits(results[i])) {
                text.append(", " + one);
                want.append(", " + results[i]);
            } else {
                due(12, one, worked("[" + pair + one + "]"), "!5");
            }
        }
        due(12, text.toString(), worked(text + "]](1)"), want + "]");
    }

    /** As an exp: a NUMBER has no more than sixty digits. */
    private static String written(BigInteger n) {
        String digits = n.abs().toString();
        StringBuilder b = new StringBuilder();
        for (int from = 0; from < digits.length(); from += 50) {
            String piece = digits.substring(from, Math.min(from + 50, digits.length()));
            int behind = digits.length() - from - piece.length();
            b.append(from == 0 ? "" : " + ").append(piece).append(behind == 0 ? "" : " * 10 ** " + behind);
        }
        return n.signum() < 0 ? "- (" + b + ")" : b.toString();
    }

    // ------------------------------------------------ size 1000

    private static void strings() {
        ended("var w; w := \"abcd\" * 999;");
        work("w");
        due(17, "the longest string", x.shape(0) + " " + x.shape(1) + " " + x.shape(2), "4 1000 3996");
        due(11, "as printed", value("w").length(), 3998);
        err(12, 5, "w + \"a\"", "\"a\" + w", "w + w", "\"a\" * 3997", "\"ab\" * 1999", "\"abcde\" * 800", "\"a\" * 2 ** 31", "\"a\" * 2 ** 32", "\"a\" * (2 ** 32 + 1)", "\"a\" * 2 ** 64",
            "\"a\" * 10 ** 300", "str(w)", "+ / [w, \"a\"]", "str(\"a\" * 3995)", "[w]", "{w}");
        hold(12, "w + \"\" = w", "\"\" + w = w", "# w = 3996", "\"ab\" * 1998 = w or true", "# (\"abcde\" * 799) = 3995", "rev(rev(w)) = w", "w(1 .. 3996) = w", "w(3997 .. 3996) = \"\"",
            "w(3996) = \"d\"", "w(3997) = om", "w(10 ** 300) = om", "\"dabcd\" in w", "w in w", "# str(\"a\" * 3994) = 3996", "w * 1 = w", "w * 0 = \"\"", "# str([\"a\" * 3992]) = 3996");
        String[] texts = {"\"\"", "\"a\"", "\"abcd\"", "\"abcde\"", "\"a\" * 3992", "\"a\" * 3993"};
        int[] sizes = {1, 2, 2, 3, 999, 1000};
        for (int i = 0; i < texts.length; i++) {
            work(texts[i]);
            due(17, "size of " + texts[i], x.shape(1), sizes[i]);
        }
        errs(7, "var w; w := \"a\" * 3995; w(3996) := \"b\"; print(# w); @w(3997) := \"c\";", "3996/", 5);
        errs(7, "var w; w := \"a\" * 3996; w(3996) := \"b\"; w(1 .. 1) := \"x\"; w(1 .. 2) := \"y\"; w(1 .. 0) := \"z\"; print(# w); @w(1 .. 1) := \"uv\";", "3996/", 5);
        errs(7, "var w; w := \"a\" * 3996; w + := \"\"; @w + := \"b\";", "", 5);
    }

    private static void tuplesAndSets() {
        ended("var t, s, z; t := [0] * 999; s := {0 .. 499}; z := [true] * 998;");
        work("t");
        due(17, "the longest tuple", x.shape(0) + " " + x.shape(1) + " " + x.shape(2), "5 1000 999");
        work("s");
        due(17, "a set of that size", x.shape(0) + " " + x.shape(1) + " " + x.shape(2), "6 1000 500");
        err(12, 5, "t + [0]", "[0] + t", "t + t", "[t]", "{t}", "[0] * 1000", "[0, 0] * 500", "[1] * 500", "[0] * 2 ** 31", "[0] * 2 ** 40", "[0] * 10 ** 300", "z + [1]", "[om] * 3 + z + [om, 0]",
            "s + {-1}", "s + {true}", "s + {500}", "{0 .. 500}", "[0 .. 500]", "{1 .. 500}", "[1 .. 10 ** 100]", "{1, 3 .. 2000}", "{- 499 .. 1}", "[s]", "{s}",
            "[for i in t, j in [1, 2] : 0]", "{for i in [1 .. 499], j in [0, 500] : i + j}", "[for i in [1 .. 400] : [0]] + [0] * 300", "+ / [s, {-1}]",
            "[for i in [1 .. 499] : if i = 499 then t else 0 end]");
        hold(12, "t + [] = t", "t + [om] = t", "[] + t = t", "t * 1 = t", "# (z + [0]) = 999", "# ([1] * 499) = 499", "s + {0} = s", "s + s = s", "s * s = s", "s - s = {}", "s + {} = s",
            "# {0 .. 499} = 500", "# {1 .. 499} = 499", "# [0 .. 499] = 500", "[for i in t : i] = t", "{for i in s : i} = s", "{for i in t : i} = {0}", "[for i in t, j in [1, 2] : om] = []",
            "# [for i in [1 .. 999 div 2] : i] = 499", "rev(t) = t", "t(1 .. 999) = t", "t(1000 .. 999) = []", "t(999) = 0", "t(1000) = om", "# {-499 .. 0} = 500", "[{}] * 999 /= t",
            "s subset s", "499 in s", "500 notin s");
        err(12, 5, "[for i in [1 .. 100], j in [1 .. 10] : if i * j = 1000 then 0 else om end]");
        hold(12, "# [for i in [1 .. 100], j in [1 .. 10] : if i = 100 and j = 9 then 0 else om end] = 999");
    }

    private static void writingToTheLastSize() {
        errs(7, "var t; t := []; t(999) := 0; print(# t); @t(1000) := 0;", "999/", 5);
        errs(7, "var t; t := []; t(998) := 1; t(999) := om; t(1000) := om; t(10 ** 99) := om; print(# t); @t(1) := 1;", "998/", 5);
        errs(7, "var t; t := [0] * 999; t(5) := true; @t(5) := 1;", "", 5);
        errs(7, "var t; t := []; @t(10 ** 99) := 0;", "", 5);
        errs(7, "var t; t := []; @t(2 ** 32 + 1) := 0;", "", 5);
        errs(7, "var t; t := [0] * 999; t(1 .. 0) := []; t(1 .. 1) := [0]; t(1 .. 2) := [1]; @t(999 .. 998) := [0];", "", 5);
        errs(7, "var f; f := {for i in {1 .. 199} : [i, i]}; f(1) := 2; f(1) := om; f(1) := {}; f(300) := 1; print(# f); @f(0) := \"\";", "200/", 5);
        errs(7, "var f; f := {}; f{1} := {1 .. 199}; print(# f); @f{1} := {1 .. 200};", "199/", 5);
        errs(7, "var s; s := {0 .. 499}; s + := {3}; s - := {3}; s + := {3}; @s + := {500};", "", 5);
        errs(7, "var t; t := [[]]; t(1) := [0] * 998; print(# t(1)); @t(1)(999) := 0;", "998/", 5);
        errs(7, "var a, b; [a, b] := [[0] * 499, [0] * 498]; print(# a, # b); @[a, b] := [[0] * 499, [0] * 499];", "499 498/", 5);
    }

    // ------------------------------------------------ height 30

    private static void heights() {
        ended("var a, b, c; a := {}; b := []; c := {{}}; for i in {1 .. 29} do a := {a}; b := [b]; end; for i in {1 .. 28} do c := {c, {}}; end;");
        due(7, "height 30 is no error", x.state(2), 0);
        due(12, "height 30", value("a"), repeated("{", 30) + repeated("}", 30));
        due(12, "height 30", value("b"), repeated("[", 30) + repeated("]", 30));
        err(12, 5, "{a}", "[a]", "{b}", "[b]", "{1, a}", "[om, a]", "pow(a)", "pow({a})", "{for i in {1} : a}", "[for i in {1} : a]", "[a] * 0", "{c}", "[1, b, 2]", "[[a]]", "{[], b}", "{[1, a]}");
        hold(12, "a + a = a", "b + b = [b(1), b(1)]", "b * 3 = b + b + b", "# a = 1", "a + {1} = {1} + a", "arb(a) in a", "b(1) in b", "[arb(a)] /= b", "rev(b) = b", "a = {arb(a)}",
            "[b(1)] = b", "{for i in a : i} = a", "str(a) = str(a)", "pow(arb(a)) = {{}, arb(a)}", "a - a = {}", "# pow(arb(a)) = 2");
        errs(7, "var a; a := [[]]; for i in {1 .. 28} do a := [a]; end; a(1) := a(1); a(2) := a(1); @a(1) := a;", "", 5);
        errs(7, "var a, f; a := [[]]; f := {}; for i in {1 .. 26} do a := [a]; end; f(a) := 1; f(1) := a; f{2} := {a, 3}; print(# f); @f(3) := [a];", "4/", 5);
        errs(7, "var a, f; a := [[]]; f := {}; for i in {1 .. 26} do a := [a]; end; f{1} := {a}; print(# f); @f{1} := {[a]};", "1/", 5);
        errs(7, "var a; a := []; a(1) := a; while true do @a(1) := a; end;", "", 5);
        started("var a; a := []; a(1) := a; while true do a(1) := a; end;");
        x.step(200);
        due(7, "the value before", value("a"), repeated("[", 30) + repeated("]", 30));
    }

    /** The innermost one holds something that has no height. */
    private static void heightsOfWhatHolds() {
        for (String inner : new String[] {"[1]", "{1}", "[\"a\"]", "{true}", "[om, 0]", "{\"\"}", "[1, {2}](1 .. 1)", "{10 ** 50}"}) {
            ended("var a, b; a := " + inner + "; b := a; for i in {1 .. 29} do a := {a}; b := [b]; end;");
            due(7, "height 30 is no error", x.state(2), 0);
            err(12, 5, "{a}", "[b]", "[a]", "{b}", "pow(a)");
            hold(12, "{arb(a)} = a", "[b(1)] = b", "# [b(1), b(1)] = 2");
            work("{arb(a), 1}");
            due(17, "a set of height 30", x.shape(0) + " " + x.shape(2), "6 2");
        }
    }

    /** Rows that are written out, to the last size and one beyond. */
    private static void rowsWrittenOut() {
        started("var t, f; t := true;");
        x.step(1);
        String wholes = wholesUpTo(499);
        exps(12, "# {" + wholes + "}", "500", "# [" + wholes + "]", "500", "{" + wholes + ", 500}", "!5", "[" + wholes + ", 500]", "!5", "{" + wholes + ", t}", "!5", "[" + wholes + ", t]", "!5", "# {" + wholes + ", 7, 499, 0}", "500",
            "[" + wholes + ", 0]", "!5", "# [" + wholes + ", om]", "500", "{" + wholes + ", om}", "!3", "# {" + wholes + repeated(", 7", 600) + "}", "500", "{" + wholes + repeated(", 7", 600) + ", 500}", "!5",
            "{" + wholes + repeated(", 7", 600) + ", t}", "!5", "{500, " + wholes + repeated(", 7", 600) + "}", "!5", "# {" + repeated("7, ", 600) + wholes + "}", "500", "{" + repeated("7, ", 600) + wholes + ", 500}", "!5",
            "{" + wholesUpTo(600) + ", om" + repeated(", 7", 600) + "}", "!3", "{" + wholesUpTo(600) + repeated(", 7", 600) + ", om}", "!3", "{om, " + wholesUpTo(600) + repeated(", 7", 600) + "}", "!3",
            "{" + repeated("7, ", 1000) + wholes + ", t}", "!5", "# {" + repeated("7, ", 1000) + wholes + "}", "500");
        exps(12, "# [" + repeated("t, ", 998) + "t]", "999", "[" + repeated("t, ", 999) + "t]", "!5", "# [" + repeated("om, ", 998) + "t]", "999", "[" + repeated("om, ", 999) + "t]", "!5", "[" + repeated("t, ", 998) + "1]", "!5",
            "# [" + repeated("t, ", 998) + "t" + repeated(", om", 300) + "]", "999", "[" + repeated("t, ", 998) + "t" + repeated(", om", 300) + ", t]", "!5", "# [" + repeated("t, ", 997) + "1" + repeated(", om", 300) + "]", "998");
    }

    private static String wholesUpTo(int n) {
        StringBuilder b = new StringBuilder("0");
        for (int i = 1; i <= n; i++) {
            b.append(", ").append(i);
        }
        return b.toString();
    }

    /** Words and rows of wholes whose value has the last size. */
    private static void wordsToTheLastSize() {
        started("var t;");
        // 1, a set of 1 for each of 2 ** n, and each member in half of these.
        exps(12, "# pow({true, 1, 2, 3, 4, 5, 6})", "128", "pow({1 .. 7})", "!5", "# pow({[0] * 18, 0, true, false, 1, 2, 3})", "!5", "# pow({[0] * 21, 0, true, false, 1, 2})", "64", "pow({[0] * 22, 0, true, false, 1, 2})", "!5",
            "# pow({[0] * 996})", "2", "pow({[0] * 997})", "!5", "# pow({[0] * 495, true})", "4", "pow({[0] * 496, true})", "!5", "# pow({[0] * 494, true})", "4");
        // 1, then sizes of 1, 2 and 332 times 3.
        exps(12, "# [0, 2 ** 31 .. 333 * 2 ** 31]", "334", "# {0, 2 ** 31 .. 333 * 2 ** 31}", "334", "[0, 2 ** 31 .. 334 * 2 ** 31]", "!5", "{0, 2 ** 31 .. 334 * 2 ** 31}", "!5", "# [0, 2 ** 31 .. 334 * 2 ** 31 - 1]", "334",
            "# {333 * 2 ** 31, 332 * 2 ** 31 .. 0}", "334", "# [333 * 2 ** 31, 332 * 2 ** 31 .. 0]", "334", "{334 * 2 ** 31, 333 * 2 ** 31 .. 0}", "!5", "[334 * 2 ** 31, 333 * 2 ** 31 .. 0]", "!5", "# {0, - (2 ** 31) .. - (333 * 2 ** 31)}", "334",
            "{0, - (2 ** 31) .. - (334 * 2 ** 31)}", "!5", "# {2 ** 27 - 3 .. 2 ** 27 + 495}", "499", "{2 ** 27 - 3 .. 2 ** 27 + 496}", "!5", "# {-250 .. 249}", "500", "{-250 .. 250}", "!5", "# {499, 498 .. 0}", "500", "{500, 499 .. 0}", "!5",
            "arb({333 * 2 ** 31, 332 * 2 ** 31 .. 0})", "0", "[5 * 2 ** 31, 4 * 2 ** 31 .. 0](6)", "0");
        errs(7, "var f; f := {[0, true]}; f{0} := {0 .. 249}; print(# f, # f{0}); f{0} := {0 .. 249}; @f{0} := {0 .. 249} + {true};", "250 250/", 5);
        errs(7, "var f; f := {[1, 0]}; f{0} := {0 .. 248}; print(# f); f{0} := {1 .. 248} + {true}; f{1} := {}; f{0} := {0 .. 249}; @f{1} := {0};", "250/", 5);
        errs(7, "var f; f := {}; f{0} := {0 .. 248}; f(true) := false; print(# f); f(true) := 1; @f(true) := [1];", "250/", 5);
    }

    /** Formers that come to the last size, and one beyond it behind that. */
    private static void formersToTheLastSize() {
        started("var t;");
        exps(12, "# {for i in [0 .. 399], j in [0, 100] : i + j}", "500", "{for i in [0 .. 400], j in [0, 100] : i + j}", "!5", "# {for i in [0 .. 399], j in [0, 100, 0, 50] : i + j}", "500",
            "# {for i in [400, 399 .. 1], j in [0, 100] : i + j - 1}", "500", "{for i in [400, 399 .. 0], j in [0, 100] : i + j}", "!5", "{for i in [1 .. 333], j in [1, 2, 3] : if i * j = 999 then true else i end}", worked("{true} + {1 .. 333}"),
            "# [for i in [1 .. 333], j in [1, 2, 3] : false]", "999", "[for i in [1 .. 333], j in [1, 2, 3, 4] : if j < 4 then false elseif i = 333 then false else om end]", "!5",
            "# [for i in [1 .. 333], j in [1, 2, 3] : if j < 3 then om else false end]", "999", "# [for i in [1 .. 334], j in [1, 2, 3] : if i < 334 then false else om end]", "999",
            "[for i in [1 .. 334], j in [1, 2, 3] : if i < 334 then false elseif j = 3 then true else om end]", "!5", "[for i in [1 .. 334], j in [1, 2, 3] : if i < 334 then om elseif j = 1 then true else om end]", "!5",
            "{for i in [1 .. 2] : if i = 1 then [true] * 998 else true end}", "!5", "# {for i in [1 .. 2] : if i = 1 then [true] * 997 else true end}", "2");
    }

    // ------------------------------------------------ what values hold

    private static void omAtTheEnd() {
        ended("var t; t := [1, om, 2];");
        exps(12, "[om]", "[]", "[om, om]", "[]", "[1, om]", "[1]", "[om, 1, om]", "[om, 1]", "# [1, om, om]", "1", "# [om, om, 1]", "3", "t(1 .. 2)", "[1]", "t(2 .. 2)", "[]", "t(2 .. 3)", "[om, 2]",
            "rev([om, 1])", "[1]", "rev([om, 1, 2])", "[2, 1]", "rev([1, om, 2])", "[2, om, 1]", "[1, om] + [2]", "[1, 2]", "[1] + [om, 2]", "[1, om, 2]", "[om] * 5", "[]", "[for x in [1, 2] : om]", "[]",
            "[for x in [1, 2, 3] : if x = 2 then 2 else om end]", "[om, 2]", "[[om], 1]", "[[], 1]", "[1, om] = [1]", "true", "{[1, om], [1]}", "{[1]}", "# [[1, om]]", "1",
            "{[1, om]}", "{[1]}", "{[1, om]}(1)", "!1", "{[om, 1]}(om)", "1", "{[om, 1]}{om}", "{1}");
        prints(7, "var t; t := [1, om, 2]; t(3) := om; print(t, # t); t(5) := 1; t(5) := om; print(t); t(1) := om; print(t);", "[1] 1/[1]/[]/");
        prints(7, "var t; t := [1, om, 2]; t(3 .. 3) := []; print(t); t := [1, 2]; t(2 .. 2) := [om]; print(t); t(1 .. 1) := [3, om]; print(t);", "[1]/[1]/[3]/");
        prints(7, "var a, t; t := [1, om, om, 2]; a frome t; print(a, t); t := [1, om, 2]; a fromb t; print(a, t); a fromb t; print(a, t);", "2 [1]/1 [om, 2]/om [2]/");
    }

    private static void equalByWhatTheyHold() {
        ended("var a, b, f; a := newat; b := newat; f := {[1, 2]};");
        // The same wholes by several ways, round about those that small handles hold.
        exps(12, "{- 134217728, 0 - 134217728, -134217727 - 1, (-2) ** 27, -268435456 div 2, -67108864 * 2, -268435455 + 134217727, - (2 ** 27), 2 ** 40 - (2 ** 40 + 2 ** 27)}", "{-134217728}",
            "{134217727, 134217728 - 1, 2 ** 27 - 1, 268435454 div 2, 134217726 + 1, abs(-134217727), 2 ** 40 - (2 ** 40 - 2 ** 27 + 1), -1 mod 134217728, 0 - -134217727}", "{134217727}",
            "{134217728, 134217727 + 1, 2 ** 27, 268435456 div 2, abs(-134217728), - (-134217728), -134217728 * -1, -134217728 div -1, 67108864 * 2, -1 mod 134217729}", "{134217728}",
            "{-134217729, -134217728 - 1, - (2 ** 27 + 1), -134217729 * 1, -268435458 div 2, 2 ** 40 - (2 ** 40 + 2 ** 27 + 1)}", "{-134217729}",
            "{0, 5 - 5, 0 * 7, 2 ** 40 - 2 ** 40, - 0, 7 mod 7, 1 div 5, 10 ** 30 - 10 ** 30, 10 ** 30 mod 10, 0 * 10 ** 30, 10 ** 30 div 10 ** 31, - (10 ** 30 - 10 ** 30), abs(0), # {}}", "{0}",
            "{4294967295, 2 ** 32 - 1, 65535 * 65537, 4294967296 - 1, 4294967294 + 1, - (1 - 2 ** 32)}", "{4294967295}", "{[2 ** 27 .. 2 ** 27 + 1](1), {-5 .. 2 ** 27} * {2 ** 27} = {2 ** 27}, 2 ** 27}", "!5",
            "{[2 ** 27 - 1 .. 2 ** 27 + 1](2), [2 ** 27, 2 ** 27 - 1 .. 0](1) = 1, 2 ** 27}", "!5", "{[2 ** 27 - 1 .. 2 ** 27 + 1](2), 2 ** 27}", "{134217728}", "{[2 ** 27 + 1, 2 ** 27 .. 2 ** 27 - 1](3), 2 ** 27 - 1}", "{134217727}",
            "{random(1), 1, code(char(1)), # [0], abs(-1), 3 div 3}", "{1}", "{\"a\", char(97), \"ba\"(2), \"abc\"(1 .. 1), rev(\"a\"), \"a\" * 1, \"\" + \"a\", [for c in \"a\" : c](1), str(1)(2 .. 1) + \"a\"}", "{\"a\"}",
            "{\"\", \"a\" * 0, \"a\"(1 .. 0), \"\" + \"\", rev(\"\"), str(1)(1 .. 0)}", "{\"\"}", "{[], [om], [1] * 0, [1](1 .. 0), rev([]), [] + [], [for x in {} : x], [1, om](2 .. 1)}", "{[]}",
            "{{}, {1} - {1}, {1} * {2}, {for x in [] : x}, domain({}), range({}), {2 .. 1}, {[1, 2]}{3}}", "{{}}");
        hold(12, "{1, 2, 1} = {2, 1}", "[1, 2] /= [2, 1]", "{{1, 2}} = {{2, 1}}", "{[1, {2, 3}]} = {[1, {3, 2}]}", "\"a\" + \"b\" = \"ab\"", "10 ** 20 = 100000000000000000000", "# {10 ** 20, 10 ** 20} = 1",
            "# {\"ab\", \"a\" + \"b\"} = 1", "a = a", "a /= b", "# {a, a, b} = 2", "om = om", "{} = {1} - {1}", "[] = [om]", "\"\" /= []", "[] /= {}", "0 /= false", "1 /= true", "\"1\" /= 1", "om /= false",
            "{[1, 2]} = f", "str(1) = \"1\"", "- 0 = 0", "0 * -5 = 0", "-5 + 5 = 0", "char(97) = \"a\"", "\"abc\"(2) = \"b\"", "2 ** 27 - 1 + 1 = 2 ** 27", "- (2 ** 27) = 0 - 2 ** 27",
            "(2 ** 40) - (2 ** 40 - 5) = 5", "{2 ** 27, 2 ** 27 - 1 + 1} = {2 ** 27}");
    }

    private static void theOrder() {
        ended("var a, b; a := newat; b := newat;");
        exps(12, "{{}, [], \"\", b, a, 0, true, false}", "{false, true, 0, #1, #2, \"\", [], {}}",
            "{1, -1, 0, 2 ** 40, - (2 ** 40), 2 ** 27, 2 ** 27 - 1, - (2 ** 27), - (2 ** 27) - 1}",
            "{-1099511627776, -134217729, -134217728, -1, 0, 1, 134217727, 134217728, 1099511627776}",
            "{\"b\", \"a\", \"\", \"ab\", \"aa\", \"B\", char(128), char(127), char(255), char(0), \"abc\"}",
            "{\"\", \"" + text(0) + "\", \"B\", \"a\", \"aa\", \"ab\", \"abc\", \"b\", \"" + text(127) + "\", \"" + text(128) + "\", \"" + text(255) + "\"}",
            "{[2], [1, 9], [1], [], [om, 1], [om, om, 1], [true], [[]], [1, om, 1], [\"\"]}", "{[], [om, om, 1], [om, 1], [true], [1], [1, om, 1], [1, 9], [2], [\"\"], [[]]}",
            "{{2}, {1, 9}, {1}, {}, {1, 2, 3}, {{}}, {true, 9}, {\"\"}}", "{{}, {true, 9}, {1}, {1, 2, 3}, {1, 9}, {2}, {\"\"}, {{}}}",
            "arb({[9], {1}})", "[9]", "arb({\"zz\", [1]})", "\"zz\"", "arb({a, \"\"})", "#1", "arb({9, a})", "9", "arb({9, true})", "true");
    }

    /** Values in THE ORDER, each of them against each: as members of sets, and by < where that goes. */
    private static void inOrder(boolean less, String... rising) {
        StringBuilder text = new StringBuilder("var a, b, s; a := newat; b := newat; s := [");
        for (int i = 0; i < rising.length; i++) {
            text.append(i == 0 ? "" : ", ").append(rising[i]);
        }
        ended(text + "];");
        due(7, "a row of values", x.state(2), 0);
        hold(12, "forall i in [1 .. # s], j in [1 .. # s] | (s(i) = s(j)) = (i = j)",
            "forall i in [1 .. # s], j in [i .. # s] | arb({s(j), s(i)}) = s(i)",
            "forall i in [1 .. # s], j in [i .. # s] | arb({[s(j)], [s(i)]}) = [s(i)]",
            "[for x in {for y in rev(s) : y} : x] = s", "[for x in {for y in s : {y}} : arb(x)] = s");
        if (less) {
            hold(12, "forall i in [1 .. # s], j in [1 .. # s] | (s(i) < s(j)) = (i < j)", "forall i in [1 .. # s], j in [1 .. # s] | (s(i) <= s(j)) = (i <= j)",
                "forall i in [1 .. # s], j in [1 .. # s] | (s(i) > s(j)) = (i > j)", "forall i in [1 .. # s], j in [1 .. # s] | (s(i) >= s(j)) = (i >= j)",
                "max / s = s(# s)", "min / s = s(1)", "max / rev(s) = s(# s)", "min / rev(s) = s(1)");
        }
        for (int i = 1; i < rising.length; i++) {
            work("s(" + i + ")");
            work("s(" + (i + 1) + ")");
            due(18, rising[i] + " behind " + rising[i - 1], x.order(), 1);
            work("s(" + i + ")");
            due(18, rising[i - 1] + " behind " + rising[i], x.order(), -1);
            work("s(" + i + ")");
            due(18, rising[i - 1] + " twice", x.order(), 0);
        }
    }

    private static void eachAgainstEach() {
        inOrder(true, "\"\"", "char(0)", "char(0) + char(0)", "\"A\"", "\"`z\"", "\"a\"", "\"a\" + char(0)", "\"aa\"", "\"aaa\"", "\"ab\"", "\"az\"", "\"b\"", "\"ba\"", "\"bz\"", "\"c\"", "\"ca\"", "char(127)", "char(128)", "char(255)", "char(255) * 2");
        inOrder(true, "\"abcd\"", "\"abcda\"", "\"abcde\"", "\"abcdef\"", "\"abcdefg\"", "\"abcdefgh\"", "\"abce\"", "\"abceabce\"", "\"abd\"", "\"abda\"", "\"ac\"", "\"b\"", "\"baaaaaaaa\"", "\"bb\"");
        inOrder(true, "- (2 ** 1000)", "- (2 ** 64)", "1 - 2 ** 64", "- (2 ** 33)", "- (2 ** 32)", "1 - 2 ** 32", "- (2 ** 31)", "-134217729", "-134217728", "-134217727", "-2", "-1", "0", "1", "2", "134217727", "134217728");
        inOrder(true, "134217728", "134217729", "2 ** 31 - 1", "2 ** 31", "2 ** 32 - 1", "2 ** 32", "2 ** 32 + 1", "2 ** 63", "2 ** 64 - 1", "2 ** 64", "2 ** 64 + 2 ** 31", "2 ** 64 + 2 ** 32", "2 ** 65", "2 ** 1000", "2 ** 1000 + 1");
        inOrder(false, "false", "true", "-1", "0", "2 ** 90", "a", "b", "\"\"", "\"z\"", "[]", "[om, 1]", "[false]", "[1]", "[1, om, 1]", "[1, 1]", "[[]]", "{}", "{true}", "{1}", "{1, 2}", "{2}", "{[]}", "{{}}");
        inOrder(false, "[]", "[om, om, 1]", "[om, false]", "[om, {}]", "[1]", "[1, om, 1]", "[1, 2]", "[1, 2, 3]", "[1, 3]", "[2]", "[a]", "[b]", "[\"\"]", "[\"a\"]", "[\"aa\"]", "[[1]]", "[[1], 1]", "[[1, 1]]", "[{}]");
        inOrder(false, "{}", "{false}", "{false, true}", "{true}", "{0}", "{0, 1}", "{0, 1, 2}", "{0, 2}", "{1}", "{1, a}", "{a}", "{a, b}", "{b}", "{\"a\"}", "{\"a\", \"aa\"}", "{\"aa\"}", "{[]}", "{{}}", "{{}, {{}}}", "{{0}}");
    }

    /** Digits: powers of ten and those before them, and wholes with zeros within. */
    private static void digitsOfWholes() {
        started("var a;");
        StringBuilder zeros = new StringBuilder();
        for (int k = 0; k < 59; k++) {
            exps(12, "1" + zeros, "1" + zeros, "- 1" + zeros, "-1" + zeros);
            zeros.append('0');
            exps(12, "1" + zeros + " - 1", zeros.toString().replace('0', '9'));
        }
        for (int from = 0; from <= 300; from += 20) {
            String range = "[" + from + " .. " + Math.min(from + 19, 308) + "]";
            hold(12, "forall k in " + range + " | str(10 ** k) = \"1\" + \"0\" * k", "forall k in " + range + " | str(10 ** k - 1) = \"9\" * k or k = 0",
                "forall k in " + range + " | str(- (10 ** k) - 1) = if k = 0 then \"-2\" else \"-1\" + \"0\" * (k - 1) + \"1\" end");
        }
        for (int n : new int[] {100000000, 99999999, 999999999, 1000000000, 1000000001, 100000001, 10000000, 134217727, 134217728, Integer.MAX_VALUE}) {
            BigInteger twice = BigInteger.valueOf(n).multiply(BigInteger.TEN.pow(9)).add(BigInteger.valueOf(n));
            exps(12, String.valueOf(n), String.valueOf(n), "- " + n, "-" + n, n + " * 10 ** 9 + " + n, twice.toString());
        }
    }

    public static void main(String[] args) {
        wholesOfManyBits();
        sizesOfWholes();
        wholesAtWordEnds();
        quotientsAtWordEnds();
        wholesAtRandom();
        strings();
        tuplesAndSets();
        writingToTheLastSize();
        heights();
        heightsOfWhatHolds();
        rowsWrittenOut();
        wordsToTheLastSize();
        formersToTheLastSize();
        omAtTheEnd();
        equalByWhatTheyHold();
        theOrder();
        eachAgainstEach();
        digitsOfWholes();
        finish();
    }
}
