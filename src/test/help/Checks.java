import java.nio.charset.StandardCharsets;

/** What the tests have in common: texts onto the tape, answers as texts, and a count of what is not as due. */
abstract class Checks {
    private static int wrong = 0;
    private static int checks = 0;

    /** The object that is tested now. */
    static House x;

    interface Call {
        long answer();
    }

    interface Deed {
        void run();
    }

    // ------------------------------------------------ what is due

    static void due(int promise, String what, Object got, Object want) {
        checks++;
        if (!String.valueOf(got).equals(String.valueOf(want))) {
            wrong++;
            System.out.println("promise " + promise + ": " + shortened(what) + " answered " + shortened(String.valueOf(got))
                + ", due is " + shortened(String.valueOf(want)));
        }
    }

    static String shortened(String text) {
        return text.length() <= 240 ? text : text.substring(0, 160) + " .. " + text.substring(text.length() - 70);
    }

    /** Ends the test, with exit code 1 if something was not as due. */
    static void finish() {
        System.out.println(checks + " checks, " + wrong + " wrong");
        if (wrong != 0) {
            System.exit(1);
        }
    }

    /** An answer, or the name of the exception that the call throws. */
    static String tried(Call call) {
        try {
            return String.valueOf(call.answer());
        } catch (RuntimeException e) {
            return e.getClass().getSimpleName();
        }
    }

    static void throwsDue(int promise, String what, String exception, Call call) {
        due(promise, what, tried(call), exception);
    }

    /** A call that throws, and changes nothing that can be asked for. */
    static void refused(int promise, String what, String exception, Call call) {
        String before = everything();
        due(promise, what, tried(call), exception);
        due(promise, what + " changes nothing", everything(), before);
    }

    static String everything() {
        StringBuilder b = new StringBuilder(shown());
        b.append('|').append(x.fault()).append(' ').append(x.order());
        for (int i = 0; i <= 4; i++) {
            b.append(' ').append(x.count(i));
        }
        for (int i = 0; i <= 3; i++) {
            b.append(' ').append(x.shape(i));
        }
        for (int i = 0; i <= 9; i++) {
            int what = i;
            b.append(' ').append(tried(() -> x.state(what)));
        }
        return b.toString();
    }

    // ------------------------------------------------ texts

    /** A text behind what is on the tape. */
    static void feed(String text) {
        byte[] t = text.getBytes(StandardCharsets.ISO_8859_1);
        int before = x.count(0);
        for (int i = 0; i < t.length; i += 20) {
            int[] a = new int[5];
            for (int k = 0; k < 20; k++) {
                a[k / 4] = a[k / 4] << 8 | (i + k < t.length ? t[i + k] & 255 : 32);
            }
            x.feed(a[0], a[1], a[2], a[3], a[4]);
        }
        x.end(before + t.length);
    }

    static String repeated(String s, int n) {
        return s.repeat(n);
    }

    static String text(int... bytes) {
        StringBuilder b = new StringBuilder();
        for (int c : bytes) {
            b.append((char) c);
        }
        return b.toString();
    }

    /** prefix0, prefix1 and so on, with a comma between. */
    static String names(String prefix, int n) {
        StringBuilder b = new StringBuilder();
        for (int i = 0; i < n; i++) {
            b.append(i == 0 ? "" : ", ").append(prefix).append(i);
        }
        return b.toString();
    }

    // ------------------------------------------------ programs

    static int program(String text) {
        feed(text);
        return x.program();
    }

    static void fresh(String text) {
        x = new House();
        int statements = program(text);
        if (statements < 0) {
            due(4, "a text without a fault: " + text, x.fault() + " at " + (-1 - statements), "0");
        }
    }

    static void started(String text) {
        fresh(text);
        x.start(1);
    }

    static void ended(String text) {
        started(text);
        x.step(20000);
    }

    /** The fault's code and place, or how many statements there are. */
    static String read(String text) {
        x = new House();
        int answer = program(text);
        return answer < 0 ? x.fault() + " at " + (-1 - answer) : x.fault() == 0 ? String.valueOf(answer) : "fault " + x.fault();
    }

    static void accepted(String text, int statements) {
        due(4, text, read(text), String.valueOf(statements));
    }

    static void faulty(String text, int code, int place) {
        due(5, text, read(text), code + " at " + place);
    }

    /** What a program prints, a line's end as / ; behind it an error as !n at its place. */
    static String run(String text) {
        x = new House();
        int n = program(text);
        if (n < 0) {
            return "?" + x.fault() + " at " + (-1 - n);
        }
        x.start(1);
        for (int i = 0; i < 20 && x.step(20000) == 0; i++) {
            continue;
        }
        String error = x.state(2) == 0 ? "" : "!" + x.state(2) + " at " + x.state(3);
        return output().replace("\n", "/") + error;
    }

    static void prints(int promise, String text, String want) {
        due(promise, text, run(text), want);
    }

    /** A program with an error at the statement that stands behind the sign @ , and what it prints before. */
    static void errs(int promise, String text, String printed, int error) {
        prints(promise, text.replace("@", ""), printed + "!" + error + " at " + text.indexOf('@'));
    }

    static String output() {
        StringBuilder b = new StringBuilder();
        for (int i = 0; i < Math.min(60000, x.state(1)); i++) {
            b.append((char) x.out(i));
        }
        return b.toString();
    }

    /** All that state() tells. */
    static String stateRow() {
        StringBuilder b = new StringBuilder();
        for (int what = 0; what <= 9; what++) {
            b.append(what == 0 ? "" : " ").append(x.state(what));
        }
        return b.toString();
    }

    // ------------------------------------------------ what is shown

    static String shown() {
        StringBuilder b = new StringBuilder();
        for (int i = 0; !tried(at(i)).equals("IndexOutOfBoundsException"); i++) {
            b.append((char) x.shown(i));
        }
        return b.toString();
    }

    private static Call at(int i) {
        return () -> x.shown(i);
    }

    static int work(String exp) {
        feed(exp);
        return x.work();
    }

    static String value(String name) {
        feed(name);
        x.value();
        return shown();
    }

    static String seen(int view, int which) {
        int n = x.seen(view, which);
        return shown().length() == n ? shown() : "length " + n;
    }

    /** What an exp is as printed; an error as !n, a fault as ?code at place. */
    static String worked(String exp) {
        int n = work(exp);
        if (n >= 0) {
            String s = shown();
            return s.length() == n ? s : "length " + n + " of " + s;
        }
        return n > -100 ? "!" + (-1 - n) : "?" + x.fault() + " at " + (-100 - n);
    }

    /** Exps, each with what it is. */
    static void exps(int promise, String... pairs) {
        for (int i = 0; i + 1 < pairs.length; i += 2) {
            due(promise, pairs[i], worked(pairs[i]), pairs[i + 1]);
        }
    }

    /** Exps that are all true. */
    static void hold(int promise, String... exps) {
        for (String exp : exps) {
            due(promise, exp, worked(exp), "true");
        }
    }

    /** Exps that all have this error. */
    static void err(int promise, int error, String... exps) {
        for (String exp : exps) {
            due(promise, exp, worked(exp), "!" + error);
        }
    }

    static void workCounted(String exp, int want) {
        int n = work(exp);
        due(17, "WORK of " + exp + " (" + n + ")", x.shape(3), want);
    }
}
