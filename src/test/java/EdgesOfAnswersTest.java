import java.util.ArrayList;
import java.util.List;

/** What BAD, NO, NONE and FULL are of, which of them goes first, and that nothing changes by them or by asking. */
public final class EdgesOfAnswersTest {
    private static final int BAD = -1, NO = -2, FULL = -3, NONE = -4;
    private static final Check check = new Check();

    private interface Call {
        int on(YearsLent x);
    }

    private record Named(String name, Call call, boolean asksOnly) {}

    public static void main(String[] args) {
        whatIsBad();
        whatIsNo();
        whatIsNone();
        whatIsFull();
        whichGoesFirst();
        nothingChanges();
        check.finish("EdgesOfAnswersTest");
    }

    /** All is full: 8 LOANS, 12 TOLD, 2 KEPT, 6 that can be UNDONE, 300 bytes with a FAULT, one DEAD. */
    private static YearsLent full() {
        YearsLent x = Check.laid("p90;p60;p3;p40;r50;n1;k2;");
        x.lend(0, 3, 20, 2);
        x.keep();
        Check.weeks(x, 3);
        for (int k = 0; k < 7; k++) {
            x.lend(k % 2, 1 - k % 2, 1 + k, 20 + k);
        }
        x.keep();
        x.week();
        x.lend(1, 3, 4, 2);
        for (int k = 0; k < 12; k++) {
            x.tell(k % 4, 10, 30 + k, k % 3 == 0);
        }
        for (int k = 0; k < 34; k++) {
            x.write(8, -1);
        }
        x.write(3, -1);
        return x;
    }

    /** Some of each, a TEXT that can be LAID, and 1 with one WEEK left who has nothing to give. */
    private static YearsLent some() {
        YearsLent x = Check.laid("p50;p2;p70;r20;n0;k3;");
        x.week();
        x.lend(0, 2, 10, 5);
        x.lend(2, 0, 9, 6);
        x.keep();
        x.tell(0, 10, 20, true);
        x.tell(0, 10, 10, false);
        return x;
    }

    private static YearsLent dead() {
        YearsLent x = Check.laid("p2;p3;r10;n1;k1;");
        x.lend(1, 0, 1, 9);
        Check.weeks(x, 9);
        x.wipe();
        return x;
    }

    private static List<YearsLent> states() {
        List<YearsLent> all = new ArrayList<>();
        all.add(new YearsLent());
        all.add(full());
        all.add(some());
        all.add(dead());
        return all;
    }

    private static void whatIsBad() {
        says("BAD: a number is none that is told (PERSONS: such as there are).");
        YearsLent x = Check.laid("p9;p9;p9;");
        for (int i = 0; i < 3; i++) {
            due("there is " + i, x.person(i, 0), 9);
        }
        for (int i = 3; i < 8; i++) {
            due("there is no " + i + ": person", x.person(i, 0), BAD);
            due("there is no " + i + ": notary", x.notary(i, 0, 1, 1), BAD);
            due("there is no " + i + ": notary", x.notary(0, i, 1, 1), BAD);
            due("there is no " + i + ": lend", x.lend(i, 0, 1, 1), BAD);
            due("there is no " + i + ": lend", x.lend(0, i, 1, 1), BAD);
            due("there is no " + i + ": dies", x.dies(i), BAD);
            due("there is no " + i + ": run", x.run(1, i, 0), BAD);
            due("there is no " + i + ": tell", x.tell(i, 1, 1, true), BAD);
            due("there is no " + i + ": span", x.span(i, 0), BAD);
            due("there is no " + i + ": ask", x.ask(i, 1), BAD);
            due("there is no " + i + ": cleared", x.cleared(i, 0), BAD);
            due("there is no " + i + ": cleared", x.cleared(0, i), BAD);
            due("there is no " + i + ": child", x.child(1, i), BAD);
            due("there is no " + i + ": falls", x.falls(i, 0), BAD);
        }
        beyondSix();
        x = dead();
        due("one who is DEAD is a PERSON: person", x.person(0, 0), 0);
        due("one who is DEAD is a PERSON: dies", x.dies(0), 0);
        due("one who is DEAD is a PERSON: run", x.run(1, 0, 0), 0);
        due("one who is DEAD is a PERSON: tell", x.tell(0, 1, 1, true), 1);
        due("one who is DEAD is a PERSON: span", x.span(0, 0), 2);
        due("one who is DEAD is a PERSON: ask", x.ask(0, 1), 200);
        due("one who is DEAD is a PERSON: cleared", x.cleared(0, 1), 0);
    }

    private static void beyondSix() {
        YearsLent x = Check.laid("p9;p9;p9;p9;p9;p9;");
        for (int i : new int[] {6, 7, 8, Integer.MAX_VALUE}) {
            due("of six there is no " + i + ": person", x.person(i, 0), BAD);
            due("of six there is no " + i + ": notary", x.notary(i, 0, 1, 1), BAD);
            due("of six there is no " + i + ": notary", x.notary(0, i, 1, 1), BAD);
            due("of six there is no " + i + ": lend", x.lend(i, 0, 1, 1), BAD);
            due("of six there is no " + i + ": lend", x.lend(0, i, 1, 1), BAD);
            due("of six there is no " + i + ": dies", x.dies(i), BAD);
            due("of six there is no " + i + ": run", x.run(1, i, 0), BAD);
            due("of six there is no " + i + ": tell", x.tell(i, 1, 1, true), BAD);
            due("of six there is no " + i + ": span", x.span(i, 0), BAD);
            due("of six there is no " + i + ": ask", x.ask(i, 1), BAD);
            due("of six there is no " + i + ": cleared", x.cleared(i, i), BAD);
            due("of six there is no " + i + ": child", x.child(1, i), BAD);
            due("of six there is no " + i + ": falls", x.falls(i, 0), BAD);
        }
        due("of six there is 5: child", x.child(6, 5), 1);
        due("of six there is 5: falls", x.falls(5, 0), 0);
        due("of six there is 5: notary", x.notary(5, 4, 1, 1), 1);
    }

    private static void whatIsNo() {
        says("NO: not as things stand.");
        YearsLent x = new YearsLent();
        due("lay()", x.lay(), NO);
        due("lend()", x.lend(0, 1, 50, 1), NO);
        due("undo()", x.undo(), NO);
        due("child()", Check.laid("p9;").child(9, 0), NO);
        due("back()", x.back(), NO);
    }

    private static void whatIsNone() {
        says("NONE: there is none.");
        YearsLent x = new YearsLent();
        due("fault()", x.fault(), NONE);
        due("falls()", x.falls(0, 1), NONE);
        due("burned()", x.burned(2, 1, 1, 0), NONE);
        x.tell(0, 1, 1, true);
        x.tell(0, 1, 1, false);
        due("span()", x.span(0, 0), NONE);
        due("ask()", x.ask(0, 1), NONE);
    }

    private static void whatIsFull() {
        says("NONE: there is none. FULL.");
        YearsLent x = full();
        int[] counts = {4, 8, 12, 6, 2, 300};
        for (int what = 0; what < counts.length; what++) {
            due("count(" + what + ")", x.count(what), counts[what]);
        }
        due("write()", x.write(1, 0), FULL);
        due("lend()", x.lend(0, 1, 1, 1), FULL);
        due("tell()", x.tell(0, 1, 1, true), FULL);
        due("keep()", x.keep(), FULL);
    }

    private static void whichGoesFirst() {
        says("Of several the first in this order, whatever the order at a call; nothing changes then.");
        YearsLent x = full();
        due("BAD ahead of FULL: write", x.write(9, 0), BAD);
        due("BAD ahead of FULL: lend", x.lend(0, 0, 1, 1), BAD);
        due("BAD ahead of FULL: lend of one who is DEAD", x.lend(0, 2, 1, 1), BAD);
        due("BAD ahead of FULL: tell", x.tell(4, 1, 1, true), BAD);
        due("BAD ahead of FULL: tell", x.tell(0, 201, 1, true), BAD);
        due("NO ahead of FULL: lend", x.lend(0, 1, 200, 1), NO);
        due("BAD ahead of NO and FULL: lend", x.lend(0, 1, 201, 1), BAD);
        due("BAD ahead of NO: child", x.child(99, 2), BAD);
        due("BAD ahead of NO: child", Check.laid("p9;").child(100, 0), BAD);
        due("BAD ahead of NO: lend", Check.laid("p1;p1;n2;").lend(0, 0, 1, 1), BAD);
        x = some();
        due("span() is NONE", x.span(0, 0), NONE);
        due("BAD ahead of NONE: span", x.span(0, 2), BAD);
        due("BAD ahead of NONE: ask", x.ask(0, 201), BAD);
        due("BAD ahead of NONE: burned", x.burned(2, 1, 999, 2), BAD);
        due("BAD ahead of NONE: falls", new YearsLent().falls(0, 2), BAD);
    }

    private static void nothingChanges() {
        for (Named named : calls()) {
            List<YearsLent> called = states();
            List<YearsLent> left = states();
            for (int s = 0; s < called.size(); s++) {
                int answer = named.call.on(called.get(s));
                if (answer < 0 || named.asksOnly) {
                    due("nothing changes by " + named.name + " (" + answer + ") in state " + s,
                        trace(called.get(s)).equals(trace(left.get(s))) ? 1 : 0, 1);
                }
            }
        }
    }

    /** All that can be seen, then each deed UNDONE and each of the books KEPT seen, too, then what lay() does. */
    private static List<Integer> trace(YearsLent x) {
        List<Integer> seen = new ArrayList<>();
        look(x, seen);
        for (int i = 0; i < 4; i++) {
            seen.add(x.span(i, 0));
            seen.add(x.span(i, 1));
            seen.add(x.ask(i, 10));
            seen.add(x.run(30, i, 0));
            seen.add(x.notary(i, (i + 1) % 4, 5, 9));
            seen.add(x.falls(i, 0));
            seen.add(x.falls(i, 1));
            seen.add(x.child(7, i));
            seen.add(x.dies(i));
            seen.add(x.cleared(i, (i + 1) % 4));
        }
        seen.add(x.drawn(77, 20, 0));
        seen.add(x.drawn(77, 20, 1));
        seen.add(x.bribed());
        seen.add(x.fault());
        for (int k = 0; k < 7; k++) {
            seen.add(x.undo());
            seen.add(x.person(0, 0));
            seen.add(x.person(1, 0));
            seen.add(x.count(1));
        }
        for (int k = 0; k < 3; k++) {
            seen.add(x.back());
            look(x, seen);
        }
        seen.add(x.lay());
        seen.add(x.person(0, 0));
        seen.add(x.wipe());
        return seen;
    }

    private static void look(YearsLent x, List<Integer> seen) {
        for (int what = 0; what < 7; what++) {
            seen.add(x.count(what));
        }
        for (int i = 0; i < 4; i++) {
            for (int what = 0; what < 3; what++) {
                seen.add(x.person(i, what));
            }
        }
        for (int k = 0; k < 8; k++) {
            for (int what = 0; what < 4; what++) {
                seen.add(x.loan(k, what));
            }
        }
    }

    private static List<Named> calls() {
        List<Named> all = new ArrayList<>();
        deeds(all);
        askings(all);
        return all;
    }

    private static void deeds(List<Named> all) {
        int[] numbers = {Integer.MIN_VALUE, -1, 0, 1, 2, 4, 6, 200, 201, Integer.MAX_VALUE};
        for (int n : numbers) {
            all.add(new Named("write(" + n + ", -1)", x -> x.write(n, -1), false));
            all.add(new Named("lend(" + n + ", 1, 1, 1)", x -> x.lend(n, 1, 1, 1), false));
            all.add(new Named("lend(0, " + n + ", 1, 1)", x -> x.lend(0, n, 1, 1), false));
            all.add(new Named("lend(0, 1, " + n + ", 1)", x -> x.lend(0, 1, n, 1), false));
            all.add(new Named("lend(0, 1, 1, " + n + ")", x -> x.lend(0, 1, 1, n), false));
            all.add(new Named("tell(" + n + ", 1, 1, true)", x -> x.tell(n, 1, 1, true), false));
            all.add(new Named("tell(0, " + n + ", 1, true)", x -> x.tell(0, n, 1, true), false));
            all.add(new Named("tell(0, 1, " + n + ", false)", x -> x.tell(0, 1, n, false), false));
        }
        all.add(new Named("lay()", x -> x.lay(), false));
        all.add(new Named("undo()", x -> x.undo(), false));
        all.add(new Named("keep()", x -> x.keep(), false));
        all.add(new Named("back()", x -> x.back(), false));
    }

    private static void askings(List<Named> all) {
        for (int a : new int[] {Integer.MIN_VALUE, -1, 0, 1, 2, 3, 5, Integer.MAX_VALUE}) {
            for (int b : new int[] {-1, 0, 1, 2, 7}) {
                String with = "(.. " + a + ", " + b + " ..)";
                all.add(new Named("person" + with, x -> x.person(a, b), true));
                all.add(new Named("loan" + with, x -> x.loan(a, b), true));
                all.add(new Named("notary" + with, x -> x.notary(a, b, 5, 5), true));
                all.add(new Named("run" + with, x -> x.run(50, a, b), true));
                all.add(new Named("span" + with, x -> x.span(a, b), true));
                all.add(new Named("ask" + with, x -> x.ask(a, b), true));
                all.add(new Named("cleared" + with, x -> x.cleared(a, b), true));
                all.add(new Named("child" + with, x -> x.child(b, a), true));
                all.add(new Named("falls" + with, x -> x.falls(a, b), true));
                all.add(new Named("burned" + with, x -> x.burned(3, a, 9, b), true));
                all.add(new Named("drawn" + with, x -> x.drawn(a, 40, b), true));
            }
            all.add(new Named("dies(" + a + ")", x -> x.dies(a), true));
            all.add(new Named("count(" + a + ")", x -> x.count(a), true));
        }
        all.add(new Named("fault()", x -> x.fault(), true));
        all.add(new Named("bribed()", x -> x.bribed(), true));
    }

    private static void says(String words) {
        check.says(words);
    }

    private static void due(String call, long got, long want) {
        check.due(call, got, want);
    }
}
