import java.util.Random;

/**
 * Runs of 512 drawn calls, each answered by the class and by the plain model. The seeds are fixed: all runs are alike.
 * In every other run loans are small and due in the same few weeks, since the order of payments counts only there.
 */
public final class PlainModelTest {
    private static final int RUNS = 1500, CALLS = 512;
    private static final int[] WILD = {Integer.MIN_VALUE, Integer.MAX_VALUE, -1, 0, 1000, 1 << 20, -7};
    private static final Check check = new Check();
    private static Random random;
    private static YearsLent x;
    private static PlainModel y;
    private static int crowdedWeek;

    public static void main(String[] args) {
        for (int seed = 0; seed < RUNS; seed++) {
            random = new Random(seed);
            x = new YearsLent();
            y = new PlainModel();
            crowdedWeek = 0;
            int calls = 0;
            if (random.nextInt(8) > 0) {
                calls += layText(seed);
            }
            while (calls < CALLS) {
                if (random.nextInt(90) == 0) {
                    calls += layText(seed);
                } else {
                    calls++;
                    crowdedWeek = seed % 2 == 0 ? 0 : 6 - y.count(6) % 6;
                    anyCall("seed " + seed + ", call " + calls + ": ");
                }
            }
        }
        check.finish("PlainModelTest");
    }

    private static int number(int least, int greatest) {
        if (random.nextInt(60) == 0) {
            return WILD[random.nextInt(WILD.length)];
        }
        int edge = random.nextInt(40);
        return edge == 0 ? least - 1 : edge == 1 ? greatest + 1 : edge == 2 ? least : edge == 3 ? greatest
            : least + random.nextInt(greatest - least + 1);
    }

    private static int person() {
        return number(0, y.laid.length - 1);
    }

    private static int small(int greatest) {
        if (crowdedWeek > 0 && random.nextInt(4) > 0) {
            return number(1, 12);
        }
        return random.nextInt(3) == 0 ? number(1, greatest) : number(1, 25);
    }

    /** Of a crowded run most loans, whenever they are made, are due in the same week. */
    private static int dueIn() {
        return crowdedWeek > 0 && random.nextInt(4) > 0 ? crowdedWeek : small(200);
    }

    private static String item() {
        switch (random.nextInt(24)) {
            case 0: case 1: case 2: return "r" + number(0, 99) + ";";
            case 3: case 4: case 5: return "k" + random.nextInt(4) + ";";
            case 6: case 7: return "n1;";
            case 8: return "n" + random.nextInt(3) + ";";
            case 9: return random.nextInt(6) > 0 ? "p1;" : "p1,2;";
            case 10: return random.nextInt(6) > 0 ? "p" + number(1, 999) + ";" : "p" + (char) random.nextInt(256);
            default: return "p" + (1 + random.nextInt(random.nextInt(4) == 0 ? 999 : 70)) + ";";
        }
    }

    private static int layText(int seed) {
        StringBuilder text = new StringBuilder();
        int items = 1 + random.nextInt(9);
        for (int k = 0; k < items; k++) {
            text.append(item());
        }
        if (random.nextInt(5) > 0) {
            due("seed " + seed + " wipe()", x.wipe(), y.wipe());
        }
        int calls = 3;
        for (int start = 0; start < text.length(); start += 8) {
            int n = Math.min(8, text.length() - start);
            long v = random.nextLong();
            for (int k = 0; k < n; k++) {
                v = v << 8 | text.charAt(start + k);
            }
            due("seed " + seed + " write", x.write(n, v), y.write(n, v));
            calls++;
        }
        due("seed " + seed + " fault() of " + y.text, x.fault(), y.fault());
        due("seed " + seed + " lay() of " + y.text, x.lay(), y.lay());
        return calls;
    }

    private static void anyCall(String at) {
        int a = person(), b = person(), n = small(200), d = dueIn(), what = number(0, 3);
        String with = "(" + a + ", " + b + ", " + n + ", " + d + ", " + what + ")";
        switch (random.nextInt(38)) {
            case 0: case 1: case 2: case 3: case 4: case 5:
                due(at + "lend" + with, x.lend(a, b, n, d), y.lend(a, b, n, d));
                break;
            case 6: case 7: case 8: due(at + "week", x.week(), y.week()); break;
            case 9: due(at + "undo", x.undo(), y.undo()); break;
            case 10: due(at + "person" + with, x.person(a, what), y.person(a, what)); break;
            case 11: due(at + "loan" + with, x.loan(n - 1, what), y.loan(n - 1, what)); break;
            case 12: case 13: due(at + "notary" + with, x.notary(a, b, n, d), y.notary(a, b, n, d)); break;
            case 14: due(at + "dies" + with, x.dies(a), y.dies(a)); break;
            case 15: case 16: {
                int weeks = random.nextInt(9) == 0 ? number(0, 2000) : number(0, 60);
                due(at + "run " + weeks + with, x.run(weeks, a, what), y.run(weeks, a, what));
                break;
            }
            case 17: case 18: {
                boolean yes = random.nextInt(3) > 0 == (y.laid.length > 0 && a >= 0 && a < y.laid.length && y.laid[a] > d);
                due(at + "tell" + with + yes, x.tell(a, n, d, yes), y.tell(a, n, d, yes));
                break;
            }
            case 19: if (random.nextInt(5) == 0) due(at + "forget", x.forget(), y.forget()); break;
            case 20: case 21: due(at + "span" + with, x.span(a, what / 2), y.span(a, what / 2)); break;
            case 22: due(at + "ask" + with, x.ask(a, n), y.ask(a, n)); break;
            case 23: due(at + "bribed", x.bribed(), y.bribed()); break;
            case 24: due(at + "cleared", x.cleared(-1, -1), y.cleared(-1, -1)); break;
            case 25: due(at + "cleared" + with, x.cleared(a, b), y.cleared(a, b)); break;
            case 26: case 27: due(at + "child" + with, x.child(n, a), y.child(n, a)); break;
            case 28: case 29: due(at + "falls 0" + with, x.falls(a, 0), y.falls(a, 0)); break;
            case 30: case 31: due(at + "falls 1" + with, x.falls(a, 1), y.falls(a, 1)); break;
            case 32: oneBurned(at); break;
            case 33: case 34: {
                int z = number(0, 9999), t = number(1, 60), w = random.nextInt(2);
                due(at + "drawn " + z + " " + t, x.drawn(z, t, w), y.drawn(z, t, w));
                break;
            }
            case 35: due(at + "keep", x.keep(), y.keep()); break;
            case 36: if (random.nextInt(3) == 0) due(at + "back", x.back(), y.back()); break;
            default: wholeState(at);
        }
    }

    private static void oneBurned(String at) {
        int n = number(2, 4), m = number(1, 12), s = random.nextInt(4) == 0 ? number(0, 999) : number(2, 30), i = number(-1, 3);
        due(at + "burned " + n + " " + m + " " + s + " " + i, x.burned(n, m, s, i), y.burned(n, m, s, i));
    }

    private static void wholeState(String at) {
        for (int what = -1; what <= 7; what++) {
            due(at + "count " + what, x.count(what), y.count(what));
        }
        for (int i = 0; i < 6; i++) {
            for (int what = 0; what < 3; what++) {
                due(at + "person " + i + " " + what, x.person(i, what), y.person(i, what));
            }
        }
    }

    private static void due(String call, long got, long want) {
        check.due(call, got, want);
    }
}
