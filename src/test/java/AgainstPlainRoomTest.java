import java.util.Random;
import java.util.TreeMap;

/** Long runs of calls, the same ones every time, on DrawerRoom and on PlainRoom side by side. */
public final class AgainstPlainRoomTest {
    private static final int RUNS = 1600;
    private static final int CALLS = 512;

    private final Random random;
    private final int seed;
    private final DrawerRoom room;
    private final PlainRoom plain;
    private final StringBuilder told = new StringBuilder();
    private static final TreeMap<String, Integer> SEEN = new TreeMap<>();
    private static int wrong = 0;

    private final int spread;
    private final int boldness;
    private final int nightly;
    // A clerk who seldom gets a step, so that others meet what he left half done.
    private final int lazy;
    private final boolean dense;
    private final boolean two;
    private int lastHeading = 0;

    private AgainstPlainRoomTest(int seed) {
        this.seed = seed;
        random = new Random(seed);
        int b = seed % 3 == 0 || seed % 8 == 6 ? 2 : random.nextInt(9) - 1;
        room = new DrawerRoom(b);
        plain = new PlainRoom(b);
        int[] spreads = {3, 8, 20, 60, 200, 10000};
        spread = spreads[random.nextInt(spreads.length)];
        boldness = random.nextInt(4);
        nightly = random.nextInt(3);
        lazy = random.nextInt(seed % 4 == 0 ? 4 : 8);
        dense = seed % 2 == 0;
        two = seed % 8 == 2;
        told.append("new DrawerRoom(").append(b).append(")\n");
    }

    public static void main(String[] args) {
        for (int seed = 0; seed < RUNS && wrong < 3; seed++) {
            new AgainstPlainRoomTest(seed).run();
        }
        String[] due = {
            "a bad drawer", "an unsound line", "a line that can't be asked", "a row found", "a row found with a step of none",
            "no row found", "a fall with a new top", "a night of three levels", "a night of one leaf", "a guide parted",
            "a clerk kept waiting", "a rising clerk kept waiting", "120 jobs", "a rule of four parts", "a rule refused late",
            "a heading that rises twice", "cards out of order", "a row in another order than the jobs began",
            "a rising clerk without a top above", "a drawer passed on by its thread while held", "a guide with one child", "a guide with a heading twice",
            "a guide out of order"};
        for (String what : due) {
            if (!SEEN.containsKey(what)) {
                wrong++;
                System.out.println("the runs never showed " + what);
            }
        }
        System.out.println("AgainstPlainRoomTest: " + SEEN);
        if (wrong != 0) System.exit(1);
    }

    private static void seen(String what) {
        SEEN.merge(what, 1, Integer::sum);
    }

    private void due(String call, int got, int want) {
        told.append(call).append(" = ").append(want).append('\n');
        if (got == want) return;
        wrong++;
        if (wrong <= 3) {
            System.out.println("seed " + seed + ":\n" + told + "but the answer was " + got);
        }
    }

    private void run() {
        if (random.nextInt(3) > 0) callRule();
        for (int clerk = 0; clerk < 4; clerk++) {
            if (random.nextInt(4) < boldness) callFault(clerk, random.nextInt(3));
        }
        if (seed % 8 == 6) breakTheTop();
        else if (dense) fillFirst();
        for (int i = 0; i < CALLS && wrong == 0; i++) {
            if (dense && random.nextInt(3) > 0) crowdedCall();
            else oneCall();
            if (i % 8 == 0 || i == CALLS - 1) compareAll();
        }
    }

    /** Full drawers part at the next card, so what happens above the leaves is seen more often. */
    private void fillFirst() {
        int cards = random.nextInt(seed % 4 == 0 ? 6 : 30);
        for (int i = 0; i < cards; i++) {
            int clerk = random.nextInt(4);
            int heading = heading();
            due("begin(" + clerk + ", 1, " + heading + ")", room.begin(clerk, 1, heading), plain.begin(clerk, 1, heading));
            due("step(" + clerk + ", 30)", room.step(clerk, 30), plain.step(clerk, 30));
        }
        int f = 2 * plain.b;
        if (random.nextInt(3) > 0) due("night(" + f + ")", room.night(f), plain.night(f));
    }

    /**
     * Clerk 0 parts the top guide without a latch and stays there, clerks who ask for no cover write
     * into it what it doesn't cover, and it falls: so a guide's headings come out of order.
     */
    private void breakTheTop() {
        for (int clerk = 0; clerk < 4; clerk++) callFault(clerk, clerk == 0 ? 2 : clerk == 3 ? 0 : 1);
        for (int i = 0; i < 20; i++) fileAt(3, 50 + 500 * i, 30);
        due("night(4)", room.night(4), plain.night(4));
        fileAt(0, random.nextInt(10000), 1);
        for (int i = 0; i < 12 && !isParted(0); i++) takeSteps(0, 1);
        for (int i = 0; i < 30 && isParted(0); i++) {
            int clerk = 1 + random.nextInt(2);
            if (plain.clerk(clerk, 0) == 0) fileAt(clerk, random.nextInt(10000), 1);
            for (int k = 0; k < 12 && plain.clerk(clerk, 0) != 0 && !isParted(clerk); k++) takeSteps(clerk, 1);
            if (isParted(clerk)) callFall();
        }
    }

    private void fileAt(int clerk, int heading, int steps) {
        due("begin(" + clerk + ", 1, " + heading + ")", room.begin(clerk, 1, heading), plain.begin(clerk, 1, heading));
        takeSteps(clerk, steps);
    }

    private boolean isParted(int clerk) {
        return plain.clerk(clerk, 0) == 4 && plain.clerk(clerk, 1) == plain.count(3);
    }

    private void crowdedCall() {
        int clerk = random.nextInt(two ? 2 : 4);
        int at = plain.clerk(clerk, 0);
        if (clerk == lazy && at != 0 && random.nextInt(at == 4 ? 100 : 3) > 0) clerk = (clerk + 1) % 4;
        if (two && plain.count(6) == 2 && random.nextInt(12) == 0) callFound();
        if (plain.clerk(clerk, 0) == 0) {
            int kind = random.nextInt(10) < 8 ? 1 : 2 * random.nextInt(2);
            int heading = heading();
            due("begin(" + clerk + ", " + kind + ", " + heading + ")",
                room.begin(clerk, kind, heading), plain.begin(clerk, kind, heading));
        } else {
            takeSteps(clerk, random.nextInt(4) > 0 ? 1 : 1 + random.nextInt(4));
        }
    }

    private void oneCall() {
        int dice = random.nextInt(100);
        if (dice < 30) callBegin();
        else if (dice < 68) callStep();
        else if (dice < 69) callRule();
        else if (dice < 71) callFault(random.nextInt(6) - 1, random.nextInt(5) - 1);
        else if (dice < 74) callFound();
        else if (dice < 76) callFall();
        else if (dice < 79) callNight();
        else if (dice < 84) callLine();
        else if (dice < 88) callThere();
        else callSmall();
    }

    private int heading() {
        int dice = random.nextInt(40);
        if (dice == 0) return random.nextInt(12000) - 1000;
        if (dice == 1) return random.nextBoolean() ? -1 : 10000;
        if (dice == 2) return random.nextBoolean() ? 0 : 9999;
        if (dice < 10) return lastHeading;
        if (dice < 14) return Math.floorMod(lastHeading + random.nextInt(5) - 2, 10000);
        int step = spread <= 60 ? 37 : 1;
        lastHeading = random.nextInt(spread) * step % 10000;
        return lastHeading;
    }

    private int wild() {
        int[] some = {Integer.MIN_VALUE, Integer.MAX_VALUE, -2, -1, 0, 1, 2, 5, 255, 256, 1 << 30};
        return some[random.nextInt(some.length)];
    }

    private int clerk() {
        return random.nextInt(30) == 0 ? wild() : random.nextInt(4);
    }

    private void callRule() {
        StringBuilder text = new StringBuilder();
        if (random.nextInt(4) == 0) {
            String signs = "abcd+-; x;abcd+- ";
            for (int i = 0; i < 20; i++) text.append(signs.charAt(random.nextInt(signs.length())));
        } else {
            int first = random.nextInt(4);
            int parts = random.nextInt(5);
            for (int i = 0; i < parts; i++) {
                if (random.nextInt(4) == 0) text.append(' ');
                text.append((char) ('a' + (first + i * (first % 2 == 0 ? 1 : 3)) % 4));
                if (random.nextInt(4) == 0) text.append(' ');
                text.append(random.nextBoolean() ? '+' : '-');
            }
            text.append(random.nextInt(12) == 0 ? "a" : ";");
            if (random.nextInt(12) == 0) text.append((char) (128 + random.nextInt(128)));
        }
        int n = random.nextInt(10) == 0 ? random.nextInt(24) - 2 : Math.min(20, text.length());
        while (text.length() < 20) text.append(random.nextInt(20) == 0 ? ';' : ' ');
        int[] w = new int[5];
        for (int i = 0; i < 20; i++) w[i / 4] = w[i / 4] << 8 | text.charAt(i);
        int want = plain.rule(n, w[0], w[1], w[2], w[3], w[4]);
        if (want == -1 && !plain.jobs.isEmpty()) seen("a rule refused late");
        if (plain.count(8) == 4) seen("a rule of four parts");
        due("rule(" + n + ", " + w[0] + ", " + w[1] + ", " + w[2] + ", " + w[3] + ", " + w[4] + ")",
            room.rule(n, w[0], w[1], w[2], w[3], w[4]), want);
    }

    private void callFault(int clerk, int fault) {
        due("fault(" + clerk + ", " + fault + ")", room.fault(clerk, fault) ? 1 : 0, plain.fault(clerk, fault) ? 1 : 0);
    }

    private void callBegin() {
        int clerk = clerk();
        int dice = random.nextInt(20);
        int kind = dice == 0 ? wild() : dice < 12 ? 1 : dice < 16 ? 2 : 0;
        int heading = heading();
        int want = plain.begin(clerk, kind, heading);
        if (plain.jobs.size() == 120) seen("120 jobs");
        due("begin(" + clerk + ", " + kind + ", " + heading + ")", room.begin(clerk, kind, heading), want);
    }

    private void callStep() {
        int clerk = clerk();
        for (int i = 0; i < 4 && plain.clerk(clerk, 0) == 0; i++) clerk = (clerk + 1) % 4;
        if (clerk == lazy && plain.clerk(clerk, 0) == 4 && random.nextInt(20) > 0) return;
        int dice = random.nextInt(20);
        takeSteps(clerk, dice == 0 ? wild() : dice < 8 ? 30 : 1 + random.nextInt(4));
    }

    private void takeSteps(int clerk, int n) {
        int at = plain.clerk(clerk, 0);
        int drawer = plain.clerk(clerk, 1);
        int level = plain.drawer(drawer, 1);
        int used = plain.count(4);
        if (at == 3 && level > 0 && n == 1) {
            PlainRoom.Clerk c = plain.clerks[clerk];
            if (c.copy.headings.contains(c.rising)) seen("a heading that rises twice");
            if (c.copy.headings.size() == 2 * plain.b) seen("a full guide written");
        }
        int want = plain.step(clerk, n);
        if (want > 0 && plain.clerk(clerk, 0) == at && plain.clerk(clerk, 1) == drawer) {
            if (at == 4 && plain.drawer(plain.count(3), 1) == level && n == 1) seen("a rising clerk without a top above");
            else if (at == 4) seen("a rising clerk kept waiting");
            else seen("a clerk kept waiting");
        }
        if (at == 2 && want == 1 && plain.clerk(clerk, 0) == 2 && plain.clerk(clerk, 1) != drawer) {
            seen("a drawer passed on by its thread while held");
        }
        if (at == 3 && level > 0 && plain.count(4) > used) seen("a guide parted");
        if (at == 3 && level > 0 && want == 1 && plain.clerk(clerk, 0) == 0 && plain.count(4) == used) {
            seen("a guide written");
        }
        due("step(" + clerk + ", " + n + ")", room.step(clerk, n), want);
    }

    private void callFound() {
        // The plain room copies all for each step, so long rows are asked for less often.
        int n = random.nextInt(12) == 0 ? wild() : 1 + random.nextInt(random.nextInt(5) == 0 ? 8 : 6);
        int k = random.nextInt(4) == 0 ? wild() : random.nextInt(10) - 1;
        int want = plain.found(n, k);
        int any = plain.found(n, -1);
        if (any == 1) {
            seen("a row found");
            if (n >= 1 && plain.found(n, n - 1) == -1) seen("a row found with a step of none");
        } else if (plain.count(6) == 2) {
            seen("no row found");
        }
        due("found(" + n + ", " + k + ")", room.found(n, k), want);
        due("found(" + n + ", -1)", room.found(n, -1), any);
        compareAll();
    }

    private void callFall() {
        int top = plain.count(3);
        int want = plain.fall();
        if (plain.count(3) != top) seen("a fall with a new top");
        due("fall()", room.fall(), want);
    }

    private void callNight() {
        if (random.nextInt(3) < nightly) {
            for (int clerk = 0; clerk < 4; clerk++) {
                due("step(" + clerk + ", 30)", room.step(clerk, 30), plain.step(clerk, 30));
            }
        }
        int f = random.nextInt(8) == 0 ? wild() : plain.b + random.nextInt(plain.b + 3) - 1;
        int want = plain.night(f);
        if (want > 0) {
            if (plain.drawer(plain.count(3), 1) >= 2) seen("a night of three levels");
            if (want == 1) seen("a night of one leaf");
            for (int d = 0; d < want; d++) {
                if (plain.drawer(d, 1) > 0 && plain.drawer(d, 2) == 0) seen("a guide with one child");
            }
        }
        due("night(" + f + ")", room.night(f), want);
    }

    private void callLine() {
        int heading = heading();
        if (!plain.jobs.isEmpty() && random.nextInt(4) > 0) {
            heading = plain.jobs.get(random.nextInt(plain.jobs.size())).heading;
        }
        int want = plain.line(heading);
        if (want == 0) seen("an unsound line");
        if (want == -1) seen("a line that can't be asked");
        due("line(" + heading + ")", room.line(heading), want);
        for (int k = -1; k < 10; k++) {
            int job = plain.order(heading, k);
            if (job > 0 && job < plain.order(heading, k - 1)) seen("a row in another order than the jobs began");
            due("order(" + heading + ", " + k + ")", room.order(heading, k), job);
        }
    }

    private void callThere() {
        int from = heading();
        int to = heading();
        int time = random.nextInt(8) == 0 ? wild() : random.nextInt(plain.time + 2);
        due("there(" + from + ", " + to + ", " + time + ")", room.there(from, to, time), plain.there(from, to, time));
        time = plain.time;
        due("there(" + from + ", " + to + ", " + time + ")", room.there(from, to, time), plain.there(from, to, time));
    }

    private void callSmall() {
        int x = random.nextInt(3) == 0 ? wild() : random.nextInt(130);
        int what = random.nextInt(3) == 0 ? wild() : random.nextInt(10) - 1;
        int heading = heading();
        int other = heading();
        boolean child = random.nextBoolean();
        due("ahead(" + heading + ", " + other + ")", room.ahead(heading, other), plain.ahead(heading, other));
        due("rank(" + heading + ")", room.rank(heading), plain.rank(heading));
        due("nth(" + x + ")", room.nth(x), plain.nth(x));
        due("clerk(" + x + ", " + what + ")", room.clerk(x, what), plain.clerk(x, what));
        due("job(" + x + ", " + what + ")", room.job(x, what), plain.job(x, what));
        due("drawer(" + x + ", " + what + ")", room.drawer(x, what), plain.drawer(x, what));
        due("at(" + x + ", " + what + ", " + child + ")", room.at(x, what, child), plain.at(x, what, child));
        due("count(" + what + ")", room.count(what), plain.count(what));
    }

    /** Everything that can be told cheaply, so that a slip shows at the call that made it. */
    private void compareAll() {
        int length = told.length();
        for (int what = -1; what < 10; what++) due("count(" + what + ")", room.count(what), plain.count(what));
        for (int clerk = 0; clerk < 4; clerk++) {
            for (int what = 0; what < 5; what++) {
                due("clerk(" + clerk + ", " + what + ")", room.clerk(clerk, what), plain.clerk(clerk, what));
            }
        }
        for (int job = 0; job <= plain.jobs.size(); job++) {
            for (int what = 0; what < 8; what++) {
                due("job(" + job + ", " + what + ")", room.job(job, what), plain.job(job, what));
            }
        }
        compareDrawers();
        int cards = plain.count(5);
        int last = -1;
        for (int k = -1; k <= cards; k++) {
            int card = plain.nth(k);
            if (last >= 0 && card >= 0 && plain.compare(last, card) >= 0) seen("cards out of order");
            last = card;
            due("nth(" + k + ")", room.nth(k), card);
        }
        int bad = plain.shape();
        if (bad >= 0) seen("a bad drawer");
        due("shape()", room.shape(), bad);
        if (wrong == 0) told.setLength(length);
    }

    private void compareDrawers() {
        for (int drawer = -1; drawer <= plain.count(4); drawer++) {
            for (int what = 0; what < 7; what++) {
                due("drawer(" + drawer + ", " + what + ")", room.drawer(drawer, what), plain.drawer(drawer, what));
            }
            for (int k = -1; k < 13; k++) {
                due("at(" + drawer + ", " + k + ", false)", room.at(drawer, k, false), plain.at(drawer, k, false));
                due("at(" + drawer + ", " + k + ", true)", room.at(drawer, k, true), plain.at(drawer, k, true));
            }
            for (int k = 1; k < plain.drawer(drawer, 2); k++) {
                int by = plain.compare(plain.at(drawer, k - 1, false), plain.at(drawer, k, false));
                if (by == 0) seen("a guide with a heading twice");
                if (by > 0) seen("a guide out of order");
            }
        }
        due("drawer(255, 0)", room.drawer(255, 0), plain.drawer(255, 0));
        due("drawer(256, 0)", room.drawer(256, 0), plain.drawer(256, 0));
    }
}
