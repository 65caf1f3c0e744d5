import java.util.Arrays;
import java.util.Random;

/** The boundary cases of ==== 4 of the terms and of promises 11 to 17 and 20, a test for each sentence. */
public final class BoundariesOfAnswersTest extends Checks {
    private static final int[] WRONG_PLACES = {-1, -2, 1000, LEAST, MOST};

    public static void main(String[] args) {
        cardsAlongThreads();
        leavesAtMost();
        nthFromZero();
        rankOfAny();
        thereUpToAStep();
        thereByTheLastChange();
        thereByAnswerOne();
        thereOfLostJobs();
        thereBehindANight();
        thereFromAndTo();
        thereThatCantBe();
        lineOfJobsThatEnded();
        lineAtMostNine();
        lineOfOneThatEndedAsAnotherBegan();
        lineOfAnswers();
        lineWithoutJobs();
        firstRowByNumbers();
        everyRowTried();
        orderThatIsNone();
        badOrder();
        badCover();
        badMany();
        badChild();
        badHighOfAChild();
        leastBad();
        foundWithJustTwo();
        foundOfSteps();
        foundRows();
        foundStepsOfNone();
        foundAskedLines();
        foundChangesNothing();
        counts();
        finish("BoundariesOfAnswersTest");
    }

    /** Clerk 0 filed 30 (job 2, ended in step 11); clerk 1 wrote an old copy without it; clerk 2 sought it. */
    private static DrawerRoom missed(int stepsAheadOfTheSeek) {
        DrawerRoom room = tens(2, 2);
        room.fault(1, 2);
        room.begin(0, FILE, 30);
        room.begin(1, FILE, 40);
        room.step(0, 2);
        room.step(1, 2);
        if (stepsAheadOfTheSeek == 0) room.begin(2, SEEK, 30);
        room.step(0, 1);
        if (stepsAheadOfTheSeek == 1) room.begin(2, SEEK, 30);
        room.step(1, 1);
        room.step(2, 1);
        return room;
    }

    // ---- THE CARDS, NTH, RANK

    private static void cardsAlongThreads() {
        sentence("THE CARDS are those of the LEAVES, along THREADS from the first LEAF (from THE TOP by first CHILDREN) on");
        cards("none", new DrawerRoom(2));
        DrawerRoom room = tens(2, 17);
        cards("three levels", room, 10, 20, 30, 40, 50, 60, 70, 80, 90, 100, 110, 120, 130, 140, 150, 160, 170);
        for (int heading : new int[] {10, 20, 30, 70, 80, 90, 160, 170}) whole(room, 0, PULL, heading);
        cards("the first, a middle and the last leaf empty", room, 40, 50, 60, 100, 110, 120, 130, 140, 150);
        // A leaf that no guide knows is in the row; one that no thread reaches isn't.
        room = tens(2, 4);
        room.fault(1, 2);
        room.begin(1, PULL, 20);
        room.step(1, 2);
        room.begin(0, FILE, 50);
        room.step(0, 3);
        cards("no guide yet", room, 10, 20, 30, 40, 50);
        room.step(0, 30);
        room.step(1, 30);
        cards("no thread any more", room, 10, 30, 40);
        due("though the leaf is in use", room.drawer(1, 2), 2);
        // A card that stands in two leaves is twice in the row.
        room = tens(2, 4);
        room.fault(1, 1);
        room.begin(1, FILE, 60);
        whole(room, 0, FILE, 50);
        whole(room, 0, FILE, 60);
        room.step(1, 30);
        cards("60 twice, out of order", room, 10, 20, 30, 60, 40, 50, 60);
        room = new DrawerRoom(2);
        for (int i = 0; i < 120; i++) whole(room, 0, FILE, 9999 - 83 * i);
        due("120 cards", room.count(5), 120);
        for (int k = 0; k < 120; k++) due("nth(" + k + ")", room.nth(k), 9999 - 83 * (119 - k));
        due("no other one", room.nth(120), NONE);
        due("rank of the last", room.rank(9999), 119);
        due("all were there", room.there(0, 9999, room.count(1)), 120);
    }

    private static void leavesAtMost() {
        sentence("256 LEAVES at most");
        DrawerRoom room = tens(2, 2);
        // A thread that leads back, which no clerk lays: the row ends all the same.
        Inside.set(room, 0, Inside.THREAD, 0);
        due("256 times two cards", room.count(5), 512);
        due("the first", room.nth(0), 10);
        due("the last", room.nth(511), 20);
        due("no other one", room.nth(512), NONE);
        due("rank(10)", room.rank(10), 0);
        due("rank(20)", room.rank(20), 256);
        due("rank(21)", room.rank(21), 512);
        due("each once", room.night(2), 1);
        cards("each once", room, 10, 20);
    }

    private static void nthFromZero() {
        sentence("NTH of THE CARDS (from 0 on); NONE if there is none.");
        DrawerRoom room = new DrawerRoom(2);
        due("of none", room.nth(0), NONE);
        for (int k : WRONG_PLACES) due("nth(" + k + ")", room.nth(k), NONE);
        room = twoLeaves();
        due("the first", room.nth(0), 10);
        due("the last of the first leaf", room.nth(2), 30);
        due("the first of the next one", room.nth(3), 40);
        due("the last", room.nth(4), 50);
        due("behind it", room.nth(5), NONE);
        for (int k : WRONG_PLACES) due("nth(" + k + ")", room.nth(k), NONE);
        due("0 may be a card", filled(2, 0).nth(0), 0);
    }

    private static void rankOfAny() {
        sentence("RANK: how many of THE CARDS are ahead of a HEADING in ORDER; NONE if it can't be.");
        DrawerRoom room = new DrawerRoom(2);
        for (int heading : new int[] {0, 5000, 9999}) due("of none", room.rank(heading), 0);
        for (int heading : WRONG_HEADINGS) due("rank(" + heading + ")", room.rank(heading), NONE);
        room = filled(2, 0, 10, 20, 30, 9999);
        int[] asked = {0, 1, 10, 11, 20, 21, 30, 31, 9998, 9999};
        int[] want = {0, 1, 1, 2, 2, 3, 3, 4, 4, 4};
        for (int i = 0; i < asked.length; i++) due("rank(" + asked[i] + ")", room.rank(asked[i]), want[i]);
        for (int heading : WRONG_HEADINGS) due("rank(" + heading + ")", room.rank(heading), NONE);
        // Cards twice and out of order count as they stand: 10 20 30 60 40 50 60.
        room = tens(2, 4);
        room.fault(1, 1);
        room.begin(1, FILE, 60);
        whole(room, 0, FILE, 50);
        whole(room, 0, FILE, 60);
        room.step(1, 30);
        due("ahead of 50", room.rank(50), 4);
        due("ahead of 60", room.rank(60), 5);
        due("ahead of 61", room.rank(61), 7);
        DrawerRoom ruled = ruled(2, "d-;");
        for (int heading : new int[] {9, 10, 18, 20}) whole(ruled, 0, FILE, heading);
        due("by the rule: the first of all", ruled.rank(9), 0);
        due("by the rule: behind 9 and 18", ruled.rank(0), 2);
        due("by the rule: the last of all", ruled.rank(9990), 4);
    }

    // ---- THERE

    private static void thereUpToAStep() {
        sentence("in a STEP up to t filed it (STEPS are 1, 2, ..");
        DrawerRoom room = tens(2, 4);
        due("ahead of all steps", room.there(0, 9999, 0), 0);
        for (int t = 0; t <= 12; t++) due("at " + t, room.there(0, 9999, t), t / 3);
        room.begin(0, FILE, 50);
        for (int step = 13; step <= 16; step++) {
            room.step(0, 1);
            due("step " + step, room.there(50, 50, step), step < 15 ? 0 : 1);
        }
        due("the step before it was written", room.there(50, 50, 14), 0);
        due("the step in which it was written", room.there(50, 50, 15), 1);
    }

    private static void thereByTheLastChange() {
        sentence("if the last JOB that changed it by WRITING");
        DrawerRoom room = new DrawerRoom(2);
        room.begin(0, FILE, 5);
        due("job 1 files it", whole(room, 1, FILE, 5), 1);
        due("job 2 pulls it", whole(room, 2, PULL, 5), 1);
        room.step(0, 30);
        due("job 0 files it again", room.job(0, 2), 1);
        int[] want = {0, 0, 0, 1, 1, 1, 0, 0, 0, 1};
        for (int t = 0; t < want.length; t++) due("at " + t, room.there(5, 5, t), want[t]);
        due("once", room.there(0, 9999, 9), 1);
        room = new DrawerRoom(2);
        room.begin(0, PULL, 5);
        whole(room, 1, FILE, 5);
        room.step(0, 30);
        due("job 0 pulled what job 1 had filed", room.job(0, 2), 1);
        due("not there", room.there(5, 5, 6), 0);
        due("but just before", room.there(5, 5, 5), 1);
    }

    private static void thereByAnswerOne() {
        sentence("(ANSWER 1");
        DrawerRoom room = new DrawerRoom(2);
        due("a pull of what isn't there", whole(room, 0, PULL, 5), 0);
        due("at its end", room.there(5, 5, 3), 0);
        whole(room, 0, FILE, 5);
        due("filed again", whole(room, 0, FILE, 5), 0);
        due("sought", whole(room, 0, SEEK, 5), 1);
        due("a pull of another one", whole(room, 0, PULL, 6), 0);
        for (int t = 6; t <= room.count(1); t++) due("there at " + t, room.there(5, 5, t), 1);
        whole(room, 0, PULL, 5);
        due("pulled again", whole(room, 0, PULL, 5), 0);
        due("not there", room.there(5, 5, room.count(1)), 0);
        due("but then", room.there(5, 5, 6), 1);
    }

    private static void thereOfLostJobs() {
        sentence("also of a JOB that was LOST since)");
        DrawerRoom room = tens(2, 4);
        room.begin(0, FILE, 50);
        room.step(0, 3);
        due("one is lost", room.fall(), 1);
        due("lost", room.job(4, 6), 1);
        due("there", room.there(50, 50, 15), 1);
        due("not before", room.there(50, 50, 14), 0);
        room.begin(0, FILE, 60);
        room.step(0, 3);
        due("copied, not written", room.clerk(0, 0), WRITING);
        room.fall();
        due("not there", room.there(60, 60, room.count(1)), 0);
        room.begin(0, PULL, 10);
        room.step(0, 3);
        room.fall();
        due("a pull that wasn't written", room.there(10, 10, room.count(1)), 1);
    }

    private static void thereBehindANight() {
        sentence("a NIGHT changes nothing of it)");
        DrawerRoom room = missed(1);
        due("30 isn't among the cards", room.rank(31), 2);
        int time = room.count(1);
        for (int turn = 0; turn < 2; turn++) {
            due("but there, by what was written", room.there(30, 30, time), 1);
            due("all", room.there(0, 9999, time), 4);
            due("earlier", room.there(0, 9999, 10), 2);
            due("a night", room.night(2), 3);
        }
        due("three cards", room.count(5), 3);
    }

    private static void thereFromAndTo() {
        sentence("How many HEADINGS from one to another one (both with it, by ORDER)");
        DrawerRoom room = filled(2, 0, 10, 20, 9999);
        int[][] asked = {{0, 9999, 4}, {0, 0, 1}, {9999, 9999, 1}, {0, 10, 2}, {1, 10, 1}, {1, 9, 0}, {10, 20, 2}, {11, 19, 0},
            {11, 9998, 1}, {20, 9999, 2}, {10, 10, 1}, {20, 10, 0}, {9999, 0, 0}};
        for (int[] a : asked) due("from " + a[0] + " to " + a[1], room.there(a[0], a[1], 12), a[2]);
        DrawerRoom ruled = ruled(2, "d-;");
        for (int heading : new int[] {9, 18, 10, 20}) whole(ruled, 0, FILE, heading);
        int[][] byRule = {{9, 9990, 4}, {9, 18, 2}, {18, 10, 2}, {19, 9, 0}, {9, 10, 3}, {0, 9990, 2}, {0, 9999, 0}};
        for (int[] a : byRule) due("by the rule from " + a[0] + " to " + a[1], ruled.there(a[0], a[1], 12), a[2]);
    }

    private static void thereThatCantBe() {
        sentence("were THERE at a TIME (0 .. TIME); NONE if they can't be.");
        DrawerRoom room = new DrawerRoom(2);
        due("TIME is 0", room.there(0, 9999, 0), 0);
        due("behind it", room.there(0, 9999, 1), NONE);
        room = tens(2, 2);
        due("the first", room.there(0, 9999, 0), 0);
        due("the last", room.there(0, 9999, 6), 2);
        for (int time : new int[] {-1, 7, LEAST, MOST}) due("at " + time, room.there(0, 9999, time), NONE);
        for (int heading : WRONG_HEADINGS) {
            due("from " + heading, room.there(heading, 9999, 6), NONE);
            due("to " + heading, room.there(0, heading, 6), NONE);
            due("both", room.there(heading, heading, 6), NONE);
        }
    }

    // ---- LINE, ORDER

    private static void lineOfJobsThatEnded() {
        sentence("over all its JOBS that ENDED (and no JOB of it is under way or LOST");
        DrawerRoom room = tens(2, 4);
        room.begin(0, FILE, 50);
        for (int step = 1; step <= 4; step++) {
            due("under way", room.line(50), NONE);
            due("no order", room.order(50, 0), NONE);
            due("what rises is another heading", room.line(30), 1);
            room.step(0, 1);
        }
        due("ended", room.line(50), 1);
        due("its order", room.order(50, 0), 4);
        room.begin(0, SEEK, 50);
        due("another one under way", room.line(50), NONE);
        room.step(0, 30);
        due("ended", room.line(50), 1);
        room.begin(0, SEEK, 50);
        room.begin(1, SEEK, 10);
        room.fall();
        due("lost", room.line(50), NONE);
        due("lost too", room.line(10), NONE);
        due("no order", room.order(50, 0), NONE);
        due("not lost", room.line(20), 1);
        whole(room, 0, SEEK, 50);
        due("lost once is lost for good", room.line(50), NONE);
    }

    private static void lineAtMostNine() {
        sentence("at most 9; else it can't be asked)");
        DrawerRoom room = new DrawerRoom(2);
        for (int jobs = 0; jobs <= 9; jobs++) {
            due("line of " + jobs, room.line(7), 1);
            for (int k = 0; k <= 9; k++) due("order of " + jobs, room.order(7, k), k < jobs ? 2 * k : NONE);
            whole(room, 0, 1 + jobs % 2, 7);
            whole(room, 0, SEEK, 8);
        }
        due("line of 10", room.line(7), NONE);
        for (int k = -1; k <= 10; k++) due("order of 10", room.order(7, k), NONE);
        due("the other one has 10, too", room.line(8), NONE);
        due("a third has none", room.line(9), 1);
        // Nine jobs at all of which no row is right: a filing missed by eight seeks.
        room = missed(1);
        for (int i = 0; i < 7; i++) whole(room, 2, SEEK, 30);
        due("nine, not sound", room.line(30), 0);
        whole(room, 2, SEEK, 30);
        due("ten can't be asked", room.line(30), NONE);
    }

    private static void lineOfOneThatEndedAsAnotherBegan() {
        sentence("one that ENDED in a STEP not behind the TIME as another began ahead of that one");
        DrawerRoom room = missed(1);
        due("the filing ended in step", room.job(2, 4), 11);
        due("as the seek began", room.job(4, 3), 11);
        due("which missed it", room.job(4, 2), 0);
        due("so it isn't sound", room.line(30), 0);
        due("no order", room.order(30, 0), NONE);
        room = missed(0);
        due("the filing ended in step", room.job(2, 4), 11);
        due("the seek had begun", room.job(4, 3), 10);
        due("and missed it", room.job(4, 2), 0);
        due("which is sound", room.line(30), 1);
        due("the seek first", room.order(30, 0), 4);
        due("then the filing", room.order(30, 1), 2);
    }

    private static void lineOfAnswers() {
        sentence("each ANSWER is right, one behind the other (at first the HEADING isn't there; seek 1: it is there; "
            + "file 1, pull 1: it wasn't, it was)");
        DrawerRoom room = new DrawerRoom(2);
        int[][] right = {{SEEK, 0}, {PULL, 0}, {FILE, 1}, {SEEK, 1}, {FILE, 0}, {PULL, 1}, {PULL, 0}, {SEEK, 0}, {FILE, 1}};
        for (int[] job : right) {
            due("answer", whole(room, 0, job[0], 5), job[1]);
            due("sound", room.line(5), 1);
        }
        // The wrong answers that an old copy brings about, one behind the other.
        int[][] cases = {{FILE, 30, FILE}, {PULL, 20, PULL}};
        for (int[] c : cases) {
            room = tens(2, 2);
            room.fault(1, 2);
            room.begin(1, c[0], c[1]);
            room.step(1, 2);
            due("done", whole(room, 0, c[2], c[1]), 1);
            room.step(1, 30);
            due("done twice", room.job(2, 2), 1);
            due("isn't sound", room.line(c[1]), 0);
        }
        room = missed(1);
        due("filed again behind it", whole(room, 0, FILE, 30), 1);
        due("isn't sound", room.line(30), 0);
        // A pull that took effect and a seek behind it that finds the card again.
        room = tens(2, 2);
        room.fault(1, 2);
        room.begin(1, FILE, 40);
        room.step(1, 2);
        due("pulled", whole(room, 0, PULL, 20), 1);
        room.step(1, 30);
        due("it is back", whole(room, 0, SEEK, 20), 1);
        due("which isn't sound", room.line(20), 0);
    }

    private static void lineWithoutJobs() {
        sentence("SOUND, if so (without JOBS, too)");
        DrawerRoom room = new DrawerRoom(2);
        for (int heading : new int[] {0, 5, 9999}) {
            due("line(" + heading + ")", room.line(heading), 1);
            due("order(" + heading + ", 0)", room.order(heading, 0), NONE);
        }
        for (int heading : WRONG_HEADINGS) due("line(" + heading + ")", room.line(heading), NONE);
        whole(room, 0, FILE, 5);
        due("another heading", room.line(6), 1);
    }

    private static void firstRowByNumbers() {
        sentence("the first such row by JOBS' numbers is ITS ORDER");
        // All four at once: 0 sought and missed it, 1 filed it, 3 saw it, 2 pulled it.
        DrawerRoom room = new DrawerRoom(2);
        int[] kinds = {SEEK, FILE, PULL, SEEK};
        for (int clerk = 0; clerk < 4; clerk++) room.begin(clerk, kinds[clerk], 5);
        for (int clerk : new int[] {0, 1, 3, 2}) room.step(clerk, 30);
        int[] want = {0, 1, 3, 2};
        for (int k = 0; k < 4; k++) due("at once: " + k, room.order(5, k), want[k]);
        // Seeks that all missed it, ended in another order than they began in: by their numbers.
        room = new DrawerRoom(2);
        for (int clerk = 0; clerk < 4; clerk++) room.begin(clerk, SEEK, 5);
        for (int clerk = 3; clerk >= 0; clerk--) room.step(clerk, 30);
        for (int k = 0; k < 4; k++) due("seeks: " + k, room.order(5, k), k);
        // The least number must wait for one that ended before it began.
        room = new DrawerRoom(2);
        room.begin(3, FILE, 5);
        room.begin(0, SEEK, 5);
        room.step(0, 30);
        room.begin(1, PULL, 5);
        room.step(3, 30);
        room.begin(2, SEEK, 5);
        room.step(2, 30);
        room.step(1, 30);
        int[] row = {1, 0, 3, 2};
        for (int k = 0; k < 4; k++) due("one that waits: " + k, room.order(5, k), row[k]);
    }

    /** Up to nine jobs of one heading by clerks who mind no latch, and every row of them tried. */
    private static void everyRowTried() {
        sentence("whether they can be put in a row");
        int[] seen = new int[3];
        for (int seed = 0; seed < 3000; seed++) {
            Random random = new Random(seed);
            DrawerRoom room = new DrawerRoom(2);
            for (int clerk = 0; clerk < 4; clerk++) room.fault(clerk, 2 * random.nextInt(2));
            int left = 1 + random.nextInt(9);
            for (int i = 0; i < 300 && (left > 0 || room.count(6) > 0); i++) {
                int clerk = random.nextInt(4);
                if (room.clerk(clerk, 0) != IDLE) {
                    room.step(clerk, 1);
                } else if (left > 0) {
                    boolean other = random.nextInt(4) == 0;
                    room.begin(clerk, random.nextInt(3), other ? 6 : 5);
                    if (!other) left--;
                }
            }
            int[] row = firstRow(room, 5);
            due("seed " + seed, room.line(5), row == null ? 0 : 1);
            seen[row == null ? 0 : inTurn(row) ? 1 : 2]++;
            for (int k = 0; k < 9; k++) due("seed " + seed + ", " + k, room.order(5, k), row == null || k >= row.length ? NONE : row[k]);
        }
        for (int kind = 0; kind < 3; kind++) due("not sound, in turn, and in another order: often", seen[kind] > 100, true);
    }

    private static boolean inTurn(int[] row) {
        for (int k = 1; k < row.length; k++) if (row[k] < row[k - 1]) return false;
        return true;
    }

    private static int[] firstRow(DrawerRoom room, int heading) {
        int[] mine = new int[room.count(2)];
        int howMany = 0;
        for (int job = 0; job < mine.length; job++) if (room.job(job, 1) == heading) mine[howMany++] = job;
        int[] row = new int[howMany];
        return goesOn(room, Arrays.copyOf(mine, howMany), row, 0, false) ? row : null;
    }

    private static boolean goesOn(DrawerRoom room, int[] left, int[] row, int length, boolean there) {
        if (left.length == 0) return true;
        for (int i = 0; i < left.length; i++) {
            int job = left[i];
            boolean ahead = true;
            for (int other : left) if (other != job && room.job(other, 4) <= room.job(job, 3)) ahead = false;
            int kind = room.job(job, 0);
            int right = kind == FILE ? (there ? 0 : 1) : there ? 1 : 0;
            if (!ahead || room.job(job, 2) != right) continue;
            int[] rest = new int[left.length - 1];
            for (int k = 0; k < rest.length; k++) rest[k] = left[k < i ? k : k + 1];
            row[length] = job;
            if (goesOn(room, rest, row, length + 1, kind == SEEK ? there : kind == FILE)) return true;
        }
        return false;
    }

    private static void orderThatIsNone() {
        sentence("The k-th JOB (from 0 on) of ITS ORDER; NONE if there is none.");
        DrawerRoom room = new DrawerRoom(2);
        whole(room, 0, SEEK, 6);
        whole(room, 0, FILE, 5);
        due("the first", room.order(5, 0), 1);
        due("job 0 may be one", room.order(6, 0), 0);
        for (int k : new int[] {-1, 1, 2, 8, 9, 10, LEAST, MOST}) due("order(5, " + k + ")", room.order(5, k), NONE);
        for (int heading : WRONG_HEADINGS) {
            for (int k = -1; k < 3; k++) due("order(" + heading + ", " + k + ")", room.order(heading, k), NONE);
        }
        room = missed(1);
        for (int k = -1; k < 3; k++) due("not sound", room.order(30, k), NONE);
        // A row that was begun with doesn't show through where none is right.
        due("another heading", room.order(10, 0), 0);
        due("not sound", room.order(30, 0), NONE);
    }

    // ---- SHAPE

    private static void badOrder() {
        sentence("a DRAWER in use is BAD, if its HEADINGS aren't in ORDER (each behind the one ahead of it)");
        DrawerRoom room = twoLeaves();
        due("sound", room.shape(), NONE);
        Inside.setHeading(room, 1, 0, 50);
        due("the same twice", room.shape(), 1);
        Inside.setHeading(room, 1, 0, 51);
        due("the greater first", room.shape(), 1);
        Inside.setHeading(room, 1, 0, 49);
        due("sound again", room.shape(), NONE);
        Inside.setHeading(room, 0, 1, 30);
        due("the last two alike", room.shape(), 0);
        room = tens(2, 8);
        due("sound", room.shape(), NONE);
        Inside.setHeading(room, 2, 1, 30);
        due("a guide with a heading twice", room.shape(), 2);
        DrawerRoom ruled = ruled(2, "d-;");
        for (int heading : new int[] {10, 19}) whole(ruled, 0, FILE, heading);
        headings("by the rule", ruled, 0, 19, 10);
        due("in order by the rule", ruled.shape(), NONE);
        Inside.setHeading(ruled, 0, 1, 9);
        due("out of order by the rule", ruled.shape(), 0);
    }

    private static void badCover() {
        sentence("or it doesn't COVER one of them");
        DrawerRoom room = twoLeaves();
        due("HIGH itself is covered", room.at(0, 2, false), room.drawer(0, 3));
        due("sound", room.shape(), NONE);
        room = tens(2, 4);
        room.fault(1, 1);
        room.begin(1, FILE, 31);
        whole(room, 0, FILE, 50);
        due("sound till then", room.shape(), NONE);
        room.step(1, 30);
        headings("one behind HIGH", room, 0, 10, 20, 30, 31);
        due("bad", room.shape(), 0);
        for (int heading : new int[] {10, 20, 30}) whole(room, 0, PULL, heading);
        headings("it alone", room, 0, 31);
        due("bad", room.shape(), 0);
        due("by a clerk who doesn't ask either", pullUnasked(room, 31), 1);
        headings("no card", room, 0);
        due("sound again", room.shape(), NONE);
        // A leaf without cards covers all it has, whatever HIGH and RULE are.
        for (String text : new String[] {"d-;", "d+;", "a-b-c-d-;"}) {
            DrawerRoom ruled = ruled(2, text);
            int[] some = {2, 1, 0, 10, 20};
            for (int heading : some) whole(ruled, 0, FILE, heading);
            for (int heading : some) whole(ruled, 0, PULL, heading);
            due(text + " has a HIGH", ruled.drawer(0, 3) >= 0, true);
            headings(text + " has no card", ruled, 0);
            due(text + " is sound", ruled.shape(), NONE);
        }
    }

    /** An old reading of the leaf lets a clerk who doesn't ask pull what stands behind HIGH. */
    private static int pullUnasked(DrawerRoom room, int heading) {
        Inside.setTop(room, 0);
        room.fault(2, 1);
        int job = room.begin(2, PULL, heading);
        Inside.setTop(room, 2);
        room.step(2, 30);
        return room.job(job, 2);
    }

    private static void badMany() {
        sentence("or there are more than 2 B");
        for (int b = 2; b <= 5; b++) {
            DrawerRoom room = tens(b, 2 * b);
            due("B " + b + ": 2 B", room.shape(), NONE);
            Inside.setHeading(room, 0, 2 * b, 9000);
            Inside.set(room, 0, Inside.SIZE, 2 * b + 1);
            due("B " + b + ": 2 B + 1", room.shape(), 0);
        }
    }

    private static void badChild() {
        sentence("or it is a GUIDE, and a CHILD is SPARE or not of the LEVEL below");
        DrawerRoom room = tens(2, 17);
        due("in use", room.count(4), 9);
        int[][] guides = {{2, 0, 0}, {2, 2, 3}, {7, 2, 6}, {8, 0, 2}, {8, 1, 7}};
        for (int[] g : guides) {
            due("a child", room.at(g[0], g[1], true), g[2]);
            for (int child : new int[] {9, 255, 256, NONE}) {
                Inside.setChild(room, g[0], g[1], child);
                due("spare or no drawer: " + child, room.shape(), g[0]);
            }
            // A guide among leaves, a leaf or the top among guides.
            for (int child : g[0] == 8 ? new int[] {8, 6} : new int[] {7, 8}) {
                Inside.setChild(room, g[0], g[1], child);
                due("of another level: " + child, room.shape(), g[0]);
            }
            Inside.setChild(room, g[0], g[1], g[2]);
            due("sound again", room.shape(), NONE);
        }
    }

    private static void badHighOfAChild() {
        sentence("or a CHILD's HIGH (any but the last) is none or behind the HEADING behind that CHILD.");
        // None: an old copy of the leaf that was the last one.
        DrawerRoom room = tens(2, 4);
        room.fault(1, 2);
        room.begin(1, PULL, 20);
        room.step(1, 2);
        whole(room, 0, FILE, 50);
        due("HIGH is the heading: sound", room.shape(), NONE);
        room.step(1, 30);
        due("HIGH is none", room.drawer(0, 3), NONE);
        due("bad", room.shape(), 2);
        // Behind it: an old copy with a HIGH further on.
        room = twoLeaves();
        whole(room, 0, FILE, 25);
        room.fault(1, 2);
        room.begin(1, PULL, 25);
        room.step(1, 3);
        whole(room, 0, FILE, 27);
        headings("the guide", room, 2, 25, 30);
        due("sound", room.shape(), NONE);
        room.step(1, 30);
        edge("further on", room, 0, 0, 30, 1);
        due("bad", room.shape(), 2);
        // Ahead of it: the leaf is parted, the guide doesn't know yet.
        room = twoLeaves();
        whole(room, 0, FILE, 25);
        room.begin(0, FILE, 27);
        room.step(0, 4);
        due("HIGH is ahead of the heading", room.drawer(0, 3), 25);
        due("the heading", room.at(2, 0, false), 30);
        due("sound", room.shape(), NONE);
        // The last child may go as far as it likes, also without an end in a guide that has one.
        room = tens(2, 8);
        room.fault(1, 2);
        room.begin(1, PULL, 70);
        room.step(1, 3);
        for (int i = 9; i <= 17; i++) whole(room, 0, FILE, 10 * i);
        edge("the guide", room, 2, 1, 90, 7);
        due("its last child", room.at(2, 2, true), 3);
        room.step(1, 30);
        edge("the last child without HIGH", room, 3, 0, NONE, NONE);
        due("sound", room.shape(), NONE);
        // A guide of one child has no other child than the last.
        room = tens(2, 13);
        room.night(2);
        headings("one child alone", room, 9);
        due("sound", room.shape(), NONE);
    }

    private static void leastBad() {
        sentence("The least DRAWER that is BAD; NONE.");
        DrawerRoom room = tens(2, 17);
        due("none", room.shape(), NONE);
        for (int drawer : new int[] {8, 6, 2, 0}) {
            Inside.setHeading(room, drawer, 0, drawer == 8 ? 0 : 9999);
            due("the least of them", room.shape(), drawer);
        }
        // What is spare is never bad, whatever it held.
        due("a night", room.night(4), room.count(4));
        due("put right", room.shape(), NONE);
        room = tens(2, 5);
        Inside.setHeading(room, 2, 0, 0);
        due("bad", room.shape(), 2);
        for (int heading : new int[] {10, 20, 30, 40, 50}) whole(room, 0, PULL, heading);
        room.night(4);
        due("spare", room.shape(), NONE);
    }

    // ---- FOUND

    /** Clerk 1, who doesn't ask, seeks 40, which clerk 0 takes on to another leaf: a row of six shows it. */
    private static DrawerRoom twoAtJobs(int lower, int upper) {
        DrawerRoom room = twoLeaves();
        due("a night", room.night(4), 3);
        room.fault(upper, 1);
        room.begin(lower, FILE, 25);
        room.begin(upper, SEEK, 40);
        return room;
    }

    private static void foundWithJustTwo() {
        sentence("if just two CLERKS are at JOBS");
        DrawerRoom room = twoLeaves();
        room.night(4);
        room.fault(1, 1);
        due("none", room.found(6, NONE), NONE);
        room.begin(0, FILE, 25);
        due("one", room.found(6, NONE), NONE);
        room.begin(1, SEEK, 40);
        due("two", room.found(6, NONE), 1);
        room.begin(2, SEEK, 40);
        due("three", room.found(6, NONE), NONE);
        room.begin(3, SEEK, 40);
        due("four", room.found(6, NONE), NONE);
        room.step(3, 30);
        due("three again", room.found(6, NONE), NONE);
        room.step(2, 30);
        due("two again", room.found(6, NONE), 1);
        room.step(1, 30);
        due("one again", room.found(6, NONE), NONE);
    }

    private static void foundOfSteps() {
        sentence("rows of n STEPS (1 .. 8)");
        DrawerRoom room = twoAtJobs(0, 1);
        for (int n : new int[] {0, -1, 9, 10, 32, LEAST, MOST}) {
            for (int k : new int[] {NONE, 0, 1}) due("found(" + n + ", " + k + ")", room.found(n, k), NONE);
        }
        for (int n = 1; n <= 5; n++) due("too short: " + n, room.found(n, NONE), NONE);
        for (int n = 6; n <= 8; n++) due("found(" + n + ", NONE)", room.found(n, NONE), 1);
        // What is bad already shows in a row of one, and in one of eight.
        room = tens(2, 4);
        Inside.setHeading(room, 0, 0, 9999);
        room.begin(2, SEEK, 10);
        room.begin(1, PULL, 20);
        due("one step", room.found(1, 0), 1);
        int[] want = {1, 1, 1, 2, NONE, NONE, NONE, NONE};
        for (int k = 0; k < 8; k++) due("eight steps: " + k, room.found(8, k), want[k]);
    }

    private static void foundRows() {
        sentence("the CLERK of the k-th STEP (from 0 on) of the row (k NONE: 1); NONE if there is none such row or STEP");
        int[][] pairs = {{0, 1}, {0, 3}, {1, 2}, {2, 3}};
        for (int[] pair : pairs) {
            DrawerRoom room = twoAtJobs(pair[0], pair[1]);
            int[] six = {0, 0, 0, 0, 1, 1};
            int[] seven = {0, 0, 0, 0, 0, 1, 1};
            due("there is one", room.found(6, NONE), 1);
            for (int k = 0; k < 6; k++) due("six: " + k, room.found(6, k), pair[six[k]]);
            for (int k = 0; k < 7; k++) due("seven: " + k, room.found(7, k), pair[seven[k]]);
            for (int k : new int[] {6, 7, 8, -2, LEAST, MOST}) due("six: " + k, room.found(6, k), NONE);
            for (int k : new int[] {7, 8, -2, LEAST, MOST}) due("seven: " + k, room.found(7, k), NONE);
            for (int k = -1; k < 6; k++) due("no row of five: " + k, room.found(5, k), NONE);
        }
        // One pair behind the other in the same room.
        DrawerRoom bad = tens(2, 4);
        Inside.setHeading(bad, 0, 0, 9999);
        for (int[] pair : new int[][] {{2, 3}, {0, 1}, {1, 3}, {0, 2}}) {
            for (int clerk : pair) bad.begin(clerk, SEEK, 20);
            due("the lower one", bad.found(3, 0), pair[0]);
            due("the other one", bad.found(3, 1), pair[1]);
            due("nobody", bad.found(3, 2), NONE);
            for (int clerk : pair) bad.step(clerk, 30);
        }
        // The clerk who does wrong is the lower one: his steps come as late as they may.
        DrawerRoom room = twoLeaves();
        room.night(4);
        room.fault(0, 1);
        room.begin(1, FILE, 25);
        room.begin(0, SEEK, 40);
        int[] want = {0, 1, 1, 1, 1, 0};
        for (int k = 0; k < 6; k++) due("the lower one does wrong: " + k, room.found(6, k), want[k]);
    }

    private static void foundStepsOfNone() {
        sentence("each a STEP of one of them that is at a JOB, or of none, if none is");
        DrawerRoom room = tens(2, 2);
        room.fault(1, 2);
        room.begin(0, FILE, 30);
        room.begin(1, FILE, 40);
        room.step(0, 2);
        room.step(1, 2);
        room.step(0, 1);
        room.begin(0, SEEK, 30);
        due("a row of one", room.found(1, NONE), NONE);
        for (int n = 2; n <= 8; n++) {
            due("a row of " + n, room.found(n, NONE), 1);
            due("first the old copy", room.found(n, 0), 1);
            due("then the seek", room.found(n, 1), 0);
            for (int k = 2; k <= 8; k++) due("then nobody", room.found(n, k), NONE);
        }
        // One of them is through at once: then all steps are the other one's.
        room = tens(2, 4);
        Inside.setHeading(room, 0, 0, 9999);
        room.begin(0, SEEK, 20);
        room.begin(3, FILE, 30);
        int[] want = {0, 3, 3, 3, NONE, NONE};
        for (int k = 0; k < 6; k++) due("one is through: " + k, room.found(6, k), want[k]);
        // A step that does nothing is a step all the same.
        room = tens(2, 4);
        room.begin(2, PULL, 10);
        room.step(2, 1);
        room.begin(0, PULL, 20);
        Inside.setHeading(room, 0, 0, 9999);
        int[] waits = {0, 0, 0, 0, 0, 0, 0, 0};
        for (int k = 0; k < 8; k++) due("waiting: " + k, room.found(8, k), waits[k]);
    }

    private static void foundAskedLines() {
        sentence("a DRAWER is BAD, or a HEADING of their JOBS can be asked for its LINE and isn't SOUND");
        // 30 isn't sound. It shows as soon as those who seek it are through.
        int[][] cases = {{30, 10, 1, 0}, {10, 30, 1, 2}, {30, 30, 1, NONE}, {30, 30, 2, 0}, {10, 20, 8, NONE}, {40, 10, 8, NONE}};
        for (int[] c : cases) {
            DrawerRoom room = missed(1);
            room.begin(0, SEEK, c[0]);
            room.begin(2, SEEK, c[1]);
            due("0 seeks " + c[0] + ", 2 seeks " + c[1] + ": first of " + c[2], room.found(c[2], 0), c[3]);
        }
        // Lost or ten jobs: it can't be asked.
        DrawerRoom room = twoLeaves();
        room.night(4);
        room.begin(2, SEEK, 40);
        room.fall();
        room.fault(1, 1);
        room.begin(0, FILE, 25);
        room.begin(1, SEEK, 40);
        for (int n = 1; n <= 8; n++) due("a lost job of 40", room.found(n, NONE), NONE);
        for (int jobs = 1; jobs <= 9; jobs++) {
            room = twoLeaves();
            room.night(4);
            for (int i = 1; i < jobs; i++) whole(room, 2, SEEK, 40);
            room.fault(1, 1);
            room.begin(0, FILE, 25);
            room.begin(1, SEEK, 40);
            // The filing of 40 and that seek are two more than the seeks before.
            due("with " + (jobs + 1) + " jobs of 40", room.found(6, NONE), jobs + 1 <= 9 ? 1 : NONE);
        }
    }

    private static void foundChangesNothing() {
        sentence("all being tried and nothing changed");
        // Full leaves, guides and a full top of B 5 part in the steps that are tried.
        DrawerRoom room = tens(5, 110);
        due("a full guide", room.night(10), 12);
        room.fault(0, 2);
        room.fault(3, 2);
        room.begin(0, FILE, 5);
        room.begin(3, FILE, 7);
        for (int turn = 0; turn < 9; turn++) {
            String before = Told.all(room);
            for (int n = 1; n <= 8; n++) {
                room.found(n, NONE);
                room.found(n, n - 1);
            }
            same("turn " + turn, Told.all(room), before);
            room.step(turn % 2 == 0 ? 0 : 3, 1);
        }
        due("both wrote their leaf", room.count(4), 14);
        room.step(0, 30);
        room.step(3, 30);
        due("through", room.count(6), 0);
    }

    // ---- count

    private static void counts() {
        sentence("0 B, 1 TIME, 2 JOBS, 3 THE TOP, 4 how many DRAWERS are in use, 5 THE CARDS, 6 CLERKS at JOBS, 7 LATCHED DRAWERS, "
            + "8 PARTS of the RULE. NONE for others.");
        DrawerRoom room = ruled(3, "b-;");
        for (int i = 1; i <= 7; i++) whole(room, 0, FILE, i);
        room.begin(0, PULL, 1);
        room.begin(1, FILE, 9);
        room.begin(2, SEEK, 2);
        room.step(0, 2);
        room.step(1, 2);
        int[] want = {3, 26, 10, 2, 3, 7, 3, 2, 1};
        for (int what = 0; what < 9; what++) due("count(" + what + ")", room.count(what), want[what]);
        for (int what : new int[] {-1, -2, 9, 10, 256, LEAST, MOST}) due("count(" + what + ")", room.count(what), NONE);
        room.begin(3, PULL, 2);
        due("four at jobs", room.count(6), 4);
        room.fall();
        due("none at jobs", room.count(6), 0);
        due("none latched", room.count(7), 0);
    }
}
