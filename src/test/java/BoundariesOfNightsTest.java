/** The boundary cases of falls and nights in ==== 4 of the terms and of promises 18 and 19, a test for each sentence. */
public final class BoundariesOfNightsTest extends Checks {
    public static void main(String[] args) {
        fallOfNobody();
        fallOfEach();
        fallLetsGo();
        fallWithoutAThread();
        fallWithAThread();
        fallOfFive();
        fallOfMore();
        fallOfGuides();
        nightsFromAndTo();
        nightWithAClerkAtAJob();
        nightOfNoCards();
        nightsOfAllSizes();
        nightOfOneAlone();
        nightOfMost();
        nightOfEachOnce();
        nightOfTheRow();
        nightFreesAll();
        nightByTheRule();
        finish("BoundariesOfNightsTest");
    }

    // ---- FALL

    private static void fallOfNobody() {
        sentence("A FALL: how many JOBS are LOST by it (none).");
        DrawerRoom room = new DrawerRoom(2);
        for (int turn = 0; turn < 3; turn++) {
            due("of a new room", room.fall(), 0);
            due("the top", room.count(3), 0);
            due("in use", room.count(4), 1);
        }
        room = tens(2, 17);
        String before = Told.all(room);
        due("of idle clerks", room.fall(), 0);
        same("nothing changes", Told.all(room), before);
    }

    private static void fallOfEach() {
        sentence("A FALL: all CLERKS are IDLE, their JOBS LOST");
        for (int howMany = 1; howMany <= 4; howMany++) {
            DrawerRoom room = tens(2, 2);
            int time = room.count(1);
            for (int clerk = 0; clerk < howMany; clerk++) {
                room.begin(clerk, clerk % 3, 30);
                room.step(clerk, 1);
            }
            // The seeks are through by then, and theirs aren't lost.
            int seeks = howMany == 4 ? 2 : 1;
            due(howMany + " at jobs", room.fall(), howMany - seeks);
            due("steps went", room.count(1), time + howMany);
            for (int clerk = 0; clerk < 4; clerk++) {
                boolean lost = clerk < howMany && clerk % 3 != SEEK;
                clerk("idle", room, clerk, IDLE, NONE, clerk < howMany ? 2 + clerk : clerk == 3 ? 1 : NONE, NONE, NONE);
                if (clerk < howMany) {
                    due("lost", room.job(2 + clerk, 6), lost ? 1 : 0);
                    due("its end", room.job(2 + clerk, 4), lost ? NONE : time + clerk + 1);
                    due("its answer", room.job(2 + clerk, 2), lost ? NONE : 0);
                }
            }
            due("again", room.fall(), 0);
        }
        // In each state a clerk can be in, and all four at once.
        DrawerRoom room = tens(2, 4);
        room.begin(0, FILE, 50);
        room.step(0, 3);
        room.begin(1, FILE, 60);
        room.step(1, 3);
        room.begin(2, PULL, 60);
        room.step(2, 1);
        room.begin(3, SEEK, 10);
        int[] states = {RISING, WRITING, READING, READING};
        for (int clerk = 0; clerk < 4; clerk++) due("clerk " + clerk, room.clerk(clerk, 0), states[clerk]);
        due("four are lost", room.fall(), 4);
        for (int job = 0; job < 8; job++) due("job " + job, room.job(job, 6), job < 4 ? 0 : 1);
        due("nobody at a job", room.count(6), 0);
        cards("just what was written", room, 10, 20, 30, 40, 50);
    }

    private static void fallLetsGo() {
        sentence("nothing is LATCHED");
        DrawerRoom room = tens(2, 12);
        due("full leaves", room.night(4), 4);
        room.begin(0, FILE, 5);
        room.step(0, 5);
        room.begin(1, FILE, 45);
        room.step(1, 2);
        due("a guide", room.drawer(3, 5), 0);
        due("and a leaf are latched", room.drawer(1, 5), 1);
        due("two of them", room.count(7), 2);
        room.fall();
        due("none", room.count(7), 0);
        for (int drawer = 0; drawer < 5; drawer++) due("drawer " + drawer, room.drawer(drawer, 5), NONE);
        due("so another one can file", whole(room, 2, FILE, 46), 1);
    }

    private static void fallWithoutAThread() {
        sentence("and if THE TOP has a THREAD (it has none)");
        DrawerRoom room = twoLeaves();
        whole(room, 0, FILE, 25);
        room.begin(0, FILE, 27);
        room.step(0, 4);
        clerk("a leaf below the top is parted", room, 0, RISING, 0, 6, 25, 3);
        due("lost", room.fall(), 1);
        due("the top stays", room.count(3), 2);
        due("in use", room.count(4), 4);
        headings("the top doesn't know", room, 2, 30);
        children("the top doesn't know", room, 2, 0, 1);
        due("which isn't bad", room.shape(), NONE);
        due("found by the thread", whole(room, 0, SEEK, 27), 1);
        room.begin(0, SEEK, 30);
        due("in three steps", room.step(0, 30), 3);
    }

    private static void fallWithAThread() {
        sentence("the least SPARE DRAWER is THE TOP, a LEVEL above, without HIGH and THREAD, with those of that LEVEL along THREADS "
            + "as CHILDREN, HEADINGS being HIGH of each but the last.");
        for (int b = 2; b <= 5; b++) {
            DrawerRoom room = tens(b, 2 * b);
            room.begin(0, FILE, 9999);
            room.step(0, 3);
            int time = room.count(1);
            due("one is lost", room.fall(), 1);
            due("the top", room.count(3), 2);
            edge("the top", room, 2, 1, NONE, NONE);
            headings("the top", room, 2, 10 * (b + 1));
            children("the top", room, 2, 0, 1);
            due("not latched", room.drawer(2, 5), NONE);
            due("no time goes by", room.count(1), time);
            due("sound", room.shape(), NONE);
            due("again: nothing is lost", room.fall(), 0);
            due("again: the same top", room.count(3), 2);
            due("again: as many drawers", room.count(4), 3);
        }
    }

    private static void fallOfFive() {
        sentence("(the first 2 B + 1 at most) (just as many)");
        DrawerRoom room = tens(2, 4);
        room.begin(0, FILE, 50);
        room.step(0, 3);
        int next = 60;
        for (int clerk = 1; clerk < 4; clerk++) {
            while (room.clerk(clerk, 0) == IDLE) {
                room.begin(clerk, FILE, next);
                room.step(clerk, 30);
                next += 10;
            }
            due("clerk " + clerk + " can't rise", room.clerk(clerk, 0), RISING);
        }
        due("five leaves side by side", room.count(4), 5);
        due("four are lost", room.fall(), 4);
        headings("all of them", room, 5, 30, 60, 90, 120);
        children("all of them", room, 5, 0, 1, 2, 3, 4);
        due("sound", room.shape(), NONE);
        due("found by the last one", whole(room, 0, SEEK, 140), 1);
    }

    private static void fallOfMore() {
        sentence("(the first 2 B + 1 at most)");
        for (int b = 2; b <= 4; b++) {
            int leaves = 2 * b + 3;
            DrawerRoom room = tens(b, 2 * b * leaves);
            int used = room.night(2 * b);
            // As though no guide had come up yet.
            Inside.setTop(room, 0);
            due("the top has a thread", room.drawer(0, 4), 1);
            due("nobody", room.fall(), 0);
            due("the top", room.count(3), used);
            edge("the top", room, used, 1, NONE, NONE);
            int[] highs = new int[2 * b];
            int[] first = new int[2 * b + 1];
            for (int k = 0; k <= 2 * b; k++) first[k] = k;
            for (int k = 0; k < 2 * b; k++) highs[k] = 20 * b * (k + 1);
            headings("B " + b, room, used, highs);
            children("B " + b, room, used, first);
            due("the cards behind are still there", room.count(5), 2 * b * leaves);
            due("found by the thread", whole(room, 0, SEEK, 20 * b * leaves), 1);
            due("sound", room.shape(), NONE);
        }
    }

    private static void fallOfGuides() {
        sentence("if THE TOP has a THREAD (a GUIDE)");
        DrawerRoom room = tens(2, 20);
        due("a full guide", room.night(4), 6);
        room.begin(0, FILE, 5);
        room.step(0, 7);
        clerk("the guide is parted", room, 0, RISING, 5, 20, 80, 7);
        due("one is lost", room.fall(), 1);
        due("the top", room.count(3), 8);
        edge("the top", room, 8, 2, NONE, NONE);
        headings("the top", room, 8, 80);
        children("the top", room, 8, 5, 7);
        due("sound", room.shape(), NONE);
        due("used on", whole(room, 0, FILE, 201), 1);
        due("21 were there and one more", room.count(5), 22);
    }

    // ---- NIGHT

    private static void nightsFromAndTo() {
        sentence("A NIGHT by f (B .. 2 B); NONE if f can't be");
        for (int b = 2; b <= 5; b++) {
            DrawerRoom room = tens(b, 2 * b + 1);
            String before = Told.all(room);
            for (int f : new int[] {b - 1, 2 * b + 1, 0, 1, -1, -b, 11, 100, LEAST, MOST}) due("B " + b + ": night(" + f + ")", room.night(f), NONE);
            same("B " + b + ": refused", Told.all(room), before);
            for (int f = b; f <= 2 * b; f++) {
                int leaves = f == b ? 3 : 2;
                due("B " + b + ": night(" + f + ")", room.night(f), leaves + 1);
                due("B " + b + ": the first leaf", room.drawer(0, 2), f);
            }
        }
    }

    private static void nightWithAClerkAtAJob() {
        sentence("if all CLERKS are IDLE; NONE if .. a CLERK isn't IDLE.");
        for (int clerk = 0; clerk < 4; clerk++) {
            DrawerRoom room = tens(2, 4);
            room.begin(clerk, FILE, 50);
            for (int state = READING; state <= RISING; state++) {
                due("he is at", room.clerk(clerk, 0), state);
                String before = Told.all(room);
                for (int f = 2; f <= 4; f++) due("refused", room.night(f), NONE);
                same("nothing changed", Told.all(room), before);
                room.step(clerk, 1);
            }
            due("idle", room.clerk(clerk, 0), IDLE);
            due("a night", room.night(2), 4);
            room.begin(clerk, SEEK, 50);
            room.fall();
            due("behind a fall", room.night(4), 3);
        }
    }

    private static void nightOfNoCards() {
        sentence("(the last one what is left; one LEAF at least)");
        for (int b = 2; b <= 5; b++) {
            for (int f = b; f <= 2 * b; f++) {
                DrawerRoom room = new DrawerRoom(b);
                due("no cards", room.night(f), 1);
                edge("one leaf", room, 0, 0, NONE, NONE);
                headings("one leaf", room, 0);
                due("the top", room.count(3), 0);
                whole(room, 0, FILE, 7);
                due("one card", room.night(f), 1);
                headings("one card", room, 0, 7);
                edge("the last of a level has no HIGH", room, 0, 0, NONE, NONE);
                whole(room, 0, PULL, 7);
                due("no cards again", room.night(f), 1);
                headings("no cards again", room, 0);
            }
        }
    }

    private static void nightsOfAllSizes() {
        sentence("come into LEAVES of f, these into GUIDES of f + 1 CHILDREN, till one is THE TOP; numbers 0, 1, .. as they come, LEVEL by LEVEL");
        for (int b = 2; b <= 5; b++) {
            for (int f = b; f <= 2 * b; f++) {
                int full = f * (f + 1);
                int[] sizes = {1, f - 1, f, f + 1, 2 * f, 2 * f + 1, full - 1, full, full + 1, full + f, full + f + 1,
                    2 * full, 2 * full + 1, full * (f + 1), full * (f + 1) + 1, 119, 120};
                for (int size : sizes) {
                    if (size > 120) continue;
                    DrawerRoom room = tens(b, size);
                    int time = room.count(1);
                    int used = room.night(f);
                    builtAnew("B " + b + ", f " + f + ", " + size + " cards", room, f, size, used);
                    due("no time goes by", room.count(1), time);
                }
            }
        }
    }

    /** The cards 10, 20, .. as the document has them built, drawer by drawer. */
    private static void builtAnew(String what, DrawerRoom room, int f, int size, int used) {
        int from = 0;
        int inLevel = (size + f - 1) / f;
        for (int i = 0; i < inLevel; i++) {
            boolean last = i == inLevel - 1;
            int count = last ? size - f * i : f;
            int[] want = new int[count];
            for (int k = 0; k < count; k++) want[k] = 10 * (f * i + k + 1);
            headings(what, room, i, want);
            edge(what, room, i, 0, last ? NONE : want[count - 1], last ? NONE : i + 1);
        }
        for (int level = 1; inLevel > 1; level++) {
            int above = (inLevel + f) / (f + 1);
            for (int i = 0; i < above; i++) {
                int guide = from + inLevel + i;
                boolean last = i == above - 1;
                int count = last ? inLevel - (f + 1) * i : f + 1;
                int[] kids = new int[count];
                int[] highs = new int[count - 1];
                for (int k = 0; k < count; k++) kids[k] = from + (f + 1) * i + k;
                for (int k = 0; k < count - 1; k++) highs[k] = room.drawer(kids[k], 3);
                children(what, room, guide, kids);
                headings(what, room, guide, highs);
                edge(what, room, guide, level, last ? NONE : room.drawer(kids[count - 1], 3), last ? NONE : guide + 1);
            }
            from += inLevel;
            inLevel = above;
        }
        due(what + ": the top", room.count(3), from);
        due(what + ": how many", used, from + 1);
        due(what + ": in use", room.count(4), from + 1);
        due(what + ": spare behind them", room.drawer(from + 1, 0), 0);
        due(what + ": the cards", room.count(5), size);
        due(what + ": the last card", room.nth(size - 1), 10 * size);
        due(what + ": sound", room.shape(), NONE);
    }

    private static void nightOfOneAlone() {
        sentence("(likewise, the last one what is left, also one alone)");
        int[][] cases = {
            // B, f, cards, drawers, the guide of one child alone, its child, the level above it alone too
            {2, 2, 7, 7, 5, 3}, {2, 2, 13, 11, 9, 6}, {2, 4, 21, 9, 7, 5}, {3, 6, 43, 11, 9, 7}, {5, 10, 111, 15, 13, 11}};
        for (int[] c : cases) {
            DrawerRoom room = tens(c[0], c[2]);
            due(c[2] + " cards by " + c[1], room.night(c[1]), c[3]);
            headings("one alone", room, c[4]);
            children("one alone", room, c[4], c[5]);
            edge("one alone", room, c[4], 1, NONE, NONE);
            due("sound", room.shape(), NONE);
            due("the way goes through it", whole(room, 0, SEEK, 10 * c[2]), 1);
            due("filed below it", whole(room, 0, FILE, 9999), 1);
            due("sought there", whole(room, 0, SEEK, 9999), 1);
        }
        // 19 cards by 2: ten leaves, guides of 3, 3, 3 and 1, above them 3 and 1, then a top.
        DrawerRoom room = tens(2, 19);
        due("19 cards by 2", room.night(2), 17);
        children("one alone", room, 13, 9);
        children("above it one alone", room, 15, 13);
        children("the top", room, 16, 14, 15);
        headings("the top", room, 16, 180);
        edge("above it", room, 15, 2, NONE, NONE);
        edge("beside it", room, 14, 2, 180, 15);
        // Filed below it till the one alone gets a second child.
        for (int heading : new int[] {191, 192, 193}) whole(room, 0, FILE, heading);
        headings("four in its leaf", room, 9, 190, 191, 192, 193);
        whole(room, 0, FILE, 194);
        headings("a heading came up", room, 13, 192);
        children("with a child", room, 13, 9, 17);
        due("sound", room.shape(), NONE);
    }

    private static void nightOfMost() {
        sentence("all DRAWERS are SPARE; then THE CARDS come into LEAVES (as many as there may be)");
        DrawerRoom room = tens(2, 120);
        // 60 20 7 3 1, 40 10 3 1 and 30 6 2 1.
        int[] used = {91, 54, 39};
        int[] tops = {4, 3, 3};
        for (int f = 2; f <= 4; f++) {
            due("120 cards by " + f, room.night(f), used[f - 2]);
            due("the top's level", room.drawer(room.count(3), 1), tops[f - 2]);
            due("the last card", room.nth(119), 1200);
            due("no other one", room.nth(120), NONE);
        }
        due("no more jobs", room.begin(0, FILE, 5), NONE);
    }

    private static void nightOfEachOnce() {
        sentence("THE CARDS (each HEADING once, in ORDER)");
        DrawerRoom room = tens(2, 4);
        room.fault(1, 1);
        room.begin(1, FILE, 60);
        whole(room, 0, FILE, 50);
        whole(room, 0, FILE, 60);
        room.step(1, 30);
        cards("60 twice, out of order", room, 10, 20, 30, 60, 40, 50, 60);
        due("six of them", room.night(3), 3);
        headings("in order", room, 0, 10, 20, 30);
        headings("once", room, 1, 40, 50, 60);
        cards("once", room, 10, 20, 30, 40, 50, 60);
        // The first of all, too.
        room = tens(2, 4);
        room.fault(1, 1);
        room.begin(1, FILE, 60);
        whole(room, 0, FILE, 50);
        whole(room, 0, FILE, 60);
        room.step(1, 30);
        for (int i = 1; i <= 5; i++) whole(room, 0, PULL, 10 * i);
        cards("nothing but 60, twice", room, 60, 60);
        due("a night", room.night(2), 1);
        headings("once", room, 0, 60);
    }

    private static void nightOfTheRow() {
        sentence("THE CARDS (what no THREAD reaches isn't among them)");
        DrawerRoom room = tens(2, 4);
        room.fault(1, 2);
        room.begin(1, PULL, 20);
        room.step(1, 2);
        whole(room, 0, FILE, 50);
        room.step(1, 30);
        cards("40 50 are out of reach, but for an old copy's 40", room, 10, 30, 40);
        due("the guide", room.shape(), 2);
        due("one leaf", room.night(3), 1);
        headings("one leaf", room, 0, 10, 30, 40);
        due("50 is gone", whole(room, 0, SEEK, 50), 0);
        // What was parted and has not risen is among them.
        room = tens(2, 4);
        room.begin(0, FILE, 50);
        room.step(0, 3);
        room.fall();
        due("two leaves and a guide", room.night(4), 3);
        cards("all of them", room, 10, 20, 30, 40, 50);
    }

    private static void nightFreesAll() {
        sentence("all DRAWERS are SPARE");
        DrawerRoom room = tens(2, 40);
        due("many", room.count(4) > 17, true);
        for (int i = 3; i <= 40; i++) whole(room, 0, PULL, 10 * i);
        due("no fewer by pulling", room.count(4) > 17, true);
        due("one leaf", room.night(2), 1);
        for (int drawer = 1; drawer < 256; drawer++) due("spare " + drawer, room.drawer(drawer, 0), 0);
        headings("two cards", room, 0, 10, 20);
        for (int i = 3; i <= 5; i++) whole(room, 0, FILE, 10 * i);
        edge("parted into the least spare one", room, 0, 0, 30, 1);
        due("three in use", room.count(4), 3);
    }

    private static void nightByTheRule() {
        sentence("in ORDER (of a RULE)");
        DrawerRoom room = ruled(2, "d- c+;");
        for (int heading : new int[] {10, 19, 28, 1, 0, 9999, 109}) whole(room, 0, FILE, heading);
        cards("by the rule", room, 109, 19, 9999, 28, 1, 0, 10);
        due("three leaves and a guide", room.night(3), 4);
        headings("by the rule", room, 0, 109, 19, 9999);
        headings("by the rule", room, 1, 28, 1, 0);
        headings("by the rule", room, 2, 10);
        edge("HIGH may be 0", room, 1, 0, 0, 2);
        headings("the guide", room, 3, 9999, 0);
        due("sound", room.shape(), NONE);
        for (int heading : new int[] {10, 19, 28, 1, 0, 9999, 109}) due("sought", whole(room, 0, SEEK, heading), 1);
    }
}
