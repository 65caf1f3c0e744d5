/** The boundary cases of ==== 2 of the terms and of promises 9 and 10, a test for each sentence. */
public final class BoundariesOfDrawersTest extends Checks {
    private static final int[] WRONG_DRAWERS = {-1, 256, 257, 259, 260, 1000, LEAST, MOST};

    public static void main(String[] args) {
        drawersFromAndTo();
        childrenOneMore();
        atFirst();
        coversWithoutHigh();
        coversUpToHigh();
        coversInOrder();
        guideCoversUpToHigh();
        wayOfEquals();
        lastChildWithoutSuch();
        partedAtOneTooMany();
        leastSpareIsNew();
        newHasHighAndThread();
        leafParts();
        guideParts();
        guidePartsInTheMiddle();
        drawerToldOrNot();
        zeroIsNotNone();
        atThatIsNone();
        spareTellsNothing();
        finish("BoundariesOfDrawersTest");
    }

    /** 2 B (2 B + 1) cards 10, 20, .. in full leaves under one full guide, drawer 2 B + 1. */
    private static DrawerRoom fullGuide(int b) {
        DrawerRoom room = tens(b, 2 * b * (2 * b + 1));
        due("B " + b + ": a full guide", room.night(2 * b), 2 * b + 2);
        due("B " + b + ": it is the top", room.count(3), 2 * b + 1);
        due("B " + b + ": its headings", room.drawer(2 * b + 1, 2), 2 * b);
        return room;
    }

    /** Clerk 0 parted the leaf that is the top, and has not risen: 10 20 30 in drawer 0, 40 50 in 1. */
    private static DrawerRoom partedTop() {
        DrawerRoom room = tens(2, 4);
        room.begin(0, FILE, 50);
        room.step(0, 3);
        due("clerk 0 rises", room.clerk(0, 0), RISING);
        due("the top is parted", room.drawer(room.count(3), 4), 1);
        return room;
    }

    /** Where a seek of clerk 2 is behind its first step. */
    private static int firstStepOf(DrawerRoom room, int heading) {
        room.begin(2, SEEK, heading);
        room.step(2, 1);
        int drawer = room.clerk(2, 1);
        room.step(2, 30);
        return drawer;
    }

    // ---- ==== 2

    private static void drawersFromAndTo() {
        sentence("DRAWERS are 0 .. 255, SPARE or in use.");
        DrawerRoom room = new DrawerRoom(2);
        due("the first is in use", room.drawer(0, 0), 1);
        for (int drawer = 1; drawer < 256; drawer++) due("spare " + drawer, room.drawer(drawer, 0), 0);
        for (int drawer : WRONG_DRAWERS) due("no drawer " + drawer, room.drawer(drawer, 0), NONE);
        room = tens(2, 5);
        for (int drawer = 0; drawer < 256; drawer++) due("drawer " + drawer, room.drawer(drawer, 0), drawer < 3 ? 1 : 0);
        due("three in use", room.count(4), 3);
    }

    private static void childrenOneMore() {
        sentence("A GUIDE has CHILDREN, one more than HEADINGS, which stand between them.");
        DrawerRoom room = twoLeaves();
        due("one heading", room.drawer(2, 2), 1);
        children("two children", room, 2, 0, 1);
        room = tens(2, 13);
        room.night(2);
        due("no heading", room.drawer(9, 2), 0);
        children("one child", room, 9, 6);
        room = fullGuide(5);
        due("ten headings", room.drawer(11, 2), 10);
        children("eleven children", room, 11, 0, 1, 2, 3, 4, 5, 6, 7, 8, 9, 10);
    }

    private static void atFirst() {
        sentence("At first DRAWER 0 is a LEAF without cards, HIGH and THREAD, and THE TOP.");
        for (int b = 2; b <= 5; b++) {
            DrawerRoom room = new DrawerRoom(b);
            edge("at first", room, 0, 0, NONE, NONE);
            headings("at first", room, 0);
            children("at first", room, 0);
            due("the top", room.count(3), 0);
            due("not latched", room.drawer(0, 5), NONE);
            cards("no cards", room);
        }
    }

    private static void coversWithoutHigh() {
        sentence("A DRAWER COVERS a HEADING, if HIGH is none");
        DrawerRoom room = new DrawerRoom(2);
        for (int heading : new int[] {0, 9999}) {
            room.begin(0, SEEK, heading);
            due("covered at once", room.step(0, 30), 1);
        }
        room = partedTop();
        room.begin(1, SEEK, 9999);
        due("by the thread, then covered by the last one", room.step(1, 30), 2);
        room.begin(1, SEEK, 0);
        due("ahead of all", room.step(1, 30), 1);
    }

    private static void coversUpToHigh() {
        sentence("or the HEADING isn't behind it");
        DrawerRoom room = partedTop();
        int[] asked = {0, 29, 30, 31, 40, 9999};
        int[] steps = {1, 1, 1, 2, 2, 2};
        for (int i = 0; i < asked.length; i++) {
            room.begin(1, SEEK, asked[i]);
            due("steps to seek " + asked[i], room.step(1, 30), steps[i]);
        }
        due("HIGH itself was found there", room.job(7, 2), 1);
        // Holding: the leaf is parted between the latch and the look at it, by a clerk who minds no latch.
        for (int heading : new int[] {30, 31}) {
            room = tens(2, 4);
            room.fault(0, 2);
            room.begin(1, PULL, heading);
            room.step(1, 1);
            room.begin(0, FILE, 50);
            room.step(0, 3);
            edge("parted", room, 0, 0, 30, 1);
            room.step(1, 1);
            due(heading + " held: is at", room.clerk(1, 0), heading == 30 ? WRITING : HOLDING);
            due(heading + " held: the drawer", room.clerk(1, 1), heading == 30 ? 0 : 1);
        }
    }

    private static void coversInOrder() {
        sentence("isn't behind it (by a RULE)");
        DrawerRoom room = ruled(2, "d-;");
        for (int heading : new int[] {19, 28, 37, 46}) whole(room, 3, FILE, heading);
        room.begin(0, FILE, 55);
        room.step(0, 3);
        edge("parted by the rule", room, 0, 0, 37, 1);
        int[] covered = {37, 7, 27, 18, 9998, 9, 9999};
        for (int heading : covered) {
            room.begin(1, SEEK, heading);
            due(heading + " is covered", room.step(1, 30), 1);
        }
        for (int heading : new int[] {47, 9997, 6, 0, 9990, 55}) {
            room.begin(1, SEEK, heading);
            due(heading + " is behind", room.step(1, 30), 2);
        }
    }

    private static void guideCoversUpToHigh() {
        sentence("A DRAWER COVERS a HEADING (a GUIDE)");
        DrawerRoom room = tens(2, 16);
        room.begin(0, FILE, 170);
        room.step(0, 7);
        clerk("the guide is parted", room, 0, RISING, 2, 16, 90, 7);
        edge("the guide", room, 2, 1, 90, 7);
        due("HIGH itself: to its last child", firstStepOf(room, 90), room.at(2, 2, true));
        due("behind HIGH: by the thread", firstStepOf(room, 91), 7);
        due("far behind HIGH", firstStepOf(room, 9999), 7);
        due("ahead of all", firstStepOf(room, 0), 0);
    }

    private static void wayOfEquals() {
        sentence("THE WAY of a HEADING in a GUIDE is to the CHILD ahead of the first of its HEADINGS that isn't ahead of it");
        DrawerRoom room = tens(2, 16);
        headings("four headings", room, 2, 30, 60, 90, 120);
        children("five children", room, 2, 0, 1, 3, 4, 5);
        int[] asked = {0, 29, 30, 31, 59, 60, 61, 90, 91, 119, 120, 121};
        int[] want = {0, 0, 0, 1, 1, 1, 3, 3, 4, 4, 4, 5};
        for (int i = 0; i < asked.length; i++) due("the way of " + asked[i], firstStepOf(room, asked[i]), want[i]);
        DrawerRoom ruled = ruled(2, "d-;");
        for (int heading : new int[] {19, 28, 37, 46, 55}) whole(ruled, 3, FILE, heading);
        headings("by the rule", ruled, 2, 37);
        int[] byRule = {37, 27, 9999, 47, 36, 0};
        int[] ways = {0, 0, 0, 1, 1, 1};
        for (int i = 0; i < byRule.length; i++) due("the way of " + byRule[i], firstStepOf(ruled, byRule[i]), ways[i]);
    }

    private static void lastChildWithoutSuch() {
        sentence("the last CHILD without such.");
        due("behind all headings", firstStepOf(twoLeaves(), 9999), 1);
        DrawerRoom room = tens(2, 13);
        due("a night", room.night(2), 11);
        due("the top's last child", firstStepOf(room, 121), 9);
        headings("which has no headings", room, 9);
        room.begin(2, SEEK, 130);
        room.step(2, 2);
        due("and one child", room.clerk(2, 1), 6);
        room.step(2, 30);
        due("found", room.job(room.clerk(2, 2), 2), 1);
    }

    private static void partedAtOneTooMany() {
        sentence("TO PART a DRAWER with 2 B + 1 HEADINGS");
        for (int b = 2; b <= 5; b++) {
            DrawerRoom room = tens(b, 2 * b);
            due("B " + b + ": 2 B aren't parted", room.count(4), 1);
            due("B " + b + ": 2 B in one leaf", room.drawer(0, 2), 2 * b);
            due("B " + b + ": it isn't bad", room.shape(), NONE);
            room.begin(0, FILE, 5);
            due("B " + b + ": three steps", room.step(0, 3), 3);
            due("B " + b + ": one more is parted", room.count(4), 2);
            due("B " + b + ": in the same step", room.clerk(0, 0), RISING);
            room = fullGuide(b);
            room.begin(0, FILE, 5);
            room.step(0, 6);
            due("B " + b + ": a full guide", room.drawer(2 * b + 1, 2), 2 * b);
            room.step(0, 1);
            due("B " + b + ": one more is parted", room.drawer(2 * b + 1, 2), b);
            due("B " + b + ": and he rises", room.clerk(0, 0), RISING);
        }
    }

    private static void leastSpareIsNew() {
        sentence("the least SPARE one is NEW, of its LEVEL");
        DrawerRoom room = new DrawerRoom(2);
        // Drawers come up one behind the other: leaf 1, guide 2, leaves 3, 4, 5, 6, guides 7, 8.
        int[] levels = {0, 0, 1, 0, 0, 0, 0, 1, 2};
        int[] used = {1, 1, 1, 1, 3, 3, 3, 4, 4, 4, 5, 5, 5, 6, 6, 6, 9};
        for (int i = 0; i < used.length; i++) {
            whole(room, 0, FILE, 10 * i);
            due("in use with " + (i + 1) + " cards", room.count(4), used[i]);
        }
        for (int drawer = 0; drawer < levels.length; drawer++) due("level of " + drawer, room.drawer(drawer, 1), levels[drawer]);
        // Behind a night the numbers begin anew.
        due("a night", room.night(4), 6);
        whole(room, 0, FILE, 5);
        for (int drawer = 6; drawer < 9; drawer++) due("then a leaf, a guide, a top: " + drawer, room.drawer(drawer, 1), drawer - 6);
        due("and no other one", room.drawer(9, 0), 0);
    }

    private static void newHasHighAndThread() {
        sentence("with its HIGH and THREAD");
        DrawerRoom room = twoLeaves();
        whole(room, 0, FILE, 5);
        whole(room, 0, FILE, 15);
        edge("the leaf", room, 0, 0, 15, 3);
        edge("NEW has the HIGH and THREAD it had", room, 3, 0, 30, 1);
        edge("the next one", room, 1, 0, NONE, NONE);
        whole(room, 0, FILE, 60);
        whole(room, 0, FILE, 70);
        whole(room, 0, FILE, 80);
        edge("the last leaf", room, 1, 0, 60, 4);
        edge("NEW has no HIGH, no THREAD", room, 4, 0, NONE, NONE);
    }

    private static void leafParts() {
        sentence("Of a LEAF the first B + 1 stay, the others come to NEW; HIGH is the last that stayed.");
        for (int b = 2; b <= 5; b++) {
            for (int place = 0; place <= 2 * b; place++) {
                DrawerRoom room = tens(b, 2 * b);
                room.begin(0, FILE, 10 * place + 5);
                room.step(0, 3);
                int[] all = new int[2 * b + 1];
                for (int i = 0; i < all.length; i++) all[i] = i < place ? 10 * i + 10 : i == place ? 10 * i + 5 : 10 * i;
                String what = "B " + b + ", filed at " + place;
                headings(what, room, 0, java.util.Arrays.copyOfRange(all, 0, b + 1));
                headings(what, room, 1, java.util.Arrays.copyOfRange(all, b + 1, 2 * b + 1));
                edge(what, room, 0, 0, all[b], 1);
                edge(what, room, 1, 0, NONE, NONE);
                clerk(what, room, 0, RISING, 0, 2 * b, all[b], 1);
            }
        }
    }

    private static void guideParts() {
        sentence("Of a GUIDE the first B HEADINGS and B + 1 CHILDREN stay, the HEADING behind them is HIGH (and in neither), "
            + "the others come to NEW. Its THREAD is NEW.");
        for (int b = 2; b <= 5; b++) {
            DrawerRoom room = fullGuide(b);
            int guide = 2 * b + 1;
            int each = 20 * b;
            room.begin(0, FILE, 5);
            room.step(0, 4);
            clerk("B " + b + ": the first leaf", room, 0, RISING, 0, 2 * b * (2 * b + 1), 10 * b, guide + 1);
            room.step(0, 3);
            clerk("B " + b + ": the guide", room, 0, RISING, guide, 2 * b * (2 * b + 1), each * b, guide + 2);
            int[] stay = new int[b];
            int[] go = new int[b];
            int[] stayed = new int[b + 1];
            int[] gone = new int[b + 1];
            for (int k = 0; k < b; k++) {
                stay[k] = k == 0 ? 10 * b : each * k;
                go[k] = each * (b + 1 + k);
            }
            for (int k = 0; k <= b; k++) {
                stayed[k] = k == 0 ? 0 : k == 1 ? guide + 1 : k - 1;
                gone[k] = b + k;
            }
            headings("B " + b + ": stay", room, guide, stay);
            children("B " + b + ": stay", room, guide, stayed);
            headings("B " + b + ": go", room, guide + 2, go);
            children("B " + b + ": go", room, guide + 2, gone);
            edge("B " + b, room, guide, 1, each * b, guide + 2);
            edge("B " + b, room, guide + 2, 1, NONE, NONE);
            due("B " + b + ": the child ahead of HIGH goes up to it", room.drawer(stayed[b], 3), each * b);
            due("B " + b + ": sound", room.shape(), NONE);
            room.step(0, 1);
            due("B " + b + ": through", room.clerk(0, 0), IDLE);
            headings("B " + b + ": the top", room, guide + 3, each * b);
            children("B " + b + ": the top", room, guide + 3, guide, guide + 2);
        }
    }

    private static void guidePartsInTheMiddle() {
        sentence("Of a GUIDE .. NEW .. with its HIGH and THREAD");
        DrawerRoom room = tens(2, 40);
        due("ten leaves, two guides, a top", room.night(4), 13);
        edge("the first guide", room, 10, 1, 200, 11);
        due("filed", whole(room, 0, FILE, 5), 1);
        headings("the leaf", room, 0, 5, 10, 20);
        edge("the new leaf", room, 13, 0, 40, 1);
        headings("stay", room, 10, 20, 40);
        children("stay", room, 10, 0, 13, 1);
        edge("stay", room, 10, 1, 80, 14);
        headings("go", room, 14, 120, 160);
        children("go", room, 14, 2, 3, 4);
        edge("go", room, 14, 1, 200, 11);
        headings("the top", room, 12, 80, 200);
        children("the top", room, 12, 10, 14, 11);
        due("sound", room.shape(), NONE);
    }

    // ---- promises 9 and 10

    private static void drawerToldOrNot() {
        sentence("NONE for others, if there is none such, or (1 to 5) it is SPARE or has none.");
        DrawerRoom room = partedTop();
        int[][] want = {{1, 0, 3, 30, 1, 0}, {1, 0, 2, NONE, NONE, NONE}, {0, NONE, NONE, NONE, NONE, NONE}};
        for (int drawer = 0; drawer < 3; drawer++) {
            for (int what = 0; what < 6; what++) due("drawer(" + drawer + ", " + what + ")", room.drawer(drawer, what), want[drawer][what]);
        }
        for (int drawer : new int[] {0, 1, 2, 255}) {
            for (int what : new int[] {-1, 6, 7, 8, 15, 16, LEAST, MOST}) due("drawer(" + drawer + ", " + what + ")", room.drawer(drawer, what), NONE);
        }
        for (int drawer : WRONG_DRAWERS) {
            for (int what = -1; what < 7; what++) due("drawer(" + drawer + ", " + what + ")", room.drawer(drawer, what), NONE);
        }
        for (int what = 1; what < 6; what++) due("drawer(255, " + what + ")", room.drawer(255, what), NONE);
    }

    private static void zeroIsNotNone() {
        sentence("3 HIGH, 4 THREAD, 5 the CLERK who LATCHED it (which may be 0)");
        DrawerRoom room = ruled(2, "d-;");
        for (int heading : new int[] {2, 1, 0, 10}) whole(room, 3, FILE, heading);
        room.begin(0, FILE, 20);
        room.step(0, 3);
        headings("the leaf", room, 0, 2, 1, 0);
        headings("the new leaf", room, 1, 10, 20);
        edge("HIGH is 0", room, 0, 0, 0, 1);
        due("clerk 0 latched it", room.drawer(0, 5), 0);
        due("one is latched", room.count(7), 1);
        clerk("he looks for 0", room, 0, RISING, 0, 4, 0, 1);
        due("0 is covered", firstStepOf(room, 0), NONE);
        due("found there", room.job(room.clerk(2, 2), 2), 1);
        due("10 isn't", firstStepOf(room, 10), 1);
        room.step(0, 1);
        headings("0 stands in the guide", room, 2, 0);
        children("with drawer 0", room, 2, 0, 1);
        due("the way of 0", firstStepOf(room, 0), 0);
        due("the way of 10", firstStepOf(room, 10), 1);
        due("sound", room.shape(), NONE);
        due("0 is pulled", whole(room, 1, PULL, 0), 1);
        due("HIGH stays", room.drawer(0, 3), 0);
        cards("without it", room, 2, 1, 10, 20);
    }

    private static void atThatIsNone() {
        sentence("The k-th HEADING of a DRAWER, or its k-th CHILD (from 0 on); NONE if there is none such.");
        DrawerRoom room = fullGuide(2);
        headings("a full guide", room, 5, 40, 80, 120, 160);
        children("a full guide", room, 5, 0, 1, 2, 3, 4);
        headings("a full leaf", room, 4, 170, 180, 190, 200);
        children("a leaf has no children", room, 4);
        for (int k : new int[] {-1, -2, 5, 6, 10, 11, 12, 16, LEAST, MOST}) {
            for (int drawer = 0; drawer < 6; drawer++) {
                due("at(" + drawer + ", " + k + ", false)", room.at(drawer, k, false), NONE);
                due("at(" + drawer + ", " + k + ", true)", room.at(drawer, k, true), NONE);
            }
        }
        for (int k = -1; k < 7; k++) {
            for (int drawer : WRONG_DRAWERS) {
                due("at(" + drawer + ", " + k + ", false)", room.at(drawer, k, false), NONE);
                due("at(" + drawer + ", " + k + ", true)", room.at(drawer, k, true), NONE);
            }
        }
        // What a clerk has copied can't be asked for.
        for (int clerk = 0; clerk < 4; clerk++) {
            room.begin(clerk, PULL, 10 + 40 * clerk);
            room.step(clerk, 3);
            due("he has a copy", room.clerk(clerk, 0), WRITING);
            for (int drawer = 256; drawer < 264; drawer++) due("at(" + drawer + ", 0, false)", room.at(drawer, 0, false), NONE);
        }
    }

    private static void spareTellsNothing() {
        sentence("NONE .. (1 to 5) it is SPARE (it was in use ahead of a NIGHT)");
        DrawerRoom room = tens(2, 17);
        due("nine in use", room.count(4), 9);
        for (int i = 1; i <= 17; i++) whole(room, 0, PULL, 10 * i);
        due("empty leaves stay in use", room.count(4), 9);
        due("a night", room.night(4), 1);
        for (int drawer = 1; drawer < 10; drawer++) {
            due("spare", room.drawer(drawer, 0), 0);
            for (int what = 1; what < 6; what++) due("drawer(" + drawer + ", " + what + ")", room.drawer(drawer, what), NONE);
            for (int k = 0; k < 6; k++) {
                due("at(" + drawer + ", " + k + ", false)", room.at(drawer, k, false), NONE);
                due("at(" + drawer + ", " + k + ", true)", room.at(drawer, k, true), NONE);
            }
        }
        headings("the one leaf", room, 0);
        edge("the one leaf", room, 0, 0, NONE, NONE);
        // Leaf 6 had two cards, guide 7 three children, guide 8 two.
        room = tens(2, 17);
        headings("it was in use", room, 6, 160, 170);
        due("a night", room.night(4), 6);
        for (int drawer = 6; drawer < 9; drawer++) {
            due("spare", room.drawer(drawer, 0), 0);
            for (int what = 1; what < 6; what++) due("drawer(" + drawer + ", " + what + ")", room.drawer(drawer, what), NONE);
            for (int k = 0; k < 3; k++) {
                due("at(" + drawer + ", " + k + ", false)", room.at(drawer, k, false), NONE);
                due("at(" + drawer + ", " + k + ", true)", room.at(drawer, k, true), NONE);
            }
        }
    }
}
