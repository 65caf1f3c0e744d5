/** The boundary cases of ==== 3 of the terms and of promises 4 to 8, a test for each sentence. */
public final class BoundariesOfClerksTest extends Checks {
    public static void main(String[] args) {
        clerksFromAndTo();
        kindsFromAndTo();
        jobsByNumber();
        jobsAtMost();
        timeByStep();
        faultsFromAndTo();
        faultOneReading();
        faultOneHolding();
        faultTwoReading();
        faultTwoHolding();
        faultTwoRising();
        faultToldWhileIdle();
        faultLasts();
        beginsAtTheTop();
        readingByTheThread();
        readingMindsNoLatchButALeafs();
        readingALatchedLeaf();
        holdingALatchedThread();
        holdingALatchedThreadOfAGuide();
        copyIsTakenWhileHolding();
        writingByTheCopy();
        writingInItsPlace();
        writingTheLastCard();
        headingInTheCopyOfAGuide();
        writingAtMost();
        risingFromTheTop();
        risingBehindAnother();
        risingWithoutAPath();
        pathOfAnEarlierJob();
        risingWithNothingAbove();
        risingToALatchedGuide();
        stepsFromAndTo();
        clerkToldOrNot();
        jobToldOrNot();
        finish("BoundariesOfClerksTest");
    }

    /** Clerk 1 holds leaf 0 for a heading, and clerk 0, who minds no latch, parted it: 10 20 30, 40 50 in 1. */
    private static DrawerRoom partedWhileHeld(int kind, int heading, int faultOfHolder) {
        DrawerRoom room = tens(2, 4);
        room.fault(0, 2);
        room.fault(1, faultOfHolder);
        room.begin(1, kind, heading);
        room.step(1, 1);
        due("1 holds", room.clerk(1, 0), HOLDING);
        room.begin(0, FILE, 50);
        room.step(0, 3);
        edge("parted under him", room, 0, 0, 30, 1);
        return room;
    }

    /** Clerk 1 rises with 190 and drawer 6 to the guide 5, which was parted since: 20 40, up to 80, then 8. */
    private static DrawerRoom guidePartedWhileRising(int faultOfRiser) {
        DrawerRoom room = tens(2, 20);
        due("full leaves and a full guide", room.night(4), 6);
        room.fault(1, faultOfRiser);
        room.begin(1, FILE, 195);
        room.step(1, 4);
        clerk("1 rises", room, 1, RISING, 4, 20, 190, 6);
        room.begin(0, FILE, 5);
        due("0 parts the guide and raises the top", room.step(0, 30), 8);
        headings("the guide", room, 5, 20, 40);
        edge("the guide", room, 5, 1, 80, 8);
        due("1 holds the guide he came by", room.step(1, 1), 1);
        clerk("1 holds", room, 1, HOLDING, 5, 20, 190, 6);
        return room;
    }

    // ---- ==== 3

    private static void clerksFromAndTo() {
        sentence("CLERKS are 0 .. 3: each IDLE, or at a JOB");
        DrawerRoom room = new DrawerRoom(2);
        for (int clerk = 0; clerk < 4; clerk++) {
            due("idle", room.clerk(clerk, 0), IDLE);
            due("a fault", room.fault(clerk, 0), true);
            due("a job", room.begin(clerk, SEEK, 5), clerk);
            due("at it", room.clerk(clerk, 0), READING);
        }
        due("four at jobs", room.count(6), 4);
        for (int clerk = 0; clerk < 4; clerk++) {
            due("a step", room.step(clerk, 30), 1);
            due("one fewer", room.count(6), 3 - clerk);
        }
        for (int clerk : WRONG_CLERKS) {
            due("fault of " + clerk, room.fault(clerk, 0), false);
            for (int kind = SEEK; kind <= PULL; kind++) due("begin of " + clerk, room.begin(clerk, kind, 5), NONE);
            due("step of " + clerk, room.step(clerk, 1), NONE);
            for (int what = 0; what < 5; what++) due("clerk(" + clerk + ", " + what + ")", room.clerk(clerk, what), NONE);
        }
        due("no job of theirs", room.count(2), 4);
        due("no step of theirs", room.count(1), 4);
    }

    private static void kindsFromAndTo() {
        sentence("at a JOB: 0 seek, 1 file, 2 pull, and a HEADING");
        DrawerRoom room = new DrawerRoom(2);
        for (int kind : WRONG_KINDS) due("kind " + kind, room.begin(0, kind, 5), NONE);
        due("he is idle", room.clerk(0, 0), IDLE);
        due("and has had no job", room.clerk(0, 2), NONE);
        for (int kind = SEEK; kind <= PULL; kind++) {
            due("kind " + kind, room.begin(kind, kind, 5), kind);
            due("told", room.job(kind, 0), kind);
        }
        due("the seek of what isn't there", room.step(SEEK, 30), 1);
        due("its answer", room.job(SEEK, 2), 0);
        due("the filing", room.step(FILE, 30), 3);
        due("its answer", room.job(FILE, 2), 1);
        due("the pulling", room.step(PULL, 30), 3);
        due("its answer", room.job(PULL, 2), 1);
        cards("filed and pulled", room);
    }

    private static void jobsByNumber() {
        sentence("JOBS have numbers as they begin");
        DrawerRoom room = new DrawerRoom(2);
        int[] clerks = {3, 1, 0, 2};
        for (int i = 0; i < 4; i++) {
            due("job " + i, room.begin(clerks[i], PULL, 70 + i), i);
            due("another one of his", room.begin(clerks[i], PULL, 80), NONE);
            due("his job", room.clerk(clerks[i], 2), i);
            due("its heading", room.job(i, 1), 70 + i);
        }
        room.fall();
        due("numbers of lost ones aren't given again", room.begin(0, SEEK, 5), 4);
        room.step(0, 30);
        room.night(2);
        due("nor behind a night", room.begin(0, SEEK, 5), 5);
        due("six jobs", room.count(2), 6);
    }

    private static void jobsAtMost() {
        sentence("at most 120");
        DrawerRoom room = new DrawerRoom(5);
        for (int job = 0; job < 120; job++) {
            if (job % 4 == 0) room.fall();
            due("job " + job, room.begin(job % 4, job % 3, job), job);
        }
        due("all are at jobs", room.count(6), 4);
        due("the last four are lost", room.fall(), 4);
        for (int turn = 0; turn < 3; turn++) {
            for (int clerk = 0; clerk < 4; clerk++) {
                for (int kind = SEEK; kind <= PULL; kind++) due("no 121st", room.begin(clerk, kind, 5), NONE);
                due("he is idle", room.clerk(clerk, 0), IDLE);
                due("his latest job", room.clerk(clerk, 2), 116 + clerk);
            }
            if (turn == 0) due("a night", room.night(5), 1);
            if (turn == 1) room.fall();
        }
        due("120 jobs", room.count(2), 120);
        due("the last one", room.job(119, 1), 119);
        due("no other one", room.job(120, 1), NONE);
    }

    private static void timeByStep() {
        sentence("TIME (0 at first) is one more with each STEP.");
        DrawerRoom room = new DrawerRoom(2);
        due("at first", room.count(1), 0);
        room.begin(0, FILE, 5);
        room.begin(1, FILE, 6);
        due("a begin is no step", room.count(1), 0);
        for (int step = 1; step <= 2; step++) {
            room.step(0, 1);
            due("a step", room.count(1), step);
        }
        room.step(1, 5);
        due("steps that do nothing count", room.count(1), 7);
        due("for his job too", room.job(1, 5), 5);
        due("the step that ends a job counts", room.step(0, 30), 1);
        due("once", room.count(1), 8);
        room.step(0, 30);
        room.step(1, 0);
        room.step(1, 31);
        due("refused steps don't count", room.count(1), 8);
        room.found(8, NONE);
        room.fall();
        room.night(2);
        due("nor what is no step", room.count(1), 8);
    }

    private static void faultsFromAndTo() {
        sentence("A FAULT (0 .. 2) of an IDLE CLERK: true; false if there is none such.");
        DrawerRoom room = new DrawerRoom(2);
        for (int clerk = 0; clerk < 4; clerk++) {
            for (int fault : new int[] {2, 1, 0}) due("fault(" + clerk + ", " + fault + ")", room.fault(clerk, fault), true);
            for (int fault : new int[] {-1, 3, 4, LEAST, MOST}) due("fault(" + clerk + ", " + fault + ")", room.fault(clerk, fault), false);
            room.begin(clerk, FILE, 5);
            room.step(clerk, 1);
            due("he has the last right one, none", room.drawer(0, 5), clerk);
            room.fall();
        }
        room.fault(0, 2);
        due("one that can't be", room.fault(0, 3), false);
        room.begin(0, FILE, 5);
        room.step(0, 1);
        due("leaves him the old one", room.drawer(0, 5), NONE);
        due("he holds", room.clerk(0, 0), HOLDING);
    }

    private static void faultOneReading() {
        sentence("1 doesn't ask whether a DRAWER COVERS what he looks for (READING)");
        DrawerRoom room = tens(2, 16);
        room.begin(0, FILE, 170);
        room.step(0, 7);
        edge("a parted guide", room, 2, 1, 90, 7);
        for (int fault : new int[] {0, 2, 1}) {
            room.fault(1, fault);
            room.begin(1, SEEK, 160);
            room.step(1, 1);
            due("fault " + fault + ": behind the guide", room.clerk(1, 1), fault == 1 ? room.at(2, 2, true) : 7);
            room.step(1, 30);
            due("fault " + fault + ": the answer", room.job(room.clerk(1, 2), 2), fault == 1 ? 0 : 1);
            due("fault " + fault + ": steps", room.job(room.clerk(1, 2), 5), fault == 1 ? 2 : 3);
        }
    }

    private static void faultOneHolding() {
        sentence("(he takes it that it does) (HOLDING)");
        DrawerRoom room = partedWhileHeld(FILE, 60, 1);
        room.step(1, 1);
        clerk("he takes a copy all the same", room, 1, WRITING, 0, 4, 60, NONE);
        room.step(1, 1);
        headings("and writes behind HIGH", room, 0, 10, 20, 30, 60);
        due("which is bad", room.shape(), 0);
        room = guidePartedWhileRising(1);
        room.step(1, 1);
        clerk("a guide", room, 1, WRITING, 5, 20, 190, 6);
        due("the last step", room.step(1, 30), 1);
        headings("written behind HIGH", room, 5, 20, 40, 190);
        children("written behind HIGH", room, 5, 0, 7, 1, 6);
        due("which is bad", room.shape(), 5);
        room = guidePartedWhileRising(0);
        room.step(1, 1);
        clerk("who asks goes on", room, 1, HOLDING, 8, 20, 190, 6);
        due("copy and writing", room.step(1, 30), 2);
        headings("in its place", room, 8, 120, 160, 190);
        children("in its place", room, 8, 2, 3, 4, 6);
        due("sound", room.shape(), NONE);
    }

    private static void faultTwoReading() {
        sentence("2 neither latches nor minds latches (READING)");
        DrawerRoom room = tens(2, 2);
        room.fault(1, 2);
        room.begin(0, FILE, 30);
        room.step(0, 1);
        room.begin(1, FILE, 40);
        room.step(1, 1);
        due("he holds what another one latched", room.clerk(1, 0), HOLDING);
        due("the latch is the other one's", room.drawer(0, 5), 0);
        due("one latch", room.count(7), 1);
        room.step(1, 30);
        due("he is through", room.clerk(1, 0), IDLE);
        due("the other one's latch stays", room.drawer(0, 5), 0);
        room.fault(1, 2);
        room.begin(1, FILE, 40);
        room.step(1, 3);
        due("an answer 0 lets nothing go either", room.job(room.clerk(1, 2), 2), 0);
        due("the latch stays", room.drawer(0, 5), 0);
        room.step(0, 30);
        room.begin(1, FILE, 50);
        room.step(1, 2);
        due("he is writing", room.clerk(1, 0), WRITING);
        due("and nothing is latched", room.count(7), 0);
    }

    private static void faultTwoHolding() {
        sentence("(he HOLDS without LATCHING, also what others LATCHED) (HOLDING)");
        DrawerRoom room = tens(2, 4);
        room.fault(1, 2);
        room.begin(1, FILE, 60);
        room.step(1, 1);
        room.begin(0, FILE, 50);
        room.step(0, 3);
        room.begin(2, FILE, 45);
        room.step(2, 2);
        due("0 latched the leaf", room.drawer(0, 5), 0);
        due("2 latched its thread", room.drawer(1, 5), 2);
        room.step(1, 1);
        clerk("he goes on to it", room, 1, HOLDING, 1, 4, 60, NONE);
        due("0 has his latch", room.drawer(0, 5), 0);
        due("2 has his", room.drawer(1, 5), 2);
        room.step(1, 1);
        due("he takes a copy", room.clerk(1, 0), WRITING);
        room.step(2, 30);
        headings("2 wrote", room, 1, 40, 45, 50);
        room.step(1, 30);
        headings("he wrote what he had copied", room, 1, 40, 50, 60);
    }

    private static void faultTwoRising() {
        sentence("To let go, to LATCH: nothing with FAULT 2 (RISING)");
        DrawerRoom room = tens(2, 12);
        due("full leaves", room.night(4), 4);
        room.fault(1, 2);
        room.begin(0, FILE, 5);
        room.step(0, 5);
        due("0 latched the guide", room.drawer(3, 5), 0);
        room.begin(1, FILE, 45);
        room.step(1, 4);
        clerk("1 rises", room, 1, RISING, 1, 13, 60, 5);
        due("his leaf isn't latched", room.drawer(1, 5), NONE);
        room.step(1, 1);
        clerk("he holds the guide all the same", room, 1, HOLDING, 3, 13, 60, 5);
        due("it is latched by 0", room.drawer(3, 5), 0);
        due("one latch", room.count(7), 1);
        due("he writes", room.step(1, 30), 2);
        due("the latch stays", room.drawer(3, 5), 0);
        headings("written", room, 3, 40, 60, 80);
        // Who raises the top without a latch lets go of none.
        room = tens(2, 4);
        room.fault(1, 2);
        room.begin(1, FILE, 50);
        room.step(1, 3);
        room.begin(0, FILE, 5);
        room.step(0, 1);
        due("0 latched the parted leaf", room.drawer(0, 5), 0);
        room.step(1, 1);
        due("1 raised the top", room.count(3), 2);
        due("0 has his latch", room.drawer(0, 5), 0);
    }

    private static void faultToldWhileIdle() {
        sentence("0 none (told while he is IDLE)");
        DrawerRoom room = tens(2, 4);
        room.begin(0, FILE, 50);
        int[] states = {READING, HOLDING, WRITING, RISING};
        for (int state : states) {
            due("he is at", room.clerk(0, 0), state);
            for (int fault = 0; fault < 3; fault++) due("fault " + fault + " while at " + state, room.fault(0, fault), false);
            due("latches as he does", room.count(7), state == READING ? 0 : 1);
            due("another one may be told", room.fault(1, 0), true);
            room.step(0, 1);
        }
        due("idle", room.clerk(0, 0), IDLE);
        due("the latch was let go", room.count(7), 0);
        due("told", room.fault(0, 2), true);
    }

    private static void faultLasts() {
        sentence("A CLERK may have a FAULT (till another one is told)");
        DrawerRoom room = new DrawerRoom(2);
        room.fault(0, 2);
        for (int turn = 0; turn < 4; turn++) {
            if (turn == 1) room.fall();
            if (turn == 2) room.night(2);
            due("a job", room.begin(0, FILE, turn), turn);
            room.step(0, 2);
            due("he is writing", room.clerk(0, 0), WRITING);
            due("without a latch", room.count(7), 0);
            if (turn != 0) room.step(0, 30);
        }
    }

    private static void beginsAtTheTop() {
        sentence("A JOB begins with READING at THE TOP.");
        DrawerRoom room = tens(2, 4);
        room.begin(0, FILE, 50);
        room.begin(1, SEEK, 40);
        room.step(0, 4);
        due("a new top", room.count(3), 2);
        clerk("1 is still at the old one", room, 1, READING, 0, 5, 40, NONE);
        room.begin(2, SEEK, 40);
        clerk("2 begins at the new one", room, 2, READING, 2, 6, 40, NONE);
        due("1 comes there by the thread", room.step(1, 30), 2);
        due("2 by the guide", room.step(2, 30), 2);
        due("found", room.job(5, 2), 1);
        due("found", room.job(6, 2), 1);
    }

    private static void readingByTheThread() {
        sentence("READING at a DRAWER: if it doesn't COVER the JOB's HEADING, he is at its THREAD.");
        DrawerRoom room = new DrawerRoom(2);
        room.begin(1, FILE, 9999);
        for (int i = 1; i <= 17; i++) whole(room, 3, FILE, 10 * i);
        int[] leaves = {0, 1, 3, 4, 5, 6};
        for (int leaf : leaves) {
            clerk("from leaf to leaf", room, 1, READING, leaf, 0, 9999, NONE);
            room.step(1, 1);
        }
        clerk("the last one covers it", room, 1, HOLDING, 6, 0, 9999, NONE);
    }

    private static void readingMindsNoLatchButALeafs() {
        sentence("Otherwise, if it is a GUIDE, it is his PATH of its LEVEL, and he is at the CHILD by THE WAY. Otherwise, with seek, the JOB ENDS");
        DrawerRoom room = tens(2, 12);
        due("full leaves", room.night(4), 4);
        room.begin(0, FILE, 5);
        room.step(0, 5);
        due("the guide is latched", room.drawer(3, 5), 0);
        room.begin(2, FILE, 35);
        room.step(2, 3);
        due("so is a leaf", room.drawer(4, 5), 2);
        room.begin(1, SEEK, 30);
        due("a seek passes both", room.step(1, 30), 3);
        due("and answers", room.job(14, 2), 1);
        room.begin(1, SEEK, 36);
        due("a seek of what isn't there", room.step(1, 30), 3);
        due("answers 0", room.job(15, 2), 0);
        room.begin(1, FILE, 125);
        due("filed behind the latched guide", room.step(1, 4), 4);
        clerk("and there he waits", room, 1, RISING, 2, 16, 110, 5);
    }

    private static void readingALatchedLeaf() {
        sentence("with others: if another CLERK LATCHED it, nothing; else he LATCHES it, and HOLDS it.");
        for (int kind : new int[] {FILE, PULL}) {
            DrawerRoom room = tens(2, 2);
            room.begin(0, PULL, 10);
            room.step(0, 1);
            room.begin(1, kind, 20);
            for (int step = 1; step <= 2; step++) {
                due("a step", room.step(1, 1), 1);
                clerk("nothing", room, 1, READING, 0, 3, 20, NONE);
                due("the latch", room.drawer(0, 5), 0);
                due("its steps", room.job(3, 5), step);
                room.step(0, 1);
            }
            due("let go", room.drawer(0, 5), NONE);
            room.step(1, 1);
            clerk("he holds it", room, 1, HOLDING, 0, 3, 20, NONE);
            due("his latch", room.drawer(0, 5), 1);
        }
    }

    private static void holdingALatchedThread() {
        sentence("if it doesn't COVER it: if another CLERK LATCHED its THREAD, nothing; "
            + "else he LATCHES that, lets go of the other one, and HOLDS it.");
        DrawerRoom room = partedWhileHeld(PULL, 31, 0);
        room.begin(2, FILE, 45);
        room.step(2, 2);
        due("0, the leaf held, minds no latch", room.drawer(0, 5), 1);
        due("2 latched the thread", room.drawer(1, 5), 2);
        int time = room.count(1);
        due("nothing", room.step(1, 3), 3);
        clerk("he holds what he held", room, 1, HOLDING, 0, 4, 31, NONE);
        due("with his latch", room.drawer(0, 5), 1);
        due("and time goes by", room.count(1), time + 3);
        room.step(2, 30);
        due("let go", room.drawer(1, 5), NONE);
        room.step(1, 1);
        clerk("now he goes on", room, 1, HOLDING, 1, 4, 31, NONE);
        due("latched", room.drawer(1, 5), 1);
        due("let go", room.drawer(0, 5), NONE);
        due("one latch", room.count(7), 1);
        due("copy and end", room.step(1, 30), 2);
        due("31 wasn't there", room.job(4, 2), 0);
    }

    private static void holdingALatchedThreadOfAGuide() {
        sentence("HOLDING a DRAWER, for a HEADING (the JOB's at LEVEL 0; else that which RISES)");
        DrawerRoom room = guidePartedWhileRising(0);
        room.begin(2, FILE, 125);
        due("2 parts a leaf and holds the guide's thread", room.step(2, 6), 6);
        due("2 latched it", room.drawer(8, 5), 2);
        room.step(1, 2);
        clerk("1 waits", room, 1, HOLDING, 5, 20, 190, 6);
        due("with his latch", room.drawer(5, 5), 1);
        room.step(2, 30);
        room.step(1, 1);
        clerk("1 goes on", room, 1, HOLDING, 8, 20, 190, 6);
        due("latched", room.drawer(8, 5), 1);
        due("let go", room.drawer(5, 5), NONE);
        room.step(1, 30);
        headings("both came up", room, 8, 120, 140, 160, 190);
        due("sound", room.shape(), NONE);
    }

    private static void copyIsTakenWhileHolding() {
        sentence("Otherwise he takes a COPY of it (HEADINGS, CHILDREN, HIGH, THREAD), and WRITES.");
        for (int steps = 1; steps <= 2; steps++) {
            DrawerRoom room = tens(2, 4);
            room.fault(1, 2);
            room.begin(1, PULL, 20);
            room.step(1, steps);
            whole(room, 0, FILE, 50);
            room.step(1, 30);
            if (steps == 1) {
                headings("held, then copied: what is there now", room, 0, 10, 30);
                edge("held, then copied", room, 0, 0, 30, 1);
                due("sound", room.shape(), NONE);
            } else {
                headings("copied before: what was there", room, 0, 10, 30, 40);
                edge("copied before", room, 0, 0, NONE, NONE);
                due("the guide is bad", room.shape(), 2);
            }
        }
        // The children too: an old copy of a guide takes a child away that came up since.
        DrawerRoom room = tens(2, 12);
        due("full leaves", room.night(4), 4);
        room.fault(1, 2);
        room.begin(1, FILE, 85);
        room.step(1, 6);
        clerk("1 copied the guide", room, 1, WRITING, 3, 12, 100, 4);
        whole(room, 0, FILE, 5);
        headings("0 came up", room, 3, 20, 40, 80);
        room.step(1, 1);
        headings("and is gone", room, 3, 40, 80, 100);
        children("and is gone", room, 3, 0, 1, 2, 4);
    }

    private static void writingByTheCopy() {
        sentence("with file, if the HEADING is in the COPY, or with pull, if it isn't, he lets go, the JOB ENDS with 0.");
        int[][] cases = {
            // kind and heading of clerk 1, kind of clerk 0 between, answer of 1, how many cards then, line
            {FILE, 20, PULL, 0, 1, 1}, {FILE, 30, FILE, 1, 3, 0}, {PULL, 30, FILE, 0, 3, 1}, {PULL, 20, PULL, 1, 1, 0}};
        for (int[] c : cases) {
            DrawerRoom room = tens(2, 2);
            room.fault(1, 2);
            room.begin(1, c[0], c[1]);
            room.step(1, 2);
            due("0 changes it between", whole(room, 0, c[2], c[1]), 1);
            due("one step", room.step(1, 30), 1);
            due("the answer by the copy", room.job(2, 2), c[3]);
            due("the cards", room.count(5), c[4]);
            due("the line", room.line(c[1]), c[5]);
        }
        DrawerRoom room = tens(2, 2);
        for (int kind : new int[] {FILE, PULL}) {
            int job = room.begin(0, kind, kind == FILE ? 20 : 30);
            room.step(0, 2);
            due("latched", room.drawer(0, 5), 0);
            room.step(0, 1);
            due("ended with 0", room.job(job, 2), 0);
            due("in this step", room.job(job, 4), room.count(1));
            due("let go", room.drawer(0, 5), NONE);
            headings("nothing changed", room, 0, 10, 20);
        }
    }

    private static void writingInItsPlace() {
        sentence("Otherwise the DRAWER becomes the COPY, with the HEADING in its place by ORDER, or without it; ANSWER is 1.");
        int[][] want = {{5, 10, 20, 30}, {10, 15, 20, 30}, {10, 20, 25, 30}, {10, 20, 30, 35}};
        for (int i = 0; i < 4; i++) {
            DrawerRoom room = tens(2, 3);
            due("filed", whole(room, 0, FILE, 10 * i + 5), 1);
            headings("at " + i, room, 0, want[i]);
            due("pulled", whole(room, 0, PULL, 10 * i + 5), 1);
            headings("without it", room, 0, 10, 20, 30);
        }
        int[][] left = {{20, 30}, {10, 30}, {10, 20}};
        for (int i = 0; i < 3; i++) {
            DrawerRoom room = tens(2, 3);
            due("pulled", whole(room, 0, PULL, 10 * i + 10), 1);
            headings("without " + i, room, 0, left[i]);
        }
        DrawerRoom ruled = ruled(2, "d-;");
        for (int heading : new int[] {30, 2, 11, 1}) whole(ruled, 0, FILE, heading);
        headings("by the rule", ruled, 0, 2, 1, 11, 30);
    }

    private static void writingTheLastCard() {
        sentence("or without it (the only card)");
        DrawerRoom room = twoLeaves();
        for (int heading : new int[] {40, 50}) due("pulled", whole(room, 0, PULL, heading), 1);
        headings("an empty leaf", room, 1);
        due("is in use", room.drawer(1, 0), 1);
        due("isn't bad", room.shape(), NONE);
        for (int heading : new int[] {10, 20, 30}) due("pulled", whole(room, 0, PULL, heading), 1);
        edge("an empty leaf keeps HIGH and THREAD", room, 0, 0, 30, 1);
        cards("no cards", room);
        due("three drawers", room.count(4), 3);
        due("nothing to pull", whole(room, 0, PULL, 10), 0);
        due("filed again", whole(room, 0, FILE, 30), 1);
        headings("in its leaf", room, 0, 30);
    }

    private static void headingInTheCopyOfAGuide() {
        sentence("(if that HEADING is in the COPY: HEADINGS stay, and the CHILD behind it is the one that RISES)");
        DrawerRoom room = tens(2, 16);
        due("full leaves, three guide headings", room.night(4), 5);
        room.fault(0, 2);
        room.fault(1, 2);
        room.begin(0, FILE, 32);
        room.begin(1, FILE, 34);
        room.step(0, 3);
        room.step(1, 3);
        room.step(0, 1);
        room.step(1, 1);
        clerk("0 rises", room, 0, RISING, 0, 16, 30, 5);
        clerk("1 rises with the same heading", room, 1, RISING, 0, 17, 30, 6);
        due("0 comes up", room.step(0, 30), 3);
        headings("the guide is full", room, 4, 30, 40, 80, 120);
        children("the guide is full", room, 4, 0, 5, 1, 2, 3);
        due("1 comes up", room.step(1, 30), 3);
        headings("headings stay, so it isn't parted", room, 4, 30, 40, 80, 120);
        children("the other child", room, 4, 0, 6, 1, 2, 3);
        due("in use", room.count(4), 7);
        due("ended", room.job(17, 2), 1);
    }

    private static void writingAtMost() {
        sentence("With 2 B HEADINGS at most (then) he lets go, the JOB ENDS. With more it is PARTED: "
            + "HIGH (that which it has then) and NEW RISE, and he is RISING, HOLDING it.");
        for (int b = 2; b <= 5; b++) {
            DrawerRoom room = tens(b, 2 * b - 1);
            room.begin(0, FILE, 9999);
            due("2 B cards: the end", room.step(0, 30), 3);
            due("let go", room.count(7), 0);
            due("one drawer", room.count(4), 1);
            room.begin(0, FILE, 9998);
            room.step(0, 3);
            clerk("2 B + 1: rising", room, 0, RISING, 0, 2 * b, 10 * (b + 1), 1);
            due("with his latch", room.drawer(0, 5), 0);
            due("NEW isn't latched", room.drawer(1, 5), NONE);
            due("no answer yet", room.job(2 * b, 2), NONE);
            due("but it is there", room.there(9998, 9998, room.count(1)), 1);
            // Guides: 2 B - 1 headings and one, then one more.
            room = tens(b, 2 * b * 2 * b);
            room.night(2 * b);
            int guide = room.count(3);
            due("a guide", room.drawer(guide, 2), 2 * b - 1);
            room.begin(0, FILE, 5);
            due("2 B headings: the end", room.step(0, 30), 7);
            due("let go", room.count(7), 0);
            due("full", room.drawer(guide, 2), 2 * b);
            room.begin(0, FILE, 9999);
            due("2 B + 1: it goes on", room.step(0, 7), 7);
            due("rising", room.clerk(0, 0), RISING);
            due("holding it", room.clerk(0, 1), guide);
            due("with his latch", room.drawer(guide, 5), 0);
            due("HIGH rises", room.clerk(0, 3), room.drawer(guide, 3));
            due("and NEW", room.clerk(0, 4), room.drawer(guide, 4));
        }
    }

    private static void risingFromTheTop() {
        sentence("RISING from a DRAWER HELD: if it is THE TOP: the least SPARE DRAWER is THE TOP, a LEVEL above, with that HEADING, "
            + "the DRAWER and what RISES as CHILDREN, without HIGH and THREAD; he lets go, the JOB ENDS.");
        DrawerRoom room = tens(2, 4);
        room.begin(0, FILE, 50);
        room.step(0, 3);
        due("the top", room.count(3), 0);
        due("one step", room.step(0, 30), 1);
        due("the new top", room.count(3), 2);
        edge("the new top", room, 2, 1, NONE, NONE);
        headings("the new top", room, 2, 30);
        children("the new top", room, 2, 0, 1);
        due("nothing is latched", room.count(7), 0);
        due("the new top isn't", room.drawer(2, 5), NONE);
        due("the job ended", room.job(4, 2), 1);
        due("in this step", room.job(4, 4), 16);
    }

    private static void risingBehindAnother() {
        sentence("if it is THE TOP (and no more, if another CLERK raised one)");
        DrawerRoom room = tens(2, 4);
        room.fault(0, 2);
        room.fault(1, 2);
        room.begin(0, FILE, 22);
        room.begin(1, FILE, 24);
        room.step(0, 2);
        room.step(1, 2);
        room.step(0, 1);
        room.step(1, 1);
        clerk("0 rises from the top", room, 0, RISING, 0, 4, 22, 1);
        clerk("1 rises from the top", room, 1, RISING, 0, 5, 24, 2);
        due("0 raises it", room.step(0, 30), 1);
        due("the new top", room.count(3), 3);
        room.step(1, 1);
        clerk("1 holds it", room, 1, HOLDING, 3, 5, 24, 2);
        due("copy and writing", room.step(1, 30), 2);
        headings("both came up", room, 3, 22, 24);
        children("both came up", room, 3, 0, 1, 2);
        due("four drawers", room.count(4), 4);
        cards("22 is lost", room, 10, 20, 24, 30, 40);
        due("a child goes further than the guide says", room.shape(), 3);
    }

    private static void risingWithoutAPath() {
        sentence("Otherwise his PATH of the LEVEL above, or if he has none, the first DRAWER of that LEVEL (from THE TOP by first CHILDREN)");
        DrawerRoom room = new DrawerRoom(2);
        room.begin(1, FILE, 1000);
        for (int i = 1; i <= 19; i++) whole(room, 3, FILE, 10 * i);
        due("the top came up twice", room.drawer(8, 1), 2);
        due("the top", room.count(3), 8);
        due("by threads to the last leaf, which is full", room.step(1, 8), 8);
        clerk("he rises without a path", room, 1, RISING, 6, 0, 180, 9);
        room.step(1, 1);
        clerk("to the first guide of that level", room, 1, HOLDING, 2, 0, 180, 9);
        due("latched", room.drawer(2, 5), 1);
        due("the leaf let go", room.drawer(6, 5), NONE);
        room.step(1, 1);
        clerk("by its thread", room, 1, HOLDING, 7, 0, 180, 9);
        due("copy and writing", room.step(1, 30), 2);
        headings("in its place", room, 7, 120, 150, 180);
        children("in its place", room, 7, 4, 5, 6, 9);
        due("sound", room.shape(), NONE);
        // With a path he goes to the guide he came by, not to the first one of its level.
        room = tens(2, 19);
        room.begin(1, FILE, 1000);
        room.step(1, 5);
        due("two guides read, a leaf written", room.clerk(1, 0), RISING);
        room.step(1, 1);
        clerk("the guide he came by", room, 1, HOLDING, 7, 19, 180, 9);
    }

    private static void pathOfAnEarlierJob() {
        sentence("or if he has none (of this JOB)");
        DrawerRoom room = new DrawerRoom(2);
        for (int i = 1; i <= 19; i++) whole(room, 1, FILE, 10 * i);
        due("he came by a guide of level 1", room.drawer(7, 1), 1);
        for (int i = 1; i <= 15; i++) whole(room, 1, PULL, 10 * i);
        due("which is spare behind a night", room.night(4), 1);
        room.begin(1, FILE, 1000);
        for (int heading : new int[] {1, 195, 196}) whole(room, 0, FILE, heading);
        headings("a full leaf", room, 1, 180, 190, 195, 196);
        due("by the thread to it", room.step(1, 4), 4);
        clerk("he rises", room, 1, RISING, 1, 34, 195, 3);
        room.step(1, 1);
        clerk("to the first guide", room, 1, HOLDING, 2, 34, 195, 3);
        room.step(1, 30);
        headings("in its place", room, 2, 170, 195);
        children("in its place", room, 2, 0, 1, 3);
    }

    private static void risingWithNothingAbove() {
        sentence("if there is none (THE TOP isn't above), or another CLERK LATCHED it, nothing");
        DrawerRoom room = tens(2, 4);
        room.begin(0, FILE, 50);
        room.step(0, 3);
        for (int heading : new int[] {60, 70}) whole(room, 1, FILE, heading);
        room.begin(1, FILE, 80);
        room.step(1, 4);
        int time = room.count(1);
        due("thirty steps", room.step(1, 30), 30);
        due("of time", room.count(1), time + 30);
        clerk("nothing", room, 1, RISING, 1, 7, 60, 2);
        due("his latch", room.drawer(1, 5), 1);
        due("three drawers", room.count(4), 3);
        room.step(0, 1);
        due("0 raised the top", room.count(3), 3);
        room.begin(2, FILE, 15);
        due("2 waits for nobody", room.step(2, 30), 4);
        due("1 comes up", room.step(1, 30), 3);
        headings("the top", room, 3, 30, 60);
    }

    private static void risingToALatchedGuide() {
        sentence("or another CLERK LATCHED it, nothing; else he LATCHES it, lets go of the other one, and HOLDS it.");
        DrawerRoom room = tens(2, 12);
        due("full leaves", room.night(4), 4);
        room.begin(0, FILE, 5);
        room.step(0, 5);
        room.begin(1, FILE, 45);
        room.step(1, 4);
        clerk("1 rises", room, 1, RISING, 1, 13, 60, 5);
        due("nothing", room.step(1, 7), 7);
        clerk("1 waits", room, 1, RISING, 1, 13, 60, 5);
        due("his latch", room.drawer(1, 5), 1);
        due("the guide's latch", room.drawer(3, 5), 0);
        room.step(0, 2);
        due("0 is through", room.clerk(0, 0), IDLE);
        room.step(1, 1);
        clerk("1 holds it", room, 1, HOLDING, 3, 13, 60, 5);
        due("latched", room.drawer(3, 5), 1);
        due("let go", room.drawer(1, 5), NONE);
        room.step(1, 30);
        headings("both came up", room, 3, 20, 40, 60, 80);
    }

    // ---- promises 6 to 8

    private static void stepsFromAndTo() {
        sentence("n STEPS (1 .. 30) of a CLERK, fewer if his JOB ENDS: how many; NONE if there is none at a JOB, or n can't be.");
        DrawerRoom room = tens(2, 2);
        room.begin(0, PULL, 10);
        room.step(0, 1);
        room.begin(1, PULL, 20);
        for (int n = 1; n <= 30; n++) due("waiting for " + n, room.step(1, n), n);
        due("all of them", room.job(3, 5), 465);
        int time = room.count(1);
        for (int n : new int[] {0, -1, 31, 32, 60, LEAST, MOST}) due("step(0, " + n + ")", room.step(0, n), NONE);
        due("no time", room.count(1), time);
        due("he is where he was", room.clerk(0, 0), HOLDING);
        due("two are enough", room.step(0, 30), 2);
        for (int n : new int[] {1, 30, 0, 31}) due("idle: step(0, " + n + ")", room.step(0, n), NONE);
        for (int n : new int[] {1, 30}) due("never at a job: step(2, " + n + ")", room.step(2, n), NONE);
        due("exactly as many as it takes", room.step(1, 3), 3);
        due("ended", room.job(3, 2), 1);
        room.begin(1, SEEK, 20);
        room.fall();
        due("lost: no step", room.step(1, 1), NONE);
    }

    private static void clerkToldOrNot() {
        sentence("4 the CHILD that RISES (0 .. , else NONE). NONE for others, 1, 3 and 4 if IDLE, 2 ahead of the first.");
        DrawerRoom room = tens(2, 4);
        for (int clerk = 0; clerk < 3; clerk++) clerk("ahead of the first", room, clerk, IDLE, NONE, NONE, NONE, NONE);
        clerk("idle", room, 3, IDLE, NONE, 3, NONE, NONE);
        for (int clerk : new int[] {0, 3}) {
            for (int what : new int[] {-1, 5, 6, 7, 120, 127, 128, LEAST, MOST}) due("clerk(" + clerk + ", " + what + ")", room.clerk(clerk, what), NONE);
        }
        room.begin(0, FILE, 0);
        clerk("reading, for 0", room, 0, READING, 0, 4, 0, NONE);
        room.step(0, 1);
        clerk("holding", room, 0, HOLDING, 0, 4, 0, NONE);
        for (int what : new int[] {-1, 5, 6, 7}) due("holding: " + what, room.clerk(0, what), NONE);
        room.step(0, 1);
        clerk("writing", room, 0, WRITING, 0, 4, 0, NONE);
        room.step(0, 1);
        clerk("rising", room, 0, RISING, 0, 4, 20, 1);
        room.step(0, 1);
        clerk("through", room, 0, IDLE, NONE, 4, NONE, NONE);
        room.begin(0, SEEK, 0);
        clerk("at another one: what rose is forgotten", room, 0, READING, 2, 5, 0, NONE);
        room.fall();
        clerk("fallen", room, 0, IDLE, NONE, 5, NONE, NONE);
    }

    private static void jobToldOrNot() {
        sentence("2 ANSWER (NONE till it ENDS), 3 the TIME as it began, 4 the STEP in which it ENDED (NONE), 5 how many STEPS of it went, "
            + "6 whether it is LOST. NONE for others, or if there is none such.");
        DrawerRoom room = tens(2, 4);
        int job = room.begin(0, FILE, 0);
        for (int step = 0; step <= 4; step++) {
            int[] want = {FILE, 0, step < 4 ? NONE : 1, 12, step < 4 ? NONE : 16, step, 0};
            for (int what = 0; what < 7; what++) due("step " + step + ": " + what, room.job(job, what), want[what]);
            room.step(0, 1);
        }
        int lost = room.begin(0, PULL, 9999);
        int[] under = {PULL, 9999, NONE, 16, NONE, 0, 0};
        for (int what = 0; what < 7; what++) due("under way: " + what, room.job(lost, what), under[what]);
        room.fall();
        int[] fallen = {PULL, 9999, NONE, 16, NONE, 0, 1};
        for (int what = 0; what < 7; what++) due("lost ahead of a step: " + what, room.job(lost, what), fallen[what]);
        for (int what : new int[] {-1, 7, 8, 9, 100, LEAST, MOST}) {
            due("job(0, " + what + ")", room.job(0, what), NONE);
            due("job(" + lost + ", " + what + ")", room.job(lost, what), NONE);
        }
        for (int number : new int[] {-1, lost + 1, 119, 120, 121, LEAST, MOST}) {
            for (int what = -1; what < 8; what++) due("job(" + number + ", " + what + ")", room.job(number, what), NONE);
        }
    }
}
