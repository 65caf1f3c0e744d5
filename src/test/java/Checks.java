/** What the tests by hand share: how an answer is compared, and short ways to bring a room about. */
abstract class Checks {
    static final int NONE = DrawerRoom.NONE;
    static final int SEEK = 0;
    static final int FILE = 1;
    static final int PULL = 2;
    static final int IDLE = 0;
    static final int READING = 1;
    static final int HOLDING = 2;
    static final int WRITING = 3;
    static final int RISING = 4;
    static final int LEAST = Integer.MIN_VALUE;
    static final int MOST = Integer.MAX_VALUE;
    static final int[] WRONG_CLERKS = {-1, 4, LEAST, MOST};
    static final int[] WRONG_KINDS = {-1, 3, LEAST, MOST};
    static final int[] WRONG_HEADINGS = {-1, 10000, LEAST, MOST};

    private static String sentence = "";
    private static int sentences = 0;
    private static int checked = 0;
    private static int checkedOfSentence = 1;
    private static int wrong = 0;

    /** The words of the document that the answers behind this are due to. */
    static void sentence(String words) {
        closeSentence();
        sentence = words;
        sentences++;
        checkedOfSentence = 0;
    }

    private static void closeSentence() {
        if (checkedOfSentence == 0) {
            wrong++;
            System.out.println("no answer is due to: " + sentence);
        }
    }

    static void due(String what, int got, int want) {
        checked++;
        checkedOfSentence++;
        if (got != want) {
            wrong++;
            String whose = sentence.isEmpty() ? "" : " (" + sentence + ")";
            System.out.println(what + " answered " + got + ", due is " + want + whose);
        }
    }

    static void due(String what, boolean got, boolean want) {
        due(what, got ? 1 : 0, want ? 1 : 0);
    }

    /** Compares texts, and shows the first line in which they differ. */
    static void same(String what, String got, String want) {
        if (got.equals(want)) {
            due(what, 1, 1);
            return;
        }
        String[] one = got.split("\n");
        String[] other = want.split("\n");
        int line = 0;
        while (line < one.length && line < other.length && one[line].equals(other[line])) line++;
        String shown = line < one.length ? one[line] : "nothing";
        String asked = line < other.length ? other[line] : "nothing";
        due(what + ": " + shown + ", and not " + asked + ": the same", 0, 1);
    }

    static void finish(String name) {
        closeSentence();
        String told = sentences > 0 ? sentences + " sentences, " : "";
        System.out.println(name + ": " + told + checked + " answers, " + wrong + " wrong");
        if (wrong != 0) System.exit(1);
    }

    // ---- what brings a room about

    static int rule(DrawerRoom room, String text) {
        return rule(room, text, text.length());
    }

    static int rule(DrawerRoom room, String text, int n) {
        int[] w = new int[5];
        for (int i = 0; i < 20; i++) w[i / 4] = w[i / 4] << 8 | (i < text.length() ? text.charAt(i) : ' ');
        return room.rule(n, w[0], w[1], w[2], w[3], w[4]);
    }

    static DrawerRoom ruled(int b, String text) {
        DrawerRoom room = new DrawerRoom(b);
        rule(room, text);
        return room;
    }

    static int whole(DrawerRoom room, int clerk, int kind, int heading) {
        int job = room.begin(clerk, kind, heading);
        room.step(clerk, 30);
        return room.job(job, 2);
    }

    static DrawerRoom filled(int b, int... headings) {
        DrawerRoom room = new DrawerRoom(b);
        for (int heading : headings) whole(room, 3, FILE, heading);
        return room;
    }

    /** The cards 10, 20, .. in a new room, filed one by one. */
    static DrawerRoom tens(int b, int howMany) {
        DrawerRoom room = new DrawerRoom(b);
        for (int i = 1; i <= howMany; i++) whole(room, 3, FILE, 10 * i);
        return room;
    }

    /** Two leaves, drawer 0 with 10 20 30 and drawer 1 with 40 50, under drawer 2. */
    static DrawerRoom twoLeaves() {
        return filled(2, 10, 20, 30, 40, 50);
    }

    // ---- what is compared at once

    static void headings(String what, DrawerRoom room, int drawer, int... want) {
        due(what + ": how many in drawer " + drawer, room.drawer(drawer, 2), want.length);
        for (int k = 0; k < want.length; k++) {
            due(what + ": at(" + drawer + ", " + k + ", false)", room.at(drawer, k, false), want[k]);
        }
        due(what + ": behind the last of " + drawer, room.at(drawer, want.length, false), NONE);
    }

    static void children(String what, DrawerRoom room, int drawer, int... want) {
        for (int k = 0; k < want.length; k++) {
            due(what + ": at(" + drawer + ", " + k + ", true)", room.at(drawer, k, true), want[k]);
        }
        due(what + ": behind the last child of " + drawer, room.at(drawer, want.length, true), NONE);
    }

    static void edge(String what, DrawerRoom room, int drawer, int level, int high, int thread) {
        due(what + ": level of " + drawer, room.drawer(drawer, 1), level);
        due(what + ": high of " + drawer, room.drawer(drawer, 3), high);
        due(what + ": thread of " + drawer, room.drawer(drawer, 4), thread);
    }

    static void cards(String what, DrawerRoom room, int... want) {
        due(what + ": how many cards", room.count(5), want.length);
        for (int k = 0; k < want.length; k++) due(what + ": nth(" + k + ")", room.nth(k), want[k]);
        due(what + ": behind the last card", room.nth(want.length), NONE);
    }

    static void clerk(String what, DrawerRoom room, int clerk, int... want) {
        for (int k = 0; k < want.length; k++) due(what + ": clerk(" + clerk + ", " + k + ")", room.clerk(clerk, k), want[k]);
    }
}
