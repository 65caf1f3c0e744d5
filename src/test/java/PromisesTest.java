/** Each promise of the document by hand: ordinary inputs, the edges it names, wrong inputs. */
public final class PromisesTest extends Checks {
    private static final int[] WRONG_NUMBERS = {-2, 600, Integer.MIN_VALUE, Integer.MAX_VALUE};

    public static void main(String[] args) {
        promise01NewObject();
        promise02Rule();
        promise03Ahead();
        promise04Fault();
        promise05Begin();
        promise06Step();
        promise06Reading();
        promise06Holding();
        promise06Writing();
        promise06Parting();
        promise06Rising();
        promise06Faults();
        promise07Clerk();
        promise08Job();
        promise09Drawer();
        promise10At();
        promise11Nth();
        promise12Rank();
        promise13There();
        promise14Line();
        promise15Order();
        promise16Shape();
        promise17Found();
        promise18Fall();
        promise19Night();
        promise20Count();
        finish("PromisesTest");
    }

    private static void promise01NewObject() {
        int[] told = {Integer.MIN_VALUE, -1, 0, 1, 2, 3, 4, 5, 6, 9, Integer.MAX_VALUE};
        int[] kept = {2, 2, 2, 2, 2, 3, 4, 5, 5, 5, 5};
        for (int i = 0; i < told.length; i++) due("B of " + told[i], new DrawerRoom(told[i]).count(0), kept[i]);
        DrawerRoom room = new DrawerRoom(3);
        int[] counts = {3, 0, 0, 0, 1, 0, 0, 0, 0};
        for (int what = 0; what < counts.length; what++) due("new: count(" + what + ")", room.count(what), counts[what]);
        due("new: drawer 0 in use", room.drawer(0, 0), 1);
        edge("new", room, 0, 0, NONE, NONE);
        headings("new", room, 0);
        due("new: drawer 0 latched", room.drawer(0, 5), NONE);
        for (int drawer = 1; drawer < 256; drawer++) due("new: drawer " + drawer, room.drawer(drawer, 0), 0);
        for (int clerk = 0; clerk < 4; clerk++) {
            due("new: clerk " + clerk, room.clerk(clerk, 0), IDLE);
            due("new: his job", room.clerk(clerk, 2), NONE);
        }
        due("new: shape", room.shape(), NONE);
        due("new: ahead by number", room.ahead(1999, 2000), 1);
        due("the constant", DrawerRoom.NONE, -1);
    }

    private static void promise02Rule() {
        String[] texts = {
            ";", " ; ", "a+;", "a + ;", "d-c-b-a-;", " a+ b- ;   ", "a+b-c+d-;", "  a  +  b  -  ;   ",
            "", " ", "    ", "a", "a+", "a+b", "a+b-", "a +", "a+b-c+d-",
            "+;", "-", "a;", "a-;;", "a-;a", "a+a-;", "a+b+a+;", "a++;", "a+-;", "ab;", "e+;", "A+;", "a*;",
            "\t;", "a+b-c+d-a;", ";x", "; ;", "a+,b+;", "\u0000;", "\u00ff;", "a+;\u0000", "a b+;", "`+;"};
        int[] faults = {
            NONE, NONE, NONE, NONE, NONE, NONE, NONE, NONE,
            0, 1, 4, 1, 2, 3, 4, 3, 8,
            0, 0, 1, 3, 3, 2, 4, 2, 2, 1, 0, 0, 1,
            0, 8, 1, 2, 2, 0, 0, 3, 2, 0};
        for (int i = 0; i < texts.length; i++) {
            DrawerRoom room = new DrawerRoom(2);
            due("rule(\"" + texts[i] + "\")", rule(room, texts[i]), faults[i]);
            int parts = faults[i] == NONE ? texts[i].replaceAll("[^abcd]", "").length() : 0;
            due("parts of \"" + texts[i] + "\"", room.count(8), parts);
        }
        DrawerRoom room = new DrawerRoom(2);
        for (int n : new int[] {-1, 21, Integer.MIN_VALUE, Integer.MAX_VALUE}) due("rule of " + n, rule(room, "a-;", n), -2);
        due("nothing kept of -2", room.count(8), 0);
        due("bytes behind n don't count", rule(room, "a-;xyz", 3), NONE);
        due("its part", room.count(8), 1);
        due("n ahead of ;", rule(room, "a-b-;", 4), 4);
        due("a fault changes nothing", rule(room, "b-c-d-x", 7), 6);
        due("the part is still a-", room.ahead(9000, 1000), 1);
        due("and no other one", room.ahead(1000, 1900), 1);
        due("20 bytes", rule(room, "a + b - c + d -    ;", 20), NONE);
        due("20 bytes without ;", rule(room, "a + b - c + d -     ", 20), 20);
        due("20 bytes, the last one wrong", rule(room, "a + b - c + d - ;  x", 20), 19);
        due("four parts", room.count(8), 4);
        due("the rule is taken anew", rule(room, "d-;"), NONE);
        due("one part", room.count(8), 1);
        room.begin(0, SEEK, 5);
        due("with a job: no fault", rule(room, "a+b+;"), NONE);
        due("with a job: still the old rule", room.count(8), 1);
        due("with a job: a fault", rule(room, "a+b"), 3);
        room.fall();
        due("with a lost job", rule(room, ";"), NONE);
        due("still the old rule", room.count(8), 1);
        due("and its order", room.ahead(9, 8), 1);
    }

    private static void promise03Ahead() {
        DrawerRoom room = new DrawerRoom(2);
        due("by number", room.ahead(0, 9999), 1);
        due("by number, behind", room.ahead(9999, 0), 0);
        due("itself", room.ahead(77, 77), 0);
        for (int heading : WRONG_HEADINGS) {
            due("ahead(" + heading + ", 5)", room.ahead(heading, 5), NONE);
            due("ahead(5, " + heading + ")", room.ahead(5, heading), NONE);
        }
        String letters = "abcd";
        int[] worth = {1000, 100, 10, 1};
        for (int i = 0; i < 4; i++) {
            for (int sign = 0; sign < 2; sign++) {
                room = new DrawerRoom(2);
                rule(room, letters.charAt(i) + (sign == 0 ? "+;" : "-;"));
                int less = 5555 + 1111 - worth[i];
                due("less by " + letters.charAt(i), room.ahead(less - 1 * worth[i], 5555), sign == 0 ? 1 : 0);
                due("more by " + letters.charAt(i), room.ahead(5555, less - worth[i]), sign == 0 ? 0 : 1);
                due("alike in it, by number", room.ahead(5555, less), 1);
                due("alike in it, by number, behind", room.ahead(less, 5555), 0);
            }
        }
        room = new DrawerRoom(2);
        rule(room, "c- a+;");
        due("the first part first", room.ahead(9090, 1010), 1);
        due("then the second", room.ahead(1090, 2090), 1);
        due("then the second, behind", room.ahead(2090, 1090), 0);
        due("then the number", room.ahead(2090, 2191), 1);
        due("itself by a rule", room.ahead(2090, 2090), 0);
        due("a heading of few digits", room.ahead(90, 1), 1);
    }

    private static void promise04Fault() {
        DrawerRoom room = new DrawerRoom(2);
        for (int clerk = 0; clerk < 4; clerk++) {
            for (int fault = 0; fault < 3; fault++) due("fault(" + clerk + ", " + fault + ")", room.fault(clerk, fault), true);
            due("fault 3", room.fault(clerk, 3), false);
            due("fault -1", room.fault(clerk, -1), false);
            due("fault max", room.fault(clerk, Integer.MAX_VALUE), false);
            room.fault(clerk, 0);
        }
        for (int clerk : WRONG_CLERKS) due("fault of clerk " + clerk, room.fault(clerk, 1), false);
        room.begin(1, FILE, 5);
        due("fault while at a job", room.fault(1, 2), false);
        room.step(1, 1);
        due("it changed nothing: he latched", room.drawer(0, 5), 1);
        room.step(1, 30);
        due("fault when idle again", room.fault(1, 2), true);
        room.begin(1, FILE, 6);
        room.step(1, 1);
        due("now he doesn't latch", room.drawer(0, 5), NONE);
        room.fall();
        due("fault behind a fall", room.fault(1, 0), true);
    }

    private static void promise05Begin() {
        DrawerRoom room = new DrawerRoom(2);
        for (int clerk : WRONG_CLERKS) due("begin of clerk " + clerk, room.begin(clerk, SEEK, 5), NONE);
        for (int kind : new int[] {-1, 3, Integer.MIN_VALUE, Integer.MAX_VALUE}) due("kind " + kind, room.begin(0, kind, 5), NONE);
        for (int heading : WRONG_HEADINGS) due("heading " + heading, room.begin(0, SEEK, heading), NONE);
        due("nothing began", room.count(2), 0);
        due("he is idle", room.clerk(0, 0), IDLE);
        due("first", room.begin(2, FILE, 0), 0);
        due("second", room.begin(0, PULL, 9999), 1);
        due("not idle", room.begin(2, SEEK, 5), NONE);
        due("third", room.begin(3, SEEK, 5), 2);
        due("reading", room.clerk(3, 0), READING);
        due("at the top", room.clerk(3, 1), 0);
        due("no time goes by", room.count(1), 0);
        room = new DrawerRoom(5);
        for (int job = 0; job < 120; job++) {
            due("job " + job, room.begin(job % 4, SEEK, job), job);
            room.step(job % 4, 30);
        }
        for (int kind = 0; kind < 3; kind++) due("the 121st, of kind " + kind, room.begin(0, kind, 5), NONE);
        due("120 jobs", room.count(2), 120);
        DrawerRoom two = twoLeaves();
        two.begin(0, SEEK, 5);
        due("a job begins at the top", two.clerk(0, 1), 2);
    }

    private static void promise06Step() {
        DrawerRoom room = new DrawerRoom(2);
        for (int clerk = 0; clerk < 4; clerk++) due("step of an idle clerk", room.step(clerk, 1), NONE);
        for (int clerk : WRONG_CLERKS) due("step of clerk " + clerk, room.step(clerk, 1), NONE);
        room.begin(0, FILE, 10);
        for (int n : new int[] {0, -1, 31, Integer.MIN_VALUE, Integer.MAX_VALUE}) due("step(0, " + n + ")", room.step(0, n), NONE);
        due("no time went by", room.count(1), 0);
        due("still reading", room.clerk(0, 0), READING);
        due("one step", room.step(0, 1), 1);
        due("holding", room.clerk(0, 0), HOLDING);
        due("another step", room.step(0, 1), 1);
        due("writing", room.clerk(0, 0), WRITING);
        due("nothing is written yet", room.count(5), 0);
        due("the last one", room.step(0, 30), 1);
        due("idle", room.clerk(0, 0), IDLE);
        due("time", room.count(1), 3);
        due("the card is there", room.nth(0), 10);
        // A latched drawer keeps him waiting for all of thirty steps.
        room.begin(1, PULL, 10);
        room.step(1, 1);
        room.begin(2, PULL, 10);
        due("thirty steps of waiting", room.step(2, 30), 30);
        due("time goes by", room.count(1), 34);
        due("still reading", room.clerk(2, 0), READING);
        due("and his steps count", room.job(2, 5), 30);
    }

    private static void promise06Reading() {
        DrawerRoom room = twoLeaves();
        room.begin(0, SEEK, 30);
        room.step(0, 1);
        due("the way of 30 is ahead of 30", room.clerk(0, 1), 0);
        due("it is there", room.step(0, 30), 1);
        due("answer", room.job(5, 2), 1);
        room.begin(0, SEEK, 31);
        room.step(0, 1);
        due("the way of 31 is behind 30", room.clerk(0, 1), 1);
        room.step(0, 30);
        due("it isn't there", room.job(6, 2), 0);
        // A leaf that was parted before the guide knows: by the thread.
        room = filled(2, 10, 20, 30, 40);
        room.begin(0, FILE, 50);
        room.step(0, 3);
        room.begin(1, SEEK, 50);
        due("at the leaf that was parted", room.clerk(1, 1), 0);
        room.step(1, 1);
        due("by its thread", room.clerk(1, 1), 1);
        due("still reading", room.clerk(1, 0), READING);
        room.step(1, 1);
        due("a seek minds no latch", room.job(5, 2), 1);
        room.begin(1, SEEK, 30);
        room.step(1, 1);
        due("HIGH itself is covered, and latches aren't minded", room.job(6, 2), 1);
        room.begin(1, PULL, 30);
        room.step(1, 5);
        due("a pull waits for the latch", room.clerk(1, 0), READING);
        room.begin(2, FILE, 60);
        room.step(2, 2);
        due("he holds the new leaf", room.clerk(2, 1), 1);
        due("and latched it", room.drawer(1, 5), 2);
        due("beside the other one", room.count(7), 2);
    }

    private static void promise06Holding() {
        // Clerk 1 comes to hold a leaf that another one parted between: he goes on by the thread.
        DrawerRoom room = filled(2, 10, 20, 30, 40);
        room.begin(0, FILE, 50);
        room.begin(1, FILE, 60);
        room.step(0, 2);
        room.step(1, 1);
        due("he waits", room.clerk(1, 0), READING);
        room.step(0, 1);
        due("parted", room.count(4), 2);
        room.step(1, 1);
        due("by the thread", room.clerk(1, 1), 1);
        room.fall();
        // A guide is held for what rises: 0 (10 20 30), 1 (40 50 60), 3 (70 80) under 2.
        room = filled(2, 10, 20, 30, 40, 50, 60, 70, 80);
        children("before", room, 2, 0, 1, 3);
        headings("before", room, 2, 30, 60);
        whole(room, 3, FILE, 65);
        whole(room, 3, FILE, 75);
        whole(room, 3, FILE, 85);
        headings("a third guide heading", room, 2, 30, 60, 75);
        whole(room, 3, FILE, 90);
        whole(room, 3, FILE, 95);
        whole(room, 3, FILE, 97);
        headings("four guide headings", room, 2, 30, 60, 75, 90);
        // Clerks 0 and 1 take the full guide as their path; 0 parts a leaf and then the guide.
        whole(room, 3, FILE, 98);
        whole(room, 3, FILE, 96);
        headings("a full leaf", room, 5, 95, 96, 97, 98);
        room.begin(1, FILE, 99);
        room.step(1, 1);
        room.begin(0, FILE, 94);
        room.step(0, 4);
        due("the leaf is parted", room.clerk(0, 0), RISING);
        due("what rises", room.clerk(0, 3), 96);
        due("and with it", room.clerk(0, 4), 6);
        due("no drawer is bad then", room.shape(), NONE);
        whole(room, 3, FILE, 101);
        whole(room, 3, FILE, 102);
        room.step(1, 2);
        due("1 holds the new leaf", room.clerk(1, 0), HOLDING);
        due("by the thread", room.clerk(1, 1), 6);
        room.step(0, 3);
        due("the guide is parted", room.clerk(0, 0), RISING);
        due("what rises from it", room.clerk(0, 3), 75);
        headings("the guide", room, 2, 30, 60);
        children("the guide", room, 2, 0, 1, 3);
        headings("the new guide", room, 7, 90, 96);
        children("the new guide", room, 7, 4, 5, 6);
        room.step(0, 1);
        due("a new top", room.count(3), 8);
        due("a level above", room.drawer(8, 1), 2);
        room.step(1, 2);
        due("1 parts his leaf", room.clerk(1, 0), RISING);
        due("and rises with 99", room.clerk(1, 3), 99);
        room.step(1, 1);
        due("to the guide he came by", room.clerk(1, 1), 2);
        due("and holds it", room.clerk(1, 0), HOLDING);
        // Clerk 2 comes to hold the new guide: 1 can't go on to it till it is let go.
        whole(room, 3, FILE, 81);
        room.begin(2, FILE, 82);
        room.step(2, 6);
        due("2 holds the new guide", room.drawer(7, 5), 2);
        room.step(1, 3);
        due("1 waits", room.clerk(1, 1), 2);
        due("holding", room.clerk(1, 0), HOLDING);
        due("with his latch", room.drawer(2, 5), 1);
        room.step(2, 2);
        due("2 is through", room.clerk(2, 0), IDLE);
        room.step(1, 1);
        due("1 goes on", room.clerk(1, 1), 7);
        due("holding", room.clerk(1, 0), HOLDING);
        due("the new guide is his", room.drawer(7, 5), 1);
        due("the old one is let go", room.drawer(2, 5), NONE);
        room.step(1, 2);
        due("1 is through", room.clerk(1, 0), IDLE);
        headings("in the end", room, 7, 82, 90, 96, 99);
        children("in the end", room, 7, 4, 10, 5, 6, 9);
        due("sound", room.shape(), NONE);
        due("all of them", room.count(5), 22);
        due("nothing is latched", room.count(7), 0);
    }

    private static void promise06Writing() {
        DrawerRoom room = new DrawerRoom(2);
        due("pull of what isn't there", whole(room, 0, PULL, 5), 0);
        due("file", whole(room, 0, FILE, 5), 1);
        due("file again", whole(room, 0, FILE, 5), 0);
        due("seek", whole(room, 0, SEEK, 5), 1);
        due("pull", whole(room, 0, PULL, 5), 1);
        due("pull again", whole(room, 0, PULL, 5), 0);
        due("seek again", whole(room, 0, SEEK, 5), 0);
        due("nothing is latched", room.count(7), 0);
        cards("pulled", room);
        room = filled(2, 30, 10, 40, 20);
        headings("in order", room, 0, 10, 20, 30, 40);
        whole(room, 0, PULL, 20);
        headings("without 20", room, 0, 10, 30, 40);
        whole(room, 0, PULL, 40);
        whole(room, 0, PULL, 10);
        headings("just 30", room, 0, 30);
        DrawerRoom ruled = new DrawerRoom(2);
        rule(ruled, "d-;");
        for (int heading : new int[] {11, 23, 12, 33}) whole(ruled, 0, FILE, heading);
        headings("by the rule", ruled, 0, 23, 33, 12, 11);
    }

    private static void promise06Parting() {
        for (int b = 2; b <= 5; b++) {
            DrawerRoom room = new DrawerRoom(b);
            for (int i = 0; i < 2 * b; i++) whole(room, 0, FILE, 10 * i);
            due("B " + b + ": not parted", room.count(4), 1);
            due("B " + b + ": full", room.drawer(0, 2), 2 * b);
            room.begin(0, FILE, 20 * b);
            room.step(0, 3);
            due("B " + b + ": parted", room.count(4), 2);
            due("B " + b + ": stay", room.drawer(0, 2), b + 1);
            due("B " + b + ": go", room.drawer(1, 2), b);
            edge("B " + b, room, 0, 0, 10 * b, 1);
            edge("B " + b, room, 1, 0, NONE, NONE);
            due("B " + b + ": the new one's first", room.at(1, 0, false), 10 * (b + 1));
            due("B " + b + ": the new one isn't latched", room.drawer(1, 5), NONE);
            due("B " + b + ": the old one is", room.drawer(0, 5), 0);
            due("B " + b + ": rises", room.clerk(0, 3), 10 * b);
            due("B " + b + ": rises with", room.clerk(0, 4), 1);
            room.step(0, 1);
            due("B " + b + ": the top", room.count(3), 2);
            headings("B " + b, room, 2, 10 * b);
            children("B " + b, room, 2, 0, 1);
            edge("B " + b, room, 2, 1, NONE, NONE);
        }
        // A new leaf has the HIGH and THREAD of the one it comes from.
        DrawerRoom room = twoLeaves();
        whole(room, 0, FILE, 5);
        whole(room, 0, FILE, 15);
        headings("parted again", room, 0, 5, 10, 15);
        headings("parted again", room, 3, 20, 30);
        edge("parted again", room, 0, 0, 15, 3);
        edge("parted again", room, 3, 0, 30, 1);
        headings("the guide of three", room, 2, 15, 30);
        children("the guide of three", room, 2, 0, 3, 1);
        // A guide with five headings: two stay, the third is its HIGH, two go.
        room = new DrawerRoom(2);
        for (int i = 1; i <= 16; i++) whole(room, 0, FILE, 10 * i);
        due("before the guide is parted", room.drawer(2, 2), 4);
        whole(room, 0, FILE, 170);
        int top = room.count(3);
        edge("the top", room, top, 2, NONE, NONE);
        headings("the top", room, top, 90);
        int left = room.at(top, 0, true);
        int right = room.at(top, 1, true);
        due("the left one is the old one", left, 2);
        headings("left", room, left, 30, 60);
        headings("right", room, right, 120, 150);
        edge("left", room, left, 1, 90, right);
        edge("right", room, right, 1, NONE, NONE);
        due("left's last child's last card", room.drawer(room.at(left, 2, true), 3), 90);
        due("right's first child's first card", room.at(room.at(right, 0, true), 0, false), 100);
        due("left has three children", room.at(left, 3, true), NONE);
        due("right has three children", room.at(right, 3, true), NONE);
        due("the shape", room.shape(), NONE);
    }

    private static void promise06Rising() {
        // The top was parted and isn't raised yet: who parts the new leaf finds nothing above.
        DrawerRoom room = filled(2, 10, 20, 30, 40);
        room.begin(0, FILE, 50);
        room.step(0, 3);
        for (int heading : new int[] {60, 70}) {
            due("filed behind the thread", whole(room, 1, FILE, heading), 1);
        }
        room.begin(1, FILE, 80);
        room.step(1, 4);
        due("he parted the new leaf", room.clerk(1, 0), RISING);
        due("and rises with 60", room.clerk(1, 3), 60);
        due("with drawer 2", room.clerk(1, 4), 2);
        due("nothing above", room.step(1, 3), 3);
        due("so he waits", room.clerk(1, 0), RISING);
        due("at the new leaf", room.clerk(1, 1), 1);
        due("and keeps its latch", room.drawer(1, 5), 1);
        room.step(0, 1);
        due("the other one raised it", room.count(3), 3);
        room.step(1, 1);
        due("without a path: the first guide", room.clerk(1, 1), 3);
        due("held", room.clerk(1, 0), HOLDING);
        due("latched", room.drawer(3, 5), 1);
        due("the leaf let go", room.drawer(1, 5), NONE);
        room.step(1, 30);
        headings("both came up", room, 3, 30, 60);
        children("both came up", room, 3, 0, 1, 2);
        due("sound", room.shape(), NONE);
        // A guide that another clerk latched keeps him waiting.
        room = filled(2, 10, 20, 30, 40, 50, 60, 70);
        children("two leaves", room, 2, 0, 1);
        whole(room, 3, FILE, 15);
        room.begin(0, FILE, 25);
        room.step(0, 4);
        room.begin(1, FILE, 80);
        room.step(1, 4);
        due("0 rises", room.clerk(0, 0), RISING);
        due("1 rises", room.clerk(1, 0), RISING);
        room.step(0, 1);
        due("0 holds the guide", room.drawer(2, 5), 0);
        room.step(1, 4);
        due("1 waits", room.clerk(1, 0), RISING);
        room.step(0, 2);
        due("0 is through", room.clerk(0, 0), IDLE);
        room.step(1, 30);
        due("1 too", room.clerk(1, 0), IDLE);
        headings("the guide", room, 2, 20, 30, 60);
        due("sound", room.shape(), NONE);
    }

    private static void promise06Faults() {
        // 1: he takes it that the drawer covers, so he files behind HIGH.
        DrawerRoom room = filled(2, 10, 20, 30, 40);
        room.begin(0, FILE, 50);
        room.step(0, 3);
        room.fault(1, 1);
        room.begin(1, SEEK, 40);
        room.step(1, 1);
        due("he doesn't look behind the thread", room.job(5, 2), 0);
        room.step(0, 1);
        room.fault(1, 0);
        due("without the fault", whole(room, 1, SEEK, 40), 1);
        // 2: he holds what another one latched, and writes an old copy.
        room = filled(2, 10, 20);
        room.fault(1, 2);
        room.begin(0, FILE, 30);
        room.begin(1, FILE, 40);
        room.step(0, 1);
        room.step(1, 1);
        due("he holds it all the same", room.clerk(1, 0), HOLDING);
        due("the latch is the other one's", room.drawer(0, 5), 0);
        room.step(1, 1);
        room.step(0, 30);
        headings("30 is there", room, 0, 10, 20, 30);
        room.step(1, 30);
        headings("and lost", room, 0, 10, 20, 40);
        // Who doesn't latch doesn't let go of another's latch.
        room.begin(0, FILE, 50);
        room.step(0, 1);
        due("filed beside the latch", whole(room, 1, FILE, 60), 1);
        due("the latch is still there", room.drawer(0, 5), 0);
        // The same heading rises twice: the later child takes the place of the first one.
        room = filled(2, 10, 20, 30, 40, 50, 60);
        room.fault(0, 2);
        room.fault(1, 2);
        whole(room, 3, FILE, 25);
        headings("full", room, 0, 10, 20, 25, 30);
        room.begin(0, FILE, 27);
        room.begin(1, FILE, 28);
        room.step(0, 3);
        room.step(1, 3);
        room.step(0, 1);
        room.step(1, 1);
        due("0 rises with 25", room.clerk(0, 3), 25);
        due("1 rises with 25", room.clerk(1, 3), 25);
        due("0 with drawer 3", room.clerk(0, 4), 3);
        due("1 with drawer 4", room.clerk(1, 4), 4);
        edge("the old one", room, 0, 0, 25, 4);
        edge("the lost one", room, 3, 0, 30, 1);
        edge("the new one", room, 4, 0, 30, 1);
        room.step(0, 30);
        headings("0 came up", room, 2, 25, 30);
        children("0 came up", room, 2, 0, 3, 1);
        room.step(1, 30);
        headings("1 came up", room, 2, 25, 30);
        children("1 came up", room, 2, 0, 4, 1);
        cards("27 is lost", room, 10, 20, 25, 28, 30, 40, 50, 60);
    }

    private static void promise07Clerk() {
        DrawerRoom room = filled(2, 10, 20, 30, 40);
        for (int clerk : WRONG_CLERKS) {
            for (int what = 0; what < 5; what++) due("clerk(" + clerk + ", " + what + ")", room.clerk(clerk, what), NONE);
        }
        for (int what : new int[] {-1, 5, 6, 7, 200, Integer.MIN_VALUE, Integer.MAX_VALUE}) due("clerk(3, " + what + ")", room.clerk(3, what), NONE);
        int[] idle = {IDLE, NONE, 3, NONE, NONE};
        for (int what = 0; what < 5; what++) due("idle " + what, room.clerk(3, what), idle[what]);
        int[] fresh = {IDLE, NONE, NONE, NONE, NONE};
        for (int what = 0; what < 5; what++) due("ahead of the first " + what, room.clerk(0, what), fresh[what]);
        room.begin(0, FILE, 50);
        int[][] states = {
            {READING, 0, 4, 50, NONE}, {HOLDING, 0, 4, 50, NONE}, {WRITING, 0, 4, 50, NONE}, {RISING, 0, 4, 30, 1},
            {IDLE, NONE, 4, NONE, NONE}};
        for (int step = 0; step < states.length; step++) {
            for (int what = 0; what < 5; what++) due("step " + step + ", what " + what, room.clerk(0, what), states[step][what]);
            room.step(0, 1);
        }
        room.begin(0, FILE, 25);
        room.step(0, 30);
        room.begin(0, FILE, 26);
        room.step(0, 4);
        int[][] rising = {{RISING, 0, 6, 25, 3}, {HOLDING, 2, 6, 25, 3}, {WRITING, 2, 6, 25, 3}, {IDLE, NONE, 6, NONE, NONE}};
        for (int step = 0; step < rising.length; step++) {
            for (int what = 0; what < 5; what++) due("rising " + step + ", what " + what, room.clerk(0, what), rising[step][what]);
            room.step(0, 1);
        }
        room.begin(0, FILE, 70);
        room.fall();
        int[] fallen = {IDLE, NONE, 7, NONE, NONE};
        for (int what = 0; what < 5; what++) due("fallen " + what, room.clerk(0, what), fallen[what]);
    }

    private static void promise08Job() {
        DrawerRoom room = new DrawerRoom(2);
        due("no job yet", room.job(0, 0), NONE);
        whole(room, 0, FILE, 10);
        room.begin(1, PULL, 77);
        int[] ended = {FILE, 10, 1, 0, 3, 3, 0};
        int[] fresh = {PULL, 77, NONE, 3, NONE, 0, 0};
        int[] wrote = {FILE, 88, NONE, 4, NONE, 3, 0};
        int[] lost = {PULL, 77, NONE, 3, NONE, 1, 1};
        for (int what = 0; what < 7; what++) {
            due("ended " + what, room.job(0, what), ended[what]);
            due("fresh " + what, room.job(1, what), fresh[what]);
        }
        room.step(1, 1);
        room.fall();
        for (int what = 0; what < 7; what++) due("lost " + what, room.job(1, what), lost[what]);
        for (int heading : new int[] {20, 30, 40}) whole(room, 0, FILE, heading);
        int job = room.begin(0, FILE, 88);
        wrote[3] = room.count(1);
        room.step(0, 3);
        for (int what = 0; what < 7; what++) due("written, not ended " + what, room.job(job, what), wrote[what]);
        room.step(0, 1);
        due("ended with 1", room.job(job, 2), 1);
        due("ended at", room.job(job, 4), room.count(1));
        for (int what : new int[] {-1, 7, 8, 100, Integer.MIN_VALUE, Integer.MAX_VALUE}) due("job what " + what, room.job(0, what), NONE);
        for (int number : new int[] {-1, job + 1, 120, 121, Integer.MIN_VALUE, Integer.MAX_VALUE}) {
            for (int what = 0; what < 7; what++) due("job " + number, room.job(number, what), NONE);
        }
        DrawerRoom waiting = filled(2, 10);
        due("a seek of what isn't there", whole(waiting, 0, SEEK, 11), 0);
        due("its end", waiting.job(1, 4), 4);
    }

    private static void promise09Drawer() {
        DrawerRoom room = twoLeaves();
        int[][] want = {{1, 0, 3, 30, 1, NONE}, {1, 0, 2, NONE, NONE, NONE}, {1, 1, 1, NONE, NONE, NONE}, {0, NONE, NONE, NONE, NONE, NONE}};
        for (int drawer = 0; drawer < want.length; drawer++) {
            for (int what = 0; what < 6; what++) due("drawer(" + drawer + ", " + what + ")", room.drawer(drawer, what), want[drawer][what]);
            for (int what : new int[] {-1, 6, 7, 100, Integer.MIN_VALUE, Integer.MAX_VALUE}) due("drawer what " + what, room.drawer(drawer, what), NONE);
        }
        due("drawer 255 is spare", room.drawer(255, 0), 0);
        for (int drawer : new int[] {-1, 256, 257, 259, 260, Integer.MIN_VALUE, Integer.MAX_VALUE}) {
            for (int what = 0; what < 6; what++) due("drawer " + drawer, room.drawer(drawer, what), NONE);
        }
        room.begin(2, PULL, 40);
        room.step(2, 2);
        due("latched by 2", room.drawer(1, 5), 2);
        room.fall();
        for (int heading : new int[] {10, 20, 30, 40, 50}) whole(room, 0, PULL, heading);
        due("an empty leaf is in use", room.drawer(0, 0), 1);
        due("with 0 headings", room.drawer(0, 2), 0);
        due("and its HIGH", room.drawer(0, 3), 30);
        room.night(2);
        due("spare behind a night", room.drawer(1, 0), 0);
        due("and without a HIGH", room.drawer(1, 3), NONE);
    }

    private static void promise10At() {
        DrawerRoom room = twoLeaves();
        headings("leaf", room, 0, 10, 20, 30);
        headings("leaf", room, 1, 40, 50);
        headings("guide", room, 2, 30);
        children("guide", room, 2, 0, 1);
        children("leaf", room, 0);
        for (int k : new int[] {-1, 3, 4, 11, 12, Integer.MIN_VALUE, Integer.MAX_VALUE}) {
            due("at(0, " + k + ", false)", room.at(0, k, false), NONE);
            due("at(2, " + k + ", true)", room.at(2, k, true), NONE);
        }
        for (int drawer : new int[] {-1, 3, 255, 256, 257, Integer.MIN_VALUE, Integer.MAX_VALUE}) {
            due("at(" + drawer + ", 0, false)", room.at(drawer, 0, false), NONE);
            due("at(" + drawer + ", 0, true)", room.at(drawer, 0, true), NONE);
        }
        room.begin(0, FILE, 60);
        room.step(0, 3);
        due("a copy is no drawer", room.at(256, 0, false), NONE);
    }

    private static void promise11Nth() {
        cards("an empty room", new DrawerRoom(2));
        DrawerRoom room = twoLeaves();
        cards("two leaves", room, 10, 20, 30, 40, 50);
        for (int k : new int[] {-1, 5, 6, 1000, Integer.MIN_VALUE, Integer.MAX_VALUE}) due("nth(" + k + ")", room.nth(k), NONE);
        for (int heading : new int[] {10, 20, 30}) whole(room, 0, PULL, heading);
        cards("the first leaf empty", room, 40, 50);
        // The thread counts, not the guides: a leaf that no guide knows yet is in the row.
        room = filled(2, 10, 20, 30, 40);
        room.begin(0, FILE, 50);
        room.step(0, 3);
        cards("no guide yet", room, 10, 20, 30, 40, 50);
        DrawerRoom ruled = new DrawerRoom(2);
        rule(ruled, "d-;");
        for (int heading : new int[] {11, 23, 12, 33, 9}) whole(ruled, 0, FILE, heading);
        cards("by the rule", ruled, 9, 23, 33, 12, 11);
    }

    private static void promise12Rank() {
        DrawerRoom room = twoLeaves();
        int[] asked = {0, 10, 11, 30, 31, 40, 50, 51, 9999};
        int[] want = {0, 0, 1, 2, 3, 3, 4, 5, 5};
        for (int i = 0; i < asked.length; i++) due("rank(" + asked[i] + ")", room.rank(asked[i]), want[i]);
        for (int heading : WRONG_HEADINGS) due("rank(" + heading + ")", room.rank(heading), NONE);
        due("rank in an empty room", new DrawerRoom(2).rank(9999), 0);
        DrawerRoom ruled = new DrawerRoom(2);
        rule(ruled, "d-;");
        for (int heading : new int[] {11, 23, 12, 33, 9}) whole(ruled, 0, FILE, heading);
        due("rank of 9", ruled.rank(9), 0);
        due("rank of 3", ruled.rank(3), 1);
        due("rank of 24", ruled.rank(24), 1);
        due("rank of 10", ruled.rank(10), 5);
    }

    private static void promise13There() {
        DrawerRoom room = new DrawerRoom(2);
        due("nothing at time 0", room.there(0, 9999, 0), 0);
        whole(room, 0, FILE, 10);
        whole(room, 0, FILE, 20);
        whole(room, 0, FILE, 20);
        whole(room, 0, PULL, 10);
        whole(room, 0, SEEK, 20);
        int time = room.count(1);
        due("time", time, 13);
        int[] want = {0, 0, 0, 1, 1, 1, 2, 2, 2, 2, 2, 2, 1, 1};
        for (int t = 0; t <= time; t++) due("there at " + t, room.there(0, 9999, t), want[t]);
        due("from 10 to 10 at 6", room.there(10, 10, 6), 1);
        due("from 11 to 19 at 6", room.there(11, 19, 6), 0);
        due("from 11 to 20 at 6", room.there(11, 20, 6), 1);
        due("from 10 to 19 at 6", room.there(10, 19, 6), 1);
        due("from 20 to 10 at 6", room.there(20, 10, 6), 0);
        for (int t : new int[] {-1, time + 1, Integer.MIN_VALUE, Integer.MAX_VALUE}) due("there at " + t, room.there(0, 9999, t), NONE);
        for (int heading : WRONG_HEADINGS) {
            due("from " + heading, room.there(heading, 9999, 0), NONE);
            due("to " + heading, room.there(0, heading, 0), NONE);
        }
        whole(room, 0, FILE, 10);
        due("filed again", room.there(10, 10, 16), 1);
        due("not just before", room.there(10, 10, 15), 0);
        room.night(3);
        due("a night changes nothing of it", room.there(0, 9999, 16), 2);
        due("nor of what was", room.there(0, 9999, 12), 1);
        // What a lost job wrote counts, from its step on.
        room = filled(2, 10, 20, 30, 40);
        room.begin(0, FILE, 50);
        room.step(0, 2);
        due("not written yet", room.there(50, 50, 14), 0);
        room.step(0, 1);
        due("written, not ended", room.there(50, 50, 15), 1);
        room.fall();
        due("lost", room.there(50, 50, 15), 1);
        due("not in the step before", room.there(50, 50, 14), 0);
        room.begin(0, FILE, 60);
        room.step(0, 2);
        room.fall();
        due("lost before writing", room.there(60, 60, room.count(1)), 0);
        // A card that an old copy took away is still there by what was answered.
        room = filled(2, 10, 20);
        room.fault(1, 2);
        room.begin(0, FILE, 30);
        room.begin(1, FILE, 40);
        room.step(0, 2);
        room.step(1, 2);
        room.step(0, 1);
        room.step(1, 1);
        due("30 isn't among the cards", room.rank(31), 2);
        due("but there", room.there(30, 30, room.count(1)), 1);
        DrawerRoom ruled = new DrawerRoom(2);
        rule(ruled, "d-;");
        for (int heading : new int[] {11, 23, 12, 33, 9}) whole(ruled, 0, FILE, heading);
        due("by the rule", ruled.there(23, 12, 15), 3);
        due("by the rule, the other way", ruled.there(12, 23, 15), 0);
        due("by the rule, all", ruled.there(9, 9990, 15), 5);
    }

    private static void promise14Line() {
        DrawerRoom room = new DrawerRoom(2);
        due("without jobs", room.line(5), 1);
        for (int heading : WRONG_HEADINGS) due("line(" + heading + ")", room.line(heading), NONE);
        room.begin(0, FILE, 5);
        due("under way", room.line(5), NONE);
        due("another heading", room.line(6), 1);
        room.step(0, 30);
        due("ended", room.line(5), 1);
        room.begin(0, PULL, 5);
        room.fall();
        due("lost", room.line(5), NONE);
        room = new DrawerRoom(2);
        for (int i = 0; i < 9; i++) {
            due("line of " + i, room.line(7), 1);
            whole(room, 0, i % 3, 7);
        }
        due("nine", room.line(7), 1);
        whole(room, 0, SEEK, 7);
        due("ten", room.line(7), NONE);
        // Two jobs at once may be put either way, ..
        room = filled(2, 10);
        room.begin(0, SEEK, 20);
        whole(room, 1, FILE, 20);
        room.step(0, 30);
        due("a seek that saw it", room.line(20), 1);
        // .. but one that ended as another began comes first.
        room = lostCard();
        due("a seek behind the filing that misses it", room.line(30), 0);
        due("the other card", room.line(40), 1);
        due("the card that nobody touched", room.line(10), 1);
        whole(room, 0, FILE, 30);
        due("filed twice, and never pulled", room.line(30), 0);
    }

    /** 30 was filed, an old copy took it away, and a seek begun in the same step's time missed it. */
    private static DrawerRoom lostCard() {
        DrawerRoom room = filled(2, 10, 20);
        room.fault(1, 2);
        room.begin(0, FILE, 30);
        room.begin(1, FILE, 40);
        room.step(0, 2);
        room.step(1, 2);
        room.step(0, 1);
        room.begin(0, SEEK, 30);
        room.step(1, 1);
        room.step(0, 30);
        return room;
    }

    private static void promise15Order() {
        DrawerRoom room = new DrawerRoom(2);
        due("without jobs", room.order(5, 0), NONE);
        whole(room, 0, FILE, 5);
        whole(room, 0, FILE, 6);
        whole(room, 0, SEEK, 5);
        whole(room, 0, PULL, 5);
        int[] want = {0, 2, 3};
        for (int k = 0; k < 3; k++) due("order(5, " + k + ")", room.order(5, k), want[k]);
        for (int k : new int[] {-1, 3, 9, Integer.MIN_VALUE, Integer.MAX_VALUE}) due("order(5, " + k + ")", room.order(5, k), NONE);
        for (int heading : WRONG_HEADINGS) due("order(" + heading + ", 0)", room.order(heading, 0), NONE);
        room.begin(0, SEEK, 5);
        due("under way", room.order(5, 0), NONE);
        room.fall();
        due("lost", room.order(5, 0), NONE);
        due("not sound", lostCard().order(30, 0), NONE);
        // The seek began first and saw what was filed meanwhile: it comes behind.
        room = new DrawerRoom(2);
        room.begin(0, SEEK, 20);
        whole(room, 1, FILE, 20);
        room.step(0, 30);
        due("the filing first", room.order(20, 0), 1);
        due("then the seek", room.order(20, 1), 0);
        // Two seeks at once that both saw nothing: by their numbers.
        room = new DrawerRoom(2);
        room.begin(0, FILE, 20);
        room.begin(1, SEEK, 20);
        room.begin(2, SEEK, 20);
        room.step(2, 1);
        room.step(1, 1);
        room.step(0, 3);
        int[] row = {1, 2, 0};
        for (int k = 0; k < 3; k++) due("seeks that saw nothing: " + k, room.order(20, k), row[k]);
        // Nine jobs one by one, and the tenth that ends it.
        room = new DrawerRoom(2);
        for (int i = 0; i < 9; i++) whole(room, 0, 1 + i % 2, 7);
        for (int k = 0; k < 9; k++) due("nine: " + k, room.order(7, k), k);
        whole(room, 0, SEEK, 7);
        due("ten", room.order(7, 0), NONE);
    }

    private static void promise16Shape() {
        due("a new room", new DrawerRoom(2).shape(), NONE);
        due("two leaves", twoLeaves().shape(), NONE);
        // A leaf that doesn't cover its card: a clerk who doesn't ask files behind HIGH.
        DrawerRoom room = filled(2, 10, 20, 30, 40);
        room.fault(1, 1);
        room.begin(0, FILE, 50);
        room.begin(1, FILE, 60);
        room.step(0, 3);
        room.step(0, 1);
        due("still sound", room.shape(), NONE);
        room.step(1, 30);
        headings("behind its HIGH", room, 0, 10, 20, 30, 60);
        due("drawer 0 is bad", room.shape(), 0);
        due("pulled by the same way", whole(room, 1, SEEK, 60), 0);
        room.night(2);
        due("sound behind a night", room.shape(), NONE);
        cards("all of them", room, 10, 20, 30, 40, 50, 60);
        // A child without the HIGH that its guide tells: an old copy brought it back.
        room = filled(2, 10, 20, 30, 40);
        room.fault(1, 2);
        room.begin(0, FILE, 50);
        room.begin(1, PULL, 20);
        room.step(0, 2);
        room.step(1, 2);
        room.step(0, 30);
        due("the top", room.count(3), 2);
        due("sound till then", room.shape(), NONE);
        room.step(1, 30);
        edge("the old copy", room, 0, 0, NONE, NONE);
        headings("the old copy", room, 0, 10, 30, 40);
        due("the guide is bad", room.shape(), 2);
        cards("the row ends there", room, 10, 30, 40);
        // Leaf 1 gets 75 behind its HIGH 60; as it is parted, that goes to the new leaf.
        room = filled(2, 10, 20, 30, 40, 50, 60, 70);
        room.fault(1, 1);
        room.begin(1, FILE, 75);
        room.step(1, 1);
        whole(room, 2, FILE, 80);
        due("sound till then", room.shape(), NONE);
        room.step(1, 30);
        headings("leaf 1", room, 1, 40, 50, 60, 75);
        due("leaf 1 is bad", room.shape(), 1);
        whole(room, 2, FILE, 55);
        headings("leaf 1 parted", room, 1, 40, 50, 55);
        headings("the new leaf", room, 4, 60, 75);
        edge("the new leaf", room, 4, 0, 60, 3);
        due("leaf 4 is bad", room.shape(), 4);
        cards("out of order", room, 10, 20, 30, 40, 50, 55, 60, 75, 70, 80);
        due("rank in a row out of order", room.rank(75), 8);
        due("put right at night", room.night(4), 4);
        cards("in order", room, 10, 20, 30, 40, 50, 55, 60, 70, 75, 80);
    }

    private static void promise17Found() {
        DrawerRoom room = filled(2, 10, 20, 30, 40, 50);
        room.night(4);
        room.fault(1, 1);
        due("nobody at a job", room.found(6, NONE), NONE);
        room.begin(0, FILE, 25);
        due("one at a job", room.found(6, NONE), NONE);
        room.begin(1, SEEK, 40);
        int time = room.count(1);
        for (int n : new int[] {0, 9, -1, Integer.MIN_VALUE, Integer.MAX_VALUE}) due("found(" + n + ", -1)", room.found(n, NONE), NONE);
        for (int n = 1; n <= 5; n++) due("found(" + n + ", -1)", room.found(n, NONE), NONE);
        int[][] rows = {{0, 0, 0, 0, 1, 1}, {0, 0, 0, 0, 0, 1, 1}, {0, 0, 0, 0, 1, 0, 0, 1}};
        for (int n = 6; n <= 7; n++) {
            due("found(" + n + ", -1)", room.found(n, NONE), 1);
            for (int k = 0; k < n; k++) due("found(" + n + ", " + k + ")", room.found(n, k), rows[n - 6][k]);
            for (int k : new int[] {-2, n, Integer.MIN_VALUE, Integer.MAX_VALUE}) due("found(" + n + ", " + k + ")", room.found(n, k), NONE);
        }
        due("nothing changed: time", room.count(1), time);
        due("nothing changed: drawers", room.count(4), 3);
        due("nothing changed: latches", room.count(7), 0);
        due("nothing changed: clerk 0", room.clerk(0, 0), READING);
        due("nothing changed: clerk 1", room.clerk(1, 1), room.count(3));
        headings("nothing changed", room, 0, 10, 20, 30, 40);
        room.begin(2, SEEK, 40);
        due("three at jobs", room.found(6, NONE), NONE);
        // Steps of none behind the last end: 30 is lost by an old copy and missed by nobody but its line.
        room = filled(2, 10, 20);
        room.fault(1, 2);
        room.begin(0, FILE, 30);
        room.begin(1, PULL, 30);
        due("at once, and short: no row", room.found(4, NONE), NONE);
        room.step(0, 2);
        room.step(1, 2);
        room.step(0, 1);
        room.begin(0, SEEK, 30);
        due("the pull answers 0, which may come first", room.found(8, NONE), NONE);
        room.fall();
        room = filled(2, 10, 20);
        room.fault(1, 2);
        room.begin(0, FILE, 30);
        room.begin(1, FILE, 40);
        room.step(0, 2);
        room.step(1, 2);
        room.step(0, 1);
        room.begin(0, SEEK, 30);
        int[] want = {1, 0, NONE, NONE, NONE, NONE, NONE, NONE};
        due("found(1)", room.found(1, NONE), NONE);
        for (int n = 2; n <= 8; n++) {
            due("found(" + n + ")", room.found(n, NONE), 1);
            for (int k = 0; k < n; k++) due("found(" + n + ", " + k + ")", room.found(n, k), want[k]);
        }
        due("no job ended by it", room.job(3, 4), NONE);
        due("nor the other one", room.job(4, 4), NONE);
        due("nor has an answer", room.job(4, 2), NONE);
        due("nor took steps", room.job(4, 5), 0);
        due("nor changed a card", room.there(40, 40, room.count(1)), 0);
        due("clerks as they were", room.clerk(1, 0), WRITING);
        // What is bad already shows in every row: the first one is the lower clerk's.
        room = filled(2, 10, 20, 30, 40);
        room.fault(1, 1);
        room.begin(0, FILE, 50);
        room.begin(1, FILE, 60);
        room.step(0, 30);
        room.step(1, 30);
        due("bad", room.shape(), 0);
        room.begin(3, SEEK, 10);
        room.begin(2, SEEK, 20);
        int[] first = {2, 2, 3, 3, NONE};
        for (int k = 0; k < 5; k++) due("bad already: " + k, room.found(5, k), first[k]);
        due("bad already: one step", room.found(1, 0), 2);
    }

    private static void promise18Fall() {
        DrawerRoom room = new DrawerRoom(2);
        due("nobody", room.fall(), 0);
        due("the top stays", room.count(3), 0);
        for (int heading : new int[] {10, 20, 30, 40}) whole(room, 0, FILE, heading);
        room.begin(0, FILE, 50);
        room.begin(1, SEEK, 10);
        room.begin(3, FILE, 60);
        room.step(0, 3);
        room.step(3, 2);
        due("two latched", room.count(7), 2);
        int time = room.count(1);
        due("three are lost", room.fall(), 3);
        due("no time goes by", room.count(1), time);
        due("nothing is latched", room.count(7), 0);
        due("nobody at a job", room.count(6), 0);
        for (int job = 4; job < 7; job++) {
            due("job " + job + " is lost", room.job(job, 6), 1);
            due("job " + job + " has no answer", room.job(job, 2), NONE);
            due("job " + job + " has no end", room.job(job, 4), NONE);
        }
        due("job 3 isn't", room.job(3, 6), 0);
        due("the top had a thread: a new one", room.count(3), 2);
        edge("the new top", room, 2, 1, NONE, NONE);
        headings("the new top", room, 2, 30);
        children("the new top", room, 2, 0, 1);
        due("sound", room.shape(), NONE);
        cards("what was written stays", room, 10, 20, 30, 40, 50);
        due("again: nobody", room.fall(), 0);
        due("again: the same top", room.count(3), 2);
        due("used on", whole(room, 0, FILE, 60), 1);
        fallOfFour();
        fallOutOfOrder();
    }

    /** A guide parted without a latch is filled and parted again by a clerk who asks for no cover. */
    private static void fallOutOfOrder() {
        DrawerRoom room = new DrawerRoom(2);
        for (int i = 1; i <= 20; i++) whole(room, 3, FILE, 10 * i);
        due("five full leaves and a full top", room.night(4), 6);
        room.fault(0, 2);
        room.fault(1, 1);
        room.begin(0, FILE, 45);
        room.step(0, 7);
        due("0 parted the top", room.clerk(0, 0), RISING);
        due("and rises with", room.clerk(0, 3), 80);
        headings("the top", room, 5, 40, 60);
        edge("the top", room, 5, 1, 80, 7);
        due("sound till then", room.shape(), NONE);
        for (int heading : new int[] {300, 310}) due("filed", whole(room, 1, FILE, heading), 1);
        due("a leaf that doesn't cover", room.shape(), 6);
        due("filed", whole(room, 1, FILE, 320), 1);
        headings("the top", room, 5, 40, 60, 300);
        children("the top", room, 5, 0, 1, 6, 8);
        edge("a leaf with a higher HIGH", room, 6, 0, 300, 8);
        edge("and the next with the old one", room, 8, 0, 80, 2);
        due("the top doesn't cover", room.shape(), 5);
        for (int heading : new int[] {330, 340, 350, 360, 370}) due("filed", whole(room, 1, FILE, heading), 1);
        room.begin(1, FILE, 380);
        room.step(1, 7);
        due("1 parted the top again", room.clerk(1, 0), RISING);
        due("and rises with", room.clerk(1, 3), 300);
        due("two are lost", room.fall(), 2);
        due("the new top", room.count(3), 12);
        headings("the new top", room, 12, 300, 80);
        children("the new top", room, 12, 5, 11, 7);
        edge("the new top", room, 12, 2, NONE, NONE);
        due("the least bad one", room.shape(), 10);
        due("thirty cards", room.count(5), 30);
    }

    /** Four clerks part leaf after leaf with no top above: five children. */
    private static void fallOfFour() {
        DrawerRoom room = filled(2, 10, 20, 30, 40);
        room.begin(0, FILE, 50);
        room.step(0, 3);
        int next = 60;
        for (int clerk = 1; clerk < 4; clerk++) {
            while (room.clerk(clerk, 0) == IDLE) {
                room.begin(clerk, FILE, next);
                room.step(clerk, 30);
                next += 10;
            }
            due("clerk " + clerk + " rises", room.clerk(clerk, 0), RISING);
        }
        due("five leaves", room.count(4), 5);
        due("four are lost", room.fall(), 4);
        due("the top", room.count(3), 5);
        headings("the top of five", room, 5, 30, 60, 90, 120);
        children("the top of five", room, 5, 0, 1, 2, 3, 4);
        due("sound", room.shape(), NONE);
        due("fourteen cards", room.count(5), 14);
    }

    private static void promise19Night() {
        DrawerRoom room = new DrawerRoom(3);
        for (int f : new int[] {2, 7, 0, -1, Integer.MIN_VALUE, Integer.MAX_VALUE}) due("night(" + f + ")", room.night(f), NONE);
        for (int f = 3; f <= 6; f++) {
            due("an empty night", room.night(f), 1);
            due("one leaf", room.drawer(0, 1), 0);
            due("the top", room.count(3), 0);
            edge("empty", room, 0, 0, NONE, NONE);
        }
        room.begin(0, SEEK, 5);
        due("a clerk at a job", room.night(3), NONE);
        room.step(0, 30);
        due("idle again", room.night(3), 1);
        for (int f : WRONG_NUMBERS) due("night(" + f + ")", room.night(f), NONE);
        // 13 cards by 2: leaves of 2, the last of 1; guides of 3 children, the last of 1; one on top.
        room = new DrawerRoom(2);
        for (int i = 13; i >= 1; i--) whole(room, 0, FILE, 10 * i);
        int time = room.count(1);
        due("7 leaves, 3 guides, a top", room.night(2), 11);
        due("no time goes by", room.count(1), time);
        due("in use", room.count(4), 11);
        due("the top is the last one", room.count(3), 10);
        for (int leaf = 0; leaf < 6; leaf++) {
            headings("leaf", room, leaf, 20 * leaf + 10, 20 * leaf + 20);
            edge("leaf", room, leaf, 0, 20 * leaf + 20, leaf + 1);
        }
        headings("the last leaf", room, 6, 130);
        edge("the last leaf", room, 6, 0, NONE, NONE);
        headings("guide 7", room, 7, 20, 40);
        children("guide 7", room, 7, 0, 1, 2);
        edge("guide 7", room, 7, 1, 60, 8);
        headings("guide 8", room, 8, 80, 100);
        children("guide 8", room, 8, 3, 4, 5);
        edge("guide 8", room, 8, 1, 120, 9);
        headings("guide 9, one child alone", room, 9);
        children("guide 9, one child alone", room, 9, 6);
        edge("guide 9", room, 9, 1, NONE, NONE);
        headings("the top", room, 10, 60, 120);
        children("the top", room, 10, 7, 8, 9);
        edge("the top", room, 10, 2, NONE, NONE);
        due("drawer 11 is spare", room.drawer(11, 0), 0);
        due("sound", room.shape(), NONE);
        due("found by the way", whole(room, 0, SEEK, 130), 1);
        due("filed under the guide of one", whole(room, 0, FILE, 125), 1);
        due("6 leaves of 3, guides of 4", room.night(3), 8);
        due("4 leaves", room.night(4), 5);
        headings("just full leaves and a rest", room, 3, 125, 130);
        due("one card in each? f is B at least", room.night(1), NONE);
        // Each heading once, though the threads pass 60 twice.
        room = filled(2, 10, 20, 30, 40);
        room.fault(1, 1);
        room.begin(1, FILE, 60);
        whole(room, 0, FILE, 50);
        whole(room, 0, FILE, 60);
        room.step(1, 30);
        cards("60 twice", room, 10, 20, 30, 60, 40, 50, 60);
        due("rank behind both", room.rank(61), 7);
        due("60 once", room.night(2), 4);
        cards("60 once", room, 10, 20, 30, 40, 50, 60);
        DrawerRoom ruled = new DrawerRoom(2);
        rule(ruled, "d-;");
        for (int heading : new int[] {11, 23, 12, 33, 9}) whole(ruled, 0, FILE, heading);
        due("by the rule", ruled.night(4), 3);
        headings("by the rule", ruled, 0, 9, 23, 33, 12);
        headings("by the rule", ruled, 1, 11);
        headings("by the rule", ruled, 2, 12);
        // What no thread reaches is gone.
        room = filled(2, 10, 20, 30, 40);
        room.fault(1, 2);
        room.begin(0, FILE, 50);
        room.begin(1, PULL, 20);
        room.step(0, 2);
        room.step(1, 2);
        room.step(0, 30);
        room.step(1, 30);
        due("one leaf is left", room.night(4), 1);
        cards("10 30 40", room, 10, 30, 40);
    }

    private static void promise20Count() {
        DrawerRoom room = new DrawerRoom(4);
        rule(room, "b+d-;");
        for (int i = 0; i < 9; i++) whole(room, 0, FILE, i);
        room.begin(1, FILE, 77);
        room.begin(2, SEEK, 77);
        room.step(1, 2);
        int[] want = {4, 30, 11, 2, 3, 9, 2, 1, 2};
        for (int what = 0; what < 9; what++) due("count(" + what + ")", room.count(what), want[what]);
        for (int what : new int[] {-1, 9, 10, Integer.MIN_VALUE, Integer.MAX_VALUE}) due("count(" + what + ")", room.count(what), NONE);
        room.fall();
        int[] fallen = {4, 30, 11, 2, 3, 9, 0, 0, 2};
        for (int what = 0; what < 9; what++) due("fallen: count(" + what + ")", room.count(what), fallen[what]);
    }
}
