import java.util.ArrayList;
import java.util.List;
import java.util.Random;

/** "What is refused changes nothing.": each refused call in many states, and that nothing has changed behind it. */
public final class RefusedTest extends Checks {
    private static final int RUNS = 120;
    private static final int CALLS = 110;
    private static final int[] WILD = {LEAST, LEAST + 1, -10000, -257, -121, -9, -2, -1, 0, 1, 2, 3, 4, 5, 6, 7, 8, 9, 11, 20, 21, 29, 30, 31, 60,
        119, 120, 121, 255, 256, 259, 260, 511, 512, 4160, 9999, 10000, 0x612b3b20, 1 << 30, MOST - 1, MOST};

    /** A call that is refused, and what it answers then. */
    private interface Refused {
        int call(DrawerRoom room);
    }

    private static final class Case {
        final String name;
        final Refused call;
        final int answer;

        Case(String name, Refused call, int answer) {
            this.name = name;
            this.call = call;
            this.answer = answer;
        }
    }

    public static void main(String[] args) {
        eachInEachState();
        sentence("What is refused changes nothing. (what can't be seen at once)");
        for (int seed = 0; seed < RUNS; seed++) besideATwin(seed);
        sentence("nor what is asked");
        for (int seed = 0; seed < RUNS; seed++) askedBesideATwin(seed);
        wild();
        finish("RefusedTest");
    }

    // ---- the refused calls of a state

    private static List<Case> casesOf(DrawerRoom room) {
        List<Case> cases = new ArrayList<>();
        rules(cases, room);
        clerks(cases, room);
        nightsAndRows(cases, room);
        questions(cases, room);
        return cases;
    }

    private static void add(List<Case> cases, String name, int answer, Refused call) {
        cases.add(new Case(name, call, answer));
    }

    private static void rules(List<Case> cases, DrawerRoom room) {
        for (int n : new int[] {-1, 21, LEAST, MOST}) add(cases, "rule of " + n, -2, r -> rule(r, "d-b+;", n));
        add(cases, "rule that ends", 4, r -> rule(r, "d-b+"));
        add(cases, "rule of nothing", 0, r -> rule(r, "d-b+;", 0));
        add(cases, "rule with a fault", 4, r -> rule(r, "d-b+d+;"));
        add(cases, "rule with a fault behind ;", 6, r -> rule(r, "d-b+; ;"));
        if (room.count(2) > 0) {
            add(cases, "rule behind a job", NONE, r -> rule(r, "d-b+;"));
            add(cases, "rule of no parts behind a job", NONE, r -> rule(r, ";"));
        }
    }

    private static void clerks(List<Case> cases, DrawerRoom room) {
        for (int clerk : WRONG_CLERKS) {
            add(cases, "fault of clerk " + clerk, 0, r -> r.fault(clerk, 2) ? 1 : 0);
            add(cases, "begin of clerk " + clerk, NONE, r -> r.begin(clerk, FILE, 77));
            add(cases, "step of clerk " + clerk, NONE, r -> r.step(clerk, 1));
        }
        for (int clerk = 0; clerk < 4; clerk++) {
            int c = clerk;
            for (int fault : new int[] {-1, 3, LEAST, MOST}) add(cases, "fault " + fault, 0, r -> r.fault(c, fault) ? 1 : 0);
            for (int kind : WRONG_KINDS) add(cases, "kind " + kind, NONE, r -> r.begin(c, kind, 77));
            for (int heading : WRONG_HEADINGS) add(cases, "heading " + heading, NONE, r -> r.begin(c, FILE, heading));
            for (int n : new int[] {0, -1, 31, LEAST, MOST}) add(cases, "step of " + n, NONE, r -> r.step(c, n));
            boolean idle = room.clerk(clerk, 0) == IDLE;
            if (idle) {
                add(cases, "a step while idle", NONE, r -> r.step(c, 1));
                add(cases, "thirty steps while idle", NONE, r -> r.step(c, 30));
            }
            for (int i = 0; i < 3; i++) {
                int one = i;
                if (!idle) add(cases, "a fault while at a job", 0, r -> r.fault(c, one) ? 1 : 0);
                if (!idle) add(cases, "a begin while at a job", NONE, r -> r.begin(c, one, 77));
                if (room.count(2) == 120) add(cases, "a 121st job", NONE, r -> r.begin(c, one, 77));
            }
        }
    }

    private static void nightsAndRows(List<Case> cases, DrawerRoom room) {
        int b = room.count(0);
        for (int f : new int[] {b - 1, 2 * b + 1, 0, LEAST, MOST}) add(cases, "night by " + f, NONE, r -> r.night(f));
        if (room.count(6) > 0) {
            add(cases, "night by B with a clerk at a job", NONE, r -> r.night(b));
            add(cases, "night by 2 B with a clerk at a job", NONE, r -> r.night(2 * b));
        }
        for (int n : new int[] {0, 9, -1, LEAST, MOST}) add(cases, "found of " + n, NONE, r -> r.found(n, NONE));
        for (int k : new int[] {4, -2, LEAST, MOST}) add(cases, "found, place " + k, NONE, r -> r.found(4, k));
        if (room.count(6) != 2) add(cases, "found without two", NONE, r -> r.found(4, NONE));
    }

    private static void questions(List<Case> cases, DrawerRoom room) {
        for (int wrong : new int[] {-1, 10000, LEAST, MOST}) {
            add(cases, "ahead of " + wrong, NONE, r -> r.ahead(5, wrong));
            add(cases, "rank of " + wrong, NONE, r -> r.rank(wrong));
            add(cases, "there from " + wrong, NONE, r -> r.there(wrong, 5, 0));
            add(cases, "there at " + wrong, NONE, r -> r.there(5, 5, wrong < 0 ? wrong : MOST));
            add(cases, "line of " + wrong, NONE, r -> r.line(wrong));
            add(cases, "order of " + wrong, NONE, r -> r.order(wrong, 0));
            add(cases, "order at " + wrong, NONE, r -> r.order(5, wrong));
            add(cases, "nth of " + wrong, NONE, r -> r.nth(wrong));
            add(cases, "clerk " + wrong, NONE, r -> r.clerk(0, wrong));
            add(cases, "job " + wrong, NONE, r -> r.job(wrong, 0));
            add(cases, "drawer " + wrong, NONE, r -> r.drawer(wrong, 0));
            add(cases, "at " + wrong, NONE, r -> r.at(0, wrong, false));
            add(cases, "count " + wrong, NONE, r -> r.count(wrong));
        }
        add(cases, "there behind TIME", NONE, r -> r.there(0, 9999, room.count(1) + 1));
        add(cases, "nth behind the last", NONE, r -> r.nth(room.count(5)));
        add(cases, "job behind the last", NONE, r -> r.job(room.count(2), 0));
    }

    // ---- one by one

    private static void eachInEachState() {
        sentence("What is refused changes nothing.");
        DrawerRoom[] rooms = {new DrawerRoom(2), ruled(5, "c-;"), tens(2, 17), busy(), full(), rising()};
        for (int i = 0; i < rooms.length; i++) {
            String before = Told.all(rooms[i]);
            for (Case one : casesOf(rooms[i])) {
                due("room " + i + ": " + one.name, one.call.call(rooms[i]), one.answer);
                same("room " + i + ", behind " + one.name, Told.all(rooms[i]), before);
            }
        }
    }

    /** A clerk each at reading, holding, writing and rising. */
    private static DrawerRoom busy() {
        DrawerRoom room = tens(2, 4);
        room.begin(0, FILE, 50);
        room.step(0, 3);
        room.begin(1, FILE, 60);
        room.step(1, 3);
        room.fault(2, 2);
        room.begin(2, PULL, 60);
        room.step(2, 2);
        room.begin(3, SEEK, 20);
        for (int clerk = 0; clerk < 4; clerk++) due("state", room.clerk(clerk, 0), RISING - clerk);
        return room;
    }

    private static DrawerRoom full() {
        DrawerRoom room = tens(2, 120);
        due("120 jobs", room.count(2), 120);
        return room;
    }

    /** Two clerks at jobs, one of them waiting for the other's guide. */
    private static DrawerRoom rising() {
        DrawerRoom room = tens(2, 12);
        room.night(4);
        room.begin(0, FILE, 5);
        room.step(0, 5);
        room.begin(1, FILE, 45);
        room.step(1, 6);
        due("waiting", room.clerk(1, 0), RISING);
        return room;
    }

    // ---- beside a twin to which the same is done, but for what is refused

    private static void besideATwin(int seed) {
        Random random = new Random(seed);
        int b = 2 + seed % 4;
        DrawerRoom room = new DrawerRoom(b);
        DrawerRoom twin = new DrawerRoom(b);
        for (int i = 0; i < CALLS; i++) {
            List<Case> cases = casesOf(twin);
            for (int k = 0; k < 12; k++) {
                Case one = cases.get(random.nextInt(cases.size()));
                due("seed " + seed + ": " + one.name, one.call.call(room), one.answer);
            }
            change(random, room, twin);
            if (i % 10 == 9) same("seed " + seed + ", call " + i, Told.allWithRows(room), Told.allWithRows(twin));
        }
    }

    private static void askedBesideATwin(int seed) {
        Random random = new Random(1000 + seed);
        int b = 2 + seed % 4;
        DrawerRoom room = new DrawerRoom(b);
        DrawerRoom twin = new DrawerRoom(b);
        for (int i = 0; i < CALLS; i++) {
            int heading = random.nextInt(40) * 10;
            room.found(1 + random.nextInt(6), random.nextInt(6) - 1);
            room.line(heading);
            room.order(heading, random.nextInt(4));
            room.there(0, heading, random.nextInt(room.count(1) + 1));
            room.nth(random.nextInt(20));
            room.rank(heading);
            room.shape();
            room.count(random.nextInt(9));
            change(random, room, twin);
            if (i % 10 == 9) same("seed " + seed + ", call " + i, Told.all(room), Told.all(twin));
        }
    }

    /** The same change to both: the answers are the same. */
    private static void change(Random random, DrawerRoom room, DrawerRoom twin) {
        int clerk = random.nextInt(4);
        int dice = random.nextInt(100);
        if (twin.count(2) == 0 && dice < 60) {
            String[] texts = {"a-;", "d-c+;", ";", "b+;", "c-a+b-d+;", "b-x"};
            String text = texts[random.nextInt(texts.length)];
            due("rule", rule(room, text), rule(twin, text));
        } else if (dice < 3) {
            due("fall", room.fall(), twin.fall());
        } else if (dice < 6) {
            int f = twin.count(0) + random.nextInt(twin.count(0) + 1);
            due("night", room.night(f), twin.night(f));
        } else if (dice < 12) {
            int fault = random.nextInt(3);
            due("fault", room.fault(clerk, fault), twin.fault(clerk, fault));
        } else if (twin.clerk(clerk, 0) == IDLE) {
            int kind = random.nextInt(4) == 0 ? random.nextInt(3) : FILE;
            int heading = random.nextInt(60) * 7;
            due("begin", room.begin(clerk, kind, heading), twin.begin(clerk, kind, heading));
        } else {
            int n = random.nextInt(3) == 0 ? 30 : 1 + random.nextInt(3);
            due("step", room.step(clerk, n), twin.step(clerk, n));
        }
    }

    // ---- no call throws or goes on for ever, whatever it is told, also behind the 512th

    private static void wild() {
        sentence("An object is used for at most 512 calls after it has been made; what later calls answer is free.");
        for (int seed = 0; seed < 200; seed++) {
            Random random = new Random(5000 + seed);
            DrawerRoom room = new DrawerRoom(any(random));
            for (int i = 0; i < 1500; i++) wildCall(random, room);
            due("it still answers", room.count(2) >= 0 && room.count(2) <= 120, true);
            due("drawers", room.count(4) >= 1 && room.count(4) <= 256, true);
        }
    }

    private static int any(Random random) {
        int dice = random.nextInt(8);
        if (dice == 0) return random.nextInt();
        return dice < 5 ? WILD[random.nextInt(WILD.length)] : random.nextInt(5);
    }

    private static int heading(Random random) {
        return random.nextInt(3) == 0 ? any(random) : random.nextInt(100) * 100;
    }

    private static int clerk(Random random) {
        return random.nextInt(5) == 0 ? any(random) : random.nextInt(4);
    }

    private static void wildCall(Random random, DrawerRoom room) {
        switch (random.nextInt(24)) {
            case 0: room.rule(any(random), any(random), any(random), any(random), any(random), any(random)); break;
            case 1: room.ahead(heading(random), heading(random)); break;
            case 2: room.fault(clerk(random), any(random)); break;
            case 3: case 4: case 5: case 6: room.begin(clerk(random), random.nextInt(4) == 0 ? any(random) : 1, heading(random)); break;
            case 7: case 8: case 9: case 10: room.step(clerk(random), any(random)); break;
            case 11: room.clerk(any(random), any(random)); break;
            case 12: room.job(any(random), any(random)); break;
            case 13: room.drawer(any(random), any(random)); break;
            case 14: room.at(any(random), any(random), random.nextBoolean()); break;
            case 15: room.nth(any(random)); break;
            case 16: room.rank(heading(random)); break;
            case 17: room.there(heading(random), heading(random), any(random)); break;
            case 18: room.line(heading(random)); break;
            case 19: room.order(heading(random), any(random)); break;
            case 20: room.shape(); break;
            case 21: room.found(any(random), any(random)); break;
            case 22: if (random.nextInt(4) == 0) room.fall(); else room.count(any(random)); break;
            default: room.night(any(random)); break;
        }
    }
}
