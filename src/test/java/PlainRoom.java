import java.util.ArrayList;
import java.util.Arrays;
import java.util.LinkedHashMap;
import java.util.List;
import java.util.Map;
import java.util.TreeSet;

/**
 * The document once more, written as plainly as the Java library allows and without a line of
 * DrawerRoom: all is copied where DrawerRoom takes back, all is tried where it remembers.
 */
final class PlainRoom {
    static final Integer NO = null;

    static final class Drawer {
        int level;
        List<Integer> headings = new ArrayList<>();
        List<Integer> children = new ArrayList<>();
        Integer high = NO;
        Integer thread = NO;
        Integer latch = NO;

        Drawer twin() {
            Drawer t = new Drawer();
            t.level = level;
            t.become(this);
            t.latch = latch;
            return t;
        }

        void become(Drawer other) {
            headings = new ArrayList<>(other.headings);
            children = new ArrayList<>(other.children);
            high = other.high;
            thread = other.thread;
        }
    }

    static final class Job implements Cloneable {
        int kind;
        int heading;
        Integer answer = NO;
        int began;
        Integer ended = NO;
        int steps;
        boolean lost;
        Integer changed = NO;

        Job twin() {
            Job t = new Job();
            t.kind = kind;
            t.heading = heading;
            t.answer = answer;
            t.began = began;
            t.ended = ended;
            t.steps = steps;
            t.lost = lost;
            t.changed = changed;
            return t;
        }
    }

    static final class Clerk {
        String at = "IDLE";
        int fault;
        Integer drawer = NO;
        Integer job = NO;
        Integer rising = NO;
        Integer risingChild = NO;
        Map<Integer, Integer> path = new LinkedHashMap<>();
        Drawer copy;

        Clerk twin() {
            Clerk t = new Clerk();
            t.at = at;
            t.fault = fault;
            t.drawer = drawer;
            t.job = job;
            t.rising = rising;
            t.risingChild = risingChild;
            t.path = new LinkedHashMap<>(path);
            t.copy = copy == null ? null : copy.twin();
            return t;
        }
    }

    final int b;
    Drawer[] drawers = new Drawer[256];
    Clerk[] clerks = {new Clerk(), new Clerk(), new Clerk(), new Clerk()};
    List<Job> jobs = new ArrayList<>();
    String rule = "";
    int top = 0;
    int time = 0;

    PlainRoom(int b) {
        this.b = b < 2 ? 2 : b > 5 ? 5 : b;
        drawers[0] = new Drawer();
    }

    private PlainRoom twin() {
        PlainRoom t = new PlainRoom(b);
        for (int i = 0; i < 256; i++) t.drawers[i] = drawers[i] == null ? null : drawers[i].twin();
        for (int i = 0; i < 4; i++) t.clerks[i] = clerks[i].twin();
        for (Job j : jobs) t.jobs.add(j.twin());
        t.rule = rule;
        t.top = top;
        t.time = time;
        return t;
    }

    // ---- order

    int rule(int n, int a, int b, int c, int d, int e) {
        if (n < 0 || n > 20) return -2;
        StringBuilder text = new StringBuilder();
        for (int w : new int[] {a, b, c, d, e}) {
            for (int s = 24; s >= 0; s -= 8) text.append((char) ((w >> s) & 0xff));
        }
        text.setLength(n);
        // A text stands up to a place if it can be the beginning of a rule.
        for (int i = 1; i <= n; i++) {
            if (!canBegin(text.substring(0, i))) return i - 1;
        }
        if (text.indexOf(";") < 0) return n;
        if (jobs.isEmpty()) rule = text.toString().replace(" ", "").replace(";", "");
        return -1;
    }

    private static boolean canBegin(String text) {
        String t = text.replace(" ", "");
        if (!t.matches("([abcd][+-])*([abcd]|;)?")) return false;
        for (char letter : "abcd".toCharArray()) {
            if (t.indexOf(letter) != t.lastIndexOf(letter)) return false;
        }
        return true;
    }

    int compare(int one, int other) {
        String x = String.format("%04d", one);
        String y = String.format("%04d", other);
        for (int i = 0; i + 1 < rule.length(); i += 2) {
            int place = rule.charAt(i) - 'a';
            int by = Character.compare(x.charAt(place), y.charAt(place));
            if (by != 0) return rule.charAt(i + 1) == '+' ? by : -by;
        }
        return Integer.compare(one, other);
    }

    private static boolean isHeading(int h) {
        return 0 <= h && h <= 9999;
    }

    private static boolean isClerk(int c) {
        return 0 <= c && c <= 3;
    }

    int ahead(int one, int other) {
        if (!isHeading(one) || !isHeading(other)) return -1;
        return compare(one, other) < 0 ? 1 : 0;
    }

    // ---- drawers

    private boolean covers(Drawer d, int heading) {
        return d.high == NO || compare(heading, d.high) <= 0;
    }

    private int way(Drawer d, int heading) {
        int k = 0;
        while (k < d.headings.size() && compare(d.headings.get(k), heading) < 0) k++;
        return k;
    }

    private int leastSpare() {
        return Arrays.asList(drawers).indexOf(null);
    }

    private int spare() {
        int n = 0;
        for (Drawer d : drawers) if (d == null) n++;
        return n;
    }

    private int part(Drawer d) {
        int number = leastSpare();
        Drawer fresh = new Drawer();
        fresh.level = d.level;
        fresh.high = d.high;
        fresh.thread = d.thread;
        List<Integer> h = d.headings;
        if (d.level == 0) {
            fresh.headings = new ArrayList<>(h.subList(b + 1, h.size()));
            d.headings = new ArrayList<>(h.subList(0, b + 1));
            d.high = d.headings.get(b);
        } else {
            fresh.headings = new ArrayList<>(h.subList(b + 1, h.size()));
            fresh.children = new ArrayList<>(d.children.subList(b + 1, d.children.size()));
            d.high = h.get(b);
            d.headings = new ArrayList<>(h.subList(0, b));
            d.children = new ArrayList<>(d.children.subList(0, b + 1));
        }
        d.thread = number;
        drawers[number] = fresh;
        return number;
    }

    private Integer firstOf(int level) {
        int d = top;
        if (drawers[d].level < level) return NO;
        while (drawers[d].level > level) d = drawers[d].children.get(0);
        return d;
    }

    // ---- clerks

    boolean fault(int clerk, int fault) {
        if (!isClerk(clerk) || !clerks[clerk].at.equals("IDLE") || fault < 0 || fault > 2) return false;
        clerks[clerk].fault = fault;
        return true;
    }

    int begin(int clerk, int kind, int heading) {
        if (!isClerk(clerk) || !clerks[clerk].at.equals("IDLE")) return -1;
        if (kind < 0 || kind > 2 || !isHeading(heading) || jobs.size() == 120) return -1;
        if (kind == 1 && spare() < 60) return -1;
        Job j = new Job();
        j.kind = kind;
        j.heading = heading;
        j.began = time;
        jobs.add(j);
        Clerk c = clerks[clerk];
        c.at = "READING";
        c.drawer = top;
        c.job = jobs.size() - 1;
        c.rising = NO;
        c.risingChild = NO;
        c.path.clear();
        c.copy = null;
        return c.job;
    }

    int step(int clerk, int n) {
        if (!isClerk(clerk) || clerks[clerk].at.equals("IDLE") || n < 1 || n > 30) return -1;
        int gone = 0;
        while (gone < n && !clerks[clerk].at.equals("IDLE")) {
            oneStep(clerk);
            gone++;
        }
        return gone;
    }

    private void oneStep(int number) {
        Clerk c = clerks[number];
        Job j = jobs.get(c.job);
        Drawer d = drawers[c.drawer];
        time++;
        j.steps++;
        if (c.at.equals("READING")) {
            if (c.fault != 1 && !covers(d, j.heading)) {
                c.drawer = d.thread;
            } else if (d.level > 0) {
                c.path.put(d.level, c.drawer);
                c.drawer = d.children.get(way(d, j.heading));
            } else if (j.kind == 0) {
                end(c, d.headings.contains(j.heading) ? 1 : 0);
            } else if (mayHold(number, c.drawer)) {
                latch(number, c.drawer);
                c.at = "HOLDING";
            }
        } else if (c.at.equals("HOLDING")) {
            int heading = d.level == 0 ? j.heading : c.rising;
            if (c.fault != 1 && !covers(d, heading)) {
                passOn(number, d.thread);
            } else {
                c.copy = d.twin();
                c.at = "WRITING";
            }
        } else if (c.at.equals("WRITING")) {
            write(number, c, j, d);
        } else if (c.drawer == top) {
            int fresh = leastSpare();
            drawers[fresh] = new Drawer();
            drawers[fresh].level = d.level + 1;
            drawers[fresh].headings.add(c.rising);
            drawers[fresh].children.add(c.drawer);
            drawers[fresh].children.add(c.risingChild);
            top = fresh;
            letGo(number, c.drawer);
            end(c, 1);
        } else {
            Integer above = c.path.containsKey(d.level + 1) ? c.path.get(d.level + 1) : firstOf(d.level + 1);
            if (above != NO) passOn(number, above);
        }
    }

    private void write(int number, Clerk c, Job j, Drawer d) {
        if (d.level == 0) {
            boolean there = c.copy.headings.contains(j.heading);
            if ((j.kind == 1 && there) || (j.kind == 2 && !there)) {
                letGo(number, c.drawer);
                end(c, 0);
                return;
            }
            d.become(c.copy);
            if (j.kind == 1) d.headings.add(way(d, j.heading), j.heading);
            else d.headings.remove((Integer) j.heading);
            j.answer = 1;
            j.changed = time;
        } else {
            d.become(c.copy);
            int k = d.headings.indexOf(c.rising);
            if (k >= 0) {
                d.children.set(k + 1, c.risingChild);
            } else {
                k = way(d, c.rising);
                d.headings.add(k, c.rising);
                d.children.add(k + 1, c.risingChild);
            }
        }
        if (d.headings.size() <= 2 * b) {
            letGo(number, c.drawer);
            end(c, 1);
        } else {
            c.risingChild = part(d);
            c.rising = d.high;
            c.at = "RISING";
        }
    }

    private boolean mayHold(int number, int drawer) {
        Integer by = drawers[drawer].latch;
        return clerks[number].fault == 2 || by == NO || by == number;
    }

    private void latch(int number, int drawer) {
        if (clerks[number].fault != 2) drawers[drawer].latch = number;
    }

    private void letGo(int number, int drawer) {
        if (clerks[number].fault != 2) drawers[drawer].latch = NO;
    }

    private void passOn(int number, int drawer) {
        if (!mayHold(number, drawer)) return;
        latch(number, drawer);
        letGo(number, clerks[number].drawer);
        clerks[number].drawer = drawer;
        clerks[number].at = "HOLDING";
    }

    private void end(Clerk c, int answer) {
        jobs.get(c.job).answer = answer;
        jobs.get(c.job).ended = time;
        c.at = "IDLE";
    }

    // ---- what is told

    int clerk(int clerk, int what) {
        if (!isClerk(clerk)) return -1;
        Clerk c = clerks[clerk];
        boolean idle = c.at.equals("IDLE");
        if (what == 0) return Arrays.asList("IDLE", "READING", "HOLDING", "WRITING", "RISING").indexOf(c.at);
        if (what == 1) return idle ? -1 : c.drawer;
        if (what == 2) return c.job == NO ? -1 : c.job;
        if (what == 3) return idle ? -1 : c.rising != NO ? c.rising : jobs.get(c.job).heading;
        if (what == 4) return idle || c.risingChild == NO ? -1 : c.risingChild;
        return -1;
    }

    int job(int job, int what) {
        if (job < 0 || job >= jobs.size()) return -1;
        Job j = jobs.get(job);
        if (what == 0) return j.kind;
        if (what == 1) return j.heading;
        if (what == 2) return j.ended == NO ? -1 : j.answer;
        if (what == 3) return j.began;
        if (what == 4) return j.ended == NO ? -1 : j.ended;
        if (what == 5) return j.steps;
        if (what == 6) return j.lost ? 1 : 0;
        return -1;
    }

    int drawer(int drawer, int what) {
        if (drawer < 0 || drawer > 255) return -1;
        Drawer d = drawers[drawer];
        if (what == 0) return d == null ? 0 : 1;
        if (d == null) return -1;
        if (what == 1) return d.level;
        if (what == 2) return d.headings.size();
        if (what == 3) return d.high == NO ? -1 : d.high;
        if (what == 4) return d.thread == NO ? -1 : d.thread;
        if (what == 5) return d.latch == NO ? -1 : d.latch;
        return -1;
    }

    int at(int drawer, int k, boolean child) {
        if (drawer < 0 || drawer > 255 || drawers[drawer] == null) return -1;
        List<Integer> row = child ? drawers[drawer].children : drawers[drawer].headings;
        return k < 0 || k >= row.size() ? -1 : row.get(k);
    }

    private List<Integer> cards() {
        List<Integer> row = new ArrayList<>();
        Integer leaf = firstOf(0);
        for (int i = 0; i < 256 && leaf != NO; i++) {
            row.addAll(drawers[leaf].headings);
            leaf = drawers[leaf].thread;
        }
        return row;
    }

    int nth(int k) {
        List<Integer> row = cards();
        return k < 0 || k >= row.size() ? -1 : row.get(k);
    }

    int rank(int heading) {
        if (!isHeading(heading)) return -1;
        int n = 0;
        for (int h : cards()) if (compare(h, heading) < 0) n++;
        return n;
    }

    int there(int from, int to, int t) {
        if (!isHeading(from) || !isHeading(to) || t < 0 || t > time) return -1;
        int n = 0;
        for (int h = 0; h <= 9999; h++) {
            Job last = null;
            for (Job j : jobs) {
                if (j.heading != h || j.changed == NO || j.changed > t) continue;
                if (last == null || last.changed < j.changed) last = j;
            }
            if (last == null || last.kind != 1) continue;
            if (compare(from, h) <= 0 && compare(h, to) <= 0) n++;
        }
        return n;
    }

    // ---- lines: every row is tried, the first ones first

    private List<Integer> jobsOf(int heading) {
        List<Integer> mine = new ArrayList<>();
        for (int i = 0; i < jobs.size(); i++) if (jobs.get(i).heading == heading) mine.add(i);
        for (int i : mine) if (jobs.get(i).ended == NO) return null;
        return mine.size() > 9 ? null : mine;
    }

    private List<Integer> row(List<Integer> left, List<Integer> done, boolean there) {
        if (left.isEmpty()) return done;
        for (int i : left) {
            Job j = jobs.get(i);
            boolean mayBeNext = true;
            for (int o : left) if (o != i && jobs.get(o).ended <= j.began) mayBeNext = false;
            boolean right;
            boolean then = there;
            if (j.kind == 0) {
                right = j.answer == (there ? 1 : 0);
            } else if (j.kind == 1) {
                right = j.answer == (there ? 0 : 1);
                then = true;
            } else {
                right = j.answer == (there ? 1 : 0);
                then = false;
            }
            if (!mayBeNext || !right) continue;
            List<Integer> rest = new ArrayList<>(left);
            rest.remove((Integer) i);
            List<Integer> more = new ArrayList<>(done);
            more.add(i);
            List<Integer> whole = row(rest, more, then);
            if (whole != null) return whole;
        }
        return null;
    }

    int line(int heading) {
        if (!isHeading(heading) || jobsOf(heading) == null) return -1;
        return row(jobsOf(heading), new ArrayList<>(), false) == null ? 0 : 1;
    }

    int order(int heading, int k) {
        if (line(heading) != 1) return -1;
        List<Integer> whole = row(jobsOf(heading), new ArrayList<>(), false);
        return k < 0 || k >= whole.size() ? -1 : whole.get(k);
    }

    // ---- shape, found

    int shape() {
        for (int i = 0; i < 256; i++) if (drawers[i] != null && isBad(drawers[i])) return i;
        return -1;
    }

    private boolean isBad(Drawer d) {
        if (d.headings.size() > 2 * b) return true;
        for (int k = 1; k < d.headings.size(); k++) {
            if (compare(d.headings.get(k - 1), d.headings.get(k)) >= 0) return true;
        }
        for (int h : d.headings) if (!covers(d, h)) return true;
        for (int k = 0; k < d.children.size(); k++) {
            Drawer child = drawers[d.children.get(k)];
            if (child == null || child.level != d.level - 1) return true;
            if (k == d.children.size() - 1) continue;
            if (child.high == NO || compare(child.high, d.headings.get(k)) > 0) return true;
        }
        return false;
    }

    int found(int n, int k) {
        List<Integer> two = new ArrayList<>();
        for (int c = 0; c < 4; c++) if (!clerks[c].at.equals("IDLE")) two.add(c);
        if (n < 1 || n > 8 || two.size() != 2) return -1;
        int[] headings = {jobs.get(clerks[two.get(0)].job).heading, jobs.get(clerks[two.get(1)].job).heading};
        List<Integer> row = search(n, two, headings);
        if (row == null) return -1;
        if (k == -1) return 1;
        return k < 0 || k >= n || row.get(k) == NO ? -1 : row.get(k);
    }

    private List<Integer> search(int n, List<Integer> two, int[] headings) {
        if (n == 0) {
            boolean wrong = shape() != -1 || line(headings[0]) == 0 || line(headings[1]) == 0;
            return wrong ? new ArrayList<>() : null;
        }
        boolean none = true;
        for (int c : two) {
            if (clerks[c].at.equals("IDLE")) continue;
            none = false;
            PlainRoom other = twin();
            other.oneStep(c);
            List<Integer> rest = other.search(n - 1, two, headings);
            if (rest != null) {
                rest.add(0, c);
                return rest;
            }
        }
        if (!none) return null;
        List<Integer> rest = search(n - 1, two, headings);
        if (rest != null) rest.add(0, NO);
        return rest;
    }

    // ---- falls and nights

    int fall() {
        int lost = 0;
        for (Clerk c : clerks) {
            if (c.at.equals("IDLE")) continue;
            jobs.get(c.job).lost = true;
            c.at = "IDLE";
            lost++;
        }
        for (Drawer d : drawers) if (d != null) d.latch = NO;
        if (drawers[top].thread != NO) {
            Drawer guide = new Drawer();
            guide.level = drawers[top].level + 1;
            for (Integer d = top; d != NO && guide.children.size() < 2 * b + 1; d = drawers[d].thread) {
                guide.children.add(d);
            }
            for (int k = 0; k + 1 < guide.children.size(); k++) {
                guide.headings.add(drawers[guide.children.get(k)].high);
            }
            int fresh = leastSpare();
            drawers[fresh] = guide;
            top = fresh;
        }
        return lost;
    }

    int night(int f) {
        if (f < b || f > 2 * b) return -1;
        for (Clerk c : clerks) if (!c.at.equals("IDLE")) return -1;
        TreeSet<Integer> all = new TreeSet<>(this::compare);
        all.addAll(cards());
        List<Integer> left = new ArrayList<>(all);
        Arrays.fill(drawers, null);
        List<Integer> level = new ArrayList<>();
        int next = 0;
        for (int i = 0; i == 0 || i < left.size(); i += f) {
            Drawer leaf = new Drawer();
            leaf.headings = new ArrayList<>(left.subList(i, Math.min(left.size(), i + f)));
            if (!leaf.headings.isEmpty()) leaf.high = leaf.headings.get(leaf.headings.size() - 1);
            drawers[next] = leaf;
            level.add(next++);
        }
        thread(level);
        while (level.size() > 1) {
            List<Integer> above = new ArrayList<>();
            for (int i = 0; i < level.size(); i += f + 1) {
                Drawer guide = new Drawer();
                guide.level = drawers[level.get(i)].level + 1;
                guide.children = new ArrayList<>(level.subList(i, Math.min(level.size(), i + f + 1)));
                for (int k = 0; k + 1 < guide.children.size(); k++) {
                    guide.headings.add(drawers[guide.children.get(k)].high);
                }
                guide.high = drawers[guide.children.get(guide.children.size() - 1)].high;
                drawers[next] = guide;
                above.add(next++);
            }
            thread(above);
            level = above;
        }
        top = level.get(0);
        return next;
    }

    private void thread(List<Integer> level) {
        for (int i = 0; i + 1 < level.size(); i++) drawers[level.get(i)].thread = level.get(i + 1);
        drawers[level.get(level.size() - 1)].high = NO;
    }

    int count(int what) {
        if (what == 0) return b;
        if (what == 1) return time;
        if (what == 2) return jobs.size();
        if (what == 3) return top;
        if (what == 4) return 256 - spare();
        if (what == 5) return cards().size();
        int n = 0;
        if (what == 6) {
            for (Clerk c : clerks) if (!c.at.equals("IDLE")) n++;
            return n;
        }
        if (what == 7) {
            for (Drawer d : drawers) if (d != null && d.latch != NO) n++;
            return n;
        }
        return what == 8 ? rule.length() / 2 : -1;
    }
}
