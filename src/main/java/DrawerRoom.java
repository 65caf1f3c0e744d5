import java.util.Arrays;

/**
 * A catalogue of cards in drawers that split, with clerks who seek, file and pull one step at a
 * time. README.md says how to use it.
 */
public final class DrawerRoom {
    public static final int NONE = -1;

    private static final int HEADINGS = 10000;
    private static final int DRAWERS = 256;
    private static final int CLERKS = 4;
    private static final int MOST_JOBS = 120;
    private static final int SPARE_TO_FILE = 60;
    private static final int MOST_STEPS = 30;
    private static final int LONGEST_ROW = 8;

    private static final int SEEK = 0;
    private static final int FILE = 1;
    private static final int PULL = 2;

    private static final int IDLE = 0;
    private static final int READING = 1;
    private static final int HOLDING = 2;
    private static final int WRITING = 3;
    private static final int RISING = 4;

    private static final int ASKS_NOT = 1;
    private static final int LATCHES_NOT = 2;

    private final Filing filing;
    private final Drawers drawers;
    private final Clerks clerks;
    private final Jobs jobs;
    private final Steps steps;
    private final Cards cards;
    private final Line lines;
    private final Shape shapes;
    private final Search search;
    private final Builder builder;

    public DrawerRoom(int b) {
        int kept = Math.max(2, Math.min(5, b));
        int clerksFrom = Drawers.cellsFor(kept);
        int jobsFrom = clerksFrom + Clerks.CELLS;
        Cells cells = new Cells(jobsFrom + Jobs.CELLS);
        filing = new Filing();
        drawers = new Drawers(cells, filing, kept);
        clerks = new Clerks(cells, clerksFrom);
        jobs = new Jobs(cells, jobsFrom);
        steps = new Steps(drawers, clerks, jobs);
        cards = new Cards(drawers, filing);
        lines = new Line(jobs);
        shapes = new Shape(drawers, filing);
        search = new Search(cells, clerks, jobs, steps, lines, shapes);
        builder = new Builder(drawers, cards);
    }

    public int rule(int n, int a, int b, int c, int d, int e) {
        if (n < 0 || n > Filing.LONGEST) {
            return -2;
        }
        filing.hear(a, b, c, d, e);
        int fault = filing.faultOf(n);
        if (fault == NONE && jobs.begun() == 0) {
            filing.keepWhatWasRead();
        }
        return fault;
    }

    public int ahead(int one, int other) {
        if (!isHeading(one) || !isHeading(other)) {
            return NONE;
        }
        return filing.isAhead(one, other) ? 1 : 0;
    }

    public boolean fault(int clerk, int fault) {
        if (!isIdleClerk(clerk) || fault < 0 || fault > LATCHES_NOT) {
            return false;
        }
        clerks.set(clerk, Clerks.FAULT, fault);
        return true;
    }

    public int begin(int clerk, int kind, int heading) {
        if (!isIdleClerk(clerk) || kind < SEEK || kind > PULL || !isHeading(heading)) {
            return NONE;
        }
        if (jobs.begun() >= MOST_JOBS) {
            return NONE;
        }
        if (kind == FILE && DRAWERS - drawers.inUse() < SPARE_TO_FILE) {
            return NONE;
        }
        int job = jobs.open(kind, heading);
        clerks.set(clerk, Clerks.JOB, job);
        clerks.set(clerk, Clerks.SOUGHT, heading);
        clerks.startReading(clerk, drawers.top());
        return job;
    }

    public int step(int clerk, int n) {
        if (!isClerk(clerk) || clerks.isIdle(clerk) || n < 1 || n > MOST_STEPS) {
            return NONE;
        }
        int gone = 0;
        while (gone < n && !clerks.isIdle(clerk)) {
            steps.go(clerk);
            gone++;
        }
        return gone;
    }

    public int clerk(int clerk, int what) {
        if (!isClerk(clerk) || what < Clerks.STATE || what > Clerks.RISEN) {
            return NONE;
        }
        return clerks.get(clerk, what);
    }

    public int job(int job, int what) {
        if (job < 0 || job >= jobs.begun() || what < Jobs.KIND || what > Jobs.LOST) {
            return NONE;
        }
        return jobs.get(job, what);
    }

    public int drawer(int drawer, int what) {
        if (drawer < 0 || drawer >= DRAWERS || what < 0 || what > Drawers.LATCH + 1) {
            return NONE;
        }
        boolean used = drawer < drawers.inUse();
        if (what == 0) {
            return used ? 1 : 0;
        }
        return used ? drawers.get(drawer, what - 1) : NONE;
    }

    public int at(int drawer, int k, boolean child) {
        if (drawer < 0 || drawer >= drawers.inUse()) {
            return NONE;
        }
        return child ? drawers.child(drawer, k) : drawers.heading(drawer, k);
    }

    public int nth(int k) {
        return cards.kth(k);
    }

    public int rank(int heading) {
        return isHeading(heading) ? cards.aheadOf(heading) : NONE;
    }

    public int there(int from, int to, int time) {
        if (!isHeading(from) || !isHeading(to) || time < 0 || time > jobs.time()) {
            return NONE;
        }
        int found = 0;
        for (int job = 0; job < jobs.begun(); job++) {
            int heading = jobs.get(job, Jobs.HEADING);
            boolean within = !filing.isAhead(heading, from) && !filing.isAhead(to, heading);
            if (within && jobs.get(job, Jobs.KIND) == FILE && jobs.isLastChange(job, time)) {
                found++;
            }
        }
        return found;
    }

    public int line(int heading) {
        return isHeading(heading) ? lines.judge(heading) : NONE;
    }

    public int order(int heading, int k) {
        if (!isHeading(heading) || lines.judge(heading) != 1) {
            return NONE;
        }
        return lines.kthOfRow(k);
    }

    public int shape() {
        return shapes.leastBad();
    }

    public int found(int n, int k) {
        if (n < 1 || n > LONGEST_ROW || k < NONE || k >= n || clerks.atJobs() != 2) {
            return NONE;
        }
        search.takeTheTwo();
        if (!search.goesWrong(0, n)) {
            return NONE;
        }
        return k == NONE ? 1 : search.kthClerk(k);
    }

    public int fall() {
        int lost = 0;
        for (int clerk = 0; clerk < CLERKS; clerk++) {
            if (!clerks.isIdle(clerk)) {
                jobs.set(clerks.get(clerk, Clerks.JOB), Jobs.LOST, 1);
                clerks.rest(clerk);
                lost++;
            }
        }
        drawers.letAllGo();
        builder.crownTheTop();
        return lost;
    }

    public int night(int f) {
        if (f < drawers.half() || f > 2 * drawers.half() || clerks.atJobs() > 0) {
            return NONE;
        }
        builder.buildAnew(f);
        return drawers.inUse();
    }

    public int count(int what) {
        switch (what) {
            case 0: return drawers.half();
            case 1: return jobs.time();
            case 2: return jobs.begun();
            case 3: return drawers.top();
            case 4: return drawers.inUse();
            case 5: return cards.howMany();
            case 6: return clerks.atJobs();
            case 7: return drawers.latched();
            case 8: return filing.parts();
            default: return NONE;
        }
    }

    private boolean isIdleClerk(int clerk) {
        return isClerk(clerk) && clerks.isIdle(clerk);
    }

    private static boolean isClerk(int clerk) {
        return clerk >= 0 && clerk < CLERKS;
    }

    private static boolean isHeading(int heading) {
        return heading >= 0 && heading < HEADINGS;
    }

    /** The filing rule: how its text is read, and the order that it sets. */
    private static final class Filing {
        static final int LONGEST = 20;
        private static final int LETTERS = 4;

        private static final int WANTS_PART = 0;
        private static final int WANTS_SIGN = 1;
        private static final int IS_CLOSED = 2;

        private final int[] words = new int[LONGEST / 4];
        // A part is the worth of its digit in a heading, below zero for the sign -.
        private final int[] kept = new int[LETTERS];
        private final int[] read = new int[LETTERS];
        private int keptParts = 0;
        private int readParts = 0;

        int parts() {
            return keptParts;
        }

        void hear(int a, int b, int c, int d, int e) {
            words[0] = a;
            words[1] = b;
            words[2] = c;
            words[3] = d;
            words[4] = e;
        }

        /** The place of the first byte that can't stand there; the parts are kept apart till it is known. */
        int faultOf(int length) {
            readParts = 0;
            int state = WANTS_PART;
            for (int place = 0; place < length && place < LONGEST; place++) {
                int sign = byteAt(place);
                if (sign == ' ') {
                    continue;
                }
                if (state == WANTS_PART && sign == ';') {
                    state = IS_CLOSED;
                } else if (state == WANTS_PART && takesLetter(sign)) {
                    state = WANTS_SIGN;
                } else if (state == WANTS_SIGN && takesDirection(sign)) {
                    state = WANTS_PART;
                } else {
                    return place;
                }
            }
            return state == IS_CLOSED ? NONE : length;
        }

        void keepWhatWasRead() {
            System.arraycopy(read, 0, kept, 0, LETTERS);
            keptParts = readParts;
        }

        boolean isAhead(int one, int other) {
            for (int i = 0; i < keptParts && i < LETTERS; i++) {
                boolean rising = kept[i] > 0;
                int worth = rising ? kept[i] : -kept[i];
                int mine = worth == 0 ? 0 : one / worth % 10;
                int its = worth == 0 ? 0 : other / worth % 10;
                if (mine != its) {
                    return rising == (mine < its);
                }
            }
            return one < other;
        }

        private int byteAt(int place) {
            int word = place / 4;
            if (word < 0 || word >= words.length) {
                return 0;
            }
            return (words[word] >>> (24 - 8 * (place % 4))) & 255;
        }

        private boolean takesLetter(int sign) {
            int worth = worthOf(sign);
            if (worth == 0 || readParts < 0 || readParts >= LETTERS) {
                return false;
            }
            for (int i = 0; i < readParts; i++) {
                if (Math.abs(read[i]) == worth) {
                    return false;
                }
            }
            read[readParts] = worth;
            readParts++;
            return true;
        }

        private boolean takesDirection(int sign) {
            if (sign == '-' && readParts > 0 && readParts <= LETTERS) {
                read[readParts - 1] = -read[readParts - 1];
            }
            return sign == '+' || sign == '-';
        }

        /** What a letter's digit is worth in a heading; 0 for what is no letter of a part. */
        private static int worthOf(int sign) {
            switch (sign) {
                case 'a': return 1000;
                case 'b': return 100;
                case 'c': return 10;
                case 'd': return 1;
                default: return 0;
            }
        }
    }

    /** All numbers that a step may change, in one row, so that a trial of steps can be taken back. */
    private static final class Cells {
        // Eight steps write some eighty cells each at the most.
        private static final int LOG = 1024;

        private final int[] now;
        private final int[] places = new int[LOG];
        private final int[] before = new int[LOG];
        private int logged = 0;
        private boolean trying = false;

        Cells(int size) {
            now = new int[Math.max(0, size)];
        }

        int get(int place) {
            return place >= 0 && place < now.length ? now[place] : NONE;
        }

        void put(int place, int value) {
            if (place < 0 || place >= now.length || now[place] == value) {
                return;
            }
            if (trying) {
                if (logged < 0 || logged >= LOG) {
                    return;
                }
                places[logged] = place;
                before[logged] = now[place];
                logged++;
            }
            now[place] = value;
        }

        void fill(int place, int howMany, int value) {
            for (int i = 0; i < howMany; i++) {
                put(place + i, value);
            }
        }

        void copy(int from, int to, int howMany) {
            for (int i = 0; i < howMany; i++) {
                put(to + i, get(from + i));
            }
        }

        int startTrying() {
            trying = true;
            return logged;
        }

        void takeBack(int mark) {
            for (int i = Math.min(logged, LOG) - 1; i >= mark && i >= 0; i--) {
                int place = places[i];
                if (place >= 0 && place < now.length) {
                    now[place] = before[i];
                }
                logged = i;
            }
            trying = logged > 0;
        }
    }

    /**
     * The drawers 0 .. 255 and, in rows of the same form behind them, the clerks' copies. The least
     * spare drawer is always the next one taken and a night frees all at once, so those in use are
     * 0 .. inUse() - 1.
     */
    private static final class Drawers {
        // In the order in which the document asks for them, from 1 on there.
        static final int LEVEL = 0;
        static final int SIZE = 1;
        static final int HIGH = 2;
        static final int THREAD = 3;
        static final int LATCH = 4;
        private static final int FIRST_HEADING = 5;

        private final Cells cells;
        private final Filing filing;
        private final int half;
        private final int width;
        private final int firstChild;
        private final int topCell;
        private final int inUseCell;

        Drawers(Cells cells, Filing filing, int half) {
            this.cells = cells;
            this.filing = filing;
            this.half = half;
            this.width = widthFor(half);
            this.firstChild = FIRST_HEADING + 2 * half + 1;
            this.topCell = (DRAWERS + CLERKS) * width;
            this.inUseCell = topCell + 1;
            clear();
            setTop(open(0));
        }

        static int cellsFor(int half) {
            return (DRAWERS + CLERKS) * widthFor(half) + 2;
        }

        private static int widthFor(int half) {
            return FIRST_HEADING + (2 * half + 1) + (2 * half + 2);
        }

        static int copyOf(int clerk) {
            return DRAWERS + clerk;
        }

        int half() {
            return half;
        }

        int top() {
            return cells.get(topCell);
        }

        void setTop(int drawer) {
            cells.put(topCell, drawer);
        }

        int inUse() {
            return cells.get(inUseCell);
        }

        void clear() {
            cells.put(inUseCell, 0);
        }

        int get(int drawer, int what) {
            return cells.get(drawer * width + what);
        }

        void set(int drawer, int what, int value) {
            cells.put(drawer * width + what, value);
        }

        int heading(int drawer, int k) {
            return k >= 0 && k < get(drawer, SIZE) ? cells.get(drawer * width + FIRST_HEADING + k) : NONE;
        }

        int child(int drawer, int k) {
            boolean has = get(drawer, LEVEL) > 0 && k >= 0 && k <= get(drawer, SIZE);
            return has ? cells.get(drawer * width + firstChild + k) : NONE;
        }

        /** The least spare drawer comes into use, without anything in it; NONE if there is none. */
        int open(int level) {
            int fresh = inUse();
            if (fresh >= DRAWERS) {
                return NONE;
            }
            cells.put(inUseCell, fresh + 1);
            set(fresh, LEVEL, level);
            set(fresh, SIZE, 0);
            set(fresh, HIGH, NONE);
            set(fresh, THREAD, NONE);
            set(fresh, LATCH, NONE);
            return fresh;
        }

        void addHeading(int drawer, int heading) {
            int size = get(drawer, SIZE);
            if (size >= 0 && size <= 2 * half) {
                cells.put(drawer * width + FIRST_HEADING + size, heading);
                set(drawer, SIZE, size + 1);
            }
        }

        void setChild(int drawer, int k, int child) {
            if (k >= 0 && k <= 2 * half + 1) {
                cells.put(drawer * width + firstChild + k, child);
            }
        }

        boolean covers(int drawer, int heading) {
            int high = get(drawer, HIGH);
            return high == NONE || !filing.isAhead(high, heading);
        }

        /** How many headings stand ahead of the first one that isn't ahead of this one. */
        int wayOf(int drawer, int heading) {
            int size = get(drawer, SIZE);
            int first = drawer * width + FIRST_HEADING;
            for (int i = 0; i < size; i++) {
                if (!filing.isAhead(cells.get(first + i), heading)) {
                    return i;
                }
            }
            return size;
        }

        /** A guide out of order may hold a heading off its way, so all of them are looked at. */
        int placeOf(int drawer, int heading) {
            int size = get(drawer, SIZE);
            int first = drawer * width + FIRST_HEADING;
            for (int i = 0; i < size; i++) {
                if (cells.get(first + i) == heading) {
                    return i;
                }
            }
            return NONE;
        }

        /** All of a drawer but its latch, which nobody copies. */
        void bring(int from, int to) {
            int here = from * width;
            int there = to * width;
            int size = get(from, SIZE);
            cells.copy(here + LEVEL, there + LEVEL, THREAD - LEVEL + 1);
            cells.copy(here + FIRST_HEADING, there + FIRST_HEADING, size);
            if (get(from, LEVEL) > 0) {
                cells.copy(here + firstChild, there + firstChild, size + 1);
            }
        }

        void insert(int drawer, int place, int heading, int child) {
            int size = get(drawer, SIZE);
            if (place < 0 || place > size || size > 2 * half) {
                return;
            }
            int first = drawer * width + FIRST_HEADING;
            for (int i = size; i > place; i--) {
                cells.put(first + i, cells.get(first + i - 1));
            }
            cells.put(first + place, heading);
            set(drawer, SIZE, size + 1);
            if (get(drawer, LEVEL) > 0) {
                int kids = drawer * width + firstChild;
                for (int i = size + 1; i > place + 1; i--) {
                    cells.put(kids + i, cells.get(kids + i - 1));
                }
                cells.put(kids + place + 1, child);
            }
        }

        void remove(int drawer, int place) {
            int size = get(drawer, SIZE);
            if (place < 0 || place >= size) {
                return;
            }
            int first = drawer * width + FIRST_HEADING;
            cells.copy(first + place + 1, first + place, size - place - 1);
            set(drawer, SIZE, size - 1);
        }

        /** Parts a drawer with one heading too many: the new drawer, NONE if none is spare. */
        int part(int drawer) {
            int level = get(drawer, LEVEL);
            int size = get(drawer, SIZE);
            int fresh = open(level);
            if (fresh == NONE) {
                return NONE;
            }
            int here = drawer * width;
            int there = fresh * width;
            int gone = half + 1;
            cells.copy(here + HIGH, there + HIGH, 2);
            cells.copy(here + FIRST_HEADING + gone, there + FIRST_HEADING, size - gone);
            if (level > 0) {
                cells.copy(here + firstChild + gone, there + firstChild, size + 1 - gone);
            }
            set(fresh, SIZE, size - gone);
            set(drawer, HIGH, cells.get(here + FIRST_HEADING + half));
            set(drawer, SIZE, level > 0 ? half : gone);
            set(drawer, THREAD, fresh);
            return fresh;
        }

        /** A new top above a drawer and the one that was parted from it. */
        void raise(int drawer, int heading, int risen) {
            int fresh = open(get(drawer, LEVEL) + 1);
            if (fresh == NONE) {
                return;
            }
            addHeading(fresh, heading);
            setChild(fresh, 0, drawer);
            setChild(fresh, 1, risen);
            setTop(fresh);
        }

        /** The first drawer of a level; NONE if the top is below it. */
        int firstOf(int level) {
            int drawer = top();
            for (int i = 0; i < DRAWERS && get(drawer, LEVEL) > level; i++) {
                drawer = child(drawer, 0);
            }
            return get(drawer, LEVEL) == level ? drawer : NONE;
        }

        int latched() {
            int found = 0;
            for (int drawer = 0; drawer < inUse(); drawer++) {
                if (get(drawer, LATCH) != NONE) {
                    found++;
                }
            }
            return found;
        }

        void letAllGo() {
            for (int drawer = 0; drawer < inUse(); drawer++) {
                set(drawer, LATCH, NONE);
            }
        }
    }

    /** What each clerk is at, his fault, and the guides he came by. */
    private static final class Clerks {
        // The first five places are those by which the document asks for them.
        static final int STATE = 0;
        static final int PLACE = 1;
        static final int JOB = 2;
        static final int SOUGHT = 3;
        static final int RISEN = 4;
        static final int FAULT = 5;
        private static final int PATH = 6;
        // A level comes up only as a job parts the top, so there are no more levels than jobs.
        private static final int LEVELS = MOST_JOBS + 2;
        private static final int WIDTH = PATH + LEVELS;
        static final int CELLS = CLERKS * WIDTH;

        private final Cells cells;
        private final int from;

        Clerks(Cells cells, int from) {
            this.cells = cells;
            this.from = from;
            for (int clerk = 0; clerk < CLERKS; clerk++) {
                set(clerk, JOB, NONE);
                rest(clerk);
            }
        }

        int get(int clerk, int what) {
            return cells.get(from + clerk * WIDTH + what);
        }

        void set(int clerk, int what, int value) {
            cells.put(from + clerk * WIDTH + what, value);
        }

        boolean isIdle(int clerk) {
            return get(clerk, STATE) == IDLE;
        }

        int atJobs() {
            int found = 0;
            for (int clerk = 0; clerk < CLERKS; clerk++) {
                if (!isIdle(clerk)) {
                    found++;
                }
            }
            return found;
        }

        void startReading(int clerk, int top) {
            cells.fill(from + clerk * WIDTH + PATH, LEVELS, NONE);
            set(clerk, STATE, READING);
            set(clerk, PLACE, top);
        }

        void rest(int clerk) {
            set(clerk, STATE, IDLE);
            set(clerk, PLACE, NONE);
            set(clerk, SOUGHT, NONE);
            set(clerk, RISEN, NONE);
        }

        int path(int clerk, int level) {
            return level >= 0 && level < LEVELS ? get(clerk, PATH + level) : NONE;
        }

        void keepPath(int clerk, int level, int drawer) {
            if (level >= 0 && level < LEVELS) {
                set(clerk, PATH + level, drawer);
            }
        }
    }

    /** The jobs by their numbers, and the time. */
    private static final class Jobs {
        // The first seven places are those by which the document asks for them.
        static final int KIND = 0;
        static final int HEADING = 1;
        static final int ANSWER = 2;
        static final int BEGAN = 3;
        static final int ENDED = 4;
        static final int STEPS = 5;
        static final int LOST = 6;
        private static final int CHANGED = 7;
        private static final int WIDTH = 8;
        static final int CELLS = MOST_JOBS * WIDTH + 2;

        private final Cells cells;
        private final int from;
        private final int timeCell;
        private final int begunCell;

        Jobs(Cells cells, int from) {
            this.cells = cells;
            this.from = from;
            this.timeCell = from + MOST_JOBS * WIDTH;
            this.begunCell = timeCell + 1;
        }

        int get(int job, int what) {
            return cells.get(from + job * WIDTH + what);
        }

        void set(int job, int what, int value) {
            cells.put(from + job * WIDTH + what, value);
        }

        int time() {
            return cells.get(timeCell);
        }

        int begun() {
            return cells.get(begunCell);
        }

        int open(int kind, int heading) {
            int job = begun();
            cells.put(begunCell, job + 1);
            set(job, KIND, kind);
            set(job, HEADING, heading);
            set(job, ANSWER, NONE);
            set(job, BEGAN, time());
            set(job, ENDED, NONE);
            set(job, STEPS, 0);
            set(job, LOST, 0);
            set(job, CHANGED, NONE);
            return job;
        }

        void passStep(int job) {
            cells.put(timeCell, time() + 1);
            set(job, STEPS, get(job, STEPS) + 1);
        }

        /** The answer waits for the end of the job, but what was there at a time doesn't. */
        void changeCards(int job) {
            set(job, CHANGED, time());
        }

        void end(int job, int answer) {
            set(job, ANSWER, answer);
            set(job, ENDED, time());
        }

        /** Whether no other job changed the same heading behind this one, up to a time. */
        boolean isLastChange(int job, int time) {
            int mine = get(job, CHANGED);
            if (mine == NONE || mine > time) {
                return false;
            }
            for (int other = 0; other < begun(); other++) {
                int its = get(other, CHANGED);
                if (get(other, HEADING) == get(job, HEADING) && its > mine && its <= time) {
                    return false;
                }
            }
            return true;
        }
    }

    /** What a clerk does in one step. */
    private static final class Steps {
        private final Drawers drawers;
        private final Clerks clerks;
        private final Jobs jobs;

        Steps(Drawers drawers, Clerks clerks, Jobs jobs) {
            this.drawers = drawers;
            this.clerks = clerks;
            this.jobs = jobs;
        }

        void go(int clerk) {
            jobs.passStep(clerks.get(clerk, Clerks.JOB));
            switch (clerks.get(clerk, Clerks.STATE)) {
                case READING:
                    read(clerk);
                    break;
                case HOLDING:
                    hold(clerk);
                    break;
                case WRITING:
                    write(clerk);
                    break;
                case RISING:
                    climb(clerk);
                    break;
                default:
                    break;
            }
        }

        private void read(int clerk) {
            int drawer = clerks.get(clerk, Clerks.PLACE);
            int heading = clerks.get(clerk, Clerks.SOUGHT);
            int level = drawers.get(drawer, Drawers.LEVEL);
            if (mustGoOn(clerk, drawer, heading)) {
                clerks.set(clerk, Clerks.PLACE, drawers.get(drawer, Drawers.THREAD));
            } else if (level > 0) {
                clerks.keepPath(clerk, level, drawer);
                clerks.set(clerk, Clerks.PLACE, drawers.child(drawer, drawers.wayOf(drawer, heading)));
            } else if (kindOf(clerk) == SEEK) {
                end(clerk, drawers.placeOf(drawer, heading) == NONE ? 0 : 1);
            } else if (isFree(clerk, drawer)) {
                latch(clerk, drawer);
            }
        }

        private void hold(int clerk) {
            int drawer = clerks.get(clerk, Clerks.PLACE);
            if (!mustGoOn(clerk, drawer, clerks.get(clerk, Clerks.SOUGHT))) {
                drawers.bring(drawer, Drawers.copyOf(clerk));
                clerks.set(clerk, Clerks.STATE, WRITING);
                return;
            }
            moveTo(clerk, drawers.get(drawer, Drawers.THREAD));
        }

        private void write(int clerk) {
            int drawer = clerks.get(clerk, Clerks.PLACE);
            if (drawers.get(drawer, Drawers.LEVEL) > 0) {
                writeGuide(clerk, drawer);
            } else if (!writeCard(clerk, drawer)) {
                letGo(clerk, drawer);
                end(clerk, 0);
                return;
            }
            int risen = NONE;
            if (drawers.get(drawer, Drawers.SIZE) > 2 * drawers.half()) {
                risen = drawers.part(drawer);
            }
            if (risen == NONE) {
                letGo(clerk, drawer);
                end(clerk, 1);
                return;
            }
            clerks.set(clerk, Clerks.SOUGHT, drawers.get(drawer, Drawers.HIGH));
            clerks.set(clerk, Clerks.RISEN, risen);
            clerks.set(clerk, Clerks.STATE, RISING);
        }

        private void writeGuide(int clerk, int drawer) {
            int heading = clerks.get(clerk, Clerks.SOUGHT);
            int risen = clerks.get(clerk, Clerks.RISEN);
            drawers.bring(Drawers.copyOf(clerk), drawer);
            int place = drawers.placeOf(drawer, heading);
            if (place == NONE) {
                drawers.insert(drawer, drawers.wayOf(drawer, heading), heading, risen);
            } else {
                drawers.setChild(drawer, place + 1, risen);
            }
        }

        /** Whether the copy let him file or pull the card. */
        private boolean writeCard(int clerk, int drawer) {
            int heading = clerks.get(clerk, Clerks.SOUGHT);
            boolean files = kindOf(clerk) == FILE;
            int place = drawers.placeOf(Drawers.copyOf(clerk), heading);
            if (files != (place == NONE)) {
                return false;
            }
            drawers.bring(Drawers.copyOf(clerk), drawer);
            if (files) {
                drawers.insert(drawer, drawers.wayOf(drawer, heading), heading, NONE);
            } else {
                drawers.remove(drawer, place);
            }
            jobs.changeCards(clerks.get(clerk, Clerks.JOB));
            return true;
        }

        private void climb(int clerk) {
            int drawer = clerks.get(clerk, Clerks.PLACE);
            if (drawer == drawers.top()) {
                drawers.raise(drawer, clerks.get(clerk, Clerks.SOUGHT), clerks.get(clerk, Clerks.RISEN));
                letGo(clerk, drawer);
                end(clerk, 1);
                return;
            }
            int above = drawers.get(drawer, Drawers.LEVEL) + 1;
            int guide = clerks.path(clerk, above);
            moveTo(clerk, guide == NONE ? drawers.firstOf(above) : guide);
        }

        /** He holds another drawer than now, if there is one that no other clerk latched. */
        private void moveTo(int clerk, int next) {
            if (next == NONE || !isFree(clerk, next)) {
                return;
            }
            letGo(clerk, clerks.get(clerk, Clerks.PLACE));
            latch(clerk, next);
        }

        private boolean mustGoOn(int clerk, int drawer, int heading) {
            return clerks.get(clerk, Clerks.FAULT) != ASKS_NOT && !drawers.covers(drawer, heading);
        }

        private boolean isFree(int clerk, int drawer) {
            int latch = drawers.get(drawer, Drawers.LATCH);
            return latch == NONE || latch == clerk || clerks.get(clerk, Clerks.FAULT) == LATCHES_NOT;
        }

        private void latch(int clerk, int drawer) {
            if (clerks.get(clerk, Clerks.FAULT) != LATCHES_NOT) {
                drawers.set(drawer, Drawers.LATCH, clerk);
            }
            clerks.set(clerk, Clerks.PLACE, drawer);
            clerks.set(clerk, Clerks.STATE, HOLDING);
        }

        private void letGo(int clerk, int drawer) {
            if (clerks.get(clerk, Clerks.FAULT) != LATCHES_NOT) {
                drawers.set(drawer, Drawers.LATCH, NONE);
            }
        }

        private void end(int clerk, int answer) {
            jobs.end(clerks.get(clerk, Clerks.JOB), answer);
            clerks.rest(clerk);
        }

        private int kindOf(int clerk) {
            return jobs.get(clerks.get(clerk, Clerks.JOB), Jobs.KIND);
        }
    }

    /** The cards, along the threads of the leaves. */
    private static final class Cards {
        private final Drawers drawers;
        private final Filing filing;
        // Each heading on a card was filed by a job of its own.
        private final int[] sorted = new int[MOST_JOBS];
        private int sortedCount = 0;

        Cards(Drawers drawers, Filing filing) {
            this.drawers = drawers;
            this.filing = filing;
        }

        int howMany() {
            int found = 0;
            int leaf = drawers.firstOf(0);
            for (int i = 0; i < DRAWERS && leaf != NONE; i++) {
                found += drawers.get(leaf, Drawers.SIZE);
                leaf = drawers.get(leaf, Drawers.THREAD);
            }
            return found;
        }

        int kth(int k) {
            int left = k;
            int leaf = drawers.firstOf(0);
            for (int i = 0; i < DRAWERS && leaf != NONE && left >= 0; i++) {
                int size = drawers.get(leaf, Drawers.SIZE);
                if (left < size) {
                    return drawers.heading(leaf, left);
                }
                left -= size;
                leaf = drawers.get(leaf, Drawers.THREAD);
            }
            return NONE;
        }

        /** Broken leaves may hold cards out of order, so all of them are asked. */
        int aheadOf(int heading) {
            int found = 0;
            int leaf = drawers.firstOf(0);
            for (int i = 0; i < DRAWERS && leaf != NONE; i++) {
                int size = drawers.get(leaf, Drawers.SIZE);
                for (int k = 0; k < size; k++) {
                    if (filing.isAhead(drawers.heading(leaf, k), heading)) {
                        found++;
                    }
                }
                leaf = drawers.get(leaf, Drawers.THREAD);
            }
            return found;
        }

        /** Each heading once and in order: how many there are. */
        int sort() {
            sortedCount = 0;
            int leaf = drawers.firstOf(0);
            for (int i = 0; i < DRAWERS && leaf != NONE; i++) {
                int size = drawers.get(leaf, Drawers.SIZE);
                for (int k = 0; k < size; k++) {
                    sortIn(drawers.heading(leaf, k));
                }
                leaf = drawers.get(leaf, Drawers.THREAD);
            }
            return sortedCount;
        }

        int kthSorted(int k) {
            return k >= 0 && k < sortedCount && k < sorted.length ? sorted[k] : NONE;
        }

        private void sortIn(int heading) {
            if (sortedCount < 0 || sortedCount >= sorted.length) {
                return;
            }
            int place = sortedCount;
            while (place > 0 && filing.isAhead(heading, sorted[place - 1])) {
                place--;
            }
            if (place > 0 && sorted[place - 1] == heading) {
                return;
            }
            for (int i = sortedCount; i > place; i--) {
                sorted[i] = sorted[i - 1];
            }
            sorted[place] = heading;
            sortedCount++;
        }
    }

    /** Whether the answers of a heading's jobs are those of some order one by one. */
    private static final class Line {
        private static final int MOST = 9;
        private static final int SETS = 1 << MOST;

        private final Jobs jobs;
        private final int[] mine = new int[MOST];
        private final int[] kinds = new int[MOST];
        private final int[] answers = new int[MOST];
        private final int[] began = new int[MOST];
        private final int[] ended = new int[MOST];
        private final int[] row = new int[MOST];
        // A bit for each set of jobs behind which no row goes on, so that no set is tried twice.
        private final int[] dead = new int[SETS / 32];
        private int found = 0;

        Line(Jobs jobs) {
            this.jobs = jobs;
        }

        int judge(int heading) {
            if (!canBeAsked(heading)) {
                return NONE;
            }
            Arrays.fill(dead, 0);
            return goesOn(0, 0, false) ? 1 : 0;
        }

        int kthOfRow(int k) {
            return k >= 0 && k < found && k < MOST ? row[k] : NONE;
        }

        /** Takes the heading's jobs, by their numbers; a job without an end is under way or lost. */
        private boolean canBeAsked(int heading) {
            found = 0;
            for (int job = 0; job < jobs.begun(); job++) {
                if (jobs.get(job, Jobs.HEADING) != heading) {
                    continue;
                }
                if (jobs.get(job, Jobs.ENDED) == NONE || found < 0 || found >= MOST) {
                    return false;
                }
                mine[found] = job;
                kinds[found] = jobs.get(job, Jobs.KIND);
                answers[found] = jobs.get(job, Jobs.ANSWER);
                began[found] = jobs.get(job, Jobs.BEGAN);
                ended[found] = jobs.get(job, Jobs.ENDED);
                found++;
            }
            return true;
        }

        /** Whether the jobs outside the set can follow it; the set alone says if the card is there. */
        private boolean goesOn(int length, int set, boolean there) {
            if (length >= found || length >= MOST) {
                return true;
            }
            if (length < 0 || set < 0 || set >= SETS || (dead[set >> 5] & (1 << (set & 31))) != 0) {
                return false;
            }
            for (int i = 0; i < found && i < MOST; i++) {
                boolean waits = (set & (1 << i)) == 0;
                if (waits && nothingComesFirst(i, set) && isRight(i, there)) {
                    row[length] = mine[i];
                    boolean changed = answers[i] == 1 && kinds[i] != SEEK;
                    if (goesOn(length + 1, set | (1 << i), changed != there)) {
                        return true;
                    }
                }
            }
            dead[set >> 5] |= 1 << (set & 31);
            return false;
        }

        private boolean nothingComesFirst(int i, int set) {
            for (int other = 0; other < found && other < MOST; other++) {
                if ((set & (1 << other)) == 0 && ended[other] <= began[i]) {
                    return false;
                }
            }
            return true;
        }

        /** To seek and to pull go well if the card is there, to file if it isn't. */
        private boolean isRight(int i, boolean there) {
            boolean wentWell = answers[i] == 1;
            return wentWell == (there != (kinds[i] == FILE));
        }
    }

    /** Which drawers are bad. */
    private static final class Shape {
        private final Drawers drawers;
        private final Filing filing;

        Shape(Drawers drawers, Filing filing) {
            this.drawers = drawers;
            this.filing = filing;
        }

        int leastBad() {
            for (int drawer = 0; drawer < drawers.inUse(); drawer++) {
                boolean guide = drawers.get(drawer, Drawers.LEVEL) > 0;
                if (hasBadHeadings(drawer) || (guide && hasBadChildren(drawer))) {
                    return drawer;
                }
            }
            return NONE;
        }

        /** Of headings in order the last one is the first that would not be covered. */
        private boolean hasBadHeadings(int drawer) {
            int size = drawers.get(drawer, Drawers.SIZE);
            int last = drawers.heading(drawer, 0);
            for (int k = 1; k < size; k++) {
                int heading = drawers.heading(drawer, k);
                if (!filing.isAhead(last, heading)) {
                    return true;
                }
                last = heading;
            }
            return size > 2 * drawers.half() || (size > 0 && !drawers.covers(drawer, last));
        }

        private boolean hasBadChildren(int drawer) {
            int size = drawers.get(drawer, Drawers.SIZE);
            int below = drawers.get(drawer, Drawers.LEVEL) - 1;
            for (int k = 0; k <= size; k++) {
                int child = drawers.child(drawer, k);
                boolean spare = child < 0 || child >= drawers.inUse();
                if (spare || drawers.get(child, Drawers.LEVEL) != below) {
                    return true;
                }
                int high = drawers.get(child, Drawers.HIGH);
                if (k < size && (high == NONE || filing.isAhead(drawers.heading(drawer, k), high))) {
                    return true;
                }
            }
            return false;
        }
    }

    /** Tries rows of steps of two clerks for one that shows what they break. */
    private static final class Search {
        private final Cells cells;
        private final Clerks clerks;
        private final Jobs jobs;
        private final Steps steps;
        private final Line lines;
        private final Shape shapes;
        private final int[] row = new int[LONGEST_ROW];
        private int lower = NONE;
        private int upper = NONE;

        Search(Cells cells, Clerks clerks, Jobs jobs, Steps steps, Line lines, Shape shapes) {
            this.cells = cells;
            this.clerks = clerks;
            this.jobs = jobs;
            this.steps = steps;
            this.lines = lines;
            this.shapes = shapes;
        }

        void takeTheTwo() {
            lower = NONE;
            upper = NONE;
            for (int clerk = 0; clerk < CLERKS; clerk++) {
                if (!clerks.isIdle(clerk)) {
                    lower = lower == NONE ? clerk : lower;
                    upper = clerk;
                }
            }
        }

        int kthClerk(int k) {
            return k >= 0 && k < LONGEST_ROW ? row[k] : NONE;
        }

        /** Whether a row that begins with these steps shows it; the row is kept, its steps taken back. */
        private boolean goesWrong(int length, int n) {
            if (length < 0 || length >= n || length >= LONGEST_ROW) {
                return isWrongNow();
            }
            if (clerks.isIdle(lower) && clerks.isIdle(upper)) {
                row[length] = NONE;
                return goesWrong(length + 1, n);
            }
            boolean wrong = false;
            for (int i = 0; i < 2 && !wrong; i++) {
                int clerk = i == 0 ? lower : upper;
                if (!clerks.isIdle(clerk)) {
                    row[length] = clerk;
                    int mark = cells.startTrying();
                    steps.go(clerk);
                    wrong = goesWrong(length + 1, n);
                    cells.takeBack(mark);
                }
            }
            return wrong;
        }

        /** A clerk at rest keeps his latest job, so it is the one he had as the search began. */
        private boolean isWrongNow() {
            int one = jobs.get(clerks.get(lower, Clerks.JOB), Jobs.HEADING);
            int other = jobs.get(clerks.get(upper, Clerks.JOB), Jobs.HEADING);
            return shapes.leastBad() != NONE || lines.judge(one) == 0 || lines.judge(other) == 0;
        }
    }

    /** What is built without clerks: the top behind a fall, and all of it on a night. */
    private static final class Builder {
        private final Drawers drawers;
        private final Cards cards;

        Builder(Drawers drawers, Cards cards) {
            this.drawers = drawers;
            this.cards = cards;
        }

        void crownTheTop() {
            int child = drawers.top();
            if (drawers.get(child, Drawers.THREAD) == NONE) {
                return;
            }
            int guide = drawers.open(drawers.get(child, Drawers.LEVEL) + 1);
            if (guide == NONE) {
                return;
            }
            int most = 2 * drawers.half() + 1;
            int last = NONE;
            for (int k = 0; k < most && child != NONE; k++) {
                if (k > 0) {
                    drawers.addHeading(guide, drawers.get(last, Drawers.HIGH));
                }
                drawers.setChild(guide, k, child);
                last = child;
                child = drawers.get(child, Drawers.THREAD);
            }
            drawers.setTop(guide);
        }

        void buildAnew(int f) {
            int left = cards.sort();
            drawers.clear();
            int from = 0;
            int to = buildLeaves(left, f);
            for (int level = 1; level < DRAWERS && to - from > 1; level++) {
                int next = buildGuides(level, from, to, f);
                from = to;
                to = next;
            }
            drawers.setTop(from);
        }

        /** The leaves that the cards fill: the number behind the last one. */
        private int buildLeaves(int howMany, int f) {
            int done = 0;
            for (int i = 0; i < DRAWERS && (i == 0 || done < howMany); i++) {
                int leaf = drawers.open(0);
                for (int k = 0; k < f && done < howMany; k++) {
                    drawers.addHeading(leaf, cards.kthSorted(done));
                    done++;
                }
                if (done < howMany) {
                    drawers.set(leaf, Drawers.HIGH, cards.kthSorted(done - 1));
                    drawers.set(leaf, Drawers.THREAD, leaf + 1);
                }
            }
            return drawers.inUse();
        }

        /** The guides above the drawers from .. to - 1: the number behind the last one. */
        private int buildGuides(int level, int from, int to, int f) {
            int child = from;
            for (int i = 0; i < DRAWERS && child < to; i++) {
                int guide = drawers.open(level);
                for (int k = 0; k <= f && child < to; k++) {
                    if (k > 0) {
                        drawers.addHeading(guide, drawers.get(child - 1, Drawers.HIGH));
                    }
                    drawers.setChild(guide, k, child);
                    child++;
                }
                if (child < to) {
                    drawers.set(guide, Drawers.HIGH, drawers.get(child - 1, Drawers.HIGH));
                    drawers.set(guide, Drawers.THREAD, guide + 1);
                }
            }
            return drawers.inUse();
        }
    }
}
