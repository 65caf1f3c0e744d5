import java.util.TreeSet;

/** All that a room tells without being changed, as one text of a line for each call. */
final class Told {
    private Told() {
    }

    static String all(DrawerRoom room) {
        StringBuilder text = new StringBuilder();
        for (int what = -1; what < 10; what++) line(text, "count(" + what + ")", room.count(what));
        clerksAndJobs(text, room);
        drawers(text, room);
        for (int k = -1; k <= room.count(5); k++) line(text, "nth(" + k + ")", room.nth(k));
        line(text, "shape()", room.shape());
        headings(text, room);
        return text.toString();
    }

    /** With the rows that two clerks may go, which take long. */
    static String allWithRows(DrawerRoom room) {
        StringBuilder text = new StringBuilder(all(room));
        for (int n = 1; n <= 5; n++) {
            for (int k = -1; k < n; k++) line(text, "found(" + n + ", " + k + ")", room.found(n, k));
        }
        return text.toString();
    }

    private static void line(StringBuilder text, String call, int answer) {
        text.append(call).append(" = ").append(answer).append('\n');
    }

    private static void clerksAndJobs(StringBuilder text, DrawerRoom room) {
        for (int clerk = 0; clerk < 4; clerk++) {
            for (int what = 0; what < 5; what++) line(text, "clerk(" + clerk + ", " + what + ")", room.clerk(clerk, what));
        }
        for (int job = 0; job <= room.count(2); job++) {
            for (int what = 0; what < 7; what++) line(text, "job(" + job + ", " + what + ")", room.job(job, what));
        }
    }

    private static void drawers(StringBuilder text, DrawerRoom room) {
        for (int drawer = 0; drawer < 256; drawer++) {
            for (int what = 0; what < 6; what++) line(text, "drawer(" + drawer + ", " + what + ")", room.drawer(drawer, what));
            if (room.drawer(drawer, 0) != 1) continue;
            for (int k = 0; k <= 2 * room.count(0) + 1; k++) {
                line(text, "at(" + drawer + ", " + k + ", false)", room.at(drawer, k, false));
                line(text, "at(" + drawer + ", " + k + ", true)", room.at(drawer, k, true));
            }
        }
    }

    private static void headings(StringBuilder text, DrawerRoom room) {
        TreeSet<Integer> some = new TreeSet<>();
        for (int i = 0; i < 10; i++) some.add(i * 1111);
        for (int job = 0; job < room.count(2); job++) some.add(room.job(job, 1));
        int time = room.count(1);
        for (int heading : some) {
            line(text, "rank(" + heading + ")", room.rank(heading));
            line(text, "line(" + heading + ")", room.line(heading));
            for (int k = 0; k < 9; k++) line(text, "order(" + heading + ", " + k + ")", room.order(heading, k));
            line(text, "there(" + heading + ", " + heading + ", " + time + ")", room.there(heading, heading, time));
            for (int i = 0; i < 10; i++) line(text, "ahead(" + heading + ", " + i * 1111 + ")", room.ahead(heading, i * 1111));
        }
        for (int t = 0; t <= time; t++) line(text, "there(0, 9999, " + t + ")", room.there(0, 9999, t));
    }
}
