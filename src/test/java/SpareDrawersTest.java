/**
 * The 60 spare drawers that a filing begins with. Clerks who mind no latch part the same full drawers, leaf
 * and guides, up to four times each: so 115 filings bring 196 drawers into use, in fewer than 512 calls.
 */
public final class SpareDrawersTest extends Checks {
    /** Clerk:heading begins to file it, clerk+n takes n steps. A search found it. */
    private static final String CALLS =
        "0:8000 0+3 0:7900 0+3 0:7200 0+3 0:6500 0+3 0:6400 0+2 1:7899 1+2 2:7898 2+2 3:7899 3+4 3:7799 3+3 0+3 1+3 "
        + "0+1 2+3 1+1 3+1 0:7699 0+3 1:7698 1+3 3:7598 3+3 2+1 3+4 1+3 0+5 1+4 0:9999 0+5 0:9998 0+5 0:9997 0+4 1:9996 "
        + "1+4 2:9997 2+4 3:9997 3+4 1+4 3+4 0+3 1:9996 1+5 1:9995 1+4 0+1 0:9994 0+4 3:9995 3+4 2+3 1+3 0+3 3+3 0+4 3+3 "
        + "1+4 0:9994 0+5 0:9993 0+4 1:9992 1+4 2+1 2:9991 2+4 0+3 2+3 1+6 2+3 0+3 1+2 0+4 2+3 0:9991 0+6 2+1 3+1 0:9990 "
        + "0+5 1:9989 1+5 2:9988 2+5 3:9987 3+5 1+4 0+4 3+3 2+3 0:9986 0+6 0:9985 0+5 1:9984 1+8 0+6 3+3 1+3 2+3 1+3 0+4 "
        + "3+3 2+3 3+2 2+3 1+1 0:9984 0+7 0:9983 0+6 1:9982 1+6 3:9981 3+6 2+1 2:9980 2+6 3+4 1+3 0+4 2+3 0:9979 0+7 "
        + "0:9978 0+6 3:9978 3+9 0+7 2+4 3+3 0:9977 0+7 1+1 0:9976 0+6 1:9975 1+6 2:9976 2+6 1+3 2+3 0+3 1+3 0+3 2+3 0+3 "
        + "1+6 2+3 0+3 2+1 3+1 2:9975 2+7 2:9974 2+6 3:9973 3+6 1+1 1:9972 1+6 0+1 0:9971 0+10 3+4 2+3 1+3 0:9970 0+7 "
        + "0:9969 0+6 3:9969 3+6 0+3 3+3 0+3 3+3 2+3 1+7 1:9968 1+7 2+3 0+3 3+3 0+3 1:9967 1+6 3+3 2+1 2:9967 2+6 0+1 "
        + "0:9966 0+6 3+1 3:9965 3+10 1+4 2+3 0+7 0:9965 0+7 0:9964 0+6 1:9963 1+6 3:9962 3+6 2+1 2:9961 2+9 3+3 0+3 1+3 "
        + "3+3 1+3 3+1 0+3 2+6 0+6 3:9960 3+7 3:9959 3+6 2+3 1+1 1:9958 1+6 0+1 2+1 0:9957 0+6 2:9956 2+6 1+4 0+4 3+3 "
        + "2+3 0:9955 0+7 0:9954 0+6 1:9953 1+9 0+6 2+3 1+3 3+3 1+4 2+4 0+3 3+7 1:9952 1+7 1:9951 1+6 2:9950 2+6 3:9949 "
        + "3+6 0+4 0:9951 0+6 2+4 1+4 3+3 0+3 3+3 1:9949 1+7 1:9948 1+6 3+1 2:9948 2+6 0+1 0:9947 0+6 3:9946 3+6 1+3 3+3 "
        + "2+3 0+3 1+4 0+3 3+3 2+3 3+3 1:9946 1+7 1:9945 1+6 3+1 0+4 0:9944 0+6 3:9943 3+6 2+1 2:9942 2+6 1+4 2+4 3+3 "
        + "0+3 1:9941 1+7 1:9940 1+6 2:9940 2+6 1+3 2+6 1+3 3+3 0+6 1+3 2+3 3+6 2+3 1+3 0+5 0:9939 0+8 0:9938 0+7 1+4 "
        + "1:9937 1+7 3+4 3:9936 3+11 0+3 1+3 3:9935 3+8 1+1 1:9934 1+7 3:9933 3+7 2+4 2:9932 2+10 3+3 1+7 1:9931 1+8 "
        + "3+3 1:9930 1+7 2+3 0+1 0:9929 0+7 3+1 3:9930 3+7 1+3 0+3 3+3 0+3 3+3 1+3 0+4 1+3 3+3 2+1 1+1 0:9929 0+8 3+1 "
        + "0:9928 0+7 1:9928 1+7 2:9927 2+7 3:9926 3+7 2+4 1+4 3+3 0+3 1:9925 1+8 1:9924 1+7 2:9923 2+10 1+3 2+3 3+3 1+3 "
        + "2+3 1+3 3+3 1+3 3+3 1+1 1:9922 1+8 1:9921 1+7 2+4 0+1 0:9920 0+7 2:9921 2+7 3+1 3:9921 3+7 2+3 1+3 0+3 3+3 "
        + "0+3 1+3 3+1 ";

    public static void main(String[] args) {
        sixtyAreEnough();
        fewerAreNot();
        asThoughInUse();
        partWithNoneSpare();
        finish("SpareDrawersTest");
    }

    /** 196 drawers in use, all clerks idle, 115 jobs, 435 calls. */
    private static DrawerRoom crowded() {
        DrawerRoom room = new DrawerRoom(2);
        PlainRoom plain = new PlainRoom(2);
        for (int clerk = 0; clerk < 4; clerk++) due("fault", room.fault(clerk, 2), plain.fault(clerk, 2));
        int calls = 5;
        for (String call : CALLS.trim().split(" ")) {
            int clerk = call.charAt(0) - '0';
            int number = Integer.parseInt(call.substring(2));
            if (call.charAt(1) == ':') due(call, room.begin(clerk, FILE, number), plain.begin(clerk, FILE, number));
            else due(call, room.step(clerk, number), plain.step(clerk, number));
            calls++;
        }
        due("fall", room.fall(), plain.fall());
        due("calls", calls, 435);
        due("jobs", room.count(2), 115);
        due("all idle", room.count(6), 0);
        due("in use", room.count(4), 196);
        due("in use, by the plain room", plain.count(4), 196);
        due("in use: the last one", room.drawer(195, 0), 1);
        due("spare: the first one", room.drawer(196, 0), 0);
        return room;
    }

    private static void sixtyAreEnough() {
        sentence("(A filing begins just if 60 DRAWERS are SPARE: so there are enough.)");
        DrawerRoom room = crowded();
        due("to file with 60 spare", room.begin(0, FILE, 9919), 115);
        due("filed", room.step(0, 30), 8);
        due("as many as before", room.count(4), 196);
        for (int clerk = 1; clerk < 4; clerk++) due("others too", room.begin(clerk, FILE, 9918), 115 + clerk);
        due("all at jobs", room.count(6), 3);
    }

    private static void fewerAreNot() {
        sentence("or (to file) fewer than 60 DRAWERS are SPARE");
        DrawerRoom room = crowded();
        whole(room, 0, FILE, 9919);
        due("the last that may", room.begin(0, FILE, 9918), 116);
        room.step(0, 8);
        due("it parted a leaf", room.count(4), 197);
        String before = Told.all(room);
        for (int clerk = 1; clerk < 4; clerk++) due("to file with 59 spare", room.begin(clerk, FILE, 5), NONE);
        same("nothing changed", Told.all(room), before);
        due("to seek", room.begin(1, SEEK, 5), 117);
        due("to pull", room.begin(2, PULL, 9918), 118);
        due("who began goes on", room.step(0, 30), 3);
        due("and has filed it", room.job(116, 2), 1);
        due("the seek", room.step(1, 30) > 0, true);
        due("the pull", room.step(2, 30) > 0, true);
        due("pulled", room.job(118, 2), 1);
        for (int clerk = 0; clerk < 4; clerk++) due("still 59 spare", room.begin(clerk, FILE, 5), NONE);
        due("a fall frees none", room.fall(), 0);
        due("still 59 spare", room.begin(3, FILE, 5), NONE);
        due("a night does", room.night(2) < 100, true);
        due("to file", room.begin(3, FILE, 5), 119);
        due("the 121st", room.begin(2, SEEK, 5), NONE);
    }

    private static void asThoughInUse() {
        sentence("NONE if .. 120 began, or (to file) fewer than 60 DRAWERS are SPARE.");
        for (int inUse : new int[] {1, 195, 196, 197, 255, 256}) {
            boolean enough = 256 - inUse >= 60;
            DrawerRoom room = new DrawerRoom(2);
            Inside.setInUse(room, inUse);
            due("in use", room.count(4), inUse);
            due("file with " + inUse, room.begin(0, FILE, 5), enough ? 0 : NONE);
            due("jobs", room.count(2), enough ? 1 : 0);
            due("seek with " + inUse, room.begin(1, SEEK, 5), enough ? 1 : 0);
            due("pull with " + inUse, room.begin(2, PULL, 5), enough ? 2 : 1);
        }
    }

    /** It can't come to this, but no call may fail then either. */
    private static void partWithNoneSpare() {
        sentence("so there are enough (and if there were not)");
        DrawerRoom room = tens(2, 4);
        room.begin(0, FILE, 7);
        room.begin(1, FILE, 8);
        Inside.setInUse(room, 256);
        due("steps", room.step(0, 30), 3);
        due("drawers", room.count(4), 256);
        due("steps", room.step(1, 30), 3);
        room.fall();
        due("night", room.night(2) > 0, true);
    }
}
