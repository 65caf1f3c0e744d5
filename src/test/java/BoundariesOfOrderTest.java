/** The boundary cases of ==== 1 of the terms and of promises 1 to 3, a test for each sentence. */
public final class BoundariesOfOrderTest extends Checks {
    private static final String BLANKS = "                    ";

    public static void main(String[] args) {
        headingsFromAndTo();
        digitsOfShortHeadings();
        partsNoneOrMore();
        blanksAnywhere();
        everyByteAtEveryState();
        lettersAtMostOnce();
        everyRuleOrders();
        alikeByNumber();
        withoutARule();
        firstByteThatCant();
        endsAheadOfTheEnd();
        noFault();
        behindTheEnd();
        ruleJustBeforeJobs();
        bytesOfNumbers();
        bytesBehindDontCount();
        lengthsThatCantBe();
        aheadThatCantBe();
        newRooms();
        finish("BoundariesOfOrderTest");
    }

    // ---- ==== 1

    private static void headingsFromAndTo() {
        sentence("HEADINGS are 0 .. 9999");
        DrawerRoom room = new DrawerRoom(2);
        due("the least and the greatest", room.ahead(0, 9999), 1);
        for (int heading : new int[] {0, 9999}) {
            due("filed", whole(room, 0, FILE, heading), 1);
            due("sought", whole(room, 0, SEEK, heading), 1);
            due("line", room.line(heading), 1);
            due("order", room.order(heading, 1), room.clerk(0, 2));
            due("there", room.there(heading, heading, room.count(1)), 1);
        }
        due("rank of the least", room.rank(0), 0);
        due("rank of the greatest", room.rank(9999), 1);
        int time = room.count(1);
        for (int heading : WRONG_HEADINGS) {
            for (int kind = SEEK; kind <= PULL; kind++) due("begin with " + heading, room.begin(0, kind, heading), NONE);
            due("rank(" + heading + ")", room.rank(heading), NONE);
            due("line(" + heading + ")", room.line(heading), NONE);
            due("order(" + heading + ", 0)", room.order(heading, 0), NONE);
            due("there from " + heading, room.there(heading, 9999, time), NONE);
            due("there to " + heading, room.there(0, heading, time), NONE);
        }
        due("no job of these", room.count(2), 4);
        cards("the two", room, 0, 9999);
    }

    private static void digitsOfShortHeadings() {
        sentence("their DIGITS are a (thousands), b (hundreds), c (tens), d (ones)");
        String[] rules = {"a+;", "b+;", "c+;", "d+;"};
        // Each pair is alike but for one digit, and the other way round by number or not at all.
        int[] less = {999, 1099, 1109, 1110};
        int[] more = {1000, 1100, 1110, 1111};
        for (int i = 0; i < 4; i++) {
            DrawerRoom room = ruled(2, rules[i]);
            due(rules[i] + " less", room.ahead(less[i], more[i]), 1);
            due(rules[i] + " more", room.ahead(more[i], less[i]), 0);
            room = ruled(2, rules[i].replace('+', '-'));
            due(rules[i] + " turned, less", room.ahead(less[i], more[i]), 0);
            due(rules[i] + " turned, more", room.ahead(more[i], less[i]), 1);
        }
        due("7 has no thousands", ruled(2, "a-;").ahead(6, 7), 1);
        due("nor hundreds", ruled(2, "b-;").ahead(6, 7), 1);
        due("nor tens", ruled(2, "c-;").ahead(6, 7), 1);
        due("but ones", ruled(2, "d-;").ahead(6, 7), 0);
        due("9999 and 0 by ones", ruled(2, "d-;").ahead(9999, 0), 1);
    }

    private static void partsNoneOrMore() {
        sentence("A RULE is a text of PARTS, none or more, then ;");
        String[] texts = {";", "c-;", "c-a+;", "c-a+d-;", "c-a+d-b+;"};
        for (int parts = 0; parts < texts.length; parts++) {
            DrawerRoom room = new DrawerRoom(2);
            due("rule " + texts[parts], rule(room, texts[parts]), NONE);
            due("parts of " + texts[parts], room.count(8), parts);
        }
        DrawerRoom room = ruled(2, "a-b-c-d-;");
        due("from four parts", room.ahead(9999, 0), 1);
        due("to none", rule(room, ";"), NONE);
        due("no part is left", room.count(8), 0);
        due("by number again", room.ahead(0, 9999), 1);
    }

    private static void blanksAnywhere() {
        sentence("and blanks (32) anywhere");
        String text = "a+b-;";
        for (int place = 0; place <= text.length(); place++) {
            for (int howMany : new int[] {1, 2, 15}) {
                String blanks = BLANKS.substring(0, howMany);
                DrawerRoom room = new DrawerRoom(2);
                due(howMany + " blanks at " + place, rule(room, text.substring(0, place) + blanks + text.substring(place)), NONE);
                due("its parts", room.count(8), 2);
                due("its first part", room.ahead(1000, 2900), 1);
                due("its second part", room.ahead(1900, 1000), 1);
            }
        }
        for (int sign : new int[] {0, 9, 10, 13, 31, 33, 160, 255}) {
            for (int place = 0; place <= text.length(); place++) {
                String other = text.substring(0, place) + (char) sign + text.substring(place);
                due("no blank: " + sign + " at " + place, rule(new DrawerRoom(2), other), place);
            }
        }
    }

    private static void everyByteAtEveryState() {
        sentence("A PART is a letter a .. d, each at most once, then + or -.");
        for (int sign = 0; sign < 256; sign++) {
            boolean letter = sign >= 'a' && sign <= 'd';
            boolean blank = sign == ' ';
            boolean end = sign == ';';
            int first = end ? NONE : letter || blank ? 1 : 0;
            due("first byte " + sign, rule(new DrawerRoom(2), "" + (char) sign), first);
            int behindLetter = sign == '+' || sign == '-' || blank ? 2 : 1;
            due("behind a letter " + sign, rule(new DrawerRoom(2), "c" + (char) sign), behindLetter);
            int behindPart = end ? NONE : (letter && sign != 'c') || blank ? 3 : 2;
            due("behind a part " + sign, rule(new DrawerRoom(2), "c-" + (char) sign), behindPart);
            int behindFour = end ? NONE : blank ? 9 : 8;
            due("behind four parts " + sign, rule(new DrawerRoom(2), "c-a+d+b-" + (char) sign), behindFour);
            due("behind ; " + sign, rule(new DrawerRoom(2), ";" + (char) sign), blank ? NONE : 1);
        }
    }

    private static void lettersAtMostOnce() {
        sentence("each at most once");
        String letters = "abcd";
        for (char one : letters.toCharArray()) {
            for (char other : letters.toCharArray()) {
                int fault = one == other ? 2 : NONE;
                due("" + one + other, rule(new DrawerRoom(2), one + "+" + other + "-;"), fault);
                due("with blanks " + one + other, rule(new DrawerRoom(2), one + " + " + other + "-;"), fault == NONE ? NONE : 4);
                for (char third : letters.toCharArray()) {
                    if (one == other) continue;
                    boolean again = third == one || third == other;
                    due("" + one + other + third, rule(new DrawerRoom(2), one + "-" + other + "-" + third + "+;"), again ? 4 : NONE);
                }
            }
        }
        // What a faulty text had taken doesn't count for the next one.
        DrawerRoom room = new DrawerRoom(2);
        due("a, then a again", rule(room, "a+a"), 2);
        due("a is free", rule(room, "a-;"), NONE);
        due("one part", room.count(8), 1);
    }

    private static void everyRuleOrders() {
        sentence("by the DIGITS of its PARTS, one PART behind the other, the less first (for -: the greater)");
        everyRule("");
    }

    private static void everyRule(String text) {
        DrawerRoom room = ruled(2, text + ";");
        due("parts of " + text, room.count(8), text.length() / 2);
        for (int i = 0; i < 60; i++) {
            int one = i * 7919 % 10000;
            // Alike in some digits, so that the later parts count.
            int other = i % 3 == 0 ? i * 5347 % 10000 : one / 1000 * 1000 + (one + i * 37) % 1000;
            if (i % 3 == 2) other = other / 10 * 10 + one % 10;
            due(one + " ahead of " + other + " by " + text, room.ahead(one, other), isAhead(text, one, other));
            due(other + " ahead of " + one + " by " + text, room.ahead(other, one), isAhead(text, other, one));
        }
        for (char letter : "abcd".toCharArray()) {
            if (text.indexOf(letter) >= 0) continue;
            everyRule(text + letter + "+");
            everyRule(text + letter + "-");
        }
    }

    private static int isAhead(String text, int one, int other) {
        String x = String.format("%04d", one);
        String y = String.format("%04d", other);
        for (int i = 0; i < text.length(); i += 2) {
            int place = "abcd".indexOf(text.charAt(i));
            int by = x.charAt(place) - y.charAt(place);
            if (by != 0) return (by < 0) == (text.charAt(i + 1) == '+') ? 1 : 0;
        }
        return one < other ? 1 : 0;
    }

    private static void alikeByNumber() {
        sentence("those alike in all of them by number, the less first");
        DrawerRoom room = ruled(2, "d-c-;");
        due("alike in d and c", room.ahead(1234, 1334), 1);
        due("behind", room.ahead(1334, 1234), 0);
        due("itself", room.ahead(1234, 1234), 0);
        for (int heading : new int[] {0, 9999}) due("itself", ruled(2, "a-b-c-d-;").ahead(heading, heading), 0);
    }

    private static void withoutARule() {
        sentence("Without a RULE by number.");
        DrawerRoom room = new DrawerRoom(2);
        int[] some = {0, 1, 9, 10, 99, 100, 999, 1000, 9998, 9999};
        for (int i = 0; i < some.length; i++) {
            for (int k = 0; k < some.length; k++) due(some[i] + ", " + some[k], room.ahead(some[i], some[k]), i < k ? 1 : 0);
        }
    }

    private static void firstByteThatCant() {
        sentence("The FAULT of a text is the place (from 0 on) of the first byte that can't stand there");
        due("the first of two", rule(new DrawerRoom(2), "x+;y"), 0);
        due("blanks count as places", rule(new DrawerRoom(2), "  a  b"), 5);
        due("not the length, though it ends ahead of ;", rule(new DrawerRoom(2), "a+?"), 2);
        due("a sign first", rule(new DrawerRoom(2), "+a;"), 0);
        due("; behind a letter", rule(new DrawerRoom(2), "a+b;"), 3);
        for (int place = 0; place < 20; place++) {
            String text = BLANKS.substring(0, place) + "e" + BLANKS.substring(place + 1);
            due("at " + place, rule(new DrawerRoom(2), text, 20), place);
        }
    }

    private static void endsAheadOfTheEnd() {
        sentence("the length, if it ends ahead of ;");
        for (int n = 0; n <= 20; n++) due(n + " blanks", rule(new DrawerRoom(2), BLANKS, n), n);
        String text = "a + b - c + d -    ;";
        for (int n = 0; n < 20; n++) due(n + " bytes", rule(new DrawerRoom(2), text, n), n);
        due("20 bytes", rule(new DrawerRoom(2), text, 20), NONE);
        due("nothing at all", rule(new DrawerRoom(2), "", 0), 0);
        due("; just behind the end", rule(new DrawerRoom(2), "a+;", 2), 2);
        due("a letter without its sign", rule(new DrawerRoom(2), "a", 1), 1);
    }

    private static void noFault() {
        sentence("NONE without.");
        due("the shortest", rule(new DrawerRoom(2), ";"), NONE);
        due("the longest", rule(new DrawerRoom(2), "a+ b- c+ d-        ;"), NONE);
        due("as long, with blanks behind", rule(new DrawerRoom(2), ";" + BLANKS.substring(1)), NONE);
    }

    private static void behindTheEnd() {
        sentence("(Behind ; just blanks can stand.)");
        for (String text : new String[] {";;", ";a", ";+", ";-", ";\u0000"}) due(text, rule(new DrawerRoom(2), text), 1);
        due("behind blanks", rule(new DrawerRoom(2), "a-;   ;"), 6);
        due("at the last place", rule(new DrawerRoom(2), "a-;                b"), 19);
        DrawerRoom room = new DrawerRoom(2);
        rule(room, "a-;;");
        due("it is no rule then", room.count(8), 0);
    }

    private static void ruleJustBeforeJobs() {
        sentence("A text without one becomes the RULE, if there are no JOBS yet.");
        DrawerRoom room = ruled(2, "d-;");
        due("a begin that is refused", room.begin(0, SEEK, 10000), NONE);
        due("is no job", rule(room, "b-d+;"), NONE);
        due("so this is the rule", room.count(8), 2);
        room.night(2);
        room.fall();
        due("nor is a night or a fall", rule(room, "d-;"), NONE);
        due("so this is the rule", room.count(8), 1);
        room.begin(0, SEEK, 5);
        String[] when = {"under way", "ended", "behind a night", "with another one", "lost"};
        for (int i = 0; i < when.length; i++) {
            if (i == 1) room.step(0, 30);
            if (i == 2) room.night(2);
            if (i == 3) room.begin(1, FILE, 7);
            if (i == 4) room.fall();
            due(when[i] + ": no fault", rule(room, "a+b+;"), NONE);
            due(when[i] + ": no parts", rule(room, ";"), NONE);
            due(when[i] + ": the old rule", room.count(8), 1);
            due(when[i] + ": its order", room.ahead(9, 8), 1);
            due(when[i] + ": a fault", rule(room, "a+x;"), 2);
            due(when[i] + ": n can't be", rule(room, "a+;", 21), -2);
        }
    }

    // ---- promises 1 to 3

    private static void bytesOfNumbers() {
        sentence("The RULE comes of bytes: of each number the highest first, 20 of them");
        for (int place = 0; place < 20; place++) {
            int[] w = {0x20202020, 0x20202020, 0x20202020, 0x20202020, 0x20202020};
            int shift = 24 - 8 * (place % 4);
            w[place / 4] = w[place / 4] & ~(255 << shift) | ';' << shift;
            due("; at " + place, new DrawerRoom(2).rule(20, w[0], w[1], w[2], w[3], w[4]), NONE);
            due("and n there", new DrawerRoom(2).rule(place + 1, w[0], w[1], w[2], w[3], w[4]), NONE);
            due("and n ahead of it", new DrawerRoom(2).rule(place, w[0], w[1], w[2], w[3], w[4]), place);
            w[place / 4] |= 255 << shift;
            due("255 at " + place, new DrawerRoom(2).rule(20, w[0], w[1], w[2], w[3], w[4]), place);
            // ; + 128: a byte has no sign.
            w[place / 4] = 0x20202020 & ~(255 << shift) | (';' | 128) << shift;
            due("187 at " + place, new DrawerRoom(2).rule(20, w[0], w[1], w[2], w[3], w[4]), place);
        }
        DrawerRoom room = new DrawerRoom(2);
        due("a-b+ c-d+;", room.rule(13, 0x612d622b, 0x20202020, 0x632d642b, 0x3b000000, -1), NONE);
        due("four parts", room.count(8), 4);
        due("-1 five times", room.rule(20, -1, -1, -1, -1, -1), 0);
        due("0 five times", room.rule(20, 0, 0, 0, 0, 0), 0);
        due("the least numbers", room.rule(20, LEAST, LEAST, LEAST, LEAST, LEAST), 0);
        due("still four parts", room.count(8), 4);
    }

    private static void bytesBehindDontCount() {
        sentence("those behind the n-th (0 .. 20) don't count");
        for (int n = 0; n <= 20; n++) {
            String text = n == 0 ? ";" : BLANKS.substring(0, n - 1) + ";";
            String rest = "x;a+b-c+d-\u00ff\u0000x;a+b-c+d-";
            due("n = " + n, rule(new DrawerRoom(2), (text + rest).substring(0, 20), n), n == 0 ? 0 : NONE);
        }
        DrawerRoom room = new DrawerRoom(2);
        due("a part behind it", rule(room, "a-;b-c-", 3), NONE);
        due("isn't one", room.count(8), 1);
    }

    private static void lengthsThatCantBe() {
        sentence("or -2, if n can't be");
        DrawerRoom room = ruled(2, "d-;");
        for (int n : new int[] {-1, 21, -20, 22, 24, 255, LEAST, MOST}) {
            due("n = " + n, rule(room, "a+b+;", n), -2);
            due("with a fault, n = " + n, rule(room, "x", n), -2);
            due("the rule is the old one", room.count(8), 1);
            due("and its order", room.ahead(9, 8), 1);
        }
        room.begin(0, SEEK, 5);
        due("with a job", rule(room, "a+;", -1), -2);
    }

    private static void aheadThatCantBe() {
        sentence("Whether a HEADING is ahead of another one in ORDER: 1, 0; NONE if one can't be.");
        for (String text : new String[] {";", "a-b-c-d-;"}) {
            DrawerRoom room = ruled(2, text);
            for (int heading : WRONG_HEADINGS) {
                due("one is " + heading, room.ahead(heading, 9999), NONE);
                due("the other is " + heading, room.ahead(0, heading), NONE);
                due("both are " + heading, room.ahead(heading, heading), NONE);
            }
            for (int heading = 0; heading <= 9999; heading += 1111) due("itself", room.ahead(heading, heading), 0);
        }
    }

    private static void newRooms() {
        sentence("An empty room; B is brought into 2 .. 5.");
        int[] told = {LEAST, -5, -1, 0, 1, 2, 3, 4, 5, 6, 7, 100, MOST};
        int[] kept = {2, 2, 2, 2, 2, 2, 3, 4, 5, 5, 5, 5, 5};
        for (int i = 0; i < told.length; i++) {
            DrawerRoom room = new DrawerRoom(told[i]);
            int[] counts = {kept[i], 0, 0, 0, 1, 0, 0, 0, 0};
            for (int what = 0; what < 9; what++) due("new of " + told[i] + ": count(" + what + ")", room.count(what), counts[what]);
            due("a night below B", room.night(kept[i] - 1), NONE);
            due("a night by B", room.night(kept[i]), 1);
            due("a night by 2 B", room.night(2 * kept[i]), 1);
            due("a night above 2 B", room.night(2 * kept[i] + 1), NONE);
            for (int card = 0; card < 2 * kept[i]; card++) whole(room, 0, FILE, card);
            due("2 B cards: one drawer", room.count(4), 1);
            whole(room, 0, FILE, 9999);
            due("one more: parted", room.count(4), 3);
        }
    }
}
