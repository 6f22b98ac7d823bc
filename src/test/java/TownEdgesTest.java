/** The boundary cases of promises 1 to 7, sentence by sentence. */
public final class TownEdgesTest {
    private static final Due DUE = new Due();
    private static final Edges EDGES = new Edges(DUE);

    public static void main(String[] args) {
        newObjectHasOneCorner();
        newObjectTakes512Calls();
        writeTakesOneToEight();
        writeTakesEveryLong();
        writeTakesTheLowestHighestFirst();
        textIsSixtyFourAtMost();
        writeRefusesOutsideAheadOfFull();
        wipeOfNothingAndOfAll();
        faultOfEmptyText();
        faultOfCorners();
        faultOfShares();
        faultOfWants();
        faultOfGoingOn();
        faultOfPrices();
        faultAtMostOnce();
        faultIfOnlyNotAtItsEnd();
        faultSetsLengthAside();
        faultAtTheLastByte();
        faultNeedsNoTown();
        townRefusesAFault();
        townOfAllParts();
        townLosesWhatWas();
        wantsRefuses();
        wantsOfLeastAndMost();
        aboutRefuses();
        aboutOfLeastAndMost();
        aboutOfCornersThatAreNot();
        DUE.end();
    }

    private static void newObjectHasOneCorner() {
        UnsoldAtEleven x = new UnsoldAtEleven();
        DUE.of("1 corner 0", x.wants(0, 2, 1), 5);
        DUE.of("1 no corner 1", x.wants(1, 0, 0), -1);
        DUE.of("1 nothing given out", x.count(3), 0);
        DUE.of("1 nothing given out", x.morning(0, 0, 0), 0);
        DUE.of("1 one each half hour goes home", x.ended(3), 6);
        DUE.of("1 the van has none", x.van(60, 0, 0), 0);
        DUE.of("1 habit 5", x.habit(0), 5);
        DUE.of("1 the text is empty", x.wipe(), 0);
        String unlike = Asked.unlike(Asked.of(new UnsoldAtEleven()), Asked.of(Due.townOf("N1")));
        // But for the text it is as if N1 had been told.
        DUE.of("1 as N1: " + unlike, unlike.startsWith("fault") ? 0 : 1, 0);
        UnsoldAtEleven told = Due.townOf("N1");
        told.wipe();
        unlike = Asked.unlike(Asked.of(new UnsoldAtEleven()), Asked.of(told));
        DUE.of("1 as N1 wiped: " + unlike, unlike == null ? 0 : 1, 0);
    }

    private static void newObjectTakes512Calls() {
        UnsoldAtEleven x = new UnsoldAtEleven();
        // Below 3 nobody comes, so nobody finds none: from there the habit goes up and down.
        for (int call = 1; call <= 510; call++) {
            DUE.of("1 call " + call, x.days(30), 0);
        }
        DUE.of("1 call 511", x.habit(0), 3);
        DUE.of("1 call 512", x.fault(), 0);
    }

    private static void writeTakesOneToEight() {
        EDGES.range("2 write", UnsoldAtEleven::new, 1, 8, -2, (x, n) -> x.write(n, 'N'));
        for (int n = 1; n <= 8; n++) {
            int bytes = n;
            EDGES.taken("2 write " + n, UnsoldAtEleven::new, x -> x.write(bytes, 'N'), n);
        }
    }

    private static void writeTakesEveryLong() {
        for (long v : new long[] {Long.MIN_VALUE, Long.MAX_VALUE, -1, 0, 1, Integer.MIN_VALUE, Integer.MAX_VALUE}) {
            UnsoldAtEleven x = new UnsoldAtEleven();
            for (int length = 8; length <= 64; length += 8) {
                DUE.of("2 write " + v, x.write(8, v), length);
            }
            DUE.of("2 it can be no town", x.fault(), 0);
            DUE.of("2 64 more are refused", x.write(8, v), -4);
        }
        // The least and the greatest long that tell a town of eight bytes, by their last sign.
        DUE.of("2 N1 above", faultOfLong(8, 0x4E31_4B30_314B_3132L), -9);
        DUE.of("2 the highest byte is 128 and more", faultOfLong(8, 0xCE31_4B30_314B_3132L), 0);
        DUE.of("2 the lowest byte is 128 and more", faultOfLong(8, 0x4E31_4B30_314B_31B2L), 7);
        DUE.of("2 the byte in the middle", faultOfLong(8, 0x4E31_4B30_B14B_3132L), 4);
    }

    private static int faultOfLong(int n, long v) {
        UnsoldAtEleven x = new UnsoldAtEleven();
        x.write(n, v);
        return x.fault();
    }

    private static void writeTakesTheLowestHighestFirst() {
        String[] whole = {"", "N", "N1", "", "", "N3K07", "", "N2W1239", "N1K05K16"};
        for (int n = 1; n <= 8; n++) {
            String text = whole[n].isEmpty() ? "N1K0".substring(0, Math.min(n, 4)) : whole[n];
            text = n == 6 ? "N1K01K" : text;
            long v = 0;
            for (int i = 0; i < n; i++) {
                v = v << 8 | text.charAt(i);
            }
            long above = n == 8 ? 0 : -1L << 8 * n;
            int want = whole[n].isEmpty() || n == 1 ? n : -9;
            DUE.of("2 " + n + " lowest, none above", faultOfLong(n, v), want);
            DUE.of("2 " + n + " lowest, all above", faultOfLong(n, v | above), want);
        }
        DUE.of("2 the other way round", faultOfLong(2, '1' << 8 | 'N'), 0);
    }

    private static UnsoldAtEleven ofLength(int length) {
        UnsoldAtEleven x = new UnsoldAtEleven();
        Due.write(x, Edges.WHOLE.substring(0, length));
        return x;
    }

    private static void textIsSixtyFourAtMost() {
        for (int length = 0; length <= 64; length++) {
            int had = length;
            for (int n = 1; n <= 8; n++) {
                int bytes = n;
                if (length + n <= 64) {
                    EDGES.taken("2 " + n + " behind " + length, () -> ofLength(had), x -> x.write(bytes, 0), length + n);
                } else {
                    EDGES.refused("2 " + n + " behind " + length, () -> ofLength(had), x -> x.write(bytes, 0), -4);
                }
            }
        }
        DUE.of("2 all 64 are read", ofLength(64).fault(), -9);
        UnsoldAtEleven x = ofLength(63);
        DUE.of("2 two don't come", x.write(2, '9' << 8 | '9'), -4);
        DUE.of("2 nor the first of them", x.fault(), 63);
        DUE.of("2 one comes", x.write(1, '8'), 64);
        DUE.of("2 it stands", x.town(), 17);
        DUE.of("2 it is the last", x.wants(2, 0, 1), 8);
    }

    private static void writeRefusesOutsideAheadOfFull() {
        EDGES.first("2 write", Edges::full, new int[] {1}, new int[][] {{0, 9, -1, Integer.MIN_VALUE, Integer.MAX_VALUE}},
                new int[] {-2}, -4, (x, of) -> x.write(of[0], 0));
    }

    private static void wipeOfNothingAndOfAll() {
        UnsoldAtEleven x = new UnsoldAtEleven();
        DUE.of("3 of nothing", x.wipe(), 0);
        DUE.of("3 still nothing", x.count(0), 0);
        UnsoldAtEleven full = ofLength(64);
        DUE.of("3 of all", full.wipe(), 64);
        DUE.of("3 nothing is left", full.count(0), 0);
        DUE.of("3 the fault of nothing", full.fault(), 0);
        Due.write(full, Edges.WHOLE);
        DUE.of("3 all 64 again", full.count(0), 64);
        DUE.of("3 it stands", full.town(), 17);
        UnsoldAtEleven told = Edges.full();
        told.wipe();
        DUE.of("3 seen stays", told.count(1), 8);
        DUE.of("3 orders stay", told.count(2), 6);
        DUE.of("3 kept stays", told.again(0), 13);
    }

    private static void fault(String text, int place) {
        DUE.of("4 fault of " + text, Due.faultOf(text), place);
    }

    private static void faultOfEmptyText() {
        fault("", 0);
        DUE.of("4 of a text that was wiped", wiped().fault(), 0);
    }

    private static UnsoldAtEleven wiped() {
        UnsoldAtEleven x = Due.townOf("N1");
        x.wipe();
        return x;
    }

    /** Behind a start, the signs next to the figures that can stand there, and a byte at either end. */
    private static void figures(String start, int least, int most, String behind) {
        for (int figure = least; figure <= most; figure++) {
            fault(start + figure + behind, -9);
        }
        char[] wrong = {(char) ('0' + least - 1), (char) ('0' + most + 1), 0, 255, '/', ':', ' ', 'N'};
        for (char sign : wrong) {
            fault(start + sign + behind, start.length());
        }
    }

    private static void faultOfCorners() {
        figures("N", 1, 3, "");
        fault("K01", 0);
        fault("\0", 0);
        fault("\u00ff", 0);
        fault("M1", 0);
        fault("O1", 0);
    }

    private static void faultOfShares() {
        figures("N1K", 0, 2, "1");
        figures("N1K0", 1, 9, "");
        figures("N1K2", 1, 9, "");
    }

    private static void faultOfWants() {
        for (int n = 1; n <= 3; n++) {
            figures("N" + n + "W", 0, n - 1, "000");
            figures("N" + n + "W" + (n - 1), 0, 2, "00");
            figures("N" + n + "W" + (n - 1) + "2", 0, 3, "0");
            figures("N" + n + "W" + (n - 1) + "23", 0, 9, "");
        }
    }

    private static void faultOfGoingOn() {
        fault("N1G", 2);
        fault("N1G0", 2);
        figures("N2G0", 1, 1, "");
        figures("N2G1", 0, 0, "");
        figures("N3G0", 1, 2, "");
        figures("N3G2", 0, 1, "");
        fault("N3G10", -9);
        fault("N3G11", 4);
        fault("N3G12", -9);
        fault("N3G13", 4);
        fault("N3G1/", 4);
        fault("N2G2", 3);
        fault("N2G/", 3);
        fault("N3G3", 3);
        fault("N3G/", 3);
    }

    private static void faultOfPrices() {
        for (String letter : new String[] {"C", "P", "R"}) {
            figures("N1" + letter, 0, 9, "0");
            figures("N1" + letter + "9", 0, 9, "");
            fault("N1" + letter, 3);
            fault("N1" + letter + "0", 4);
            fault("N1" + letter + "000", 5);
        }
    }

    private static void faultAtMostOnce() {
        // Where nothing is left that a letter, a corner or a kind could tell, it is the fault itself.
        fault("N1K11K21K", 9);
        fault("N1K11K21K0", 10);
        fault("N1K11K21K1", 9);
        fault("N1K01K11K21K0", 11);
        fault("N2W1000W1100W1200W", 18);
        fault("N2W1000W1100W1200W1", 18);
        fault("N2W1000W1100W1200W0", 19);
        fault("N2W1000W1100W00", 15);
        fault("N1W0000W0100W0200W", 17);
        fault("N1W0000W0100W", 13);
        fault("N1W0000W0100W02", 15);
        fault("N2G10G", 6);
        fault("N2G10G0", 7);
        fault("N2G10G1", 6);
        fault("N2G10G01G", 8);
        fault("N1K01K01", 6);
        fault("N1K01K02", 6);
        fault("N1K01K11K21K", 11);
        fault("N1W0000W0000", 9);
        fault("N2W0000W1000", -9);
        fault("N2W0000W0100", -9);
        fault("N2G01G01", 6);
        fault("N3G01G02", 6);
        fault("N3G01G10G20G", 11);
        fault("N1C10C10", 5);
        fault("N1P10R10C10P", 11);
        fault("N1N1", 2);
        fault("N1K01N1", 5);
    }

    private static void faultIfOnlyNotAtItsEnd() {
        String ends = " 2 5 8 11 14 17 20 23 26 29 34 39 44 49 54 59 64 ";
        for (int length = 0; length <= 64; length++) {
            DUE.of("4 the first " + length, ofLength(length).fault(), ends.contains(" " + length + " ") ? -9 : length);
        }
    }

    private static void faultSetsLengthAside() {
        // Behind 63 bytes that can go on, the 64th begins a part that has no room: it is not at its end, no more.
        String text = "N3K02K13K25G01G12G20C12P25W0015W0113W0217W1020W1120W1225W2009";
        fault(text, -9);
        fault(text + "R0", 63);
        fault(text + "R04", -9);
        fault(text + "W20", 63);
        fault(text + "W21", 64);
        DUE.of("4 64 bytes", (text + "W21").length(), 64);
    }

    private static void faultAtTheLastByte() {
        for (char sign : new char[] {0, '/', ':', 'N', 255}) {
            UnsoldAtEleven x = ofLength(63);
            x.write(1, sign);
            DUE.of("4 the last byte", x.fault(), 63);
            DUE.of("5 it is no town", x.town(), -3);
        }
    }

    private static void faultNeedsNoTown() {
        UnsoldAtEleven x = Edges.full();
        DUE.of("4 none", x.fault(), -9);
        x.wipe();
        Due.write(x, "N1W0");
        DUE.of("4 not at its end", x.fault(), 4);
        DUE.of("4 the town is as it was", x.about(0), 3);
        DUE.of("4 also what comes there", x.wants(2, 0, 1), 9);
        DUE.of("4 seen stays", x.count(1), 8);
        UnsoldAtEleven other = Edges.full();
        UnsoldAtEleven asked = Edges.full();
        asked.fault();
        String unlike = Asked.unlike(Asked.of(other), Asked.of(asked));
        DUE.of("4 nothing is changed: " + unlike, unlike == null ? 0 : 1, 0);
    }

    private static void townRefusesAFault() {
        EDGES.refused("5 empty", UnsoldAtEleven::new, x -> x.town(), -3);
        EDGES.refused("5 empty", TownEdgesTest::wiped, x -> x.town(), -3);
        EDGES.refused("5 not at its end", Edges::broken, x -> x.town(), -3);
        for (int length = 0; length <= 64; length++) {
            int some = length;
            int fault = ofLength(length).fault();
            if (fault != -9) {
                EDGES.refused("5 the first " + length, () -> ofLength(some), x -> x.town(), -3);
            }
        }
        EDGES.refused("5 the last byte is one too many", () -> written("N1K01X"), x -> x.town(), -3);
        EDGES.refused("5 the first byte", () -> written("XN1"), x -> x.town(), -3);
    }

    private static UnsoldAtEleven written(String text) {
        UnsoldAtEleven x = Due.townOf("N2K09");
        x.wipe();
        Due.write(x, text);
        return x;
    }

    private static void townOfAllParts() {
        EDGES.taken("5 one part", () -> written("N1"), x -> x.town(), 1);
        EDGES.taken("5 seventeen parts", () -> ofLength(64), x -> x.town(), 17);
        UnsoldAtEleven x = ofLength(64);
        DUE.of("5 it stays", x.town(), 17);
        DUE.of("5 it stays", x.count(0), 64);
        DUE.of("5 it stays", x.town(), 17);
    }

    private static void townLosesWhatWas() {
        UnsoldAtEleven x = Edges.full();
        DUE.of("5 the same text", x.town(), 17);
        DUE.of("5 again(0)", x.again(0), -3);
        String unlike = Asked.unlike(Asked.of(Due.townOf(Edges.WHOLE)), Asked.of(x));
        DUE.of("5 as if it were new: " + unlike, unlike == null ? 0 : 1, 0);
        towns();
        // What was told of corner 2 does not come back with it.
        UnsoldAtEleven less = Edges.full();
        less.wipe();
        Due.write(less, "N1");
        less.town();
        DUE.of("5 papers of corners that are gone", less.count(3), 0);
        less.wipe();
        Due.write(less, "N3");
        less.town();
        DUE.of("5 papers of corner 2", less.gives(2, 0), 0);
        DUE.of("5 bits of corner 2", less.more(2, 0), 0);
        DUE.of("5 habit of corner 2", less.habit(2), 5);
        DUE.of("5 kind", less.day(0), 0);
        DUE.of("5 kept", less.again(0), -3);
    }

    /** What is not told is as at first in every new town, whichever towns and faults were read before. */
    private static void towns() {
        UnsoldAtEleven x = new UnsoldAtEleven();
        String[] texts = {Edges.WHOLE, "N2W0039W1239K29G10P99X", "N3", Edges.WHOLE, Edges.WHOLE, "N1", "N3C99G01", "N2", "N3"};
        int[] parts = {17, -3, 1, 17, 17, 1, 3, 1, 1};
        for (int i = 0; i < texts.length; i++) {
            x.wipe();
            Due.write(x, texts[i]);
            DUE.of("5 town " + texts[i], x.town(), parts[i]);
            if (parts[i] == 1) {
                String unlike = Asked.unlike(Asked.of(Due.townOf(texts[i])), Asked.of(sameTowns(texts, i)));
                DUE.of("5 as if " + texts[i] + " were the first: " + unlike, unlike == null ? 0 : 1, 0);
            }
        }
    }

    private static UnsoldAtEleven sameTowns(String[] texts, int last) {
        UnsoldAtEleven x = new UnsoldAtEleven();
        for (int i = 0; i <= last; i++) {
            x.wipe();
            Due.write(x, texts[i]);
            x.town();
        }
        return x;
    }

    private static void wantsRefuses() {
        EDGES.corners("6 wants", -1, (x, corner) -> x.wants(corner, 0, 0));
        EDGES.range("6 wants, kind", Edges::full, 0, 2, -1, (x, kind) -> x.wants(2, kind, 1));
        EDGES.range("6 wants, what", Edges::full, 0, 1, -2, (x, what) -> x.wants(0, 2, what));
        EDGES.first("6 wants", Edges::full, new int[] {2, 2, 1}, new int[][] {{3, -1}, {3, -1}, {2, -1}},
                new int[] {-1, -1, -2}, 0, (x, of) -> x.wants(of[0], of[1], of[2]));
    }

    private static void wantsOfLeastAndMost() {
        UnsoldAtEleven x = Due.townOf("N3W0000W2239");
        DUE.of("6 b 0", x.wants(0, 0, 0), 0);
        DUE.of("6 x 0", x.wants(0, 0, 1), 0);
        DUE.of("6 b 3", x.wants(2, 2, 0), 3);
        DUE.of("6 x 9", x.wants(2, 2, 1), 9);
        DUE.of("6 else b 1", x.wants(2, 1, 0), 1);
        DUE.of("6 else x 5", x.wants(1, 2, 1), 5);
    }

    private static void aboutRefuses() {
        EDGES.range("7 about", Edges::full, 0, 9, -2, (x, what) -> x.about(what));
        EDGES.range("7 about", () -> Due.townOf("N3"), 0, 9, -2, (x, what) -> x.about(what));
    }

    private static void aboutOfLeastAndMost() {
        int[] least = {1, 1, 1, 1, 0, 0, 0, -9, -1, -1};
        int[] most = {3, 9, 9, 9, 99, 99, 99, 2, 2, 1};
        int[] else_ = {3, 1, 1, 1, 10, 20, 5, -9, -9, -9};
        UnsoldAtEleven x = Due.townOf("N1K01K11K21C00P00R00");
        UnsoldAtEleven y = Due.townOf("N3K09K19K29C99P99R99G02G12G21");
        UnsoldAtEleven z = Due.townOf("N3");
        for (int what = 0; what <= 9; what++) {
            DUE.of("7 least about(" + what + ")", x.about(what), least[what]);
            DUE.of("7 most about(" + what + ")", y.about(what), most[what]);
            DUE.of("7 else about(" + what + ")", z.about(what), else_[what]);
        }
    }

    private static void aboutOfCornersThatAreNot() {
        int[][] due = {{-9, -1, -1}, {-9, -9, -1}, {-9, -9, -9}};
        for (int n = 1; n <= 3; n++) {
            for (int corner = 0; corner < 3; corner++) {
                DUE.of("7 N" + n + " about " + (7 + corner), Due.townOf("N" + n).about(7 + corner), due[n - 1][corner]);
            }
        }
        // A new town of fewer corners: who went on from the ones that are gone does no more.
        UnsoldAtEleven x = Due.townOf("N3G01G12G20");
        x.wipe();
        Due.write(x, "N2");
        x.town();
        DUE.of("7 from 0", x.about(7), -9);
        DUE.of("7 from 1", x.about(8), -9);
        DUE.of("7 no corner 2", x.about(9), -1);
    }
}
